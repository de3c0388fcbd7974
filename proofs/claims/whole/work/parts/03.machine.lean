/-! THE PURE PICTURE: memory as functions over cell numbers; a cell's address is ad of its number -/
abbrev pm_M : Type := List (Nat × Nat) × (Nat → Nat → Int32) × (Nat → Nat → Int64) × (Nat → Nat → Option Nat) × List (Nat × Nat × (Nat → Int32))
abbrev pm_I : Type := Nat × Nat × Instr × List Nat × Int
abbrev pm_C : Type := String × MethodName × ByteArray × Nat × Option FieldType × Nat × Nat × List pm_I
abbrev cdO (c : pm_C) : String := c.1
abbrev cdY (c : pm_C) : MethodName := c.2.1
abbrev cdB (c : pm_C) : ByteArray := c.2.2.1
abbrev cdL (c : pm_C) : Nat := c.2.2.2.1
abbrev cdR (c : pm_C) : Option FieldType := c.2.2.2.2.1
abbrev cdP (c : pm_C) : Nat := c.2.2.2.2.2.1
abbrev cdN (c : pm_C) : Nat := c.2.2.2.2.2.2.1
abbrev cdE (c : pm_C) : List pm_I := c.2.2.2.2.2.2.2
def pv (ad : Nat → Nat) : Value → Value
  | .ref k => .ref (ad k)
  | v => v
def p_fv (ty : FieldType) (ad : Nat → Nat) (i : Int32) (j : Int64) (r : Option Nat) : Value := match ty with
  | .int => .int i
  | .boolean => .int i
  | .long => .long j
  | _ => va_rf (r.map ad)
def p_cel (aC : Nat → ClassId) (ad : Nat → Nat) (S : pm_M) (k : Nat) : va_E := match S.1[k]? with
  | none => .inr (0, [])
  | some (t, n) =>
    if t < 100 then .inr (t, (List.range n).map (fun j => p_fv (tyC t j) ad (S.2.1 k j) (S.2.2.1 k j) (S.2.2.2.1 k j)))
    else if t = 101 then .inl (aC 1, n, .inr (.inl (S.2.2.1 k)))
    else if t = 104 then .inl (aC 4, n, .inr (.inr (.inr (.inr (fun i => (S.2.2.2.1 k i).map ad)))))
    else .inl (aC (t - 100), n, .inl (S.2.1 k))
def p_wd (aC : Nat → ClassId) (ad : Nat → Nat) (S : pm_M) : va_W := (List.range S.1.length).map (fun k => (ad k, p_cel aC ad S k))
theorem p_wd_at {aC : Nat → ClassId} {ad : Nat → Nat} {S : pm_M} {k : Nat} (h : k < S.1.length) : (p_wd aC ad S)[k]? = some (ad k, p_cel aC ad S k) := by
  simp [p_wd, h]
theorem p_wd_len {aC : Nat → ClassId} {ad : Nat → Nat} {S : pm_M} : (p_wd aC ad S).length = S.1.length := by
  simp [p_wd]
theorem p_wd_set {aC : Nat → ClassId} {ad : Nat → Nat} {S S' : pm_M} {k : Nat} (hl : S'.1.length = S.1.length) (hk : ∀ j, j ≠ k → p_cel aC ad S' j = p_cel aC ad S j) : (p_wd aC ad S).set k (ad k, p_cel aC ad S' k) = p_wd aC ad S' := by
  apply List.ext_getElem?
  intro j
  by_cases hlt : j < S.1.length
  · rw [p_wd_at (S := S') (by rw [hl]; exact hlt)]
    by_cases hj : j = k
    · subst hj
      rw [List.getElem?_set_self (by rw [p_wd_len]; exact hlt)]
    · rw [List.getElem?_set_ne (fun e => hj e.symm), p_wd_at hlt, hk j hj]
  · rw [List.getElem?_eq_none (by rw [List.length_set, p_wd_len]; omega), List.getElem?_eq_none (by rw [p_wd_len, hl]; omega)]
theorem p_cel_o {aC : Nat → ClassId} {ad : Nat → Nat} {S : pm_M} {k t n : Nat} (h : S.1[k]? = some (t, n)) (ht : t < 100) : p_cel aC ad S k = .inr (t, (List.range n).map (fun j => p_fv (tyC t j) ad (S.2.1 k j) (S.2.2.1 k j) (S.2.2.2.1 k j))) := by
  simp [p_cel, h, ht]
theorem p_cel_i {aC : Nat → ClassId} {ad : Nat → Nat} {S : pm_M} {k t n : Nat} (h : S.1[k]? = some (t, n)) (ht : 100 ≤ t) (h1 : t ≠ 101) (h4 : t ≠ 104) : p_cel aC ad S k = .inl (aC (t - 100), n, .inl (S.2.1 k)) := by
  simp [p_cel, h, Nat.not_lt.mpr ht, h1, h4]
theorem p_cel_l {aC : Nat → ClassId} {ad : Nat → Nat} {S : pm_M} {k n : Nat} (h : S.1[k]? = some (101, n)) : p_cel aC ad S k = .inl (aC 1, n, .inr (.inl (S.2.2.1 k))) := by
  simp [p_cel, h]
theorem p_cel_q {aC : Nat → ClassId} {ad : Nat → Nat} {S : pm_M} {k n : Nat} (h : S.1[k]? = some (104, n)) : p_cel aC ad S k = .inl (aC 4, n, .inr (.inr (.inr (.inr (fun i => (S.2.2.2.1 k i).map ad))))) := by
  simp [p_cel, h]
theorem p_lt {α : Type} {l : List α} {k : Nat} {x : α} (h : l[k]? = some x) : k < l.length := (List.getElem?_eq_some_iff.mp h).1
def p_tys (aC : Nat → ClassId) : List (ClassId × FieldType) := [(aC 0, .int), (aC 1, .long), (aC 2, .byte), (aC 3, .short), (aC 4, .object "SwitchboardHeart$Shelf")]
/-! locals -/
def p_lv (ad : Nat → Nat) (mls : Array Slot) (nL : Nat) (ls : List (Option Value)) : Prop := mls.size = nL ∧ lv_wf mls ∧ ls.length = nL ∧ ∀ (i : Nat) (v : Value), ls[i]? = some (some v) → mls[i]? = some (.val (pv ad v))
def p_al (ad : Nat → Nat) (ls : List (Option Value)) : List (Nat × Value) := (List.range ls.length).filterMap fun i => match ls[i]? with
  | some (some v) => some (i, pv ad v)
  | _ => none
theorem p_al_mem {ad : Nat → Nat} {ls : List (Option Value)} {q : Nat × Value} : q ∈ p_al ad ls ↔ ∃ v, ls[q.1]? = some (some v) ∧ q.2 = pv ad v := by
  constructor
  · intro h
    obtain ⟨i, -, hi⟩ := List.mem_filterMap.mp h
    split at hi
    · rename_i v hv
      cases hi
      exact ⟨v, hv, rfl⟩
    · cases hi
  · rintro ⟨v, h1, h2⟩
    refine List.mem_filterMap.mpr ⟨q.1, List.mem_range.mpr (p_lt h1), ?_⟩
    rw [h1]
    simp [← h2]
theorem p_lv_has {ad : Nat → Nat} {mls : Array Slot} {nL : Nat} {ls : List (Option Value)} (h : p_lv ad mls nL ls) : lv_has mls nL (p_al ad ls) := by
  refine ⟨h.1, h.2.1, fun q hq => ?_⟩
  obtain ⟨v, h1, h2⟩ := p_al_mem.mp hq
  rw [h2]
  exact h.2.2.2 _ _ h1
theorem pv_cat {ad : Nat → Nat} {v : Value} : (pv ad v).category = v.category := by
  cases v <;> rfl
def p_S1 (ls : List (Option Value)) (i : Nat) (v : Value) (ls' : List (Option Value)) : Prop := ls'.length = ls.length ∧ ∀ (j : Nat) (u : Value), ls'[j]? = some (some u) → (j = i ∧ u = v) ∨ (j ≠ i ∧ ls[j]? = some (some u) ∧ (j + 1 = i → u.category ≠ 2))
def p_S2 (ls : List (Option Value)) (i : Nat) (v : Value) (ls' : List (Option Value)) : Prop := ls'.length = ls.length ∧ ∀ (j : Nat) (u : Value), ls'[j]? = some (some u) → (j = i ∧ u = v) ∨ (j ≠ i ∧ j ≠ i + 1 ∧ ls[j]? = some (some u) ∧ (j + 1 = i → u.category ≠ 2))
theorem p_lv_st1 {ad : Nat → Nat} {mls mls' : Array Slot} {nL i : Nat} {ls ls' : List (Option Value)} {v : Value} (h : p_lv ad mls nL ls) (hs : p_S1 ls i v ls') (hh : lv_has mls' nL ((i, pv ad v) :: (p_al ad ls).filter (fun q => !(q.1 == i) && !(q.1 + 1 == i && q.2.category == 2)))) : p_lv ad mls' nL ls' := by
  refine ⟨hh.1, hh.2.1, hs.1.trans h.2.2.1, fun j u hj => ?_⟩
  rcases hs.2 j u hj with ⟨rfl, rfl⟩ | ⟨h1, h2, h3⟩
  · exact hh.2.2 (j, pv ad u) List.mem_cons_self
  · refine hh.2.2 (j, pv ad u) (List.mem_cons_of_mem _ (List.mem_filter.mpr ⟨p_al_mem.mpr ⟨u, h2, rfl⟩, ?_⟩))
    simp only [Bool.and_eq_true, Bool.not_eq_true', beq_eq_false_iff_ne, ne_eq, Bool.and_eq_false_iff]
    refine ⟨h1, ?_⟩
    by_cases e : j + 1 = i
    · exact Or.inr (by rw [pv_cat]; exact h3 e)
    · exact Or.inl e
theorem p_lv_st2 {ad : Nat → Nat} {mls mls' : Array Slot} {nL i : Nat} {ls ls' : List (Option Value)} {v : Value} (h : p_lv ad mls nL ls) (hs : p_S2 ls i v ls') (hh : lv_has mls' nL ((i, pv ad v) :: (p_al ad ls).filter (fun q => !(q.1 == i) && (!(q.1 == i + 1) && !(q.1 + 1 == i && q.2.category == 2))))) : p_lv ad mls' nL ls' := by
  refine ⟨hh.1, hh.2.1, hs.1.trans h.2.2.1, fun j u hj => ?_⟩
  rcases hs.2 j u hj with ⟨rfl, rfl⟩ | ⟨h1, h1', h2, h3⟩
  · exact hh.2.2 (j, pv ad u) List.mem_cons_self
  · refine hh.2.2 (j, pv ad u) (List.mem_cons_of_mem _ (List.mem_filter.mpr ⟨p_al_mem.mpr ⟨u, h2, rfl⟩, ?_⟩))
    simp only [Bool.and_eq_true, Bool.not_eq_true', beq_eq_false_iff_ne, ne_eq, Bool.and_eq_false_iff]
    refine ⟨h1, h1', ?_⟩
    by_cases e : j + 1 = i
    · exact Or.inr (by rw [pv_cat]; exact h3 e)
    · exact Or.inl e
def p_isl (a : Option Value) : Bool := match a with
  | some (.long _) => true
  | some (.double _) => true
  | _ => false
theorem p_isl_c {u : Value} (h : p_isl (some u) = false) : u.category ≠ 2 := by
  cases u <;> simp_all [p_isl, Value.category]
theorem p_S1_of (pre t : List (Option Value)) (o : Option Value) (v : Value) (hl : ∀ a, pre.getLast? = some a → p_isl a = false) : p_S1 (pre ++ o :: t) pre.length v (pre ++ some v :: t) := by
  refine ⟨by simp, fun j u hj => ?_⟩
  rcases Nat.lt_trichotomy j pre.length with h | h | h
  · rw [List.getElem?_append_left h] at hj
    refine Or.inr ⟨by omega, by rw [List.getElem?_append_left h]; exact hj, fun e => p_isl_c (hl _ ?_)⟩
    rw [List.getLast?_eq_getElem?, show pre.length - 1 = j by omega]
    exact hj
  · subst h
    rw [List.getElem?_append_right (Nat.le_refl _), Nat.sub_self] at hj
    cases hj
    exact Or.inl ⟨rfl, rfl⟩
  · obtain ⟨k, hk⟩ : ∃ k, j - pre.length = k + 1 := ⟨j - pre.length - 1, by omega⟩
    rw [List.getElem?_append_right (by omega), hk] at hj
    refine Or.inr ⟨by omega, ?_, fun e => by omega⟩
    rw [List.getElem?_append_right (by omega), hk]
    exact hj
theorem p_S2_of (pre t : List (Option Value)) (o o2 : Option Value) (v : Value) (hl : ∀ a, pre.getLast? = some a → p_isl a = false) : p_S2 (pre ++ o :: o2 :: t) pre.length v (pre ++ some v :: none :: t) := by
  refine ⟨by simp, fun j u hj => ?_⟩
  rcases Nat.lt_trichotomy j pre.length with h | h | h
  · rw [List.getElem?_append_left h] at hj
    refine Or.inr ⟨by omega, by omega, by rw [List.getElem?_append_left h]; exact hj, fun e => p_isl_c (hl _ ?_)⟩
    rw [List.getLast?_eq_getElem?, show pre.length - 1 = j by omega]
    exact hj
  · subst h
    rw [List.getElem?_append_right (Nat.le_refl _), Nat.sub_self] at hj
    cases hj
    exact Or.inl ⟨rfl, rfl⟩
  · obtain ⟨k, hk⟩ : ∃ k, j - pre.length = k + 1 := ⟨j - pre.length - 1, by omega⟩
    rw [List.getElem?_append_right (by omega), hk] at hj
    cases k with
    | zero => cases hj
    | succ k =>
      refine Or.inr ⟨by omega, by omega, ?_, fun e => by omega⟩
      rw [List.getElem?_append_right (by omega), hk]
      exact hj
/-! references that are there -/
def p_ok (n r : Nat) : Prop := r < n ∨ 1000 ≤ r
def p_ws (n : Nat) (st : List Value) : Prop := ∀ r, Value.ref r ∈ st → p_ok n r
def p_wl (n : Nat) (ls : List (Option Value)) : Prop := ∀ r, some (Value.ref r) ∈ ls → p_ok n r
theorem p_ws_t {n : Nat} {v : Value} {st : List Value} (h : p_ws n (v :: st)) : p_ws n st := fun r hr => h r (List.mem_cons_of_mem _ hr)
theorem p_ws_c {n : Nat} {v : Value} {st : List Value} (hv : ∀ r, v = .ref r → p_ok n r) (h : p_ws n st) : p_ws n (v :: st) := by
  intro r hr
  rcases List.mem_cons.mp hr with e | e
  · exact hv r e.symm
  · exact h r e
theorem p_ws_i {n : Nat} {x : Int32} {st : List Value} (h : p_ws n st) : p_ws n (.int x :: st) := p_ws_c (fun _ e => by cases e) h
theorem p_ws_l {n : Nat} {x : Int64} {st : List Value} (h : p_ws n st) : p_ws n (.long x :: st) := p_ws_c (fun _ e => by cases e) h
theorem p_ws_n {n : Nat} {st : List Value} (h : p_ws n st) : p_ws n (.null :: st) := p_ws_c (fun _ e => by cases e) h
theorem p_ws_h {n : Nat} {v : Value} {st : List Value} (h : p_ws n (v :: st)) : ∀ r, v = .ref r → p_ok n r := fun r e => h r (by rw [e]; exact List.mem_cons_self)
theorem p_wl_s {n i : Nat} {ls ls' : List (Option Value)} {v : Value} (h : p_wl n ls) (hs : p_S1 ls i v ls') (hv : ∀ r, v = .ref r → p_ok n r) : p_wl n ls' := by
  intro r hr
  obtain ⟨j, hj⟩ := List.getElem?_of_mem hr
  rcases hs.2 j _ hj with ⟨-, e⟩ | ⟨-, e, -⟩
  · exact hv r e.symm
  · exact h r (List.mem_of_getElem? e)
theorem p_wl_s2 {n i : Nat} {ls ls' : List (Option Value)} {v : Value} (h : p_wl n ls) (hs : p_S2 ls i v ls') (hv : ∀ r, v = .ref r → p_ok n r) : p_wl n ls' := by
  intro r hr
  obtain ⟨j, hj⟩ := List.getElem?_of_mem hr
  rcases hs.2 j _ hj with ⟨-, e⟩ | ⟨-, -, e, -⟩
  · exact hv r e.symm
  · exact h r (List.mem_of_getElem? e)
