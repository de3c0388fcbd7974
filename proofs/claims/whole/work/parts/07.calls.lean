/-! CALLS -/
theorem p_goodIn {y : MethodName} {b : ByteArray} {n : Nat} {r : Option FieldType} (h : Cond.code y b n r ∈ lw_good) : GoodIn lw_good (Cond.code y b n r :: lw_good) := by
  intro w hw
  have h1 : w ∈ lw_good := by
    rcases List.mem_cons.mp hw with e | e
    · rw [e]; exact h
    · exact e
  exact ⟨h1, good_of_word (List.mem_filter.mp h1).2⟩
def p_Bk (D : va_G) (aC : Nat → ClassId) (A : Nat → Prop) (ad : Nat → Nat) (S : pm_M) (U : State) : Prop :=
  va_P D vwCl (p_wd aC ad S) U.heap ∧ va_K D vwCl (p_tys aC) U ∧ va_D A (p_wd aC ad S) ∧ p_Ro ad A U S ∧ p_Wf S ∧ (∀ q, U.heap.size ≤ q → A q) ∧ p_Ns U
def p_Pc (D : va_G) (aC : Nat → ClassId) (A : Nat → Prop) (ad : Nat → Nat) (vs : List Value) (S : pm_M) : Array Value → State → Prop := fun a U => a = (vs.map (pv ad)).toArray ∧ p_Bk D aC A ad S U
def p_Af (D : va_G) (aC : Nat → ClassId) (A : Nat → Prop) (ad : Nat → Nat) (S : pm_M) (ad' : Nat → Nat) (S' : pm_M) (H : Heap) : Prop :=
  va_P D vwCl (p_wd aC ad' S') H ∧ va_D A (p_wd aC ad' S') ∧ p_Wf S' ∧ S.1.length ≤ S'.1.length ∧ S'.2.2.2.2 = S.2.2.2.2 ∧ ∀ k, p_ok S.1.length k → ad' k = ad k
def p_Qc (D : va_G) (aC : Nat → ClassId) (A : Nat → Prop) (ad : Nat → Nat) (S : pm_M) (cd : pm_C) (Q : Option Value → pm_M → Prop) : State → Outcome → State → Prop := fun st oc t =>
  (∃ (r : Option Value) (S' : pm_M) (ad' : Nat → Nat), oc = .returned (r.map (pv ad')) ∧ p_rf (cdR cd) r ∧ Q r S' ∧ p_Af D aC A ad S ad' S' t.heap) ∧ va_F A st t
theorem p_Ns_alike {u U : State} (h : p_Ns u) (hW : u.WarmedH U.vm) : p_Ns U := ⟨va_Nw.warmM hW h.1, va_Nw.warmM hW h.2.1, va_Nw.warmM hW h.2.2.1, va_AO.moved hW.alike h.2.2.2⟩
theorem p_Ns_same {u U : State} (h : p_Ns u) (hW : u.vm = U.vm) : p_Ns U := ⟨va_Nw.same rfl hW h.1, va_Nw.same rfl hW h.2.1, va_Nw.same rfl hW h.2.2.1, va_AO.moved (by rw [hW]; exact Vm.Alike.refl _) h.2.2.2⟩
theorem p_Ro_moved {ad : Nat → Nat} {A : Nat → Prop} {u U : State} {S : pm_M} (h : p_Ro ad A u S) (hvm : u.vm.Alike U.vm) (hk : ∀ q : Nat, q < u.heap.size → ¬ A q → U.heap[q]? = u.heap[q]?) : p_Ro ad A U S :=
  ⟨fun t ht => ⟨((h.1 t ht).1.moved hvm).kept hk, (h.1 t ht).2⟩, (h.2.1.moved hvm).kept hk, (h.2.2.moved hvm).kept hk⟩
theorem p_Ro_re {ad ad' : Nat → Nat} {A : Nat → Prop} {u : State} {S S' : pm_M} (h : p_Ro ad A u S) (hro : S'.2.2.2.2 = S.2.2.2.2) (ha : ∀ k, 1000 ≤ k → ad' k = ad k) : p_Ro ad' A u S' := by
  refine ⟨fun t ht => ?_, by rw [ha _ (Nat.le_refl _)]; exact h.2.1, by rw [ha _ (by decide)]; exact h.2.2⟩
  rw [hro] at ht
  have h1 := h.1 t ht
  rw [ha _ h1.2.2]
  exact h1
theorem p_blind {D : va_G} {aC : Nat → ClassId} {A : Nat → Prop} {ad : Nat → Nat} {vs : List Value} {S : pm_M} : FrameBlind (p_Pc D aC A ad vs S) := by
  intro a U g mk h
  obtain ⟨h1, hP, hK, hD, hR, hW, hA, hN⟩ := h
  exact ⟨h1, hP, va_K.moved (u := U) (U := U.calling g mk a) (Vm.Alike.refl U.vm) hK, hD, p_Ro_moved (u := U) (U := U.calling g mk a) hR (Vm.Alike.refl U.vm) (fun _ _ _ => rfl), hW, hA, p_Ns_same (u := U) (U := U.calling g mk a) hN rfl⟩
theorem p_sl_map {ad : Nat → Nat} (vs : List Value) : lg_sl (vs.map (pv ad)) = vs.flatMap fun v => if v.category = 2 then [.val (pv ad v), .second] else [.val (pv ad v)] := by
  unfold lg_sl
  rw [List.flatMap_map]
  congr 1
  funext v
  rw [pv_cat]
theorem p_sl_len {ad : Nat → Nat} (vs : List Value) : (lg_sl (vs.map (pv ad))).length = (lg_sl vs).length := by
  rw [p_sl_map]
  unfold lg_sl
  induction vs with
  | nil => rfl
  | cons v t ih =>
    rw [List.flatMap_cons, List.flatMap_cons, List.length_append, List.length_append, ih]
    by_cases h : v.category = 2 <;> simp [h]
theorem p_en_at {ad : Nat → Nat} (vs : List Value) : ∀ (i : Nat) (v : Value), (vs.flatMap fun v => if v.category = 2 then [some v, none] else [some v])[i]? = some (some v) → (lg_sl (vs.map (pv ad)))[i]? = some (.val (pv ad v)) := by
  rw [p_sl_map]
  induction vs with
  | nil => intro i v h; cases h
  | cons u t ih =>
    intro i v h
    rw [List.flatMap_cons] at h ⊢
    by_cases hc : u.category = 2
    · simp only [hc, if_true] at h ⊢
      match i, h with
      | 0, h => simp only [List.cons_append, List.getElem?_cons_zero, Option.some.injEq] at h ⊢; rw [h]
      | 1, h => simp at h
      | i + 2, h => exact ih i v (by simpa using h)
    · simp only [hc, if_false] at h ⊢
      match i, h with
      | 0, h => simp only [List.cons_append, List.getElem?_cons_zero, Option.some.injEq] at h ⊢; rw [h]
      | i + 1, h => exact ih i v (by simpa using h)
theorem p_en_len (vs : List Value) : (vs.flatMap fun v => if v.category = 2 then [some v, none] else [some v]).length = (lg_sl vs).length := by
  unfold lg_sl
  induction vs with
  | nil => rfl
  | cons v t ih =>
    rw [List.flatMap_cons, List.flatMap_cons, List.length_append, List.length_append, ih]
    by_cases h : v.category = 2 <;> simp [h]
theorem p_en_mem {vs : List Value} {nL : Nat} {v : Value} (h : some v ∈ p_en nL vs) : v ∈ vs := by
  unfold p_en at h
  rcases List.mem_append.mp h with h | h
  · obtain ⟨u, hu, h⟩ := List.mem_flatMap.mp h
    by_cases hc : u.category = 2 <;> simp [hc] at h <;> (rw [h]; exact hu)
  · simp at h
theorem p_en_lv {ad : Nat → Nat} {vs : List Value} {nL : Nat} (h : (lg_sl vs).length ≤ nL) : p_lv ad (lg_sl (vs.map (pv ad)) ++ List.replicate (nL - (lg_sl (vs.map (pv ad))).length) Slot.unset).toArray nL (p_en nL vs) := by
  have h0 := lv_entry (vs.map (pv ad)) (n := nL) (by rw [p_sl_len]; exact h)
  refine ⟨h0.1, h0.2.1, by simp only [p_en, List.length_append, p_en_len, List.length_replicate]; omega, fun i v hi => ?_⟩
  unfold p_en at hi
  by_cases hlt : i < (vs.flatMap fun v => if v.category = 2 then [some v, none] else [some v]).length
  · rw [List.getElem?_append_left hlt] at hi
    have h1 := p_en_at (ad := ad) vs i v hi
    rw [List.getElem?_toArray, List.getElem?_append_left (p_lt h1)]
    exact h1
  · rw [List.getElem?_append_right (by omega)] at hi
    simp [List.getElem?_replicate] at hi
/-- a method's contract at the machine, out of its Pv -/
theorem p_met {d mc ms : Nat} {cd : pm_C} {vs : List Value} {S : pm_M} {Q : Option Value → pm_M → Prop} (h : Pv d mc ms cd vs S Q) (hvs : p_ws S.1.length vs) (l : Launch) (D : va_G) (aC : Nat → ClassId) (A : Nat → Prop) (ad : Nat → Nat) :
    Met l (cdY cd) (Cond.code (cdY cd) (cdB cd) (cdL cd) (cdR cd) :: lw_good) ({ frames := d + 1, cells := mc, slots := ms, locals := 40 * (d + 1) }) (p_Pc D aC A ad vs S) (fun _ => p_Qc D aC A ad S cd Q) mc ms A := by
  obtain ⟨hok, hlen, hx⟩ := h
  have hok' : p_okH cd = true ∧ p_okM cd = true := by
    have := hok
    simp only [p_okG, Bool.and_eq_true] at this
    exact this
  have hH := hok'.1
  simp only [p_okH, Bool.and_eq_true, decide_eq_true_eq] at hH
  refine Met.ofW (cc := cdB cd) (maxL := cdL cd) (ret := cdR cd) hH.1.1.1.1.1.1.1 rfl ?_
  intro p e s m args below meth c s₁ B hml hv
  obtain ⟨rfl, hP, hK, hD, hRo, hWf, hA, hNs⟩ := hv
  have hts := atoms_spec (ws := Cond.code (cdY cd) (cdB cd) (cdL cd) (cdR cd) :: lw_good) B.pre
  have hown : s.vm.findClass (cdO cd) = some m.cls := by
    have := findClass_of_methodNamed B.named
    rw [hH.1.1.1.1.1.1.2] at this
    exact this
  have hbc : (cdE cd)[0]?.map (·.1) = some 0 := hH.2
  rw [lg_entry_eq]
  refine hx hok'.2 p l e _ s m _ below meth c D aC A _ ⟨⟨B.exec, B.bytes, hml, hown, fun w hw => hts w (List.mem_cons_of_mem _ hw)⟩, B.returns, B.notSynchronized, (name_of_methodNamed B.named B.method).1, ⟨Nat.le_refl _, Nat.le_refl _⟩, hK, hA, hNs⟩ ad s.heap [] 0 0 _ 0 ⟨hP, hD, va_S.rf, hRo, hWf⟩ ⟨p_en_lv hlen, fun r hr => hvs r (p_en_mem hr), fun r hr => by cases hr⟩ hbc (by rw [Nat.zero_add]; exact Nat.le_refl _) (by rw [Nat.zero_add]; exact Nat.le_refl _) ?_
  intro r S' ad' H locs mls b hq hHx hn hro hag hdec hrf
  rw [Nat.zero_add, Nat.zero_add]
  have hq' : ∀ t : State, t.heap = H → p_Qc D aC A ad S cd Q s (.returned (r.map (pv ad'))) t := fun t ht => ⟨⟨r, S', ad', rfl, hrf, hq, by rw [ht]; exact hHx.1, hHx.2.1, hHx.2.2.2.2, hn, hro, hag⟩, hHx.2.2.1.F ht⟩
  match r, hrf, hq', hdec with
  | none, hrf, hq', hdec => exact W.vret B.exec B.bytes (B.returns.trans hrf) (fun t ht _ => hq' t ht) hHx.2.2.1.2.2 hdec B.notSynchronized
  | some (.int v), hrf, hq', hdec =>
    rcases hrf with e | ⟨e, h01⟩
    · exact W.iret B.exec B.bytes (B.returns.trans e) (fun t ht _ => hq' t ht) hHx.2.2.1.2.2 hdec B.notSynchronized
    · exact W.zret B.exec B.bytes (B.returns.trans e) (p_fitZ h01).1 (fun t ht _ => hq' t ht) hHx.2.2.1.2.2 hdec B.notSynchronized
  | some (.long v), hrf, hq', hdec => exact W.lret B.exec B.bytes (B.returns.trans hrf) (fun t ht _ => hq' t ht) hHx.2.2.1.2.2 hdec B.notSynchronized
theorem p_call {p : Program} {l : Launch} {e : Env} {R : Room} {s : State} {m : MethodId} {args : Array Value} {below : List Frame} {meth : Method} {c : Code} {H : Heap} {locs : List Loc} {cells slots mc ms : Nat} {Z : State → Prop} {pc : Nat} {ls : Array Slot} {rest st0 : List Value} {D : va_G} {aC : Nat → ClassId} {A : Nat → Prop} {ad : Nat → Nat} {S : pm_M} {cd : pm_C} {Q : Option Value → pm_M → Prop}
    (hr : va_Run p l e R s m args below meth c H locs cells slots mc ms (F0 m pc ls st0) rest (p_Qc D aC A ad S cd Q) A) (hS : va_S A s.heap H locs)
    (kk : ∀ (r : Option Value) (S' : pm_M) (ad' : Nat → Nat) (H1 : Heap) (locs1 : List Loc), p_rf (cdR cd) r → Q r S' → p_Af D aC A ad S ad' S' H1 → va_S A s.heap H1 locs1 → W p l e R s m args below meth c H1 locs1 (cells + mc) (slots + ms) Z (F0 m (pc + 3) ls ((r.map (pv ad')).toList ++ rest))) : W p l e R s m args below meth c H locs cells slots Z (F0 m pc ls st0) := by
  intro T hT X
  obtain ⟨v, st₀, t, T', L, h0, X', hL, e1, e2, ⟨⟨r, S', ad', hv, hrf, hq, hAf⟩, hz, hk⟩, st⟩ := hr T hT X
  cases hv
  rw [h0] at hz hk
  obtain ⟨t2, a1, b1⟩ := kk r S' ad' T'.heap (locs ++ L) hrf hq (by rw [e1]; exact hAf)
    ⟨Nat.le_trans hS.1 (by rw [e1]; exact hz), fun q h1 h2 => by rw [e1, hk q (Nat.lt_of_lt_of_le h1 hS.1) h2]; exact hS.2.1 q h1 h2, fun q hq => by
      rcases List.mem_append.mp hq with h | h
      · exact hS.2.2 q h
      · exact hL q h⟩ T' rfl X'
  exact ⟨t2, st t2 a1, b1⟩
theorem p_lv_re {ad ad' : Nat → Nat} {mls : Array Slot} {nL n : Nat} {ls : List (Option Value)} (h : p_lv ad mls nL ls) (hw : p_wl n ls) (ha : ∀ k, p_ok n k → ad' k = ad k) : p_lv ad' mls nL ls := by
  refine ⟨h.1, h.2.1, h.2.2.1, fun i v hi => ?_⟩
  rw [h.2.2.2 i v hi]
  cases v with
  | ref k => rw [pv, pv, ha k (hw k (List.mem_of_getElem? hi))]
  | _ => rfl
theorem p_st_re {ad ad' : Nat → Nat} {n : Nat} {st : List Value} (hw : p_ws n st) (ha : ∀ k, p_ok n k → ad' k = ad k) : st.map (pv ad') = st.map (pv ad) := by
  refine List.map_congr_left (fun v hv => ?_)
  cases v with
  | ref k => rw [pv, pv, ha k (hw k hv)]
  | _ => rfl
theorem p_ok_le {n n' r : Nat} (h : p_ok n r) (hn : n ≤ n') : p_ok n' r := h.elim (fun q => Or.inl (by omega)) Or.inr
theorem p_wl_le {n n' : Nat} {ls : List (Option Value)} (h : p_wl n ls) (hn : n ≤ n') : p_wl n' ls := fun r hr => p_ok_le (h r hr) hn
theorem p_ws_le {n n' : Nat} {st : List Value} (h : p_ws n st) (hn : n ≤ n') : p_ws n' st := fun r hr => p_ok_le (h r hr) hn
theorem p_rf_ws {n : Nat} {ret : Option FieldType} {r : Option Value} {st : List Value} (hr : p_rf ret r) (h : p_ws n st) : p_ws n (r.toList ++ st) := by
  match r, hr with
  | none, _ => exact h
  | some (.int v), _ => exact p_ws_i h
  | some (.long v), _ => exact p_ws_l h
theorem p_Cx_bk {d : Nat} {cd : pm_C} {p : Program} {R : Room} {s : State} {m : MethodId} {args : Array Value} {meth : Method} {c : Code} {D : va_G} {aC : Nat → ClassId} {A : Nat → Prop} (hC : p_Cx d cd p R s m args meth c D aC A) {ad : Nat → Nat} {S : pm_M} {H : Heap} {locs : List Loc} (hH : p_Hx D aC A s ad S H locs) {U : State} (hU : U.heap = H) (hW : s.WarmedH U.vm) : p_Bk D aC A ad S U := by
  refine ⟨by rw [hU]; exact hH.1, va_K.moved hW.alike hC.2.2.2.2.2.1, hH.2.1, p_Ro_moved hH.2.2.2.1 hW.alike (fun q h1 h2 => by rw [hU]; exact hH.2.2.1.2.1 q h1 h2), hH.2.2.2.2, fun q hq => hC.2.2.2.2.2.2.1 q (Nat.le_trans hH.2.2.1.1 (by rw [← hU]; exact hq)), p_Ns_alike hC.2.2.2.2.2.2.2 hW⟩
/-- what the callee's table says of it -/
theorem p_cee {cd : pm_C} (hok : p_okG cd = true) : (cdY cd).cls = cdO cd ∧ (cdY cd).cls ≠ "java/lang/invoke/MethodHandle" ∧ (cdY cd).cls ≠ "java/lang/invoke/VarHandle" ∧ (parseMethodDescriptor (cdY cd).desc).map (fun q => q.parameters.length) = some (cdN cd) ∧ Cond.code (cdY cd) (cdB cd) (cdL cd) (cdR cd) ∈ lw_good ∧ lw_tbl[cdP cd]? = some (Cond.code (cdY cd) (cdB cd) (cdL cd) (cdR cd)) ∧ cdL cd ≤ 21 := by
  simp only [p_okG, p_okH, Bool.and_eq_true, decide_eq_true_eq] at hok
  have h := hok.1
  refine ⟨h.1.1.1.1.1.1.2, h.1.1.1.1.1.2, h.1.1.1.1.2, h.1.1.1.2, p_has_in h.1.1.2, ?_, h.1.2⟩
  have h2 := h.1.1.2
  simp only [p_has, Bool.and_eq_true, decide_eq_true_eq] at h2
  exact h2.1
theorem p_inv_of {own : String} {idx pL pI pN : Nat} {st : Bool} {c2 : pm_C} (hok : p_okG c2 = true) (h : p_inv own idx pL pI pN (cdP c2) st = true) : Cond.methodLink own idx (cdY c2) ∈ lw_good ∧ (if st then Cond.static (cdY c2) else Cond.instanceMethod (cdY c2)) ∈ lw_good ∧ Cond.initialized (cdY c2).cls ∈ lw_good := by
  unfold p_inv at h
  rw [(p_cee hok).2.2.2.2.2.1] at h
  simp only [Bool.and_eq_true] at h
  exact ⟨p_has_in h.1.1, p_has_in h.1.2, p_has_in h.2⟩
theorem p_callB {d d1 mc1 ms1 : Nat} {cd c2 : pm_C} {own : String} {idx pL pI pN : Nat} {st : Bool} {p : Program} {R : Room} {s : State} {m : MethodId} {args : Array Value} {meth : Method} {c : Code} {D : va_G} {aC : Nat → ClassId} {A : Nat → Prop} (hC : p_Cx (d + 1) cd p R s m args meth c D aC A) (hd : d1 ≤ d) (ho : own = cdO cd) (hok : p_okG c2 = true) (h : p_inv own idx pL pI pN (cdP c2) st = true) :
    CallB R s args (cdO cd) idx (cdY c2) (cdB c2) (cdL c2) (cdR c2) (Cond.code (cdY c2) (cdB c2) (cdL c2) (cdR c2) :: lw_good) ({ frames := d1 + 1, cells := mc1, slots := ms1, locals := 40 * (d1 + 1) }) mc1 ms1 (cdN c2) := by
  subst ho
  obtain ⟨e1, e2, e3, e4, e5, e6, e7⟩ := p_cee hok
  obtain ⟨i1, i2, i3⟩ := p_inv_of hok h
  have hfr := hC.2.2.2.2.1
  exact callB_of (cdN c2) hC.1.2.2.2.2 (p_goodIn e5) rfl rfl rfl (hC.1.2.2.2.2 _ i3) (hC.1.2.2.2.2 _ i1) ⟨e2, e3, e4⟩ ⟨by have := hfr.1; show d1 + 1 + 1 ≤ _; omega, by have := hfr.2; show 8 + (cdL c2 + 11) + 40 * (d1 + 1) ≤ _; omega⟩
/-- what goes on behind a call -/
theorem p_on {d mc1 ms1 mc2 ms2 : Nat} {cd c2 : pm_C} {i b len : Nat} {ins : Instr} {xs : List Nat} {con : Int} {ls : List (Option Value)} {st : List Value} {S : pm_M} {Q Q1 : Option Value → pm_M → Prop} (hlen : len = 3)
    (kk : ∀ (r : Option Value) (S' : pm_M), p_rf (cdR c2) r → Q1 r S' → Px d mc2 ms2 cd (i + 1) ls (r.toList ++ st) S' Q) (hok : p_okM cd = true) {p : Program} {l : Launch} {e : Env} {R : Room} {s : State} {m : MethodId} {args : Array Value} {below : List Frame} {meth : Method} {c : Code} {D : va_G} {aC : Nat → ClassId} {A : Nat → Prop} {Z : State → Prop} (hC : p_Cx d cd p R s m args meth c D aC A) {ad : Nat → Nat} {H : Heap} {locs : List Loc} {cells slots : Nat} {mls : Array Slot} {b' : Nat} {st0 : List Value} (hH : p_Hx D aC A s ad S H locs) (hl : p_lv ad mls (cdL cd) ls) (hw : p_wl S.1.length ls) (hs' : p_ws S.1.length st) (hb1 : (cdE cd)[i + 1]?.map (·.1) = some (b' + len)) (hc : cells + (mc1 + mc2) ≤ R.cells) (hs : slots + (ms1 + ms2) ≤ R.slots)
    (hK : p_Kx p l e R s m args below meth c D aC A Z cd S.1.length S.2.2.2.2 ad (cells + (mc1 + mc2)) (slots + (ms1 + ms2)) Q)
    (hr : va_Run p l e R s m args below meth c H locs cells slots mc1 ms1 (F0 m b' mls st0) (st.map (pv ad)) (p_Qc D aC A ad S c2 Q1) A) : W p l e R s m args below meth c H locs cells slots Z (F0 m b' mls st0) := by
  subst hlen
  refine p_call hr hH.2.2.1 (fun r S' ad' H1 locs1 hrf hq hAf hS1 => ?_)
  obtain ⟨aP, aD, aW, aN, aR, aA⟩ := hAf
  have key := kk r S' hrf hq hok p l e R s m args below meth c D aC A Z hC ad' H1 locs1 (cells + mc1) (slots + ms1) mls (b' + 3) ⟨aP, aD, hS1, p_Ro_re hH.2.2.2.1 aR (fun k hk => aA k (Or.inr hk)), aW⟩ ⟨p_lv_re hl hw aA, p_wl_le hw aN, p_rf_ws hrf (p_ws_le hs' aN)⟩ hb1 (by omega) (by omega) ?_
  · rw [List.map_append, p_st_re hs' aA] at key
    have e1 : (r.map (pv ad')).toList = r.toList.map (pv ad') := by cases r <;> rfl
    rw [e1]
    exact key
  · intro r2 S2 ad2 H2 locs2 mls2 b2 q2 h2 n2 ro2 a2 d2 f2
    have := hK r2 S2 ad2 H2 locs2 mls2 b2 q2 h2 (Nat.le_trans aN n2) (ro2.trans aR) (fun k hk => (a2 k (p_ok_le hk aN)).trans (aA k hk)) d2 f2
    rw [Nat.add_assoc, Nat.add_assoc]
    exact this
theorem p_rv {ad : Nat → Nat} {vs st : List Value} {v : Value} : (vs.reverse ++ v :: st).map (pv ad) = (vs.map (pv ad)).reverse ++ pv ad v :: st.map (pv ad) := by
  simp
theorem p_rvS {ad : Nat → Nat} {vs st : List Value} : (vs.reverse ++ st).map (pv ad) = (vs.map (pv ad)).reverse ++ st.map (pv ad) := by
  simp
theorem p_cats {ad : Nat → Nat} {st : List Value} (h : (st.map fun v => v.category).sum ≤ 8) : ((st.map (pv ad)).map fun v => v.category).sum ≤ 8 := by
  rw [List.map_map]
  have : ((fun v : Value => v.category) ∘ pv ad) = fun v => v.category := by funext v; exact pv_cat
  rw [this]
  exact h
theorem p_ws_app {n : Nat} {a b : List Value} (h : p_ws n (a ++ b)) : p_ws n a ∧ p_ws n b := ⟨fun r hr => h r (List.mem_append_left _ hr), fun r hr => h r (List.mem_append_right _ hr)⟩
theorem p_ws_rev {n : Nat} {a : List Value} (h : p_ws n a.reverse) : p_ws n a := fun r hr => h r (List.mem_reverse.mpr hr)
theorem p_ws_vs {n : Nat} {vs st : List Value} {v : Value} (h : p_ws n (vs.reverse ++ v :: st)) : p_ws n (v :: vs) ∧ p_ws n st := by
  obtain ⟨h1, h2⟩ := p_ws_app h
  exact ⟨p_ws_c (p_ws_h h2) (p_ws_rev h1), p_ws_t h2⟩
theorem px_callV {d d1 mc1 ms1 mc2 ms2 : Nat} {cd : pm_C} (c2 : pm_C) {i b : Nat} {con : Int} {ls : List (Option Value)} (st vs : List Value) {S : pm_M} {Q Q1 : Option Value → pm_M → Prop} {idx pL pI pN pS a ci n : Nat} {st0 : List Value} (hP : Pv d1 mc1 ms1 c2 (.ref a :: vs) S Q1) (h : (cdE cd)[i]? = some (b, 3, .invokevirtual idx, [pL, pI, pN, cdP c2, pS], con)) (hS : S.1[a]? = some (ci, n)) (hci : ci < 100) (hC2 : (vwCl[ci]?).map (·.1) = some (cdY c2).cls) (hst : st0 = vs.reverse ++ .ref a :: st) (hn : vs.length = cdN c2) (hct : (st.map fun v => v.category).sum ≤ 8) (hd : d1 ≤ d)
    (kk : ∀ (r : Option Value) (S' : pm_M), p_rf (cdR c2) r → Q1 r S' → Px (d + 1) mc2 ms2 cd (i + 1) ls (r.toList ++ st) S' Q) : Px (d + 1) (mc1 + mc2) (ms1 + ms2) cd i ls st0 S Q := by
  subst hst
  intro hok p l e R s m args below meth c D aC A Z hC ad H locs cells slots mls b' hH hF hb hc hs hK
  obtain ⟨hdc, hnx, hx⟩ := p_at hok h hb
  obtain ⟨hv, hs'⟩ := p_ws_vs hF.2.2
  simp only [p_okX, Bool.and_eq_true] at hx
  have hlt := p_lt hS
  obtain ⟨-, hob⟩ := hH.2.2.2.2.2.2 a ci n hS
  obtain ⟨C', T', hcl⟩ := hob hci
  obtain ⟨hin, -, -, -⟩ := p_cls hcl
  have hC3 : C' = (cdY c2).cls := by rw [hcl] at hC2; exact Option.some.inj hC2
  have hsel : Cond.selects (cdY c2).cls (cdY c2) (cdY c2) ∈ lw_good := by
    have := hx.2
    unfold p_sel at this
    rw [(p_cee hP.1).2.2.2.2.2.1] at this
    exact p_has_in this
  refine p_on (mc1 := mc1) (ms1 := ms1) (c2 := c2) (ins := .invokevirtual idx) (xs := []) (con := 0) (b := 0) rfl kk hok hC hH hF.1 hF.2.1 hs' (hnx rfl) hc hs hK ?_
  have hrun := va_runV (mc := mc1) (ms := ms1) (b := ad a) (As := vs.map (pv ad)) (rest := st.map (pv ad)) (g := F0 m b' mls ((vs.reverse ++ .ref a :: st).map (pv ad))) (H := H) (locs := locs) (cells := cells) (slots := slots) (e := e) (below := below) (meth := meth) hC.1 (p_met hP hv l D aC A ad) ⟨p_callB hC hd rfl hP.1 hx.1, hC.1.2.2.2.2 _ (p_inv_of hP.1 hx.1).2.1, hC.1.2.2.2.2 _ hsel⟩
    ⟨p_blind, by
      have hrc := va_recv (q0 := a) hC.2.2.2.2.2.1 hH.1 (q := (C', T', n)) hcl (by rw [p_wd_at hlt, p_cel_o hS hci])
      rw [← hC3]
      exact hrc, fun U hU hW => ⟨by simp [pv], p_Cx_bk hC hH hU hW⟩⟩ rfl (by rw [List.length_map]; exact hn) hF.1.1 (by rw [p_rv]; rfl) (lv_room (p_cats hct)) hdc ⟨by omega, by omega⟩
  exact hrun
theorem px_callS {d d1 mc1 ms1 mc2 ms2 : Nat} {cd : pm_C} (c2 : pm_C) {i b : Nat} {con : Int} {ls : List (Option Value)} (st vs : List Value) {S : pm_M} {Q Q1 : Option Value → pm_M → Prop} {idx pL pI pN : Nat} {st0 : List Value} (hP : Pv d1 mc1 ms1 c2 vs S Q1) (h : (cdE cd)[i]? = some (b, 3, .invokestatic idx, [pL, pI, pN, cdP c2], con)) (hst : st0 = vs.reverse ++ st) (hn : vs.length = cdN c2) (hct : (st.map fun v => v.category).sum ≤ 8) (hd : d1 ≤ d)
    (kk : ∀ (r : Option Value) (S' : pm_M), p_rf (cdR c2) r → Q1 r S' → Px (d + 1) mc2 ms2 cd (i + 1) ls (r.toList ++ st) S' Q) : Px (d + 1) (mc1 + mc2) (ms1 + ms2) cd i ls st0 S Q := by
  subst hst
  intro hok p l e R s m args below meth c D aC A Z hC ad H locs cells slots mls b' hH hF hb hc hs hK
  obtain ⟨hdc, hnx, hx⟩ := p_at hok h hb
  have hw := p_ws_app hF.2.2
  simp only [p_okX] at hx
  refine p_on (mc1 := mc1) (ms1 := ms1) (c2 := c2) (ins := .invokestatic idx) (xs := []) (con := 0) (b := 0) rfl kk hok hC hH hF.1 hF.2.1 hw.2 (hnx rfl) hc hs hK ?_
  have hrun := va_runS (mc := mc1) (ms := ms1) (As := vs.map (pv ad)) (rest := st.map (pv ad)) (g := F0 m b' mls ((vs.reverse ++ st).map (pv ad))) (H := H) (locs := locs) (cells := cells) (slots := slots) (e := e) (below := below) (meth := meth) hC.1 (p_met hP (p_ws_rev hw.1) l D aC A ad) ⟨p_callB hC hd rfl hP.1 hx, hC.1.2.2.2.2 _ (p_inv_of hP.1 hx).2.1⟩
    ⟨p_blind, fun U hU hW => ⟨rfl, p_Cx_bk hC hH hU hW⟩⟩ rfl (by rw [List.length_map]; exact hn) hF.1.1 p_rvS (lv_room (p_cats hct)) hdc ⟨by omega, by omega⟩
  exact hrun
theorem px_callI {d d1 mc1 ms1 mc2 ms2 : Nat} {cd : pm_C} (c2 : pm_C) {i b : Nat} {con : Int} {ls : List (Option Value)} (st vs : List Value) {S : pm_M} {Q Q1 : Option Value → pm_M → Prop} {idx pL pI pN a : Nat} {st0 : List Value} (hP : Pv d1 mc1 ms1 c2 (.ref a :: vs) S Q1) (hr : cdR c2 = none) (hnm : (cdY c2).name = "<init>") (h : (cdE cd)[i]? = some (b, 3, .invokespecial idx, [pL, pI, pN, cdP c2], con)) (hst : st0 = vs.reverse ++ .ref a :: st) (hn : vs.length = cdN c2) (hct : (st.map fun v => v.category).sum ≤ 8) (hd : d1 ≤ d)
    (kk : ∀ (r : Option Value) (S' : pm_M), p_rf (cdR c2) r → Q1 r S' → Px (d + 1) mc2 ms2 cd (i + 1) ls (r.toList ++ st) S' Q) : Px (d + 1) (mc1 + mc2) (ms1 + ms2) cd i ls st0 S Q := by
  subst hst
  intro hok p l e R s m args below meth c D aC A Z hC ad H locs cells slots mls b' hH hF hb hc hs hK
  obtain ⟨hdc, hnx, hx⟩ := p_at hok h hb
  obtain ⟨hv, hs'⟩ := p_ws_vs hF.2.2
  simp only [p_okX] at hx
  refine p_on (mc1 := mc1) (ms1 := ms1) (c2 := c2) (ins := .invokespecial idx) (xs := []) (con := 0) (b := 0) rfl kk hok hC hH hF.1 hF.2.1 hs' (hnx rfl) hc hs hK ?_
  have hcb := p_callB (mc1 := mc1) (ms1 := ms1) hC hd rfl hP.1 hx
  rw [hr] at hcb
  have hM := p_met hP hv l D aC A ad
  rw [hr] at hM
  have hrun := va_runI (mc := mc1) (ms := ms1) (b := ad a) (As := vs.map (pv ad)) (rest := st.map (pv ad)) (g := F0 m b' mls ((vs.reverse ++ .ref a :: st).map (pv ad))) (H := H) (locs := locs) (cells := cells) (slots := slots) (e := e) (below := below) (meth := meth) hC.1 hM ⟨hcb, hnm, hC.1.2.2.2.2 _ (p_inv_of hP.1 hx).2.1⟩
    ⟨p_blind, fun U hU hW => ⟨by simp [pv], p_Cx_bk hC hH hU hW⟩⟩ rfl (by rw [List.length_map]; exact hn) hF.1.1 (by rw [p_rv]; rfl) (lv_room (p_cats hct)) hdc ⟨by omega, by omega⟩
  exact hrun
theorem px_callN {d d1 mc1 ms1 mc2 ms2 : Nat} {cd : pm_C} (c2 : pm_C) {i b : Nat} {con : Int} {ls : List (Option Value)} (st vs : List Value) {S : pm_M} {Q Q1 : Option Value → pm_M → Prop} {idx pL pI pN p0 a : Nat} {st0 : List Value} (hP : Pv d1 mc1 ms1 c2 (.ref a :: vs) S Q1) (hr : cdR c2 = none) (hnm : (cdY c2).name = "<init>") (hnn : (cdO cd = "SwitchboardHeart" ∧ idx = 9 ∧ cdY c2 = ⟨"SwitchboardHeart$Town", "<init>", "()V"⟩) ∨ (cdO cd = "SwitchboardHeart" ∧ idx = 73 ∧ cdY c2 = ⟨"SwitchboardHeart$Bodies", "<init>", "()V"⟩) ∨ (cdO cd = "SwitchboardHeart" ∧ idx = 84 ∧ cdY c2 = ⟨"SwitchboardHeart$Shelf", "<init>", "()V"⟩)) (h : (cdE cd)[i]? = some (b, 3, .invokespecial idx, [pL, pI, pN, cdP c2, p0], con)) (hst : st0 = vs.reverse ++ .ref a :: st) (hn : vs.length = cdN c2) (hct : (st.map fun v => v.category).sum ≤ 8) (hd : d1 ≤ d)
    (kk : ∀ (r : Option Value) (S' : pm_M), p_rf (cdR c2) r → Q1 r S' → Px (d + 1) mc2 ms2 cd (i + 1) ls (r.toList ++ st) S' Q) : Px (d + 1) (mc1 + mc2) (ms1 + ms2) cd i ls st0 S Q := by
  subst hst
  intro hok p l e R s m args below meth c D aC A Z hC ad H locs cells slots mls b' hH hF hb hc hs hK
  obtain ⟨hdc, hnx, hx⟩ := p_at hok h hb
  obtain ⟨hv, hs'⟩ := p_ws_vs hF.2.2
  simp only [p_okX] at hx
  refine p_on (mc1 := mc1) (ms1 := ms1) (c2 := c2) (ins := .invokespecial idx) (xs := []) (con := 0) (b := 0) rfl kk hok hC hH hF.1 hF.2.1 hs' (hnx rfl) hc hs hK ?_
  have hM := p_met hP hv l D aC A ad
  rw [hr] at hM
  obtain ⟨e1, e2, e3, e4, e5, e6, e7⟩ := p_cee hP.1
  rw [hr] at e5 e6
  unfold p_nest at hx
  rw [e6] at hx
  simp only [Bool.and_eq_true, decide_eq_true_eq] at hx
  have hNw : va_Nw (.methodLinkNest (cdO cd) idx (cdY c2) "SwitchboardHeart") s := by
    have hNs := hC.2.2.2.2.2.2.2
    rcases hnn with ⟨q1, q2, q3⟩ | ⟨q1, q2, q3⟩ | ⟨q1, q2, q3⟩
    · rw [q1, q2, q3]; exact hNs.1
    · rw [q1, q2, q3]; exact hNs.2.1
    · rw [q1, q2, q3]; exact hNs.2.2.1
  have hfr := hC.2.2.2.2.1
  have hrun := va_runIN (R := R) (mc := mc1) (ms := ms1) (b := ad a) (As := vs.map (pv ad)) (rest := st.map (pv ad)) (g := F0 m b' mls ((vs.reverse ++ .ref a :: st).map (pv ad))) (H := H) (locs := locs) (cells := cells) (slots := slots) (e := e) (below := below) (meth := meth) hC.1 hM ⟨va_cnB (rm := ({ frames := d1 + 1, cells := mc1, slots := ms1, locals := 40 * (d1 + 1) } : Room)) (cdN c2) hC.1.2.2.2.2 (p_goodIn e5) rfl rfl rfl hNw (hC.1.2.2.2.2 _ (p_has_in hx.2)) ⟨e2, e3, e4⟩ ⟨by have := hfr.1; show d1 + 1 + 1 ≤ _; omega, by have := hfr.2; show 8 + (cdL c2 + 11) + 40 * (d1 + 1) ≤ _; omega⟩, hnm, hC.1.2.2.2.2 _ (p_has_in hx.1.2)⟩
    ⟨p_blind, fun U hU hW => ⟨by simp [pv], p_Cx_bk hC hH hU hW⟩⟩ rfl (by rw [List.length_map]; exact hn) hF.1.1 (by rw [p_rv]; rfl) (lv_room (p_cats hct)) hdc ⟨by omega, by omega⟩
  exact hrun
