/-! THE LAW'S TEXT: signs of a small stack, a line = (test, value); no test: [] -/
abbrev Tk : Type := Nat × Nat
def nmC (k : Nat) : Int32 := match k with
  | 0 => nI 108
  | 1 => nI 119
  | 2 => nI 111
  | 3 => nI 104
  | 4 => nI 99
  | _ => nI 112
def bnC (k : Nat) : Int32 := match k with
  | 0 => nI 124
  | 1 => nI 38
  | 2 => nI 60
  | 3 => nI 61
  | 4 => nI 62
  | 5 => nI 43
  | 6 => nI 45
  | 7 => nI 42
  | 8 => nI 47
  | _ => nI 37
def cT (t : Tk) : Int32 := match t.1 with
  | 0 => nI t.2
  | 1 => -(nmC t.2)
  | 2 => if t.2 = 0 then -(nI 33) else -(nI 126)
  | _ => -(bnC t.2)
def tkOK (t : Tk) : Prop := match t.1 with
  | 0 => t.2 < 10000
  | 1 => t.2 < 6
  | 2 => t.2 < 2
  | 3 => t.2 < 10
  | _ => False
def tw (j : Nat) (a b : Int32) : Int32 := match j with
  | 0 => if a ≠ 0 ∨ b ≠ 0 then nI 1 else nI 0
  | 1 => if a ≠ 0 ∧ b ≠ 0 then nI 1 else nI 0
  | 2 => if a < b then nI 1 else nI 0
  | 3 => if a = b then nI 1 else nI 0
  | 4 => if b < a then nI 1 else nI 0
  | 5 => a + b
  | 6 => a - b
  | 7 => a * b
  | 8 => if b = 0 then nI 0 else a / b
  | _ => if b = 0 then nI 0 else a - a / b * b
def tkE (fa : Nat → Int32) (t : Tk) (st : List Int32) : List Int32 := match t.1, st with
  | 0, st => nI t.2 :: st
  | 1, st => fa t.2 :: st
  | 2, a :: q => (if t.2 = 0 then (if a = 0 then nI 1 else nI 0) else -a) :: q
  | 3, b :: a :: q => tw t.2 a b :: q
  | _, st => st
def evE (fa : Nat → Int32) : List Tk → List Int32 → List Int32
  | [], st => st
  | t :: e, st => evE fa e (tkE fa t st)
def dpt : List Tk → Nat → Nat → Prop
  | [], d, d' => d' = d
  | t :: e, d, d' => tkOK t ∧ ((t.1 < 2 ∧ d < 100 ∧ dpt e (d + 1) d') ∨ (t.1 = 2 ∧ 1 ≤ d ∧ dpt e d d') ∨ (t.1 = 3 ∧ 2 ≤ d ∧ dpt e (d - 1) d'))
theorem tkE_len {fa : Nat → Int32} {t : Tk} {st : List Int32} (h0 : tkOK t) (h2 : t.1 = 2 → 1 ≤ st.length) (h3 : t.1 = 3 → 2 ≤ st.length) : (t.1 < 2 → (tkE fa t st).length = st.length + 1) ∧ (t.1 = 2 → (tkE fa t st).length = st.length) ∧ (t.1 = 3 → (tkE fa t st).length = st.length - 1) := by
  obtain ⟨k, x⟩ := t
  match k, st with
  | 0, st => simp [tkE]
  | 1, st => simp [tkE]
  | 2, [] => simp at h2
  | 2, a :: q => simp [tkE]
  | 3, [] => simp at h3
  | 3, [a] => simp at h3
  | 3, b :: a :: q => simp [tkE]
  | k + 4, st => simp [tkOK] at h0
def SG (g : Nat → Int32) : List Int32 → Prop
  | [] => True
  | a :: q => g q.length = a ∧ SG g q
theorem SG_up {g : Nat → Int32} {q : List Int32} {k : Nat} {v : Int32} (h : SG g q) (hk : q.length ≤ k) : SG (va_up g k v) q := by
  induction q with
  | nil => trivial
  | cons a q ih =>
    simp only [List.length_cons] at hk
    exact ⟨by rw [p_up_n _ _ (by omega)]; exact h.1, ih h.2 (by omega)⟩
theorem SG_push {g : Nat → Int32} {q : List Int32} {v : Int32} (h : SG g q) : SG (va_up g q.length v) (v :: q) := ⟨p_up_s _ _ _, SG_up h (Nat.le_refl _)⟩
/-- a row holds this text from a place on -/
def HC (f : Nat → Int32) : Nat → List Int32 → Prop
  | _, [] => True
  | k, x :: q => f k = x ∧ HC f (k + 1) q
theorem HC_app {f : Nat → Int32} : ∀ {a b : List Int32} {k : Nat}, HC f k (a ++ b) ↔ HC f k a ∧ HC f (k + a.length) b
  | [], b, k => by simp [HC]
  | x :: a, b, k => by
    simp only [List.cons_append, HC, List.length_cons, HC_app (a := a), and_assoc]
    rw [show k + 1 + a.length = k + (a.length + 1) by omega]
theorem HC_congr {f g : Nat → Int32} : ∀ {a : List Int32} {k : Nat}, (∀ j, k ≤ j → j < k + a.length → g j = f j) → HC f k a → HC g k a
  | [], _, _, _ => trivial
  | x :: a, k, h, hc => ⟨(h k (Nat.le_refl _) (by simp)).trans hc.1, HC_congr (fun j h1 h2 => h j (by omega) (by simp at h2 ⊢; omega)) hc.2⟩
abbrev Ln : Type := List Tk × List Tk
def codeL (k : Nat) (q : Ln) : List Int32 := if q.1 = [] then q.2.map cT ++ [-(nI 59)] else q.1.map cT ++ (-(nI 63) :: nI (k + q.1.length + q.2.length + 3) :: (q.2.map cT ++ [-(nI 59)]))
def codeC : Nat → List Ln → List Int32
  | _, [] => []
  | k, q :: r => codeL k q ++ codeC (k + (codeL k q).length) r
def lnOK (q : Ln) : Prop := (q.1 ≠ [] → dpt q.1 0 1) ∧ dpt q.2 0 1
def evL (fa : Nat → Int32) : List Ln → Int32
  | [] => nI 0
  | q :: r => if q.1 = [] ∨ (evE fa q.1 []).headD 0 ≠ 0 then (evE fa q.2 []).headD 0 else evL fa r
/-- the class's row of steps holds this law -/
def LawC (tx : List Ln) (p : Bool × Option Nat) (I : Nat → Nat → Int32) : Prop := I 6 6 = nI (codeC 0 tx).length ∧ (codeC 0 tx).length ≤ 256 ∧ HC (I (gA p.1)) 0 (codeC 0 tx) ∧ ∀ q ∈ tx, lnOK q
theorem px_l1 {d mc ms : Nat} {cd : pm_C} {i : Nat} {a : Option Value} {x y : Int32} {t : List (Option Value)} {st : List Value} {S : pm_M} {Q : Option Value → pm_M → Prop} (e : x = y) (k : Px d mc ms cd i (a :: some (.int y) :: t) st S Q) : Px d mc ms cd i (a :: some (.int x) :: t) st S Q := e ▸ k
theorem px_l2 {d mc ms : Nat} {cd : pm_C} {i : Nat} {a b : Option Value} {x y : Int32} {t : List (Option Value)} {st : List Value} {S : pm_M} {Q : Option Value → pm_M → Prop} (e : x = y) (k : Px d mc ms cd i (a :: b :: some (.int y) :: t) st S Q) : Px d mc ms cd i (a :: b :: some (.int x) :: t) st S Q := e ▸ k
theorem px_l3 {d mc ms : Nat} {cd : pm_C} {i : Nat} {a b c : Option Value} {x y : Int32} {t : List (Option Value)} {st : List Value} {S : pm_M} {Q : Option Value → pm_M → Prop} (e : x = y) (k : Px d mc ms cd i (a :: b :: c :: some (.int y) :: t) st S Q) : Px d mc ms cd i (a :: b :: c :: some (.int x) :: t) st S Q := e ▸ k
theorem px_l4 {d mc ms : Nat} {cd : pm_C} {i : Nat} {a b c f : Option Value} {x y : Int32} {t : List (Option Value)} {st : List Value} {S : pm_M} {Q : Option Value → pm_M → Prop} (e : x = y) (k : Px d mc ms cd i (a :: b :: c :: f :: some (.int y) :: t) st S Q) : Px d mc ms cd i (a :: b :: c :: f :: some (.int x) :: t) st S Q := e ▸ k
theorem px_ls {d mc ms : Nat} {cd : pm_C} {i : Nat} {ls ls' : List (Option Value)} {st : List Value} {S : pm_M} {Q : Option Value → pm_M → Prop} (e : ls = ls') (k : Px d mc ms cd i ls' st S Q) : Px d mc ms cd i ls st S Q := e ▸ k
theorem gA_ne (b : Bool) : gA b ≠ 8 ∧ gA b ≠ 6 ∧ gA b ≠ 1 ∧ gB b ≠ 8 ∧ gB b ≠ 6 ∧ gA b ≠ gB b := by cases b <;> decide
theorem n_dec (n : Nat) : nI (n + 1) + Int32.ofInt (-1) = nI n := by
  rw [← nI_pred n, Int32.sub_eq_add_neg]
  congr 1
def fC (I : Nat → Nat → Int32) (k : Nat) : Int32 := match k with
  | 0 => I 6 9
  | 1 => I 6 10
  | 2 => I 6 11
  | 3 => I 6 12
  | 4 => I 1 6
  | _ => I 6 13
theorem vX3_named_0 {I : Nat → Nat → Int32} {J : Nat → Nat → Int64} {p : Bool × Option Nat} {ro : List (Nat × Nat × (Nat → Int32))}  : Pv 0 0 0 CX3_named [.ref (6), .int (nI 108)] (gS, I, J, gR p, ro) (qI (I 6 9) (gS, I, J, gR p, ro)) := by
  refine ⟨okCX3_named, Nat.le_of_ble_eq_true rfl, (show Px _ _ _ _ 0 [some (.ref (6)), some (.int (nI 108))] [] _ _ from ?_)⟩
  refine px_iload_n (kk := 1) rfl rfl rfl ?_
  refine px_lookup rfl (.inl ⟨2, by decide, by decide, rfl⟩) ?_
  refine px_aload_n (kk := 0) rfl rfl rfl ?_
  refine px_getI rfl gS_6 rfl ?_
  refine px_ireturn rfl (.inl rfl) ?_
  exact ⟨rfl, rfl⟩
theorem vX3_named_1 {I : Nat → Nat → Int32} {J : Nat → Nat → Int64} {p : Bool × Option Nat} {ro : List (Nat × Nat × (Nat → Int32))}  : Pv 0 0 0 CX3_named [.ref (6), .int (nI 119)] (gS, I, J, gR p, ro) (qI (I 6 10) (gS, I, J, gR p, ro)) := by
  refine ⟨okCX3_named, Nat.le_of_ble_eq_true rfl, (show Px _ _ _ _ 0 [some (.ref (6)), some (.int (nI 119))] [] _ _ from ?_)⟩
  refine px_iload_n (kk := 1) rfl rfl rfl ?_
  refine px_lookup rfl (.inl ⟨4, by decide, by decide, rfl⟩) ?_
  refine px_aload_n (kk := 0) rfl rfl rfl ?_
  refine px_getI rfl gS_6 rfl ?_
  refine px_ireturn rfl (.inl rfl) ?_
  exact ⟨rfl, rfl⟩
theorem vX3_named_2 {I : Nat → Nat → Int32} {J : Nat → Nat → Int64} {p : Bool × Option Nat} {ro : List (Nat × Nat × (Nat → Int32))}  : Pv 0 0 0 CX3_named [.ref (6), .int (nI 111)] (gS, I, J, gR p, ro) (qI (I 6 11) (gS, I, J, gR p, ro)) := by
  refine ⟨okCX3_named, Nat.le_of_ble_eq_true rfl, (show Px _ _ _ _ 0 [some (.ref (6)), some (.int (nI 111))] [] _ _ from ?_)⟩
  refine px_iload_n (kk := 1) rfl rfl rfl ?_
  refine px_lookup rfl (.inl ⟨3, by decide, by decide, rfl⟩) ?_
  refine px_aload_n (kk := 0) rfl rfl rfl ?_
  refine px_getI rfl gS_6 rfl ?_
  refine px_ireturn rfl (.inl rfl) ?_
  exact ⟨rfl, rfl⟩
theorem vX3_named_3 {I : Nat → Nat → Int32} {J : Nat → Nat → Int64} {p : Bool × Option Nat} {ro : List (Nat × Nat × (Nat → Int32))}  : Pv 0 0 0 CX3_named [.ref (6), .int (nI 104)] (gS, I, J, gR p, ro) (qI (I 6 12) (gS, I, J, gR p, ro)) := by
  refine ⟨okCX3_named, Nat.le_of_ble_eq_true rfl, (show Px _ _ _ _ 0 [some (.ref (6)), some (.int (nI 104))] [] _ _ from ?_)⟩
  refine px_iload_n (kk := 1) rfl rfl rfl ?_
  refine px_lookup rfl (.inl ⟨1, by decide, by decide, rfl⟩) ?_
  refine px_aload_n (kk := 0) rfl rfl rfl ?_
  refine px_getI rfl gS_6 rfl ?_
  refine px_ireturn rfl (.inl rfl) ?_
  exact ⟨rfl, rfl⟩
theorem vX3_named_4 {I : Nat → Nat → Int32} {J : Nat → Nat → Int64} {p : Bool × Option Nat} {ro : List (Nat × Nat × (Nat → Int32))}  : Pv 0 0 0 CX3_named [.ref (6), .int (nI 99)] (gS, I, J, gR p, ro) (qI (I 1 6) (gS, I, J, gR p, ro)) := by
  refine ⟨okCX3_named, Nat.le_of_ble_eq_true rfl, (show Px _ _ _ _ 0 [some (.ref (6)), some (.int (nI 99))] [] _ _ from ?_)⟩
  refine px_iload_n (kk := 1) rfl rfl rfl ?_
  refine px_lookup rfl (.inl ⟨0, by decide, by decide, rfl⟩) ?_
  refine px_aload_n (kk := 0) rfl rfl rfl ?_
  refine px_getR (r := 1) rfl gS_6 rfl (gR_6_0 _) ?_
  refine px_getI rfl gS_1 rfl ?_
  refine px_ireturn rfl (.inl rfl) ?_
  exact ⟨rfl, rfl⟩
theorem vX3_named_5 {I : Nat → Nat → Int32} {J : Nat → Nat → Int64} {p : Bool × Option Nat} {ro : List (Nat × Nat × (Nat → Int32))}  : Pv 0 0 0 CX3_named [.ref (6), .int (nI 112)] (gS, I, J, gR p, ro) (qI (I 6 13) (gS, I, J, gR p, ro)) := by
  refine ⟨okCX3_named, Nat.le_of_ble_eq_true rfl, (show Px _ _ _ _ 0 [some (.ref (6)), some (.int (nI 112))] [] _ _ from ?_)⟩
  refine px_iload_n (kk := 1) rfl rfl rfl ?_
  refine px_lookup rfl (.inr ⟨by decide, rfl⟩) ?_
  refine px_aload_n (kk := 0) rfl rfl rfl ?_
  refine px_getI rfl gS_6 rfl ?_
  refine px_ireturn rfl (.inl rfl) ?_
  exact ⟨rfl, rfl⟩
theorem vX3_joined_0 {I : Nat → Nat → Int32} {J : Nat → Nat → Int64} {p : Bool × Option Nat} {ro : List (Nat × Nat × (Nat → Int32))} {x y : Int32} : Pv 0 0 0 CX3_joined [.int (x), .int (nI 124), .int (y)] (gS, I, J, gR p, ro) (qI (tw 0 x y) (gS, I, J, gR p, ro)) := by
  refine ⟨okCX3_joined, Nat.le_of_ble_eq_true rfl, (show Px _ _ _ _ 0 [some (.int (x)), some (.int (nI 124)), some (.int (y))] [] _ _ from ?_)⟩
  refine px_iload_n (kk := 1) rfl rfl rfl ?_
  refine px_lookup rfl (.inl ⟨9, by decide, by decide, rfl⟩) ?_
  refine px_iload_n (kk := 0) rfl rfl rfl ?_
  refine px_if_ne rfl (fun c3 => ?_) (fun c3 => ?_)
  · refine px_iconst (v := nI 1) rfl k_1 ?_
    refine px_goto rfl ?_
    refine px_ireturn rfl (.inl rfl) ?_
    exact ⟨by simp [tw, c3], rfl⟩
  · refine px_iload_n (kk := 2) rfl rfl rfl ?_
    refine px_if_eq rfl (fun c5 => ?_) (fun c5 => ?_)
    · refine px_iconst (v := nI 0) rfl k_0 ?_
      refine px_ireturn rfl (.inl rfl) ?_
      exact ⟨by simp [tw, c3, c5], rfl⟩
    · refine px_iconst (v := nI 1) rfl k_1 ?_
      refine px_goto rfl ?_
      refine px_ireturn rfl (.inl rfl) ?_
      exact ⟨by simp [tw, c3, c5], rfl⟩
theorem vX3_joined_1 {I : Nat → Nat → Int32} {J : Nat → Nat → Int64} {p : Bool × Option Nat} {ro : List (Nat × Nat × (Nat → Int32))} {x y : Int32} : Pv 0 0 0 CX3_joined [.int (x), .int (nI 38), .int (y)] (gS, I, J, gR p, ro) (qI (tw 1 x y) (gS, I, J, gR p, ro)) := by
  refine ⟨okCX3_joined, Nat.le_of_ble_eq_true rfl, (show Px _ _ _ _ 0 [some (.int (x)), some (.int (nI 38)), some (.int (y))] [] _ _ from ?_)⟩
  refine px_iload_n (kk := 1) rfl rfl rfl ?_
  refine px_lookup rfl (.inl ⟨1, by decide, by decide, rfl⟩) ?_
  refine px_iload_n (kk := 0) rfl rfl rfl ?_
  refine px_if_eq rfl (fun c11 => ?_) (fun c11 => ?_)
  · refine px_iconst (v := nI 0) rfl k_0 ?_
    refine px_ireturn rfl (.inl rfl) ?_
    exact ⟨by simp [tw, c11], rfl⟩
  · refine px_iload_n (kk := 2) rfl rfl rfl ?_
    refine px_if_eq rfl (fun c13 => ?_) (fun c13 => ?_)
    · refine px_iconst (v := nI 0) rfl k_0 ?_
      refine px_ireturn rfl (.inl rfl) ?_
      exact ⟨by simp [tw, c11, c13], rfl⟩
    · refine px_iconst (v := nI 1) rfl k_1 ?_
      refine px_goto rfl ?_
      refine px_ireturn rfl (.inl rfl) ?_
      exact ⟨by simp [tw, c11, c13], rfl⟩
theorem vX3_joined_2 {I : Nat → Nat → Int32} {J : Nat → Nat → Int64} {p : Bool × Option Nat} {ro : List (Nat × Nat × (Nat → Int32))} {x y : Int32} : Pv 0 0 0 CX3_joined [.int (x), .int (nI 60), .int (y)] (gS, I, J, gR p, ro) (qI (tw 2 x y) (gS, I, J, gR p, ro)) := by
  refine ⟨okCX3_joined, Nat.le_of_ble_eq_true rfl, (show Px _ _ _ _ 0 [some (.int (x)), some (.int (nI 60)), some (.int (y))] [] _ _ from ?_)⟩
  refine px_iload_n (kk := 1) rfl rfl rfl ?_
  refine px_lookup rfl (.inl ⟨6, by decide, by decide, rfl⟩) ?_
  refine px_iload_n (kk := 0) rfl rfl rfl ?_
  refine px_iload_n (kk := 2) rfl rfl rfl ?_
  refine px_icmp_ge rfl (fun c20 => ?_) (fun c20 => ?_)
  · refine px_iconst (v := nI 0) rfl k_0 ?_
    refine px_ireturn rfl (.inl rfl) ?_
    exact ⟨by rw [tw, if_neg (fun h => by rw [i_lt] at h; rw [i_le] at c20; omega)], rfl⟩
  · refine px_iconst (v := nI 1) rfl k_1 ?_
    refine px_goto rfl ?_
    refine px_ireturn rfl (.inl rfl) ?_
    exact ⟨by rw [tw, if_pos (by rw [i_lt]; rw [i_le] at c20; omega)], rfl⟩
theorem vX3_joined_3 {I : Nat → Nat → Int32} {J : Nat → Nat → Int64} {p : Bool × Option Nat} {ro : List (Nat × Nat × (Nat → Int32))} {x y : Int32} : Pv 0 0 0 CX3_joined [.int (x), .int (nI 61), .int (y)] (gS, I, J, gR p, ro) (qI (tw 3 x y) (gS, I, J, gR p, ro)) := by
  refine ⟨okCX3_joined, Nat.le_of_ble_eq_true rfl, (show Px _ _ _ _ 0 [some (.int (x)), some (.int (nI 61)), some (.int (y))] [] _ _ from ?_)⟩
  refine px_iload_n (kk := 1) rfl rfl rfl ?_
  refine px_lookup rfl (.inl ⟨7, by decide, by decide, rfl⟩) ?_
  refine px_iload_n (kk := 0) rfl rfl rfl ?_
  refine px_iload_n (kk := 2) rfl rfl rfl ?_
  refine px_icmp_ne rfl (fun c27 => ?_) (fun c27 => ?_)
  · refine px_iconst (v := nI 0) rfl k_0 ?_
    refine px_ireturn rfl (.inl rfl) ?_
    exact ⟨by rw [tw, if_neg c27], rfl⟩
  · refine px_iconst (v := nI 1) rfl k_1 ?_
    refine px_goto rfl ?_
    refine px_ireturn rfl (.inl rfl) ?_
    exact ⟨by rw [tw, if_pos c27], rfl⟩
theorem vX3_joined_4 {I : Nat → Nat → Int32} {J : Nat → Nat → Int64} {p : Bool × Option Nat} {ro : List (Nat × Nat × (Nat → Int32))} {x y : Int32} : Pv 0 0 0 CX3_joined [.int (x), .int (nI 62), .int (y)] (gS, I, J, gR p, ro) (qI (tw 4 x y) (gS, I, J, gR p, ro)) := by
  refine ⟨okCX3_joined, Nat.le_of_ble_eq_true rfl, (show Px _ _ _ _ 0 [some (.int (x)), some (.int (nI 62)), some (.int (y))] [] _ _ from ?_)⟩
  refine px_iload_n (kk := 1) rfl rfl rfl ?_
  refine px_lookup rfl (.inl ⟨8, by decide, by decide, rfl⟩) ?_
  refine px_iload_n (kk := 0) rfl rfl rfl ?_
  refine px_iload_n (kk := 2) rfl rfl rfl ?_
  refine px_icmp_le rfl (fun c34 => ?_) (fun c34 => ?_)
  · refine px_iconst (v := nI 0) rfl k_0 ?_
    refine px_ireturn rfl (.inl rfl) ?_
    exact ⟨by rw [tw, if_neg (fun h => by rw [i_lt] at h; rw [i_le] at c34; omega)], rfl⟩
  · refine px_iconst (v := nI 1) rfl k_1 ?_
    refine px_goto rfl ?_
    refine px_ireturn rfl (.inl rfl) ?_
    exact ⟨by rw [tw, if_pos (by rw [i_lt]; rw [i_le] at c34; omega)], rfl⟩
theorem vX3_joined_5 {I : Nat → Nat → Int32} {J : Nat → Nat → Int64} {p : Bool × Option Nat} {ro : List (Nat × Nat × (Nat → Int32))} {x y : Int32} : Pv 0 0 0 CX3_joined [.int (x), .int (nI 43), .int (y)] (gS, I, J, gR p, ro) (qI (tw 5 x y) (gS, I, J, gR p, ro)) := by
  refine ⟨okCX3_joined, Nat.le_of_ble_eq_true rfl, (show Px _ _ _ _ 0 [some (.int (x)), some (.int (nI 43)), some (.int (y))] [] _ _ from ?_)⟩
  refine px_iload_n (kk := 1) rfl rfl rfl ?_
  refine px_lookup rfl (.inl ⟨3, by decide, by decide, rfl⟩) ?_
  refine px_iload_n (kk := 0) rfl rfl rfl ?_
  refine px_iload_n (kk := 2) rfl rfl rfl ?_
  refine px_iadd rfl ?_
  refine px_ireturn rfl (.inl rfl) ?_
  exact ⟨rfl, rfl⟩
theorem vX3_joined_6 {I : Nat → Nat → Int32} {J : Nat → Nat → Int64} {p : Bool × Option Nat} {ro : List (Nat × Nat × (Nat → Int32))} {x y : Int32} : Pv 0 0 0 CX3_joined [.int (x), .int (nI 45), .int (y)] (gS, I, J, gR p, ro) (qI (tw 6 x y) (gS, I, J, gR p, ro)) := by
  refine ⟨okCX3_joined, Nat.le_of_ble_eq_true rfl, (show Px _ _ _ _ 0 [some (.int (x)), some (.int (nI 45)), some (.int (y))] [] _ _ from ?_)⟩
  refine px_iload_n (kk := 1) rfl rfl rfl ?_
  refine px_lookup rfl (.inl ⟨4, by decide, by decide, rfl⟩) ?_
  refine px_iload_n (kk := 0) rfl rfl rfl ?_
  refine px_iload_n (kk := 2) rfl rfl rfl ?_
  refine px_isub rfl ?_
  refine px_ireturn rfl (.inl rfl) ?_
  exact ⟨rfl, rfl⟩
theorem vX3_joined_7 {I : Nat → Nat → Int32} {J : Nat → Nat → Int64} {p : Bool × Option Nat} {ro : List (Nat × Nat × (Nat → Int32))} {x y : Int32} : Pv 0 0 0 CX3_joined [.int (x), .int (nI 42), .int (y)] (gS, I, J, gR p, ro) (qI (tw 7 x y) (gS, I, J, gR p, ro)) := by
  refine ⟨okCX3_joined, Nat.le_of_ble_eq_true rfl, (show Px _ _ _ _ 0 [some (.int (x)), some (.int (nI 42)), some (.int (y))] [] _ _ from ?_)⟩
  refine px_iload_n (kk := 1) rfl rfl rfl ?_
  refine px_lookup rfl (.inl ⟨2, by decide, by decide, rfl⟩) ?_
  refine px_iload_n (kk := 0) rfl rfl rfl ?_
  refine px_iload_n (kk := 2) rfl rfl rfl ?_
  refine px_imul rfl ?_
  refine px_ireturn rfl (.inl rfl) ?_
  exact ⟨rfl, rfl⟩
theorem vX3_joined_8 {I : Nat → Nat → Int32} {J : Nat → Nat → Int64} {p : Bool × Option Nat} {ro : List (Nat × Nat × (Nat → Int32))} {x y : Int32} : Pv 0 0 0 CX3_joined [.int (x), .int (nI 47), .int (y)] (gS, I, J, gR p, ro) (qI (tw 8 x y) (gS, I, J, gR p, ro)) := by
  refine ⟨okCX3_joined, Nat.le_of_ble_eq_true rfl, (show Px _ _ _ _ 0 [some (.int (x)), some (.int (nI 47)), some (.int (y))] [] _ _ from ?_)⟩
  refine px_iload_n (kk := 1) rfl rfl rfl ?_
  refine px_lookup rfl (.inl ⟨5, by decide, by decide, rfl⟩) ?_
  refine px_iload_n (kk := 2) rfl rfl rfl ?_
  refine px_if_ne rfl (fun c52 => ?_) (fun c52 => ?_)
  · refine px_iload_n (kk := 0) rfl rfl rfl ?_
    refine px_iload_n (kk := 2) rfl rfl rfl ?_
    refine px_idiv rfl c52 ?_
    refine px_ireturn rfl (.inl rfl) ?_
    exact ⟨by rw [tw, if_neg c52], rfl⟩
  · refine px_iconst (v := nI 0) rfl k_0 ?_
    refine px_goto rfl ?_
    refine px_ireturn rfl (.inl rfl) ?_
    exact ⟨by rw [tw, if_pos c52], rfl⟩
theorem vX3_joined_9 {I : Nat → Nat → Int32} {J : Nat → Nat → Int64} {p : Bool × Option Nat} {ro : List (Nat × Nat × (Nat → Int32))} {x y : Int32} : Pv 0 0 0 CX3_joined [.int (x), .int (nI 37), .int (y)] (gS, I, J, gR p, ro) (qI (tw 9 x y) (gS, I, J, gR p, ro)) := by
  refine ⟨okCX3_joined, Nat.le_of_ble_eq_true rfl, (show Px _ _ _ _ 0 [some (.int (x)), some (.int (nI 37)), some (.int (y))] [] _ _ from ?_)⟩
  refine px_iload_n (kk := 1) rfl rfl rfl ?_
  refine px_lookup rfl (.inl ⟨0, by decide, by decide, rfl⟩) ?_
  refine px_iload_n (kk := 2) rfl rfl rfl ?_
  refine px_if_ne rfl (fun c60 => ?_) (fun c60 => ?_)
  · refine px_iload_n (kk := 0) rfl rfl rfl ?_
    refine px_iload_n (kk := 2) rfl rfl rfl ?_
    refine px_irem rfl c60 ?_
    refine px_ireturn rfl (.inl rfl) ?_
    exact ⟨by simp [tw, c60], rfl⟩
  · refine px_iconst (v := nI 0) rfl k_0 ?_
    refine px_goto rfl ?_
    refine px_ireturn rfl (.inl rfl) ?_
    exact ⟨by simp [tw, c60], rfl⟩
theorem lX3_num {I : Nat → Nat → Int32} {J : Nat → Nat → Int64} {p : Bool × Option Nat} {ro : List (Nat × Nat × (Nat → Int32))} {L k : Nat} (hL : I 6 6 = nI L) (hL2 : L ≤ 256) (hk : k < L) {g : Nat → Int32} {o : Option Value} {q : List Int32} {v : Nat} (hv : v < 10000) (hs : I (gA p.1) k = cT (0, v)) (hsg : SG g q) (h100 : (q : List Int32).length < 120) {Q : Option Value → pm_M → Prop} (kont : ∀ (g' : Nat → Int32) (x : Int32), SG g' (nI v :: q) → Px 1 0 0 CX3_run 4 [some (.ref 6), some (.int (nI (q.length + 1))), some (.int (nI (k + 1))), some (.int x)] [] (gS, (va_up I 8 g'), J, gR p, ro) Q) : Px 1 0 0 CX3_run 4 [some (.ref (6)), some (.int (nI q.length)), some (.int (nI k)), o] [] (gS, (va_up I 8 g), J, gR p, ro) (Q) := by
  refine px_iload_n (kk := 2) rfl rfl rfl ?_
  refine px_aload_n (kk := 0) rfl rfl rfl ?_
  refine px_getIe rfl gS_6 rfl ((congrFun (p_up_n _ _ (by decide)) 6).trans hL) ?_
  refine px_icmp_ge rfl (fun h => absurd h (nI_ge (by omega) (by omega))) (fun c7 => ?_)
  refine px_iload_n (kk := 2) rfl rfl rfl ?_
  refine px_sipush (v := nI 256) rfl s_256 ?_
  refine px_icmp_ge rfl (fun h => absurd h (nI_ge (by omega) (by omega))) (fun c10 => ?_)
  refine px_iload_n (kk := 1) rfl rfl rfl ?_
  refine px_bipush (v := nI 120) rfl b_120 ?_
  refine px_icmp_ge rfl (fun h => absurd h (nI_ge (by first | omega | (simp at h100; omega)) (by omega))) (fun c13 => ?_)
  refine px_aload_n (kk := 0) rfl rfl rfl ?_
  refine px_getR (r := (gA p.1)) rfl gS_6 rfl (gR_6_3 _) ?_
  refine px_iload_n (kk := 2) rfl rfl rfl ?_
  refine px_iald (j := k) rfl (gS_A p.1) rfl (by omega) ?_
  refine px_ineg rfl ?_
  refine px_ist3 rfl rfl (by decide) ?_
  refine px_l3 (y := -(nI v)) (by rw [p_up_n _ _ (gA_ne p.1).1, hs]; rfl) ?_
  refine px_iload_n (kk := 3) rfl rfl rfl ?_
  refine px_if_gt rfl (fun h => absurd h (fun z => by rw [i_lt, i_0, Int32.toInt_neg, nI_toInt (by omega)] at z; rw [Int.bmod_eq_of_le (by omega) (by omega)] at z; omega)) (fun c21 => ?_)
  refine px_aload_n (kk := 0) rfl rfl rfl ?_
  refine px_getR (r := 8) rfl gS_6 rfl (gR_6_2 _) ?_
  refine px_iload_n (kk := 1) rfl rfl rfl ?_
  refine px_iload_n (kk := 3) rfl rfl rfl ?_
  refine px_ineg rfl ?_
  refine px_iast (j := q.length) rfl gS_8 rfl (by omega) ?_
  refine px_iinc1 (v := nI (q.length + 1)) rfl (n_inc q.length) rfl (by decide) ?_
  refine px_goto rfl ?_
  refine px_iinc2 (v := nI (k + 1)) rfl (n_inc k) rfl (by decide) ?_
  refine px_goto rfl ?_
  rw [p_up_s, up2, Int32.neg_neg]
  exact kont _ _ (SG_push hsg)
theorem lX3_nam_0 {I : Nat → Nat → Int32} {J : Nat → Nat → Int64} {p : Bool × Option Nat} {ro : List (Nat × Nat × (Nat → Int32))} {L k : Nat} (hL : I 6 6 = nI L) (hL2 : L ≤ 256) (hk : k < L) {g : Nat → Int32} {o : Option Value} {q : List Int32} (hs : I (gA p.1) k = cT (1, 0)) (hsg : SG g q) (h100 : (q : List Int32).length < 120) {Q : Option Value → pm_M → Prop} (kont : ∀ (g' : Nat → Int32) (x : Int32), SG g' (fC I 0 :: q) → Px 1 0 0 CX3_run 4 [some (.ref 6), some (.int (nI (q.length + 1))), some (.int (nI (k + 1))), some (.int x)] [] (gS, (va_up I 8 g'), J, gR p, ro) Q) : Px 1 0 0 CX3_run 4 [some (.ref (6)), some (.int (nI q.length)), some (.int (nI k)), o] [] (gS, (va_up I 8 g), J, gR p, ro) (Q) := by
  refine px_iload_n (kk := 2) rfl rfl rfl ?_
  refine px_aload_n (kk := 0) rfl rfl rfl ?_
  refine px_getIe rfl gS_6 rfl ((congrFun (p_up_n _ _ (by decide)) 6).trans hL) ?_
  refine px_icmp_ge rfl (fun h => absurd h (nI_ge (by omega) (by omega))) (fun c7 => ?_)
  refine px_iload_n (kk := 2) rfl rfl rfl ?_
  refine px_sipush (v := nI 256) rfl s_256 ?_
  refine px_icmp_ge rfl (fun h => absurd h (nI_ge (by omega) (by omega))) (fun c10 => ?_)
  refine px_iload_n (kk := 1) rfl rfl rfl ?_
  refine px_bipush (v := nI 120) rfl b_120 ?_
  refine px_icmp_ge rfl (fun h => absurd h (nI_ge (by first | omega | (simp at h100; omega)) (by omega))) (fun c13 => ?_)
  refine px_aload_n (kk := 0) rfl rfl rfl ?_
  refine px_getR (r := (gA p.1)) rfl gS_6 rfl (gR_6_3 _) ?_
  refine px_iload_n (kk := 2) rfl rfl rfl ?_
  refine px_iald (j := k) rfl (gS_A p.1) rfl (by omega) ?_
  refine px_ineg rfl ?_
  refine px_ist3 rfl rfl (by decide) ?_
  refine px_l3 (y := nI 108) (by rw [p_up_n _ _ (gA_ne p.1).1, hs]; simp only [cT, nmC, Int32.neg_neg]) ?_
  refine px_iload_n (kk := 3) rfl rfl rfl ?_
  refine px_if_gt rfl (fun _ => ?_) (fun h => absurd h (by decide))
  refine px_iload_n (kk := 3) rfl rfl rfl ?_
  refine px_bipush (v := nI 97) rfl b_97 ?_
  refine px_icmp_lt rfl (fun h => absurd h (by decide)) (fun _ => ?_)
  refine px_iload_n (kk := 3) rfl rfl rfl ?_
  refine px_bipush (v := nI 122) rfl b_122 ?_
  refine px_icmp_gt rfl (fun h => absurd h (by decide)) (fun _ => ?_)
  refine px_aload_n (kk := 0) rfl rfl rfl ?_
  refine px_getR (r := 8) rfl gS_6 rfl (gR_6_2 _) ?_
  refine px_iload_n (kk := 1) rfl rfl rfl ?_
  refine px_aload_n (kk := 0) rfl rfl rfl ?_
  refine px_iload_n (kk := 3) rfl rfl rfl ?_
  refine px_callV0 CX3_named [.int _, .ref 8] [.int _] (vX3_named_0) rfl gS_6 (by decide) rfl rfl rfl (Nat.le_of_ble_eq_true rfl) (by decide) ?_
  rintro _ _ - ⟨rfl, rfl⟩
  refine px_iast (j := q.length) rfl gS_8 rfl (by omega) ?_
  refine px_iinc1 (v := nI (q.length + 1)) rfl (n_inc q.length) rfl (by decide) ?_
  refine px_goto rfl ?_
  refine px_iinc2 (v := nI (k + 1)) rfl (n_inc k) rfl (by decide) ?_
  refine px_goto rfl ?_
  rw [p_up_s, up2, show va_up I 8 g 6 9 = fC I 0 from by rw [p_up_n _ _ (by decide)]; rfl]
  exact kont _ _ (SG_push hsg)
theorem lX3_nam_1 {I : Nat → Nat → Int32} {J : Nat → Nat → Int64} {p : Bool × Option Nat} {ro : List (Nat × Nat × (Nat → Int32))} {L k : Nat} (hL : I 6 6 = nI L) (hL2 : L ≤ 256) (hk : k < L) {g : Nat → Int32} {o : Option Value} {q : List Int32} (hs : I (gA p.1) k = cT (1, 1)) (hsg : SG g q) (h100 : (q : List Int32).length < 120) {Q : Option Value → pm_M → Prop} (kont : ∀ (g' : Nat → Int32) (x : Int32), SG g' (fC I 1 :: q) → Px 1 0 0 CX3_run 4 [some (.ref 6), some (.int (nI (q.length + 1))), some (.int (nI (k + 1))), some (.int x)] [] (gS, (va_up I 8 g'), J, gR p, ro) Q) : Px 1 0 0 CX3_run 4 [some (.ref (6)), some (.int (nI q.length)), some (.int (nI k)), o] [] (gS, (va_up I 8 g), J, gR p, ro) (Q) := by
  refine px_iload_n (kk := 2) rfl rfl rfl ?_
  refine px_aload_n (kk := 0) rfl rfl rfl ?_
  refine px_getIe rfl gS_6 rfl ((congrFun (p_up_n _ _ (by decide)) 6).trans hL) ?_
  refine px_icmp_ge rfl (fun h => absurd h (nI_ge (by omega) (by omega))) (fun c7 => ?_)
  refine px_iload_n (kk := 2) rfl rfl rfl ?_
  refine px_sipush (v := nI 256) rfl s_256 ?_
  refine px_icmp_ge rfl (fun h => absurd h (nI_ge (by omega) (by omega))) (fun c10 => ?_)
  refine px_iload_n (kk := 1) rfl rfl rfl ?_
  refine px_bipush (v := nI 120) rfl b_120 ?_
  refine px_icmp_ge rfl (fun h => absurd h (nI_ge (by first | omega | (simp at h100; omega)) (by omega))) (fun c13 => ?_)
  refine px_aload_n (kk := 0) rfl rfl rfl ?_
  refine px_getR (r := (gA p.1)) rfl gS_6 rfl (gR_6_3 _) ?_
  refine px_iload_n (kk := 2) rfl rfl rfl ?_
  refine px_iald (j := k) rfl (gS_A p.1) rfl (by omega) ?_
  refine px_ineg rfl ?_
  refine px_ist3 rfl rfl (by decide) ?_
  refine px_l3 (y := nI 119) (by rw [p_up_n _ _ (gA_ne p.1).1, hs]; simp only [cT, nmC, Int32.neg_neg]) ?_
  refine px_iload_n (kk := 3) rfl rfl rfl ?_
  refine px_if_gt rfl (fun _ => ?_) (fun h => absurd h (by decide))
  refine px_iload_n (kk := 3) rfl rfl rfl ?_
  refine px_bipush (v := nI 97) rfl b_97 ?_
  refine px_icmp_lt rfl (fun h => absurd h (by decide)) (fun _ => ?_)
  refine px_iload_n (kk := 3) rfl rfl rfl ?_
  refine px_bipush (v := nI 122) rfl b_122 ?_
  refine px_icmp_gt rfl (fun h => absurd h (by decide)) (fun _ => ?_)
  refine px_aload_n (kk := 0) rfl rfl rfl ?_
  refine px_getR (r := 8) rfl gS_6 rfl (gR_6_2 _) ?_
  refine px_iload_n (kk := 1) rfl rfl rfl ?_
  refine px_aload_n (kk := 0) rfl rfl rfl ?_
  refine px_iload_n (kk := 3) rfl rfl rfl ?_
  refine px_callV0 CX3_named [.int _, .ref 8] [.int _] (vX3_named_1) rfl gS_6 (by decide) rfl rfl rfl (Nat.le_of_ble_eq_true rfl) (by decide) ?_
  rintro _ _ - ⟨rfl, rfl⟩
  refine px_iast (j := q.length) rfl gS_8 rfl (by omega) ?_
  refine px_iinc1 (v := nI (q.length + 1)) rfl (n_inc q.length) rfl (by decide) ?_
  refine px_goto rfl ?_
  refine px_iinc2 (v := nI (k + 1)) rfl (n_inc k) rfl (by decide) ?_
  refine px_goto rfl ?_
  rw [p_up_s, up2, show va_up I 8 g 6 10 = fC I 1 from by rw [p_up_n _ _ (by decide)]; rfl]
  exact kont _ _ (SG_push hsg)
theorem lX3_nam_2 {I : Nat → Nat → Int32} {J : Nat → Nat → Int64} {p : Bool × Option Nat} {ro : List (Nat × Nat × (Nat → Int32))} {L k : Nat} (hL : I 6 6 = nI L) (hL2 : L ≤ 256) (hk : k < L) {g : Nat → Int32} {o : Option Value} {q : List Int32} (hs : I (gA p.1) k = cT (1, 2)) (hsg : SG g q) (h100 : (q : List Int32).length < 120) {Q : Option Value → pm_M → Prop} (kont : ∀ (g' : Nat → Int32) (x : Int32), SG g' (fC I 2 :: q) → Px 1 0 0 CX3_run 4 [some (.ref 6), some (.int (nI (q.length + 1))), some (.int (nI (k + 1))), some (.int x)] [] (gS, (va_up I 8 g'), J, gR p, ro) Q) : Px 1 0 0 CX3_run 4 [some (.ref (6)), some (.int (nI q.length)), some (.int (nI k)), o] [] (gS, (va_up I 8 g), J, gR p, ro) (Q) := by
  refine px_iload_n (kk := 2) rfl rfl rfl ?_
  refine px_aload_n (kk := 0) rfl rfl rfl ?_
  refine px_getIe rfl gS_6 rfl ((congrFun (p_up_n _ _ (by decide)) 6).trans hL) ?_
  refine px_icmp_ge rfl (fun h => absurd h (nI_ge (by omega) (by omega))) (fun c7 => ?_)
  refine px_iload_n (kk := 2) rfl rfl rfl ?_
  refine px_sipush (v := nI 256) rfl s_256 ?_
  refine px_icmp_ge rfl (fun h => absurd h (nI_ge (by omega) (by omega))) (fun c10 => ?_)
  refine px_iload_n (kk := 1) rfl rfl rfl ?_
  refine px_bipush (v := nI 120) rfl b_120 ?_
  refine px_icmp_ge rfl (fun h => absurd h (nI_ge (by first | omega | (simp at h100; omega)) (by omega))) (fun c13 => ?_)
  refine px_aload_n (kk := 0) rfl rfl rfl ?_
  refine px_getR (r := (gA p.1)) rfl gS_6 rfl (gR_6_3 _) ?_
  refine px_iload_n (kk := 2) rfl rfl rfl ?_
  refine px_iald (j := k) rfl (gS_A p.1) rfl (by omega) ?_
  refine px_ineg rfl ?_
  refine px_ist3 rfl rfl (by decide) ?_
  refine px_l3 (y := nI 111) (by rw [p_up_n _ _ (gA_ne p.1).1, hs]; simp only [cT, nmC, Int32.neg_neg]) ?_
  refine px_iload_n (kk := 3) rfl rfl rfl ?_
  refine px_if_gt rfl (fun _ => ?_) (fun h => absurd h (by decide))
  refine px_iload_n (kk := 3) rfl rfl rfl ?_
  refine px_bipush (v := nI 97) rfl b_97 ?_
  refine px_icmp_lt rfl (fun h => absurd h (by decide)) (fun _ => ?_)
  refine px_iload_n (kk := 3) rfl rfl rfl ?_
  refine px_bipush (v := nI 122) rfl b_122 ?_
  refine px_icmp_gt rfl (fun h => absurd h (by decide)) (fun _ => ?_)
  refine px_aload_n (kk := 0) rfl rfl rfl ?_
  refine px_getR (r := 8) rfl gS_6 rfl (gR_6_2 _) ?_
  refine px_iload_n (kk := 1) rfl rfl rfl ?_
  refine px_aload_n (kk := 0) rfl rfl rfl ?_
  refine px_iload_n (kk := 3) rfl rfl rfl ?_
  refine px_callV0 CX3_named [.int _, .ref 8] [.int _] (vX3_named_2) rfl gS_6 (by decide) rfl rfl rfl (Nat.le_of_ble_eq_true rfl) (by decide) ?_
  rintro _ _ - ⟨rfl, rfl⟩
  refine px_iast (j := q.length) rfl gS_8 rfl (by omega) ?_
  refine px_iinc1 (v := nI (q.length + 1)) rfl (n_inc q.length) rfl (by decide) ?_
  refine px_goto rfl ?_
  refine px_iinc2 (v := nI (k + 1)) rfl (n_inc k) rfl (by decide) ?_
  refine px_goto rfl ?_
  rw [p_up_s, up2, show va_up I 8 g 6 11 = fC I 2 from by rw [p_up_n _ _ (by decide)]; rfl]
  exact kont _ _ (SG_push hsg)
theorem lX3_nam_3 {I : Nat → Nat → Int32} {J : Nat → Nat → Int64} {p : Bool × Option Nat} {ro : List (Nat × Nat × (Nat → Int32))} {L k : Nat} (hL : I 6 6 = nI L) (hL2 : L ≤ 256) (hk : k < L) {g : Nat → Int32} {o : Option Value} {q : List Int32} (hs : I (gA p.1) k = cT (1, 3)) (hsg : SG g q) (h100 : (q : List Int32).length < 120) {Q : Option Value → pm_M → Prop} (kont : ∀ (g' : Nat → Int32) (x : Int32), SG g' (fC I 3 :: q) → Px 1 0 0 CX3_run 4 [some (.ref 6), some (.int (nI (q.length + 1))), some (.int (nI (k + 1))), some (.int x)] [] (gS, (va_up I 8 g'), J, gR p, ro) Q) : Px 1 0 0 CX3_run 4 [some (.ref (6)), some (.int (nI q.length)), some (.int (nI k)), o] [] (gS, (va_up I 8 g), J, gR p, ro) (Q) := by
  refine px_iload_n (kk := 2) rfl rfl rfl ?_
  refine px_aload_n (kk := 0) rfl rfl rfl ?_
  refine px_getIe rfl gS_6 rfl ((congrFun (p_up_n _ _ (by decide)) 6).trans hL) ?_
  refine px_icmp_ge rfl (fun h => absurd h (nI_ge (by omega) (by omega))) (fun c7 => ?_)
  refine px_iload_n (kk := 2) rfl rfl rfl ?_
  refine px_sipush (v := nI 256) rfl s_256 ?_
  refine px_icmp_ge rfl (fun h => absurd h (nI_ge (by omega) (by omega))) (fun c10 => ?_)
  refine px_iload_n (kk := 1) rfl rfl rfl ?_
  refine px_bipush (v := nI 120) rfl b_120 ?_
  refine px_icmp_ge rfl (fun h => absurd h (nI_ge (by first | omega | (simp at h100; omega)) (by omega))) (fun c13 => ?_)
  refine px_aload_n (kk := 0) rfl rfl rfl ?_
  refine px_getR (r := (gA p.1)) rfl gS_6 rfl (gR_6_3 _) ?_
  refine px_iload_n (kk := 2) rfl rfl rfl ?_
  refine px_iald (j := k) rfl (gS_A p.1) rfl (by omega) ?_
  refine px_ineg rfl ?_
  refine px_ist3 rfl rfl (by decide) ?_
  refine px_l3 (y := nI 104) (by rw [p_up_n _ _ (gA_ne p.1).1, hs]; simp only [cT, nmC, Int32.neg_neg]) ?_
  refine px_iload_n (kk := 3) rfl rfl rfl ?_
  refine px_if_gt rfl (fun _ => ?_) (fun h => absurd h (by decide))
  refine px_iload_n (kk := 3) rfl rfl rfl ?_
  refine px_bipush (v := nI 97) rfl b_97 ?_
  refine px_icmp_lt rfl (fun h => absurd h (by decide)) (fun _ => ?_)
  refine px_iload_n (kk := 3) rfl rfl rfl ?_
  refine px_bipush (v := nI 122) rfl b_122 ?_
  refine px_icmp_gt rfl (fun h => absurd h (by decide)) (fun _ => ?_)
  refine px_aload_n (kk := 0) rfl rfl rfl ?_
  refine px_getR (r := 8) rfl gS_6 rfl (gR_6_2 _) ?_
  refine px_iload_n (kk := 1) rfl rfl rfl ?_
  refine px_aload_n (kk := 0) rfl rfl rfl ?_
  refine px_iload_n (kk := 3) rfl rfl rfl ?_
  refine px_callV0 CX3_named [.int _, .ref 8] [.int _] (vX3_named_3) rfl gS_6 (by decide) rfl rfl rfl (Nat.le_of_ble_eq_true rfl) (by decide) ?_
  rintro _ _ - ⟨rfl, rfl⟩
  refine px_iast (j := q.length) rfl gS_8 rfl (by omega) ?_
  refine px_iinc1 (v := nI (q.length + 1)) rfl (n_inc q.length) rfl (by decide) ?_
  refine px_goto rfl ?_
  refine px_iinc2 (v := nI (k + 1)) rfl (n_inc k) rfl (by decide) ?_
  refine px_goto rfl ?_
  rw [p_up_s, up2, show va_up I 8 g 6 12 = fC I 3 from by rw [p_up_n _ _ (by decide)]; rfl]
  exact kont _ _ (SG_push hsg)
theorem lX3_nam_4 {I : Nat → Nat → Int32} {J : Nat → Nat → Int64} {p : Bool × Option Nat} {ro : List (Nat × Nat × (Nat → Int32))} {L k : Nat} (hL : I 6 6 = nI L) (hL2 : L ≤ 256) (hk : k < L) {g : Nat → Int32} {o : Option Value} {q : List Int32} (hs : I (gA p.1) k = cT (1, 4)) (hsg : SG g q) (h100 : (q : List Int32).length < 120) {Q : Option Value → pm_M → Prop} (kont : ∀ (g' : Nat → Int32) (x : Int32), SG g' (fC I 4 :: q) → Px 1 0 0 CX3_run 4 [some (.ref 6), some (.int (nI (q.length + 1))), some (.int (nI (k + 1))), some (.int x)] [] (gS, (va_up I 8 g'), J, gR p, ro) Q) : Px 1 0 0 CX3_run 4 [some (.ref (6)), some (.int (nI q.length)), some (.int (nI k)), o] [] (gS, (va_up I 8 g), J, gR p, ro) (Q) := by
  refine px_iload_n (kk := 2) rfl rfl rfl ?_
  refine px_aload_n (kk := 0) rfl rfl rfl ?_
  refine px_getIe rfl gS_6 rfl ((congrFun (p_up_n _ _ (by decide)) 6).trans hL) ?_
  refine px_icmp_ge rfl (fun h => absurd h (nI_ge (by omega) (by omega))) (fun c7 => ?_)
  refine px_iload_n (kk := 2) rfl rfl rfl ?_
  refine px_sipush (v := nI 256) rfl s_256 ?_
  refine px_icmp_ge rfl (fun h => absurd h (nI_ge (by omega) (by omega))) (fun c10 => ?_)
  refine px_iload_n (kk := 1) rfl rfl rfl ?_
  refine px_bipush (v := nI 120) rfl b_120 ?_
  refine px_icmp_ge rfl (fun h => absurd h (nI_ge (by first | omega | (simp at h100; omega)) (by omega))) (fun c13 => ?_)
  refine px_aload_n (kk := 0) rfl rfl rfl ?_
  refine px_getR (r := (gA p.1)) rfl gS_6 rfl (gR_6_3 _) ?_
  refine px_iload_n (kk := 2) rfl rfl rfl ?_
  refine px_iald (j := k) rfl (gS_A p.1) rfl (by omega) ?_
  refine px_ineg rfl ?_
  refine px_ist3 rfl rfl (by decide) ?_
  refine px_l3 (y := nI 99) (by rw [p_up_n _ _ (gA_ne p.1).1, hs]; simp only [cT, nmC, Int32.neg_neg]) ?_
  refine px_iload_n (kk := 3) rfl rfl rfl ?_
  refine px_if_gt rfl (fun _ => ?_) (fun h => absurd h (by decide))
  refine px_iload_n (kk := 3) rfl rfl rfl ?_
  refine px_bipush (v := nI 97) rfl b_97 ?_
  refine px_icmp_lt rfl (fun h => absurd h (by decide)) (fun _ => ?_)
  refine px_iload_n (kk := 3) rfl rfl rfl ?_
  refine px_bipush (v := nI 122) rfl b_122 ?_
  refine px_icmp_gt rfl (fun h => absurd h (by decide)) (fun _ => ?_)
  refine px_aload_n (kk := 0) rfl rfl rfl ?_
  refine px_getR (r := 8) rfl gS_6 rfl (gR_6_2 _) ?_
  refine px_iload_n (kk := 1) rfl rfl rfl ?_
  refine px_aload_n (kk := 0) rfl rfl rfl ?_
  refine px_iload_n (kk := 3) rfl rfl rfl ?_
  refine px_callV0 CX3_named [.int _, .ref 8] [.int _] (vX3_named_4) rfl gS_6 (by decide) rfl rfl rfl (Nat.le_of_ble_eq_true rfl) (by decide) ?_
  rintro _ _ - ⟨rfl, rfl⟩
  refine px_iast (j := q.length) rfl gS_8 rfl (by omega) ?_
  refine px_iinc1 (v := nI (q.length + 1)) rfl (n_inc q.length) rfl (by decide) ?_
  refine px_goto rfl ?_
  refine px_iinc2 (v := nI (k + 1)) rfl (n_inc k) rfl (by decide) ?_
  refine px_goto rfl ?_
  rw [p_up_s, up2, show va_up I 8 g 1 6 = fC I 4 from by rw [p_up_n _ _ (by decide)]; rfl]
  exact kont _ _ (SG_push hsg)
theorem lX3_nam_5 {I : Nat → Nat → Int32} {J : Nat → Nat → Int64} {p : Bool × Option Nat} {ro : List (Nat × Nat × (Nat → Int32))} {L k : Nat} (hL : I 6 6 = nI L) (hL2 : L ≤ 256) (hk : k < L) {g : Nat → Int32} {o : Option Value} {q : List Int32} (hs : I (gA p.1) k = cT (1, 5)) (hsg : SG g q) (h100 : (q : List Int32).length < 120) {Q : Option Value → pm_M → Prop} (kont : ∀ (g' : Nat → Int32) (x : Int32), SG g' (fC I 5 :: q) → Px 1 0 0 CX3_run 4 [some (.ref 6), some (.int (nI (q.length + 1))), some (.int (nI (k + 1))), some (.int x)] [] (gS, (va_up I 8 g'), J, gR p, ro) Q) : Px 1 0 0 CX3_run 4 [some (.ref (6)), some (.int (nI q.length)), some (.int (nI k)), o] [] (gS, (va_up I 8 g), J, gR p, ro) (Q) := by
  refine px_iload_n (kk := 2) rfl rfl rfl ?_
  refine px_aload_n (kk := 0) rfl rfl rfl ?_
  refine px_getIe rfl gS_6 rfl ((congrFun (p_up_n _ _ (by decide)) 6).trans hL) ?_
  refine px_icmp_ge rfl (fun h => absurd h (nI_ge (by omega) (by omega))) (fun c7 => ?_)
  refine px_iload_n (kk := 2) rfl rfl rfl ?_
  refine px_sipush (v := nI 256) rfl s_256 ?_
  refine px_icmp_ge rfl (fun h => absurd h (nI_ge (by omega) (by omega))) (fun c10 => ?_)
  refine px_iload_n (kk := 1) rfl rfl rfl ?_
  refine px_bipush (v := nI 120) rfl b_120 ?_
  refine px_icmp_ge rfl (fun h => absurd h (nI_ge (by first | omega | (simp at h100; omega)) (by omega))) (fun c13 => ?_)
  refine px_aload_n (kk := 0) rfl rfl rfl ?_
  refine px_getR (r := (gA p.1)) rfl gS_6 rfl (gR_6_3 _) ?_
  refine px_iload_n (kk := 2) rfl rfl rfl ?_
  refine px_iald (j := k) rfl (gS_A p.1) rfl (by omega) ?_
  refine px_ineg rfl ?_
  refine px_ist3 rfl rfl (by decide) ?_
  refine px_l3 (y := nI 112) (by rw [p_up_n _ _ (gA_ne p.1).1, hs]; simp only [cT, nmC, Int32.neg_neg]) ?_
  refine px_iload_n (kk := 3) rfl rfl rfl ?_
  refine px_if_gt rfl (fun _ => ?_) (fun h => absurd h (by decide))
  refine px_iload_n (kk := 3) rfl rfl rfl ?_
  refine px_bipush (v := nI 97) rfl b_97 ?_
  refine px_icmp_lt rfl (fun h => absurd h (by decide)) (fun _ => ?_)
  refine px_iload_n (kk := 3) rfl rfl rfl ?_
  refine px_bipush (v := nI 122) rfl b_122 ?_
  refine px_icmp_gt rfl (fun h => absurd h (by decide)) (fun _ => ?_)
  refine px_aload_n (kk := 0) rfl rfl rfl ?_
  refine px_getR (r := 8) rfl gS_6 rfl (gR_6_2 _) ?_
  refine px_iload_n (kk := 1) rfl rfl rfl ?_
  refine px_aload_n (kk := 0) rfl rfl rfl ?_
  refine px_iload_n (kk := 3) rfl rfl rfl ?_
  refine px_callV0 CX3_named [.int _, .ref 8] [.int _] (vX3_named_5) rfl gS_6 (by decide) rfl rfl rfl (Nat.le_of_ble_eq_true rfl) (by decide) ?_
  rintro _ _ - ⟨rfl, rfl⟩
  refine px_iast (j := q.length) rfl gS_8 rfl (by omega) ?_
  refine px_iinc1 (v := nI (q.length + 1)) rfl (n_inc q.length) rfl (by decide) ?_
  refine px_goto rfl ?_
  refine px_iinc2 (v := nI (k + 1)) rfl (n_inc k) rfl (by decide) ?_
  refine px_goto rfl ?_
  rw [p_up_s, up2, show va_up I 8 g 6 13 = fC I 5 from by rw [p_up_n _ _ (by decide)]; rfl]
  exact kont _ _ (SG_push hsg)
theorem lX3_un_0 {I : Nat → Nat → Int32} {J : Nat → Nat → Int64} {p : Bool × Option Nat} {ro : List (Nat × Nat × (Nat → Int32))} {L k : Nat} (hL : I 6 6 = nI L) (hL2 : L ≤ 256) (hk : k < L) {g : Nat → Int32} {o : Option Value} {q : List Int32} {a : Int32} (hs : I (gA p.1) k = cT (2, 0)) (hsg : SG g (a :: q)) (h100 : ((a :: q) : List Int32).length < 120) {Q : Option Value → pm_M → Prop} (kont : ∀ (g' : Nat → Int32) (x : Int32), SG g' ((if (0 : Nat) = 0 then (if a = 0 then nI 1 else nI 0) else -a) :: q) → Px 1 0 0 CX3_run 4 [some (.ref 6), some (.int (nI (q.length + 1))), some (.int (nI (k + 1))), some (.int x)] [] (gS, (va_up I 8 g'), J, gR p, ro) Q) : Px 1 0 0 CX3_run 4 [some (.ref (6)), some (.int (nI (q.length + 1))), some (.int (nI k)), o] [] (gS, (va_up I 8 g), J, gR p, ro) (Q) := by
  refine px_iload_n (kk := 2) rfl rfl rfl ?_
  refine px_aload_n (kk := 0) rfl rfl rfl ?_
  refine px_getIe rfl gS_6 rfl ((congrFun (p_up_n _ _ (by decide)) 6).trans hL) ?_
  refine px_icmp_ge rfl (fun h => absurd h (nI_ge (by omega) (by omega))) (fun c7 => ?_)
  refine px_iload_n (kk := 2) rfl rfl rfl ?_
  refine px_sipush (v := nI 256) rfl s_256 ?_
  refine px_icmp_ge rfl (fun h => absurd h (nI_ge (by omega) (by omega))) (fun c10 => ?_)
  refine px_iload_n (kk := 1) rfl rfl rfl ?_
  refine px_bipush (v := nI 120) rfl b_120 ?_
  refine px_icmp_ge rfl (fun h => absurd h (nI_ge (by first | omega | (simp at h100; omega)) (by omega))) (fun c13 => ?_)
  refine px_aload_n (kk := 0) rfl rfl rfl ?_
  refine px_getR (r := (gA p.1)) rfl gS_6 rfl (gR_6_3 _) ?_
  refine px_iload_n (kk := 2) rfl rfl rfl ?_
  refine px_iald (j := k) rfl (gS_A p.1) rfl (by omega) ?_
  refine px_ineg rfl ?_
  refine px_ist3 rfl rfl (by decide) ?_
  refine px_l3 (y := nI 33) (by rw [p_up_n _ _ (gA_ne p.1).1, hs]; simp [cT, Int32.neg_neg]) ?_
  refine px_iload_n (kk := 3) rfl rfl rfl ?_
  refine px_if_gt rfl (fun _ => ?_) (fun h => absurd h (by decide))
  refine px_iload_n (kk := 3) rfl rfl rfl ?_
  refine px_bipush (v := nI 97) rfl b_97 ?_
  refine px_icmp_lt rfl (fun _ => ?_) (fun h => absurd h (by decide))
  refine px_iload_n (kk := 1) rfl rfl rfl ?_
  refine px_iconst (v := nI 1) rfl k_1 ?_
  refine px_icmp_ge rfl (fun c47 => ?_) (fun h => absurd (nI_le (by omega) (by first | omega | (simp at h100; omega))) h)
  refine px_iload_n (kk := 3) rfl rfl rfl ?_
  refine px_bipush (v := nI 59) rfl b_59 ?_
  refine px_icmp_ne rfl (fun _ => ?_) (fun h => absurd h (by decide))
  refine px_iload_n (kk := 3) rfl rfl rfl ?_
  refine px_bipush (v := nI 63) rfl b_63 ?_
  refine px_icmp_ne rfl (fun _ => ?_) (fun h => absurd h (by decide))
  refine px_iload_n (kk := 3) rfl rfl rfl ?_
  refine px_bipush (v := nI 33) rfl b_33 ?_
  refine px_icmp_eq rfl (fun _ => ?_) (fun h => absurd h (by decide))
  refine px_aload_n (kk := 0) rfl rfl rfl ?_
  refine px_getR (r := 8) rfl gS_6 rfl (gR_6_2 _) ?_
  refine px_iload_n (kk := 1) rfl rfl rfl ?_
  refine px_iconst (v := nI 1) rfl k_1 ?_
  refine px_isubN rfl (by omega) ?_
  refine px_iload_n (kk := 3) rfl rfl rfl ?_
  refine px_bipush (v := nI 126) rfl b_126 ?_
  refine px_icmp_ne rfl (fun _ => ?_) (fun h => absurd h (by decide))
  refine px_aload_n (kk := 0) rfl rfl rfl ?_
  refine px_getR (r := 8) rfl gS_6 rfl (gR_6_2 _) ?_
  refine px_iload_n (kk := 1) rfl rfl rfl ?_
  refine px_iconst (v := nI 1) rfl k_1 ?_
  refine px_isubN rfl (by omega) ?_
  refine px_iald (j := q.length) rfl gS_8 (by congr 1) (by first | omega | (simp at h100; omega)) ?_
  refine px_if_ne rfl (fun c106 => ?_) (fun c106 => ?_)
  · refine px_iconst (v := nI 0) rfl k_0 ?_
    refine px_iast (j := q.length) rfl gS_8 (by congr 1) (by first | omega | (simp at h100; omega)) ?_
    refine px_goto rfl ?_
    refine px_iinc2 (v := nI (k + 1)) rfl (n_inc k) rfl (by decide) ?_
    refine px_goto rfl ?_
    rw [p_up_s, up2]
    rw [p_up_s, hsg.1] at c106
    exact kont _ _ (by simp only [if_true, if_neg c106]; exact SG_up hsg.2 (Nat.le_refl _) |> fun z => ⟨p_up_s _ _ _, z⟩)
  · refine px_iconst (v := nI 1) rfl k_1 ?_
    refine px_goto rfl ?_
    refine px_iast (j := q.length) rfl gS_8 (by congr 1) (by first | omega | (simp at h100; omega)) ?_
    refine px_goto rfl ?_
    refine px_iinc2 (v := nI (k + 1)) rfl (n_inc k) rfl (by decide) ?_
    refine px_goto rfl ?_
    rw [p_up_s, up2]
    rw [p_up_s, hsg.1] at c106
    exact kont _ _ (by simp only [if_true, if_pos c106]; exact SG_up hsg.2 (Nat.le_refl _) |> fun z => ⟨p_up_s _ _ _, z⟩)
theorem lX3_un_1 {I : Nat → Nat → Int32} {J : Nat → Nat → Int64} {p : Bool × Option Nat} {ro : List (Nat × Nat × (Nat → Int32))} {L k : Nat} (hL : I 6 6 = nI L) (hL2 : L ≤ 256) (hk : k < L) {g : Nat → Int32} {o : Option Value} {q : List Int32} {a : Int32} (hs : I (gA p.1) k = cT (2, 1)) (hsg : SG g (a :: q)) (h100 : ((a :: q) : List Int32).length < 120) {Q : Option Value → pm_M → Prop} (kont : ∀ (g' : Nat → Int32) (x : Int32), SG g' ((if (1 : Nat) = 0 then (if a = 0 then nI 1 else nI 0) else -a) :: q) → Px 1 0 0 CX3_run 4 [some (.ref 6), some (.int (nI (q.length + 1))), some (.int (nI (k + 1))), some (.int x)] [] (gS, (va_up I 8 g'), J, gR p, ro) Q) : Px 1 0 0 CX3_run 4 [some (.ref (6)), some (.int (nI (q.length + 1))), some (.int (nI k)), o] [] (gS, (va_up I 8 g), J, gR p, ro) (Q) := by
  refine px_iload_n (kk := 2) rfl rfl rfl ?_
  refine px_aload_n (kk := 0) rfl rfl rfl ?_
  refine px_getIe rfl gS_6 rfl ((congrFun (p_up_n _ _ (by decide)) 6).trans hL) ?_
  refine px_icmp_ge rfl (fun h => absurd h (nI_ge (by omega) (by omega))) (fun c7 => ?_)
  refine px_iload_n (kk := 2) rfl rfl rfl ?_
  refine px_sipush (v := nI 256) rfl s_256 ?_
  refine px_icmp_ge rfl (fun h => absurd h (nI_ge (by omega) (by omega))) (fun c10 => ?_)
  refine px_iload_n (kk := 1) rfl rfl rfl ?_
  refine px_bipush (v := nI 120) rfl b_120 ?_
  refine px_icmp_ge rfl (fun h => absurd h (nI_ge (by first | omega | (simp at h100; omega)) (by omega))) (fun c13 => ?_)
  refine px_aload_n (kk := 0) rfl rfl rfl ?_
  refine px_getR (r := (gA p.1)) rfl gS_6 rfl (gR_6_3 _) ?_
  refine px_iload_n (kk := 2) rfl rfl rfl ?_
  refine px_iald (j := k) rfl (gS_A p.1) rfl (by omega) ?_
  refine px_ineg rfl ?_
  refine px_ist3 rfl rfl (by decide) ?_
  refine px_l3 (y := nI 126) (by rw [p_up_n _ _ (gA_ne p.1).1, hs]; simp [cT, Int32.neg_neg]) ?_
  refine px_iload_n (kk := 3) rfl rfl rfl ?_
  refine px_if_gt rfl (fun _ => ?_) (fun h => absurd h (by decide))
  refine px_iload_n (kk := 3) rfl rfl rfl ?_
  refine px_bipush (v := nI 97) rfl b_97 ?_
  refine px_icmp_lt rfl (fun h => absurd h (by decide)) (fun _ => ?_)
  refine px_iload_n (kk := 3) rfl rfl rfl ?_
  refine px_bipush (v := nI 122) rfl b_122 ?_
  refine px_icmp_gt rfl (fun _ => ?_) (fun h => absurd h (by decide))
  refine px_iload_n (kk := 1) rfl rfl rfl ?_
  refine px_iconst (v := nI 1) rfl k_1 ?_
  refine px_icmp_ge rfl (fun c47 => ?_) (fun h => absurd (nI_le (by omega) (by first | omega | (simp at h100; omega))) h)
  refine px_iload_n (kk := 3) rfl rfl rfl ?_
  refine px_bipush (v := nI 59) rfl b_59 ?_
  refine px_icmp_ne rfl (fun _ => ?_) (fun h => absurd h (by decide))
  refine px_iload_n (kk := 3) rfl rfl rfl ?_
  refine px_bipush (v := nI 63) rfl b_63 ?_
  refine px_icmp_ne rfl (fun _ => ?_) (fun h => absurd h (by decide))
  refine px_iload_n (kk := 3) rfl rfl rfl ?_
  refine px_bipush (v := nI 33) rfl b_33 ?_
  refine px_icmp_eq rfl (fun h => absurd h (by decide)) (fun _ => ?_)
  refine px_iload_n (kk := 3) rfl rfl rfl ?_
  refine px_bipush (v := nI 126) rfl b_126 ?_
  refine px_icmp_ne rfl (fun h => absurd h (by decide)) (fun _ => ?_)
  refine px_aload_n (kk := 0) rfl rfl rfl ?_
  refine px_getR (r := 8) rfl gS_6 rfl (gR_6_2 _) ?_
  refine px_iload_n (kk := 1) rfl rfl rfl ?_
  refine px_iconst (v := nI 1) rfl k_1 ?_
  refine px_isubN rfl (by omega) ?_
  refine px_iload_n (kk := 3) rfl rfl rfl ?_
  refine px_bipush (v := nI 126) rfl b_126 ?_
  refine px_icmp_ne rfl (fun h => absurd h (by decide)) (fun _ => ?_)
  refine px_aload_n (kk := 0) rfl rfl rfl ?_
  refine px_getR (r := 8) rfl gS_6 rfl (gR_6_2 _) ?_
  refine px_iload_n (kk := 1) rfl rfl rfl ?_
  refine px_iconst (v := nI 1) rfl k_1 ?_
  refine px_isubN rfl (by omega) ?_
  refine px_iald (j := q.length) rfl gS_8 (by congr 1) (by first | omega | (simp at h100; omega)) ?_
  refine px_ineg rfl ?_
  refine px_goto rfl ?_
  refine px_iast (j := q.length) rfl gS_8 (by congr 1) (by first | omega | (simp at h100; omega)) ?_
  refine px_goto rfl ?_
  refine px_iinc2 (v := nI (k + 1)) rfl (n_inc k) rfl (by decide) ?_
  refine px_goto rfl ?_
  rw [p_up_s, up2, hsg.1]
  exact kont _ _ (by rw [if_neg (by decide)]; exact SG_up hsg.2 (Nat.le_refl _) |> fun z => ⟨p_up_s _ _ _, z⟩)
theorem lX3_bin_0 {I : Nat → Nat → Int32} {J : Nat → Nat → Int64} {p : Bool × Option Nat} {ro : List (Nat × Nat × (Nat → Int32))} {L k : Nat} (hL : I 6 6 = nI L) (hL2 : L ≤ 256) (hk : k < L) {g : Nat → Int32} {o : Option Value} {q : List Int32} {a b : Int32} (hs : I (gA p.1) k = cT (3, 0)) (hsg : SG g (b :: a :: q)) (h100 : ((b :: a :: q) : List Int32).length < 120) {Q : Option Value → pm_M → Prop} (kont : ∀ (g' : Nat → Int32) (x : Int32), SG g' (tw 0 a b :: q) → Px 1 0 0 CX3_run 4 [some (.ref 6), some (.int (nI (q.length + 1))), some (.int (nI (k + 1))), some (.int x)] [] (gS, (va_up I 8 g'), J, gR p, ro) Q) : Px 1 0 0 CX3_run 4 [some (.ref (6)), some (.int (nI (q.length + 1 + 1))), some (.int (nI k)), o] [] (gS, (va_up I 8 g), J, gR p, ro) (Q) := by
  refine px_iload_n (kk := 2) rfl rfl rfl ?_
  refine px_aload_n (kk := 0) rfl rfl rfl ?_
  refine px_getIe rfl gS_6 rfl ((congrFun (p_up_n _ _ (by decide)) 6).trans hL) ?_
  refine px_icmp_ge rfl (fun h => absurd h (nI_ge (by omega) (by omega))) (fun c7 => ?_)
  refine px_iload_n (kk := 2) rfl rfl rfl ?_
  refine px_sipush (v := nI 256) rfl s_256 ?_
  refine px_icmp_ge rfl (fun h => absurd h (nI_ge (by omega) (by omega))) (fun c10 => ?_)
  refine px_iload_n (kk := 1) rfl rfl rfl ?_
  refine px_bipush (v := nI 120) rfl b_120 ?_
  refine px_icmp_ge rfl (fun h => absurd h (nI_ge (by first | omega | (simp at h100; omega)) (by omega))) (fun c13 => ?_)
  refine px_aload_n (kk := 0) rfl rfl rfl ?_
  refine px_getR (r := (gA p.1)) rfl gS_6 rfl (gR_6_3 _) ?_
  refine px_iload_n (kk := 2) rfl rfl rfl ?_
  refine px_iald (j := k) rfl (gS_A p.1) rfl (by omega) ?_
  refine px_ineg rfl ?_
  refine px_ist3 rfl rfl (by decide) ?_
  refine px_l3 (y := nI 124) (by rw [p_up_n _ _ (gA_ne p.1).1, hs]; simp only [cT, bnC, Int32.neg_neg]) ?_
  refine px_iload_n (kk := 3) rfl rfl rfl ?_
  refine px_if_gt rfl (fun _ => ?_) (fun h => absurd h (by decide))
  refine px_iload_n (kk := 3) rfl rfl rfl ?_
  refine px_bipush (v := nI 97) rfl b_97 ?_
  refine px_icmp_lt rfl (fun h => absurd h (by decide)) (fun _ => ?_)
  refine px_iload_n (kk := 3) rfl rfl rfl ?_
  refine px_bipush (v := nI 122) rfl b_122 ?_
  refine px_icmp_gt rfl (fun _ => ?_) (fun h => absurd h (by decide))
  refine px_iload_n (kk := 1) rfl rfl rfl ?_
  refine px_iconst (v := nI 1) rfl k_1 ?_
  refine px_icmp_ge rfl (fun c47 => ?_) (fun h => absurd (nI_le (by omega) (by first | omega | (simp at h100; omega))) h)
  refine px_iload_n (kk := 3) rfl rfl rfl ?_
  refine px_bipush (v := nI 59) rfl b_59 ?_
  refine px_icmp_ne rfl (fun _ => ?_) (fun h => absurd h (by decide))
  refine px_iload_n (kk := 3) rfl rfl rfl ?_
  refine px_bipush (v := nI 63) rfl b_63 ?_
  refine px_icmp_ne rfl (fun _ => ?_) (fun h => absurd h (by decide))
  refine px_iload_n (kk := 3) rfl rfl rfl ?_
  refine px_bipush (v := nI 33) rfl b_33 ?_
  refine px_icmp_eq rfl (fun h => absurd h (by decide)) (fun _ => ?_)
  refine px_iload_n (kk := 3) rfl rfl rfl ?_
  refine px_bipush (v := nI 126) rfl b_126 ?_
  refine px_icmp_ne rfl (fun _ => ?_) (fun h => absurd h (by decide))
  refine px_iload_n (kk := 1) rfl rfl rfl ?_
  refine px_iconst (v := nI 1) rfl k_1 ?_
  refine px_icmp_le rfl (fun h => absurd h (nI_ge (by omega) (by first | omega | (simp at h100; omega)))) (fun c114 => ?_)
  refine px_iinc1 rfl rfl rfl (by decide) ?_
  refine px_l1 (y := nI (q.length + 1)) (n_dec _) ?_
  refine px_aload_n (kk := 0) rfl rfl rfl ?_
  refine px_getR (r := 8) rfl gS_6 rfl (gR_6_2 _) ?_
  refine px_iload_n (kk := 1) rfl rfl rfl ?_
  refine px_iconst (v := nI 1) rfl k_1 ?_
  refine px_isubN rfl (by omega) ?_
  refine px_aload_n (kk := 0) rfl rfl rfl ?_
  refine px_getR (r := 8) rfl gS_6 rfl (gR_6_2 _) ?_
  refine px_iload_n (kk := 1) rfl rfl rfl ?_
  refine px_iconst (v := nI 1) rfl k_1 ?_
  refine px_isubN rfl (by omega) ?_
  refine px_iald (j := q.length) rfl gS_8 (by congr 1) (by first | omega | (simp at h100; omega)) ?_
  refine px_iload_n (kk := 3) rfl rfl rfl ?_
  refine px_aload_n (kk := 0) rfl rfl rfl ?_
  refine px_getR (r := 8) rfl gS_6 rfl (gR_6_2 _) ?_
  refine px_iload_n (kk := 1) rfl rfl rfl ?_
  refine px_iald (j := (q.length + 1)) rfl gS_8 rfl (by first | omega | (simp at h100; omega)) ?_
  refine px_callS0 CX3_joined [.int _, .ref 8] [.int _, .int _, .int _] (vX3_joined_0) rfl rfl rfl (Nat.le_of_ble_eq_true rfl) (by decide) ?_
  rintro _ _ - ⟨rfl, rfl⟩
  refine px_iast (j := q.length) rfl gS_8 (by congr 1) (by first | omega | (simp at h100; omega)) ?_
  refine px_iinc2 (v := nI (k + 1)) rfl (n_inc k) rfl (by decide) ?_
  refine px_goto rfl ?_
  rw [p_up_s, up2, show g (q.length + 1) = b from hsg.1, hsg.2.1]
  exact kont _ _ (SG_up hsg.2.2 (Nat.le_refl _) |> fun z => ⟨p_up_s _ _ _, z⟩)
theorem lX3_bin_1 {I : Nat → Nat → Int32} {J : Nat → Nat → Int64} {p : Bool × Option Nat} {ro : List (Nat × Nat × (Nat → Int32))} {L k : Nat} (hL : I 6 6 = nI L) (hL2 : L ≤ 256) (hk : k < L) {g : Nat → Int32} {o : Option Value} {q : List Int32} {a b : Int32} (hs : I (gA p.1) k = cT (3, 1)) (hsg : SG g (b :: a :: q)) (h100 : ((b :: a :: q) : List Int32).length < 120) {Q : Option Value → pm_M → Prop} (kont : ∀ (g' : Nat → Int32) (x : Int32), SG g' (tw 1 a b :: q) → Px 1 0 0 CX3_run 4 [some (.ref 6), some (.int (nI (q.length + 1))), some (.int (nI (k + 1))), some (.int x)] [] (gS, (va_up I 8 g'), J, gR p, ro) Q) : Px 1 0 0 CX3_run 4 [some (.ref (6)), some (.int (nI (q.length + 1 + 1))), some (.int (nI k)), o] [] (gS, (va_up I 8 g), J, gR p, ro) (Q) := by
  refine px_iload_n (kk := 2) rfl rfl rfl ?_
  refine px_aload_n (kk := 0) rfl rfl rfl ?_
  refine px_getIe rfl gS_6 rfl ((congrFun (p_up_n _ _ (by decide)) 6).trans hL) ?_
  refine px_icmp_ge rfl (fun h => absurd h (nI_ge (by omega) (by omega))) (fun c7 => ?_)
  refine px_iload_n (kk := 2) rfl rfl rfl ?_
  refine px_sipush (v := nI 256) rfl s_256 ?_
  refine px_icmp_ge rfl (fun h => absurd h (nI_ge (by omega) (by omega))) (fun c10 => ?_)
  refine px_iload_n (kk := 1) rfl rfl rfl ?_
  refine px_bipush (v := nI 120) rfl b_120 ?_
  refine px_icmp_ge rfl (fun h => absurd h (nI_ge (by first | omega | (simp at h100; omega)) (by omega))) (fun c13 => ?_)
  refine px_aload_n (kk := 0) rfl rfl rfl ?_
  refine px_getR (r := (gA p.1)) rfl gS_6 rfl (gR_6_3 _) ?_
  refine px_iload_n (kk := 2) rfl rfl rfl ?_
  refine px_iald (j := k) rfl (gS_A p.1) rfl (by omega) ?_
  refine px_ineg rfl ?_
  refine px_ist3 rfl rfl (by decide) ?_
  refine px_l3 (y := nI 38) (by rw [p_up_n _ _ (gA_ne p.1).1, hs]; simp only [cT, bnC, Int32.neg_neg]) ?_
  refine px_iload_n (kk := 3) rfl rfl rfl ?_
  refine px_if_gt rfl (fun _ => ?_) (fun h => absurd h (by decide))
  refine px_iload_n (kk := 3) rfl rfl rfl ?_
  refine px_bipush (v := nI 97) rfl b_97 ?_
  refine px_icmp_lt rfl (fun _ => ?_) (fun h => absurd h (by decide))
  refine px_iload_n (kk := 1) rfl rfl rfl ?_
  refine px_iconst (v := nI 1) rfl k_1 ?_
  refine px_icmp_ge rfl (fun c47 => ?_) (fun h => absurd (nI_le (by omega) (by first | omega | (simp at h100; omega))) h)
  refine px_iload_n (kk := 3) rfl rfl rfl ?_
  refine px_bipush (v := nI 59) rfl b_59 ?_
  refine px_icmp_ne rfl (fun _ => ?_) (fun h => absurd h (by decide))
  refine px_iload_n (kk := 3) rfl rfl rfl ?_
  refine px_bipush (v := nI 63) rfl b_63 ?_
  refine px_icmp_ne rfl (fun _ => ?_) (fun h => absurd h (by decide))
  refine px_iload_n (kk := 3) rfl rfl rfl ?_
  refine px_bipush (v := nI 33) rfl b_33 ?_
  refine px_icmp_eq rfl (fun h => absurd h (by decide)) (fun _ => ?_)
  refine px_iload_n (kk := 3) rfl rfl rfl ?_
  refine px_bipush (v := nI 126) rfl b_126 ?_
  refine px_icmp_ne rfl (fun _ => ?_) (fun h => absurd h (by decide))
  refine px_iload_n (kk := 1) rfl rfl rfl ?_
  refine px_iconst (v := nI 1) rfl k_1 ?_
  refine px_icmp_le rfl (fun h => absurd h (nI_ge (by omega) (by first | omega | (simp at h100; omega)))) (fun c114 => ?_)
  refine px_iinc1 rfl rfl rfl (by decide) ?_
  refine px_l1 (y := nI (q.length + 1)) (n_dec _) ?_
  refine px_aload_n (kk := 0) rfl rfl rfl ?_
  refine px_getR (r := 8) rfl gS_6 rfl (gR_6_2 _) ?_
  refine px_iload_n (kk := 1) rfl rfl rfl ?_
  refine px_iconst (v := nI 1) rfl k_1 ?_
  refine px_isubN rfl (by omega) ?_
  refine px_aload_n (kk := 0) rfl rfl rfl ?_
  refine px_getR (r := 8) rfl gS_6 rfl (gR_6_2 _) ?_
  refine px_iload_n (kk := 1) rfl rfl rfl ?_
  refine px_iconst (v := nI 1) rfl k_1 ?_
  refine px_isubN rfl (by omega) ?_
  refine px_iald (j := q.length) rfl gS_8 (by congr 1) (by first | omega | (simp at h100; omega)) ?_
  refine px_iload_n (kk := 3) rfl rfl rfl ?_
  refine px_aload_n (kk := 0) rfl rfl rfl ?_
  refine px_getR (r := 8) rfl gS_6 rfl (gR_6_2 _) ?_
  refine px_iload_n (kk := 1) rfl rfl rfl ?_
  refine px_iald (j := (q.length + 1)) rfl gS_8 rfl (by first | omega | (simp at h100; omega)) ?_
  refine px_callS0 CX3_joined [.int _, .ref 8] [.int _, .int _, .int _] (vX3_joined_1) rfl rfl rfl (Nat.le_of_ble_eq_true rfl) (by decide) ?_
  rintro _ _ - ⟨rfl, rfl⟩
  refine px_iast (j := q.length) rfl gS_8 (by congr 1) (by first | omega | (simp at h100; omega)) ?_
  refine px_iinc2 (v := nI (k + 1)) rfl (n_inc k) rfl (by decide) ?_
  refine px_goto rfl ?_
  rw [p_up_s, up2, show g (q.length + 1) = b from hsg.1, hsg.2.1]
  exact kont _ _ (SG_up hsg.2.2 (Nat.le_refl _) |> fun z => ⟨p_up_s _ _ _, z⟩)
theorem lX3_bin_2 {I : Nat → Nat → Int32} {J : Nat → Nat → Int64} {p : Bool × Option Nat} {ro : List (Nat × Nat × (Nat → Int32))} {L k : Nat} (hL : I 6 6 = nI L) (hL2 : L ≤ 256) (hk : k < L) {g : Nat → Int32} {o : Option Value} {q : List Int32} {a b : Int32} (hs : I (gA p.1) k = cT (3, 2)) (hsg : SG g (b :: a :: q)) (h100 : ((b :: a :: q) : List Int32).length < 120) {Q : Option Value → pm_M → Prop} (kont : ∀ (g' : Nat → Int32) (x : Int32), SG g' (tw 2 a b :: q) → Px 1 0 0 CX3_run 4 [some (.ref 6), some (.int (nI (q.length + 1))), some (.int (nI (k + 1))), some (.int x)] [] (gS, (va_up I 8 g'), J, gR p, ro) Q) : Px 1 0 0 CX3_run 4 [some (.ref (6)), some (.int (nI (q.length + 1 + 1))), some (.int (nI k)), o] [] (gS, (va_up I 8 g), J, gR p, ro) (Q) := by
  refine px_iload_n (kk := 2) rfl rfl rfl ?_
  refine px_aload_n (kk := 0) rfl rfl rfl ?_
  refine px_getIe rfl gS_6 rfl ((congrFun (p_up_n _ _ (by decide)) 6).trans hL) ?_
  refine px_icmp_ge rfl (fun h => absurd h (nI_ge (by omega) (by omega))) (fun c7 => ?_)
  refine px_iload_n (kk := 2) rfl rfl rfl ?_
  refine px_sipush (v := nI 256) rfl s_256 ?_
  refine px_icmp_ge rfl (fun h => absurd h (nI_ge (by omega) (by omega))) (fun c10 => ?_)
  refine px_iload_n (kk := 1) rfl rfl rfl ?_
  refine px_bipush (v := nI 120) rfl b_120 ?_
  refine px_icmp_ge rfl (fun h => absurd h (nI_ge (by first | omega | (simp at h100; omega)) (by omega))) (fun c13 => ?_)
  refine px_aload_n (kk := 0) rfl rfl rfl ?_
  refine px_getR (r := (gA p.1)) rfl gS_6 rfl (gR_6_3 _) ?_
  refine px_iload_n (kk := 2) rfl rfl rfl ?_
  refine px_iald (j := k) rfl (gS_A p.1) rfl (by omega) ?_
  refine px_ineg rfl ?_
  refine px_ist3 rfl rfl (by decide) ?_
  refine px_l3 (y := nI 60) (by rw [p_up_n _ _ (gA_ne p.1).1, hs]; simp only [cT, bnC, Int32.neg_neg]) ?_
  refine px_iload_n (kk := 3) rfl rfl rfl ?_
  refine px_if_gt rfl (fun _ => ?_) (fun h => absurd h (by decide))
  refine px_iload_n (kk := 3) rfl rfl rfl ?_
  refine px_bipush (v := nI 97) rfl b_97 ?_
  refine px_icmp_lt rfl (fun _ => ?_) (fun h => absurd h (by decide))
  refine px_iload_n (kk := 1) rfl rfl rfl ?_
  refine px_iconst (v := nI 1) rfl k_1 ?_
  refine px_icmp_ge rfl (fun c47 => ?_) (fun h => absurd (nI_le (by omega) (by first | omega | (simp at h100; omega))) h)
  refine px_iload_n (kk := 3) rfl rfl rfl ?_
  refine px_bipush (v := nI 59) rfl b_59 ?_
  refine px_icmp_ne rfl (fun _ => ?_) (fun h => absurd h (by decide))
  refine px_iload_n (kk := 3) rfl rfl rfl ?_
  refine px_bipush (v := nI 63) rfl b_63 ?_
  refine px_icmp_ne rfl (fun _ => ?_) (fun h => absurd h (by decide))
  refine px_iload_n (kk := 3) rfl rfl rfl ?_
  refine px_bipush (v := nI 33) rfl b_33 ?_
  refine px_icmp_eq rfl (fun h => absurd h (by decide)) (fun _ => ?_)
  refine px_iload_n (kk := 3) rfl rfl rfl ?_
  refine px_bipush (v := nI 126) rfl b_126 ?_
  refine px_icmp_ne rfl (fun _ => ?_) (fun h => absurd h (by decide))
  refine px_iload_n (kk := 1) rfl rfl rfl ?_
  refine px_iconst (v := nI 1) rfl k_1 ?_
  refine px_icmp_le rfl (fun h => absurd h (nI_ge (by omega) (by first | omega | (simp at h100; omega)))) (fun c114 => ?_)
  refine px_iinc1 rfl rfl rfl (by decide) ?_
  refine px_l1 (y := nI (q.length + 1)) (n_dec _) ?_
  refine px_aload_n (kk := 0) rfl rfl rfl ?_
  refine px_getR (r := 8) rfl gS_6 rfl (gR_6_2 _) ?_
  refine px_iload_n (kk := 1) rfl rfl rfl ?_
  refine px_iconst (v := nI 1) rfl k_1 ?_
  refine px_isubN rfl (by omega) ?_
  refine px_aload_n (kk := 0) rfl rfl rfl ?_
  refine px_getR (r := 8) rfl gS_6 rfl (gR_6_2 _) ?_
  refine px_iload_n (kk := 1) rfl rfl rfl ?_
  refine px_iconst (v := nI 1) rfl k_1 ?_
  refine px_isubN rfl (by omega) ?_
  refine px_iald (j := q.length) rfl gS_8 (by congr 1) (by first | omega | (simp at h100; omega)) ?_
  refine px_iload_n (kk := 3) rfl rfl rfl ?_
  refine px_aload_n (kk := 0) rfl rfl rfl ?_
  refine px_getR (r := 8) rfl gS_6 rfl (gR_6_2 _) ?_
  refine px_iload_n (kk := 1) rfl rfl rfl ?_
  refine px_iald (j := (q.length + 1)) rfl gS_8 rfl (by first | omega | (simp at h100; omega)) ?_
  refine px_callS0 CX3_joined [.int _, .ref 8] [.int _, .int _, .int _] (vX3_joined_2) rfl rfl rfl (Nat.le_of_ble_eq_true rfl) (by decide) ?_
  rintro _ _ - ⟨rfl, rfl⟩
  refine px_iast (j := q.length) rfl gS_8 (by congr 1) (by first | omega | (simp at h100; omega)) ?_
  refine px_iinc2 (v := nI (k + 1)) rfl (n_inc k) rfl (by decide) ?_
  refine px_goto rfl ?_
  rw [p_up_s, up2, show g (q.length + 1) = b from hsg.1, hsg.2.1]
  exact kont _ _ (SG_up hsg.2.2 (Nat.le_refl _) |> fun z => ⟨p_up_s _ _ _, z⟩)
theorem lX3_bin_3 {I : Nat → Nat → Int32} {J : Nat → Nat → Int64} {p : Bool × Option Nat} {ro : List (Nat × Nat × (Nat → Int32))} {L k : Nat} (hL : I 6 6 = nI L) (hL2 : L ≤ 256) (hk : k < L) {g : Nat → Int32} {o : Option Value} {q : List Int32} {a b : Int32} (hs : I (gA p.1) k = cT (3, 3)) (hsg : SG g (b :: a :: q)) (h100 : ((b :: a :: q) : List Int32).length < 120) {Q : Option Value → pm_M → Prop} (kont : ∀ (g' : Nat → Int32) (x : Int32), SG g' (tw 3 a b :: q) → Px 1 0 0 CX3_run 4 [some (.ref 6), some (.int (nI (q.length + 1))), some (.int (nI (k + 1))), some (.int x)] [] (gS, (va_up I 8 g'), J, gR p, ro) Q) : Px 1 0 0 CX3_run 4 [some (.ref (6)), some (.int (nI (q.length + 1 + 1))), some (.int (nI k)), o] [] (gS, (va_up I 8 g), J, gR p, ro) (Q) := by
  refine px_iload_n (kk := 2) rfl rfl rfl ?_
  refine px_aload_n (kk := 0) rfl rfl rfl ?_
  refine px_getIe rfl gS_6 rfl ((congrFun (p_up_n _ _ (by decide)) 6).trans hL) ?_
  refine px_icmp_ge rfl (fun h => absurd h (nI_ge (by omega) (by omega))) (fun c7 => ?_)
  refine px_iload_n (kk := 2) rfl rfl rfl ?_
  refine px_sipush (v := nI 256) rfl s_256 ?_
  refine px_icmp_ge rfl (fun h => absurd h (nI_ge (by omega) (by omega))) (fun c10 => ?_)
  refine px_iload_n (kk := 1) rfl rfl rfl ?_
  refine px_bipush (v := nI 120) rfl b_120 ?_
  refine px_icmp_ge rfl (fun h => absurd h (nI_ge (by first | omega | (simp at h100; omega)) (by omega))) (fun c13 => ?_)
  refine px_aload_n (kk := 0) rfl rfl rfl ?_
  refine px_getR (r := (gA p.1)) rfl gS_6 rfl (gR_6_3 _) ?_
  refine px_iload_n (kk := 2) rfl rfl rfl ?_
  refine px_iald (j := k) rfl (gS_A p.1) rfl (by omega) ?_
  refine px_ineg rfl ?_
  refine px_ist3 rfl rfl (by decide) ?_
  refine px_l3 (y := nI 61) (by rw [p_up_n _ _ (gA_ne p.1).1, hs]; simp only [cT, bnC, Int32.neg_neg]) ?_
  refine px_iload_n (kk := 3) rfl rfl rfl ?_
  refine px_if_gt rfl (fun _ => ?_) (fun h => absurd h (by decide))
  refine px_iload_n (kk := 3) rfl rfl rfl ?_
  refine px_bipush (v := nI 97) rfl b_97 ?_
  refine px_icmp_lt rfl (fun _ => ?_) (fun h => absurd h (by decide))
  refine px_iload_n (kk := 1) rfl rfl rfl ?_
  refine px_iconst (v := nI 1) rfl k_1 ?_
  refine px_icmp_ge rfl (fun c47 => ?_) (fun h => absurd (nI_le (by omega) (by first | omega | (simp at h100; omega))) h)
  refine px_iload_n (kk := 3) rfl rfl rfl ?_
  refine px_bipush (v := nI 59) rfl b_59 ?_
  refine px_icmp_ne rfl (fun _ => ?_) (fun h => absurd h (by decide))
  refine px_iload_n (kk := 3) rfl rfl rfl ?_
  refine px_bipush (v := nI 63) rfl b_63 ?_
  refine px_icmp_ne rfl (fun _ => ?_) (fun h => absurd h (by decide))
  refine px_iload_n (kk := 3) rfl rfl rfl ?_
  refine px_bipush (v := nI 33) rfl b_33 ?_
  refine px_icmp_eq rfl (fun h => absurd h (by decide)) (fun _ => ?_)
  refine px_iload_n (kk := 3) rfl rfl rfl ?_
  refine px_bipush (v := nI 126) rfl b_126 ?_
  refine px_icmp_ne rfl (fun _ => ?_) (fun h => absurd h (by decide))
  refine px_iload_n (kk := 1) rfl rfl rfl ?_
  refine px_iconst (v := nI 1) rfl k_1 ?_
  refine px_icmp_le rfl (fun h => absurd h (nI_ge (by omega) (by first | omega | (simp at h100; omega)))) (fun c114 => ?_)
  refine px_iinc1 rfl rfl rfl (by decide) ?_
  refine px_l1 (y := nI (q.length + 1)) (n_dec _) ?_
  refine px_aload_n (kk := 0) rfl rfl rfl ?_
  refine px_getR (r := 8) rfl gS_6 rfl (gR_6_2 _) ?_
  refine px_iload_n (kk := 1) rfl rfl rfl ?_
  refine px_iconst (v := nI 1) rfl k_1 ?_
  refine px_isubN rfl (by omega) ?_
  refine px_aload_n (kk := 0) rfl rfl rfl ?_
  refine px_getR (r := 8) rfl gS_6 rfl (gR_6_2 _) ?_
  refine px_iload_n (kk := 1) rfl rfl rfl ?_
  refine px_iconst (v := nI 1) rfl k_1 ?_
  refine px_isubN rfl (by omega) ?_
  refine px_iald (j := q.length) rfl gS_8 (by congr 1) (by first | omega | (simp at h100; omega)) ?_
  refine px_iload_n (kk := 3) rfl rfl rfl ?_
  refine px_aload_n (kk := 0) rfl rfl rfl ?_
  refine px_getR (r := 8) rfl gS_6 rfl (gR_6_2 _) ?_
  refine px_iload_n (kk := 1) rfl rfl rfl ?_
  refine px_iald (j := (q.length + 1)) rfl gS_8 rfl (by first | omega | (simp at h100; omega)) ?_
  refine px_callS0 CX3_joined [.int _, .ref 8] [.int _, .int _, .int _] (vX3_joined_3) rfl rfl rfl (Nat.le_of_ble_eq_true rfl) (by decide) ?_
  rintro _ _ - ⟨rfl, rfl⟩
  refine px_iast (j := q.length) rfl gS_8 (by congr 1) (by first | omega | (simp at h100; omega)) ?_
  refine px_iinc2 (v := nI (k + 1)) rfl (n_inc k) rfl (by decide) ?_
  refine px_goto rfl ?_
  rw [p_up_s, up2, show g (q.length + 1) = b from hsg.1, hsg.2.1]
  exact kont _ _ (SG_up hsg.2.2 (Nat.le_refl _) |> fun z => ⟨p_up_s _ _ _, z⟩)
theorem lX3_bin_4 {I : Nat → Nat → Int32} {J : Nat → Nat → Int64} {p : Bool × Option Nat} {ro : List (Nat × Nat × (Nat → Int32))} {L k : Nat} (hL : I 6 6 = nI L) (hL2 : L ≤ 256) (hk : k < L) {g : Nat → Int32} {o : Option Value} {q : List Int32} {a b : Int32} (hs : I (gA p.1) k = cT (3, 4)) (hsg : SG g (b :: a :: q)) (h100 : ((b :: a :: q) : List Int32).length < 120) {Q : Option Value → pm_M → Prop} (kont : ∀ (g' : Nat → Int32) (x : Int32), SG g' (tw 4 a b :: q) → Px 1 0 0 CX3_run 4 [some (.ref 6), some (.int (nI (q.length + 1))), some (.int (nI (k + 1))), some (.int x)] [] (gS, (va_up I 8 g'), J, gR p, ro) Q) : Px 1 0 0 CX3_run 4 [some (.ref (6)), some (.int (nI (q.length + 1 + 1))), some (.int (nI k)), o] [] (gS, (va_up I 8 g), J, gR p, ro) (Q) := by
  refine px_iload_n (kk := 2) rfl rfl rfl ?_
  refine px_aload_n (kk := 0) rfl rfl rfl ?_
  refine px_getIe rfl gS_6 rfl ((congrFun (p_up_n _ _ (by decide)) 6).trans hL) ?_
  refine px_icmp_ge rfl (fun h => absurd h (nI_ge (by omega) (by omega))) (fun c7 => ?_)
  refine px_iload_n (kk := 2) rfl rfl rfl ?_
  refine px_sipush (v := nI 256) rfl s_256 ?_
  refine px_icmp_ge rfl (fun h => absurd h (nI_ge (by omega) (by omega))) (fun c10 => ?_)
  refine px_iload_n (kk := 1) rfl rfl rfl ?_
  refine px_bipush (v := nI 120) rfl b_120 ?_
  refine px_icmp_ge rfl (fun h => absurd h (nI_ge (by first | omega | (simp at h100; omega)) (by omega))) (fun c13 => ?_)
  refine px_aload_n (kk := 0) rfl rfl rfl ?_
  refine px_getR (r := (gA p.1)) rfl gS_6 rfl (gR_6_3 _) ?_
  refine px_iload_n (kk := 2) rfl rfl rfl ?_
  refine px_iald (j := k) rfl (gS_A p.1) rfl (by omega) ?_
  refine px_ineg rfl ?_
  refine px_ist3 rfl rfl (by decide) ?_
  refine px_l3 (y := nI 62) (by rw [p_up_n _ _ (gA_ne p.1).1, hs]; simp only [cT, bnC, Int32.neg_neg]) ?_
  refine px_iload_n (kk := 3) rfl rfl rfl ?_
  refine px_if_gt rfl (fun _ => ?_) (fun h => absurd h (by decide))
  refine px_iload_n (kk := 3) rfl rfl rfl ?_
  refine px_bipush (v := nI 97) rfl b_97 ?_
  refine px_icmp_lt rfl (fun _ => ?_) (fun h => absurd h (by decide))
  refine px_iload_n (kk := 1) rfl rfl rfl ?_
  refine px_iconst (v := nI 1) rfl k_1 ?_
  refine px_icmp_ge rfl (fun c47 => ?_) (fun h => absurd (nI_le (by omega) (by first | omega | (simp at h100; omega))) h)
  refine px_iload_n (kk := 3) rfl rfl rfl ?_
  refine px_bipush (v := nI 59) rfl b_59 ?_
  refine px_icmp_ne rfl (fun _ => ?_) (fun h => absurd h (by decide))
  refine px_iload_n (kk := 3) rfl rfl rfl ?_
  refine px_bipush (v := nI 63) rfl b_63 ?_
  refine px_icmp_ne rfl (fun _ => ?_) (fun h => absurd h (by decide))
  refine px_iload_n (kk := 3) rfl rfl rfl ?_
  refine px_bipush (v := nI 33) rfl b_33 ?_
  refine px_icmp_eq rfl (fun h => absurd h (by decide)) (fun _ => ?_)
  refine px_iload_n (kk := 3) rfl rfl rfl ?_
  refine px_bipush (v := nI 126) rfl b_126 ?_
  refine px_icmp_ne rfl (fun _ => ?_) (fun h => absurd h (by decide))
  refine px_iload_n (kk := 1) rfl rfl rfl ?_
  refine px_iconst (v := nI 1) rfl k_1 ?_
  refine px_icmp_le rfl (fun h => absurd h (nI_ge (by omega) (by first | omega | (simp at h100; omega)))) (fun c114 => ?_)
  refine px_iinc1 rfl rfl rfl (by decide) ?_
  refine px_l1 (y := nI (q.length + 1)) (n_dec _) ?_
  refine px_aload_n (kk := 0) rfl rfl rfl ?_
  refine px_getR (r := 8) rfl gS_6 rfl (gR_6_2 _) ?_
  refine px_iload_n (kk := 1) rfl rfl rfl ?_
  refine px_iconst (v := nI 1) rfl k_1 ?_
  refine px_isubN rfl (by omega) ?_
  refine px_aload_n (kk := 0) rfl rfl rfl ?_
  refine px_getR (r := 8) rfl gS_6 rfl (gR_6_2 _) ?_
  refine px_iload_n (kk := 1) rfl rfl rfl ?_
  refine px_iconst (v := nI 1) rfl k_1 ?_
  refine px_isubN rfl (by omega) ?_
  refine px_iald (j := q.length) rfl gS_8 (by congr 1) (by first | omega | (simp at h100; omega)) ?_
  refine px_iload_n (kk := 3) rfl rfl rfl ?_
  refine px_aload_n (kk := 0) rfl rfl rfl ?_
  refine px_getR (r := 8) rfl gS_6 rfl (gR_6_2 _) ?_
  refine px_iload_n (kk := 1) rfl rfl rfl ?_
  refine px_iald (j := (q.length + 1)) rfl gS_8 rfl (by first | omega | (simp at h100; omega)) ?_
  refine px_callS0 CX3_joined [.int _, .ref 8] [.int _, .int _, .int _] (vX3_joined_4) rfl rfl rfl (Nat.le_of_ble_eq_true rfl) (by decide) ?_
  rintro _ _ - ⟨rfl, rfl⟩
  refine px_iast (j := q.length) rfl gS_8 (by congr 1) (by first | omega | (simp at h100; omega)) ?_
  refine px_iinc2 (v := nI (k + 1)) rfl (n_inc k) rfl (by decide) ?_
  refine px_goto rfl ?_
  rw [p_up_s, up2, show g (q.length + 1) = b from hsg.1, hsg.2.1]
  exact kont _ _ (SG_up hsg.2.2 (Nat.le_refl _) |> fun z => ⟨p_up_s _ _ _, z⟩)
theorem lX3_bin_5 {I : Nat → Nat → Int32} {J : Nat → Nat → Int64} {p : Bool × Option Nat} {ro : List (Nat × Nat × (Nat → Int32))} {L k : Nat} (hL : I 6 6 = nI L) (hL2 : L ≤ 256) (hk : k < L) {g : Nat → Int32} {o : Option Value} {q : List Int32} {a b : Int32} (hs : I (gA p.1) k = cT (3, 5)) (hsg : SG g (b :: a :: q)) (h100 : ((b :: a :: q) : List Int32).length < 120) {Q : Option Value → pm_M → Prop} (kont : ∀ (g' : Nat → Int32) (x : Int32), SG g' (tw 5 a b :: q) → Px 1 0 0 CX3_run 4 [some (.ref 6), some (.int (nI (q.length + 1))), some (.int (nI (k + 1))), some (.int x)] [] (gS, (va_up I 8 g'), J, gR p, ro) Q) : Px 1 0 0 CX3_run 4 [some (.ref (6)), some (.int (nI (q.length + 1 + 1))), some (.int (nI k)), o] [] (gS, (va_up I 8 g), J, gR p, ro) (Q) := by
  refine px_iload_n (kk := 2) rfl rfl rfl ?_
  refine px_aload_n (kk := 0) rfl rfl rfl ?_
  refine px_getIe rfl gS_6 rfl ((congrFun (p_up_n _ _ (by decide)) 6).trans hL) ?_
  refine px_icmp_ge rfl (fun h => absurd h (nI_ge (by omega) (by omega))) (fun c7 => ?_)
  refine px_iload_n (kk := 2) rfl rfl rfl ?_
  refine px_sipush (v := nI 256) rfl s_256 ?_
  refine px_icmp_ge rfl (fun h => absurd h (nI_ge (by omega) (by omega))) (fun c10 => ?_)
  refine px_iload_n (kk := 1) rfl rfl rfl ?_
  refine px_bipush (v := nI 120) rfl b_120 ?_
  refine px_icmp_ge rfl (fun h => absurd h (nI_ge (by first | omega | (simp at h100; omega)) (by omega))) (fun c13 => ?_)
  refine px_aload_n (kk := 0) rfl rfl rfl ?_
  refine px_getR (r := (gA p.1)) rfl gS_6 rfl (gR_6_3 _) ?_
  refine px_iload_n (kk := 2) rfl rfl rfl ?_
  refine px_iald (j := k) rfl (gS_A p.1) rfl (by omega) ?_
  refine px_ineg rfl ?_
  refine px_ist3 rfl rfl (by decide) ?_
  refine px_l3 (y := nI 43) (by rw [p_up_n _ _ (gA_ne p.1).1, hs]; simp only [cT, bnC, Int32.neg_neg]) ?_
  refine px_iload_n (kk := 3) rfl rfl rfl ?_
  refine px_if_gt rfl (fun _ => ?_) (fun h => absurd h (by decide))
  refine px_iload_n (kk := 3) rfl rfl rfl ?_
  refine px_bipush (v := nI 97) rfl b_97 ?_
  refine px_icmp_lt rfl (fun _ => ?_) (fun h => absurd h (by decide))
  refine px_iload_n (kk := 1) rfl rfl rfl ?_
  refine px_iconst (v := nI 1) rfl k_1 ?_
  refine px_icmp_ge rfl (fun c47 => ?_) (fun h => absurd (nI_le (by omega) (by first | omega | (simp at h100; omega))) h)
  refine px_iload_n (kk := 3) rfl rfl rfl ?_
  refine px_bipush (v := nI 59) rfl b_59 ?_
  refine px_icmp_ne rfl (fun _ => ?_) (fun h => absurd h (by decide))
  refine px_iload_n (kk := 3) rfl rfl rfl ?_
  refine px_bipush (v := nI 63) rfl b_63 ?_
  refine px_icmp_ne rfl (fun _ => ?_) (fun h => absurd h (by decide))
  refine px_iload_n (kk := 3) rfl rfl rfl ?_
  refine px_bipush (v := nI 33) rfl b_33 ?_
  refine px_icmp_eq rfl (fun h => absurd h (by decide)) (fun _ => ?_)
  refine px_iload_n (kk := 3) rfl rfl rfl ?_
  refine px_bipush (v := nI 126) rfl b_126 ?_
  refine px_icmp_ne rfl (fun _ => ?_) (fun h => absurd h (by decide))
  refine px_iload_n (kk := 1) rfl rfl rfl ?_
  refine px_iconst (v := nI 1) rfl k_1 ?_
  refine px_icmp_le rfl (fun h => absurd h (nI_ge (by omega) (by first | omega | (simp at h100; omega)))) (fun c114 => ?_)
  refine px_iinc1 rfl rfl rfl (by decide) ?_
  refine px_l1 (y := nI (q.length + 1)) (n_dec _) ?_
  refine px_aload_n (kk := 0) rfl rfl rfl ?_
  refine px_getR (r := 8) rfl gS_6 rfl (gR_6_2 _) ?_
  refine px_iload_n (kk := 1) rfl rfl rfl ?_
  refine px_iconst (v := nI 1) rfl k_1 ?_
  refine px_isubN rfl (by omega) ?_
  refine px_aload_n (kk := 0) rfl rfl rfl ?_
  refine px_getR (r := 8) rfl gS_6 rfl (gR_6_2 _) ?_
  refine px_iload_n (kk := 1) rfl rfl rfl ?_
  refine px_iconst (v := nI 1) rfl k_1 ?_
  refine px_isubN rfl (by omega) ?_
  refine px_iald (j := q.length) rfl gS_8 (by congr 1) (by first | omega | (simp at h100; omega)) ?_
  refine px_iload_n (kk := 3) rfl rfl rfl ?_
  refine px_aload_n (kk := 0) rfl rfl rfl ?_
  refine px_getR (r := 8) rfl gS_6 rfl (gR_6_2 _) ?_
  refine px_iload_n (kk := 1) rfl rfl rfl ?_
  refine px_iald (j := (q.length + 1)) rfl gS_8 rfl (by first | omega | (simp at h100; omega)) ?_
  refine px_callS0 CX3_joined [.int _, .ref 8] [.int _, .int _, .int _] (vX3_joined_5) rfl rfl rfl (Nat.le_of_ble_eq_true rfl) (by decide) ?_
  rintro _ _ - ⟨rfl, rfl⟩
  refine px_iast (j := q.length) rfl gS_8 (by congr 1) (by first | omega | (simp at h100; omega)) ?_
  refine px_iinc2 (v := nI (k + 1)) rfl (n_inc k) rfl (by decide) ?_
  refine px_goto rfl ?_
  rw [p_up_s, up2, show g (q.length + 1) = b from hsg.1, hsg.2.1]
  exact kont _ _ (SG_up hsg.2.2 (Nat.le_refl _) |> fun z => ⟨p_up_s _ _ _, z⟩)
theorem lX3_bin_6 {I : Nat → Nat → Int32} {J : Nat → Nat → Int64} {p : Bool × Option Nat} {ro : List (Nat × Nat × (Nat → Int32))} {L k : Nat} (hL : I 6 6 = nI L) (hL2 : L ≤ 256) (hk : k < L) {g : Nat → Int32} {o : Option Value} {q : List Int32} {a b : Int32} (hs : I (gA p.1) k = cT (3, 6)) (hsg : SG g (b :: a :: q)) (h100 : ((b :: a :: q) : List Int32).length < 120) {Q : Option Value → pm_M → Prop} (kont : ∀ (g' : Nat → Int32) (x : Int32), SG g' (tw 6 a b :: q) → Px 1 0 0 CX3_run 4 [some (.ref 6), some (.int (nI (q.length + 1))), some (.int (nI (k + 1))), some (.int x)] [] (gS, (va_up I 8 g'), J, gR p, ro) Q) : Px 1 0 0 CX3_run 4 [some (.ref (6)), some (.int (nI (q.length + 1 + 1))), some (.int (nI k)), o] [] (gS, (va_up I 8 g), J, gR p, ro) (Q) := by
  refine px_iload_n (kk := 2) rfl rfl rfl ?_
  refine px_aload_n (kk := 0) rfl rfl rfl ?_
  refine px_getIe rfl gS_6 rfl ((congrFun (p_up_n _ _ (by decide)) 6).trans hL) ?_
  refine px_icmp_ge rfl (fun h => absurd h (nI_ge (by omega) (by omega))) (fun c7 => ?_)
  refine px_iload_n (kk := 2) rfl rfl rfl ?_
  refine px_sipush (v := nI 256) rfl s_256 ?_
  refine px_icmp_ge rfl (fun h => absurd h (nI_ge (by omega) (by omega))) (fun c10 => ?_)
  refine px_iload_n (kk := 1) rfl rfl rfl ?_
  refine px_bipush (v := nI 120) rfl b_120 ?_
  refine px_icmp_ge rfl (fun h => absurd h (nI_ge (by first | omega | (simp at h100; omega)) (by omega))) (fun c13 => ?_)
  refine px_aload_n (kk := 0) rfl rfl rfl ?_
  refine px_getR (r := (gA p.1)) rfl gS_6 rfl (gR_6_3 _) ?_
  refine px_iload_n (kk := 2) rfl rfl rfl ?_
  refine px_iald (j := k) rfl (gS_A p.1) rfl (by omega) ?_
  refine px_ineg rfl ?_
  refine px_ist3 rfl rfl (by decide) ?_
  refine px_l3 (y := nI 45) (by rw [p_up_n _ _ (gA_ne p.1).1, hs]; simp only [cT, bnC, Int32.neg_neg]) ?_
  refine px_iload_n (kk := 3) rfl rfl rfl ?_
  refine px_if_gt rfl (fun _ => ?_) (fun h => absurd h (by decide))
  refine px_iload_n (kk := 3) rfl rfl rfl ?_
  refine px_bipush (v := nI 97) rfl b_97 ?_
  refine px_icmp_lt rfl (fun _ => ?_) (fun h => absurd h (by decide))
  refine px_iload_n (kk := 1) rfl rfl rfl ?_
  refine px_iconst (v := nI 1) rfl k_1 ?_
  refine px_icmp_ge rfl (fun c47 => ?_) (fun h => absurd (nI_le (by omega) (by first | omega | (simp at h100; omega))) h)
  refine px_iload_n (kk := 3) rfl rfl rfl ?_
  refine px_bipush (v := nI 59) rfl b_59 ?_
  refine px_icmp_ne rfl (fun _ => ?_) (fun h => absurd h (by decide))
  refine px_iload_n (kk := 3) rfl rfl rfl ?_
  refine px_bipush (v := nI 63) rfl b_63 ?_
  refine px_icmp_ne rfl (fun _ => ?_) (fun h => absurd h (by decide))
  refine px_iload_n (kk := 3) rfl rfl rfl ?_
  refine px_bipush (v := nI 33) rfl b_33 ?_
  refine px_icmp_eq rfl (fun h => absurd h (by decide)) (fun _ => ?_)
  refine px_iload_n (kk := 3) rfl rfl rfl ?_
  refine px_bipush (v := nI 126) rfl b_126 ?_
  refine px_icmp_ne rfl (fun _ => ?_) (fun h => absurd h (by decide))
  refine px_iload_n (kk := 1) rfl rfl rfl ?_
  refine px_iconst (v := nI 1) rfl k_1 ?_
  refine px_icmp_le rfl (fun h => absurd h (nI_ge (by omega) (by first | omega | (simp at h100; omega)))) (fun c114 => ?_)
  refine px_iinc1 rfl rfl rfl (by decide) ?_
  refine px_l1 (y := nI (q.length + 1)) (n_dec _) ?_
  refine px_aload_n (kk := 0) rfl rfl rfl ?_
  refine px_getR (r := 8) rfl gS_6 rfl (gR_6_2 _) ?_
  refine px_iload_n (kk := 1) rfl rfl rfl ?_
  refine px_iconst (v := nI 1) rfl k_1 ?_
  refine px_isubN rfl (by omega) ?_
  refine px_aload_n (kk := 0) rfl rfl rfl ?_
  refine px_getR (r := 8) rfl gS_6 rfl (gR_6_2 _) ?_
  refine px_iload_n (kk := 1) rfl rfl rfl ?_
  refine px_iconst (v := nI 1) rfl k_1 ?_
  refine px_isubN rfl (by omega) ?_
  refine px_iald (j := q.length) rfl gS_8 (by congr 1) (by first | omega | (simp at h100; omega)) ?_
  refine px_iload_n (kk := 3) rfl rfl rfl ?_
  refine px_aload_n (kk := 0) rfl rfl rfl ?_
  refine px_getR (r := 8) rfl gS_6 rfl (gR_6_2 _) ?_
  refine px_iload_n (kk := 1) rfl rfl rfl ?_
  refine px_iald (j := (q.length + 1)) rfl gS_8 rfl (by first | omega | (simp at h100; omega)) ?_
  refine px_callS0 CX3_joined [.int _, .ref 8] [.int _, .int _, .int _] (vX3_joined_6) rfl rfl rfl (Nat.le_of_ble_eq_true rfl) (by decide) ?_
  rintro _ _ - ⟨rfl, rfl⟩
  refine px_iast (j := q.length) rfl gS_8 (by congr 1) (by first | omega | (simp at h100; omega)) ?_
  refine px_iinc2 (v := nI (k + 1)) rfl (n_inc k) rfl (by decide) ?_
  refine px_goto rfl ?_
  rw [p_up_s, up2, show g (q.length + 1) = b from hsg.1, hsg.2.1]
  exact kont _ _ (SG_up hsg.2.2 (Nat.le_refl _) |> fun z => ⟨p_up_s _ _ _, z⟩)
theorem lX3_bin_7 {I : Nat → Nat → Int32} {J : Nat → Nat → Int64} {p : Bool × Option Nat} {ro : List (Nat × Nat × (Nat → Int32))} {L k : Nat} (hL : I 6 6 = nI L) (hL2 : L ≤ 256) (hk : k < L) {g : Nat → Int32} {o : Option Value} {q : List Int32} {a b : Int32} (hs : I (gA p.1) k = cT (3, 7)) (hsg : SG g (b :: a :: q)) (h100 : ((b :: a :: q) : List Int32).length < 120) {Q : Option Value → pm_M → Prop} (kont : ∀ (g' : Nat → Int32) (x : Int32), SG g' (tw 7 a b :: q) → Px 1 0 0 CX3_run 4 [some (.ref 6), some (.int (nI (q.length + 1))), some (.int (nI (k + 1))), some (.int x)] [] (gS, (va_up I 8 g'), J, gR p, ro) Q) : Px 1 0 0 CX3_run 4 [some (.ref (6)), some (.int (nI (q.length + 1 + 1))), some (.int (nI k)), o] [] (gS, (va_up I 8 g), J, gR p, ro) (Q) := by
  refine px_iload_n (kk := 2) rfl rfl rfl ?_
  refine px_aload_n (kk := 0) rfl rfl rfl ?_
  refine px_getIe rfl gS_6 rfl ((congrFun (p_up_n _ _ (by decide)) 6).trans hL) ?_
  refine px_icmp_ge rfl (fun h => absurd h (nI_ge (by omega) (by omega))) (fun c7 => ?_)
  refine px_iload_n (kk := 2) rfl rfl rfl ?_
  refine px_sipush (v := nI 256) rfl s_256 ?_
  refine px_icmp_ge rfl (fun h => absurd h (nI_ge (by omega) (by omega))) (fun c10 => ?_)
  refine px_iload_n (kk := 1) rfl rfl rfl ?_
  refine px_bipush (v := nI 120) rfl b_120 ?_
  refine px_icmp_ge rfl (fun h => absurd h (nI_ge (by first | omega | (simp at h100; omega)) (by omega))) (fun c13 => ?_)
  refine px_aload_n (kk := 0) rfl rfl rfl ?_
  refine px_getR (r := (gA p.1)) rfl gS_6 rfl (gR_6_3 _) ?_
  refine px_iload_n (kk := 2) rfl rfl rfl ?_
  refine px_iald (j := k) rfl (gS_A p.1) rfl (by omega) ?_
  refine px_ineg rfl ?_
  refine px_ist3 rfl rfl (by decide) ?_
  refine px_l3 (y := nI 42) (by rw [p_up_n _ _ (gA_ne p.1).1, hs]; simp only [cT, bnC, Int32.neg_neg]) ?_
  refine px_iload_n (kk := 3) rfl rfl rfl ?_
  refine px_if_gt rfl (fun _ => ?_) (fun h => absurd h (by decide))
  refine px_iload_n (kk := 3) rfl rfl rfl ?_
  refine px_bipush (v := nI 97) rfl b_97 ?_
  refine px_icmp_lt rfl (fun _ => ?_) (fun h => absurd h (by decide))
  refine px_iload_n (kk := 1) rfl rfl rfl ?_
  refine px_iconst (v := nI 1) rfl k_1 ?_
  refine px_icmp_ge rfl (fun c47 => ?_) (fun h => absurd (nI_le (by omega) (by first | omega | (simp at h100; omega))) h)
  refine px_iload_n (kk := 3) rfl rfl rfl ?_
  refine px_bipush (v := nI 59) rfl b_59 ?_
  refine px_icmp_ne rfl (fun _ => ?_) (fun h => absurd h (by decide))
  refine px_iload_n (kk := 3) rfl rfl rfl ?_
  refine px_bipush (v := nI 63) rfl b_63 ?_
  refine px_icmp_ne rfl (fun _ => ?_) (fun h => absurd h (by decide))
  refine px_iload_n (kk := 3) rfl rfl rfl ?_
  refine px_bipush (v := nI 33) rfl b_33 ?_
  refine px_icmp_eq rfl (fun h => absurd h (by decide)) (fun _ => ?_)
  refine px_iload_n (kk := 3) rfl rfl rfl ?_
  refine px_bipush (v := nI 126) rfl b_126 ?_
  refine px_icmp_ne rfl (fun _ => ?_) (fun h => absurd h (by decide))
  refine px_iload_n (kk := 1) rfl rfl rfl ?_
  refine px_iconst (v := nI 1) rfl k_1 ?_
  refine px_icmp_le rfl (fun h => absurd h (nI_ge (by omega) (by first | omega | (simp at h100; omega)))) (fun c114 => ?_)
  refine px_iinc1 rfl rfl rfl (by decide) ?_
  refine px_l1 (y := nI (q.length + 1)) (n_dec _) ?_
  refine px_aload_n (kk := 0) rfl rfl rfl ?_
  refine px_getR (r := 8) rfl gS_6 rfl (gR_6_2 _) ?_
  refine px_iload_n (kk := 1) rfl rfl rfl ?_
  refine px_iconst (v := nI 1) rfl k_1 ?_
  refine px_isubN rfl (by omega) ?_
  refine px_aload_n (kk := 0) rfl rfl rfl ?_
  refine px_getR (r := 8) rfl gS_6 rfl (gR_6_2 _) ?_
  refine px_iload_n (kk := 1) rfl rfl rfl ?_
  refine px_iconst (v := nI 1) rfl k_1 ?_
  refine px_isubN rfl (by omega) ?_
  refine px_iald (j := q.length) rfl gS_8 (by congr 1) (by first | omega | (simp at h100; omega)) ?_
  refine px_iload_n (kk := 3) rfl rfl rfl ?_
  refine px_aload_n (kk := 0) rfl rfl rfl ?_
  refine px_getR (r := 8) rfl gS_6 rfl (gR_6_2 _) ?_
  refine px_iload_n (kk := 1) rfl rfl rfl ?_
  refine px_iald (j := (q.length + 1)) rfl gS_8 rfl (by first | omega | (simp at h100; omega)) ?_
  refine px_callS0 CX3_joined [.int _, .ref 8] [.int _, .int _, .int _] (vX3_joined_7) rfl rfl rfl (Nat.le_of_ble_eq_true rfl) (by decide) ?_
  rintro _ _ - ⟨rfl, rfl⟩
  refine px_iast (j := q.length) rfl gS_8 (by congr 1) (by first | omega | (simp at h100; omega)) ?_
  refine px_iinc2 (v := nI (k + 1)) rfl (n_inc k) rfl (by decide) ?_
  refine px_goto rfl ?_
  rw [p_up_s, up2, show g (q.length + 1) = b from hsg.1, hsg.2.1]
  exact kont _ _ (SG_up hsg.2.2 (Nat.le_refl _) |> fun z => ⟨p_up_s _ _ _, z⟩)
theorem lX3_bin_8 {I : Nat → Nat → Int32} {J : Nat → Nat → Int64} {p : Bool × Option Nat} {ro : List (Nat × Nat × (Nat → Int32))} {L k : Nat} (hL : I 6 6 = nI L) (hL2 : L ≤ 256) (hk : k < L) {g : Nat → Int32} {o : Option Value} {q : List Int32} {a b : Int32} (hs : I (gA p.1) k = cT (3, 8)) (hsg : SG g (b :: a :: q)) (h100 : ((b :: a :: q) : List Int32).length < 120) {Q : Option Value → pm_M → Prop} (kont : ∀ (g' : Nat → Int32) (x : Int32), SG g' (tw 8 a b :: q) → Px 1 0 0 CX3_run 4 [some (.ref 6), some (.int (nI (q.length + 1))), some (.int (nI (k + 1))), some (.int x)] [] (gS, (va_up I 8 g'), J, gR p, ro) Q) : Px 1 0 0 CX3_run 4 [some (.ref (6)), some (.int (nI (q.length + 1 + 1))), some (.int (nI k)), o] [] (gS, (va_up I 8 g), J, gR p, ro) (Q) := by
  refine px_iload_n (kk := 2) rfl rfl rfl ?_
  refine px_aload_n (kk := 0) rfl rfl rfl ?_
  refine px_getIe rfl gS_6 rfl ((congrFun (p_up_n _ _ (by decide)) 6).trans hL) ?_
  refine px_icmp_ge rfl (fun h => absurd h (nI_ge (by omega) (by omega))) (fun c7 => ?_)
  refine px_iload_n (kk := 2) rfl rfl rfl ?_
  refine px_sipush (v := nI 256) rfl s_256 ?_
  refine px_icmp_ge rfl (fun h => absurd h (nI_ge (by omega) (by omega))) (fun c10 => ?_)
  refine px_iload_n (kk := 1) rfl rfl rfl ?_
  refine px_bipush (v := nI 120) rfl b_120 ?_
  refine px_icmp_ge rfl (fun h => absurd h (nI_ge (by first | omega | (simp at h100; omega)) (by omega))) (fun c13 => ?_)
  refine px_aload_n (kk := 0) rfl rfl rfl ?_
  refine px_getR (r := (gA p.1)) rfl gS_6 rfl (gR_6_3 _) ?_
  refine px_iload_n (kk := 2) rfl rfl rfl ?_
  refine px_iald (j := k) rfl (gS_A p.1) rfl (by omega) ?_
  refine px_ineg rfl ?_
  refine px_ist3 rfl rfl (by decide) ?_
  refine px_l3 (y := nI 47) (by rw [p_up_n _ _ (gA_ne p.1).1, hs]; simp only [cT, bnC, Int32.neg_neg]) ?_
  refine px_iload_n (kk := 3) rfl rfl rfl ?_
  refine px_if_gt rfl (fun _ => ?_) (fun h => absurd h (by decide))
  refine px_iload_n (kk := 3) rfl rfl rfl ?_
  refine px_bipush (v := nI 97) rfl b_97 ?_
  refine px_icmp_lt rfl (fun _ => ?_) (fun h => absurd h (by decide))
  refine px_iload_n (kk := 1) rfl rfl rfl ?_
  refine px_iconst (v := nI 1) rfl k_1 ?_
  refine px_icmp_ge rfl (fun c47 => ?_) (fun h => absurd (nI_le (by omega) (by first | omega | (simp at h100; omega))) h)
  refine px_iload_n (kk := 3) rfl rfl rfl ?_
  refine px_bipush (v := nI 59) rfl b_59 ?_
  refine px_icmp_ne rfl (fun _ => ?_) (fun h => absurd h (by decide))
  refine px_iload_n (kk := 3) rfl rfl rfl ?_
  refine px_bipush (v := nI 63) rfl b_63 ?_
  refine px_icmp_ne rfl (fun _ => ?_) (fun h => absurd h (by decide))
  refine px_iload_n (kk := 3) rfl rfl rfl ?_
  refine px_bipush (v := nI 33) rfl b_33 ?_
  refine px_icmp_eq rfl (fun h => absurd h (by decide)) (fun _ => ?_)
  refine px_iload_n (kk := 3) rfl rfl rfl ?_
  refine px_bipush (v := nI 126) rfl b_126 ?_
  refine px_icmp_ne rfl (fun _ => ?_) (fun h => absurd h (by decide))
  refine px_iload_n (kk := 1) rfl rfl rfl ?_
  refine px_iconst (v := nI 1) rfl k_1 ?_
  refine px_icmp_le rfl (fun h => absurd h (nI_ge (by omega) (by first | omega | (simp at h100; omega)))) (fun c114 => ?_)
  refine px_iinc1 rfl rfl rfl (by decide) ?_
  refine px_l1 (y := nI (q.length + 1)) (n_dec _) ?_
  refine px_aload_n (kk := 0) rfl rfl rfl ?_
  refine px_getR (r := 8) rfl gS_6 rfl (gR_6_2 _) ?_
  refine px_iload_n (kk := 1) rfl rfl rfl ?_
  refine px_iconst (v := nI 1) rfl k_1 ?_
  refine px_isubN rfl (by omega) ?_
  refine px_aload_n (kk := 0) rfl rfl rfl ?_
  refine px_getR (r := 8) rfl gS_6 rfl (gR_6_2 _) ?_
  refine px_iload_n (kk := 1) rfl rfl rfl ?_
  refine px_iconst (v := nI 1) rfl k_1 ?_
  refine px_isubN rfl (by omega) ?_
  refine px_iald (j := q.length) rfl gS_8 (by congr 1) (by first | omega | (simp at h100; omega)) ?_
  refine px_iload_n (kk := 3) rfl rfl rfl ?_
  refine px_aload_n (kk := 0) rfl rfl rfl ?_
  refine px_getR (r := 8) rfl gS_6 rfl (gR_6_2 _) ?_
  refine px_iload_n (kk := 1) rfl rfl rfl ?_
  refine px_iald (j := (q.length + 1)) rfl gS_8 rfl (by first | omega | (simp at h100; omega)) ?_
  refine px_callS0 CX3_joined [.int _, .ref 8] [.int _, .int _, .int _] (vX3_joined_8) rfl rfl rfl (Nat.le_of_ble_eq_true rfl) (by decide) ?_
  rintro _ _ - ⟨rfl, rfl⟩
  refine px_iast (j := q.length) rfl gS_8 (by congr 1) (by first | omega | (simp at h100; omega)) ?_
  refine px_iinc2 (v := nI (k + 1)) rfl (n_inc k) rfl (by decide) ?_
  refine px_goto rfl ?_
  rw [p_up_s, up2, show g (q.length + 1) = b from hsg.1, hsg.2.1]
  exact kont _ _ (SG_up hsg.2.2 (Nat.le_refl _) |> fun z => ⟨p_up_s _ _ _, z⟩)
theorem lX3_bin_9 {I : Nat → Nat → Int32} {J : Nat → Nat → Int64} {p : Bool × Option Nat} {ro : List (Nat × Nat × (Nat → Int32))} {L k : Nat} (hL : I 6 6 = nI L) (hL2 : L ≤ 256) (hk : k < L) {g : Nat → Int32} {o : Option Value} {q : List Int32} {a b : Int32} (hs : I (gA p.1) k = cT (3, 9)) (hsg : SG g (b :: a :: q)) (h100 : ((b :: a :: q) : List Int32).length < 120) {Q : Option Value → pm_M → Prop} (kont : ∀ (g' : Nat → Int32) (x : Int32), SG g' (tw 9 a b :: q) → Px 1 0 0 CX3_run 4 [some (.ref 6), some (.int (nI (q.length + 1))), some (.int (nI (k + 1))), some (.int x)] [] (gS, (va_up I 8 g'), J, gR p, ro) Q) : Px 1 0 0 CX3_run 4 [some (.ref (6)), some (.int (nI (q.length + 1 + 1))), some (.int (nI k)), o] [] (gS, (va_up I 8 g), J, gR p, ro) (Q) := by
  refine px_iload_n (kk := 2) rfl rfl rfl ?_
  refine px_aload_n (kk := 0) rfl rfl rfl ?_
  refine px_getIe rfl gS_6 rfl ((congrFun (p_up_n _ _ (by decide)) 6).trans hL) ?_
  refine px_icmp_ge rfl (fun h => absurd h (nI_ge (by omega) (by omega))) (fun c7 => ?_)
  refine px_iload_n (kk := 2) rfl rfl rfl ?_
  refine px_sipush (v := nI 256) rfl s_256 ?_
  refine px_icmp_ge rfl (fun h => absurd h (nI_ge (by omega) (by omega))) (fun c10 => ?_)
  refine px_iload_n (kk := 1) rfl rfl rfl ?_
  refine px_bipush (v := nI 120) rfl b_120 ?_
  refine px_icmp_ge rfl (fun h => absurd h (nI_ge (by first | omega | (simp at h100; omega)) (by omega))) (fun c13 => ?_)
  refine px_aload_n (kk := 0) rfl rfl rfl ?_
  refine px_getR (r := (gA p.1)) rfl gS_6 rfl (gR_6_3 _) ?_
  refine px_iload_n (kk := 2) rfl rfl rfl ?_
  refine px_iald (j := k) rfl (gS_A p.1) rfl (by omega) ?_
  refine px_ineg rfl ?_
  refine px_ist3 rfl rfl (by decide) ?_
  refine px_l3 (y := nI 37) (by rw [p_up_n _ _ (gA_ne p.1).1, hs]; simp only [cT, bnC, Int32.neg_neg]) ?_
  refine px_iload_n (kk := 3) rfl rfl rfl ?_
  refine px_if_gt rfl (fun _ => ?_) (fun h => absurd h (by decide))
  refine px_iload_n (kk := 3) rfl rfl rfl ?_
  refine px_bipush (v := nI 97) rfl b_97 ?_
  refine px_icmp_lt rfl (fun _ => ?_) (fun h => absurd h (by decide))
  refine px_iload_n (kk := 1) rfl rfl rfl ?_
  refine px_iconst (v := nI 1) rfl k_1 ?_
  refine px_icmp_ge rfl (fun c47 => ?_) (fun h => absurd (nI_le (by omega) (by first | omega | (simp at h100; omega))) h)
  refine px_iload_n (kk := 3) rfl rfl rfl ?_
  refine px_bipush (v := nI 59) rfl b_59 ?_
  refine px_icmp_ne rfl (fun _ => ?_) (fun h => absurd h (by decide))
  refine px_iload_n (kk := 3) rfl rfl rfl ?_
  refine px_bipush (v := nI 63) rfl b_63 ?_
  refine px_icmp_ne rfl (fun _ => ?_) (fun h => absurd h (by decide))
  refine px_iload_n (kk := 3) rfl rfl rfl ?_
  refine px_bipush (v := nI 33) rfl b_33 ?_
  refine px_icmp_eq rfl (fun h => absurd h (by decide)) (fun _ => ?_)
  refine px_iload_n (kk := 3) rfl rfl rfl ?_
  refine px_bipush (v := nI 126) rfl b_126 ?_
  refine px_icmp_ne rfl (fun _ => ?_) (fun h => absurd h (by decide))
  refine px_iload_n (kk := 1) rfl rfl rfl ?_
  refine px_iconst (v := nI 1) rfl k_1 ?_
  refine px_icmp_le rfl (fun h => absurd h (nI_ge (by omega) (by first | omega | (simp at h100; omega)))) (fun c114 => ?_)
  refine px_iinc1 rfl rfl rfl (by decide) ?_
  refine px_l1 (y := nI (q.length + 1)) (n_dec _) ?_
  refine px_aload_n (kk := 0) rfl rfl rfl ?_
  refine px_getR (r := 8) rfl gS_6 rfl (gR_6_2 _) ?_
  refine px_iload_n (kk := 1) rfl rfl rfl ?_
  refine px_iconst (v := nI 1) rfl k_1 ?_
  refine px_isubN rfl (by omega) ?_
  refine px_aload_n (kk := 0) rfl rfl rfl ?_
  refine px_getR (r := 8) rfl gS_6 rfl (gR_6_2 _) ?_
  refine px_iload_n (kk := 1) rfl rfl rfl ?_
  refine px_iconst (v := nI 1) rfl k_1 ?_
  refine px_isubN rfl (by omega) ?_
  refine px_iald (j := q.length) rfl gS_8 (by congr 1) (by first | omega | (simp at h100; omega)) ?_
  refine px_iload_n (kk := 3) rfl rfl rfl ?_
  refine px_aload_n (kk := 0) rfl rfl rfl ?_
  refine px_getR (r := 8) rfl gS_6 rfl (gR_6_2 _) ?_
  refine px_iload_n (kk := 1) rfl rfl rfl ?_
  refine px_iald (j := (q.length + 1)) rfl gS_8 rfl (by first | omega | (simp at h100; omega)) ?_
  refine px_callS0 CX3_joined [.int _, .ref 8] [.int _, .int _, .int _] (vX3_joined_9) rfl rfl rfl (Nat.le_of_ble_eq_true rfl) (by decide) ?_
  rintro _ _ - ⟨rfl, rfl⟩
  refine px_iast (j := q.length) rfl gS_8 (by congr 1) (by first | omega | (simp at h100; omega)) ?_
  refine px_iinc2 (v := nI (k + 1)) rfl (n_inc k) rfl (by decide) ?_
  refine px_goto rfl ?_
  rw [p_up_s, up2, show g (q.length + 1) = b from hsg.1, hsg.2.1]
  exact kont _ _ (SG_up hsg.2.2 (Nat.le_refl _) |> fun z => ⟨p_up_s _ _ _, z⟩)
