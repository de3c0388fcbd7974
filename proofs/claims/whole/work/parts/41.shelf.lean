/-! rows filled, bits counted, shelves -/
theorem up_up {α : Type} (I : Nat → α) (a : Nat) (f g : α) : va_up (va_up I a f) a g = va_up I a g := by
  funext c
  by_cases h : c = a
  · subst h; rw [p_up_s, p_up_s]
  · rw [p_up_n _ _ h, p_up_n _ _ h, p_up_n _ _ h]
theorem fill_step {α : Type} (g : Nat → α) (k : Nat) (v : α) : va_up (fun j => if j < k then v else g j) k v = fun j => if j < k + 1 then v else g j := by
  funext j
  by_cases h : j = k
  · subst h; rw [p_up_s, if_pos (by omega)]
  · rw [p_up_n _ _ h]
    by_cases h2 : j < k
    · rw [if_pos h2, if_pos (by omega)]
    · rw [if_neg h2, if_neg (by omega)]
theorem fill_next {α : Type} (I : Nat → Nat → α) (a k : Nat) (v : α) : va_up (va_up I a (fun j => if j < k then v else I a j)) a (va_up (va_up I a (fun j => if j < k then v else I a j) a) k v) = va_up I a (fun j => if j < k + 1 then v else I a j) := by
  rw [p_up_s, fill_step]
  funext c
  by_cases h : c = a
  · subst h; rw [p_up_s, p_up_s]
  · rw [p_up_n _ _ h, p_up_n _ _ h, p_up_n _ _ h]
theorem fill_0 {α : Type} (I : Nat → Nat → α) (a : Nat) (v : α) : I = va_up I a (fun j => if j < 0 then v else I a j) := by
  funext c
  by_cases h : c = a
  · subst h; rw [p_up_s]; funext j; rw [if_neg (by omega)]
  · rw [p_up_n _ _ h]
theorem lJ_fillI {I : Nat → Nat → Int32} {J : Nat → Nat → Int64} {p : Bool × Option Nat} {ro : List (Nat × Nat × (Nat → Int32))} {a N : Nat} (ha : gS[a]? = some (100, N)) (hN : N < 2 ^ 31) (v : Int32) (k : Nat) (hk : k ≤ N) : Px 0 0 0 CJ7_fill_53178 5 [some (.ref (a)), some (.int (v)), some (.int (nI k)), some (.int (nI N))] [] (gS, (va_up I a (fun j => if j < k then v else I a j)), J, gR p, ro) (qV (gS, (va_up I a (fun j => if j < N then v else I a j)), J, gR p, ro)) := by
  refine px_iload_n (kk := 2) rfl rfl rfl ?_
  refine px_iload_n (kk := 3) rfl rfl rfl ?_
  refine px_icmp_ge rfl (fun c7 => ?_) (fun c7 => ?_)
  · refine px_return rfl rfl ?_
    rw [n_le (by omega) (by omega)] at c7
    obtain rfl : k = N := by omega
    exact ⟨rfl, rfl⟩
  · rw [n_le (by omega) (by omega)] at c7
    refine px_aload_n (kk := 0) rfl rfl rfl ?_
    refine px_iload_n (kk := 2) rfl rfl rfl ?_
    refine px_iload_n (kk := 1) rfl rfl rfl ?_
    refine px_iast (j := k) rfl ha rfl (by omega) ?_
    refine px_iinc2 (v := nI (k + 1)) rfl (n_inc k) rfl (by decide) ?_
    refine px_goto rfl ?_
    refine px_mem (fill_next I a k v) ?_
    exact lJ_fillI ha hN v (k + 1) (by omega)
termination_by N - k
decreasing_by all_goals (have h := ‹¬ nI N ≤ nI k›; rw [n_le (by omega) (by omega)] at h; omega)
theorem vJ_fillI {I : Nat → Nat → Int32} {J : Nat → Nat → Int64} {p : Bool × Option Nat} {ro : List (Nat × Nat × (Nat → Int32))} {a N : Nat} (ha : gS[a]? = some (100, N)) (hN : N < 2 ^ 31) (v : Int32) : Pv 0 0 0 CJ7_fill_53178 [.ref (a), .int (v)] (gS, I, J, gR p, ro) (qV (gS, (va_up I a (fun j => if j < N then v else I a j)), J, gR p, ro)) := by
  refine ⟨okCJ7_fill_53178, Nat.le_of_ble_eq_true rfl, (show Px _ _ _ _ 0 [some (.ref (a)), some (.int (v)), none, none] [] _ _ from ?_)⟩
  refine px_iconst (v := nI 0) rfl k_0 ?_
  refine px_ist2 rfl rfl (by decide) ?_
  refine px_aload_n (kk := 0) rfl rfl rfl ?_
  refine px_alen rfl ha ?_
  refine px_ist3 rfl rfl (by decide) ?_
  refine px_mem (fill_0 I a v) ?_
  exact lJ_fillI ha hN v 0 (by omega)
theorem px_memJ {d mc ms : Nat} {cd : pm_C} {i : Nat} {ls : List (Option Value)} {st : List Value} {Sh : List (Nat × Nat)} {I : Nat → Nat → Int32} {J J' : Nat → Nat → Int64} {R : Nat → Nat → Option Nat} {ro : List (Nat × Nat × (Nat → Int32))} {Q : Option Value → pm_M → Prop} (e : J = J') (h : Px d mc ms cd i ls st (Sh, I, J', R, ro) Q) : Px d mc ms cd i ls st (Sh, I, J, R, ro) Q := e ▸ h
theorem lJ_fillL {I : Nat → Nat → Int32} {J : Nat → Nat → Int64} {p : Bool × Option Nat} {ro : List (Nat × Nat × (Nat → Int32))} {a N : Nat} (ha : gS[a]? = some (101, N)) (hN : N < 2 ^ 31) (v : Int64) (k : Nat) (hk : k ≤ N) : Px 0 0 0 CJ7_fill_d0a16 5 [some (.ref (a)), some (.long (v)), none, some (.int (nI k)), some (.int (nI N))] [] (gS, I, (va_up J a (fun j => if j < k then v else J a j)), gR p, ro) (qV (gS, I, (va_up J a (fun j => if j < N then v else J a j)), gR p, ro)) := by
  refine px_iload_n (kk := 3) rfl rfl rfl ?_
  refine px_iload rfl rfl ?_
  refine px_icmp_ge rfl (fun c7 => ?_) (fun c7 => ?_)
  · refine px_return rfl rfl ?_
    rw [n_le (by omega) (by omega)] at c7
    obtain rfl : k = N := by omega
    exact ⟨rfl, rfl⟩
  · rw [n_le (by omega) (by omega)] at c7
    refine px_aload_n (kk := 0) rfl rfl rfl ?_
    refine px_iload_n (kk := 3) rfl rfl rfl ?_
    refine px_lload_n (kk := 1) rfl rfl rfl ?_
    refine px_last (j := k) rfl ha rfl (by omega) ?_
    refine px_iinc3 (v := nI (k + 1)) rfl (n_inc k) rfl (by decide) ?_
    refine px_goto rfl ?_
    refine px_memJ (fill_next J a k v) ?_
    exact lJ_fillL ha hN v (k + 1) (by omega)
termination_by N - k
decreasing_by all_goals (have h := ‹¬ nI N ≤ nI k›; rw [n_le (by omega) (by omega)] at h; omega)
theorem vJ_fillL {I : Nat → Nat → Int32} {J : Nat → Nat → Int64} {p : Bool × Option Nat} {ro : List (Nat × Nat × (Nat → Int32))} {a N : Nat} (ha : gS[a]? = some (101, N)) (hN : N < 2 ^ 31) (v : Int64) : Pv 0 0 0 CJ7_fill_d0a16 [.ref (a), .long (v)] (gS, I, J, gR p, ro) (qV (gS, I, (va_up J a (fun j => if j < N then v else J a j)), gR p, ro)) := by
  refine ⟨okCJ7_fill_d0a16, Nat.le_of_ble_eq_true rfl, (show Px _ _ _ _ 0 [some (.ref (a)), some (.long (v)), none, none, none] [] _ _ from ?_)⟩
  refine px_iconst (v := nI 0) rfl k_0 ?_
  refine px_ist3 rfl rfl (by decide) ?_
  refine px_aload_n (kk := 0) rfl rfl rfl ?_
  refine px_alenL rfl ha ?_
  refine px_ist4 rfl rfl (by decide) ?_
  refine px_memJ (fill_0 J a v) ?_
  exact lJ_fillL ha hN v 0 (by omega)
def pop1 (x : Int32) : Int32 := x - ((x.toUInt32 >>> ((nI 1).toUInt32 &&& Int32.toUInt32 31)).toInt32 &&& 1431655765)
def pop2 (x : Int32) : Int32 := (x &&& 858993459) + ((x.toUInt32 >>> ((nI 2).toUInt32 &&& Int32.toUInt32 31)).toInt32 &&& 858993459)
def pop3 (x : Int32) : Int32 := (x + (x.toUInt32 >>> ((nI 4).toUInt32 &&& Int32.toUInt32 31)).toInt32) &&& 252645135
def pop4 (x : Int32) : Int32 := x + (x.toUInt32 >>> ((nI 8).toUInt32 &&& Int32.toUInt32 31)).toInt32
def pop5 (x : Int32) : Int32 := x + (x.toUInt32 >>> ((nI 16).toUInt32 &&& Int32.toUInt32 31)).toInt32
def sp_pop (x : Int32) : Int32 := pop5 (pop4 (pop3 (pop2 (pop1 x)))) &&& nI 63
theorem px_l0 {d mc ms : Nat} {cd : pm_C} {i : Nat} {x y : Option Value} {t : List (Option Value)} {st : List Value} {S : pm_M} {Q : Option Value → pm_M → Prop} (e : x = y) (k : Px d mc ms cd i (y :: t) st S Q) : Px d mc ms cd i (x :: t) st S Q := e ▸ k
theorem vJ_pop {I : Nat → Nat → Int32} {J : Nat → Nat → Int64} {p : Bool × Option Nat} {ro : List (Nat × Nat × (Nat → Int32))} {x : Int32} : Pv 0 0 0 CJ6_bitCount_0f7a4 [.int (x)] (gS, I, J, gR p, ro) (qI (sp_pop x) (gS, I, J, gR p, ro)) := by
  refine ⟨okCJ6_bitCount_0f7a4, Nat.le_of_ble_eq_true rfl, (show Px _ _ _ _ 0 [some (.int (x))] [] _ _ from ?_)⟩
  refine px_iload_n (kk := 0) rfl rfl rfl ?_
  refine px_iload_n (kk := 0) rfl rfl rfl ?_
  refine px_iconst (v := nI 1) rfl k_1 ?_
  refine px_iushr rfl ?_
  refine px_ldc_w (v := 1431655765) rfl (by decide) ?_
  refine px_iand rfl ?_
  refine px_isub rfl ?_
  refine px_ist0 rfl (by decide) ?_
  refine px_l0 (y := some (.int (pop1 x))) rfl ?_
  refine px_iload_n (kk := 0) rfl rfl rfl ?_
  refine px_ldc_w (v := 858993459) rfl (by decide) ?_
  refine px_iand rfl ?_
  refine px_iload_n (kk := 0) rfl rfl rfl ?_
  refine px_iconst (v := nI 2) rfl k_2 ?_
  refine px_iushr rfl ?_
  refine px_ldc_w (v := 858993459) rfl (by decide) ?_
  refine px_iand rfl ?_
  refine px_iadd rfl ?_
  refine px_ist0 rfl (by decide) ?_
  refine px_l0 (y := some (.int (pop2 (pop1 x)))) rfl ?_
  refine px_iload_n (kk := 0) rfl rfl rfl ?_
  refine px_iload_n (kk := 0) rfl rfl rfl ?_
  refine px_iconst (v := nI 4) rfl k_4 ?_
  refine px_iushr rfl ?_
  refine px_iadd rfl ?_
  refine px_ldc_w (v := 252645135) rfl (by decide) ?_
  refine px_iand rfl ?_
  refine px_ist0 rfl (by decide) ?_
  refine px_l0 (y := some (.int (pop3 (pop2 (pop1 x))))) rfl ?_
  refine px_iload_n (kk := 0) rfl rfl rfl ?_
  refine px_iload_n (kk := 0) rfl rfl rfl ?_
  refine px_bipush (v := nI 8) rfl b_8 ?_
  refine px_iushr rfl ?_
  refine px_iadd rfl ?_
  refine px_ist0 rfl (by decide) ?_
  refine px_l0 (y := some (.int (pop4 (pop3 (pop2 (pop1 x)))))) rfl ?_
  refine px_iload_n (kk := 0) rfl rfl rfl ?_
  refine px_iload_n (kk := 0) rfl rfl rfl ?_
  refine px_bipush (v := nI 16) rfl b_16 ?_
  refine px_iushr rfl ?_
  refine px_iadd rfl ?_
  refine px_ist0 rfl (by decide) ?_
  refine px_l0 (y := some (.int (pop5 (pop4 (pop3 (pop2 (pop1 x))))))) rfl ?_
  refine px_iload_n (kk := 0) rfl rfl rfl ?_
  refine px_bipush (v := nI 63) rfl b_63 ?_
  refine px_iand rfl ?_
  refine px_ireturn rfl (.inl rfl) ?_
  exact ⟨rfl, rfl⟩
theorem vX7_isSort {I : Nat → Nat → Int32} {J : Nat → Nat → Int64} {p : Bool × Option Nat} {ro : List (Nat × Nat × (Nat → Int32))} {x : Int32} : Pv 0 0 0 CX7_isSort [.int (x)] (gS, I, J, gR p, ro) (qB (∃ t, t < 5 ∧ x = nI t) (gS, I, J, gR p, ro)) := by
  refine ⟨okCX7_isSort, Nat.le_of_ble_eq_true rfl, (show Px _ _ _ _ 0 [some (.int (x))] [] _ _ from ?_)⟩
  refine px_iload_n (kk := 0) rfl rfl rfl ?_
  refine px_if_lt rfl (fun c1 => ?_) (fun c1 => ?_)
  · refine px_iconst (v := nI 0) rfl k_0 ?_
    refine px_ireturn rfl (.inr ⟨rfl, by decide⟩) ?_
    exact qB_f (fun ⟨t, ht, e⟩ => n_nneg (by omega) (e ▸ c1))
  · obtain ⟨z, hz, rfl⟩ := n_ofn c1
    refine px_iload_n (kk := 0) rfl rfl rfl ?_
    refine px_iconst (v := nI 4) rfl k_4 ?_
    refine px_icmp_gt rfl (fun c4 => ?_) (fun c4 => ?_)
    · refine px_iconst (v := nI 0) rfl k_0 ?_
      refine px_ireturn rfl (.inr ⟨rfl, by decide⟩) ?_
      exact qB_f (fun ⟨t, ht, e⟩ => by rw [n_lt (by omega) hz] at c4; rw [n_eq hz (by omega)] at e; omega)
    · refine px_iconst (v := nI 1) rfl k_1 ?_
      refine px_goto rfl ?_
      refine px_ireturn rfl (.inr ⟨rfl, by decide⟩) ?_
      rw [n_lt (by omega) hz] at c4
      exact qB_t ⟨z, by omega, rfl⟩
theorem vX7_isEmpty {I : Nat → Nat → Int32} {J : Nat → Nat → Int64} {p : Bool × Option Nat} {ro : List (Nat × Nat × (Nat → Int32))} {s : Nat} (hs : s < 6) : Pv 0 0 0 CX7_isEmpty [.ref (53 + 2 * s)] (gS, I, J, gR p, ro) (qB (I (53 + 2 * s) 1 = nI 0) (gS, I, J, gR p, ro)) := by
  refine ⟨okCX7_isEmpty, Nat.le_of_ble_eq_true rfl, (show Px _ _ _ _ 0 [some (.ref (53 + 2 * s))] [] _ _ from ?_)⟩
  refine px_aload_n (kk := 0) rfl rfl rfl ?_
  refine px_getI rfl (gS_sh s hs) rfl ?_
  refine px_if_ne rfl (fun c2 => ?_) (fun c2 => ?_)
  · refine px_iconst (v := nI 0) rfl k_0 ?_
    refine px_ireturn rfl (.inr ⟨rfl, by decide⟩) ?_
    exact qB_f (fun h => c2 (by rw [n_0]; exact h))
  · refine px_iconst (v := nI 1) rfl k_1 ?_
    refine px_goto rfl ?_
    refine px_ireturn rfl (.inr ⟨rfl, by decide⟩) ?_
    exact qB_t (by rw [← n_0]; exact c2)
theorem vX7_isRow {I : Nat → Nat → Int32} {J : Nat → Nat → Int64} {p : Bool × Option Nat} {ro : List (Nat × Nat × (Nat → Int32))} {s : Nat} (hs : s < 6) : Pv 0 0 0 CX7_isRow [.ref (53 + 2 * s)] (gS, I, J, gR p, ro) (qB (I (53 + 2 * s) 1 = nI 2) (gS, I, J, gR p, ro)) := by
  refine ⟨okCX7_isRow, Nat.le_of_ble_eq_true rfl, (show Px _ _ _ _ 0 [some (.ref (53 + 2 * s))] [] _ _ from ?_)⟩
  refine px_aload_n (kk := 0) rfl rfl rfl ?_
  refine px_getI rfl (gS_sh s hs) rfl ?_
  refine px_iconst (v := nI 2) rfl k_2 ?_
  refine px_icmp_ne rfl (fun c3 => ?_) (fun c3 => ?_)
  · refine px_iconst (v := nI 0) rfl k_0 ?_
    refine px_ireturn rfl (.inr ⟨rfl, by decide⟩) ?_
    exact qB_f c3
  · refine px_iconst (v := nI 1) rfl k_1 ?_
    refine px_goto rfl ?_
    refine px_ireturn rfl (.inr ⟨rfl, by decide⟩) ?_
    exact qB_t c3
theorem vX7_isBytes {I : Nat → Nat → Int32} {J : Nat → Nat → Int64} {p : Bool × Option Nat} {ro : List (Nat × Nat × (Nat → Int32))} {s : Nat} (hs : s < 6) : Pv 0 0 0 CX7_isBytes [.ref (53 + 2 * s)] (gS, I, J, gR p, ro) (qB (I (53 + 2 * s) 1 = nI 2 ∧ I (53 + 2 * s) 3 = nI 0) (gS, I, J, gR p, ro)) := by
  refine ⟨okCX7_isBytes, Nat.le_of_ble_eq_true rfl, (show Px _ _ _ _ 0 [some (.ref (53 + 2 * s))] [] _ _ from ?_)⟩
  refine px_aload_n (kk := 0) rfl rfl rfl ?_
  refine px_getI rfl (gS_sh s hs) rfl ?_
  refine px_iconst (v := nI 2) rfl k_2 ?_
  refine px_icmp_ne rfl (fun c3 => ?_) (fun c3 => ?_)
  · refine px_iconst (v := nI 0) rfl k_0 ?_
    refine px_ireturn rfl (.inr ⟨rfl, by decide⟩) ?_
    exact qB_f (fun h => c3 h.1)
  · refine px_aload_n (kk := 0) rfl rfl rfl ?_
    refine px_getI rfl (gS_sh s hs) rfl ?_
    refine px_if_ne rfl (fun c6 => ?_) (fun c6 => ?_)
    · refine px_iconst (v := nI 0) rfl k_0 ?_
      refine px_ireturn rfl (.inr ⟨rfl, by decide⟩) ?_
      exact qB_f (fun h => c6 (by rw [n_0]; exact h.2))
    · refine px_iconst (v := nI 1) rfl k_1 ?_
      refine px_goto rfl ?_
      refine px_ireturn rfl (.inr ⟨rfl, by decide⟩) ?_
      exact qB_t ⟨c3, by rw [← n_0]; exact c6⟩
theorem vX7_hasRun {I : Nat → Nat → Int32} {J : Nat → Nat → Int64} {p : Bool × Option Nat} {ro : List (Nat × Nat × (Nat → Int32))} {s : Nat} (hs : s < 6) {z : Nat} (hz : I (53 + 2 * s) 4 = nI z) (hz60 : z ≤ 60) {x y : Int32} : Pv 0 0 0 CX7_hasRun [.ref (53 + 2 * s), .int (x), .int (y)] (gS, I, J, gR p, ro) (qB (∃ a b, x = nI a ∧ y = nI b ∧ a + b ≤ z) (gS, I, J, gR p, ro)) := by
  refine ⟨okCX7_hasRun, Nat.le_of_ble_eq_true rfl, (show Px _ _ _ _ 0 [some (.ref (53 + 2 * s)), some (.int (x)), some (.int (y))] [] _ _ from ?_)⟩
  refine px_iload_n (kk := 1) rfl rfl rfl ?_
  refine px_if_lt rfl (fun c1 => ?_) (fun c1 => ?_)
  · refine px_iconst (v := nI 0) rfl k_0 ?_
    refine px_ireturn rfl (.inr ⟨rfl, by decide⟩) ?_
    exact qB_f (fun ⟨a, b, e1, e2, h⟩ => n_nneg (by omega) (e1 ▸ c1))
  · obtain ⟨a, ha, rfl⟩ := n_ofn c1
    refine px_iload_n (kk := 2) rfl rfl rfl ?_
    refine px_if_lt rfl (fun c3 => ?_) (fun c3 => ?_)
    · refine px_iconst (v := nI 0) rfl k_0 ?_
      refine px_ireturn rfl (.inr ⟨rfl, by decide⟩) ?_
      exact qB_f (fun ⟨a, b, e1, e2, h⟩ => n_nneg (by omega) (e2 ▸ c3))
    · obtain ⟨b, hb, rfl⟩ := n_ofn c3
      refine px_iload_n (kk := 2) rfl rfl rfl ?_
      refine px_aload_n (kk := 0) rfl rfl rfl ?_
      refine px_getIe rfl (gS_sh s hs) rfl hz ?_
      refine px_icmp_gt rfl (fun c7 => ?_) (fun c7 => ?_)
      · refine px_iconst (v := nI 0) rfl k_0 ?_
        refine px_ireturn rfl (.inr ⟨rfl, by decide⟩) ?_
        exact qB_f (fun ⟨a2, b2, e1, e2, h⟩ => by rw [n_lt (by omega) hb] at c7; rw [n_eq hb (by omega)] at e2; omega)
      · rw [n_lt (by omega) hb] at c7
        refine px_iload_n (kk := 1) rfl rfl rfl ?_
        refine px_aload_n (kk := 0) rfl rfl rfl ?_
        refine px_getIe rfl (gS_sh s hs) rfl hz ?_
        refine px_iload_n (kk := 2) rfl rfl rfl ?_
        refine px_isubN rfl (by omega) ?_
        refine px_icmp_gt rfl (fun c13 => ?_) (fun c13 => ?_)
        · refine px_iconst (v := nI 0) rfl k_0 ?_
          refine px_ireturn rfl (.inr ⟨rfl, by decide⟩) ?_
          exact qB_f (fun ⟨a2, b2, e1, e2, h⟩ => by rw [n_lt (by omega) ha] at c13; rw [n_eq ha (by omega)] at e1; rw [n_eq hb (by omega)] at e2; omega)
        · refine px_iconst (v := nI 1) rfl k_1 ?_
          refine px_goto rfl ?_
          refine px_ireturn rfl (.inr ⟨rfl, by decide⟩) ?_
          rw [n_lt (by omega) ha] at c13
          exact qB_t ⟨a, b, rfl, rfl, by omega⟩
theorem vX7_hasThree {I : Nat → Nat → Int32} {J : Nat → Nat → Int64} {p : Bool × Option Nat} {ro : List (Nat × Nat × (Nat → Int32))} {s : Nat} (hs : s < 6) {z : Nat} (hz : I (53 + 2 * s) 4 = nI z) (hz60 : z ≤ 60) {x : Int32} : Pv 1 0 0 CX7_hasThree [.ref (53 + 2 * s), .int (x)] (gS, I, J, gR p, ro) (qB (∃ a, x = nI a ∧ a + 3 ≤ z) (gS, I, J, gR p, ro)) := by
  refine ⟨okCX7_hasThree, Nat.le_of_ble_eq_true rfl, (show Px _ _ _ _ 0 [some (.ref (53 + 2 * s)), some (.int (x))] [] _ _ from ?_)⟩
  refine px_aload_n (kk := 0) rfl rfl rfl ?_
  refine px_iload_n (kk := 1) rfl rfl rfl ?_
  refine px_iconst (v := nI 3) rfl k_3 ?_
  refine px_callV0 CX7_hasRun [] [.int _, .int _] (vX7_hasRun hs hz hz60) rfl (gS_sh s hs) (by decide) rfl rfl rfl (Nat.le_of_ble_eq_true rfl) (by decide) ?_
  rintro _ _ - (⟨⟨a, b, rfl, e2, h⟩, rfl, rfl⟩ | ⟨h, rfl, rfl⟩)
  · refine px_ireturn rfl (.inr ⟨rfl, by decide⟩) ?_
    rw [n_eq (by omega) (by omega)] at e2
    exact qB_t ⟨a, rfl, by omega⟩
  · refine px_ireturn rfl (.inr ⟨rfl, by decide⟩) ?_
    exact qB_f (fun ⟨a, e, h2⟩ => h ⟨a, 3, e, rfl, h2⟩)
theorem vX7_byteAt {I : Nat → Nat → Int32} {J : Nat → Nat → Int64} {p : Bool × Option Nat} {ro : List (Nat × Nat × (Nat → Int32))} {s : Nat} (hs : s < 6) {z : Nat} (hz : I (53 + 2 * s) 4 = nI z) (hz60 : z ≤ 60) {a : Nat} (ha : a < z) : Pv 1 0 0 CX7_byteAt [.ref (53 + 2 * s), .int (nI a)] (gS, I, J, gR p, ro) (qI (J (54 + 2 * s) a).toInt32 (gS, I, J, gR p, ro)) := by
  refine ⟨okCX7_byteAt, Nat.le_of_ble_eq_true rfl, (show Px _ _ _ _ 0 [some (.ref (53 + 2 * s)), some (.int (nI a))] [] _ _ from ?_)⟩
  refine px_aload_n (kk := 0) rfl rfl rfl ?_
  refine px_iload_n (kk := 1) rfl rfl rfl ?_
  refine px_iconst (v := nI 1) rfl k_1 ?_
  refine px_callV0 CX7_hasRun [] [.int _, .int _] (vX7_hasRun hs hz hz60) rfl (gS_sh s hs) (by decide) rfl rfl rfl (Nat.le_of_ble_eq_true rfl) (by decide) ?_
  rintro _ _ - (⟨_, rfl, rfl⟩ | ⟨h, rfl, rfl⟩)
  · refine px_if_eq rfl (fun h => absurd h (by decide)) (fun _ => ?_)
    refine px_aload_n (kk := 0) rfl rfl rfl ?_
    refine px_getR (r := 54 + 2 * s) rfl (gS_sh s hs) rfl (gR_sh _ s hs) ?_
    refine px_iload_n (kk := 1) rfl rfl rfl ?_
    refine px_lald (j := a) rfl (gS_ce s hs) rfl (by omega) ?_
    refine px_l2i rfl ?_
    refine px_goto rfl ?_
    refine px_ireturn rfl (.inl rfl) ?_
    exact ⟨rfl, rfl⟩
  · exact absurd ⟨a, 1, rfl, rfl, ha⟩ h
def sp_low (t : Nat) (v : Int64) : Int64 := match t with
  | 0 => (v.toInt32.toInt8.toInt32).toInt64
  | 1 => (v.toInt32.toInt16.toInt32).toInt64
  | 2 => v.toInt32.toInt64
  | 3 => v
  | _ => (if v ≠ 0 then 1 else 0)
theorem vX7_low_0 {I : Nat → Nat → Int32} {J : Nat → Nat → Int64} {p : Bool × Option Nat} {ro : List (Nat × Nat × (Nat → Int32))} {s : Nat} (hs : s < 6) (ht : I (53 + 2 * s) 3 = nI 0) {v : Int64} : Pv 0 0 0 CX7_lowestBits [.ref (53 + 2 * s), .long (v)] (gS, I, J, gR p, ro) (qJ (sp_low 0 v) (gS, I, J, gR p, ro)) := by
  refine ⟨okCX7_lowestBits, Nat.le_of_ble_eq_true rfl, (show Px _ _ _ _ 0 [some (.ref (53 + 2 * s)), some (.long (v)), none] [] _ _ from ?_)⟩
  refine px_aload_n (kk := 0) rfl rfl rfl ?_
  refine px_getIe rfl (gS_sh s hs) rfl ht ?_
  refine px_tableIn rfl 0 (by decide) (by decide) rfl ?_
  refine px_lload_n (kk := 1) rfl rfl rfl ?_
  refine px_l2i rfl ?_
  refine px_i2b rfl ?_
  refine px_i2l rfl ?_
  refine px_lreturn rfl rfl ?_
  exact ⟨rfl, rfl⟩
theorem vX7_become_0 {I : Nat → Nat → Int32} {J : Nat → Nat → Int64} {p : Bool × Option Nat} {ro : List (Nat × Nat × (Nat → Int32))} {s : Nat} (hs : s < 6) (ht : I (53 + 2 * s) 3 = nI 0) {z : Nat} (hz : I (53 + 2 * s) 4 = nI z) (hz60 : z ≤ 60) {a : Nat} (ha : a < z) {v : Int64} : Pv 1 0 0 CX7_become [.ref (53 + 2 * s), .int (nI a), .long (v)] (gS, I, J, gR p, ro) (qV (gS, I, (va_up J (54 + 2 * s) (va_up (J (54 + 2 * s)) a (sp_low 0 v))), gR p, ro)) := by
  refine ⟨okCX7_become, Nat.le_of_ble_eq_true rfl, (show Px _ _ _ _ 0 [some (.ref (53 + 2 * s)), some (.int (nI a)), some (.long (v)), none] [] _ _ from ?_)⟩
  refine px_aload_n (kk := 0) rfl rfl rfl ?_
  refine px_iload_n (kk := 1) rfl rfl rfl ?_
  refine px_iconst (v := nI 1) rfl k_1 ?_
  refine px_callV0 CX7_hasRun [] [.int _, .int _] (vX7_hasRun hs hz hz60) rfl (gS_sh s hs) (by decide) rfl rfl rfl (Nat.le_of_ble_eq_true rfl) (by decide) ?_
  rintro _ _ - (⟨_, rfl, rfl⟩ | ⟨h, rfl, rfl⟩)
  · refine px_if_eq rfl (fun h => absurd h (by decide)) (fun _ => ?_)
    refine px_aload_n (kk := 0) rfl rfl rfl ?_
    refine px_getR (r := 54 + 2 * s) rfl (gS_sh s hs) rfl (gR_sh _ s hs) ?_
    refine px_iload_n (kk := 1) rfl rfl rfl ?_
    refine px_aload_n (kk := 0) rfl rfl rfl ?_
    refine px_lload_n (kk := 2) rfl rfl rfl ?_
    refine px_callV0 CX7_lowestBits [.int _, .ref _] [.long _] (vX7_low_0 hs ht) rfl (gS_sh s hs) (by decide) rfl rfl rfl (Nat.le_of_ble_eq_true rfl) (by decide) ?_
    rintro _ _ - ⟨rfl, rfl⟩
    refine px_last (j := a) rfl (gS_ce s hs) rfl (by omega) ?_
    refine px_return rfl rfl ?_
    exact ⟨rfl, rfl⟩
  · exact absurd ⟨a, 1, rfl, rfl, ha⟩ h
theorem vX7_low_1 {I : Nat → Nat → Int32} {J : Nat → Nat → Int64} {p : Bool × Option Nat} {ro : List (Nat × Nat × (Nat → Int32))} {s : Nat} (hs : s < 6) (ht : I (53 + 2 * s) 3 = nI 1) {v : Int64} : Pv 0 0 0 CX7_lowestBits [.ref (53 + 2 * s), .long (v)] (gS, I, J, gR p, ro) (qJ (sp_low 1 v) (gS, I, J, gR p, ro)) := by
  refine ⟨okCX7_lowestBits, Nat.le_of_ble_eq_true rfl, (show Px _ _ _ _ 0 [some (.ref (53 + 2 * s)), some (.long (v)), none] [] _ _ from ?_)⟩
  refine px_aload_n (kk := 0) rfl rfl rfl ?_
  refine px_getIe rfl (gS_sh s hs) rfl ht ?_
  refine px_tableIn rfl 1 (by decide) (by decide) rfl ?_
  refine px_lload_n (kk := 1) rfl rfl rfl ?_
  refine px_l2i rfl ?_
  refine px_i2s rfl ?_
  refine px_i2l rfl ?_
  refine px_lreturn rfl rfl ?_
  exact ⟨rfl, rfl⟩
theorem vX7_become_1 {I : Nat → Nat → Int32} {J : Nat → Nat → Int64} {p : Bool × Option Nat} {ro : List (Nat × Nat × (Nat → Int32))} {s : Nat} (hs : s < 6) (ht : I (53 + 2 * s) 3 = nI 1) {z : Nat} (hz : I (53 + 2 * s) 4 = nI z) (hz60 : z ≤ 60) {a : Nat} (ha : a < z) {v : Int64} : Pv 1 0 0 CX7_become [.ref (53 + 2 * s), .int (nI a), .long (v)] (gS, I, J, gR p, ro) (qV (gS, I, (va_up J (54 + 2 * s) (va_up (J (54 + 2 * s)) a (sp_low 1 v))), gR p, ro)) := by
  refine ⟨okCX7_become, Nat.le_of_ble_eq_true rfl, (show Px _ _ _ _ 0 [some (.ref (53 + 2 * s)), some (.int (nI a)), some (.long (v)), none] [] _ _ from ?_)⟩
  refine px_aload_n (kk := 0) rfl rfl rfl ?_
  refine px_iload_n (kk := 1) rfl rfl rfl ?_
  refine px_iconst (v := nI 1) rfl k_1 ?_
  refine px_callV0 CX7_hasRun [] [.int _, .int _] (vX7_hasRun hs hz hz60) rfl (gS_sh s hs) (by decide) rfl rfl rfl (Nat.le_of_ble_eq_true rfl) (by decide) ?_
  rintro _ _ - (⟨_, rfl, rfl⟩ | ⟨h, rfl, rfl⟩)
  · refine px_if_eq rfl (fun h => absurd h (by decide)) (fun _ => ?_)
    refine px_aload_n (kk := 0) rfl rfl rfl ?_
    refine px_getR (r := 54 + 2 * s) rfl (gS_sh s hs) rfl (gR_sh _ s hs) ?_
    refine px_iload_n (kk := 1) rfl rfl rfl ?_
    refine px_aload_n (kk := 0) rfl rfl rfl ?_
    refine px_lload_n (kk := 2) rfl rfl rfl ?_
    refine px_callV0 CX7_lowestBits [.int _, .ref _] [.long _] (vX7_low_1 hs ht) rfl (gS_sh s hs) (by decide) rfl rfl rfl (Nat.le_of_ble_eq_true rfl) (by decide) ?_
    rintro _ _ - ⟨rfl, rfl⟩
    refine px_last (j := a) rfl (gS_ce s hs) rfl (by omega) ?_
    refine px_return rfl rfl ?_
    exact ⟨rfl, rfl⟩
  · exact absurd ⟨a, 1, rfl, rfl, ha⟩ h
theorem vX7_low_2 {I : Nat → Nat → Int32} {J : Nat → Nat → Int64} {p : Bool × Option Nat} {ro : List (Nat × Nat × (Nat → Int32))} {s : Nat} (hs : s < 6) (ht : I (53 + 2 * s) 3 = nI 2) {v : Int64} : Pv 0 0 0 CX7_lowestBits [.ref (53 + 2 * s), .long (v)] (gS, I, J, gR p, ro) (qJ (sp_low 2 v) (gS, I, J, gR p, ro)) := by
  refine ⟨okCX7_lowestBits, Nat.le_of_ble_eq_true rfl, (show Px _ _ _ _ 0 [some (.ref (53 + 2 * s)), some (.long (v)), none] [] _ _ from ?_)⟩
  refine px_aload_n (kk := 0) rfl rfl rfl ?_
  refine px_getIe rfl (gS_sh s hs) rfl ht ?_
  refine px_tableIn rfl 2 (by decide) (by decide) rfl ?_
  refine px_lload_n (kk := 1) rfl rfl rfl ?_
  refine px_l2i rfl ?_
  refine px_i2l rfl ?_
  refine px_lreturn rfl rfl ?_
  exact ⟨rfl, rfl⟩
theorem vX7_become_2 {I : Nat → Nat → Int32} {J : Nat → Nat → Int64} {p : Bool × Option Nat} {ro : List (Nat × Nat × (Nat → Int32))} {s : Nat} (hs : s < 6) (ht : I (53 + 2 * s) 3 = nI 2) {z : Nat} (hz : I (53 + 2 * s) 4 = nI z) (hz60 : z ≤ 60) {a : Nat} (ha : a < z) {v : Int64} : Pv 1 0 0 CX7_become [.ref (53 + 2 * s), .int (nI a), .long (v)] (gS, I, J, gR p, ro) (qV (gS, I, (va_up J (54 + 2 * s) (va_up (J (54 + 2 * s)) a (sp_low 2 v))), gR p, ro)) := by
  refine ⟨okCX7_become, Nat.le_of_ble_eq_true rfl, (show Px _ _ _ _ 0 [some (.ref (53 + 2 * s)), some (.int (nI a)), some (.long (v)), none] [] _ _ from ?_)⟩
  refine px_aload_n (kk := 0) rfl rfl rfl ?_
  refine px_iload_n (kk := 1) rfl rfl rfl ?_
  refine px_iconst (v := nI 1) rfl k_1 ?_
  refine px_callV0 CX7_hasRun [] [.int _, .int _] (vX7_hasRun hs hz hz60) rfl (gS_sh s hs) (by decide) rfl rfl rfl (Nat.le_of_ble_eq_true rfl) (by decide) ?_
  rintro _ _ - (⟨_, rfl, rfl⟩ | ⟨h, rfl, rfl⟩)
  · refine px_if_eq rfl (fun h => absurd h (by decide)) (fun _ => ?_)
    refine px_aload_n (kk := 0) rfl rfl rfl ?_
    refine px_getR (r := 54 + 2 * s) rfl (gS_sh s hs) rfl (gR_sh _ s hs) ?_
    refine px_iload_n (kk := 1) rfl rfl rfl ?_
    refine px_aload_n (kk := 0) rfl rfl rfl ?_
    refine px_lload_n (kk := 2) rfl rfl rfl ?_
    refine px_callV0 CX7_lowestBits [.int _, .ref _] [.long _] (vX7_low_2 hs ht) rfl (gS_sh s hs) (by decide) rfl rfl rfl (Nat.le_of_ble_eq_true rfl) (by decide) ?_
    rintro _ _ - ⟨rfl, rfl⟩
    refine px_last (j := a) rfl (gS_ce s hs) rfl (by omega) ?_
    refine px_return rfl rfl ?_
    exact ⟨rfl, rfl⟩
  · exact absurd ⟨a, 1, rfl, rfl, ha⟩ h
theorem vX7_low_3 {I : Nat → Nat → Int32} {J : Nat → Nat → Int64} {p : Bool × Option Nat} {ro : List (Nat × Nat × (Nat → Int32))} {s : Nat} (hs : s < 6) (ht : I (53 + 2 * s) 3 = nI 3) {v : Int64} : Pv 0 0 0 CX7_lowestBits [.ref (53 + 2 * s), .long (v)] (gS, I, J, gR p, ro) (qJ (sp_low 3 v) (gS, I, J, gR p, ro)) := by
  refine ⟨okCX7_lowestBits, Nat.le_of_ble_eq_true rfl, (show Px _ _ _ _ 0 [some (.ref (53 + 2 * s)), some (.long (v)), none] [] _ _ from ?_)⟩
  refine px_aload_n (kk := 0) rfl rfl rfl ?_
  refine px_getIe rfl (gS_sh s hs) rfl ht ?_
  refine px_tableIn rfl 3 (by decide) (by decide) rfl ?_
  refine px_lload_n (kk := 1) rfl rfl rfl ?_
  refine px_lreturn rfl rfl ?_
  exact ⟨rfl, rfl⟩
theorem vX7_become_3 {I : Nat → Nat → Int32} {J : Nat → Nat → Int64} {p : Bool × Option Nat} {ro : List (Nat × Nat × (Nat → Int32))} {s : Nat} (hs : s < 6) (ht : I (53 + 2 * s) 3 = nI 3) {z : Nat} (hz : I (53 + 2 * s) 4 = nI z) (hz60 : z ≤ 60) {a : Nat} (ha : a < z) {v : Int64} : Pv 1 0 0 CX7_become [.ref (53 + 2 * s), .int (nI a), .long (v)] (gS, I, J, gR p, ro) (qV (gS, I, (va_up J (54 + 2 * s) (va_up (J (54 + 2 * s)) a (sp_low 3 v))), gR p, ro)) := by
  refine ⟨okCX7_become, Nat.le_of_ble_eq_true rfl, (show Px _ _ _ _ 0 [some (.ref (53 + 2 * s)), some (.int (nI a)), some (.long (v)), none] [] _ _ from ?_)⟩
  refine px_aload_n (kk := 0) rfl rfl rfl ?_
  refine px_iload_n (kk := 1) rfl rfl rfl ?_
  refine px_iconst (v := nI 1) rfl k_1 ?_
  refine px_callV0 CX7_hasRun [] [.int _, .int _] (vX7_hasRun hs hz hz60) rfl (gS_sh s hs) (by decide) rfl rfl rfl (Nat.le_of_ble_eq_true rfl) (by decide) ?_
  rintro _ _ - (⟨_, rfl, rfl⟩ | ⟨h, rfl, rfl⟩)
  · refine px_if_eq rfl (fun h => absurd h (by decide)) (fun _ => ?_)
    refine px_aload_n (kk := 0) rfl rfl rfl ?_
    refine px_getR (r := 54 + 2 * s) rfl (gS_sh s hs) rfl (gR_sh _ s hs) ?_
    refine px_iload_n (kk := 1) rfl rfl rfl ?_
    refine px_aload_n (kk := 0) rfl rfl rfl ?_
    refine px_lload_n (kk := 2) rfl rfl rfl ?_
    refine px_callV0 CX7_lowestBits [.int _, .ref _] [.long _] (vX7_low_3 hs ht) rfl (gS_sh s hs) (by decide) rfl rfl rfl (Nat.le_of_ble_eq_true rfl) (by decide) ?_
    rintro _ _ - ⟨rfl, rfl⟩
    refine px_last (j := a) rfl (gS_ce s hs) rfl (by omega) ?_
    refine px_return rfl rfl ?_
    exact ⟨rfl, rfl⟩
  · exact absurd ⟨a, 1, rfl, rfl, ha⟩ h
theorem vX7_low_4 {I : Nat → Nat → Int32} {J : Nat → Nat → Int64} {p : Bool × Option Nat} {ro : List (Nat × Nat × (Nat → Int32))} {s : Nat} (hs : s < 6) (ht : I (53 + 2 * s) 3 = nI 4) {v : Int64} : Pv 0 0 0 CX7_lowestBits [.ref (53 + 2 * s), .long (v)] (gS, I, J, gR p, ro) (qJ (sp_low 4 v) (gS, I, J, gR p, ro)) := by
  refine ⟨okCX7_lowestBits, Nat.le_of_ble_eq_true rfl, (show Px _ _ _ _ 0 [some (.ref (53 + 2 * s)), some (.long (v)), none] [] _ _ from ?_)⟩
  refine px_aload_n (kk := 0) rfl rfl rfl ?_
  refine px_getIe rfl (gS_sh s hs) rfl ht ?_
  refine px_tableOut rfl (by decide) ?_
  refine px_lload_n (kk := 1) rfl rfl rfl ?_
  refine px_lconst (v := 0) rfl (by decide) ?_
  refine px_lcmp rfl ?_
  refine px_if_eq rfl (fun c22 => ?_) (fun c22 => ?_)
  · refine px_lconst (v := 0) rfl (by decide) ?_
    refine px_lreturn rfl rfl ?_
    exact ⟨by rw [n_0, ← n_0, lg_cmp_eq] at c22; simp [sp_low, c22], rfl⟩
  · refine px_lconst (v := 1) rfl (by decide) ?_
    refine px_goto rfl ?_
    refine px_lreturn rfl rfl ?_
    exact ⟨by rw [lg_cmp_eq] at c22; simp [sp_low, c22], rfl⟩
theorem vX7_become_4 {I : Nat → Nat → Int32} {J : Nat → Nat → Int64} {p : Bool × Option Nat} {ro : List (Nat × Nat × (Nat → Int32))} {s : Nat} (hs : s < 6) (ht : I (53 + 2 * s) 3 = nI 4) {z : Nat} (hz : I (53 + 2 * s) 4 = nI z) (hz60 : z ≤ 60) {a : Nat} (ha : a < z) {v : Int64} : Pv 1 0 0 CX7_become [.ref (53 + 2 * s), .int (nI a), .long (v)] (gS, I, J, gR p, ro) (qV (gS, I, (va_up J (54 + 2 * s) (va_up (J (54 + 2 * s)) a (sp_low 4 v))), gR p, ro)) := by
  refine ⟨okCX7_become, Nat.le_of_ble_eq_true rfl, (show Px _ _ _ _ 0 [some (.ref (53 + 2 * s)), some (.int (nI a)), some (.long (v)), none] [] _ _ from ?_)⟩
  refine px_aload_n (kk := 0) rfl rfl rfl ?_
  refine px_iload_n (kk := 1) rfl rfl rfl ?_
  refine px_iconst (v := nI 1) rfl k_1 ?_
  refine px_callV0 CX7_hasRun [] [.int _, .int _] (vX7_hasRun hs hz hz60) rfl (gS_sh s hs) (by decide) rfl rfl rfl (Nat.le_of_ble_eq_true rfl) (by decide) ?_
  rintro _ _ - (⟨_, rfl, rfl⟩ | ⟨h, rfl, rfl⟩)
  · refine px_if_eq rfl (fun h => absurd h (by decide)) (fun _ => ?_)
    refine px_aload_n (kk := 0) rfl rfl rfl ?_
    refine px_getR (r := 54 + 2 * s) rfl (gS_sh s hs) rfl (gR_sh _ s hs) ?_
    refine px_iload_n (kk := 1) rfl rfl rfl ?_
    refine px_aload_n (kk := 0) rfl rfl rfl ?_
    refine px_lload_n (kk := 2) rfl rfl rfl ?_
    refine px_callV0 CX7_lowestBits [.int _, .ref _] [.long _] (vX7_low_4 hs ht) rfl (gS_sh s hs) (by decide) rfl rfl rfl (Nat.le_of_ble_eq_true rfl) (by decide) ?_
    rintro _ _ - ⟨rfl, rfl⟩
    refine px_last (j := a) rfl (gS_ce s hs) rfl (by omega) ?_
    refine px_return rfl rfl ?_
    exact ⟨rfl, rfl⟩
  · exact absurd ⟨a, 1, rfl, rfl, ha⟩ h
theorem up2 (I : Nat → Nat → Int32) (a : Nat) (f g : Nat → Int32) : va_up (va_up I a f) a g = va_up I a g := up_up I a f g
theorem vX7_holdBody {I : Nat → Nat → Int32} {J : Nat → Nat → Int64} {p : Bool × Option Nat} {ro : List (Nat × Nat × (Nat → Int32))} {s : Nat} (hs : s < 6) {b : Nat} (hb : b < 2 ^ 31) : Pv 0 0 0 CX7_holdBody [.ref (53 + 2 * s), .int (nI b)] (gS, I, J, gR p, ro) (qV (gS, (va_up I (53 + 2 * s) (va_up (va_up (va_up (I (53 + 2 * s)) 1 (nI 1)) 2 (nI b)) 4 (nI 0))), J, gR p, ro)) := by
  refine ⟨okCX7_holdBody, Nat.le_of_ble_eq_true rfl, (show Px _ _ _ _ 0 [some (.ref (53 + 2 * s)), some (.int (nI b))] [] _ _ from ?_)⟩
  refine px_aload_n (kk := 0) rfl rfl rfl ?_
  refine px_iload_n (kk := 1) rfl rfl rfl ?_
  refine px_if_ge rfl (fun c2 => ?_) (fun c2 => ?_)
  · refine px_iconst (v := nI 1) rfl k_1 ?_
    refine px_putI rfl (gS_sh s hs) rfl rfl ?_
    refine px_aload_n (kk := 0) rfl rfl rfl ?_
    refine px_iload_n (kk := 1) rfl rfl rfl ?_
    refine px_putI rfl (gS_sh s hs) rfl rfl ?_
    refine px_aload_n (kk := 0) rfl rfl rfl ?_
    refine px_iconst (v := nI 0) rfl k_0 ?_
    refine px_putI rfl (gS_sh s hs) rfl rfl ?_
    refine px_return rfl rfl ?_
    exact ⟨rfl, by simp only [p_up_s, up2]⟩
  · refine px_iconst (v := nI 0) rfl k_0 ?_
    refine px_goto rfl ?_
    refine px_putI rfl (gS_sh s hs) rfl rfl ?_
    refine px_aload_n (kk := 0) rfl rfl rfl ?_
    refine px_iload_n (kk := 1) rfl rfl rfl ?_
    refine px_putI rfl (gS_sh s hs) rfl rfl ?_
    refine px_aload_n (kk := 0) rfl rfl rfl ?_
    refine px_iconst (v := nI 0) rfl k_0 ?_
    refine px_putI rfl (gS_sh s hs) rfl rfl ?_
    refine px_return rfl rfl ?_
    exact absurd (nI_pos' hb) c2
theorem vX7_holdNone {I : Nat → Nat → Int32} {J : Nat → Nat → Int64} {p : Bool × Option Nat} {ro : List (Nat × Nat × (Nat → Int32))} {s : Nat} (hs : s < 6) : Pv 0 0 0 CX7_holdBody [.ref (53 + 2 * s), .int (-1)] (gS, I, J, gR p, ro) (qV (gS, (va_up I (53 + 2 * s) (va_up (va_up (va_up (I (53 + 2 * s)) 1 (nI 0)) 2 (-1)) 4 (nI 0))), J, gR p, ro)) := by
  refine ⟨okCX7_holdBody, Nat.le_of_ble_eq_true rfl, (show Px _ _ _ _ 0 [some (.ref (53 + 2 * s)), some (.int (-1))] [] _ _ from ?_)⟩
  refine px_aload_n (kk := 0) rfl rfl rfl ?_
  refine px_iload_n (kk := 1) rfl rfl rfl ?_
  refine px_if_ge rfl (fun h => absurd h (by decide)) (fun _ => ?_)
  refine px_iconst (v := nI 0) rfl k_0 ?_
  refine px_goto rfl ?_
  refine px_putI rfl (gS_sh s hs) rfl rfl ?_
  refine px_aload_n (kk := 0) rfl rfl rfl ?_
  refine px_iload_n (kk := 1) rfl rfl rfl ?_
  refine px_putI rfl (gS_sh s hs) rfl rfl ?_
  refine px_aload_n (kk := 0) rfl rfl rfl ?_
  refine px_iconst (v := nI 0) rfl k_0 ?_
  refine px_putI rfl (gS_sh s hs) rfl rfl ?_
  refine px_return rfl rfl ?_
  exact ⟨rfl, by simp only [p_up_s, up2]⟩
theorem vX7_holdRow {I : Nat → Nat → Int32} {J : Nat → Nat → Int64} {p : Bool × Option Nat} {ro : List (Nat × Nat × (Nat → Int32))} {s : Nat} (hs : s < 6) {x y : Int32} : Pv 1 0 0 CX7_holdRow [.ref (53 + 2 * s), .int (x), .int (y)] (gS, I, J, gR p, ro) (qV (gS, (va_up I (53 + 2 * s) (va_up (va_up (va_up (va_up (I (53 + 2 * s)) 1 (nI 2)) 2 (-1)) 3 x) 4 y)), (va_up J (54 + 2 * s) (fun j => if j < 60 then 0 else J (54 + 2 * s) j)), gR p, ro)) := by
  refine ⟨okCX7_holdRow, Nat.le_of_ble_eq_true rfl, (show Px _ _ _ _ 0 [some (.ref (53 + 2 * s)), some (.int (x)), some (.int (y))] [] _ _ from ?_)⟩
  refine px_aload_n (kk := 0) rfl rfl rfl ?_
  refine px_iconst (v := nI 2) rfl k_2 ?_
  refine px_putI rfl (gS_sh s hs) rfl rfl ?_
  refine px_aload_n (kk := 0) rfl rfl rfl ?_
  refine px_iconst (v := -1) rfl k_m1 ?_
  refine px_putI rfl (gS_sh s hs) rfl rfl ?_
  refine px_aload_n (kk := 0) rfl rfl rfl ?_
  refine px_iload_n (kk := 1) rfl rfl rfl ?_
  refine px_putI rfl (gS_sh s hs) rfl rfl ?_
  refine px_aload_n (kk := 0) rfl rfl rfl ?_
  refine px_iload_n (kk := 2) rfl rfl rfl ?_
  refine px_putI rfl (gS_sh s hs) rfl rfl ?_
  refine px_aload_n (kk := 0) rfl rfl rfl ?_
  refine px_getR (r := 54 + 2 * s) rfl (gS_sh s hs) rfl (gR_sh _ s hs) ?_
  refine px_lconst (v := 0) rfl (by decide) ?_
  refine px_callS0 CJ7_fill_d0a16 [] [.ref _, .long _] (vJ_fillL (gS_ce s hs) (by decide) 0) rfl rfl rfl (Nat.le_of_ble_eq_true rfl) (by decide) ?_
  rintro _ _ - ⟨rfl, rfl⟩
  refine px_return rfl rfl ?_
  exact ⟨rfl, by simp only [p_up_s, up2]⟩
