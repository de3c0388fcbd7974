/-! the reference: an hour told -/
theorem neg_two {v : Int32} (h : v < 0) {a b : Nat} (ha : a < 8) (hb : b < 8) (e1 : v / nI 10 = nI a) (e2 : v - v / nI 10 * nI 10 = nI b) : a = b := by
  have h1 : v.toInt < 0 := by rw [i_lt, i_0] at h; exact h
  have h2 := Int32.le_toInt v
  have t := congrArg Int32.toInt e1
  rw [Int32.toInt_div, nI_toInt (by decide), nI_toInt (by omega)] at t
  have e : ((10 : Nat) : Int) = 10 := rfl
  rw [e] at t
  have h3 : v.toInt.tdiv 10 ≤ 0 ∧ -2 ^ 31 ≤ v.toInt.tdiv 10 := by
    have := Int.tdiv_eq_ediv (a := v.toInt) (b := 10)
    rw [this]
    constructor
    · split
      · omega
      · simp only [Int.sign]; omega
    · split
      · omega
      · simp only [Int.sign]; omega
  rw [Int.bmod_eq_of_le (by omega) (by omega)] at t
  have ha0 : a = 0 := by omega
  subst ha0
  rw [e1] at e2
  have t2 := congrArg Int32.toInt e2
  rw [show nI 0 * nI 10 = nI 0 from by decide +kernel, show v - nI 0 = v from by rw [← n_0]; exact Int32.sub_zero v, nI_toInt (by omega)] at t2
  omega
theorem TK_neg {n : Nat} (hn : n ≤ 8) {co : Int32} {s : DT} {v : Int32} (h : v < 0) : ¬ TK n co s (v / nI 10) (v - v / nI 10 * nI 10) := fun ⟨a, b, ha, hb, hne, e1, e2, _⟩ => hne (neg_two h (by omega) (by omega) e1 e2)
theorem lX12_ph1 {I : Nat → Nat → Int32} {J : Nat → Nat → Int64} {p : Bool × Option Nat} {ro : List (Nat × Nat × (Nat → Int32))} {n : Nat} (hn : I 65 1 = nI n) (hn8 : n ≤ 8) {x : Int32} {k : Nat} (hk : k ≤ n) {Q : Option Value → pm_M → Prop} (kont : Px 3 0 0 CX12_plugHour 21 [some (.ref 65), some (.int x), some (.int (nI n))] [] (gS, (va_up (va_up I 88 (fun j => if j < n then I 85 j else I 88 j)) 85 (fun j => if j < n then -1 else I 85 j)), J, gR p, ro) Q) : Px 3 0 0 CX12_plugHour 2 [some (.ref (65)), some (.int (x)), some (.int (nI k))] [] (gS, (va_up (va_up I 88 (fun j => if j < k then I 85 j else I 88 j)) 85 (fun j => if j < k then -1 else I 85 j)), J, gR p, ro) (Q) := by
  refine px_iload_n (kk := 2) rfl rfl rfl ?_
  refine px_aload_n (kk := 0) rfl rfl rfl ?_
  refine px_getIe (v := nI n) rfl gS_65 rfl ((congrFun (p_up_n _ _ (by decide)) 1).trans ((congrFun (p_up_n _ _ (by decide)) 1).trans hn)) ?_
  refine px_icmp_ge rfl (fun c5 => ?_) (fun c5 => ?_)
  · rw [n_le (by omega) (by omega)] at c5
    obtain rfl : k = n := by omega
    exact kont
  · rw [n_le (by omega) (by omega)] at c5
    refine px_aload_n (kk := 0) rfl rfl rfl ?_
    refine px_getR (r := 88) rfl gS_65 rfl (gR_65_37 _) ?_
    refine px_iload_n (kk := 2) rfl rfl rfl ?_
    refine px_aload_n (kk := 0) rfl rfl rfl ?_
    refine px_getR (r := 85) rfl gS_65 rfl (gR_65_31 _) ?_
    refine px_iload_n (kk := 2) rfl rfl rfl ?_
    refine px_ialde (j := k) (v := I 85 k) rfl gS_85 rfl (by omega) (by rw [p_up_s, if_neg (by omega)]) ?_
    refine px_iast (j := k) rfl gS_88 rfl (by omega) ?_
    refine px_aload_n (kk := 0) rfl rfl rfl ?_
    refine px_getR (r := 85) rfl gS_65 rfl (gR_65_31 _) ?_
    refine px_iload_n (kk := 2) rfl rfl rfl ?_
    refine px_iconst (v := -1) rfl k_m1 ?_
    refine px_iast (j := k) rfl gS_85 rfl (by omega) ?_
    refine px_iinc2 (v := nI (k + 1)) rfl (n_inc k) rfl (by decide) ?_
    refine px_goto rfl ?_
    refine px_mem ?_ (lX12_ph1 hn hn8 (k := k + 1) (by omega) kont)
    simp only [p_up_s, p_up_n _ _ (show (85 : Nat) ≠ 88 by decide), p_up_n _ _ (show (88 : Nat) ≠ 85 by decide), up2]
    rw [fill_step, up_c _ (show (85 : Nat) ≠ 88 by decide), up2]
    congr 1
    · rw [up2]
      congr 1
      funext j
      by_cases h : j = k
      · subst h; rw [p_up_s, if_pos (by omega)]
      · rw [p_up_n _ _ h]
        by_cases h2 : j < k
        · rw [if_pos h2, if_pos (by omega)]
        · rw [if_neg h2, if_neg (by omega)]
termination_by n - k
decreasing_by all_goals (have h := ‹¬ nI n ≤ nI k›; rw [n_le (by omega) (by omega)] at h; omega)
