/-- what Passing has foreseen of new pairs -/
def NR (tx : List Ln) (n : Nat) (I I' : Nat → Nat → Int32) (a b : Nat) : Prop := a ≠ b → I' 14 (8 * a + b) = sp_rise tx (I 5 (8 * a + b)) (I 2 a) (I 2 b) (nI 0) (I 1 6) (sp_one (I 4 a) (I 4 b))
theorem lX5_fin {I : Nat → Nat → Int32} {J : Nat → Nat → Int64} {p : Bool × Option Nat} {ro : List (Nat × Nat × (Nat → Int32))} {tx : List Ln} (hT : LawC tx p I) {n : Nat} (hn : I 1 4 = nI n) (hn8 : n ≤ 8) {I1 : Nat → Nat → Int32} (hF : Fr [6, 8, 14] I I1) (h6 : K6 I I1) {a : Nat} (ha : a < n) {b : Nat} (hb : b ≤ n) (hR : ∀ x y, x < n → y < n → (x < a ∨ x = a ∧ y < b) → NR tx n I I1 x y) {Q : Option Value → pm_M → Prop} (kont : ∀ I2, Fr [6, 8, 14] I I2 → K6 I I2 → (∀ x y, x < n → y < n → x < a + 1 → NR tx n I I2 x y) → Px 3 0 0 CX5_foresee 2 [some (.ref 11), some (.int (nI (a + 1))), some (.int (nI n))] [] (gS, I2, J, gR p, ro) Q) : Px 3 0 0 CX5_foresee 9 [some (.ref (11)), some (.int (nI a)), some (.int (nI b))] [] (gS, I1, J, gR p, ro) (Q) := by
  refine px_iload_n (kk := 2) rfl rfl rfl ?_
  refine px_aload_n (kk := 0) rfl rfl rfl ?_
  refine px_getR (r := 1) rfl gS_11 rfl (gR_11_0 _) ?_
  refine px_getIe rfl gS_1 rfl ((congrFun (hF 1 (by decide)) 4).trans hn) ?_
  refine px_icmp_ge rfl (fun c13 => ?_) (fun c13 => ?_)
  · rw [n_le (by omega) (by omega)] at c13
    obtain rfl : b = n := by omega
    refine px_iinc1 (v := nI (a + 1)) rfl (n_inc a) rfl (by decide) ?_
    refine px_goto rfl ?_
    exact kont I1 hF h6 (fun x y hx hy h => hR x y hx hy (by omega))
  · rw [n_le (by omega) (by omega)] at c13
    rcases Nat.decEq a b with hab | hab
    · skip
      refine px_aload_n (kk := 0) rfl rfl rfl ?_
      refine px_getR (r := 14) rfl gS_11 rfl (gR_11_4 _) ?_
      refine px_iload_n (kk := 1) rfl rfl rfl ?_
      refine px_bipush (v := nI 8) rfl b_8 ?_
      refine px_imulN rfl ?_
      refine px_iload_n (kk := 2) rfl rfl rfl ?_
      refine px_iaddN rfl ?_
      refine px_aload_n (kk := 0) rfl rfl rfl ?_
      refine px_getR (r := 6) rfl gS_11 rfl (gR_11_1 _) ?_
      refine px_iload_n (kk := 1) rfl rfl rfl ?_
      refine px_iload_n (kk := 2) rfl rfl rfl ?_
      refine px_iconst (v := nI 0) rfl k_0 ?_
      refine px_aload_n (kk := 0) rfl rfl rfl ?_
      refine px_getR (r := 1) rfl gS_11 rfl (gR_11_0 _) ?_
      refine px_getR (r := 2) rfl gS_1 rfl (gR_1_0 _) ?_
      refine px_callV0 CX3_rise [.int _, .ref 14] [.int _, .int _, .int _, .ref 2] (vX3_rise (LawC_mv hT h6 (hF 9 (by decide)) (hF 10 (by decide))) ((congrFun (hF 1 (by decide)) 4).trans hn) hn8 (a := a) (b := b) (by omega) (by omega) hab (w := 2) rfl (by decide)) rfl gS_6 (by decide) rfl rfl rfl (Nat.le_of_ble_eq_true rfl) (by decide) ?_
      rintro _ _ - ⟨rfl, I2, rfl, hF2, h62⟩
      refine px_iast (j := (8 * a + b)) rfl gS_14 (by congr 1; omega) (by omega) ?_
      refine px_iinc2 (v := nI (b + 1)) rfl (n_inc b) rfl (by decide) ?_
      refine px_goto rfl ?_
      refine lX5_fin hT hn hn8 (Fr_up (Fr_tr hF (Fr_mo hF2 (by decide))) (by decide) _) (K6_up (K6_tr h6 h62) (by decide) _) ha (b := b + 1) (by omega) (fun x y hx hy h => ?_) kont
      intro hxy
      rw [p_up_s]
      by_cases e : 8 * x + y = 8 * a + b
      · obtain ⟨rfl, rfl⟩ : x = a ∧ y = b := by omega
        rw [p_up_s, hF 5 (by decide), hF 4 (by decide), hF 1 (by decide), hF 2 (by decide)]
      · rw [p_up_n _ _ e, hF2 14 (by decide)]
        exact hR x y hx hy (by omega) hxy
    · subst hab
      refine px_aload_n (kk := 0) rfl rfl rfl ?_
      refine px_getR (r := 14) rfl gS_11 rfl (gR_11_4 _) ?_
      refine px_iload_n (kk := 1) rfl rfl rfl ?_
      refine px_bipush (v := nI 8) rfl b_8 ?_
      refine px_imulN rfl ?_
      refine px_iload_n (kk := 2) rfl rfl rfl ?_
      refine px_iaddN rfl ?_
      refine px_aload_n (kk := 0) rfl rfl rfl ?_
      refine px_getR (r := 6) rfl gS_11 rfl (gR_11_1 _) ?_
      refine px_iload_n (kk := 1) rfl rfl rfl ?_
      refine px_iload_n (kk := 2) rfl rfl rfl ?_
      refine px_iconst (v := nI 0) rfl k_0 ?_
      refine px_aload_n (kk := 0) rfl rfl rfl ?_
      refine px_getR (r := 1) rfl gS_11 rfl (gR_11_0 _) ?_
      refine px_getR (r := 2) rfl gS_1 rfl (gR_1_0 _) ?_
      refine px_callV0 CX3_rise [.int _, .ref 14] [.int _, .int _, .int _, .ref 2] (vX3_rise0 ((congrFun (hF 1 (by decide)) 4).trans hn) hn8 (fun ⟨x, y, hx, hy, hxy, e1, e2⟩ => by rw [n_eq (by omega) (by omega)] at e1 e2; omega)) rfl gS_6 (by decide) rfl rfl rfl (Nat.le_of_ble_eq_true rfl) (by decide) ?_
      rintro _ _ - ⟨rfl, rfl⟩
      refine px_iast (j := (8 * a + a)) rfl gS_14 (by congr 1; omega) (by omega) ?_
      refine px_iinc2 (v := nI (a + 1)) rfl (n_inc a) rfl (by decide) ?_
      refine px_goto rfl ?_
      refine lX5_fin hT hn hn8 (Fr_up hF (by decide) _) (K6_up h6 (by decide) _) ha (b := a + 1) (by omega) (fun x y hx hy h => ?_) kont
      intro hxy
      rw [p_up_s]
      have e : 8 * x + y ≠ 8 * a + a := by omega
      rw [p_up_n _ _ e]
      exact hR x y hx hy (by omega) hxy
termination_by n - b
decreasing_by all_goals (have h := ‹¬ nI n ≤ nI b›; rw [n_le (by omega) (by omega)] at h; omega)
theorem lX5_fout {I : Nat → Nat → Int32} {J : Nat → Nat → Int64} {p : Bool × Option Nat} {ro : List (Nat × Nat × (Nat → Int32))} {tx : List Ln} (hT : LawC tx p I) {n : Nat} (hn : I 1 4 = nI n) (hn8 : n ≤ 8) {I1 : Nat → Nat → Int32} (hF : Fr [6, 8, 14] I I1) (h6 : K6 I I1) {a : Nat} (ha : a ≤ n) {o : Option Value} (hR : ∀ x y, x < n → y < n → x < a → NR tx n I I1 x y) {Q : Option Value → pm_M → Prop} (hq : ∀ I2, Fr [6, 8, 14] I I2 → K6 I I2 → (∀ x y, x < n → y < n → NR tx n I I2 x y) → Q none (gS, I2, J, gR p, ro)) : Px 3 0 0 CX5_foresee 2 [some (.ref (11)), some (.int (nI a)), o] [] (gS, I1, J, gR p, ro) (Q) := by
  refine px_iload_n (kk := 1) rfl rfl rfl ?_
  refine px_aload_n (kk := 0) rfl rfl rfl ?_
  refine px_getR (r := 1) rfl gS_11 rfl (gR_11_0 _) ?_
  refine px_getIe rfl gS_1 rfl ((congrFun (hF 1 (by decide)) 4).trans hn) ?_
  refine px_icmp_ge rfl (fun c6 => ?_) (fun c6 => ?_)
  · refine px_return rfl rfl ?_
    rw [n_le (by omega) (by omega)] at c6
    obtain rfl : a = n := by omega
    exact hq I1 hF h6 (fun x y hx hy => hR x y hx hy hx)
  · rw [n_le (by omega) (by omega)] at c6
    refine px_iconst (v := nI 0) rfl k_0 ?_
    refine px_ist2 rfl rfl (by decide) ?_
    exact lX5_fin hT hn hn8 hF h6 (a := a) (by omega) (b := 0) (by omega) (fun x y hx hy h => hR x y hx hy (by omega)) (fun I2 hF2 h62 hR2 => lX5_fout hT hn hn8 hF2 h62 (a := a + 1) (by omega) hR2 hq)
termination_by n - a
decreasing_by all_goals (have h := ‹¬ nI n ≤ nI a›; rw [n_le (by omega) (by omega)] at h; omega)
theorem vX5_foresee {I : Nat → Nat → Int32} {J : Nat → Nat → Int64} {p : Bool × Option Nat} {ro : List (Nat × Nat × (Nat → Int32))} {tx : List Ln} (hT : LawC tx p I) {n : Nat} (hn : I 1 4 = nI n) (hn8 : n ≤ 8) : Pv 3 0 0 CX5_foresee [.ref (11)] (gS, I, J, gR p, ro) (fun v S' => v = none ∧ ∃ I', S' = (gS, I', J, gR p, ro) ∧ Fr [6, 8, 14] I I' ∧ K6 I I' ∧ ∀ x y, x < n → y < n → NR tx n I I' x y) := by
  refine ⟨okCX5_foresee, Nat.le_of_ble_eq_true rfl, (show Px _ _ _ _ 0 [some (.ref (11)), none, none] [] _ _ from ?_)⟩
  refine px_iconst (v := nI 0) rfl k_0 ?_
  refine px_ist1 rfl rfl (by decide) ?_
  exact lX5_fout hT hn hn8 (I1 := I) Fr_rf (fun _ _ => rfl) (a := 0) (by omega) (fun _ _ _ _ h => absurd h (by omega)) (fun I2 h1 h2 h3 => ⟨rfl, I2, rfl, h1, h2, h3⟩)
theorem lX5_try {I : Nat → Nat → Int32} {J : Nat → Nat → Int64} {p : Bool × Option Nat} {ro : List (Nat × Nat × (Nat → Int32))} {n : Nat} (hn : I 1 4 = nI n) (hn8 : n ≤ 8) {t : Nat} (ht : gS[t]? = some (100, 8)) (t12 : t ≠ 12) (t13 : t ≠ 13) (hMT : MT n (I t)) {k : Nat} (hk : k ≤ n) {Q : Option Value → pm_M → Prop} (kont : Px 2 0 0 CX5_tryWay 30 [some (.ref 11), some (.ref t), some (.int (nI n))] [] (gS, (va_up I 12 (fun j => if j < n then (if I t j = -1 then nI 0 else I 14 (8 * j + mN (I t j))) else I 12 j)), J, gR p, ro) Q) : Px 2 0 0 CX5_tryWay 2 [some (.ref (11)), some (.ref (t)), some (.int (nI k))] [] (gS, (va_up I 12 (fun j => if j < k then (if I t j = -1 then nI 0 else I 14 (8 * j + mN (I t j))) else I 12 j)), J, gR p, ro) (Q) := by
  refine px_iload_n (kk := 2) rfl rfl rfl ?_
  refine px_aload_n (kk := 0) rfl rfl rfl ?_
  refine px_getR (r := 1) rfl gS_11 rfl (gR_11_0 _) ?_
  refine px_getIe rfl gS_1 rfl ((congrFun (p_up_n _ _ (by decide)) 4).trans hn) ?_
  refine px_icmp_ge rfl (fun c6 => ?_) (fun c6 => ?_)
  · rw [n_le (by omega) (by omega)] at c6
    obtain rfl : k = n := by omega
    exact kont
  · rw [n_le (by omega) (by omega)] at c6
    rcases hMT k (by omega) with hm | ⟨j0, hj0, hjk, hm, -⟩
    · skip
      refine px_aload_n (kk := 0) rfl rfl rfl ?_
      refine px_getR (r := 12) rfl gS_11 rfl (gR_11_2 _) ?_
      refine px_iload_n (kk := 2) rfl rfl rfl ?_
      refine px_aload_n (kk := 1) rfl rfl rfl ?_
      refine px_iload_n (kk := 2) rfl rfl rfl ?_
      refine px_ialde (j := k) (v := -1) rfl ht rfl (by omega) ((congrFun (p_up_n _ _ t12) k).trans hm) ?_
      refine px_iconst (v := -1) rfl k_m1 ?_
      refine px_icmp_ne rfl (fun h => absurd h (by decide)) (fun _ => ?_)
      refine px_iconst (v := nI 0) rfl k_0 ?_
      refine px_goto rfl ?_
      refine px_iast (j := k) rfl gS_12 rfl (by omega) ?_
      refine px_iinc2 (v := nI (k + 1)) rfl (n_inc k) rfl (by decide) ?_
      refine px_goto rfl ?_
      refine px_mem (show _ = (va_up I 12 (fun j => if j < (k + 1) then (if I t j = -1 then nI 0 else I 14 (8 * j + mN (I t j))) else I 12 j)) from ?_) (lX5_try hn hn8 ht t12 t13 hMT (k := k + 1) (by omega) kont)
      rw [p_up_s]
      have e := fillf_next I 12 k (fun j => if I t j = -1 then nI 0 else I 14 (8 * j + mN (I t j)))
      simp only [hm, if_true] at e
      exact e
    · skip
      refine px_aload_n (kk := 0) rfl rfl rfl ?_
      refine px_getR (r := 12) rfl gS_11 rfl (gR_11_2 _) ?_
      refine px_iload_n (kk := 2) rfl rfl rfl ?_
      refine px_aload_n (kk := 1) rfl rfl rfl ?_
      refine px_iload_n (kk := 2) rfl rfl rfl ?_
      refine px_ialde (j := k) (v := nI j0) rfl ht rfl (by omega) ((congrFun (p_up_n _ _ t12) k).trans hm) ?_
      refine px_iconst (v := -1) rfl k_m1 ?_
      refine px_icmp_ne rfl (fun c14 => ?_) (fun h => absurd h (nI_nm (by omega)))
      refine px_aload_n (kk := 0) rfl rfl rfl ?_
      refine px_getR (r := 14) rfl gS_11 rfl (gR_11_4 _) ?_
      refine px_iload_n (kk := 2) rfl rfl rfl ?_
      refine px_bipush (v := nI 8) rfl b_8 ?_
      refine px_imulN rfl ?_
      refine px_aload_n (kk := 1) rfl rfl rfl ?_
      refine px_iload_n (kk := 2) rfl rfl rfl ?_
      refine px_ialde (j := k) (v := nI j0) rfl ht rfl (by omega) ((congrFun (p_up_n _ _ t12) k).trans hm) ?_
      refine px_iaddN rfl ?_
      refine px_ialde (j := (8 * k + j0)) (v := I 14 (8 * k + j0)) rfl gS_14 (by congr 1; omega) (by omega) (congrFun (p_up_n _ _ (by decide)) _) ?_
      refine px_iast (j := k) rfl gS_12 rfl (by omega) ?_
      refine px_iinc2 (v := nI (k + 1)) rfl (n_inc k) rfl (by decide) ?_
      refine px_goto rfl ?_
      refine px_mem (show _ = (va_up I 12 (fun j => if j < (k + 1) then (if I t j = -1 then nI 0 else I 14 (8 * j + mN (I t j))) else I 12 j)) from ?_) (lX5_try hn hn8 ht t12 t13 hMT (k := k + 1) (by omega) kont)
      rw [p_up_s]
      have e := fillf_next I 12 k (fun j => if I t j = -1 then nI 0 else I 14 (8 * j + mN (I t j)))
      simp only [hm, if_neg (nI_nm (show j0 < 2 ^ 31 by omega)), mN_n (show j0 < 2 ^ 31 by omega)] at e
      exact e
termination_by n - k
decreasing_by all_goals (have h := ‹¬ nI n ≤ nI k›; rw [n_le (by omega) (by omega)] at h; omega)
theorem vX5_tryWay {I : Nat → Nat → Int32} {J : Nat → Nat → Int64} {p : Bool × Option Nat} {ro : List (Nat × Nat × (Nat → Int32))} {tx : List Ln} {n : Nat} (hn : I 1 4 = nI n) (hn8 : n ≤ 8) {t : Nat} (ht : gS[t]? = some (100, 8)) (t12 : t ≠ 12) (t13 : t ≠ 13) (hMT : MT n (I t)) (hP : PA n (I 4)) (hR : ∀ x y, x < n → y < n → NR tx n I I x y) : Pv 2 0 0 CX5_tryWay [.ref (11), .ref (t)] (gS, I, J, gR p, ro) (fun v S' => v = none ∧ ∃ I', S' = (gS, I', J, gR p, ro) ∧ Fr [12, 13] I I' ∧ ∀ j, j < n → I' 13 j = sp_nx tx n (I 5) (I 4) (I 1 6) (I 2) (I t) (fun _ => nI 0) j) := by
  refine ⟨okCX5_tryWay, Nat.le_of_ble_eq_true rfl, (show Px _ _ _ _ 0 [some (.ref (11)), some (.ref (t)), none] [] _ _ from ?_)⟩
  refine px_iconst (v := nI 0) rfl k_0 ?_
  refine px_ist2 rfl rfl (by decide) ?_
  refine px_mem (fill_0f I 12 (fun j => if I t j = -1 then nI 0 else I 14 (8 * j + mN (I t j)))) ?_
  refine lX5_try hn hn8 ht t12 t13 hMT (k := 0) (by omega) ?_
  refine px_aload_n (kk := 0) rfl rfl rfl ?_
  refine px_aload_n (kk := 0) rfl rfl rfl ?_
  refine px_getR (r := 1) rfl gS_11 rfl (gR_11_0 _) ?_
  refine px_getR (r := 2) rfl gS_1 rfl (gR_1_0 _) ?_
  refine px_aload_n (kk := 1) rfl rfl rfl ?_
  refine px_callV0 CX5_settle [] [.ref 2, .ref _] (vX5_settle ((congrFun (p_up_n _ _ (by decide)) 4).trans hn) hn8 ht t13 (w := 2) rfl (by decide) (by rw [p_up_n _ _ (by decide)]; exact hP)) rfl gS_11 (by decide) rfl rfl rfl (Nat.le_of_ble_eq_true rfl) (by decide) ?_
  rintro _ _ - ⟨rfl, rfl⟩
  refine px_return rfl rfl ?_
  refine ⟨rfl, _, rfl, Fr_up (Fr_up Fr_rf (by decide) _) (by decide) _, fun j hj => ?_⟩
  rw [p_up_s, if_pos hj]
  refine (sp_set_congr hj (by rw [p_up_n _ _ (by decide)]) (fun i _ => by rw [p_up_n _ _ t12]) (fun i _ => by rw [p_up_n _ _ (by decide)]) (fun hne => ?_)).trans (by rw [p_up_n _ _ (by decide)]; rfl)
  rw [p_up_s, if_pos hj, if_neg hne]
  rcases hMT j hj with hm | ⟨j0, hj0, hjk, hm, -⟩
  · exact absurd hm hne
  · rw [sp_up, hm, mN_n (by omega)]
    exact hR j j0 hj hj0 (fun e => hjk e.symm)
