/-! line, the step -/
theorem jm_o (I : Nat → Nat → Int32) (n : Nat) (x y v : Int32) {c : Nat} (hc : c ∉ [1, 2, 3, 4]) : sp_jM I n x y v c = I c := by
  simp only [List.mem_cons, List.not_mem_nil, or_false, not_or] at hc
  unfold sp_jM
  rw [p_up_n _ _ hc.1, p_up_n _ _ hc.2.2.2, p_up_n _ _ hc.2.2.1, p_up_n _ _ hc.2.1]
theorem jm_c (I : Nat → Nat → Int32) (n : Nat) (x y v : Int32) : sp_jM I n x y v 1 = va_up (I 1) 4 (nI (n + 1)) ∧ sp_jM I n x y v 2 = va_up (I 2) n x ∧ sp_jM I n x y v 3 = va_up (I 3) n y ∧ sp_jM I n x y v 4 = va_up (I 4) n v := by
  unfold sp_jM
  refine ⟨p_up_s _ _ _, ?_, ?_, ?_⟩
  · rw [p_up_n _ _ (by decide), p_up_n _ _ (by decide), p_up_n _ _ (by decide), p_up_s]
  · rw [p_up_n _ _ (by decide), p_up_n _ _ (by decide), p_up_s]
  · rw [p_up_n _ _ (by decide), p_up_s]
theorem rjm_o (I : Nat → Nat → Int32) (n : Nat) (x y v : Int32) {c : Nat} (hc : c ∉ [65, 66, 67, 68, 70, 71]) : rf_jM I n x y v c = I c := by
  simp only [List.mem_cons, List.not_mem_nil, or_false, not_or] at hc
  unfold rf_jM
  rw [p_up_n _ _ hc.1, p_up_n _ _ hc.2.2.2.2.2, p_up_n _ _ hc.2.2.2.2.1, p_up_n _ _ hc.2.2.2.1, p_up_n _ _ hc.2.2.1, p_up_n _ _ hc.2.1]
theorem rjm_c (I : Nat → Nat → Int32) (n : Nat) (x y v : Int32) : rf_jM I n x y v 65 = va_up (I 65) 1 (nI (n + 1)) ∧ rf_jM I n x y v 66 = va_up (I 66) n x ∧ rf_jM I n x y v 67 = va_up (I 67) n y ∧ rf_jM I n x y v 68 = va_up (I 68) n v ∧ rf_jM I n x y v 70 = va_up (I 70) n (-1) ∧ rf_jM I n x y v 71 = va_up (I 71) n (nI 0) := by
  unfold rf_jM
  refine ⟨p_up_s _ _ _, ?_, ?_, ?_, ?_, ?_⟩
  · rw [p_up_n _ _ (by decide), p_up_n _ _ (by decide), p_up_n _ _ (by decide), p_up_n _ _ (by decide), p_up_n _ _ (by decide), p_up_s]
  · rw [p_up_n _ _ (by decide), p_up_n _ _ (by decide), p_up_n _ _ (by decide), p_up_n _ _ (by decide), p_up_s]
  · rw [p_up_n _ _ (by decide), p_up_n _ _ (by decide), p_up_n _ _ (by decide), p_up_s]
  · rw [p_up_n _ _ (by decide), p_up_n _ _ (by decide), p_up_s]
  · rw [p_up_n _ _ (by decide), p_up_s]
set_option maxRecDepth 20000 in
theorem stp_line {I : Nat → Nat → Int32} {J : Nat → Nat → Int64} {p : Bool × Option Nat} {ro : List (Nat × Nat × (Nat → Int32))} {tx : List Ln} {n nb : Nat} (h : Inv tx n nb I J p) {L i : Nat} {xs : Nat → Int32} (hi : i + 6 ≤ L) (hL : L ≤ 3072) (hscr : (1002, L, xs) ∈ ro) (hro : RO ro) {Q : Option Value → pm_M → Prop}  (kont : ∀ (tx : List Ln) (n nb : Nat) (I : Nat → Nat → Int32) (J : Nat → Nat → Int64) (p : Bool × Option Nat), Inv tx n nb I J p → Px 61 0 0 CL_law 1065 [some (.ref (1002)), some (.ref (0)), some (.ref (65)), some (.int (nI i))] [] (gS, I, J, gR p, ro) Q) : Px 61 0 0 CL_law 22 [some (.ref (1002)), some (.ref (0)), some (.ref (65)), some (.int (nI i))] [] (gS, I, J, gR p, ro) Q := by
  refine px_aload_n (kk := 1) rfl rfl rfl ?_
  refine px_aload_n (kk := 0) rfl rfl rfl ?_
  refine px_iload_n (kk := 3) rfl rfl rfl ?_
  refine px_iconst (v := nI 1) rfl k_1 ?_
  refine px_iaddN rfl ?_
  refine px_roald (j := (i + 1)) rfl hscr rfl (by omega) ?_
  refine px_callV0 CX11_line [] [.int _] (vX11_line h.cn h.n8) rfl gS_0 (by decide) rfl rfl rfl (Nat.le_of_ble_eq_true rfl) (by decide) ?_
  rintro _ _ - (⟨h8, hm, rfl, rfl⟩ | ⟨hm, rfl, rfl⟩ | ⟨h8, hm, rfl, rfl⟩)
  · refine px_aload_n (kk := 2) rfl rfl rfl ?_
    refine px_aload_n (kk := 0) rfl rfl rfl ?_
    refine px_iload_n (kk := 3) rfl rfl rfl ?_
    refine px_iconst (v := nI 1) rfl k_1 ?_
    refine px_iaddN rfl ?_
    refine px_roald (j := (i + 1)) rfl hscr rfl (by omega) ?_
    refine px_callV0 CX12_line [.int _] [.int _] (vX12_line (n := n) (by rw [jm_o _ _ _ _ _ (by decide)]; exact h.rn) h.n8) rfl gS_65 (by decide) rfl rfl rfl (Nat.le_of_ble_eq_true rfl) (by decide) ?_
    rintro _ _ - (⟨h82, hm2, rfl, rfl⟩ | ⟨hm2, rfl, rfl⟩ | ⟨h82, hm2, rfl, rfl⟩)
    · have heq : (nI n : Int32) = nI n := rfl
      refine px_icmp_eq rfl (fun c36 => ?_) (fun hZ => absurd (heq) hZ)
      have hjc := jm_c I n (xs (i + 1)) (nI 30) (nI 0)
      have hrc := rjm_c (sp_jM I n (xs (i + 1)) (nI 30) (nI 0)) n (xs (i + 1)) (nI 30) (nI 0)
      refine kont _ _ _ _ _ _ (Inv_line (x := xs (i + 1)) (y := nI 30) (v := nI 0) h h8 (fun c hc => ?_) ?_ (fun k hk => ?_) ?_ ?_ ?_ (fun k => ?_) ?_ ?_ ?_ ?_ ?_ ⟨0, by decide, rfl⟩ (fun w a b ho => ?_))
      · rw [rjm_o _ _ _ _ _ (by revert hc; simp only [List.mem_cons, List.not_mem_nil, or_false]; omega)]
        exact jm_o _ _ _ _ _ (by revert hc; simp only [List.mem_cons, List.not_mem_nil, or_false]; omega)
      · rw [rjm_o (sp_jM I n (xs (i + 1)) (nI 30) (nI 0)) n (xs (i + 1)) (nI 30) (nI 0) (c := 1) (by decide), hjc.1, p_up_s]
      · rw [rjm_o (sp_jM I n (xs (i + 1)) (nI 30) (nI 0)) n (xs (i + 1)) (nI 30) (nI 0) (c := 1) (by decide), hjc.1, p_up_n _ _ hk]
      · rw [rjm_o (sp_jM I n (xs (i + 1)) (nI 30) (nI 0)) n (xs (i + 1)) (nI 30) (nI 0) (c := 2) (by decide), hjc.2.1]
      · rw [rjm_o (sp_jM I n (xs (i + 1)) (nI 30) (nI 0)) n (xs (i + 1)) (nI 30) (nI 0) (c := 3) (by decide), hjc.2.2.1]
      · rw [rjm_o (sp_jM I n (xs (i + 1)) (nI 30) (nI 0)) n (xs (i + 1)) (nI 30) (nI 0) (c := 4) (by decide), hjc.2.2.2]
      · rw [hrc.1, jm_o I n (xs (i + 1)) (nI 30) (nI 0) (c := 65) (by decide)]
        by_cases q : k = 1
        · rw [q, p_up_s, if_pos rfl]
        · rw [p_up_n _ _ q, if_neg q]
      · rw [hrc.2.1, jm_o I n (xs (i + 1)) (nI 30) (nI 0) (c := 66) (by decide)]
      · rw [hrc.2.2.1, jm_o I n (xs (i + 1)) (nI 30) (nI 0) (c := 67) (by decide)]
      · rw [hrc.2.2.2.1, jm_o I n (xs (i + 1)) (nI 30) (nI 0) (c := 68) (by decide)]
      · rw [hrc.2.2.2.2.1, jm_o I n (xs (i + 1)) (nI 30) (nI 0) (c := 70) (by decide)]
      · rw [hrc.2.2.2.2.2, jm_o I n (xs (i + 1)) (nI 30) (nI 0) (c := 71) (by decide)]
      · have hw := ho.1
        have z1 := ho.2.1
        have z2 := ho.2.2
        rcases (by omega : w = 0 ∨ w = 1 ∨ w = 2 ∨ w = 3 ∨ w = 4 ∨ w = 5) with rfl | rfl | rfl | rfl | rfl | rfl
        · have z3 := z1 (by decide)
          show sp_may 0 (rf_jM (sp_jM I n (xs (i + 1)) (nI 30) (nI 0)) n (xs (i + 1)) (nI 30) (nI 0) 2 a)
          rw [rjm_o (sp_jM I n (xs (i + 1)) (nI 30) (nI 0)) n (xs (i + 1)) (nI 30) (nI 0) (c := 2) (by decide), hjc.2.1]
          by_cases q : a = n
          · rw [q, p_up_s]; exact hm
          · rw [p_up_n _ _ q]; exact h.mays 0 a b ⟨by decide, fun _ => by omega, fun z => absurd z (by decide)⟩
        · have z3 := z1 (by decide)
          show sp_may 1 (rf_jM (sp_jM I n (xs (i + 1)) (nI 30) (nI 0)) n (xs (i + 1)) (nI 30) (nI 0) 3 a)
          rw [rjm_o (sp_jM I n (xs (i + 1)) (nI 30) (nI 0)) n (xs (i + 1)) (nI 30) (nI 0) (c := 3) (by decide), hjc.2.2.1]
          by_cases q : a = n
          · rw [q, p_up_s]; exact ⟨by decide +kernel, by decide +kernel⟩
          · rw [p_up_n _ _ q]; exact h.mays 1 a b ⟨by decide, fun _ => by omega, fun z => absurd z (by decide)⟩
        · have z3 := z1 (by decide)
          show sp_may 2 (rf_jM (sp_jM I n (xs (i + 1)) (nI 30) (nI 0)) n (xs (i + 1)) (nI 30) (nI 0) 4 a)
          rw [rjm_o (sp_jM I n (xs (i + 1)) (nI 30) (nI 0)) n (xs (i + 1)) (nI 30) (nI 0) (c := 4) (by decide), hjc.2.2.2]
          by_cases q : a = n
          · rw [q, p_up_s]; exact ⟨by decide +kernel, by decide +kernel⟩
          · rw [p_up_n _ _ q]; exact h.mays 2 a b ⟨by decide, fun _ => by omega, fun z => absurd z (by decide)⟩
        · have z3 := z2 rfl
          show sp_may 3 (rf_jM (sp_jM I n (xs (i + 1)) (nI 30) (nI 0)) n (xs (i + 1)) (nI 30) (nI 0) 5 (8 * a + b))
          rw [rjm_o (sp_jM I n (xs (i + 1)) (nI 30) (nI 0)) n (xs (i + 1)) (nI 30) (nI 0) (c := 5) (by decide), jm_o I n (xs (i + 1)) (nI 30) (nI 0) (c := 5) (by decide)]
          exact h.lk a b (by omega) (by omega)
        · show sp_may 4 (rf_jM (sp_jM I n (xs (i + 1)) (nI 30) (nI 0)) n (xs (i + 1)) (nI 30) (nI 0) 1 5)
          rw [rjm_o (sp_jM I n (xs (i + 1)) (nI 30) (nI 0)) n (xs (i + 1)) (nI 30) (nI 0) (c := 1) (by decide), hjc.1, p_up_n _ _ (by decide)]
          exact h.mays 4 0 0 ⟨by decide, fun z => absurd z (by decide), fun z => absurd z (by decide)⟩
        · show sp_may 5 (rf_jM (sp_jM I n (xs (i + 1)) (nI 30) (nI 0)) n (xs (i + 1)) (nI 30) (nI 0) 1 6)
          rw [rjm_o (sp_jM I n (xs (i + 1)) (nI 30) (nI 0)) n (xs (i + 1)) (nI 30) (nI 0) (c := 1) (by decide), hjc.1, p_up_n _ _ (by decide)]
          exact h.mays 5 0 0 ⟨by decide, fun z => absurd z (by decide), fun z => absurd z (by decide)⟩
    · exact absurd hm hm2
    · omega
  · refine px_aload_n (kk := 2) rfl rfl rfl ?_
    refine px_aload_n (kk := 0) rfl rfl rfl ?_
    refine px_iload_n (kk := 3) rfl rfl rfl ?_
    refine px_iconst (v := nI 1) rfl k_1 ?_
    refine px_iaddN rfl ?_
    refine px_roald (j := (i + 1)) rfl hscr rfl (by omega) ?_
    refine px_callV0 CX12_line [.int _] [.int _] (vX12_line h.rn h.n8) rfl gS_65 (by decide) rfl rfl rfl (Nat.le_of_ble_eq_true rfl) (by decide) ?_
    rintro _ _ - (⟨h82, hm2, rfl, rfl⟩ | ⟨hm2, rfl, rfl⟩ | ⟨h82, hm2, rfl, rfl⟩)
    · exact absurd hm2 hm
    · have heq : (-1 : Int32) = -1 := rfl
      refine px_icmp_eq rfl (fun c36 => ?_) (fun hZ => absurd (heq) hZ)
      exact kont _ _ _ _ _ _ h
    · exact absurd hm2 hm
  · refine px_aload_n (kk := 2) rfl rfl rfl ?_
    refine px_aload_n (kk := 0) rfl rfl rfl ?_
    refine px_iload_n (kk := 3) rfl rfl rfl ?_
    refine px_iconst (v := nI 1) rfl k_1 ?_
    refine px_iaddN rfl ?_
    refine px_roald (j := (i + 1)) rfl hscr rfl (by omega) ?_
    refine px_callV0 CX12_line [.int _] [.int _] (vX12_line h.rn h.n8) rfl gS_65 (by decide) rfl rfl rfl (Nat.le_of_ble_eq_true rfl) (by decide) ?_
    rintro _ _ - (⟨h82, hm2, rfl, rfl⟩ | ⟨hm2, rfl, rfl⟩ | ⟨h82, hm2, rfl, rfl⟩)
    · omega
    · exact absurd hm hm2
    · have heq : (-3 : Int32) = -3 := rfl
      refine px_icmp_eq rfl (fun c36 => ?_) (fun hZ => absurd (heq) hZ)
      exact kont _ _ _ _ _ _ h
