/-! put, act, taken -/
theorem Inv_J {tx : List Ln} {n nb : Nat} {I : Nat → Nat → Int32} {J J1 : Nat → Nat → Int64} {p : Bool × Option Nat} (h : Inv tx n nb I J p) (hel : ∀ s, s < 6 → ∀ j, J1 (54 + 2 * s) j = J1 100 (60 * s + j)) : Inv tx n nb I J1 p := ⟨h.lawC, h.lawR, h.cn, h.rn, h.n8, h.warm, h.need, h.part, h.like, h.cord, h.cold, h.pa, h.c4, h.lk, h.mays, h.mt, h.to1, h.to2, h.many, h.led, h.kept, h.chg, h.tape, h.nb50, h.cb, h.rb, h.kind, h.knd8, h.ran, h.trac, h.shl, hel⟩
theorem rs_inj {t u : Nat} (ht : t < 5) (hu : u < 5) (e : (-2 - nI t : Int32) = -2 - nI u) : t = u := by
  have h1 := rs_back ht
  rw [e, rs_back hu, n_eq (by omega) (by omega)] at h1
  exact h1.symm
theorem SHL_t {nb : Nat} {I : Nat → Nat → Int32} {s t u : Nat} (h : SHL nb I s) (h2 : I (53 + 2 * s) 1 = nI 2) (ht : t < 5) (h3 : I (53 + 2 * s) 3 = nI t) (hu : u < 5) (e : I 98 s = -2 - nI u) : u = t := by
  rcases h.1 with ⟨h1, _⟩ | ⟨b, hb, h1, _, _⟩ | ⟨w, hw, h1, h4, h5, _⟩
  · rw [h1] at h2; exact absurd h2 (by decide)
  · rw [h1] at h2; exact absurd h2 (by decide)
  · rw [h3, n_eq (by omega) (by omega)] at h4
    subst h4
    exact rs_inj hu ht (e.symm.trans h5)
theorem SHL_b {nb : Nat} {I : Nat → Nat → Int32} {s : Nat} (h : SHL nb I s) (h0 : I (53 + 2 * s) 1 ≠ nI 0) (h2 : I (53 + 2 * s) 1 ≠ nI 2) : ∃ b, b < nb ∧ I (53 + 2 * s) 2 = nI b := by
  rcases h.1 with ⟨h1, _⟩ | ⟨b, hb, h1, h3, _⟩ | ⟨w, hw, h1, _⟩
  · exact absurd h1 h0
  · exact ⟨b, hb, h3⟩
  · exact absurd h1 h2
theorem SHL_s {nb : Nat} {I : Nat → Nat → Int32} {s : Nat} (h : SHL nb I s) (h2 : I (53 + 2 * s) 1 = nI 2) : ∃ t, t < 5 ∧ I (53 + 2 * s) 3 = nI t := by
  rcases h.1 with ⟨h1, _⟩ | ⟨b, hb, h1, _, _⟩ | ⟨w, hw, h1, h4, h5, _⟩
  · rw [h1] at h2; exact absurd h2 (by decide)
  · rw [h1] at h2; exact absurd h2 (by decide)
  · exact ⟨w, hw, h4⟩
set_option maxRecDepth 20000 in
theorem stp_put {I : Nat → Nat → Int32} {J : Nat → Nat → Int64} {p : Bool × Option Nat} {ro : List (Nat × Nat × (Nat → Int32))} {tx : List Ln} {n nb : Nat} (h : Inv tx n nb I J p) {L i : Nat} {xs : Nat → Int32} (hi : i + 6 ≤ L) (hL : L ≤ 3072) (hscr : (1002, L, xs) ∈ ro) (hro : RO ro) {Q : Option Value → pm_M → Prop}  (kont : ∀ (tx : List Ln) (n nb : Nat) (I : Nat → Nat → Int32) (J : Nat → Nat → Int64) (p : Bool × Option Nat), Inv tx n nb I J p → Px 61 0 0 CL_law 1065 [some (.ref (1002)), some (.ref (0)), some (.ref (65)), some (.int (nI i))] [] (gS, I, J, gR p, ro) Q) : Px 61 0 0 CL_law 875 [some (.ref (1002)), some (.ref (0)), some (.ref (65)), some (.int (nI i))] [] (gS, I, J, gR p, ro) Q := by
  refine px_aload_n (kk := 1) rfl rfl rfl ?_
  refine px_aload_n (kk := 0) rfl rfl rfl ?_
  refine px_iload_n (kk := 3) rfl rfl rfl ?_
  refine px_iconst (v := nI 1) rfl k_1 ?_
  refine px_iaddN rfl ?_
  refine px_roald (j := (i + 1)) rfl hscr rfl (by omega) ?_
  refine px_aload_n (kk := 0) rfl rfl rfl ?_
  refine px_iload_n (kk := 3) rfl rfl rfl ?_
  refine px_iconst (v := nI 2) rfl k_2 ?_
  refine px_iaddN rfl ?_
  refine px_roald (j := (i + 2)) rfl hscr rfl (by omega) ?_
  refine px_aload_n (kk := 0) rfl rfl rfl ?_
  refine px_iload_n (kk := 3) rfl rfl rfl ?_
  refine px_iconst (v := nI 3) rfl k_3 ?_
  refine px_iaddN rfl ?_
  refine px_roald (j := (i + 3)) rfl hscr rfl (by omega) ?_
  refine px_i2l rfl ?_
  refine px_bipush (v := nI 32) rfl b_32 ?_
  refine px_lshl rfl ?_
  refine px_aload_n (kk := 0) rfl rfl rfl ?_
  refine px_iload_n (kk := 3) rfl rfl rfl ?_
  refine px_iconst (v := nI 4) rfl k_4 ?_
  refine px_iaddN rfl ?_
  refine px_roald (j := (i + 4)) rfl hscr rfl (by omega) ?_
  refine px_i2l rfl ?_
  refine px_ldc2_w (v := 4294967295) rfl (by decide) ?_
  refine px_land rfl ?_
  refine px_lor rfl ?_
  refine px_callV0 CX11_put [] [.int _, .int _, .long _] (vX11_put h.szC (fun s hs h2 => SHL_s (h.shl s hs) h2)) rfl gS_0 (by decide) rfl rfl rfl (Nat.le_of_ble_eq_true rfl) (by decide) ?_
  rintro _ _ - (⟨hn, rfl, rfl⟩ | ⟨s, hs, hx, h0, rfl, rfl⟩ | ⟨s, hs, hx, h0, h2, rfl, rfl⟩ | ⟨s, a, t, hs, hx, h2, hy, ha, ht, h3, rfl, rfl⟩ | ⟨s, hs, hx, h2, hna, rfl, rfl⟩)
  · refine px_aload_n (kk := 2) rfl rfl rfl ?_
    refine px_aload_n (kk := 0) rfl rfl rfl ?_
    refine px_iload_n (kk := 3) rfl rfl rfl ?_
    refine px_iconst (v := nI 1) rfl k_1 ?_
    refine px_iaddN rfl ?_
    refine px_roald (j := (i + 1)) rfl hscr rfl (by omega) ?_
    refine px_aload_n (kk := 0) rfl rfl rfl ?_
    refine px_iload_n (kk := 3) rfl rfl rfl ?_
    refine px_iconst (v := nI 2) rfl k_2 ?_
    refine px_iaddN rfl ?_
    refine px_roald (j := (i + 2)) rfl hscr rfl (by omega) ?_
    refine px_aload_n (kk := 0) rfl rfl rfl ?_
    refine px_iload_n (kk := 3) rfl rfl rfl ?_
    refine px_iconst (v := nI 3) rfl k_3 ?_
    refine px_iaddN rfl ?_
    refine px_roald (j := (i + 3)) rfl hscr rfl (by omega) ?_
    refine px_i2l rfl ?_
    refine px_bipush (v := nI 32) rfl b_32 ?_
    refine px_lshl rfl ?_
    refine px_aload_n (kk := 0) rfl rfl rfl ?_
    refine px_iload_n (kk := 3) rfl rfl rfl ?_
    refine px_iconst (v := nI 4) rfl k_4 ?_
    refine px_iaddN rfl ?_
    refine px_roald (j := (i + 4)) rfl hscr rfl (by omega) ?_
    refine px_i2l rfl ?_
    refine px_ldc2_w (v := 4294967295) rfl (by decide) ?_
    refine px_land rfl ?_
    refine px_lor rfl ?_
    refine px_callV0 CX12_put [.int _] [.int _, .int _, .long _] (vX12_put h.nb50 (fun s hs => rs_of (h.shl s hs)) h.szR) rfl gS_65 (by decide) rfl rfl rfl (Nat.le_of_ble_eq_true rfl) (by decide) ?_
    rintro _ _ - (⟨hn2, rfl, rfl⟩ | ⟨s2, hs2, hx2, e2, rfl, rfl⟩ | ⟨s2, b2, hs2, hx2, hb2, e2, rfl, rfl⟩ | ⟨s2, t2, a2, hs2, hx2, ht2, e2, hy2, ha2, rfl, rfl⟩ | ⟨s2, t2, hs2, hx2, ht2, e2, hna2, rfl, rfl⟩)
    · have heq : (-1 : Int32) = -1 := rfl
      refine px_icmp_eq rfl (fun c933 => ?_) (fun hZ => absurd (heq) hZ)
      exact kont _ _ _ _ _ _ h
    · exact absurd ⟨s2, hs2, hx2⟩ hn
    · exact absurd ⟨s2, hs2, hx2⟩ hn
    · exact absurd ⟨s2, hs2, hx2⟩ hn
    · exact absurd ⟨s2, hs2, hx2⟩ hn
  · refine px_aload_n (kk := 2) rfl rfl rfl ?_
    refine px_aload_n (kk := 0) rfl rfl rfl ?_
    refine px_iload_n (kk := 3) rfl rfl rfl ?_
    refine px_iconst (v := nI 1) rfl k_1 ?_
    refine px_iaddN rfl ?_
    refine px_roald (j := (i + 1)) rfl hscr rfl (by omega) ?_
    refine px_aload_n (kk := 0) rfl rfl rfl ?_
    refine px_iload_n (kk := 3) rfl rfl rfl ?_
    refine px_iconst (v := nI 2) rfl k_2 ?_
    refine px_iaddN rfl ?_
    refine px_roald (j := (i + 2)) rfl hscr rfl (by omega) ?_
    refine px_aload_n (kk := 0) rfl rfl rfl ?_
    refine px_iload_n (kk := 3) rfl rfl rfl ?_
    refine px_iconst (v := nI 3) rfl k_3 ?_
    refine px_iaddN rfl ?_
    refine px_roald (j := (i + 3)) rfl hscr rfl (by omega) ?_
    refine px_i2l rfl ?_
    refine px_bipush (v := nI 32) rfl b_32 ?_
    refine px_lshl rfl ?_
    refine px_aload_n (kk := 0) rfl rfl rfl ?_
    refine px_iload_n (kk := 3) rfl rfl rfl ?_
    refine px_iconst (v := nI 4) rfl k_4 ?_
    refine px_iaddN rfl ?_
    refine px_roald (j := (i + 4)) rfl hscr rfl (by omega) ?_
    refine px_i2l rfl ?_
    refine px_ldc2_w (v := 4294967295) rfl (by decide) ?_
    refine px_land rfl ?_
    refine px_lor rfl ?_
    refine px_callV0 CX12_put [.int _] [.int _, .int _, .long _] (vX12_put h.nb50 (fun s hs => rs_of (h.shl s hs)) h.szR) rfl gS_65 (by decide) rfl rfl rfl (Nat.le_of_ble_eq_true rfl) (by decide) ?_
    rintro _ _ - (⟨hn2, rfl, rfl⟩ | ⟨s2, hs2, hx2, e2, rfl, rfl⟩ | ⟨s2, b2, hs2, hx2, hb2, e2, rfl, rfl⟩ | ⟨s2, t2, a2, hs2, hx2, ht2, e2, hy2, ha2, rfl, rfl⟩ | ⟨s2, t2, hs2, hx2, ht2, e2, hna2, rfl, rfl⟩)
    · exact absurd ⟨s, hs, hx⟩ hn2
    · have heq : (-11 : Int32) = -11 := rfl
      refine px_icmp_eq rfl (fun c933 => ?_) (fun hZ => absurd (heq) hZ)
      exact kont _ _ _ _ _ _ h
    · have e0 := hx.symm.trans hx2
      rw [n_eq (by omega) (by omega)] at e0
      subst e0
      have hS := h.shl s hs
      exact absurd (e2.symm.trans ((SHL_E h.nb50 hS).mp h0)) (rs_body (by have := h.nb50; omega)).1
    · have e0 := hx.symm.trans hx2
      rw [n_eq (by omega) (by omega)] at e0
      subst e0
      have hS := h.shl s hs
      exact absurd (e2.symm.trans ((SHL_E h.nb50 hS).mp h0)) (rs_1 ht2)
    · have e0 := hx.symm.trans hx2
      rw [n_eq (by omega) (by omega)] at e0
      subst e0
      have hS := h.shl s hs
      exact absurd (e2.symm.trans ((SHL_E h.nb50 hS).mp h0)) (rs_1 ht2)
  · refine px_aload_n (kk := 2) rfl rfl rfl ?_
    refine px_aload_n (kk := 0) rfl rfl rfl ?_
    refine px_iload_n (kk := 3) rfl rfl rfl ?_
    refine px_iconst (v := nI 1) rfl k_1 ?_
    refine px_iaddN rfl ?_
    refine px_roald (j := (i + 1)) rfl hscr rfl (by omega) ?_
    refine px_aload_n (kk := 0) rfl rfl rfl ?_
    refine px_iload_n (kk := 3) rfl rfl rfl ?_
    refine px_iconst (v := nI 2) rfl k_2 ?_
    refine px_iaddN rfl ?_
    refine px_roald (j := (i + 2)) rfl hscr rfl (by omega) ?_
    refine px_aload_n (kk := 0) rfl rfl rfl ?_
    refine px_iload_n (kk := 3) rfl rfl rfl ?_
    refine px_iconst (v := nI 3) rfl k_3 ?_
    refine px_iaddN rfl ?_
    refine px_roald (j := (i + 3)) rfl hscr rfl (by omega) ?_
    refine px_i2l rfl ?_
    refine px_bipush (v := nI 32) rfl b_32 ?_
    refine px_lshl rfl ?_
    refine px_aload_n (kk := 0) rfl rfl rfl ?_
    refine px_iload_n (kk := 3) rfl rfl rfl ?_
    refine px_iconst (v := nI 4) rfl k_4 ?_
    refine px_iaddN rfl ?_
    refine px_roald (j := (i + 4)) rfl hscr rfl (by omega) ?_
    refine px_i2l rfl ?_
    refine px_ldc2_w (v := 4294967295) rfl (by decide) ?_
    refine px_land rfl ?_
    refine px_lor rfl ?_
    refine px_callV0 CX12_put [.int _] [.int _, .int _, .long _] (vX12_put h.nb50 (fun s hs => rs_of (h.shl s hs)) h.szR) rfl gS_65 (by decide) rfl rfl rfl (Nat.le_of_ble_eq_true rfl) (by decide) ?_
    rintro _ _ - (⟨hn2, rfl, rfl⟩ | ⟨s2, hs2, hx2, e2, rfl, rfl⟩ | ⟨s2, b2, hs2, hx2, hb2, e2, rfl, rfl⟩ | ⟨s2, t2, a2, hs2, hx2, ht2, e2, hy2, ha2, rfl, rfl⟩ | ⟨s2, t2, hs2, hx2, ht2, e2, hna2, rfl, rfl⟩)
    · exact absurd ⟨s, hs, hx⟩ hn2
    · have e0 := hx.symm.trans hx2
      rw [n_eq (by omega) (by omega)] at e0
      subst e0
      have hS := h.shl s hs
      exact absurd ((SHL_E h.nb50 hS).mpr e2) h0
    · have heq : (-12 : Int32) = -12 := rfl
      refine px_icmp_eq rfl (fun c933 => ?_) (fun hZ => absurd (heq) hZ)
      exact kont _ _ _ _ _ _ h
    · have e0 := hx.symm.trans hx2
      rw [n_eq (by omega) (by omega)] at e0
      subst e0
      have hS := h.shl s hs
      exact absurd ((SHL_T h.nb50 hS).mpr ⟨t2, ht2, e2⟩) h2
    · have e0 := hx.symm.trans hx2
      rw [n_eq (by omega) (by omega)] at e0
      subst e0
      have hS := h.shl s hs
      exact absurd ((SHL_T h.nb50 hS).mpr ⟨t2, ht2, e2⟩) h2
  · refine px_aload_n (kk := 2) rfl rfl rfl ?_
    refine px_aload_n (kk := 0) rfl rfl rfl ?_
    refine px_iload_n (kk := 3) rfl rfl rfl ?_
    refine px_iconst (v := nI 1) rfl k_1 ?_
    refine px_iaddN rfl ?_
    refine px_roald (j := (i + 1)) rfl hscr rfl (by omega) ?_
    refine px_aload_n (kk := 0) rfl rfl rfl ?_
    refine px_iload_n (kk := 3) rfl rfl rfl ?_
    refine px_iconst (v := nI 2) rfl k_2 ?_
    refine px_iaddN rfl ?_
    refine px_roald (j := (i + 2)) rfl hscr rfl (by omega) ?_
    refine px_aload_n (kk := 0) rfl rfl rfl ?_
    refine px_iload_n (kk := 3) rfl rfl rfl ?_
    refine px_iconst (v := nI 3) rfl k_3 ?_
    refine px_iaddN rfl ?_
    refine px_roald (j := (i + 3)) rfl hscr rfl (by omega) ?_
    refine px_i2l rfl ?_
    refine px_bipush (v := nI 32) rfl b_32 ?_
    refine px_lshl rfl ?_
    refine px_aload_n (kk := 0) rfl rfl rfl ?_
    refine px_iload_n (kk := 3) rfl rfl rfl ?_
    refine px_iconst (v := nI 4) rfl k_4 ?_
    refine px_iaddN rfl ?_
    refine px_roald (j := (i + 4)) rfl hscr rfl (by omega) ?_
    refine px_i2l rfl ?_
    refine px_ldc2_w (v := 4294967295) rfl (by decide) ?_
    refine px_land rfl ?_
    refine px_lor rfl ?_
    refine px_callV0 CX12_put [.int _] [.int _, .int _, .long _] (vX12_put h.nb50 (fun s hs => rs_of (h.shl s hs)) h.szR) rfl gS_65 (by decide) rfl rfl rfl (Nat.le_of_ble_eq_true rfl) (by decide) ?_
    rintro _ _ - (⟨hn2, rfl, rfl⟩ | ⟨s2, hs2, hx2, e2, rfl, rfl⟩ | ⟨s2, b2, hs2, hx2, hb2, e2, rfl, rfl⟩ | ⟨s2, t2, a2, hs2, hx2, ht2, e2, hy2, ha2, rfl, rfl⟩ | ⟨s2, t2, hs2, hx2, ht2, e2, hna2, rfl, rfl⟩)
    · exact absurd ⟨s, hs, hx⟩ hn2
    · have e0 := hx.symm.trans hx2
      rw [n_eq (by omega) (by omega)] at e0
      subst e0
      have hS := h.shl s hs
      exact absurd (((SHL_E h.nb50 hS).mpr e2).symm.trans h2) (by decide)
    · have e0 := hx.symm.trans hx2
      rw [n_eq (by omega) (by omega)] at e0
      subst e0
      have hS := h.shl s hs
      obtain ⟨t5, ht5, e5⟩ := (SHL_T h.nb50 hS).mp h2
      exact absurd (e2.symm.trans e5) (rs_ne ht5 (by have := h.nb50; omega))
    · have e0 := hx.symm.trans hx2
      rw [n_eq (by omega) (by omega)] at e0
      subst e0
      have hS := h.shl s hs
      obtain ⟨z, hz, ez⟩ := h.szC s hs
      rw [ez, mN_n (by omega)] at ha
      rw [SHL_Z hS h2, ez, mN_n (by omega)] at ha2
      have e1 := hy.symm.trans hy2
      rw [n_eq (by omega) (by omega)] at e1
      subst e1
      obtain rfl := SHL_t hS h2 ht h3 ht2 e2
      have heq : (nI 1 : Int32) = nI 1 := rfl
      refine px_icmp_eq rfl (fun c933 => ?_) (fun hZ => absurd (heq) hZ)
      refine px_jn (fun s2 hs2 j hj => ?_) (kont _ _ _ _ _ _ (Inv_J h jn_el))
      by_cases q : s2 = s
      · rw [q, p_up_n _ _ (show 54 + 2 * s ≠ 100 by omega), p_up_s, p_up_s]
        by_cases q2 : j = a
        · rw [q2, p_up_s, p_up_s]
        · rw [p_up_n _ _ q2, p_up_n _ _ (show 60 * s + j ≠ 60 * s + a by omega), p_up_n _ _ (show 100 ≠ 54 + 2 * s by omega)]
          exact h.elem s hs j
      · rw [p_up_n _ _ (show 54 + 2 * s2 ≠ 100 by omega), p_up_n _ _ (show 54 + 2 * s2 ≠ 54 + 2 * s by omega), p_up_s, p_up_n _ _ (show 60 * s2 + j ≠ 60 * s + a by omega), p_up_n _ _ (show 100 ≠ 54 + 2 * s by omega)]
        exact h.elem s2 hs2 j
    · have e0 := hx.symm.trans hx2
      rw [n_eq (by omega) (by omega)] at e0
      subst e0
      have hS := h.shl s hs
      exact absurd ⟨a, hy, by rw [SHL_Z hS h2]; exact ha⟩ hna2
  · refine px_aload_n (kk := 2) rfl rfl rfl ?_
    refine px_aload_n (kk := 0) rfl rfl rfl ?_
    refine px_iload_n (kk := 3) rfl rfl rfl ?_
    refine px_iconst (v := nI 1) rfl k_1 ?_
    refine px_iaddN rfl ?_
    refine px_roald (j := (i + 1)) rfl hscr rfl (by omega) ?_
    refine px_aload_n (kk := 0) rfl rfl rfl ?_
    refine px_iload_n (kk := 3) rfl rfl rfl ?_
    refine px_iconst (v := nI 2) rfl k_2 ?_
    refine px_iaddN rfl ?_
    refine px_roald (j := (i + 2)) rfl hscr rfl (by omega) ?_
    refine px_aload_n (kk := 0) rfl rfl rfl ?_
    refine px_iload_n (kk := 3) rfl rfl rfl ?_
    refine px_iconst (v := nI 3) rfl k_3 ?_
    refine px_iaddN rfl ?_
    refine px_roald (j := (i + 3)) rfl hscr rfl (by omega) ?_
    refine px_i2l rfl ?_
    refine px_bipush (v := nI 32) rfl b_32 ?_
    refine px_lshl rfl ?_
    refine px_aload_n (kk := 0) rfl rfl rfl ?_
    refine px_iload_n (kk := 3) rfl rfl rfl ?_
    refine px_iconst (v := nI 4) rfl k_4 ?_
    refine px_iaddN rfl ?_
    refine px_roald (j := (i + 4)) rfl hscr rfl (by omega) ?_
    refine px_i2l rfl ?_
    refine px_ldc2_w (v := 4294967295) rfl (by decide) ?_
    refine px_land rfl ?_
    refine px_lor rfl ?_
    refine px_callV0 CX12_put [.int _] [.int _, .int _, .long _] (vX12_put h.nb50 (fun s hs => rs_of (h.shl s hs)) h.szR) rfl gS_65 (by decide) rfl rfl rfl (Nat.le_of_ble_eq_true rfl) (by decide) ?_
    rintro _ _ - (⟨hn2, rfl, rfl⟩ | ⟨s2, hs2, hx2, e2, rfl, rfl⟩ | ⟨s2, b2, hs2, hx2, hb2, e2, rfl, rfl⟩ | ⟨s2, t2, a2, hs2, hx2, ht2, e2, hy2, ha2, rfl, rfl⟩ | ⟨s2, t2, hs2, hx2, ht2, e2, hna2, rfl, rfl⟩)
    · exact absurd ⟨s, hs, hx⟩ hn2
    · have e0 := hx.symm.trans hx2
      rw [n_eq (by omega) (by omega)] at e0
      subst e0
      have hS := h.shl s hs
      exact absurd (((SHL_E h.nb50 hS).mpr e2).symm.trans h2) (by decide)
    · have e0 := hx.symm.trans hx2
      rw [n_eq (by omega) (by omega)] at e0
      subst e0
      have hS := h.shl s hs
      obtain ⟨t5, ht5, e5⟩ := (SHL_T h.nb50 hS).mp h2
      exact absurd (e2.symm.trans e5) (rs_ne ht5 (by have := h.nb50; omega))
    · have e0 := hx.symm.trans hx2
      rw [n_eq (by omega) (by omega)] at e0
      subst e0
      have hS := h.shl s hs
      exact absurd ⟨a2, hy2, by rw [← SHL_Z hS h2]; exact ha2⟩ hna
    · have heq : (-13 : Int32) = -13 := rfl
      refine px_icmp_eq rfl (fun c933 => ?_) (fun hZ => absurd (heq) hZ)
      exact kont _ _ _ _ _ _ h
theorem Inv_act {tx : List Ln} {n nb : Nat} {I I1 : Nat → Nat → Int32} {J : Nat → Nat → Int64} {p : Bool × Option Nat} (h : Inv tx n nb I J p) (e : ∀ c, c ∉ ([49, 51, 65, 97] : List Nat) → I1 c = I c) (e49 : I1 49 2 = I 49 2) (h65 : ∀ k, k ≠ 57 → I1 65 k = I 65 k) (hran : ∃ q, q < 2 ^ 31 ∧ I1 49 3 = nI q ∧ I1 65 57 = nI q) (htr : I1 97 = I1 51) : Inv tx n nb I1 J p := ⟨
  LawC_mv h.lawC (fun k hk => by rw [e 6 (by decide)]) (e 9 (by decide)) (e 10 (by decide)),
  LawR_mv h.lawR (h65 29 (by decide)) (fun c hc => e c (by revert hc; revert c; decide)),
  by rw [e 1 (by decide)]; exact h.cn,
  by rw [h65 1 (by decide)]; exact h.rn,
  h.n8,
  by rw [e 66 (by decide), e 2 (by decide)]; exact h.warm,
  by rw [e 67 (by decide), e 3 (by decide)]; exact h.need,
  by rw [e 68 (by decide), e 4 (by decide)]; exact h.part,
  by rw [e 69 (by decide), e 5 (by decide)]; exact h.like,
  by rw [h65 6 (by decide), e 1 (by decide)]; exact h.cord,
  by rw [h65 7 (by decide), e 1 (by decide)]; exact h.cold,
  by rw [e 4 (by decide)]; exact h.pa,
  by rw [e 1 (by decide)]; exact h.c4,
  by rw [e 5 (by decide)]; exact h.lk,
  fun w a b ho => by rw [e _ (by rcases sl_in ho with q | q | q | q | q <;> rw [q] <;> decide)]; exact h.mays w a b ho,
  by rw [e 36 (by decide)]; exact h.mt,
  by rw [e 36 (by decide), e 70 (by decide), e 37 (by decide), e 71 (by decide)]; exact h.to1,
  by rw [e 36 (by decide), e 37 (by decide)]; exact h.to2,
  by rw [e 35 (by decide), e 70 (by decide)]; exact h.many,
  by rw [e 38 (by decide), e 91 (by decide)]; exact h.led,
  by rw [e 34 (by decide), h65 49 (by decide), h65 50 (by decide), e 43 (by decide), e 92 (by decide), e 40 (by decide), e 93 (by decide), e 41 (by decide), e 94 (by decide), e 42 (by decide), e 95 (by decide), e 39 (by decide)]; exact h.kept,
  by have z := h.chg; simp only [CHG] at z ⊢; rw [e 44 (by decide), e 45 (by decide), e 46 (by decide), e 47 (by decide), e 48 (by decide), e 72 (by decide), e 73 (by decide), e 74 (by decide), e 75 (by decide), h65 10 (by decide), h65 11 (by decide)]; exact z,
  (match h.tape with | ⟨c, T, a, b, d⟩ => ⟨c, T, a, ⟨(congrFun (e 6 (by decide)) 5).trans b.1, fun j hj => by rw [e 7 (by decide)]; exact b.2 j hj⟩, ⟨(h65 17 (by decide)).trans d.1, fun j hj => by rw [e 76 (by decide)]; exact d.2 j hj⟩⟩),
  h.nb50,
  e49.trans h.cb,
  (h65 55 (by decide)).trans h.rb,
  by rw [e 96 (by decide), e 50 (by decide)]; exact h.kind,
  by rw [e 50 (by decide)]; exact h.knd8,
  hran,
  htr,
  fun s hs => by have z := h.shl s hs; unfold SHL at z ⊢; rw [e _ (fun z => by simp only [List.mem_cons, List.not_mem_nil, or_false] at z; omega), e 98 (by decide), e 99 (by decide)]; exact z,
  h.elem⟩
theorem sp_atr_s : ∀ K, K < 8 → ∀ w, w < 4 → (sp_atr K w).length < 100 := by decide +kernel
set_option maxRecDepth 20000 in
theorem stp_act {I : Nat → Nat → Int32} {J : Nat → Nat → Int64} {p : Bool × Option Nat} {ro : List (Nat × Nat × (Nat → Int32))} {tx : List Ln} {n nb : Nat} (h : Inv tx n nb I J p) {L i : Nat} {xs : Nat → Int32} (hi : i + 6 ≤ L) (hL : L ≤ 3072) (hscr : (1002, L, xs) ∈ ro) (hro : RO ro) {Q : Option Value → pm_M → Prop}  (kont : ∀ (tx : List Ln) (n nb : Nat) (I : Nat → Nat → Int32) (J : Nat → Nat → Int64) (p : Bool × Option Nat), Inv tx n nb I J p → Px 61 0 0 CL_law 1065 [some (.ref (1002)), some (.ref (0)), some (.ref (65)), some (.int (nI i))] [] (gS, I, J, gR p, ro) Q) : Px 61 0 0 CL_law 757 [some (.ref (1002)), some (.ref (0)), some (.ref (65)), some (.int (nI i))] [] (gS, I, J, gR p, ro) Q := by
  refine px_aload_n (kk := 1) rfl rfl rfl ?_
  refine px_aload_n (kk := 0) rfl rfl rfl ?_
  refine px_iload_n (kk := 3) rfl rfl rfl ?_
  refine px_iconst (v := nI 1) rfl k_1 ?_
  refine px_iaddN rfl ?_
  refine px_roald (j := (i + 1)) rfl hscr rfl (by omega) ?_
  refine px_aload_n (kk := 0) rfl rfl rfl ?_
  refine px_iload_n (kk := 3) rfl rfl rfl ?_
  refine px_iconst (v := nI 2) rfl k_2 ?_
  refine px_iaddN rfl ?_
  refine px_roald (j := (i + 2)) rfl hscr rfl (by omega) ?_
  refine px_aload_n (kk := 0) rfl rfl rfl ?_
  refine px_iload_n (kk := 3) rfl rfl rfl ?_
  refine px_iconst (v := nI 3) rfl k_3 ?_
  refine px_iaddN rfl ?_
  refine px_roald (j := (i + 3)) rfl hscr rfl (by omega) ?_
  refine px_callV0 CX11_act [] [.int _, .int _, .int _] (vX11_act h.cb h.nb50 h.knd8 hro) rfl gS_0 (by decide) rfl rfl rfl (Nat.le_of_ble_eq_true rfl) (by decide) ?_
  rintro _ _ - (⟨b, K, w, hb, hK, hw, hx, hk, hy, rfl, I1, rfl, hF, e2, e3, e51⟩ | ⟨hn, rfl, rfl⟩)
  · refine px_aload_n (kk := 2) rfl rfl rfl ?_
    refine px_aload_n (kk := 0) rfl rfl rfl ?_
    refine px_iload_n (kk := 3) rfl rfl rfl ?_
    refine px_iconst (v := nI 1) rfl k_1 ?_
    refine px_iaddN rfl ?_
    refine px_roald (j := (i + 1)) rfl hscr rfl (by omega) ?_
    refine px_aload_n (kk := 0) rfl rfl rfl ?_
    refine px_iload_n (kk := 3) rfl rfl rfl ?_
    refine px_iconst (v := nI 2) rfl k_2 ?_
    refine px_iaddN rfl ?_
    refine px_roald (j := (i + 2)) rfl hscr rfl (by omega) ?_
    refine px_aload_n (kk := 0) rfl rfl rfl ?_
    refine px_iload_n (kk := 3) rfl rfl rfl ?_
    refine px_iconst (v := nI 3) rfl k_3 ?_
    refine px_iaddN rfl ?_
    refine px_roald (j := (i + 3)) rfl hscr rfl (by omega) ?_
    refine px_callV0 CX12_act [.int _] [.int _, .int _, .int _] (vX12_act (z := nb) (by rw [hF 65 (by decide)]; exact h.rb) h.nb50 (by rw [hF 96 (by decide), h.kind]; exact h.knd8)) rfl gS_65 (by decide) rfl rfl rfl (Nat.le_of_ble_eq_true rfl) (by decide) ?_
    rintro _ _ - (⟨b2, K2, w2, hb2, hK2, hw2, hx2, hk2, hy2, rfl, I2, rfl, hF2, h65, e57, e97⟩ | ⟨hn2, rfl, rfl⟩)
    · have hnb := h.nb50
      have e0 := hx.symm.trans hx2
      rw [n_eq (by omega) (by omega)] at e0
      subst e0
      rw [hF 96 (by decide), h.kind, hk, n_eq (by omega) (by omega)] at hk2
      subst hk2
      have e1 := hy.symm.trans hy2
      rw [n_eq (by omega) (by omega)] at e1
      subst e1
      have heq : sp_act K w (nI b) (xs (i + 3)) = sp_act K w (nI b) (xs (i + 3)) := rfl
      refine px_icmp_eq rfl (fun c791 => ?_) (fun hZ => absurd (heq) hZ)
      refine kont _ _ _ _ _ _ (Inv_act h (fun c hc => ?_) ?_ (fun k hk => ?_) ⟨(sp_nts (I 51, 0) (sp_atr K w)).2, ?_, ?_, e57.trans ?_⟩ ?_)
      · rw [hF2 c (by revert hc; simp only [List.mem_cons, List.not_mem_nil, or_false]; omega)]
        exact hF c (by revert hc; simp only [List.mem_cons, List.not_mem_nil, or_false]; omega)
      · rw [hF2 49 (by decide)]; exact e2
      · rw [h65 k hk, hF 65 (by decide)]
      · rw [sp_nts_2]
        have := sp_atr_s K hK w hw
        show 0 + _ < _
        omega
      · rw [hF2 49 (by decide)]; exact e3
      · rw [sp_nts_2, sp_nts_2]
      · rw [e97, hF2 51 (by decide), e51, hF 97 (by decide), h.trac]
    · exact absurd ⟨⟨b, hb, hx⟩, w, hw, hy⟩ hn2
  · refine px_aload_n (kk := 2) rfl rfl rfl ?_
    refine px_aload_n (kk := 0) rfl rfl rfl ?_
    refine px_iload_n (kk := 3) rfl rfl rfl ?_
    refine px_iconst (v := nI 1) rfl k_1 ?_
    refine px_iaddN rfl ?_
    refine px_roald (j := (i + 1)) rfl hscr rfl (by omega) ?_
    refine px_aload_n (kk := 0) rfl rfl rfl ?_
    refine px_iload_n (kk := 3) rfl rfl rfl ?_
    refine px_iconst (v := nI 2) rfl k_2 ?_
    refine px_iaddN rfl ?_
    refine px_roald (j := (i + 2)) rfl hscr rfl (by omega) ?_
    refine px_aload_n (kk := 0) rfl rfl rfl ?_
    refine px_iload_n (kk := 3) rfl rfl rfl ?_
    refine px_iconst (v := nI 3) rfl k_3 ?_
    refine px_iaddN rfl ?_
    refine px_roald (j := (i + 3)) rfl hscr rfl (by omega) ?_
    refine px_callV0 CX12_act [.int _] [.int _, .int _, .int _] (vX12_act (z := nb) (by rw [p_up_n _ _ (by decide)]; exact h.rb) h.nb50 (by rw [p_up_n _ _ (by decide), h.kind]; exact h.knd8)) rfl gS_65 (by decide) rfl rfl rfl (Nat.le_of_ble_eq_true rfl) (by decide) ?_
    rintro _ _ - (⟨b2, K2, w2, hb2, hK2, hw2, hx2, hk2, hy2, rfl, I2, rfl, hF2, h65, e57, e97⟩ | ⟨hn2, rfl, rfl⟩)
    · exact absurd ⟨⟨b2, hb2, hx2⟩, w2, hw2, hy2⟩ hn
    · have heq : (nI 0 : Int32) = nI 0 := rfl
      refine px_icmp_eq rfl (fun c791 => ?_) (fun hZ => absurd (heq) hZ)
      refine kont _ _ _ _ _ _ (Inv_act h (fun c hc => ?_) ?_ (fun k hk => ?_) ⟨0, by decide, ?_, ?_⟩ ?_)
      · simp only [List.mem_cons, List.not_mem_nil, or_false, not_or] at hc
        rw [p_up_n _ _ hc.2.2.1, p_up_n _ _ hc.1]
      · rw [p_up_n _ _ (by decide), p_up_s, p_up_n _ _ (by decide)]
      · rw [p_up_s, p_up_n _ _ hk, p_up_n _ _ (by decide)]
      · rw [p_up_n _ _ (by decide), p_up_s, p_up_s]
      · rw [p_up_s, p_up_s]
      · rw [p_up_n _ _ (by decide), p_up_n _ _ (by decide), p_up_n _ _ (by decide), p_up_n _ _ (by decide)]; exact h.trac
def TKR (nb : Nat) (I : Nat → Nat → Int32) (x y v : Int32) : Prop := (¬ ((∃ s, s < 6 ∧ x = nI s) ∧ (∃ k, k < 8 ∧ y = nI k)) ∧ v = -1) ∨ (∃ s, s < 6 ∧ x = nI s ∧ (∃ k, k < 8 ∧ y = nI k) ∧ ((I 98 s = -1 ∧ v = -11) ∨ (I 98 s ≠ -1 ∧ ¬ (∃ b K, b < nb ∧ I 98 s = nI b ∧ K < 8 ∧ I 50 b = nI K ∧ y ∈ sp_und K) ∧ v = -12) ∨ (∃ b K, b < nb ∧ I 98 s = nI b ∧ K < 8 ∧ I 50 b = nI K ∧ y ∈ sp_und K ∧ v = nI K)))
theorem TKR_fn {nb : Nat} (hnb : nb ≤ 50) {I : Nat → Nat → Int32} {x y v w : Int32} (h : TKR nb I x y v) (h2 : TKR nb I x y w) : v = w := by
  rcases h with ⟨h, rfl⟩ | ⟨s, hs, hx, hy, h⟩
  · rcases h2 with ⟨h2, rfl⟩ | ⟨s2, hs2, hx2, hy2, h2⟩
    · rfl
    · exact absurd ⟨⟨s2, hs2, hx2⟩, hy2⟩ h
  · rcases h2 with ⟨h2, rfl⟩ | ⟨s2, hs2, hx2, hy2, h2⟩
    · exact absurd ⟨⟨s, hs, hx⟩, hy⟩ h2
    · rw [hx, n_eq (by omega) (by omega)] at hx2
      subst hx2
      rcases h with ⟨a, rfl⟩ | ⟨a, b, rfl⟩ | ⟨b, K, hb, hK, a, c, d, rfl⟩
      · rcases h2 with ⟨a2, rfl⟩ | ⟨a2, b2, rfl⟩ | ⟨b2, K2, hb2, hK2, a2, c2, d2, rfl⟩
        · rfl
        · exact absurd a a2
        · rw [a] at hK2; exact absurd hK2.symm (rs_body (by omega)).1
      · rcases h2 with ⟨a2, rfl⟩ | ⟨a2, b2, rfl⟩ | ⟨b2, K2, hb2, hK2, a2, c2, d2, rfl⟩
        · exact absurd a2 a
        · rfl
        · exact absurd ⟨b2, K2, hb2, hK2, a2, c2, d2⟩ b
      · rcases h2 with ⟨a2, rfl⟩ | ⟨a2, b2, rfl⟩ | ⟨b2, K2, hb2, hK2, a2, c2, d2, rfl⟩
        · rw [a2] at hK; exact absurd hK.symm (rs_body (by omega)).1
        · exact absurd ⟨b, K, hb, hK, a, c, d⟩ b2
        · rw [hK, n_eq (by omega) (by omega)] at hK2
          subst hK2
          rw [c, n_eq (by omega) (by omega)] at c2
          subst c2
          rfl
theorem SHL_k {nb : Nat} (hnb : nb ≤ 50) {I : Nat → Nat → Int32} {s b : Nat} (h : SHL nb I s) (hb : b < nb) : (¬ (I (53 + 2 * s) 1 = nI 0) ∧ I (53 + 2 * s) 1 ≠ nI 2 ∧ I (53 + 2 * s) 2 = nI b) ↔ I 98 s = nI b := by
  rcases h.1 with ⟨h1, h2⟩ | ⟨b2, hb2, h1, h3, h2⟩ | ⟨t, ht, h1, h3, h2, _⟩
  · rw [h1, h2]
    exact ⟨fun e => absurd rfl e.1, fun e => absurd e.symm (rs_body (by omega)).1⟩
  · rw [h1, h2, h3]
    exact ⟨fun e => e.2.2, fun e => ⟨by decide, by decide, e⟩⟩
  · rw [h1, h2]
    exact ⟨fun e => absurd rfl e.2.1, fun e => absurd e.symm (rs_ne ht (by omega))⟩
theorem qX11_taken {I : Nat → Nat → Int32} {J : Nat → Nat → Int64} {p : Bool × Option Nat} {ro : List (Nat × Nat × (Nat → Int32))} {tx : List Ln} {n nb : Nat} (h : Inv tx n nb I J p) (hro : RO ro) {x y : Int32} : Pv 6 0 0 CX11_taken [.ref 0, .int x, .int y] (gS, I, J, gR p, ro) (fun r S' => S' = (gS, I, J, gR p, ro) ∧ ∃ v, r = some (.int v) ∧ TKR nb I x y v) := pv_post (vX11_taken h.cb h.nb50 h.knd8 hro (fun s hs h0 h2 => SHL_b (h.shl s hs) h0 h2)) (fun r S2 z => ⟨z.1, by
  have hnb := h.nb50
  rcases z.2 with ⟨h1, rfl⟩ | ⟨s, hs, hx, hy, ⟨h0, rfl⟩ | ⟨h0, h1, rfl⟩ | ⟨h0, h2, b, K, hb, hb2, hK, hk, hu, rfl⟩⟩
  · exact ⟨_, rfl, .inl ⟨h1, rfl⟩⟩
  · exact ⟨_, rfl, .inr ⟨s, hs, hx, hy, .inl ⟨(SHL_E hnb (h.shl s hs)).mp h0, rfl⟩⟩⟩
  · exact ⟨_, rfl, .inr ⟨s, hs, hx, hy, .inr (.inl ⟨fun e => h0 ((SHL_E hnb (h.shl s hs)).mpr e), fun ⟨b, K, hb, e, hK, hk, hu⟩ => h1 (by
      have z := (SHL_k hnb (h.shl s hs) hb).mpr e
      exact ⟨z.2.1, b, K, hb, z.2.2, hK, hk, hu⟩), rfl⟩)⟩⟩
  · exact ⟨_, rfl, .inr ⟨s, hs, hx, hy, .inr (.inr ⟨b, K, hb, (SHL_k hnb (h.shl s hs) hb).mp ⟨h0, h2, hb2⟩, hK, hk, hu, rfl⟩)⟩⟩⟩)
theorem qX12_taken {I : Nat → Nat → Int32} {J : Nat → Nat → Int64} {p : Bool × Option Nat} {ro : List (Nat × Nat × (Nat → Int32))} {tx : List Ln} {n nb : Nat} (h : Inv tx n nb I J p) {x y : Int32} : Pv 2 0 0 CX12_taken [.ref 65, .int x, .int y] (gS, I, J, gR p, ro) (fun r S' => S' = (gS, I, J, gR p, ro) ∧ ∃ v, r = some (.int v) ∧ TKR nb I x y v) := pv_post (vX12_taken h.nb50 (fun s hs => rs_of (h.shl s hs)) (by rw [h.kind]; exact h.knd8)) (fun r S2 z => ⟨z.1, by
  have z2 := z.2
  rw [h.kind] at z2
  rcases z2 with ⟨h1, rfl⟩ | ⟨s, hs, hx, hy, ⟨h0, rfl⟩ | ⟨h0, h1, rfl⟩ | ⟨b, K, hb, hb2, hK, hk, hu, rfl⟩⟩
  · exact ⟨_, rfl, .inl ⟨h1, rfl⟩⟩
  · exact ⟨_, rfl, .inr ⟨s, hs, hx, hy, .inl ⟨h0, rfl⟩⟩⟩
  · exact ⟨_, rfl, .inr ⟨s, hs, hx, hy, .inr (.inl ⟨h0, h1, rfl⟩)⟩⟩
  · exact ⟨_, rfl, .inr ⟨s, hs, hx, hy, .inr (.inr ⟨b, K, hb, hb2, hK, hk, hu, rfl⟩)⟩⟩⟩)
set_option maxRecDepth 20000 in
theorem stp_taken {I : Nat → Nat → Int32} {J : Nat → Nat → Int64} {p : Bool × Option Nat} {ro : List (Nat × Nat × (Nat → Int32))} {tx : List Ln} {n nb : Nat} (h : Inv tx n nb I J p) {L i : Nat} {xs : Nat → Int32} (hi : i + 6 ≤ L) (hL : L ≤ 3072) (hscr : (1002, L, xs) ∈ ro) (hro : RO ro) {Q : Option Value → pm_M → Prop}  (kont : ∀ (tx : List Ln) (n nb : Nat) (I : Nat → Nat → Int32) (J : Nat → Nat → Int64) (p : Bool × Option Nat), Inv tx n nb I J p → Px 61 0 0 CL_law 1065 [some (.ref (1002)), some (.ref (0)), some (.ref (65)), some (.int (nI i))] [] (gS, I, J, gR p, ro) Q) : Px 61 0 0 CL_law 1021 [some (.ref (1002)), some (.ref (0)), some (.ref (65)), some (.int (nI i))] [] (gS, I, J, gR p, ro) Q := by
  refine px_aload_n (kk := 1) rfl rfl rfl ?_
  refine px_aload_n (kk := 0) rfl rfl rfl ?_
  refine px_iload_n (kk := 3) rfl rfl rfl ?_
  refine px_iconst (v := nI 1) rfl k_1 ?_
  refine px_iaddN rfl ?_
  refine px_roald (j := (i + 1)) rfl hscr rfl (by omega) ?_
  refine px_aload_n (kk := 0) rfl rfl rfl ?_
  refine px_iload_n (kk := 3) rfl rfl rfl ?_
  refine px_iconst (v := nI 2) rfl k_2 ?_
  refine px_iaddN rfl ?_
  refine px_roald (j := (i + 2)) rfl hscr rfl (by omega) ?_
  refine px_callV0 CX11_taken [] [.int _, .int _] (qX11_taken h hro) rfl gS_0 (by decide) rfl rfl rfl (Nat.le_of_ble_eq_true rfl) (by decide) ?_
  rintro _ _ - ⟨rfl, v, rfl, hv⟩
  refine px_aload_n (kk := 2) rfl rfl rfl ?_
  refine px_aload_n (kk := 0) rfl rfl rfl ?_
  refine px_iload_n (kk := 3) rfl rfl rfl ?_
  refine px_iconst (v := nI 1) rfl k_1 ?_
  refine px_iaddN rfl ?_
  refine px_roald (j := (i + 1)) rfl hscr rfl (by omega) ?_
  refine px_aload_n (kk := 0) rfl rfl rfl ?_
  refine px_iload_n (kk := 3) rfl rfl rfl ?_
  refine px_iconst (v := nI 2) rfl k_2 ?_
  refine px_iaddN rfl ?_
  refine px_roald (j := (i + 2)) rfl hscr rfl (by omega) ?_
  refine px_callV0 CX12_taken [.int _] [.int _, .int _] (qX12_taken h) rfl gS_65 (by decide) rfl rfl rfl (Nat.le_of_ble_eq_true rfl) (by decide) ?_
  rintro _ _ - ⟨rfl, v2, rfl, hv2⟩
  have heq := TKR_fn h.nb50 hv hv2
  refine px_icmp_eq rfl (fun c1045 => ?_) (fun hZ => absurd (heq) hZ)
  exact kont _ _ _ _ _ _ h
