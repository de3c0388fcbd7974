/-! shift -/
theorem SHL_q {nb : Nat} (hnb : nb ≤ 50) {I : Nat → Nat → Int32} {s t : Nat} (h : SHL nb I s) (k : SHL nb I t) (he : ¬ (I (53 + 2 * s) 1 = nI 0 ∨ I (53 + 2 * t) 1 = nI 0)) : (I (53 + 2 * s) 1 = nI 2 ∧ I (53 + 2 * t) 1 = nI 2 ∧ I (53 + 2 * s) 3 = I (53 + 2 * t) 3) ↔ (I 98 s < 0 ∧ I 98 s = I 98 t) := by
  rcases h.1 with ⟨h1, h2⟩ | ⟨b, hb, h1, _, h2⟩ | ⟨w, hw, h1, h3, h2, _⟩
  · exact absurd (.inl h1) he
  · rw [h1, h2]
    exact ⟨fun e => absurd e.1 (by decide), fun e => absurd e.1 (n_nneg (by omega))⟩
  · rcases k.1 with ⟨k1, k2⟩ | ⟨c, hc, k1, _, k2⟩ | ⟨v, hv, k1, k3, k2, _⟩
    · exact absurd (.inr k1) he
    · rw [h1, h2, k1, k2]
      exact ⟨fun e => absurd e.2.1 (by decide), fun e => absurd e.2.symm (rs_ne hw (by omega))⟩
    · rw [h1, h2, k1, k2, h3, k3]
      exact ⟨fun e => ⟨rs_neg hw, by rw [(n_eq (by omega) (by omega)).mp e.2.2]⟩, fun e => ⟨rfl, rfl, by rw [rs_inj hw hv e.2]⟩⟩
set_option maxRecDepth 20000 in
theorem stp_shift {I : Nat → Nat → Int32} {J : Nat → Nat → Int64} {p : Bool × Option Nat} {ro : List (Nat × Nat × (Nat → Int32))} {tx : List Ln} {n nb : Nat} (h : Inv tx n nb I J p) {L i : Nat} {xs : Nat → Int32} (hi : i + 6 ≤ L) (hL : L ≤ 3072) (hscr : (1002, L, xs) ∈ ro) (hro : RO ro) {Q : Option Value → pm_M → Prop}  (kont : ∀ (tx : List Ln) (n nb : Nat) (I : Nat → Nat → Int32) (J : Nat → Nat → Int64) (p : Bool × Option Nat), Inv tx n nb I J p → Px 61 0 0 CL_law 1065 [some (.ref (1002)), some (.ref (0)), some (.ref (65)), some (.int (nI i))] [] (gS, I, J, gR p, ro) Q) : Px 61 0 0 CL_law 964 [some (.ref (1002)), some (.ref (0)), some (.ref (65)), some (.int (nI i))] [] (gS, I, J, gR p, ro) Q := by
  refine px_aload_n (kk := 1) rfl rfl rfl ?_
  refine px_aload_n (kk := 0) rfl rfl rfl ?_
  refine px_iload_n (kk := 3) rfl rfl rfl ?_
  refine px_iconst (v := nI 1) rfl k_1 ?_
  refine px_iaddN rfl ?_
  refine px_roald (j := (i + 1)) rfl hscr rfl (by omega) ?_
  refine px_aload_n (kk := 0) rfl rfl rfl ?_
  refine px_iload_n (kk := 3) rfl rfl rfl ?_
  refine px_iconst (v := nI 2) rfl k_2 ?_
  refine px_iaddN rfl ?_
  refine px_roald (j := (i + 2)) rfl hscr rfl (by omega) ?_
  refine px_aload_n (kk := 0) rfl rfl rfl ?_
  refine px_iload_n (kk := 3) rfl rfl rfl ?_
  refine px_iconst (v := nI 3) rfl k_3 ?_
  refine px_iaddN rfl ?_
  refine px_roald (j := (i + 3)) rfl hscr rfl (by omega) ?_
  refine px_aload_n (kk := 0) rfl rfl rfl ?_
  refine px_iload_n (kk := 3) rfl rfl rfl ?_
  refine px_iconst (v := nI 4) rfl k_4 ?_
  refine px_iaddN rfl ?_
  refine px_roald (j := (i + 4)) rfl hscr rfl (by omega) ?_
  refine px_aload_n (kk := 0) rfl rfl rfl ?_
  refine px_iload_n (kk := 3) rfl rfl rfl ?_
  refine px_iconst (v := nI 5) rfl k_5 ?_
  refine px_iaddN rfl ?_
  refine px_roald (j := (i + 5)) rfl hscr rfl (by omega) ?_
  refine px_callV0 CX11_shift [] [.int _, .int _, .int _, .int _, .int _] (vX11_shift h.szC) rfl gS_0 (by decide) rfl rfl rfl (Nat.le_of_ble_eq_true rfl) (by decide) ?_
  rintro _ _ - (⟨hn, rfl, rfl⟩ | ⟨s, s2, hs, hs2, hx, hv, ⟨h0, rfl, rfl⟩ | ⟨h0, ⟨h2, rfl, rfl⟩ | ⟨h2, ⟨hn3, rfl, rfl⟩ | ⟨a, b, m, hy, hw, hu, h1, h4, rfl, rfl⟩⟩⟩⟩)
  · refine px_aload_n (kk := 2) rfl rfl rfl ?_
    refine px_aload_n (kk := 0) rfl rfl rfl ?_
    refine px_iload_n (kk := 3) rfl rfl rfl ?_
    refine px_iconst (v := nI 1) rfl k_1 ?_
    refine px_iaddN rfl ?_
    refine px_roald (j := (i + 1)) rfl hscr rfl (by omega) ?_
    refine px_aload_n (kk := 0) rfl rfl rfl ?_
    refine px_iload_n (kk := 3) rfl rfl rfl ?_
    refine px_iconst (v := nI 2) rfl k_2 ?_
    refine px_iaddN rfl ?_
    refine px_roald (j := (i + 2)) rfl hscr rfl (by omega) ?_
    refine px_aload_n (kk := 0) rfl rfl rfl ?_
    refine px_iload_n (kk := 3) rfl rfl rfl ?_
    refine px_iconst (v := nI 3) rfl k_3 ?_
    refine px_iaddN rfl ?_
    refine px_roald (j := (i + 3)) rfl hscr rfl (by omega) ?_
    refine px_aload_n (kk := 0) rfl rfl rfl ?_
    refine px_iload_n (kk := 3) rfl rfl rfl ?_
    refine px_iconst (v := nI 4) rfl k_4 ?_
    refine px_iaddN rfl ?_
    refine px_roald (j := (i + 4)) rfl hscr rfl (by omega) ?_
    refine px_aload_n (kk := 0) rfl rfl rfl ?_
    refine px_iload_n (kk := 3) rfl rfl rfl ?_
    refine px_iconst (v := nI 5) rfl k_5 ?_
    refine px_iaddN rfl ?_
    refine px_roald (j := (i + 5)) rfl hscr rfl (by omega) ?_
    refine px_callV0 CX12_shift [.int _] [.int _, .int _, .int _, .int _, .int _] (vX12_shift h.szR) rfl gS_65 (by decide) rfl rfl rfl (Nat.le_of_ble_eq_true rfl) (by decide) ?_
    rintro _ _ - (⟨hn2, rfl, rfl⟩ | ⟨t, t2, ht, ht2, hx2, hv2, ⟨g0, rfl, rfl⟩ | ⟨g0, ⟨g2, rfl, rfl⟩ | ⟨g2, ⟨gn3, rfl, rfl⟩ | ⟨a2, b2, m2, hy2, hw2, hu2, g1, g4, rfl, J2, rfl, hJc, hJ⟩⟩⟩⟩)
    · have heq : (-1 : Int32) = -1 := rfl
      refine px_icmp_eq rfl (fun c1018 => ?_) (fun hZ => absurd (heq) hZ)
      exact kont _ _ _ _ _ _ h
    · exact absurd ⟨⟨t, ht, hx2⟩, t2, ht2, hv2⟩ hn
    · exact absurd ⟨⟨t, ht, hx2⟩, t2, ht2, hv2⟩ hn
    · exact absurd ⟨⟨t, ht, hx2⟩, t2, ht2, hv2⟩ hn
    · exact absurd ⟨⟨t, ht, hx2⟩, t2, ht2, hv2⟩ hn
  · refine px_aload_n (kk := 2) rfl rfl rfl ?_
    refine px_aload_n (kk := 0) rfl rfl rfl ?_
    refine px_iload_n (kk := 3) rfl rfl rfl ?_
    refine px_iconst (v := nI 1) rfl k_1 ?_
    refine px_iaddN rfl ?_
    refine px_roald (j := (i + 1)) rfl hscr rfl (by omega) ?_
    refine px_aload_n (kk := 0) rfl rfl rfl ?_
    refine px_iload_n (kk := 3) rfl rfl rfl ?_
    refine px_iconst (v := nI 2) rfl k_2 ?_
    refine px_iaddN rfl ?_
    refine px_roald (j := (i + 2)) rfl hscr rfl (by omega) ?_
    refine px_aload_n (kk := 0) rfl rfl rfl ?_
    refine px_iload_n (kk := 3) rfl rfl rfl ?_
    refine px_iconst (v := nI 3) rfl k_3 ?_
    refine px_iaddN rfl ?_
    refine px_roald (j := (i + 3)) rfl hscr rfl (by omega) ?_
    refine px_aload_n (kk := 0) rfl rfl rfl ?_
    refine px_iload_n (kk := 3) rfl rfl rfl ?_
    refine px_iconst (v := nI 4) rfl k_4 ?_
    refine px_iaddN rfl ?_
    refine px_roald (j := (i + 4)) rfl hscr rfl (by omega) ?_
    refine px_aload_n (kk := 0) rfl rfl rfl ?_
    refine px_iload_n (kk := 3) rfl rfl rfl ?_
    refine px_iconst (v := nI 5) rfl k_5 ?_
    refine px_iaddN rfl ?_
    refine px_roald (j := (i + 5)) rfl hscr rfl (by omega) ?_
    refine px_callV0 CX12_shift [.int _] [.int _, .int _, .int _, .int _, .int _] (vX12_shift h.szR) rfl gS_65 (by decide) rfl rfl rfl (Nat.le_of_ble_eq_true rfl) (by decide) ?_
    rintro _ _ - (⟨hn2, rfl, rfl⟩ | ⟨t, t2, ht, ht2, hx2, hv2, ⟨g0, rfl, rfl⟩ | ⟨g0, ⟨g2, rfl, rfl⟩ | ⟨g2, ⟨gn3, rfl, rfl⟩ | ⟨a2, b2, m2, hy2, hw2, hu2, g1, g4, rfl, J2, rfl, hJc, hJ⟩⟩⟩⟩)
    · exact absurd ⟨⟨s, hs, hx⟩, s2, hs2, hv⟩ hn2
    · have heq : (-11 : Int32) = -11 := rfl
      refine px_icmp_eq rfl (fun c1018 => ?_) (fun hZ => absurd (heq) hZ)
      exact kont _ _ _ _ _ _ h
    · have e0 := hx.symm.trans hx2
      rw [n_eq (by omega) (by omega)] at e0
      subst e0
      have e1 := hv.symm.trans hv2
      rw [n_eq (by omega) (by omega)] at e1
      subst e1
      have hq0 := or_congr (SHL_E h.nb50 (h.shl s hs)) (SHL_E h.nb50 (h.shl s2 hs2))
      exact absurd (hq0.mp h0) g0
    · have e0 := hx.symm.trans hx2
      rw [n_eq (by omega) (by omega)] at e0
      subst e0
      have e1 := hv.symm.trans hv2
      rw [n_eq (by omega) (by omega)] at e1
      subst e1
      have hq0 := or_congr (SHL_E h.nb50 (h.shl s hs)) (SHL_E h.nb50 (h.shl s2 hs2))
      exact absurd (hq0.mp h0) g0
    · have e0 := hx.symm.trans hx2
      rw [n_eq (by omega) (by omega)] at e0
      subst e0
      have e1 := hv.symm.trans hv2
      rw [n_eq (by omega) (by omega)] at e1
      subst e1
      have hq0 := or_congr (SHL_E h.nb50 (h.shl s hs)) (SHL_E h.nb50 (h.shl s2 hs2))
      exact absurd (hq0.mp h0) g0
  · refine px_aload_n (kk := 2) rfl rfl rfl ?_
    refine px_aload_n (kk := 0) rfl rfl rfl ?_
    refine px_iload_n (kk := 3) rfl rfl rfl ?_
    refine px_iconst (v := nI 1) rfl k_1 ?_
    refine px_iaddN rfl ?_
    refine px_roald (j := (i + 1)) rfl hscr rfl (by omega) ?_
    refine px_aload_n (kk := 0) rfl rfl rfl ?_
    refine px_iload_n (kk := 3) rfl rfl rfl ?_
    refine px_iconst (v := nI 2) rfl k_2 ?_
    refine px_iaddN rfl ?_
    refine px_roald (j := (i + 2)) rfl hscr rfl (by omega) ?_
    refine px_aload_n (kk := 0) rfl rfl rfl ?_
    refine px_iload_n (kk := 3) rfl rfl rfl ?_
    refine px_iconst (v := nI 3) rfl k_3 ?_
    refine px_iaddN rfl ?_
    refine px_roald (j := (i + 3)) rfl hscr rfl (by omega) ?_
    refine px_aload_n (kk := 0) rfl rfl rfl ?_
    refine px_iload_n (kk := 3) rfl rfl rfl ?_
    refine px_iconst (v := nI 4) rfl k_4 ?_
    refine px_iaddN rfl ?_
    refine px_roald (j := (i + 4)) rfl hscr rfl (by omega) ?_
    refine px_aload_n (kk := 0) rfl rfl rfl ?_
    refine px_iload_n (kk := 3) rfl rfl rfl ?_
    refine px_iconst (v := nI 5) rfl k_5 ?_
    refine px_iaddN rfl ?_
    refine px_roald (j := (i + 5)) rfl hscr rfl (by omega) ?_
    refine px_callV0 CX12_shift [.int _] [.int _, .int _, .int _, .int _, .int _] (vX12_shift h.szR) rfl gS_65 (by decide) rfl rfl rfl (Nat.le_of_ble_eq_true rfl) (by decide) ?_
    rintro _ _ - (⟨hn2, rfl, rfl⟩ | ⟨t, t2, ht, ht2, hx2, hv2, ⟨g0, rfl, rfl⟩ | ⟨g0, ⟨g2, rfl, rfl⟩ | ⟨g2, ⟨gn3, rfl, rfl⟩ | ⟨a2, b2, m2, hy2, hw2, hu2, g1, g4, rfl, J2, rfl, hJc, hJ⟩⟩⟩⟩)
    · exact absurd ⟨⟨s, hs, hx⟩, s2, hs2, hv⟩ hn2
    · have e0 := hx.symm.trans hx2
      rw [n_eq (by omega) (by omega)] at e0
      subst e0
      have e1 := hv.symm.trans hv2
      rw [n_eq (by omega) (by omega)] at e1
      subst e1
      have hq0 := or_congr (SHL_E h.nb50 (h.shl s hs)) (SHL_E h.nb50 (h.shl s2 hs2))
      exact absurd (hq0.mpr g0) h0
    · have heq : (-12 : Int32) = -12 := rfl
      refine px_icmp_eq rfl (fun c1018 => ?_) (fun hZ => absurd (heq) hZ)
      exact kont _ _ _ _ _ _ h
    · have e0 := hx.symm.trans hx2
      rw [n_eq (by omega) (by omega)] at e0
      subst e0
      have e1 := hv.symm.trans hv2
      rw [n_eq (by omega) (by omega)] at e1
      subst e1
      have hq0 := or_congr (SHL_E h.nb50 (h.shl s hs)) (SHL_E h.nb50 (h.shl s2 hs2))
      have hq2 := SHL_q h.nb50 (h.shl s hs) (h.shl s2 hs2) h0
      exact absurd (hq2.mpr g2) h2
    · have e0 := hx.symm.trans hx2
      rw [n_eq (by omega) (by omega)] at e0
      subst e0
      have e1 := hv.symm.trans hv2
      rw [n_eq (by omega) (by omega)] at e1
      subst e1
      have hq0 := or_congr (SHL_E h.nb50 (h.shl s hs)) (SHL_E h.nb50 (h.shl s2 hs2))
      have hq2 := SHL_q h.nb50 (h.shl s hs) (h.shl s2 hs2) h0
      exact absurd (hq2.mpr g2) h2
  · refine px_aload_n (kk := 2) rfl rfl rfl ?_
    refine px_aload_n (kk := 0) rfl rfl rfl ?_
    refine px_iload_n (kk := 3) rfl rfl rfl ?_
    refine px_iconst (v := nI 1) rfl k_1 ?_
    refine px_iaddN rfl ?_
    refine px_roald (j := (i + 1)) rfl hscr rfl (by omega) ?_
    refine px_aload_n (kk := 0) rfl rfl rfl ?_
    refine px_iload_n (kk := 3) rfl rfl rfl ?_
    refine px_iconst (v := nI 2) rfl k_2 ?_
    refine px_iaddN rfl ?_
    refine px_roald (j := (i + 2)) rfl hscr rfl (by omega) ?_
    refine px_aload_n (kk := 0) rfl rfl rfl ?_
    refine px_iload_n (kk := 3) rfl rfl rfl ?_
    refine px_iconst (v := nI 3) rfl k_3 ?_
    refine px_iaddN rfl ?_
    refine px_roald (j := (i + 3)) rfl hscr rfl (by omega) ?_
    refine px_aload_n (kk := 0) rfl rfl rfl ?_
    refine px_iload_n (kk := 3) rfl rfl rfl ?_
    refine px_iconst (v := nI 4) rfl k_4 ?_
    refine px_iaddN rfl ?_
    refine px_roald (j := (i + 4)) rfl hscr rfl (by omega) ?_
    refine px_aload_n (kk := 0) rfl rfl rfl ?_
    refine px_iload_n (kk := 3) rfl rfl rfl ?_
    refine px_iconst (v := nI 5) rfl k_5 ?_
    refine px_iaddN rfl ?_
    refine px_roald (j := (i + 5)) rfl hscr rfl (by omega) ?_
    refine px_callV0 CX12_shift [.int _] [.int _, .int _, .int _, .int _, .int _] (vX12_shift h.szR) rfl gS_65 (by decide) rfl rfl rfl (Nat.le_of_ble_eq_true rfl) (by decide) ?_
    rintro _ _ - (⟨hn2, rfl, rfl⟩ | ⟨t, t2, ht, ht2, hx2, hv2, ⟨g0, rfl, rfl⟩ | ⟨g0, ⟨g2, rfl, rfl⟩ | ⟨g2, ⟨gn3, rfl, rfl⟩ | ⟨a2, b2, m2, hy2, hw2, hu2, g1, g4, rfl, J2, rfl, hJc, hJ⟩⟩⟩⟩)
    · exact absurd ⟨⟨s, hs, hx⟩, s2, hs2, hv⟩ hn2
    · have e0 := hx.symm.trans hx2
      rw [n_eq (by omega) (by omega)] at e0
      subst e0
      have e1 := hv.symm.trans hv2
      rw [n_eq (by omega) (by omega)] at e1
      subst e1
      have hq0 := or_congr (SHL_E h.nb50 (h.shl s hs)) (SHL_E h.nb50 (h.shl s2 hs2))
      exact absurd (hq0.mpr g0) h0
    · have e0 := hx.symm.trans hx2
      rw [n_eq (by omega) (by omega)] at e0
      subst e0
      have e1 := hv.symm.trans hv2
      rw [n_eq (by omega) (by omega)] at e1
      subst e1
      have hq0 := or_congr (SHL_E h.nb50 (h.shl s hs)) (SHL_E h.nb50 (h.shl s2 hs2))
      have hq2 := SHL_q h.nb50 (h.shl s hs) (h.shl s2 hs2) h0
      exact absurd (hq2.mp h2) g2
    · have heq : (-13 : Int32) = -13 := rfl
      refine px_icmp_eq rfl (fun c1018 => ?_) (fun hZ => absurd (heq) hZ)
      exact kont _ _ _ _ _ _ h
    · have e0 := hx.symm.trans hx2
      rw [n_eq (by omega) (by omega)] at e0
      subst e0
      have e1 := hv.symm.trans hv2
      rw [n_eq (by omega) (by omega)] at e1
      subst e1
      have hq0 := or_congr (SHL_E h.nb50 (h.shl s hs)) (SHL_E h.nb50 (h.shl s2 hs2))
      have hq2 := SHL_q h.nb50 (h.shl s hs) (h.shl s2 hs2) h0
      have z1 := SHL_Z (h.shl s hs) h2.1
      have z2 := SHL_Z (h.shl s2 hs2) h2.2.1
      exact absurd ⟨a2, b2, m2, hy2, hw2, hu2, by rw [← z1]; exact g1, by rw [← z2]; exact g4⟩ hn3
  · refine px_aload_n (kk := 2) rfl rfl rfl ?_
    refine px_aload_n (kk := 0) rfl rfl rfl ?_
    refine px_iload_n (kk := 3) rfl rfl rfl ?_
    refine px_iconst (v := nI 1) rfl k_1 ?_
    refine px_iaddN rfl ?_
    refine px_roald (j := (i + 1)) rfl hscr rfl (by omega) ?_
    refine px_aload_n (kk := 0) rfl rfl rfl ?_
    refine px_iload_n (kk := 3) rfl rfl rfl ?_
    refine px_iconst (v := nI 2) rfl k_2 ?_
    refine px_iaddN rfl ?_
    refine px_roald (j := (i + 2)) rfl hscr rfl (by omega) ?_
    refine px_aload_n (kk := 0) rfl rfl rfl ?_
    refine px_iload_n (kk := 3) rfl rfl rfl ?_
    refine px_iconst (v := nI 3) rfl k_3 ?_
    refine px_iaddN rfl ?_
    refine px_roald (j := (i + 3)) rfl hscr rfl (by omega) ?_
    refine px_aload_n (kk := 0) rfl rfl rfl ?_
    refine px_iload_n (kk := 3) rfl rfl rfl ?_
    refine px_iconst (v := nI 4) rfl k_4 ?_
    refine px_iaddN rfl ?_
    refine px_roald (j := (i + 4)) rfl hscr rfl (by omega) ?_
    refine px_aload_n (kk := 0) rfl rfl rfl ?_
    refine px_iload_n (kk := 3) rfl rfl rfl ?_
    refine px_iconst (v := nI 5) rfl k_5 ?_
    refine px_iaddN rfl ?_
    refine px_roald (j := (i + 5)) rfl hscr rfl (by omega) ?_
    refine px_callV0 CX12_shift [.int _] [.int _, .int _, .int _, .int _, .int _] (vX12_shift h.szR) rfl gS_65 (by decide) rfl rfl rfl (Nat.le_of_ble_eq_true rfl) (by decide) ?_
    rintro _ _ - (⟨hn2, rfl, rfl⟩ | ⟨t, t2, ht, ht2, hx2, hv2, ⟨g0, rfl, rfl⟩ | ⟨g0, ⟨g2, rfl, rfl⟩ | ⟨g2, ⟨gn3, rfl, rfl⟩ | ⟨a2, b2, m2, hy2, hw2, hu2, g1, g4, rfl, J2, rfl, hJc, hJ⟩⟩⟩⟩)
    · exact absurd ⟨⟨s, hs, hx⟩, s2, hs2, hv⟩ hn2
    · have e0 := hx.symm.trans hx2
      rw [n_eq (by omega) (by omega)] at e0
      subst e0
      have e1 := hv.symm.trans hv2
      rw [n_eq (by omega) (by omega)] at e1
      subst e1
      have hq0 := or_congr (SHL_E h.nb50 (h.shl s hs)) (SHL_E h.nb50 (h.shl s2 hs2))
      exact absurd (hq0.mpr g0) h0
    · have e0 := hx.symm.trans hx2
      rw [n_eq (by omega) (by omega)] at e0
      subst e0
      have e1 := hv.symm.trans hv2
      rw [n_eq (by omega) (by omega)] at e1
      subst e1
      have hq0 := or_congr (SHL_E h.nb50 (h.shl s hs)) (SHL_E h.nb50 (h.shl s2 hs2))
      have hq2 := SHL_q h.nb50 (h.shl s hs) (h.shl s2 hs2) h0
      exact absurd (hq2.mp h2) g2
    · have e0 := hx.symm.trans hx2
      rw [n_eq (by omega) (by omega)] at e0
      subst e0
      have e1 := hv.symm.trans hv2
      rw [n_eq (by omega) (by omega)] at e1
      subst e1
      have hq0 := or_congr (SHL_E h.nb50 (h.shl s hs)) (SHL_E h.nb50 (h.shl s2 hs2))
      have hq2 := SHL_q h.nb50 (h.shl s hs) (h.shl s2 hs2) h0
      have z1 := SHL_Z (h.shl s hs) h2.1
      have z2 := SHL_Z (h.shl s2 hs2) h2.2.1
      exact absurd ⟨a, b, m, hy, hw, hu, by rw [z1]; exact h1, by rw [z2]; exact h4⟩ gn3
    · have e0 := hx.symm.trans hx2
      rw [n_eq (by omega) (by omega)] at e0
      subst e0
      have e1 := hv.symm.trans hv2
      rw [n_eq (by omega) (by omega)] at e1
      subst e1
      have hq0 := or_congr (SHL_E h.nb50 (h.shl s hs)) (SHL_E h.nb50 (h.shl s2 hs2))
      have hq2 := SHL_q h.nb50 (h.shl s hs) (h.shl s2 hs2) h0
      have z1 := SHL_Z (h.shl s hs) h2.1
      have z2 := SHL_Z (h.shl s2 hs2) h2.2.1
      obtain ⟨y1, hy1, ey1⟩ := h.szC s hs
      obtain ⟨y2, hy2z, ey2⟩ := h.szC s2 hs2
      rw [ey1, mN_n (by omega)] at h1
      rw [ey2, mN_n (by omega)] at h4
      rw [z1, ey1, mN_n (by omega)] at g1
      rw [z2, ey2, mN_n (by omega)] at g4
      have f1 := hy.symm.trans hy2
      rw [n_eq (by omega) (by omega)] at f1
      subst f1
      have f2 := hw.symm.trans hw2
      rw [n_eq (by omega) (by omega)] at f2
      subst f2
      have f3 := hu.symm.trans hu2
      rw [n_eq (by omega) (by omega)] at f3
      subst f3
      have heq : (nI m : Int32) = nI m := rfl
      refine px_icmp_eq rfl (fun c1018 => ?_) (fun hZ => absurd (heq) hZ)
      refine px_jn (fun s3 hs3 j hj => ?_) (kont _ _ _ _ _ _ (Inv_J h jn_el))
      rw [hJc _ (by omega) (by omega), hJ]
      by_cases q : s3 = s2
      · rw [q, p_up_s]
        unfold va_cpy
        show (if b ≤ j ∧ j < b + m then J (54 + 2 * s) (a + (j - b)) else J (54 + 2 * s2) j) = (if 60 * s2 + b ≤ 60 * s2 + j ∧ 60 * s2 + j < 60 * s2 + b + m then _ else _)
        by_cases q2 : b ≤ j ∧ j < b + m
        · rw [if_pos q2, if_pos (by omega), p_up_n _ _ (show 100 ≠ 54 + 2 * s2 by omega), h.elem s hs]
          congr 1; omega
        · rw [if_neg q2, if_neg (by omega), p_up_n _ _ (show 100 ≠ 54 + 2 * s2 by omega), h.elem s2 hs2]
      · rw [p_up_n _ _ (show 54 + 2 * s3 ≠ 54 + 2 * s2 by omega)]
        show _ = (if 60 * s2 + b ≤ 60 * s3 + j ∧ 60 * s3 + j < 60 * s2 + b + m then _ else _)
        rw [if_neg (by omega), p_up_n _ _ (show 100 ≠ 54 + 2 * s2 by omega), h.elem s3 hs3]
