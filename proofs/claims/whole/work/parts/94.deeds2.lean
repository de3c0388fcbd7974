/-! law, keep, row -/
theorem Inv_law {tx : List Ln} {n nb : Nat} {I I1 : Nat → Nat → Int32} {J : Nat → Nat → Int64} {p : Bool × Option Nat} (h : Inv tx n nb I J p) {tx2 : List Ln} {p2 : Bool × Option Nat} (hC : LawC tx2 p2 I1) (hR : LawR tx2 I1) (e : ∀ c, c ∉ ([6, 9, 10, 65, 77, 78, 79, 80, 81] : List Nat) → I1 c = I c) (h65 : ∀ k, k ∉ ([17, 18, 19, 20, 21, 29] : List Nat) → I1 65 k = I 65 k) (h5 : I1 6 5 = nI 0) (h17 : I1 65 17 = nI 0) : Inv tx2 n nb I1 J p2 := ⟨
  hC,
  hR,
  by rw [e 1 (by decide)]; exact h.cn,
  by rw [h65 1 (by decide)]; exact h.rn,
  h.n8,
  by rw [e 66 (by decide), e 2 (by decide)]; exact h.warm,
  by rw [e 67 (by decide), e 3 (by decide)]; exact h.need,
  by rw [e 68 (by decide), e 4 (by decide)]; exact h.part,
  by rw [e 69 (by decide), e 5 (by decide)]; exact h.like,
  by rw [h65 6 (by decide), e 1 (by decide)]; exact h.cord,
  by rw [h65 7 (by decide), e 1 (by decide)]; exact h.cold,
  by rw [e 4 (by decide)]; exact h.pa,
  by rw [e 1 (by decide)]; exact h.c4,
  by rw [e 5 (by decide)]; exact h.lk,
  fun w a b ho => by rw [e _ (by rcases sl_in ho with q | q | q | q | q <;> rw [q] <;> decide)]; exact h.mays w a b ho,
  by rw [e 36 (by decide)]; exact h.mt,
  by rw [e 36 (by decide), e 70 (by decide), e 37 (by decide), e 71 (by decide)]; exact h.to1,
  by rw [e 36 (by decide), e 37 (by decide)]; exact h.to2,
  by rw [e 35 (by decide), e 70 (by decide)]; exact h.many,
  by rw [e 38 (by decide), e 91 (by decide)]; exact h.led,
  by rw [e 34 (by decide), h65 49 (by decide), h65 50 (by decide), e 43 (by decide), e 92 (by decide), e 40 (by decide), e 93 (by decide), e 41 (by decide), e 94 (by decide), e 42 (by decide), e 95 (by decide), e 39 (by decide)]; exact h.kept,
  by have z := h.chg; simp only [CHG] at z ⊢; rw [e 44 (by decide), e 45 (by decide), e 46 (by decide), e 47 (by decide), e 48 (by decide), e 72 (by decide), e 73 (by decide), e 74 (by decide), e 75 (by decide), h65 10 (by decide), h65 11 (by decide)]; exact z,
  ⟨fun _ => 256, 0, ⟨by decide, fun j hj => absurd hj (by omega), fun _ _ => rfl⟩, ⟨h5, fun j hj => absurd hj (by omega)⟩, ⟨h17, fun j hj => absurd hj (by omega)⟩⟩,
  h.nb50,
  by rw [e 49 (by decide)]; exact h.cb,
  by rw [h65 55 (by decide)]; exact h.rb,
  by rw [e 96 (by decide), e 50 (by decide)]; exact h.kind,
  by rw [e 50 (by decide)]; exact h.knd8,
  by rw [e 49 (by decide), h65 57 (by decide)]; exact h.ran,
  by rw [e 97 (by decide), e 51 (by decide)]; exact h.trac,
  fun s hs => by have z := h.shl s hs; unfold SHL at z ⊢; rw [e _ (fun z => by simp only [List.mem_cons, List.not_mem_nil, or_false] at z; omega), e 98 (by decide), e 99 (by decide)]; exact z,
  h.elem⟩
theorem nB {b : Bool} {c : Nat} (h6 : c ≠ 6) (h9 : c ≠ 9) (h10 : c ≠ 10) : c ∉ [6, gB b] := by
  intro z
  rcases List.mem_cons.mp z with e | z
  · exact h6 e
  · have e := List.mem_singleton.mp z
    cases b
    · exact h10 e
    · exact h9 e
theorem nBA {b : Bool} : gA b ∉ [6, gB b] := by cases b <;> decide
set_option maxRecDepth 20000 in
theorem stp_law {I : Nat → Nat → Int32} {J : Nat → Nat → Int64} {p : Bool × Option Nat} {ro : List (Nat × Nat × (Nat → Int32))} {tx : List Ln} {n nb : Nat} (h : Inv tx n nb I J p) {L i : Nat} {xs : Nat → Int32} (hi : i + 6 ≤ L) (hL : L ≤ 3072) (hscr : (1002, L, xs) ∈ ro) (hro : RO ro) {Q : Option Value → pm_M → Prop}  (kont : ∀ (tx : List Ln) (n nb : Nat) (I : Nat → Nat → Int32) (J : Nat → Nat → Int64) (p : Bool × Option Nat), Inv tx n nb I J p → Px 61 0 0 CL_law 1065 [some (.ref (1002)), some (.ref (0)), some (.ref (65)), some (.int (nI i))] [] (gS, I, J, gR p, ro) Q) : Px 61 0 0 CL_law 157 [some (.ref (1002)), some (.ref (0)), some (.ref (65)), some (.int (nI i))] [] (gS, I, J, gR p, ro) Q := by
  obtain ⟨c, T, t1, t2, t3⟩ := h.tape
  refine px_aload_n (kk := 1) rfl rfl rfl ?_
  refine px_callV0 CX11_law [] [] (vX11_law t1 t2) rfl gS_0 (by decide) rfl rfl rfl (Nat.le_of_ble_eq_true rfl) (by decide) ?_
  rintro _ _ - (⟨q, I1, hR, rfl, rfl, hF, h5, hk⟩ | ⟨q, tx2, I1, hR, rfl, rfl, hF, h5, hk, hne, hL⟩)
  · refine px_aload_n (kk := 2) rfl rfl rfl ?_
    refine px_callV0 CX12_law [.int _] [] (vX12_law t1 (⟨by rw [hF 65 (nB (by decide) (by decide) (by decide))]; exact t3.1, fun j hj => by rw [hF 76 (nB (by decide) (by decide) (by decide))]; exact t3.2 j hj⟩ : LTr c T I1)) rfl gS_65 (by decide) rfl rfl rfl (Nat.le_of_ble_eq_true rfl) (by decide) ?_
    rintro _ _ - (⟨q2, I2, hR2, rfl, rfl, hK⟩ | ⟨q2, tx3, I2, hR2, rfl, rfl, hF2, hk2, h17, hne3, hL3⟩)
    · cases hR.symm.trans hR2
      have heq : (-100 - nI q : Int32) = -100 - nI q := rfl
      refine px_icmp_eq rfl (fun c161 => ?_) (fun hZ => absurd (heq) hZ)
      refine kont _ _ _ _ _ _ (Inv_law h (tx2 := tx) (p2 := p) ?_ (LawR_LK (LawR_mv h.lawR (by rw [hF 65 (nB (by decide) (by decide) (by decide))]) (fun c hc => hF c (nB (fun z => by rw [z] at hc; revert hc; decide) (fun z => by rw [z] at hc; revert hc; decide) (fun z => by rw [z] at hc; revert hc; decide)))) hK) (fun c hc => ?_) (fun k hk2 => ?_) ?_ hK.2.2.1)
      · refine LawC_mv (I := I1) ⟨(hk 6 (by decide) (by decide) (by decide)).trans h.lawC.1, h.lawC.2.1, ?_, h.lawC.2.2.2⟩ (fun k _ => by rw [hK.1 6 (by decide)]) (hK.1 9 (by decide)) (hK.1 10 (by decide))
        rw [hF _ nBA]; exact h.lawC.2.2.1
      · simp only [List.mem_cons, List.not_mem_nil, or_false, not_or] at hc
        rw [hK.1 c (by simp only [List.mem_cons, List.not_mem_nil, or_false]; omega)]
        exact hF c (nB hc.1 hc.2.1 hc.2.2.1)
      · simp only [List.mem_cons, List.not_mem_nil, or_false, not_or] at hk2
        rw [hK.2.1 k hk2.1 hk2.2.1 hk2.2.2.1 hk2.2.2.2.1 hk2.2.2.2.2.1, hF 65 (nB (by decide) (by decide) (by decide))]
      · rw [hK.1 6 (by decide)]; exact h5
    · cases hR.symm.trans hR2
  · refine px_aload_n (kk := 2) rfl rfl rfl ?_
    refine px_callV0 CX12_law [.int _] [] (vX12_law t1 (⟨by rw [hF 65 (nB (by decide) (by decide) (by decide))]; exact t3.1, fun j hj => by rw [hF 76 (nB (by decide) (by decide) (by decide))]; exact t3.2 j hj⟩ : LTr c T I1)) rfl gS_65 (by decide) rfl rfl rfl (Nat.le_of_ble_eq_true rfl) (by decide) ?_
    rintro _ _ - (⟨q2, I2, hR2, rfl, rfl, hK⟩ | ⟨q2, tx3, I2, hR2, rfl, rfl, hF2, hk2, h17, hne3, hL3⟩)
    · cases hR.symm.trans hR2
    · cases hR.symm.trans hR2
      have heq : nI 1 = nI 1 := rfl
      refine px_icmp_eq rfl (fun c161 => ?_) (fun hZ => absurd (heq) hZ)
      refine kont _ _ _ _ _ _ (Inv_law h (tx2 := tx2) (p2 := (!p.1, p.2)) ?_ hL3 (fun c hc => ?_) (fun k hk3 => ?_) ?_ h17)
      · exact LawC_mv hL (fun k _ => by rw [hF2 6 (by decide)]) (hF2 9 (by decide)) (hF2 10 (by decide))
      · simp only [List.mem_cons, List.not_mem_nil, or_false, not_or] at hc
        rw [hF2 c (by simp only [List.mem_cons, List.not_mem_nil, or_false]; omega)]
        exact hF c (nB hc.1 hc.2.1 hc.2.2.1)
      · simp only [List.mem_cons, List.not_mem_nil, or_false, not_or] at hk3
        rw [hk2 k hk3.2.2.2.2.2 hk3.1 hk3.2.1 hk3.2.2.1 hk3.2.2.2.1 hk3.2.2.2.2.1, hF 65 (nB (by decide) (by decide) (by decide))]
      · rw [hF2 6 (by decide)]; exact h5
theorem Inv_shl {tx : List Ln} {n nb : Nat} {I I1 : Nat → Nat → Int32} {J J1 : Nat → Nat → Int64} {p : Bool × Option Nat} (h : Inv tx n nb I J p) {s0 : Nat} (hs0 : s0 < 6) (e : ∀ c, c ∉ [53 + 2 * s0, 98, 99] → I1 c = I c) (hSH : SHL nb I1 s0) (h98 : ∀ s, s ≠ s0 → I1 98 s = I 98 s) (h99 : ∀ s, s ≠ s0 → I1 99 s = I 99 s) (hel : ∀ s, s < 6 → ∀ j, J1 (54 + 2 * s) j = J1 100 (60 * s + j)) : Inv tx n nb I1 J1 p := ⟨
  LawC_mv h.lawC (fun k hk => by rw [e 6 (by simp only [List.mem_cons, List.not_mem_nil, or_false]; omega)]) (e 9 (by simp only [List.mem_cons, List.not_mem_nil, or_false]; omega)) (e 10 (by simp only [List.mem_cons, List.not_mem_nil, or_false]; omega)),
  LawR_mv h.lawR (congrFun (e 65 (by simp only [List.mem_cons, List.not_mem_nil, or_false]; omega)) 29) (fun c hc => e c (by revert hc; simp only [List.mem_cons, List.not_mem_nil, or_false]; omega)),
  by rw [e 1 (by simp only [List.mem_cons, List.not_mem_nil, or_false]; omega)]; exact h.cn,
  by rw [e 65 (by simp only [List.mem_cons, List.not_mem_nil, or_false]; omega)]; exact h.rn,
  h.n8,
  by rw [e 66 (by simp only [List.mem_cons, List.not_mem_nil, or_false]; omega), e 2 (by simp only [List.mem_cons, List.not_mem_nil, or_false]; omega)]; exact h.warm,
  by rw [e 67 (by simp only [List.mem_cons, List.not_mem_nil, or_false]; omega), e 3 (by simp only [List.mem_cons, List.not_mem_nil, or_false]; omega)]; exact h.need,
  by rw [e 68 (by simp only [List.mem_cons, List.not_mem_nil, or_false]; omega), e 4 (by simp only [List.mem_cons, List.not_mem_nil, or_false]; omega)]; exact h.part,
  by rw [e 69 (by simp only [List.mem_cons, List.not_mem_nil, or_false]; omega), e 5 (by simp only [List.mem_cons, List.not_mem_nil, or_false]; omega)]; exact h.like,
  by rw [e 65 (by simp only [List.mem_cons, List.not_mem_nil, or_false]; omega), e 1 (by simp only [List.mem_cons, List.not_mem_nil, or_false]; omega)]; exact h.cord,
  by rw [e 65 (by simp only [List.mem_cons, List.not_mem_nil, or_false]; omega), e 1 (by simp only [List.mem_cons, List.not_mem_nil, or_false]; omega)]; exact h.cold,
  by rw [e 4 (by simp only [List.mem_cons, List.not_mem_nil, or_false]; omega)]; exact h.pa,
  by rw [e 1 (by simp only [List.mem_cons, List.not_mem_nil, or_false]; omega)]; exact h.c4,
  by rw [e 5 (by simp only [List.mem_cons, List.not_mem_nil, or_false]; omega)]; exact h.lk,
  fun w a b ho => by rw [e _ (by simp only [List.mem_cons, List.not_mem_nil, or_false]; rcases sl_in ho with q | q | q | q | q <;> rw [q] <;> omega)]; exact h.mays w a b ho,
  by rw [e 36 (by simp only [List.mem_cons, List.not_mem_nil, or_false]; omega)]; exact h.mt,
  by rw [e 36 (by simp only [List.mem_cons, List.not_mem_nil, or_false]; omega), e 70 (by simp only [List.mem_cons, List.not_mem_nil, or_false]; omega), e 37 (by simp only [List.mem_cons, List.not_mem_nil, or_false]; omega), e 71 (by simp only [List.mem_cons, List.not_mem_nil, or_false]; omega)]; exact h.to1,
  by rw [e 36 (by simp only [List.mem_cons, List.not_mem_nil, or_false]; omega), e 37 (by simp only [List.mem_cons, List.not_mem_nil, or_false]; omega)]; exact h.to2,
  by rw [e 35 (by simp only [List.mem_cons, List.not_mem_nil, or_false]; omega), e 70 (by simp only [List.mem_cons, List.not_mem_nil, or_false]; omega)]; exact h.many,
  by rw [e 38 (by simp only [List.mem_cons, List.not_mem_nil, or_false]; omega), e 91 (by simp only [List.mem_cons, List.not_mem_nil, or_false]; omega)]; exact h.led,
  by rw [e 34 (by simp only [List.mem_cons, List.not_mem_nil, or_false]; omega), e 65 (by simp only [List.mem_cons, List.not_mem_nil, or_false]; omega), e 43 (by simp only [List.mem_cons, List.not_mem_nil, or_false]; omega), e 92 (by simp only [List.mem_cons, List.not_mem_nil, or_false]; omega), e 40 (by simp only [List.mem_cons, List.not_mem_nil, or_false]; omega), e 93 (by simp only [List.mem_cons, List.not_mem_nil, or_false]; omega), e 41 (by simp only [List.mem_cons, List.not_mem_nil, or_false]; omega), e 94 (by simp only [List.mem_cons, List.not_mem_nil, or_false]; omega), e 42 (by simp only [List.mem_cons, List.not_mem_nil, or_false]; omega), e 95 (by simp only [List.mem_cons, List.not_mem_nil, or_false]; omega), e 39 (by simp only [List.mem_cons, List.not_mem_nil, or_false]; omega)]; exact h.kept,
  by have z := h.chg; simp only [CHG] at z ⊢; rw [e 44 (by simp only [List.mem_cons, List.not_mem_nil, or_false]; omega), e 45 (by simp only [List.mem_cons, List.not_mem_nil, or_false]; omega), e 46 (by simp only [List.mem_cons, List.not_mem_nil, or_false]; omega), e 47 (by simp only [List.mem_cons, List.not_mem_nil, or_false]; omega), e 48 (by simp only [List.mem_cons, List.not_mem_nil, or_false]; omega), e 72 (by simp only [List.mem_cons, List.not_mem_nil, or_false]; omega), e 73 (by simp only [List.mem_cons, List.not_mem_nil, or_false]; omega), e 74 (by simp only [List.mem_cons, List.not_mem_nil, or_false]; omega), e 75 (by simp only [List.mem_cons, List.not_mem_nil, or_false]; omega), e 65 (by simp only [List.mem_cons, List.not_mem_nil, or_false]; omega)]; exact z,
  (match h.tape with | ⟨c, T, a, b, d⟩ => ⟨c, T, a, ⟨(congrFun (e 6 (by simp only [List.mem_cons, List.not_mem_nil, or_false]; omega)) 5).trans b.1, fun j hj => by rw [e 7 (by simp only [List.mem_cons, List.not_mem_nil, or_false]; omega)]; exact b.2 j hj⟩, ⟨(congrFun (e 65 (by simp only [List.mem_cons, List.not_mem_nil, or_false]; omega)) 17).trans d.1, fun j hj => by rw [e 76 (by simp only [List.mem_cons, List.not_mem_nil, or_false]; omega)]; exact d.2 j hj⟩⟩),
  h.nb50,
  by rw [e 49 (by simp only [List.mem_cons, List.not_mem_nil, or_false]; omega)]; exact h.cb,
  by rw [e 65 (by simp only [List.mem_cons, List.not_mem_nil, or_false]; omega)]; exact h.rb,
  by rw [e 96 (by simp only [List.mem_cons, List.not_mem_nil, or_false]; omega), e 50 (by simp only [List.mem_cons, List.not_mem_nil, or_false]; omega)]; exact h.kind,
  by rw [e 50 (by simp only [List.mem_cons, List.not_mem_nil, or_false]; omega)]; exact h.knd8,
  by rw [e 49 (by simp only [List.mem_cons, List.not_mem_nil, or_false]; omega), e 65 (by simp only [List.mem_cons, List.not_mem_nil, or_false]; omega)]; exact h.ran,
  by rw [e 97 (by simp only [List.mem_cons, List.not_mem_nil, or_false]; omega), e 51 (by simp only [List.mem_cons, List.not_mem_nil, or_false]; omega)]; exact h.trac,
  fun s hs => by
    by_cases q : s = s0
    · rw [q]; exact hSH
    · have z := h.shl s hs
      unfold SHL at z ⊢
      rw [e _ (by simp only [List.mem_cons, List.not_mem_nil, or_false]; omega), h98 s q, h99 s q]
      exact z,
  hel⟩
set_option maxRecDepth 20000 in
theorem stp_keep {I : Nat → Nat → Int32} {J : Nat → Nat → Int64} {p : Bool × Option Nat} {ro : List (Nat × Nat × (Nat → Int32))} {tx : List Ln} {n nb : Nat} (h : Inv tx n nb I J p) {L i : Nat} {xs : Nat → Int32} (hi : i + 6 ≤ L) (hL : L ≤ 3072) (hscr : (1002, L, xs) ∈ ro) (hro : RO ro) {Q : Option Value → pm_M → Prop}  (kont : ∀ (tx : List Ln) (n nb : Nat) (I : Nat → Nat → Int32) (J : Nat → Nat → Int64) (p : Bool × Option Nat), Inv tx n nb I J p → Px 61 0 0 CL_law 1065 [some (.ref (1002)), some (.ref (0)), some (.ref (65)), some (.int (nI i))] [] (gS, I, J, gR p, ro) Q) : Px 61 0 0 CL_law 811 [some (.ref (1002)), some (.ref (0)), some (.ref (65)), some (.int (nI i))] [] (gS, I, J, gR p, ro) Q := by
  refine px_aload_n (kk := 1) rfl rfl rfl ?_
  refine px_aload_n (kk := 0) rfl rfl rfl ?_
  refine px_iload_n (kk := 3) rfl rfl rfl ?_
  refine px_iconst (v := nI 1) rfl k_1 ?_
  refine px_iaddN rfl ?_
  refine px_roald (j := (i + 1)) rfl hscr rfl (by omega) ?_
  refine px_aload_n (kk := 0) rfl rfl rfl ?_
  refine px_iload_n (kk := 3) rfl rfl rfl ?_
  refine px_iconst (v := nI 2) rfl k_2 ?_
  refine px_iaddN rfl ?_
  refine px_roald (j := (i + 2)) rfl hscr rfl (by omega) ?_
  refine px_callV0 CX11_keep [] [.int _, .int _] (vX11_keep h.cb h.nb50) rfl gS_0 (by decide) rfl rfl rfl (Nat.le_of_ble_eq_true rfl) (by decide) ?_
  rintro _ _ - (⟨hn, rfl, rfl⟩ | ⟨s, hs, hx, rfl, ⟨hy, rfl⟩ | ⟨b, hb, hy, rfl⟩⟩)
  · refine px_aload_n (kk := 2) rfl rfl rfl ?_
    refine px_aload_n (kk := 0) rfl rfl rfl ?_
    refine px_iload_n (kk := 3) rfl rfl rfl ?_
    refine px_iconst (v := nI 1) rfl k_1 ?_
    refine px_iaddN rfl ?_
    refine px_roald (j := (i + 1)) rfl hscr rfl (by omega) ?_
    refine px_aload_n (kk := 0) rfl rfl rfl ?_
    refine px_iload_n (kk := 3) rfl rfl rfl ?_
    refine px_iconst (v := nI 2) rfl k_2 ?_
    refine px_iaddN rfl ?_
    refine px_roald (j := (i + 2)) rfl hscr rfl (by omega) ?_
    refine px_callV0 CX12_keep [.int _] [.int _, .int _] (vX12_keep h.rb h.nb50) rfl gS_65 (by decide) rfl rfl rfl (Nat.le_of_ble_eq_true rfl) (by decide) ?_
    rintro _ _ - (⟨hn2, rfl, rfl⟩ | ⟨s2, hs2, hx2, hy2, rfl, rfl⟩)
    · have heq : (-1 : Int32) = -1 := rfl
      refine px_icmp_eq rfl (fun c835 => ?_) (fun hZ => absurd (heq) hZ)
      exact kont _ _ _ _ _ _ h
    · exact absurd ⟨⟨s2, hs2, hx2⟩, hy2⟩ hn
  · refine px_aload_n (kk := 2) rfl rfl rfl ?_
    refine px_aload_n (kk := 0) rfl rfl rfl ?_
    refine px_iload_n (kk := 3) rfl rfl rfl ?_
    refine px_iconst (v := nI 1) rfl k_1 ?_
    refine px_iaddN rfl ?_
    refine px_roald (j := (i + 1)) rfl hscr rfl (by omega) ?_
    refine px_aload_n (kk := 0) rfl rfl rfl ?_
    refine px_iload_n (kk := 3) rfl rfl rfl ?_
    refine px_iconst (v := nI 2) rfl k_2 ?_
    refine px_iaddN rfl ?_
    refine px_roald (j := (i + 2)) rfl hscr rfl (by omega) ?_
    refine px_callV0 CX12_keep [.int _] [.int _, .int _] (vX12_keep (nb := nb) (by rw [p_up_n _ _ (show (65 : Nat) ≠ 53 + 2 * s by omega)]; exact h.rb) h.nb50) rfl gS_65 (by decide) rfl rfl rfl (Nat.le_of_ble_eq_true rfl) (by decide) ?_
    rintro _ _ - (⟨hn2, rfl, rfl⟩ | ⟨s2, hs2, hx2, hy2, rfl, rfl⟩)
    · exact absurd ⟨⟨s, hs, hx⟩, .inl hy⟩ hn2
    · have e0 := hx.symm.trans hx2
      rw [n_eq (by omega) (by omega)] at e0
      subst e0
      have heq : nI 1 = nI 1 := rfl
      refine px_icmp_eq rfl (fun c835 => ?_) (fun hZ => absurd (heq) hZ)
      rw [hy]
      have hsz := h.szR s hs
      refine kont _ _ _ _ _ _ (Inv_shl h hs (fun c hc => ?_) ⟨?_, ⟨0, by decide, ?_⟩, ?_⟩ (fun s2 q => ?_) (fun s2 q => ?_) h.elem)
      · simp only [List.mem_cons, List.not_mem_nil, or_false, not_or] at hc
        rw [p_up_n _ _ hc.2.1, p_up_n _ _ hc.1]
      · exact .inl ⟨by rw [p_up_n _ _ (show 53 + 2 * s ≠ 98 by omega), p_up_s, p_up_n _ _ (by decide), p_up_n _ _ (by decide), p_up_s], by rw [p_up_s, p_up_s]⟩
      · rw [p_up_n _ _ (show 53 + 2 * s ≠ 98 by omega), p_up_s, p_up_s]
      · rw [p_up_n _ _ (by decide), p_up_n _ _ (show 99 ≠ 53 + 2 * s by omega)]; exact hsz
      · rw [p_up_s, p_up_n _ _ q, p_up_n _ _ (show 98 ≠ 53 + 2 * s by omega)]
      · rw [p_up_n _ _ (by decide), p_up_n _ _ (show 99 ≠ 53 + 2 * s by omega)]
  · refine px_aload_n (kk := 2) rfl rfl rfl ?_
    refine px_aload_n (kk := 0) rfl rfl rfl ?_
    refine px_iload_n (kk := 3) rfl rfl rfl ?_
    refine px_iconst (v := nI 1) rfl k_1 ?_
    refine px_iaddN rfl ?_
    refine px_roald (j := (i + 1)) rfl hscr rfl (by omega) ?_
    refine px_aload_n (kk := 0) rfl rfl rfl ?_
    refine px_iload_n (kk := 3) rfl rfl rfl ?_
    refine px_iconst (v := nI 2) rfl k_2 ?_
    refine px_iaddN rfl ?_
    refine px_roald (j := (i + 2)) rfl hscr rfl (by omega) ?_
    refine px_callV0 CX12_keep [.int _] [.int _, .int _] (vX12_keep (nb := nb) (by rw [p_up_n _ _ (show (65 : Nat) ≠ 53 + 2 * s by omega)]; exact h.rb) h.nb50) rfl gS_65 (by decide) rfl rfl rfl (Nat.le_of_ble_eq_true rfl) (by decide) ?_
    rintro _ _ - (⟨hn2, rfl, rfl⟩ | ⟨s2, hs2, hx2, hy2, rfl, rfl⟩)
    · exact absurd ⟨⟨s, hs, hx⟩, .inr ⟨b, hb, hy⟩⟩ hn2
    · have e0 := hx.symm.trans hx2
      rw [n_eq (by omega) (by omega)] at e0
      subst e0
      have heq : nI 1 = nI 1 := rfl
      refine px_icmp_eq rfl (fun c835 => ?_) (fun hZ => absurd (heq) hZ)
      rw [hy]
      have hsz := h.szR s hs
      refine kont _ _ _ _ _ _ (Inv_shl h hs (fun c hc => ?_) ⟨?_, ⟨0, by decide, ?_⟩, ?_⟩ (fun s2 q => ?_) (fun s2 q => ?_) h.elem)
      · simp only [List.mem_cons, List.not_mem_nil, or_false, not_or] at hc
        rw [p_up_n _ _ hc.2.1, p_up_n _ _ hc.1]
      · exact .inr (.inl ⟨b, hb, by rw [p_up_n _ _ (show 53 + 2 * s ≠ 98 by omega), p_up_s, p_up_n _ _ (by decide), p_up_n _ _ (by decide), p_up_s], by rw [p_up_n _ _ (show 53 + 2 * s ≠ 98 by omega), p_up_s, p_up_n _ _ (by decide), p_up_s], by rw [p_up_s, p_up_s]⟩)
      · rw [p_up_n _ _ (show 53 + 2 * s ≠ 98 by omega), p_up_s, p_up_s]
      · rw [p_up_n _ _ (by decide), p_up_n _ _ (show 99 ≠ 53 + 2 * s by omega)]; exact hsz
      · rw [p_up_s, p_up_n _ _ q, p_up_n _ _ (show 98 ≠ 53 + 2 * s by omega)]
      · rw [p_up_n _ _ (by decide), p_up_n _ _ (show 99 ≠ 53 + 2 * s by omega)]
def jn (J : Nat → Nat → Int64) : Nat → Nat → Int64 := fun c => if 54 ≤ c ∧ c ≤ 64 ∧ c % 2 = 0 then (fun j => J 100 (60 * ((c - 54) / 2) + j)) else J c
theorem jn_r {J : Nat → Nat → Int64} {s : Nat} (hs : s < 6) (j : Nat) : jn J (54 + 2 * s) j = J 100 (60 * s + j) := by
  unfold jn
  rw [if_pos (by omega), show (54 + 2 * s - 54) / 2 = s by omega]
theorem jn_100 {J : Nat → Nat → Int64} : jn J 100 = J 100 := by
  unfold jn
  rw [if_neg (by omega)]
theorem jn_el {J : Nat → Nat → Int64} : ∀ s, s < 6 → ∀ j, jn J (54 + 2 * s) j = jn J 100 (60 * s + j) := fun s hs j => by rw [jn_r hs, jn_100]
theorem px_jn {d mc ms : Nat} {cd : pm_C} {i : Nat} {ls : List (Option Value)} {st : List Value} {I : Nat → Nat → Int32} {J : Nat → Nat → Int64} {R : Nat → Nat → Option Nat} {ro : List (Nat × Nat × (Nat → Int32))} {Q : Option Value → pm_M → Prop} (hel : ∀ s, s < 6 → ∀ j, j < 60 → J (54 + 2 * s) j = J 100 (60 * s + j)) (k : Px d mc ms cd i ls st (gS, I, jn J, R, ro) Q) : Px d mc ms cd i ls st (gS, I, J, R, ro) Q := by
  refine px_garb (fun a t n hS j hj => ⟨rfl, ?_⟩) k
  by_cases hc : 54 ≤ a ∧ a ≤ 64 ∧ a % 2 = 0
  · rcases (by omega : a = 54 ∨ a = 56 ∨ a = 58 ∨ a = 60 ∨ a = 62 ∨ a = 64) with rfl | rfl | rfl | rfl | rfl | rfl
    · rw [gS_54] at hS; cases hS; exact (jn_r (s := 0) (by decide) j).trans (hel 0 (by decide) j hj).symm
    · rw [gS_56] at hS; cases hS; exact (jn_r (s := 1) (by decide) j).trans (hel 1 (by decide) j hj).symm
    · rw [gS_58] at hS; cases hS; exact (jn_r (s := 2) (by decide) j).trans (hel 2 (by decide) j hj).symm
    · rw [gS_60] at hS; cases hS; exact (jn_r (s := 3) (by decide) j).trans (hel 3 (by decide) j hj).symm
    · rw [gS_62] at hS; cases hS; exact (jn_r (s := 4) (by decide) j).trans (hel 4 (by decide) j hj).symm
    · rw [gS_64] at hS; cases hS; exact (jn_r (s := 5) (by decide) j).trans (hel 5 (by decide) j hj).symm
  · unfold jn
    rw [if_neg hc]
set_option maxRecDepth 20000 in
theorem stp_row {I : Nat → Nat → Int32} {J : Nat → Nat → Int64} {p : Bool × Option Nat} {ro : List (Nat × Nat × (Nat → Int32))} {tx : List Ln} {n nb : Nat} (h : Inv tx n nb I J p) {L i : Nat} {xs : Nat → Int32} (hi : i + 6 ≤ L) (hL : L ≤ 3072) (hscr : (1002, L, xs) ∈ ro) (hro : RO ro) {Q : Option Value → pm_M → Prop}  (kont : ∀ (tx : List Ln) (n nb : Nat) (I : Nat → Nat → Int32) (J : Nat → Nat → Int64) (p : Bool × Option Nat), Inv tx n nb I J p → Px 61 0 0 CL_law 1065 [some (.ref (1002)), some (.ref (0)), some (.ref (65)), some (.int (nI i))] [] (gS, I, J, gR p, ro) Q) : Px 61 0 0 CL_law 838 [some (.ref (1002)), some (.ref (0)), some (.ref (65)), some (.int (nI i))] [] (gS, I, J, gR p, ro) Q := by
  refine px_aload_n (kk := 1) rfl rfl rfl ?_
  refine px_aload_n (kk := 0) rfl rfl rfl ?_
  refine px_iload_n (kk := 3) rfl rfl rfl ?_
  refine px_iconst (v := nI 1) rfl k_1 ?_
  refine px_iaddN rfl ?_
  refine px_roald (j := (i + 1)) rfl hscr rfl (by omega) ?_
  refine px_aload_n (kk := 0) rfl rfl rfl ?_
  refine px_iload_n (kk := 3) rfl rfl rfl ?_
  refine px_iconst (v := nI 2) rfl k_2 ?_
  refine px_iaddN rfl ?_
  refine px_roald (j := (i + 2)) rfl hscr rfl (by omega) ?_
  refine px_aload_n (kk := 0) rfl rfl rfl ?_
  refine px_iload_n (kk := 3) rfl rfl rfl ?_
  refine px_iconst (v := nI 3) rfl k_3 ?_
  refine px_iaddN rfl ?_
  refine px_roald (j := (i + 3)) rfl hscr rfl (by omega) ?_
  refine px_callV0 CX11_row [] [.int _, .int _, .int _] (vX11_row) rfl gS_0 (by decide) rfl rfl rfl (Nat.le_of_ble_eq_true rfl) (by decide) ?_
  rintro _ _ - (⟨hn, rfl, rfl⟩ | ⟨hs, ht, hw, rfl, rfl⟩ | ⟨s, t, m, hs, hx, ht, hy, hm, hw, rfl, rfl⟩)
  · refine px_aload_n (kk := 2) rfl rfl rfl ?_
    refine px_aload_n (kk := 0) rfl rfl rfl ?_
    refine px_iload_n (kk := 3) rfl rfl rfl ?_
    refine px_iconst (v := nI 1) rfl k_1 ?_
    refine px_iaddN rfl ?_
    refine px_roald (j := (i + 1)) rfl hscr rfl (by omega) ?_
    refine px_aload_n (kk := 0) rfl rfl rfl ?_
    refine px_iload_n (kk := 3) rfl rfl rfl ?_
    refine px_iconst (v := nI 2) rfl k_2 ?_
    refine px_iaddN rfl ?_
    refine px_roald (j := (i + 2)) rfl hscr rfl (by omega) ?_
    refine px_aload_n (kk := 0) rfl rfl rfl ?_
    refine px_iload_n (kk := 3) rfl rfl rfl ?_
    refine px_iconst (v := nI 3) rfl k_3 ?_
    refine px_iaddN rfl ?_
    refine px_roald (j := (i + 3)) rfl hscr rfl (by omega) ?_
    refine px_callV0 CX12_row [.int _] [.int _, .int _, .int _] (vX12_row) rfl gS_65 (by decide) rfl rfl rfl (Nat.le_of_ble_eq_true rfl) (by decide) ?_
    rintro _ _ - (⟨hn2, rfl, rfl⟩ | ⟨hs2, ht2, hw2, rfl, rfl⟩ | ⟨s2, t2, m2, hs2, hx2, ht2, hy2, hm2, hw2, rfl, rfl⟩)
    · have heq : (-1 : Int32) = -1 := rfl
      refine px_icmp_eq rfl (fun c872 => ?_) (fun hZ => absurd (heq) hZ)
      exact kont _ _ _ _ _ _ h
    · exact absurd ⟨hs2, ht2, (fun z => by rw [i_lt, i_0] at hw2; rw [i_lt, nI_toInt (by decide)] at z; omega)⟩ hn
    · exact absurd ⟨⟨s2, hs2, hx2⟩, ⟨t2, ht2, hy2⟩, (fun z => by rw [hw2, n_lt (by omega) (by omega)] at z; omega)⟩ hn
  · refine px_aload_n (kk := 2) rfl rfl rfl ?_
    refine px_aload_n (kk := 0) rfl rfl rfl ?_
    refine px_iload_n (kk := 3) rfl rfl rfl ?_
    refine px_iconst (v := nI 1) rfl k_1 ?_
    refine px_iaddN rfl ?_
    refine px_roald (j := (i + 1)) rfl hscr rfl (by omega) ?_
    refine px_aload_n (kk := 0) rfl rfl rfl ?_
    refine px_iload_n (kk := 3) rfl rfl rfl ?_
    refine px_iconst (v := nI 2) rfl k_2 ?_
    refine px_iaddN rfl ?_
    refine px_roald (j := (i + 2)) rfl hscr rfl (by omega) ?_
    refine px_aload_n (kk := 0) rfl rfl rfl ?_
    refine px_iload_n (kk := 3) rfl rfl rfl ?_
    refine px_iconst (v := nI 3) rfl k_3 ?_
    refine px_iaddN rfl ?_
    refine px_roald (j := (i + 3)) rfl hscr rfl (by omega) ?_
    refine px_callV0 CX12_row [.int _] [.int _, .int _, .int _] (vX12_row) rfl gS_65 (by decide) rfl rfl rfl (Nat.le_of_ble_eq_true rfl) (by decide) ?_
    rintro _ _ - (⟨hn2, rfl, rfl⟩ | ⟨hs2, ht2, hw2, rfl, rfl⟩ | ⟨s2, t2, m2, hs2, hx2, ht2, hy2, hm2, hw2, rfl, rfl⟩)
    · exact absurd ⟨hs, ht, (fun z => by rw [i_lt, i_0] at hw; rw [i_lt, nI_toInt (by decide)] at z; omega)⟩ hn2
    · have heq : (-14 : Int32) = -14 := rfl
      refine px_icmp_eq rfl (fun c872 => ?_) (fun hZ => absurd (heq) hZ)
      exact kont _ _ _ _ _ _ h
    · rw [hw2] at hw
      exact absurd hw (n_nneg (by omega))
  · refine px_aload_n (kk := 2) rfl rfl rfl ?_
    refine px_aload_n (kk := 0) rfl rfl rfl ?_
    refine px_iload_n (kk := 3) rfl rfl rfl ?_
    refine px_iconst (v := nI 1) rfl k_1 ?_
    refine px_iaddN rfl ?_
    refine px_roald (j := (i + 1)) rfl hscr rfl (by omega) ?_
    refine px_aload_n (kk := 0) rfl rfl rfl ?_
    refine px_iload_n (kk := 3) rfl rfl rfl ?_
    refine px_iconst (v := nI 2) rfl k_2 ?_
    refine px_iaddN rfl ?_
    refine px_roald (j := (i + 2)) rfl hscr rfl (by omega) ?_
    refine px_aload_n (kk := 0) rfl rfl rfl ?_
    refine px_iload_n (kk := 3) rfl rfl rfl ?_
    refine px_iconst (v := nI 3) rfl k_3 ?_
    refine px_iaddN rfl ?_
    refine px_roald (j := (i + 3)) rfl hscr rfl (by omega) ?_
    refine px_callV0 CX12_row [.int _] [.int _, .int _, .int _] (vX12_row) rfl gS_65 (by decide) rfl rfl rfl (Nat.le_of_ble_eq_true rfl) (by decide) ?_
    rintro _ _ - (⟨hn2, rfl, rfl⟩ | ⟨hs2, ht2, hw2, rfl, rfl⟩ | ⟨s2, t2, m2, hs2, hx2, ht2, hy2, hm2, hw2, rfl, rfl⟩)
    · exact absurd ⟨⟨s, hs, hx⟩, ⟨t, ht, hy⟩, (fun z => by rw [hw, n_lt (by omega) (by omega)] at z; omega)⟩ hn2
    · rw [hw] at hw2
      exact absurd hw2 (n_nneg (by omega))
    · have e0 := hx.symm.trans hx2
      rw [n_eq (by omega) (by omega)] at e0
      subst e0
      have e1 := hy.symm.trans hy2
      rw [n_eq (by omega) (by omega)] at e1
      subst e1
      have e2 := hw.symm.trans hw2
      rw [n_eq (by omega) (by omega)] at e2
      subst e2
      have heq : nI 1 = nI 1 := rfl
      refine px_icmp_eq rfl (fun c872 => ?_) (fun hZ => absurd (heq) hZ)
      have hsz := h.szR s hs
      refine px_jn (fun s2 hs2 j hj => ?_) ?_
      · by_cases q : s2 = s
        · rw [q, p_up_n _ _ (show 54 + 2 * s ≠ 100 by omega), p_up_s, p_up_s, if_pos hj, if_pos (by omega)]
        · rw [p_up_n _ _ (show 54 + 2 * s2 ≠ 100 by omega), p_up_n _ _ (show 54 + 2 * s2 ≠ 54 + 2 * s by omega), p_up_s, if_neg (by omega), p_up_n _ _ (show 100 ≠ 54 + 2 * s by omega)]
          exact h.elem s2 hs2 j
      refine kont _ _ _ _ _ _ (Inv_shl h hs (fun c hc => ?_) ⟨.inr (.inr ⟨t, ht, ?_, ?_, ?_, ?_⟩), ⟨m, hm, ?_⟩, ⟨m, hm, ?_⟩⟩ (fun s2 q => ?_) (fun s2 q => ?_) jn_el)
      · simp only [List.mem_cons, List.not_mem_nil, or_false, not_or] at hc
        rw [p_up_n _ _ hc.2.2, p_up_n _ _ hc.2.1, p_up_n _ _ hc.1]
      · rw [p_up_n _ _ (show 53 + 2 * s ≠ 99 by omega), p_up_n _ _ (show 53 + 2 * s ≠ 98 by omega), p_up_s, p_up_n _ _ (by decide), p_up_n _ _ (by decide), p_up_n _ _ (by decide), p_up_s]
      · rw [p_up_n _ _ (show 53 + 2 * s ≠ 99 by omega), p_up_n _ _ (show 53 + 2 * s ≠ 98 by omega), p_up_s, p_up_n _ _ (by decide), p_up_s]
      · rw [p_up_n _ _ (by decide), p_up_s, p_up_s]
      · rw [p_up_n _ _ (show 53 + 2 * s ≠ 99 by omega), p_up_n _ _ (show 53 + 2 * s ≠ 98 by omega), p_up_s, p_up_s, p_up_s, p_up_s]
      · rw [p_up_n _ _ (show 53 + 2 * s ≠ 99 by omega), p_up_n _ _ (show 53 + 2 * s ≠ 98 by omega), p_up_s, p_up_s]
      · rw [p_up_s, p_up_s]
      · rw [p_up_n _ _ (by decide), p_up_s, p_up_n _ _ q, p_up_n _ _ (show 98 ≠ 53 + 2 * s by omega)]
      · rw [p_up_s, p_up_n _ _ q, p_up_n _ _ (show 99 ≠ 53 + 2 * s by omega)]
