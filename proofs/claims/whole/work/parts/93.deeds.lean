/-! the deeds -/
theorem Inv_feed {tx : List Ln} {n nb : Nat} {I I1 : Nat → Nat → Int32} {J : Nat → Nat → Int64} {p : Bool × Option Nat} (h : Inv tx n nb I J p) (e : ∀ c, c ∉ ([6, 7, 65, 76] : List Nat) → I1 c = I c) (h6 : ∀ k, k ≠ 5 → I1 6 k = I 6 k) (h65 : ∀ k, k ≠ 17 → I1 65 k = I 65 k) (ht : ∃ c T, TP c T ∧ LTc c T I1 ∧ LTr c T I1) : Inv tx n nb I1 J p := ⟨
  (⟨(h6 6 (by decide)).trans h.lawC.1, h.lawC.2.1, by have z := h.lawC.2.2.1; have e9 : I1 (gA p.1) = I (gA p.1) := e _ (by cases p.1 <;> decide); rw [e9]; exact z, h.lawC.2.2.2⟩ : LawC tx p I1),
  LawR_mv h.lawR (h65 29 (by decide)) (fun c hc => e c (by revert hc; revert c; decide)),
  by rw [e 1 (by decide)]; exact h.cn,
  by rw [h65 1 (by decide)]; exact h.rn,
  h.n8,
  by rw [e 66 (by decide), e 2 (by decide)]; exact h.warm,
  by rw [e 67 (by decide), e 3 (by decide)]; exact h.need,
  by rw [e 68 (by decide), e 4 (by decide)]; exact h.part,
  by rw [e 69 (by decide), e 5 (by decide)]; exact h.like,
  by rw [h65 6 (by decide), e 1 (by decide)]; exact h.cord,
  by rw [h65 7 (by decide), e 1 (by decide)]; exact h.cold,
  by rw [e 4 (by decide)]; exact h.pa,
  by rw [e 1 (by decide)]; exact h.c4,
  by rw [e 5 (by decide)]; exact h.lk,
  fun w a b ho => by rw [e _ (by rcases sl_in ho with q | q | q | q | q <;> rw [q] <;> decide)]; exact h.mays w a b ho,
  by rw [e 36 (by decide)]; exact h.mt,
  by rw [e 36 (by decide), e 70 (by decide), e 37 (by decide), e 71 (by decide)]; exact h.to1,
  by rw [e 36 (by decide), e 37 (by decide)]; exact h.to2,
  by rw [e 35 (by decide), e 70 (by decide)]; exact h.many,
  by rw [e 38 (by decide), e 91 (by decide)]; exact h.led,
  by rw [e 34 (by decide), h65 49 (by decide), h65 50 (by decide), e 43 (by decide), e 92 (by decide), e 40 (by decide), e 93 (by decide), e 41 (by decide), e 94 (by decide), e 42 (by decide), e 95 (by decide), e 39 (by decide)]; exact h.kept,
  by have z := h.chg; simp only [CHG] at z ⊢; rw [e 44 (by decide), e 45 (by decide), e 46 (by decide), e 47 (by decide), e 48 (by decide), e 72 (by decide), e 73 (by decide), e 74 (by decide), e 75 (by decide), h65 10 (by decide), h65 11 (by decide)]; exact z,
  ht,
  h.nb50,
  by rw [e 49 (by decide)]; exact h.cb,
  by rw [h65 55 (by decide)]; exact h.rb,
  by rw [e 96 (by decide), e 50 (by decide)]; exact h.kind,
  by rw [e 50 (by decide)]; exact h.knd8,
  by rw [e 49 (by decide), h65 57 (by decide)]; exact h.ran,
  by rw [e 97 (by decide), e 51 (by decide)]; exact h.trac,
  fun s hs => by have z := h.shl s hs; unfold SHL at z ⊢; rw [e _ (fun z => by simp only [List.mem_cons, List.not_mem_nil, or_false] at z; omega), e 98 (by decide), e 99 (by decide)]; exact z,
  h.elem⟩
theorem tape_up {c : Nat → Nat} {T a : Nat} {I I1 : Nat → Nat → Int32} (hT : TP c T) (hq : T < 120) (ha : a ≤ 255) (h1 : LTc c T I) (h2 : LTr c T I) (e5 : I1 6 5 = nI (T + 1)) (e17 : I1 65 17 = nI (T + 1)) (e7 : I1 7 = va_up (I 7) T (nI a)) (e76 : I1 76 = va_up (I 76) T ((nI a).toInt8.toInt32)) : ∃ c T, TP c T ∧ LTc c T I1 ∧ LTr c T I1 := by
  refine ⟨fun j => if j = T then a else c j, T + 1, ⟨by omega, fun j hj => ?_, fun j hj => ?_⟩, ⟨e5, fun j hj => ?_⟩, ⟨e17, fun j hj => ?_⟩⟩
  · show (if j = T then a else c j) < 256
    split
    · omega
    · exact hT.2.1 j (by omega)
  · show (if j = T then a else c j) = 256
    rw [if_neg (by omega)]
    exact hT.2.2 j (by omega)
  · show I1 7 j = nI (if j = T then a else c j)
    rw [e7]
    by_cases h : j = T
    · rw [h, p_up_s, if_pos rfl]
    · rw [p_up_n _ _ h, if_neg h]; exact h1.2 j (by omega)
  · show I1 76 j = (nI (if j = T then a else c j)).toInt8.toInt32
    rw [e76]
    by_cases h : j = T
    · rw [h, p_up_s, if_pos rfl]
    · rw [p_up_n _ _ h, if_neg h]; exact h2.2 j (by omega)
set_option maxRecDepth 20000 in
theorem stp_feed {I : Nat → Nat → Int32} {J : Nat → Nat → Int64} {p : Bool × Option Nat} {ro : List (Nat × Nat × (Nat → Int32))} {tx : List Ln} {n nb : Nat} (h : Inv tx n nb I J p) {L i : Nat} {xs : Nat → Int32} (hi : i + 6 ≤ L) (hL : L ≤ 3072) (hscr : (1002, L, xs) ∈ ro) (hro : RO ro) {Q : Option Value → pm_M → Prop}  (kont : ∀ (tx : List Ln) (n nb : Nat) (I : Nat → Nat → Int32) (J : Nat → Nat → Int64) (p : Bool × Option Nat), Inv tx n nb I J p → Px 61 0 0 CL_law 1065 [some (.ref (1002)), some (.ref (0)), some (.ref (65)), some (.int (nI i))] [] (gS, I, J, gR p, ro) Q) : Px 61 0 0 CL_law 140 [some (.ref (1002)), some (.ref (0)), some (.ref (65)), some (.int (nI i))] [] (gS, I, J, gR p, ro) Q := by
  obtain ⟨c, T, t1, t2, t3⟩ := h.tape
  refine px_aload_n (kk := 1) rfl rfl rfl ?_
  refine px_aload_n (kk := 0) rfl rfl rfl ?_
  refine px_iload_n (kk := 3) rfl rfl rfl ?_
  refine px_iconst (v := nI 1) rfl k_1 ?_
  refine px_iaddN rfl ?_
  refine px_roald (j := (i + 1)) rfl hscr rfl (by omega) ?_
  refine px_callV0 CX11_feed [] [.int _] (vX11_feed t2.1 t1.1) rfl gS_0 (by decide) rfl rfl rfl (Nat.le_of_ble_eq_true rfl) (by decide) ?_
  rintro _ _ - (⟨hn, rfl, rfl⟩ | ⟨a, ha, hx, ⟨hq, rfl, rfl⟩ | ⟨hq, rfl, rfl⟩⟩)
  · refine px_aload_n (kk := 2) rfl rfl rfl ?_
    refine px_aload_n (kk := 0) rfl rfl rfl ?_
    refine px_iload_n (kk := 3) rfl rfl rfl ?_
    refine px_iconst (v := nI 1) rfl k_1 ?_
    refine px_iaddN rfl ?_
    refine px_roald (j := (i + 1)) rfl hscr rfl (by omega) ?_
    refine px_callV0 CX12_feed [.int _] [.int _] (vX12_feed t3.1 t1.1) rfl gS_65 (by decide) rfl rfl rfl (Nat.le_of_ble_eq_true rfl) (by decide) ?_
    rintro _ _ - (⟨_, rfl, rfl⟩ | ⟨a2, ha2, hx2, ⟨_, _, _⟩ | ⟨_, _, _⟩⟩)
    · have heq : (-1 : Int32) = -1 := rfl
      refine px_icmp_eq rfl (fun c154 => ?_) (fun hZ => absurd (heq) hZ)
      exact kont _ _ _ _ _ _ h
    · exact absurd ⟨a2, ha2, hx2⟩ hn
    · exact absurd ⟨a2, ha2, hx2⟩ hn
  · refine px_aload_n (kk := 2) rfl rfl rfl ?_
    refine px_aload_n (kk := 0) rfl rfl rfl ?_
    refine px_iload_n (kk := 3) rfl rfl rfl ?_
    refine px_iconst (v := nI 1) rfl k_1 ?_
    refine px_iaddN rfl ?_
    refine px_roald (j := (i + 1)) rfl hscr rfl (by omega) ?_
    refine px_callV0 CX12_feed [.int _] [.int _] (vX12_feed t3.1 t1.1) rfl gS_65 (by decide) rfl rfl rfl (Nat.le_of_ble_eq_true rfl) (by decide) ?_
    rintro _ _ - (⟨hn, _, _⟩ | ⟨a2, ha2, hx2, ⟨_, rfl, rfl⟩ | ⟨_, _, _⟩⟩)
    · exact absurd ⟨a, ha, hx⟩ hn
    · have heq : (-3 : Int32) = -3 := rfl
      refine px_icmp_eq rfl (fun c154 => ?_) (fun hZ => absurd (heq) hZ)
      exact kont _ _ _ _ _ _ h
    · omega
  · refine px_aload_n (kk := 2) rfl rfl rfl ?_
    refine px_aload_n (kk := 0) rfl rfl rfl ?_
    refine px_iload_n (kk := 3) rfl rfl rfl ?_
    refine px_iconst (v := nI 1) rfl k_1 ?_
    refine px_iaddN rfl ?_
    refine px_roald (j := (i + 1)) rfl hscr rfl (by omega) ?_
    refine px_callV0 CX12_feed [.int _] [.int _] (vX12_feed (q := T) (by rw [p_up_n _ _ (show (65 : Nat) ≠ 6 by decide), p_up_n _ _ (show (65 : Nat) ≠ 7 by decide)]; exact t3.1) t1.1) rfl gS_65 (by decide) rfl rfl rfl (Nat.le_of_ble_eq_true rfl) (by decide) ?_
    rintro _ _ - (⟨hn, _, _⟩ | ⟨a2, ha2, hx2, ⟨_, _, _⟩ | ⟨_, rfl, rfl⟩⟩)
    · exact absurd ⟨a, ha, hx⟩ hn
    · omega
    · rw [hx, n_eq (by omega) (by omega)] at hx2
      subst hx2
      have heq : nI (T + 1) = nI (T + 1) := rfl
      refine px_icmp_eq rfl (fun c154 => ?_) (fun hZ => absurd (heq) hZ)
      refine kont _ _ _ _ _ _ (Inv_feed h (fun c hc => ?_) (fun k hk => ?_) (fun k hk => ?_) (tape_up t1 hq ha t2 t3 ?_ ?_ ?_ ?_))
      · simp only [List.mem_cons, List.not_mem_nil, or_false, not_or] at hc
        rw [p_up_n _ _ hc.2.2.1, p_up_n _ _ hc.2.2.2, p_up_n _ _ hc.1, p_up_n _ _ hc.2.1]
      · rw [p_up_n _ _ (by decide), p_up_n _ _ (by decide), p_up_s, p_up_n _ _ hk]
      · rw [p_up_s, p_up_n _ _ hk, p_up_n _ _ (by decide), p_up_n _ _ (by decide)]
      · rw [p_up_n _ _ (by decide), p_up_n _ _ (by decide), p_up_s, p_up_s]
      · rw [p_up_s, p_up_s]
      · rw [p_up_n _ _ (by decide), p_up_n _ _ (by decide), p_up_n _ _ (by decide), p_up_s]
      · rw [p_up_n _ _ (by decide), p_up_s, p_up_n _ _ (by decide), p_up_n _ _ (by decide)]
theorem SHL_mo {a b : Nat} (h : a ≤ b) {I : Nat → Nat → Int32} {s : Nat} (hs : SHL a I s) : SHL b I s := ⟨by
  rcases hs.1 with q | ⟨c, hc, q⟩ | q
  · exact .inl q
  · exact .inr (.inl ⟨c, by omega, q⟩)
  · exact .inr (.inr q), hs.2⟩
theorem Inv_body {tx : List Ln} {n nb : Nat} {I I1 : Nat → Nat → Int32} {J : Nat → Nat → Int64} {p : Bool × Option Nat} (h : Inv tx n nb I J p) {K : Nat} (hK : K < 8) (hz : nb < 50) (e : ∀ c, c ∉ ([49, 50, 65, 96] : List Nat) → I1 c = I c) (h65 : ∀ k, k ≠ 55 → I1 65 k = I 65 k) (e55 : I1 65 55 = nI (nb + 1)) (e49 : I1 49 = va_up (I 49) 2 (nI (nb + 1))) (e50 : I1 50 = va_up (I 50) nb (nI K)) (e96 : I1 96 = va_up (I 96) nb (nI K)) : Inv tx n (nb + 1) I1 J p := ⟨
  LawC_mv h.lawC (fun k hk => by rw [e 6 (by decide)]) (e 9 (by decide)) (e 10 (by decide)),
  LawR_mv h.lawR (h65 29 (by decide)) (fun c hc => e c (by revert hc; revert c; decide)),
  by rw [e 1 (by decide)]; exact h.cn,
  by rw [h65 1 (by decide)]; exact h.rn,
  h.n8,
  by rw [e 66 (by decide), e 2 (by decide)]; exact h.warm,
  by rw [e 67 (by decide), e 3 (by decide)]; exact h.need,
  by rw [e 68 (by decide), e 4 (by decide)]; exact h.part,
  by rw [e 69 (by decide), e 5 (by decide)]; exact h.like,
  by rw [h65 6 (by decide), e 1 (by decide)]; exact h.cord,
  by rw [h65 7 (by decide), e 1 (by decide)]; exact h.cold,
  by rw [e 4 (by decide)]; exact h.pa,
  by rw [e 1 (by decide)]; exact h.c4,
  by rw [e 5 (by decide)]; exact h.lk,
  fun w a b ho => by rw [e _ (by rcases sl_in ho with q | q | q | q | q <;> rw [q] <;> decide)]; exact h.mays w a b ho,
  by rw [e 36 (by decide)]; exact h.mt,
  by rw [e 36 (by decide), e 70 (by decide), e 37 (by decide), e 71 (by decide)]; exact h.to1,
  by rw [e 36 (by decide), e 37 (by decide)]; exact h.to2,
  by rw [e 35 (by decide), e 70 (by decide)]; exact h.many,
  by rw [e 38 (by decide), e 91 (by decide)]; exact h.led,
  by rw [e 34 (by decide), h65 49 (by decide), h65 50 (by decide), e 43 (by decide), e 92 (by decide), e 40 (by decide), e 93 (by decide), e 41 (by decide), e 94 (by decide), e 42 (by decide), e 95 (by decide), e 39 (by decide)]; exact h.kept,
  by have z := h.chg; simp only [CHG] at z ⊢; rw [e 44 (by decide), e 45 (by decide), e 46 (by decide), e 47 (by decide), e 48 (by decide), e 72 (by decide), e 73 (by decide), e 74 (by decide), e 75 (by decide), h65 10 (by decide), h65 11 (by decide)]; exact z,
  (match h.tape with | ⟨c, T, a, b, d⟩ => ⟨c, T, a, ⟨(congrFun (e 6 (by decide)) 5).trans b.1, fun j hj => by rw [e 7 (by decide)]; exact b.2 j hj⟩, ⟨(h65 17 (by decide)).trans d.1, fun j hj => by rw [e 76 (by decide)]; exact d.2 j hj⟩⟩),
  hz,
  by rw [e49, p_up_s],
  e55,
  by rw [e50, e96, h.kind],
  fun b hb => by
    rw [e50]
    rcases Nat.lt_or_ge b nb with q | q
    · rw [p_up_n _ _ (by omega)]; exact h.knd8 b q
    · rw [show b = nb by omega, p_up_s]; exact ⟨K, hK, rfl⟩,
  (match h.ran with | ⟨q, a, b, c⟩ => ⟨q, a, by rw [e49, p_up_n _ _ (by decide)]; exact b, (h65 57 (by decide)).trans c⟩),
  by rw [e 97 (by decide), e 51 (by decide)]; exact h.trac,
  fun s hs => by have z := SHL_mo (Nat.le_succ nb) (h.shl s hs); unfold SHL at z ⊢; rw [e _ (fun z => by simp only [List.mem_cons, List.not_mem_nil, or_false] at z; omega), e 98 (by decide), e 99 (by decide)]; exact z,
  h.elem⟩
set_option maxRecDepth 20000 in
theorem stp_body {I : Nat → Nat → Int32} {J : Nat → Nat → Int64} {p : Bool × Option Nat} {ro : List (Nat × Nat × (Nat → Int32))} {tx : List Ln} {n nb : Nat} (h : Inv tx n nb I J p) {L i : Nat} {xs : Nat → Int32} (hi : i + 6 ≤ L) (hL : L ≤ 3072) (hscr : (1002, L, xs) ∈ ro) (hro : RO ro) {Q : Option Value → pm_M → Prop}  (kont : ∀ (tx : List Ln) (n nb : Nat) (I : Nat → Nat → Int32) (J : Nat → Nat → Int64) (p : Bool × Option Nat), Inv tx n nb I J p → Px 61 0 0 CL_law 1065 [some (.ref (1002)), some (.ref (0)), some (.ref (65)), some (.int (nI i))] [] (gS, I, J, gR p, ro) Q) : Px 61 0 0 CL_law 740 [some (.ref (1002)), some (.ref (0)), some (.ref (65)), some (.int (nI i))] [] (gS, I, J, gR p, ro) Q := by
  refine px_aload_n (kk := 1) rfl rfl rfl ?_
  refine px_aload_n (kk := 0) rfl rfl rfl ?_
  refine px_iload_n (kk := 3) rfl rfl rfl ?_
  refine px_iconst (v := nI 1) rfl k_1 ?_
  refine px_iaddN rfl ?_
  refine px_roald (j := (i + 1)) rfl hscr rfl (by omega) ?_
  refine px_callV0 CX11_body [] [.int _] (vX11_body h.cb h.nb50) rfl gS_0 (by decide) rfl rfl rfl (Nat.le_of_ble_eq_true rfl) (by decide) ?_
  rintro _ _ - (⟨hn, rfl, rfl⟩ | ⟨K, hK, hx, ⟨hz, rfl, rfl⟩ | ⟨hz, rfl, rfl⟩⟩)
  · refine px_aload_n (kk := 2) rfl rfl rfl ?_
    refine px_aload_n (kk := 0) rfl rfl rfl ?_
    refine px_iload_n (kk := 3) rfl rfl rfl ?_
    refine px_iconst (v := nI 1) rfl k_1 ?_
    refine px_iaddN rfl ?_
    refine px_roald (j := (i + 1)) rfl hscr rfl (by omega) ?_
    refine px_callV0 CX12_body [.int _] [.int _] (vX12_body h.rb h.nb50) rfl gS_65 (by decide) rfl rfl rfl (Nat.le_of_ble_eq_true rfl) (by decide) ?_
    rintro _ _ - (⟨_, rfl, rfl⟩ | ⟨K, hK, hx, ⟨_, _, _⟩ | ⟨_, _, _⟩⟩)
    · have heq : (-1 : Int32) = -1 := rfl
      refine px_icmp_eq rfl (fun c754 => ?_) (fun hZ => absurd (heq) hZ)
      exact kont _ _ _ _ _ _ h
    · exact absurd ⟨K, hK, hx⟩ hn
    · exact absurd ⟨K, hK, hx⟩ hn
  · refine px_aload_n (kk := 2) rfl rfl rfl ?_
    refine px_aload_n (kk := 0) rfl rfl rfl ?_
    refine px_iload_n (kk := 3) rfl rfl rfl ?_
    refine px_iconst (v := nI 1) rfl k_1 ?_
    refine px_iaddN rfl ?_
    refine px_roald (j := (i + 1)) rfl hscr rfl (by omega) ?_
    refine px_callV0 CX12_body [.int _] [.int _] (vX12_body (z := nb) (by rw [p_up_n _ _ (show (65 : Nat) ≠ 49 by decide), p_up_n _ _ (show (65 : Nat) ≠ 50 by decide)]; exact h.rb) h.nb50) rfl gS_65 (by decide) rfl rfl rfl (Nat.le_of_ble_eq_true rfl) (by decide) ?_
    rintro _ _ - (⟨hn2, _, _⟩ | ⟨K2, hK2, hx2, ⟨_, rfl, rfl⟩ | ⟨_, _, _⟩⟩)
    · exact absurd ⟨K, hK, hx⟩ hn2
    · have heq : nI nb = nI nb := rfl
      refine px_icmp_eq rfl (fun c754 => ?_) (fun hZ => absurd (heq) hZ)
      rw [hx]
      refine kont _ _ _ _ _ _ (Inv_body h hK hz (fun c hc => ?_) (fun k hk => ?_) ?_ ?_ ?_ ?_)
      · simp only [List.mem_cons, List.not_mem_nil, or_false, not_or] at hc
        rw [p_up_n _ _ hc.2.2.1, p_up_n _ _ hc.2.2.2, p_up_n _ _ hc.1, p_up_n _ _ hc.2.1]
      · rw [p_up_s, p_up_n _ _ hk, p_up_n _ _ (by decide), p_up_n _ _ (by decide)]
      · rw [p_up_s, p_up_s]
      · rw [p_up_n _ _ (by decide), p_up_n _ _ (by decide), p_up_s]
      · rw [p_up_n _ _ (by decide), p_up_n _ _ (by decide), p_up_n _ _ (by decide), p_up_s]
      · rw [p_up_n _ _ (by decide), p_up_s, p_up_n _ _ (by decide), p_up_n _ _ (by decide)]
    · omega
  · refine px_aload_n (kk := 2) rfl rfl rfl ?_
    refine px_aload_n (kk := 0) rfl rfl rfl ?_
    refine px_iload_n (kk := 3) rfl rfl rfl ?_
    refine px_iconst (v := nI 1) rfl k_1 ?_
    refine px_iaddN rfl ?_
    refine px_roald (j := (i + 1)) rfl hscr rfl (by omega) ?_
    refine px_callV0 CX12_body [.int _] [.int _] (vX12_body h.rb h.nb50) rfl gS_65 (by decide) rfl rfl rfl (Nat.le_of_ble_eq_true rfl) (by decide) ?_
    rintro _ _ - (⟨hn2, _, _⟩ | ⟨_, _, _, ⟨_, _, _⟩ | ⟨_, rfl, rfl⟩⟩)
    · exact absurd ⟨K, hK, hx⟩ hn2
    · omega
    · have heq : (-3 : Int32) = -3 := rfl
      refine px_icmp_eq rfl (fun c754 => ?_) (fun hZ => absurd (heq) hZ)
      exact kont _ _ _ _ _ _ h
