/-! image, putIn, pull -/
theorem Inv_pic {tx : List Ln} {n nb : Nat} {I I1 : Nat → Nat → Int32} {J : Nat → Nat → Int64} {p : Bool × Option Nat} (h : Inv tx n nb I J p) (e : ∀ c, c ∉ ([34, 39, 40, 41, 42, 43, 65, 92, 93, 94, 95] : List Nat) → I1 c = I c) (h65 : ∀ k, k ≠ 49 → k ≠ 50 → I1 65 k = I 65 k) (hk : (I1 34 8 = nI 0 ∧ I1 65 49 = nI 0) ∨ (I1 34 8 = nI 1 ∧ I1 65 49 = nI 1 ∧ ∃ z, z ≤ n ∧ I1 34 7 = nI z ∧ I1 65 50 = nI z ∧ (∀ l, l < z → I1 43 l = I1 92 l ∧ I1 40 l = I1 93 l ∧ I1 41 l = I1 94 l ∧ sp_may 0 (I1 43 l)) ∧ (∀ j, j < 4 → I1 42 j = I1 95 j) ∧ MT z (I1 40) ∧ (∀ l, z ≤ l → l < 8 → I1 40 l = -1 ∧ I1 41 l = nI 0) ∧ I1 39 2 = nI (sp_cn (I1 93) z))) : Inv tx n nb I1 J p := ⟨
  LawC_mv h.lawC (fun k hk => by rw [e 6 (by decide)]) (e 9 (by decide)) (e 10 (by decide)),
  LawR_mv h.lawR (h65 29 (by decide) (by decide)) (fun c hc => e c (by revert hc; revert c; decide)),
  by rw [e 1 (by decide)]; exact h.cn,
  by rw [h65 1 (by decide) (by decide)]; exact h.rn,
  h.n8,
  by rw [e 66 (by decide), e 2 (by decide)]; exact h.warm,
  by rw [e 67 (by decide), e 3 (by decide)]; exact h.need,
  by rw [e 68 (by decide), e 4 (by decide)]; exact h.part,
  by rw [e 69 (by decide), e 5 (by decide)]; exact h.like,
  by rw [h65 6 (by decide) (by decide), e 1 (by decide)]; exact h.cord,
  by rw [h65 7 (by decide) (by decide), e 1 (by decide)]; exact h.cold,
  by rw [e 4 (by decide)]; exact h.pa,
  by rw [e 1 (by decide)]; exact h.c4,
  by rw [e 5 (by decide)]; exact h.lk,
  fun w a b ho => by rw [e _ (by rcases sl_in ho with q | q | q | q | q <;> rw [q] <;> decide)]; exact h.mays w a b ho,
  by rw [e 36 (by decide)]; exact h.mt,
  by rw [e 36 (by decide), e 70 (by decide), e 37 (by decide), e 71 (by decide)]; exact h.to1,
  by rw [e 36 (by decide), e 37 (by decide)]; exact h.to2,
  by rw [e 35 (by decide), e 70 (by decide)]; exact h.many,
  by rw [e 38 (by decide), e 91 (by decide)]; exact h.led,
  hk,
  by have z := h.chg; simp only [CHG] at z ⊢; rw [e 44 (by decide), e 45 (by decide), e 46 (by decide), e 47 (by decide), e 48 (by decide), e 72 (by decide), e 73 (by decide), e 74 (by decide), e 75 (by decide), h65 10 (by decide) (by decide), h65 11 (by decide) (by decide)]; exact z,
  (match h.tape with | ⟨c, T, a, b, d⟩ => ⟨c, T, a, ⟨(congrFun (e 6 (by decide)) 5).trans b.1, fun j hj => by rw [e 7 (by decide)]; exact b.2 j hj⟩, ⟨(h65 17 (by decide) (by decide)).trans d.1, fun j hj => by rw [e 76 (by decide)]; exact d.2 j hj⟩⟩),
  h.nb50,
  by rw [e 49 (by decide)]; exact h.cb,
  by rw [h65 55 (by decide) (by decide)]; exact h.rb,
  by rw [e 96 (by decide), e 50 (by decide)]; exact h.kind,
  by rw [e 50 (by decide)]; exact h.knd8,
  by rw [e 49 (by decide), h65 57 (by decide) (by decide)]; exact h.ran,
  by rw [e 97 (by decide), e 51 (by decide)]; exact h.trac,
  fun s hs => by have z := h.shl s hs; unfold SHL at z ⊢; rw [e _ (fun z => by simp only [List.mem_cons, List.not_mem_nil, or_false] at z; omega), e 98 (by decide), e 99 (by decide)]; exact z,
  h.elem⟩
theorem pic_o (I : Nat → Nat → Int32) {c : Nat} (hc : c ∉ [34, 39, 40, 41, 42, 43]) : sp_picM I c = I c := by
  simp only [List.mem_cons, List.not_mem_nil, or_false, not_or] at hc
  unfold sp_picM
  rw [p_up_n _ _ hc.1, p_up_n _ _ hc.2.2.2.2.2, p_up_n _ _ hc.2.2.2.2.1, p_up_n _ _ hc.2.1, p_up_n _ _ hc.2.2.2.1, p_up_n _ _ hc.2.2.1]
theorem cp8_l {f g : Nat → Int32} {l : Nat} (h : l < 8) : cp8 f g l = f l := if_pos h
theorem cpy_l {f g : Nat → Int32} {l m : Nat} (h : l < m) : va_cpy f g 0 0 m l = f l := by
  unfold va_cpy
  rw [if_pos ⟨Nat.zero_le _, by omega⟩, show 0 + (l - 0) = l by omega]
theorem pic_c (I : Nat → Nat → Int32) : sp_picM I 34 = va_up (va_up (I 34) 7 (I 1 4)) 8 (nI 1) ∧ (∀ l, l < 8 → sp_picM I 40 l = I 36 l ∧ sp_picM I 41 l = I 37 l ∧ sp_picM I 43 l = I 2 l) ∧ (∀ l, l < 4 → sp_picM I 42 l = I 38 l) ∧ sp_picM I 39 2 = I 35 2 := by
  unfold sp_picM
  refine ⟨p_up_s _ _ _, fun l hl => ⟨?_, ?_, ?_⟩, fun l hl => ?_, ?_⟩
  · rw [p_up_n _ _ (by decide), p_up_n _ _ (by decide), p_up_n _ _ (by decide), p_up_n _ _ (by decide), p_up_n _ _ (by decide), p_up_s, cp8_l hl]
  · rw [p_up_n _ _ (by decide), p_up_n _ _ (by decide), p_up_n _ _ (by decide), p_up_n _ _ (by decide), p_up_s, cp8_l hl]
  · rw [p_up_n _ _ (by decide), p_up_s, cpy_l hl]
  · rw [p_up_n _ _ (by decide), p_up_n _ _ (by decide), p_up_s, cpy_l hl]
  · rw [p_up_n _ _ (by decide), p_up_n _ _ (by decide), p_up_n _ _ (by decide), p_up_s, p_up_s]
theorem MT_cg {n : Nat} {M N : Nat → Int32} (h : ∀ l, l < n → N l = M l) (hM : MT n M) : MT n N := by
  intro l hl
  rw [h l hl]
  rcases hM l hl with e | ⟨k, hk, h1, h2, h3⟩
  · exact .inl e
  · exact .inr ⟨k, hk, h1, h2, by rw [h k hk]; exact h3⟩
set_option maxRecDepth 20000 in
theorem stp_image {I : Nat → Nat → Int32} {J : Nat → Nat → Int64} {p : Bool × Option Nat} {ro : List (Nat × Nat × (Nat → Int32))} {tx : List Ln} {n nb : Nat} (h : Inv tx n nb I J p) {L i : Nat} {xs : Nat → Int32} (hi : i + 6 ≤ L) (hL : L ≤ 3072) (hscr : (1002, L, xs) ∈ ro) (hro : RO ro) {Q : Option Value → pm_M → Prop}  (kont : ∀ (tx : List Ln) (n nb : Nat) (I : Nat → Nat → Int32) (J : Nat → Nat → Int64) (p : Bool × Option Nat), Inv tx n nb I J p → Px 61 0 0 CL_law 1065 [some (.ref (1002)), some (.ref (0)), some (.ref (65)), some (.int (nI i))] [] (gS, I, J, gR p, ro) Q) : Px 61 0 0 CL_law 712 [some (.ref (1002)), some (.ref (0)), some (.ref (65)), some (.int (nI i))] [] (gS, I, J, gR p, ro) Q := by
  refine px_aload_n (kk := 1) rfl rfl rfl ?_
  refine px_callV0 CX11_image [] [] (vX11_image) rfl gS_0 (by decide) rfl rfl rfl (Nat.le_of_ble_eq_true rfl) (by decide) ?_
  rintro _ _ - ⟨rfl, rfl⟩
  have hpc := pic_c I
  refine px_aload_n (kk := 2) rfl rfl rfl ?_
  refine px_callV0 CX12_image [.int _] [] (vX12_image (n := n) (by rw [pic_o I (c := 65) (by decide)]; exact h.rn) h.n8) rfl gS_65 (by decide) rfl rfl rfl (Nat.le_of_ble_eq_true rfl) (by decide) ?_
  rintro _ _ - ⟨rfl, I2, rfl, hF, e65, ex, e95⟩
  have heq : I 38 0 = sp_picM I 91 0 := by rw [pic_o I (c := 91) (by decide)]; exact h.led 0 (by decide)
  refine px_icmp_eq rfl (fun c716 => ?_) (fun hZ => absurd (heq) hZ)
  have hn8 := h.n8
  refine kont _ _ _ _ _ _ (Inv_pic h (fun c hc => ?_) (fun k h1 h2 => ?_) (.inr ⟨?_, ?_, n, Nat.le_refl _, ?_, ?_, fun l hl => ?_, fun j hj => ?_, ?_, fun l h1 h2 => ?_, ?_⟩))
  · rw [hF c (by revert hc; simp only [List.mem_cons, List.not_mem_nil, or_false]; omega)]
    exact pic_o I (by revert hc; simp only [List.mem_cons, List.not_mem_nil, or_false]; omega)
  · rw [e65, p_up_n _ _ h2, p_up_n _ _ h1, pic_o I (c := 65) (by decide)]
  · rw [hF 34 (by decide), hpc.1, p_up_s]
  · rw [e65, p_up_n _ _ (by decide), p_up_s]
  · rw [hF 34 (by decide), hpc.1, p_up_n _ _ (by decide), p_up_s]; exact h.cn
  · rw [e65, p_up_s]
  · have z := ex l hl
    have z2 := hpc.2.1 l (by omega)
    rw [hF 43 (by decide), hF 40 (by decide), hF 41 (by decide), z.1, z.2.1, z.2.2, z2.1, z2.2.1, z2.2.2, pic_o I (c := 66) (by decide), pic_o I (c := 70) (by decide), pic_o I (c := 71) (by decide), h.warm]
    exact ⟨rfl, (h.to1 l hl).1, (h.to1 l hl).2, h.mays 0 l 0 ⟨by decide, fun _ => hl, fun z => absurd z (by decide)⟩⟩
  · rw [e95 j hj, hF 42 (by decide), hpc.2.2.1 j hj, pic_o I (c := 91) (by decide)]; exact h.led j hj
  · rw [hF 40 (by decide)]; exact MT_cg (fun l hl => (hpc.2.1 l (by omega)).1) h.mt
  · rw [hF 40 (by decide), hF 41 (by decide), (hpc.2.1 l h2).1, (hpc.2.1 l h2).2.1]; exact h.to2 l h1 h2
  · rw [hF 39 (by decide), hpc.2.2.2, h.many]
    exact congrArg nI (sp_cn_congr (fun l hl => by rw [(ex l hl).2.1, pic_o I (c := 70) (by decide)]))
theorem Inv_tie {tx : List Ln} {n nb : Nat} {I I1 : Nat → Nat → Int32} {J : Nat → Nat → Int64} {p : Bool × Option Nat} (h : Inv tx n nb I J p) (e : ∀ c, c ∉ ([35, 36, 37, 38, 70, 71, 91] : List Nat) → I1 c = I c) (hmt : MT n (I1 36)) (ht1 : ∀ l, l < n → I1 36 l = I1 70 l ∧ I1 37 l = I1 71 l) (ht2 : ∀ l, n ≤ l → l < 8 → I1 36 l = -1 ∧ I1 37 l = nI 0) (hmn : I1 35 2 = nI (sp_cn (I1 70) n)) (hld : ∀ j, j < 4 → I1 38 j = I1 91 j) : Inv tx n nb I1 J p := ⟨
  LawC_mv h.lawC (fun k hk => by rw [e 6 (by decide)]) (e 9 (by decide)) (e 10 (by decide)),
  LawR_mv h.lawR (by rw [e 65 (by decide)]) (fun c hc => e c (by revert hc; revert c; decide)),
  by rw [e 1 (by decide)]; exact h.cn,
  by rw [e 65 (by decide)]; exact h.rn,
  h.n8,
  by rw [e 66 (by decide), e 2 (by decide)]; exact h.warm,
  by rw [e 67 (by decide), e 3 (by decide)]; exact h.need,
  by rw [e 68 (by decide), e 4 (by decide)]; exact h.part,
  by rw [e 69 (by decide), e 5 (by decide)]; exact h.like,
  by rw [e 65 (by decide), e 1 (by decide)]; exact h.cord,
  by rw [e 65 (by decide), e 1 (by decide)]; exact h.cold,
  by rw [e 4 (by decide)]; exact h.pa,
  by rw [e 1 (by decide)]; exact h.c4,
  by rw [e 5 (by decide)]; exact h.lk,
  fun w a b ho => by rw [e _ (by rcases sl_in ho with q | q | q | q | q <;> rw [q] <;> decide)]; exact h.mays w a b ho,
  hmt,
  ht1,
  ht2,
  hmn,
  hld,
  by rw [e 34 (by decide), e 65 (by decide), e 43 (by decide), e 92 (by decide), e 40 (by decide), e 93 (by decide), e 41 (by decide), e 94 (by decide), e 42 (by decide), e 95 (by decide), e 39 (by decide)]; exact h.kept,
  by have z := h.chg; simp only [CHG] at z ⊢; rw [e 44 (by decide), e 45 (by decide), e 46 (by decide), e 47 (by decide), e 48 (by decide), e 72 (by decide), e 73 (by decide), e 74 (by decide), e 75 (by decide), e 65 (by decide)]; exact z,
  (match h.tape with | ⟨c, T, a, b, d⟩ => ⟨c, T, a, ⟨(congrFun (e 6 (by decide)) 5).trans b.1, fun j hj => by rw [e 7 (by decide)]; exact b.2 j hj⟩, ⟨(congrFun (e 65 (by decide)) 17).trans d.1, fun j hj => by rw [e 76 (by decide)]; exact d.2 j hj⟩⟩),
  h.nb50,
  by rw [e 49 (by decide)]; exact h.cb,
  by rw [e 65 (by decide)]; exact h.rb,
  by rw [e 96 (by decide), e 50 (by decide)]; exact h.kind,
  by rw [e 50 (by decide)]; exact h.knd8,
  by rw [e 49 (by decide), e 65 (by decide)]; exact h.ran,
  by rw [e 97 (by decide), e 51 (by decide)]; exact h.trac,
  fun s hs => by have z := h.shl s hs; unfold SHL at z ⊢; rw [e _ (fun z => by simp only [List.mem_cons, List.not_mem_nil, or_false] at z; omega), e 98 (by decide), e 99 (by decide)]; exact z,
  h.elem⟩
theorem two_eq {x n a b c d : Nat} {w : Int32} (hn : n ≤ 8) (h1 : a < n) (h2 : b < n) (h3 : c < n) (h4 : d < n) (e : w = nI (10 * a + b)) (f : w = nI (10 * c + d)) : a = c ∧ b = d := by
  rw [e, n_eq (by omega) (by omega)] at f
  omega
theorem joi_o (I : Nat → Nat → Int32) (a b : Nat) {c : Nat} (hc : c ∉ [35, 36, 37, 38]) : sp_joinM I a b c = I c := by
  simp only [List.mem_cons, List.not_mem_nil, or_false, not_or] at hc
  unfold sp_joinM
  rw [p_up_n _ _ hc.2.2.2, p_up_n _ _ hc.1, p_up_n _ _ hc.2.2.1, p_up_n _ _ hc.2.1]
theorem rj_o (I : Nat → Nat → Int32) (a b : Nat) {c : Nat} (hc : c ∉ [70, 71, 91]) : rf_joinM I a b c = I c := by
  simp only [List.mem_cons, List.not_mem_nil, or_false, not_or] at hc
  unfold rf_joinM
  rw [p_up_n _ _ hc.2.2, p_up_n _ _ hc.2.1, p_up_n _ _ hc.1]
theorem joi_c (I : Nat → Nat → Int32) (a b : Nat) : sp_joinM I a b 36 = va_up (va_up (I 36) a (nI b)) b (nI a) ∧ sp_joinM I a b 37 = va_up (va_up (I 37) a (nI 0)) b (nI 0) ∧ sp_joinM I a b 35 = va_up (I 35) 2 (I 35 2 + nI 1) ∧ sp_joinM I a b 38 = va_up (I 38) 1 (I 38 1 + nI 1) := by
  unfold sp_joinM
  refine ⟨?_, ?_, ?_, ?_⟩
  · rw [p_up_n _ _ (by decide), p_up_n _ _ (by decide), p_up_n _ _ (by decide), p_up_s]
  · rw [p_up_n _ _ (by decide), p_up_n _ _ (by decide), p_up_s]
  · rw [p_up_n _ _ (by decide), p_up_s]
  · rw [p_up_s]
theorem rj_c (I : Nat → Nat → Int32) (a b : Nat) : rf_joinM I a b 70 = va_up (va_up (I 70) a (nI b)) b (nI a) ∧ rf_joinM I a b 71 = va_up (va_up (I 71) a (nI 0)) b (nI 0) ∧ rf_joinM I a b 91 = va_up (I 91) 1 (I 91 1 + nI 1) := by
  unfold rf_joinM
  refine ⟨?_, ?_, ?_⟩
  · rw [p_up_n _ _ (by decide), p_up_n _ _ (by decide), p_up_s]
  · rw [p_up_n _ _ (by decide), p_up_s]
  · rw [p_up_s]
theorem up2_cg {f g : Nat → Int32} {a b l : Nat} {x y : Int32} (h : f l = g l) : va_up (va_up f a x) b y l = va_up (va_up g a x) b y l := by
  by_cases e : l = b
  · rw [e, p_up_s, p_up_s]
  · rw [p_up_n _ _ e, p_up_n _ _ e]
    by_cases e2 : l = a
    · rw [e2, p_up_s, p_up_s]
    · rw [p_up_n _ _ e2, p_up_n _ _ e2]; exact h
theorem up2_no {f : Nat → Int32} {a b l : Nat} {x y : Int32} (ha : l ≠ a) (hb : l ≠ b) : va_up (va_up f a x) b y l = f l := by rw [p_up_n _ _ hb, p_up_n _ _ ha]
set_option maxRecDepth 20000 in
theorem stp_putIn {I : Nat → Nat → Int32} {J : Nat → Nat → Int64} {p : Bool × Option Nat} {ro : List (Nat × Nat × (Nat → Int32))} {tx : List Ln} {n nb : Nat} (h : Inv tx n nb I J p) {L i : Nat} {xs : Nat → Int32} (hi : i + 6 ≤ L) (hL : L ≤ 3072) (hscr : (1002, L, xs) ∈ ro) (hro : RO ro) {Q : Option Value → pm_M → Prop}  (kont : ∀ (tx : List Ln) (n nb : Nat) (I : Nat → Nat → Int32) (J : Nat → Nat → Int64) (p : Bool × Option Nat), Inv tx n nb I J p → Px 61 0 0 CL_law 1065 [some (.ref (1002)), some (.ref (0)), some (.ref (65)), some (.int (nI i))] [] (gS, I, J, gR p, ro) Q) : Px 61 0 0 CL_law 654 [some (.ref (1002)), some (.ref (0)), some (.ref (65)), some (.int (nI i))] [] (gS, I, J, gR p, ro) Q := by
  refine px_aload_n (kk := 1) rfl rfl rfl ?_
  refine px_aload_n (kk := 0) rfl rfl rfl ?_
  refine px_iload_n (kk := 3) rfl rfl rfl ?_
  refine px_iconst (v := nI 1) rfl k_1 ?_
  refine px_iaddN rfl ?_
  refine px_roald (j := (i + 1)) rfl hscr rfl (by omega) ?_
  refine px_callV0 CX11_putIn [] [.int _] (vX11_putIn h.cn h.n8) rfl gS_0 (by decide) rfl rfl rfl (Nat.le_of_ble_eq_true rfl) (by decide) ?_
  rintro _ _ - (⟨hn, rfl, rfl⟩ | ⟨a, b, ha, hb, hne, hx, ⟨hg, rfl, rfl⟩ | ⟨hg, rfl, rfl⟩⟩)
  · refine px_aload_n (kk := 2) rfl rfl rfl ?_
    refine px_aload_n (kk := 0) rfl rfl rfl ?_
    refine px_iload_n (kk := 3) rfl rfl rfl ?_
    refine px_iconst (v := nI 1) rfl k_1 ?_
    refine px_iaddN rfl ?_
    refine px_roald (j := (i + 1)) rfl hscr rfl (by omega) ?_
    refine px_callV0 CX12_putIn [.int _] [.int _] (vX12_putIn h.rn h.n8 (MT_congr h.to1 h.mt)) rfl gS_65 (by decide) rfl rfl rfl (Nat.le_of_ble_eq_true rfl) (by decide) ?_
    rintro _ _ - (⟨hn2, rfl, rfl⟩ | ⟨a2, b2, ha2, hb2, hne2, hx2, ⟨hg2, rfl, rfl⟩ | ⟨hg2, rfl, rfl⟩⟩)
    · have heq : (-1 : Int32) = -1 := rfl
      refine px_icmp_eq rfl (fun c668 => ?_) (fun hZ => absurd (heq) hZ)
      exact kont _ _ _ _ _ _ h
    · exact absurd ⟨a2, b2, ha2, hb2, hne2, hx2⟩ hn
    · exact absurd ⟨a2, b2, ha2, hb2, hne2, hx2⟩ hn
  · have h70 : ∀ l, l < n → sp_joinM I a b 70 l = I 36 l := fun l hl => by rw [joi_o I a b (by decide)]; exact (h.to1 l hl).1.symm
    refine px_aload_n (kk := 2) rfl rfl rfl ?_
    refine px_aload_n (kk := 0) rfl rfl rfl ?_
    refine px_iload_n (kk := 3) rfl rfl rfl ?_
    refine px_iconst (v := nI 1) rfl k_1 ?_
    refine px_iaddN rfl ?_
    refine px_roald (j := (i + 1)) rfl hscr rfl (by omega) ?_
    refine px_callV0 CX12_putIn [.int _] [.int _] (vX12_putIn (I := sp_joinM I a b) (by rw [joi_o I a b (by decide)]; exact h.rn) h.n8 (MT_cg h70 h.mt)) rfl gS_65 (by decide) rfl rfl rfl (Nat.le_of_ble_eq_true rfl) (by decide) ?_
    rintro _ _ - (⟨hn2, rfl, rfl⟩ | ⟨a2, b2, ha2, hb2, hne2, hx2, ⟨hg2, rfl, rfl⟩ | ⟨hg2, rfl, rfl⟩⟩)
    · exact absurd ⟨a, b, ha, hb, hne, hx⟩ hn2
    · have hn8 := h.n8
      obtain ⟨rfl, rfl⟩ := two_eq (x := 0) hn8 ha hb ha2 hb2 hx hx2
      have heq : I 35 2 + nI 1 = nI (sp_cn (sp_joinM I a b 70) n + 1) := by
        rw [joi_o I a b (by decide), h.many, nI_add]
      refine px_icmp_eq rfl (fun c668 => ?_) (fun hZ => absurd (heq) hZ)
      have hn8 := h.n8
      have hjc := joi_c I a b
      have hrc := rj_c (sp_joinM I a b) a b
      refine kont _ _ _ _ _ _ (Inv_tie h (fun c hc => ?_) ?_ (fun l hl => ⟨?_, ?_⟩) (fun l h1 h2 => ⟨?_, ?_⟩) ?_ (fun j hj => ?_))
      · rw [rj_o _ _ _ (by revert hc; simp only [List.mem_cons, List.not_mem_nil, or_false]; omega)]
        exact joi_o I a b (by revert hc; simp only [List.mem_cons, List.not_mem_nil, or_false]; omega)
      · rw [rj_o (sp_joinM I a b) a b (c := 36) (by decide), hjc.1]; exact MT_tie h.mt ha hb hne hg.1 hg.2.1 hn8
      · rw [rj_o (sp_joinM I a b) a b (c := 36) (by decide), hjc.1, hrc.1]; exact up2_cg (h70 l hl).symm
      · rw [rj_o (sp_joinM I a b) a b (c := 37) (by decide), hjc.2.1, hrc.2.1]; exact up2_cg (by rw [joi_o I a b (by decide)]; exact (h.to1 l hl).2)
      · rw [rj_o (sp_joinM I a b) a b (c := 36) (by decide), hjc.1, up2_no (by omega) (by omega)]; exact (h.to2 l h1 h2).1
      · rw [rj_o (sp_joinM I a b) a b (c := 37) (by decide), hjc.2.1, up2_no (by omega) (by omega)]; exact (h.to2 l h1 h2).2
      · rw [rj_o (sp_joinM I a b) a b (c := 35) (by decide), hjc.2.2.1, p_up_s, hrc.1, sp_cn_tie hn8 ha hb hne ((h70 a ha).trans hg.1) ((h70 b hb).trans hg.2.1), joi_o I a b (c := 70) (by decide), h.many, nI_add]
      · rw [rj_o (sp_joinM I a b) a b (c := 38) (by decide), hjc.2.2.2, hrc.2.2, joi_o I a b (c := 91) (by decide)]
        by_cases e : j = 1
        · rw [e, p_up_s, p_up_s, h.led 1 (by decide)]
        · rw [p_up_n _ _ e, p_up_n _ _ e]; exact h.led j hj
    · have hn8 := h.n8
      obtain ⟨rfl, rfl⟩ := two_eq (x := 0) hn8 ha hb ha2 hb2 hx hx2
      exact absurd ⟨(h70 a ha).trans hg.1, (h70 b hb).trans hg.2.1, by rw [joi_o I a b (c := 70) (by decide), joi_o I a b (c := 65) (by decide), ← h.many, h.cord]; exact hg.2.2⟩ hg2
  · refine px_aload_n (kk := 2) rfl rfl rfl ?_
    refine px_aload_n (kk := 0) rfl rfl rfl ?_
    refine px_iload_n (kk := 3) rfl rfl rfl ?_
    refine px_iconst (v := nI 1) rfl k_1 ?_
    refine px_iaddN rfl ?_
    refine px_roald (j := (i + 1)) rfl hscr rfl (by omega) ?_
    refine px_callV0 CX12_putIn [.int _] [.int _] (vX12_putIn h.rn h.n8 (MT_congr h.to1 h.mt)) rfl gS_65 (by decide) rfl rfl rfl (Nat.le_of_ble_eq_true rfl) (by decide) ?_
    rintro _ _ - (⟨hn2, rfl, rfl⟩ | ⟨a2, b2, ha2, hb2, hne2, hx2, ⟨hg2, rfl, rfl⟩ | ⟨hg2, rfl, rfl⟩⟩)
    · exact absurd ⟨a, b, ha, hb, hne, hx⟩ hn2
    · have hn8 := h.n8
      obtain ⟨rfl, rfl⟩ := two_eq (x := 0) hn8 ha hb ha2 hb2 hx hx2
      exact absurd ⟨by rw [(h.to1 a ha).1]; exact hg2.1, by rw [(h.to1 b hb).1]; exact hg2.2.1, by rw [h.many, ← h.cord]; exact hg2.2.2⟩ hg
    · have heq : (-5 : Int32) = -5 := rfl
      refine px_icmp_eq rfl (fun c668 => ?_) (fun hZ => absurd (heq) hZ)
      exact kont _ _ _ _ _ _ h
theorem prt_o (I : Nat → Nat → Int32) (a b : Nat) {c : Nat} (hc : c ∉ [35, 36, 37, 38]) : sp_partM I a b c = I c := by
  simp only [List.mem_cons, List.not_mem_nil, or_false, not_or] at hc
  unfold sp_partM
  rw [p_up_n _ _ hc.2.2.2, p_up_n _ _ hc.1, p_up_n _ _ hc.2.2.1, p_up_n _ _ hc.2.1]
theorem rp_o (I : Nat → Nat → Int32) (a b : Nat) {c : Nat} (hc : c ∉ [70, 71, 91]) : rf_partM I a b c = I c := by
  simp only [List.mem_cons, List.not_mem_nil, or_false, not_or] at hc
  unfold rf_partM
  rw [p_up_n _ _ hc.2.2, p_up_n _ _ hc.2.1, p_up_n _ _ hc.1]
theorem prt_c (I : Nat → Nat → Int32) (a b : Nat) : sp_partM I a b 36 = va_up (va_up (I 36) a (-1)) b (-1) ∧ sp_partM I a b 37 = va_up (va_up (I 37) a (nI 0)) b (nI 0) ∧ sp_partM I a b 35 = va_up (I 35) 2 (I 35 2 - nI 1) ∧ sp_partM I a b 38 = va_up (I 38) 2 (I 38 2 + nI 1) := by
  unfold sp_partM
  refine ⟨?_, ?_, ?_, ?_⟩
  · rw [p_up_n _ _ (by decide), p_up_n _ _ (by decide), p_up_n _ _ (by decide), p_up_s]
  · rw [p_up_n _ _ (by decide), p_up_n _ _ (by decide), p_up_s]
  · rw [p_up_n _ _ (by decide), p_up_s]
  · rw [p_up_s]
theorem rp_c (I : Nat → Nat → Int32) (a b : Nat) : rf_partM I a b 70 = va_up (va_up (I 70) a (-1)) b (-1) ∧ rf_partM I a b 71 = va_up (va_up (I 71) a (nI 0)) b (nI 0) ∧ rf_partM I a b 91 = va_up (I 91) 2 (I 91 2 + nI 1) := by
  unfold rf_partM
  refine ⟨?_, ?_, ?_⟩
  · rw [p_up_n _ _ (by decide), p_up_n _ _ (by decide), p_up_s]
  · rw [p_up_n _ _ (by decide), p_up_s]
  · rw [p_up_s]
theorem MT_cut {n a b : Nat} (hn : n ≤ 8) {M : Nat → Int32} (h : MT n M) (ha : a < n) (hb : b < n) (hne : a ≠ b) (e : M a = nI b) : MT n (va_up (va_up M a (-1)) b (-1)) := by
  have hba : M b = nI a := by
    rcases h a ha with z | ⟨k, hk, h1, h2, h3⟩
    · rw [z] at e; exact absurd e.symm (nI_nm (by omega))
    · rw [h2, n_eq (by omega) (by omega)] at e
      subst e; exact h3
  intro l hl
  by_cases e1 : l = b
  · left; rw [e1, p_up_s]
  · by_cases e2 : l = a
    · left; rw [p_up_n _ _ e1, e2, p_up_s]
    · rw [up2_no e2 e1]
      rcases h l hl with z | ⟨k, hk, h1, h2, h3⟩
      · exact .inl z
      · refine .inr ⟨k, hk, h1, h2, ?_⟩
        have ka : k ≠ a := fun z => by
          rw [z, e, n_eq (by omega) (by omega)] at h3; omega
        have kb : k ≠ b := fun z => by
          rw [z, hba, n_eq (by omega) (by omega)] at h3; omega
        rw [up2_no ka kb]; exact h3
theorem MT_back {n a b : Nat} (hn : n ≤ 8) {M : Nat → Int32} (h : MT n M) (ha : a < n) (hb : b < n) (e : M a = nI b) : M b = nI a := by
  rcases h a ha with z | ⟨k, hk, h1, h2, h3⟩
  · rw [z] at e; exact absurd e.symm (nI_nm (by omega))
  · rw [h2, n_eq (by omega) (by omega)] at e
    subst e; exact h3
theorem sp_cn_cut {n a b : Nat} (hn : n ≤ 8) {M : Nat → Int32} (h : MT n M) (ha : a < n) (hb : b < n) (hne : a ≠ b) (e : M a = nI b) : sp_cn (va_up (va_up M a (-1)) b (-1)) n + 1 = sp_cn M n := by
  have hba := MT_back hn h ha hb e
  have hN := MT_cut hn h ha hb hne e
  have z := sp_cn_tie hn (M := va_up (va_up M a (-1)) b (-1)) ha hb hne (by rw [p_up_n _ _ hne, p_up_s]) (by rw [p_up_s])
  rw [← z]
  refine sp_cn_congr (fun l hl => ?_)
  by_cases e1 : l = b
  · rw [e1, p_up_s, hba]
  · by_cases e2 : l = a
    · rw [p_up_n _ _ e1, e2, p_up_s, e]
    · rw [up2_no e2 e1, up2_no e2 e1]
set_option maxRecDepth 20000 in
theorem stp_pull {I : Nat → Nat → Int32} {J : Nat → Nat → Int64} {p : Bool × Option Nat} {ro : List (Nat × Nat × (Nat → Int32))} {tx : List Ln} {n nb : Nat} (h : Inv tx n nb I J p) {L i : Nat} {xs : Nat → Int32} (hi : i + 6 ≤ L) (hL : L ≤ 3072) (hscr : (1002, L, xs) ∈ ro) (hro : RO ro) {Q : Option Value → pm_M → Prop}  (kont : ∀ (tx : List Ln) (n nb : Nat) (I : Nat → Nat → Int32) (J : Nat → Nat → Int64) (p : Bool × Option Nat), Inv tx n nb I J p → Px 61 0 0 CL_law 1065 [some (.ref (1002)), some (.ref (0)), some (.ref (65)), some (.int (nI i))] [] (gS, I, J, gR p, ro) Q) : Px 61 0 0 CL_law 671 [some (.ref (1002)), some (.ref (0)), some (.ref (65)), some (.int (nI i))] [] (gS, I, J, gR p, ro) Q := by
  refine px_aload_n (kk := 1) rfl rfl rfl ?_
  refine px_aload_n (kk := 0) rfl rfl rfl ?_
  refine px_iload_n (kk := 3) rfl rfl rfl ?_
  refine px_iconst (v := nI 1) rfl k_1 ?_
  refine px_iaddN rfl ?_
  refine px_roald (j := (i + 1)) rfl hscr rfl (by omega) ?_
  refine px_callV0 CX11_pull [] [.int _] (vX11_pull h.cn h.n8) rfl gS_0 (by decide) rfl rfl rfl (Nat.le_of_ble_eq_true rfl) (by decide) ?_
  rintro _ _ - (⟨hn, rfl, rfl⟩ | ⟨a, b, ha, hb, hne, hx, ⟨hg, rfl, rfl⟩ | ⟨hg, rfl, rfl⟩⟩)
  · refine px_aload_n (kk := 2) rfl rfl rfl ?_
    refine px_aload_n (kk := 0) rfl rfl rfl ?_
    refine px_iload_n (kk := 3) rfl rfl rfl ?_
    refine px_iconst (v := nI 1) rfl k_1 ?_
    refine px_iaddN rfl ?_
    refine px_roald (j := (i + 1)) rfl hscr rfl (by omega) ?_
    refine px_callV0 CX12_pull [.int _] [.int _] (vX12_pull h.rn h.n8) rfl gS_65 (by decide) rfl rfl rfl (Nat.le_of_ble_eq_true rfl) (by decide) ?_
    rintro _ _ - (⟨hn2, rfl, rfl⟩ | ⟨a2, b2, ha2, hb2, hne2, hx2, ⟨hg2, rfl, rfl⟩ | ⟨hg2, rfl, rfl⟩⟩)
    · have heq : (-1 : Int32) = -1 := rfl
      refine px_icmp_eq rfl (fun c685 => ?_) (fun hZ => absurd (heq) hZ)
      exact kont _ _ _ _ _ _ h
    · exact absurd ⟨a2, b2, ha2, hb2, hne2, hx2⟩ hn
    · exact absurd ⟨a2, b2, ha2, hb2, hne2, hx2⟩ hn
  · have h70 : ∀ l, l < n → sp_partM I a b 70 l = I 36 l := fun l hl => by rw [prt_o I a b (by decide)]; exact (h.to1 l hl).1.symm
    refine px_aload_n (kk := 2) rfl rfl rfl ?_
    refine px_aload_n (kk := 0) rfl rfl rfl ?_
    refine px_iload_n (kk := 3) rfl rfl rfl ?_
    refine px_iconst (v := nI 1) rfl k_1 ?_
    refine px_iaddN rfl ?_
    refine px_roald (j := (i + 1)) rfl hscr rfl (by omega) ?_
    refine px_callV0 CX12_pull [.int _] [.int _] (vX12_pull (I := sp_partM I a b) (n := n) (by rw [prt_o I a b (by decide)]; exact h.rn) h.n8) rfl gS_65 (by decide) rfl rfl rfl (Nat.le_of_ble_eq_true rfl) (by decide) ?_
    rintro _ _ - (⟨hn2, rfl, rfl⟩ | ⟨a2, b2, ha2, hb2, hne2, hx2, ⟨hg2, rfl, rfl⟩ | ⟨hg2, rfl, rfl⟩⟩)
    · exact absurd ⟨a, b, ha, hb, hne, hx⟩ hn2
    · have hn8 := h.n8
      obtain ⟨rfl, rfl⟩ := two_eq (x := 0) hn8 ha hb ha2 hb2 hx hx2
      have heq : I 37 a = sp_partM I a b 71 a := by
        rw [prt_o I a b (by decide)]; exact (h.to1 a ha).2
      refine px_icmp_eq rfl (fun c685 => ?_) (fun hZ => absurd (heq) hZ)
      have hn8 := h.n8
      have hjc := prt_c I a b
      have hrc := rp_c (sp_partM I a b) a b
      have hcc := sp_cn_cut hn8 (MT_cg h70 h.mt) ha hb hne ((h70 a ha).trans hg)
      refine kont _ _ _ _ _ _ (Inv_tie h (fun c hc => ?_) ?_ (fun l hl => ⟨?_, ?_⟩) (fun l h1 h2 => ⟨?_, ?_⟩) ?_ (fun j hj => ?_))
      · rw [rp_o _ _ _ (by revert hc; simp only [List.mem_cons, List.not_mem_nil, or_false]; omega)]
        exact prt_o I a b (by revert hc; simp only [List.mem_cons, List.not_mem_nil, or_false]; omega)
      · rw [rp_o (sp_partM I a b) a b (c := 36) (by decide), hjc.1]; exact MT_cut hn8 h.mt ha hb hne hg
      · rw [rp_o (sp_partM I a b) a b (c := 36) (by decide), hjc.1, hrc.1]; exact up2_cg (h70 l hl).symm
      · rw [rp_o (sp_partM I a b) a b (c := 37) (by decide), hjc.2.1, hrc.2.1]; exact up2_cg (by rw [prt_o I a b (by decide)]; exact (h.to1 l hl).2)
      · rw [rp_o (sp_partM I a b) a b (c := 36) (by decide), hjc.1, up2_no (by omega) (by omega)]; exact (h.to2 l h1 h2).1
      · rw [rp_o (sp_partM I a b) a b (c := 37) (by decide), hjc.2.1, up2_no (by omega) (by omega)]; exact (h.to2 l h1 h2).2
      · rw [rp_o (sp_partM I a b) a b (c := 35) (by decide), hjc.2.2.1, p_up_s, hrc.1, h.many, ← prt_o I a b (c := 70) (by decide), ← hcc]; exact nI_pred _
      · rw [rp_o (sp_partM I a b) a b (c := 38) (by decide), hjc.2.2.2, hrc.2.2, prt_o I a b (c := 91) (by decide)]
        by_cases e : j = 2
        · rw [e, p_up_s, p_up_s, h.led 2 (by decide)]
        · rw [p_up_n _ _ e, p_up_n _ _ e]; exact h.led j hj
    · have hn8 := h.n8
      obtain ⟨rfl, rfl⟩ := two_eq (x := 0) hn8 ha hb ha2 hb2 hx hx2
      exact absurd ((h70 a ha).trans hg) hg2
  · refine px_aload_n (kk := 2) rfl rfl rfl ?_
    refine px_aload_n (kk := 0) rfl rfl rfl ?_
    refine px_iload_n (kk := 3) rfl rfl rfl ?_
    refine px_iconst (v := nI 1) rfl k_1 ?_
    refine px_iaddN rfl ?_
    refine px_roald (j := (i + 1)) rfl hscr rfl (by omega) ?_
    refine px_callV0 CX12_pull [.int _] [.int _] (vX12_pull h.rn h.n8) rfl gS_65 (by decide) rfl rfl rfl (Nat.le_of_ble_eq_true rfl) (by decide) ?_
    rintro _ _ - (⟨hn2, rfl, rfl⟩ | ⟨a2, b2, ha2, hb2, hne2, hx2, ⟨hg2, rfl, rfl⟩ | ⟨hg2, rfl, rfl⟩⟩)
    · exact absurd ⟨a, b, ha, hb, hne, hx⟩ hn2
    · have hn8 := h.n8
      obtain ⟨rfl, rfl⟩ := two_eq (x := 0) hn8 ha hb ha2 hb2 hx hx2
      exact absurd ((h.to1 a ha).1.trans hg2) hg
    · have heq : (-5 : Int32) = -5 := rfl
      refine px_icmp_eq rfl (fun c685 => ?_) (fun hZ => absurd (heq) hZ)
      exact kont _ _ _ _ _ _ h
