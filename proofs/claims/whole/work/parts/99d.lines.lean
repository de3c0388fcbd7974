/-! lines -/
theorem Inv_lns {tx : List Ln} {n nb : Nat} {I I1 : Nat → Nat → Int32} {J : Nat → Nat → Int64} {p : Bool × Option Nat} {m : Nat} {A B C : Nat → Int32} (h : Inv tx n nb I J p) (hnm : n ≤ m) (hm8 : m ≤ 8) (e : ∀ c, c ∉ ([1, 2, 3, 4, 65, 66, 67, 68, 70, 71] : List Nat) → I1 c = I c) (e14 : I1 1 4 = nI m) (e15 : ∀ k, k ≠ 4 → I1 1 k = I 1 k) (e2 : I1 2 = A) (e3 : I1 3 = B) (e4 : I1 4 = C) (h65 : ∀ k, k ≠ 1 → I1 65 k = I 65 k) (e651 : I1 65 1 = nI m) (e66 : I1 66 = A) (e67 : I1 67 = B) (e68 : I1 68 = C) (ht : ∀ l, l < m → (l < n → I1 70 l = I 70 l ∧ I1 71 l = I 71 l) ∧ (n ≤ l → I1 70 l = -1 ∧ I1 71 l = nI 0)) (hmy : ∀ w a b, okN m w a b → sp_may w (I1 (sl w a b).1 (sl w a b).2)) : Inv tx m nb I1 J p := ⟨
  LawC_mv h.lawC (fun k hk => by rw [e 6 (by decide)]) (e 9 (by decide)) (e 10 (by decide)),
  LawR_mv h.lawR (h65 29 (by decide)) (fun c hc => e c (by revert hc; revert c; decide)),
  e14,
  e651,
  hm8,
  by rw [e66, e2],
  by rw [e67, e3],
  by rw [e68, e4],
  by rw [e 69 (by decide), e 5 (by decide)]; exact h.like,
  (h65 6 (by decide)).trans (h.cord.trans (e15 5 (by decide)).symm),
  (h65 7 (by decide)).trans (h.cold.trans (e15 6 (by decide)).symm),
  fun l hl => may_n (m := 3) (hmy 2 l 0 ⟨by decide, fun _ => hl, fun z => absurd z (by decide)⟩),
  by rw [e15 5 (by decide)]; exact h.c4,
  by rw [e 5 (by decide)]; exact h.lk,
  hmy,
  fun l hl => by
    rw [e 36 (by decide)]
    by_cases q : l < n
    · rcases h.mt l q with z | ⟨k, hk, z⟩
      · exact .inl z
      · exact .inr ⟨k, by omega, z⟩
    · left; exact (h.to2 l (by omega) (by omega)).1,
  fun l hl => by
    rw [e 36 (by decide), e 37 (by decide)]
    by_cases q : l < n
    · rw [((ht l hl).1 q).1, ((ht l hl).1 q).2]; exact h.to1 l q
    · rw [((ht l hl).2 (by omega)).1, ((ht l hl).2 (by omega)).2]; exact h.to2 l (by omega) (by omega),
  fun l h1 h2 => by rw [e 36 (by decide), e 37 (by decide)]; exact h.to2 l (by omega) h2,
  by
    rw [e 35 (by decide), h.many]
    exact congrArg nI (Eq.symm (sp_cn_ext (fun l hl => ((ht l (by omega)).1 hl).1) hm8 hnm (fun l h1 h2 => ((ht l h2).2 h1).1))),
  by rw [e 38 (by decide), e 91 (by decide)]; exact h.led,
  by
    rw [e 34 (by decide), h65 49 (by decide), h65 50 (by decide), e 39 (by decide), e 40 (by decide), e 41 (by decide), e 42 (by decide), e 43 (by decide), e 92 (by decide), e 93 (by decide), e 94 (by decide), e 95 (by decide)]
    rcases h.kept with z | ⟨z1, z2, z, z3, z4⟩
    · exact .inl z
    · exact .inr ⟨z1, z2, z, by omega, z4⟩,
  by
    obtain ⟨dn, un, d1, d2, d3, d4, d5, d6⟩ := h.chg
    refine ⟨dn, un, d1, by rw [e 44 (by decide)]; exact d2, by rw [e 44 (by decide)]; exact d3, (h65 10 (by decide)).trans d4, (h65 11 (by decide)).trans d5, fun k hk => ?_⟩
    obtain ⟨y1, y2, y3, y4, w, a, b, y5, y6⟩ := d6 k hk
    unfold CHG
    rw [e 45 (by decide), e 46 (by decide), e 47 (by decide), e 48 (by decide), e 72 (by decide), e 73 (by decide), e 74 (by decide), e 75 (by decide)]
    exact ⟨y1, y2, y3, y4, w, a, b, okN_mo y5 hnm, y6⟩,
  (match h.tape with | ⟨c, T, a, b, d⟩ => ⟨c, T, a, ⟨(congrFun (e 6 (by decide)) 5).trans b.1, fun j hj => by rw [e 7 (by decide)]; exact b.2 j hj⟩, ⟨(h65 17 (by decide)).trans d.1, fun j hj => by rw [e 76 (by decide)]; exact d.2 j hj⟩⟩),
  h.nb50,
  by rw [e 49 (by decide)]; exact h.cb,
  by rw [h65 55 (by decide)]; exact h.rb,
  by rw [e 96 (by decide), e 50 (by decide)]; exact h.kind,
  by rw [e 50 (by decide)]; exact h.knd8,
  by rw [e 49 (by decide), h65 57 (by decide)]; exact h.ran,
  by rw [e 97 (by decide), e 51 (by decide)]; exact h.trac,
  fun s hs => by have z := h.shl s hs; unfold SHL at z ⊢; rw [e _ (fun z => by simp only [List.mem_cons, List.not_mem_nil, or_false] at z; omega), e 98 (by decide), e 99 (by decide)]; exact z,
  h.elem⟩
def LnG (n : Nat) (t : LnS) : Prop := n ≤ t.2.2.2 ∧ t.2.2.2 ≤ 8 ∧ ∀ l, l < t.2.2.2 → sp_may 0 (t.1 l) ∧ sp_may 1 (t.2.1 l) ∧ sp_may 2 (t.2.2.1 l)
theorem sp_li_G {n : Nat} {E : Nat → Int32} {z : Nat} : ∀ (m q c : Nat) (t : LnS), LnG n t → LnG n (sp_li E z m q c t).1
  | 0, _, _, _, h => h
  | m + 1, q, c, t, h => by
    simp only [sp_li]
    by_cases g : q + 3 ≤ z ∧ sp_j3 E q t
    · rw [if_pos g]
      refine sp_li_G m (q + 3) (c + 1) _ ⟨?_, ?_, fun l hl => ?_⟩
      · show n ≤ t.2.2.2 + 1
        have := h.1; omega
      · show t.2.2.2 + 1 ≤ 8
        have := g.2.1; omega
      · have hl2 : l < t.2.2.2 + 1 := hl
        show sp_may 0 (va_up t.1 t.2.2.2 (E q) l) ∧ sp_may 1 (va_up t.2.1 t.2.2.2 (E (q + 1)) l) ∧ sp_may 2 (va_up t.2.2.1 t.2.2.2 (E (q + 2)) l)
        by_cases e : l = t.2.2.2
        · rw [e, p_up_s, p_up_s, p_up_s]; exact g.2.2
        · rw [p_up_n _ _ e, p_up_n _ _ e, p_up_n _ _ e]; exact h.2.2 l (by omega)
    · rw [if_neg g]; exact h
theorem LnG_0 {tx : List Ln} {n nb : Nat} {I : Nat → Nat → Int32} {J : Nat → Nat → Int64} {p : Bool × Option Nat} (h : Inv tx n nb I J p) : LnG n (I 2, I 3, I 4, n) := ⟨Nat.le_refl _, h.n8, fun l hl => ⟨h.mays 0 l 0 ⟨by decide, fun _ => hl, fun z => absurd z (by decide)⟩, h.mays 1 l 0 ⟨by decide, fun _ => hl, fun z => absurd z (by decide)⟩, h.mays 2 l 0 ⟨by decide, fun _ => hl, fun z => absurd z (by decide)⟩⟩⟩
theorem mays_3 {tx : List Ln} {n nb : Nat} {I I1 : Nat → Nat → Int32} {J : Nat → Nat → Int64} {p : Bool × Option Nat} {m : Nat} (h : Inv tx n nb I J p) (hm8 : m ≤ 8) (e15 : ∀ k, k ≠ 4 → I1 1 k = I 1 k) (e5 : I1 5 = I 5) (e2 : ∀ l, l < m → sp_may 0 (I1 2 l) ∧ sp_may 1 (I1 3 l) ∧ sp_may 2 (I1 4 l)) : ∀ w a b, okN m w a b → sp_may w (I1 (sl w a b).1 (sl w a b).2) := by
  intro w a b ho
  have hw := ho.1
  rcases (by omega : w = 0 ∨ w = 1 ∨ w = 2 ∨ w = 3 ∨ w = 4 ∨ w = 5) with rfl | rfl | rfl | rfl | rfl | rfl
  · exact (e2 a (ho.2.1 (by decide))).1
  · exact (e2 a (ho.2.1 (by decide))).2.1
  · exact (e2 a (ho.2.1 (by decide))).2.2
  · have z := ho.2.2 rfl
    show sp_may 3 (I1 5 (8 * a + b))
    rw [e5]
    exact h.lk a b (by omega) (by omega)
  · show sp_may 4 (I1 1 5)
    rw [e15 5 (by decide)]
    exact h.mays 4 0 0 ⟨by decide, fun z => absurd z (by decide), fun z => absurd z (by decide)⟩
  · show sp_may 5 (I1 1 6)
    rw [e15 6 (by decide)]
    exact h.mays 5 0 0 ⟨by decide, fun z => absurd z (by decide), fun z => absurd z (by decide)⟩
set_option maxRecDepth 20000 in
theorem stp_lines {I : Nat → Nat → Int32} {J : Nat → Nat → Int64} {p : Bool × Option Nat} {ro : List (Nat × Nat × (Nat → Int32))} {tx : List Ln} {n nb : Nat} (h : Inv tx n nb I J p) {L i : Nat} {xs : Nat → Int32} (hi : i + 6 ≤ L) (hL : L ≤ 3072) (hscr : (1002, L, xs) ∈ ro) (hro : RO ro) {Q : Option Value → pm_M → Prop}  (kont : ∀ (tx : List Ln) (n nb : Nat) (I : Nat → Nat → Int32) (J : Nat → Nat → Int64) (p : Bool × Option Nat), Inv tx n nb I J p → Px 61 0 0 CL_law 1065 [some (.ref (1002)), some (.ref (0)), some (.ref (65)), some (.int (nI i))] [] (gS, I, J, gR p, ro) Q) : Px 61 0 0 CL_law 39 [some (.ref (1002)), some (.ref (0)), some (.ref (65)), some (.int (nI i))] [] (gS, I, J, gR p, ro) Q := by
  refine px_aload_n (kk := 1) rfl rfl rfl ?_
  refine px_aload_n (kk := 0) rfl rfl rfl ?_
  refine px_iload_n (kk := 3) rfl rfl rfl ?_
  refine px_iconst (v := nI 1) rfl k_1 ?_
  refine px_iaddN rfl ?_
  refine px_roald (j := (i + 1)) rfl hscr rfl (by omega) ?_
  refine px_aload_n (kk := 0) rfl rfl rfl ?_
  refine px_iload_n (kk := 3) rfl rfl rfl ?_
  refine px_iconst (v := nI 2) rfl k_2 ?_
  refine px_iaddN rfl ?_
  refine px_roald (j := (i + 2)) rfl hscr rfl (by omega) ?_
  refine px_aload_n (kk := 0) rfl rfl rfl ?_
  refine px_iload_n (kk := 3) rfl rfl rfl ?_
  refine px_iconst (v := nI 3) rfl k_3 ?_
  refine px_iaddN rfl ?_
  refine px_roald (j := (i + 3)) rfl hscr rfl (by omega) ?_
  refine px_callV0 CX11_lines [] [.int _, .int _, .int _] (vX11_lines h.cn h.n8 h.szC) rfl gS_0 (by decide) rfl rfl rfl (Nat.le_of_ble_eq_true rfl) (by decide) ?_
  rintro _ _ - (⟨hn, rfl, rfl⟩ | ⟨s, m, hs, hx, hm1, hm2, hwm, ⟨hE, rfl, rfl⟩ | ⟨hE, hB, rfl, rfl⟩ | ⟨hE, hB, ⟨hy, rfl, rfl⟩ | ⟨q, hq31, hq, rfl, I5, rfl, hLM⟩⟩⟩)
  · refine px_aload_n (kk := 2) rfl rfl rfl ?_
    refine px_aload_n (kk := 0) rfl rfl rfl ?_
    refine px_iload_n (kk := 3) rfl rfl rfl ?_
    refine px_iconst (v := nI 1) rfl k_1 ?_
    refine px_iaddN rfl ?_
    refine px_roald (j := (i + 1)) rfl hscr rfl (by omega) ?_
    refine px_aload_n (kk := 0) rfl rfl rfl ?_
    refine px_iload_n (kk := 3) rfl rfl rfl ?_
    refine px_iconst (v := nI 2) rfl k_2 ?_
    refine px_iaddN rfl ?_
    refine px_roald (j := (i + 2)) rfl hscr rfl (by omega) ?_
    refine px_aload_n (kk := 0) rfl rfl rfl ?_
    refine px_iload_n (kk := 3) rfl rfl rfl ?_
    refine px_iconst (v := nI 3) rfl k_3 ?_
    refine px_iaddN rfl ?_
    refine px_roald (j := (i + 3)) rfl hscr rfl (by omega) ?_
    refine px_callV0 CX12_lines [.int _] [.int _, .int _, .int _] (vX12_lines h.rn h.n8 h.szR) rfl gS_65 (by decide) rfl rfl rfl (Nat.le_of_ble_eq_true rfl) (by decide) ?_
    rintro _ _ - (⟨hn2, rfl, rfl⟩ | ⟨s2, m2, hs2, hx2, hm12, hm22, hwm2, ⟨hE2, rfl, rfl⟩ | ⟨hE2, hB2, rfl, rfl⟩ | ⟨hB2, ⟨hy2, rfl, rfl⟩ | ⟨q2, hq231, hq2, rfl, I6, rfl, hLM2⟩⟩⟩)
    · have heq : (-1 : Int32) = -1 := rfl
      refine px_icmp_eq rfl (fun c73 => ?_) (fun hZ => absurd (heq) hZ)
      exact kont _ _ _ _ _ _ h
    · exact absurd ⟨⟨s2, hs2, hx2⟩, m2, hm12, hm22, hwm2⟩ hn
    · exact absurd ⟨⟨s2, hs2, hx2⟩, m2, hm12, hm22, hwm2⟩ hn
    · exact absurd ⟨⟨s2, hs2, hx2⟩, m2, hm12, hm22, hwm2⟩ hn
    · exact absurd ⟨⟨s2, hs2, hx2⟩, m2, hm12, hm22, hwm2⟩ hn
  · refine px_aload_n (kk := 2) rfl rfl rfl ?_
    refine px_aload_n (kk := 0) rfl rfl rfl ?_
    refine px_iload_n (kk := 3) rfl rfl rfl ?_
    refine px_iconst (v := nI 1) rfl k_1 ?_
    refine px_iaddN rfl ?_
    refine px_roald (j := (i + 1)) rfl hscr rfl (by omega) ?_
    refine px_aload_n (kk := 0) rfl rfl rfl ?_
    refine px_iload_n (kk := 3) rfl rfl rfl ?_
    refine px_iconst (v := nI 2) rfl k_2 ?_
    refine px_iaddN rfl ?_
    refine px_roald (j := (i + 2)) rfl hscr rfl (by omega) ?_
    refine px_aload_n (kk := 0) rfl rfl rfl ?_
    refine px_iload_n (kk := 3) rfl rfl rfl ?_
    refine px_iconst (v := nI 3) rfl k_3 ?_
    refine px_iaddN rfl ?_
    refine px_roald (j := (i + 3)) rfl hscr rfl (by omega) ?_
    refine px_callV0 CX12_lines [.int _] [.int _, .int _, .int _] (vX12_lines h.rn h.n8 h.szR) rfl gS_65 (by decide) rfl rfl rfl (Nat.le_of_ble_eq_true rfl) (by decide) ?_
    rintro _ _ - (⟨hn2, rfl, rfl⟩ | ⟨s2, m2, hs2, hx2, hm12, hm22, hwm2, ⟨hE2, rfl, rfl⟩ | ⟨hE2, hB2, rfl, rfl⟩ | ⟨hB2, ⟨hy2, rfl, rfl⟩ | ⟨q2, hq231, hq2, rfl, I6, rfl, hLM2⟩⟩⟩)
    · exact absurd ⟨⟨s, hs, hx⟩, m, hm1, hm2, hwm⟩ hn2
    · have heq : (nI 0 : Int32) = nI 0 := rfl
      refine px_icmp_eq rfl (fun c73 => ?_) (fun hZ => absurd (heq) hZ)
      exact kont _ _ _ _ _ _ h
    · have ex := hx.symm.trans hx2
      rw [n_eq (by omega) (by omega)] at ex
      subst ex
      have em := hwm.symm.trans hwm2
      rw [n_eq (by omega) (by omega)] at em
      subst em
      have zE := SHL_E h.nb50 (h.shl s hs)
      have zB := SHL_B h.nb50 (h.shl s hs)
      exact absurd (zE.mp hE) hE2
    · have ex := hx.symm.trans hx2
      rw [n_eq (by omega) (by omega)] at ex
      subst ex
      have em := hwm.symm.trans hwm2
      rw [n_eq (by omega) (by omega)] at em
      subst em
      have zE := SHL_E h.nb50 (h.shl s hs)
      have zB := SHL_B h.nb50 (h.shl s hs)
      exact absurd (hB2.symm.trans (zE.mp hE)) (by decide)
    · have ex := hx.symm.trans hx2
      rw [n_eq (by omega) (by omega)] at ex
      subst ex
      have em := hwm.symm.trans hwm2
      rw [n_eq (by omega) (by omega)] at em
      subst em
      have zE := SHL_E h.nb50 (h.shl s hs)
      have zB := SHL_B h.nb50 (h.shl s hs)
      exact absurd (hB2.symm.trans (zE.mp hE)) (by decide)
  · refine px_aload_n (kk := 2) rfl rfl rfl ?_
    refine px_aload_n (kk := 0) rfl rfl rfl ?_
    refine px_iload_n (kk := 3) rfl rfl rfl ?_
    refine px_iconst (v := nI 1) rfl k_1 ?_
    refine px_iaddN rfl ?_
    refine px_roald (j := (i + 1)) rfl hscr rfl (by omega) ?_
    refine px_aload_n (kk := 0) rfl rfl rfl ?_
    refine px_iload_n (kk := 3) rfl rfl rfl ?_
    refine px_iconst (v := nI 2) rfl k_2 ?_
    refine px_iaddN rfl ?_
    refine px_roald (j := (i + 2)) rfl hscr rfl (by omega) ?_
    refine px_aload_n (kk := 0) rfl rfl rfl ?_
    refine px_iload_n (kk := 3) rfl rfl rfl ?_
    refine px_iconst (v := nI 3) rfl k_3 ?_
    refine px_iaddN rfl ?_
    refine px_roald (j := (i + 3)) rfl hscr rfl (by omega) ?_
    refine px_callV0 CX12_lines [.int _] [.int _, .int _, .int _] (vX12_lines h.rn h.n8 h.szR) rfl gS_65 (by decide) rfl rfl rfl (Nat.le_of_ble_eq_true rfl) (by decide) ?_
    rintro _ _ - (⟨hn2, rfl, rfl⟩ | ⟨s2, m2, hs2, hx2, hm12, hm22, hwm2, ⟨hE2, rfl, rfl⟩ | ⟨hE2, hB2, rfl, rfl⟩ | ⟨hB2, ⟨hy2, rfl, rfl⟩ | ⟨q2, hq231, hq2, rfl, I6, rfl, hLM2⟩⟩⟩)
    · exact absurd ⟨⟨s, hs, hx⟩, m, hm1, hm2, hwm⟩ hn2
    · have ex := hx.symm.trans hx2
      rw [n_eq (by omega) (by omega)] at ex
      subst ex
      have em := hwm.symm.trans hwm2
      rw [n_eq (by omega) (by omega)] at em
      subst em
      have zE := SHL_E h.nb50 (h.shl s hs)
      have zB := SHL_B h.nb50 (h.shl s hs)
      exact absurd (zE.mpr hE2) hE
    · have heq : (-12 : Int32) = -12 := rfl
      refine px_icmp_eq rfl (fun c73 => ?_) (fun hZ => absurd (heq) hZ)
      exact kont _ _ _ _ _ _ h
    · have ex := hx.symm.trans hx2
      rw [n_eq (by omega) (by omega)] at ex
      subst ex
      have em := hwm.symm.trans hwm2
      rw [n_eq (by omega) (by omega)] at em
      subst em
      have zE := SHL_E h.nb50 (h.shl s hs)
      have zB := SHL_B h.nb50 (h.shl s hs)
      exact absurd (zB.mpr hB2) hB
    · have ex := hx.symm.trans hx2
      rw [n_eq (by omega) (by omega)] at ex
      subst ex
      have em := hwm.symm.trans hwm2
      rw [n_eq (by omega) (by omega)] at em
      subst em
      have zE := SHL_E h.nb50 (h.shl s hs)
      have zB := SHL_B h.nb50 (h.shl s hs)
      exact absurd (zB.mpr hB2) hB
  · refine px_aload_n (kk := 2) rfl rfl rfl ?_
    refine px_aload_n (kk := 0) rfl rfl rfl ?_
    refine px_iload_n (kk := 3) rfl rfl rfl ?_
    refine px_iconst (v := nI 1) rfl k_1 ?_
    refine px_iaddN rfl ?_
    refine px_roald (j := (i + 1)) rfl hscr rfl (by omega) ?_
    refine px_aload_n (kk := 0) rfl rfl rfl ?_
    refine px_iload_n (kk := 3) rfl rfl rfl ?_
    refine px_iconst (v := nI 2) rfl k_2 ?_
    refine px_iaddN rfl ?_
    refine px_roald (j := (i + 2)) rfl hscr rfl (by omega) ?_
    refine px_aload_n (kk := 0) rfl rfl rfl ?_
    refine px_iload_n (kk := 3) rfl rfl rfl ?_
    refine px_iconst (v := nI 3) rfl k_3 ?_
    refine px_iaddN rfl ?_
    refine px_roald (j := (i + 3)) rfl hscr rfl (by omega) ?_
    refine px_callV0 CX12_lines [.int _] [.int _, .int _, .int _] (vX12_lines h.rn h.n8 h.szR) rfl gS_65 (by decide) rfl rfl rfl (Nat.le_of_ble_eq_true rfl) (by decide) ?_
    rintro _ _ - (⟨hn2, rfl, rfl⟩ | ⟨s2, m2, hs2, hx2, hm12, hm22, hwm2, ⟨hE2, rfl, rfl⟩ | ⟨hE2, hB2, rfl, rfl⟩ | ⟨hB2, ⟨hy2, rfl, rfl⟩ | ⟨q2, hq231, hq2, rfl, I6, rfl, hLM2⟩⟩⟩)
    · exact absurd ⟨⟨s, hs, hx⟩, m, hm1, hm2, hwm⟩ hn2
    · have ex := hx.symm.trans hx2
      rw [n_eq (by omega) (by omega)] at ex
      subst ex
      have em := hwm.symm.trans hwm2
      rw [n_eq (by omega) (by omega)] at em
      subst em
      have zE := SHL_E h.nb50 (h.shl s hs)
      have zB := SHL_B h.nb50 (h.shl s hs)
      exact absurd (zE.mpr hE2) hE
    · have ex := hx.symm.trans hx2
      rw [n_eq (by omega) (by omega)] at ex
      subst ex
      have em := hwm.symm.trans hwm2
      rw [n_eq (by omega) (by omega)] at em
      subst em
      have zE := SHL_E h.nb50 (h.shl s hs)
      have zB := SHL_B h.nb50 (h.shl s hs)
      exact absurd (zB.mp hB) hB2
    · have heq : (nI 0 : Int32) = nI 0 := rfl
      refine px_icmp_eq rfl (fun c73 => ?_) (fun hZ => absurd (heq) hZ)
      exact kont _ _ _ _ _ _ h
    · rw [hq2] at hy
      exact absurd hy (n_nneg hq231)
  · refine px_aload_n (kk := 2) rfl rfl rfl ?_
    refine px_aload_n (kk := 0) rfl rfl rfl ?_
    refine px_iload_n (kk := 3) rfl rfl rfl ?_
    refine px_iconst (v := nI 1) rfl k_1 ?_
    refine px_iaddN rfl ?_
    refine px_roald (j := (i + 1)) rfl hscr rfl (by omega) ?_
    refine px_aload_n (kk := 0) rfl rfl rfl ?_
    refine px_iload_n (kk := 3) rfl rfl rfl ?_
    refine px_iconst (v := nI 2) rfl k_2 ?_
    refine px_iaddN rfl ?_
    refine px_roald (j := (i + 2)) rfl hscr rfl (by omega) ?_
    refine px_aload_n (kk := 0) rfl rfl rfl ?_
    refine px_iload_n (kk := 3) rfl rfl rfl ?_
    refine px_iconst (v := nI 3) rfl k_3 ?_
    refine px_iaddN rfl ?_
    refine px_roald (j := (i + 3)) rfl hscr rfl (by omega) ?_
    refine px_callV0 CX12_lines [.int _] [.int _, .int _, .int _] (vX12_lines (n := n) (by rw [hLM.1 65 (by decide)]; exact h.rn) h.n8 (fun s hs => by rw [hLM.1 99 (by decide)]; exact h.szR s hs)) rfl gS_65 (by decide) rfl rfl rfl (Nat.le_of_ble_eq_true rfl) (by decide) ?_
    rintro _ _ - (⟨hn2, rfl, rfl⟩ | ⟨s2, m2, hs2, hx2, hm12, hm22, hwm2, ⟨hE2, rfl, rfl⟩ | ⟨hE2, hB2, rfl, rfl⟩ | ⟨hB2, ⟨hy2, rfl, rfl⟩ | ⟨q2, hq231, hq2, rfl, I6, rfl, hLM2⟩⟩⟩)
    · exact absurd ⟨⟨s, hs, hx⟩, m, hm1, hm2, hwm⟩ hn2
    · have ex := hx.symm.trans hx2
      rw [n_eq (by omega) (by omega)] at ex
      subst ex
      have em := hwm.symm.trans hwm2
      rw [n_eq (by omega) (by omega)] at em
      subst em
      have zE := SHL_E h.nb50 (h.shl s hs)
      have zB := SHL_B h.nb50 (h.shl s hs)
      rw [hLM.1 98 (by decide)] at hE2
      exact absurd (zE.mpr hE2) hE
    · have ex := hx.symm.trans hx2
      rw [n_eq (by omega) (by omega)] at ex
      subst ex
      have em := hwm.symm.trans hwm2
      rw [n_eq (by omega) (by omega)] at em
      subst em
      have zE := SHL_E h.nb50 (h.shl s hs)
      have zB := SHL_B h.nb50 (h.shl s hs)
      rw [hLM.1 98 (by decide)] at hB2
      exact absurd (zB.mp hB) hB2
    · rw [hq] at hy2
      exact absurd hy2 (n_nneg hq31)
    · have ex := hx.symm.trans hx2
      rw [n_eq (by omega) (by omega)] at ex
      subst ex
      have em := hwm.symm.trans hwm2
      rw [n_eq (by omega) (by omega)] at em
      subst em
      have zE := SHL_E h.nb50 (h.shl s hs)
      have zB := SHL_B h.nb50 (h.shl s hs)
      have eq := hq.symm.trans hq2
      rw [n_eq hq31 hq231] at eq
      subst eq
      have hTT : sp_li (fun j => (J 100 (60 * s + j)).toInt32) (mN (I5 99 s)) m q 0 (I5 66, I5 67, I5 68, n) = (sp_li (fun j => (J (54 + 2 * s) j).toInt32) (mN (I (53 + 2 * s) 4)) m q 0 (I 2, I 3, I 4, n)) := by
        have e1 : (fun j => (J 100 (60 * s + j)).toInt32) = (fun j => (J (54 + 2 * s) j).toInt32) := funext fun j => by rw [h.elem s hs j]
        rw [e1, hLM.1 99 (by decide), SHL_Z (h.shl s hs) hB.1, hLM.1 66 (by decide), hLM.1 67 (by decide), hLM.1 68 (by decide), h.warm, h.need, h.part]
      rw [hTT] at hLM2
      have heq := congrArg (fun t : LnS × Nat => nI t.2) hTT.symm
      refine px_icmp_eq rfl (fun c73 => ?_) (fun hZ => absurd (heq) hZ)
      have hG := sp_li_G (E := fun j => (J (54 + 2 * s) j).toInt32) (z := mN (I (53 + 2 * s) 4)) m q 0 _ (LnG_0 h)
      obtain ⟨a1, a2, a3, a4, a5, a6⟩ := hLM
      obtain ⟨b1, b2, b3, b4, b5, b6, b7, b8⟩ := hLM2
      have e1 : I6 1 = I5 1 := b1 1 (by decide)
      have e2 : I6 2 = (sp_li (fun j => (J (54 + 2 * s) j).toInt32) (mN (I (53 + 2 * s) 4)) m q 0 (I 2, I 3, I 4, n)).1.1 := (b1 2 (by decide)).trans a4
      have e3 : I6 3 = (sp_li (fun j => (J (54 + 2 * s) j).toInt32) (mN (I (53 + 2 * s) 4)) m q 0 (I 2, I 3, I 4, n)).1.2.1 := (b1 3 (by decide)).trans a5
      have e4 : I6 4 = (sp_li (fun j => (J (54 + 2 * s) j).toInt32) (mN (I (53 + 2 * s) 4)) m q 0 (I 2, I 3, I 4, n)).1.2.2.1 := (b1 4 (by decide)).trans a6
      have e15 : ∀ k, k ≠ 4 → I6 1 k = I 1 k := fun k hk => by rw [e1]; exact a2 k hk
      refine kont _ _ _ _ _ _ (Inv_lns h (m := (sp_li (fun j => (J (54 + 2 * s) j).toInt32) (mN (I (53 + 2 * s) 4)) m q 0 (I 2, I 3, I 4, n)).1.2.2.2) hG.1 hG.2.1 (fun c hc => ?_) (by rw [e1]; exact a3) e15 e2 e3 e4 (fun k hk => by rw [b2 k hk, a1 65 (by decide)]) b3 b4 b5 b6 (fun l hl => ⟨fun q2 => ?_, (b8 l hl).2⟩) (mays_3 h hG.2.1 e15 ?_ (fun l hl => ?_)))
      · simp only [List.mem_cons, List.not_mem_nil, or_false, not_or] at hc
        rw [b1 c (by simp only [List.mem_cons, List.not_mem_nil, or_false, not_or]; omega)]
        exact a1 c (by simp only [List.mem_cons, List.not_mem_nil, or_false, not_or]; omega)
      · have z := (b8 l hl).1 q2
        rw [a1 70 (by decide), a1 71 (by decide)] at z
        exact z
      · rw [b1 5 (by decide)]; exact a1 5 (by decide)
      · rw [e2, e3, e4]; exact hG.2.2 l hl
