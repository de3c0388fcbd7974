/-! line -/
theorem nm1_lt {n : Nat} (h : n < 8) : ¬ nI n < -1 := fun z => by
  rw [i_lt, nI_toInt (by omega), show (-1 : Int32).toInt = -1 from by decide +kernel] at z
  omega
theorem Inv_line {tx : List Ln} {n nb : Nat} {I I1 : Nat → Nat → Int32} {J : Nat → Nat → Int64} {p : Bool × Option Nat} {x y v : Int32} (h : Inv tx n nb I J p) (h8 : n < 8) (e : ∀ c, c ∉ ([1, 2, 3, 4, 65, 66, 67, 68, 70, 71] : List Nat) → I1 c = I c) (e14 : I1 1 4 = nI (n + 1)) (e15 : ∀ k, k ≠ 4 → I1 1 k = I 1 k) (e2 : I1 2 = va_up (I 2) n x) (e3 : I1 3 = va_up (I 3) n y) (e4 : I1 4 = va_up (I 4) n v) (e65 : ∀ k, I1 65 k = if k = 1 then nI (n + 1) else I 65 k) (e66 : I1 66 = va_up (I 66) n x) (e67 : I1 67 = va_up (I 67) n y) (e68 : I1 68 = va_up (I 68) n v) (e70 : I1 70 = va_up (I 70) n (-1)) (e71 : I1 71 = va_up (I 71) n (nI 0)) (hpv : ∃ q, q < 4 ∧ v = nI q) (hmy : ∀ w a b, okN (n + 1) w a b → sp_may w (I1 (sl w a b).1 (sl w a b).2)) : Inv tx (n + 1) nb I1 J p := ⟨
  LawC_mv h.lawC (fun k hk => by rw [e 6 (by decide)]) (e 9 (by decide)) (e 10 (by decide)),
  LawR_mv h.lawR ((e65 29).trans (if_neg (by decide))) (fun c hc => e c (by revert hc; revert c; decide)),
  e14,
  (e65 1).trans (by rw [if_pos rfl]),
  h8,
  by rw [e2, e66, h.warm],
  by rw [e3, e67, h.need],
  by rw [e4, e68, h.part],
  by rw [e 69 (by decide), e 5 (by decide)]; exact h.like,
  (e65 6).trans ((if_neg (by decide)).trans (h.cord.trans (e15 5 (by decide)).symm)),
  (e65 7).trans ((if_neg (by decide)).trans (h.cold.trans (e15 6 (by decide)).symm)),
  fun l hl => by
    rw [e4]
    by_cases q : l = n
    · rw [q, p_up_s]; exact hpv
    · rw [p_up_n _ _ q]; exact h.pa l (by omega),
  by rw [e15 5 (by decide)]; exact h.c4,
  by rw [e 5 (by decide)]; exact h.lk,
  hmy,
  fun l hl => by
    rw [e 36 (by decide)]
    by_cases q : l = n
    · left; rw [q]; exact (h.to2 n (Nat.le_refl _) h8).1
    · rcases h.mt l (by omega) with z | ⟨k, hk, z⟩
      · exact .inl z
      · exact .inr ⟨k, by omega, z⟩,
  fun l hl => by
    rw [e 36 (by decide), e 37 (by decide), e70, e71]
    by_cases q : l = n
    · rw [q, p_up_s, p_up_s]; exact h.to2 n (Nat.le_refl _) h8
    · rw [p_up_n _ _ q, p_up_n _ _ q]; exact h.to1 l (by omega),
  fun l h1 h2 => by rw [e 36 (by decide), e 37 (by decide)]; exact h.to2 l (by omega) h2,
  by
    rw [e 35 (by decide), h.many, e70, sp_cn, p_up_s, if_neg (fun z => absurd z (nm1_lt h8)), sp_cn_congr (fun l hl => p_up_n _ _ (by omega))]; rfl,
  by rw [e 38 (by decide), e 91 (by decide)]; exact h.led,
  by
    rw [e 34 (by decide), e65 49, e65 50, if_neg (by decide), if_neg (by decide), e 39 (by decide), e 40 (by decide), e 41 (by decide), e 42 (by decide), e 43 (by decide), e 92 (by decide), e 93 (by decide), e 94 (by decide), e 95 (by decide)]
    rcases h.kept with z | ⟨z1, z2, z, z3, z4⟩
    · exact .inl z
    · exact .inr ⟨z1, z2, z, by omega, z4⟩,
  by
    obtain ⟨dn, un, d1, d2, d3, d4, d5, d6⟩ := h.chg
    refine ⟨dn, un, d1, by rw [e 44 (by decide)]; exact d2, by rw [e 44 (by decide)]; exact d3, (e65 10).trans ((if_neg (by decide)).trans d4), (e65 11).trans ((if_neg (by decide)).trans d5), fun k hk => ?_⟩
    obtain ⟨y1, y2, y3, y4, w, a, b, y5, y6⟩ := d6 k hk
    unfold CHG
    rw [e 45 (by decide), e 46 (by decide), e 47 (by decide), e 48 (by decide), e 72 (by decide), e 73 (by decide), e 74 (by decide), e 75 (by decide)]
    exact ⟨y1, y2, y3, y4, w, a, b, okN_mo y5 (Nat.le_succ n), y6⟩,
  (match h.tape with | ⟨c, T, a, b, d⟩ => ⟨c, T, a, ⟨(congrFun (e 6 (by decide)) 5).trans b.1, fun j hj => by rw [e 7 (by decide)]; exact b.2 j hj⟩, ⟨((e65 17).trans (if_neg (by decide))).trans d.1, fun j hj => by rw [e 76 (by decide)]; exact d.2 j hj⟩⟩),
  h.nb50,
  by rw [e 49 (by decide)]; exact h.cb,
  by rw [(e65 55).trans (if_neg (by decide))]; exact h.rb,
  by rw [e 96 (by decide), e 50 (by decide)]; exact h.kind,
  by rw [e 50 (by decide)]; exact h.knd8,
  by rw [e 49 (by decide), (e65 57).trans (if_neg (by decide))]; exact h.ran,
  by rw [e 97 (by decide), e 51 (by decide)]; exact h.trac,
  fun s hs => by have z := h.shl s hs; unfold SHL at z ⊢; rw [e _ (fun z => by simp only [List.mem_cons, List.not_mem_nil, or_false] at z; omega), e 98 (by decide), e 99 (by decide)]; exact z,
  h.elem⟩
