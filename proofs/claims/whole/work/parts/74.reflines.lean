/-! the reference: lines off a shelf; the tape; soon, instead -/
theorem j_nI {q : Nat} (h : q < 2 ^ 31) : (nI q).toInt64 = lN q := by
  refine Int64.toInt_inj.mp ?_
  rw [Int32.toInt_toInt64, nI_toInt h, pk_lT (by omega)]
theorem j_add {a b : Nat} (ha : a < 2 ^ 61) (hb : b < 2 ^ 61) : lN a + lN b = lN (a + b) := by
  refine Int64.toInt_inj.mp ?_
  rw [Int64.toInt_add, pk_lT (by omega), pk_lT (by omega), pk_lT (by omega), Int.bmod_eq_of_le (by omega) (by omega)]
  omega
theorem j_back {q : Nat} (h : q < 2 ^ 31) : (lN q).toInt32 = nI q := by
  rw [← j_nI h, Int32.toInt32_toInt64]
theorem j_neg {y : Int32} (h : y < 0) : y.toInt64 + (nI (3 * 0)).toInt64 < 0 := by
  rw [j_nI (by omega), show lN (3 * 0) = 0 from by decide +kernel, Int64.add_zero, Int64.lt_iff_toInt_lt, Int32.toInt_toInt64]
  rw [i_lt, i_0] at h
  exact h
theorem l_2 : (2 : Int64) = lN 2 := by decide +kernel
def LMR (n0 : Nat) (I : Nat → Nat → Int32) (t : LnS) (I1 : Nat → Nat → Int32) : Prop := Fr [65, 66, 67, 68, 70, 71] I I1 ∧ (∀ k, k ≠ 1 → I1 65 k = I 65 k) ∧ I1 65 1 = nI t.2.2.2 ∧ I1 66 = t.1 ∧ I1 67 = t.2.1 ∧ I1 68 = t.2.2.1 ∧ n0 ≤ t.2.2.2 ∧ ∀ l, l < t.2.2.2 → (l < n0 → I1 70 l = I 70 l ∧ I1 71 l = I 71 l) ∧ (n0 ≤ l → I1 70 l = -1 ∧ I1 71 l = nI 0)
theorem LMR_j {n0 : Nat} {I I1 : Nat → Nat → Int32} {t : LnS} (h : LMR n0 I t I1) (x y v : Int32) : LMR n0 I (va_up t.1 t.2.2.2 x, va_up t.2.1 t.2.2.2 y, va_up t.2.2.1 t.2.2.2 v, t.2.2.2 + 1) (rf_jM I1 t.2.2.2 x y v) := by
  obtain ⟨h1, h2, h3, h4, h5, h6, h7, h8⟩ := h
  refine ⟨?_, fun k hk => ?_, ?_, ?_, ?_, ?_, Nat.le_succ_of_le h7, fun l hl => ?_⟩
  · exact Fr_up (Fr_up (Fr_up (Fr_up (Fr_up (Fr_up h1 (by decide) _) (by decide) _) (by decide) _) (by decide) _) (by decide) _) (by decide) _
  · simp only [rf_jM, p_up_n _ _ (show (65 : Nat) ≠ 66 by decide), p_up_n _ _ (show (65 : Nat) ≠ 67 by decide), p_up_n _ _ (show (65 : Nat) ≠ 68 by decide), p_up_n _ _ (show (65 : Nat) ≠ 69 by decide), p_up_n _ _ (show (65 : Nat) ≠ 70 by decide), p_up_n _ _ (show (65 : Nat) ≠ 71 by decide), p_up_n _ _ (show (66 : Nat) ≠ 65 by decide), p_up_n _ _ (show (66 : Nat) ≠ 67 by decide), p_up_n _ _ (show (66 : Nat) ≠ 68 by decide), p_up_n _ _ (show (66 : Nat) ≠ 69 by decide), p_up_n _ _ (show (66 : Nat) ≠ 70 by decide), p_up_n _ _ (show (66 : Nat) ≠ 71 by decide), p_up_n _ _ (show (67 : Nat) ≠ 65 by decide), p_up_n _ _ (show (67 : Nat) ≠ 66 by decide), p_up_n _ _ (show (67 : Nat) ≠ 68 by decide), p_up_n _ _ (show (67 : Nat) ≠ 69 by decide), p_up_n _ _ (show (67 : Nat) ≠ 70 by decide), p_up_n _ _ (show (67 : Nat) ≠ 71 by decide), p_up_n _ _ (show (68 : Nat) ≠ 65 by decide), p_up_n _ _ (show (68 : Nat) ≠ 66 by decide), p_up_n _ _ (show (68 : Nat) ≠ 67 by decide), p_up_n _ _ (show (68 : Nat) ≠ 69 by decide), p_up_n _ _ (show (68 : Nat) ≠ 70 by decide), p_up_n _ _ (show (68 : Nat) ≠ 71 by decide), p_up_n _ _ (show (69 : Nat) ≠ 65 by decide), p_up_n _ _ (show (69 : Nat) ≠ 66 by decide), p_up_n _ _ (show (69 : Nat) ≠ 67 by decide), p_up_n _ _ (show (69 : Nat) ≠ 68 by decide), p_up_n _ _ (show (69 : Nat) ≠ 70 by decide), p_up_n _ _ (show (69 : Nat) ≠ 71 by decide), p_up_n _ _ (show (70 : Nat) ≠ 65 by decide), p_up_n _ _ (show (70 : Nat) ≠ 66 by decide), p_up_n _ _ (show (70 : Nat) ≠ 67 by decide), p_up_n _ _ (show (70 : Nat) ≠ 68 by decide), p_up_n _ _ (show (70 : Nat) ≠ 69 by decide), p_up_n _ _ (show (70 : Nat) ≠ 71 by decide), p_up_n _ _ (show (71 : Nat) ≠ 65 by decide), p_up_n _ _ (show (71 : Nat) ≠ 66 by decide), p_up_n _ _ (show (71 : Nat) ≠ 67 by decide), p_up_n _ _ (show (71 : Nat) ≠ 68 by decide), p_up_n _ _ (show (71 : Nat) ≠ 69 by decide), p_up_n _ _ (show (71 : Nat) ≠ 70 by decide), p_up_s, p_up_n _ _ hk]; exact h2 k hk
  · simp only [rf_jM, p_up_s]
  · simp only [rf_jM, p_up_n _ _ (show (65 : Nat) ≠ 66 by decide), p_up_n _ _ (show (65 : Nat) ≠ 67 by decide), p_up_n _ _ (show (65 : Nat) ≠ 68 by decide), p_up_n _ _ (show (65 : Nat) ≠ 69 by decide), p_up_n _ _ (show (65 : Nat) ≠ 70 by decide), p_up_n _ _ (show (65 : Nat) ≠ 71 by decide), p_up_n _ _ (show (66 : Nat) ≠ 65 by decide), p_up_n _ _ (show (66 : Nat) ≠ 67 by decide), p_up_n _ _ (show (66 : Nat) ≠ 68 by decide), p_up_n _ _ (show (66 : Nat) ≠ 69 by decide), p_up_n _ _ (show (66 : Nat) ≠ 70 by decide), p_up_n _ _ (show (66 : Nat) ≠ 71 by decide), p_up_n _ _ (show (67 : Nat) ≠ 65 by decide), p_up_n _ _ (show (67 : Nat) ≠ 66 by decide), p_up_n _ _ (show (67 : Nat) ≠ 68 by decide), p_up_n _ _ (show (67 : Nat) ≠ 69 by decide), p_up_n _ _ (show (67 : Nat) ≠ 70 by decide), p_up_n _ _ (show (67 : Nat) ≠ 71 by decide), p_up_n _ _ (show (68 : Nat) ≠ 65 by decide), p_up_n _ _ (show (68 : Nat) ≠ 66 by decide), p_up_n _ _ (show (68 : Nat) ≠ 67 by decide), p_up_n _ _ (show (68 : Nat) ≠ 69 by decide), p_up_n _ _ (show (68 : Nat) ≠ 70 by decide), p_up_n _ _ (show (68 : Nat) ≠ 71 by decide), p_up_n _ _ (show (69 : Nat) ≠ 65 by decide), p_up_n _ _ (show (69 : Nat) ≠ 66 by decide), p_up_n _ _ (show (69 : Nat) ≠ 67 by decide), p_up_n _ _ (show (69 : Nat) ≠ 68 by decide), p_up_n _ _ (show (69 : Nat) ≠ 70 by decide), p_up_n _ _ (show (69 : Nat) ≠ 71 by decide), p_up_n _ _ (show (70 : Nat) ≠ 65 by decide), p_up_n _ _ (show (70 : Nat) ≠ 66 by decide), p_up_n _ _ (show (70 : Nat) ≠ 67 by decide), p_up_n _ _ (show (70 : Nat) ≠ 68 by decide), p_up_n _ _ (show (70 : Nat) ≠ 69 by decide), p_up_n _ _ (show (70 : Nat) ≠ 71 by decide), p_up_n _ _ (show (71 : Nat) ≠ 65 by decide), p_up_n _ _ (show (71 : Nat) ≠ 66 by decide), p_up_n _ _ (show (71 : Nat) ≠ 67 by decide), p_up_n _ _ (show (71 : Nat) ≠ 68 by decide), p_up_n _ _ (show (71 : Nat) ≠ 69 by decide), p_up_n _ _ (show (71 : Nat) ≠ 70 by decide), p_up_s, h4]
  · simp only [rf_jM, p_up_n _ _ (show (65 : Nat) ≠ 66 by decide), p_up_n _ _ (show (65 : Nat) ≠ 67 by decide), p_up_n _ _ (show (65 : Nat) ≠ 68 by decide), p_up_n _ _ (show (65 : Nat) ≠ 69 by decide), p_up_n _ _ (show (65 : Nat) ≠ 70 by decide), p_up_n _ _ (show (65 : Nat) ≠ 71 by decide), p_up_n _ _ (show (66 : Nat) ≠ 65 by decide), p_up_n _ _ (show (66 : Nat) ≠ 67 by decide), p_up_n _ _ (show (66 : Nat) ≠ 68 by decide), p_up_n _ _ (show (66 : Nat) ≠ 69 by decide), p_up_n _ _ (show (66 : Nat) ≠ 70 by decide), p_up_n _ _ (show (66 : Nat) ≠ 71 by decide), p_up_n _ _ (show (67 : Nat) ≠ 65 by decide), p_up_n _ _ (show (67 : Nat) ≠ 66 by decide), p_up_n _ _ (show (67 : Nat) ≠ 68 by decide), p_up_n _ _ (show (67 : Nat) ≠ 69 by decide), p_up_n _ _ (show (67 : Nat) ≠ 70 by decide), p_up_n _ _ (show (67 : Nat) ≠ 71 by decide), p_up_n _ _ (show (68 : Nat) ≠ 65 by decide), p_up_n _ _ (show (68 : Nat) ≠ 66 by decide), p_up_n _ _ (show (68 : Nat) ≠ 67 by decide), p_up_n _ _ (show (68 : Nat) ≠ 69 by decide), p_up_n _ _ (show (68 : Nat) ≠ 70 by decide), p_up_n _ _ (show (68 : Nat) ≠ 71 by decide), p_up_n _ _ (show (69 : Nat) ≠ 65 by decide), p_up_n _ _ (show (69 : Nat) ≠ 66 by decide), p_up_n _ _ (show (69 : Nat) ≠ 67 by decide), p_up_n _ _ (show (69 : Nat) ≠ 68 by decide), p_up_n _ _ (show (69 : Nat) ≠ 70 by decide), p_up_n _ _ (show (69 : Nat) ≠ 71 by decide), p_up_n _ _ (show (70 : Nat) ≠ 65 by decide), p_up_n _ _ (show (70 : Nat) ≠ 66 by decide), p_up_n _ _ (show (70 : Nat) ≠ 67 by decide), p_up_n _ _ (show (70 : Nat) ≠ 68 by decide), p_up_n _ _ (show (70 : Nat) ≠ 69 by decide), p_up_n _ _ (show (70 : Nat) ≠ 71 by decide), p_up_n _ _ (show (71 : Nat) ≠ 65 by decide), p_up_n _ _ (show (71 : Nat) ≠ 66 by decide), p_up_n _ _ (show (71 : Nat) ≠ 67 by decide), p_up_n _ _ (show (71 : Nat) ≠ 68 by decide), p_up_n _ _ (show (71 : Nat) ≠ 69 by decide), p_up_n _ _ (show (71 : Nat) ≠ 70 by decide), p_up_s, h5]
  · simp only [rf_jM, p_up_n _ _ (show (65 : Nat) ≠ 66 by decide), p_up_n _ _ (show (65 : Nat) ≠ 67 by decide), p_up_n _ _ (show (65 : Nat) ≠ 68 by decide), p_up_n _ _ (show (65 : Nat) ≠ 69 by decide), p_up_n _ _ (show (65 : Nat) ≠ 70 by decide), p_up_n _ _ (show (65 : Nat) ≠ 71 by decide), p_up_n _ _ (show (66 : Nat) ≠ 65 by decide), p_up_n _ _ (show (66 : Nat) ≠ 67 by decide), p_up_n _ _ (show (66 : Nat) ≠ 68 by decide), p_up_n _ _ (show (66 : Nat) ≠ 69 by decide), p_up_n _ _ (show (66 : Nat) ≠ 70 by decide), p_up_n _ _ (show (66 : Nat) ≠ 71 by decide), p_up_n _ _ (show (67 : Nat) ≠ 65 by decide), p_up_n _ _ (show (67 : Nat) ≠ 66 by decide), p_up_n _ _ (show (67 : Nat) ≠ 68 by decide), p_up_n _ _ (show (67 : Nat) ≠ 69 by decide), p_up_n _ _ (show (67 : Nat) ≠ 70 by decide), p_up_n _ _ (show (67 : Nat) ≠ 71 by decide), p_up_n _ _ (show (68 : Nat) ≠ 65 by decide), p_up_n _ _ (show (68 : Nat) ≠ 66 by decide), p_up_n _ _ (show (68 : Nat) ≠ 67 by decide), p_up_n _ _ (show (68 : Nat) ≠ 69 by decide), p_up_n _ _ (show (68 : Nat) ≠ 70 by decide), p_up_n _ _ (show (68 : Nat) ≠ 71 by decide), p_up_n _ _ (show (69 : Nat) ≠ 65 by decide), p_up_n _ _ (show (69 : Nat) ≠ 66 by decide), p_up_n _ _ (show (69 : Nat) ≠ 67 by decide), p_up_n _ _ (show (69 : Nat) ≠ 68 by decide), p_up_n _ _ (show (69 : Nat) ≠ 70 by decide), p_up_n _ _ (show (69 : Nat) ≠ 71 by decide), p_up_n _ _ (show (70 : Nat) ≠ 65 by decide), p_up_n _ _ (show (70 : Nat) ≠ 66 by decide), p_up_n _ _ (show (70 : Nat) ≠ 67 by decide), p_up_n _ _ (show (70 : Nat) ≠ 68 by decide), p_up_n _ _ (show (70 : Nat) ≠ 69 by decide), p_up_n _ _ (show (70 : Nat) ≠ 71 by decide), p_up_n _ _ (show (71 : Nat) ≠ 65 by decide), p_up_n _ _ (show (71 : Nat) ≠ 66 by decide), p_up_n _ _ (show (71 : Nat) ≠ 67 by decide), p_up_n _ _ (show (71 : Nat) ≠ 68 by decide), p_up_n _ _ (show (71 : Nat) ≠ 69 by decide), p_up_n _ _ (show (71 : Nat) ≠ 70 by decide), p_up_s, h6]
  · simp only [rf_jM, p_up_n _ _ (show (65 : Nat) ≠ 66 by decide), p_up_n _ _ (show (65 : Nat) ≠ 67 by decide), p_up_n _ _ (show (65 : Nat) ≠ 68 by decide), p_up_n _ _ (show (65 : Nat) ≠ 69 by decide), p_up_n _ _ (show (65 : Nat) ≠ 70 by decide), p_up_n _ _ (show (65 : Nat) ≠ 71 by decide), p_up_n _ _ (show (66 : Nat) ≠ 65 by decide), p_up_n _ _ (show (66 : Nat) ≠ 67 by decide), p_up_n _ _ (show (66 : Nat) ≠ 68 by decide), p_up_n _ _ (show (66 : Nat) ≠ 69 by decide), p_up_n _ _ (show (66 : Nat) ≠ 70 by decide), p_up_n _ _ (show (66 : Nat) ≠ 71 by decide), p_up_n _ _ (show (67 : Nat) ≠ 65 by decide), p_up_n _ _ (show (67 : Nat) ≠ 66 by decide), p_up_n _ _ (show (67 : Nat) ≠ 68 by decide), p_up_n _ _ (show (67 : Nat) ≠ 69 by decide), p_up_n _ _ (show (67 : Nat) ≠ 70 by decide), p_up_n _ _ (show (67 : Nat) ≠ 71 by decide), p_up_n _ _ (show (68 : Nat) ≠ 65 by decide), p_up_n _ _ (show (68 : Nat) ≠ 66 by decide), p_up_n _ _ (show (68 : Nat) ≠ 67 by decide), p_up_n _ _ (show (68 : Nat) ≠ 69 by decide), p_up_n _ _ (show (68 : Nat) ≠ 70 by decide), p_up_n _ _ (show (68 : Nat) ≠ 71 by decide), p_up_n _ _ (show (69 : Nat) ≠ 65 by decide), p_up_n _ _ (show (69 : Nat) ≠ 66 by decide), p_up_n _ _ (show (69 : Nat) ≠ 67 by decide), p_up_n _ _ (show (69 : Nat) ≠ 68 by decide), p_up_n _ _ (show (69 : Nat) ≠ 70 by decide), p_up_n _ _ (show (69 : Nat) ≠ 71 by decide), p_up_n _ _ (show (70 : Nat) ≠ 65 by decide), p_up_n _ _ (show (70 : Nat) ≠ 66 by decide), p_up_n _ _ (show (70 : Nat) ≠ 67 by decide), p_up_n _ _ (show (70 : Nat) ≠ 68 by decide), p_up_n _ _ (show (70 : Nat) ≠ 69 by decide), p_up_n _ _ (show (70 : Nat) ≠ 71 by decide), p_up_n _ _ (show (71 : Nat) ≠ 65 by decide), p_up_n _ _ (show (71 : Nat) ≠ 66 by decide), p_up_n _ _ (show (71 : Nat) ≠ 67 by decide), p_up_n _ _ (show (71 : Nat) ≠ 68 by decide), p_up_n _ _ (show (71 : Nat) ≠ 69 by decide), p_up_n _ _ (show (71 : Nat) ≠ 70 by decide), p_up_s]
    by_cases e : l = t.2.2.2
    · subst e
      refine ⟨fun z => absurd z (by omega), fun _ => ?_⟩
      simp only [p_up_s, and_self]
    · simp only [p_up_n _ _ e]
      exact h8 l (by have : l < t.2.2.2 + 1 := hl; omega)
theorem lX12_lines {I : Nat → Nat → Int32} {J : Nat → Nat → Int64} {p : Bool × Option Nat} {ro : List (Nat × Nat × (Nat → Int32))} {n0 : Nat} {s z : Nat} (hs : s < 6) (hz : I 99 s = nI z) (hz60 : z ≤ 60) {N : Nat} (hN : N ≤ 8) {k q : Nat} (hk : k ≤ N) (hq : q < 2 ^ 31) {t : LnS} (ht8 : t.2.2.2 ≤ 8) {I1 : Nat → Nat → Int32} (hL : LMR n0 I t I1) {o5 o7 : Option Value} : Px 2 0 0 CX12_lines 34 [some (.ref (65)), some (.int (nI s)), some (.int (nI q)), some (.int (nI N)), some (.int (nI k)), o5, none, o7] [] (gS, I1, J, gR p, ro) (fun r S' => r = some (.int (nI (sp_li (fun j => (J 100 (60 * s + j)).toInt32) z (N - k) (q + 3 * k) k t).2)) ∧ ∃ I', S' = (gS, I', J, gR p, ro) ∧ LMR n0 I (sp_li (fun j => (J 100 (60 * s + j)).toInt32) z (N - k) (q + 3 * k) k t).1 I') := by
  refine px_iload rfl rfl ?_
  refine px_iload_n (kk := 3) rfl rfl rfl ?_
  refine px_icmp_ge rfl (fun c36 => ?_) (fun c36 => ?_)
  · refine px_iload_n (kk := 3) rfl rfl rfl ?_
    refine px_ireturn rfl (.inl rfl) ?_
    rw [n_le (by omega) (by omega)] at c36
    obtain rfl : k = N := by omega
    rw [Nat.sub_self]
    exact ⟨rfl, I1, rfl, hL⟩
  · rw [n_le (by omega) (by omega)] at c36
    refine px_iload_n (kk := 2) rfl rfl rfl ?_
    refine px_i2l rfl ?_
    refine px_iconst (v := nI 3) rfl k_3 ?_
    refine px_iload rfl rfl ?_
    refine px_imulN rfl ?_
    refine px_i2l rfl ?_
    refine px_ladd rfl ?_
    refine px_jeq (y := lN (q + 3 * k)) (by rw [j_nI (by omega), j_nI (by omega), j_add (by omega) (by omega)]) ?_
    refine px_lst5 rfl rfl (by decide) ?_
    refine px_lload rfl rfl ?_
    refine px_lconst (v := 0) rfl (by decide) ?_
    refine px_lcmp rfl ?_
    refine px_if_lt rfl (fun h => absurd h (fun z => by rw [lg_cmp_lt, l_0, pk_lLT (by omega) (by omega)] at z; omega)) (fun c48 => ?_)
    refine px_lload rfl rfl ?_
    refine px_ldc2_w (v := 2) rfl (by decide) ?_
    refine px_ladd rfl ?_
    refine px_jeq (y := lN (q + 3 * k + 2)) (by rw [l_2, j_add (by omega) (by omega)]) ?_
    refine px_aload_n (kk := 0) rfl rfl rfl ?_
    refine px_getR (r := 99) rfl gS_65 rfl (gR_65_60 _) ?_
    refine px_iload_n (kk := 1) rfl rfl rfl ?_
    refine px_ialde (j := s) (v := nI z) rfl gS_99 rfl hs ((congrFun (hL.1 99 (by decide)) s).trans hz) ?_
    refine px_i2l rfl ?_
    refine px_jeq (y := lN z) (j_nI (by omega)) ?_
    refine px_lcmp rfl ?_
    refine px_if_ge rfl (fun c58 => ?_) (fun c58 => ?_)
    · refine px_iload rfl rfl ?_
      refine px_ireturn rfl (.inl rfl) ?_
      rw [show N - k = (N - (k + 1)) + 1 by omega]
      unfold sp_li
      rw [if_neg (fun h => by rw [lg_cmp_ge, pk_lLE (by omega) (by omega)] at c58; omega)]
      exact ⟨rfl, I1, rfl, hL⟩
    · replace c58 : q + 3 * k + 3 ≤ z := by
        rw [lg_cmp_ge, pk_lLE (by omega) (by omega)] at c58
        omega
      refine px_aload_n (kk := 0) rfl rfl rfl ?_
      refine px_getIe (v := nI t.2.2.2) rfl gS_65 rfl hL.2.2.1 ?_
      refine px_bipush (v := nI 8) rfl b_8 ?_
      refine px_icmp_ne rfl (fun c62 => ?_) (fun c62 => ?_)
      · have ht7 : t.2.2.2 < 8 := by rw [ne_eq, n_eq (by omega) (by omega)] at c62; omega
        refine px_bipush (v := nI 60) rfl b_60 ?_
        refine px_iload_n (kk := 1) rfl rfl rfl ?_
        refine px_imulN rfl ?_
        refine px_lload rfl rfl ?_
        refine px_l2i rfl ?_
        refine px_ieq (y := nI (q + 3 * k)) (j_back (by omega)) ?_
        refine px_iaddN rfl ?_
        refine px_ist7 rfl rfl (by decide) ?_
        refine px_aload_n (kk := 0) rfl rfl rfl ?_
        refine px_getR (r := 100) rfl gS_65 rfl (gR_65_61 _) ?_
        refine px_iload rfl rfl ?_
        refine px_lald (j := 60 * s + (q + 3 * k)) rfl gS_100 rfl (by omega) ?_
        refine px_l2i rfl ?_
        refine px_callS0 CX12_isWarm [] [.int _] (vX12_isWarm) rfl rfl rfl (Nat.le_of_ble_eq_true rfl) (by decide) ?_
        rintro _ _ - (⟨hw0, rfl, rfl⟩ | ⟨hw0, rfl, rfl⟩)
        · refine px_if_eq rfl (fun h => absurd h (by decide)) (fun _ => ?_)
          refine px_aload_n (kk := 0) rfl rfl rfl ?_
          refine px_getR (r := 100) rfl gS_65 rfl (gR_65_61 _) ?_
          refine px_iload rfl rfl ?_
          refine px_iconst (v := nI 1) rfl k_1 ?_
          refine px_iaddN rfl ?_
          refine px_lald (j := 60 * s + (q + 3 * k) + 1) rfl gS_100 rfl (by omega) ?_
          refine px_l2i rfl ?_
          refine px_callS0 CX12_isWarm [] [.int _] (vX12_isWarm) rfl rfl rfl (Nat.le_of_ble_eq_true rfl) (by decide) ?_
          rintro _ _ - (⟨hw1, rfl, rfl⟩ | ⟨hw1, rfl, rfl⟩)
          · refine px_if_eq rfl (fun h => absurd h (by decide)) (fun _ => ?_)
            refine px_aload_n (kk := 0) rfl rfl rfl ?_
            refine px_getR (r := 100) rfl gS_65 rfl (gR_65_61 _) ?_
            refine px_iload rfl rfl ?_
            refine px_iconst (v := nI 2) rfl k_2 ?_
            refine px_iaddN rfl ?_
            refine px_lald (j := 60 * s + (q + 3 * k) + 2) rfl gS_100 rfl (by omega) ?_
            refine px_l2i rfl ?_
            refine px_iconst (v := nI 0) rfl k_0 ?_
            refine px_iconst (v := nI 3) rfl k_3 ?_
            refine px_callS0 CX12_in [] [.int _, .int _, .int _] (vX12_in) rfl rfl rfl (Nat.le_of_ble_eq_true rfl) (by decide) ?_
            rintro _ _ - (⟨hw2, rfl, rfl⟩ | ⟨hw2, rfl, rfl⟩)
            · refine px_if_ne rfl (fun _ => ?_) (fun h => absurd h (by decide))
              refine px_aload_n (kk := 0) rfl rfl rfl ?_
              refine px_aload_n (kk := 0) rfl rfl rfl ?_
              refine px_getR (r := 100) rfl gS_65 rfl (gR_65_61 _) ?_
              refine px_iload rfl rfl ?_
              refine px_lald (j := 60 * s + (q + 3 * k)) rfl gS_100 rfl (by omega) ?_
              refine px_l2i rfl ?_
              refine px_aload_n (kk := 0) rfl rfl rfl ?_
              refine px_getR (r := 100) rfl gS_65 rfl (gR_65_61 _) ?_
              refine px_iload rfl rfl ?_
              refine px_iconst (v := nI 1) rfl k_1 ?_
              refine px_iaddN rfl ?_
              refine px_lald (j := 60 * s + (q + 3 * k) + 1) rfl gS_100 rfl (by omega) ?_
              refine px_l2i rfl ?_
              refine px_aload_n (kk := 0) rfl rfl rfl ?_
              refine px_getR (r := 100) rfl gS_65 rfl (gR_65_61 _) ?_
              refine px_iload rfl rfl ?_
              refine px_iconst (v := nI 2) rfl k_2 ?_
              refine px_iaddN rfl ?_
              refine px_lald (j := 60 * s + (q + 3 * k) + 2) rfl gS_100 rfl (by omega) ?_
              refine px_l2i rfl ?_
              refine px_callV0 CX12_addLine [] [.int _, .int _, .int _] (vX12_addLine hL.2.2.1 ht8 ht7) rfl gS_65 (by decide) rfl rfl rfl (Nat.le_of_ble_eq_true rfl) (by decide) ?_
              rintro _ _ - ⟨rfl, rfl⟩
              refine px_pop rfl rfl ?_
              refine px_iinc4 (v := nI (k + 1)) rfl (n_inc k) rfl (by decide) ?_
              refine px_goto rfl ?_
              rw [show N - k = (N - (k + 1)) + 1 by omega]
              unfold sp_li
              rw [if_pos ⟨c58, ht7, hw0, hw1, (in_m (k := 2) (lo := nI 0) (hi := nI 3) (by simp only [sp_may]; rfl)).mp hw2⟩]
              exact lX12_lines hs hz hz60 hN (k := k + 1) (q := q) (by omega) hq (t := (_, _, _, _)) ht7 (LMR_j hL _ _ _)
            · refine px_if_ne rfl (fun h => absurd h (by decide)) (fun _ => ?_)
              refine px_iload rfl rfl ?_
              refine px_ireturn rfl (.inl rfl) ?_
              rw [show N - k = (N - (k + 1)) + 1 by omega]
              unfold sp_li
              rw [if_neg (fun h => hw2 ((in_m (k := 2) (lo := nI 0) (hi := nI 3) (by simp only [sp_may]; rfl)).mpr h.2.2.2.2))]
              exact ⟨rfl, I1, rfl, hL⟩
          · refine px_if_eq rfl (fun _ => ?_) (fun h => absurd h (by decide))
            refine px_iload rfl rfl ?_
            refine px_ireturn rfl (.inl rfl) ?_
            rw [show N - k = (N - (k + 1)) + 1 by omega]
            unfold sp_li
            rw [if_neg (fun h => hw1 h.2.2.2.1)]
            exact ⟨rfl, I1, rfl, hL⟩
        · refine px_if_eq rfl (fun _ => ?_) (fun h => absurd h (by decide))
          refine px_iload rfl rfl ?_
          refine px_ireturn rfl (.inl rfl) ?_
          rw [show N - k = (N - (k + 1)) + 1 by omega]
          unfold sp_li
          rw [if_neg (fun h => hw0 h.2.2.1)]
          exact ⟨rfl, I1, rfl, hL⟩
      · refine px_iload rfl rfl ?_
        refine px_ireturn rfl (.inl rfl) ?_
        rw [show N - k = (N - (k + 1)) + 1 by omega]
        unfold sp_li
        rw [if_neg (fun h => by have := h.2.1; rw [n_eq (by omega) (by omega)] at c62; omega)]
        exact ⟨rfl, I1, rfl, hL⟩
termination_by N - k
decreasing_by all_goals (have h := ‹¬ nI N ≤ nI k›; rw [n_le (by omega) (by omega)] at h; omega)
theorem lX12_linesN {I : Nat → Nat → Int32} {J : Nat → Nat → Int64} {p : Bool × Option Nat} {ro : List (Nat × Nat × (Nat → Int32))} {s N : Nat} (hN1 : 1 ≤ N) (hN : N ≤ 8) {y : Int32} (hy : y < 0) : Px 2 0 0 CX12_lines 34 [some (.ref (65)), some (.int (nI s)), some (.int (y)), some (.int (nI N)), some (.int (nI 0)), none, none, none] [] (gS, I, J, gR p, ro) (qI (nI 0) (gS, I, J, gR p, ro)) := by
  refine px_iload rfl rfl ?_
  refine px_iload_n (kk := 3) rfl rfl rfl ?_
  refine px_icmp_ge rfl (fun h => absurd h (fun z => by rw [n_le (by omega) (by omega)] at z; omega)) (fun c36 => ?_)
  refine px_iload_n (kk := 2) rfl rfl rfl ?_
  refine px_i2l rfl ?_
  refine px_iconst (v := nI 3) rfl k_3 ?_
  refine px_iload rfl rfl ?_
  refine px_imulN rfl ?_
  refine px_i2l rfl ?_
  refine px_ladd rfl ?_
  refine px_lst5 rfl rfl (by decide) ?_
  refine px_lload rfl rfl ?_
  refine px_lconst (v := 0) rfl (by decide) ?_
  refine px_lcmp rfl ?_
  refine px_if_lt rfl (fun c48 => ?_) (fun h => absurd (by rw [lg_cmp_lt]; exact j_neg hy) h)
  refine px_iload rfl rfl ?_
  refine px_ireturn rfl (.inl rfl) ?_
  exact ⟨rfl, rfl⟩
theorem or3 {x : Int32} : x = -1 ∨ x = -2 ∨ (x ≠ -1 ∧ x ≠ -2) := by
  by_cases e1 : x = -1
  · exact .inl e1
  · by_cases e2 : x = -2
    · exact .inr (.inl e2)
    · exact .inr (.inr ⟨e1, e2⟩)
theorem vX12_lines {I : Nat → Nat → Int32} {J : Nat → Nat → Int64} {p : Bool × Option Nat} {ro : List (Nat × Nat × (Nat → Int32))} {n : Nat} (hn : I 65 1 = nI n) (hn8 : n ≤ 8) (hSZ : ∀ s, s < 6 → ∃ z, z ≤ 60 ∧ I 99 s = nI z) {x y w : Int32} : Pv 2 0 0 CX12_lines [.ref (65), .int (x), .int (y), .int (w)] (gS, I, J, gR p, ro) (fun r S' => (¬ ((∃ s, s < 6 ∧ x = nI s) ∧ ∃ m, 1 ≤ m ∧ m ≤ 8 ∧ w = nI m) ∧ r = some (.int (-1)) ∧ S' = (gS, I, J, gR p, ro)) ∨ ∃ s m, s < 6 ∧ x = nI s ∧ 1 ≤ m ∧ m ≤ 8 ∧ w = nI m ∧ ((I 98 s = -1 ∧ r = some (.int (nI 0)) ∧ S' = (gS, I, J, gR p, ro)) ∨ (I 98 s ≠ -1 ∧ I 98 s ≠ -2 ∧ r = some (.int (-12)) ∧ S' = (gS, I, J, gR p, ro)) ∨ (I 98 s = -2 ∧ ((y < 0 ∧ r = some (.int (nI 0)) ∧ S' = (gS, I, J, gR p, ro)) ∨ ∃ q, q < 2 ^ 31 ∧ y = nI q ∧ r = some (.int (nI (sp_li (fun j => (J 100 (60 * s + j)).toInt32) (mN (I 99 s)) m q 0 (I 66, I 67, I 68, n)).2)) ∧ ∃ I', S' = (gS, I', J, gR p, ro) ∧ LMR n I (sp_li (fun j => (J 100 (60 * s + j)).toInt32) (mN (I 99 s)) m q 0 (I 66, I 67, I 68, n)).1 I')))) := by
  refine ⟨okCX12_lines, Nat.le_of_ble_eq_true rfl, (show Px _ _ _ _ 0 [some (.ref (65)), some (.int (x)), some (.int (y)), some (.int (w)), none, none, none, none] [] _ _ from ?_)⟩
  refine px_iload_n (kk := 1) rfl rfl rfl ?_
  refine px_callS0 CX12_isShelf [] [.int _] (vX12_isShelf) rfl rfl rfl (Nat.le_of_ble_eq_true rfl) (by decide) ?_
  rintro _ _ - (⟨⟨s, hs, rfl⟩, rfl, rfl⟩ | ⟨hs, rfl, rfl⟩)
  · refine px_if_eq rfl (fun h => absurd h (by decide)) (fun _ => ?_)
    refine px_iload_n (kk := 3) rfl rfl rfl ?_
    refine px_iconst (v := nI 1) rfl k_1 ?_
    refine px_bipush (v := nI 8) rfl b_8 ?_
    refine px_callS0 CX12_in [] [.int _, .int _, .int _] (vX12_in) rfl rfl rfl (Nat.le_of_ble_eq_true rfl) (by decide) ?_
    rintro _ _ - (⟨hm, rfl, rfl⟩ | ⟨hm, rfl, rfl⟩)
    · obtain ⟨m, hm1, hm8, rfl⟩ := (in_nn (by decide) (by decide)).mp hm
      refine px_if_ne rfl (fun _ => ?_) (fun h => absurd h (by decide))
      rcases or3 (x := I 98 s) with h | h | ⟨hq1, hq2⟩
      · skip
        refine px_aload_n (kk := 0) rfl rfl rfl ?_
        refine px_getR (r := 98) rfl gS_65 rfl (gR_65_59 _) ?_
        refine px_iload_n (kk := 1) rfl rfl rfl ?_
        refine px_ialde (j := s) (v := -1) rfl gS_98 rfl hs h ?_
        refine px_iconst (v := -1) rfl k_m1 ?_
        refine px_icmp_eq rfl (fun _ => ?_) (fun h => absurd h (by decide))
        refine px_aload_n (kk := 0) rfl rfl rfl ?_
        refine px_getR (r := 98) rfl gS_65 rfl (gR_65_59 _) ?_
        refine px_iload_n (kk := 1) rfl rfl rfl ?_
        refine px_ialde (j := s) (v := -1) rfl gS_98 rfl hs h ?_
        refine px_iconst (v := -1) rfl k_m1 ?_
        refine px_icmp_ne rfl (fun h => absurd h (by decide)) (fun _ => ?_)
        refine px_iconst (v := nI 0) rfl k_0 ?_
        refine px_ireturn rfl (.inl rfl) ?_
        exact .inr ⟨s, m, hs, rfl, hm1, hm8, rfl, .inl ⟨h, rfl, rfl⟩⟩
      · skip
        refine px_aload_n (kk := 0) rfl rfl rfl ?_
        refine px_getR (r := 98) rfl gS_65 rfl (gR_65_59 _) ?_
        refine px_iload_n (kk := 1) rfl rfl rfl ?_
        refine px_ialde (j := s) (v := -2) rfl gS_98 rfl hs h ?_
        refine px_iconst (v := -1) rfl k_m1 ?_
        refine px_icmp_eq rfl (fun h => absurd h (by decide)) (fun _ => ?_)
        refine px_aload_n (kk := 0) rfl rfl rfl ?_
        refine px_getR (r := 98) rfl gS_65 rfl (gR_65_59 _) ?_
        refine px_iload_n (kk := 1) rfl rfl rfl ?_
        refine px_ialde (j := s) (v := -2) rfl gS_98 rfl hs h ?_
        refine px_bipush (v := -2) rfl b_m2 ?_
        refine px_icmp_eq rfl (fun _ => ?_) (fun h => absurd h (by decide))
        refine px_aload_n (kk := 0) rfl rfl rfl ?_
        refine px_getR (r := 98) rfl gS_65 rfl (gR_65_59 _) ?_
        refine px_iload_n (kk := 1) rfl rfl rfl ?_
        refine px_ialde (j := s) (v := -2) rfl gS_98 rfl hs h ?_
        refine px_iconst (v := -1) rfl k_m1 ?_
        refine px_icmp_ne rfl (fun _ => ?_) (fun h => absurd h (by decide))
        refine px_iconst (v := nI 0) rfl k_0 ?_
        refine px_ist4 rfl rfl (by decide) ?_
        by_cases hy : y < 0
        · refine pxv_post (lX12_linesN hm1 hm8 hy) (fun r S hr => ?_)
          obtain ⟨rfl, rfl⟩ := hr
          exact .inr ⟨s, m, hs, rfl, hm1, hm8, rfl, .inr (.inr ⟨h, .inl ⟨hy, rfl, rfl⟩⟩)⟩
        · obtain ⟨q, hq, rfl⟩ := n_ofn hy
          obtain ⟨z, hz60, hz⟩ := hSZ s hs
          refine pxv_post (lX12_lines (n0 := n) hs hz hz60 hm8 (k := 0) (q := q) (by omega) hq (t := (I 66, I 67, I 68, n)) hn8 ⟨Fr_rf, fun _ _ => rfl, hn, rfl, rfl, rfl, Nat.le_refl _, fun l hl => ⟨fun _ => ⟨rfl, rfl⟩, fun z => absurd z (by have : l < n := hl; omega)⟩⟩) (fun r S hr => ?_)
          obtain ⟨rfl, I2, rfl, hL⟩ := hr
          exact .inr ⟨s, m, hs, rfl, hm1, hm8, rfl, .inr (.inr ⟨h, .inr ⟨q, hq, rfl, by rw [hz, mN_n (by omega)]; rfl, I2, rfl, by rw [hz, mN_n (by omega)]; exact hL⟩⟩)⟩
      · skip
        refine px_aload_n (kk := 0) rfl rfl rfl ?_
        refine px_getR (r := 98) rfl gS_65 rfl (gR_65_59 _) ?_
        refine px_iload_n (kk := 1) rfl rfl rfl ?_
        refine px_iald (j := s) rfl gS_98 rfl hs ?_
        refine px_iconst (v := -1) rfl k_m1 ?_
        refine px_icmp_eq rfl (fun h => absurd h hq1) (fun c15 => ?_)
        refine px_aload_n (kk := 0) rfl rfl rfl ?_
        refine px_getR (r := 98) rfl gS_65 rfl (gR_65_59 _) ?_
        refine px_iload_n (kk := 1) rfl rfl rfl ?_
        refine px_iald (j := s) rfl gS_98 rfl hs ?_
        refine px_bipush (v := -2) rfl b_m2 ?_
        refine px_icmp_eq rfl (fun h => absurd h hq2) (fun c21 => ?_)
        refine px_bipush (v := -12) rfl b_m12 ?_
        refine px_ireturn rfl (.inl rfl) ?_
        exact .inr ⟨s, m, hs, rfl, hm1, hm8, rfl, .inr (.inl ⟨hq1, hq2, rfl, rfl⟩)⟩
    · refine px_if_ne rfl (fun h => absurd h (by decide)) (fun _ => ?_)
      refine px_iconst (v := -1) rfl k_m1 ?_
      refine px_ireturn rfl (.inl rfl) ?_
      exact .inl ⟨fun ⟨_, m, h1, h2, h3⟩ => hm ((in_nn (by decide) (by decide)).mpr ⟨m, h1, h2, h3⟩), rfl, rfl⟩
  · refine px_if_eq rfl (fun _ => ?_) (fun h => absurd h (by decide))
    refine px_iconst (v := -1) rfl k_m1 ?_
    refine px_ireturn rfl (.inl rfl) ?_
    exact .inl ⟨fun h => hs h.1, rfl, rfl⟩
theorem vX12_feed {I : Nat → Nat → Int32} {J : Nat → Nat → Int64} {p : Bool × Option Nat} {ro : List (Nat × Nat × (Nat → Int32))} {q : Nat} (hq : I 65 17 = nI q) (hq120 : q ≤ 120) {x : Int32} : Pv 1 0 0 CX12_feed [.ref (65), .int (x)] (gS, I, J, gR p, ro) (fun r S' => (¬ (∃ a, a ≤ 255 ∧ x = nI a) ∧ r = some (.int (-1)) ∧ S' = (gS, I, J, gR p, ro)) ∨ (∃ a, a ≤ 255 ∧ x = nI a ∧ ((q = 120 ∧ r = some (.int (-3)) ∧ S' = (gS, I, J, gR p, ro)) ∨ (q < 120 ∧ r = some (.int (nI (q + 1))) ∧ S' = (gS, (va_up (va_up I 76 (va_up (I 76) q ((nI a).toInt8.toInt32))) 65 (va_up (I 65) 17 (nI (q + 1)))), J, gR p, ro))))) := by
  refine ⟨okCX12_feed, Nat.le_of_ble_eq_true rfl, (show Px _ _ _ _ 0 [some (.ref (65)), some (.int (x))] [] _ _ from ?_)⟩
  refine px_iload_n (kk := 1) rfl rfl rfl ?_
  refine px_iconst (v := nI 0) rfl k_0 ?_
  refine px_sipush (v := nI 255) rfl s_255 ?_
  refine px_callS0 CX12_in [] [.int _, .int _, .int _] (vX12_in) rfl rfl rfl (Nat.le_of_ble_eq_true rfl) (by decide) ?_
  rintro _ _ - (⟨h, rfl, rfl⟩ | ⟨h, rfl, rfl⟩)
  · obtain ⟨a, -, ha, rfl⟩ := (in_nn (by decide) (by decide)).mp h
    refine px_if_ne rfl (fun _ => ?_) (fun h => absurd h (by decide))
    skip
    refine px_aload_n (kk := 0) rfl rfl rfl ?_
    refine px_getIe (v := nI q) rfl gS_65 rfl hq ?_
    refine px_bipush (v := nI 120) rfl b_120 ?_
    refine px_icmp_ne rfl (fun c10 => ?_) (fun c10 => ?_)
    · have hq2 : q < 120 := by rw [ne_eq, n_eq (by omega) (by omega)] at c10; omega
      refine px_aload_n (kk := 0) rfl rfl rfl ?_
      refine px_getR (r := 76) rfl gS_65 rfl (gR_65_16 _) ?_
      refine px_aload_n (kk := 0) rfl rfl rfl ?_
      refine px_getIe (v := nI q) rfl gS_65 rfl hq ?_
      refine px_iload_n (kk := 1) rfl rfl rfl ?_
      refine px_i2b rfl ?_
      refine px_bast (j := q) rfl gS_76 rfl hq2 ?_
      refine px_aload_n (kk := 0) rfl rfl rfl ?_
      refine px_dup rfl rfl ?_
      refine px_getIe (v := nI q) rfl gS_65 rfl ((congrFun (p_up_n _ _ (by decide)) 17).trans hq) ?_
      refine px_iconst (v := nI 1) rfl k_1 ?_
      refine px_iaddN rfl ?_
      refine px_putI rfl gS_65 rfl rfl ?_
      refine px_aload_n (kk := 0) rfl rfl rfl ?_
      refine px_getIe (v := nI (q + 1)) rfl gS_65 rfl (by rw [p_up_s, p_up_s]) ?_
      refine px_ireturn rfl (.inl rfl) ?_
      exact .inr ⟨a, ha, rfl, .inr ⟨hq2, rfl, by rw [p_up_n _ _ (show (65 : Nat) ≠ 76 by decide), Int8.toInt8_toInt32]⟩⟩
    · refine px_bipush (v := -3) rfl b_m3 ?_
      refine px_ireturn rfl (.inl rfl) ?_
      exact .inr ⟨a, ha, rfl, .inl ⟨by rw [n_eq (by omega) (by omega)] at c10; exact c10, rfl, rfl⟩⟩
  · refine px_if_ne rfl (fun h => absurd h (by decide)) (fun _ => ?_)
    refine px_iconst (v := -1) rfl k_m1 ?_
    refine px_ireturn rfl (.inl rfl) ?_
    exact .inl ⟨fun ⟨a, h1, h2⟩ => h ((in_nn (by decide) (by decide)).mpr ⟨a, Nat.zero_le _, h1, h2⟩), rfl, rfl⟩
theorem vX3_take {I : Nat → Nat → Int32} {J : Nat → Nat → Int64} {p : Bool × Option Nat} {ro : List (Nat × Nat × (Nat → Int32))} {q : Nat} (hq : I 6 5 = nI q) (hq120 : q ≤ 120) {x : Int32} : Pv 0 0 0 CX3_take [.ref (6), .int (x)] (gS, I, J, gR p, ro) (fun r S' => (q = 120 ∧ r = some (.int (nI 0)) ∧ S' = (gS, I, J, gR p, ro)) ∨ (q < 120 ∧ r = some (.int (nI 1)) ∧ S' = (gS, (va_up (va_up I 7 (va_up (I 7) q x)) 6 (va_up (I 6) 5 (nI (q + 1)))), J, gR p, ro))) := by
  refine ⟨okCX3_take, Nat.le_of_ble_eq_true rfl, (show Px _ _ _ _ 0 [some (.ref (6)), some (.int (x))] [] _ _ from ?_)⟩
  refine px_aload_n (kk := 0) rfl rfl rfl ?_
  refine px_getIe (v := nI q) rfl gS_6 rfl hq ?_
  refine px_bipush (v := nI 120) rfl b_120 ?_
  refine px_icmp_lt rfl (fun c3 => ?_) (fun c3 => ?_)
  · have hq2 : q < 120 := by rw [n_lt (by omega) (by omega)] at c3; exact c3
    refine px_aload_n (kk := 0) rfl rfl rfl ?_
    refine px_getR (r := 7) rfl gS_6 rfl (gR_6_1 _) ?_
    refine px_aload_n (kk := 0) rfl rfl rfl ?_
    refine px_getIe (v := nI q) rfl gS_6 rfl hq ?_
    refine px_iload_n (kk := 1) rfl rfl rfl ?_
    refine px_iast (j := q) rfl gS_7 rfl hq2 ?_
    refine px_aload_n (kk := 0) rfl rfl rfl ?_
    refine px_dup rfl rfl ?_
    refine px_getIe (v := nI q) rfl gS_6 rfl ((congrFun (p_up_n _ _ (by decide)) 5).trans hq) ?_
    refine px_iconst (v := nI 1) rfl k_1 ?_
    refine px_iaddN rfl ?_
    refine px_putI rfl gS_6 rfl rfl ?_
    refine px_iconst (v := nI 1) rfl k_1 ?_
    refine px_ireturn rfl (.inr ⟨rfl, by decide⟩) ?_
    exact .inr ⟨hq2, rfl, by rw [p_up_n _ _ (show (6 : Nat) ≠ 7 by decide)]⟩
  · refine px_iconst (v := nI 0) rfl k_0 ?_
    refine px_ireturn rfl (.inr ⟨rfl, by decide⟩) ?_
    exact .inl ⟨by rw [n_lt (by omega) (by omega)] at c3; omega, rfl, rfl⟩
theorem vX11_feed {I : Nat → Nat → Int32} {J : Nat → Nat → Int64} {p : Bool × Option Nat} {ro : List (Nat × Nat × (Nat → Int32))} {q : Nat} (hq : I 6 5 = nI q) (hq120 : q ≤ 120) {x : Int32} : Pv 1 0 0 CX11_feed [.ref (0), .int (x)] (gS, I, J, gR p, ro) (fun r S' => (¬ (∃ a, a ≤ 255 ∧ x = nI a) ∧ r = some (.int (-1)) ∧ S' = (gS, I, J, gR p, ro)) ∨ (∃ a, a ≤ 255 ∧ x = nI a ∧ ((q = 120 ∧ r = some (.int (-3)) ∧ S' = (gS, I, J, gR p, ro)) ∨ (q < 120 ∧ r = some (.int (nI (q + 1))) ∧ S' = (gS, (va_up (va_up I 7 (va_up (I 7) q (nI a))) 6 (va_up (I 6) 5 (nI (q + 1)))), J, gR p, ro))))) := by
  refine ⟨okCX11_feed, Nat.le_of_ble_eq_true rfl, (show Px _ _ _ _ 0 [some (.ref (0)), some (.int (x))] [] _ _ from ?_)⟩
  refine px_iload_n (kk := 1) rfl rfl rfl ?_
  refine px_if_lt rfl (fun c1 => ?_) (fun c1 => ?_)
  · refine px_iconst (v := -1) rfl k_m1 ?_
    refine px_ireturn rfl (.inl rfl) ?_
    exact .inl ⟨fun ⟨a, h1, h2⟩ => n_nneg (by omega) (h2 ▸ c1), rfl, rfl⟩
  · obtain ⟨a, hal, rfl⟩ := n_ofn c1
    refine px_iload_n (kk := 1) rfl rfl rfl ?_
    refine px_sipush (v := nI 255) rfl s_255 ?_
    refine px_icmp_le rfl (fun c4 => ?_) (fun c4 => ?_)
    · have ha : a ≤ 255 := by rw [n_le hal (by omega)] at c4; exact c4
      refine px_aload_n (kk := 0) rfl rfl rfl ?_
      refine px_getR (r := 6) rfl gS_0 rfl (gR_0_1 _) ?_
      refine px_iload_n (kk := 1) rfl rfl rfl ?_
      refine px_callV0 CX3_take [] [.int _] (vX3_take hq hq120) rfl gS_6 (by decide) rfl rfl rfl (Nat.le_of_ble_eq_true rfl) (by decide) ?_
      rintro _ _ - (⟨hq2, rfl, rfl⟩ | ⟨hq2, rfl, rfl⟩)
      · refine px_if_eq rfl (fun _ => ?_) (fun h => absurd h (by decide))
        refine px_bipush (v := -3) rfl b_m3 ?_
        refine px_ireturn rfl (.inl rfl) ?_
        exact .inr ⟨a, ha, rfl, .inl ⟨hq2, rfl, rfl⟩⟩
      · refine px_if_eq rfl (fun h => absurd h (by decide)) (fun _ => ?_)
        refine px_aload_n (kk := 0) rfl rfl rfl ?_
        refine px_getR (r := 6) rfl gS_0 rfl (gR_0_1 _) ?_
        refine px_getIe (v := nI (q + 1)) rfl gS_6 rfl (by rw [p_up_s, p_up_s]) ?_
        refine px_goto rfl ?_
        refine px_ireturn rfl (.inl rfl) ?_
        exact .inr ⟨a, ha, rfl, .inr ⟨hq2, rfl, rfl⟩⟩
    · refine px_iconst (v := -1) rfl k_m1 ?_
      refine px_ireturn rfl (.inl rfl) ?_
      exact .inl ⟨fun ⟨a2, h1, h2⟩ => by rw [n_eq hal (by omega)] at h2; subst h2; rw [n_le hal (by omega)] at c4; exact c4 h1, rfl, rfl⟩
theorem lX12_soon {I : Nat → Nat → Int32} {J : Nat → Nat → Int64} {p : Bool × Option Nat} {ro : List (Nat × Nat × (Nat → Int32))} {tx : List Ln} (hT : LawR tx I) {n : Nat} (hn : I 65 1 = nI n) (hn8 : n ≤ 8) (hL : LK n (I 69)) {a b : Nat} (ha : a < n) (hb : b < n) {x : Int32} {k : Nat} (hk : k ≤ 61) {wa wb : Int32} {I1 : Nat → Nat → Int32} (hF : Fr [82, 83] I I1) {o : Option Value} : Px 4 0 0 CX12_soon 26 [some (.ref (65)), some (.int (x)), some (.int (nI a)), some (.int (nI b)), some (.int (wa)), some (.int (wb)), some (.int (nI k)), o] [] (gS, I1, J, gR p, ro) (fun r S' => r = some (.int (sp_soon tx (I 69) (I 68) (I 67) (I 65 7) a b (61 - k) k wa wb)) ∧ ∃ I', S' = (gS, I', J, gR p, ro) ∧ Fr [82, 83] I I') := by
  refine px_iload rfl rfl ?_
  refine px_bipush (v := nI 60) rfl b_60 ?_
  refine px_icmp_gt rfl (fun c28 => ?_) (fun c28 => ?_)
  · refine px_bipush (v := -2) rfl b_m2 ?_
    refine px_ireturn rfl (.inl rfl) ?_
    rw [n_lt (by omega) (by omega)] at c28
    obtain rfl : k = 61 := by omega
    exact ⟨rfl, I1, rfl, hF⟩
  · rw [n_lt (by omega) (by omega)] at c28
    rw [show 61 - k = 60 - k + 1 by omega]
    unfold sp_soon
    refine px_iload rfl rfl ?_
    refine px_aload_n (kk := 0) rfl rfl rfl ?_
    refine px_getR (r := 67) rfl gS_65 rfl (gR_65_3 _) ?_
    refine px_iload_n (kk := 2) rfl rfl rfl ?_
    refine px_ialde (j := a) (v := I 67 a) rfl gS_67 rfl (by omega) (congrFun (hF 67 (by decide)) a) ?_
    refine px_icmp_lt rfl (fun c34 => ?_) (fun c34 => ?_)
    · refine px_iload rfl rfl ?_
      refine px_aload_n (kk := 0) rfl rfl rfl ?_
      refine px_iload_n (kk := 2) rfl rfl rfl ?_
      refine px_iload_n (kk := 3) rfl rfl rfl ?_
      refine px_iload rfl rfl ?_
      refine px_iload rfl rfl ?_
      refine px_iload rfl rfl ?_
      refine px_callV0 CX12_warmerBy [.int _] [.int _, .int _, .int _, .int _, .int _] (vX12_warmerBy (I := I1) (tx := tx) (LawR_mv hT (by rw [hF 65 (by decide)]) (fun c hc => hF c (fun e => by simp only [List.mem_cons, List.not_mem_nil, or_false] at e hc; omega))) ((congrFun (hF 65 (by decide)) 1).trans hn) hn8 (a := a) (b := b) ha hb (by rw [hF 69 (by decide)]; exact hL a b ha hb)) rfl gS_65 (by decide) rfl rfl rfl (Nat.le_of_ble_eq_true rfl) (by decide) ?_
      rintro _ _ - ⟨rfl, I2, rfl, hF2⟩
      rw [hF 69 (by decide), hF 65 (by decide), hF 68 (by decide)]
      refine px_iadd rfl ?_
      refine px_callS0 CX12_heldTo [] [.int _] (vX12_heldTo) rfl rfl rfl (Nat.le_of_ble_eq_true rfl) (by decide) ?_
      rintro _ _ - ⟨rfl, rfl⟩
      have hF3 := Fr_tr hF hF2
      refine px_ist7 rfl rfl (by decide) ?_
      refine px_iload rfl rfl ?_
      refine px_aload_n (kk := 0) rfl rfl rfl ?_
      refine px_iload_n (kk := 3) rfl rfl rfl ?_
      refine px_iload_n (kk := 2) rfl rfl rfl ?_
      refine px_iload rfl rfl ?_
      refine px_iload rfl rfl ?_
      refine px_iload rfl rfl ?_
      refine px_callV0 CX12_warmerBy [.int _] [.int _, .int _, .int _, .int _, .int _] (vX12_warmerBy (I := I2) (tx := tx) (LawR_mv hT (by rw [hF3 65 (by decide)]) (fun c hc => hF3 c (fun e => by simp only [List.mem_cons, List.not_mem_nil, or_false] at e hc; omega))) ((congrFun (hF3 65 (by decide)) 1).trans hn) hn8 (a := b) (b := a) hb ha (by rw [hF3 69 (by decide)]; exact hL b a hb ha)) rfl gS_65 (by decide) rfl rfl rfl (Nat.le_of_ble_eq_true rfl) (by decide) ?_
      rintro _ _ - ⟨rfl, I3, rfl, hF4⟩
      rw [hF3 69 (by decide), hF3 65 (by decide), hF3 68 (by decide)]
      refine px_iadd rfl ?_
      refine px_callS0 CX12_heldTo [] [.int _] (vX12_heldTo) rfl rfl rfl (Nat.le_of_ble_eq_true rfl) (by decide) ?_
      rintro _ _ - ⟨rfl, rfl⟩
      refine px_ist5 rfl rfl (by decide) ?_
      refine px_iload rfl rfl ?_
      refine px_ist4 rfl rfl (by decide) ?_
      refine px_iinc6 (v := nI (k + 1)) rfl (n_inc k) rfl (by decide) ?_
      refine px_goto rfl ?_
      rw [if_neg (fun h => (by first | exact absurd h.1 (by rw [i_le]; rw [i_lt] at c34; omega) | exact absurd h.2 (by rw [i_le]; rw [i_lt] at c40; omega)))]
      rw [show 60 - k = 61 - (k + 1) by omega]
      exact lX12_soon hT hn hn8 hL ha hb (k := k + 1) (by omega) (Fr_tr hF3 hF4)
    · refine px_iload rfl rfl ?_
      refine px_aload_n (kk := 0) rfl rfl rfl ?_
      refine px_getR (r := 67) rfl gS_65 rfl (gR_65_3 _) ?_
      refine px_iload_n (kk := 3) rfl rfl rfl ?_
      refine px_ialde (j := b) (v := I 67 b) rfl gS_67 rfl (by omega) (congrFun (hF 67 (by decide)) b) ?_
      refine px_icmp_lt rfl (fun c40 => ?_) (fun c40 => ?_)
      · refine px_iload rfl rfl ?_
        refine px_aload_n (kk := 0) rfl rfl rfl ?_
        refine px_iload_n (kk := 2) rfl rfl rfl ?_
        refine px_iload_n (kk := 3) rfl rfl rfl ?_
        refine px_iload rfl rfl ?_
        refine px_iload rfl rfl ?_
        refine px_iload rfl rfl ?_
        refine px_callV0 CX12_warmerBy [.int _] [.int _, .int _, .int _, .int _, .int _] (vX12_warmerBy (I := I1) (tx := tx) (LawR_mv hT (by rw [hF 65 (by decide)]) (fun c hc => hF c (fun e => by simp only [List.mem_cons, List.not_mem_nil, or_false] at e hc; omega))) ((congrFun (hF 65 (by decide)) 1).trans hn) hn8 (a := a) (b := b) ha hb (by rw [hF 69 (by decide)]; exact hL a b ha hb)) rfl gS_65 (by decide) rfl rfl rfl (Nat.le_of_ble_eq_true rfl) (by decide) ?_
        rintro _ _ - ⟨rfl, I2, rfl, hF2⟩
        rw [hF 69 (by decide), hF 65 (by decide), hF 68 (by decide)]
        refine px_iadd rfl ?_
        refine px_callS0 CX12_heldTo [] [.int _] (vX12_heldTo) rfl rfl rfl (Nat.le_of_ble_eq_true rfl) (by decide) ?_
        rintro _ _ - ⟨rfl, rfl⟩
        have hF3 := Fr_tr hF hF2
        refine px_ist7 rfl rfl (by decide) ?_
        refine px_iload rfl rfl ?_
        refine px_aload_n (kk := 0) rfl rfl rfl ?_
        refine px_iload_n (kk := 3) rfl rfl rfl ?_
        refine px_iload_n (kk := 2) rfl rfl rfl ?_
        refine px_iload rfl rfl ?_
        refine px_iload rfl rfl ?_
        refine px_iload rfl rfl ?_
        refine px_callV0 CX12_warmerBy [.int _] [.int _, .int _, .int _, .int _, .int _] (vX12_warmerBy (I := I2) (tx := tx) (LawR_mv hT (by rw [hF3 65 (by decide)]) (fun c hc => hF3 c (fun e => by simp only [List.mem_cons, List.not_mem_nil, or_false] at e hc; omega))) ((congrFun (hF3 65 (by decide)) 1).trans hn) hn8 (a := b) (b := a) hb ha (by rw [hF3 69 (by decide)]; exact hL b a hb ha)) rfl gS_65 (by decide) rfl rfl rfl (Nat.le_of_ble_eq_true rfl) (by decide) ?_
        rintro _ _ - ⟨rfl, I3, rfl, hF4⟩
        rw [hF3 69 (by decide), hF3 65 (by decide), hF3 68 (by decide)]
        refine px_iadd rfl ?_
        refine px_callS0 CX12_heldTo [] [.int _] (vX12_heldTo) rfl rfl rfl (Nat.le_of_ble_eq_true rfl) (by decide) ?_
        rintro _ _ - ⟨rfl, rfl⟩
        refine px_ist5 rfl rfl (by decide) ?_
        refine px_iload rfl rfl ?_
        refine px_ist4 rfl rfl (by decide) ?_
        refine px_iinc6 (v := nI (k + 1)) rfl (n_inc k) rfl (by decide) ?_
        refine px_goto rfl ?_
        rw [if_neg (fun h => (by first | exact absurd h.1 (by rw [i_le]; rw [i_lt] at c34; omega) | exact absurd h.2 (by rw [i_le]; rw [i_lt] at c40; omega)))]
        rw [show 60 - k = 61 - (k + 1) by omega]
        exact lX12_soon hT hn hn8 hL ha hb (k := k + 1) (by omega) (Fr_tr hF3 hF4)
      · refine px_iload rfl rfl ?_
        refine px_ireturn rfl (.inl rfl) ?_
        exact ⟨by rw [if_pos ⟨by rw [i_le]; rw [i_lt] at c34; omega, by rw [i_le]; rw [i_lt] at c40; omega⟩], I1, rfl, hF⟩
termination_by 61 - k
decreasing_by all_goals (have hq := ‹¬ nI 60 < nI k›; rw [n_lt (by omega) (by omega)] at hq; omega)
theorem vX12_soon {I : Nat → Nat → Int32} {J : Nat → Nat → Int64} {p : Bool × Option Nat} {ro : List (Nat × Nat × (Nat → Int32))} {tx : List Ln} (hT : LawR tx I) {n : Nat} (hn : I 65 1 = nI n) (hn8 : n ≤ 8) (hL : LK n (I 69)) {w : Int32} : Pv 4 0 0 CX12_soon [.ref (65), .int (w)] (gS, I, J, gR p, ro) (PR (ASK (-1) (∃ a b, a < n ∧ b < n ∧ a ≠ b ∧ w = nI (10 * a + b)) (sp_soon tx (I 69) (I 68) (I 67) (I 65 7) (mN w / 10) (mN w % 10) 61 0 (I 66 (mN w / 10)) (I 66 (mN w % 10)))) I J p ro) := by
  refine ⟨okCX12_soon, Nat.le_of_ble_eq_true rfl, (show Px _ _ _ _ 0 [some (.ref (65)), some (.int (w)), none, none, none, none, none, none] [] _ _ from ?_)⟩
  refine px_aload_n (kk := 0) rfl rfl rfl ?_
  refine px_iload_n (kk := 1) rfl rfl rfl ?_
  refine px_callV0 CX12_areTwo [] [.int _] (vX12_areTwo hn hn8) rfl gS_65 (by decide) rfl rfl rfl (Nat.le_of_ble_eq_true rfl) (by decide) ?_
  rintro _ _ - (⟨⟨a, b, ha, hbn, hne, rfl⟩, rfl, rfl⟩ | ⟨ha, rfl, rfl⟩)
  · refine px_if_ne rfl (fun _ => ?_) (fun h => absurd h (by decide))
    skip
    refine px_iload_n (kk := 1) rfl rfl rfl ?_
    refine px_bipush (v := nI 10) rfl b_10 ?_
    refine px_idivN rfl (by decide) (by decide) (by omega) ?_
    refine px_ist2 rfl rfl (by decide) ?_
    refine px_iload_n (kk := 1) rfl rfl rfl ?_
    refine px_bipush (v := nI 10) rfl b_10 ?_
    refine px_iremN rfl (by decide) (by decide) (by omega) ?_
    refine px_ist3 rfl rfl (by decide) ?_
    refine px_aload_n (kk := 0) rfl rfl rfl ?_
    refine px_getR (r := 66) rfl gS_65 rfl (gR_65_2 _) ?_
    refine px_iload_n (kk := 2) rfl rfl rfl ?_
    refine px_iald (j := ((10 * a + b) / 10)) rfl gS_66 rfl (by omega) ?_
    refine px_ist4 rfl rfl (by decide) ?_
    refine px_aload_n (kk := 0) rfl rfl rfl ?_
    refine px_getR (r := 66) rfl gS_65 rfl (gR_65_2 _) ?_
    refine px_iload_n (kk := 3) rfl rfl rfl ?_
    refine px_iald (j := ((10 * a + b) % 10)) rfl gS_66 rfl (by omega) ?_
    refine px_ist5 rfl rfl (by decide) ?_
    refine px_iconst (v := nI 0) rfl k_0 ?_
    refine px_ist6 rfl rfl (by decide) ?_
    refine pxv_post (lX12_soon hT hn hn8 hL (a := ((10 * a + b) / 10)) (b := ((10 * a + b) % 10)) (by omega) (by omega) (k := 0) (by omega) Fr_rf) (fun r S hr => ?_)
    obtain ⟨rfl, I3, rfl, hF⟩ := hr
    exact ⟨_, rfl, .inr ⟨⟨a, b, ha, hbn, hne, rfl⟩, by rw [mN_n (by omega)]⟩, I3, rfl, Fr_mo hF (by decide), fun k _ => by rw [hF 65 (by decide)]⟩
  · refine px_if_ne rfl (fun h => absurd h (by decide)) (fun _ => ?_)
    refine px_iconst (v := -1) rfl k_m1 ?_
    refine px_ireturn rfl (.inl rfl) ?_
    exact PR_id (.inl ⟨ha, rfl⟩)
theorem lX12_instead {I : Nat → Nat → Int32} {J : Nat → Nat → Int64} {p : Bool × Option Nat} {ro : List (Nat × Nat × (Nat → Int32))} {n : Nat} (hn : I 65 1 = nI n) (hn8 : n ≤ 8) {a b : Nat} (ha : a < n) (hb : b < n) (hne : a ≠ b) {k : Nat} (hk : k ≤ n) : Px 3 0 0 CX12_instead 10 [some (.ref (65)), some (.int (nI (10 * a + b))), some (.int ((sp_lm (I 69) ((10 * a + b) / 10) (nI ((10 * a + b) % 10)) k))), some (.int (nI k))] [] (gS, I, J, gR p, ro) (qI (sp_lm (I 69) ((10 * a + b) / 10) (nI ((10 * a + b) % 10)) n) (gS, I, J, gR p, ro)) := by
  refine px_iload_n (kk := 3) rfl rfl rfl ?_
  refine px_aload_n (kk := 0) rfl rfl rfl ?_
  refine px_getIe (v := nI n) rfl gS_65 rfl hn ?_
  refine px_icmp_ge rfl (fun c13 => ?_) (fun c13 => ?_)
  · refine px_iload_n (kk := 2) rfl rfl rfl ?_
    refine px_ireturn rfl (.inl rfl) ?_
    rw [n_le (by omega) (by omega)] at c13
    obtain rfl : k = n := by omega
    exact ⟨rfl, rfl⟩
  · rw [n_le (by omega) (by omega)] at c13
    refine px_iload_n (kk := 3) rfl rfl rfl ?_
    refine px_iload_n (kk := 1) rfl rfl rfl ?_
    refine px_bipush (v := nI 10) rfl b_10 ?_
    refine px_idivN rfl (by decide) (by decide) (by omega) ?_
    refine px_icmp_eq rfl (fun c18 => ?_) (fun c18 => ?_)
    · refine px_iinc3 (v := nI (k + 1)) rfl (n_inc k) rfl (by decide) ?_
      refine px_goto rfl ?_
      refine px_l2 (show (sp_lm (I 69) ((10 * a + b) / 10) (nI ((10 * a + b) % 10)) k) = (sp_lm (I 69) ((10 * a + b) / 10) (nI ((10 * a + b) % 10)) (k + 1)) from ?_) (lX12_instead hn hn8 (a := a) (b := b) ha hb hne (k := k + 1) (by omega))
      rw [sp_lm, if_pos (.inl ((n_eq (by omega) (by omega)).mp (by first | exact c18 | exact Classical.byContradiction c18)))]
    · refine px_iload_n (kk := 3) rfl rfl rfl ?_
      refine px_iload_n (kk := 1) rfl rfl rfl ?_
      refine px_bipush (v := nI 10) rfl b_10 ?_
      refine px_iremN rfl (by decide) (by decide) (by omega) ?_
      refine px_icmp_ne rfl (fun c23 => ?_) (fun c23 => ?_)
      · rcases sp_lm_v (L := I 69) (a := ((10 * a + b) / 10)) (y := nI ((10 * a + b) % 10)) k (by omega) with hm | ⟨j0, hj0, hja, hm⟩
        · refine px_l2 hm ?_
          refine px_iload_n (kk := 2) rfl rfl rfl ?_
          refine px_if_lt rfl (fun _ => ?_) (fun h => absurd h (by decide))
          refine px_iload_n (kk := 3) rfl rfl rfl ?_
          refine px_ist2 rfl rfl (by decide) ?_
          refine px_iinc3 (v := nI (k + 1)) rfl (n_inc k) rfl (by decide) ?_
          refine px_goto rfl ?_
          refine px_l2 (show nI k = (sp_lm (I 69) ((10 * a + b) / 10) (nI ((10 * a + b) % 10)) (k + 1)) from ?_) (lX12_instead hn hn8 (a := a) (b := b) ha hb hne (k := k + 1) (by omega))
          rw [sp_lm, if_neg (fun h => h.elim (fun e => c18 (by rw [e])) c23), if_pos (.inl hm)]
        · refine px_l2 hm ?_
          refine px_iload_n (kk := 2) rfl rfl rfl ?_
          refine px_if_lt rfl (fun h => absurd h (n_nneg (by omega))) (fun c26 => ?_)
          refine px_aload_n (kk := 0) rfl rfl rfl ?_
          refine px_getR (r := 69) rfl gS_65 rfl (gR_65_5 _) ?_
          refine px_bipush (v := nI 8) rfl b_8 ?_
          refine px_iload_n (kk := 1) rfl rfl rfl ?_
          refine px_bipush (v := nI 10) rfl b_10 ?_
          refine px_idivN rfl (by decide) (by decide) (by omega) ?_
          refine px_imulN rfl ?_
          refine px_iload_n (kk := 3) rfl rfl rfl ?_
          refine px_iaddN rfl ?_
          refine px_iald (j := 8 * ((10 * a + b) / 10) + k) rfl gS_69 rfl (by omega) ?_
          refine px_aload_n (kk := 0) rfl rfl rfl ?_
          refine px_getR (r := 69) rfl gS_65 rfl (gR_65_5 _) ?_
          refine px_bipush (v := nI 8) rfl b_8 ?_
          refine px_iload_n (kk := 1) rfl rfl rfl ?_
          refine px_bipush (v := nI 10) rfl b_10 ?_
          refine px_idivN rfl (by decide) (by decide) (by omega) ?_
          refine px_imulN rfl ?_
          refine px_iload_n (kk := 2) rfl rfl rfl ?_
          refine px_iaddN rfl ?_
          refine px_iald (j := 8 * ((10 * a + b) / 10) + j0) rfl gS_69 rfl (by omega) ?_
          refine px_icmp_le rfl (fun c47 => ?_) (fun c47 => ?_)
          · refine px_iinc3 (v := nI (k + 1)) rfl (n_inc k) rfl (by decide) ?_
            refine px_goto rfl ?_
            refine px_l2 (show nI j0 = (sp_lm (I 69) ((10 * a + b) / 10) (nI ((10 * a + b) % 10)) (k + 1)) from ?_) (lX12_instead hn hn8 (a := a) (b := b) ha hb hne (k := k + 1) (by omega))
            rw [sp_lm, if_neg (fun h => h.elim (fun e => c18 (by rw [e])) c23), if_neg (fun h => h.elim (fun e => by rw [hm] at e; exact absurd e (fun q => by rw [i_eq, nI_toInt (by omega), t_m2] at q; omega)) (fun e => by rw [hm, mN_n (by omega)] at e; rw [i_lt] at e; rw [i_le] at c47; omega)), hm]
          · refine px_iload_n (kk := 3) rfl rfl rfl ?_
            refine px_ist2 rfl rfl (by decide) ?_
            refine px_iinc3 (v := nI (k + 1)) rfl (n_inc k) rfl (by decide) ?_
            refine px_goto rfl ?_
            refine px_l2 (show nI k = (sp_lm (I 69) ((10 * a + b) / 10) (nI ((10 * a + b) % 10)) (k + 1)) from ?_) (lX12_instead hn hn8 (a := a) (b := b) ha hb hne (k := k + 1) (by omega))
            rw [sp_lm, if_neg (fun h => h.elim (fun e => c18 (by rw [e])) c23), if_pos (.inr (by rw [hm, mN_n (by omega), i_lt]; rw [i_le] at c47; omega))]
      · refine px_goto rfl ?_
        refine px_iinc3 (v := nI (k + 1)) rfl (n_inc k) rfl (by decide) ?_
        refine px_goto rfl ?_
        refine px_l2 (show (sp_lm (I 69) ((10 * a + b) / 10) (nI ((10 * a + b) % 10)) k) = (sp_lm (I 69) ((10 * a + b) / 10) (nI ((10 * a + b) % 10)) (k + 1)) from ?_) (lX12_instead hn hn8 (a := a) (b := b) ha hb hne (k := k + 1) (by omega))
        rw [sp_lm, if_pos (.inr (by first | exact c23 | exact Classical.byContradiction c23))]
termination_by n - k
decreasing_by all_goals (have h := ‹¬ nI n ≤ nI k›; rw [n_le (by omega) (by omega)] at h; omega)
theorem vX12_instead {I : Nat → Nat → Int32} {J : Nat → Nat → Int64} {p : Bool × Option Nat} {ro : List (Nat × Nat × (Nat → Int32))} {n : Nat} (hn : I 65 1 = nI n) (hn8 : n ≤ 8) {w : Int32} : Pv 3 0 0 CX12_instead [.ref (65), .int (w)] (gS, I, J, gR p, ro) (PR (ASK (-1) (∃ a b, a < n ∧ b < n ∧ a ≠ b ∧ w = nI (10 * a + b)) (sp_lm (I 69) (mN w / 10) (nI (mN w % 10)) n)) I J p ro) := by
  refine ⟨okCX12_instead, Nat.le_of_ble_eq_true rfl, (show Px _ _ _ _ 0 [some (.ref (65)), some (.int (w)), none, none] [] _ _ from ?_)⟩
  refine px_aload_n (kk := 0) rfl rfl rfl ?_
  refine px_iload_n (kk := 1) rfl rfl rfl ?_
  refine px_callV0 CX12_areTwo [] [.int _] (vX12_areTwo hn hn8) rfl gS_65 (by decide) rfl rfl rfl (Nat.le_of_ble_eq_true rfl) (by decide) ?_
  rintro _ _ - (⟨⟨a, b, ha, hbn, hne, rfl⟩, rfl, rfl⟩ | ⟨ha, rfl, rfl⟩)
  · refine px_if_ne rfl (fun _ => ?_) (fun h => absurd h (by decide))
    skip
    refine px_bipush (v := -2) rfl b_m2 ?_
    refine px_ist2 rfl rfl (by decide) ?_
    refine px_iconst (v := nI 0) rfl k_0 ?_
    refine px_ist3 rfl rfl (by decide) ?_
    refine pxv_post (lX12_instead hn hn8 ha hbn hne (k := 0) (by omega)) (fun r S hr => ?_)
    obtain ⟨rfl, rfl⟩ := hr
    exact PR_id (.inr ⟨⟨a, b, ha, hbn, hne, rfl⟩, by rw [mN_n (by omega)]⟩)
  · refine px_if_ne rfl (fun h => absurd h (by decide)) (fun _ => ?_)
    refine px_iconst (v := -1) rfl k_m1 ?_
    refine px_ireturn rfl (.inl rfl) ?_
    exact PR_id (.inl ⟨ha, rfl⟩)
