/-! numbers -/
theorem b_m126 : (Int8.ofInt (-126)).toInt32 = -126 := by decide +kernel
theorem b_m100 : (Int8.ofInt (-100)).toInt32 = -100 := by decide +kernel
theorem b_m63 : (Int8.ofInt (-63)).toInt32 = -63 := by decide +kernel
theorem b_m59 : (Int8.ofInt (-59)).toInt32 = -59 := by decide +kernel
theorem b_m20 : (Int8.ofInt (-20)).toInt32 = -20 := by decide +kernel
theorem b_m14 : (Int8.ofInt (-14)).toInt32 = -14 := by decide +kernel
theorem b_m13 : (Int8.ofInt (-13)).toInt32 = -13 := by decide +kernel
theorem b_m12 : (Int8.ofInt (-12)).toInt32 = -12 := by decide +kernel
theorem b_m11 : (Int8.ofInt (-11)).toInt32 = -11 := by decide +kernel
theorem b_m9 : (Int8.ofInt (-9)).toInt32 = -9 := by decide +kernel
theorem b_m5 : (Int8.ofInt (-5)).toInt32 = -5 := by decide +kernel
theorem b_m3 : (Int8.ofInt (-3)).toInt32 = -3 := by decide +kernel
theorem b_m2 : (Int8.ofInt (-2)).toInt32 = -2 := by decide +kernel
theorem b_6 : (Int8.ofInt (6)).toInt32 = nI 6 := by decide +kernel
theorem b_7 : (Int8.ofInt (7)).toInt32 = nI 7 := by decide +kernel
theorem b_8 : (Int8.ofInt (8)).toInt32 = nI 8 := by decide +kernel
theorem b_9 : (Int8.ofInt (9)).toInt32 = nI 9 := by decide +kernel
theorem b_10 : (Int8.ofInt (10)).toInt32 = nI 10 := by decide +kernel
theorem b_11 : (Int8.ofInt (11)).toInt32 = nI 11 := by decide +kernel
theorem b_12 : (Int8.ofInt (12)).toInt32 = nI 12 := by decide +kernel
theorem b_14 : (Int8.ofInt (14)).toInt32 = nI 14 := by decide +kernel
theorem b_16 : (Int8.ofInt (16)).toInt32 = nI 16 := by decide +kernel
theorem b_20 : (Int8.ofInt (20)).toInt32 = nI 20 := by decide +kernel
theorem b_24 : (Int8.ofInt (24)).toInt32 = nI 24 := by decide +kernel
theorem b_30 : (Int8.ofInt (30)).toInt32 = nI 30 := by decide +kernel
theorem b_32 : (Int8.ofInt (32)).toInt32 = nI 32 := by decide +kernel
theorem b_33 : (Int8.ofInt (33)).toInt32 = nI 33 := by decide +kernel
theorem b_37 : (Int8.ofInt (37)).toInt32 = nI 37 := by decide +kernel
theorem b_38 : (Int8.ofInt (38)).toInt32 = nI 38 := by decide +kernel
theorem b_39 : (Int8.ofInt (39)).toInt32 = nI 39 := by decide +kernel
theorem b_40 : (Int8.ofInt (40)).toInt32 = nI 40 := by decide +kernel
theorem b_41 : (Int8.ofInt (41)).toInt32 = nI 41 := by decide +kernel
theorem b_42 : (Int8.ofInt (42)).toInt32 = nI 42 := by decide +kernel
theorem b_43 : (Int8.ofInt (43)).toInt32 = nI 43 := by decide +kernel
theorem b_45 : (Int8.ofInt (45)).toInt32 = nI 45 := by decide +kernel
theorem b_47 : (Int8.ofInt (47)).toInt32 = nI 47 := by decide +kernel
theorem b_48 : (Int8.ofInt (48)).toInt32 = nI 48 := by decide +kernel
theorem b_50 : (Int8.ofInt (50)).toInt32 = nI 50 := by decide +kernel
theorem b_57 : (Int8.ofInt (57)).toInt32 = nI 57 := by decide +kernel
theorem b_59 : (Int8.ofInt (59)).toInt32 = nI 59 := by decide +kernel
theorem b_60 : (Int8.ofInt (60)).toInt32 = nI 60 := by decide +kernel
theorem b_61 : (Int8.ofInt (61)).toInt32 = nI 61 := by decide +kernel
theorem b_62 : (Int8.ofInt (62)).toInt32 = nI 62 := by decide +kernel
theorem b_63 : (Int8.ofInt (63)).toInt32 = nI 63 := by decide +kernel
theorem b_64 : (Int8.ofInt (64)).toInt32 = nI 64 := by decide +kernel
theorem b_70 : (Int8.ofInt (70)).toInt32 = nI 70 := by decide +kernel
theorem b_80 : (Int8.ofInt (80)).toInt32 = nI 80 := by decide +kernel
theorem b_81 : (Int8.ofInt (81)).toInt32 = nI 81 := by decide +kernel
theorem b_97 : (Int8.ofInt (97)).toInt32 = nI 97 := by decide +kernel
theorem b_99 : (Int8.ofInt (99)).toInt32 = nI 99 := by decide +kernel
theorem b_100 : (Int8.ofInt (100)).toInt32 = nI 100 := by decide +kernel
theorem b_104 : (Int8.ofInt (104)).toInt32 = nI 104 := by decide +kernel
theorem b_108 : (Int8.ofInt (108)).toInt32 = nI 108 := by decide +kernel
theorem b_111 : (Int8.ofInt (111)).toInt32 = nI 111 := by decide +kernel
theorem b_112 : (Int8.ofInt (112)).toInt32 = nI 112 := by decide +kernel
theorem b_119 : (Int8.ofInt (119)).toInt32 = nI 119 := by decide +kernel
theorem b_120 : (Int8.ofInt (120)).toInt32 = nI 120 := by decide +kernel
theorem b_122 : (Int8.ofInt (122)).toInt32 = nI 122 := by decide +kernel
theorem b_124 : (Int8.ofInt (124)).toInt32 = nI 124 := by decide +kernel
theorem b_126 : (Int8.ofInt (126)).toInt32 = nI 126 := by decide +kernel
theorem k_m1 : Int32.ofInt (-1) = -1 := by decide +kernel
theorem k_0 : Int32.ofInt (0) = nI 0 := by decide +kernel
theorem k_1 : Int32.ofInt (1) = nI 1 := by decide +kernel
theorem k_2 : Int32.ofInt (2) = nI 2 := by decide +kernel
theorem k_3 : Int32.ofInt (3) = nI 3 := by decide +kernel
theorem k_4 : Int32.ofInt (4) = nI 4 := by decide +kernel
theorem k_5 : Int32.ofInt (5) = nI 5 := by decide +kernel
theorem s_130 : (Int16.ofInt (130)).toInt32 = nI 130 := by decide +kernel
theorem s_255 : (Int16.ofInt (255)).toInt32 = nI 255 := by decide +kernel
theorem s_256 : (Int16.ofInt (256)).toInt32 = nI 256 := by decide +kernel
theorem s_260 : (Int16.ofInt (260)).toInt32 = nI 260 := by decide +kernel
theorem s_360 : (Int16.ofInt (360)).toInt32 = nI 360 := by decide +kernel
theorem s_12345 : (Int16.ofInt (12345)).toInt32 = nI 12345 := by decide +kernel
theorem n_inc (n : Nat) : nI n + Int32.ofInt 1 = nI (n + 1) := nI_1 n
theorem n_lt {a b : Nat} (ha : a < 2 ^ 31) (hb : b < 2 ^ 31) : nI a < nI b ↔ a < b := by
  rw [Int32.lt_iff_toInt_lt, nI_toInt ha, nI_toInt hb]; omega
theorem n_le {a b : Nat} (ha : a < 2 ^ 31) (hb : b < 2 ^ 31) : nI a ≤ nI b ↔ a ≤ b := nI_leI ha hb
theorem n_eq {a b : Nat} (ha : a < 2 ^ 31) (hb : b < 2 ^ 31) : nI a = nI b ↔ a = b := nI_eq ha hb
theorem n_0 : (0 : Int32) = nI 0 := nI_0.symm
theorem n_of {x : Int32} (h : 0 ≤ x) : ∃ a, a < 2 ^ 31 ∧ x = nI a := by
  have h1 : 0 ≤ x.toInt := by rw [Int32.le_iff_toInt_le] at h; exact h
  have h2 := x.toInt_lt
  refine ⟨x.toInt.toNat, by omega, Int32.toInt_inj.mp ?_⟩
  rw [nI_toInt (by omega)]; omega
theorem n_ofn {x : Int32} (h : ¬ x < 0) : ∃ a, a < 2 ^ 31 ∧ x = nI a := n_of (by rw [Int32.le_iff_toInt_le]; rw [Int32.lt_iff_toInt_lt] at h; omega)
theorem n_nneg {a : Nat} (h : a < 2 ^ 31) : ¬ nI a < 0 := nI_pos h
theorem n_sub {a b : Nat} (h : b ≤ a) : nI a - nI b = nI (a - b) := by
  have : nI (a - b) + nI b = nI a := by rw [nI_add]; congr 1; omega
  rw [← this, Int32.add_sub_cancel]
theorem n_mul (a b : Nat) : nI a * nI b = nI (a * b) := (Int32.ofNat_mul a b).symm
theorem n_div {a b : Nat} (ha : a < 2 ^ 31) (hb : b < 2 ^ 31) : nI a / nI b = nI (a / b) := by
  refine Int32.toInt_inj.mp ?_
  rw [Int32.toInt_div, nI_toInt ha, nI_toInt hb, nI_toInt (Nat.lt_of_le_of_lt (Nat.div_le_self a b) ha)]
  have : ((a : Int).tdiv b).bmod (2 ^ 32) = (a : Int).tdiv b := by
    have e : (a : Int).tdiv b = ((a / b : Nat) : Int) := by exact (Int.ofNat_tdiv a b).symm
    have h0 : (0 : Int) ≤ ((a / b : Nat) : Int) := Int.natCast_nonneg _
    have h1 : ((a / b : Nat) : Int) ≤ (a : Int) := Int.ofNat_le.mpr (Nat.div_le_self a b)
    rw [e]
    generalize ((a / b : Nat) : Int) = z at h0 h1 ⊢
    exact Int.bmod_eq_of_le (by omega) (by omega)
  first | rw [this] | skip
  exact (Int.ofNat_tdiv a b).symm
theorem n_rem {a b : Nat} (ha : a < 2 ^ 31) (hb : b < 2 ^ 31) : nI a - nI a / nI b * nI b = nI (a % b) := by
  rw [n_div ha hb, n_mul, n_sub (Nat.div_mul_le_self a b)]
  congr 1
  have := Nat.div_add_mod a b
  rw [Nat.mul_comm] at this
  omega
/-- a method that answers yes or no, and changes nothing -/
def qB (P : Prop) (S : pm_M) : Option Value → pm_M → Prop := fun r S' => (P ∧ r = some (.int (nI 1)) ∧ S' = S) ∨ (¬ P ∧ r = some (.int (nI 0)) ∧ S' = S)
def qI (v : Int32) (S : pm_M) : Option Value → pm_M → Prop := fun r S' => r = some (.int v) ∧ S' = S
def qJ (v : Int64) (S : pm_M) : Option Value → pm_M → Prop := fun r S' => r = some (.long v) ∧ S' = S
def qV (S : pm_M) : Option Value → pm_M → Prop := fun r S' => r = none ∧ S' = S
theorem qB_t {P : Prop} {S : pm_M} (h : P) : qB P S (some (.int (nI 1))) S := Or.inl ⟨h, rfl, rfl⟩
theorem qB_f {P : Prop} {S : pm_M} (h : ¬ P) : qB P S (some (.int (nI 0))) S := Or.inr ⟨h, rfl, rfl⟩
theorem px_cast {d mc ms : Nat} {cd : pm_C} {i : Nat} {ls : List (Option Value)} {st : List Value} {S S' : pm_M} {Q : Option Value → pm_M → Prop} (e : S = S') (h : Px d mc ms cd i ls st S' Q) : Px d mc ms cd i ls st S Q := e ▸ h
theorem px_mem {d mc ms : Nat} {cd : pm_C} {i : Nat} {ls : List (Option Value)} {st : List Value} {Sh : List (Nat × Nat)} {I I' : Nat → Nat → Int32} {J : Nat → Nat → Int64} {R : Nat → Nat → Option Nat} {ro : List (Nat × Nat × (Nat → Int32))} {Q : Option Value → pm_M → Prop} (e : I = I') (h : Px d mc ms cd i ls st (Sh, I', J, R, ro) Q) : Px d mc ms cd i ls st (Sh, I, J, R, ro) Q := e ▸ h
theorem px_getIe {d mc ms : Nat} {cd : pm_C} {i b : Nat} {con : Int} {ls : List (Option Value)} {st : List Value} {Sh : List (Nat × Nat)} {I : Nat → Nat → Int32} {J : Nat → Nat → Int64} {R : Nat → Nat → Option Nat} {ro : List (Nat × Nat × (Nat → Int32))} {Q : Option Value → pm_M → Prop} {a k ci pos idx n : Nat} {v : Int32} (h : (cdE cd)[i]? = some (b, 3, .getfield idx, [ci, k, pos], con)) (hS : Sh[a]? = some (ci, n)) (hty : p_isI (tyC ci k) = true) (hv : I a k = v) (kk : Px d mc ms cd (i + 1) ls (.int v :: st) (Sh, I, J, R, ro) Q) : Px d mc ms cd i ls (.ref a :: st) (Sh, I, J, R, ro) Q := px_getI h hS hty (hv ▸ kk)
theorem px_ialde {d mc ms : Nat} {cd : pm_C} {i b : Nat} {con : Int} {ls : List (Option Value)} {st : List Value} {Sh : List (Nat × Nat)} {I : Nat → Nat → Int32} {J : Nat → Nat → Int64} {R : Nat → Nat → Option Nat} {ro : List (Nat × Nat × (Nat → Int32))} {Q : Option Value → pm_M → Prop} {a n j : Nat} {x v : Int32} {xs : List Nat} (h : (cdE cd)[i]? = some (b, 1, .iaload, xs, con)) (hS : Sh[a]? = some (100, n)) (hj : x = nI j) (hjn : j < n) (hv : I a j = v) (kk : Px d mc ms cd (i + 1) ls (.int v :: st) (Sh, I, J, R, ro) Q) : Px d mc ms cd i ls (.int x :: .ref a :: st) (Sh, I, J, R, ro) Q := px_iald h hS hj hjn (hv ▸ kk)
theorem px_iaddN {d mc ms : Nat} {cd : pm_C} {i b : Nat} {con : Int} {ls : List (Option Value)} {st : List Value} {S : pm_M} {Q : Option Value → pm_M → Prop} {x y : Nat} {xs : List Nat} (h : (cdE cd)[i]? = some (b, 1, .iadd, xs, con)) (kk : Px d mc ms cd (i + 1) ls (.int (nI (x + y)) :: st) S Q) : Px d mc ms cd i ls (.int (nI y) :: .int (nI x) :: st) S Q := px_iadd h (by rw [nI_add]; exact kk)
theorem px_isubN {d mc ms : Nat} {cd : pm_C} {i b : Nat} {con : Int} {ls : List (Option Value)} {st : List Value} {S : pm_M} {Q : Option Value → pm_M → Prop} {x y : Nat} {xs : List Nat} (h : (cdE cd)[i]? = some (b, 1, .isub, xs, con)) (hl : y ≤ x) (kk : Px d mc ms cd (i + 1) ls (.int (nI (x - y)) :: st) S Q) : Px d mc ms cd i ls (.int (nI y) :: .int (nI x) :: st) S Q := px_isub h (by rw [n_sub hl]; exact kk)
theorem px_imulN {d mc ms : Nat} {cd : pm_C} {i b : Nat} {con : Int} {ls : List (Option Value)} {st : List Value} {S : pm_M} {Q : Option Value → pm_M → Prop} {x y : Nat} {xs : List Nat} (h : (cdE cd)[i]? = some (b, 1, .imul, xs, con)) (kk : Px d mc ms cd (i + 1) ls (.int (nI (x * y)) :: st) S Q) : Px d mc ms cd i ls (.int (nI y) :: .int (nI x) :: st) S Q := px_imul h (by rw [n_mul]; exact kk)
theorem n_nz {y : Nat} (h : 0 < y) (h2 : y < 2 ^ 31) : ¬ nI y = 0 := nI_ne0 h h2
theorem px_idivN {d mc ms : Nat} {cd : pm_C} {i b : Nat} {con : Int} {ls : List (Option Value)} {st : List Value} {S : pm_M} {Q : Option Value → pm_M → Prop} {x y : Nat} {xs : List Nat} (h : (cdE cd)[i]? = some (b, 1, .idiv, xs, con)) (h0 : 0 < y) (hy : y < 2 ^ 31) (hx : x < 2 ^ 31) (kk : Px d mc ms cd (i + 1) ls (.int (nI (x / y)) :: st) S Q) : Px d mc ms cd i ls (.int (nI y) :: .int (nI x) :: st) S Q := px_idiv h (n_nz h0 hy) (by rw [n_div hx hy]; exact kk)
theorem px_iremN {d mc ms : Nat} {cd : pm_C} {i b : Nat} {con : Int} {ls : List (Option Value)} {st : List Value} {S : pm_M} {Q : Option Value → pm_M → Prop} {x y : Nat} {xs : List Nat} (h : (cdE cd)[i]? = some (b, 1, .irem, xs, con)) (h0 : 0 < y) (hy : y < 2 ^ 31) (hx : x < 2 ^ 31) (kk : Px d mc ms cd (i + 1) ls (.int (nI (x % y)) :: st) S Q) : Px d mc ms cd i ls (.int (nI y) :: .int (nI x) :: st) S Q := px_irem h (n_nz h0 hy) (by rw [n_rem hx hy]; exact kk)
theorem px_ieq {d mc ms : Nat} {cd : pm_C} {i : Nat} {ls : List (Option Value)} {st : List Value} {S : pm_M} {Q : Option Value → pm_M → Prop} {x y : Int32} (e : x = y) (kk : Px d mc ms cd i ls (.int y :: st) S Q) : Px d mc ms cd i ls (.int x :: st) S Q := e ▸ kk
theorem i_lt {x y : Int32} : x < y ↔ x.toInt < y.toInt := Int32.lt_iff_toInt_lt
theorem i_le {x y : Int32} : x ≤ y ↔ x.toInt ≤ y.toInt := Int32.le_iff_toInt_le
theorem i_eq {x y : Int32} : x = y ↔ x.toInt = y.toInt := Int32.toInt_inj.symm
theorem i_0 : (0 : Int32).toInt = 0 := by decide +kernel
theorem px_callV0 {d d1 : Nat} {cd : pm_C} (c2 : pm_C) {i b : Nat} {con : Int} {ls : List (Option Value)} (st vs : List Value) {S : pm_M} {Q Q1 : Option Value → pm_M → Prop} {idx pL pI pN pS a ci n : Nat} {st0 : List Value} (hP : Pv d1 0 0 c2 (.ref a :: vs) S Q1) (h : (cdE cd)[i]? = some (b, 3, .invokevirtual idx, [pL, pI, pN, cdP c2, pS], con)) (hS : S.1[a]? = some (ci, n)) (hci : ci < 100) (hC2 : (vwCl[ci]?).map (·.1) = some (cdY c2).cls) (hst : st0 = vs.reverse ++ .ref a :: st) (hn : vs.length = cdN c2) (hct : (st.map fun v => v.category).sum ≤ 8) (hd : d1 ≤ d) (kk : ∀ (r : Option Value) (S' : pm_M), p_rf (cdR c2) r → Q1 r S' → Px (d + 1) 0 0 cd (i + 1) ls (r.toList ++ st) S' Q) : Px (d + 1) 0 0 cd i ls st0 S Q := px_callV (mc1 := 0) (ms1 := 0) (mc2 := 0) (ms2 := 0) c2 st vs hP h hS hci hC2 hst hn hct hd kk
theorem px_callS0 {d d1 : Nat} {cd : pm_C} (c2 : pm_C) {i b : Nat} {con : Int} {ls : List (Option Value)} (st vs : List Value) {S : pm_M} {Q Q1 : Option Value → pm_M → Prop} {idx pL pI pN : Nat} {st0 : List Value} (hP : Pv d1 0 0 c2 vs S Q1) (h : (cdE cd)[i]? = some (b, 3, .invokestatic idx, [pL, pI, pN, cdP c2], con)) (hst : st0 = vs.reverse ++ st) (hn : vs.length = cdN c2) (hct : (st.map fun v => v.category).sum ≤ 8) (hd : d1 ≤ d) (kk : ∀ (r : Option Value) (S' : pm_M), p_rf (cdR c2) r → Q1 r S' → Px (d + 1) 0 0 cd (i + 1) ls (r.toList ++ st) S' Q) : Px (d + 1) 0 0 cd i ls st0 S Q := px_callS (mc1 := 0) (ms1 := 0) (mc2 := 0) (ms2 := 0) c2 st vs hP h hst hn hct hd kk
theorem t_m126 : (-126 : Int32).toInt = -126 := by decide +kernel
theorem t_m100 : (-100 : Int32).toInt = -100 := by decide +kernel
theorem t_m63 : (-63 : Int32).toInt = -63 := by decide +kernel
theorem t_m59 : (-59 : Int32).toInt = -59 := by decide +kernel
theorem t_m20 : (-20 : Int32).toInt = -20 := by decide +kernel
theorem t_m14 : (-14 : Int32).toInt = -14 := by decide +kernel
theorem t_m13 : (-13 : Int32).toInt = -13 := by decide +kernel
theorem t_m12 : (-12 : Int32).toInt = -12 := by decide +kernel
theorem t_m11 : (-11 : Int32).toInt = -11 := by decide +kernel
theorem t_m9 : (-9 : Int32).toInt = -9 := by decide +kernel
theorem t_m5 : (-5 : Int32).toInt = -5 := by decide +kernel
theorem t_m3 : (-3 : Int32).toInt = -3 := by decide +kernel
theorem t_m2 : (-2 : Int32).toInt = -2 := by decide +kernel
theorem t_m1 : (-1 : Int32).toInt = -1 := by decide +kernel
theorem t_0 : (nI 0 : Int32).toInt = 0 := by decide +kernel
theorem t_1 : (nI 1 : Int32).toInt = 1 := by decide +kernel
theorem t_2 : (nI 2 : Int32).toInt = 2 := by decide +kernel
theorem t_3 : (nI 3 : Int32).toInt = 3 := by decide +kernel
theorem t_4 : (nI 4 : Int32).toInt = 4 := by decide +kernel
theorem t_5 : (nI 5 : Int32).toInt = 5 := by decide +kernel
theorem t_6 : (nI 6 : Int32).toInt = 6 := by decide +kernel
theorem t_7 : (nI 7 : Int32).toInt = 7 := by decide +kernel
theorem t_8 : (nI 8 : Int32).toInt = 8 := by decide +kernel
theorem t_9 : (nI 9 : Int32).toInt = 9 := by decide +kernel
theorem t_10 : (nI 10 : Int32).toInt = 10 := by decide +kernel
theorem t_11 : (nI 11 : Int32).toInt = 11 := by decide +kernel
theorem t_12 : (nI 12 : Int32).toInt = 12 := by decide +kernel
theorem t_14 : (nI 14 : Int32).toInt = 14 := by decide +kernel
theorem t_16 : (nI 16 : Int32).toInt = 16 := by decide +kernel
theorem t_20 : (nI 20 : Int32).toInt = 20 := by decide +kernel
theorem t_24 : (nI 24 : Int32).toInt = 24 := by decide +kernel
theorem t_30 : (nI 30 : Int32).toInt = 30 := by decide +kernel
theorem t_32 : (nI 32 : Int32).toInt = 32 := by decide +kernel
theorem t_33 : (nI 33 : Int32).toInt = 33 := by decide +kernel
theorem t_37 : (nI 37 : Int32).toInt = 37 := by decide +kernel
theorem t_38 : (nI 38 : Int32).toInt = 38 := by decide +kernel
theorem t_39 : (nI 39 : Int32).toInt = 39 := by decide +kernel
theorem t_40 : (nI 40 : Int32).toInt = 40 := by decide +kernel
theorem t_41 : (nI 41 : Int32).toInt = 41 := by decide +kernel
theorem t_42 : (nI 42 : Int32).toInt = 42 := by decide +kernel
theorem t_43 : (nI 43 : Int32).toInt = 43 := by decide +kernel
theorem t_45 : (nI 45 : Int32).toInt = 45 := by decide +kernel
theorem t_47 : (nI 47 : Int32).toInt = 47 := by decide +kernel
theorem t_48 : (nI 48 : Int32).toInt = 48 := by decide +kernel
theorem t_50 : (nI 50 : Int32).toInt = 50 := by decide +kernel
theorem t_57 : (nI 57 : Int32).toInt = 57 := by decide +kernel
theorem t_59 : (nI 59 : Int32).toInt = 59 := by decide +kernel
theorem t_60 : (nI 60 : Int32).toInt = 60 := by decide +kernel
theorem t_61 : (nI 61 : Int32).toInt = 61 := by decide +kernel
theorem t_62 : (nI 62 : Int32).toInt = 62 := by decide +kernel
theorem t_63 : (nI 63 : Int32).toInt = 63 := by decide +kernel
theorem t_64 : (nI 64 : Int32).toInt = 64 := by decide +kernel
theorem t_70 : (nI 70 : Int32).toInt = 70 := by decide +kernel
theorem t_80 : (nI 80 : Int32).toInt = 80 := by decide +kernel
theorem t_81 : (nI 81 : Int32).toInt = 81 := by decide +kernel
theorem t_97 : (nI 97 : Int32).toInt = 97 := by decide +kernel
theorem t_99 : (nI 99 : Int32).toInt = 99 := by decide +kernel
theorem t_100 : (nI 100 : Int32).toInt = 100 := by decide +kernel
theorem t_104 : (nI 104 : Int32).toInt = 104 := by decide +kernel
theorem t_108 : (nI 108 : Int32).toInt = 108 := by decide +kernel
theorem t_111 : (nI 111 : Int32).toInt = 111 := by decide +kernel
theorem t_112 : (nI 112 : Int32).toInt = 112 := by decide +kernel
theorem t_119 : (nI 119 : Int32).toInt = 119 := by decide +kernel
theorem t_120 : (nI 120 : Int32).toInt = 120 := by decide +kernel
theorem t_122 : (nI 122 : Int32).toInt = 122 := by decide +kernel
theorem t_124 : (nI 124 : Int32).toInt = 124 := by decide +kernel
theorem t_126 : (nI 126 : Int32).toInt = 126 := by decide +kernel
theorem t_130 : (nI 130 : Int32).toInt = 130 := by decide +kernel
theorem t_255 : (nI 255 : Int32).toInt = 255 := by decide +kernel
theorem t_256 : (nI 256 : Int32).toInt = 256 := by decide +kernel
theorem t_260 : (nI 260 : Int32).toInt = 260 := by decide +kernel
theorem t_360 : (nI 360 : Int32).toInt = 360 := by decide +kernel
theorem t_12345 : (nI 12345 : Int32).toInt = 12345 := by decide +kernel
