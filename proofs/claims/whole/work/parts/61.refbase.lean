theorem vX12_in {I : Nat → Nat → Int32} {J : Nat → Nat → Int64} {p : Bool × Option Nat} {ro : List (Nat × Nat × (Nat → Int32))} {x y w : Int32} : Pv 0 0 0 CX12_in [.int (x), .int (y), .int (w)] (gS, I, J, gR p, ro) (qB (y ≤ x ∧ x ≤ w) (gS, I, J, gR p, ro)) := by
  refine ⟨okCX12_in, Nat.le_of_ble_eq_true rfl, (show Px _ _ _ _ 0 [some (.int (x)), some (.int (y)), some (.int (w))] [] _ _ from ?_)⟩
  refine px_iload_n (kk := 0) rfl rfl rfl ?_
  refine px_iload_n (kk := 1) rfl rfl rfl ?_
  refine px_icmp_lt rfl (fun c2 => ?_) (fun c2 => ?_)
  · refine px_iconst (v := nI 0) rfl k_0 ?_
    refine px_ireturn rfl (.inr ⟨rfl, by decide⟩) ?_
    exact qB_f (fun h => by rw [i_le] at h; rw [i_lt] at c2; omega)
  · refine px_iload_n (kk := 0) rfl rfl rfl ?_
    refine px_iload_n (kk := 2) rfl rfl rfl ?_
    refine px_icmp_gt rfl (fun c5 => ?_) (fun c5 => ?_)
    · refine px_iconst (v := nI 0) rfl k_0 ?_
      refine px_ireturn rfl (.inr ⟨rfl, by decide⟩) ?_
      exact qB_f (fun h => by rw [i_le, i_le] at h; rw [i_lt] at c5; omega)
    · refine px_iconst (v := nI 1) rfl k_1 ?_
      refine px_goto rfl ?_
      refine px_ireturn rfl (.inr ⟨rfl, by decide⟩) ?_
      exact qB_t (by rw [i_le, i_le]; rw [i_lt] at c2 c5; omega)
theorem in_lt {n : Nat} (hn : n ≤ 8) {x : Int32} : (nI 0 ≤ x ∧ x ≤ nI n - nI 1) ↔ ∃ a, a < n ∧ x = nI a := by
  have e : (nI n - nI 1).toInt = (n : Int) - 1 := by
    rcases Nat.eq_zero_or_pos n with rfl | h
    · decide +kernel
    · rw [n_sub (by omega), nI_toInt (by omega)]; omega
  constructor
  · rintro ⟨h1, h2⟩
    rw [i_le, nI_toInt (by decide)] at h1
    rw [i_le, e] at h2
    obtain ⟨a, ha, rfl⟩ := n_ofn (x := x) (fun z => by rw [i_lt, i_0] at z; omega)
    rw [nI_toInt ha] at h2
    exact ⟨a, by omega, rfl⟩
  · rintro ⟨a, ha, rfl⟩
    rw [i_le, i_le, e, nI_toInt (by omega), nI_toInt (by omega)]
    omega
theorem vX12_isLine {I : Nat → Nat → Int32} {J : Nat → Nat → Int64} {p : Bool × Option Nat} {ro : List (Nat × Nat × (Nat → Int32))} {n : Nat} (hn : I 65 1 = nI n) (hn8 : n ≤ 8) {x : Int32} : Pv 1 0 0 CX12_isLine [.ref (65), .int (x)] (gS, I, J, gR p, ro) (qB (∃ a, a < n ∧ x = nI a) (gS, I, J, gR p, ro)) := by
  refine ⟨okCX12_isLine, Nat.le_of_ble_eq_true rfl, (show Px _ _ _ _ 0 [some (.ref (65)), some (.int (x))] [] _ _ from ?_)⟩
  refine px_iload_n (kk := 1) rfl rfl rfl ?_
  refine px_iconst (v := nI 0) rfl k_0 ?_
  refine px_aload_n (kk := 0) rfl rfl rfl ?_
  refine px_getIe (v := nI n) rfl gS_65 rfl hn ?_
  refine px_iconst (v := nI 1) rfl k_1 ?_
  refine px_isub rfl ?_
  refine px_callS0 CX12_in [] [.int _, .int _, .int _] (vX12_in) rfl rfl rfl (Nat.le_of_ble_eq_true rfl) (by decide) ?_
  rintro _ _ - (⟨h, rfl, rfl⟩ | ⟨h, rfl, rfl⟩)
  · refine px_ireturn rfl (.inr ⟨rfl, by decide⟩) ?_
    exact qB_t ((in_lt hn8).mp h)
  · refine px_ireturn rfl (.inr ⟨rfl, by decide⟩) ?_
    exact qB_f (fun z => h ((in_lt hn8).mpr z))
theorem in_99 {x : Int32} : (nI 0 ≤ x ∧ x ≤ nI 99) ↔ sp_may 0 x := by
  rw [i_le, i_le, nI_toInt (by decide), nI_toInt (by decide)]; exact Iff.rfl
theorem vX12_isWarm {I : Nat → Nat → Int32} {J : Nat → Nat → Int64} {p : Bool × Option Nat} {ro : List (Nat × Nat × (Nat → Int32))} {x : Int32} : Pv 1 0 0 CX12_isWarm [.int (x)] (gS, I, J, gR p, ro) (qB (sp_may 0 x) (gS, I, J, gR p, ro)) := by
  refine ⟨okCX12_isWarm, Nat.le_of_ble_eq_true rfl, (show Px _ _ _ _ 0 [some (.int (x))] [] _ _ from ?_)⟩
  refine px_iload_n (kk := 0) rfl rfl rfl ?_
  refine px_iconst (v := nI 0) rfl k_0 ?_
  refine px_bipush (v := nI 99) rfl b_99 ?_
  refine px_callS0 CX12_in [] [.int _, .int _, .int _] (vX12_in) rfl rfl rfl (Nat.le_of_ble_eq_true rfl) (by decide) ?_
  rintro _ _ - (⟨h, rfl, rfl⟩ | ⟨h, rfl, rfl⟩)
  · refine px_ireturn rfl (.inr ⟨rfl, by decide⟩) ?_
    exact qB_t (in_99.mp h)
  · refine px_ireturn rfl (.inr ⟨rfl, by decide⟩) ?_
    exact qB_f (fun z => h (in_99.mpr z))
theorem vX12_areTwo {I : Nat → Nat → Int32} {J : Nat → Nat → Int64} {p : Bool × Option Nat} {ro : List (Nat × Nat × (Nat → Int32))} {n : Nat} (hn : I 65 1 = nI n) (hn8 : n ≤ 8) {x : Int32} : Pv 2 0 0 CX12_areTwo [.ref (65), .int (x)] (gS, I, J, gR p, ro) (qB (∃ a b, a < n ∧ b < n ∧ a ≠ b ∧ x = nI (10 * a + b)) (gS, I, J, gR p, ro)) := by
  refine ⟨okCX12_areTwo, Nat.le_of_ble_eq_true rfl, (show Px _ _ _ _ 0 [some (.ref (65)), some (.int (x))] [] _ _ from ?_)⟩
  refine px_iload_n (kk := 1) rfl rfl rfl ?_
  refine px_if_lt rfl (fun c1 => ?_) (fun c1 => ?_)
  · refine px_iconst (v := nI 0) rfl k_0 ?_
    refine px_ireturn rfl (.inr ⟨rfl, by decide⟩) ?_
    exact qB_f (fun ⟨a, b, ha, hb, _, e⟩ => n_nneg (by omega) (e ▸ c1))
  · obtain ⟨z, hz, rfl⟩ := n_ofn c1
    refine px_aload_n (kk := 0) rfl rfl rfl ?_
    refine px_iload_n (kk := 1) rfl rfl rfl ?_
    refine px_bipush (v := nI 10) rfl b_10 ?_
    refine px_idivN rfl (by decide) (by decide) (by omega) ?_
    refine px_callV0 CX12_isLine [] [.int _] (vX12_isLine hn hn8) rfl gS_65 (by decide) rfl rfl rfl (Nat.le_of_ble_eq_true rfl) (by decide) ?_
    rintro _ _ - (⟨⟨a, ha, ea⟩, rfl, rfl⟩ | ⟨ha, rfl, rfl⟩)
    · refine px_if_eq rfl (fun h => absurd h (by decide)) (fun _ => ?_)
      refine px_aload_n (kk := 0) rfl rfl rfl ?_
      refine px_iload_n (kk := 1) rfl rfl rfl ?_
      refine px_bipush (v := nI 10) rfl b_10 ?_
      refine px_iremN rfl (by decide) (by decide) (by omega) ?_
      refine px_callV0 CX12_isLine [] [.int _] (vX12_isLine hn hn8) rfl gS_65 (by decide) rfl rfl rfl (Nat.le_of_ble_eq_true rfl) (by decide) ?_
      rintro _ _ - (⟨⟨b, hb, eb⟩, rfl, rfl⟩ | ⟨hb, rfl, rfl⟩)
      · refine px_if_eq rfl (fun h => absurd h (by decide)) (fun _ => ?_)
        refine px_iload_n (kk := 1) rfl rfl rfl ?_
        refine px_bipush (v := nI 10) rfl b_10 ?_
        refine px_idivN rfl (by decide) (by decide) (by omega) ?_
        refine px_iload_n (kk := 1) rfl rfl rfl ?_
        refine px_bipush (v := nI 10) rfl b_10 ?_
        refine px_iremN rfl (by decide) (by decide) (by omega) ?_
        refine px_icmp_eq rfl (fun c20 => ?_) (fun c20 => ?_)
        · refine px_iconst (v := nI 0) rfl k_0 ?_
          refine px_ireturn rfl (.inr ⟨rfl, by decide⟩) ?_
          rw [n_eq (by omega) (by omega)] at c20 ea eb
          exact qB_f (fun ⟨a2, b2, h1, h2, h3, e⟩ => by rw [n_eq (by omega) (by omega)] at e; omega)
        · refine px_iconst (v := nI 1) rfl k_1 ?_
          refine px_goto rfl ?_
          refine px_ireturn rfl (.inr ⟨rfl, by decide⟩) ?_
          rw [n_eq (by omega) (by omega)] at c20 ea eb
          exact qB_t ⟨a, b, ha, hb, by omega, by congr 1; omega⟩
      · refine px_if_eq rfl (fun _ => ?_) (fun h => absurd h (by decide))
        refine px_iconst (v := nI 0) rfl k_0 ?_
        refine px_ireturn rfl (.inr ⟨rfl, by decide⟩) ?_
        exact qB_f (fun ⟨a2, b2, h1, h2, h3, e⟩ => hb ⟨b2, h2, by rw [n_eq (by omega) (by omega)] at e; congr 1; omega⟩)
    · refine px_if_eq rfl (fun _ => ?_) (fun h => absurd h (by decide))
      refine px_iconst (v := nI 0) rfl k_0 ?_
      refine px_ireturn rfl (.inr ⟨rfl, by decide⟩) ?_
      exact qB_f (fun ⟨a2, b2, h1, h2, h3, e⟩ => ha ⟨a2, h1, by rw [n_eq (by omega) (by omega)] at e; congr 1; omega⟩)
def rf_jM (I : Nat → Nat → Int32) (n : Nat) (x y v : Int32) : Nat → Nat → Int32 := (va_up (va_up (va_up (va_up (va_up (va_up I 66 (va_up (I 66) n x)) 67 (va_up (I 67) n y)) 68 (va_up (I 68) n v)) 70 (va_up (I 70) n (-1))) 71 (va_up (I 71) n (nI 0))) 65 (va_up (I 65) 1 (nI (n + 1))))
theorem vX12_addLine {I : Nat → Nat → Int32} {J : Nat → Nat → Int64} {p : Bool × Option Nat} {ro : List (Nat × Nat × (Nat → Int32))} {n : Nat} (hn : I 65 1 = nI n) (hn8 : n ≤ 8) (h8 : n < 8) {x y v : Int32} : Pv 0 0 0 CX12_addLine [.ref (65), .int (x), .int (y), .int (v)] (gS, I, J, gR p, ro) (qI (nI n) (gS, (rf_jM I n x y v), J, gR p, ro)) := by
  refine ⟨okCX12_addLine, Nat.le_of_ble_eq_true rfl, (show Px _ _ _ _ 0 [some (.ref (65)), some (.int (x)), some (.int (y)), some (.int (v))] [] _ _ from ?_)⟩
  refine px_aload_n (kk := 0) rfl rfl rfl ?_
  refine px_getR (r := 66) rfl gS_65 rfl (gR_65_2 _) ?_
  refine px_aload_n (kk := 0) rfl rfl rfl ?_
  refine px_getIe (v := nI n) rfl gS_65 rfl (by simp only [p_up_n _ _ (show (65 : Nat) ≠ 66 by decide), p_up_n _ _ (show (65 : Nat) ≠ 67 by decide), p_up_n _ _ (show (65 : Nat) ≠ 68 by decide), p_up_n _ _ (show (65 : Nat) ≠ 69 by decide), p_up_n _ _ (show (65 : Nat) ≠ 70 by decide), p_up_n _ _ (show (65 : Nat) ≠ 71 by decide), p_up_n _ _ (show (66 : Nat) ≠ 65 by decide), p_up_n _ _ (show (66 : Nat) ≠ 67 by decide), p_up_n _ _ (show (66 : Nat) ≠ 68 by decide), p_up_n _ _ (show (66 : Nat) ≠ 69 by decide), p_up_n _ _ (show (66 : Nat) ≠ 70 by decide), p_up_n _ _ (show (66 : Nat) ≠ 71 by decide), p_up_n _ _ (show (67 : Nat) ≠ 65 by decide), p_up_n _ _ (show (67 : Nat) ≠ 66 by decide), p_up_n _ _ (show (67 : Nat) ≠ 68 by decide), p_up_n _ _ (show (67 : Nat) ≠ 69 by decide), p_up_n _ _ (show (67 : Nat) ≠ 70 by decide), p_up_n _ _ (show (67 : Nat) ≠ 71 by decide), p_up_n _ _ (show (68 : Nat) ≠ 65 by decide), p_up_n _ _ (show (68 : Nat) ≠ 66 by decide), p_up_n _ _ (show (68 : Nat) ≠ 67 by decide), p_up_n _ _ (show (68 : Nat) ≠ 69 by decide), p_up_n _ _ (show (68 : Nat) ≠ 70 by decide), p_up_n _ _ (show (68 : Nat) ≠ 71 by decide), p_up_n _ _ (show (69 : Nat) ≠ 65 by decide), p_up_n _ _ (show (69 : Nat) ≠ 66 by decide), p_up_n _ _ (show (69 : Nat) ≠ 67 by decide), p_up_n _ _ (show (69 : Nat) ≠ 68 by decide), p_up_n _ _ (show (69 : Nat) ≠ 70 by decide), p_up_n _ _ (show (69 : Nat) ≠ 71 by decide), p_up_n _ _ (show (70 : Nat) ≠ 65 by decide), p_up_n _ _ (show (70 : Nat) ≠ 66 by decide), p_up_n _ _ (show (70 : Nat) ≠ 67 by decide), p_up_n _ _ (show (70 : Nat) ≠ 68 by decide), p_up_n _ _ (show (70 : Nat) ≠ 69 by decide), p_up_n _ _ (show (70 : Nat) ≠ 71 by decide), p_up_n _ _ (show (71 : Nat) ≠ 65 by decide), p_up_n _ _ (show (71 : Nat) ≠ 66 by decide), p_up_n _ _ (show (71 : Nat) ≠ 67 by decide), p_up_n _ _ (show (71 : Nat) ≠ 68 by decide), p_up_n _ _ (show (71 : Nat) ≠ 69 by decide), p_up_n _ _ (show (71 : Nat) ≠ 70 by decide), p_up_s, hn]) ?_
  refine px_iload_n (kk := 1) rfl rfl rfl ?_
  refine px_iast (j := n) rfl gS_66 rfl h8 ?_
  refine px_aload_n (kk := 0) rfl rfl rfl ?_
  refine px_getR (r := 67) rfl gS_65 rfl (gR_65_3 _) ?_
  refine px_aload_n (kk := 0) rfl rfl rfl ?_
  refine px_getIe (v := nI n) rfl gS_65 rfl (by simp only [p_up_n _ _ (show (65 : Nat) ≠ 66 by decide), p_up_n _ _ (show (65 : Nat) ≠ 67 by decide), p_up_n _ _ (show (65 : Nat) ≠ 68 by decide), p_up_n _ _ (show (65 : Nat) ≠ 69 by decide), p_up_n _ _ (show (65 : Nat) ≠ 70 by decide), p_up_n _ _ (show (65 : Nat) ≠ 71 by decide), p_up_n _ _ (show (66 : Nat) ≠ 65 by decide), p_up_n _ _ (show (66 : Nat) ≠ 67 by decide), p_up_n _ _ (show (66 : Nat) ≠ 68 by decide), p_up_n _ _ (show (66 : Nat) ≠ 69 by decide), p_up_n _ _ (show (66 : Nat) ≠ 70 by decide), p_up_n _ _ (show (66 : Nat) ≠ 71 by decide), p_up_n _ _ (show (67 : Nat) ≠ 65 by decide), p_up_n _ _ (show (67 : Nat) ≠ 66 by decide), p_up_n _ _ (show (67 : Nat) ≠ 68 by decide), p_up_n _ _ (show (67 : Nat) ≠ 69 by decide), p_up_n _ _ (show (67 : Nat) ≠ 70 by decide), p_up_n _ _ (show (67 : Nat) ≠ 71 by decide), p_up_n _ _ (show (68 : Nat) ≠ 65 by decide), p_up_n _ _ (show (68 : Nat) ≠ 66 by decide), p_up_n _ _ (show (68 : Nat) ≠ 67 by decide), p_up_n _ _ (show (68 : Nat) ≠ 69 by decide), p_up_n _ _ (show (68 : Nat) ≠ 70 by decide), p_up_n _ _ (show (68 : Nat) ≠ 71 by decide), p_up_n _ _ (show (69 : Nat) ≠ 65 by decide), p_up_n _ _ (show (69 : Nat) ≠ 66 by decide), p_up_n _ _ (show (69 : Nat) ≠ 67 by decide), p_up_n _ _ (show (69 : Nat) ≠ 68 by decide), p_up_n _ _ (show (69 : Nat) ≠ 70 by decide), p_up_n _ _ (show (69 : Nat) ≠ 71 by decide), p_up_n _ _ (show (70 : Nat) ≠ 65 by decide), p_up_n _ _ (show (70 : Nat) ≠ 66 by decide), p_up_n _ _ (show (70 : Nat) ≠ 67 by decide), p_up_n _ _ (show (70 : Nat) ≠ 68 by decide), p_up_n _ _ (show (70 : Nat) ≠ 69 by decide), p_up_n _ _ (show (70 : Nat) ≠ 71 by decide), p_up_n _ _ (show (71 : Nat) ≠ 65 by decide), p_up_n _ _ (show (71 : Nat) ≠ 66 by decide), p_up_n _ _ (show (71 : Nat) ≠ 67 by decide), p_up_n _ _ (show (71 : Nat) ≠ 68 by decide), p_up_n _ _ (show (71 : Nat) ≠ 69 by decide), p_up_n _ _ (show (71 : Nat) ≠ 70 by decide), p_up_s, hn]) ?_
  refine px_iload_n (kk := 2) rfl rfl rfl ?_
  refine px_iast (j := n) rfl gS_67 rfl h8 ?_
  refine px_aload_n (kk := 0) rfl rfl rfl ?_
  refine px_getR (r := 68) rfl gS_65 rfl (gR_65_4 _) ?_
  refine px_aload_n (kk := 0) rfl rfl rfl ?_
  refine px_getIe (v := nI n) rfl gS_65 rfl (by simp only [p_up_n _ _ (show (65 : Nat) ≠ 66 by decide), p_up_n _ _ (show (65 : Nat) ≠ 67 by decide), p_up_n _ _ (show (65 : Nat) ≠ 68 by decide), p_up_n _ _ (show (65 : Nat) ≠ 69 by decide), p_up_n _ _ (show (65 : Nat) ≠ 70 by decide), p_up_n _ _ (show (65 : Nat) ≠ 71 by decide), p_up_n _ _ (show (66 : Nat) ≠ 65 by decide), p_up_n _ _ (show (66 : Nat) ≠ 67 by decide), p_up_n _ _ (show (66 : Nat) ≠ 68 by decide), p_up_n _ _ (show (66 : Nat) ≠ 69 by decide), p_up_n _ _ (show (66 : Nat) ≠ 70 by decide), p_up_n _ _ (show (66 : Nat) ≠ 71 by decide), p_up_n _ _ (show (67 : Nat) ≠ 65 by decide), p_up_n _ _ (show (67 : Nat) ≠ 66 by decide), p_up_n _ _ (show (67 : Nat) ≠ 68 by decide), p_up_n _ _ (show (67 : Nat) ≠ 69 by decide), p_up_n _ _ (show (67 : Nat) ≠ 70 by decide), p_up_n _ _ (show (67 : Nat) ≠ 71 by decide), p_up_n _ _ (show (68 : Nat) ≠ 65 by decide), p_up_n _ _ (show (68 : Nat) ≠ 66 by decide), p_up_n _ _ (show (68 : Nat) ≠ 67 by decide), p_up_n _ _ (show (68 : Nat) ≠ 69 by decide), p_up_n _ _ (show (68 : Nat) ≠ 70 by decide), p_up_n _ _ (show (68 : Nat) ≠ 71 by decide), p_up_n _ _ (show (69 : Nat) ≠ 65 by decide), p_up_n _ _ (show (69 : Nat) ≠ 66 by decide), p_up_n _ _ (show (69 : Nat) ≠ 67 by decide), p_up_n _ _ (show (69 : Nat) ≠ 68 by decide), p_up_n _ _ (show (69 : Nat) ≠ 70 by decide), p_up_n _ _ (show (69 : Nat) ≠ 71 by decide), p_up_n _ _ (show (70 : Nat) ≠ 65 by decide), p_up_n _ _ (show (70 : Nat) ≠ 66 by decide), p_up_n _ _ (show (70 : Nat) ≠ 67 by decide), p_up_n _ _ (show (70 : Nat) ≠ 68 by decide), p_up_n _ _ (show (70 : Nat) ≠ 69 by decide), p_up_n _ _ (show (70 : Nat) ≠ 71 by decide), p_up_n _ _ (show (71 : Nat) ≠ 65 by decide), p_up_n _ _ (show (71 : Nat) ≠ 66 by decide), p_up_n _ _ (show (71 : Nat) ≠ 67 by decide), p_up_n _ _ (show (71 : Nat) ≠ 68 by decide), p_up_n _ _ (show (71 : Nat) ≠ 69 by decide), p_up_n _ _ (show (71 : Nat) ≠ 70 by decide), p_up_s, hn]) ?_
  refine px_iload_n (kk := 3) rfl rfl rfl ?_
  refine px_iast (j := n) rfl gS_68 rfl h8 ?_
  refine px_aload_n (kk := 0) rfl rfl rfl ?_
  refine px_getR (r := 70) rfl gS_65 rfl (gR_65_8 _) ?_
  refine px_aload_n (kk := 0) rfl rfl rfl ?_
  refine px_getIe (v := nI n) rfl gS_65 rfl (by simp only [p_up_n _ _ (show (65 : Nat) ≠ 66 by decide), p_up_n _ _ (show (65 : Nat) ≠ 67 by decide), p_up_n _ _ (show (65 : Nat) ≠ 68 by decide), p_up_n _ _ (show (65 : Nat) ≠ 69 by decide), p_up_n _ _ (show (65 : Nat) ≠ 70 by decide), p_up_n _ _ (show (65 : Nat) ≠ 71 by decide), p_up_n _ _ (show (66 : Nat) ≠ 65 by decide), p_up_n _ _ (show (66 : Nat) ≠ 67 by decide), p_up_n _ _ (show (66 : Nat) ≠ 68 by decide), p_up_n _ _ (show (66 : Nat) ≠ 69 by decide), p_up_n _ _ (show (66 : Nat) ≠ 70 by decide), p_up_n _ _ (show (66 : Nat) ≠ 71 by decide), p_up_n _ _ (show (67 : Nat) ≠ 65 by decide), p_up_n _ _ (show (67 : Nat) ≠ 66 by decide), p_up_n _ _ (show (67 : Nat) ≠ 68 by decide), p_up_n _ _ (show (67 : Nat) ≠ 69 by decide), p_up_n _ _ (show (67 : Nat) ≠ 70 by decide), p_up_n _ _ (show (67 : Nat) ≠ 71 by decide), p_up_n _ _ (show (68 : Nat) ≠ 65 by decide), p_up_n _ _ (show (68 : Nat) ≠ 66 by decide), p_up_n _ _ (show (68 : Nat) ≠ 67 by decide), p_up_n _ _ (show (68 : Nat) ≠ 69 by decide), p_up_n _ _ (show (68 : Nat) ≠ 70 by decide), p_up_n _ _ (show (68 : Nat) ≠ 71 by decide), p_up_n _ _ (show (69 : Nat) ≠ 65 by decide), p_up_n _ _ (show (69 : Nat) ≠ 66 by decide), p_up_n _ _ (show (69 : Nat) ≠ 67 by decide), p_up_n _ _ (show (69 : Nat) ≠ 68 by decide), p_up_n _ _ (show (69 : Nat) ≠ 70 by decide), p_up_n _ _ (show (69 : Nat) ≠ 71 by decide), p_up_n _ _ (show (70 : Nat) ≠ 65 by decide), p_up_n _ _ (show (70 : Nat) ≠ 66 by decide), p_up_n _ _ (show (70 : Nat) ≠ 67 by decide), p_up_n _ _ (show (70 : Nat) ≠ 68 by decide), p_up_n _ _ (show (70 : Nat) ≠ 69 by decide), p_up_n _ _ (show (70 : Nat) ≠ 71 by decide), p_up_n _ _ (show (71 : Nat) ≠ 65 by decide), p_up_n _ _ (show (71 : Nat) ≠ 66 by decide), p_up_n _ _ (show (71 : Nat) ≠ 67 by decide), p_up_n _ _ (show (71 : Nat) ≠ 68 by decide), p_up_n _ _ (show (71 : Nat) ≠ 69 by decide), p_up_n _ _ (show (71 : Nat) ≠ 70 by decide), p_up_s, hn]) ?_
  refine px_iconst (v := -1) rfl k_m1 ?_
  refine px_iast (j := n) rfl gS_70 rfl h8 ?_
  refine px_aload_n (kk := 0) rfl rfl rfl ?_
  refine px_getR (r := 71) rfl gS_65 rfl (gR_65_9 _) ?_
  refine px_aload_n (kk := 0) rfl rfl rfl ?_
  refine px_getIe (v := nI n) rfl gS_65 rfl (by simp only [p_up_n _ _ (show (65 : Nat) ≠ 66 by decide), p_up_n _ _ (show (65 : Nat) ≠ 67 by decide), p_up_n _ _ (show (65 : Nat) ≠ 68 by decide), p_up_n _ _ (show (65 : Nat) ≠ 69 by decide), p_up_n _ _ (show (65 : Nat) ≠ 70 by decide), p_up_n _ _ (show (65 : Nat) ≠ 71 by decide), p_up_n _ _ (show (66 : Nat) ≠ 65 by decide), p_up_n _ _ (show (66 : Nat) ≠ 67 by decide), p_up_n _ _ (show (66 : Nat) ≠ 68 by decide), p_up_n _ _ (show (66 : Nat) ≠ 69 by decide), p_up_n _ _ (show (66 : Nat) ≠ 70 by decide), p_up_n _ _ (show (66 : Nat) ≠ 71 by decide), p_up_n _ _ (show (67 : Nat) ≠ 65 by decide), p_up_n _ _ (show (67 : Nat) ≠ 66 by decide), p_up_n _ _ (show (67 : Nat) ≠ 68 by decide), p_up_n _ _ (show (67 : Nat) ≠ 69 by decide), p_up_n _ _ (show (67 : Nat) ≠ 70 by decide), p_up_n _ _ (show (67 : Nat) ≠ 71 by decide), p_up_n _ _ (show (68 : Nat) ≠ 65 by decide), p_up_n _ _ (show (68 : Nat) ≠ 66 by decide), p_up_n _ _ (show (68 : Nat) ≠ 67 by decide), p_up_n _ _ (show (68 : Nat) ≠ 69 by decide), p_up_n _ _ (show (68 : Nat) ≠ 70 by decide), p_up_n _ _ (show (68 : Nat) ≠ 71 by decide), p_up_n _ _ (show (69 : Nat) ≠ 65 by decide), p_up_n _ _ (show (69 : Nat) ≠ 66 by decide), p_up_n _ _ (show (69 : Nat) ≠ 67 by decide), p_up_n _ _ (show (69 : Nat) ≠ 68 by decide), p_up_n _ _ (show (69 : Nat) ≠ 70 by decide), p_up_n _ _ (show (69 : Nat) ≠ 71 by decide), p_up_n _ _ (show (70 : Nat) ≠ 65 by decide), p_up_n _ _ (show (70 : Nat) ≠ 66 by decide), p_up_n _ _ (show (70 : Nat) ≠ 67 by decide), p_up_n _ _ (show (70 : Nat) ≠ 68 by decide), p_up_n _ _ (show (70 : Nat) ≠ 69 by decide), p_up_n _ _ (show (70 : Nat) ≠ 71 by decide), p_up_n _ _ (show (71 : Nat) ≠ 65 by decide), p_up_n _ _ (show (71 : Nat) ≠ 66 by decide), p_up_n _ _ (show (71 : Nat) ≠ 67 by decide), p_up_n _ _ (show (71 : Nat) ≠ 68 by decide), p_up_n _ _ (show (71 : Nat) ≠ 69 by decide), p_up_n _ _ (show (71 : Nat) ≠ 70 by decide), p_up_s, hn]) ?_
  refine px_iconst (v := nI 0) rfl k_0 ?_
  refine px_iast (j := n) rfl gS_71 rfl h8 ?_
  refine px_aload_n (kk := 0) rfl rfl rfl ?_
  refine px_dup rfl rfl ?_
  refine px_getIe (v := nI n) rfl gS_65 rfl (by simp only [p_up_n _ _ (show (65 : Nat) ≠ 66 by decide), p_up_n _ _ (show (65 : Nat) ≠ 67 by decide), p_up_n _ _ (show (65 : Nat) ≠ 68 by decide), p_up_n _ _ (show (65 : Nat) ≠ 69 by decide), p_up_n _ _ (show (65 : Nat) ≠ 70 by decide), p_up_n _ _ (show (65 : Nat) ≠ 71 by decide), p_up_n _ _ (show (66 : Nat) ≠ 65 by decide), p_up_n _ _ (show (66 : Nat) ≠ 67 by decide), p_up_n _ _ (show (66 : Nat) ≠ 68 by decide), p_up_n _ _ (show (66 : Nat) ≠ 69 by decide), p_up_n _ _ (show (66 : Nat) ≠ 70 by decide), p_up_n _ _ (show (66 : Nat) ≠ 71 by decide), p_up_n _ _ (show (67 : Nat) ≠ 65 by decide), p_up_n _ _ (show (67 : Nat) ≠ 66 by decide), p_up_n _ _ (show (67 : Nat) ≠ 68 by decide), p_up_n _ _ (show (67 : Nat) ≠ 69 by decide), p_up_n _ _ (show (67 : Nat) ≠ 70 by decide), p_up_n _ _ (show (67 : Nat) ≠ 71 by decide), p_up_n _ _ (show (68 : Nat) ≠ 65 by decide), p_up_n _ _ (show (68 : Nat) ≠ 66 by decide), p_up_n _ _ (show (68 : Nat) ≠ 67 by decide), p_up_n _ _ (show (68 : Nat) ≠ 69 by decide), p_up_n _ _ (show (68 : Nat) ≠ 70 by decide), p_up_n _ _ (show (68 : Nat) ≠ 71 by decide), p_up_n _ _ (show (69 : Nat) ≠ 65 by decide), p_up_n _ _ (show (69 : Nat) ≠ 66 by decide), p_up_n _ _ (show (69 : Nat) ≠ 67 by decide), p_up_n _ _ (show (69 : Nat) ≠ 68 by decide), p_up_n _ _ (show (69 : Nat) ≠ 70 by decide), p_up_n _ _ (show (69 : Nat) ≠ 71 by decide), p_up_n _ _ (show (70 : Nat) ≠ 65 by decide), p_up_n _ _ (show (70 : Nat) ≠ 66 by decide), p_up_n _ _ (show (70 : Nat) ≠ 67 by decide), p_up_n _ _ (show (70 : Nat) ≠ 68 by decide), p_up_n _ _ (show (70 : Nat) ≠ 69 by decide), p_up_n _ _ (show (70 : Nat) ≠ 71 by decide), p_up_n _ _ (show (71 : Nat) ≠ 65 by decide), p_up_n _ _ (show (71 : Nat) ≠ 66 by decide), p_up_n _ _ (show (71 : Nat) ≠ 67 by decide), p_up_n _ _ (show (71 : Nat) ≠ 68 by decide), p_up_n _ _ (show (71 : Nat) ≠ 69 by decide), p_up_n _ _ (show (71 : Nat) ≠ 70 by decide), p_up_s, hn]) ?_
  refine px_iconst (v := nI 1) rfl k_1 ?_
  refine px_iaddN rfl ?_
  refine px_putI rfl gS_65 rfl rfl ?_
  refine px_aload_n (kk := 0) rfl rfl rfl ?_
  refine px_getIe (v := nI (n + 1)) rfl gS_65 rfl (by simp only [p_up_n _ _ (show (65 : Nat) ≠ 66 by decide), p_up_n _ _ (show (65 : Nat) ≠ 67 by decide), p_up_n _ _ (show (65 : Nat) ≠ 68 by decide), p_up_n _ _ (show (65 : Nat) ≠ 69 by decide), p_up_n _ _ (show (65 : Nat) ≠ 70 by decide), p_up_n _ _ (show (65 : Nat) ≠ 71 by decide), p_up_n _ _ (show (66 : Nat) ≠ 65 by decide), p_up_n _ _ (show (66 : Nat) ≠ 67 by decide), p_up_n _ _ (show (66 : Nat) ≠ 68 by decide), p_up_n _ _ (show (66 : Nat) ≠ 69 by decide), p_up_n _ _ (show (66 : Nat) ≠ 70 by decide), p_up_n _ _ (show (66 : Nat) ≠ 71 by decide), p_up_n _ _ (show (67 : Nat) ≠ 65 by decide), p_up_n _ _ (show (67 : Nat) ≠ 66 by decide), p_up_n _ _ (show (67 : Nat) ≠ 68 by decide), p_up_n _ _ (show (67 : Nat) ≠ 69 by decide), p_up_n _ _ (show (67 : Nat) ≠ 70 by decide), p_up_n _ _ (show (67 : Nat) ≠ 71 by decide), p_up_n _ _ (show (68 : Nat) ≠ 65 by decide), p_up_n _ _ (show (68 : Nat) ≠ 66 by decide), p_up_n _ _ (show (68 : Nat) ≠ 67 by decide), p_up_n _ _ (show (68 : Nat) ≠ 69 by decide), p_up_n _ _ (show (68 : Nat) ≠ 70 by decide), p_up_n _ _ (show (68 : Nat) ≠ 71 by decide), p_up_n _ _ (show (69 : Nat) ≠ 65 by decide), p_up_n _ _ (show (69 : Nat) ≠ 66 by decide), p_up_n _ _ (show (69 : Nat) ≠ 67 by decide), p_up_n _ _ (show (69 : Nat) ≠ 68 by decide), p_up_n _ _ (show (69 : Nat) ≠ 70 by decide), p_up_n _ _ (show (69 : Nat) ≠ 71 by decide), p_up_n _ _ (show (70 : Nat) ≠ 65 by decide), p_up_n _ _ (show (70 : Nat) ≠ 66 by decide), p_up_n _ _ (show (70 : Nat) ≠ 67 by decide), p_up_n _ _ (show (70 : Nat) ≠ 68 by decide), p_up_n _ _ (show (70 : Nat) ≠ 69 by decide), p_up_n _ _ (show (70 : Nat) ≠ 71 by decide), p_up_n _ _ (show (71 : Nat) ≠ 65 by decide), p_up_n _ _ (show (71 : Nat) ≠ 66 by decide), p_up_n _ _ (show (71 : Nat) ≠ 67 by decide), p_up_n _ _ (show (71 : Nat) ≠ 68 by decide), p_up_n _ _ (show (71 : Nat) ≠ 69 by decide), p_up_n _ _ (show (71 : Nat) ≠ 70 by decide), p_up_s, hn]) ?_
  refine px_iconst (v := nI 1) rfl k_1 ?_
  refine px_isub rfl ?_
  refine px_ieq (nI_pred n) ?_
  refine px_ireturn rfl (.inl rfl) ?_
  refine ⟨rfl, ?_⟩
  simp only [rf_jM, p_up_n _ _ (show (65 : Nat) ≠ 66 by decide), p_up_n _ _ (show (65 : Nat) ≠ 67 by decide), p_up_n _ _ (show (65 : Nat) ≠ 68 by decide), p_up_n _ _ (show (65 : Nat) ≠ 69 by decide), p_up_n _ _ (show (65 : Nat) ≠ 70 by decide), p_up_n _ _ (show (65 : Nat) ≠ 71 by decide), p_up_n _ _ (show (66 : Nat) ≠ 65 by decide), p_up_n _ _ (show (66 : Nat) ≠ 67 by decide), p_up_n _ _ (show (66 : Nat) ≠ 68 by decide), p_up_n _ _ (show (66 : Nat) ≠ 69 by decide), p_up_n _ _ (show (66 : Nat) ≠ 70 by decide), p_up_n _ _ (show (66 : Nat) ≠ 71 by decide), p_up_n _ _ (show (67 : Nat) ≠ 65 by decide), p_up_n _ _ (show (67 : Nat) ≠ 66 by decide), p_up_n _ _ (show (67 : Nat) ≠ 68 by decide), p_up_n _ _ (show (67 : Nat) ≠ 69 by decide), p_up_n _ _ (show (67 : Nat) ≠ 70 by decide), p_up_n _ _ (show (67 : Nat) ≠ 71 by decide), p_up_n _ _ (show (68 : Nat) ≠ 65 by decide), p_up_n _ _ (show (68 : Nat) ≠ 66 by decide), p_up_n _ _ (show (68 : Nat) ≠ 67 by decide), p_up_n _ _ (show (68 : Nat) ≠ 69 by decide), p_up_n _ _ (show (68 : Nat) ≠ 70 by decide), p_up_n _ _ (show (68 : Nat) ≠ 71 by decide), p_up_n _ _ (show (69 : Nat) ≠ 65 by decide), p_up_n _ _ (show (69 : Nat) ≠ 66 by decide), p_up_n _ _ (show (69 : Nat) ≠ 67 by decide), p_up_n _ _ (show (69 : Nat) ≠ 68 by decide), p_up_n _ _ (show (69 : Nat) ≠ 70 by decide), p_up_n _ _ (show (69 : Nat) ≠ 71 by decide), p_up_n _ _ (show (70 : Nat) ≠ 65 by decide), p_up_n _ _ (show (70 : Nat) ≠ 66 by decide), p_up_n _ _ (show (70 : Nat) ≠ 67 by decide), p_up_n _ _ (show (70 : Nat) ≠ 68 by decide), p_up_n _ _ (show (70 : Nat) ≠ 69 by decide), p_up_n _ _ (show (70 : Nat) ≠ 71 by decide), p_up_n _ _ (show (71 : Nat) ≠ 65 by decide), p_up_n _ _ (show (71 : Nat) ≠ 66 by decide), p_up_n _ _ (show (71 : Nat) ≠ 67 by decide), p_up_n _ _ (show (71 : Nat) ≠ 68 by decide), p_up_n _ _ (show (71 : Nat) ≠ 69 by decide), p_up_n _ _ (show (71 : Nat) ≠ 70 by decide)]
theorem vX12_line {I : Nat → Nat → Int32} {J : Nat → Nat → Int64} {p : Bool × Option Nat} {ro : List (Nat × Nat × (Nat → Int32))} {n : Nat} (hn : I 65 1 = nI n) (hn8 : n ≤ 8) {x : Int32} : Pv 2 0 0 CX12_line [.ref (65), .int (x)] (gS, I, J, gR p, ro) (fun r S' => (n < 8 ∧ sp_may 0 x ∧ r = some (.int (nI n)) ∧ S' = (gS, (rf_jM I n x (nI 30) (nI 0)), J, gR p, ro)) ∨ (¬ sp_may 0 x ∧ r = some (.int (-1)) ∧ S' = (gS, I, J, gR p, ro)) ∨ (n = 8 ∧ sp_may 0 x ∧ r = some (.int (-3)) ∧ S' = (gS, I, J, gR p, ro))) := by
  refine ⟨okCX12_line, Nat.le_of_ble_eq_true rfl, (show Px _ _ _ _ 0 [some (.ref (65)), some (.int (x))] [] _ _ from ?_)⟩
  refine px_iload_n (kk := 1) rfl rfl rfl ?_
  refine px_callS0 CX12_isWarm [] [.int _] (vX12_isWarm) rfl rfl rfl (Nat.le_of_ble_eq_true rfl) (by decide) ?_
  rintro _ _ - (⟨hm, rfl, rfl⟩ | ⟨hm, rfl, rfl⟩)
  · refine px_if_ne rfl (fun _ => ?_) (fun h => absurd h (by decide))
    refine px_aload_n (kk := 0) rfl rfl rfl ?_
    refine px_getIe (v := nI n) rfl gS_65 rfl hn ?_
    refine px_bipush (v := nI 8) rfl b_8 ?_
    refine px_icmp_ne rfl (fun c8 => ?_) (fun c8 => ?_)
    · refine px_aload_n (kk := 0) rfl rfl rfl ?_
      refine px_iload_n (kk := 1) rfl rfl rfl ?_
      refine px_bipush (v := nI 30) rfl b_30 ?_
      refine px_iconst (v := nI 0) rfl k_0 ?_
      refine px_callV0 CX12_addLine [] [.int _, .int _, .int _] (vX12_addLine hn hn8 (by rw [ne_eq, n_eq (by omega) (by omega)] at c8; omega)) rfl gS_65 (by decide) rfl rfl rfl (Nat.le_of_ble_eq_true rfl) (by decide) ?_
      rintro _ _ - ⟨rfl, rfl⟩
      refine px_ireturn rfl (.inl rfl) ?_
      exact .inl ⟨by rw [ne_eq, n_eq (by omega) (by omega)] at c8; omega, hm, rfl, rfl⟩
    · refine px_bipush (v := -3) rfl b_m3 ?_
      refine px_goto rfl ?_
      refine px_ireturn rfl (.inl rfl) ?_
      exact .inr (.inr ⟨by rw [n_eq (by omega) (by omega)] at c8; exact c8, hm, rfl, rfl⟩)
  · refine px_if_ne rfl (fun h => absurd h (by decide)) (fun _ => ?_)
    refine px_iconst (v := -1) rfl k_m1 ?_
    refine px_ireturn rfl (.inl rfl) ?_
    exact .inr (.inl ⟨hm, rfl, rfl⟩)
/-- where a number stands there -/
def slR (w a b : Nat) : Nat × Nat := match w with
  | 0 => (66, a) | 1 => (67, a) | 2 => (68, a) | 3 => (69, 8 * a + b) | 4 => (65, 6) | _ => (65, 7)
theorem slR_ne {n w a b : Nat} (h : okN n w a b) {q : Nat} (hq : 70 ≤ q) : (slR w a b).1 ≠ q := by
  have hw := h.1
  rcases (by omega : w = 0 ∨ w = 1 ∨ w = 2 ∨ w = 3 ∨ w = 4 ∨ w = 5) with rfl | rfl | rfl | rfl | rfl | rfl <;> simp only [slR] <;> omega
theorem slR_f {n w a b : Nat} (h : okN n w a b) : (slR w a b).1 = 65 → (slR w a b).2 = 6 ∨ (slR w a b).2 = 7 := by
  have hw := h.1
  rcases (by omega : w = 0 ∨ w = 1 ∨ w = 2 ∨ w = 3 ∨ w = 4 ∨ w = 5) with rfl | rfl | rfl | rfl | rfl | rfl <;> simp [slR]
theorem vX12_valueAt_0 {I : Nat → Nat → Int32} {J : Nat → Nat → Int64} {p : Bool × Option Nat} {ro : List (Nat × Nat × (Nat → Int32))} {n : Nat} (hn8 : n ≤ 8) {a : Nat} (ha : a < n) : Pv 0 0 0 CX12_valueAt [.ref (65), .int (nI 0), .int (nI a)] (gS, I, J, gR p, ro) (qI (I 66 a) (gS, I, J, gR p, ro)) := by
  refine ⟨okCX12_valueAt, Nat.le_of_ble_eq_true rfl, (show Px _ _ _ _ 0 [some (.ref (65)), some (.int (nI 0)), some (.int (nI a))] [] _ _ from ?_)⟩
  refine px_iload_n (kk := 1) rfl rfl rfl ?_
  refine px_tableIn rfl 0 (by decide) (by decide) rfl ?_
  refine px_aload_n (kk := 0) rfl rfl rfl ?_
  refine px_getR (r := 66) rfl gS_65 rfl (gR_65_2 _) ?_
  refine px_iload_n (kk := 2) rfl rfl rfl ?_
  refine px_iald (j := a) rfl gS_66 rfl (by omega) ?_
  refine px_ireturn rfl (.inl rfl) ?_
  exact ⟨rfl, rfl⟩
theorem vX12_lays_0 {I : Nat → Nat → Int32} {J : Nat → Nat → Int64} {p : Bool × Option Nat} {ro : List (Nat × Nat × (Nat → Int32))} {n : Nat} (hn8 : n ≤ 8) {a : Nat} (ha : a < n) {v : Int32} : Pv 0 0 0 CX12_lays [.ref (65), .int (nI 0), .int (nI a), .int (v)] (gS, I, J, gR p, ro) (qV (gS, (va_up I 66 (va_up (I 66) a v)), J, gR p, ro)) := by
  refine ⟨okCX12_lays, Nat.le_of_ble_eq_true rfl, (show Px _ _ _ _ 0 [some (.ref (65)), some (.int (nI 0)), some (.int (nI a)), some (.int (v))] [] _ _ from ?_)⟩
  refine px_iload_n (kk := 1) rfl rfl rfl ?_
  refine px_tableIn rfl 0 (by decide) (by decide) rfl ?_
  refine px_aload_n (kk := 0) rfl rfl rfl ?_
  refine px_getR (r := 66) rfl gS_65 rfl (gR_65_2 _) ?_
  refine px_iload_n (kk := 2) rfl rfl rfl ?_
  refine px_iload_n (kk := 3) rfl rfl rfl ?_
  refine px_iast (j := a) rfl gS_66 rfl (by omega) ?_
  refine px_goto rfl ?_
  refine px_return rfl rfl ?_
  exact ⟨rfl, rfl⟩
theorem vX12_valueAt_1 {I : Nat → Nat → Int32} {J : Nat → Nat → Int64} {p : Bool × Option Nat} {ro : List (Nat × Nat × (Nat → Int32))} {n : Nat} (hn8 : n ≤ 8) {a : Nat} (ha : a < n) : Pv 0 0 0 CX12_valueAt [.ref (65), .int (nI 1), .int (nI a)] (gS, I, J, gR p, ro) (qI (I 67 a) (gS, I, J, gR p, ro)) := by
  refine ⟨okCX12_valueAt, Nat.le_of_ble_eq_true rfl, (show Px _ _ _ _ 0 [some (.ref (65)), some (.int (nI 1)), some (.int (nI a))] [] _ _ from ?_)⟩
  refine px_iload_n (kk := 1) rfl rfl rfl ?_
  refine px_tableIn rfl 1 (by decide) (by decide) rfl ?_
  refine px_aload_n (kk := 0) rfl rfl rfl ?_
  refine px_getR (r := 67) rfl gS_65 rfl (gR_65_3 _) ?_
  refine px_iload_n (kk := 2) rfl rfl rfl ?_
  refine px_iald (j := a) rfl gS_67 rfl (by omega) ?_
  refine px_ireturn rfl (.inl rfl) ?_
  exact ⟨rfl, rfl⟩
theorem vX12_lays_1 {I : Nat → Nat → Int32} {J : Nat → Nat → Int64} {p : Bool × Option Nat} {ro : List (Nat × Nat × (Nat → Int32))} {n : Nat} (hn8 : n ≤ 8) {a : Nat} (ha : a < n) {v : Int32} : Pv 0 0 0 CX12_lays [.ref (65), .int (nI 1), .int (nI a), .int (v)] (gS, I, J, gR p, ro) (qV (gS, (va_up I 67 (va_up (I 67) a v)), J, gR p, ro)) := by
  refine ⟨okCX12_lays, Nat.le_of_ble_eq_true rfl, (show Px _ _ _ _ 0 [some (.ref (65)), some (.int (nI 1)), some (.int (nI a)), some (.int (v))] [] _ _ from ?_)⟩
  refine px_iload_n (kk := 1) rfl rfl rfl ?_
  refine px_tableIn rfl 1 (by decide) (by decide) rfl ?_
  refine px_aload_n (kk := 0) rfl rfl rfl ?_
  refine px_getR (r := 67) rfl gS_65 rfl (gR_65_3 _) ?_
  refine px_iload_n (kk := 2) rfl rfl rfl ?_
  refine px_iload_n (kk := 3) rfl rfl rfl ?_
  refine px_iast (j := a) rfl gS_67 rfl (by omega) ?_
  refine px_goto rfl ?_
  refine px_return rfl rfl ?_
  exact ⟨rfl, rfl⟩
theorem vX12_valueAt_2 {I : Nat → Nat → Int32} {J : Nat → Nat → Int64} {p : Bool × Option Nat} {ro : List (Nat × Nat × (Nat → Int32))} {n : Nat} (hn8 : n ≤ 8) {a : Nat} (ha : a < n) : Pv 0 0 0 CX12_valueAt [.ref (65), .int (nI 2), .int (nI a)] (gS, I, J, gR p, ro) (qI (I 68 a) (gS, I, J, gR p, ro)) := by
  refine ⟨okCX12_valueAt, Nat.le_of_ble_eq_true rfl, (show Px _ _ _ _ 0 [some (.ref (65)), some (.int (nI 2)), some (.int (nI a))] [] _ _ from ?_)⟩
  refine px_iload_n (kk := 1) rfl rfl rfl ?_
  refine px_tableIn rfl 2 (by decide) (by decide) rfl ?_
  refine px_aload_n (kk := 0) rfl rfl rfl ?_
  refine px_getR (r := 68) rfl gS_65 rfl (gR_65_4 _) ?_
  refine px_iload_n (kk := 2) rfl rfl rfl ?_
  refine px_iald (j := a) rfl gS_68 rfl (by omega) ?_
  refine px_ireturn rfl (.inl rfl) ?_
  exact ⟨rfl, rfl⟩
theorem vX12_lays_2 {I : Nat → Nat → Int32} {J : Nat → Nat → Int64} {p : Bool × Option Nat} {ro : List (Nat × Nat × (Nat → Int32))} {n : Nat} (hn8 : n ≤ 8) {a : Nat} (ha : a < n) {v : Int32} : Pv 0 0 0 CX12_lays [.ref (65), .int (nI 2), .int (nI a), .int (v)] (gS, I, J, gR p, ro) (qV (gS, (va_up I 68 (va_up (I 68) a v)), J, gR p, ro)) := by
  refine ⟨okCX12_lays, Nat.le_of_ble_eq_true rfl, (show Px _ _ _ _ 0 [some (.ref (65)), some (.int (nI 2)), some (.int (nI a)), some (.int (v))] [] _ _ from ?_)⟩
  refine px_iload_n (kk := 1) rfl rfl rfl ?_
  refine px_tableIn rfl 2 (by decide) (by decide) rfl ?_
  refine px_aload_n (kk := 0) rfl rfl rfl ?_
  refine px_getR (r := 68) rfl gS_65 rfl (gR_65_4 _) ?_
  refine px_iload_n (kk := 2) rfl rfl rfl ?_
  refine px_iload_n (kk := 3) rfl rfl rfl ?_
  refine px_iast (j := a) rfl gS_68 rfl (by omega) ?_
  refine px_goto rfl ?_
  refine px_return rfl rfl ?_
  exact ⟨rfl, rfl⟩
theorem vX12_valueAt_3 {I : Nat → Nat → Int32} {J : Nat → Nat → Int64} {p : Bool × Option Nat} {ro : List (Nat × Nat × (Nat → Int32))} {n : Nat} (hn8 : n ≤ 8) {a b : Nat} (ha : a < n) (hb : b < n) : Pv 0 0 0 CX12_valueAt [.ref (65), .int (nI 3), .int (nI (10 * a + b))] (gS, I, J, gR p, ro) (qI (I 69 (8 * a + b)) (gS, I, J, gR p, ro)) := by
  refine ⟨okCX12_valueAt, Nat.le_of_ble_eq_true rfl, (show Px _ _ _ _ 0 [some (.ref (65)), some (.int (nI 3)), some (.int (nI (10 * a + b)))] [] _ _ from ?_)⟩
  refine px_iload_n (kk := 1) rfl rfl rfl ?_
  refine px_tableIn rfl 3 (by decide) (by decide) rfl ?_
  refine px_aload_n (kk := 0) rfl rfl rfl ?_
  refine px_getR (r := 69) rfl gS_65 rfl (gR_65_5 _) ?_
  refine px_bipush (v := nI 8) rfl b_8 ?_
  refine px_iload_n (kk := 2) rfl rfl rfl ?_
  refine px_bipush (v := nI 10) rfl b_10 ?_
  refine px_idivN rfl (by decide) (by decide) (by omega) ?_
  refine px_imulN rfl ?_
  refine px_iload_n (kk := 2) rfl rfl rfl ?_
  refine px_bipush (v := nI 10) rfl b_10 ?_
  refine px_iremN rfl (by decide) (by decide) (by omega) ?_
  refine px_iaddN rfl ?_
  refine px_iald (j := 8 * a + b) rfl gS_69 (by congr 1; omega) (by omega) ?_
  refine px_ireturn rfl (.inl rfl) ?_
  exact ⟨rfl, rfl⟩
theorem vX12_lays_3 {I : Nat → Nat → Int32} {J : Nat → Nat → Int64} {p : Bool × Option Nat} {ro : List (Nat × Nat × (Nat → Int32))} {n : Nat} (hn8 : n ≤ 8) {a b : Nat} (ha : a < n) (hb : b < n) {v : Int32} : Pv 0 0 0 CX12_lays [.ref (65), .int (nI 3), .int (nI (10 * a + b)), .int (v)] (gS, I, J, gR p, ro) (qV (gS, (va_up I 69 (va_up (I 69) (8 * a + b) v)), J, gR p, ro)) := by
  refine ⟨okCX12_lays, Nat.le_of_ble_eq_true rfl, (show Px _ _ _ _ 0 [some (.ref (65)), some (.int (nI 3)), some (.int (nI (10 * a + b))), some (.int (v))] [] _ _ from ?_)⟩
  refine px_iload_n (kk := 1) rfl rfl rfl ?_
  refine px_tableIn rfl 3 (by decide) (by decide) rfl ?_
  refine px_aload_n (kk := 0) rfl rfl rfl ?_
  refine px_getR (r := 69) rfl gS_65 rfl (gR_65_5 _) ?_
  refine px_bipush (v := nI 8) rfl b_8 ?_
  refine px_iload_n (kk := 2) rfl rfl rfl ?_
  refine px_bipush (v := nI 10) rfl b_10 ?_
  refine px_idivN rfl (by decide) (by decide) (by omega) ?_
  refine px_imulN rfl ?_
  refine px_iload_n (kk := 2) rfl rfl rfl ?_
  refine px_bipush (v := nI 10) rfl b_10 ?_
  refine px_iremN rfl (by decide) (by decide) (by omega) ?_
  refine px_iaddN rfl ?_
  refine px_iload_n (kk := 3) rfl rfl rfl ?_
  refine px_iast (j := 8 * a + b) rfl gS_69 (by congr 1; omega) (by omega) ?_
  refine px_goto rfl ?_
  refine px_return rfl rfl ?_
  exact ⟨rfl, rfl⟩
theorem vX12_valueAt_4 {I : Nat → Nat → Int32} {J : Nat → Nat → Int64} {p : Bool × Option Nat} {ro : List (Nat × Nat × (Nat → Int32))} {n : Nat} (hn8 : n ≤ 8)  : Pv 0 0 0 CX12_valueAt [.ref (65), .int (nI 4), .int (nI 0)] (gS, I, J, gR p, ro) (qI (I 65 6) (gS, I, J, gR p, ro)) := by
  refine ⟨okCX12_valueAt, Nat.le_of_ble_eq_true rfl, (show Px _ _ _ _ 0 [some (.ref (65)), some (.int (nI 4)), some (.int (nI 0))] [] _ _ from ?_)⟩
  refine px_iload_n (kk := 1) rfl rfl rfl ?_
  refine px_tableIn rfl 4 (by decide) (by decide) rfl ?_
  refine px_aload_n (kk := 0) rfl rfl rfl ?_
  refine px_getI rfl gS_65 rfl ?_
  refine px_ireturn rfl (.inl rfl) ?_
  exact ⟨rfl, rfl⟩
theorem vX12_lays_4 {I : Nat → Nat → Int32} {J : Nat → Nat → Int64} {p : Bool × Option Nat} {ro : List (Nat × Nat × (Nat → Int32))} {n : Nat} (hn8 : n ≤ 8)  {v : Int32} : Pv 0 0 0 CX12_lays [.ref (65), .int (nI 4), .int (nI 0), .int (v)] (gS, I, J, gR p, ro) (qV (gS, (va_up I 65 (va_up (I 65) 6 v)), J, gR p, ro)) := by
  refine ⟨okCX12_lays, Nat.le_of_ble_eq_true rfl, (show Px _ _ _ _ 0 [some (.ref (65)), some (.int (nI 4)), some (.int (nI 0)), some (.int (v))] [] _ _ from ?_)⟩
  refine px_iload_n (kk := 1) rfl rfl rfl ?_
  refine px_tableIn rfl 4 (by decide) (by decide) rfl ?_
  refine px_aload_n (kk := 0) rfl rfl rfl ?_
  refine px_iload_n (kk := 3) rfl rfl rfl ?_
  refine px_putI rfl gS_65 rfl rfl ?_
  refine px_goto rfl ?_
  refine px_return rfl rfl ?_
  exact ⟨rfl, rfl⟩
theorem vX12_valueAt_5 {I : Nat → Nat → Int32} {J : Nat → Nat → Int64} {p : Bool × Option Nat} {ro : List (Nat × Nat × (Nat → Int32))} {n : Nat} (hn8 : n ≤ 8)  : Pv 0 0 0 CX12_valueAt [.ref (65), .int (nI 5), .int (nI 0)] (gS, I, J, gR p, ro) (qI (I 65 7) (gS, I, J, gR p, ro)) := by
  refine ⟨okCX12_valueAt, Nat.le_of_ble_eq_true rfl, (show Px _ _ _ _ 0 [some (.ref (65)), some (.int (nI 5)), some (.int (nI 0))] [] _ _ from ?_)⟩
  refine px_iload_n (kk := 1) rfl rfl rfl ?_
  refine px_tableOut rfl (by decide) ?_
  refine px_aload_n (kk := 0) rfl rfl rfl ?_
  refine px_getI rfl gS_65 rfl ?_
  refine px_ireturn rfl (.inl rfl) ?_
  exact ⟨rfl, rfl⟩
theorem vX12_lays_5 {I : Nat → Nat → Int32} {J : Nat → Nat → Int64} {p : Bool × Option Nat} {ro : List (Nat × Nat × (Nat → Int32))} {n : Nat} (hn8 : n ≤ 8)  {v : Int32} : Pv 0 0 0 CX12_lays [.ref (65), .int (nI 5), .int (nI 0), .int (v)] (gS, I, J, gR p, ro) (qV (gS, (va_up I 65 (va_up (I 65) 7 v)), J, gR p, ro)) := by
  refine ⟨okCX12_lays, Nat.le_of_ble_eq_true rfl, (show Px _ _ _ _ 0 [some (.ref (65)), some (.int (nI 5)), some (.int (nI 0)), some (.int (v))] [] _ _ from ?_)⟩
  refine px_iload_n (kk := 1) rfl rfl rfl ?_
  refine px_tableOut rfl (by decide) ?_
  refine px_aload_n (kk := 0) rfl rfl rfl ?_
  refine px_iload_n (kk := 3) rfl rfl rfl ?_
  refine px_putI rfl gS_65 rfl rfl ?_
  refine px_return rfl rfl ?_
  exact ⟨rfl, rfl⟩
theorem vX12_valueG {I : Nat → Nat → Int32} {J : Nat → Nat → Int64} {p : Bool × Option Nat} {ro : List (Nat × Nat × (Nat → Int32))} {n : Nat} (hn8 : n ≤ 8) {w a b : Nat} (h : okN n w a b) : Pv 0 0 0 CX12_valueAt [.ref 65, .int (nI w), .int (nI (nmb w a b))] (gS, I, J, gR p, ro) (qI (I (slR w a b).1 (slR w a b).2) (gS, I, J, gR p, ro)) := by
  obtain ⟨hw, h1, h2⟩ := h
  rcases (by omega : w = 0 ∨ w = 1 ∨ w = 2 ∨ w = 3 ∨ w = 4 ∨ w = 5) with rfl | rfl | rfl | rfl | rfl | rfl
  · exact vX12_valueAt_0 hn8 (h1 (by decide))
  · exact vX12_valueAt_1 hn8 (h1 (by decide))
  · exact vX12_valueAt_2 hn8 (h1 (by decide))
  · exact vX12_valueAt_3 hn8 (h2 rfl).1 (h2 rfl).2.1
  · exact vX12_valueAt_4 hn8 
  · exact vX12_valueAt_5 hn8 
theorem vX12_laysG {I : Nat → Nat → Int32} {J : Nat → Nat → Int64} {p : Bool × Option Nat} {ro : List (Nat × Nat × (Nat → Int32))} {n : Nat} (hn8 : n ≤ 8) {w a b : Nat} (h : okN n w a b) {v : Int32} : Pv 0 0 0 CX12_lays [.ref 65, .int (nI w), .int (nI (nmb w a b)), .int v] (gS, I, J, gR p, ro) (qV (gS, (va_up I (slR w a b).1 (va_up (I (slR w a b).1) (slR w a b).2 v)), J, gR p, ro)) := by
  obtain ⟨hw, h1, h2⟩ := h
  rcases (by omega : w = 0 ∨ w = 1 ∨ w = 2 ∨ w = 3 ∨ w = 4 ∨ w = 5) with rfl | rfl | rfl | rfl | rfl | rfl
  · exact vX12_lays_0 hn8 (h1 (by decide))
  · exact vX12_lays_1 hn8 (h1 (by decide))
  · exact vX12_lays_2 hn8 (h1 (by decide))
  · exact vX12_lays_3 hn8 (h2 rfl).1 (h2 rfl).2.1
  · exact vX12_lays_4 hn8 
  · exact vX12_lays_5 hn8 
