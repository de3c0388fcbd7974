/-! the reference: numbers told anew -/
theorem in_nn {lo hi : Nat} (h1 : lo < 2 ^ 31) (h2 : hi < 2 ^ 31) {x : Int32} : (nI lo ≤ x ∧ x ≤ nI hi) ↔ ∃ a, lo ≤ a ∧ a ≤ hi ∧ x = nI a := by
  constructor
  · rintro ⟨z1, z2⟩
    rw [i_le, nI_toInt h1] at z1
    rw [i_le, nI_toInt h2] at z2
    obtain ⟨a, ha, rfl⟩ := n_ofn (x := x) (fun z => by rw [i_lt, i_0] at z; omega)
    rw [nI_toInt ha] at z1 z2
    exact ⟨a, by omega, by omega, rfl⟩
  · rintro ⟨a, z1, z2, rfl⟩
    rw [n_le h1 (by omega), n_le (by omega) h2]
    exact ⟨z1, z2⟩
theorem in_m {k : Nat} {v : Int32} {lo hi : Int32} (h : sp_may k v = (lo.toInt ≤ v.toInt ∧ v.toInt ≤ hi.toInt)) : (lo ≤ v ∧ v ≤ hi) ↔ sp_may k v := by
  rw [h, i_le, i_le]
theorem vX12_mayHave_0 {I : Nat → Nat → Int32} {J : Nat → Nat → Int64} {p : Bool × Option Nat} {ro : List (Nat × Nat × (Nat → Int32))} {v : Int32} : Pv 2 0 0 CX12_mayHave [.int (nI 0), .int (v)] (gS, I, J, gR p, ro) (qB (sp_may 0 v) (gS, I, J, gR p, ro)) := by
  refine ⟨okCX12_mayHave, Nat.le_of_ble_eq_true rfl, (show Px _ _ _ _ 0 [some (.int (nI 0)), some (.int (v))] [] _ _ from ?_)⟩
  refine px_iload_n (kk := 0) rfl rfl rfl ?_
  refine px_tableOut rfl (by decide) ?_
  refine px_iload_n (kk := 1) rfl rfl rfl ?_
  refine px_callS0 CX12_isWarm [] [.int _] (vX12_isWarm) rfl rfl rfl (Nat.le_of_ble_eq_true rfl) (by decide) ?_
  rintro _ _ - (⟨h, rfl, rfl⟩ | ⟨h, rfl, rfl⟩)
  · refine px_ireturn rfl (.inr ⟨rfl, by decide⟩) ?_
    exact qB_t h
  · refine px_ireturn rfl (.inr ⟨rfl, by decide⟩) ?_
    exact qB_f h
theorem vX12_mayHave_1 {I : Nat → Nat → Int32} {J : Nat → Nat → Int64} {p : Bool × Option Nat} {ro : List (Nat × Nat × (Nat → Int32))} {v : Int32} : Pv 2 0 0 CX12_mayHave [.int (nI 1), .int (v)] (gS, I, J, gR p, ro) (qB (sp_may 1 v) (gS, I, J, gR p, ro)) := by
  refine ⟨okCX12_mayHave, Nat.le_of_ble_eq_true rfl, (show Px _ _ _ _ 0 [some (.int (nI 1)), some (.int (v))] [] _ _ from ?_)⟩
  refine px_iload_n (kk := 0) rfl rfl rfl ?_
  refine px_tableOut rfl (by decide) ?_
  refine px_iload_n (kk := 1) rfl rfl rfl ?_
  refine px_callS0 CX12_isWarm [] [.int _] (vX12_isWarm) rfl rfl rfl (Nat.le_of_ble_eq_true rfl) (by decide) ?_
  rintro _ _ - (⟨h, rfl, rfl⟩ | ⟨h, rfl, rfl⟩)
  · refine px_ireturn rfl (.inr ⟨rfl, by decide⟩) ?_
    exact qB_t h
  · refine px_ireturn rfl (.inr ⟨rfl, by decide⟩) ?_
    exact qB_f h
theorem vX12_mayHave_2 {I : Nat → Nat → Int32} {J : Nat → Nat → Int64} {p : Bool × Option Nat} {ro : List (Nat × Nat × (Nat → Int32))} {v : Int32} : Pv 2 0 0 CX12_mayHave [.int (nI 2), .int (v)] (gS, I, J, gR p, ro) (qB (sp_may 2 v) (gS, I, J, gR p, ro)) := by
  refine ⟨okCX12_mayHave, Nat.le_of_ble_eq_true rfl, (show Px _ _ _ _ 0 [some (.int (nI 2)), some (.int (v))] [] _ _ from ?_)⟩
  refine px_iload_n (kk := 0) rfl rfl rfl ?_
  refine px_tableIn rfl 0 (by decide) (by decide) rfl ?_
  refine px_iload_n (kk := 1) rfl rfl rfl ?_
  refine px_iconst (v := nI 0) rfl k_0 ?_
  refine px_iconst (v := nI 3) rfl k_3 ?_
  refine px_callS0 CX12_in [] [.int _, .int _, .int _] (vX12_in) rfl rfl rfl (Nat.le_of_ble_eq_true rfl) (by decide) ?_
  rintro _ _ - (⟨h, rfl, rfl⟩ | ⟨h, rfl, rfl⟩)
  · refine px_ireturn rfl (.inr ⟨rfl, by decide⟩) ?_
    exact qB_t ((in_m (k := 2) (lo := nI 0) (hi := nI 3) (by simp only [sp_may]; rfl)).mp h)
  · refine px_ireturn rfl (.inr ⟨rfl, by decide⟩) ?_
    exact qB_f (fun z => h ((in_m (k := 2) (lo := nI 0) (hi := nI 3) (by simp only [sp_may]; rfl)).mpr z))
theorem vX12_mayHave_3 {I : Nat → Nat → Int32} {J : Nat → Nat → Int64} {p : Bool × Option Nat} {ro : List (Nat × Nat × (Nat → Int32))} {v : Int32} : Pv 2 0 0 CX12_mayHave [.int (nI 3), .int (v)] (gS, I, J, gR p, ro) (qB (sp_may 3 v) (gS, I, J, gR p, ro)) := by
  refine ⟨okCX12_mayHave, Nat.le_of_ble_eq_true rfl, (show Px _ _ _ _ 0 [some (.int (nI 3)), some (.int (v))] [] _ _ from ?_)⟩
  refine px_iload_n (kk := 0) rfl rfl rfl ?_
  refine px_tableIn rfl 1 (by decide) (by decide) rfl ?_
  refine px_iload_n (kk := 1) rfl rfl rfl ?_
  refine px_bipush (v := -9) rfl b_m9 ?_
  refine px_bipush (v := nI 9) rfl b_9 ?_
  refine px_callS0 CX12_in [] [.int _, .int _, .int _] (vX12_in) rfl rfl rfl (Nat.le_of_ble_eq_true rfl) (by decide) ?_
  rintro _ _ - (⟨h, rfl, rfl⟩ | ⟨h, rfl, rfl⟩)
  · refine px_ireturn rfl (.inr ⟨rfl, by decide⟩) ?_
    exact qB_t ((in_m (k := 3) (lo := -9) (hi := nI 9) (by simp only [sp_may]; rfl)).mp h)
  · refine px_ireturn rfl (.inr ⟨rfl, by decide⟩) ?_
    exact qB_f (fun z => h ((in_m (k := 3) (lo := -9) (hi := nI 9) (by simp only [sp_may]; rfl)).mpr z))
theorem vX12_mayHave_4 {I : Nat → Nat → Int32} {J : Nat → Nat → Int64} {p : Bool × Option Nat} {ro : List (Nat × Nat × (Nat → Int32))} {v : Int32} : Pv 2 0 0 CX12_mayHave [.int (nI 4), .int (v)] (gS, I, J, gR p, ro) (qB (sp_may 4 v) (gS, I, J, gR p, ro)) := by
  refine ⟨okCX12_mayHave, Nat.le_of_ble_eq_true rfl, (show Px _ _ _ _ 0 [some (.int (nI 4)), some (.int (v))] [] _ _ from ?_)⟩
  refine px_iload_n (kk := 0) rfl rfl rfl ?_
  refine px_tableIn rfl 2 (by decide) (by decide) rfl ?_
  refine px_iload_n (kk := 1) rfl rfl rfl ?_
  refine px_iconst (v := nI 0) rfl k_0 ?_
  refine px_iconst (v := nI 4) rfl k_4 ?_
  refine px_callS0 CX12_in [] [.int _, .int _, .int _] (vX12_in) rfl rfl rfl (Nat.le_of_ble_eq_true rfl) (by decide) ?_
  rintro _ _ - (⟨h, rfl, rfl⟩ | ⟨h, rfl, rfl⟩)
  · refine px_ireturn rfl (.inr ⟨rfl, by decide⟩) ?_
    exact qB_t ((in_m (k := 4) (lo := nI 0) (hi := nI 4) (by simp only [sp_may]; rfl)).mp h)
  · refine px_ireturn rfl (.inr ⟨rfl, by decide⟩) ?_
    exact qB_f (fun z => h ((in_m (k := 4) (lo := nI 0) (hi := nI 4) (by simp only [sp_may]; rfl)).mpr z))
theorem vX12_mayHave_5 {I : Nat → Nat → Int32} {J : Nat → Nat → Int64} {p : Bool × Option Nat} {ro : List (Nat × Nat × (Nat → Int32))} {v : Int32} : Pv 2 0 0 CX12_mayHave [.int (nI 5), .int (v)] (gS, I, J, gR p, ro) (qB (sp_may 5 v) (gS, I, J, gR p, ro)) := by
  refine ⟨okCX12_mayHave, Nat.le_of_ble_eq_true rfl, (show Px _ _ _ _ 0 [some (.int (nI 5)), some (.int (v))] [] _ _ from ?_)⟩
  refine px_iload_n (kk := 0) rfl rfl rfl ?_
  refine px_tableIn rfl 3 (by decide) (by decide) rfl ?_
  refine px_iload_n (kk := 1) rfl rfl rfl ?_
  refine px_iconst (v := nI 0) rfl k_0 ?_
  refine px_bipush (v := nI 9) rfl b_9 ?_
  refine px_callS0 CX12_in [] [.int _, .int _, .int _] (vX12_in) rfl rfl rfl (Nat.le_of_ble_eq_true rfl) (by decide) ?_
  rintro _ _ - (⟨h, rfl, rfl⟩ | ⟨h, rfl, rfl⟩)
  · refine px_ireturn rfl (.inr ⟨rfl, by decide⟩) ?_
    exact qB_t ((in_m (k := 5) (lo := nI 0) (hi := nI 9) (by simp only [sp_may]; rfl)).mp h)
  · refine px_ireturn rfl (.inr ⟨rfl, by decide⟩) ?_
    exact qB_f (fun z => h ((in_m (k := 5) (lo := nI 0) (hi := nI 9) (by simp only [sp_may]; rfl)).mpr z))
theorem vX12_mayHaveG {I : Nat → Nat → Int32} {J : Nat → Nat → Int64} {p : Bool × Option Nat} {ro : List (Nat × Nat × (Nat → Int32))} {k : Nat} (hk : k < 6) {v : Int32} : Pv 2 0 0 CX12_mayHave [.int (nI k), .int v] (gS, I, J, gR p, ro) (qB (sp_may k v) (gS, I, J, gR p, ro)) := by
  rcases (by omega : k = 0 ∨ k = 1 ∨ k = 2 ∨ k = 3 ∨ k = 4 ∨ k = 5) with rfl | rfl | rfl | rfl | rfl | rfl
  · exact vX12_mayHave_0
  · exact vX12_mayHave_1
  · exact vX12_mayHave_2
  · exact vX12_mayHave_3
  · exact vX12_mayHave_4
  · exact vX12_mayHave_5
theorem num_low {n k : Nat} (h : k < 3) {x : Int32} : sp_num n k x ↔ ∃ a, a < n ∧ x = nI a := by
  rcases (by omega : k = 0 ∨ k = 1 ∨ k = 2) with rfl | rfl | rfl <;> exact Iff.rfl
theorem num_hi {n k : Nat} (h : 4 ≤ k) (h2 : k < 6) {x : Int32} : sp_num n k x ↔ x = nI 0 := by
  rcases (by omega : k = 4 ∨ k = 5) with rfl | rfl <;> exact Iff.rfl
theorem vX12_isOne {I : Nat → Nat → Int32} {J : Nat → Nat → Int64} {p : Bool × Option Nat} {ro : List (Nat × Nat × (Nat → Int32))} {n : Nat} (hn : I 65 1 = nI n) (hn8 : n ≤ 8) {x w : Int32} : Pv 3 0 0 CX12_isOne [.ref (65), .int (x), .int (w)] (gS, I, J, gR p, ro) (qB (∃ k, k < 6 ∧ w = nI k ∧ sp_num n k x) (gS, I, J, gR p, ro)) := by
  refine ⟨okCX12_isOne, Nat.le_of_ble_eq_true rfl, (show Px _ _ _ _ 0 [some (.ref (65)), some (.int (x)), some (.int (w))] [] _ _ from ?_)⟩
  refine px_iload_n (kk := 2) rfl rfl rfl ?_
  refine px_iconst (v := nI 0) rfl k_0 ?_
  refine px_iconst (v := nI 2) rfl k_2 ?_
  refine px_callS0 CX12_in [] [.int _, .int _, .int _] (vX12_in) rfl rfl rfl (Nat.le_of_ble_eq_true rfl) (by decide) ?_
  rintro _ _ - (⟨h02, rfl, rfl⟩ | ⟨h02, rfl, rfl⟩)
  · obtain ⟨k, -, hk, rfl⟩ := (in_nn (by decide) (by decide)).mp h02
    refine px_if_eq rfl (fun h => absurd h (by decide)) (fun _ => ?_)
    refine px_aload_n (kk := 0) rfl rfl rfl ?_
    refine px_iload_n (kk := 1) rfl rfl rfl ?_
    refine px_callV0 CX12_isLine [] [.int _] (vX12_isLine hn hn8) rfl gS_65 (by decide) rfl rfl rfl (Nat.le_of_ble_eq_true rfl) (by decide) ?_
    rintro _ _ - (⟨hl, rfl, rfl⟩ | ⟨hl, rfl, rfl⟩)
    · refine px_goto rfl ?_
      refine px_ireturn rfl (.inr ⟨rfl, by decide⟩) ?_
      exact qB_t ⟨k, by omega, rfl, (num_low (by omega)).mpr hl⟩
    · refine px_goto rfl ?_
      refine px_ireturn rfl (.inr ⟨rfl, by decide⟩) ?_
      exact qB_f (fun ⟨k2, hk2, e, hnu⟩ => by rw [n_eq (by omega) (by omega)] at e; subst e; exact hl ((num_low (by omega)).mp hnu))
  · refine px_if_eq rfl (fun _ => ?_) (fun h => absurd h (by decide))
    refine px_iload_n (kk := 2) rfl rfl rfl ?_
    refine px_iconst (v := nI 3) rfl k_3 ?_
    refine px_icmp_ne rfl (fun c11 => ?_) (fun c11 => ?_)
    · refine px_iload_n (kk := 2) rfl rfl rfl ?_
      refine px_iconst (v := nI 4) rfl k_4 ?_
      refine px_iconst (v := nI 5) rfl k_5 ?_
      refine px_callS0 CX12_in [] [.int _, .int _, .int _] (vX12_in) rfl rfl rfl (Nat.le_of_ble_eq_true rfl) (by decide) ?_
      rintro _ _ - (⟨h45, rfl, rfl⟩ | ⟨h45, rfl, rfl⟩)
      · obtain ⟨k, hk4, hk, rfl⟩ := (in_nn (by decide) (by decide)).mp h45
        refine px_if_eq rfl (fun h => absurd h (by decide)) (fun _ => ?_)
        refine px_iload_n (kk := 1) rfl rfl rfl ?_
        refine px_if_ne rfl (fun c22 => ?_) (fun c22 => ?_)
        · refine px_iconst (v := nI 0) rfl k_0 ?_
          refine px_ireturn rfl (.inr ⟨rfl, by decide⟩) ?_
          exact qB_f (fun ⟨k2, hk2, e, hnu⟩ => by rw [n_eq (by omega) (by omega)] at e; subst e; exact c22 (by rw [n_0]; exact (num_hi (by omega) hk2).mp hnu))
        · refine px_iconst (v := nI 1) rfl k_1 ?_
          refine px_goto rfl ?_
          refine px_ireturn rfl (.inr ⟨rfl, by decide⟩) ?_
          exact qB_t ⟨k, by omega, rfl, (num_hi (by omega) (by omega)).mpr (by rw [← n_0]; first | exact c22 | exact Classical.byContradiction c22)⟩
      · refine px_if_eq rfl (fun _ => ?_) (fun h => absurd h (by decide))
        refine px_iconst (v := nI 0) rfl k_0 ?_
        refine px_ireturn rfl (.inr ⟨rfl, by decide⟩) ?_
        exact qB_f (fun ⟨k2, hk2, e, hnu⟩ => (by rcases (by omega : k2 ≤ 2 ∨ k2 = 3 ∨ (4 ≤ k2 ∧ k2 ≤ 5)) with q | rfl | q; exact h02 ((in_nn (by decide) (by decide)).mpr ⟨k2, by omega, by omega, e⟩); exact c11 e; exact h45 ((in_nn (by decide) (by decide)).mpr ⟨k2, q.1, q.2, e⟩)))
    · refine px_aload_n (kk := 0) rfl rfl rfl ?_
      refine px_iload_n (kk := 1) rfl rfl rfl ?_
      refine px_callV0 CX12_areTwo [] [.int _] (vX12_areTwo hn hn8) rfl gS_65 (by decide) rfl rfl rfl (Nat.le_of_ble_eq_true rfl) (by decide) ?_
      rintro _ _ - (⟨hp, rfl, rfl⟩ | ⟨hp, rfl, rfl⟩)
      · refine px_goto rfl ?_
        refine px_ireturn rfl (.inr ⟨rfl, by decide⟩) ?_
        exact qB_t ⟨3, by decide, by first | exact c11 | exact Classical.byContradiction c11, hp⟩
      · refine px_goto rfl ?_
        refine px_ireturn rfl (.inr ⟨rfl, by decide⟩) ?_
        exact qB_f (fun ⟨k2, hk2, e, hnu⟩ => by rw [show w = nI 3 from by first | exact c11 | exact Classical.byContradiction c11, n_eq (by omega) (by omega)] at e; subst e; exact hp hnu)
