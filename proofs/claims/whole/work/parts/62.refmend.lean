/-! the reference: numbers told anew -/
theorem in_nn {lo hi : Nat} (h1 : lo < 2 ^ 31) (h2 : hi < 2 ^ 31) {x : Int32} : (nI lo ≤ x ∧ x ≤ nI hi) ↔ ∃ a, lo ≤ a ∧ a ≤ hi ∧ x = nI a := by
  constructor
  · rintro ⟨z1, z2⟩
    rw [i_le, nI_toInt h1] at z1
    rw [i_le, nI_toInt h2] at z2
    obtain ⟨a, ha, rfl⟩ := n_ofn (x := x) (fun z => by rw [i_lt, i_0] at z; omega)
    rw [nI_toInt ha] at z1 z2
    exact ⟨a, by omega, by omega, rfl⟩
  · rintro ⟨a, z1, z2, rfl⟩
    rw [n_le h1 (by omega), n_le (by omega) h2]
    exact ⟨z1, z2⟩
theorem in_m {k : Nat} {v : Int32} {lo hi : Int32} (h : sp_may k v = (lo.toInt ≤ v.toInt ∧ v.toInt ≤ hi.toInt)) : (lo ≤ v ∧ v ≤ hi) ↔ sp_may k v := by
  rw [h, i_le, i_le]
theorem vX12_mayHave_0 {I : Nat → Nat → Int32} {J : Nat → Nat → Int64} {p : Bool × Option Nat} {ro : List (Nat × Nat × (Nat → Int32))} {v : Int32} : Pv 2 0 0 CX12_mayHave [.int (nI 0), .int (v)] (gS, I, J, gR p, ro) (qB (sp_may 0 v) (gS, I, J, gR p, ro)) := by
  refine ⟨okCX12_mayHave, Nat.le_of_ble_eq_true rfl, (show Px _ _ _ _ 0 [some (.int (nI 0)), some (.int (v))] [] _ _ from ?_)⟩
  refine px_iload_n (kk := 0) rfl rfl rfl ?_
  refine px_tableOut rfl (by decide) ?_
  refine px_iload_n (kk := 1) rfl rfl rfl ?_
  refine px_callS0 CX12_isWarm [] [.int _] (vX12_isWarm) rfl rfl rfl (Nat.le_of_ble_eq_true rfl) (by decide) ?_
  rintro _ _ - (⟨h, rfl, rfl⟩ | ⟨h, rfl, rfl⟩)
  · refine px_ireturn rfl (.inr ⟨rfl, by decide⟩) ?_
    exact qB_t h
  · refine px_ireturn rfl (.inr ⟨rfl, by decide⟩) ?_
    exact qB_f h
theorem vX12_mayHave_1 {I : Nat → Nat → Int32} {J : Nat → Nat → Int64} {p : Bool × Option Nat} {ro : List (Nat × Nat × (Nat → Int32))} {v : Int32} : Pv 2 0 0 CX12_mayHave [.int (nI 1), .int (v)] (gS, I, J, gR p, ro) (qB (sp_may 1 v) (gS, I, J, gR p, ro)) := by
  refine ⟨okCX12_mayHave, Nat.le_of_ble_eq_true rfl, (show Px _ _ _ _ 0 [some (.int (nI 1)), some (.int (v))] [] _ _ from ?_)⟩
  refine px_iload_n (kk := 0) rfl rfl rfl ?_
  refine px_tableOut rfl (by decide) ?_
  refine px_iload_n (kk := 1) rfl rfl rfl ?_
  refine px_callS0 CX12_isWarm [] [.int _] (vX12_isWarm) rfl rfl rfl (Nat.le_of_ble_eq_true rfl) (by decide) ?_
  rintro _ _ - (⟨h, rfl, rfl⟩ | ⟨h, rfl, rfl⟩)
  · refine px_ireturn rfl (.inr ⟨rfl, by decide⟩) ?_
    exact qB_t h
  · refine px_ireturn rfl (.inr ⟨rfl, by decide⟩) ?_
    exact qB_f h
theorem vX12_mayHave_2 {I : Nat → Nat → Int32} {J : Nat → Nat → Int64} {p : Bool × Option Nat} {ro : List (Nat × Nat × (Nat → Int32))} {v : Int32} : Pv 2 0 0 CX12_mayHave [.int (nI 2), .int (v)] (gS, I, J, gR p, ro) (qB (sp_may 2 v) (gS, I, J, gR p, ro)) := by
  refine ⟨okCX12_mayHave, Nat.le_of_ble_eq_true rfl, (show Px _ _ _ _ 0 [some (.int (nI 2)), some (.int (v))] [] _ _ from ?_)⟩
  refine px_iload_n (kk := 0) rfl rfl rfl ?_
  refine px_tableIn rfl 0 (by decide) (by decide) rfl ?_
  refine px_iload_n (kk := 1) rfl rfl rfl ?_
  refine px_iconst (v := nI 0) rfl k_0 ?_
  refine px_iconst (v := nI 3) rfl k_3 ?_
  refine px_callS0 CX12_in [] [.int _, .int _, .int _] (vX12_in) rfl rfl rfl (Nat.le_of_ble_eq_true rfl) (by decide) ?_
  rintro _ _ - (⟨h, rfl, rfl⟩ | ⟨h, rfl, rfl⟩)
  · refine px_ireturn rfl (.inr ⟨rfl, by decide⟩) ?_
    exact qB_t ((in_m (k := 2) (lo := nI 0) (hi := nI 3) (by simp only [sp_may]; rfl)).mp h)
  · refine px_ireturn rfl (.inr ⟨rfl, by decide⟩) ?_
    exact qB_f (fun z => h ((in_m (k := 2) (lo := nI 0) (hi := nI 3) (by simp only [sp_may]; rfl)).mpr z))
theorem vX12_mayHave_3 {I : Nat → Nat → Int32} {J : Nat → Nat → Int64} {p : Bool × Option Nat} {ro : List (Nat × Nat × (Nat → Int32))} {v : Int32} : Pv 2 0 0 CX12_mayHave [.int (nI 3), .int (v)] (gS, I, J, gR p, ro) (qB (sp_may 3 v) (gS, I, J, gR p, ro)) := by
  refine ⟨okCX12_mayHave, Nat.le_of_ble_eq_true rfl, (show Px _ _ _ _ 0 [some (.int (nI 3)), some (.int (v))] [] _ _ from ?_)⟩
  refine px_iload_n (kk := 0) rfl rfl rfl ?_
  refine px_tableIn rfl 1 (by decide) (by decide) rfl ?_
  refine px_iload_n (kk := 1) rfl rfl rfl ?_
  refine px_bipush (v := -9) rfl b_m9 ?_
  refine px_bipush (v := nI 9) rfl b_9 ?_
  refine px_callS0 CX12_in [] [.int _, .int _, .int _] (vX12_in) rfl rfl rfl (Nat.le_of_ble_eq_true rfl) (by decide) ?_
  rintro _ _ - (⟨h, rfl, rfl⟩ | ⟨h, rfl, rfl⟩)
  · refine px_ireturn rfl (.inr ⟨rfl, by decide⟩) ?_
    exact qB_t ((in_m (k := 3) (lo := -9) (hi := nI 9) (by simp only [sp_may]; rfl)).mp h)
  · refine px_ireturn rfl (.inr ⟨rfl, by decide⟩) ?_
    exact qB_f (fun z => h ((in_m (k := 3) (lo := -9) (hi := nI 9) (by simp only [sp_may]; rfl)).mpr z))
theorem vX12_mayHave_4 {I : Nat → Nat → Int32} {J : Nat → Nat → Int64} {p : Bool × Option Nat} {ro : List (Nat × Nat × (Nat → Int32))} {v : Int32} : Pv 2 0 0 CX12_mayHave [.int (nI 4), .int (v)] (gS, I, J, gR p, ro) (qB (sp_may 4 v) (gS, I, J, gR p, ro)) := by
  refine ⟨okCX12_mayHave, Nat.le_of_ble_eq_true rfl, (show Px _ _ _ _ 0 [some (.int (nI 4)), some (.int (v))] [] _ _ from ?_)⟩
  refine px_iload_n (kk := 0) rfl rfl rfl ?_
  refine px_tableIn rfl 2 (by decide) (by decide) rfl ?_
  refine px_iload_n (kk := 1) rfl rfl rfl ?_
  refine px_iconst (v := nI 0) rfl k_0 ?_
  refine px_iconst (v := nI 4) rfl k_4 ?_
  refine px_callS0 CX12_in [] [.int _, .int _, .int _] (vX12_in) rfl rfl rfl (Nat.le_of_ble_eq_true rfl) (by decide) ?_
  rintro _ _ - (⟨h, rfl, rfl⟩ | ⟨h, rfl, rfl⟩)
  · refine px_ireturn rfl (.inr ⟨rfl, by decide⟩) ?_
    exact qB_t ((in_m (k := 4) (lo := nI 0) (hi := nI 4) (by simp only [sp_may]; rfl)).mp h)
  · refine px_ireturn rfl (.inr ⟨rfl, by decide⟩) ?_
    exact qB_f (fun z => h ((in_m (k := 4) (lo := nI 0) (hi := nI 4) (by simp only [sp_may]; rfl)).mpr z))
theorem vX12_mayHave_5 {I : Nat → Nat → Int32} {J : Nat → Nat → Int64} {p : Bool × Option Nat} {ro : List (Nat × Nat × (Nat → Int32))} {v : Int32} : Pv 2 0 0 CX12_mayHave [.int (nI 5), .int (v)] (gS, I, J, gR p, ro) (qB (sp_may 5 v) (gS, I, J, gR p, ro)) := by
  refine ⟨okCX12_mayHave, Nat.le_of_ble_eq_true rfl, (show Px _ _ _ _ 0 [some (.int (nI 5)), some (.int (v))] [] _ _ from ?_)⟩
  refine px_iload_n (kk := 0) rfl rfl rfl ?_
  refine px_tableIn rfl 3 (by decide) (by decide) rfl ?_
  refine px_iload_n (kk := 1) rfl rfl rfl ?_
  refine px_iconst (v := nI 0) rfl k_0 ?_
  refine px_bipush (v := nI 9) rfl b_9 ?_
  refine px_callS0 CX12_in [] [.int _, .int _, .int _] (vX12_in) rfl rfl rfl (Nat.le_of_ble_eq_true rfl) (by decide) ?_
  rintro _ _ - (⟨h, rfl, rfl⟩ | ⟨h, rfl, rfl⟩)
  · refine px_ireturn rfl (.inr ⟨rfl, by decide⟩) ?_
    exact qB_t ((in_m (k := 5) (lo := nI 0) (hi := nI 9) (by simp only [sp_may]; rfl)).mp h)
  · refine px_ireturn rfl (.inr ⟨rfl, by decide⟩) ?_
    exact qB_f (fun z => h ((in_m (k := 5) (lo := nI 0) (hi := nI 9) (by simp only [sp_may]; rfl)).mpr z))
theorem vX12_mayHaveG {I : Nat → Nat → Int32} {J : Nat → Nat → Int64} {p : Bool × Option Nat} {ro : List (Nat × Nat × (Nat → Int32))} {k : Nat} (hk : k < 6) {v : Int32} : Pv 2 0 0 CX12_mayHave [.int (nI k), .int v] (gS, I, J, gR p, ro) (qB (sp_may k v) (gS, I, J, gR p, ro)) := by
  rcases (by omega : k = 0 ∨ k = 1 ∨ k = 2 ∨ k = 3 ∨ k = 4 ∨ k = 5) with rfl | rfl | rfl | rfl | rfl | rfl
  · exact vX12_mayHave_0
  · exact vX12_mayHave_1
  · exact vX12_mayHave_2
  · exact vX12_mayHave_3
  · exact vX12_mayHave_4
  · exact vX12_mayHave_5
theorem num_low {n k : Nat} (h : k < 3) {x : Int32} : sp_num n k x ↔ ∃ a, a < n ∧ x = nI a := by
  rcases (by omega : k = 0 ∨ k = 1 ∨ k = 2) with rfl | rfl | rfl <;> exact Iff.rfl
theorem num_hi {n k : Nat} (h : 4 ≤ k) (h2 : k < 6) {x : Int32} : sp_num n k x ↔ x = nI 0 := by
  rcases (by omega : k = 4 ∨ k = 5) with rfl | rfl <;> exact Iff.rfl
theorem vX12_isOne {I : Nat → Nat → Int32} {J : Nat → Nat → Int64} {p : Bool × Option Nat} {ro : List (Nat × Nat × (Nat → Int32))} {n : Nat} (hn : I 65 1 = nI n) (hn8 : n ≤ 8) {x w : Int32} : Pv 3 0 0 CX12_isOne [.ref (65), .int (x), .int (w)] (gS, I, J, gR p, ro) (qB (∃ k, k < 6 ∧ w = nI k ∧ sp_num n k x) (gS, I, J, gR p, ro)) := by
  refine ⟨okCX12_isOne, Nat.le_of_ble_eq_true rfl, (show Px _ _ _ _ 0 [some (.ref (65)), some (.int (x)), some (.int (w))] [] _ _ from ?_)⟩
  refine px_iload_n (kk := 2) rfl rfl rfl ?_
  refine px_iconst (v := nI 0) rfl k_0 ?_
  refine px_iconst (v := nI 2) rfl k_2 ?_
  refine px_callS0 CX12_in [] [.int _, .int _, .int _] (vX12_in) rfl rfl rfl (Nat.le_of_ble_eq_true rfl) (by decide) ?_
  rintro _ _ - (⟨h02, rfl, rfl⟩ | ⟨h02, rfl, rfl⟩)
  · obtain ⟨k, -, hk, rfl⟩ := (in_nn (by decide) (by decide)).mp h02
    refine px_if_eq rfl (fun h => absurd h (by decide)) (fun _ => ?_)
    refine px_aload_n (kk := 0) rfl rfl rfl ?_
    refine px_iload_n (kk := 1) rfl rfl rfl ?_
    refine px_callV0 CX12_isLine [] [.int _] (vX12_isLine hn hn8) rfl gS_65 (by decide) rfl rfl rfl (Nat.le_of_ble_eq_true rfl) (by decide) ?_
    rintro _ _ - (⟨hl, rfl, rfl⟩ | ⟨hl, rfl, rfl⟩)
    · refine px_goto rfl ?_
      refine px_ireturn rfl (.inr ⟨rfl, by decide⟩) ?_
      exact qB_t ⟨k, by omega, rfl, (num_low (by omega)).mpr hl⟩
    · refine px_goto rfl ?_
      refine px_ireturn rfl (.inr ⟨rfl, by decide⟩) ?_
      exact qB_f (fun ⟨k2, hk2, e, hnu⟩ => by rw [n_eq (by omega) (by omega)] at e; subst e; exact hl ((num_low (by omega)).mp hnu))
  · refine px_if_eq rfl (fun _ => ?_) (fun h => absurd h (by decide))
    refine px_iload_n (kk := 2) rfl rfl rfl ?_
    refine px_iconst (v := nI 3) rfl k_3 ?_
    refine px_icmp_ne rfl (fun c11 => ?_) (fun c11 => ?_)
    · refine px_iload_n (kk := 2) rfl rfl rfl ?_
      refine px_iconst (v := nI 4) rfl k_4 ?_
      refine px_iconst (v := nI 5) rfl k_5 ?_
      refine px_callS0 CX12_in [] [.int _, .int _, .int _] (vX12_in) rfl rfl rfl (Nat.le_of_ble_eq_true rfl) (by decide) ?_
      rintro _ _ - (⟨h45, rfl, rfl⟩ | ⟨h45, rfl, rfl⟩)
      · obtain ⟨k, hk4, hk, rfl⟩ := (in_nn (by decide) (by decide)).mp h45
        refine px_if_eq rfl (fun h => absurd h (by decide)) (fun _ => ?_)
        refine px_iload_n (kk := 1) rfl rfl rfl ?_
        refine px_if_ne rfl (fun c22 => ?_) (fun c22 => ?_)
        · refine px_iconst (v := nI 0) rfl k_0 ?_
          refine px_ireturn rfl (.inr ⟨rfl, by decide⟩) ?_
          exact qB_f (fun ⟨k2, hk2, e, hnu⟩ => by rw [n_eq (by omega) (by omega)] at e; subst e; exact c22 (by rw [n_0]; exact (num_hi (by omega) hk2).mp hnu))
        · refine px_iconst (v := nI 1) rfl k_1 ?_
          refine px_goto rfl ?_
          refine px_ireturn rfl (.inr ⟨rfl, by decide⟩) ?_
          exact qB_t ⟨k, by omega, rfl, (num_hi (by omega) (by omega)).mpr (by rw [← n_0]; first | exact c22 | exact Classical.byContradiction c22)⟩
      · refine px_if_eq rfl (fun _ => ?_) (fun h => absurd h (by decide))
        refine px_iconst (v := nI 0) rfl k_0 ?_
        refine px_ireturn rfl (.inr ⟨rfl, by decide⟩) ?_
        exact qB_f (fun ⟨k2, hk2, e, hnu⟩ => (by rcases (by omega : k2 ≤ 2 ∨ k2 = 3 ∨ (4 ≤ k2 ∧ k2 ≤ 5)) with q | rfl | q; exact h02 ((in_nn (by decide) (by decide)).mpr ⟨k2, by omega, by omega, e⟩); exact c11 e; exact h45 ((in_nn (by decide) (by decide)).mpr ⟨k2, q.1, q.2, e⟩)))
    · refine px_aload_n (kk := 0) rfl rfl rfl ?_
      refine px_iload_n (kk := 1) rfl rfl rfl ?_
      refine px_callV0 CX12_areTwo [] [.int _] (vX12_areTwo hn hn8) rfl gS_65 (by decide) rfl rfl rfl (Nat.le_of_ble_eq_true rfl) (by decide) ?_
      rintro _ _ - (⟨hp, rfl, rfl⟩ | ⟨hp, rfl, rfl⟩)
      · refine px_goto rfl ?_
        refine px_ireturn rfl (.inr ⟨rfl, by decide⟩) ?_
        exact qB_t ⟨3, by decide, by first | exact c11 | exact Classical.byContradiction c11, hp⟩
      · refine px_goto rfl ?_
        refine px_ireturn rfl (.inr ⟨rfl, by decide⟩) ?_
        exact qB_f (fun ⟨k2, hk2, e, hnu⟩ => by rw [show w = nI 3 from by first | exact c11 | exact Classical.byContradiction c11, n_eq (by omega) (by omega)] at e; subst e; exact hp hnu)
def sp_k (f : Nat → Int32) (k : Nat) : Nat → Int32 := fun j => if j + 1 < k then f (j + 1) else f j
theorem sp_k_1 (f : Nat → Int32) : f = sp_k f 1 := by
  funext j
  rw [sp_k, if_neg (by omega)]
theorem sp_k_s (f : Nat → Int32) {k : Nat} (h : 1 ≤ k) : va_up (sp_k f k) (k - 1) (sp_k f k k) = sp_k f (k + 1) := by
  funext j
  by_cases e : j = k - 1
  · subst e
    rw [p_up_s, sp_k, sp_k, if_neg (by omega), if_pos (by omega), show k - 1 + 1 = k by omega]
  · rw [p_up_n _ _ e, sp_k, sp_k]
    by_cases h2 : j + 1 < k
    · rw [if_pos h2, if_pos (by omega)]
    · rw [if_neg h2, if_neg (by omega)]
theorem sp_k_40 (f : Nat → Int32) : sp_k f 40 = sp_sh f := by
  funext j
  simp only [sp_k, sp_sh, va_cpy]
  by_cases h : j + 1 < 40
  · rw [if_pos h, if_pos (by omega)]; congr 1; omega
  · rw [if_neg h, if_neg (by omega)]
theorem lX12_sh {I : Nat → Nat → Int32} {J : Nat → Nat → Int64} {p : Bool × Option Nat} {ro : List (Nat × Nat × (Nat → Int32))} {x w u v : Int32} {k : Nat} (hk1 : 1 ≤ k) (hk : k ≤ 40) {Q : Option Value → pm_M → Prop} (kont : Px 1 0 0 CX12_changes 64 [some (.ref 65), some (.int x), some (.int w), some (.int v), some (.int u), some (.int (nI 40))] [] (gS, (va_up (va_up (va_up (va_up I 72 (sp_k (I 72) 40)) 73 (sp_k (I 73) 40)) 74 (sp_k (I 74) 40)) 75 (sp_k (I 75) 40)), J, gR p, ro) Q) : Px 1 0 0 CX12_changes 19 [some (.ref (65)), some (.int (x)), some (.int (w)), some (.int (v)), some (.int (u)), some (.int (nI k))] [] (gS, (va_up (va_up (va_up (va_up I 72 (sp_k (I 72) k)) 73 (sp_k (I 73) k)) 74 (sp_k (I 74) k)) 75 (sp_k (I 75) k)), J, gR p, ro) (Q) := by
  refine px_iload rfl rfl ?_
  refine px_bipush (v := nI 40) rfl b_40 ?_
  refine px_icmp_ge rfl (fun c21 => ?_) (fun c21 => ?_)
  · rw [n_le (by omega) (by omega)] at c21
    obtain rfl : k = 40 := by omega
    exact kont
  · rw [n_le (by omega) (by omega)] at c21
    refine px_aload_n (kk := 0) rfl rfl rfl ?_
    refine px_getR (r := 72) rfl gS_65 rfl (gR_65_12 _) ?_
    refine px_iload rfl rfl ?_
    refine px_iconst (v := nI 1) rfl k_1 ?_
    refine px_isubN rfl (by omega) ?_
    refine px_aload_n (kk := 0) rfl rfl rfl ?_
    refine px_getR (r := 72) rfl gS_65 rfl (gR_65_12 _) ?_
    refine px_iload rfl rfl ?_
    refine px_iald (j := k) rfl gS_72 rfl (by omega) ?_
    refine px_iast (j := (k - 1)) rfl gS_72 rfl (by omega) ?_
    refine px_aload_n (kk := 0) rfl rfl rfl ?_
    refine px_getR (r := 73) rfl gS_65 rfl (gR_65_13 _) ?_
    refine px_iload rfl rfl ?_
    refine px_iconst (v := nI 1) rfl k_1 ?_
    refine px_isubN rfl (by omega) ?_
    refine px_aload_n (kk := 0) rfl rfl rfl ?_
    refine px_getR (r := 73) rfl gS_65 rfl (gR_65_13 _) ?_
    refine px_iload rfl rfl ?_
    refine px_iald (j := k) rfl gS_73 rfl (by omega) ?_
    refine px_iast (j := (k - 1)) rfl gS_73 rfl (by omega) ?_
    refine px_aload_n (kk := 0) rfl rfl rfl ?_
    refine px_getR (r := 74) rfl gS_65 rfl (gR_65_14 _) ?_
    refine px_iload rfl rfl ?_
    refine px_iconst (v := nI 1) rfl k_1 ?_
    refine px_isubN rfl (by omega) ?_
    refine px_aload_n (kk := 0) rfl rfl rfl ?_
    refine px_getR (r := 74) rfl gS_65 rfl (gR_65_14 _) ?_
    refine px_iload rfl rfl ?_
    refine px_iald (j := k) rfl gS_74 rfl (by omega) ?_
    refine px_iast (j := (k - 1)) rfl gS_74 rfl (by omega) ?_
    refine px_aload_n (kk := 0) rfl rfl rfl ?_
    refine px_getR (r := 75) rfl gS_65 rfl (gR_65_15 _) ?_
    refine px_iload rfl rfl ?_
    refine px_iconst (v := nI 1) rfl k_1 ?_
    refine px_isubN rfl (by omega) ?_
    refine px_aload_n (kk := 0) rfl rfl rfl ?_
    refine px_getR (r := 75) rfl gS_65 rfl (gR_65_15 _) ?_
    refine px_iload rfl rfl ?_
    refine px_iald (j := k) rfl gS_75 rfl (by omega) ?_
    refine px_iast (j := (k - 1)) rfl gS_75 rfl (by omega) ?_
    refine px_iinc5 (v := nI (k + 1)) rfl (n_inc k) rfl (by decide) ?_
    refine px_goto rfl ?_
    refine px_mem (show _ = (va_up (va_up (va_up (va_up I 72 (sp_k (I 72) (k + 1))) 73 (sp_k (I 73) (k + 1))) 74 (sp_k (I 74) (k + 1))) 75 (sp_k (I 75) (k + 1))) from ?_) (lX12_sh (k := k + 1) (by omega) (by omega) kont)
    have s1 := sp_k_s (I 72) hk1
    have s2 := sp_k_s (I 73) hk1
    have s3 := sp_k_s (I 74) hk1
    have s4 := sp_k_s (I 75) hk1
    simp only [p_up_n _ _ (show (65 : Nat) ≠ 72 by decide), p_up_n _ _ (show (65 : Nat) ≠ 73 by decide), p_up_n _ _ (show (65 : Nat) ≠ 74 by decide), p_up_n _ _ (show (65 : Nat) ≠ 75 by decide), p_up_n _ _ (show (72 : Nat) ≠ 65 by decide), p_up_n _ _ (show (72 : Nat) ≠ 73 by decide), p_up_n _ _ (show (72 : Nat) ≠ 74 by decide), p_up_n _ _ (show (72 : Nat) ≠ 75 by decide), p_up_n _ _ (show (73 : Nat) ≠ 65 by decide), p_up_n _ _ (show (73 : Nat) ≠ 72 by decide), p_up_n _ _ (show (73 : Nat) ≠ 74 by decide), p_up_n _ _ (show (73 : Nat) ≠ 75 by decide), p_up_n _ _ (show (74 : Nat) ≠ 65 by decide), p_up_n _ _ (show (74 : Nat) ≠ 72 by decide), p_up_n _ _ (show (74 : Nat) ≠ 73 by decide), p_up_n _ _ (show (74 : Nat) ≠ 75 by decide), p_up_n _ _ (show (75 : Nat) ≠ 65 by decide), p_up_n _ _ (show (75 : Nat) ≠ 72 by decide), p_up_n _ _ (show (75 : Nat) ≠ 73 by decide), p_up_n _ _ (show (75 : Nat) ≠ 74 by decide), p_up_s, s1, s2, s3, s4]
    funext c
    by_cases h5 : c = 75
    · subst h5; simp only [p_up_s]
    · by_cases h4 : c = 74
      · subst h4; simp only [p_up_n _ _ (show (65 : Nat) ≠ 72 by decide), p_up_n _ _ (show (65 : Nat) ≠ 73 by decide), p_up_n _ _ (show (65 : Nat) ≠ 74 by decide), p_up_n _ _ (show (65 : Nat) ≠ 75 by decide), p_up_n _ _ (show (72 : Nat) ≠ 65 by decide), p_up_n _ _ (show (72 : Nat) ≠ 73 by decide), p_up_n _ _ (show (72 : Nat) ≠ 74 by decide), p_up_n _ _ (show (72 : Nat) ≠ 75 by decide), p_up_n _ _ (show (73 : Nat) ≠ 65 by decide), p_up_n _ _ (show (73 : Nat) ≠ 72 by decide), p_up_n _ _ (show (73 : Nat) ≠ 74 by decide), p_up_n _ _ (show (73 : Nat) ≠ 75 by decide), p_up_n _ _ (show (74 : Nat) ≠ 65 by decide), p_up_n _ _ (show (74 : Nat) ≠ 72 by decide), p_up_n _ _ (show (74 : Nat) ≠ 73 by decide), p_up_n _ _ (show (74 : Nat) ≠ 75 by decide), p_up_n _ _ (show (75 : Nat) ≠ 65 by decide), p_up_n _ _ (show (75 : Nat) ≠ 72 by decide), p_up_n _ _ (show (75 : Nat) ≠ 73 by decide), p_up_n _ _ (show (75 : Nat) ≠ 74 by decide), p_up_s]
      · by_cases h3 : c = 73
        · subst h3; simp only [p_up_n _ _ (show (65 : Nat) ≠ 72 by decide), p_up_n _ _ (show (65 : Nat) ≠ 73 by decide), p_up_n _ _ (show (65 : Nat) ≠ 74 by decide), p_up_n _ _ (show (65 : Nat) ≠ 75 by decide), p_up_n _ _ (show (72 : Nat) ≠ 65 by decide), p_up_n _ _ (show (72 : Nat) ≠ 73 by decide), p_up_n _ _ (show (72 : Nat) ≠ 74 by decide), p_up_n _ _ (show (72 : Nat) ≠ 75 by decide), p_up_n _ _ (show (73 : Nat) ≠ 65 by decide), p_up_n _ _ (show (73 : Nat) ≠ 72 by decide), p_up_n _ _ (show (73 : Nat) ≠ 74 by decide), p_up_n _ _ (show (73 : Nat) ≠ 75 by decide), p_up_n _ _ (show (74 : Nat) ≠ 65 by decide), p_up_n _ _ (show (74 : Nat) ≠ 72 by decide), p_up_n _ _ (show (74 : Nat) ≠ 73 by decide), p_up_n _ _ (show (74 : Nat) ≠ 75 by decide), p_up_n _ _ (show (75 : Nat) ≠ 65 by decide), p_up_n _ _ (show (75 : Nat) ≠ 72 by decide), p_up_n _ _ (show (75 : Nat) ≠ 73 by decide), p_up_n _ _ (show (75 : Nat) ≠ 74 by decide), p_up_s]
        · by_cases h2 : c = 72
          · subst h2; simp only [p_up_n _ _ (show (65 : Nat) ≠ 72 by decide), p_up_n _ _ (show (65 : Nat) ≠ 73 by decide), p_up_n _ _ (show (65 : Nat) ≠ 74 by decide), p_up_n _ _ (show (65 : Nat) ≠ 75 by decide), p_up_n _ _ (show (72 : Nat) ≠ 65 by decide), p_up_n _ _ (show (72 : Nat) ≠ 73 by decide), p_up_n _ _ (show (72 : Nat) ≠ 74 by decide), p_up_n _ _ (show (72 : Nat) ≠ 75 by decide), p_up_n _ _ (show (73 : Nat) ≠ 65 by decide), p_up_n _ _ (show (73 : Nat) ≠ 72 by decide), p_up_n _ _ (show (73 : Nat) ≠ 74 by decide), p_up_n _ _ (show (73 : Nat) ≠ 75 by decide), p_up_n _ _ (show (74 : Nat) ≠ 65 by decide), p_up_n _ _ (show (74 : Nat) ≠ 72 by decide), p_up_n _ _ (show (74 : Nat) ≠ 73 by decide), p_up_n _ _ (show (74 : Nat) ≠ 75 by decide), p_up_n _ _ (show (75 : Nat) ≠ 65 by decide), p_up_n _ _ (show (75 : Nat) ≠ 72 by decide), p_up_n _ _ (show (75 : Nat) ≠ 73 by decide), p_up_n _ _ (show (75 : Nat) ≠ 74 by decide), p_up_s]
          · simp only [p_up_n _ _ h2, p_up_n _ _ h3, p_up_n _ _ h4, p_up_n _ _ h5]
termination_by 40 - k
decreasing_by all_goals (have h := ‹¬ nI 40 ≤ nI k›; rw [n_le (by omega) (by omega)] at h; omega)
def rf_noM (I : Nat → Nat → Int32) (dn : Nat) (x w u v : Int32) : Nat → Nat → Int32 := va_up (va_up (va_up (va_up (va_up I 72 (sp_push (I 72) dn x)) 73 (sp_push (I 73) dn w)) 74 (sp_push (I 74) dn u)) 75 (sp_push (I 75) dn v)) 65 (va_up (va_up (I 65) 11 (nI 0)) 10 (nI (sp_dn dn)))
theorem vX12_ch_0 {I : Nat → Nat → Int32} {J : Nat → Nat → Int64} {p : Bool × Option Nat} {ro : List (Nat × Nat × (Nat → Int32))} {n : Nat} (hn8 : n ≤ 8) {k a b : Nat} (ho : okN n k a b) {v : Int32} (he : I (slR k a b).1 (slR k a b).2 = v) : Pv 1 0 0 CX12_changes [.ref (65), .int (nI k), .int (nI (nmb k a b)), .int (v)] (gS, I, J, gR p, ro) (qI (I (slR k a b).1 (slR k a b).2) (gS, I, J, gR p, ro)) := by
  refine ⟨okCX12_changes, Nat.le_of_ble_eq_true rfl, (show Px _ _ _ _ 0 [some (.ref (65)), some (.int (nI k)), some (.int (nI (nmb k a b))), some (.int (v)), none, none] [] _ _ from ?_)⟩
  refine px_aload_n (kk := 0) rfl rfl rfl ?_
  refine px_iload_n (kk := 1) rfl rfl rfl ?_
  refine px_iload_n (kk := 2) rfl rfl rfl ?_
  refine px_callV0 CX12_valueAt [] [.int _, .int _] (vX12_valueG hn8 ho) rfl gS_65 (by decide) rfl rfl rfl (Nat.le_of_ble_eq_true rfl) (by decide) ?_
  rintro _ _ - ⟨rfl, rfl⟩
  refine px_ist4 rfl rfl (by decide) ?_
  refine px_iload rfl rfl ?_
  refine px_iload_n (kk := 3) rfl rfl rfl ?_
  refine px_icmp_ne rfl (fun h => absurd he h) (fun c7 => ?_)
  refine px_iload rfl rfl ?_
  refine px_ireturn rfl (.inl rfl) ?_
  exact ⟨rfl, rfl⟩
theorem vX12_ch_a {I : Nat → Nat → Int32} {J : Nat → Nat → Int64} {p : Bool × Option Nat} {ro : List (Nat × Nat × (Nat → Int32))} {n : Nat} (hn8 : n ≤ 8) {k a b : Nat} (ho : okN n k a b) {v : Int32} {dn : Nat} (hdn : I 65 10 = nI dn) (hd40 : dn ≤ 40) (h40 : dn < 40) (he : I (slR k a b).1 (slR k a b).2 ≠ v) : Pv 1 0 0 CX12_changes [.ref (65), .int (nI k), .int (nI (nmb k a b)), .int (v)] (gS, I, J, gR p, ro) (qI (I (slR k a b).1 (slR k a b).2) (gS, (va_up (rf_noM I dn (nI k) (nI (nmb k a b)) (I (slR k a b).1 (slR k a b).2) v) (slR k a b).1 (va_up ((rf_noM I dn (nI k) (nI (nmb k a b)) (I (slR k a b).1 (slR k a b).2) v) (slR k a b).1) (slR k a b).2 v)), J, gR p, ro)) := by
  refine ⟨okCX12_changes, Nat.le_of_ble_eq_true rfl, (show Px _ _ _ _ 0 [some (.ref (65)), some (.int (nI k)), some (.int (nI (nmb k a b))), some (.int (v)), none, none] [] _ _ from ?_)⟩
  refine px_aload_n (kk := 0) rfl rfl rfl ?_
  refine px_iload_n (kk := 1) rfl rfl rfl ?_
  refine px_iload_n (kk := 2) rfl rfl rfl ?_
  refine px_callV0 CX12_valueAt [] [.int _, .int _] (vX12_valueG hn8 ho) rfl gS_65 (by decide) rfl rfl rfl (Nat.le_of_ble_eq_true rfl) (by decide) ?_
  rintro _ _ - ⟨rfl, rfl⟩
  refine px_ist4 rfl rfl (by decide) ?_
  refine px_iload rfl rfl ?_
  refine px_iload_n (kk := 3) rfl rfl rfl ?_
  refine px_icmp_ne rfl (fun c7 => ?_) (fun h => absurd h he)
  refine px_aload_n (kk := 0) rfl rfl rfl ?_
  refine px_iconst (v := nI 0) rfl k_0 ?_
  refine px_putI rfl gS_65 rfl rfl ?_
  refine px_aload_n (kk := 0) rfl rfl rfl ?_
  refine px_getIe (v := nI dn) rfl gS_65 rfl (by simp only [p_up_n _ _ (show (65 : Nat) ≠ 72 by decide), p_up_n _ _ (show (65 : Nat) ≠ 73 by decide), p_up_n _ _ (show (65 : Nat) ≠ 74 by decide), p_up_n _ _ (show (65 : Nat) ≠ 75 by decide), p_up_n _ _ (show (72 : Nat) ≠ 65 by decide), p_up_n _ _ (show (72 : Nat) ≠ 73 by decide), p_up_n _ _ (show (72 : Nat) ≠ 74 by decide), p_up_n _ _ (show (72 : Nat) ≠ 75 by decide), p_up_n _ _ (show (73 : Nat) ≠ 65 by decide), p_up_n _ _ (show (73 : Nat) ≠ 72 by decide), p_up_n _ _ (show (73 : Nat) ≠ 74 by decide), p_up_n _ _ (show (73 : Nat) ≠ 75 by decide), p_up_n _ _ (show (74 : Nat) ≠ 65 by decide), p_up_n _ _ (show (74 : Nat) ≠ 72 by decide), p_up_n _ _ (show (74 : Nat) ≠ 73 by decide), p_up_n _ _ (show (74 : Nat) ≠ 75 by decide), p_up_n _ _ (show (75 : Nat) ≠ 65 by decide), p_up_n _ _ (show (75 : Nat) ≠ 72 by decide), p_up_n _ _ (show (75 : Nat) ≠ 73 by decide), p_up_n _ _ (show (75 : Nat) ≠ 74 by decide), p_up_n _ _ (show (1 : Nat) ≠ 6 by decide), p_up_n _ _ (show (1 : Nat) ≠ 7 by decide), p_up_n _ _ (show (1 : Nat) ≠ 10 by decide), p_up_n _ _ (show (1 : Nat) ≠ 11 by decide), p_up_n _ _ (show (6 : Nat) ≠ 1 by decide), p_up_n _ _ (show (6 : Nat) ≠ 7 by decide), p_up_n _ _ (show (6 : Nat) ≠ 10 by decide), p_up_n _ _ (show (6 : Nat) ≠ 11 by decide), p_up_n _ _ (show (7 : Nat) ≠ 1 by decide), p_up_n _ _ (show (7 : Nat) ≠ 6 by decide), p_up_n _ _ (show (7 : Nat) ≠ 10 by decide), p_up_n _ _ (show (7 : Nat) ≠ 11 by decide), p_up_n _ _ (show (10 : Nat) ≠ 1 by decide), p_up_n _ _ (show (10 : Nat) ≠ 6 by decide), p_up_n _ _ (show (10 : Nat) ≠ 7 by decide), p_up_n _ _ (show (10 : Nat) ≠ 11 by decide), p_up_n _ _ (show (11 : Nat) ≠ 1 by decide), p_up_n _ _ (show (11 : Nat) ≠ 6 by decide), p_up_n _ _ (show (11 : Nat) ≠ 7 by decide), p_up_n _ _ (show (11 : Nat) ≠ 10 by decide), p_up_s, hdn]) ?_
  refine px_bipush (v := nI 40) rfl b_40 ?_
  refine px_icmp_ne rfl (fun c16 => ?_) (fun h => absurd h (fun e => by rw [n_eq (by omega) (by omega)] at e; omega))
  refine px_aload_n (kk := 0) rfl rfl rfl ?_
  refine px_getR (r := 72) rfl gS_65 rfl (gR_65_12 _) ?_
  refine px_aload_n (kk := 0) rfl rfl rfl ?_
  refine px_getIe (v := nI dn) rfl gS_65 rfl (by simp only [p_up_n _ _ (show (65 : Nat) ≠ 72 by decide), p_up_n _ _ (show (65 : Nat) ≠ 73 by decide), p_up_n _ _ (show (65 : Nat) ≠ 74 by decide), p_up_n _ _ (show (65 : Nat) ≠ 75 by decide), p_up_n _ _ (show (72 : Nat) ≠ 65 by decide), p_up_n _ _ (show (72 : Nat) ≠ 73 by decide), p_up_n _ _ (show (72 : Nat) ≠ 74 by decide), p_up_n _ _ (show (72 : Nat) ≠ 75 by decide), p_up_n _ _ (show (73 : Nat) ≠ 65 by decide), p_up_n _ _ (show (73 : Nat) ≠ 72 by decide), p_up_n _ _ (show (73 : Nat) ≠ 74 by decide), p_up_n _ _ (show (73 : Nat) ≠ 75 by decide), p_up_n _ _ (show (74 : Nat) ≠ 65 by decide), p_up_n _ _ (show (74 : Nat) ≠ 72 by decide), p_up_n _ _ (show (74 : Nat) ≠ 73 by decide), p_up_n _ _ (show (74 : Nat) ≠ 75 by decide), p_up_n _ _ (show (75 : Nat) ≠ 65 by decide), p_up_n _ _ (show (75 : Nat) ≠ 72 by decide), p_up_n _ _ (show (75 : Nat) ≠ 73 by decide), p_up_n _ _ (show (75 : Nat) ≠ 74 by decide), p_up_n _ _ (show (1 : Nat) ≠ 6 by decide), p_up_n _ _ (show (1 : Nat) ≠ 7 by decide), p_up_n _ _ (show (1 : Nat) ≠ 10 by decide), p_up_n _ _ (show (1 : Nat) ≠ 11 by decide), p_up_n _ _ (show (6 : Nat) ≠ 1 by decide), p_up_n _ _ (show (6 : Nat) ≠ 7 by decide), p_up_n _ _ (show (6 : Nat) ≠ 10 by decide), p_up_n _ _ (show (6 : Nat) ≠ 11 by decide), p_up_n _ _ (show (7 : Nat) ≠ 1 by decide), p_up_n _ _ (show (7 : Nat) ≠ 6 by decide), p_up_n _ _ (show (7 : Nat) ≠ 10 by decide), p_up_n _ _ (show (7 : Nat) ≠ 11 by decide), p_up_n _ _ (show (10 : Nat) ≠ 1 by decide), p_up_n _ _ (show (10 : Nat) ≠ 6 by decide), p_up_n _ _ (show (10 : Nat) ≠ 7 by decide), p_up_n _ _ (show (10 : Nat) ≠ 11 by decide), p_up_n _ _ (show (11 : Nat) ≠ 1 by decide), p_up_n _ _ (show (11 : Nat) ≠ 6 by decide), p_up_n _ _ (show (11 : Nat) ≠ 7 by decide), p_up_n _ _ (show (11 : Nat) ≠ 10 by decide), p_up_s, hdn]) ?_
  refine px_iload_n (kk := 1) rfl rfl rfl ?_
  refine px_iast (j := dn) rfl gS_72 rfl h40 ?_
  refine px_aload_n (kk := 0) rfl rfl rfl ?_
  refine px_getR (r := 73) rfl gS_65 rfl (gR_65_13 _) ?_
  refine px_aload_n (kk := 0) rfl rfl rfl ?_
  refine px_getIe (v := nI dn) rfl gS_65 rfl (by simp only [p_up_n _ _ (show (65 : Nat) ≠ 72 by decide), p_up_n _ _ (show (65 : Nat) ≠ 73 by decide), p_up_n _ _ (show (65 : Nat) ≠ 74 by decide), p_up_n _ _ (show (65 : Nat) ≠ 75 by decide), p_up_n _ _ (show (72 : Nat) ≠ 65 by decide), p_up_n _ _ (show (72 : Nat) ≠ 73 by decide), p_up_n _ _ (show (72 : Nat) ≠ 74 by decide), p_up_n _ _ (show (72 : Nat) ≠ 75 by decide), p_up_n _ _ (show (73 : Nat) ≠ 65 by decide), p_up_n _ _ (show (73 : Nat) ≠ 72 by decide), p_up_n _ _ (show (73 : Nat) ≠ 74 by decide), p_up_n _ _ (show (73 : Nat) ≠ 75 by decide), p_up_n _ _ (show (74 : Nat) ≠ 65 by decide), p_up_n _ _ (show (74 : Nat) ≠ 72 by decide), p_up_n _ _ (show (74 : Nat) ≠ 73 by decide), p_up_n _ _ (show (74 : Nat) ≠ 75 by decide), p_up_n _ _ (show (75 : Nat) ≠ 65 by decide), p_up_n _ _ (show (75 : Nat) ≠ 72 by decide), p_up_n _ _ (show (75 : Nat) ≠ 73 by decide), p_up_n _ _ (show (75 : Nat) ≠ 74 by decide), p_up_n _ _ (show (1 : Nat) ≠ 6 by decide), p_up_n _ _ (show (1 : Nat) ≠ 7 by decide), p_up_n _ _ (show (1 : Nat) ≠ 10 by decide), p_up_n _ _ (show (1 : Nat) ≠ 11 by decide), p_up_n _ _ (show (6 : Nat) ≠ 1 by decide), p_up_n _ _ (show (6 : Nat) ≠ 7 by decide), p_up_n _ _ (show (6 : Nat) ≠ 10 by decide), p_up_n _ _ (show (6 : Nat) ≠ 11 by decide), p_up_n _ _ (show (7 : Nat) ≠ 1 by decide), p_up_n _ _ (show (7 : Nat) ≠ 6 by decide), p_up_n _ _ (show (7 : Nat) ≠ 10 by decide), p_up_n _ _ (show (7 : Nat) ≠ 11 by decide), p_up_n _ _ (show (10 : Nat) ≠ 1 by decide), p_up_n _ _ (show (10 : Nat) ≠ 6 by decide), p_up_n _ _ (show (10 : Nat) ≠ 7 by decide), p_up_n _ _ (show (10 : Nat) ≠ 11 by decide), p_up_n _ _ (show (11 : Nat) ≠ 1 by decide), p_up_n _ _ (show (11 : Nat) ≠ 6 by decide), p_up_n _ _ (show (11 : Nat) ≠ 7 by decide), p_up_n _ _ (show (11 : Nat) ≠ 10 by decide), p_up_s, hdn]) ?_
  refine px_iload_n (kk := 2) rfl rfl rfl ?_
  refine px_iast (j := dn) rfl gS_73 rfl h40 ?_
  refine px_aload_n (kk := 0) rfl rfl rfl ?_
  refine px_getR (r := 74) rfl gS_65 rfl (gR_65_14 _) ?_
  refine px_aload_n (kk := 0) rfl rfl rfl ?_
  refine px_getIe (v := nI dn) rfl gS_65 rfl (by simp only [p_up_n _ _ (show (65 : Nat) ≠ 72 by decide), p_up_n _ _ (show (65 : Nat) ≠ 73 by decide), p_up_n _ _ (show (65 : Nat) ≠ 74 by decide), p_up_n _ _ (show (65 : Nat) ≠ 75 by decide), p_up_n _ _ (show (72 : Nat) ≠ 65 by decide), p_up_n _ _ (show (72 : Nat) ≠ 73 by decide), p_up_n _ _ (show (72 : Nat) ≠ 74 by decide), p_up_n _ _ (show (72 : Nat) ≠ 75 by decide), p_up_n _ _ (show (73 : Nat) ≠ 65 by decide), p_up_n _ _ (show (73 : Nat) ≠ 72 by decide), p_up_n _ _ (show (73 : Nat) ≠ 74 by decide), p_up_n _ _ (show (73 : Nat) ≠ 75 by decide), p_up_n _ _ (show (74 : Nat) ≠ 65 by decide), p_up_n _ _ (show (74 : Nat) ≠ 72 by decide), p_up_n _ _ (show (74 : Nat) ≠ 73 by decide), p_up_n _ _ (show (74 : Nat) ≠ 75 by decide), p_up_n _ _ (show (75 : Nat) ≠ 65 by decide), p_up_n _ _ (show (75 : Nat) ≠ 72 by decide), p_up_n _ _ (show (75 : Nat) ≠ 73 by decide), p_up_n _ _ (show (75 : Nat) ≠ 74 by decide), p_up_n _ _ (show (1 : Nat) ≠ 6 by decide), p_up_n _ _ (show (1 : Nat) ≠ 7 by decide), p_up_n _ _ (show (1 : Nat) ≠ 10 by decide), p_up_n _ _ (show (1 : Nat) ≠ 11 by decide), p_up_n _ _ (show (6 : Nat) ≠ 1 by decide), p_up_n _ _ (show (6 : Nat) ≠ 7 by decide), p_up_n _ _ (show (6 : Nat) ≠ 10 by decide), p_up_n _ _ (show (6 : Nat) ≠ 11 by decide), p_up_n _ _ (show (7 : Nat) ≠ 1 by decide), p_up_n _ _ (show (7 : Nat) ≠ 6 by decide), p_up_n _ _ (show (7 : Nat) ≠ 10 by decide), p_up_n _ _ (show (7 : Nat) ≠ 11 by decide), p_up_n _ _ (show (10 : Nat) ≠ 1 by decide), p_up_n _ _ (show (10 : Nat) ≠ 6 by decide), p_up_n _ _ (show (10 : Nat) ≠ 7 by decide), p_up_n _ _ (show (10 : Nat) ≠ 11 by decide), p_up_n _ _ (show (11 : Nat) ≠ 1 by decide), p_up_n _ _ (show (11 : Nat) ≠ 6 by decide), p_up_n _ _ (show (11 : Nat) ≠ 7 by decide), p_up_n _ _ (show (11 : Nat) ≠ 10 by decide), p_up_s, hdn]) ?_
  refine px_iload rfl rfl ?_
  refine px_iast (j := dn) rfl gS_74 rfl h40 ?_
  refine px_aload_n (kk := 0) rfl rfl rfl ?_
  refine px_getR (r := 75) rfl gS_65 rfl (gR_65_15 _) ?_
  refine px_aload_n (kk := 0) rfl rfl rfl ?_
  refine px_getIe (v := nI dn) rfl gS_65 rfl (by simp only [p_up_n _ _ (show (65 : Nat) ≠ 72 by decide), p_up_n _ _ (show (65 : Nat) ≠ 73 by decide), p_up_n _ _ (show (65 : Nat) ≠ 74 by decide), p_up_n _ _ (show (65 : Nat) ≠ 75 by decide), p_up_n _ _ (show (72 : Nat) ≠ 65 by decide), p_up_n _ _ (show (72 : Nat) ≠ 73 by decide), p_up_n _ _ (show (72 : Nat) ≠ 74 by decide), p_up_n _ _ (show (72 : Nat) ≠ 75 by decide), p_up_n _ _ (show (73 : Nat) ≠ 65 by decide), p_up_n _ _ (show (73 : Nat) ≠ 72 by decide), p_up_n _ _ (show (73 : Nat) ≠ 74 by decide), p_up_n _ _ (show (73 : Nat) ≠ 75 by decide), p_up_n _ _ (show (74 : Nat) ≠ 65 by decide), p_up_n _ _ (show (74 : Nat) ≠ 72 by decide), p_up_n _ _ (show (74 : Nat) ≠ 73 by decide), p_up_n _ _ (show (74 : Nat) ≠ 75 by decide), p_up_n _ _ (show (75 : Nat) ≠ 65 by decide), p_up_n _ _ (show (75 : Nat) ≠ 72 by decide), p_up_n _ _ (show (75 : Nat) ≠ 73 by decide), p_up_n _ _ (show (75 : Nat) ≠ 74 by decide), p_up_n _ _ (show (1 : Nat) ≠ 6 by decide), p_up_n _ _ (show (1 : Nat) ≠ 7 by decide), p_up_n _ _ (show (1 : Nat) ≠ 10 by decide), p_up_n _ _ (show (1 : Nat) ≠ 11 by decide), p_up_n _ _ (show (6 : Nat) ≠ 1 by decide), p_up_n _ _ (show (6 : Nat) ≠ 7 by decide), p_up_n _ _ (show (6 : Nat) ≠ 10 by decide), p_up_n _ _ (show (6 : Nat) ≠ 11 by decide), p_up_n _ _ (show (7 : Nat) ≠ 1 by decide), p_up_n _ _ (show (7 : Nat) ≠ 6 by decide), p_up_n _ _ (show (7 : Nat) ≠ 10 by decide), p_up_n _ _ (show (7 : Nat) ≠ 11 by decide), p_up_n _ _ (show (10 : Nat) ≠ 1 by decide), p_up_n _ _ (show (10 : Nat) ≠ 6 by decide), p_up_n _ _ (show (10 : Nat) ≠ 7 by decide), p_up_n _ _ (show (10 : Nat) ≠ 11 by decide), p_up_n _ _ (show (11 : Nat) ≠ 1 by decide), p_up_n _ _ (show (11 : Nat) ≠ 6 by decide), p_up_n _ _ (show (11 : Nat) ≠ 7 by decide), p_up_n _ _ (show (11 : Nat) ≠ 10 by decide), p_up_s, hdn]) ?_
  refine px_iload_n (kk := 3) rfl rfl rfl ?_
  refine px_iast (j := dn) rfl gS_75 rfl h40 ?_
  refine px_aload_n (kk := 0) rfl rfl rfl ?_
  refine px_dup rfl rfl ?_
  refine px_getIe (v := nI dn) rfl gS_65 rfl (by simp only [p_up_n _ _ (show (65 : Nat) ≠ 72 by decide), p_up_n _ _ (show (65 : Nat) ≠ 73 by decide), p_up_n _ _ (show (65 : Nat) ≠ 74 by decide), p_up_n _ _ (show (65 : Nat) ≠ 75 by decide), p_up_n _ _ (show (72 : Nat) ≠ 65 by decide), p_up_n _ _ (show (72 : Nat) ≠ 73 by decide), p_up_n _ _ (show (72 : Nat) ≠ 74 by decide), p_up_n _ _ (show (72 : Nat) ≠ 75 by decide), p_up_n _ _ (show (73 : Nat) ≠ 65 by decide), p_up_n _ _ (show (73 : Nat) ≠ 72 by decide), p_up_n _ _ (show (73 : Nat) ≠ 74 by decide), p_up_n _ _ (show (73 : Nat) ≠ 75 by decide), p_up_n _ _ (show (74 : Nat) ≠ 65 by decide), p_up_n _ _ (show (74 : Nat) ≠ 72 by decide), p_up_n _ _ (show (74 : Nat) ≠ 73 by decide), p_up_n _ _ (show (74 : Nat) ≠ 75 by decide), p_up_n _ _ (show (75 : Nat) ≠ 65 by decide), p_up_n _ _ (show (75 : Nat) ≠ 72 by decide), p_up_n _ _ (show (75 : Nat) ≠ 73 by decide), p_up_n _ _ (show (75 : Nat) ≠ 74 by decide), p_up_n _ _ (show (1 : Nat) ≠ 6 by decide), p_up_n _ _ (show (1 : Nat) ≠ 7 by decide), p_up_n _ _ (show (1 : Nat) ≠ 10 by decide), p_up_n _ _ (show (1 : Nat) ≠ 11 by decide), p_up_n _ _ (show (6 : Nat) ≠ 1 by decide), p_up_n _ _ (show (6 : Nat) ≠ 7 by decide), p_up_n _ _ (show (6 : Nat) ≠ 10 by decide), p_up_n _ _ (show (6 : Nat) ≠ 11 by decide), p_up_n _ _ (show (7 : Nat) ≠ 1 by decide), p_up_n _ _ (show (7 : Nat) ≠ 6 by decide), p_up_n _ _ (show (7 : Nat) ≠ 10 by decide), p_up_n _ _ (show (7 : Nat) ≠ 11 by decide), p_up_n _ _ (show (10 : Nat) ≠ 1 by decide), p_up_n _ _ (show (10 : Nat) ≠ 6 by decide), p_up_n _ _ (show (10 : Nat) ≠ 7 by decide), p_up_n _ _ (show (10 : Nat) ≠ 11 by decide), p_up_n _ _ (show (11 : Nat) ≠ 1 by decide), p_up_n _ _ (show (11 : Nat) ≠ 6 by decide), p_up_n _ _ (show (11 : Nat) ≠ 7 by decide), p_up_n _ _ (show (11 : Nat) ≠ 10 by decide), p_up_s, hdn]) ?_
  refine px_iconst (v := nI 1) rfl k_1 ?_
  refine px_iaddN rfl ?_
  refine px_putI rfl gS_65 rfl rfl ?_
  refine px_aload_n (kk := 0) rfl rfl rfl ?_
  refine px_iload_n (kk := 1) rfl rfl rfl ?_
  refine px_iload_n (kk := 2) rfl rfl rfl ?_
  refine px_iload_n (kk := 3) rfl rfl rfl ?_
  refine px_callV0 CX12_lays [] [.int _, .int _, .int _] (vX12_laysG hn8 ho) rfl gS_65 (by decide) rfl rfl rfl (Nat.le_of_ble_eq_true rfl) (by decide) ?_
  rintro _ _ - ⟨rfl, rfl⟩
  refine px_iload rfl rfl ?_
  refine px_ireturn rfl (.inl rfl) ?_
  refine ⟨rfl, congrArg (fun M => (gS, (va_up M (slR k a b).1 (va_up (M (slR k a b).1) (slR k a b).2 v)), J, gR p, ro)) ?_⟩
  unfold rf_noM
  rw [sp_push, sp_push, sp_push, sp_push, sp_dn, if_pos h40, if_pos h40, if_pos h40, if_pos h40, if_pos h40]
  funext c
  by_cases h65 : c = 65
  · subst h65; simp only [p_up_n _ _ (show (65 : Nat) ≠ 72 by decide), p_up_n _ _ (show (65 : Nat) ≠ 73 by decide), p_up_n _ _ (show (65 : Nat) ≠ 74 by decide), p_up_n _ _ (show (65 : Nat) ≠ 75 by decide), p_up_n _ _ (show (72 : Nat) ≠ 65 by decide), p_up_n _ _ (show (72 : Nat) ≠ 73 by decide), p_up_n _ _ (show (72 : Nat) ≠ 74 by decide), p_up_n _ _ (show (72 : Nat) ≠ 75 by decide), p_up_n _ _ (show (73 : Nat) ≠ 65 by decide), p_up_n _ _ (show (73 : Nat) ≠ 72 by decide), p_up_n _ _ (show (73 : Nat) ≠ 74 by decide), p_up_n _ _ (show (73 : Nat) ≠ 75 by decide), p_up_n _ _ (show (74 : Nat) ≠ 65 by decide), p_up_n _ _ (show (74 : Nat) ≠ 72 by decide), p_up_n _ _ (show (74 : Nat) ≠ 73 by decide), p_up_n _ _ (show (74 : Nat) ≠ 75 by decide), p_up_n _ _ (show (75 : Nat) ≠ 65 by decide), p_up_n _ _ (show (75 : Nat) ≠ 72 by decide), p_up_n _ _ (show (75 : Nat) ≠ 73 by decide), p_up_n _ _ (show (75 : Nat) ≠ 74 by decide), p_up_s]
  · skip
    by_cases h72 : c = 72
    · subst h72; simp only [p_up_n _ _ (show (65 : Nat) ≠ 72 by decide), p_up_n _ _ (show (65 : Nat) ≠ 73 by decide), p_up_n _ _ (show (65 : Nat) ≠ 74 by decide), p_up_n _ _ (show (65 : Nat) ≠ 75 by decide), p_up_n _ _ (show (72 : Nat) ≠ 65 by decide), p_up_n _ _ (show (72 : Nat) ≠ 73 by decide), p_up_n _ _ (show (72 : Nat) ≠ 74 by decide), p_up_n _ _ (show (72 : Nat) ≠ 75 by decide), p_up_n _ _ (show (73 : Nat) ≠ 65 by decide), p_up_n _ _ (show (73 : Nat) ≠ 72 by decide), p_up_n _ _ (show (73 : Nat) ≠ 74 by decide), p_up_n _ _ (show (73 : Nat) ≠ 75 by decide), p_up_n _ _ (show (74 : Nat) ≠ 65 by decide), p_up_n _ _ (show (74 : Nat) ≠ 72 by decide), p_up_n _ _ (show (74 : Nat) ≠ 73 by decide), p_up_n _ _ (show (74 : Nat) ≠ 75 by decide), p_up_n _ _ (show (75 : Nat) ≠ 65 by decide), p_up_n _ _ (show (75 : Nat) ≠ 72 by decide), p_up_n _ _ (show (75 : Nat) ≠ 73 by decide), p_up_n _ _ (show (75 : Nat) ≠ 74 by decide), p_up_s]
    · skip
      by_cases h73 : c = 73
      · subst h73; simp only [p_up_n _ _ (show (65 : Nat) ≠ 72 by decide), p_up_n _ _ (show (65 : Nat) ≠ 73 by decide), p_up_n _ _ (show (65 : Nat) ≠ 74 by decide), p_up_n _ _ (show (65 : Nat) ≠ 75 by decide), p_up_n _ _ (show (72 : Nat) ≠ 65 by decide), p_up_n _ _ (show (72 : Nat) ≠ 73 by decide), p_up_n _ _ (show (72 : Nat) ≠ 74 by decide), p_up_n _ _ (show (72 : Nat) ≠ 75 by decide), p_up_n _ _ (show (73 : Nat) ≠ 65 by decide), p_up_n _ _ (show (73 : Nat) ≠ 72 by decide), p_up_n _ _ (show (73 : Nat) ≠ 74 by decide), p_up_n _ _ (show (73 : Nat) ≠ 75 by decide), p_up_n _ _ (show (74 : Nat) ≠ 65 by decide), p_up_n _ _ (show (74 : Nat) ≠ 72 by decide), p_up_n _ _ (show (74 : Nat) ≠ 73 by decide), p_up_n _ _ (show (74 : Nat) ≠ 75 by decide), p_up_n _ _ (show (75 : Nat) ≠ 65 by decide), p_up_n _ _ (show (75 : Nat) ≠ 72 by decide), p_up_n _ _ (show (75 : Nat) ≠ 73 by decide), p_up_n _ _ (show (75 : Nat) ≠ 74 by decide), p_up_s]
      · skip
        by_cases h74 : c = 74
        · subst h74; simp only [p_up_n _ _ (show (65 : Nat) ≠ 72 by decide), p_up_n _ _ (show (65 : Nat) ≠ 73 by decide), p_up_n _ _ (show (65 : Nat) ≠ 74 by decide), p_up_n _ _ (show (65 : Nat) ≠ 75 by decide), p_up_n _ _ (show (72 : Nat) ≠ 65 by decide), p_up_n _ _ (show (72 : Nat) ≠ 73 by decide), p_up_n _ _ (show (72 : Nat) ≠ 74 by decide), p_up_n _ _ (show (72 : Nat) ≠ 75 by decide), p_up_n _ _ (show (73 : Nat) ≠ 65 by decide), p_up_n _ _ (show (73 : Nat) ≠ 72 by decide), p_up_n _ _ (show (73 : Nat) ≠ 74 by decide), p_up_n _ _ (show (73 : Nat) ≠ 75 by decide), p_up_n _ _ (show (74 : Nat) ≠ 65 by decide), p_up_n _ _ (show (74 : Nat) ≠ 72 by decide), p_up_n _ _ (show (74 : Nat) ≠ 73 by decide), p_up_n _ _ (show (74 : Nat) ≠ 75 by decide), p_up_n _ _ (show (75 : Nat) ≠ 65 by decide), p_up_n _ _ (show (75 : Nat) ≠ 72 by decide), p_up_n _ _ (show (75 : Nat) ≠ 73 by decide), p_up_n _ _ (show (75 : Nat) ≠ 74 by decide), p_up_s]
        · skip
          by_cases h75 : c = 75
          · subst h75; simp only [p_up_n _ _ (show (65 : Nat) ≠ 72 by decide), p_up_n _ _ (show (65 : Nat) ≠ 73 by decide), p_up_n _ _ (show (65 : Nat) ≠ 74 by decide), p_up_n _ _ (show (65 : Nat) ≠ 75 by decide), p_up_n _ _ (show (72 : Nat) ≠ 65 by decide), p_up_n _ _ (show (72 : Nat) ≠ 73 by decide), p_up_n _ _ (show (72 : Nat) ≠ 74 by decide), p_up_n _ _ (show (72 : Nat) ≠ 75 by decide), p_up_n _ _ (show (73 : Nat) ≠ 65 by decide), p_up_n _ _ (show (73 : Nat) ≠ 72 by decide), p_up_n _ _ (show (73 : Nat) ≠ 74 by decide), p_up_n _ _ (show (73 : Nat) ≠ 75 by decide), p_up_n _ _ (show (74 : Nat) ≠ 65 by decide), p_up_n _ _ (show (74 : Nat) ≠ 72 by decide), p_up_n _ _ (show (74 : Nat) ≠ 73 by decide), p_up_n _ _ (show (74 : Nat) ≠ 75 by decide), p_up_n _ _ (show (75 : Nat) ≠ 65 by decide), p_up_n _ _ (show (75 : Nat) ≠ 72 by decide), p_up_n _ _ (show (75 : Nat) ≠ 73 by decide), p_up_n _ _ (show (75 : Nat) ≠ 74 by decide), p_up_s]
          · skip
            simp only [p_up_n _ _ h65, p_up_n _ _ h72, p_up_n _ _ h73, p_up_n _ _ h74, p_up_n _ _ h75]
  
theorem up_self {α : Type} (I : Nat → α) (a : Nat) : va_up I a (I a) = I := by
  funext c
  by_cases h : c = a
  · subst h; rw [p_up_s]
  · rw [p_up_n _ _ h]
theorem vX12_ch_b {I : Nat → Nat → Int32} {J : Nat → Nat → Int64} {p : Bool × Option Nat} {ro : List (Nat × Nat × (Nat → Int32))} {n : Nat} (hn8 : n ≤ 8) {k a b : Nat} (ho : okN n k a b) {v : Int32} (hdn : I 65 10 = nI 40) (he : I (slR k a b).1 (slR k a b).2 ≠ v) : Pv 1 0 0 CX12_changes [.ref (65), .int (nI k), .int (nI (nmb k a b)), .int (v)] (gS, I, J, gR p, ro) (qI (I (slR k a b).1 (slR k a b).2) (gS, (va_up (rf_noM I 40 (nI k) (nI (nmb k a b)) (I (slR k a b).1 (slR k a b).2) v) (slR k a b).1 (va_up ((rf_noM I 40 (nI k) (nI (nmb k a b)) (I (slR k a b).1 (slR k a b).2) v) (slR k a b).1) (slR k a b).2 v)), J, gR p, ro)) := by
  refine ⟨okCX12_changes, Nat.le_of_ble_eq_true rfl, (show Px _ _ _ _ 0 [some (.ref (65)), some (.int (nI k)), some (.int (nI (nmb k a b))), some (.int (v)), none, none] [] _ _ from ?_)⟩
  refine px_aload_n (kk := 0) rfl rfl rfl ?_
  refine px_iload_n (kk := 1) rfl rfl rfl ?_
  refine px_iload_n (kk := 2) rfl rfl rfl ?_
  refine px_callV0 CX12_valueAt [] [.int _, .int _] (vX12_valueG hn8 ho) rfl gS_65 (by decide) rfl rfl rfl (Nat.le_of_ble_eq_true rfl) (by decide) ?_
  rintro _ _ - ⟨rfl, rfl⟩
  refine px_ist4 rfl rfl (by decide) ?_
  refine px_iload rfl rfl ?_
  refine px_iload_n (kk := 3) rfl rfl rfl ?_
  refine px_icmp_ne rfl (fun c7 => ?_) (fun h => absurd h he)
  refine px_aload_n (kk := 0) rfl rfl rfl ?_
  refine px_iconst (v := nI 0) rfl k_0 ?_
  refine px_putI rfl gS_65 rfl rfl ?_
  refine px_aload_n (kk := 0) rfl rfl rfl ?_
  refine px_getIe (v := nI 40) rfl gS_65 rfl (by simp only [p_up_n _ _ (show (1 : Nat) ≠ 6 by decide), p_up_n _ _ (show (1 : Nat) ≠ 7 by decide), p_up_n _ _ (show (1 : Nat) ≠ 10 by decide), p_up_n _ _ (show (1 : Nat) ≠ 11 by decide), p_up_n _ _ (show (6 : Nat) ≠ 1 by decide), p_up_n _ _ (show (6 : Nat) ≠ 7 by decide), p_up_n _ _ (show (6 : Nat) ≠ 10 by decide), p_up_n _ _ (show (6 : Nat) ≠ 11 by decide), p_up_n _ _ (show (7 : Nat) ≠ 1 by decide), p_up_n _ _ (show (7 : Nat) ≠ 6 by decide), p_up_n _ _ (show (7 : Nat) ≠ 10 by decide), p_up_n _ _ (show (7 : Nat) ≠ 11 by decide), p_up_n _ _ (show (10 : Nat) ≠ 1 by decide), p_up_n _ _ (show (10 : Nat) ≠ 6 by decide), p_up_n _ _ (show (10 : Nat) ≠ 7 by decide), p_up_n _ _ (show (10 : Nat) ≠ 11 by decide), p_up_n _ _ (show (11 : Nat) ≠ 1 by decide), p_up_n _ _ (show (11 : Nat) ≠ 6 by decide), p_up_n _ _ (show (11 : Nat) ≠ 7 by decide), p_up_n _ _ (show (11 : Nat) ≠ 10 by decide), p_up_s, hdn]) ?_
  refine px_bipush (v := nI 40) rfl b_40 ?_
  refine px_icmp_ne rfl (fun h => absurd h (by decide)) (fun _ => ?_)
  refine px_iconst (v := nI 1) rfl k_1 ?_
  refine px_ist5 rfl rfl (by decide) ?_
  obtain ⟨I0, h0⟩ : ∃ I0, I0 = (va_up I 65 (va_up (I 65) 11 (nI 0))) := ⟨_, rfl⟩
  have g65 : I0 65 = va_up (I 65) 11 (nI 0) := by rw [h0, p_up_s]
  have g72 : I0 72 = I 72 := by rw [h0, p_up_n _ _ (by decide)]
  have g73 : I0 73 = I 73 := by rw [h0, p_up_n _ _ (by decide)]
  have g74 : I0 74 = I 74 := by rw [h0, p_up_n _ _ (by decide)]
  have g75 : I0 75 = I 75 := by rw [h0, p_up_n _ _ (by decide)]
  refine px_mem (h0.symm.trans (show I0 = (va_up (va_up (va_up (va_up I0 72 (sp_k (I0 72) 1)) 73 (sp_k (I0 73) 1)) 74 (sp_k (I0 74) 1)) 75 (sp_k (I0 75) 1)) from ?_)) (lX12_sh (I := I0) (k := 1) (by decide) (by decide) ?_)
  · simp only [← sp_k_1, up_self]
  refine px_aload_n (kk := 0) rfl rfl rfl ?_
  refine px_dup rfl rfl ?_
  refine px_getIe (v := nI 40) rfl gS_65 rfl (by simp only [p_up_n _ _ (show (65 : Nat) ≠ 72 by decide), p_up_n _ _ (show (65 : Nat) ≠ 73 by decide), p_up_n _ _ (show (65 : Nat) ≠ 74 by decide), p_up_n _ _ (show (65 : Nat) ≠ 75 by decide), p_up_n _ _ (show (72 : Nat) ≠ 65 by decide), p_up_n _ _ (show (72 : Nat) ≠ 73 by decide), p_up_n _ _ (show (72 : Nat) ≠ 74 by decide), p_up_n _ _ (show (72 : Nat) ≠ 75 by decide), p_up_n _ _ (show (73 : Nat) ≠ 65 by decide), p_up_n _ _ (show (73 : Nat) ≠ 72 by decide), p_up_n _ _ (show (73 : Nat) ≠ 74 by decide), p_up_n _ _ (show (73 : Nat) ≠ 75 by decide), p_up_n _ _ (show (74 : Nat) ≠ 65 by decide), p_up_n _ _ (show (74 : Nat) ≠ 72 by decide), p_up_n _ _ (show (74 : Nat) ≠ 73 by decide), p_up_n _ _ (show (74 : Nat) ≠ 75 by decide), p_up_n _ _ (show (75 : Nat) ≠ 65 by decide), p_up_n _ _ (show (75 : Nat) ≠ 72 by decide), p_up_n _ _ (show (75 : Nat) ≠ 73 by decide), p_up_n _ _ (show (75 : Nat) ≠ 74 by decide), p_up_n _ _ (show (1 : Nat) ≠ 6 by decide), p_up_n _ _ (show (1 : Nat) ≠ 7 by decide), p_up_n _ _ (show (1 : Nat) ≠ 10 by decide), p_up_n _ _ (show (1 : Nat) ≠ 11 by decide), p_up_n _ _ (show (6 : Nat) ≠ 1 by decide), p_up_n _ _ (show (6 : Nat) ≠ 7 by decide), p_up_n _ _ (show (6 : Nat) ≠ 10 by decide), p_up_n _ _ (show (6 : Nat) ≠ 11 by decide), p_up_n _ _ (show (7 : Nat) ≠ 1 by decide), p_up_n _ _ (show (7 : Nat) ≠ 6 by decide), p_up_n _ _ (show (7 : Nat) ≠ 10 by decide), p_up_n _ _ (show (7 : Nat) ≠ 11 by decide), p_up_n _ _ (show (10 : Nat) ≠ 1 by decide), p_up_n _ _ (show (10 : Nat) ≠ 6 by decide), p_up_n _ _ (show (10 : Nat) ≠ 7 by decide), p_up_n _ _ (show (10 : Nat) ≠ 11 by decide), p_up_n _ _ (show (11 : Nat) ≠ 1 by decide), p_up_n _ _ (show (11 : Nat) ≠ 6 by decide), p_up_n _ _ (show (11 : Nat) ≠ 7 by decide), p_up_n _ _ (show (11 : Nat) ≠ 10 by decide), p_up_s, g65, hdn]) ?_
  refine px_iconst (v := nI 1) rfl k_1 ?_
  refine px_isub rfl ?_
  refine px_ieq (y := nI 39) (by decide +kernel) ?_
  refine px_putI rfl gS_65 rfl rfl ?_
  refine px_aload_n (kk := 0) rfl rfl rfl ?_
  refine px_getR (r := 72) rfl gS_65 rfl (gR_65_12 _) ?_
  refine px_aload_n (kk := 0) rfl rfl rfl ?_
  refine px_getIe (v := nI 39) rfl gS_65 rfl (by simp only [p_up_n _ _ (show (65 : Nat) ≠ 72 by decide), p_up_n _ _ (show (65 : Nat) ≠ 73 by decide), p_up_n _ _ (show (65 : Nat) ≠ 74 by decide), p_up_n _ _ (show (65 : Nat) ≠ 75 by decide), p_up_n _ _ (show (72 : Nat) ≠ 65 by decide), p_up_n _ _ (show (72 : Nat) ≠ 73 by decide), p_up_n _ _ (show (72 : Nat) ≠ 74 by decide), p_up_n _ _ (show (72 : Nat) ≠ 75 by decide), p_up_n _ _ (show (73 : Nat) ≠ 65 by decide), p_up_n _ _ (show (73 : Nat) ≠ 72 by decide), p_up_n _ _ (show (73 : Nat) ≠ 74 by decide), p_up_n _ _ (show (73 : Nat) ≠ 75 by decide), p_up_n _ _ (show (74 : Nat) ≠ 65 by decide), p_up_n _ _ (show (74 : Nat) ≠ 72 by decide), p_up_n _ _ (show (74 : Nat) ≠ 73 by decide), p_up_n _ _ (show (74 : Nat) ≠ 75 by decide), p_up_n _ _ (show (75 : Nat) ≠ 65 by decide), p_up_n _ _ (show (75 : Nat) ≠ 72 by decide), p_up_n _ _ (show (75 : Nat) ≠ 73 by decide), p_up_n _ _ (show (75 : Nat) ≠ 74 by decide), p_up_n _ _ (show (1 : Nat) ≠ 6 by decide), p_up_n _ _ (show (1 : Nat) ≠ 7 by decide), p_up_n _ _ (show (1 : Nat) ≠ 10 by decide), p_up_n _ _ (show (1 : Nat) ≠ 11 by decide), p_up_n _ _ (show (6 : Nat) ≠ 1 by decide), p_up_n _ _ (show (6 : Nat) ≠ 7 by decide), p_up_n _ _ (show (6 : Nat) ≠ 10 by decide), p_up_n _ _ (show (6 : Nat) ≠ 11 by decide), p_up_n _ _ (show (7 : Nat) ≠ 1 by decide), p_up_n _ _ (show (7 : Nat) ≠ 6 by decide), p_up_n _ _ (show (7 : Nat) ≠ 10 by decide), p_up_n _ _ (show (7 : Nat) ≠ 11 by decide), p_up_n _ _ (show (10 : Nat) ≠ 1 by decide), p_up_n _ _ (show (10 : Nat) ≠ 6 by decide), p_up_n _ _ (show (10 : Nat) ≠ 7 by decide), p_up_n _ _ (show (10 : Nat) ≠ 11 by decide), p_up_n _ _ (show (11 : Nat) ≠ 1 by decide), p_up_n _ _ (show (11 : Nat) ≠ 6 by decide), p_up_n _ _ (show (11 : Nat) ≠ 7 by decide), p_up_n _ _ (show (11 : Nat) ≠ 10 by decide), p_up_s]) ?_
  refine px_iload_n (kk := 1) rfl rfl rfl ?_
  refine px_iast (j := 39) rfl gS_72 rfl (by decide) ?_
  refine px_aload_n (kk := 0) rfl rfl rfl ?_
  refine px_getR (r := 73) rfl gS_65 rfl (gR_65_13 _) ?_
  refine px_aload_n (kk := 0) rfl rfl rfl ?_
  refine px_getIe (v := nI 39) rfl gS_65 rfl (by simp only [p_up_n _ _ (show (65 : Nat) ≠ 72 by decide), p_up_n _ _ (show (65 : Nat) ≠ 73 by decide), p_up_n _ _ (show (65 : Nat) ≠ 74 by decide), p_up_n _ _ (show (65 : Nat) ≠ 75 by decide), p_up_n _ _ (show (72 : Nat) ≠ 65 by decide), p_up_n _ _ (show (72 : Nat) ≠ 73 by decide), p_up_n _ _ (show (72 : Nat) ≠ 74 by decide), p_up_n _ _ (show (72 : Nat) ≠ 75 by decide), p_up_n _ _ (show (73 : Nat) ≠ 65 by decide), p_up_n _ _ (show (73 : Nat) ≠ 72 by decide), p_up_n _ _ (show (73 : Nat) ≠ 74 by decide), p_up_n _ _ (show (73 : Nat) ≠ 75 by decide), p_up_n _ _ (show (74 : Nat) ≠ 65 by decide), p_up_n _ _ (show (74 : Nat) ≠ 72 by decide), p_up_n _ _ (show (74 : Nat) ≠ 73 by decide), p_up_n _ _ (show (74 : Nat) ≠ 75 by decide), p_up_n _ _ (show (75 : Nat) ≠ 65 by decide), p_up_n _ _ (show (75 : Nat) ≠ 72 by decide), p_up_n _ _ (show (75 : Nat) ≠ 73 by decide), p_up_n _ _ (show (75 : Nat) ≠ 74 by decide), p_up_n _ _ (show (1 : Nat) ≠ 6 by decide), p_up_n _ _ (show (1 : Nat) ≠ 7 by decide), p_up_n _ _ (show (1 : Nat) ≠ 10 by decide), p_up_n _ _ (show (1 : Nat) ≠ 11 by decide), p_up_n _ _ (show (6 : Nat) ≠ 1 by decide), p_up_n _ _ (show (6 : Nat) ≠ 7 by decide), p_up_n _ _ (show (6 : Nat) ≠ 10 by decide), p_up_n _ _ (show (6 : Nat) ≠ 11 by decide), p_up_n _ _ (show (7 : Nat) ≠ 1 by decide), p_up_n _ _ (show (7 : Nat) ≠ 6 by decide), p_up_n _ _ (show (7 : Nat) ≠ 10 by decide), p_up_n _ _ (show (7 : Nat) ≠ 11 by decide), p_up_n _ _ (show (10 : Nat) ≠ 1 by decide), p_up_n _ _ (show (10 : Nat) ≠ 6 by decide), p_up_n _ _ (show (10 : Nat) ≠ 7 by decide), p_up_n _ _ (show (10 : Nat) ≠ 11 by decide), p_up_n _ _ (show (11 : Nat) ≠ 1 by decide), p_up_n _ _ (show (11 : Nat) ≠ 6 by decide), p_up_n _ _ (show (11 : Nat) ≠ 7 by decide), p_up_n _ _ (show (11 : Nat) ≠ 10 by decide), p_up_s]) ?_
  refine px_iload_n (kk := 2) rfl rfl rfl ?_
  refine px_iast (j := 39) rfl gS_73 rfl (by decide) ?_
  refine px_aload_n (kk := 0) rfl rfl rfl ?_
  refine px_getR (r := 74) rfl gS_65 rfl (gR_65_14 _) ?_
  refine px_aload_n (kk := 0) rfl rfl rfl ?_
  refine px_getIe (v := nI 39) rfl gS_65 rfl (by simp only [p_up_n _ _ (show (65 : Nat) ≠ 72 by decide), p_up_n _ _ (show (65 : Nat) ≠ 73 by decide), p_up_n _ _ (show (65 : Nat) ≠ 74 by decide), p_up_n _ _ (show (65 : Nat) ≠ 75 by decide), p_up_n _ _ (show (72 : Nat) ≠ 65 by decide), p_up_n _ _ (show (72 : Nat) ≠ 73 by decide), p_up_n _ _ (show (72 : Nat) ≠ 74 by decide), p_up_n _ _ (show (72 : Nat) ≠ 75 by decide), p_up_n _ _ (show (73 : Nat) ≠ 65 by decide), p_up_n _ _ (show (73 : Nat) ≠ 72 by decide), p_up_n _ _ (show (73 : Nat) ≠ 74 by decide), p_up_n _ _ (show (73 : Nat) ≠ 75 by decide), p_up_n _ _ (show (74 : Nat) ≠ 65 by decide), p_up_n _ _ (show (74 : Nat) ≠ 72 by decide), p_up_n _ _ (show (74 : Nat) ≠ 73 by decide), p_up_n _ _ (show (74 : Nat) ≠ 75 by decide), p_up_n _ _ (show (75 : Nat) ≠ 65 by decide), p_up_n _ _ (show (75 : Nat) ≠ 72 by decide), p_up_n _ _ (show (75 : Nat) ≠ 73 by decide), p_up_n _ _ (show (75 : Nat) ≠ 74 by decide), p_up_n _ _ (show (1 : Nat) ≠ 6 by decide), p_up_n _ _ (show (1 : Nat) ≠ 7 by decide), p_up_n _ _ (show (1 : Nat) ≠ 10 by decide), p_up_n _ _ (show (1 : Nat) ≠ 11 by decide), p_up_n _ _ (show (6 : Nat) ≠ 1 by decide), p_up_n _ _ (show (6 : Nat) ≠ 7 by decide), p_up_n _ _ (show (6 : Nat) ≠ 10 by decide), p_up_n _ _ (show (6 : Nat) ≠ 11 by decide), p_up_n _ _ (show (7 : Nat) ≠ 1 by decide), p_up_n _ _ (show (7 : Nat) ≠ 6 by decide), p_up_n _ _ (show (7 : Nat) ≠ 10 by decide), p_up_n _ _ (show (7 : Nat) ≠ 11 by decide), p_up_n _ _ (show (10 : Nat) ≠ 1 by decide), p_up_n _ _ (show (10 : Nat) ≠ 6 by decide), p_up_n _ _ (show (10 : Nat) ≠ 7 by decide), p_up_n _ _ (show (10 : Nat) ≠ 11 by decide), p_up_n _ _ (show (11 : Nat) ≠ 1 by decide), p_up_n _ _ (show (11 : Nat) ≠ 6 by decide), p_up_n _ _ (show (11 : Nat) ≠ 7 by decide), p_up_n _ _ (show (11 : Nat) ≠ 10 by decide), p_up_s]) ?_
  refine px_iload rfl rfl ?_
  refine px_iast (j := 39) rfl gS_74 rfl (by decide) ?_
  refine px_aload_n (kk := 0) rfl rfl rfl ?_
  refine px_getR (r := 75) rfl gS_65 rfl (gR_65_15 _) ?_
  refine px_aload_n (kk := 0) rfl rfl rfl ?_
  refine px_getIe (v := nI 39) rfl gS_65 rfl (by simp only [p_up_n _ _ (show (65 : Nat) ≠ 72 by decide), p_up_n _ _ (show (65 : Nat) ≠ 73 by decide), p_up_n _ _ (show (65 : Nat) ≠ 74 by decide), p_up_n _ _ (show (65 : Nat) ≠ 75 by decide), p_up_n _ _ (show (72 : Nat) ≠ 65 by decide), p_up_n _ _ (show (72 : Nat) ≠ 73 by decide), p_up_n _ _ (show (72 : Nat) ≠ 74 by decide), p_up_n _ _ (show (72 : Nat) ≠ 75 by decide), p_up_n _ _ (show (73 : Nat) ≠ 65 by decide), p_up_n _ _ (show (73 : Nat) ≠ 72 by decide), p_up_n _ _ (show (73 : Nat) ≠ 74 by decide), p_up_n _ _ (show (73 : Nat) ≠ 75 by decide), p_up_n _ _ (show (74 : Nat) ≠ 65 by decide), p_up_n _ _ (show (74 : Nat) ≠ 72 by decide), p_up_n _ _ (show (74 : Nat) ≠ 73 by decide), p_up_n _ _ (show (74 : Nat) ≠ 75 by decide), p_up_n _ _ (show (75 : Nat) ≠ 65 by decide), p_up_n _ _ (show (75 : Nat) ≠ 72 by decide), p_up_n _ _ (show (75 : Nat) ≠ 73 by decide), p_up_n _ _ (show (75 : Nat) ≠ 74 by decide), p_up_n _ _ (show (1 : Nat) ≠ 6 by decide), p_up_n _ _ (show (1 : Nat) ≠ 7 by decide), p_up_n _ _ (show (1 : Nat) ≠ 10 by decide), p_up_n _ _ (show (1 : Nat) ≠ 11 by decide), p_up_n _ _ (show (6 : Nat) ≠ 1 by decide), p_up_n _ _ (show (6 : Nat) ≠ 7 by decide), p_up_n _ _ (show (6 : Nat) ≠ 10 by decide), p_up_n _ _ (show (6 : Nat) ≠ 11 by decide), p_up_n _ _ (show (7 : Nat) ≠ 1 by decide), p_up_n _ _ (show (7 : Nat) ≠ 6 by decide), p_up_n _ _ (show (7 : Nat) ≠ 10 by decide), p_up_n _ _ (show (7 : Nat) ≠ 11 by decide), p_up_n _ _ (show (10 : Nat) ≠ 1 by decide), p_up_n _ _ (show (10 : Nat) ≠ 6 by decide), p_up_n _ _ (show (10 : Nat) ≠ 7 by decide), p_up_n _ _ (show (10 : Nat) ≠ 11 by decide), p_up_n _ _ (show (11 : Nat) ≠ 1 by decide), p_up_n _ _ (show (11 : Nat) ≠ 6 by decide), p_up_n _ _ (show (11 : Nat) ≠ 7 by decide), p_up_n _ _ (show (11 : Nat) ≠ 10 by decide), p_up_s]) ?_
  refine px_iload_n (kk := 3) rfl rfl rfl ?_
  refine px_iast (j := 39) rfl gS_75 rfl (by decide) ?_
  refine px_aload_n (kk := 0) rfl rfl rfl ?_
  refine px_dup rfl rfl ?_
  refine px_getIe (v := nI 39) rfl gS_65 rfl (by simp only [p_up_n _ _ (show (65 : Nat) ≠ 72 by decide), p_up_n _ _ (show (65 : Nat) ≠ 73 by decide), p_up_n _ _ (show (65 : Nat) ≠ 74 by decide), p_up_n _ _ (show (65 : Nat) ≠ 75 by decide), p_up_n _ _ (show (72 : Nat) ≠ 65 by decide), p_up_n _ _ (show (72 : Nat) ≠ 73 by decide), p_up_n _ _ (show (72 : Nat) ≠ 74 by decide), p_up_n _ _ (show (72 : Nat) ≠ 75 by decide), p_up_n _ _ (show (73 : Nat) ≠ 65 by decide), p_up_n _ _ (show (73 : Nat) ≠ 72 by decide), p_up_n _ _ (show (73 : Nat) ≠ 74 by decide), p_up_n _ _ (show (73 : Nat) ≠ 75 by decide), p_up_n _ _ (show (74 : Nat) ≠ 65 by decide), p_up_n _ _ (show (74 : Nat) ≠ 72 by decide), p_up_n _ _ (show (74 : Nat) ≠ 73 by decide), p_up_n _ _ (show (74 : Nat) ≠ 75 by decide), p_up_n _ _ (show (75 : Nat) ≠ 65 by decide), p_up_n _ _ (show (75 : Nat) ≠ 72 by decide), p_up_n _ _ (show (75 : Nat) ≠ 73 by decide), p_up_n _ _ (show (75 : Nat) ≠ 74 by decide), p_up_n _ _ (show (1 : Nat) ≠ 6 by decide), p_up_n _ _ (show (1 : Nat) ≠ 7 by decide), p_up_n _ _ (show (1 : Nat) ≠ 10 by decide), p_up_n _ _ (show (1 : Nat) ≠ 11 by decide), p_up_n _ _ (show (6 : Nat) ≠ 1 by decide), p_up_n _ _ (show (6 : Nat) ≠ 7 by decide), p_up_n _ _ (show (6 : Nat) ≠ 10 by decide), p_up_n _ _ (show (6 : Nat) ≠ 11 by decide), p_up_n _ _ (show (7 : Nat) ≠ 1 by decide), p_up_n _ _ (show (7 : Nat) ≠ 6 by decide), p_up_n _ _ (show (7 : Nat) ≠ 10 by decide), p_up_n _ _ (show (7 : Nat) ≠ 11 by decide), p_up_n _ _ (show (10 : Nat) ≠ 1 by decide), p_up_n _ _ (show (10 : Nat) ≠ 6 by decide), p_up_n _ _ (show (10 : Nat) ≠ 7 by decide), p_up_n _ _ (show (10 : Nat) ≠ 11 by decide), p_up_n _ _ (show (11 : Nat) ≠ 1 by decide), p_up_n _ _ (show (11 : Nat) ≠ 6 by decide), p_up_n _ _ (show (11 : Nat) ≠ 7 by decide), p_up_n _ _ (show (11 : Nat) ≠ 10 by decide), p_up_s]) ?_
  refine px_iconst (v := nI 1) rfl k_1 ?_
  refine px_iaddN rfl ?_
  refine px_putI rfl gS_65 rfl rfl ?_
  refine px_aload_n (kk := 0) rfl rfl rfl ?_
  refine px_iload_n (kk := 1) rfl rfl rfl ?_
  refine px_iload_n (kk := 2) rfl rfl rfl ?_
  refine px_iload_n (kk := 3) rfl rfl rfl ?_
  refine px_callV0 CX12_lays [] [.int _, .int _, .int _] (vX12_laysG hn8 ho) rfl gS_65 (by decide) rfl rfl rfl (Nat.le_of_ble_eq_true rfl) (by decide) ?_
  rintro _ _ - ⟨rfl, rfl⟩
  refine px_iload rfl rfl ?_
  refine px_ireturn rfl (.inl rfl) ?_
  refine ⟨rfl, congrArg (fun M => (gS, (va_up M (slR k a b).1 (va_up (M (slR k a b).1) (slR k a b).2 v)), J, gR p, ro)) ?_⟩
  unfold rf_noM
  rw [sp_push, sp_push, sp_push, sp_push, sp_dn, if_neg (show ¬ 40 < 40 by decide), if_neg (show ¬ 40 < 40 by decide), if_neg (show ¬ 40 < 40 by decide), if_neg (show ¬ 40 < 40 by decide), if_neg (show ¬ 40 < 40 by decide)]
  funext c
  by_cases h72 : c = 72
  · subst h72; simp only [p_up_n _ _ (show (65 : Nat) ≠ 72 by decide), p_up_n _ _ (show (65 : Nat) ≠ 73 by decide), p_up_n _ _ (show (65 : Nat) ≠ 74 by decide), p_up_n _ _ (show (65 : Nat) ≠ 75 by decide), p_up_n _ _ (show (72 : Nat) ≠ 65 by decide), p_up_n _ _ (show (72 : Nat) ≠ 73 by decide), p_up_n _ _ (show (72 : Nat) ≠ 74 by decide), p_up_n _ _ (show (72 : Nat) ≠ 75 by decide), p_up_n _ _ (show (73 : Nat) ≠ 65 by decide), p_up_n _ _ (show (73 : Nat) ≠ 72 by decide), p_up_n _ _ (show (73 : Nat) ≠ 74 by decide), p_up_n _ _ (show (73 : Nat) ≠ 75 by decide), p_up_n _ _ (show (74 : Nat) ≠ 65 by decide), p_up_n _ _ (show (74 : Nat) ≠ 72 by decide), p_up_n _ _ (show (74 : Nat) ≠ 73 by decide), p_up_n _ _ (show (74 : Nat) ≠ 75 by decide), p_up_n _ _ (show (75 : Nat) ≠ 65 by decide), p_up_n _ _ (show (75 : Nat) ≠ 72 by decide), p_up_n _ _ (show (75 : Nat) ≠ 73 by decide), p_up_n _ _ (show (75 : Nat) ≠ 74 by decide), p_up_s, sp_k_40, g65, g72, g73, g74, g75]
  · skip
    by_cases h73 : c = 73
    · subst h73; simp only [p_up_n _ _ (show (65 : Nat) ≠ 72 by decide), p_up_n _ _ (show (65 : Nat) ≠ 73 by decide), p_up_n _ _ (show (65 : Nat) ≠ 74 by decide), p_up_n _ _ (show (65 : Nat) ≠ 75 by decide), p_up_n _ _ (show (72 : Nat) ≠ 65 by decide), p_up_n _ _ (show (72 : Nat) ≠ 73 by decide), p_up_n _ _ (show (72 : Nat) ≠ 74 by decide), p_up_n _ _ (show (72 : Nat) ≠ 75 by decide), p_up_n _ _ (show (73 : Nat) ≠ 65 by decide), p_up_n _ _ (show (73 : Nat) ≠ 72 by decide), p_up_n _ _ (show (73 : Nat) ≠ 74 by decide), p_up_n _ _ (show (73 : Nat) ≠ 75 by decide), p_up_n _ _ (show (74 : Nat) ≠ 65 by decide), p_up_n _ _ (show (74 : Nat) ≠ 72 by decide), p_up_n _ _ (show (74 : Nat) ≠ 73 by decide), p_up_n _ _ (show (74 : Nat) ≠ 75 by decide), p_up_n _ _ (show (75 : Nat) ≠ 65 by decide), p_up_n _ _ (show (75 : Nat) ≠ 72 by decide), p_up_n _ _ (show (75 : Nat) ≠ 73 by decide), p_up_n _ _ (show (75 : Nat) ≠ 74 by decide), p_up_s, sp_k_40, g65, g72, g73, g74, g75]
    · skip
      by_cases h74 : c = 74
      · subst h74; simp only [p_up_n _ _ (show (65 : Nat) ≠ 72 by decide), p_up_n _ _ (show (65 : Nat) ≠ 73 by decide), p_up_n _ _ (show (65 : Nat) ≠ 74 by decide), p_up_n _ _ (show (65 : Nat) ≠ 75 by decide), p_up_n _ _ (show (72 : Nat) ≠ 65 by decide), p_up_n _ _ (show (72 : Nat) ≠ 73 by decide), p_up_n _ _ (show (72 : Nat) ≠ 74 by decide), p_up_n _ _ (show (72 : Nat) ≠ 75 by decide), p_up_n _ _ (show (73 : Nat) ≠ 65 by decide), p_up_n _ _ (show (73 : Nat) ≠ 72 by decide), p_up_n _ _ (show (73 : Nat) ≠ 74 by decide), p_up_n _ _ (show (73 : Nat) ≠ 75 by decide), p_up_n _ _ (show (74 : Nat) ≠ 65 by decide), p_up_n _ _ (show (74 : Nat) ≠ 72 by decide), p_up_n _ _ (show (74 : Nat) ≠ 73 by decide), p_up_n _ _ (show (74 : Nat) ≠ 75 by decide), p_up_n _ _ (show (75 : Nat) ≠ 65 by decide), p_up_n _ _ (show (75 : Nat) ≠ 72 by decide), p_up_n _ _ (show (75 : Nat) ≠ 73 by decide), p_up_n _ _ (show (75 : Nat) ≠ 74 by decide), p_up_s, sp_k_40, g65, g72, g73, g74, g75]
      · skip
        by_cases h75 : c = 75
        · subst h75; simp only [p_up_n _ _ (show (65 : Nat) ≠ 72 by decide), p_up_n _ _ (show (65 : Nat) ≠ 73 by decide), p_up_n _ _ (show (65 : Nat) ≠ 74 by decide), p_up_n _ _ (show (65 : Nat) ≠ 75 by decide), p_up_n _ _ (show (72 : Nat) ≠ 65 by decide), p_up_n _ _ (show (72 : Nat) ≠ 73 by decide), p_up_n _ _ (show (72 : Nat) ≠ 74 by decide), p_up_n _ _ (show (72 : Nat) ≠ 75 by decide), p_up_n _ _ (show (73 : Nat) ≠ 65 by decide), p_up_n _ _ (show (73 : Nat) ≠ 72 by decide), p_up_n _ _ (show (73 : Nat) ≠ 74 by decide), p_up_n _ _ (show (73 : Nat) ≠ 75 by decide), p_up_n _ _ (show (74 : Nat) ≠ 65 by decide), p_up_n _ _ (show (74 : Nat) ≠ 72 by decide), p_up_n _ _ (show (74 : Nat) ≠ 73 by decide), p_up_n _ _ (show (74 : Nat) ≠ 75 by decide), p_up_n _ _ (show (75 : Nat) ≠ 65 by decide), p_up_n _ _ (show (75 : Nat) ≠ 72 by decide), p_up_n _ _ (show (75 : Nat) ≠ 73 by decide), p_up_n _ _ (show (75 : Nat) ≠ 74 by decide), p_up_s, sp_k_40, g65, g72, g73, g74, g75]
        · skip
          by_cases h65 : c = 65
          · subst h65; simp only [p_up_n _ _ (show (65 : Nat) ≠ 72 by decide), p_up_n _ _ (show (65 : Nat) ≠ 73 by decide), p_up_n _ _ (show (65 : Nat) ≠ 74 by decide), p_up_n _ _ (show (65 : Nat) ≠ 75 by decide), p_up_n _ _ (show (72 : Nat) ≠ 65 by decide), p_up_n _ _ (show (72 : Nat) ≠ 73 by decide), p_up_n _ _ (show (72 : Nat) ≠ 74 by decide), p_up_n _ _ (show (72 : Nat) ≠ 75 by decide), p_up_n _ _ (show (73 : Nat) ≠ 65 by decide), p_up_n _ _ (show (73 : Nat) ≠ 72 by decide), p_up_n _ _ (show (73 : Nat) ≠ 74 by decide), p_up_n _ _ (show (73 : Nat) ≠ 75 by decide), p_up_n _ _ (show (74 : Nat) ≠ 65 by decide), p_up_n _ _ (show (74 : Nat) ≠ 72 by decide), p_up_n _ _ (show (74 : Nat) ≠ 73 by decide), p_up_n _ _ (show (74 : Nat) ≠ 75 by decide), p_up_n _ _ (show (75 : Nat) ≠ 65 by decide), p_up_n _ _ (show (75 : Nat) ≠ 72 by decide), p_up_n _ _ (show (75 : Nat) ≠ 73 by decide), p_up_n _ _ (show (75 : Nat) ≠ 74 by decide), p_up_s, up_up, g65]
          · simp only [p_up_n _ _ h72, p_up_n _ _ h73, p_up_n _ _ h74, p_up_n _ _ h75, p_up_n _ _ h65, h0]
  
theorem vX12_ch {I : Nat → Nat → Int32} {J : Nat → Nat → Int64} {p : Bool × Option Nat} {ro : List (Nat × Nat × (Nat → Int32))} {n : Nat} (hn8 : n ≤ 8) {k a b : Nat} (ho : okN n k a b) {v : Int32} {dn : Nat} (hdn : I 65 10 = nI dn) (hd40 : dn ≤ 40) (he : I (slR k a b).1 (slR k a b).2 ≠ v) : Pv 1 0 0 CX12_changes [.ref 65, .int (nI k), .int (nI (nmb k a b)), .int v] (gS, I, J, gR p, ro) (qI (I (slR k a b).1 (slR k a b).2) (gS, (va_up (rf_noM I dn (nI k) (nI (nmb k a b)) (I (slR k a b).1 (slR k a b).2) v) (slR k a b).1 (va_up ((rf_noM I dn (nI k) (nI (nmb k a b)) (I (slR k a b).1 (slR k a b).2) v) (slR k a b).1) (slR k a b).2 v)), J, gR p, ro)) := by
  by_cases h : dn < 40
  · exact vX12_ch_a hn8 ho hdn hd40 h he
  · obtain rfl : dn = 40 := by omega
    exact vX12_ch_b hn8 ho hdn he
theorem vX12_changes {I : Nat → Nat → Int32} {J : Nat → Nat → Int64} {p : Bool × Option Nat} {ro : List (Nat × Nat × (Nat → Int32))} {n : Nat} (hn8 : n ≤ 8) {k a b : Nat} (ho : okN n k a b) {v : Int32} {dn : Nat} (hdn : I 65 10 = nI dn) (hd40 : dn ≤ 40) : Pv 1 0 0 CX12_changes [.ref 65, .int (nI k), .int (nI (nmb k a b)), .int v] (gS, I, J, gR p, ro) (fun r S' => (r = some (.int (I (slR k a b).1 (slR k a b).2)) ∧ ((I (slR k a b).1 (slR k a b).2 = v ∧ S' = (gS, I, J, gR p, ro)) ∨ (I (slR k a b).1 (slR k a b).2 ≠ v ∧ S' = (gS, (va_up (rf_noM I dn (nI k) (nI (nmb k a b)) (I (slR k a b).1 (slR k a b).2) v) (slR k a b).1 (va_up ((rf_noM I dn (nI k) (nI (nmb k a b)) (I (slR k a b).1 (slR k a b).2) v) (slR k a b).1) (slR k a b).2 v)), J, gR p, ro))))) := by
  by_cases he : I (slR k a b).1 (slR k a b).2 = v
  · exact pv_post (vX12_ch_0 hn8 ho he) (fun r S hr => ⟨hr.1, .inl ⟨he, hr.2⟩⟩)
  · exact pv_post (vX12_ch hn8 ho hdn hd40 he) (fun r S hr => ⟨hr.1, .inr ⟨he, hr.2⟩⟩)
theorem vX12_mend {I : Nat → Nat → Int32} {J : Nat → Nat → Int64} {p : Bool × Option Nat} {ro : List (Nat × Nat × (Nat → Int32))} {n : Nat} (hn : I 65 1 = nI n) (hn8 : n ≤ 8) {dn : Nat} (hdn : I 65 10 = nI dn) (hd40 : dn ≤ 40) {x w v : Int32} : Pv 4 0 0 CX12_mend [.ref (65), .int (x), .int (w), .int (v)] (gS, I, J, gR p, ro) (fun r S' => (∃ k a b, okN n k a b ∧ w = nI k ∧ x = nI (nmb k a b) ∧ sp_may k v ∧ (r = some (.int (I (slR k a b).1 (slR k a b).2)) ∧ ((I (slR k a b).1 (slR k a b).2 = v ∧ S' = (gS, I, J, gR p, ro)) ∨ (I (slR k a b).1 (slR k a b).2 ≠ v ∧ S' = (gS, (va_up (rf_noM I dn (nI k) (nI (nmb k a b)) (I (slR k a b).1 (slR k a b).2) v) (slR k a b).1 (va_up ((rf_noM I dn (nI k) (nI (nmb k a b)) (I (slR k a b).1 (slR k a b).2) v) (slR k a b).1) (slR k a b).2 v)), J, gR p, ro))))) ∨ (¬ (∃ k, k < 6 ∧ w = nI k ∧ sp_num n k x ∧ sp_may k v) ∧ r = some (.int (-2000000000)) ∧ S' = (gS, I, J, gR p, ro))) := by
  refine ⟨okCX12_mend, Nat.le_of_ble_eq_true rfl, (show Px _ _ _ _ 0 [some (.ref (65)), some (.int (x)), some (.int (w)), some (.int (v))] [] _ _ from ?_)⟩
  refine px_aload_n (kk := 0) rfl rfl rfl ?_
  refine px_iload_n (kk := 1) rfl rfl rfl ?_
  refine px_iload_n (kk := 2) rfl rfl rfl ?_
  refine px_callV0 CX12_isOne [] [.int _, .int _] (vX12_isOne hn hn8) rfl gS_65 (by decide) rfl rfl rfl (Nat.le_of_ble_eq_true rfl) (by decide) ?_
  rintro _ _ - (⟨⟨k, hk, rfl, hnum⟩, rfl, rfl⟩ | ⟨hno, rfl, rfl⟩)
  · refine px_if_eq rfl (fun h => absurd h (by decide)) (fun _ => ?_)
    refine px_iload_n (kk := 2) rfl rfl rfl ?_
    refine px_iload_n (kk := 3) rfl rfl rfl ?_
    refine px_callS0 CX12_mayHave [] [.int _, .int _] (vX12_mayHaveG hk) rfl rfl rfl (Nat.le_of_ble_eq_true rfl) (by decide) ?_
    rintro _ _ - (⟨hmay, rfl, rfl⟩ | ⟨hmay, rfl, rfl⟩)
    · obtain ⟨a, b, ho, rfl⟩ := sp_num_ok hk hnum
      refine px_if_eq rfl (fun h => absurd h (by decide)) (fun _ => ?_)
      refine px_aload_n (kk := 0) rfl rfl rfl ?_
      refine px_iload_n (kk := 2) rfl rfl rfl ?_
      refine px_iload_n (kk := 1) rfl rfl rfl ?_
      refine px_iload_n (kk := 3) rfl rfl rfl ?_
      refine px_callV0 CX12_changes [] [.int _, .int _, .int _] (vX12_changes hn8 ho hdn hd40) rfl gS_65 (by decide) rfl rfl rfl (Nat.le_of_ble_eq_true rfl) (by decide) ?_
      rintro _ _ - ⟨rfl, (⟨he, rfl⟩ | ⟨he, rfl⟩)⟩
      · refine px_goto rfl ?_
        refine px_ireturn rfl (.inl rfl) ?_
        exact .inl ⟨k, a, b, ho, rfl, rfl, hmay, rfl, .inl ⟨he, rfl⟩⟩
      · refine px_goto rfl ?_
        refine px_ireturn rfl (.inl rfl) ?_
        exact .inl ⟨k, a, b, ho, rfl, rfl, hmay, rfl, .inr ⟨he, rfl⟩⟩
    · refine px_if_eq rfl (fun _ => ?_) (fun h => absurd h (by decide))
      refine px_ldc (v := -2000000000) rfl (by decide) ?_
      refine px_ireturn rfl (.inl rfl) ?_
      exact .inr ⟨fun ⟨k2, hk2, e, _, h3⟩ => by rw [n_eq (by omega) (by omega)] at e; subst e; exact hmay h3, rfl, rfl⟩
  · refine px_if_eq rfl (fun _ => ?_) (fun h => absurd h (by decide))
    refine px_ldc (v := -2000000000) rfl (by decide) ?_
    refine px_ireturn rfl (.inl rfl) ?_
    exact .inr ⟨fun ⟨k2, hk2, e, h2, _⟩ => hno ⟨k2, hk2, e, h2⟩, rfl, rfl⟩
theorem vX12_undo_0 {I : Nat → Nat → Int32} {J : Nat → Nat → Int64} {p : Bool × Option Nat} {ro : List (Nat × Nat × (Nat → Int32))} (hc : I 65 10 = nI 0) : Pv 1 0 0 CX12_undo [.ref (65)] (gS, I, J, gR p, ro) (qI (-5) (gS, I, J, gR p, ro)) := by
  refine ⟨okCX12_undo, Nat.le_of_ble_eq_true rfl, (show Px _ _ _ _ 0 [some (.ref (65))] [] _ _ from ?_)⟩
  refine px_aload_n (kk := 0) rfl rfl rfl ?_
  refine px_getIe (v := nI 0) rfl gS_65 rfl hc ?_
  refine px_if_ne rfl (fun h => absurd h (by decide)) (fun _ => ?_)
  refine px_bipush (v := -5) rfl b_m5 ?_
  refine px_ireturn rfl (.inl rfl) ?_
  exact ⟨rfl, rfl⟩
def rf_unM (I : Nat → Nat → Int32) (c un k a b : Nat) (v : Int32) : Nat → Nat → Int32 := va_up (va_up I 65 (va_up (va_up (I 65) 10 (nI c)) 11 (nI (un + 1)))) (slR k a b).1 (va_up ((va_up I 65 (va_up (va_up (I 65) 10 (nI c)) 11 (nI (un + 1)))) (slR k a b).1) (slR k a b).2 v)
theorem slR_10 {n w a b : Nat} (h : okN n w a b) (I : Nat → Nat → Int32) (v : Int32) {q : Nat} (hq : q ≠ 6) (hq7 : q ≠ 7) : va_up I (slR w a b).1 (va_up (I (slR w a b).1) (slR w a b).2 v) 65 q = I 65 q := by
  by_cases e : (slR w a b).1 = 65
  · rw [e, p_up_s]
    rcases slR_f h e with h2 | h2
    · rw [h2, p_up_n _ _ hq]
    · rw [h2, p_up_n _ _ hq7]
  · rw [p_up_n _ _ (fun z => e z.symm)]
theorem vX12_undo_s {I : Nat → Nat → Int32} {J : Nat → Nat → Int64} {p : Bool × Option Nat} {ro : List (Nat × Nat × (Nat → Int32))} {n : Nat} (hn8 : n ≤ 8) {c un : Nat} (hc : I 65 10 = nI (c + 1)) (hc40 : c < 40) (hun : I 65 11 = nI un) {k a b : Nat} (ho : okN n k a b) (hx : I 73 c = (nI (nmb k a b))) (hw : I 72 c = nI k) : Pv 1 0 0 CX12_undo [.ref (65)] (gS, I, J, gR p, ro) (qI (nI c) (gS, (rf_unM I c un k a b (I 74 c)), J, gR p, ro)) := by
  refine ⟨okCX12_undo, Nat.le_of_ble_eq_true rfl, (show Px _ _ _ _ 0 [some (.ref (65))] [] _ _ from ?_)⟩
  refine px_aload_n (kk := 0) rfl rfl rfl ?_
  refine px_getIe (v := nI (c + 1)) rfl gS_65 rfl hc ?_
  refine px_if_ne rfl (fun c2 => ?_) (fun h => absurd h (fun e => by rw [n_0, n_eq (by omega) (by omega)] at e; omega))
  refine px_aload_n (kk := 0) rfl rfl rfl ?_
  refine px_dup rfl rfl ?_
  refine px_getIe (v := nI (c + 1)) rfl gS_65 rfl hc ?_
  refine px_iconst (v := nI 1) rfl k_1 ?_
  refine px_isub rfl ?_
  refine px_ieq (y := nI c) (nI_pred c) ?_
  refine px_putI rfl gS_65 rfl rfl ?_
  refine px_aload_n (kk := 0) rfl rfl rfl ?_
  refine px_dup rfl rfl ?_
  refine px_getIe (v := nI un) rfl gS_65 rfl (by simp only [p_up_s, p_up_n _ _ (show (1 : Nat) ≠ 6 by decide), p_up_n _ _ (show (1 : Nat) ≠ 7 by decide), p_up_n _ _ (show (1 : Nat) ≠ 10 by decide), p_up_n _ _ (show (1 : Nat) ≠ 11 by decide), p_up_n _ _ (show (6 : Nat) ≠ 1 by decide), p_up_n _ _ (show (6 : Nat) ≠ 7 by decide), p_up_n _ _ (show (6 : Nat) ≠ 10 by decide), p_up_n _ _ (show (6 : Nat) ≠ 11 by decide), p_up_n _ _ (show (7 : Nat) ≠ 1 by decide), p_up_n _ _ (show (7 : Nat) ≠ 6 by decide), p_up_n _ _ (show (7 : Nat) ≠ 10 by decide), p_up_n _ _ (show (7 : Nat) ≠ 11 by decide), p_up_n _ _ (show (10 : Nat) ≠ 1 by decide), p_up_n _ _ (show (10 : Nat) ≠ 6 by decide), p_up_n _ _ (show (10 : Nat) ≠ 7 by decide), p_up_n _ _ (show (10 : Nat) ≠ 11 by decide), p_up_n _ _ (show (11 : Nat) ≠ 1 by decide), p_up_n _ _ (show (11 : Nat) ≠ 6 by decide), p_up_n _ _ (show (11 : Nat) ≠ 7 by decide), p_up_n _ _ (show (11 : Nat) ≠ 10 by decide), hun]) ?_
  refine px_iconst (v := nI 1) rfl k_1 ?_
  refine px_iaddN rfl ?_
  refine px_putI rfl gS_65 rfl rfl ?_
  refine px_aload_n (kk := 0) rfl rfl rfl ?_
  refine px_aload_n (kk := 0) rfl rfl rfl ?_
  refine px_getR (r := 72) rfl gS_65 rfl (gR_65_12 _) ?_
  refine px_aload_n (kk := 0) rfl rfl rfl ?_
  refine px_getIe (v := nI c) rfl gS_65 rfl (by simp only [p_up_s, p_up_n _ _ (show (1 : Nat) ≠ 6 by decide), p_up_n _ _ (show (1 : Nat) ≠ 7 by decide), p_up_n _ _ (show (1 : Nat) ≠ 10 by decide), p_up_n _ _ (show (1 : Nat) ≠ 11 by decide), p_up_n _ _ (show (6 : Nat) ≠ 1 by decide), p_up_n _ _ (show (6 : Nat) ≠ 7 by decide), p_up_n _ _ (show (6 : Nat) ≠ 10 by decide), p_up_n _ _ (show (6 : Nat) ≠ 11 by decide), p_up_n _ _ (show (7 : Nat) ≠ 1 by decide), p_up_n _ _ (show (7 : Nat) ≠ 6 by decide), p_up_n _ _ (show (7 : Nat) ≠ 10 by decide), p_up_n _ _ (show (7 : Nat) ≠ 11 by decide), p_up_n _ _ (show (10 : Nat) ≠ 1 by decide), p_up_n _ _ (show (10 : Nat) ≠ 6 by decide), p_up_n _ _ (show (10 : Nat) ≠ 7 by decide), p_up_n _ _ (show (10 : Nat) ≠ 11 by decide), p_up_n _ _ (show (11 : Nat) ≠ 1 by decide), p_up_n _ _ (show (11 : Nat) ≠ 6 by decide), p_up_n _ _ (show (11 : Nat) ≠ 7 by decide), p_up_n _ _ (show (11 : Nat) ≠ 10 by decide)]) ?_
  refine px_ialde (j := c) (v := nI k) rfl gS_72 rfl (by omega) (by rw [p_up_n _ _ (by decide), p_up_n _ _ (by decide)]; exact hw) ?_
  refine px_aload_n (kk := 0) rfl rfl rfl ?_
  refine px_getR (r := 73) rfl gS_65 rfl (gR_65_13 _) ?_
  refine px_aload_n (kk := 0) rfl rfl rfl ?_
  refine px_getIe (v := nI c) rfl gS_65 rfl (by simp only [p_up_s, p_up_n _ _ (show (1 : Nat) ≠ 6 by decide), p_up_n _ _ (show (1 : Nat) ≠ 7 by decide), p_up_n _ _ (show (1 : Nat) ≠ 10 by decide), p_up_n _ _ (show (1 : Nat) ≠ 11 by decide), p_up_n _ _ (show (6 : Nat) ≠ 1 by decide), p_up_n _ _ (show (6 : Nat) ≠ 7 by decide), p_up_n _ _ (show (6 : Nat) ≠ 10 by decide), p_up_n _ _ (show (6 : Nat) ≠ 11 by decide), p_up_n _ _ (show (7 : Nat) ≠ 1 by decide), p_up_n _ _ (show (7 : Nat) ≠ 6 by decide), p_up_n _ _ (show (7 : Nat) ≠ 10 by decide), p_up_n _ _ (show (7 : Nat) ≠ 11 by decide), p_up_n _ _ (show (10 : Nat) ≠ 1 by decide), p_up_n _ _ (show (10 : Nat) ≠ 6 by decide), p_up_n _ _ (show (10 : Nat) ≠ 7 by decide), p_up_n _ _ (show (10 : Nat) ≠ 11 by decide), p_up_n _ _ (show (11 : Nat) ≠ 1 by decide), p_up_n _ _ (show (11 : Nat) ≠ 6 by decide), p_up_n _ _ (show (11 : Nat) ≠ 7 by decide), p_up_n _ _ (show (11 : Nat) ≠ 10 by decide)]) ?_
  refine px_ialde (j := c) (v := nI (nmb k a b)) rfl gS_73 rfl (by omega) (by rw [p_up_n _ _ (by decide), p_up_n _ _ (by decide)]; exact hx) ?_
  refine px_aload_n (kk := 0) rfl rfl rfl ?_
  refine px_getR (r := 74) rfl gS_65 rfl (gR_65_14 _) ?_
  refine px_aload_n (kk := 0) rfl rfl rfl ?_
  refine px_getIe (v := nI c) rfl gS_65 rfl (by simp only [p_up_s, p_up_n _ _ (show (1 : Nat) ≠ 6 by decide), p_up_n _ _ (show (1 : Nat) ≠ 7 by decide), p_up_n _ _ (show (1 : Nat) ≠ 10 by decide), p_up_n _ _ (show (1 : Nat) ≠ 11 by decide), p_up_n _ _ (show (6 : Nat) ≠ 1 by decide), p_up_n _ _ (show (6 : Nat) ≠ 7 by decide), p_up_n _ _ (show (6 : Nat) ≠ 10 by decide), p_up_n _ _ (show (6 : Nat) ≠ 11 by decide), p_up_n _ _ (show (7 : Nat) ≠ 1 by decide), p_up_n _ _ (show (7 : Nat) ≠ 6 by decide), p_up_n _ _ (show (7 : Nat) ≠ 10 by decide), p_up_n _ _ (show (7 : Nat) ≠ 11 by decide), p_up_n _ _ (show (10 : Nat) ≠ 1 by decide), p_up_n _ _ (show (10 : Nat) ≠ 6 by decide), p_up_n _ _ (show (10 : Nat) ≠ 7 by decide), p_up_n _ _ (show (10 : Nat) ≠ 11 by decide), p_up_n _ _ (show (11 : Nat) ≠ 1 by decide), p_up_n _ _ (show (11 : Nat) ≠ 6 by decide), p_up_n _ _ (show (11 : Nat) ≠ 7 by decide), p_up_n _ _ (show (11 : Nat) ≠ 10 by decide)]) ?_
  refine px_ialde (j := c) (v := I 74 c) rfl gS_74 rfl (by omega) (by rw [p_up_n _ _ (by decide), p_up_n _ _ (by decide)]) ?_
  refine px_callV0 CX12_lays [] [.int _, .int _, .int _] (vX12_laysG hn8 ho) rfl gS_65 (by decide) rfl rfl rfl (Nat.le_of_ble_eq_true rfl) (by decide) ?_
  rintro _ _ - ⟨rfl, rfl⟩
  
  refine px_aload_n (kk := 0) rfl rfl rfl ?_
  refine px_getIe (v := nI c) rfl gS_65 rfl ((slR_10 ho _ _ (by decide) (by decide)).trans (by simp only [p_up_s, p_up_n _ _ (show (1 : Nat) ≠ 6 by decide), p_up_n _ _ (show (1 : Nat) ≠ 7 by decide), p_up_n _ _ (show (1 : Nat) ≠ 10 by decide), p_up_n _ _ (show (1 : Nat) ≠ 11 by decide), p_up_n _ _ (show (6 : Nat) ≠ 1 by decide), p_up_n _ _ (show (6 : Nat) ≠ 7 by decide), p_up_n _ _ (show (6 : Nat) ≠ 10 by decide), p_up_n _ _ (show (6 : Nat) ≠ 11 by decide), p_up_n _ _ (show (7 : Nat) ≠ 1 by decide), p_up_n _ _ (show (7 : Nat) ≠ 6 by decide), p_up_n _ _ (show (7 : Nat) ≠ 10 by decide), p_up_n _ _ (show (7 : Nat) ≠ 11 by decide), p_up_n _ _ (show (10 : Nat) ≠ 1 by decide), p_up_n _ _ (show (10 : Nat) ≠ 6 by decide), p_up_n _ _ (show (10 : Nat) ≠ 7 by decide), p_up_n _ _ (show (10 : Nat) ≠ 11 by decide), p_up_n _ _ (show (11 : Nat) ≠ 1 by decide), p_up_n _ _ (show (11 : Nat) ≠ 6 by decide), p_up_n _ _ (show (11 : Nat) ≠ 7 by decide), p_up_n _ _ (show (11 : Nat) ≠ 10 by decide)])) ?_
  refine px_ireturn rfl (.inl rfl) ?_
  refine ⟨rfl, ?_⟩
  unfold rf_unM
  simp only [up2, p_up_s]
theorem vX12_redo_0 {I : Nat → Nat → Int32} {J : Nat → Nat → Int64} {p : Bool × Option Nat} {ro : List (Nat × Nat × (Nat → Int32))} (hc : I 65 11 = nI 0) : Pv 1 0 0 CX12_redo [.ref (65)] (gS, I, J, gR p, ro) (qI (-5) (gS, I, J, gR p, ro)) := by
  refine ⟨okCX12_redo, Nat.le_of_ble_eq_true rfl, (show Px _ _ _ _ 0 [some (.ref (65))] [] _ _ from ?_)⟩
  refine px_aload_n (kk := 0) rfl rfl rfl ?_
  refine px_getIe (v := nI 0) rfl gS_65 rfl hc ?_
  refine px_if_ne rfl (fun h => absurd h (by decide)) (fun _ => ?_)
  refine px_bipush (v := -5) rfl b_m5 ?_
  refine px_ireturn rfl (.inl rfl) ?_
  exact ⟨rfl, rfl⟩
def rf_reM (I : Nat → Nat → Int32) (c un k a b : Nat) (v : Int32) : Nat → Nat → Int32 := va_up (va_up I (slR k a b).1 (va_up (I (slR k a b).1) (slR k a b).2 v)) 65 (va_up (va_up ((va_up I (slR k a b).1 (va_up (I (slR k a b).1) (slR k a b).2 v)) 65) 10 (nI (c + 1))) 11 (nI un))
theorem vX12_redo_s {I : Nat → Nat → Int32} {J : Nat → Nat → Int64} {p : Bool × Option Nat} {ro : List (Nat × Nat × (Nat → Int32))} {n : Nat} (hn8 : n ≤ 8) {c un : Nat} (hc : I 65 10 = nI c) (hc40 : c < 40) (hun : I 65 11 = nI (un + 1)) (hu40 : un < 40) {k a b : Nat} (ho : okN n k a b) (hx : I 73 c = (nI (nmb k a b))) (hw : I 72 c = nI k) : Pv 1 0 0 CX12_redo [.ref (65)] (gS, I, J, gR p, ro) (qI (nI un) (gS, (rf_reM I c un k a b (I 75 c)), J, gR p, ro)) := by
  refine ⟨okCX12_redo, Nat.le_of_ble_eq_true rfl, (show Px _ _ _ _ 0 [some (.ref (65))] [] _ _ from ?_)⟩
  refine px_aload_n (kk := 0) rfl rfl rfl ?_
  refine px_getIe (v := nI (un + 1)) rfl gS_65 rfl hun ?_
  refine px_if_ne rfl (fun c2 => ?_) (fun h => absurd h (fun e => by rw [n_0, n_eq (by omega) (by omega)] at e; omega))
  refine px_aload_n (kk := 0) rfl rfl rfl ?_
  refine px_aload_n (kk := 0) rfl rfl rfl ?_
  refine px_getR (r := 72) rfl gS_65 rfl (gR_65_12 _) ?_
  refine px_aload_n (kk := 0) rfl rfl rfl ?_
  refine px_getIe (v := nI c) rfl gS_65 rfl hc ?_
  refine px_ialde (j := c) (v := nI k) rfl gS_72 rfl (by omega) hw ?_
  refine px_aload_n (kk := 0) rfl rfl rfl ?_
  refine px_getR (r := 73) rfl gS_65 rfl (gR_65_13 _) ?_
  refine px_aload_n (kk := 0) rfl rfl rfl ?_
  refine px_getIe (v := nI c) rfl gS_65 rfl hc ?_
  refine px_ialde (j := c) (v := nI (nmb k a b)) rfl gS_73 rfl (by omega) hx ?_
  refine px_aload_n (kk := 0) rfl rfl rfl ?_
  refine px_getR (r := 75) rfl gS_65 rfl (gR_65_15 _) ?_
  refine px_aload_n (kk := 0) rfl rfl rfl ?_
  refine px_getIe (v := nI c) rfl gS_65 rfl hc ?_
  refine px_ialde (j := c) (v := I 75 c) rfl gS_75 rfl (by omega) rfl ?_
  refine px_callV0 CX12_lays [] [.int _, .int _, .int _] (vX12_laysG hn8 ho) rfl gS_65 (by decide) rfl rfl rfl (Nat.le_of_ble_eq_true rfl) (by decide) ?_
  rintro _ _ - ⟨rfl, rfl⟩
  refine px_aload_n (kk := 0) rfl rfl rfl ?_
  refine px_dup rfl rfl ?_
  refine px_getIe (v := nI c) rfl gS_65 rfl ((slR_10 ho _ _ (by decide) (by decide)).trans hc) ?_
  refine px_iconst (v := nI 1) rfl k_1 ?_
  refine px_iaddN rfl ?_
  refine px_putI rfl gS_65 rfl rfl ?_
  refine px_aload_n (kk := 0) rfl rfl rfl ?_
  refine px_dup rfl rfl ?_
  refine px_getIe (v := nI (un + 1)) rfl gS_65 rfl (by rw [p_up_s, p_up_n _ _ (by decide)]; exact ((slR_10 ho _ _ (by decide) (by decide)).trans hun)) ?_
  refine px_iconst (v := nI 1) rfl k_1 ?_
  refine px_isub rfl ?_
  refine px_ieq (y := nI un) (nI_pred un) ?_
  refine px_putI rfl gS_65 rfl rfl ?_
  refine px_aload_n (kk := 0) rfl rfl rfl ?_
  refine px_getIe (v := nI un) rfl gS_65 rfl (by simp only [p_up_s, p_up_n _ _ (show (1 : Nat) ≠ 6 by decide), p_up_n _ _ (show (1 : Nat) ≠ 7 by decide), p_up_n _ _ (show (1 : Nat) ≠ 10 by decide), p_up_n _ _ (show (1 : Nat) ≠ 11 by decide), p_up_n _ _ (show (6 : Nat) ≠ 1 by decide), p_up_n _ _ (show (6 : Nat) ≠ 7 by decide), p_up_n _ _ (show (6 : Nat) ≠ 10 by decide), p_up_n _ _ (show (6 : Nat) ≠ 11 by decide), p_up_n _ _ (show (7 : Nat) ≠ 1 by decide), p_up_n _ _ (show (7 : Nat) ≠ 6 by decide), p_up_n _ _ (show (7 : Nat) ≠ 10 by decide), p_up_n _ _ (show (7 : Nat) ≠ 11 by decide), p_up_n _ _ (show (10 : Nat) ≠ 1 by decide), p_up_n _ _ (show (10 : Nat) ≠ 6 by decide), p_up_n _ _ (show (10 : Nat) ≠ 7 by decide), p_up_n _ _ (show (10 : Nat) ≠ 11 by decide), p_up_n _ _ (show (11 : Nat) ≠ 1 by decide), p_up_n _ _ (show (11 : Nat) ≠ 6 by decide), p_up_n _ _ (show (11 : Nat) ≠ 7 by decide), p_up_n _ _ (show (11 : Nat) ≠ 10 by decide)]) ?_
  refine px_ireturn rfl (.inl rfl) ?_
  refine ⟨rfl, ?_⟩
  unfold rf_reM
  simp only [up2, p_up_s]
theorem vX12_of {I : Nat → Nat → Int32} {J : Nat → Nat → Int64} {p : Bool × Option Nat} {ro : List (Nat × Nat × (Nat → Int32))} {n : Nat} (hn : I 65 1 = nI n) (hn8 : n ≤ 8) {x w : Int32} : Pv 4 0 0 CX12_of [.ref (65), .int (x), .int (w)] (gS, I, J, gR p, ro) (fun r S' => S' = (gS, I, J, gR p, ro) ∧ ∃ v, r = some (.int v) ∧ ((∃ a, a < n ∧ x = nI a ∧ w = nI 6 ∧ v = if I 70 a < 0 then -2 else I 70 a) ∨ (∃ a, a < n ∧ x = nI a ∧ w = nI 7 ∧ v = I 71 a) ∨ (∃ k a b, okN n k a b ∧ w = nI k ∧ x = nI (nmb k a b) ∧ v = I (slR k a b).1 (slR k a b).2) ∨ (¬ ((∃ a, a < n ∧ x = nI a) ∧ (w = nI 6 ∨ w = nI 7)) ∧ ¬ (∃ k, k < 6 ∧ w = nI k ∧ sp_num n k x) ∧ v = -2000000000))) := by
  refine ⟨okCX12_of, Nat.le_of_ble_eq_true rfl, (show Px _ _ _ _ 0 [some (.ref (65)), some (.int (x)), some (.int (w))] [] _ _ from ?_)⟩
  refine px_iload_n (kk := 2) rfl rfl rfl ?_
  refine px_bipush (v := nI 6) rfl b_6 ?_
  refine px_bipush (v := nI 7) rfl b_7 ?_
  refine px_callS0 CX12_in [] [.int _, .int _, .int _] (vX12_in) rfl rfl rfl (Nat.le_of_ble_eq_true rfl) (by decide) ?_
  rintro _ _ - (⟨h67, rfl, rfl⟩ | ⟨h67, rfl, rfl⟩)
  · obtain ⟨q, hq6, hq7, rfl⟩ := (in_nn (by decide) (by decide)).mp h67
    refine px_if_eq rfl (fun h => absurd h (by decide)) (fun _ => ?_)
    refine px_aload_n (kk := 0) rfl rfl rfl ?_
    refine px_iload_n (kk := 1) rfl rfl rfl ?_
    refine px_callV0 CX12_isLine [] [.int _] (vX12_isLine hn hn8) rfl gS_65 (by decide) rfl rfl rfl (Nat.le_of_ble_eq_true rfl) (by decide) ?_
    rintro _ _ - (⟨⟨a, ha, rfl⟩, rfl, rfl⟩ | ⟨ha, rfl, rfl⟩)
    · refine px_if_ne rfl (fun _ => ?_) (fun h => absurd h (by decide))
      refine px_iload_n (kk := 2) rfl rfl rfl ?_
      refine px_bipush (v := nI 7) rfl b_7 ?_
      refine px_icmp_ne rfl (fun c13 => ?_) (fun c13 => ?_)
      · refine px_aload_n (kk := 0) rfl rfl rfl ?_
        refine px_getR (r := 70) rfl gS_65 rfl (gR_65_8 _) ?_
        refine px_iload_n (kk := 1) rfl rfl rfl ?_
        refine px_iald (j := a) rfl gS_70 rfl (by omega) ?_
        refine px_if_ge rfl (fun c23 => ?_) (fun c23 => ?_)
        · refine px_aload_n (kk := 0) rfl rfl rfl ?_
          refine px_getR (r := 70) rfl gS_65 rfl (gR_65_8 _) ?_
          refine px_iload_n (kk := 1) rfl rfl rfl ?_
          refine px_iald (j := a) rfl gS_70 rfl (by omega) ?_
          refine px_ireturn rfl (.inl rfl) ?_
          exact ⟨rfl, _, rfl, .inl ⟨a, ha, rfl, by rw [ne_eq, n_eq (by omega) (by omega)] at c13; congr 1; omega, by rw [if_neg (by rw [i_lt]; rw [i_le] at c23; omega)]⟩⟩
        · refine px_bipush (v := -2) rfl b_m2 ?_
          refine px_goto rfl ?_
          refine px_ireturn rfl (.inl rfl) ?_
          exact ⟨rfl, _, rfl, .inl ⟨a, ha, rfl, by rw [ne_eq, n_eq (by omega) (by omega)] at c13; congr 1; omega, by rw [if_pos (by rw [i_lt]; rw [i_le] at c23; omega)]⟩⟩
      · refine px_aload_n (kk := 0) rfl rfl rfl ?_
        refine px_getR (r := 71) rfl gS_65 rfl (gR_65_9 _) ?_
        refine px_iload_n (kk := 1) rfl rfl rfl ?_
        refine px_iald (j := a) rfl gS_71 rfl (by omega) ?_
        refine px_goto rfl ?_
        refine px_ireturn rfl (.inl rfl) ?_
        exact ⟨rfl, _, rfl, .inr (.inl ⟨a, ha, rfl, by first | exact c13 | exact Classical.byContradiction c13, rfl⟩)⟩
    · refine px_if_ne rfl (fun h => absurd h (by decide)) (fun _ => ?_)
      refine px_ldc (v := -2000000000) rfl (by decide) ?_
      refine px_goto rfl ?_
      refine px_ireturn rfl (.inl rfl) ?_
      exact ⟨rfl, _, rfl, .inr (.inr (.inr ⟨fun h => ha h.1, fun ⟨k, hk, e, _⟩ => by rw [n_eq (by omega) (by omega)] at e; omega, rfl⟩))⟩
  · refine px_if_eq rfl (fun _ => ?_) (fun h => absurd h (by decide))
    refine px_aload_n (kk := 0) rfl rfl rfl ?_
    refine px_iload_n (kk := 1) rfl rfl rfl ?_
    refine px_iload_n (kk := 2) rfl rfl rfl ?_
    refine px_callV0 CX12_isOne [] [.int _, .int _] (vX12_isOne hn hn8) rfl gS_65 (by decide) rfl rfl rfl (Nat.le_of_ble_eq_true rfl) (by decide) ?_
    rintro _ _ - (⟨⟨k, hk, rfl, hnum⟩, rfl, rfl⟩ | ⟨hno, rfl, rfl⟩)
    · obtain ⟨a, b, ho, rfl⟩ := sp_num_ok hk hnum
      refine px_if_eq rfl (fun h => absurd h (by decide)) (fun _ => ?_)
      refine px_aload_n (kk := 0) rfl rfl rfl ?_
      refine px_iload_n (kk := 2) rfl rfl rfl ?_
      refine px_iload_n (kk := 1) rfl rfl rfl ?_
      refine px_callV0 CX12_valueAt [] [.int _, .int _] (vX12_valueG hn8 ho) rfl gS_65 (by decide) rfl rfl rfl (Nat.le_of_ble_eq_true rfl) (by decide) ?_
      rintro _ _ - ⟨rfl, rfl⟩
      refine px_goto rfl ?_
      refine px_ireturn rfl (.inl rfl) ?_
      exact ⟨rfl, _, rfl, .inr (.inr (.inl ⟨k, a, b, ho, rfl, rfl, rfl⟩))⟩
    · refine px_if_eq rfl (fun _ => ?_) (fun h => absurd h (by decide))
      refine px_ldc (v := -2000000000) rfl (by decide) ?_
      refine px_ireturn rfl (.inl rfl) ?_
      exact ⟨rfl, _, rfl, .inr (.inr (.inr ⟨fun h => h67 ((in_nn (by decide) (by decide)).mpr (h.2.elim (fun e => ⟨6, by decide, by decide, e⟩) (fun e => ⟨7, by decide, by decide, e⟩))), hno, rfl⟩))⟩
