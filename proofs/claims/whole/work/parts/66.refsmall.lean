/-! the reference: small things -/
theorem vX12_areHours {I : Nat → Nat → Int32} {J : Nat → Nat → Int64} {p : Bool × Option Nat} {ro : List (Nat × Nat × (Nat → Int32))} {x : Int32} : Pv 1 0 0 CX12_areHours [.int (x)] (gS, I, J, gR p, ro) (qB (∃ N, N ≤ 60 ∧ x = nI N) (gS, I, J, gR p, ro)) := by
  refine ⟨okCX12_areHours, Nat.le_of_ble_eq_true rfl, (show Px _ _ _ _ 0 [some (.int (x))] [] _ _ from ?_)⟩
  refine px_iload_n (kk := 0) rfl rfl rfl ?_
  refine px_iconst (v := nI 0) rfl k_0 ?_
  refine px_bipush (v := nI 60) rfl b_60 ?_
  refine px_callS0 CX12_in [] [.int _, .int _, .int _] (vX12_in) rfl rfl rfl (Nat.le_of_ble_eq_true rfl) (by decide) ?_
  rintro _ _ - (⟨h, rfl, rfl⟩ | ⟨h, rfl, rfl⟩)
  · refine px_ireturn rfl (.inr ⟨rfl, by decide⟩) ?_
    obtain ⟨a, _, h2, e⟩ := (in_nn (by decide) (by decide)).mp h
    exact qB_t ⟨a, h2, e⟩
  · refine px_ireturn rfl (.inr ⟨rfl, by decide⟩) ?_
    exact qB_f (fun ⟨a, h2, e⟩ => h ((in_nn (by decide) (by decide)).mpr ⟨a, Nat.zero_le _, h2, e⟩))
theorem vX12_isShelf {I : Nat → Nat → Int32} {J : Nat → Nat → Int64} {p : Bool × Option Nat} {ro : List (Nat × Nat × (Nat → Int32))} {x : Int32} : Pv 1 0 0 CX12_isShelf [.int (x)] (gS, I, J, gR p, ro) (qB (∃ s, s < 6 ∧ x = nI s) (gS, I, J, gR p, ro)) := by
  refine ⟨okCX12_isShelf, Nat.le_of_ble_eq_true rfl, (show Px _ _ _ _ 0 [some (.int (x))] [] _ _ from ?_)⟩
  refine px_iload_n (kk := 0) rfl rfl rfl ?_
  refine px_iconst (v := nI 0) rfl k_0 ?_
  refine px_iconst (v := nI 5) rfl k_5 ?_
  refine px_callS0 CX12_in [] [.int _, .int _, .int _] (vX12_in) rfl rfl rfl (Nat.le_of_ble_eq_true rfl) (by decide) ?_
  rintro _ _ - (⟨h, rfl, rfl⟩ | ⟨h, rfl, rfl⟩)
  · refine px_ireturn rfl (.inr ⟨rfl, by decide⟩) ?_
    obtain ⟨a, _, h2, e⟩ := (in_nn (by decide) (by decide)).mp h
    exact qB_t ⟨a, by omega, e⟩
  · refine px_ireturn rfl (.inr ⟨rfl, by decide⟩) ?_
    exact qB_f (fun ⟨a, h2, e⟩ => h ((in_nn (by decide) (by decide)).mpr ⟨a, Nat.zero_le _, by omega, e⟩))
theorem in_lt2 {n : Nat} (hn : n ≤ 50) {x : Int32} : (nI 0 ≤ x ∧ x ≤ nI n - nI 1) ↔ ∃ a, a < n ∧ x = nI a := by
  rcases Nat.eq_zero_or_pos n with rfl | h
  · constructor
    · rintro ⟨h1, h2⟩
      rw [i_le, nI_toInt (by decide)] at h1
      rw [i_le, show (nI 0 - nI 1).toInt = -1 from by decide +kernel] at h2
      omega
    · rintro ⟨a, ha, _⟩; omega
  · rw [n_sub (by omega), in_nn (by decide) (by omega)]
    constructor
    · rintro ⟨a, _, h2, e⟩; exact ⟨a, by omega, e⟩
    · rintro ⟨a, h2, e⟩; exact ⟨a, Nat.zero_le _, by omega, e⟩
theorem vX12_isBody {I : Nat → Nat → Int32} {J : Nat → Nat → Int64} {p : Bool × Option Nat} {ro : List (Nat × Nat × (Nat → Int32))} {z : Nat} (hz : I 65 55 = nI z) (hz50 : z ≤ 50) {x : Int32} : Pv 1 0 0 CX12_isBody [.ref (65), .int (x)] (gS, I, J, gR p, ro) (qB (∃ b, b < z ∧ x = nI b) (gS, I, J, gR p, ro)) := by
  refine ⟨okCX12_isBody, Nat.le_of_ble_eq_true rfl, (show Px _ _ _ _ 0 [some (.ref (65)), some (.int (x))] [] _ _ from ?_)⟩
  refine px_iload_n (kk := 1) rfl rfl rfl ?_
  refine px_iconst (v := nI 0) rfl k_0 ?_
  refine px_aload_n (kk := 0) rfl rfl rfl ?_
  refine px_getIe (v := nI z) rfl gS_65 rfl hz ?_
  refine px_iconst (v := nI 1) rfl k_1 ?_
  refine px_isub rfl ?_
  refine px_callS0 CX12_in [] [.int _, .int _, .int _] (vX12_in) rfl rfl rfl (Nat.le_of_ble_eq_true rfl) (by decide) ?_
  rintro _ _ - (⟨h, rfl, rfl⟩ | ⟨h, rfl, rfl⟩)
  · refine px_ireturn rfl (.inr ⟨rfl, by decide⟩) ?_
    exact qB_t ((in_lt2 hz50).mp h)
  · refine px_ireturn rfl (.inr ⟨rfl, by decide⟩) ?_
    exact qB_f (fun w => h ((in_lt2 hz50).mpr w))
theorem lX12_pairsIn {I : Nat → Nat → Int32} {J : Nat → Nat → Int64} {p : Bool × Option Nat} {ro : List (Nat × Nat × (Nat → Int32))} {n : Nat} (hn : I 65 1 = nI n) (hn8 : n ≤ 8) {k : Nat} (hk : k ≤ n) : Px 0 0 0 CX12_pairsIn 4 [some (.ref (65)), some (.int ((nI (sp_cn (I 70) k)))), some (.int (nI k))] [] (gS, I, J, gR p, ro) (qI (nI (sp_cn (I 70) n)) (gS, I, J, gR p, ro)) := by
  refine px_iload_n (kk := 2) rfl rfl rfl ?_
  refine px_aload_n (kk := 0) rfl rfl rfl ?_
  refine px_getIe (v := nI n) rfl gS_65 rfl hn ?_
  refine px_icmp_ge rfl (fun c7 => ?_) (fun c7 => ?_)
  · refine px_iload_n (kk := 1) rfl rfl rfl ?_
    refine px_ireturn rfl (.inl rfl) ?_
    rw [n_le (by omega) (by omega)] at c7
    obtain rfl : k = n := by omega
    exact ⟨rfl, rfl⟩
  · rw [n_le (by omega) (by omega)] at c7
    refine px_aload_n (kk := 0) rfl rfl rfl ?_
    refine px_getR (r := 70) rfl gS_65 rfl (gR_65_8 _) ?_
    refine px_iload_n (kk := 2) rfl rfl rfl ?_
    refine px_iald (j := k) rfl gS_70 rfl (by omega) ?_
    refine px_iload_n (kk := 2) rfl rfl rfl ?_
    refine px_icmp_le rfl (fun c13 => ?_) (fun c13 => ?_)
    · refine px_iinc2 (v := nI (k + 1)) rfl (n_inc k) rfl (by decide) ?_
      refine px_goto rfl ?_
      rw [show (sp_cn (I 70) k) = (sp_cn (I 70) (k + 1)) from by simp only [sp_cn]; rw [if_neg (by rw [i_lt]; rw [i_le] at c13; omega)]; rfl]
      exact lX12_pairsIn hn hn8 (k := k + 1) (by omega)
    · refine px_iinc1 rfl rfl rfl (by decide) ?_
      refine px_iinc2 (v := nI (k + 1)) rfl (n_inc k) rfl (by decide) ?_
      refine px_goto rfl ?_
      refine px_l1 (y := nI (sp_cn (I 70) (k + 1))) ?_ (lX12_pairsIn hn hn8 (k := k + 1) (by omega))
      simp only [sp_cn]
      rw [if_pos (by rw [i_lt]; rw [i_le] at c13; omega)]
      try exact n_inc _
termination_by n - k
decreasing_by all_goals (have h := ‹¬ nI n ≤ nI k›; rw [n_le (by omega) (by omega)] at h; omega)
theorem vX12_pairsIn {I : Nat → Nat → Int32} {J : Nat → Nat → Int64} {p : Bool × Option Nat} {ro : List (Nat × Nat × (Nat → Int32))} {n : Nat} (hn : I 65 1 = nI n) (hn8 : n ≤ 8) : Pv 0 0 0 CX12_pairsIn [.ref (65)] (gS, I, J, gR p, ro) (qI (nI (sp_cn (I 70) n)) (gS, I, J, gR p, ro)) := by
  refine ⟨okCX12_pairsIn, Nat.le_of_ble_eq_true rfl, (show Px _ _ _ _ 0 [some (.ref (65)), none, none] [] _ _ from ?_)⟩
  refine px_iconst (v := nI 0) rfl k_0 ?_
  refine px_ist1 rfl rfl (by decide) ?_
  refine px_iconst (v := nI 0) rfl k_0 ?_
  refine px_ist2 rfl rfl (by decide) ?_
  exact lX12_pairsIn hn hn8 (k := 0) (by omega)
theorem vX12_count_0 {I : Nat → Nat → Int32} {J : Nat → Nat → Int64} {p : Bool × Option Nat} {ro : List (Nat × Nat × (Nat → Int32))}  : Pv 1 0 0 CX12_count [.ref (65), .int (nI 0)] (gS, I, J, gR p, ro) (qI (I 65 1) (gS, I, J, gR p, ro)) := by
  refine ⟨okCX12_count, Nat.le_of_ble_eq_true rfl, (show Px _ _ _ _ 0 [some (.ref (65)), some (.int (nI 0))] [] _ _ from ?_)⟩
  refine px_iload_n (kk := 1) rfl rfl rfl ?_
  refine px_tableIn rfl 0 (by decide) (by decide) rfl ?_
  refine px_aload_n (kk := 0) rfl rfl rfl ?_
  refine px_getI rfl gS_65 rfl ?_
  refine px_ireturn rfl (.inl rfl) ?_
  exact ⟨rfl, rfl⟩
theorem vX12_count_1 {I : Nat → Nat → Int32} {J : Nat → Nat → Int64} {p : Bool × Option Nat} {ro : List (Nat × Nat × (Nat → Int32))} {n : Nat} (hn : I 65 1 = nI n) (hn8 : n ≤ 8) : Pv 1 0 0 CX12_count [.ref (65), .int (nI 1)] (gS, I, J, gR p, ro) (qI (nI (sp_cn (I 70) n)) (gS, I, J, gR p, ro)) := by
  refine ⟨okCX12_count, Nat.le_of_ble_eq_true rfl, (show Px _ _ _ _ 0 [some (.ref (65)), some (.int (nI 1))] [] _ _ from ?_)⟩
  refine px_iload_n (kk := 1) rfl rfl rfl ?_
  refine px_tableIn rfl 1 (by decide) (by decide) rfl ?_
  refine px_aload_n (kk := 0) rfl rfl rfl ?_
  refine px_callV0 CX12_pairsIn [] [] (vX12_pairsIn hn hn8) rfl gS_65 (by decide) rfl rfl rfl (Nat.le_of_ble_eq_true rfl) (by decide) ?_
  rintro _ _ - ⟨rfl, rfl⟩
  refine px_ireturn rfl (.inl rfl) ?_
  exact ⟨rfl, rfl⟩
theorem vX12_count_2 {I : Nat → Nat → Int32} {J : Nat → Nat → Int64} {p : Bool × Option Nat} {ro : List (Nat × Nat × (Nat → Int32))}  : Pv 1 0 0 CX12_count [.ref (65), .int (nI 2)] (gS, I, J, gR p, ro) (qI (I 65 17) (gS, I, J, gR p, ro)) := by
  refine ⟨okCX12_count, Nat.le_of_ble_eq_true rfl, (show Px _ _ _ _ 0 [some (.ref (65)), some (.int (nI 2))] [] _ _ from ?_)⟩
  refine px_iload_n (kk := 1) rfl rfl rfl ?_
  refine px_tableIn rfl 2 (by decide) (by decide) rfl ?_
  refine px_aload_n (kk := 0) rfl rfl rfl ?_
  refine px_getI rfl gS_65 rfl ?_
  refine px_ireturn rfl (.inl rfl) ?_
  exact ⟨rfl, rfl⟩
theorem vX12_count_3 {I : Nat → Nat → Int32} {J : Nat → Nat → Int64} {p : Bool × Option Nat} {ro : List (Nat × Nat × (Nat → Int32))}  : Pv 1 0 0 CX12_count [.ref (65), .int (nI 3)] (gS, I, J, gR p, ro) (qI (I 65 10) (gS, I, J, gR p, ro)) := by
  refine ⟨okCX12_count, Nat.le_of_ble_eq_true rfl, (show Px _ _ _ _ 0 [some (.ref (65)), some (.int (nI 3))] [] _ _ from ?_)⟩
  refine px_iload_n (kk := 1) rfl rfl rfl ?_
  refine px_tableIn rfl 3 (by decide) (by decide) rfl ?_
  refine px_aload_n (kk := 0) rfl rfl rfl ?_
  refine px_getI rfl gS_65 rfl ?_
  refine px_ireturn rfl (.inl rfl) ?_
  exact ⟨rfl, rfl⟩
theorem vX12_count_4 {I : Nat → Nat → Int32} {J : Nat → Nat → Int64} {p : Bool × Option Nat} {ro : List (Nat × Nat × (Nat → Int32))}  : Pv 1 0 0 CX12_count [.ref (65), .int (nI 4)] (gS, I, J, gR p, ro) (qI (I 65 55) (gS, I, J, gR p, ro)) := by
  refine ⟨okCX12_count, Nat.le_of_ble_eq_true rfl, (show Px _ _ _ _ 0 [some (.ref (65)), some (.int (nI 4))] [] _ _ from ?_)⟩
  refine px_iload_n (kk := 1) rfl rfl rfl ?_
  refine px_tableIn rfl 4 (by decide) (by decide) rfl ?_
  refine px_aload_n (kk := 0) rfl rfl rfl ?_
  refine px_getI rfl gS_65 rfl ?_
  refine px_ireturn rfl (.inl rfl) ?_
  exact ⟨rfl, rfl⟩
theorem vX12_count_5 {I : Nat → Nat → Int32} {J : Nat → Nat → Int64} {p : Bool × Option Nat} {ro : List (Nat × Nat × (Nat → Int32))}  : Pv 1 0 0 CX12_count [.ref (65), .int (nI 5)] (gS, I, J, gR p, ro) (qI (I 65 57) (gS, I, J, gR p, ro)) := by
  refine ⟨okCX12_count, Nat.le_of_ble_eq_true rfl, (show Px _ _ _ _ 0 [some (.ref (65)), some (.int (nI 5))] [] _ _ from ?_)⟩
  refine px_iload_n (kk := 1) rfl rfl rfl ?_
  refine px_tableIn rfl 5 (by decide) (by decide) rfl ?_
  refine px_aload_n (kk := 0) rfl rfl rfl ?_
  refine px_getI rfl gS_65 rfl ?_
  refine px_ireturn rfl (.inl rfl) ?_
  exact ⟨rfl, rfl⟩
theorem vX12_count_o {I : Nat → Nat → Int32} {J : Nat → Nat → Int64} {p : Bool × Option Nat} {ro : List (Nat × Nat × (Nat → Int32))} {w : Int32} (hw : w.toInt < 0 ∨ 5 < w.toInt) : Pv 1 0 0 CX12_count [.ref (65), .int w] (gS, I, J, gR p, ro) (qI (-1) (gS, I, J, gR p, ro)) := by
  refine ⟨okCX12_count, Nat.le_of_ble_eq_true rfl, (show Px _ _ _ _ 0 [some (.ref (65)), some (.int w)] [] _ _ from ?_)⟩
  refine px_iload_n (kk := 1) rfl rfl rfl ?_
  refine px_tableOut rfl hw ?_
  refine px_iconst (v := -1) rfl k_m1 ?_
  refine px_ireturn rfl (.inl rfl) ?_
  exact ⟨rfl, rfl⟩
theorem vX12_trace {I : Nat → Nat → Int32} {J : Nat → Nat → Int64} {p : Bool × Option Nat} {ro : List (Nat × Nat × (Nat → Int32))} {q : Nat} (hr : I 65 57 = nI q) (hr2 : q < 2 ^ 31) {x : Int32} : Pv 0 0 0 CX12_trace [.ref (65), .int (x)] (gS, I, J, gR p, ro) (fun r S' => S' = (gS, I, J, gR p, ro) ∧ ((∃ k, k < q ∧ k < 24 ∧ x = nI k ∧ r = some (.int (I 97 k))) ∨ (¬ (∃ k, k < q ∧ k < 24 ∧ x = nI k) ∧ r = some (.int (-1))))) := by
  refine ⟨okCX12_trace, Nat.le_of_ble_eq_true rfl, (show Px _ _ _ _ 0 [some (.ref (65)), some (.int (x))] [] _ _ from ?_)⟩
  refine px_iload_n (kk := 1) rfl rfl rfl ?_
  refine px_if_lt rfl (fun c1 => ?_) (fun c1 => ?_)
  · refine px_iconst (v := -1) rfl k_m1 ?_
    refine px_ireturn rfl (.inl rfl) ?_
    exact ⟨rfl, .inr ⟨fun ⟨k, _, hk, e⟩ => n_nneg (by omega) (e ▸ c1), rfl⟩⟩
  · obtain ⟨k, hk, rfl⟩ := n_ofn c1
    refine px_iload_n (kk := 1) rfl rfl rfl ?_
    refine px_aload_n (kk := 0) rfl rfl rfl ?_
    refine px_getIe (v := nI q) rfl gS_65 rfl hr ?_
    refine px_icmp_ge rfl (fun c5 => ?_) (fun c5 => ?_)
    · refine px_iconst (v := -1) rfl k_m1 ?_
      refine px_ireturn rfl (.inl rfl) ?_
      exact ⟨rfl, .inr ⟨fun ⟨k2, h1, h2, e⟩ => by rw [n_eq hk (by omega)] at e; subst e; rw [n_le hr2 hk] at c5; omega, rfl⟩⟩
    · refine px_iload_n (kk := 1) rfl rfl rfl ?_
      refine px_bipush (v := nI 24) rfl b_24 ?_
      refine px_icmp_ge rfl (fun c8 => ?_) (fun c8 => ?_)
      · refine px_iconst (v := -1) rfl k_m1 ?_
        refine px_ireturn rfl (.inl rfl) ?_
        exact ⟨rfl, .inr ⟨fun ⟨k2, h1, h2, e⟩ => by rw [n_eq hk (by omega)] at e; subst e; rw [n_le (by omega) hk] at c8; omega, rfl⟩⟩
      · rw [n_le hr2 hk] at c5
        rw [n_le (by omega) hk] at c8
        refine px_aload_n (kk := 0) rfl rfl rfl ?_
        refine px_getR (r := 97) rfl gS_65 rfl (gR_65_58 _) ?_
        refine px_iload_n (kk := 1) rfl rfl rfl ?_
        refine px_iald (j := k) rfl gS_97 rfl (by omega) ?_
        refine px_goto rfl ?_
        refine px_ireturn rfl (.inl rfl) ?_
        exact ⟨rfl, .inl ⟨k, by omega, by omega, rfl, rfl⟩⟩
theorem vX12_body {I : Nat → Nat → Int32} {J : Nat → Nat → Int64} {p : Bool × Option Nat} {ro : List (Nat × Nat × (Nat → Int32))} {z : Nat} (hz : I 65 55 = nI z) (hz50 : z ≤ 50) {x : Int32} : Pv 1 0 0 CX12_body [.ref (65), .int (x)] (gS, I, J, gR p, ro) (fun r S' => (¬ (∃ k, k < 8 ∧ x = nI k) ∧ r = some (.int (-1)) ∧ S' = (gS, I, J, gR p, ro)) ∨ (∃ k, k < 8 ∧ x = nI k ∧ ((z < 50 ∧ r = some (.int (nI z)) ∧ S' = (gS, (va_up (va_up I 96 (va_up (I 96) z x)) 65 (va_up (I 65) 55 (nI (z + 1)))), J, gR p, ro)) ∨ (z = 50 ∧ r = some (.int (-3)) ∧ S' = (gS, I, J, gR p, ro))))) := by
  refine ⟨okCX12_body, Nat.le_of_ble_eq_true rfl, (show Px _ _ _ _ 0 [some (.ref (65)), some (.int (x))] [] _ _ from ?_)⟩
  refine px_iload_n (kk := 1) rfl rfl rfl ?_
  refine px_iconst (v := nI 0) rfl k_0 ?_
  refine px_bipush (v := nI 7) rfl b_7 ?_
  refine px_callS0 CX12_in [] [.int _, .int _, .int _] (vX12_in) rfl rfl rfl (Nat.le_of_ble_eq_true rfl) (by decide) ?_
  rintro _ _ - (⟨h, rfl, rfl⟩ | ⟨h, rfl, rfl⟩)
  · obtain ⟨k, _, hk, rfl⟩ := (in_nn (by decide) (by decide)).mp h
    refine px_if_ne rfl (fun _ => ?_) (fun h => absurd h (by decide))
    refine px_aload_n (kk := 0) rfl rfl rfl ?_
    refine px_getIe (v := nI z) rfl gS_65 rfl hz ?_
    refine px_bipush (v := nI 50) rfl b_50 ?_
    refine px_icmp_ne rfl (fun c10 => ?_) (fun c10 => ?_)
    · refine px_aload_n (kk := 0) rfl rfl rfl ?_
      have hz5 : z < 50 := by rw [ne_eq, n_eq (by omega) (by omega)] at c10; omega
      refine px_getR (r := 96) rfl gS_65 rfl (gR_65_56 _) ?_
      refine px_aload_n (kk := 0) rfl rfl rfl ?_
      refine px_getIe (v := nI z) rfl gS_65 rfl hz ?_
      refine px_iload_n (kk := 1) rfl rfl rfl ?_
      refine px_iast (j := z) rfl gS_96 rfl hz5 ?_
      refine px_aload_n (kk := 0) rfl rfl rfl ?_
      refine px_dup rfl rfl ?_
      refine px_getIe (v := nI z) rfl gS_65 rfl ((congrFun (p_up_n _ _ (by decide)) 55).trans hz) ?_
      refine px_iconst (v := nI 1) rfl k_1 ?_
      refine px_iaddN rfl ?_
      refine px_putI rfl gS_65 rfl rfl ?_
      refine px_aload_n (kk := 0) rfl rfl rfl ?_
      refine px_getIe (v := nI (z + 1)) rfl gS_65 rfl (by rw [p_up_s, p_up_s]) ?_
      refine px_iconst (v := nI 1) rfl k_1 ?_
      refine px_isub rfl ?_
      refine px_ieq (nI_pred z) ?_
      refine px_ireturn rfl (.inl rfl) ?_
      exact .inr ⟨k, by omega, rfl, .inl ⟨hz5, rfl, by rw [p_up_n _ _ (show (65 : Nat) ≠ 96 by decide)]⟩⟩
    · refine px_bipush (v := -3) rfl b_m3 ?_
      refine px_ireturn rfl (.inl rfl) ?_
      exact .inr ⟨k, by omega, rfl, .inr ⟨by rw [n_eq (by omega) (by omega)] at c10; exact c10, rfl, rfl⟩⟩
  · refine px_if_ne rfl (fun h => absurd h (by decide)) (fun _ => ?_)
    refine px_iconst (v := -1) rfl k_m1 ?_
    refine px_ireturn rfl (.inl rfl) ?_
    exact .inl ⟨fun ⟨k, hk, e⟩ => h ((in_nn (by decide) (by decide)).mpr ⟨k, Nat.zero_le _, by omega, e⟩), rfl, rfl⟩
