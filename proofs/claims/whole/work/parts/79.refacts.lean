/-! the reference: acts -/
def BRr (I : Nat → Nat → Int32) (t : TS) (I1 : Nat → Nat → Int32) : Prop := Fr [65, 97] I I1 ∧ (∀ k, k ≠ 57 → I1 65 k = I 65 k) ∧ I1 65 57 = nI t.2 ∧ I1 97 = t.1
theorem vX12_ran {I : Nat → Nat → Int32} {J : Nat → Nat → Int64} {p : Bool × Option Nat} {ro : List (Nat × Nat × (Nat → Int32))} {t : TS} {I1 : Nat → Nat → Int32} (hB : BRr I t I1) (ht : t.2 < 2 ^ 20) {v : Nat} : Pv 0 0 0 CX12_ran [.ref (65), .int (nI v)] (gS, I1, J, gR p, ro) (fun r S' => r = none ∧ ∃ I' t', S' = (gS, I', J, gR p, ro) ∧ BRr I t' I' ∧ t' = sp_nts t [v]) := by
  refine ⟨okCX12_ran, Nat.le_of_ble_eq_true rfl, (show Px _ _ _ _ 0 [some (.ref (65)), some (.int (nI v))] [] _ _ from ?_)⟩
  refine px_aload_n (kk := 0) rfl rfl rfl ?_
  refine px_getIe (v := nI t.2) rfl gS_65 rfl hB.2.2.1 ?_
  refine px_bipush (v := nI 24) rfl b_24 ?_
  refine px_icmp_ge rfl (fun c3 => ?_) (fun c3 => ?_)
  · refine px_aload_n (kk := 0) rfl rfl rfl ?_
    refine px_dup rfl rfl ?_
    refine px_getIe (v := nI t.2) rfl gS_65 rfl (by first | exact hB.2.2.1 | exact ((congrFun (p_up_n _ _ (by decide)) 57).trans hB.2.2.1)) ?_
    refine px_iconst (v := nI 1) rfl k_1 ?_
    refine px_iaddN rfl ?_
    refine px_putI rfl gS_65 rfl rfl ?_
    refine px_return rfl rfl ?_
    rw [n_le (by omega) (by omega)] at c3
    refine ⟨rfl, _, sp_nt t v, rfl, ⟨Fr_up hB.1 (by decide) _, fun k hk => by rw [p_up_s, p_up_n _ _ hk]; exact hB.2.1 k hk, by rw [p_up_s, p_up_s]; rfl, ?_⟩, rfl⟩
    rw [p_up_n _ _ (by decide), sp_nt, if_neg (by omega)]
    exact hB.2.2.2
  · refine px_aload_n (kk := 0) rfl rfl rfl ?_
    refine px_getR (r := 97) rfl gS_65 rfl (gR_65_58 _) ?_
    refine px_aload_n (kk := 0) rfl rfl rfl ?_
    refine px_getIe (v := nI t.2) rfl gS_65 rfl hB.2.2.1 ?_
    refine px_iload_n (kk := 1) rfl rfl rfl ?_
    refine px_iast (j := t.2) rfl gS_97 rfl (by rw [n_le (by omega) (by omega)] at c3; omega) ?_
    refine px_aload_n (kk := 0) rfl rfl rfl ?_
    refine px_dup rfl rfl ?_
    refine px_getIe (v := nI t.2) rfl gS_65 rfl (by first | exact hB.2.2.1 | exact ((congrFun (p_up_n _ _ (by decide)) 57).trans hB.2.2.1)) ?_
    refine px_iconst (v := nI 1) rfl k_1 ?_
    refine px_iaddN rfl ?_
    refine px_putI rfl gS_65 rfl rfl ?_
    refine px_return rfl rfl ?_
    rw [n_le (by omega) (by omega)] at c3
    refine ⟨rfl, _, sp_nt t v, rfl, ⟨Fr_up (Fr_up hB.1 (by decide) _) (by decide) _, fun k hk => by rw [p_up_s, p_up_n _ _ hk, p_up_n _ _ (by decide)]; exact hB.2.1 k hk, by rw [p_up_s, p_up_s]; rfl, ?_⟩, rfl⟩
    rw [p_up_n _ _ (by decide), p_up_s, sp_nt, if_pos (by omega), hB.2.2.2]
theorem vX12_unc_0_1 {I : Nat → Nat → Int32} {J : Nat → Nat → Int64} {p : Bool × Option Nat} {ro : List (Nat × Nat × (Nat → Int32))}  : Pv 0 0 0 CX12_isUnder [.int (nI 0), .int (nI 1)] (gS, I, J, gR p, ro) (qI (nI 0) (gS, I, J, gR p, ro)) := by
  refine ⟨okCX12_isUnder, Nat.le_of_ble_eq_true rfl, (show Px _ _ _ _ 0 [some (.int (nI 0)), some (.int (nI 1))] [] _ _ from ?_)⟩
  refine px_iload_n (kk := 1) rfl rfl rfl ?_
  refine px_if_eq rfl (fun h => absurd h (by decide)) (fun _ => ?_)
  refine px_iload_n (kk := 0) rfl rfl rfl ?_
  refine px_iload_n (kk := 1) rfl rfl rfl ?_
  refine px_icmp_eq rfl (fun h => absurd h (by decide)) (fun _ => ?_)
  refine px_iload_n (kk := 1) rfl rfl rfl ?_
  refine px_iconst (v := nI 1) rfl k_1 ?_
  refine px_icmp_ne rfl (fun h => absurd h (by decide)) (fun _ => ?_)
  refine px_iload_n (kk := 0) rfl rfl rfl ?_
  refine px_iconst (v := nI 4) rfl k_4 ?_
  refine px_icmp_eq rfl (fun h => absurd h (by decide)) (fun _ => ?_)
  refine px_iload_n (kk := 1) rfl rfl rfl ?_
  refine px_iconst (v := nI 2) rfl k_2 ?_
  refine px_icmp_ne rfl (fun _ => ?_) (fun h => absurd h (by decide))
  refine px_iload_n (kk := 1) rfl rfl rfl ?_
  refine px_iconst (v := nI 3) rfl k_3 ?_
  refine px_icmp_ne rfl (fun _ => ?_) (fun h => absurd h (by decide))
  refine px_iload_n (kk := 1) rfl rfl rfl ?_
  refine px_bipush (v := nI 6) rfl b_6 ?_
  refine px_icmp_ne rfl (fun _ => ?_) (fun h => absurd h (by decide))
  refine px_iconst (v := nI 0) rfl k_0 ?_
  refine px_ireturn rfl (.inr ⟨rfl, by decide⟩) ?_
  exact ⟨rfl, rfl⟩
theorem vX12_unc_0_3 {I : Nat → Nat → Int32} {J : Nat → Nat → Int64} {p : Bool × Option Nat} {ro : List (Nat × Nat × (Nat → Int32))}  : Pv 0 0 0 CX12_isUnder [.int (nI 0), .int (nI 3)] (gS, I, J, gR p, ro) (qI (nI 0) (gS, I, J, gR p, ro)) := by
  refine ⟨okCX12_isUnder, Nat.le_of_ble_eq_true rfl, (show Px _ _ _ _ 0 [some (.int (nI 0)), some (.int (nI 3))] [] _ _ from ?_)⟩
  refine px_iload_n (kk := 1) rfl rfl rfl ?_
  refine px_if_eq rfl (fun h => absurd h (by decide)) (fun _ => ?_)
  refine px_iload_n (kk := 0) rfl rfl rfl ?_
  refine px_iload_n (kk := 1) rfl rfl rfl ?_
  refine px_icmp_eq rfl (fun h => absurd h (by decide)) (fun _ => ?_)
  refine px_iload_n (kk := 1) rfl rfl rfl ?_
  refine px_iconst (v := nI 1) rfl k_1 ?_
  refine px_icmp_ne rfl (fun _ => ?_) (fun h => absurd h (by decide))
  refine px_iload_n (kk := 1) rfl rfl rfl ?_
  refine px_iconst (v := nI 2) rfl k_2 ?_
  refine px_icmp_ne rfl (fun _ => ?_) (fun h => absurd h (by decide))
  refine px_iload_n (kk := 1) rfl rfl rfl ?_
  refine px_iconst (v := nI 3) rfl k_3 ?_
  refine px_icmp_ne rfl (fun h => absurd h (by decide)) (fun _ => ?_)
  refine px_iload_n (kk := 0) rfl rfl rfl ?_
  refine px_iconst (v := nI 5) rfl k_5 ?_
  refine px_icmp_eq rfl (fun h => absurd h (by decide)) (fun _ => ?_)
  refine px_iload_n (kk := 1) rfl rfl rfl ?_
  refine px_bipush (v := nI 6) rfl b_6 ?_
  refine px_icmp_ne rfl (fun _ => ?_) (fun h => absurd h (by decide))
  refine px_iconst (v := nI 0) rfl k_0 ?_
  refine px_ireturn rfl (.inr ⟨rfl, by decide⟩) ?_
  exact ⟨rfl, rfl⟩
theorem vX12_unc_1_1 {I : Nat → Nat → Int32} {J : Nat → Nat → Int64} {p : Bool × Option Nat} {ro : List (Nat × Nat × (Nat → Int32))}  : Pv 0 0 0 CX12_isUnder [.int (nI 1), .int (nI 1)] (gS, I, J, gR p, ro) (qI (nI 1) (gS, I, J, gR p, ro)) := by
  refine ⟨okCX12_isUnder, Nat.le_of_ble_eq_true rfl, (show Px _ _ _ _ 0 [some (.int (nI 1)), some (.int (nI 1))] [] _ _ from ?_)⟩
  refine px_iload_n (kk := 1) rfl rfl rfl ?_
  refine px_if_eq rfl (fun h => absurd h (by decide)) (fun _ => ?_)
  refine px_iload_n (kk := 0) rfl rfl rfl ?_
  refine px_iload_n (kk := 1) rfl rfl rfl ?_
  refine px_icmp_eq rfl (fun _ => ?_) (fun h => absurd h (by decide))
  refine px_iconst (v := nI 1) rfl k_1 ?_
  refine px_goto rfl ?_
  refine px_ireturn rfl (.inr ⟨rfl, by decide⟩) ?_
  exact ⟨rfl, rfl⟩
theorem vX12_unc_1_3 {I : Nat → Nat → Int32} {J : Nat → Nat → Int64} {p : Bool × Option Nat} {ro : List (Nat × Nat × (Nat → Int32))}  : Pv 0 0 0 CX12_isUnder [.int (nI 1), .int (nI 3)] (gS, I, J, gR p, ro) (qI (nI 0) (gS, I, J, gR p, ro)) := by
  refine ⟨okCX12_isUnder, Nat.le_of_ble_eq_true rfl, (show Px _ _ _ _ 0 [some (.int (nI 1)), some (.int (nI 3))] [] _ _ from ?_)⟩
  refine px_iload_n (kk := 1) rfl rfl rfl ?_
  refine px_if_eq rfl (fun h => absurd h (by decide)) (fun _ => ?_)
  refine px_iload_n (kk := 0) rfl rfl rfl ?_
  refine px_iload_n (kk := 1) rfl rfl rfl ?_
  refine px_icmp_eq rfl (fun h => absurd h (by decide)) (fun _ => ?_)
  refine px_iload_n (kk := 1) rfl rfl rfl ?_
  refine px_iconst (v := nI 1) rfl k_1 ?_
  refine px_icmp_ne rfl (fun _ => ?_) (fun h => absurd h (by decide))
  refine px_iload_n (kk := 1) rfl rfl rfl ?_
  refine px_iconst (v := nI 2) rfl k_2 ?_
  refine px_icmp_ne rfl (fun _ => ?_) (fun h => absurd h (by decide))
  refine px_iload_n (kk := 1) rfl rfl rfl ?_
  refine px_iconst (v := nI 3) rfl k_3 ?_
  refine px_icmp_ne rfl (fun h => absurd h (by decide)) (fun _ => ?_)
  refine px_iload_n (kk := 0) rfl rfl rfl ?_
  refine px_iconst (v := nI 5) rfl k_5 ?_
  refine px_icmp_eq rfl (fun h => absurd h (by decide)) (fun _ => ?_)
  refine px_iload_n (kk := 1) rfl rfl rfl ?_
  refine px_bipush (v := nI 6) rfl b_6 ?_
  refine px_icmp_ne rfl (fun _ => ?_) (fun h => absurd h (by decide))
  refine px_iconst (v := nI 0) rfl k_0 ?_
  refine px_ireturn rfl (.inr ⟨rfl, by decide⟩) ?_
  exact ⟨rfl, rfl⟩
theorem vX12_unc_2_1 {I : Nat → Nat → Int32} {J : Nat → Nat → Int64} {p : Bool × Option Nat} {ro : List (Nat × Nat × (Nat → Int32))}  : Pv 0 0 0 CX12_isUnder [.int (nI 2), .int (nI 1)] (gS, I, J, gR p, ro) (qI (nI 0) (gS, I, J, gR p, ro)) := by
  refine ⟨okCX12_isUnder, Nat.le_of_ble_eq_true rfl, (show Px _ _ _ _ 0 [some (.int (nI 2)), some (.int (nI 1))] [] _ _ from ?_)⟩
  refine px_iload_n (kk := 1) rfl rfl rfl ?_
  refine px_if_eq rfl (fun h => absurd h (by decide)) (fun _ => ?_)
  refine px_iload_n (kk := 0) rfl rfl rfl ?_
  refine px_iload_n (kk := 1) rfl rfl rfl ?_
  refine px_icmp_eq rfl (fun h => absurd h (by decide)) (fun _ => ?_)
  refine px_iload_n (kk := 1) rfl rfl rfl ?_
  refine px_iconst (v := nI 1) rfl k_1 ?_
  refine px_icmp_ne rfl (fun h => absurd h (by decide)) (fun _ => ?_)
  refine px_iload_n (kk := 0) rfl rfl rfl ?_
  refine px_iconst (v := nI 4) rfl k_4 ?_
  refine px_icmp_eq rfl (fun h => absurd h (by decide)) (fun _ => ?_)
  refine px_iload_n (kk := 1) rfl rfl rfl ?_
  refine px_iconst (v := nI 2) rfl k_2 ?_
  refine px_icmp_ne rfl (fun _ => ?_) (fun h => absurd h (by decide))
  refine px_iload_n (kk := 1) rfl rfl rfl ?_
  refine px_iconst (v := nI 3) rfl k_3 ?_
  refine px_icmp_ne rfl (fun _ => ?_) (fun h => absurd h (by decide))
  refine px_iload_n (kk := 1) rfl rfl rfl ?_
  refine px_bipush (v := nI 6) rfl b_6 ?_
  refine px_icmp_ne rfl (fun _ => ?_) (fun h => absurd h (by decide))
  refine px_iconst (v := nI 0) rfl k_0 ?_
  refine px_ireturn rfl (.inr ⟨rfl, by decide⟩) ?_
  exact ⟨rfl, rfl⟩
theorem vX12_unc_2_3 {I : Nat → Nat → Int32} {J : Nat → Nat → Int64} {p : Bool × Option Nat} {ro : List (Nat × Nat × (Nat → Int32))}  : Pv 0 0 0 CX12_isUnder [.int (nI 2), .int (nI 3)] (gS, I, J, gR p, ro) (qI (nI 0) (gS, I, J, gR p, ro)) := by
  refine ⟨okCX12_isUnder, Nat.le_of_ble_eq_true rfl, (show Px _ _ _ _ 0 [some (.int (nI 2)), some (.int (nI 3))] [] _ _ from ?_)⟩
  refine px_iload_n (kk := 1) rfl rfl rfl ?_
  refine px_if_eq rfl (fun h => absurd h (by decide)) (fun _ => ?_)
  refine px_iload_n (kk := 0) rfl rfl rfl ?_
  refine px_iload_n (kk := 1) rfl rfl rfl ?_
  refine px_icmp_eq rfl (fun h => absurd h (by decide)) (fun _ => ?_)
  refine px_iload_n (kk := 1) rfl rfl rfl ?_
  refine px_iconst (v := nI 1) rfl k_1 ?_
  refine px_icmp_ne rfl (fun _ => ?_) (fun h => absurd h (by decide))
  refine px_iload_n (kk := 1) rfl rfl rfl ?_
  refine px_iconst (v := nI 2) rfl k_2 ?_
  refine px_icmp_ne rfl (fun _ => ?_) (fun h => absurd h (by decide))
  refine px_iload_n (kk := 1) rfl rfl rfl ?_
  refine px_iconst (v := nI 3) rfl k_3 ?_
  refine px_icmp_ne rfl (fun h => absurd h (by decide)) (fun _ => ?_)
  refine px_iload_n (kk := 0) rfl rfl rfl ?_
  refine px_iconst (v := nI 5) rfl k_5 ?_
  refine px_icmp_eq rfl (fun h => absurd h (by decide)) (fun _ => ?_)
  refine px_iload_n (kk := 1) rfl rfl rfl ?_
  refine px_bipush (v := nI 6) rfl b_6 ?_
  refine px_icmp_ne rfl (fun _ => ?_) (fun h => absurd h (by decide))
  refine px_iconst (v := nI 0) rfl k_0 ?_
  refine px_ireturn rfl (.inr ⟨rfl, by decide⟩) ?_
  exact ⟨rfl, rfl⟩
theorem vX12_unc_3_1 {I : Nat → Nat → Int32} {J : Nat → Nat → Int64} {p : Bool × Option Nat} {ro : List (Nat × Nat × (Nat → Int32))}  : Pv 0 0 0 CX12_isUnder [.int (nI 3), .int (nI 1)] (gS, I, J, gR p, ro) (qI (nI 0) (gS, I, J, gR p, ro)) := by
  refine ⟨okCX12_isUnder, Nat.le_of_ble_eq_true rfl, (show Px _ _ _ _ 0 [some (.int (nI 3)), some (.int (nI 1))] [] _ _ from ?_)⟩
  refine px_iload_n (kk := 1) rfl rfl rfl ?_
  refine px_if_eq rfl (fun h => absurd h (by decide)) (fun _ => ?_)
  refine px_iload_n (kk := 0) rfl rfl rfl ?_
  refine px_iload_n (kk := 1) rfl rfl rfl ?_
  refine px_icmp_eq rfl (fun h => absurd h (by decide)) (fun _ => ?_)
  refine px_iload_n (kk := 1) rfl rfl rfl ?_
  refine px_iconst (v := nI 1) rfl k_1 ?_
  refine px_icmp_ne rfl (fun h => absurd h (by decide)) (fun _ => ?_)
  refine px_iload_n (kk := 0) rfl rfl rfl ?_
  refine px_iconst (v := nI 4) rfl k_4 ?_
  refine px_icmp_eq rfl (fun h => absurd h (by decide)) (fun _ => ?_)
  refine px_iload_n (kk := 1) rfl rfl rfl ?_
  refine px_iconst (v := nI 2) rfl k_2 ?_
  refine px_icmp_ne rfl (fun _ => ?_) (fun h => absurd h (by decide))
  refine px_iload_n (kk := 1) rfl rfl rfl ?_
  refine px_iconst (v := nI 3) rfl k_3 ?_
  refine px_icmp_ne rfl (fun _ => ?_) (fun h => absurd h (by decide))
  refine px_iload_n (kk := 1) rfl rfl rfl ?_
  refine px_bipush (v := nI 6) rfl b_6 ?_
  refine px_icmp_ne rfl (fun _ => ?_) (fun h => absurd h (by decide))
  refine px_iconst (v := nI 0) rfl k_0 ?_
  refine px_ireturn rfl (.inr ⟨rfl, by decide⟩) ?_
  exact ⟨rfl, rfl⟩
theorem vX12_unc_3_3 {I : Nat → Nat → Int32} {J : Nat → Nat → Int64} {p : Bool × Option Nat} {ro : List (Nat × Nat × (Nat → Int32))}  : Pv 0 0 0 CX12_isUnder [.int (nI 3), .int (nI 3)] (gS, I, J, gR p, ro) (qI (nI 1) (gS, I, J, gR p, ro)) := by
  refine ⟨okCX12_isUnder, Nat.le_of_ble_eq_true rfl, (show Px _ _ _ _ 0 [some (.int (nI 3)), some (.int (nI 3))] [] _ _ from ?_)⟩
  refine px_iload_n (kk := 1) rfl rfl rfl ?_
  refine px_if_eq rfl (fun h => absurd h (by decide)) (fun _ => ?_)
  refine px_iload_n (kk := 0) rfl rfl rfl ?_
  refine px_iload_n (kk := 1) rfl rfl rfl ?_
  refine px_icmp_eq rfl (fun _ => ?_) (fun h => absurd h (by decide))
  refine px_iconst (v := nI 1) rfl k_1 ?_
  refine px_goto rfl ?_
  refine px_ireturn rfl (.inr ⟨rfl, by decide⟩) ?_
  exact ⟨rfl, rfl⟩
theorem vX12_unc_4_1 {I : Nat → Nat → Int32} {J : Nat → Nat → Int64} {p : Bool × Option Nat} {ro : List (Nat × Nat × (Nat → Int32))}  : Pv 0 0 0 CX12_isUnder [.int (nI 4), .int (nI 1)] (gS, I, J, gR p, ro) (qI (nI 1) (gS, I, J, gR p, ro)) := by
  refine ⟨okCX12_isUnder, Nat.le_of_ble_eq_true rfl, (show Px _ _ _ _ 0 [some (.int (nI 4)), some (.int (nI 1))] [] _ _ from ?_)⟩
  refine px_iload_n (kk := 1) rfl rfl rfl ?_
  refine px_if_eq rfl (fun h => absurd h (by decide)) (fun _ => ?_)
  refine px_iload_n (kk := 0) rfl rfl rfl ?_
  refine px_iload_n (kk := 1) rfl rfl rfl ?_
  refine px_icmp_eq rfl (fun h => absurd h (by decide)) (fun _ => ?_)
  refine px_iload_n (kk := 1) rfl rfl rfl ?_
  refine px_iconst (v := nI 1) rfl k_1 ?_
  refine px_icmp_ne rfl (fun h => absurd h (by decide)) (fun _ => ?_)
  refine px_iload_n (kk := 0) rfl rfl rfl ?_
  refine px_iconst (v := nI 4) rfl k_4 ?_
  refine px_icmp_eq rfl (fun _ => ?_) (fun h => absurd h (by decide))
  refine px_iconst (v := nI 1) rfl k_1 ?_
  refine px_goto rfl ?_
  refine px_ireturn rfl (.inr ⟨rfl, by decide⟩) ?_
  exact ⟨rfl, rfl⟩
theorem vX12_unc_4_3 {I : Nat → Nat → Int32} {J : Nat → Nat → Int64} {p : Bool × Option Nat} {ro : List (Nat × Nat × (Nat → Int32))}  : Pv 0 0 0 CX12_isUnder [.int (nI 4), .int (nI 3)] (gS, I, J, gR p, ro) (qI (nI 0) (gS, I, J, gR p, ro)) := by
  refine ⟨okCX12_isUnder, Nat.le_of_ble_eq_true rfl, (show Px _ _ _ _ 0 [some (.int (nI 4)), some (.int (nI 3))] [] _ _ from ?_)⟩
  refine px_iload_n (kk := 1) rfl rfl rfl ?_
  refine px_if_eq rfl (fun h => absurd h (by decide)) (fun _ => ?_)
  refine px_iload_n (kk := 0) rfl rfl rfl ?_
  refine px_iload_n (kk := 1) rfl rfl rfl ?_
  refine px_icmp_eq rfl (fun h => absurd h (by decide)) (fun _ => ?_)
  refine px_iload_n (kk := 1) rfl rfl rfl ?_
  refine px_iconst (v := nI 1) rfl k_1 ?_
  refine px_icmp_ne rfl (fun _ => ?_) (fun h => absurd h (by decide))
  refine px_iload_n (kk := 1) rfl rfl rfl ?_
  refine px_iconst (v := nI 2) rfl k_2 ?_
  refine px_icmp_ne rfl (fun _ => ?_) (fun h => absurd h (by decide))
  refine px_iload_n (kk := 1) rfl rfl rfl ?_
  refine px_iconst (v := nI 3) rfl k_3 ?_
  refine px_icmp_ne rfl (fun h => absurd h (by decide)) (fun _ => ?_)
  refine px_iload_n (kk := 0) rfl rfl rfl ?_
  refine px_iconst (v := nI 5) rfl k_5 ?_
  refine px_icmp_eq rfl (fun h => absurd h (by decide)) (fun _ => ?_)
  refine px_iload_n (kk := 1) rfl rfl rfl ?_
  refine px_bipush (v := nI 6) rfl b_6 ?_
  refine px_icmp_ne rfl (fun _ => ?_) (fun h => absurd h (by decide))
  refine px_iconst (v := nI 0) rfl k_0 ?_
  refine px_ireturn rfl (.inr ⟨rfl, by decide⟩) ?_
  exact ⟨rfl, rfl⟩
theorem vX12_unc_5_1 {I : Nat → Nat → Int32} {J : Nat → Nat → Int64} {p : Bool × Option Nat} {ro : List (Nat × Nat × (Nat → Int32))}  : Pv 0 0 0 CX12_isUnder [.int (nI 5), .int (nI 1)] (gS, I, J, gR p, ro) (qI (nI 0) (gS, I, J, gR p, ro)) := by
  refine ⟨okCX12_isUnder, Nat.le_of_ble_eq_true rfl, (show Px _ _ _ _ 0 [some (.int (nI 5)), some (.int (nI 1))] [] _ _ from ?_)⟩
  refine px_iload_n (kk := 1) rfl rfl rfl ?_
  refine px_if_eq rfl (fun h => absurd h (by decide)) (fun _ => ?_)
  refine px_iload_n (kk := 0) rfl rfl rfl ?_
  refine px_iload_n (kk := 1) rfl rfl rfl ?_
  refine px_icmp_eq rfl (fun h => absurd h (by decide)) (fun _ => ?_)
  refine px_iload_n (kk := 1) rfl rfl rfl ?_
  refine px_iconst (v := nI 1) rfl k_1 ?_
  refine px_icmp_ne rfl (fun h => absurd h (by decide)) (fun _ => ?_)
  refine px_iload_n (kk := 0) rfl rfl rfl ?_
  refine px_iconst (v := nI 4) rfl k_4 ?_
  refine px_icmp_eq rfl (fun h => absurd h (by decide)) (fun _ => ?_)
  refine px_iload_n (kk := 1) rfl rfl rfl ?_
  refine px_iconst (v := nI 2) rfl k_2 ?_
  refine px_icmp_ne rfl (fun _ => ?_) (fun h => absurd h (by decide))
  refine px_iload_n (kk := 1) rfl rfl rfl ?_
  refine px_iconst (v := nI 3) rfl k_3 ?_
  refine px_icmp_ne rfl (fun _ => ?_) (fun h => absurd h (by decide))
  refine px_iload_n (kk := 1) rfl rfl rfl ?_
  refine px_bipush (v := nI 6) rfl b_6 ?_
  refine px_icmp_ne rfl (fun _ => ?_) (fun h => absurd h (by decide))
  refine px_iconst (v := nI 0) rfl k_0 ?_
  refine px_ireturn rfl (.inr ⟨rfl, by decide⟩) ?_
  exact ⟨rfl, rfl⟩
theorem vX12_unc_5_3 {I : Nat → Nat → Int32} {J : Nat → Nat → Int64} {p : Bool × Option Nat} {ro : List (Nat × Nat × (Nat → Int32))}  : Pv 0 0 0 CX12_isUnder [.int (nI 5), .int (nI 3)] (gS, I, J, gR p, ro) (qI (nI 1) (gS, I, J, gR p, ro)) := by
  refine ⟨okCX12_isUnder, Nat.le_of_ble_eq_true rfl, (show Px _ _ _ _ 0 [some (.int (nI 5)), some (.int (nI 3))] [] _ _ from ?_)⟩
  refine px_iload_n (kk := 1) rfl rfl rfl ?_
  refine px_if_eq rfl (fun h => absurd h (by decide)) (fun _ => ?_)
  refine px_iload_n (kk := 0) rfl rfl rfl ?_
  refine px_iload_n (kk := 1) rfl rfl rfl ?_
  refine px_icmp_eq rfl (fun h => absurd h (by decide)) (fun _ => ?_)
  refine px_iload_n (kk := 1) rfl rfl rfl ?_
  refine px_iconst (v := nI 1) rfl k_1 ?_
  refine px_icmp_ne rfl (fun _ => ?_) (fun h => absurd h (by decide))
  refine px_iload_n (kk := 1) rfl rfl rfl ?_
  refine px_iconst (v := nI 2) rfl k_2 ?_
  refine px_icmp_ne rfl (fun _ => ?_) (fun h => absurd h (by decide))
  refine px_iload_n (kk := 1) rfl rfl rfl ?_
  refine px_iconst (v := nI 3) rfl k_3 ?_
  refine px_icmp_ne rfl (fun h => absurd h (by decide)) (fun _ => ?_)
  refine px_iload_n (kk := 0) rfl rfl rfl ?_
  refine px_iconst (v := nI 5) rfl k_5 ?_
  refine px_icmp_eq rfl (fun _ => ?_) (fun h => absurd h (by decide))
  refine px_iconst (v := nI 1) rfl k_1 ?_
  refine px_goto rfl ?_
  refine px_ireturn rfl (.inr ⟨rfl, by decide⟩) ?_
  exact ⟨rfl, rfl⟩
theorem vX12_unc_6_1 {I : Nat → Nat → Int32} {J : Nat → Nat → Int64} {p : Bool × Option Nat} {ro : List (Nat × Nat × (Nat → Int32))}  : Pv 0 0 0 CX12_isUnder [.int (nI 6), .int (nI 1)] (gS, I, J, gR p, ro) (qI (nI 0) (gS, I, J, gR p, ro)) := by
  refine ⟨okCX12_isUnder, Nat.le_of_ble_eq_true rfl, (show Px _ _ _ _ 0 [some (.int (nI 6)), some (.int (nI 1))] [] _ _ from ?_)⟩
  refine px_iload_n (kk := 1) rfl rfl rfl ?_
  refine px_if_eq rfl (fun h => absurd h (by decide)) (fun _ => ?_)
  refine px_iload_n (kk := 0) rfl rfl rfl ?_
  refine px_iload_n (kk := 1) rfl rfl rfl ?_
  refine px_icmp_eq rfl (fun h => absurd h (by decide)) (fun _ => ?_)
  refine px_iload_n (kk := 1) rfl rfl rfl ?_
  refine px_iconst (v := nI 1) rfl k_1 ?_
  refine px_icmp_ne rfl (fun h => absurd h (by decide)) (fun _ => ?_)
  refine px_iload_n (kk := 0) rfl rfl rfl ?_
  refine px_iconst (v := nI 4) rfl k_4 ?_
  refine px_icmp_eq rfl (fun h => absurd h (by decide)) (fun _ => ?_)
  refine px_iload_n (kk := 1) rfl rfl rfl ?_
  refine px_iconst (v := nI 2) rfl k_2 ?_
  refine px_icmp_ne rfl (fun _ => ?_) (fun h => absurd h (by decide))
  refine px_iload_n (kk := 1) rfl rfl rfl ?_
  refine px_iconst (v := nI 3) rfl k_3 ?_
  refine px_icmp_ne rfl (fun _ => ?_) (fun h => absurd h (by decide))
  refine px_iload_n (kk := 1) rfl rfl rfl ?_
  refine px_bipush (v := nI 6) rfl b_6 ?_
  refine px_icmp_ne rfl (fun _ => ?_) (fun h => absurd h (by decide))
  refine px_iconst (v := nI 0) rfl k_0 ?_
  refine px_ireturn rfl (.inr ⟨rfl, by decide⟩) ?_
  exact ⟨rfl, rfl⟩
theorem vX12_unc_6_3 {I : Nat → Nat → Int32} {J : Nat → Nat → Int64} {p : Bool × Option Nat} {ro : List (Nat × Nat × (Nat → Int32))}  : Pv 0 0 0 CX12_isUnder [.int (nI 6), .int (nI 3)] (gS, I, J, gR p, ro) (qI (nI 0) (gS, I, J, gR p, ro)) := by
  refine ⟨okCX12_isUnder, Nat.le_of_ble_eq_true rfl, (show Px _ _ _ _ 0 [some (.int (nI 6)), some (.int (nI 3))] [] _ _ from ?_)⟩
  refine px_iload_n (kk := 1) rfl rfl rfl ?_
  refine px_if_eq rfl (fun h => absurd h (by decide)) (fun _ => ?_)
  refine px_iload_n (kk := 0) rfl rfl rfl ?_
  refine px_iload_n (kk := 1) rfl rfl rfl ?_
  refine px_icmp_eq rfl (fun h => absurd h (by decide)) (fun _ => ?_)
  refine px_iload_n (kk := 1) rfl rfl rfl ?_
  refine px_iconst (v := nI 1) rfl k_1 ?_
  refine px_icmp_ne rfl (fun _ => ?_) (fun h => absurd h (by decide))
  refine px_iload_n (kk := 1) rfl rfl rfl ?_
  refine px_iconst (v := nI 2) rfl k_2 ?_
  refine px_icmp_ne rfl (fun _ => ?_) (fun h => absurd h (by decide))
  refine px_iload_n (kk := 1) rfl rfl rfl ?_
  refine px_iconst (v := nI 3) rfl k_3 ?_
  refine px_icmp_ne rfl (fun h => absurd h (by decide)) (fun _ => ?_)
  refine px_iload_n (kk := 0) rfl rfl rfl ?_
  refine px_iconst (v := nI 5) rfl k_5 ?_
  refine px_icmp_eq rfl (fun h => absurd h (by decide)) (fun _ => ?_)
  refine px_iload_n (kk := 1) rfl rfl rfl ?_
  refine px_bipush (v := nI 6) rfl b_6 ?_
  refine px_icmp_ne rfl (fun _ => ?_) (fun h => absurd h (by decide))
  refine px_iconst (v := nI 0) rfl k_0 ?_
  refine px_ireturn rfl (.inr ⟨rfl, by decide⟩) ?_
  exact ⟨rfl, rfl⟩
theorem vX12_unc_7_1 {I : Nat → Nat → Int32} {J : Nat → Nat → Int64} {p : Bool × Option Nat} {ro : List (Nat × Nat × (Nat → Int32))}  : Pv 0 0 0 CX12_isUnder [.int (nI 7), .int (nI 1)] (gS, I, J, gR p, ro) (qI (nI 0) (gS, I, J, gR p, ro)) := by
  refine ⟨okCX12_isUnder, Nat.le_of_ble_eq_true rfl, (show Px _ _ _ _ 0 [some (.int (nI 7)), some (.int (nI 1))] [] _ _ from ?_)⟩
  refine px_iload_n (kk := 1) rfl rfl rfl ?_
  refine px_if_eq rfl (fun h => absurd h (by decide)) (fun _ => ?_)
  refine px_iload_n (kk := 0) rfl rfl rfl ?_
  refine px_iload_n (kk := 1) rfl rfl rfl ?_
  refine px_icmp_eq rfl (fun h => absurd h (by decide)) (fun _ => ?_)
  refine px_iload_n (kk := 1) rfl rfl rfl ?_
  refine px_iconst (v := nI 1) rfl k_1 ?_
  refine px_icmp_ne rfl (fun h => absurd h (by decide)) (fun _ => ?_)
  refine px_iload_n (kk := 0) rfl rfl rfl ?_
  refine px_iconst (v := nI 4) rfl k_4 ?_
  refine px_icmp_eq rfl (fun h => absurd h (by decide)) (fun _ => ?_)
  refine px_iload_n (kk := 1) rfl rfl rfl ?_
  refine px_iconst (v := nI 2) rfl k_2 ?_
  refine px_icmp_ne rfl (fun _ => ?_) (fun h => absurd h (by decide))
  refine px_iload_n (kk := 1) rfl rfl rfl ?_
  refine px_iconst (v := nI 3) rfl k_3 ?_
  refine px_icmp_ne rfl (fun _ => ?_) (fun h => absurd h (by decide))
  refine px_iload_n (kk := 1) rfl rfl rfl ?_
  refine px_bipush (v := nI 6) rfl b_6 ?_
  refine px_icmp_ne rfl (fun _ => ?_) (fun h => absurd h (by decide))
  refine px_iconst (v := nI 0) rfl k_0 ?_
  refine px_ireturn rfl (.inr ⟨rfl, by decide⟩) ?_
  exact ⟨rfl, rfl⟩
theorem vX12_unc_7_3 {I : Nat → Nat → Int32} {J : Nat → Nat → Int64} {p : Bool × Option Nat} {ro : List (Nat × Nat × (Nat → Int32))}  : Pv 0 0 0 CX12_isUnder [.int (nI 7), .int (nI 3)] (gS, I, J, gR p, ro) (qI (nI 0) (gS, I, J, gR p, ro)) := by
  refine ⟨okCX12_isUnder, Nat.le_of_ble_eq_true rfl, (show Px _ _ _ _ 0 [some (.int (nI 7)), some (.int (nI 3))] [] _ _ from ?_)⟩
  refine px_iload_n (kk := 1) rfl rfl rfl ?_
  refine px_if_eq rfl (fun h => absurd h (by decide)) (fun _ => ?_)
  refine px_iload_n (kk := 0) rfl rfl rfl ?_
  refine px_iload_n (kk := 1) rfl rfl rfl ?_
  refine px_icmp_eq rfl (fun h => absurd h (by decide)) (fun _ => ?_)
  refine px_iload_n (kk := 1) rfl rfl rfl ?_
  refine px_iconst (v := nI 1) rfl k_1 ?_
  refine px_icmp_ne rfl (fun _ => ?_) (fun h => absurd h (by decide))
  refine px_iload_n (kk := 1) rfl rfl rfl ?_
  refine px_iconst (v := nI 2) rfl k_2 ?_
  refine px_icmp_ne rfl (fun _ => ?_) (fun h => absurd h (by decide))
  refine px_iload_n (kk := 1) rfl rfl rfl ?_
  refine px_iconst (v := nI 3) rfl k_3 ?_
  refine px_icmp_ne rfl (fun h => absurd h (by decide)) (fun _ => ?_)
  refine px_iload_n (kk := 0) rfl rfl rfl ?_
  refine px_iconst (v := nI 5) rfl k_5 ?_
  refine px_icmp_eq rfl (fun h => absurd h (by decide)) (fun _ => ?_)
  refine px_iload_n (kk := 1) rfl rfl rfl ?_
  refine px_bipush (v := nI 6) rfl b_6 ?_
  refine px_icmp_ne rfl (fun _ => ?_) (fun h => absurd h (by decide))
  refine px_iconst (v := nI 0) rfl k_0 ?_
  refine px_ireturn rfl (.inr ⟨rfl, by decide⟩) ?_
  exact ⟨rfl, rfl⟩
theorem vX12_plainWarms_0 {I : Nat → Nat → Int32} {J : Nat → Nat → Int64} {p : Bool × Option Nat} {ro : List (Nat × Nat × (Nat → Int32))} {b : Nat} (hb : b < 50) (hk : I 96 b = nI 0) {t : TS} {I1 : Nat → Nat → Int32} (hB : BRr I t I1) (ht : t.2 < 2 ^ 20 - 100) {x : Int32} : Pv 1 0 0 CX12_plainWarms [.ref (65), .int (nI b), .int (x)] (gS, I1, J, gR p, ro) (fun r S' => r = some (.int (x + nI b)) ∧ ∃ I' t', S' = (gS, I', J, gR p, ro) ∧ BRr I t' I' ∧ t' = sp_nts t [1]) := by
  refine ⟨okCX12_plainWarms, Nat.le_of_ble_eq_true rfl, (show Px _ _ _ _ 0 [some (.ref (65)), some (.int (nI b)), some (.int (x))] [] _ _ from ?_)⟩
  refine px_aload_n (kk := 0) rfl rfl rfl ?_
  refine px_iconst (v := nI 1) rfl k_1 ?_
  refine px_callV0 CX12_ran [] [.int _] (vX12_ran hB (by omega)) rfl gS_65 (by decide) rfl rfl rfl (Nat.le_of_ble_eq_true rfl) (by decide) ?_
  rintro _ _ - ⟨rfl, I2, t2, rfl, hB2, ht2⟩
  have hn2 : t2.2 = t.2 + 1 := by rw [ht2]; exact sp_nts_2 _ _
  refine px_iload_n (kk := 2) rfl rfl rfl ?_
  refine px_iload_n (kk := 1) rfl rfl rfl ?_
  refine px_iadd rfl ?_
  refine px_ireturn rfl (.inl rfl) ?_
  exact ⟨rfl, I2, t2, rfl, hB2, by first | (rw [ht2]; done) | (rw [ht2]; rfl)⟩
theorem vX12_warming_0 {I : Nat → Nat → Int32} {J : Nat → Nat → Int64} {p : Bool × Option Nat} {ro : List (Nat × Nat × (Nat → Int32))} {b : Nat} (hb : b < 50) (hk : I 96 b = nI 0) {t : TS} {I1 : Nat → Nat → Int32} (hB : BRr I t I1) (ht : t.2 < 2 ^ 20 - 300) {x : Int32} : Pv 3 0 0 CX12_warming [.ref (65), .int (nI b), .int (x)] (gS, I1, J, gR p, ro) (fun r S' => r = some (.int (x + nI b)) ∧ ∃ I' t', S' = (gS, I', J, gR p, ro) ∧ BRr I t' I' ∧ t' = sp_nts t [1]) := by
  refine ⟨okCX12_warming, Nat.le_of_ble_eq_true rfl, (show Px _ _ _ _ 0 [some (.ref (65)), some (.int (nI b)), some (.int (x))] [] _ _ from ?_)⟩
  refine px_aload_n (kk := 0) rfl rfl rfl ?_
  refine px_getR (r := 96) rfl gS_65 rfl (gR_65_56 _) ?_
  refine px_iload_n (kk := 1) rfl rfl rfl ?_
  refine px_ialde (j := b) (v := nI 0) rfl gS_96 rfl (by omega) (by first | exact hk | exact (congrFun (hB.1 96 (by decide)) b).trans hk | exact (congrFun (hB2.1 96 (by decide)) b).trans hk | exact (congrFun (hB3.1 96 (by decide)) b).trans hk) ?_
  refine px_iconst (v := nI 1) rfl k_1 ?_
  refine px_callS0 CX12_isUnder [] [.int _, .int _] (vX12_unc_0_1) rfl rfl rfl (Nat.le_of_ble_eq_true rfl) (by decide) ?_
  rintro _ _ - ⟨rfl, rfl⟩
  refine px_if_eq rfl (fun _ => ?_) (fun h => absurd h (by decide))
  refine px_aload_n (kk := 0) rfl rfl rfl ?_
  refine px_getR (r := 96) rfl gS_65 rfl (gR_65_56 _) ?_
  refine px_iload_n (kk := 1) rfl rfl rfl ?_
  refine px_ialde (j := b) (v := nI 0) rfl gS_96 rfl (by omega) (by first | exact hk | exact (congrFun (hB.1 96 (by decide)) b).trans hk | exact (congrFun (hB2.1 96 (by decide)) b).trans hk | exact (congrFun (hB3.1 96 (by decide)) b).trans hk) ?_
  refine px_bipush (v := nI 7) rfl b_7 ?_
  refine px_icmp_ne rfl (fun _ => ?_) (fun h => absurd h (by decide))
  refine px_aload_n (kk := 0) rfl rfl rfl ?_
  refine px_getR (r := 96) rfl gS_65 rfl (gR_65_56 _) ?_
  refine px_iload_n (kk := 1) rfl rfl rfl ?_
  refine px_ialde (j := b) (v := nI 0) rfl gS_96 rfl (by omega) (by first | exact hk | exact (congrFun (hB.1 96 (by decide)) b).trans hk | exact (congrFun (hB2.1 96 (by decide)) b).trans hk | exact (congrFun (hB3.1 96 (by decide)) b).trans hk) ?_
  refine px_bipush (v := nI 6) rfl b_6 ?_
  refine px_icmp_ne rfl (fun _ => ?_) (fun h => absurd h (by decide))
  refine px_aload_n (kk := 0) rfl rfl rfl ?_
  refine px_iload_n (kk := 1) rfl rfl rfl ?_
  refine px_iload_n (kk := 2) rfl rfl rfl ?_
  refine px_callV0 CX12_plainWarms [] [.int _, .int _] (vX12_plainWarms_0 hb hk hB (by omega)) rfl gS_65 (by decide) rfl rfl rfl (Nat.le_of_ble_eq_true rfl) (by decide) ?_
  rintro _ _ - ⟨rfl, I2, t2, rfl, hB2, ht2⟩
  have hn2 : t2.2 = t.2 + 1 := by rw [ht2]; exact sp_nts_2 _ _
  refine px_ireturn rfl (.inl rfl) ?_
  exact ⟨rfl, I2, t2, rfl, hB2, by first | (rw [ht2]; done) | (rw [ht2]; rfl)⟩
theorem vX12_plainWaits_0 {I : Nat → Nat → Int32} {J : Nat → Nat → Int64} {p : Bool × Option Nat} {ro : List (Nat × Nat × (Nat → Int32))} {b : Nat} (hb : b < 50) (hk : I 96 b = nI 0) {t : TS} {I1 : Nat → Nat → Int32} (hB : BRr I t I1) (ht : t.2 < 2 ^ 20 - 400) {x : Int32} : Pv 4 0 0 CX12_plainWaits [.ref (65), .int (nI b), .int (x)] (gS, I1, J, gR p, ro) (fun r S' => r = some (.int ((x + nI b) * nI 2)) ∧ ∃ I' t', S' = (gS, I', J, gR p, ro) ∧ BRr I t' I' ∧ t' = sp_nts t [10, 1]) := by
  refine ⟨okCX12_plainWaits, Nat.le_of_ble_eq_true rfl, (show Px _ _ _ _ 0 [some (.ref (65)), some (.int (nI b)), some (.int (x))] [] _ _ from ?_)⟩
  refine px_aload_n (kk := 0) rfl rfl rfl ?_
  refine px_bipush (v := nI 10) rfl b_10 ?_
  refine px_callV0 CX12_ran [] [.int _] (vX12_ran hB (by omega)) rfl gS_65 (by decide) rfl rfl rfl (Nat.le_of_ble_eq_true rfl) (by decide) ?_
  rintro _ _ - ⟨rfl, I2, t2, rfl, hB2, ht2⟩
  have hn2 : t2.2 = t.2 + 1 := by rw [ht2]; exact sp_nts_2 _ _
  refine px_aload_n (kk := 0) rfl rfl rfl ?_
  refine px_iload_n (kk := 1) rfl rfl rfl ?_
  refine px_iload_n (kk := 2) rfl rfl rfl ?_
  refine px_callV0 CX12_warming [] [.int _, .int _] (vX12_warming_0 hb hk hB2 (by omega)) rfl gS_65 (by decide) rfl rfl rfl (Nat.le_of_ble_eq_true rfl) (by decide) ?_
  rintro _ _ - ⟨rfl, I3, t3, rfl, hB3, ht3⟩
  have hn3 : t3.2 = t2.2 + 1 := by rw [ht3]; exact sp_nts_2 _ _
  refine px_iconst (v := nI 2) rfl k_2 ?_
  refine px_imul rfl ?_
  refine px_ireturn rfl (.inl rfl) ?_
  exact ⟨rfl, I3, t3, rfl, hB3, by first | (rw [ht3, ht2]; done) | (rw [ht3, ht2]; rfl)⟩
theorem vX12_plainCrosses_0 {I : Nat → Nat → Int32} {J : Nat → Nat → Int64} {p : Bool × Option Nat} {ro : List (Nat × Nat × (Nat → Int32))} {b : Nat} (hb : b < 50) (hk : I 96 b = nI 0) {t : TS} {I1 : Nat → Nat → Int32} (hB : BRr I t I1) (ht : t.2 < 2 ^ 20 - 100) {x : Int32} : Pv 1 0 0 CX12_plainCrosses [.ref (65), .int (nI b), .int (x)] (gS, I1, J, gR p, ro) (fun r S' => r = some (.int (x ^^^ nI b)) ∧ ∃ I' t', S' = (gS, I', J, gR p, ro) ∧ BRr I t' I' ∧ t' = sp_nts t [11]) := by
  refine ⟨okCX12_plainCrosses, Nat.le_of_ble_eq_true rfl, (show Px _ _ _ _ 0 [some (.ref (65)), some (.int (nI b)), some (.int (x))] [] _ _ from ?_)⟩
  refine px_aload_n (kk := 0) rfl rfl rfl ?_
  refine px_bipush (v := nI 11) rfl b_11 ?_
  refine px_callV0 CX12_ran [] [.int _] (vX12_ran hB (by omega)) rfl gS_65 (by decide) rfl rfl rfl (Nat.le_of_ble_eq_true rfl) (by decide) ?_
  rintro _ _ - ⟨rfl, I2, t2, rfl, hB2, ht2⟩
  have hn2 : t2.2 = t.2 + 1 := by rw [ht2]; exact sp_nts_2 _ _
  refine px_iload_n (kk := 2) rfl rfl rfl ?_
  refine px_iload_n (kk := 1) rfl rfl rfl ?_
  refine px_ixor rfl ?_
  refine px_ireturn rfl (.inl rfl) ?_
  exact ⟨rfl, I2, t2, rfl, hB2, by first | (rw [ht2]; done) | (rw [ht2]; rfl)⟩
theorem vX12_crossing_0 {I : Nat → Nat → Int32} {J : Nat → Nat → Int64} {p : Bool × Option Nat} {ro : List (Nat × Nat × (Nat → Int32))} {b : Nat} (hb : b < 50) (hk : I 96 b = nI 0) {t : TS} {I1 : Nat → Nat → Int32} (hB : BRr I t I1) (ht : t.2 < 2 ^ 20 - 400) {x : Int32} : Pv 4 0 0 CX12_crossing [.ref (65), .int (nI b), .int (x)] (gS, I1, J, gR p, ro) (fun r S' => r = some (.int (x ^^^ nI b)) ∧ ∃ I' t', S' = (gS, I', J, gR p, ro) ∧ BRr I t' I' ∧ t' = sp_nts t [11]) := by
  refine ⟨okCX12_crossing, Nat.le_of_ble_eq_true rfl, (show Px _ _ _ _ 0 [some (.ref (65)), some (.int (nI b)), some (.int (x)), none] [] _ _ from ?_)⟩
  refine px_aload_n (kk := 0) rfl rfl rfl ?_
  refine px_getR (r := 96) rfl gS_65 rfl (gR_65_56 _) ?_
  refine px_iload_n (kk := 1) rfl rfl rfl ?_
  refine px_ialde (j := b) (v := nI 0) rfl gS_96 rfl (by omega) (by first | exact hk | exact (congrFun (hB.1 96 (by decide)) b).trans hk | exact (congrFun (hB2.1 96 (by decide)) b).trans hk | exact (congrFun (hB3.1 96 (by decide)) b).trans hk) ?_
  refine px_iconst (v := nI 5) rfl k_5 ?_
  refine px_icmp_ne rfl (fun _ => ?_) (fun h => absurd h (by decide))
  refine px_aload_n (kk := 0) rfl rfl rfl ?_
  refine px_getR (r := 96) rfl gS_65 rfl (gR_65_56 _) ?_
  refine px_iload_n (kk := 1) rfl rfl rfl ?_
  refine px_ialde (j := b) (v := nI 0) rfl gS_96 rfl (by omega) (by first | exact hk | exact (congrFun (hB.1 96 (by decide)) b).trans hk | exact (congrFun (hB2.1 96 (by decide)) b).trans hk | exact (congrFun (hB3.1 96 (by decide)) b).trans hk) ?_
  refine px_iconst (v := nI 3) rfl k_3 ?_
  refine px_icmp_ne rfl (fun _ => ?_) (fun h => absurd h (by decide))
  refine px_aload_n (kk := 0) rfl rfl rfl ?_
  refine px_iload_n (kk := 1) rfl rfl rfl ?_
  refine px_iload_n (kk := 2) rfl rfl rfl ?_
  refine px_callV0 CX12_plainCrosses [] [.int _, .int _] (vX12_plainCrosses_0 hb hk hB (by omega)) rfl gS_65 (by decide) rfl rfl rfl (Nat.le_of_ble_eq_true rfl) (by decide) ?_
  rintro _ _ - ⟨rfl, I2, t2, rfl, hB2, ht2⟩
  have hn2 : t2.2 = t.2 + 1 := by rw [ht2]; exact sp_nts_2 _ _
  refine px_ireturn rfl (.inl rfl) ?_
  exact ⟨rfl, I2, t2, rfl, hB2, by first | (rw [ht2]; done) | (rw [ht2]; rfl)⟩
theorem vX12_waiting_0 {I : Nat → Nat → Int32} {J : Nat → Nat → Int64} {p : Bool × Option Nat} {ro : List (Nat × Nat × (Nat → Int32))} {b : Nat} (hb : b < 50) (hk : I 96 b = nI 0) {t : TS} {I1 : Nat → Nat → Int32} (hB : BRr I t I1) (ht : t.2 < 2 ^ 20 - 600) {x : Int32} : Pv 6 0 0 CX12_waiting [.ref (65), .int (nI b), .int (x)] (gS, I1, J, gR p, ro) (fun r S' => r = some (.int ((x + nI b) * nI 2)) ∧ ∃ I' t', S' = (gS, I', J, gR p, ro) ∧ BRr I t' I' ∧ t' = sp_nts t [10, 1]) := by
  refine ⟨okCX12_waiting, Nat.le_of_ble_eq_true rfl, (show Px _ _ _ _ 0 [some (.ref (65)), some (.int (nI b)), some (.int (x)), none] [] _ _ from ?_)⟩
  refine px_aload_n (kk := 0) rfl rfl rfl ?_
  refine px_getR (r := 96) rfl gS_65 rfl (gR_65_56 _) ?_
  refine px_iload_n (kk := 1) rfl rfl rfl ?_
  refine px_ialde (j := b) (v := nI 0) rfl gS_96 rfl (by omega) (by first | exact hk | exact (congrFun (hB.1 96 (by decide)) b).trans hk | exact (congrFun (hB2.1 96 (by decide)) b).trans hk | exact (congrFun (hB3.1 96 (by decide)) b).trans hk) ?_
  refine px_iconst (v := nI 3) rfl k_3 ?_
  refine px_callS0 CX12_isUnder [] [.int _, .int _] (vX12_unc_0_3) rfl rfl rfl (Nat.le_of_ble_eq_true rfl) (by decide) ?_
  rintro _ _ - ⟨rfl, rfl⟩
  refine px_if_eq rfl (fun _ => ?_) (fun h => absurd h (by decide))
  refine px_aload_n (kk := 0) rfl rfl rfl ?_
  refine px_getR (r := 96) rfl gS_65 rfl (gR_65_56 _) ?_
  refine px_iload_n (kk := 1) rfl rfl rfl ?_
  refine px_ialde (j := b) (v := nI 0) rfl gS_96 rfl (by omega) (by first | exact hk | exact (congrFun (hB.1 96 (by decide)) b).trans hk | exact (congrFun (hB2.1 96 (by decide)) b).trans hk | exact (congrFun (hB3.1 96 (by decide)) b).trans hk) ?_
  refine px_bipush (v := nI 7) rfl b_7 ?_
  refine px_icmp_ne rfl (fun _ => ?_) (fun h => absurd h (by decide))
  refine px_aload_n (kk := 0) rfl rfl rfl ?_
  refine px_getR (r := 96) rfl gS_65 rfl (gR_65_56 _) ?_
  refine px_iload_n (kk := 1) rfl rfl rfl ?_
  refine px_ialde (j := b) (v := nI 0) rfl gS_96 rfl (by omega) (by first | exact hk | exact (congrFun (hB.1 96 (by decide)) b).trans hk | exact (congrFun (hB2.1 96 (by decide)) b).trans hk | exact (congrFun (hB3.1 96 (by decide)) b).trans hk) ?_
  refine px_iconst (v := nI 2) rfl k_2 ?_
  refine px_icmp_ne rfl (fun _ => ?_) (fun h => absurd h (by decide))
  refine px_aload_n (kk := 0) rfl rfl rfl ?_
  refine px_iload_n (kk := 1) rfl rfl rfl ?_
  refine px_iload_n (kk := 2) rfl rfl rfl ?_
  refine px_callV0 CX12_plainWaits [] [.int _, .int _] (vX12_plainWaits_0 hb hk hB (by omega)) rfl gS_65 (by decide) rfl rfl rfl (Nat.le_of_ble_eq_true rfl) (by decide) ?_
  rintro _ _ - ⟨rfl, I2, t2, rfl, hB2, ht2⟩
  have hn2 : t2.2 = t.2 + 2 := by rw [ht2]; exact sp_nts_2 _ _
  refine px_ireturn rfl (.inl rfl) ?_
  exact ⟨rfl, I2, t2, rfl, hB2, by first | (rw [ht2]; done) | (rw [ht2]; rfl)⟩
theorem vX12_plainTells_0 {I : Nat → Nat → Int32} {J : Nat → Nat → Int64} {p : Bool × Option Nat} {ro : List (Nat × Nat × (Nat → Int32))} {b : Nat} (hb : b < 50) (hk : I 96 b = nI 0) {t : TS} {I1 : Nat → Nat → Int32} (hB : BRr I t I1) (ht : t.2 < 2 ^ 20 - 700) {x : Int32} : Pv 7 0 0 CX12_plainTells [.ref (65), .int (nI b), .int (x)] (gS, I1, J, gR p, ro) (fun r S' => r = some (.int (((x + nI b) * nI 2) - (nI 1 ^^^ nI b))) ∧ ∃ I' t', S' = (gS, I', J, gR p, ro) ∧ BRr I t' I' ∧ t' = sp_nts t [2, 10, 1, 11]) := by
  refine ⟨okCX12_plainTells, Nat.le_of_ble_eq_true rfl, (show Px _ _ _ _ 0 [some (.ref (65)), some (.int (nI b)), some (.int (x)), none] [] _ _ from ?_)⟩
  refine px_aload_n (kk := 0) rfl rfl rfl ?_
  refine px_iconst (v := nI 2) rfl k_2 ?_
  refine px_callV0 CX12_ran [] [.int _] (vX12_ran hB (by omega)) rfl gS_65 (by decide) rfl rfl rfl (Nat.le_of_ble_eq_true rfl) (by decide) ?_
  rintro _ _ - ⟨rfl, I2, t2, rfl, hB2, ht2⟩
  have hn2 : t2.2 = t.2 + 1 := by rw [ht2]; exact sp_nts_2 _ _
  refine px_aload_n (kk := 0) rfl rfl rfl ?_
  refine px_iload_n (kk := 1) rfl rfl rfl ?_
  refine px_iload_n (kk := 2) rfl rfl rfl ?_
  refine px_callV0 CX12_waiting [] [.int _, .int _] (vX12_waiting_0 hb hk hB2 (by omega)) rfl gS_65 (by decide) rfl rfl rfl (Nat.le_of_ble_eq_true rfl) (by decide) ?_
  rintro _ _ - ⟨rfl, I3, t3, rfl, hB3, ht3⟩
  have hn3 : t3.2 = t2.2 + 2 := by rw [ht3]; exact sp_nts_2 _ _
  refine px_ist3 rfl rfl (by decide) ?_
  refine px_iload_n (kk := 3) rfl rfl rfl ?_
  refine px_aload_n (kk := 0) rfl rfl rfl ?_
  refine px_iload_n (kk := 1) rfl rfl rfl ?_
  refine px_iconst (v := nI 1) rfl k_1 ?_
  refine px_callV0 CX12_crossing [.int _] [.int _, .int _] (vX12_crossing_0 hb hk hB3 (by omega)) rfl gS_65 (by decide) rfl rfl rfl (Nat.le_of_ble_eq_true rfl) (by decide) ?_
  rintro _ _ - ⟨rfl, I4, t4, rfl, hB4, ht4⟩
  have hn4 : t4.2 = t3.2 + 1 := by rw [ht4]; exact sp_nts_2 _ _
  refine px_isub rfl ?_
  refine px_ireturn rfl (.inl rfl) ?_
  exact ⟨rfl, I4, t4, rfl, hB4, by first | (rw [ht4, ht3, ht2]; done) | (rw [ht4, ht3, ht2]; rfl)⟩
theorem vX12_telling_0 {I : Nat → Nat → Int32} {J : Nat → Nat → Int64} {p : Bool × Option Nat} {ro : List (Nat × Nat × (Nat → Int32))} {b : Nat} (hb : b < 50) (hk : I 96 b = nI 0) {t : TS} {I1 : Nat → Nat → Int32} (hB : BRr I t I1) (ht : t.2 < 2 ^ 20 - 800) {x : Int32} : Pv 8 0 0 CX12_telling [.ref (65), .int (nI b), .int (x)] (gS, I1, J, gR p, ro) (fun r S' => r = some (.int (((x + nI b) * nI 2) - (nI 1 ^^^ nI b))) ∧ ∃ I' t', S' = (gS, I', J, gR p, ro) ∧ BRr I t' I' ∧ t' = sp_nts t [2, 10, 1, 11]) := by
  refine ⟨okCX12_telling, Nat.le_of_ble_eq_true rfl, (show Px _ _ _ _ 0 [some (.ref (65)), some (.int (nI b)), some (.int (x))] [] _ _ from ?_)⟩
  refine px_aload_n (kk := 0) rfl rfl rfl ?_
  refine px_getR (r := 96) rfl gS_65 rfl (gR_65_56 _) ?_
  refine px_iload_n (kk := 1) rfl rfl rfl ?_
  refine px_ialde (j := b) (v := nI 0) rfl gS_96 rfl (by omega) (by first | exact hk | exact (congrFun (hB.1 96 (by decide)) b).trans hk | exact (congrFun (hB2.1 96 (by decide)) b).trans hk | exact (congrFun (hB3.1 96 (by decide)) b).trans hk) ?_
  refine px_iconst (v := nI 4) rfl k_4 ?_
  refine px_icmp_ne rfl (fun _ => ?_) (fun h => absurd h (by decide))
  refine px_aload_n (kk := 0) rfl rfl rfl ?_
  refine px_getR (r := 96) rfl gS_65 rfl (gR_65_56 _) ?_
  refine px_iload_n (kk := 1) rfl rfl rfl ?_
  refine px_ialde (j := b) (v := nI 0) rfl gS_96 rfl (by omega) (by first | exact hk | exact (congrFun (hB.1 96 (by decide)) b).trans hk | exact (congrFun (hB2.1 96 (by decide)) b).trans hk | exact (congrFun (hB3.1 96 (by decide)) b).trans hk) ?_
  refine px_iconst (v := nI 5) rfl k_5 ?_
  refine px_icmp_ne rfl (fun _ => ?_) (fun h => absurd h (by decide))
  refine px_aload_n (kk := 0) rfl rfl rfl ?_
  refine px_iload_n (kk := 1) rfl rfl rfl ?_
  refine px_iload_n (kk := 2) rfl rfl rfl ?_
  refine px_callV0 CX12_plainTells [] [.int _, .int _] (vX12_plainTells_0 hb hk hB (by omega)) rfl gS_65 (by decide) rfl rfl rfl (Nat.le_of_ble_eq_true rfl) (by decide) ?_
  rintro _ _ - ⟨rfl, I2, t2, rfl, hB2, ht2⟩
  have hn2 : t2.2 = t.2 + 4 := by rw [ht2]; exact sp_nts_2 _ _
  refine px_ireturn rfl (.inl rfl) ?_
  exact ⟨rfl, I2, t2, rfl, hB2, by first | (rw [ht2]; done) | (rw [ht2]; rfl)⟩
theorem vX12_plainWarms_1 {I : Nat → Nat → Int32} {J : Nat → Nat → Int64} {p : Bool × Option Nat} {ro : List (Nat × Nat × (Nat → Int32))} {b : Nat} (hb : b < 50) (hk : I 96 b = nI 1) {t : TS} {I1 : Nat → Nat → Int32} (hB : BRr I t I1) (ht : t.2 < 2 ^ 20 - 100) {x : Int32} : Pv 1 0 0 CX12_plainWarms [.ref (65), .int (nI b), .int (x)] (gS, I1, J, gR p, ro) (fun r S' => r = some (.int (x + nI b)) ∧ ∃ I' t', S' = (gS, I', J, gR p, ro) ∧ BRr I t' I' ∧ t' = sp_nts t [1]) := by
  refine ⟨okCX12_plainWarms, Nat.le_of_ble_eq_true rfl, (show Px _ _ _ _ 0 [some (.ref (65)), some (.int (nI b)), some (.int (x))] [] _ _ from ?_)⟩
  refine px_aload_n (kk := 0) rfl rfl rfl ?_
  refine px_iconst (v := nI 1) rfl k_1 ?_
  refine px_callV0 CX12_ran [] [.int _] (vX12_ran hB (by omega)) rfl gS_65 (by decide) rfl rfl rfl (Nat.le_of_ble_eq_true rfl) (by decide) ?_
  rintro _ _ - ⟨rfl, I2, t2, rfl, hB2, ht2⟩
  have hn2 : t2.2 = t.2 + 1 := by rw [ht2]; exact sp_nts_2 _ _
  refine px_iload_n (kk := 2) rfl rfl rfl ?_
  refine px_iload_n (kk := 1) rfl rfl rfl ?_
  refine px_iadd rfl ?_
  refine px_ireturn rfl (.inl rfl) ?_
  exact ⟨rfl, I2, t2, rfl, hB2, by first | (rw [ht2]; done) | (rw [ht2]; rfl)⟩
theorem vX12_warming_1 {I : Nat → Nat → Int32} {J : Nat → Nat → Int64} {p : Bool × Option Nat} {ro : List (Nat × Nat × (Nat → Int32))} {b : Nat} (hb : b < 50) (hk : I 96 b = nI 1) {t : TS} {I1 : Nat → Nat → Int32} (hB : BRr I t I1) (ht : t.2 < 2 ^ 20 - 300) {x : Int32} : Pv 3 0 0 CX12_warming [.ref (65), .int (nI b), .int (x)] (gS, I1, J, gR p, ro) (fun r S' => r = some (.int ((x + nI b) + nI 3)) ∧ ∃ I' t', S' = (gS, I', J, gR p, ro) ∧ BRr I t' I' ∧ t' = sp_nts t [20, 1]) := by
  refine ⟨okCX12_warming, Nat.le_of_ble_eq_true rfl, (show Px _ _ _ _ 0 [some (.ref (65)), some (.int (nI b)), some (.int (x))] [] _ _ from ?_)⟩
  refine px_aload_n (kk := 0) rfl rfl rfl ?_
  refine px_getR (r := 96) rfl gS_65 rfl (gR_65_56 _) ?_
  refine px_iload_n (kk := 1) rfl rfl rfl ?_
  refine px_ialde (j := b) (v := nI 1) rfl gS_96 rfl (by omega) (by first | exact hk | exact (congrFun (hB.1 96 (by decide)) b).trans hk | exact (congrFun (hB2.1 96 (by decide)) b).trans hk | exact (congrFun (hB3.1 96 (by decide)) b).trans hk) ?_
  refine px_iconst (v := nI 1) rfl k_1 ?_
  refine px_callS0 CX12_isUnder [] [.int _, .int _] (vX12_unc_1_1) rfl rfl rfl (Nat.le_of_ble_eq_true rfl) (by decide) ?_
  rintro _ _ - ⟨rfl, rfl⟩
  refine px_if_eq rfl (fun h => absurd h (by decide)) (fun _ => ?_)
  refine px_aload_n (kk := 0) rfl rfl rfl ?_
  refine px_bipush (v := nI 20) rfl b_20 ?_
  refine px_callV0 CX12_ran [] [.int _] (vX12_ran hB (by omega)) rfl gS_65 (by decide) rfl rfl rfl (Nat.le_of_ble_eq_true rfl) (by decide) ?_
  rintro _ _ - ⟨rfl, I2, t2, rfl, hB2, ht2⟩
  have hn2 : t2.2 = t.2 + 1 := by rw [ht2]; exact sp_nts_2 _ _
  refine px_aload_n (kk := 0) rfl rfl rfl ?_
  refine px_iload_n (kk := 1) rfl rfl rfl ?_
  refine px_iload_n (kk := 2) rfl rfl rfl ?_
  refine px_callV0 CX12_plainWarms [] [.int _, .int _] (vX12_plainWarms_1 hb hk hB2 (by omega)) rfl gS_65 (by decide) rfl rfl rfl (Nat.le_of_ble_eq_true rfl) (by decide) ?_
  rintro _ _ - ⟨rfl, I3, t3, rfl, hB3, ht3⟩
  have hn3 : t3.2 = t2.2 + 1 := by rw [ht3]; exact sp_nts_2 _ _
  refine px_iconst (v := nI 3) rfl k_3 ?_
  refine px_iadd rfl ?_
  refine px_ireturn rfl (.inl rfl) ?_
  exact ⟨rfl, I3, t3, rfl, hB3, by first | (rw [ht3, ht2]; done) | (rw [ht3, ht2]; rfl)⟩
theorem vX12_plainWaits_1 {I : Nat → Nat → Int32} {J : Nat → Nat → Int64} {p : Bool × Option Nat} {ro : List (Nat × Nat × (Nat → Int32))} {b : Nat} (hb : b < 50) (hk : I 96 b = nI 1) {t : TS} {I1 : Nat → Nat → Int32} (hB : BRr I t I1) (ht : t.2 < 2 ^ 20 - 400) {x : Int32} : Pv 4 0 0 CX12_plainWaits [.ref (65), .int (nI b), .int (x)] (gS, I1, J, gR p, ro) (fun r S' => r = some (.int (((x + nI b) + nI 3) * nI 2)) ∧ ∃ I' t', S' = (gS, I', J, gR p, ro) ∧ BRr I t' I' ∧ t' = sp_nts t [10, 20, 1]) := by
  refine ⟨okCX12_plainWaits, Nat.le_of_ble_eq_true rfl, (show Px _ _ _ _ 0 [some (.ref (65)), some (.int (nI b)), some (.int (x))] [] _ _ from ?_)⟩
  refine px_aload_n (kk := 0) rfl rfl rfl ?_
  refine px_bipush (v := nI 10) rfl b_10 ?_
  refine px_callV0 CX12_ran [] [.int _] (vX12_ran hB (by omega)) rfl gS_65 (by decide) rfl rfl rfl (Nat.le_of_ble_eq_true rfl) (by decide) ?_
  rintro _ _ - ⟨rfl, I2, t2, rfl, hB2, ht2⟩
  have hn2 : t2.2 = t.2 + 1 := by rw [ht2]; exact sp_nts_2 _ _
  refine px_aload_n (kk := 0) rfl rfl rfl ?_
  refine px_iload_n (kk := 1) rfl rfl rfl ?_
  refine px_iload_n (kk := 2) rfl rfl rfl ?_
  refine px_callV0 CX12_warming [] [.int _, .int _] (vX12_warming_1 hb hk hB2 (by omega)) rfl gS_65 (by decide) rfl rfl rfl (Nat.le_of_ble_eq_true rfl) (by decide) ?_
  rintro _ _ - ⟨rfl, I3, t3, rfl, hB3, ht3⟩
  have hn3 : t3.2 = t2.2 + 2 := by rw [ht3]; exact sp_nts_2 _ _
  refine px_iconst (v := nI 2) rfl k_2 ?_
  refine px_imul rfl ?_
  refine px_ireturn rfl (.inl rfl) ?_
  exact ⟨rfl, I3, t3, rfl, hB3, by first | (rw [ht3, ht2]; done) | (rw [ht3, ht2]; rfl)⟩
theorem vX12_plainCrosses_1 {I : Nat → Nat → Int32} {J : Nat → Nat → Int64} {p : Bool × Option Nat} {ro : List (Nat × Nat × (Nat → Int32))} {b : Nat} (hb : b < 50) (hk : I 96 b = nI 1) {t : TS} {I1 : Nat → Nat → Int32} (hB : BRr I t I1) (ht : t.2 < 2 ^ 20 - 100) {x : Int32} : Pv 1 0 0 CX12_plainCrosses [.ref (65), .int (nI b), .int (x)] (gS, I1, J, gR p, ro) (fun r S' => r = some (.int (x ^^^ nI b)) ∧ ∃ I' t', S' = (gS, I', J, gR p, ro) ∧ BRr I t' I' ∧ t' = sp_nts t [11]) := by
  refine ⟨okCX12_plainCrosses, Nat.le_of_ble_eq_true rfl, (show Px _ _ _ _ 0 [some (.ref (65)), some (.int (nI b)), some (.int (x))] [] _ _ from ?_)⟩
  refine px_aload_n (kk := 0) rfl rfl rfl ?_
  refine px_bipush (v := nI 11) rfl b_11 ?_
  refine px_callV0 CX12_ran [] [.int _] (vX12_ran hB (by omega)) rfl gS_65 (by decide) rfl rfl rfl (Nat.le_of_ble_eq_true rfl) (by decide) ?_
  rintro _ _ - ⟨rfl, I2, t2, rfl, hB2, ht2⟩
  have hn2 : t2.2 = t.2 + 1 := by rw [ht2]; exact sp_nts_2 _ _
  refine px_iload_n (kk := 2) rfl rfl rfl ?_
  refine px_iload_n (kk := 1) rfl rfl rfl ?_
  refine px_ixor rfl ?_
  refine px_ireturn rfl (.inl rfl) ?_
  exact ⟨rfl, I2, t2, rfl, hB2, by first | (rw [ht2]; done) | (rw [ht2]; rfl)⟩
theorem vX12_crossing_1 {I : Nat → Nat → Int32} {J : Nat → Nat → Int64} {p : Bool × Option Nat} {ro : List (Nat × Nat × (Nat → Int32))} {b : Nat} (hb : b < 50) (hk : I 96 b = nI 1) {t : TS} {I1 : Nat → Nat → Int32} (hB : BRr I t I1) (ht : t.2 < 2 ^ 20 - 400) {x : Int32} : Pv 4 0 0 CX12_crossing [.ref (65), .int (nI b), .int (x)] (gS, I1, J, gR p, ro) (fun r S' => r = some (.int (x ^^^ nI b)) ∧ ∃ I' t', S' = (gS, I', J, gR p, ro) ∧ BRr I t' I' ∧ t' = sp_nts t [11]) := by
  refine ⟨okCX12_crossing, Nat.le_of_ble_eq_true rfl, (show Px _ _ _ _ 0 [some (.ref (65)), some (.int (nI b)), some (.int (x)), none] [] _ _ from ?_)⟩
  refine px_aload_n (kk := 0) rfl rfl rfl ?_
  refine px_getR (r := 96) rfl gS_65 rfl (gR_65_56 _) ?_
  refine px_iload_n (kk := 1) rfl rfl rfl ?_
  refine px_ialde (j := b) (v := nI 1) rfl gS_96 rfl (by omega) (by first | exact hk | exact (congrFun (hB.1 96 (by decide)) b).trans hk | exact (congrFun (hB2.1 96 (by decide)) b).trans hk | exact (congrFun (hB3.1 96 (by decide)) b).trans hk) ?_
  refine px_iconst (v := nI 5) rfl k_5 ?_
  refine px_icmp_ne rfl (fun _ => ?_) (fun h => absurd h (by decide))
  refine px_aload_n (kk := 0) rfl rfl rfl ?_
  refine px_getR (r := 96) rfl gS_65 rfl (gR_65_56 _) ?_
  refine px_iload_n (kk := 1) rfl rfl rfl ?_
  refine px_ialde (j := b) (v := nI 1) rfl gS_96 rfl (by omega) (by first | exact hk | exact (congrFun (hB.1 96 (by decide)) b).trans hk | exact (congrFun (hB2.1 96 (by decide)) b).trans hk | exact (congrFun (hB3.1 96 (by decide)) b).trans hk) ?_
  refine px_iconst (v := nI 3) rfl k_3 ?_
  refine px_icmp_ne rfl (fun _ => ?_) (fun h => absurd h (by decide))
  refine px_aload_n (kk := 0) rfl rfl rfl ?_
  refine px_iload_n (kk := 1) rfl rfl rfl ?_
  refine px_iload_n (kk := 2) rfl rfl rfl ?_
  refine px_callV0 CX12_plainCrosses [] [.int _, .int _] (vX12_plainCrosses_1 hb hk hB (by omega)) rfl gS_65 (by decide) rfl rfl rfl (Nat.le_of_ble_eq_true rfl) (by decide) ?_
  rintro _ _ - ⟨rfl, I2, t2, rfl, hB2, ht2⟩
  have hn2 : t2.2 = t.2 + 1 := by rw [ht2]; exact sp_nts_2 _ _
  refine px_ireturn rfl (.inl rfl) ?_
  exact ⟨rfl, I2, t2, rfl, hB2, by first | (rw [ht2]; done) | (rw [ht2]; rfl)⟩
theorem vX12_waiting_1 {I : Nat → Nat → Int32} {J : Nat → Nat → Int64} {p : Bool × Option Nat} {ro : List (Nat × Nat × (Nat → Int32))} {b : Nat} (hb : b < 50) (hk : I 96 b = nI 1) {t : TS} {I1 : Nat → Nat → Int32} (hB : BRr I t I1) (ht : t.2 < 2 ^ 20 - 600) {x : Int32} : Pv 6 0 0 CX12_waiting [.ref (65), .int (nI b), .int (x)] (gS, I1, J, gR p, ro) (fun r S' => r = some (.int (((x + nI b) + nI 3) * nI 2)) ∧ ∃ I' t', S' = (gS, I', J, gR p, ro) ∧ BRr I t' I' ∧ t' = sp_nts t [10, 20, 1]) := by
  refine ⟨okCX12_waiting, Nat.le_of_ble_eq_true rfl, (show Px _ _ _ _ 0 [some (.ref (65)), some (.int (nI b)), some (.int (x)), none] [] _ _ from ?_)⟩
  refine px_aload_n (kk := 0) rfl rfl rfl ?_
  refine px_getR (r := 96) rfl gS_65 rfl (gR_65_56 _) ?_
  refine px_iload_n (kk := 1) rfl rfl rfl ?_
  refine px_ialde (j := b) (v := nI 1) rfl gS_96 rfl (by omega) (by first | exact hk | exact (congrFun (hB.1 96 (by decide)) b).trans hk | exact (congrFun (hB2.1 96 (by decide)) b).trans hk | exact (congrFun (hB3.1 96 (by decide)) b).trans hk) ?_
  refine px_iconst (v := nI 3) rfl k_3 ?_
  refine px_callS0 CX12_isUnder [] [.int _, .int _] (vX12_unc_1_3) rfl rfl rfl (Nat.le_of_ble_eq_true rfl) (by decide) ?_
  rintro _ _ - ⟨rfl, rfl⟩
  refine px_if_eq rfl (fun _ => ?_) (fun h => absurd h (by decide))
  refine px_aload_n (kk := 0) rfl rfl rfl ?_
  refine px_getR (r := 96) rfl gS_65 rfl (gR_65_56 _) ?_
  refine px_iload_n (kk := 1) rfl rfl rfl ?_
  refine px_ialde (j := b) (v := nI 1) rfl gS_96 rfl (by omega) (by first | exact hk | exact (congrFun (hB.1 96 (by decide)) b).trans hk | exact (congrFun (hB2.1 96 (by decide)) b).trans hk | exact (congrFun (hB3.1 96 (by decide)) b).trans hk) ?_
  refine px_bipush (v := nI 7) rfl b_7 ?_
  refine px_icmp_ne rfl (fun _ => ?_) (fun h => absurd h (by decide))
  refine px_aload_n (kk := 0) rfl rfl rfl ?_
  refine px_getR (r := 96) rfl gS_65 rfl (gR_65_56 _) ?_
  refine px_iload_n (kk := 1) rfl rfl rfl ?_
  refine px_ialde (j := b) (v := nI 1) rfl gS_96 rfl (by omega) (by first | exact hk | exact (congrFun (hB.1 96 (by decide)) b).trans hk | exact (congrFun (hB2.1 96 (by decide)) b).trans hk | exact (congrFun (hB3.1 96 (by decide)) b).trans hk) ?_
  refine px_iconst (v := nI 2) rfl k_2 ?_
  refine px_icmp_ne rfl (fun _ => ?_) (fun h => absurd h (by decide))
  refine px_aload_n (kk := 0) rfl rfl rfl ?_
  refine px_iload_n (kk := 1) rfl rfl rfl ?_
  refine px_iload_n (kk := 2) rfl rfl rfl ?_
  refine px_callV0 CX12_plainWaits [] [.int _, .int _] (vX12_plainWaits_1 hb hk hB (by omega)) rfl gS_65 (by decide) rfl rfl rfl (Nat.le_of_ble_eq_true rfl) (by decide) ?_
  rintro _ _ - ⟨rfl, I2, t2, rfl, hB2, ht2⟩
  have hn2 : t2.2 = t.2 + 3 := by rw [ht2]; exact sp_nts_2 _ _
  refine px_ireturn rfl (.inl rfl) ?_
  exact ⟨rfl, I2, t2, rfl, hB2, by first | (rw [ht2]; done) | (rw [ht2]; rfl)⟩
theorem vX12_plainTells_1 {I : Nat → Nat → Int32} {J : Nat → Nat → Int64} {p : Bool × Option Nat} {ro : List (Nat × Nat × (Nat → Int32))} {b : Nat} (hb : b < 50) (hk : I 96 b = nI 1) {t : TS} {I1 : Nat → Nat → Int32} (hB : BRr I t I1) (ht : t.2 < 2 ^ 20 - 700) {x : Int32} : Pv 7 0 0 CX12_plainTells [.ref (65), .int (nI b), .int (x)] (gS, I1, J, gR p, ro) (fun r S' => r = some (.int ((((x + nI b) + nI 3) * nI 2) - (nI 1 ^^^ nI b))) ∧ ∃ I' t', S' = (gS, I', J, gR p, ro) ∧ BRr I t' I' ∧ t' = sp_nts t [2, 10, 20, 1, 11]) := by
  refine ⟨okCX12_plainTells, Nat.le_of_ble_eq_true rfl, (show Px _ _ _ _ 0 [some (.ref (65)), some (.int (nI b)), some (.int (x)), none] [] _ _ from ?_)⟩
  refine px_aload_n (kk := 0) rfl rfl rfl ?_
  refine px_iconst (v := nI 2) rfl k_2 ?_
  refine px_callV0 CX12_ran [] [.int _] (vX12_ran hB (by omega)) rfl gS_65 (by decide) rfl rfl rfl (Nat.le_of_ble_eq_true rfl) (by decide) ?_
  rintro _ _ - ⟨rfl, I2, t2, rfl, hB2, ht2⟩
  have hn2 : t2.2 = t.2 + 1 := by rw [ht2]; exact sp_nts_2 _ _
  refine px_aload_n (kk := 0) rfl rfl rfl ?_
  refine px_iload_n (kk := 1) rfl rfl rfl ?_
  refine px_iload_n (kk := 2) rfl rfl rfl ?_
  refine px_callV0 CX12_waiting [] [.int _, .int _] (vX12_waiting_1 hb hk hB2 (by omega)) rfl gS_65 (by decide) rfl rfl rfl (Nat.le_of_ble_eq_true rfl) (by decide) ?_
  rintro _ _ - ⟨rfl, I3, t3, rfl, hB3, ht3⟩
  have hn3 : t3.2 = t2.2 + 3 := by rw [ht3]; exact sp_nts_2 _ _
  refine px_ist3 rfl rfl (by decide) ?_
  refine px_iload_n (kk := 3) rfl rfl rfl ?_
  refine px_aload_n (kk := 0) rfl rfl rfl ?_
  refine px_iload_n (kk := 1) rfl rfl rfl ?_
  refine px_iconst (v := nI 1) rfl k_1 ?_
  refine px_callV0 CX12_crossing [.int _] [.int _, .int _] (vX12_crossing_1 hb hk hB3 (by omega)) rfl gS_65 (by decide) rfl rfl rfl (Nat.le_of_ble_eq_true rfl) (by decide) ?_
  rintro _ _ - ⟨rfl, I4, t4, rfl, hB4, ht4⟩
  have hn4 : t4.2 = t3.2 + 1 := by rw [ht4]; exact sp_nts_2 _ _
  refine px_isub rfl ?_
  refine px_ireturn rfl (.inl rfl) ?_
  exact ⟨rfl, I4, t4, rfl, hB4, by first | (rw [ht4, ht3, ht2]; done) | (rw [ht4, ht3, ht2]; rfl)⟩
theorem vX12_telling_1 {I : Nat → Nat → Int32} {J : Nat → Nat → Int64} {p : Bool × Option Nat} {ro : List (Nat × Nat × (Nat → Int32))} {b : Nat} (hb : b < 50) (hk : I 96 b = nI 1) {t : TS} {I1 : Nat → Nat → Int32} (hB : BRr I t I1) (ht : t.2 < 2 ^ 20 - 800) {x : Int32} : Pv 8 0 0 CX12_telling [.ref (65), .int (nI b), .int (x)] (gS, I1, J, gR p, ro) (fun r S' => r = some (.int ((((x + nI b) + nI 3) * nI 2) - (nI 1 ^^^ nI b))) ∧ ∃ I' t', S' = (gS, I', J, gR p, ro) ∧ BRr I t' I' ∧ t' = sp_nts t [2, 10, 20, 1, 11]) := by
  refine ⟨okCX12_telling, Nat.le_of_ble_eq_true rfl, (show Px _ _ _ _ 0 [some (.ref (65)), some (.int (nI b)), some (.int (x))] [] _ _ from ?_)⟩
  refine px_aload_n (kk := 0) rfl rfl rfl ?_
  refine px_getR (r := 96) rfl gS_65 rfl (gR_65_56 _) ?_
  refine px_iload_n (kk := 1) rfl rfl rfl ?_
  refine px_ialde (j := b) (v := nI 1) rfl gS_96 rfl (by omega) (by first | exact hk | exact (congrFun (hB.1 96 (by decide)) b).trans hk | exact (congrFun (hB2.1 96 (by decide)) b).trans hk | exact (congrFun (hB3.1 96 (by decide)) b).trans hk) ?_
  refine px_iconst (v := nI 4) rfl k_4 ?_
  refine px_icmp_ne rfl (fun _ => ?_) (fun h => absurd h (by decide))
  refine px_aload_n (kk := 0) rfl rfl rfl ?_
  refine px_getR (r := 96) rfl gS_65 rfl (gR_65_56 _) ?_
  refine px_iload_n (kk := 1) rfl rfl rfl ?_
  refine px_ialde (j := b) (v := nI 1) rfl gS_96 rfl (by omega) (by first | exact hk | exact (congrFun (hB.1 96 (by decide)) b).trans hk | exact (congrFun (hB2.1 96 (by decide)) b).trans hk | exact (congrFun (hB3.1 96 (by decide)) b).trans hk) ?_
  refine px_iconst (v := nI 5) rfl k_5 ?_
  refine px_icmp_ne rfl (fun _ => ?_) (fun h => absurd h (by decide))
  refine px_aload_n (kk := 0) rfl rfl rfl ?_
  refine px_iload_n (kk := 1) rfl rfl rfl ?_
  refine px_iload_n (kk := 2) rfl rfl rfl ?_
  refine px_callV0 CX12_plainTells [] [.int _, .int _] (vX12_plainTells_1 hb hk hB (by omega)) rfl gS_65 (by decide) rfl rfl rfl (Nat.le_of_ble_eq_true rfl) (by decide) ?_
  rintro _ _ - ⟨rfl, I2, t2, rfl, hB2, ht2⟩
  have hn2 : t2.2 = t.2 + 5 := by rw [ht2]; exact sp_nts_2 _ _
  refine px_ireturn rfl (.inl rfl) ?_
  exact ⟨rfl, I2, t2, rfl, hB2, by first | (rw [ht2]; done) | (rw [ht2]; rfl)⟩
theorem vX12_plainWarms_2 {I : Nat → Nat → Int32} {J : Nat → Nat → Int64} {p : Bool × Option Nat} {ro : List (Nat × Nat × (Nat → Int32))} {b : Nat} (hb : b < 50) (hk : I 96 b = nI 2) {t : TS} {I1 : Nat → Nat → Int32} (hB : BRr I t I1) (ht : t.2 < 2 ^ 20 - 100) {x : Int32} : Pv 1 0 0 CX12_plainWarms [.ref (65), .int (nI b), .int (x)] (gS, I1, J, gR p, ro) (fun r S' => r = some (.int (x + nI b)) ∧ ∃ I' t', S' = (gS, I', J, gR p, ro) ∧ BRr I t' I' ∧ t' = sp_nts t [1]) := by
  refine ⟨okCX12_plainWarms, Nat.le_of_ble_eq_true rfl, (show Px _ _ _ _ 0 [some (.ref (65)), some (.int (nI b)), some (.int (x))] [] _ _ from ?_)⟩
  refine px_aload_n (kk := 0) rfl rfl rfl ?_
  refine px_iconst (v := nI 1) rfl k_1 ?_
  refine px_callV0 CX12_ran [] [.int _] (vX12_ran hB (by omega)) rfl gS_65 (by decide) rfl rfl rfl (Nat.le_of_ble_eq_true rfl) (by decide) ?_
  rintro _ _ - ⟨rfl, I2, t2, rfl, hB2, ht2⟩
  have hn2 : t2.2 = t.2 + 1 := by rw [ht2]; exact sp_nts_2 _ _
  refine px_iload_n (kk := 2) rfl rfl rfl ?_
  refine px_iload_n (kk := 1) rfl rfl rfl ?_
  refine px_iadd rfl ?_
  refine px_ireturn rfl (.inl rfl) ?_
  exact ⟨rfl, I2, t2, rfl, hB2, by first | (rw [ht2]; done) | (rw [ht2]; rfl)⟩
theorem vX12_warming_2 {I : Nat → Nat → Int32} {J : Nat → Nat → Int64} {p : Bool × Option Nat} {ro : List (Nat × Nat × (Nat → Int32))} {b : Nat} (hb : b < 50) (hk : I 96 b = nI 2) {t : TS} {I1 : Nat → Nat → Int32} (hB : BRr I t I1) (ht : t.2 < 2 ^ 20 - 300) {x : Int32} : Pv 3 0 0 CX12_warming [.ref (65), .int (nI b), .int (x)] (gS, I1, J, gR p, ro) (fun r S' => r = some (.int (x + nI b)) ∧ ∃ I' t', S' = (gS, I', J, gR p, ro) ∧ BRr I t' I' ∧ t' = sp_nts t [1]) := by
  refine ⟨okCX12_warming, Nat.le_of_ble_eq_true rfl, (show Px _ _ _ _ 0 [some (.ref (65)), some (.int (nI b)), some (.int (x))] [] _ _ from ?_)⟩
  refine px_aload_n (kk := 0) rfl rfl rfl ?_
  refine px_getR (r := 96) rfl gS_65 rfl (gR_65_56 _) ?_
  refine px_iload_n (kk := 1) rfl rfl rfl ?_
  refine px_ialde (j := b) (v := nI 2) rfl gS_96 rfl (by omega) (by first | exact hk | exact (congrFun (hB.1 96 (by decide)) b).trans hk | exact (congrFun (hB2.1 96 (by decide)) b).trans hk | exact (congrFun (hB3.1 96 (by decide)) b).trans hk) ?_
  refine px_iconst (v := nI 1) rfl k_1 ?_
  refine px_callS0 CX12_isUnder [] [.int _, .int _] (vX12_unc_2_1) rfl rfl rfl (Nat.le_of_ble_eq_true rfl) (by decide) ?_
  rintro _ _ - ⟨rfl, rfl⟩
  refine px_if_eq rfl (fun _ => ?_) (fun h => absurd h (by decide))
  refine px_aload_n (kk := 0) rfl rfl rfl ?_
  refine px_getR (r := 96) rfl gS_65 rfl (gR_65_56 _) ?_
  refine px_iload_n (kk := 1) rfl rfl rfl ?_
  refine px_ialde (j := b) (v := nI 2) rfl gS_96 rfl (by omega) (by first | exact hk | exact (congrFun (hB.1 96 (by decide)) b).trans hk | exact (congrFun (hB2.1 96 (by decide)) b).trans hk | exact (congrFun (hB3.1 96 (by decide)) b).trans hk) ?_
  refine px_bipush (v := nI 7) rfl b_7 ?_
  refine px_icmp_ne rfl (fun _ => ?_) (fun h => absurd h (by decide))
  refine px_aload_n (kk := 0) rfl rfl rfl ?_
  refine px_getR (r := 96) rfl gS_65 rfl (gR_65_56 _) ?_
  refine px_iload_n (kk := 1) rfl rfl rfl ?_
  refine px_ialde (j := b) (v := nI 2) rfl gS_96 rfl (by omega) (by first | exact hk | exact (congrFun (hB.1 96 (by decide)) b).trans hk | exact (congrFun (hB2.1 96 (by decide)) b).trans hk | exact (congrFun (hB3.1 96 (by decide)) b).trans hk) ?_
  refine px_bipush (v := nI 6) rfl b_6 ?_
  refine px_icmp_ne rfl (fun _ => ?_) (fun h => absurd h (by decide))
  refine px_aload_n (kk := 0) rfl rfl rfl ?_
  refine px_iload_n (kk := 1) rfl rfl rfl ?_
  refine px_iload_n (kk := 2) rfl rfl rfl ?_
  refine px_callV0 CX12_plainWarms [] [.int _, .int _] (vX12_plainWarms_2 hb hk hB (by omega)) rfl gS_65 (by decide) rfl rfl rfl (Nat.le_of_ble_eq_true rfl) (by decide) ?_
  rintro _ _ - ⟨rfl, I2, t2, rfl, hB2, ht2⟩
  have hn2 : t2.2 = t.2 + 1 := by rw [ht2]; exact sp_nts_2 _ _
  refine px_ireturn rfl (.inl rfl) ?_
  exact ⟨rfl, I2, t2, rfl, hB2, by first | (rw [ht2]; done) | (rw [ht2]; rfl)⟩
theorem vX12_plainWaits_2 {I : Nat → Nat → Int32} {J : Nat → Nat → Int64} {p : Bool × Option Nat} {ro : List (Nat × Nat × (Nat → Int32))} {b : Nat} (hb : b < 50) (hk : I 96 b = nI 2) {t : TS} {I1 : Nat → Nat → Int32} (hB : BRr I t I1) (ht : t.2 < 2 ^ 20 - 400) {x : Int32} : Pv 4 0 0 CX12_plainWaits [.ref (65), .int (nI b), .int (x)] (gS, I1, J, gR p, ro) (fun r S' => r = some (.int ((x + nI b) * nI 2)) ∧ ∃ I' t', S' = (gS, I', J, gR p, ro) ∧ BRr I t' I' ∧ t' = sp_nts t [10, 1]) := by
  refine ⟨okCX12_plainWaits, Nat.le_of_ble_eq_true rfl, (show Px _ _ _ _ 0 [some (.ref (65)), some (.int (nI b)), some (.int (x))] [] _ _ from ?_)⟩
  refine px_aload_n (kk := 0) rfl rfl rfl ?_
  refine px_bipush (v := nI 10) rfl b_10 ?_
  refine px_callV0 CX12_ran [] [.int _] (vX12_ran hB (by omega)) rfl gS_65 (by decide) rfl rfl rfl (Nat.le_of_ble_eq_true rfl) (by decide) ?_
  rintro _ _ - ⟨rfl, I2, t2, rfl, hB2, ht2⟩
  have hn2 : t2.2 = t.2 + 1 := by rw [ht2]; exact sp_nts_2 _ _
  refine px_aload_n (kk := 0) rfl rfl rfl ?_
  refine px_iload_n (kk := 1) rfl rfl rfl ?_
  refine px_iload_n (kk := 2) rfl rfl rfl ?_
  refine px_callV0 CX12_warming [] [.int _, .int _] (vX12_warming_2 hb hk hB2 (by omega)) rfl gS_65 (by decide) rfl rfl rfl (Nat.le_of_ble_eq_true rfl) (by decide) ?_
  rintro _ _ - ⟨rfl, I3, t3, rfl, hB3, ht3⟩
  have hn3 : t3.2 = t2.2 + 1 := by rw [ht3]; exact sp_nts_2 _ _
  refine px_iconst (v := nI 2) rfl k_2 ?_
  refine px_imul rfl ?_
  refine px_ireturn rfl (.inl rfl) ?_
  exact ⟨rfl, I3, t3, rfl, hB3, by first | (rw [ht3, ht2]; done) | (rw [ht3, ht2]; rfl)⟩
theorem vX12_cordWaits_2 {I : Nat → Nat → Int32} {J : Nat → Nat → Int64} {p : Bool × Option Nat} {ro : List (Nat × Nat × (Nat → Int32))} {b : Nat} (hb : b < 50) (hk : I 96 b = nI 2) {t : TS} {I1 : Nat → Nat → Int32} (hB : BRr I t I1) (ht : t.2 < 2 ^ 20 - 500) {x : Int32} : Pv 5 0 0 CX12_cordWaits [.ref (65), .int (nI b), .int (x)] (gS, I1, J, gR p, ro) (fun r S' => r = some (.int (-((x + nI b) * nI 2))) ∧ ∃ I' t', S' = (gS, I', J, gR p, ro) ∧ BRr I t' I' ∧ t' = sp_nts t [30, 10, 1]) := by
  refine ⟨okCX12_cordWaits, Nat.le_of_ble_eq_true rfl, (show Px _ _ _ _ 0 [some (.ref (65)), some (.int (nI b)), some (.int (x))] [] _ _ from ?_)⟩
  refine px_aload_n (kk := 0) rfl rfl rfl ?_
  refine px_bipush (v := nI 30) rfl b_30 ?_
  refine px_callV0 CX12_ran [] [.int _] (vX12_ran hB (by omega)) rfl gS_65 (by decide) rfl rfl rfl (Nat.le_of_ble_eq_true rfl) (by decide) ?_
  rintro _ _ - ⟨rfl, I2, t2, rfl, hB2, ht2⟩
  have hn2 : t2.2 = t.2 + 1 := by rw [ht2]; exact sp_nts_2 _ _
  refine px_aload_n (kk := 0) rfl rfl rfl ?_
  refine px_iload_n (kk := 1) rfl rfl rfl ?_
  refine px_iload_n (kk := 2) rfl rfl rfl ?_
  refine px_callV0 CX12_plainWaits [] [.int _, .int _] (vX12_plainWaits_2 hb hk hB2 (by omega)) rfl gS_65 (by decide) rfl rfl rfl (Nat.le_of_ble_eq_true rfl) (by decide) ?_
  rintro _ _ - ⟨rfl, I3, t3, rfl, hB3, ht3⟩
  have hn3 : t3.2 = t2.2 + 2 := by rw [ht3]; exact sp_nts_2 _ _
  refine px_ineg rfl ?_
  refine px_ireturn rfl (.inl rfl) ?_
  exact ⟨rfl, I3, t3, rfl, hB3, by first | (rw [ht3, ht2]; done) | (rw [ht3, ht2]; rfl)⟩
theorem vX12_plainCrosses_2 {I : Nat → Nat → Int32} {J : Nat → Nat → Int64} {p : Bool × Option Nat} {ro : List (Nat × Nat × (Nat → Int32))} {b : Nat} (hb : b < 50) (hk : I 96 b = nI 2) {t : TS} {I1 : Nat → Nat → Int32} (hB : BRr I t I1) (ht : t.2 < 2 ^ 20 - 100) {x : Int32} : Pv 1 0 0 CX12_plainCrosses [.ref (65), .int (nI b), .int (x)] (gS, I1, J, gR p, ro) (fun r S' => r = some (.int (x ^^^ nI b)) ∧ ∃ I' t', S' = (gS, I', J, gR p, ro) ∧ BRr I t' I' ∧ t' = sp_nts t [11]) := by
  refine ⟨okCX12_plainCrosses, Nat.le_of_ble_eq_true rfl, (show Px _ _ _ _ 0 [some (.ref (65)), some (.int (nI b)), some (.int (x))] [] _ _ from ?_)⟩
  refine px_aload_n (kk := 0) rfl rfl rfl ?_
  refine px_bipush (v := nI 11) rfl b_11 ?_
  refine px_callV0 CX12_ran [] [.int _] (vX12_ran hB (by omega)) rfl gS_65 (by decide) rfl rfl rfl (Nat.le_of_ble_eq_true rfl) (by decide) ?_
  rintro _ _ - ⟨rfl, I2, t2, rfl, hB2, ht2⟩
  have hn2 : t2.2 = t.2 + 1 := by rw [ht2]; exact sp_nts_2 _ _
  refine px_iload_n (kk := 2) rfl rfl rfl ?_
  refine px_iload_n (kk := 1) rfl rfl rfl ?_
  refine px_ixor rfl ?_
  refine px_ireturn rfl (.inl rfl) ?_
  exact ⟨rfl, I2, t2, rfl, hB2, by first | (rw [ht2]; done) | (rw [ht2]; rfl)⟩
theorem vX12_crossing_2 {I : Nat → Nat → Int32} {J : Nat → Nat → Int64} {p : Bool × Option Nat} {ro : List (Nat × Nat × (Nat → Int32))} {b : Nat} (hb : b < 50) (hk : I 96 b = nI 2) {t : TS} {I1 : Nat → Nat → Int32} (hB : BRr I t I1) (ht : t.2 < 2 ^ 20 - 400) {x : Int32} : Pv 4 0 0 CX12_crossing [.ref (65), .int (nI b), .int (x)] (gS, I1, J, gR p, ro) (fun r S' => r = some (.int (x ^^^ nI b)) ∧ ∃ I' t', S' = (gS, I', J, gR p, ro) ∧ BRr I t' I' ∧ t' = sp_nts t [11]) := by
  refine ⟨okCX12_crossing, Nat.le_of_ble_eq_true rfl, (show Px _ _ _ _ 0 [some (.ref (65)), some (.int (nI b)), some (.int (x)), none] [] _ _ from ?_)⟩
  refine px_aload_n (kk := 0) rfl rfl rfl ?_
  refine px_getR (r := 96) rfl gS_65 rfl (gR_65_56 _) ?_
  refine px_iload_n (kk := 1) rfl rfl rfl ?_
  refine px_ialde (j := b) (v := nI 2) rfl gS_96 rfl (by omega) (by first | exact hk | exact (congrFun (hB.1 96 (by decide)) b).trans hk | exact (congrFun (hB2.1 96 (by decide)) b).trans hk | exact (congrFun (hB3.1 96 (by decide)) b).trans hk) ?_
  refine px_iconst (v := nI 5) rfl k_5 ?_
  refine px_icmp_ne rfl (fun _ => ?_) (fun h => absurd h (by decide))
  refine px_aload_n (kk := 0) rfl rfl rfl ?_
  refine px_getR (r := 96) rfl gS_65 rfl (gR_65_56 _) ?_
  refine px_iload_n (kk := 1) rfl rfl rfl ?_
  refine px_ialde (j := b) (v := nI 2) rfl gS_96 rfl (by omega) (by first | exact hk | exact (congrFun (hB.1 96 (by decide)) b).trans hk | exact (congrFun (hB2.1 96 (by decide)) b).trans hk | exact (congrFun (hB3.1 96 (by decide)) b).trans hk) ?_
  refine px_iconst (v := nI 3) rfl k_3 ?_
  refine px_icmp_ne rfl (fun _ => ?_) (fun h => absurd h (by decide))
  refine px_aload_n (kk := 0) rfl rfl rfl ?_
  refine px_iload_n (kk := 1) rfl rfl rfl ?_
  refine px_iload_n (kk := 2) rfl rfl rfl ?_
  refine px_callV0 CX12_plainCrosses [] [.int _, .int _] (vX12_plainCrosses_2 hb hk hB (by omega)) rfl gS_65 (by decide) rfl rfl rfl (Nat.le_of_ble_eq_true rfl) (by decide) ?_
  rintro _ _ - ⟨rfl, I2, t2, rfl, hB2, ht2⟩
  have hn2 : t2.2 = t.2 + 1 := by rw [ht2]; exact sp_nts_2 _ _
  refine px_ireturn rfl (.inl rfl) ?_
  exact ⟨rfl, I2, t2, rfl, hB2, by first | (rw [ht2]; done) | (rw [ht2]; rfl)⟩
theorem vX12_waiting_2 {I : Nat → Nat → Int32} {J : Nat → Nat → Int64} {p : Bool × Option Nat} {ro : List (Nat × Nat × (Nat → Int32))} {b : Nat} (hb : b < 50) (hk : I 96 b = nI 2) {t : TS} {I1 : Nat → Nat → Int32} (hB : BRr I t I1) (ht : t.2 < 2 ^ 20 - 600) {x : Int32} : Pv 6 0 0 CX12_waiting [.ref (65), .int (nI b), .int (x)] (gS, I1, J, gR p, ro) (fun r S' => r = some (.int (-((x + nI b) * nI 2))) ∧ ∃ I' t', S' = (gS, I', J, gR p, ro) ∧ BRr I t' I' ∧ t' = sp_nts t [30, 10, 1]) := by
  refine ⟨okCX12_waiting, Nat.le_of_ble_eq_true rfl, (show Px _ _ _ _ 0 [some (.ref (65)), some (.int (nI b)), some (.int (x)), none] [] _ _ from ?_)⟩
  refine px_aload_n (kk := 0) rfl rfl rfl ?_
  refine px_getR (r := 96) rfl gS_65 rfl (gR_65_56 _) ?_
  refine px_iload_n (kk := 1) rfl rfl rfl ?_
  refine px_ialde (j := b) (v := nI 2) rfl gS_96 rfl (by omega) (by first | exact hk | exact (congrFun (hB.1 96 (by decide)) b).trans hk | exact (congrFun (hB2.1 96 (by decide)) b).trans hk | exact (congrFun (hB3.1 96 (by decide)) b).trans hk) ?_
  refine px_iconst (v := nI 3) rfl k_3 ?_
  refine px_callS0 CX12_isUnder [] [.int _, .int _] (vX12_unc_2_3) rfl rfl rfl (Nat.le_of_ble_eq_true rfl) (by decide) ?_
  rintro _ _ - ⟨rfl, rfl⟩
  refine px_if_eq rfl (fun _ => ?_) (fun h => absurd h (by decide))
  refine px_aload_n (kk := 0) rfl rfl rfl ?_
  refine px_getR (r := 96) rfl gS_65 rfl (gR_65_56 _) ?_
  refine px_iload_n (kk := 1) rfl rfl rfl ?_
  refine px_ialde (j := b) (v := nI 2) rfl gS_96 rfl (by omega) (by first | exact hk | exact (congrFun (hB.1 96 (by decide)) b).trans hk | exact (congrFun (hB2.1 96 (by decide)) b).trans hk | exact (congrFun (hB3.1 96 (by decide)) b).trans hk) ?_
  refine px_bipush (v := nI 7) rfl b_7 ?_
  refine px_icmp_ne rfl (fun _ => ?_) (fun h => absurd h (by decide))
  refine px_aload_n (kk := 0) rfl rfl rfl ?_
  refine px_getR (r := 96) rfl gS_65 rfl (gR_65_56 _) ?_
  refine px_iload_n (kk := 1) rfl rfl rfl ?_
  refine px_ialde (j := b) (v := nI 2) rfl gS_96 rfl (by omega) (by first | exact hk | exact (congrFun (hB.1 96 (by decide)) b).trans hk | exact (congrFun (hB2.1 96 (by decide)) b).trans hk | exact (congrFun (hB3.1 96 (by decide)) b).trans hk) ?_
  refine px_iconst (v := nI 2) rfl k_2 ?_
  refine px_icmp_ne rfl (fun h => absurd h (by decide)) (fun _ => ?_)
  refine px_aload_n (kk := 0) rfl rfl rfl ?_
  refine px_iload_n (kk := 1) rfl rfl rfl ?_
  refine px_iload_n (kk := 2) rfl rfl rfl ?_
  refine px_callV0 CX12_cordWaits [] [.int _, .int _] (vX12_cordWaits_2 hb hk hB (by omega)) rfl gS_65 (by decide) rfl rfl rfl (Nat.le_of_ble_eq_true rfl) (by decide) ?_
  rintro _ _ - ⟨rfl, I2, t2, rfl, hB2, ht2⟩
  have hn2 : t2.2 = t.2 + 3 := by rw [ht2]; exact sp_nts_2 _ _
  refine px_goto rfl ?_
  refine px_ireturn rfl (.inl rfl) ?_
  exact ⟨rfl, I2, t2, rfl, hB2, by first | (rw [ht2]; done) | (rw [ht2]; rfl)⟩
theorem vX12_plainTells_2 {I : Nat → Nat → Int32} {J : Nat → Nat → Int64} {p : Bool × Option Nat} {ro : List (Nat × Nat × (Nat → Int32))} {b : Nat} (hb : b < 50) (hk : I 96 b = nI 2) {t : TS} {I1 : Nat → Nat → Int32} (hB : BRr I t I1) (ht : t.2 < 2 ^ 20 - 700) {x : Int32} : Pv 7 0 0 CX12_plainTells [.ref (65), .int (nI b), .int (x)] (gS, I1, J, gR p, ro) (fun r S' => r = some (.int ((-((x + nI b) * nI 2)) - (nI 1 ^^^ nI b))) ∧ ∃ I' t', S' = (gS, I', J, gR p, ro) ∧ BRr I t' I' ∧ t' = sp_nts t [2, 30, 10, 1, 11]) := by
  refine ⟨okCX12_plainTells, Nat.le_of_ble_eq_true rfl, (show Px _ _ _ _ 0 [some (.ref (65)), some (.int (nI b)), some (.int (x)), none] [] _ _ from ?_)⟩
  refine px_aload_n (kk := 0) rfl rfl rfl ?_
  refine px_iconst (v := nI 2) rfl k_2 ?_
  refine px_callV0 CX12_ran [] [.int _] (vX12_ran hB (by omega)) rfl gS_65 (by decide) rfl rfl rfl (Nat.le_of_ble_eq_true rfl) (by decide) ?_
  rintro _ _ - ⟨rfl, I2, t2, rfl, hB2, ht2⟩
  have hn2 : t2.2 = t.2 + 1 := by rw [ht2]; exact sp_nts_2 _ _
  refine px_aload_n (kk := 0) rfl rfl rfl ?_
  refine px_iload_n (kk := 1) rfl rfl rfl ?_
  refine px_iload_n (kk := 2) rfl rfl rfl ?_
  refine px_callV0 CX12_waiting [] [.int _, .int _] (vX12_waiting_2 hb hk hB2 (by omega)) rfl gS_65 (by decide) rfl rfl rfl (Nat.le_of_ble_eq_true rfl) (by decide) ?_
  rintro _ _ - ⟨rfl, I3, t3, rfl, hB3, ht3⟩
  have hn3 : t3.2 = t2.2 + 3 := by rw [ht3]; exact sp_nts_2 _ _
  refine px_ist3 rfl rfl (by decide) ?_
  refine px_iload_n (kk := 3) rfl rfl rfl ?_
  refine px_aload_n (kk := 0) rfl rfl rfl ?_
  refine px_iload_n (kk := 1) rfl rfl rfl ?_
  refine px_iconst (v := nI 1) rfl k_1 ?_
  refine px_callV0 CX12_crossing [.int _] [.int _, .int _] (vX12_crossing_2 hb hk hB3 (by omega)) rfl gS_65 (by decide) rfl rfl rfl (Nat.le_of_ble_eq_true rfl) (by decide) ?_
  rintro _ _ - ⟨rfl, I4, t4, rfl, hB4, ht4⟩
  have hn4 : t4.2 = t3.2 + 1 := by rw [ht4]; exact sp_nts_2 _ _
  refine px_isub rfl ?_
  refine px_ireturn rfl (.inl rfl) ?_
  exact ⟨rfl, I4, t4, rfl, hB4, by first | (rw [ht4, ht3, ht2]; done) | (rw [ht4, ht3, ht2]; rfl)⟩
theorem vX12_telling_2 {I : Nat → Nat → Int32} {J : Nat → Nat → Int64} {p : Bool × Option Nat} {ro : List (Nat × Nat × (Nat → Int32))} {b : Nat} (hb : b < 50) (hk : I 96 b = nI 2) {t : TS} {I1 : Nat → Nat → Int32} (hB : BRr I t I1) (ht : t.2 < 2 ^ 20 - 800) {x : Int32} : Pv 8 0 0 CX12_telling [.ref (65), .int (nI b), .int (x)] (gS, I1, J, gR p, ro) (fun r S' => r = some (.int ((-((x + nI b) * nI 2)) - (nI 1 ^^^ nI b))) ∧ ∃ I' t', S' = (gS, I', J, gR p, ro) ∧ BRr I t' I' ∧ t' = sp_nts t [2, 30, 10, 1, 11]) := by
  refine ⟨okCX12_telling, Nat.le_of_ble_eq_true rfl, (show Px _ _ _ _ 0 [some (.ref (65)), some (.int (nI b)), some (.int (x))] [] _ _ from ?_)⟩
  refine px_aload_n (kk := 0) rfl rfl rfl ?_
  refine px_getR (r := 96) rfl gS_65 rfl (gR_65_56 _) ?_
  refine px_iload_n (kk := 1) rfl rfl rfl ?_
  refine px_ialde (j := b) (v := nI 2) rfl gS_96 rfl (by omega) (by first | exact hk | exact (congrFun (hB.1 96 (by decide)) b).trans hk | exact (congrFun (hB2.1 96 (by decide)) b).trans hk | exact (congrFun (hB3.1 96 (by decide)) b).trans hk) ?_
  refine px_iconst (v := nI 4) rfl k_4 ?_
  refine px_icmp_ne rfl (fun _ => ?_) (fun h => absurd h (by decide))
  refine px_aload_n (kk := 0) rfl rfl rfl ?_
  refine px_getR (r := 96) rfl gS_65 rfl (gR_65_56 _) ?_
  refine px_iload_n (kk := 1) rfl rfl rfl ?_
  refine px_ialde (j := b) (v := nI 2) rfl gS_96 rfl (by omega) (by first | exact hk | exact (congrFun (hB.1 96 (by decide)) b).trans hk | exact (congrFun (hB2.1 96 (by decide)) b).trans hk | exact (congrFun (hB3.1 96 (by decide)) b).trans hk) ?_
  refine px_iconst (v := nI 5) rfl k_5 ?_
  refine px_icmp_ne rfl (fun _ => ?_) (fun h => absurd h (by decide))
  refine px_aload_n (kk := 0) rfl rfl rfl ?_
  refine px_iload_n (kk := 1) rfl rfl rfl ?_
  refine px_iload_n (kk := 2) rfl rfl rfl ?_
  refine px_callV0 CX12_plainTells [] [.int _, .int _] (vX12_plainTells_2 hb hk hB (by omega)) rfl gS_65 (by decide) rfl rfl rfl (Nat.le_of_ble_eq_true rfl) (by decide) ?_
  rintro _ _ - ⟨rfl, I2, t2, rfl, hB2, ht2⟩
  have hn2 : t2.2 = t.2 + 5 := by rw [ht2]; exact sp_nts_2 _ _
  refine px_ireturn rfl (.inl rfl) ?_
  exact ⟨rfl, I2, t2, rfl, hB2, by first | (rw [ht2]; done) | (rw [ht2]; rfl)⟩
theorem vX12_plainWarms_3 {I : Nat → Nat → Int32} {J : Nat → Nat → Int64} {p : Bool × Option Nat} {ro : List (Nat × Nat × (Nat → Int32))} {b : Nat} (hb : b < 50) (hk : I 96 b = nI 3) {t : TS} {I1 : Nat → Nat → Int32} (hB : BRr I t I1) (ht : t.2 < 2 ^ 20 - 100) {x : Int32} : Pv 1 0 0 CX12_plainWarms [.ref (65), .int (nI b), .int (x)] (gS, I1, J, gR p, ro) (fun r S' => r = some (.int (x + nI b)) ∧ ∃ I' t', S' = (gS, I', J, gR p, ro) ∧ BRr I t' I' ∧ t' = sp_nts t [1]) := by
  refine ⟨okCX12_plainWarms, Nat.le_of_ble_eq_true rfl, (show Px _ _ _ _ 0 [some (.ref (65)), some (.int (nI b)), some (.int (x))] [] _ _ from ?_)⟩
  refine px_aload_n (kk := 0) rfl rfl rfl ?_
  refine px_iconst (v := nI 1) rfl k_1 ?_
  refine px_callV0 CX12_ran [] [.int _] (vX12_ran hB (by omega)) rfl gS_65 (by decide) rfl rfl rfl (Nat.le_of_ble_eq_true rfl) (by decide) ?_
  rintro _ _ - ⟨rfl, I2, t2, rfl, hB2, ht2⟩
  have hn2 : t2.2 = t.2 + 1 := by rw [ht2]; exact sp_nts_2 _ _
  refine px_iload_n (kk := 2) rfl rfl rfl ?_
  refine px_iload_n (kk := 1) rfl rfl rfl ?_
  refine px_iadd rfl ?_
  refine px_ireturn rfl (.inl rfl) ?_
  exact ⟨rfl, I2, t2, rfl, hB2, by first | (rw [ht2]; done) | (rw [ht2]; rfl)⟩
theorem vX12_warming_3 {I : Nat → Nat → Int32} {J : Nat → Nat → Int64} {p : Bool × Option Nat} {ro : List (Nat × Nat × (Nat → Int32))} {b : Nat} (hb : b < 50) (hk : I 96 b = nI 3) {t : TS} {I1 : Nat → Nat → Int32} (hB : BRr I t I1) (ht : t.2 < 2 ^ 20 - 300) {x : Int32} : Pv 3 0 0 CX12_warming [.ref (65), .int (nI b), .int (x)] (gS, I1, J, gR p, ro) (fun r S' => r = some (.int (x + nI b)) ∧ ∃ I' t', S' = (gS, I', J, gR p, ro) ∧ BRr I t' I' ∧ t' = sp_nts t [1]) := by
  refine ⟨okCX12_warming, Nat.le_of_ble_eq_true rfl, (show Px _ _ _ _ 0 [some (.ref (65)), some (.int (nI b)), some (.int (x))] [] _ _ from ?_)⟩
  refine px_aload_n (kk := 0) rfl rfl rfl ?_
  refine px_getR (r := 96) rfl gS_65 rfl (gR_65_56 _) ?_
  refine px_iload_n (kk := 1) rfl rfl rfl ?_
  refine px_ialde (j := b) (v := nI 3) rfl gS_96 rfl (by omega) (by first | exact hk | exact (congrFun (hB.1 96 (by decide)) b).trans hk | exact (congrFun (hB2.1 96 (by decide)) b).trans hk | exact (congrFun (hB3.1 96 (by decide)) b).trans hk) ?_
  refine px_iconst (v := nI 1) rfl k_1 ?_
  refine px_callS0 CX12_isUnder [] [.int _, .int _] (vX12_unc_3_1) rfl rfl rfl (Nat.le_of_ble_eq_true rfl) (by decide) ?_
  rintro _ _ - ⟨rfl, rfl⟩
  refine px_if_eq rfl (fun _ => ?_) (fun h => absurd h (by decide))
  refine px_aload_n (kk := 0) rfl rfl rfl ?_
  refine px_getR (r := 96) rfl gS_65 rfl (gR_65_56 _) ?_
  refine px_iload_n (kk := 1) rfl rfl rfl ?_
  refine px_ialde (j := b) (v := nI 3) rfl gS_96 rfl (by omega) (by first | exact hk | exact (congrFun (hB.1 96 (by decide)) b).trans hk | exact (congrFun (hB2.1 96 (by decide)) b).trans hk | exact (congrFun (hB3.1 96 (by decide)) b).trans hk) ?_
  refine px_bipush (v := nI 7) rfl b_7 ?_
  refine px_icmp_ne rfl (fun _ => ?_) (fun h => absurd h (by decide))
  refine px_aload_n (kk := 0) rfl rfl rfl ?_
  refine px_getR (r := 96) rfl gS_65 rfl (gR_65_56 _) ?_
  refine px_iload_n (kk := 1) rfl rfl rfl ?_
  refine px_ialde (j := b) (v := nI 3) rfl gS_96 rfl (by omega) (by first | exact hk | exact (congrFun (hB.1 96 (by decide)) b).trans hk | exact (congrFun (hB2.1 96 (by decide)) b).trans hk | exact (congrFun (hB3.1 96 (by decide)) b).trans hk) ?_
  refine px_bipush (v := nI 6) rfl b_6 ?_
  refine px_icmp_ne rfl (fun _ => ?_) (fun h => absurd h (by decide))
  refine px_aload_n (kk := 0) rfl rfl rfl ?_
  refine px_iload_n (kk := 1) rfl rfl rfl ?_
  refine px_iload_n (kk := 2) rfl rfl rfl ?_
  refine px_callV0 CX12_plainWarms [] [.int _, .int _] (vX12_plainWarms_3 hb hk hB (by omega)) rfl gS_65 (by decide) rfl rfl rfl (Nat.le_of_ble_eq_true rfl) (by decide) ?_
  rintro _ _ - ⟨rfl, I2, t2, rfl, hB2, ht2⟩
  have hn2 : t2.2 = t.2 + 1 := by rw [ht2]; exact sp_nts_2 _ _
  refine px_ireturn rfl (.inl rfl) ?_
  exact ⟨rfl, I2, t2, rfl, hB2, by first | (rw [ht2]; done) | (rw [ht2]; rfl)⟩
theorem vX12_plainWaits_3 {I : Nat → Nat → Int32} {J : Nat → Nat → Int64} {p : Bool × Option Nat} {ro : List (Nat × Nat × (Nat → Int32))} {b : Nat} (hb : b < 50) (hk : I 96 b = nI 3) {t : TS} {I1 : Nat → Nat → Int32} (hB : BRr I t I1) (ht : t.2 < 2 ^ 20 - 400) {x : Int32} : Pv 4 0 0 CX12_plainWaits [.ref (65), .int (nI b), .int (x)] (gS, I1, J, gR p, ro) (fun r S' => r = some (.int ((x + nI b) * nI 2)) ∧ ∃ I' t', S' = (gS, I', J, gR p, ro) ∧ BRr I t' I' ∧ t' = sp_nts t [10, 1]) := by
  refine ⟨okCX12_plainWaits, Nat.le_of_ble_eq_true rfl, (show Px _ _ _ _ 0 [some (.ref (65)), some (.int (nI b)), some (.int (x))] [] _ _ from ?_)⟩
  refine px_aload_n (kk := 0) rfl rfl rfl ?_
  refine px_bipush (v := nI 10) rfl b_10 ?_
  refine px_callV0 CX12_ran [] [.int _] (vX12_ran hB (by omega)) rfl gS_65 (by decide) rfl rfl rfl (Nat.le_of_ble_eq_true rfl) (by decide) ?_
  rintro _ _ - ⟨rfl, I2, t2, rfl, hB2, ht2⟩
  have hn2 : t2.2 = t.2 + 1 := by rw [ht2]; exact sp_nts_2 _ _
  refine px_aload_n (kk := 0) rfl rfl rfl ?_
  refine px_iload_n (kk := 1) rfl rfl rfl ?_
  refine px_iload_n (kk := 2) rfl rfl rfl ?_
  refine px_callV0 CX12_warming [] [.int _, .int _] (vX12_warming_3 hb hk hB2 (by omega)) rfl gS_65 (by decide) rfl rfl rfl (Nat.le_of_ble_eq_true rfl) (by decide) ?_
  rintro _ _ - ⟨rfl, I3, t3, rfl, hB3, ht3⟩
  have hn3 : t3.2 = t2.2 + 1 := by rw [ht3]; exact sp_nts_2 _ _
  refine px_iconst (v := nI 2) rfl k_2 ?_
  refine px_imul rfl ?_
  refine px_ireturn rfl (.inl rfl) ?_
  exact ⟨rfl, I3, t3, rfl, hB3, by first | (rw [ht3, ht2]; done) | (rw [ht3, ht2]; rfl)⟩
theorem vX12_cordWaits_3 {I : Nat → Nat → Int32} {J : Nat → Nat → Int64} {p : Bool × Option Nat} {ro : List (Nat × Nat × (Nat → Int32))} {b : Nat} (hb : b < 50) (hk : I 96 b = nI 3) {t : TS} {I1 : Nat → Nat → Int32} (hB : BRr I t I1) (ht : t.2 < 2 ^ 20 - 500) {x : Int32} : Pv 5 0 0 CX12_cordWaits [.ref (65), .int (nI b), .int (x)] (gS, I1, J, gR p, ro) (fun r S' => r = some (.int (-((x + nI b) * nI 2))) ∧ ∃ I' t', S' = (gS, I', J, gR p, ro) ∧ BRr I t' I' ∧ t' = sp_nts t [30, 10, 1]) := by
  refine ⟨okCX12_cordWaits, Nat.le_of_ble_eq_true rfl, (show Px _ _ _ _ 0 [some (.ref (65)), some (.int (nI b)), some (.int (x))] [] _ _ from ?_)⟩
  refine px_aload_n (kk := 0) rfl rfl rfl ?_
  refine px_bipush (v := nI 30) rfl b_30 ?_
  refine px_callV0 CX12_ran [] [.int _] (vX12_ran hB (by omega)) rfl gS_65 (by decide) rfl rfl rfl (Nat.le_of_ble_eq_true rfl) (by decide) ?_
  rintro _ _ - ⟨rfl, I2, t2, rfl, hB2, ht2⟩
  have hn2 : t2.2 = t.2 + 1 := by rw [ht2]; exact sp_nts_2 _ _
  refine px_aload_n (kk := 0) rfl rfl rfl ?_
  refine px_iload_n (kk := 1) rfl rfl rfl ?_
  refine px_iload_n (kk := 2) rfl rfl rfl ?_
  refine px_callV0 CX12_plainWaits [] [.int _, .int _] (vX12_plainWaits_3 hb hk hB2 (by omega)) rfl gS_65 (by decide) rfl rfl rfl (Nat.le_of_ble_eq_true rfl) (by decide) ?_
  rintro _ _ - ⟨rfl, I3, t3, rfl, hB3, ht3⟩
  have hn3 : t3.2 = t2.2 + 2 := by rw [ht3]; exact sp_nts_2 _ _
  refine px_ineg rfl ?_
  refine px_ireturn rfl (.inl rfl) ?_
  exact ⟨rfl, I3, t3, rfl, hB3, by first | (rw [ht3, ht2]; done) | (rw [ht3, ht2]; rfl)⟩
theorem vX12_plainCrosses_3 {I : Nat → Nat → Int32} {J : Nat → Nat → Int64} {p : Bool × Option Nat} {ro : List (Nat × Nat × (Nat → Int32))} {b : Nat} (hb : b < 50) (hk : I 96 b = nI 3) {t : TS} {I1 : Nat → Nat → Int32} (hB : BRr I t I1) (ht : t.2 < 2 ^ 20 - 100) {x : Int32} : Pv 1 0 0 CX12_plainCrosses [.ref (65), .int (nI b), .int (x)] (gS, I1, J, gR p, ro) (fun r S' => r = some (.int (x ^^^ nI b)) ∧ ∃ I' t', S' = (gS, I', J, gR p, ro) ∧ BRr I t' I' ∧ t' = sp_nts t [11]) := by
  refine ⟨okCX12_plainCrosses, Nat.le_of_ble_eq_true rfl, (show Px _ _ _ _ 0 [some (.ref (65)), some (.int (nI b)), some (.int (x))] [] _ _ from ?_)⟩
  refine px_aload_n (kk := 0) rfl rfl rfl ?_
  refine px_bipush (v := nI 11) rfl b_11 ?_
  refine px_callV0 CX12_ran [] [.int _] (vX12_ran hB (by omega)) rfl gS_65 (by decide) rfl rfl rfl (Nat.le_of_ble_eq_true rfl) (by decide) ?_
  rintro _ _ - ⟨rfl, I2, t2, rfl, hB2, ht2⟩
  have hn2 : t2.2 = t.2 + 1 := by rw [ht2]; exact sp_nts_2 _ _
  refine px_iload_n (kk := 2) rfl rfl rfl ?_
  refine px_iload_n (kk := 1) rfl rfl rfl ?_
  refine px_ixor rfl ?_
  refine px_ireturn rfl (.inl rfl) ?_
  exact ⟨rfl, I2, t2, rfl, hB2, by first | (rw [ht2]; done) | (rw [ht2]; rfl)⟩
theorem vX12_widowCrosses_3 {I : Nat → Nat → Int32} {J : Nat → Nat → Int64} {p : Bool × Option Nat} {ro : List (Nat × Nat × (Nat → Int32))} {b : Nat} (hb : b < 50) (hk : I 96 b = nI 3) {t : TS} {I1 : Nat → Nat → Int32} (hB : BRr I t I1) (ht : t.2 < 2 ^ 20 - 200) {x : Int32} : Pv 2 0 0 CX12_widowCrosses [.ref (65), .int (nI b), .int (x)] (gS, I1, J, gR p, ro) (fun r S' => r = some (.int ((x ^^^ nI b) * nI 3)) ∧ ∃ I' t', S' = (gS, I', J, gR p, ro) ∧ BRr I t' I' ∧ t' = sp_nts t [40, 11]) := by
  refine ⟨okCX12_widowCrosses, Nat.le_of_ble_eq_true rfl, (show Px _ _ _ _ 0 [some (.ref (65)), some (.int (nI b)), some (.int (x))] [] _ _ from ?_)⟩
  refine px_aload_n (kk := 0) rfl rfl rfl ?_
  refine px_bipush (v := nI 40) rfl b_40 ?_
  refine px_callV0 CX12_ran [] [.int _] (vX12_ran hB (by omega)) rfl gS_65 (by decide) rfl rfl rfl (Nat.le_of_ble_eq_true rfl) (by decide) ?_
  rintro _ _ - ⟨rfl, I2, t2, rfl, hB2, ht2⟩
  have hn2 : t2.2 = t.2 + 1 := by rw [ht2]; exact sp_nts_2 _ _
  refine px_aload_n (kk := 0) rfl rfl rfl ?_
  refine px_iload_n (kk := 1) rfl rfl rfl ?_
  refine px_iload_n (kk := 2) rfl rfl rfl ?_
  refine px_callV0 CX12_plainCrosses [] [.int _, .int _] (vX12_plainCrosses_3 hb hk hB2 (by omega)) rfl gS_65 (by decide) rfl rfl rfl (Nat.le_of_ble_eq_true rfl) (by decide) ?_
  rintro _ _ - ⟨rfl, I3, t3, rfl, hB3, ht3⟩
  have hn3 : t3.2 = t2.2 + 1 := by rw [ht3]; exact sp_nts_2 _ _
  refine px_iconst (v := nI 3) rfl k_3 ?_
  refine px_imul rfl ?_
  refine px_ireturn rfl (.inl rfl) ?_
  exact ⟨rfl, I3, t3, rfl, hB3, by first | (rw [ht3, ht2]; done) | (rw [ht3, ht2]; rfl)⟩
theorem vX12_crossing_3 {I : Nat → Nat → Int32} {J : Nat → Nat → Int64} {p : Bool × Option Nat} {ro : List (Nat × Nat × (Nat → Int32))} {b : Nat} (hb : b < 50) (hk : I 96 b = nI 3) {t : TS} {I1 : Nat → Nat → Int32} (hB : BRr I t I1) (ht : t.2 < 2 ^ 20 - 400) {x : Int32} : Pv 4 0 0 CX12_crossing [.ref (65), .int (nI b), .int (x)] (gS, I1, J, gR p, ro) (fun r S' => r = some (.int ((x ^^^ nI b) * nI 3)) ∧ ∃ I' t', S' = (gS, I', J, gR p, ro) ∧ BRr I t' I' ∧ t' = sp_nts t [40, 11]) := by
  refine ⟨okCX12_crossing, Nat.le_of_ble_eq_true rfl, (show Px _ _ _ _ 0 [some (.ref (65)), some (.int (nI b)), some (.int (x)), none] [] _ _ from ?_)⟩
  refine px_aload_n (kk := 0) rfl rfl rfl ?_
  refine px_getR (r := 96) rfl gS_65 rfl (gR_65_56 _) ?_
  refine px_iload_n (kk := 1) rfl rfl rfl ?_
  refine px_ialde (j := b) (v := nI 3) rfl gS_96 rfl (by omega) (by first | exact hk | exact (congrFun (hB.1 96 (by decide)) b).trans hk | exact (congrFun (hB2.1 96 (by decide)) b).trans hk | exact (congrFun (hB3.1 96 (by decide)) b).trans hk) ?_
  refine px_iconst (v := nI 5) rfl k_5 ?_
  refine px_icmp_ne rfl (fun _ => ?_) (fun h => absurd h (by decide))
  refine px_aload_n (kk := 0) rfl rfl rfl ?_
  refine px_getR (r := 96) rfl gS_65 rfl (gR_65_56 _) ?_
  refine px_iload_n (kk := 1) rfl rfl rfl ?_
  refine px_ialde (j := b) (v := nI 3) rfl gS_96 rfl (by omega) (by first | exact hk | exact (congrFun (hB.1 96 (by decide)) b).trans hk | exact (congrFun (hB2.1 96 (by decide)) b).trans hk | exact (congrFun (hB3.1 96 (by decide)) b).trans hk) ?_
  refine px_iconst (v := nI 3) rfl k_3 ?_
  refine px_icmp_ne rfl (fun h => absurd h (by decide)) (fun _ => ?_)
  refine px_aload_n (kk := 0) rfl rfl rfl ?_
  refine px_iload_n (kk := 1) rfl rfl rfl ?_
  refine px_iload_n (kk := 2) rfl rfl rfl ?_
  refine px_callV0 CX12_widowCrosses [] [.int _, .int _] (vX12_widowCrosses_3 hb hk hB (by omega)) rfl gS_65 (by decide) rfl rfl rfl (Nat.le_of_ble_eq_true rfl) (by decide) ?_
  rintro _ _ - ⟨rfl, I2, t2, rfl, hB2, ht2⟩
  have hn2 : t2.2 = t.2 + 2 := by rw [ht2]; exact sp_nts_2 _ _
  refine px_goto rfl ?_
  refine px_ireturn rfl (.inl rfl) ?_
  exact ⟨rfl, I2, t2, rfl, hB2, by first | (rw [ht2]; done) | (rw [ht2]; rfl)⟩
theorem vX12_waiting_3 {I : Nat → Nat → Int32} {J : Nat → Nat → Int64} {p : Bool × Option Nat} {ro : List (Nat × Nat × (Nat → Int32))} {b : Nat} (hb : b < 50) (hk : I 96 b = nI 3) {t : TS} {I1 : Nat → Nat → Int32} (hB : BRr I t I1) (ht : t.2 < 2 ^ 20 - 600) {x : Int32} : Pv 6 0 0 CX12_waiting [.ref (65), .int (nI b), .int (x)] (gS, I1, J, gR p, ro) (fun r S' => r = some (.int (-(((x + nI 1) + nI b) * nI 2))) ∧ ∃ I' t', S' = (gS, I', J, gR p, ro) ∧ BRr I t' I' ∧ t' = sp_nts t [41, 30, 10, 1]) := by
  refine ⟨okCX12_waiting, Nat.le_of_ble_eq_true rfl, (show Px _ _ _ _ 0 [some (.ref (65)), some (.int (nI b)), some (.int (x)), none] [] _ _ from ?_)⟩
  refine px_aload_n (kk := 0) rfl rfl rfl ?_
  refine px_getR (r := 96) rfl gS_65 rfl (gR_65_56 _) ?_
  refine px_iload_n (kk := 1) rfl rfl rfl ?_
  refine px_ialde (j := b) (v := nI 3) rfl gS_96 rfl (by omega) (by first | exact hk | exact (congrFun (hB.1 96 (by decide)) b).trans hk | exact (congrFun (hB2.1 96 (by decide)) b).trans hk | exact (congrFun (hB3.1 96 (by decide)) b).trans hk) ?_
  refine px_iconst (v := nI 3) rfl k_3 ?_
  refine px_callS0 CX12_isUnder [] [.int _, .int _] (vX12_unc_3_3) rfl rfl rfl (Nat.le_of_ble_eq_true rfl) (by decide) ?_
  rintro _ _ - ⟨rfl, rfl⟩
  refine px_if_eq rfl (fun h => absurd h (by decide)) (fun _ => ?_)
  refine px_aload_n (kk := 0) rfl rfl rfl ?_
  refine px_bipush (v := nI 41) rfl b_41 ?_
  refine px_callV0 CX12_ran [] [.int _] (vX12_ran hB (by omega)) rfl gS_65 (by decide) rfl rfl rfl (Nat.le_of_ble_eq_true rfl) (by decide) ?_
  rintro _ _ - ⟨rfl, I2, t2, rfl, hB2, ht2⟩
  have hn2 : t2.2 = t.2 + 1 := by rw [ht2]; exact sp_nts_2 _ _
  refine px_aload_n (kk := 0) rfl rfl rfl ?_
  refine px_iload_n (kk := 1) rfl rfl rfl ?_
  refine px_iload_n (kk := 2) rfl rfl rfl ?_
  refine px_iconst (v := nI 1) rfl k_1 ?_
  refine px_iadd rfl ?_
  refine px_callV0 CX12_cordWaits [] [.int _, .int _] (vX12_cordWaits_3 hb hk hB2 (by omega)) rfl gS_65 (by decide) rfl rfl rfl (Nat.le_of_ble_eq_true rfl) (by decide) ?_
  rintro _ _ - ⟨rfl, I3, t3, rfl, hB3, ht3⟩
  have hn3 : t3.2 = t2.2 + 3 := by rw [ht3]; exact sp_nts_2 _ _
  refine px_ireturn rfl (.inl rfl) ?_
  exact ⟨rfl, I3, t3, rfl, hB3, by first | (rw [ht3, ht2]; done) | (rw [ht3, ht2]; rfl)⟩
theorem vX12_plainTells_3 {I : Nat → Nat → Int32} {J : Nat → Nat → Int64} {p : Bool × Option Nat} {ro : List (Nat × Nat × (Nat → Int32))} {b : Nat} (hb : b < 50) (hk : I 96 b = nI 3) {t : TS} {I1 : Nat → Nat → Int32} (hB : BRr I t I1) (ht : t.2 < 2 ^ 20 - 700) {x : Int32} : Pv 7 0 0 CX12_plainTells [.ref (65), .int (nI b), .int (x)] (gS, I1, J, gR p, ro) (fun r S' => r = some (.int ((-(((x + nI 1) + nI b) * nI 2)) - ((nI 1 ^^^ nI b) * nI 3))) ∧ ∃ I' t', S' = (gS, I', J, gR p, ro) ∧ BRr I t' I' ∧ t' = sp_nts t [2, 41, 30, 10, 1, 40, 11]) := by
  refine ⟨okCX12_plainTells, Nat.le_of_ble_eq_true rfl, (show Px _ _ _ _ 0 [some (.ref (65)), some (.int (nI b)), some (.int (x)), none] [] _ _ from ?_)⟩
  refine px_aload_n (kk := 0) rfl rfl rfl ?_
  refine px_iconst (v := nI 2) rfl k_2 ?_
  refine px_callV0 CX12_ran [] [.int _] (vX12_ran hB (by omega)) rfl gS_65 (by decide) rfl rfl rfl (Nat.le_of_ble_eq_true rfl) (by decide) ?_
  rintro _ _ - ⟨rfl, I2, t2, rfl, hB2, ht2⟩
  have hn2 : t2.2 = t.2 + 1 := by rw [ht2]; exact sp_nts_2 _ _
  refine px_aload_n (kk := 0) rfl rfl rfl ?_
  refine px_iload_n (kk := 1) rfl rfl rfl ?_
  refine px_iload_n (kk := 2) rfl rfl rfl ?_
  refine px_callV0 CX12_waiting [] [.int _, .int _] (vX12_waiting_3 hb hk hB2 (by omega)) rfl gS_65 (by decide) rfl rfl rfl (Nat.le_of_ble_eq_true rfl) (by decide) ?_
  rintro _ _ - ⟨rfl, I3, t3, rfl, hB3, ht3⟩
  have hn3 : t3.2 = t2.2 + 4 := by rw [ht3]; exact sp_nts_2 _ _
  refine px_ist3 rfl rfl (by decide) ?_
  refine px_iload_n (kk := 3) rfl rfl rfl ?_
  refine px_aload_n (kk := 0) rfl rfl rfl ?_
  refine px_iload_n (kk := 1) rfl rfl rfl ?_
  refine px_iconst (v := nI 1) rfl k_1 ?_
  refine px_callV0 CX12_crossing [.int _] [.int _, .int _] (vX12_crossing_3 hb hk hB3 (by omega)) rfl gS_65 (by decide) rfl rfl rfl (Nat.le_of_ble_eq_true rfl) (by decide) ?_
  rintro _ _ - ⟨rfl, I4, t4, rfl, hB4, ht4⟩
  have hn4 : t4.2 = t3.2 + 2 := by rw [ht4]; exact sp_nts_2 _ _
  refine px_isub rfl ?_
  refine px_ireturn rfl (.inl rfl) ?_
  exact ⟨rfl, I4, t4, rfl, hB4, by first | (rw [ht4, ht3, ht2]; done) | (rw [ht4, ht3, ht2]; rfl)⟩
theorem vX12_telling_3 {I : Nat → Nat → Int32} {J : Nat → Nat → Int64} {p : Bool × Option Nat} {ro : List (Nat × Nat × (Nat → Int32))} {b : Nat} (hb : b < 50) (hk : I 96 b = nI 3) {t : TS} {I1 : Nat → Nat → Int32} (hB : BRr I t I1) (ht : t.2 < 2 ^ 20 - 800) {x : Int32} : Pv 8 0 0 CX12_telling [.ref (65), .int (nI b), .int (x)] (gS, I1, J, gR p, ro) (fun r S' => r = some (.int ((-(((x + nI 1) + nI b) * nI 2)) - ((nI 1 ^^^ nI b) * nI 3))) ∧ ∃ I' t', S' = (gS, I', J, gR p, ro) ∧ BRr I t' I' ∧ t' = sp_nts t [2, 41, 30, 10, 1, 40, 11]) := by
  refine ⟨okCX12_telling, Nat.le_of_ble_eq_true rfl, (show Px _ _ _ _ 0 [some (.ref (65)), some (.int (nI b)), some (.int (x))] [] _ _ from ?_)⟩
  refine px_aload_n (kk := 0) rfl rfl rfl ?_
  refine px_getR (r := 96) rfl gS_65 rfl (gR_65_56 _) ?_
  refine px_iload_n (kk := 1) rfl rfl rfl ?_
  refine px_ialde (j := b) (v := nI 3) rfl gS_96 rfl (by omega) (by first | exact hk | exact (congrFun (hB.1 96 (by decide)) b).trans hk | exact (congrFun (hB2.1 96 (by decide)) b).trans hk | exact (congrFun (hB3.1 96 (by decide)) b).trans hk) ?_
  refine px_iconst (v := nI 4) rfl k_4 ?_
  refine px_icmp_ne rfl (fun _ => ?_) (fun h => absurd h (by decide))
  refine px_aload_n (kk := 0) rfl rfl rfl ?_
  refine px_getR (r := 96) rfl gS_65 rfl (gR_65_56 _) ?_
  refine px_iload_n (kk := 1) rfl rfl rfl ?_
  refine px_ialde (j := b) (v := nI 3) rfl gS_96 rfl (by omega) (by first | exact hk | exact (congrFun (hB.1 96 (by decide)) b).trans hk | exact (congrFun (hB2.1 96 (by decide)) b).trans hk | exact (congrFun (hB3.1 96 (by decide)) b).trans hk) ?_
  refine px_iconst (v := nI 5) rfl k_5 ?_
  refine px_icmp_ne rfl (fun _ => ?_) (fun h => absurd h (by decide))
  refine px_aload_n (kk := 0) rfl rfl rfl ?_
  refine px_iload_n (kk := 1) rfl rfl rfl ?_
  refine px_iload_n (kk := 2) rfl rfl rfl ?_
  refine px_callV0 CX12_plainTells [] [.int _, .int _] (vX12_plainTells_3 hb hk hB (by omega)) rfl gS_65 (by decide) rfl rfl rfl (Nat.le_of_ble_eq_true rfl) (by decide) ?_
  rintro _ _ - ⟨rfl, I2, t2, rfl, hB2, ht2⟩
  have hn2 : t2.2 = t.2 + 7 := by rw [ht2]; exact sp_nts_2 _ _
  refine px_ireturn rfl (.inl rfl) ?_
  exact ⟨rfl, I2, t2, rfl, hB2, by first | (rw [ht2]; done) | (rw [ht2]; rfl)⟩
theorem vX12_plainWarms_4 {I : Nat → Nat → Int32} {J : Nat → Nat → Int64} {p : Bool × Option Nat} {ro : List (Nat × Nat × (Nat → Int32))} {b : Nat} (hb : b < 50) (hk : I 96 b = nI 4) {t : TS} {I1 : Nat → Nat → Int32} (hB : BRr I t I1) (ht : t.2 < 2 ^ 20 - 100) {x : Int32} : Pv 1 0 0 CX12_plainWarms [.ref (65), .int (nI b), .int (x)] (gS, I1, J, gR p, ro) (fun r S' => r = some (.int (x + nI b)) ∧ ∃ I' t', S' = (gS, I', J, gR p, ro) ∧ BRr I t' I' ∧ t' = sp_nts t [1]) := by
  refine ⟨okCX12_plainWarms, Nat.le_of_ble_eq_true rfl, (show Px _ _ _ _ 0 [some (.ref (65)), some (.int (nI b)), some (.int (x))] [] _ _ from ?_)⟩
  refine px_aload_n (kk := 0) rfl rfl rfl ?_
  refine px_iconst (v := nI 1) rfl k_1 ?_
  refine px_callV0 CX12_ran [] [.int _] (vX12_ran hB (by omega)) rfl gS_65 (by decide) rfl rfl rfl (Nat.le_of_ble_eq_true rfl) (by decide) ?_
  rintro _ _ - ⟨rfl, I2, t2, rfl, hB2, ht2⟩
  have hn2 : t2.2 = t.2 + 1 := by rw [ht2]; exact sp_nts_2 _ _
  refine px_iload_n (kk := 2) rfl rfl rfl ?_
  refine px_iload_n (kk := 1) rfl rfl rfl ?_
  refine px_iadd rfl ?_
  refine px_ireturn rfl (.inl rfl) ?_
  exact ⟨rfl, I2, t2, rfl, hB2, by first | (rw [ht2]; done) | (rw [ht2]; rfl)⟩
theorem vX12_warming_4 {I : Nat → Nat → Int32} {J : Nat → Nat → Int64} {p : Bool × Option Nat} {ro : List (Nat × Nat × (Nat → Int32))} {b : Nat} (hb : b < 50) (hk : I 96 b = nI 4) {t : TS} {I1 : Nat → Nat → Int32} (hB : BRr I t I1) (ht : t.2 < 2 ^ 20 - 300) {x : Int32} : Pv 3 0 0 CX12_warming [.ref (65), .int (nI b), .int (x)] (gS, I1, J, gR p, ro) (fun r S' => r = some (.int ((x + nI b) + nI 3)) ∧ ∃ I' t', S' = (gS, I', J, gR p, ro) ∧ BRr I t' I' ∧ t' = sp_nts t [20, 1]) := by
  refine ⟨okCX12_warming, Nat.le_of_ble_eq_true rfl, (show Px _ _ _ _ 0 [some (.ref (65)), some (.int (nI b)), some (.int (x))] [] _ _ from ?_)⟩
  refine px_aload_n (kk := 0) rfl rfl rfl ?_
  refine px_getR (r := 96) rfl gS_65 rfl (gR_65_56 _) ?_
  refine px_iload_n (kk := 1) rfl rfl rfl ?_
  refine px_ialde (j := b) (v := nI 4) rfl gS_96 rfl (by omega) (by first | exact hk | exact (congrFun (hB.1 96 (by decide)) b).trans hk | exact (congrFun (hB2.1 96 (by decide)) b).trans hk | exact (congrFun (hB3.1 96 (by decide)) b).trans hk) ?_
  refine px_iconst (v := nI 1) rfl k_1 ?_
  refine px_callS0 CX12_isUnder [] [.int _, .int _] (vX12_unc_4_1) rfl rfl rfl (Nat.le_of_ble_eq_true rfl) (by decide) ?_
  rintro _ _ - ⟨rfl, rfl⟩
  refine px_if_eq rfl (fun h => absurd h (by decide)) (fun _ => ?_)
  refine px_aload_n (kk := 0) rfl rfl rfl ?_
  refine px_bipush (v := nI 20) rfl b_20 ?_
  refine px_callV0 CX12_ran [] [.int _] (vX12_ran hB (by omega)) rfl gS_65 (by decide) rfl rfl rfl (Nat.le_of_ble_eq_true rfl) (by decide) ?_
  rintro _ _ - ⟨rfl, I2, t2, rfl, hB2, ht2⟩
  have hn2 : t2.2 = t.2 + 1 := by rw [ht2]; exact sp_nts_2 _ _
  refine px_aload_n (kk := 0) rfl rfl rfl ?_
  refine px_iload_n (kk := 1) rfl rfl rfl ?_
  refine px_iload_n (kk := 2) rfl rfl rfl ?_
  refine px_callV0 CX12_plainWarms [] [.int _, .int _] (vX12_plainWarms_4 hb hk hB2 (by omega)) rfl gS_65 (by decide) rfl rfl rfl (Nat.le_of_ble_eq_true rfl) (by decide) ?_
  rintro _ _ - ⟨rfl, I3, t3, rfl, hB3, ht3⟩
  have hn3 : t3.2 = t2.2 + 1 := by rw [ht3]; exact sp_nts_2 _ _
  refine px_iconst (v := nI 3) rfl k_3 ?_
  refine px_iadd rfl ?_
  refine px_ireturn rfl (.inl rfl) ?_
  exact ⟨rfl, I3, t3, rfl, hB3, by first | (rw [ht3, ht2]; done) | (rw [ht3, ht2]; rfl)⟩
theorem vX12_plainWaits_4 {I : Nat → Nat → Int32} {J : Nat → Nat → Int64} {p : Bool × Option Nat} {ro : List (Nat × Nat × (Nat → Int32))} {b : Nat} (hb : b < 50) (hk : I 96 b = nI 4) {t : TS} {I1 : Nat → Nat → Int32} (hB : BRr I t I1) (ht : t.2 < 2 ^ 20 - 400) {x : Int32} : Pv 4 0 0 CX12_plainWaits [.ref (65), .int (nI b), .int (x)] (gS, I1, J, gR p, ro) (fun r S' => r = some (.int (((x + nI b) + nI 3) * nI 2)) ∧ ∃ I' t', S' = (gS, I', J, gR p, ro) ∧ BRr I t' I' ∧ t' = sp_nts t [10, 20, 1]) := by
  refine ⟨okCX12_plainWaits, Nat.le_of_ble_eq_true rfl, (show Px _ _ _ _ 0 [some (.ref (65)), some (.int (nI b)), some (.int (x))] [] _ _ from ?_)⟩
  refine px_aload_n (kk := 0) rfl rfl rfl ?_
  refine px_bipush (v := nI 10) rfl b_10 ?_
  refine px_callV0 CX12_ran [] [.int _] (vX12_ran hB (by omega)) rfl gS_65 (by decide) rfl rfl rfl (Nat.le_of_ble_eq_true rfl) (by decide) ?_
  rintro _ _ - ⟨rfl, I2, t2, rfl, hB2, ht2⟩
  have hn2 : t2.2 = t.2 + 1 := by rw [ht2]; exact sp_nts_2 _ _
  refine px_aload_n (kk := 0) rfl rfl rfl ?_
  refine px_iload_n (kk := 1) rfl rfl rfl ?_
  refine px_iload_n (kk := 2) rfl rfl rfl ?_
  refine px_callV0 CX12_warming [] [.int _, .int _] (vX12_warming_4 hb hk hB2 (by omega)) rfl gS_65 (by decide) rfl rfl rfl (Nat.le_of_ble_eq_true rfl) (by decide) ?_
  rintro _ _ - ⟨rfl, I3, t3, rfl, hB3, ht3⟩
  have hn3 : t3.2 = t2.2 + 2 := by rw [ht3]; exact sp_nts_2 _ _
  refine px_iconst (v := nI 2) rfl k_2 ?_
  refine px_imul rfl ?_
  refine px_ireturn rfl (.inl rfl) ?_
  exact ⟨rfl, I3, t3, rfl, hB3, by first | (rw [ht3, ht2]; done) | (rw [ht3, ht2]; rfl)⟩
theorem vX12_plainCrosses_4 {I : Nat → Nat → Int32} {J : Nat → Nat → Int64} {p : Bool × Option Nat} {ro : List (Nat × Nat × (Nat → Int32))} {b : Nat} (hb : b < 50) (hk : I 96 b = nI 4) {t : TS} {I1 : Nat → Nat → Int32} (hB : BRr I t I1) (ht : t.2 < 2 ^ 20 - 100) {x : Int32} : Pv 1 0 0 CX12_plainCrosses [.ref (65), .int (nI b), .int (x)] (gS, I1, J, gR p, ro) (fun r S' => r = some (.int (x ^^^ nI b)) ∧ ∃ I' t', S' = (gS, I', J, gR p, ro) ∧ BRr I t' I' ∧ t' = sp_nts t [11]) := by
  refine ⟨okCX12_plainCrosses, Nat.le_of_ble_eq_true rfl, (show Px _ _ _ _ 0 [some (.ref (65)), some (.int (nI b)), some (.int (x))] [] _ _ from ?_)⟩
  refine px_aload_n (kk := 0) rfl rfl rfl ?_
  refine px_bipush (v := nI 11) rfl b_11 ?_
  refine px_callV0 CX12_ran [] [.int _] (vX12_ran hB (by omega)) rfl gS_65 (by decide) rfl rfl rfl (Nat.le_of_ble_eq_true rfl) (by decide) ?_
  rintro _ _ - ⟨rfl, I2, t2, rfl, hB2, ht2⟩
  have hn2 : t2.2 = t.2 + 1 := by rw [ht2]; exact sp_nts_2 _ _
  refine px_iload_n (kk := 2) rfl rfl rfl ?_
  refine px_iload_n (kk := 1) rfl rfl rfl ?_
  refine px_ixor rfl ?_
  refine px_ireturn rfl (.inl rfl) ?_
  exact ⟨rfl, I2, t2, rfl, hB2, by first | (rw [ht2]; done) | (rw [ht2]; rfl)⟩
theorem vX12_crossing_4 {I : Nat → Nat → Int32} {J : Nat → Nat → Int64} {p : Bool × Option Nat} {ro : List (Nat × Nat × (Nat → Int32))} {b : Nat} (hb : b < 50) (hk : I 96 b = nI 4) {t : TS} {I1 : Nat → Nat → Int32} (hB : BRr I t I1) (ht : t.2 < 2 ^ 20 - 400) {x : Int32} : Pv 4 0 0 CX12_crossing [.ref (65), .int (nI b), .int (x)] (gS, I1, J, gR p, ro) (fun r S' => r = some (.int (x ^^^ nI b)) ∧ ∃ I' t', S' = (gS, I', J, gR p, ro) ∧ BRr I t' I' ∧ t' = sp_nts t [11]) := by
  refine ⟨okCX12_crossing, Nat.le_of_ble_eq_true rfl, (show Px _ _ _ _ 0 [some (.ref (65)), some (.int (nI b)), some (.int (x)), none] [] _ _ from ?_)⟩
  refine px_aload_n (kk := 0) rfl rfl rfl ?_
  refine px_getR (r := 96) rfl gS_65 rfl (gR_65_56 _) ?_
  refine px_iload_n (kk := 1) rfl rfl rfl ?_
  refine px_ialde (j := b) (v := nI 4) rfl gS_96 rfl (by omega) (by first | exact hk | exact (congrFun (hB.1 96 (by decide)) b).trans hk | exact (congrFun (hB2.1 96 (by decide)) b).trans hk | exact (congrFun (hB3.1 96 (by decide)) b).trans hk) ?_
  refine px_iconst (v := nI 5) rfl k_5 ?_
  refine px_icmp_ne rfl (fun _ => ?_) (fun h => absurd h (by decide))
  refine px_aload_n (kk := 0) rfl rfl rfl ?_
  refine px_getR (r := 96) rfl gS_65 rfl (gR_65_56 _) ?_
  refine px_iload_n (kk := 1) rfl rfl rfl ?_
  refine px_ialde (j := b) (v := nI 4) rfl gS_96 rfl (by omega) (by first | exact hk | exact (congrFun (hB.1 96 (by decide)) b).trans hk | exact (congrFun (hB2.1 96 (by decide)) b).trans hk | exact (congrFun (hB3.1 96 (by decide)) b).trans hk) ?_
  refine px_iconst (v := nI 3) rfl k_3 ?_
  refine px_icmp_ne rfl (fun _ => ?_) (fun h => absurd h (by decide))
  refine px_aload_n (kk := 0) rfl rfl rfl ?_
  refine px_iload_n (kk := 1) rfl rfl rfl ?_
  refine px_iload_n (kk := 2) rfl rfl rfl ?_
  refine px_callV0 CX12_plainCrosses [] [.int _, .int _] (vX12_plainCrosses_4 hb hk hB (by omega)) rfl gS_65 (by decide) rfl rfl rfl (Nat.le_of_ble_eq_true rfl) (by decide) ?_
  rintro _ _ - ⟨rfl, I2, t2, rfl, hB2, ht2⟩
  have hn2 : t2.2 = t.2 + 1 := by rw [ht2]; exact sp_nts_2 _ _
  refine px_ireturn rfl (.inl rfl) ?_
  exact ⟨rfl, I2, t2, rfl, hB2, by first | (rw [ht2]; done) | (rw [ht2]; rfl)⟩
theorem vX12_waiting_4 {I : Nat → Nat → Int32} {J : Nat → Nat → Int64} {p : Bool × Option Nat} {ro : List (Nat × Nat × (Nat → Int32))} {b : Nat} (hb : b < 50) (hk : I 96 b = nI 4) {t : TS} {I1 : Nat → Nat → Int32} (hB : BRr I t I1) (ht : t.2 < 2 ^ 20 - 600) {x : Int32} : Pv 6 0 0 CX12_waiting [.ref (65), .int (nI b), .int (x)] (gS, I1, J, gR p, ro) (fun r S' => r = some (.int (((x + nI b) + nI 3) * nI 2)) ∧ ∃ I' t', S' = (gS, I', J, gR p, ro) ∧ BRr I t' I' ∧ t' = sp_nts t [10, 20, 1]) := by
  refine ⟨okCX12_waiting, Nat.le_of_ble_eq_true rfl, (show Px _ _ _ _ 0 [some (.ref (65)), some (.int (nI b)), some (.int (x)), none] [] _ _ from ?_)⟩
  refine px_aload_n (kk := 0) rfl rfl rfl ?_
  refine px_getR (r := 96) rfl gS_65 rfl (gR_65_56 _) ?_
  refine px_iload_n (kk := 1) rfl rfl rfl ?_
  refine px_ialde (j := b) (v := nI 4) rfl gS_96 rfl (by omega) (by first | exact hk | exact (congrFun (hB.1 96 (by decide)) b).trans hk | exact (congrFun (hB2.1 96 (by decide)) b).trans hk | exact (congrFun (hB3.1 96 (by decide)) b).trans hk) ?_
  refine px_iconst (v := nI 3) rfl k_3 ?_
  refine px_callS0 CX12_isUnder [] [.int _, .int _] (vX12_unc_4_3) rfl rfl rfl (Nat.le_of_ble_eq_true rfl) (by decide) ?_
  rintro _ _ - ⟨rfl, rfl⟩
  refine px_if_eq rfl (fun _ => ?_) (fun h => absurd h (by decide))
  refine px_aload_n (kk := 0) rfl rfl rfl ?_
  refine px_getR (r := 96) rfl gS_65 rfl (gR_65_56 _) ?_
  refine px_iload_n (kk := 1) rfl rfl rfl ?_
  refine px_ialde (j := b) (v := nI 4) rfl gS_96 rfl (by omega) (by first | exact hk | exact (congrFun (hB.1 96 (by decide)) b).trans hk | exact (congrFun (hB2.1 96 (by decide)) b).trans hk | exact (congrFun (hB3.1 96 (by decide)) b).trans hk) ?_
  refine px_bipush (v := nI 7) rfl b_7 ?_
  refine px_icmp_ne rfl (fun _ => ?_) (fun h => absurd h (by decide))
  refine px_aload_n (kk := 0) rfl rfl rfl ?_
  refine px_getR (r := 96) rfl gS_65 rfl (gR_65_56 _) ?_
  refine px_iload_n (kk := 1) rfl rfl rfl ?_
  refine px_ialde (j := b) (v := nI 4) rfl gS_96 rfl (by omega) (by first | exact hk | exact (congrFun (hB.1 96 (by decide)) b).trans hk | exact (congrFun (hB2.1 96 (by decide)) b).trans hk | exact (congrFun (hB3.1 96 (by decide)) b).trans hk) ?_
  refine px_iconst (v := nI 2) rfl k_2 ?_
  refine px_icmp_ne rfl (fun _ => ?_) (fun h => absurd h (by decide))
  refine px_aload_n (kk := 0) rfl rfl rfl ?_
  refine px_iload_n (kk := 1) rfl rfl rfl ?_
  refine px_iload_n (kk := 2) rfl rfl rfl ?_
  refine px_callV0 CX12_plainWaits [] [.int _, .int _] (vX12_plainWaits_4 hb hk hB (by omega)) rfl gS_65 (by decide) rfl rfl rfl (Nat.le_of_ble_eq_true rfl) (by decide) ?_
  rintro _ _ - ⟨rfl, I2, t2, rfl, hB2, ht2⟩
  have hn2 : t2.2 = t.2 + 3 := by rw [ht2]; exact sp_nts_2 _ _
  refine px_ireturn rfl (.inl rfl) ?_
  exact ⟨rfl, I2, t2, rfl, hB2, by first | (rw [ht2]; done) | (rw [ht2]; rfl)⟩
theorem vX12_plainTells_4 {I : Nat → Nat → Int32} {J : Nat → Nat → Int64} {p : Bool × Option Nat} {ro : List (Nat × Nat × (Nat → Int32))} {b : Nat} (hb : b < 50) (hk : I 96 b = nI 4) {t : TS} {I1 : Nat → Nat → Int32} (hB : BRr I t I1) (ht : t.2 < 2 ^ 20 - 700) {x : Int32} : Pv 7 0 0 CX12_plainTells [.ref (65), .int (nI b), .int (x)] (gS, I1, J, gR p, ro) (fun r S' => r = some (.int ((((x + nI b) + nI 3) * nI 2) - (nI 1 ^^^ nI b))) ∧ ∃ I' t', S' = (gS, I', J, gR p, ro) ∧ BRr I t' I' ∧ t' = sp_nts t [2, 10, 20, 1, 11]) := by
  refine ⟨okCX12_plainTells, Nat.le_of_ble_eq_true rfl, (show Px _ _ _ _ 0 [some (.ref (65)), some (.int (nI b)), some (.int (x)), none] [] _ _ from ?_)⟩
  refine px_aload_n (kk := 0) rfl rfl rfl ?_
  refine px_iconst (v := nI 2) rfl k_2 ?_
  refine px_callV0 CX12_ran [] [.int _] (vX12_ran hB (by omega)) rfl gS_65 (by decide) rfl rfl rfl (Nat.le_of_ble_eq_true rfl) (by decide) ?_
  rintro _ _ - ⟨rfl, I2, t2, rfl, hB2, ht2⟩
  have hn2 : t2.2 = t.2 + 1 := by rw [ht2]; exact sp_nts_2 _ _
  refine px_aload_n (kk := 0) rfl rfl rfl ?_
  refine px_iload_n (kk := 1) rfl rfl rfl ?_
  refine px_iload_n (kk := 2) rfl rfl rfl ?_
  refine px_callV0 CX12_waiting [] [.int _, .int _] (vX12_waiting_4 hb hk hB2 (by omega)) rfl gS_65 (by decide) rfl rfl rfl (Nat.le_of_ble_eq_true rfl) (by decide) ?_
  rintro _ _ - ⟨rfl, I3, t3, rfl, hB3, ht3⟩
  have hn3 : t3.2 = t2.2 + 3 := by rw [ht3]; exact sp_nts_2 _ _
  refine px_ist3 rfl rfl (by decide) ?_
  refine px_iload_n (kk := 3) rfl rfl rfl ?_
  refine px_aload_n (kk := 0) rfl rfl rfl ?_
  refine px_iload_n (kk := 1) rfl rfl rfl ?_
  refine px_iconst (v := nI 1) rfl k_1 ?_
  refine px_callV0 CX12_crossing [.int _] [.int _, .int _] (vX12_crossing_4 hb hk hB3 (by omega)) rfl gS_65 (by decide) rfl rfl rfl (Nat.le_of_ble_eq_true rfl) (by decide) ?_
  rintro _ _ - ⟨rfl, I4, t4, rfl, hB4, ht4⟩
  have hn4 : t4.2 = t3.2 + 1 := by rw [ht4]; exact sp_nts_2 _ _
  refine px_isub rfl ?_
  refine px_ireturn rfl (.inl rfl) ?_
  exact ⟨rfl, I4, t4, rfl, hB4, by first | (rw [ht4, ht3, ht2]; done) | (rw [ht4, ht3, ht2]; rfl)⟩
theorem vX12_telling_4 {I : Nat → Nat → Int32} {J : Nat → Nat → Int64} {p : Bool × Option Nat} {ro : List (Nat × Nat × (Nat → Int32))} {b : Nat} (hb : b < 50) (hk : I 96 b = nI 4) {t : TS} {I1 : Nat → Nat → Int32} (hB : BRr I t I1) (ht : t.2 < 2 ^ 20 - 800) {x : Int32} : Pv 8 0 0 CX12_telling [.ref (65), .int (nI b), .int (x)] (gS, I1, J, gR p, ro) (fun r S' => r = some (.int (((((x + nI b) + nI 3) * nI 2) - (nI 1 ^^^ nI b)) ^^^ nI 5)) ∧ ∃ I' t', S' = (gS, I', J, gR p, ro) ∧ BRr I t' I' ∧ t' = sp_nts t [50, 2, 10, 20, 1, 11]) := by
  refine ⟨okCX12_telling, Nat.le_of_ble_eq_true rfl, (show Px _ _ _ _ 0 [some (.ref (65)), some (.int (nI b)), some (.int (x))] [] _ _ from ?_)⟩
  refine px_aload_n (kk := 0) rfl rfl rfl ?_
  refine px_getR (r := 96) rfl gS_65 rfl (gR_65_56 _) ?_
  refine px_iload_n (kk := 1) rfl rfl rfl ?_
  refine px_ialde (j := b) (v := nI 4) rfl gS_96 rfl (by omega) (by first | exact hk | exact (congrFun (hB.1 96 (by decide)) b).trans hk | exact (congrFun (hB2.1 96 (by decide)) b).trans hk | exact (congrFun (hB3.1 96 (by decide)) b).trans hk) ?_
  refine px_iconst (v := nI 4) rfl k_4 ?_
  refine px_icmp_ne rfl (fun h => absurd h (by decide)) (fun _ => ?_)
  refine px_aload_n (kk := 0) rfl rfl rfl ?_
  refine px_bipush (v := nI 50) rfl b_50 ?_
  refine px_callV0 CX12_ran [] [.int _] (vX12_ran hB (by omega)) rfl gS_65 (by decide) rfl rfl rfl (Nat.le_of_ble_eq_true rfl) (by decide) ?_
  rintro _ _ - ⟨rfl, I2, t2, rfl, hB2, ht2⟩
  have hn2 : t2.2 = t.2 + 1 := by rw [ht2]; exact sp_nts_2 _ _
  refine px_aload_n (kk := 0) rfl rfl rfl ?_
  refine px_iload_n (kk := 1) rfl rfl rfl ?_
  refine px_iload_n (kk := 2) rfl rfl rfl ?_
  refine px_callV0 CX12_plainTells [] [.int _, .int _] (vX12_plainTells_4 hb hk hB2 (by omega)) rfl gS_65 (by decide) rfl rfl rfl (Nat.le_of_ble_eq_true rfl) (by decide) ?_
  rintro _ _ - ⟨rfl, I3, t3, rfl, hB3, ht3⟩
  have hn3 : t3.2 = t2.2 + 5 := by rw [ht3]; exact sp_nts_2 _ _
  refine px_iconst (v := nI 5) rfl k_5 ?_
  refine px_ixor rfl ?_
  refine px_ireturn rfl (.inl rfl) ?_
  exact ⟨rfl, I3, t3, rfl, hB3, by first | (rw [ht3, ht2]; done) | (rw [ht3, ht2]; rfl)⟩
theorem vX12_plainWarms_5 {I : Nat → Nat → Int32} {J : Nat → Nat → Int64} {p : Bool × Option Nat} {ro : List (Nat × Nat × (Nat → Int32))} {b : Nat} (hb : b < 50) (hk : I 96 b = nI 5) {t : TS} {I1 : Nat → Nat → Int32} (hB : BRr I t I1) (ht : t.2 < 2 ^ 20 - 100) {x : Int32} : Pv 1 0 0 CX12_plainWarms [.ref (65), .int (nI b), .int (x)] (gS, I1, J, gR p, ro) (fun r S' => r = some (.int (x + nI b)) ∧ ∃ I' t', S' = (gS, I', J, gR p, ro) ∧ BRr I t' I' ∧ t' = sp_nts t [1]) := by
  refine ⟨okCX12_plainWarms, Nat.le_of_ble_eq_true rfl, (show Px _ _ _ _ 0 [some (.ref (65)), some (.int (nI b)), some (.int (x))] [] _ _ from ?_)⟩
  refine px_aload_n (kk := 0) rfl rfl rfl ?_
  refine px_iconst (v := nI 1) rfl k_1 ?_
  refine px_callV0 CX12_ran [] [.int _] (vX12_ran hB (by omega)) rfl gS_65 (by decide) rfl rfl rfl (Nat.le_of_ble_eq_true rfl) (by decide) ?_
  rintro _ _ - ⟨rfl, I2, t2, rfl, hB2, ht2⟩
  have hn2 : t2.2 = t.2 + 1 := by rw [ht2]; exact sp_nts_2 _ _
  refine px_iload_n (kk := 2) rfl rfl rfl ?_
  refine px_iload_n (kk := 1) rfl rfl rfl ?_
  refine px_iadd rfl ?_
  refine px_ireturn rfl (.inl rfl) ?_
  exact ⟨rfl, I2, t2, rfl, hB2, by first | (rw [ht2]; done) | (rw [ht2]; rfl)⟩
theorem vX12_warming_5 {I : Nat → Nat → Int32} {J : Nat → Nat → Int64} {p : Bool × Option Nat} {ro : List (Nat × Nat × (Nat → Int32))} {b : Nat} (hb : b < 50) (hk : I 96 b = nI 5) {t : TS} {I1 : Nat → Nat → Int32} (hB : BRr I t I1) (ht : t.2 < 2 ^ 20 - 300) {x : Int32} : Pv 3 0 0 CX12_warming [.ref (65), .int (nI b), .int (x)] (gS, I1, J, gR p, ro) (fun r S' => r = some (.int (x + nI b)) ∧ ∃ I' t', S' = (gS, I', J, gR p, ro) ∧ BRr I t' I' ∧ t' = sp_nts t [1]) := by
  refine ⟨okCX12_warming, Nat.le_of_ble_eq_true rfl, (show Px _ _ _ _ 0 [some (.ref (65)), some (.int (nI b)), some (.int (x))] [] _ _ from ?_)⟩
  refine px_aload_n (kk := 0) rfl rfl rfl ?_
  refine px_getR (r := 96) rfl gS_65 rfl (gR_65_56 _) ?_
  refine px_iload_n (kk := 1) rfl rfl rfl ?_
  refine px_ialde (j := b) (v := nI 5) rfl gS_96 rfl (by omega) (by first | exact hk | exact (congrFun (hB.1 96 (by decide)) b).trans hk | exact (congrFun (hB2.1 96 (by decide)) b).trans hk | exact (congrFun (hB3.1 96 (by decide)) b).trans hk) ?_
  refine px_iconst (v := nI 1) rfl k_1 ?_
  refine px_callS0 CX12_isUnder [] [.int _, .int _] (vX12_unc_5_1) rfl rfl rfl (Nat.le_of_ble_eq_true rfl) (by decide) ?_
  rintro _ _ - ⟨rfl, rfl⟩
  refine px_if_eq rfl (fun _ => ?_) (fun h => absurd h (by decide))
  refine px_aload_n (kk := 0) rfl rfl rfl ?_
  refine px_getR (r := 96) rfl gS_65 rfl (gR_65_56 _) ?_
  refine px_iload_n (kk := 1) rfl rfl rfl ?_
  refine px_ialde (j := b) (v := nI 5) rfl gS_96 rfl (by omega) (by first | exact hk | exact (congrFun (hB.1 96 (by decide)) b).trans hk | exact (congrFun (hB2.1 96 (by decide)) b).trans hk | exact (congrFun (hB3.1 96 (by decide)) b).trans hk) ?_
  refine px_bipush (v := nI 7) rfl b_7 ?_
  refine px_icmp_ne rfl (fun _ => ?_) (fun h => absurd h (by decide))
  refine px_aload_n (kk := 0) rfl rfl rfl ?_
  refine px_getR (r := 96) rfl gS_65 rfl (gR_65_56 _) ?_
  refine px_iload_n (kk := 1) rfl rfl rfl ?_
  refine px_ialde (j := b) (v := nI 5) rfl gS_96 rfl (by omega) (by first | exact hk | exact (congrFun (hB.1 96 (by decide)) b).trans hk | exact (congrFun (hB2.1 96 (by decide)) b).trans hk | exact (congrFun (hB3.1 96 (by decide)) b).trans hk) ?_
  refine px_bipush (v := nI 6) rfl b_6 ?_
  refine px_icmp_ne rfl (fun _ => ?_) (fun h => absurd h (by decide))
  refine px_aload_n (kk := 0) rfl rfl rfl ?_
  refine px_iload_n (kk := 1) rfl rfl rfl ?_
  refine px_iload_n (kk := 2) rfl rfl rfl ?_
  refine px_callV0 CX12_plainWarms [] [.int _, .int _] (vX12_plainWarms_5 hb hk hB (by omega)) rfl gS_65 (by decide) rfl rfl rfl (Nat.le_of_ble_eq_true rfl) (by decide) ?_
  rintro _ _ - ⟨rfl, I2, t2, rfl, hB2, ht2⟩
  have hn2 : t2.2 = t.2 + 1 := by rw [ht2]; exact sp_nts_2 _ _
  refine px_ireturn rfl (.inl rfl) ?_
  exact ⟨rfl, I2, t2, rfl, hB2, by first | (rw [ht2]; done) | (rw [ht2]; rfl)⟩
theorem vX12_plainWaits_5 {I : Nat → Nat → Int32} {J : Nat → Nat → Int64} {p : Bool × Option Nat} {ro : List (Nat × Nat × (Nat → Int32))} {b : Nat} (hb : b < 50) (hk : I 96 b = nI 5) {t : TS} {I1 : Nat → Nat → Int32} (hB : BRr I t I1) (ht : t.2 < 2 ^ 20 - 400) {x : Int32} : Pv 4 0 0 CX12_plainWaits [.ref (65), .int (nI b), .int (x)] (gS, I1, J, gR p, ro) (fun r S' => r = some (.int ((x + nI b) * nI 2)) ∧ ∃ I' t', S' = (gS, I', J, gR p, ro) ∧ BRr I t' I' ∧ t' = sp_nts t [10, 1]) := by
  refine ⟨okCX12_plainWaits, Nat.le_of_ble_eq_true rfl, (show Px _ _ _ _ 0 [some (.ref (65)), some (.int (nI b)), some (.int (x))] [] _ _ from ?_)⟩
  refine px_aload_n (kk := 0) rfl rfl rfl ?_
  refine px_bipush (v := nI 10) rfl b_10 ?_
  refine px_callV0 CX12_ran [] [.int _] (vX12_ran hB (by omega)) rfl gS_65 (by decide) rfl rfl rfl (Nat.le_of_ble_eq_true rfl) (by decide) ?_
  rintro _ _ - ⟨rfl, I2, t2, rfl, hB2, ht2⟩
  have hn2 : t2.2 = t.2 + 1 := by rw [ht2]; exact sp_nts_2 _ _
  refine px_aload_n (kk := 0) rfl rfl rfl ?_
  refine px_iload_n (kk := 1) rfl rfl rfl ?_
  refine px_iload_n (kk := 2) rfl rfl rfl ?_
  refine px_callV0 CX12_warming [] [.int _, .int _] (vX12_warming_5 hb hk hB2 (by omega)) rfl gS_65 (by decide) rfl rfl rfl (Nat.le_of_ble_eq_true rfl) (by decide) ?_
  rintro _ _ - ⟨rfl, I3, t3, rfl, hB3, ht3⟩
  have hn3 : t3.2 = t2.2 + 1 := by rw [ht3]; exact sp_nts_2 _ _
  refine px_iconst (v := nI 2) rfl k_2 ?_
  refine px_imul rfl ?_
  refine px_ireturn rfl (.inl rfl) ?_
  exact ⟨rfl, I3, t3, rfl, hB3, by first | (rw [ht3, ht2]; done) | (rw [ht3, ht2]; rfl)⟩
theorem vX12_cordWaits_5 {I : Nat → Nat → Int32} {J : Nat → Nat → Int64} {p : Bool × Option Nat} {ro : List (Nat × Nat × (Nat → Int32))} {b : Nat} (hb : b < 50) (hk : I 96 b = nI 5) {t : TS} {I1 : Nat → Nat → Int32} (hB : BRr I t I1) (ht : t.2 < 2 ^ 20 - 500) {x : Int32} : Pv 5 0 0 CX12_cordWaits [.ref (65), .int (nI b), .int (x)] (gS, I1, J, gR p, ro) (fun r S' => r = some (.int (-((x + nI b) * nI 2))) ∧ ∃ I' t', S' = (gS, I', J, gR p, ro) ∧ BRr I t' I' ∧ t' = sp_nts t [30, 10, 1]) := by
  refine ⟨okCX12_cordWaits, Nat.le_of_ble_eq_true rfl, (show Px _ _ _ _ 0 [some (.ref (65)), some (.int (nI b)), some (.int (x))] [] _ _ from ?_)⟩
  refine px_aload_n (kk := 0) rfl rfl rfl ?_
  refine px_bipush (v := nI 30) rfl b_30 ?_
  refine px_callV0 CX12_ran [] [.int _] (vX12_ran hB (by omega)) rfl gS_65 (by decide) rfl rfl rfl (Nat.le_of_ble_eq_true rfl) (by decide) ?_
  rintro _ _ - ⟨rfl, I2, t2, rfl, hB2, ht2⟩
  have hn2 : t2.2 = t.2 + 1 := by rw [ht2]; exact sp_nts_2 _ _
  refine px_aload_n (kk := 0) rfl rfl rfl ?_
  refine px_iload_n (kk := 1) rfl rfl rfl ?_
  refine px_iload_n (kk := 2) rfl rfl rfl ?_
  refine px_callV0 CX12_plainWaits [] [.int _, .int _] (vX12_plainWaits_5 hb hk hB2 (by omega)) rfl gS_65 (by decide) rfl rfl rfl (Nat.le_of_ble_eq_true rfl) (by decide) ?_
  rintro _ _ - ⟨rfl, I3, t3, rfl, hB3, ht3⟩
  have hn3 : t3.2 = t2.2 + 2 := by rw [ht3]; exact sp_nts_2 _ _
  refine px_ineg rfl ?_
  refine px_ireturn rfl (.inl rfl) ?_
  exact ⟨rfl, I3, t3, rfl, hB3, by first | (rw [ht3, ht2]; done) | (rw [ht3, ht2]; rfl)⟩
theorem vX12_plainCrosses_5 {I : Nat → Nat → Int32} {J : Nat → Nat → Int64} {p : Bool × Option Nat} {ro : List (Nat × Nat × (Nat → Int32))} {b : Nat} (hb : b < 50) (hk : I 96 b = nI 5) {t : TS} {I1 : Nat → Nat → Int32} (hB : BRr I t I1) (ht : t.2 < 2 ^ 20 - 100) {x : Int32} : Pv 1 0 0 CX12_plainCrosses [.ref (65), .int (nI b), .int (x)] (gS, I1, J, gR p, ro) (fun r S' => r = some (.int (x ^^^ nI b)) ∧ ∃ I' t', S' = (gS, I', J, gR p, ro) ∧ BRr I t' I' ∧ t' = sp_nts t [11]) := by
  refine ⟨okCX12_plainCrosses, Nat.le_of_ble_eq_true rfl, (show Px _ _ _ _ 0 [some (.ref (65)), some (.int (nI b)), some (.int (x))] [] _ _ from ?_)⟩
  refine px_aload_n (kk := 0) rfl rfl rfl ?_
  refine px_bipush (v := nI 11) rfl b_11 ?_
  refine px_callV0 CX12_ran [] [.int _] (vX12_ran hB (by omega)) rfl gS_65 (by decide) rfl rfl rfl (Nat.le_of_ble_eq_true rfl) (by decide) ?_
  rintro _ _ - ⟨rfl, I2, t2, rfl, hB2, ht2⟩
  have hn2 : t2.2 = t.2 + 1 := by rw [ht2]; exact sp_nts_2 _ _
  refine px_iload_n (kk := 2) rfl rfl rfl ?_
  refine px_iload_n (kk := 1) rfl rfl rfl ?_
  refine px_ixor rfl ?_
  refine px_ireturn rfl (.inl rfl) ?_
  exact ⟨rfl, I2, t2, rfl, hB2, by first | (rw [ht2]; done) | (rw [ht2]; rfl)⟩
theorem vX12_widowCrosses_5 {I : Nat → Nat → Int32} {J : Nat → Nat → Int64} {p : Bool × Option Nat} {ro : List (Nat × Nat × (Nat → Int32))} {b : Nat} (hb : b < 50) (hk : I 96 b = nI 5) {t : TS} {I1 : Nat → Nat → Int32} (hB : BRr I t I1) (ht : t.2 < 2 ^ 20 - 200) {x : Int32} : Pv 2 0 0 CX12_widowCrosses [.ref (65), .int (nI b), .int (x)] (gS, I1, J, gR p, ro) (fun r S' => r = some (.int ((x ^^^ nI b) * nI 3)) ∧ ∃ I' t', S' = (gS, I', J, gR p, ro) ∧ BRr I t' I' ∧ t' = sp_nts t [40, 11]) := by
  refine ⟨okCX12_widowCrosses, Nat.le_of_ble_eq_true rfl, (show Px _ _ _ _ 0 [some (.ref (65)), some (.int (nI b)), some (.int (x))] [] _ _ from ?_)⟩
  refine px_aload_n (kk := 0) rfl rfl rfl ?_
  refine px_bipush (v := nI 40) rfl b_40 ?_
  refine px_callV0 CX12_ran [] [.int _] (vX12_ran hB (by omega)) rfl gS_65 (by decide) rfl rfl rfl (Nat.le_of_ble_eq_true rfl) (by decide) ?_
  rintro _ _ - ⟨rfl, I2, t2, rfl, hB2, ht2⟩
  have hn2 : t2.2 = t.2 + 1 := by rw [ht2]; exact sp_nts_2 _ _
  refine px_aload_n (kk := 0) rfl rfl rfl ?_
  refine px_iload_n (kk := 1) rfl rfl rfl ?_
  refine px_iload_n (kk := 2) rfl rfl rfl ?_
  refine px_callV0 CX12_plainCrosses [] [.int _, .int _] (vX12_plainCrosses_5 hb hk hB2 (by omega)) rfl gS_65 (by decide) rfl rfl rfl (Nat.le_of_ble_eq_true rfl) (by decide) ?_
  rintro _ _ - ⟨rfl, I3, t3, rfl, hB3, ht3⟩
  have hn3 : t3.2 = t2.2 + 1 := by rw [ht3]; exact sp_nts_2 _ _
  refine px_iconst (v := nI 3) rfl k_3 ?_
  refine px_imul rfl ?_
  refine px_ireturn rfl (.inl rfl) ?_
  exact ⟨rfl, I3, t3, rfl, hB3, by first | (rw [ht3, ht2]; done) | (rw [ht3, ht2]; rfl)⟩
theorem vX12_crossing_5 {I : Nat → Nat → Int32} {J : Nat → Nat → Int64} {p : Bool × Option Nat} {ro : List (Nat × Nat × (Nat → Int32))} {b : Nat} (hb : b < 50) (hk : I 96 b = nI 5) {t : TS} {I1 : Nat → Nat → Int32} (hB : BRr I t I1) (ht : t.2 < 2 ^ 20 - 400) {x : Int32} : Pv 4 0 0 CX12_crossing [.ref (65), .int (nI b), .int (x)] (gS, I1, J, gR p, ro) (fun r S' => r = some (.int (((x ^^^ nI b) * nI 3) - (nI 2 + nI b))) ∧ ∃ I' t', S' = (gS, I', J, gR p, ro) ∧ BRr I t' I' ∧ t' = sp_nts t [60, 40, 11, 1]) := by
  refine ⟨okCX12_crossing, Nat.le_of_ble_eq_true rfl, (show Px _ _ _ _ 0 [some (.ref (65)), some (.int (nI b)), some (.int (x)), none] [] _ _ from ?_)⟩
  refine px_aload_n (kk := 0) rfl rfl rfl ?_
  refine px_getR (r := 96) rfl gS_65 rfl (gR_65_56 _) ?_
  refine px_iload_n (kk := 1) rfl rfl rfl ?_
  refine px_ialde (j := b) (v := nI 5) rfl gS_96 rfl (by omega) (by first | exact hk | exact (congrFun (hB.1 96 (by decide)) b).trans hk | exact (congrFun (hB2.1 96 (by decide)) b).trans hk | exact (congrFun (hB3.1 96 (by decide)) b).trans hk) ?_
  refine px_iconst (v := nI 5) rfl k_5 ?_
  refine px_icmp_ne rfl (fun h => absurd h (by decide)) (fun _ => ?_)
  refine px_aload_n (kk := 0) rfl rfl rfl ?_
  refine px_bipush (v := nI 60) rfl b_60 ?_
  refine px_callV0 CX12_ran [] [.int _] (vX12_ran hB (by omega)) rfl gS_65 (by decide) rfl rfl rfl (Nat.le_of_ble_eq_true rfl) (by decide) ?_
  rintro _ _ - ⟨rfl, I2, t2, rfl, hB2, ht2⟩
  have hn2 : t2.2 = t.2 + 1 := by rw [ht2]; exact sp_nts_2 _ _
  refine px_aload_n (kk := 0) rfl rfl rfl ?_
  refine px_iload_n (kk := 1) rfl rfl rfl ?_
  refine px_iload_n (kk := 2) rfl rfl rfl ?_
  refine px_callV0 CX12_widowCrosses [] [.int _, .int _] (vX12_widowCrosses_5 hb hk hB2 (by omega)) rfl gS_65 (by decide) rfl rfl rfl (Nat.le_of_ble_eq_true rfl) (by decide) ?_
  rintro _ _ - ⟨rfl, I3, t3, rfl, hB3, ht3⟩
  have hn3 : t3.2 = t2.2 + 2 := by rw [ht3]; exact sp_nts_2 _ _
  refine px_ist3 rfl rfl (by decide) ?_
  refine px_iload_n (kk := 3) rfl rfl rfl ?_
  refine px_aload_n (kk := 0) rfl rfl rfl ?_
  refine px_iload_n (kk := 1) rfl rfl rfl ?_
  refine px_iconst (v := nI 2) rfl k_2 ?_
  refine px_callV0 CX12_warming [.int _] [.int _, .int _] (vX12_warming_5 hb hk hB3 (by omega)) rfl gS_65 (by decide) rfl rfl rfl (Nat.le_of_ble_eq_true rfl) (by decide) ?_
  rintro _ _ - ⟨rfl, I4, t4, rfl, hB4, ht4⟩
  have hn4 : t4.2 = t3.2 + 1 := by rw [ht4]; exact sp_nts_2 _ _
  refine px_isub rfl ?_
  refine px_ireturn rfl (.inl rfl) ?_
  exact ⟨rfl, I4, t4, rfl, hB4, by first | (rw [ht4, ht3, ht2]; done) | (rw [ht4, ht3, ht2]; rfl)⟩
theorem vX12_waiting_5 {I : Nat → Nat → Int32} {J : Nat → Nat → Int64} {p : Bool × Option Nat} {ro : List (Nat × Nat × (Nat → Int32))} {b : Nat} (hb : b < 50) (hk : I 96 b = nI 5) {t : TS} {I1 : Nat → Nat → Int32} (hB : BRr I t I1) (ht : t.2 < 2 ^ 20 - 600) {x : Int32} : Pv 6 0 0 CX12_waiting [.ref (65), .int (nI b), .int (x)] (gS, I1, J, gR p, ro) (fun r S' => r = some (.int (-(((x + nI 1) + nI b) * nI 2))) ∧ ∃ I' t', S' = (gS, I', J, gR p, ro) ∧ BRr I t' I' ∧ t' = sp_nts t [41, 30, 10, 1]) := by
  refine ⟨okCX12_waiting, Nat.le_of_ble_eq_true rfl, (show Px _ _ _ _ 0 [some (.ref (65)), some (.int (nI b)), some (.int (x)), none] [] _ _ from ?_)⟩
  refine px_aload_n (kk := 0) rfl rfl rfl ?_
  refine px_getR (r := 96) rfl gS_65 rfl (gR_65_56 _) ?_
  refine px_iload_n (kk := 1) rfl rfl rfl ?_
  refine px_ialde (j := b) (v := nI 5) rfl gS_96 rfl (by omega) (by first | exact hk | exact (congrFun (hB.1 96 (by decide)) b).trans hk | exact (congrFun (hB2.1 96 (by decide)) b).trans hk | exact (congrFun (hB3.1 96 (by decide)) b).trans hk) ?_
  refine px_iconst (v := nI 3) rfl k_3 ?_
  refine px_callS0 CX12_isUnder [] [.int _, .int _] (vX12_unc_5_3) rfl rfl rfl (Nat.le_of_ble_eq_true rfl) (by decide) ?_
  rintro _ _ - ⟨rfl, rfl⟩
  refine px_if_eq rfl (fun h => absurd h (by decide)) (fun _ => ?_)
  refine px_aload_n (kk := 0) rfl rfl rfl ?_
  refine px_bipush (v := nI 41) rfl b_41 ?_
  refine px_callV0 CX12_ran [] [.int _] (vX12_ran hB (by omega)) rfl gS_65 (by decide) rfl rfl rfl (Nat.le_of_ble_eq_true rfl) (by decide) ?_
  rintro _ _ - ⟨rfl, I2, t2, rfl, hB2, ht2⟩
  have hn2 : t2.2 = t.2 + 1 := by rw [ht2]; exact sp_nts_2 _ _
  refine px_aload_n (kk := 0) rfl rfl rfl ?_
  refine px_iload_n (kk := 1) rfl rfl rfl ?_
  refine px_iload_n (kk := 2) rfl rfl rfl ?_
  refine px_iconst (v := nI 1) rfl k_1 ?_
  refine px_iadd rfl ?_
  refine px_callV0 CX12_cordWaits [] [.int _, .int _] (vX12_cordWaits_5 hb hk hB2 (by omega)) rfl gS_65 (by decide) rfl rfl rfl (Nat.le_of_ble_eq_true rfl) (by decide) ?_
  rintro _ _ - ⟨rfl, I3, t3, rfl, hB3, ht3⟩
  have hn3 : t3.2 = t2.2 + 3 := by rw [ht3]; exact sp_nts_2 _ _
  refine px_ireturn rfl (.inl rfl) ?_
  exact ⟨rfl, I3, t3, rfl, hB3, by first | (rw [ht3, ht2]; done) | (rw [ht3, ht2]; rfl)⟩
theorem vX12_plainTells_5 {I : Nat → Nat → Int32} {J : Nat → Nat → Int64} {p : Bool × Option Nat} {ro : List (Nat × Nat × (Nat → Int32))} {b : Nat} (hb : b < 50) (hk : I 96 b = nI 5) {t : TS} {I1 : Nat → Nat → Int32} (hB : BRr I t I1) (ht : t.2 < 2 ^ 20 - 700) {x : Int32} : Pv 7 0 0 CX12_plainTells [.ref (65), .int (nI b), .int (x)] (gS, I1, J, gR p, ro) (fun r S' => r = some (.int ((-(((x + nI 1) + nI b) * nI 2)) - (((nI 1 ^^^ nI b) * nI 3) - (nI 2 + nI b)))) ∧ ∃ I' t', S' = (gS, I', J, gR p, ro) ∧ BRr I t' I' ∧ t' = sp_nts t [2, 41, 30, 10, 1, 60, 40, 11, 1]) := by
  refine ⟨okCX12_plainTells, Nat.le_of_ble_eq_true rfl, (show Px _ _ _ _ 0 [some (.ref (65)), some (.int (nI b)), some (.int (x)), none] [] _ _ from ?_)⟩
  refine px_aload_n (kk := 0) rfl rfl rfl ?_
  refine px_iconst (v := nI 2) rfl k_2 ?_
  refine px_callV0 CX12_ran [] [.int _] (vX12_ran hB (by omega)) rfl gS_65 (by decide) rfl rfl rfl (Nat.le_of_ble_eq_true rfl) (by decide) ?_
  rintro _ _ - ⟨rfl, I2, t2, rfl, hB2, ht2⟩
  have hn2 : t2.2 = t.2 + 1 := by rw [ht2]; exact sp_nts_2 _ _
  refine px_aload_n (kk := 0) rfl rfl rfl ?_
  refine px_iload_n (kk := 1) rfl rfl rfl ?_
  refine px_iload_n (kk := 2) rfl rfl rfl ?_
  refine px_callV0 CX12_waiting [] [.int _, .int _] (vX12_waiting_5 hb hk hB2 (by omega)) rfl gS_65 (by decide) rfl rfl rfl (Nat.le_of_ble_eq_true rfl) (by decide) ?_
  rintro _ _ - ⟨rfl, I3, t3, rfl, hB3, ht3⟩
  have hn3 : t3.2 = t2.2 + 4 := by rw [ht3]; exact sp_nts_2 _ _
  refine px_ist3 rfl rfl (by decide) ?_
  refine px_iload_n (kk := 3) rfl rfl rfl ?_
  refine px_aload_n (kk := 0) rfl rfl rfl ?_
  refine px_iload_n (kk := 1) rfl rfl rfl ?_
  refine px_iconst (v := nI 1) rfl k_1 ?_
  refine px_callV0 CX12_crossing [.int _] [.int _, .int _] (vX12_crossing_5 hb hk hB3 (by omega)) rfl gS_65 (by decide) rfl rfl rfl (Nat.le_of_ble_eq_true rfl) (by decide) ?_
  rintro _ _ - ⟨rfl, I4, t4, rfl, hB4, ht4⟩
  have hn4 : t4.2 = t3.2 + 4 := by rw [ht4]; exact sp_nts_2 _ _
  refine px_isub rfl ?_
  refine px_ireturn rfl (.inl rfl) ?_
  exact ⟨rfl, I4, t4, rfl, hB4, by first | (rw [ht4, ht3, ht2]; done) | (rw [ht4, ht3, ht2]; rfl)⟩
theorem vX12_telling_5 {I : Nat → Nat → Int32} {J : Nat → Nat → Int64} {p : Bool × Option Nat} {ro : List (Nat × Nat × (Nat → Int32))} {b : Nat} (hb : b < 50) (hk : I 96 b = nI 5) {t : TS} {I1 : Nat → Nat → Int32} (hB : BRr I t I1) (ht : t.2 < 2 ^ 20 - 800) {x : Int32} : Pv 8 0 0 CX12_telling [.ref (65), .int (nI b), .int (x)] (gS, I1, J, gR p, ro) (fun r S' => r = some (.int (((-(((x + nI 1) + nI b) * nI 2)) - (((nI 1 ^^^ nI b) * nI 3) - (nI 2 + nI b))) + nI 1)) ∧ ∃ I' t', S' = (gS, I', J, gR p, ro) ∧ BRr I t' I' ∧ t' = sp_nts t [61, 2, 41, 30, 10, 1, 60, 40, 11, 1]) := by
  refine ⟨okCX12_telling, Nat.le_of_ble_eq_true rfl, (show Px _ _ _ _ 0 [some (.ref (65)), some (.int (nI b)), some (.int (x))] [] _ _ from ?_)⟩
  refine px_aload_n (kk := 0) rfl rfl rfl ?_
  refine px_getR (r := 96) rfl gS_65 rfl (gR_65_56 _) ?_
  refine px_iload_n (kk := 1) rfl rfl rfl ?_
  refine px_ialde (j := b) (v := nI 5) rfl gS_96 rfl (by omega) (by first | exact hk | exact (congrFun (hB.1 96 (by decide)) b).trans hk | exact (congrFun (hB2.1 96 (by decide)) b).trans hk | exact (congrFun (hB3.1 96 (by decide)) b).trans hk) ?_
  refine px_iconst (v := nI 4) rfl k_4 ?_
  refine px_icmp_ne rfl (fun _ => ?_) (fun h => absurd h (by decide))
  refine px_aload_n (kk := 0) rfl rfl rfl ?_
  refine px_getR (r := 96) rfl gS_65 rfl (gR_65_56 _) ?_
  refine px_iload_n (kk := 1) rfl rfl rfl ?_
  refine px_ialde (j := b) (v := nI 5) rfl gS_96 rfl (by omega) (by first | exact hk | exact (congrFun (hB.1 96 (by decide)) b).trans hk | exact (congrFun (hB2.1 96 (by decide)) b).trans hk | exact (congrFun (hB3.1 96 (by decide)) b).trans hk) ?_
  refine px_iconst (v := nI 5) rfl k_5 ?_
  refine px_icmp_ne rfl (fun h => absurd h (by decide)) (fun _ => ?_)
  refine px_aload_n (kk := 0) rfl rfl rfl ?_
  refine px_bipush (v := nI 61) rfl b_61 ?_
  refine px_callV0 CX12_ran [] [.int _] (vX12_ran hB (by omega)) rfl gS_65 (by decide) rfl rfl rfl (Nat.le_of_ble_eq_true rfl) (by decide) ?_
  rintro _ _ - ⟨rfl, I2, t2, rfl, hB2, ht2⟩
  have hn2 : t2.2 = t.2 + 1 := by rw [ht2]; exact sp_nts_2 _ _
  refine px_aload_n (kk := 0) rfl rfl rfl ?_
  refine px_iload_n (kk := 1) rfl rfl rfl ?_
  refine px_iload_n (kk := 2) rfl rfl rfl ?_
  refine px_callV0 CX12_plainTells [] [.int _, .int _] (vX12_plainTells_5 hb hk hB2 (by omega)) rfl gS_65 (by decide) rfl rfl rfl (Nat.le_of_ble_eq_true rfl) (by decide) ?_
  rintro _ _ - ⟨rfl, I3, t3, rfl, hB3, ht3⟩
  have hn3 : t3.2 = t2.2 + 9 := by rw [ht3]; exact sp_nts_2 _ _
  refine px_iconst (v := nI 1) rfl k_1 ?_
  refine px_iadd rfl ?_
  refine px_ireturn rfl (.inl rfl) ?_
  exact ⟨rfl, I3, t3, rfl, hB3, by first | (rw [ht3, ht2]; done) | (rw [ht3, ht2]; rfl)⟩
theorem vX12_plainWarms_6 {I : Nat → Nat → Int32} {J : Nat → Nat → Int64} {p : Bool × Option Nat} {ro : List (Nat × Nat × (Nat → Int32))} {b : Nat} (hb : b < 50) (hk : I 96 b = nI 6) {t : TS} {I1 : Nat → Nat → Int32} (hB : BRr I t I1) (ht : t.2 < 2 ^ 20 - 100) {x : Int32} : Pv 1 0 0 CX12_plainWarms [.ref (65), .int (nI b), .int (x)] (gS, I1, J, gR p, ro) (fun r S' => r = some (.int (x + nI b)) ∧ ∃ I' t', S' = (gS, I', J, gR p, ro) ∧ BRr I t' I' ∧ t' = sp_nts t [1]) := by
  refine ⟨okCX12_plainWarms, Nat.le_of_ble_eq_true rfl, (show Px _ _ _ _ 0 [some (.ref (65)), some (.int (nI b)), some (.int (x))] [] _ _ from ?_)⟩
  refine px_aload_n (kk := 0) rfl rfl rfl ?_
  refine px_iconst (v := nI 1) rfl k_1 ?_
  refine px_callV0 CX12_ran [] [.int _] (vX12_ran hB (by omega)) rfl gS_65 (by decide) rfl rfl rfl (Nat.le_of_ble_eq_true rfl) (by decide) ?_
  rintro _ _ - ⟨rfl, I2, t2, rfl, hB2, ht2⟩
  have hn2 : t2.2 = t.2 + 1 := by rw [ht2]; exact sp_nts_2 _ _
  refine px_iload_n (kk := 2) rfl rfl rfl ?_
  refine px_iload_n (kk := 1) rfl rfl rfl ?_
  refine px_iadd rfl ?_
  refine px_ireturn rfl (.inl rfl) ?_
  exact ⟨rfl, I2, t2, rfl, hB2, by first | (rw [ht2]; done) | (rw [ht2]; rfl)⟩
theorem vX12_strangerWarms_6 {I : Nat → Nat → Int32} {J : Nat → Nat → Int64} {p : Bool × Option Nat} {ro : List (Nat × Nat × (Nat → Int32))} {b : Nat} (hb : b < 50) (hk : I 96 b = nI 6) {t : TS} {I1 : Nat → Nat → Int32} (hB : BRr I t I1) (ht : t.2 < 2 ^ 20 - 200) {x : Int32} : Pv 2 0 0 CX12_strangerWarms [.ref (65), .int (nI b), .int (x)] (gS, I1, J, gR p, ro) (fun r S' => r = some (.int ((x + nI b) * nI 2)) ∧ ∃ I' t', S' = (gS, I', J, gR p, ro) ∧ BRr I t' I' ∧ t' = sp_nts t [70, 1]) := by
  refine ⟨okCX12_strangerWarms, Nat.le_of_ble_eq_true rfl, (show Px _ _ _ _ 0 [some (.ref (65)), some (.int (nI b)), some (.int (x))] [] _ _ from ?_)⟩
  refine px_aload_n (kk := 0) rfl rfl rfl ?_
  refine px_bipush (v := nI 70) rfl b_70 ?_
  refine px_callV0 CX12_ran [] [.int _] (vX12_ran hB (by omega)) rfl gS_65 (by decide) rfl rfl rfl (Nat.le_of_ble_eq_true rfl) (by decide) ?_
  rintro _ _ - ⟨rfl, I2, t2, rfl, hB2, ht2⟩
  have hn2 : t2.2 = t.2 + 1 := by rw [ht2]; exact sp_nts_2 _ _
  refine px_aload_n (kk := 0) rfl rfl rfl ?_
  refine px_iload_n (kk := 1) rfl rfl rfl ?_
  refine px_iload_n (kk := 2) rfl rfl rfl ?_
  refine px_callV0 CX12_plainWarms [] [.int _, .int _] (vX12_plainWarms_6 hb hk hB2 (by omega)) rfl gS_65 (by decide) rfl rfl rfl (Nat.le_of_ble_eq_true rfl) (by decide) ?_
  rintro _ _ - ⟨rfl, I3, t3, rfl, hB3, ht3⟩
  have hn3 : t3.2 = t2.2 + 1 := by rw [ht3]; exact sp_nts_2 _ _
  refine px_iconst (v := nI 2) rfl k_2 ?_
  refine px_imul rfl ?_
  refine px_ireturn rfl (.inl rfl) ?_
  exact ⟨rfl, I3, t3, rfl, hB3, by first | (rw [ht3, ht2]; done) | (rw [ht3, ht2]; rfl)⟩
theorem vX12_warming_6 {I : Nat → Nat → Int32} {J : Nat → Nat → Int64} {p : Bool × Option Nat} {ro : List (Nat × Nat × (Nat → Int32))} {b : Nat} (hb : b < 50) (hk : I 96 b = nI 6) {t : TS} {I1 : Nat → Nat → Int32} (hB : BRr I t I1) (ht : t.2 < 2 ^ 20 - 300) {x : Int32} : Pv 3 0 0 CX12_warming [.ref (65), .int (nI b), .int (x)] (gS, I1, J, gR p, ro) (fun r S' => r = some (.int ((x + nI b) * nI 2)) ∧ ∃ I' t', S' = (gS, I', J, gR p, ro) ∧ BRr I t' I' ∧ t' = sp_nts t [70, 1]) := by
  refine ⟨okCX12_warming, Nat.le_of_ble_eq_true rfl, (show Px _ _ _ _ 0 [some (.ref (65)), some (.int (nI b)), some (.int (x))] [] _ _ from ?_)⟩
  refine px_aload_n (kk := 0) rfl rfl rfl ?_
  refine px_getR (r := 96) rfl gS_65 rfl (gR_65_56 _) ?_
  refine px_iload_n (kk := 1) rfl rfl rfl ?_
  refine px_ialde (j := b) (v := nI 6) rfl gS_96 rfl (by omega) (by first | exact hk | exact (congrFun (hB.1 96 (by decide)) b).trans hk | exact (congrFun (hB2.1 96 (by decide)) b).trans hk | exact (congrFun (hB3.1 96 (by decide)) b).trans hk) ?_
  refine px_iconst (v := nI 1) rfl k_1 ?_
  refine px_callS0 CX12_isUnder [] [.int _, .int _] (vX12_unc_6_1) rfl rfl rfl (Nat.le_of_ble_eq_true rfl) (by decide) ?_
  rintro _ _ - ⟨rfl, rfl⟩
  refine px_if_eq rfl (fun _ => ?_) (fun h => absurd h (by decide))
  refine px_aload_n (kk := 0) rfl rfl rfl ?_
  refine px_getR (r := 96) rfl gS_65 rfl (gR_65_56 _) ?_
  refine px_iload_n (kk := 1) rfl rfl rfl ?_
  refine px_ialde (j := b) (v := nI 6) rfl gS_96 rfl (by omega) (by first | exact hk | exact (congrFun (hB.1 96 (by decide)) b).trans hk | exact (congrFun (hB2.1 96 (by decide)) b).trans hk | exact (congrFun (hB3.1 96 (by decide)) b).trans hk) ?_
  refine px_bipush (v := nI 7) rfl b_7 ?_
  refine px_icmp_ne rfl (fun _ => ?_) (fun h => absurd h (by decide))
  refine px_aload_n (kk := 0) rfl rfl rfl ?_
  refine px_getR (r := 96) rfl gS_65 rfl (gR_65_56 _) ?_
  refine px_iload_n (kk := 1) rfl rfl rfl ?_
  refine px_ialde (j := b) (v := nI 6) rfl gS_96 rfl (by omega) (by first | exact hk | exact (congrFun (hB.1 96 (by decide)) b).trans hk | exact (congrFun (hB2.1 96 (by decide)) b).trans hk | exact (congrFun (hB3.1 96 (by decide)) b).trans hk) ?_
  refine px_bipush (v := nI 6) rfl b_6 ?_
  refine px_icmp_ne rfl (fun h => absurd h (by decide)) (fun _ => ?_)
  refine px_aload_n (kk := 0) rfl rfl rfl ?_
  refine px_iload_n (kk := 1) rfl rfl rfl ?_
  refine px_iload_n (kk := 2) rfl rfl rfl ?_
  refine px_callV0 CX12_strangerWarms [] [.int _, .int _] (vX12_strangerWarms_6 hb hk hB (by omega)) rfl gS_65 (by decide) rfl rfl rfl (Nat.le_of_ble_eq_true rfl) (by decide) ?_
  rintro _ _ - ⟨rfl, I2, t2, rfl, hB2, ht2⟩
  have hn2 : t2.2 = t.2 + 2 := by rw [ht2]; exact sp_nts_2 _ _
  refine px_goto rfl ?_
  refine px_ireturn rfl (.inl rfl) ?_
  exact ⟨rfl, I2, t2, rfl, hB2, by first | (rw [ht2]; done) | (rw [ht2]; rfl)⟩
theorem vX12_plainWaits_6 {I : Nat → Nat → Int32} {J : Nat → Nat → Int64} {p : Bool × Option Nat} {ro : List (Nat × Nat × (Nat → Int32))} {b : Nat} (hb : b < 50) (hk : I 96 b = nI 6) {t : TS} {I1 : Nat → Nat → Int32} (hB : BRr I t I1) (ht : t.2 < 2 ^ 20 - 400) {x : Int32} : Pv 4 0 0 CX12_plainWaits [.ref (65), .int (nI b), .int (x)] (gS, I1, J, gR p, ro) (fun r S' => r = some (.int (((x + nI b) * nI 2) * nI 2)) ∧ ∃ I' t', S' = (gS, I', J, gR p, ro) ∧ BRr I t' I' ∧ t' = sp_nts t [10, 70, 1]) := by
  refine ⟨okCX12_plainWaits, Nat.le_of_ble_eq_true rfl, (show Px _ _ _ _ 0 [some (.ref (65)), some (.int (nI b)), some (.int (x))] [] _ _ from ?_)⟩
  refine px_aload_n (kk := 0) rfl rfl rfl ?_
  refine px_bipush (v := nI 10) rfl b_10 ?_
  refine px_callV0 CX12_ran [] [.int _] (vX12_ran hB (by omega)) rfl gS_65 (by decide) rfl rfl rfl (Nat.le_of_ble_eq_true rfl) (by decide) ?_
  rintro _ _ - ⟨rfl, I2, t2, rfl, hB2, ht2⟩
  have hn2 : t2.2 = t.2 + 1 := by rw [ht2]; exact sp_nts_2 _ _
  refine px_aload_n (kk := 0) rfl rfl rfl ?_
  refine px_iload_n (kk := 1) rfl rfl rfl ?_
  refine px_iload_n (kk := 2) rfl rfl rfl ?_
  refine px_callV0 CX12_warming [] [.int _, .int _] (vX12_warming_6 hb hk hB2 (by omega)) rfl gS_65 (by decide) rfl rfl rfl (Nat.le_of_ble_eq_true rfl) (by decide) ?_
  rintro _ _ - ⟨rfl, I3, t3, rfl, hB3, ht3⟩
  have hn3 : t3.2 = t2.2 + 2 := by rw [ht3]; exact sp_nts_2 _ _
  refine px_iconst (v := nI 2) rfl k_2 ?_
  refine px_imul rfl ?_
  refine px_ireturn rfl (.inl rfl) ?_
  exact ⟨rfl, I3, t3, rfl, hB3, by first | (rw [ht3, ht2]; done) | (rw [ht3, ht2]; rfl)⟩
theorem vX12_plainCrosses_6 {I : Nat → Nat → Int32} {J : Nat → Nat → Int64} {p : Bool × Option Nat} {ro : List (Nat × Nat × (Nat → Int32))} {b : Nat} (hb : b < 50) (hk : I 96 b = nI 6) {t : TS} {I1 : Nat → Nat → Int32} (hB : BRr I t I1) (ht : t.2 < 2 ^ 20 - 100) {x : Int32} : Pv 1 0 0 CX12_plainCrosses [.ref (65), .int (nI b), .int (x)] (gS, I1, J, gR p, ro) (fun r S' => r = some (.int (x ^^^ nI b)) ∧ ∃ I' t', S' = (gS, I', J, gR p, ro) ∧ BRr I t' I' ∧ t' = sp_nts t [11]) := by
  refine ⟨okCX12_plainCrosses, Nat.le_of_ble_eq_true rfl, (show Px _ _ _ _ 0 [some (.ref (65)), some (.int (nI b)), some (.int (x))] [] _ _ from ?_)⟩
  refine px_aload_n (kk := 0) rfl rfl rfl ?_
  refine px_bipush (v := nI 11) rfl b_11 ?_
  refine px_callV0 CX12_ran [] [.int _] (vX12_ran hB (by omega)) rfl gS_65 (by decide) rfl rfl rfl (Nat.le_of_ble_eq_true rfl) (by decide) ?_
  rintro _ _ - ⟨rfl, I2, t2, rfl, hB2, ht2⟩
  have hn2 : t2.2 = t.2 + 1 := by rw [ht2]; exact sp_nts_2 _ _
  refine px_iload_n (kk := 2) rfl rfl rfl ?_
  refine px_iload_n (kk := 1) rfl rfl rfl ?_
  refine px_ixor rfl ?_
  refine px_ireturn rfl (.inl rfl) ?_
  exact ⟨rfl, I2, t2, rfl, hB2, by first | (rw [ht2]; done) | (rw [ht2]; rfl)⟩
theorem vX12_crossing_6 {I : Nat → Nat → Int32} {J : Nat → Nat → Int64} {p : Bool × Option Nat} {ro : List (Nat × Nat × (Nat → Int32))} {b : Nat} (hb : b < 50) (hk : I 96 b = nI 6) {t : TS} {I1 : Nat → Nat → Int32} (hB : BRr I t I1) (ht : t.2 < 2 ^ 20 - 400) {x : Int32} : Pv 4 0 0 CX12_crossing [.ref (65), .int (nI b), .int (x)] (gS, I1, J, gR p, ro) (fun r S' => r = some (.int (x ^^^ nI b)) ∧ ∃ I' t', S' = (gS, I', J, gR p, ro) ∧ BRr I t' I' ∧ t' = sp_nts t [11]) := by
  refine ⟨okCX12_crossing, Nat.le_of_ble_eq_true rfl, (show Px _ _ _ _ 0 [some (.ref (65)), some (.int (nI b)), some (.int (x)), none] [] _ _ from ?_)⟩
  refine px_aload_n (kk := 0) rfl rfl rfl ?_
  refine px_getR (r := 96) rfl gS_65 rfl (gR_65_56 _) ?_
  refine px_iload_n (kk := 1) rfl rfl rfl ?_
  refine px_ialde (j := b) (v := nI 6) rfl gS_96 rfl (by omega) (by first | exact hk | exact (congrFun (hB.1 96 (by decide)) b).trans hk | exact (congrFun (hB2.1 96 (by decide)) b).trans hk | exact (congrFun (hB3.1 96 (by decide)) b).trans hk) ?_
  refine px_iconst (v := nI 5) rfl k_5 ?_
  refine px_icmp_ne rfl (fun _ => ?_) (fun h => absurd h (by decide))
  refine px_aload_n (kk := 0) rfl rfl rfl ?_
  refine px_getR (r := 96) rfl gS_65 rfl (gR_65_56 _) ?_
  refine px_iload_n (kk := 1) rfl rfl rfl ?_
  refine px_ialde (j := b) (v := nI 6) rfl gS_96 rfl (by omega) (by first | exact hk | exact (congrFun (hB.1 96 (by decide)) b).trans hk | exact (congrFun (hB2.1 96 (by decide)) b).trans hk | exact (congrFun (hB3.1 96 (by decide)) b).trans hk) ?_
  refine px_iconst (v := nI 3) rfl k_3 ?_
  refine px_icmp_ne rfl (fun _ => ?_) (fun h => absurd h (by decide))
  refine px_aload_n (kk := 0) rfl rfl rfl ?_
  refine px_iload_n (kk := 1) rfl rfl rfl ?_
  refine px_iload_n (kk := 2) rfl rfl rfl ?_
  refine px_callV0 CX12_plainCrosses [] [.int _, .int _] (vX12_plainCrosses_6 hb hk hB (by omega)) rfl gS_65 (by decide) rfl rfl rfl (Nat.le_of_ble_eq_true rfl) (by decide) ?_
  rintro _ _ - ⟨rfl, I2, t2, rfl, hB2, ht2⟩
  have hn2 : t2.2 = t.2 + 1 := by rw [ht2]; exact sp_nts_2 _ _
  refine px_ireturn rfl (.inl rfl) ?_
  exact ⟨rfl, I2, t2, rfl, hB2, by first | (rw [ht2]; done) | (rw [ht2]; rfl)⟩
theorem vX12_waiting_6 {I : Nat → Nat → Int32} {J : Nat → Nat → Int64} {p : Bool × Option Nat} {ro : List (Nat × Nat × (Nat → Int32))} {b : Nat} (hb : b < 50) (hk : I 96 b = nI 6) {t : TS} {I1 : Nat → Nat → Int32} (hB : BRr I t I1) (ht : t.2 < 2 ^ 20 - 600) {x : Int32} : Pv 6 0 0 CX12_waiting [.ref (65), .int (nI b), .int (x)] (gS, I1, J, gR p, ro) (fun r S' => r = some (.int (((x + nI b) * nI 2) * nI 2)) ∧ ∃ I' t', S' = (gS, I', J, gR p, ro) ∧ BRr I t' I' ∧ t' = sp_nts t [10, 70, 1]) := by
  refine ⟨okCX12_waiting, Nat.le_of_ble_eq_true rfl, (show Px _ _ _ _ 0 [some (.ref (65)), some (.int (nI b)), some (.int (x)), none] [] _ _ from ?_)⟩
  refine px_aload_n (kk := 0) rfl rfl rfl ?_
  refine px_getR (r := 96) rfl gS_65 rfl (gR_65_56 _) ?_
  refine px_iload_n (kk := 1) rfl rfl rfl ?_
  refine px_ialde (j := b) (v := nI 6) rfl gS_96 rfl (by omega) (by first | exact hk | exact (congrFun (hB.1 96 (by decide)) b).trans hk | exact (congrFun (hB2.1 96 (by decide)) b).trans hk | exact (congrFun (hB3.1 96 (by decide)) b).trans hk) ?_
  refine px_iconst (v := nI 3) rfl k_3 ?_
  refine px_callS0 CX12_isUnder [] [.int _, .int _] (vX12_unc_6_3) rfl rfl rfl (Nat.le_of_ble_eq_true rfl) (by decide) ?_
  rintro _ _ - ⟨rfl, rfl⟩
  refine px_if_eq rfl (fun _ => ?_) (fun h => absurd h (by decide))
  refine px_aload_n (kk := 0) rfl rfl rfl ?_
  refine px_getR (r := 96) rfl gS_65 rfl (gR_65_56 _) ?_
  refine px_iload_n (kk := 1) rfl rfl rfl ?_
  refine px_ialde (j := b) (v := nI 6) rfl gS_96 rfl (by omega) (by first | exact hk | exact (congrFun (hB.1 96 (by decide)) b).trans hk | exact (congrFun (hB2.1 96 (by decide)) b).trans hk | exact (congrFun (hB3.1 96 (by decide)) b).trans hk) ?_
  refine px_bipush (v := nI 7) rfl b_7 ?_
  refine px_icmp_ne rfl (fun _ => ?_) (fun h => absurd h (by decide))
  refine px_aload_n (kk := 0) rfl rfl rfl ?_
  refine px_getR (r := 96) rfl gS_65 rfl (gR_65_56 _) ?_
  refine px_iload_n (kk := 1) rfl rfl rfl ?_
  refine px_ialde (j := b) (v := nI 6) rfl gS_96 rfl (by omega) (by first | exact hk | exact (congrFun (hB.1 96 (by decide)) b).trans hk | exact (congrFun (hB2.1 96 (by decide)) b).trans hk | exact (congrFun (hB3.1 96 (by decide)) b).trans hk) ?_
  refine px_iconst (v := nI 2) rfl k_2 ?_
  refine px_icmp_ne rfl (fun _ => ?_) (fun h => absurd h (by decide))
  refine px_aload_n (kk := 0) rfl rfl rfl ?_
  refine px_iload_n (kk := 1) rfl rfl rfl ?_
  refine px_iload_n (kk := 2) rfl rfl rfl ?_
  refine px_callV0 CX12_plainWaits [] [.int _, .int _] (vX12_plainWaits_6 hb hk hB (by omega)) rfl gS_65 (by decide) rfl rfl rfl (Nat.le_of_ble_eq_true rfl) (by decide) ?_
  rintro _ _ - ⟨rfl, I2, t2, rfl, hB2, ht2⟩
  have hn2 : t2.2 = t.2 + 3 := by rw [ht2]; exact sp_nts_2 _ _
  refine px_ireturn rfl (.inl rfl) ?_
  exact ⟨rfl, I2, t2, rfl, hB2, by first | (rw [ht2]; done) | (rw [ht2]; rfl)⟩
theorem vX12_plainTells_6 {I : Nat → Nat → Int32} {J : Nat → Nat → Int64} {p : Bool × Option Nat} {ro : List (Nat × Nat × (Nat → Int32))} {b : Nat} (hb : b < 50) (hk : I 96 b = nI 6) {t : TS} {I1 : Nat → Nat → Int32} (hB : BRr I t I1) (ht : t.2 < 2 ^ 20 - 700) {x : Int32} : Pv 7 0 0 CX12_plainTells [.ref (65), .int (nI b), .int (x)] (gS, I1, J, gR p, ro) (fun r S' => r = some (.int ((((x + nI b) * nI 2) * nI 2) - (nI 1 ^^^ nI b))) ∧ ∃ I' t', S' = (gS, I', J, gR p, ro) ∧ BRr I t' I' ∧ t' = sp_nts t [2, 10, 70, 1, 11]) := by
  refine ⟨okCX12_plainTells, Nat.le_of_ble_eq_true rfl, (show Px _ _ _ _ 0 [some (.ref (65)), some (.int (nI b)), some (.int (x)), none] [] _ _ from ?_)⟩
  refine px_aload_n (kk := 0) rfl rfl rfl ?_
  refine px_iconst (v := nI 2) rfl k_2 ?_
  refine px_callV0 CX12_ran [] [.int _] (vX12_ran hB (by omega)) rfl gS_65 (by decide) rfl rfl rfl (Nat.le_of_ble_eq_true rfl) (by decide) ?_
  rintro _ _ - ⟨rfl, I2, t2, rfl, hB2, ht2⟩
  have hn2 : t2.2 = t.2 + 1 := by rw [ht2]; exact sp_nts_2 _ _
  refine px_aload_n (kk := 0) rfl rfl rfl ?_
  refine px_iload_n (kk := 1) rfl rfl rfl ?_
  refine px_iload_n (kk := 2) rfl rfl rfl ?_
  refine px_callV0 CX12_waiting [] [.int _, .int _] (vX12_waiting_6 hb hk hB2 (by omega)) rfl gS_65 (by decide) rfl rfl rfl (Nat.le_of_ble_eq_true rfl) (by decide) ?_
  rintro _ _ - ⟨rfl, I3, t3, rfl, hB3, ht3⟩
  have hn3 : t3.2 = t2.2 + 3 := by rw [ht3]; exact sp_nts_2 _ _
  refine px_ist3 rfl rfl (by decide) ?_
  refine px_iload_n (kk := 3) rfl rfl rfl ?_
  refine px_aload_n (kk := 0) rfl rfl rfl ?_
  refine px_iload_n (kk := 1) rfl rfl rfl ?_
  refine px_iconst (v := nI 1) rfl k_1 ?_
  refine px_callV0 CX12_crossing [.int _] [.int _, .int _] (vX12_crossing_6 hb hk hB3 (by omega)) rfl gS_65 (by decide) rfl rfl rfl (Nat.le_of_ble_eq_true rfl) (by decide) ?_
  rintro _ _ - ⟨rfl, I4, t4, rfl, hB4, ht4⟩
  have hn4 : t4.2 = t3.2 + 1 := by rw [ht4]; exact sp_nts_2 _ _
  refine px_isub rfl ?_
  refine px_ireturn rfl (.inl rfl) ?_
  exact ⟨rfl, I4, t4, rfl, hB4, by first | (rw [ht4, ht3, ht2]; done) | (rw [ht4, ht3, ht2]; rfl)⟩
theorem vX12_telling_6 {I : Nat → Nat → Int32} {J : Nat → Nat → Int64} {p : Bool × Option Nat} {ro : List (Nat × Nat × (Nat → Int32))} {b : Nat} (hb : b < 50) (hk : I 96 b = nI 6) {t : TS} {I1 : Nat → Nat → Int32} (hB : BRr I t I1) (ht : t.2 < 2 ^ 20 - 800) {x : Int32} : Pv 8 0 0 CX12_telling [.ref (65), .int (nI b), .int (x)] (gS, I1, J, gR p, ro) (fun r S' => r = some (.int ((((x + nI b) * nI 2) * nI 2) - (nI 1 ^^^ nI b))) ∧ ∃ I' t', S' = (gS, I', J, gR p, ro) ∧ BRr I t' I' ∧ t' = sp_nts t [2, 10, 70, 1, 11]) := by
  refine ⟨okCX12_telling, Nat.le_of_ble_eq_true rfl, (show Px _ _ _ _ 0 [some (.ref (65)), some (.int (nI b)), some (.int (x))] [] _ _ from ?_)⟩
  refine px_aload_n (kk := 0) rfl rfl rfl ?_
  refine px_getR (r := 96) rfl gS_65 rfl (gR_65_56 _) ?_
  refine px_iload_n (kk := 1) rfl rfl rfl ?_
  refine px_ialde (j := b) (v := nI 6) rfl gS_96 rfl (by omega) (by first | exact hk | exact (congrFun (hB.1 96 (by decide)) b).trans hk | exact (congrFun (hB2.1 96 (by decide)) b).trans hk | exact (congrFun (hB3.1 96 (by decide)) b).trans hk) ?_
  refine px_iconst (v := nI 4) rfl k_4 ?_
  refine px_icmp_ne rfl (fun _ => ?_) (fun h => absurd h (by decide))
  refine px_aload_n (kk := 0) rfl rfl rfl ?_
  refine px_getR (r := 96) rfl gS_65 rfl (gR_65_56 _) ?_
  refine px_iload_n (kk := 1) rfl rfl rfl ?_
  refine px_ialde (j := b) (v := nI 6) rfl gS_96 rfl (by omega) (by first | exact hk | exact (congrFun (hB.1 96 (by decide)) b).trans hk | exact (congrFun (hB2.1 96 (by decide)) b).trans hk | exact (congrFun (hB3.1 96 (by decide)) b).trans hk) ?_
  refine px_iconst (v := nI 5) rfl k_5 ?_
  refine px_icmp_ne rfl (fun _ => ?_) (fun h => absurd h (by decide))
  refine px_aload_n (kk := 0) rfl rfl rfl ?_
  refine px_iload_n (kk := 1) rfl rfl rfl ?_
  refine px_iload_n (kk := 2) rfl rfl rfl ?_
  refine px_callV0 CX12_plainTells [] [.int _, .int _] (vX12_plainTells_6 hb hk hB (by omega)) rfl gS_65 (by decide) rfl rfl rfl (Nat.le_of_ble_eq_true rfl) (by decide) ?_
  rintro _ _ - ⟨rfl, I2, t2, rfl, hB2, ht2⟩
  have hn2 : t2.2 = t.2 + 5 := by rw [ht2]; exact sp_nts_2 _ _
  refine px_ireturn rfl (.inl rfl) ?_
  exact ⟨rfl, I2, t2, rfl, hB2, by first | (rw [ht2]; done) | (rw [ht2]; rfl)⟩
theorem vX12_plainWarms_7 {I : Nat → Nat → Int32} {J : Nat → Nat → Int64} {p : Bool × Option Nat} {ro : List (Nat × Nat × (Nat → Int32))} {b : Nat} (hb : b < 50) (hk : I 96 b = nI 7) {t : TS} {I1 : Nat → Nat → Int32} (hB : BRr I t I1) (ht : t.2 < 2 ^ 20 - 100) {x : Int32} : Pv 1 0 0 CX12_plainWarms [.ref (65), .int (nI b), .int (x)] (gS, I1, J, gR p, ro) (fun r S' => r = some (.int (x + nI b)) ∧ ∃ I' t', S' = (gS, I', J, gR p, ro) ∧ BRr I t' I' ∧ t' = sp_nts t [1]) := by
  refine ⟨okCX12_plainWarms, Nat.le_of_ble_eq_true rfl, (show Px _ _ _ _ 0 [some (.ref (65)), some (.int (nI b)), some (.int (x))] [] _ _ from ?_)⟩
  refine px_aload_n (kk := 0) rfl rfl rfl ?_
  refine px_iconst (v := nI 1) rfl k_1 ?_
  refine px_callV0 CX12_ran [] [.int _] (vX12_ran hB (by omega)) rfl gS_65 (by decide) rfl rfl rfl (Nat.le_of_ble_eq_true rfl) (by decide) ?_
  rintro _ _ - ⟨rfl, I2, t2, rfl, hB2, ht2⟩
  have hn2 : t2.2 = t.2 + 1 := by rw [ht2]; exact sp_nts_2 _ _
  refine px_iload_n (kk := 2) rfl rfl rfl ?_
  refine px_iload_n (kk := 1) rfl rfl rfl ?_
  refine px_iadd rfl ?_
  refine px_ireturn rfl (.inl rfl) ?_
  exact ⟨rfl, I2, t2, rfl, hB2, by first | (rw [ht2]; done) | (rw [ht2]; rfl)⟩
theorem vX12_strangerWarms_7 {I : Nat → Nat → Int32} {J : Nat → Nat → Int64} {p : Bool × Option Nat} {ro : List (Nat × Nat × (Nat → Int32))} {b : Nat} (hb : b < 50) (hk : I 96 b = nI 7) {t : TS} {I1 : Nat → Nat → Int32} (hB : BRr I t I1) (ht : t.2 < 2 ^ 20 - 200) {x : Int32} : Pv 2 0 0 CX12_strangerWarms [.ref (65), .int (nI b), .int (x)] (gS, I1, J, gR p, ro) (fun r S' => r = some (.int ((x + nI b) * nI 2)) ∧ ∃ I' t', S' = (gS, I', J, gR p, ro) ∧ BRr I t' I' ∧ t' = sp_nts t [70, 1]) := by
  refine ⟨okCX12_strangerWarms, Nat.le_of_ble_eq_true rfl, (show Px _ _ _ _ 0 [some (.ref (65)), some (.int (nI b)), some (.int (x))] [] _ _ from ?_)⟩
  refine px_aload_n (kk := 0) rfl rfl rfl ?_
  refine px_bipush (v := nI 70) rfl b_70 ?_
  refine px_callV0 CX12_ran [] [.int _] (vX12_ran hB (by omega)) rfl gS_65 (by decide) rfl rfl rfl (Nat.le_of_ble_eq_true rfl) (by decide) ?_
  rintro _ _ - ⟨rfl, I2, t2, rfl, hB2, ht2⟩
  have hn2 : t2.2 = t.2 + 1 := by rw [ht2]; exact sp_nts_2 _ _
  refine px_aload_n (kk := 0) rfl rfl rfl ?_
  refine px_iload_n (kk := 1) rfl rfl rfl ?_
  refine px_iload_n (kk := 2) rfl rfl rfl ?_
  refine px_callV0 CX12_plainWarms [] [.int _, .int _] (vX12_plainWarms_7 hb hk hB2 (by omega)) rfl gS_65 (by decide) rfl rfl rfl (Nat.le_of_ble_eq_true rfl) (by decide) ?_
  rintro _ _ - ⟨rfl, I3, t3, rfl, hB3, ht3⟩
  have hn3 : t3.2 = t2.2 + 1 := by rw [ht3]; exact sp_nts_2 _ _
  refine px_iconst (v := nI 2) rfl k_2 ?_
  refine px_imul rfl ?_
  refine px_ireturn rfl (.inl rfl) ?_
  exact ⟨rfl, I3, t3, rfl, hB3, by first | (rw [ht3, ht2]; done) | (rw [ht3, ht2]; rfl)⟩
theorem vX12_warming_7 {I : Nat → Nat → Int32} {J : Nat → Nat → Int64} {p : Bool × Option Nat} {ro : List (Nat × Nat × (Nat → Int32))} {b : Nat} (hb : b < 50) (hk : I 96 b = nI 7) {t : TS} {I1 : Nat → Nat → Int32} (hB : BRr I t I1) (ht : t.2 < 2 ^ 20 - 300) {x : Int32} : Pv 3 0 0 CX12_warming [.ref (65), .int (nI b), .int (x)] (gS, I1, J, gR p, ro) (fun r S' => r = some (.int (((x + nI b) * nI 2) - nI 1)) ∧ ∃ I' t', S' = (gS, I', J, gR p, ro) ∧ BRr I t' I' ∧ t' = sp_nts t [81, 70, 1]) := by
  refine ⟨okCX12_warming, Nat.le_of_ble_eq_true rfl, (show Px _ _ _ _ 0 [some (.ref (65)), some (.int (nI b)), some (.int (x))] [] _ _ from ?_)⟩
  refine px_aload_n (kk := 0) rfl rfl rfl ?_
  refine px_getR (r := 96) rfl gS_65 rfl (gR_65_56 _) ?_
  refine px_iload_n (kk := 1) rfl rfl rfl ?_
  refine px_ialde (j := b) (v := nI 7) rfl gS_96 rfl (by omega) (by first | exact hk | exact (congrFun (hB.1 96 (by decide)) b).trans hk | exact (congrFun (hB2.1 96 (by decide)) b).trans hk | exact (congrFun (hB3.1 96 (by decide)) b).trans hk) ?_
  refine px_iconst (v := nI 1) rfl k_1 ?_
  refine px_callS0 CX12_isUnder [] [.int _, .int _] (vX12_unc_7_1) rfl rfl rfl (Nat.le_of_ble_eq_true rfl) (by decide) ?_
  rintro _ _ - ⟨rfl, rfl⟩
  refine px_if_eq rfl (fun _ => ?_) (fun h => absurd h (by decide))
  refine px_aload_n (kk := 0) rfl rfl rfl ?_
  refine px_getR (r := 96) rfl gS_65 rfl (gR_65_56 _) ?_
  refine px_iload_n (kk := 1) rfl rfl rfl ?_
  refine px_ialde (j := b) (v := nI 7) rfl gS_96 rfl (by omega) (by first | exact hk | exact (congrFun (hB.1 96 (by decide)) b).trans hk | exact (congrFun (hB2.1 96 (by decide)) b).trans hk | exact (congrFun (hB3.1 96 (by decide)) b).trans hk) ?_
  refine px_bipush (v := nI 7) rfl b_7 ?_
  refine px_icmp_ne rfl (fun h => absurd h (by decide)) (fun _ => ?_)
  refine px_aload_n (kk := 0) rfl rfl rfl ?_
  refine px_bipush (v := nI 81) rfl b_81 ?_
  refine px_callV0 CX12_ran [] [.int _] (vX12_ran hB (by omega)) rfl gS_65 (by decide) rfl rfl rfl (Nat.le_of_ble_eq_true rfl) (by decide) ?_
  rintro _ _ - ⟨rfl, I2, t2, rfl, hB2, ht2⟩
  have hn2 : t2.2 = t.2 + 1 := by rw [ht2]; exact sp_nts_2 _ _
  refine px_aload_n (kk := 0) rfl rfl rfl ?_
  refine px_iload_n (kk := 1) rfl rfl rfl ?_
  refine px_iload_n (kk := 2) rfl rfl rfl ?_
  refine px_callV0 CX12_strangerWarms [] [.int _, .int _] (vX12_strangerWarms_7 hb hk hB2 (by omega)) rfl gS_65 (by decide) rfl rfl rfl (Nat.le_of_ble_eq_true rfl) (by decide) ?_
  rintro _ _ - ⟨rfl, I3, t3, rfl, hB3, ht3⟩
  have hn3 : t3.2 = t2.2 + 2 := by rw [ht3]; exact sp_nts_2 _ _
  refine px_iconst (v := nI 1) rfl k_1 ?_
  refine px_isub rfl ?_
  refine px_ireturn rfl (.inl rfl) ?_
  exact ⟨rfl, I3, t3, rfl, hB3, by first | (rw [ht3, ht2]; done) | (rw [ht3, ht2]; rfl)⟩
theorem vX12_plainWaits_7 {I : Nat → Nat → Int32} {J : Nat → Nat → Int64} {p : Bool × Option Nat} {ro : List (Nat × Nat × (Nat → Int32))} {b : Nat} (hb : b < 50) (hk : I 96 b = nI 7) {t : TS} {I1 : Nat → Nat → Int32} (hB : BRr I t I1) (ht : t.2 < 2 ^ 20 - 400) {x : Int32} : Pv 4 0 0 CX12_plainWaits [.ref (65), .int (nI b), .int (x)] (gS, I1, J, gR p, ro) (fun r S' => r = some (.int ((((x + nI b) * nI 2) - nI 1) * nI 2)) ∧ ∃ I' t', S' = (gS, I', J, gR p, ro) ∧ BRr I t' I' ∧ t' = sp_nts t [10, 81, 70, 1]) := by
  refine ⟨okCX12_plainWaits, Nat.le_of_ble_eq_true rfl, (show Px _ _ _ _ 0 [some (.ref (65)), some (.int (nI b)), some (.int (x))] [] _ _ from ?_)⟩
  refine px_aload_n (kk := 0) rfl rfl rfl ?_
  refine px_bipush (v := nI 10) rfl b_10 ?_
  refine px_callV0 CX12_ran [] [.int _] (vX12_ran hB (by omega)) rfl gS_65 (by decide) rfl rfl rfl (Nat.le_of_ble_eq_true rfl) (by decide) ?_
  rintro _ _ - ⟨rfl, I2, t2, rfl, hB2, ht2⟩
  have hn2 : t2.2 = t.2 + 1 := by rw [ht2]; exact sp_nts_2 _ _
  refine px_aload_n (kk := 0) rfl rfl rfl ?_
  refine px_iload_n (kk := 1) rfl rfl rfl ?_
  refine px_iload_n (kk := 2) rfl rfl rfl ?_
  refine px_callV0 CX12_warming [] [.int _, .int _] (vX12_warming_7 hb hk hB2 (by omega)) rfl gS_65 (by decide) rfl rfl rfl (Nat.le_of_ble_eq_true rfl) (by decide) ?_
  rintro _ _ - ⟨rfl, I3, t3, rfl, hB3, ht3⟩
  have hn3 : t3.2 = t2.2 + 3 := by rw [ht3]; exact sp_nts_2 _ _
  refine px_iconst (v := nI 2) rfl k_2 ?_
  refine px_imul rfl ?_
  refine px_ireturn rfl (.inl rfl) ?_
  exact ⟨rfl, I3, t3, rfl, hB3, by first | (rw [ht3, ht2]; done) | (rw [ht3, ht2]; rfl)⟩
theorem vX12_plainCrosses_7 {I : Nat → Nat → Int32} {J : Nat → Nat → Int64} {p : Bool × Option Nat} {ro : List (Nat × Nat × (Nat → Int32))} {b : Nat} (hb : b < 50) (hk : I 96 b = nI 7) {t : TS} {I1 : Nat → Nat → Int32} (hB : BRr I t I1) (ht : t.2 < 2 ^ 20 - 100) {x : Int32} : Pv 1 0 0 CX12_plainCrosses [.ref (65), .int (nI b), .int (x)] (gS, I1, J, gR p, ro) (fun r S' => r = some (.int (x ^^^ nI b)) ∧ ∃ I' t', S' = (gS, I', J, gR p, ro) ∧ BRr I t' I' ∧ t' = sp_nts t [11]) := by
  refine ⟨okCX12_plainCrosses, Nat.le_of_ble_eq_true rfl, (show Px _ _ _ _ 0 [some (.ref (65)), some (.int (nI b)), some (.int (x))] [] _ _ from ?_)⟩
  refine px_aload_n (kk := 0) rfl rfl rfl ?_
  refine px_bipush (v := nI 11) rfl b_11 ?_
  refine px_callV0 CX12_ran [] [.int _] (vX12_ran hB (by omega)) rfl gS_65 (by decide) rfl rfl rfl (Nat.le_of_ble_eq_true rfl) (by decide) ?_
  rintro _ _ - ⟨rfl, I2, t2, rfl, hB2, ht2⟩
  have hn2 : t2.2 = t.2 + 1 := by rw [ht2]; exact sp_nts_2 _ _
  refine px_iload_n (kk := 2) rfl rfl rfl ?_
  refine px_iload_n (kk := 1) rfl rfl rfl ?_
  refine px_ixor rfl ?_
  refine px_ireturn rfl (.inl rfl) ?_
  exact ⟨rfl, I2, t2, rfl, hB2, by first | (rw [ht2]; done) | (rw [ht2]; rfl)⟩
theorem vX12_crossing_7 {I : Nat → Nat → Int32} {J : Nat → Nat → Int64} {p : Bool × Option Nat} {ro : List (Nat × Nat × (Nat → Int32))} {b : Nat} (hb : b < 50) (hk : I 96 b = nI 7) {t : TS} {I1 : Nat → Nat → Int32} (hB : BRr I t I1) (ht : t.2 < 2 ^ 20 - 400) {x : Int32} : Pv 4 0 0 CX12_crossing [.ref (65), .int (nI b), .int (x)] (gS, I1, J, gR p, ro) (fun r S' => r = some (.int (x ^^^ nI b)) ∧ ∃ I' t', S' = (gS, I', J, gR p, ro) ∧ BRr I t' I' ∧ t' = sp_nts t [11]) := by
  refine ⟨okCX12_crossing, Nat.le_of_ble_eq_true rfl, (show Px _ _ _ _ 0 [some (.ref (65)), some (.int (nI b)), some (.int (x)), none] [] _ _ from ?_)⟩
  refine px_aload_n (kk := 0) rfl rfl rfl ?_
  refine px_getR (r := 96) rfl gS_65 rfl (gR_65_56 _) ?_
  refine px_iload_n (kk := 1) rfl rfl rfl ?_
  refine px_ialde (j := b) (v := nI 7) rfl gS_96 rfl (by omega) (by first | exact hk | exact (congrFun (hB.1 96 (by decide)) b).trans hk | exact (congrFun (hB2.1 96 (by decide)) b).trans hk | exact (congrFun (hB3.1 96 (by decide)) b).trans hk) ?_
  refine px_iconst (v := nI 5) rfl k_5 ?_
  refine px_icmp_ne rfl (fun _ => ?_) (fun h => absurd h (by decide))
  refine px_aload_n (kk := 0) rfl rfl rfl ?_
  refine px_getR (r := 96) rfl gS_65 rfl (gR_65_56 _) ?_
  refine px_iload_n (kk := 1) rfl rfl rfl ?_
  refine px_ialde (j := b) (v := nI 7) rfl gS_96 rfl (by omega) (by first | exact hk | exact (congrFun (hB.1 96 (by decide)) b).trans hk | exact (congrFun (hB2.1 96 (by decide)) b).trans hk | exact (congrFun (hB3.1 96 (by decide)) b).trans hk) ?_
  refine px_iconst (v := nI 3) rfl k_3 ?_
  refine px_icmp_ne rfl (fun _ => ?_) (fun h => absurd h (by decide))
  refine px_aload_n (kk := 0) rfl rfl rfl ?_
  refine px_iload_n (kk := 1) rfl rfl rfl ?_
  refine px_iload_n (kk := 2) rfl rfl rfl ?_
  refine px_callV0 CX12_plainCrosses [] [.int _, .int _] (vX12_plainCrosses_7 hb hk hB (by omega)) rfl gS_65 (by decide) rfl rfl rfl (Nat.le_of_ble_eq_true rfl) (by decide) ?_
  rintro _ _ - ⟨rfl, I2, t2, rfl, hB2, ht2⟩
  have hn2 : t2.2 = t.2 + 1 := by rw [ht2]; exact sp_nts_2 _ _
  refine px_ireturn rfl (.inl rfl) ?_
  exact ⟨rfl, I2, t2, rfl, hB2, by first | (rw [ht2]; done) | (rw [ht2]; rfl)⟩
theorem vX12_waiting_7 {I : Nat → Nat → Int32} {J : Nat → Nat → Int64} {p : Bool × Option Nat} {ro : List (Nat × Nat × (Nat → Int32))} {b : Nat} (hb : b < 50) (hk : I 96 b = nI 7) {t : TS} {I1 : Nat → Nat → Int32} (hB : BRr I t I1) (ht : t.2 < 2 ^ 20 - 600) {x : Int32} : Pv 6 0 0 CX12_waiting [.ref (65), .int (nI b), .int (x)] (gS, I1, J, gR p, ro) (fun r S' => r = some (.int (((((x + nI b) * nI 2) - nI 1) * nI 2) + (nI 2 ^^^ nI b))) ∧ ∃ I' t', S' = (gS, I', J, gR p, ro) ∧ BRr I t' I' ∧ t' = sp_nts t [80, 10, 81, 70, 1, 11]) := by
  refine ⟨okCX12_waiting, Nat.le_of_ble_eq_true rfl, (show Px _ _ _ _ 0 [some (.ref (65)), some (.int (nI b)), some (.int (x)), none] [] _ _ from ?_)⟩
  refine px_aload_n (kk := 0) rfl rfl rfl ?_
  refine px_getR (r := 96) rfl gS_65 rfl (gR_65_56 _) ?_
  refine px_iload_n (kk := 1) rfl rfl rfl ?_
  refine px_ialde (j := b) (v := nI 7) rfl gS_96 rfl (by omega) (by first | exact hk | exact (congrFun (hB.1 96 (by decide)) b).trans hk | exact (congrFun (hB2.1 96 (by decide)) b).trans hk | exact (congrFun (hB3.1 96 (by decide)) b).trans hk) ?_
  refine px_iconst (v := nI 3) rfl k_3 ?_
  refine px_callS0 CX12_isUnder [] [.int _, .int _] (vX12_unc_7_3) rfl rfl rfl (Nat.le_of_ble_eq_true rfl) (by decide) ?_
  rintro _ _ - ⟨rfl, rfl⟩
  refine px_if_eq rfl (fun _ => ?_) (fun h => absurd h (by decide))
  refine px_aload_n (kk := 0) rfl rfl rfl ?_
  refine px_getR (r := 96) rfl gS_65 rfl (gR_65_56 _) ?_
  refine px_iload_n (kk := 1) rfl rfl rfl ?_
  refine px_ialde (j := b) (v := nI 7) rfl gS_96 rfl (by omega) (by first | exact hk | exact (congrFun (hB.1 96 (by decide)) b).trans hk | exact (congrFun (hB2.1 96 (by decide)) b).trans hk | exact (congrFun (hB3.1 96 (by decide)) b).trans hk) ?_
  refine px_bipush (v := nI 7) rfl b_7 ?_
  refine px_icmp_ne rfl (fun h => absurd h (by decide)) (fun _ => ?_)
  refine px_aload_n (kk := 0) rfl rfl rfl ?_
  refine px_bipush (v := nI 80) rfl b_80 ?_
  refine px_callV0 CX12_ran [] [.int _] (vX12_ran hB (by omega)) rfl gS_65 (by decide) rfl rfl rfl (Nat.le_of_ble_eq_true rfl) (by decide) ?_
  rintro _ _ - ⟨rfl, I2, t2, rfl, hB2, ht2⟩
  have hn2 : t2.2 = t.2 + 1 := by rw [ht2]; exact sp_nts_2 _ _
  refine px_aload_n (kk := 0) rfl rfl rfl ?_
  refine px_iload_n (kk := 1) rfl rfl rfl ?_
  refine px_iload_n (kk := 2) rfl rfl rfl ?_
  refine px_callV0 CX12_plainWaits [] [.int _, .int _] (vX12_plainWaits_7 hb hk hB2 (by omega)) rfl gS_65 (by decide) rfl rfl rfl (Nat.le_of_ble_eq_true rfl) (by decide) ?_
  rintro _ _ - ⟨rfl, I3, t3, rfl, hB3, ht3⟩
  have hn3 : t3.2 = t2.2 + 4 := by rw [ht3]; exact sp_nts_2 _ _
  refine px_ist3 rfl rfl (by decide) ?_
  refine px_iload_n (kk := 3) rfl rfl rfl ?_
  refine px_aload_n (kk := 0) rfl rfl rfl ?_
  refine px_iload_n (kk := 1) rfl rfl rfl ?_
  refine px_iconst (v := nI 2) rfl k_2 ?_
  refine px_callV0 CX12_crossing [.int _] [.int _, .int _] (vX12_crossing_7 hb hk hB3 (by omega)) rfl gS_65 (by decide) rfl rfl rfl (Nat.le_of_ble_eq_true rfl) (by decide) ?_
  rintro _ _ - ⟨rfl, I4, t4, rfl, hB4, ht4⟩
  have hn4 : t4.2 = t3.2 + 1 := by rw [ht4]; exact sp_nts_2 _ _
  refine px_iadd rfl ?_
  refine px_ireturn rfl (.inl rfl) ?_
  exact ⟨rfl, I4, t4, rfl, hB4, by first | (rw [ht4, ht3, ht2]; done) | (rw [ht4, ht3, ht2]; rfl)⟩
theorem vX12_plainTells_7 {I : Nat → Nat → Int32} {J : Nat → Nat → Int64} {p : Bool × Option Nat} {ro : List (Nat × Nat × (Nat → Int32))} {b : Nat} (hb : b < 50) (hk : I 96 b = nI 7) {t : TS} {I1 : Nat → Nat → Int32} (hB : BRr I t I1) (ht : t.2 < 2 ^ 20 - 700) {x : Int32} : Pv 7 0 0 CX12_plainTells [.ref (65), .int (nI b), .int (x)] (gS, I1, J, gR p, ro) (fun r S' => r = some (.int ((((((x + nI b) * nI 2) - nI 1) * nI 2) + (nI 2 ^^^ nI b)) - (nI 1 ^^^ nI b))) ∧ ∃ I' t', S' = (gS, I', J, gR p, ro) ∧ BRr I t' I' ∧ t' = sp_nts t [2, 80, 10, 81, 70, 1, 11, 11]) := by
  refine ⟨okCX12_plainTells, Nat.le_of_ble_eq_true rfl, (show Px _ _ _ _ 0 [some (.ref (65)), some (.int (nI b)), some (.int (x)), none] [] _ _ from ?_)⟩
  refine px_aload_n (kk := 0) rfl rfl rfl ?_
  refine px_iconst (v := nI 2) rfl k_2 ?_
  refine px_callV0 CX12_ran [] [.int _] (vX12_ran hB (by omega)) rfl gS_65 (by decide) rfl rfl rfl (Nat.le_of_ble_eq_true rfl) (by decide) ?_
  rintro _ _ - ⟨rfl, I2, t2, rfl, hB2, ht2⟩
  have hn2 : t2.2 = t.2 + 1 := by rw [ht2]; exact sp_nts_2 _ _
  refine px_aload_n (kk := 0) rfl rfl rfl ?_
  refine px_iload_n (kk := 1) rfl rfl rfl ?_
  refine px_iload_n (kk := 2) rfl rfl rfl ?_
  refine px_callV0 CX12_waiting [] [.int _, .int _] (vX12_waiting_7 hb hk hB2 (by omega)) rfl gS_65 (by decide) rfl rfl rfl (Nat.le_of_ble_eq_true rfl) (by decide) ?_
  rintro _ _ - ⟨rfl, I3, t3, rfl, hB3, ht3⟩
  have hn3 : t3.2 = t2.2 + 6 := by rw [ht3]; exact sp_nts_2 _ _
  refine px_ist3 rfl rfl (by decide) ?_
  refine px_iload_n (kk := 3) rfl rfl rfl ?_
  refine px_aload_n (kk := 0) rfl rfl rfl ?_
  refine px_iload_n (kk := 1) rfl rfl rfl ?_
  refine px_iconst (v := nI 1) rfl k_1 ?_
  refine px_callV0 CX12_crossing [.int _] [.int _, .int _] (vX12_crossing_7 hb hk hB3 (by omega)) rfl gS_65 (by decide) rfl rfl rfl (Nat.le_of_ble_eq_true rfl) (by decide) ?_
  rintro _ _ - ⟨rfl, I4, t4, rfl, hB4, ht4⟩
  have hn4 : t4.2 = t3.2 + 1 := by rw [ht4]; exact sp_nts_2 _ _
  refine px_isub rfl ?_
  refine px_ireturn rfl (.inl rfl) ?_
  exact ⟨rfl, I4, t4, rfl, hB4, by first | (rw [ht4, ht3, ht2]; done) | (rw [ht4, ht3, ht2]; rfl)⟩
theorem vX12_telling_7 {I : Nat → Nat → Int32} {J : Nat → Nat → Int64} {p : Bool × Option Nat} {ro : List (Nat × Nat × (Nat → Int32))} {b : Nat} (hb : b < 50) (hk : I 96 b = nI 7) {t : TS} {I1 : Nat → Nat → Int32} (hB : BRr I t I1) (ht : t.2 < 2 ^ 20 - 800) {x : Int32} : Pv 8 0 0 CX12_telling [.ref (65), .int (nI b), .int (x)] (gS, I1, J, gR p, ro) (fun r S' => r = some (.int ((((((x + nI b) * nI 2) - nI 1) * nI 2) + (nI 2 ^^^ nI b)) - (nI 1 ^^^ nI b))) ∧ ∃ I' t', S' = (gS, I', J, gR p, ro) ∧ BRr I t' I' ∧ t' = sp_nts t [2, 80, 10, 81, 70, 1, 11, 11]) := by
  refine ⟨okCX12_telling, Nat.le_of_ble_eq_true rfl, (show Px _ _ _ _ 0 [some (.ref (65)), some (.int (nI b)), some (.int (x))] [] _ _ from ?_)⟩
  refine px_aload_n (kk := 0) rfl rfl rfl ?_
  refine px_getR (r := 96) rfl gS_65 rfl (gR_65_56 _) ?_
  refine px_iload_n (kk := 1) rfl rfl rfl ?_
  refine px_ialde (j := b) (v := nI 7) rfl gS_96 rfl (by omega) (by first | exact hk | exact (congrFun (hB.1 96 (by decide)) b).trans hk | exact (congrFun (hB2.1 96 (by decide)) b).trans hk | exact (congrFun (hB3.1 96 (by decide)) b).trans hk) ?_
  refine px_iconst (v := nI 4) rfl k_4 ?_
  refine px_icmp_ne rfl (fun _ => ?_) (fun h => absurd h (by decide))
  refine px_aload_n (kk := 0) rfl rfl rfl ?_
  refine px_getR (r := 96) rfl gS_65 rfl (gR_65_56 _) ?_
  refine px_iload_n (kk := 1) rfl rfl rfl ?_
  refine px_ialde (j := b) (v := nI 7) rfl gS_96 rfl (by omega) (by first | exact hk | exact (congrFun (hB.1 96 (by decide)) b).trans hk | exact (congrFun (hB2.1 96 (by decide)) b).trans hk | exact (congrFun (hB3.1 96 (by decide)) b).trans hk) ?_
  refine px_iconst (v := nI 5) rfl k_5 ?_
  refine px_icmp_ne rfl (fun _ => ?_) (fun h => absurd h (by decide))
  refine px_aload_n (kk := 0) rfl rfl rfl ?_
  refine px_iload_n (kk := 1) rfl rfl rfl ?_
  refine px_iload_n (kk := 2) rfl rfl rfl ?_
  refine px_callV0 CX12_plainTells [] [.int _, .int _] (vX12_plainTells_7 hb hk hB (by omega)) rfl gS_65 (by decide) rfl rfl rfl (Nat.le_of_ble_eq_true rfl) (by decide) ?_
  rintro _ _ - ⟨rfl, I2, t2, rfl, hB2, ht2⟩
  have hn2 : t2.2 = t.2 + 8 := by rw [ht2]; exact sp_nts_2 _ _
  refine px_ireturn rfl (.inl rfl) ?_
  exact ⟨rfl, I2, t2, rfl, hB2, by first | (rw [ht2]; done) | (rw [ht2]; rfl)⟩
theorem vX12_act_0_0 {I : Nat → Nat → Int32} {J : Nat → Nat → Int64} {p : Bool × Option Nat} {ro : List (Nat × Nat × (Nat → Int32))} {z : Nat} (hz : I 65 55 = nI z) (hz50 : z ≤ 50) {b : Nat} (hb : b < z) (hk : I 96 b = nI 0) {v : Int32} : Pv 9 0 0 CX12_act [.ref (65), .int (nI b), .int (nI 0), .int (v)] (gS, I, J, gR p, ro) (fun r S' => r = some (.int (sp_act 0 0 (nI b) v)) ∧ ∃ I', S' = (gS, I', J, gR p, ro) ∧ Fr [65, 97] I I' ∧ (∀ k, k ≠ 57 → I' 65 k = I 65 k) ∧ I' 65 57 = nI (sp_nts (I 97, 0) (sp_atr 0 0)).2 ∧ I' 97 = (sp_nts (I 97, 0) (sp_atr 0 0)).1) := by
  refine ⟨okCX12_act, Nat.le_of_ble_eq_true rfl, (show Px _ _ _ _ 0 [some (.ref (65)), some (.int (nI b)), some (.int (nI 0)), some (.int (v))] [] _ _ from ?_)⟩
  refine px_aload_n (kk := 0) rfl rfl rfl ?_
  refine px_iconst (v := nI 0) rfl k_0 ?_
  refine px_putI rfl gS_65 rfl rfl ?_
  refine px_aload_n (kk := 0) rfl rfl rfl ?_
  refine px_iload_n (kk := 1) rfl rfl rfl ?_
  refine px_callV0 CX12_isBody [] [.int _] (vX12_isBody (z := z) (by rw [p_up_s, p_up_n _ _ (by decide)]; exact hz) hz50) rfl gS_65 (by decide) rfl rfl rfl (Nat.le_of_ble_eq_true rfl) (by decide) ?_
  rintro _ _ - (⟨hbb, rfl, rfl⟩ | ⟨hbb, rfl, rfl⟩)
  · refine px_if_eq rfl (fun h => absurd h (by decide)) (fun _ => ?_)
    refine px_iload_n (kk := 2) rfl rfl rfl ?_
    refine px_iconst (v := nI 0) rfl k_0 ?_
    refine px_iconst (v := nI 3) rfl k_3 ?_
    refine px_callS0 CX12_in [] [.int _, .int _, .int _] (vX12_in) rfl rfl rfl (Nat.le_of_ble_eq_true rfl) (by decide) ?_
    rintro _ _ - (⟨h03, rfl, rfl⟩ | ⟨h03, rfl, rfl⟩)
    · refine px_if_ne rfl (fun _ => ?_) (fun h => absurd h (by decide))
      refine px_iload_n (kk := 2) rfl rfl rfl ?_
      refine px_if_ne rfl (fun h => absurd h (by decide)) (fun _ => ?_)
      refine px_aload_n (kk := 0) rfl rfl rfl ?_
      refine px_iload_n (kk := 1) rfl rfl rfl ?_
      refine px_iload_n (kk := 3) rfl rfl rfl ?_
      refine px_callV0 CX12_warming [] [.int _, .int _] (vX12_warming_0 (I := I) (t := (I 97, 0)) (I1 := (va_up I 65 (va_up (I 65) 57 (nI 0)))) (by omega) hk ⟨Fr_up Fr_rf (by decide) _, fun k h => by rw [p_up_s, p_up_n _ _ h], by rw [p_up_s, p_up_s], by rw [p_up_n _ _ (by decide)]⟩ (show 0 < 2 ^ 20 - 300 by decide)) rfl gS_65 (by decide) rfl rfl rfl (Nat.le_of_ble_eq_true rfl) (by decide) ?_
      rintro _ _ - ⟨rfl, I2, t2, rfl, hB2, ht2⟩
      subst ht2
      refine px_goto rfl ?_
      refine px_ireturn rfl (.inl rfl) ?_
      exact ⟨rfl, I2, rfl, hB2.1, hB2.2.1, hB2.2.2.1, hB2.2.2.2⟩
    · exact absurd ((in_nn (by decide) (by decide)).mpr ⟨_, Nat.zero_le _, by decide, rfl⟩) h03
  · exact absurd ⟨b, hb, rfl⟩ hbb
theorem vX12_act_0_1 {I : Nat → Nat → Int32} {J : Nat → Nat → Int64} {p : Bool × Option Nat} {ro : List (Nat × Nat × (Nat → Int32))} {z : Nat} (hz : I 65 55 = nI z) (hz50 : z ≤ 50) {b : Nat} (hb : b < z) (hk : I 96 b = nI 0) {v : Int32} : Pv 9 0 0 CX12_act [.ref (65), .int (nI b), .int (nI 1), .int (v)] (gS, I, J, gR p, ro) (fun r S' => r = some (.int (sp_act 0 1 (nI b) v)) ∧ ∃ I', S' = (gS, I', J, gR p, ro) ∧ Fr [65, 97] I I' ∧ (∀ k, k ≠ 57 → I' 65 k = I 65 k) ∧ I' 65 57 = nI (sp_nts (I 97, 0) (sp_atr 0 1)).2 ∧ I' 97 = (sp_nts (I 97, 0) (sp_atr 0 1)).1) := by
  refine ⟨okCX12_act, Nat.le_of_ble_eq_true rfl, (show Px _ _ _ _ 0 [some (.ref (65)), some (.int (nI b)), some (.int (nI 1)), some (.int (v))] [] _ _ from ?_)⟩
  refine px_aload_n (kk := 0) rfl rfl rfl ?_
  refine px_iconst (v := nI 0) rfl k_0 ?_
  refine px_putI rfl gS_65 rfl rfl ?_
  refine px_aload_n (kk := 0) rfl rfl rfl ?_
  refine px_iload_n (kk := 1) rfl rfl rfl ?_
  refine px_callV0 CX12_isBody [] [.int _] (vX12_isBody (z := z) (by rw [p_up_s, p_up_n _ _ (by decide)]; exact hz) hz50) rfl gS_65 (by decide) rfl rfl rfl (Nat.le_of_ble_eq_true rfl) (by decide) ?_
  rintro _ _ - (⟨hbb, rfl, rfl⟩ | ⟨hbb, rfl, rfl⟩)
  · refine px_if_eq rfl (fun h => absurd h (by decide)) (fun _ => ?_)
    refine px_iload_n (kk := 2) rfl rfl rfl ?_
    refine px_iconst (v := nI 0) rfl k_0 ?_
    refine px_iconst (v := nI 3) rfl k_3 ?_
    refine px_callS0 CX12_in [] [.int _, .int _, .int _] (vX12_in) rfl rfl rfl (Nat.le_of_ble_eq_true rfl) (by decide) ?_
    rintro _ _ - (⟨h03, rfl, rfl⟩ | ⟨h03, rfl, rfl⟩)
    · refine px_if_ne rfl (fun _ => ?_) (fun h => absurd h (by decide))
      refine px_iload_n (kk := 2) rfl rfl rfl ?_
      refine px_if_ne rfl (fun _ => ?_) (fun h => absurd h (by decide))
      refine px_iload_n (kk := 2) rfl rfl rfl ?_
      refine px_iconst (v := nI 1) rfl k_1 ?_
      refine px_icmp_ne rfl (fun h => absurd h (by decide)) (fun _ => ?_)
      refine px_aload_n (kk := 0) rfl rfl rfl ?_
      refine px_iload_n (kk := 1) rfl rfl rfl ?_
      refine px_iload_n (kk := 3) rfl rfl rfl ?_
      refine px_callV0 CX12_waiting [] [.int _, .int _] (vX12_waiting_0 (I := I) (t := (I 97, 0)) (I1 := (va_up I 65 (va_up (I 65) 57 (nI 0)))) (by omega) hk ⟨Fr_up Fr_rf (by decide) _, fun k h => by rw [p_up_s, p_up_n _ _ h], by rw [p_up_s, p_up_s], by rw [p_up_n _ _ (by decide)]⟩ (show 0 < 2 ^ 20 - 600 by decide)) rfl gS_65 (by decide) rfl rfl rfl (Nat.le_of_ble_eq_true rfl) (by decide) ?_
      rintro _ _ - ⟨rfl, I2, t2, rfl, hB2, ht2⟩
      subst ht2
      refine px_goto rfl ?_
      refine px_ireturn rfl (.inl rfl) ?_
      exact ⟨rfl, I2, rfl, hB2.1, hB2.2.1, hB2.2.2.1, hB2.2.2.2⟩
    · exact absurd ((in_nn (by decide) (by decide)).mpr ⟨_, Nat.zero_le _, by decide, rfl⟩) h03
  · exact absurd ⟨b, hb, rfl⟩ hbb
theorem vX12_act_0_2 {I : Nat → Nat → Int32} {J : Nat → Nat → Int64} {p : Bool × Option Nat} {ro : List (Nat × Nat × (Nat → Int32))} {z : Nat} (hz : I 65 55 = nI z) (hz50 : z ≤ 50) {b : Nat} (hb : b < z) (hk : I 96 b = nI 0) {v : Int32} : Pv 9 0 0 CX12_act [.ref (65), .int (nI b), .int (nI 2), .int (v)] (gS, I, J, gR p, ro) (fun r S' => r = some (.int (sp_act 0 2 (nI b) v)) ∧ ∃ I', S' = (gS, I', J, gR p, ro) ∧ Fr [65, 97] I I' ∧ (∀ k, k ≠ 57 → I' 65 k = I 65 k) ∧ I' 65 57 = nI (sp_nts (I 97, 0) (sp_atr 0 2)).2 ∧ I' 97 = (sp_nts (I 97, 0) (sp_atr 0 2)).1) := by
  refine ⟨okCX12_act, Nat.le_of_ble_eq_true rfl, (show Px _ _ _ _ 0 [some (.ref (65)), some (.int (nI b)), some (.int (nI 2)), some (.int (v))] [] _ _ from ?_)⟩
  refine px_aload_n (kk := 0) rfl rfl rfl ?_
  refine px_iconst (v := nI 0) rfl k_0 ?_
  refine px_putI rfl gS_65 rfl rfl ?_
  refine px_aload_n (kk := 0) rfl rfl rfl ?_
  refine px_iload_n (kk := 1) rfl rfl rfl ?_
  refine px_callV0 CX12_isBody [] [.int _] (vX12_isBody (z := z) (by rw [p_up_s, p_up_n _ _ (by decide)]; exact hz) hz50) rfl gS_65 (by decide) rfl rfl rfl (Nat.le_of_ble_eq_true rfl) (by decide) ?_
  rintro _ _ - (⟨hbb, rfl, rfl⟩ | ⟨hbb, rfl, rfl⟩)
  · refine px_if_eq rfl (fun h => absurd h (by decide)) (fun _ => ?_)
    refine px_iload_n (kk := 2) rfl rfl rfl ?_
    refine px_iconst (v := nI 0) rfl k_0 ?_
    refine px_iconst (v := nI 3) rfl k_3 ?_
    refine px_callS0 CX12_in [] [.int _, .int _, .int _] (vX12_in) rfl rfl rfl (Nat.le_of_ble_eq_true rfl) (by decide) ?_
    rintro _ _ - (⟨h03, rfl, rfl⟩ | ⟨h03, rfl, rfl⟩)
    · refine px_if_ne rfl (fun _ => ?_) (fun h => absurd h (by decide))
      refine px_iload_n (kk := 2) rfl rfl rfl ?_
      refine px_if_ne rfl (fun _ => ?_) (fun h => absurd h (by decide))
      refine px_iload_n (kk := 2) rfl rfl rfl ?_
      refine px_iconst (v := nI 1) rfl k_1 ?_
      refine px_icmp_ne rfl (fun _ => ?_) (fun h => absurd h (by decide))
      refine px_iload_n (kk := 2) rfl rfl rfl ?_
      refine px_iconst (v := nI 2) rfl k_2 ?_
      refine px_icmp_ne rfl (fun h => absurd h (by decide)) (fun _ => ?_)
      refine px_aload_n (kk := 0) rfl rfl rfl ?_
      refine px_iload_n (kk := 1) rfl rfl rfl ?_
      refine px_iload_n (kk := 3) rfl rfl rfl ?_
      refine px_callV0 CX12_crossing [] [.int _, .int _] (vX12_crossing_0 (I := I) (t := (I 97, 0)) (I1 := (va_up I 65 (va_up (I 65) 57 (nI 0)))) (by omega) hk ⟨Fr_up Fr_rf (by decide) _, fun k h => by rw [p_up_s, p_up_n _ _ h], by rw [p_up_s, p_up_s], by rw [p_up_n _ _ (by decide)]⟩ (show 0 < 2 ^ 20 - 400 by decide)) rfl gS_65 (by decide) rfl rfl rfl (Nat.le_of_ble_eq_true rfl) (by decide) ?_
      rintro _ _ - ⟨rfl, I2, t2, rfl, hB2, ht2⟩
      subst ht2
      refine px_goto rfl ?_
      refine px_ireturn rfl (.inl rfl) ?_
      exact ⟨rfl, I2, rfl, hB2.1, hB2.2.1, hB2.2.2.1, hB2.2.2.2⟩
    · exact absurd ((in_nn (by decide) (by decide)).mpr ⟨_, Nat.zero_le _, by decide, rfl⟩) h03
  · exact absurd ⟨b, hb, rfl⟩ hbb
theorem vX12_act_0_3 {I : Nat → Nat → Int32} {J : Nat → Nat → Int64} {p : Bool × Option Nat} {ro : List (Nat × Nat × (Nat → Int32))} {z : Nat} (hz : I 65 55 = nI z) (hz50 : z ≤ 50) {b : Nat} (hb : b < z) (hk : I 96 b = nI 0) {v : Int32} : Pv 9 0 0 CX12_act [.ref (65), .int (nI b), .int (nI 3), .int (v)] (gS, I, J, gR p, ro) (fun r S' => r = some (.int (sp_act 0 3 (nI b) v)) ∧ ∃ I', S' = (gS, I', J, gR p, ro) ∧ Fr [65, 97] I I' ∧ (∀ k, k ≠ 57 → I' 65 k = I 65 k) ∧ I' 65 57 = nI (sp_nts (I 97, 0) (sp_atr 0 3)).2 ∧ I' 97 = (sp_nts (I 97, 0) (sp_atr 0 3)).1) := by
  refine ⟨okCX12_act, Nat.le_of_ble_eq_true rfl, (show Px _ _ _ _ 0 [some (.ref (65)), some (.int (nI b)), some (.int (nI 3)), some (.int (v))] [] _ _ from ?_)⟩
  refine px_aload_n (kk := 0) rfl rfl rfl ?_
  refine px_iconst (v := nI 0) rfl k_0 ?_
  refine px_putI rfl gS_65 rfl rfl ?_
  refine px_aload_n (kk := 0) rfl rfl rfl ?_
  refine px_iload_n (kk := 1) rfl rfl rfl ?_
  refine px_callV0 CX12_isBody [] [.int _] (vX12_isBody (z := z) (by rw [p_up_s, p_up_n _ _ (by decide)]; exact hz) hz50) rfl gS_65 (by decide) rfl rfl rfl (Nat.le_of_ble_eq_true rfl) (by decide) ?_
  rintro _ _ - (⟨hbb, rfl, rfl⟩ | ⟨hbb, rfl, rfl⟩)
  · refine px_if_eq rfl (fun h => absurd h (by decide)) (fun _ => ?_)
    refine px_iload_n (kk := 2) rfl rfl rfl ?_
    refine px_iconst (v := nI 0) rfl k_0 ?_
    refine px_iconst (v := nI 3) rfl k_3 ?_
    refine px_callS0 CX12_in [] [.int _, .int _, .int _] (vX12_in) rfl rfl rfl (Nat.le_of_ble_eq_true rfl) (by decide) ?_
    rintro _ _ - (⟨h03, rfl, rfl⟩ | ⟨h03, rfl, rfl⟩)
    · refine px_if_ne rfl (fun _ => ?_) (fun h => absurd h (by decide))
      refine px_iload_n (kk := 2) rfl rfl rfl ?_
      refine px_if_ne rfl (fun _ => ?_) (fun h => absurd h (by decide))
      refine px_iload_n (kk := 2) rfl rfl rfl ?_
      refine px_iconst (v := nI 1) rfl k_1 ?_
      refine px_icmp_ne rfl (fun _ => ?_) (fun h => absurd h (by decide))
      refine px_iload_n (kk := 2) rfl rfl rfl ?_
      refine px_iconst (v := nI 2) rfl k_2 ?_
      refine px_icmp_ne rfl (fun _ => ?_) (fun h => absurd h (by decide))
      refine px_aload_n (kk := 0) rfl rfl rfl ?_
      refine px_iload_n (kk := 1) rfl rfl rfl ?_
      refine px_iload_n (kk := 3) rfl rfl rfl ?_
      refine px_callV0 CX12_telling [] [.int _, .int _] (vX12_telling_0 (I := I) (t := (I 97, 0)) (I1 := (va_up I 65 (va_up (I 65) 57 (nI 0)))) (by omega) hk ⟨Fr_up Fr_rf (by decide) _, fun k h => by rw [p_up_s, p_up_n _ _ h], by rw [p_up_s, p_up_s], by rw [p_up_n _ _ (by decide)]⟩ (show 0 < 2 ^ 20 - 800 by decide)) rfl gS_65 (by decide) rfl rfl rfl (Nat.le_of_ble_eq_true rfl) (by decide) ?_
      rintro _ _ - ⟨rfl, I2, t2, rfl, hB2, ht2⟩
      subst ht2
      refine px_ireturn rfl (.inl rfl) ?_
      exact ⟨rfl, I2, rfl, hB2.1, hB2.2.1, hB2.2.2.1, hB2.2.2.2⟩
    · exact absurd ((in_nn (by decide) (by decide)).mpr ⟨_, Nat.zero_le _, by decide, rfl⟩) h03
  · exact absurd ⟨b, hb, rfl⟩ hbb
theorem vX12_act_1_0 {I : Nat → Nat → Int32} {J : Nat → Nat → Int64} {p : Bool × Option Nat} {ro : List (Nat × Nat × (Nat → Int32))} {z : Nat} (hz : I 65 55 = nI z) (hz50 : z ≤ 50) {b : Nat} (hb : b < z) (hk : I 96 b = nI 1) {v : Int32} : Pv 9 0 0 CX12_act [.ref (65), .int (nI b), .int (nI 0), .int (v)] (gS, I, J, gR p, ro) (fun r S' => r = some (.int (sp_act 1 0 (nI b) v)) ∧ ∃ I', S' = (gS, I', J, gR p, ro) ∧ Fr [65, 97] I I' ∧ (∀ k, k ≠ 57 → I' 65 k = I 65 k) ∧ I' 65 57 = nI (sp_nts (I 97, 0) (sp_atr 1 0)).2 ∧ I' 97 = (sp_nts (I 97, 0) (sp_atr 1 0)).1) := by
  refine ⟨okCX12_act, Nat.le_of_ble_eq_true rfl, (show Px _ _ _ _ 0 [some (.ref (65)), some (.int (nI b)), some (.int (nI 0)), some (.int (v))] [] _ _ from ?_)⟩
  refine px_aload_n (kk := 0) rfl rfl rfl ?_
  refine px_iconst (v := nI 0) rfl k_0 ?_
  refine px_putI rfl gS_65 rfl rfl ?_
  refine px_aload_n (kk := 0) rfl rfl rfl ?_
  refine px_iload_n (kk := 1) rfl rfl rfl ?_
  refine px_callV0 CX12_isBody [] [.int _] (vX12_isBody (z := z) (by rw [p_up_s, p_up_n _ _ (by decide)]; exact hz) hz50) rfl gS_65 (by decide) rfl rfl rfl (Nat.le_of_ble_eq_true rfl) (by decide) ?_
  rintro _ _ - (⟨hbb, rfl, rfl⟩ | ⟨hbb, rfl, rfl⟩)
  · refine px_if_eq rfl (fun h => absurd h (by decide)) (fun _ => ?_)
    refine px_iload_n (kk := 2) rfl rfl rfl ?_
    refine px_iconst (v := nI 0) rfl k_0 ?_
    refine px_iconst (v := nI 3) rfl k_3 ?_
    refine px_callS0 CX12_in [] [.int _, .int _, .int _] (vX12_in) rfl rfl rfl (Nat.le_of_ble_eq_true rfl) (by decide) ?_
    rintro _ _ - (⟨h03, rfl, rfl⟩ | ⟨h03, rfl, rfl⟩)
    · refine px_if_ne rfl (fun _ => ?_) (fun h => absurd h (by decide))
      refine px_iload_n (kk := 2) rfl rfl rfl ?_
      refine px_if_ne rfl (fun h => absurd h (by decide)) (fun _ => ?_)
      refine px_aload_n (kk := 0) rfl rfl rfl ?_
      refine px_iload_n (kk := 1) rfl rfl rfl ?_
      refine px_iload_n (kk := 3) rfl rfl rfl ?_
      refine px_callV0 CX12_warming [] [.int _, .int _] (vX12_warming_1 (I := I) (t := (I 97, 0)) (I1 := (va_up I 65 (va_up (I 65) 57 (nI 0)))) (by omega) hk ⟨Fr_up Fr_rf (by decide) _, fun k h => by rw [p_up_s, p_up_n _ _ h], by rw [p_up_s, p_up_s], by rw [p_up_n _ _ (by decide)]⟩ (show 0 < 2 ^ 20 - 300 by decide)) rfl gS_65 (by decide) rfl rfl rfl (Nat.le_of_ble_eq_true rfl) (by decide) ?_
      rintro _ _ - ⟨rfl, I2, t2, rfl, hB2, ht2⟩
      subst ht2
      refine px_goto rfl ?_
      refine px_ireturn rfl (.inl rfl) ?_
      exact ⟨rfl, I2, rfl, hB2.1, hB2.2.1, hB2.2.2.1, hB2.2.2.2⟩
    · exact absurd ((in_nn (by decide) (by decide)).mpr ⟨_, Nat.zero_le _, by decide, rfl⟩) h03
  · exact absurd ⟨b, hb, rfl⟩ hbb
theorem vX12_act_1_1 {I : Nat → Nat → Int32} {J : Nat → Nat → Int64} {p : Bool × Option Nat} {ro : List (Nat × Nat × (Nat → Int32))} {z : Nat} (hz : I 65 55 = nI z) (hz50 : z ≤ 50) {b : Nat} (hb : b < z) (hk : I 96 b = nI 1) {v : Int32} : Pv 9 0 0 CX12_act [.ref (65), .int (nI b), .int (nI 1), .int (v)] (gS, I, J, gR p, ro) (fun r S' => r = some (.int (sp_act 1 1 (nI b) v)) ∧ ∃ I', S' = (gS, I', J, gR p, ro) ∧ Fr [65, 97] I I' ∧ (∀ k, k ≠ 57 → I' 65 k = I 65 k) ∧ I' 65 57 = nI (sp_nts (I 97, 0) (sp_atr 1 1)).2 ∧ I' 97 = (sp_nts (I 97, 0) (sp_atr 1 1)).1) := by
  refine ⟨okCX12_act, Nat.le_of_ble_eq_true rfl, (show Px _ _ _ _ 0 [some (.ref (65)), some (.int (nI b)), some (.int (nI 1)), some (.int (v))] [] _ _ from ?_)⟩
  refine px_aload_n (kk := 0) rfl rfl rfl ?_
  refine px_iconst (v := nI 0) rfl k_0 ?_
  refine px_putI rfl gS_65 rfl rfl ?_
  refine px_aload_n (kk := 0) rfl rfl rfl ?_
  refine px_iload_n (kk := 1) rfl rfl rfl ?_
  refine px_callV0 CX12_isBody [] [.int _] (vX12_isBody (z := z) (by rw [p_up_s, p_up_n _ _ (by decide)]; exact hz) hz50) rfl gS_65 (by decide) rfl rfl rfl (Nat.le_of_ble_eq_true rfl) (by decide) ?_
  rintro _ _ - (⟨hbb, rfl, rfl⟩ | ⟨hbb, rfl, rfl⟩)
  · refine px_if_eq rfl (fun h => absurd h (by decide)) (fun _ => ?_)
    refine px_iload_n (kk := 2) rfl rfl rfl ?_
    refine px_iconst (v := nI 0) rfl k_0 ?_
    refine px_iconst (v := nI 3) rfl k_3 ?_
    refine px_callS0 CX12_in [] [.int _, .int _, .int _] (vX12_in) rfl rfl rfl (Nat.le_of_ble_eq_true rfl) (by decide) ?_
    rintro _ _ - (⟨h03, rfl, rfl⟩ | ⟨h03, rfl, rfl⟩)
    · refine px_if_ne rfl (fun _ => ?_) (fun h => absurd h (by decide))
      refine px_iload_n (kk := 2) rfl rfl rfl ?_
      refine px_if_ne rfl (fun _ => ?_) (fun h => absurd h (by decide))
      refine px_iload_n (kk := 2) rfl rfl rfl ?_
      refine px_iconst (v := nI 1) rfl k_1 ?_
      refine px_icmp_ne rfl (fun h => absurd h (by decide)) (fun _ => ?_)
      refine px_aload_n (kk := 0) rfl rfl rfl ?_
      refine px_iload_n (kk := 1) rfl rfl rfl ?_
      refine px_iload_n (kk := 3) rfl rfl rfl ?_
      refine px_callV0 CX12_waiting [] [.int _, .int _] (vX12_waiting_1 (I := I) (t := (I 97, 0)) (I1 := (va_up I 65 (va_up (I 65) 57 (nI 0)))) (by omega) hk ⟨Fr_up Fr_rf (by decide) _, fun k h => by rw [p_up_s, p_up_n _ _ h], by rw [p_up_s, p_up_s], by rw [p_up_n _ _ (by decide)]⟩ (show 0 < 2 ^ 20 - 600 by decide)) rfl gS_65 (by decide) rfl rfl rfl (Nat.le_of_ble_eq_true rfl) (by decide) ?_
      rintro _ _ - ⟨rfl, I2, t2, rfl, hB2, ht2⟩
      subst ht2
      refine px_goto rfl ?_
      refine px_ireturn rfl (.inl rfl) ?_
      exact ⟨rfl, I2, rfl, hB2.1, hB2.2.1, hB2.2.2.1, hB2.2.2.2⟩
    · exact absurd ((in_nn (by decide) (by decide)).mpr ⟨_, Nat.zero_le _, by decide, rfl⟩) h03
  · exact absurd ⟨b, hb, rfl⟩ hbb
theorem vX12_act_1_2 {I : Nat → Nat → Int32} {J : Nat → Nat → Int64} {p : Bool × Option Nat} {ro : List (Nat × Nat × (Nat → Int32))} {z : Nat} (hz : I 65 55 = nI z) (hz50 : z ≤ 50) {b : Nat} (hb : b < z) (hk : I 96 b = nI 1) {v : Int32} : Pv 9 0 0 CX12_act [.ref (65), .int (nI b), .int (nI 2), .int (v)] (gS, I, J, gR p, ro) (fun r S' => r = some (.int (sp_act 1 2 (nI b) v)) ∧ ∃ I', S' = (gS, I', J, gR p, ro) ∧ Fr [65, 97] I I' ∧ (∀ k, k ≠ 57 → I' 65 k = I 65 k) ∧ I' 65 57 = nI (sp_nts (I 97, 0) (sp_atr 1 2)).2 ∧ I' 97 = (sp_nts (I 97, 0) (sp_atr 1 2)).1) := by
  refine ⟨okCX12_act, Nat.le_of_ble_eq_true rfl, (show Px _ _ _ _ 0 [some (.ref (65)), some (.int (nI b)), some (.int (nI 2)), some (.int (v))] [] _ _ from ?_)⟩
  refine px_aload_n (kk := 0) rfl rfl rfl ?_
  refine px_iconst (v := nI 0) rfl k_0 ?_
  refine px_putI rfl gS_65 rfl rfl ?_
  refine px_aload_n (kk := 0) rfl rfl rfl ?_
  refine px_iload_n (kk := 1) rfl rfl rfl ?_
  refine px_callV0 CX12_isBody [] [.int _] (vX12_isBody (z := z) (by rw [p_up_s, p_up_n _ _ (by decide)]; exact hz) hz50) rfl gS_65 (by decide) rfl rfl rfl (Nat.le_of_ble_eq_true rfl) (by decide) ?_
  rintro _ _ - (⟨hbb, rfl, rfl⟩ | ⟨hbb, rfl, rfl⟩)
  · refine px_if_eq rfl (fun h => absurd h (by decide)) (fun _ => ?_)
    refine px_iload_n (kk := 2) rfl rfl rfl ?_
    refine px_iconst (v := nI 0) rfl k_0 ?_
    refine px_iconst (v := nI 3) rfl k_3 ?_
    refine px_callS0 CX12_in [] [.int _, .int _, .int _] (vX12_in) rfl rfl rfl (Nat.le_of_ble_eq_true rfl) (by decide) ?_
    rintro _ _ - (⟨h03, rfl, rfl⟩ | ⟨h03, rfl, rfl⟩)
    · refine px_if_ne rfl (fun _ => ?_) (fun h => absurd h (by decide))
      refine px_iload_n (kk := 2) rfl rfl rfl ?_
      refine px_if_ne rfl (fun _ => ?_) (fun h => absurd h (by decide))
      refine px_iload_n (kk := 2) rfl rfl rfl ?_
      refine px_iconst (v := nI 1) rfl k_1 ?_
      refine px_icmp_ne rfl (fun _ => ?_) (fun h => absurd h (by decide))
      refine px_iload_n (kk := 2) rfl rfl rfl ?_
      refine px_iconst (v := nI 2) rfl k_2 ?_
      refine px_icmp_ne rfl (fun h => absurd h (by decide)) (fun _ => ?_)
      refine px_aload_n (kk := 0) rfl rfl rfl ?_
      refine px_iload_n (kk := 1) rfl rfl rfl ?_
      refine px_iload_n (kk := 3) rfl rfl rfl ?_
      refine px_callV0 CX12_crossing [] [.int _, .int _] (vX12_crossing_1 (I := I) (t := (I 97, 0)) (I1 := (va_up I 65 (va_up (I 65) 57 (nI 0)))) (by omega) hk ⟨Fr_up Fr_rf (by decide) _, fun k h => by rw [p_up_s, p_up_n _ _ h], by rw [p_up_s, p_up_s], by rw [p_up_n _ _ (by decide)]⟩ (show 0 < 2 ^ 20 - 400 by decide)) rfl gS_65 (by decide) rfl rfl rfl (Nat.le_of_ble_eq_true rfl) (by decide) ?_
      rintro _ _ - ⟨rfl, I2, t2, rfl, hB2, ht2⟩
      subst ht2
      refine px_goto rfl ?_
      refine px_ireturn rfl (.inl rfl) ?_
      exact ⟨rfl, I2, rfl, hB2.1, hB2.2.1, hB2.2.2.1, hB2.2.2.2⟩
    · exact absurd ((in_nn (by decide) (by decide)).mpr ⟨_, Nat.zero_le _, by decide, rfl⟩) h03
  · exact absurd ⟨b, hb, rfl⟩ hbb
theorem vX12_act_1_3 {I : Nat → Nat → Int32} {J : Nat → Nat → Int64} {p : Bool × Option Nat} {ro : List (Nat × Nat × (Nat → Int32))} {z : Nat} (hz : I 65 55 = nI z) (hz50 : z ≤ 50) {b : Nat} (hb : b < z) (hk : I 96 b = nI 1) {v : Int32} : Pv 9 0 0 CX12_act [.ref (65), .int (nI b), .int (nI 3), .int (v)] (gS, I, J, gR p, ro) (fun r S' => r = some (.int (sp_act 1 3 (nI b) v)) ∧ ∃ I', S' = (gS, I', J, gR p, ro) ∧ Fr [65, 97] I I' ∧ (∀ k, k ≠ 57 → I' 65 k = I 65 k) ∧ I' 65 57 = nI (sp_nts (I 97, 0) (sp_atr 1 3)).2 ∧ I' 97 = (sp_nts (I 97, 0) (sp_atr 1 3)).1) := by
  refine ⟨okCX12_act, Nat.le_of_ble_eq_true rfl, (show Px _ _ _ _ 0 [some (.ref (65)), some (.int (nI b)), some (.int (nI 3)), some (.int (v))] [] _ _ from ?_)⟩
  refine px_aload_n (kk := 0) rfl rfl rfl ?_
  refine px_iconst (v := nI 0) rfl k_0 ?_
  refine px_putI rfl gS_65 rfl rfl ?_
  refine px_aload_n (kk := 0) rfl rfl rfl ?_
  refine px_iload_n (kk := 1) rfl rfl rfl ?_
  refine px_callV0 CX12_isBody [] [.int _] (vX12_isBody (z := z) (by rw [p_up_s, p_up_n _ _ (by decide)]; exact hz) hz50) rfl gS_65 (by decide) rfl rfl rfl (Nat.le_of_ble_eq_true rfl) (by decide) ?_
  rintro _ _ - (⟨hbb, rfl, rfl⟩ | ⟨hbb, rfl, rfl⟩)
  · refine px_if_eq rfl (fun h => absurd h (by decide)) (fun _ => ?_)
    refine px_iload_n (kk := 2) rfl rfl rfl ?_
    refine px_iconst (v := nI 0) rfl k_0 ?_
    refine px_iconst (v := nI 3) rfl k_3 ?_
    refine px_callS0 CX12_in [] [.int _, .int _, .int _] (vX12_in) rfl rfl rfl (Nat.le_of_ble_eq_true rfl) (by decide) ?_
    rintro _ _ - (⟨h03, rfl, rfl⟩ | ⟨h03, rfl, rfl⟩)
    · refine px_if_ne rfl (fun _ => ?_) (fun h => absurd h (by decide))
      refine px_iload_n (kk := 2) rfl rfl rfl ?_
      refine px_if_ne rfl (fun _ => ?_) (fun h => absurd h (by decide))
      refine px_iload_n (kk := 2) rfl rfl rfl ?_
      refine px_iconst (v := nI 1) rfl k_1 ?_
      refine px_icmp_ne rfl (fun _ => ?_) (fun h => absurd h (by decide))
      refine px_iload_n (kk := 2) rfl rfl rfl ?_
      refine px_iconst (v := nI 2) rfl k_2 ?_
      refine px_icmp_ne rfl (fun _ => ?_) (fun h => absurd h (by decide))
      refine px_aload_n (kk := 0) rfl rfl rfl ?_
      refine px_iload_n (kk := 1) rfl rfl rfl ?_
      refine px_iload_n (kk := 3) rfl rfl rfl ?_
      refine px_callV0 CX12_telling [] [.int _, .int _] (vX12_telling_1 (I := I) (t := (I 97, 0)) (I1 := (va_up I 65 (va_up (I 65) 57 (nI 0)))) (by omega) hk ⟨Fr_up Fr_rf (by decide) _, fun k h => by rw [p_up_s, p_up_n _ _ h], by rw [p_up_s, p_up_s], by rw [p_up_n _ _ (by decide)]⟩ (show 0 < 2 ^ 20 - 800 by decide)) rfl gS_65 (by decide) rfl rfl rfl (Nat.le_of_ble_eq_true rfl) (by decide) ?_
      rintro _ _ - ⟨rfl, I2, t2, rfl, hB2, ht2⟩
      subst ht2
      refine px_ireturn rfl (.inl rfl) ?_
      exact ⟨rfl, I2, rfl, hB2.1, hB2.2.1, hB2.2.2.1, hB2.2.2.2⟩
    · exact absurd ((in_nn (by decide) (by decide)).mpr ⟨_, Nat.zero_le _, by decide, rfl⟩) h03
  · exact absurd ⟨b, hb, rfl⟩ hbb
theorem vX12_act_2_0 {I : Nat → Nat → Int32} {J : Nat → Nat → Int64} {p : Bool × Option Nat} {ro : List (Nat × Nat × (Nat → Int32))} {z : Nat} (hz : I 65 55 = nI z) (hz50 : z ≤ 50) {b : Nat} (hb : b < z) (hk : I 96 b = nI 2) {v : Int32} : Pv 9 0 0 CX12_act [.ref (65), .int (nI b), .int (nI 0), .int (v)] (gS, I, J, gR p, ro) (fun r S' => r = some (.int (sp_act 2 0 (nI b) v)) ∧ ∃ I', S' = (gS, I', J, gR p, ro) ∧ Fr [65, 97] I I' ∧ (∀ k, k ≠ 57 → I' 65 k = I 65 k) ∧ I' 65 57 = nI (sp_nts (I 97, 0) (sp_atr 2 0)).2 ∧ I' 97 = (sp_nts (I 97, 0) (sp_atr 2 0)).1) := by
  refine ⟨okCX12_act, Nat.le_of_ble_eq_true rfl, (show Px _ _ _ _ 0 [some (.ref (65)), some (.int (nI b)), some (.int (nI 0)), some (.int (v))] [] _ _ from ?_)⟩
  refine px_aload_n (kk := 0) rfl rfl rfl ?_
  refine px_iconst (v := nI 0) rfl k_0 ?_
  refine px_putI rfl gS_65 rfl rfl ?_
  refine px_aload_n (kk := 0) rfl rfl rfl ?_
  refine px_iload_n (kk := 1) rfl rfl rfl ?_
  refine px_callV0 CX12_isBody [] [.int _] (vX12_isBody (z := z) (by rw [p_up_s, p_up_n _ _ (by decide)]; exact hz) hz50) rfl gS_65 (by decide) rfl rfl rfl (Nat.le_of_ble_eq_true rfl) (by decide) ?_
  rintro _ _ - (⟨hbb, rfl, rfl⟩ | ⟨hbb, rfl, rfl⟩)
  · refine px_if_eq rfl (fun h => absurd h (by decide)) (fun _ => ?_)
    refine px_iload_n (kk := 2) rfl rfl rfl ?_
    refine px_iconst (v := nI 0) rfl k_0 ?_
    refine px_iconst (v := nI 3) rfl k_3 ?_
    refine px_callS0 CX12_in [] [.int _, .int _, .int _] (vX12_in) rfl rfl rfl (Nat.le_of_ble_eq_true rfl) (by decide) ?_
    rintro _ _ - (⟨h03, rfl, rfl⟩ | ⟨h03, rfl, rfl⟩)
    · refine px_if_ne rfl (fun _ => ?_) (fun h => absurd h (by decide))
      refine px_iload_n (kk := 2) rfl rfl rfl ?_
      refine px_if_ne rfl (fun h => absurd h (by decide)) (fun _ => ?_)
      refine px_aload_n (kk := 0) rfl rfl rfl ?_
      refine px_iload_n (kk := 1) rfl rfl rfl ?_
      refine px_iload_n (kk := 3) rfl rfl rfl ?_
      refine px_callV0 CX12_warming [] [.int _, .int _] (vX12_warming_2 (I := I) (t := (I 97, 0)) (I1 := (va_up I 65 (va_up (I 65) 57 (nI 0)))) (by omega) hk ⟨Fr_up Fr_rf (by decide) _, fun k h => by rw [p_up_s, p_up_n _ _ h], by rw [p_up_s, p_up_s], by rw [p_up_n _ _ (by decide)]⟩ (show 0 < 2 ^ 20 - 300 by decide)) rfl gS_65 (by decide) rfl rfl rfl (Nat.le_of_ble_eq_true rfl) (by decide) ?_
      rintro _ _ - ⟨rfl, I2, t2, rfl, hB2, ht2⟩
      subst ht2
      refine px_goto rfl ?_
      refine px_ireturn rfl (.inl rfl) ?_
      exact ⟨rfl, I2, rfl, hB2.1, hB2.2.1, hB2.2.2.1, hB2.2.2.2⟩
    · exact absurd ((in_nn (by decide) (by decide)).mpr ⟨_, Nat.zero_le _, by decide, rfl⟩) h03
  · exact absurd ⟨b, hb, rfl⟩ hbb
theorem vX12_act_2_1 {I : Nat → Nat → Int32} {J : Nat → Nat → Int64} {p : Bool × Option Nat} {ro : List (Nat × Nat × (Nat → Int32))} {z : Nat} (hz : I 65 55 = nI z) (hz50 : z ≤ 50) {b : Nat} (hb : b < z) (hk : I 96 b = nI 2) {v : Int32} : Pv 9 0 0 CX12_act [.ref (65), .int (nI b), .int (nI 1), .int (v)] (gS, I, J, gR p, ro) (fun r S' => r = some (.int (sp_act 2 1 (nI b) v)) ∧ ∃ I', S' = (gS, I', J, gR p, ro) ∧ Fr [65, 97] I I' ∧ (∀ k, k ≠ 57 → I' 65 k = I 65 k) ∧ I' 65 57 = nI (sp_nts (I 97, 0) (sp_atr 2 1)).2 ∧ I' 97 = (sp_nts (I 97, 0) (sp_atr 2 1)).1) := by
  refine ⟨okCX12_act, Nat.le_of_ble_eq_true rfl, (show Px _ _ _ _ 0 [some (.ref (65)), some (.int (nI b)), some (.int (nI 1)), some (.int (v))] [] _ _ from ?_)⟩
  refine px_aload_n (kk := 0) rfl rfl rfl ?_
  refine px_iconst (v := nI 0) rfl k_0 ?_
  refine px_putI rfl gS_65 rfl rfl ?_
  refine px_aload_n (kk := 0) rfl rfl rfl ?_
  refine px_iload_n (kk := 1) rfl rfl rfl ?_
  refine px_callV0 CX12_isBody [] [.int _] (vX12_isBody (z := z) (by rw [p_up_s, p_up_n _ _ (by decide)]; exact hz) hz50) rfl gS_65 (by decide) rfl rfl rfl (Nat.le_of_ble_eq_true rfl) (by decide) ?_
  rintro _ _ - (⟨hbb, rfl, rfl⟩ | ⟨hbb, rfl, rfl⟩)
  · refine px_if_eq rfl (fun h => absurd h (by decide)) (fun _ => ?_)
    refine px_iload_n (kk := 2) rfl rfl rfl ?_
    refine px_iconst (v := nI 0) rfl k_0 ?_
    refine px_iconst (v := nI 3) rfl k_3 ?_
    refine px_callS0 CX12_in [] [.int _, .int _, .int _] (vX12_in) rfl rfl rfl (Nat.le_of_ble_eq_true rfl) (by decide) ?_
    rintro _ _ - (⟨h03, rfl, rfl⟩ | ⟨h03, rfl, rfl⟩)
    · refine px_if_ne rfl (fun _ => ?_) (fun h => absurd h (by decide))
      refine px_iload_n (kk := 2) rfl rfl rfl ?_
      refine px_if_ne rfl (fun _ => ?_) (fun h => absurd h (by decide))
      refine px_iload_n (kk := 2) rfl rfl rfl ?_
      refine px_iconst (v := nI 1) rfl k_1 ?_
      refine px_icmp_ne rfl (fun h => absurd h (by decide)) (fun _ => ?_)
      refine px_aload_n (kk := 0) rfl rfl rfl ?_
      refine px_iload_n (kk := 1) rfl rfl rfl ?_
      refine px_iload_n (kk := 3) rfl rfl rfl ?_
      refine px_callV0 CX12_waiting [] [.int _, .int _] (vX12_waiting_2 (I := I) (t := (I 97, 0)) (I1 := (va_up I 65 (va_up (I 65) 57 (nI 0)))) (by omega) hk ⟨Fr_up Fr_rf (by decide) _, fun k h => by rw [p_up_s, p_up_n _ _ h], by rw [p_up_s, p_up_s], by rw [p_up_n _ _ (by decide)]⟩ (show 0 < 2 ^ 20 - 600 by decide)) rfl gS_65 (by decide) rfl rfl rfl (Nat.le_of_ble_eq_true rfl) (by decide) ?_
      rintro _ _ - ⟨rfl, I2, t2, rfl, hB2, ht2⟩
      subst ht2
      refine px_goto rfl ?_
      refine px_ireturn rfl (.inl rfl) ?_
      exact ⟨rfl, I2, rfl, hB2.1, hB2.2.1, hB2.2.2.1, hB2.2.2.2⟩
    · exact absurd ((in_nn (by decide) (by decide)).mpr ⟨_, Nat.zero_le _, by decide, rfl⟩) h03
  · exact absurd ⟨b, hb, rfl⟩ hbb
theorem vX12_act_2_2 {I : Nat → Nat → Int32} {J : Nat → Nat → Int64} {p : Bool × Option Nat} {ro : List (Nat × Nat × (Nat → Int32))} {z : Nat} (hz : I 65 55 = nI z) (hz50 : z ≤ 50) {b : Nat} (hb : b < z) (hk : I 96 b = nI 2) {v : Int32} : Pv 9 0 0 CX12_act [.ref (65), .int (nI b), .int (nI 2), .int (v)] (gS, I, J, gR p, ro) (fun r S' => r = some (.int (sp_act 2 2 (nI b) v)) ∧ ∃ I', S' = (gS, I', J, gR p, ro) ∧ Fr [65, 97] I I' ∧ (∀ k, k ≠ 57 → I' 65 k = I 65 k) ∧ I' 65 57 = nI (sp_nts (I 97, 0) (sp_atr 2 2)).2 ∧ I' 97 = (sp_nts (I 97, 0) (sp_atr 2 2)).1) := by
  refine ⟨okCX12_act, Nat.le_of_ble_eq_true rfl, (show Px _ _ _ _ 0 [some (.ref (65)), some (.int (nI b)), some (.int (nI 2)), some (.int (v))] [] _ _ from ?_)⟩
  refine px_aload_n (kk := 0) rfl rfl rfl ?_
  refine px_iconst (v := nI 0) rfl k_0 ?_
  refine px_putI rfl gS_65 rfl rfl ?_
  refine px_aload_n (kk := 0) rfl rfl rfl ?_
  refine px_iload_n (kk := 1) rfl rfl rfl ?_
  refine px_callV0 CX12_isBody [] [.int _] (vX12_isBody (z := z) (by rw [p_up_s, p_up_n _ _ (by decide)]; exact hz) hz50) rfl gS_65 (by decide) rfl rfl rfl (Nat.le_of_ble_eq_true rfl) (by decide) ?_
  rintro _ _ - (⟨hbb, rfl, rfl⟩ | ⟨hbb, rfl, rfl⟩)
  · refine px_if_eq rfl (fun h => absurd h (by decide)) (fun _ => ?_)
    refine px_iload_n (kk := 2) rfl rfl rfl ?_
    refine px_iconst (v := nI 0) rfl k_0 ?_
    refine px_iconst (v := nI 3) rfl k_3 ?_
    refine px_callS0 CX12_in [] [.int _, .int _, .int _] (vX12_in) rfl rfl rfl (Nat.le_of_ble_eq_true rfl) (by decide) ?_
    rintro _ _ - (⟨h03, rfl, rfl⟩ | ⟨h03, rfl, rfl⟩)
    · refine px_if_ne rfl (fun _ => ?_) (fun h => absurd h (by decide))
      refine px_iload_n (kk := 2) rfl rfl rfl ?_
      refine px_if_ne rfl (fun _ => ?_) (fun h => absurd h (by decide))
      refine px_iload_n (kk := 2) rfl rfl rfl ?_
      refine px_iconst (v := nI 1) rfl k_1 ?_
      refine px_icmp_ne rfl (fun _ => ?_) (fun h => absurd h (by decide))
      refine px_iload_n (kk := 2) rfl rfl rfl ?_
      refine px_iconst (v := nI 2) rfl k_2 ?_
      refine px_icmp_ne rfl (fun h => absurd h (by decide)) (fun _ => ?_)
      refine px_aload_n (kk := 0) rfl rfl rfl ?_
      refine px_iload_n (kk := 1) rfl rfl rfl ?_
      refine px_iload_n (kk := 3) rfl rfl rfl ?_
      refine px_callV0 CX12_crossing [] [.int _, .int _] (vX12_crossing_2 (I := I) (t := (I 97, 0)) (I1 := (va_up I 65 (va_up (I 65) 57 (nI 0)))) (by omega) hk ⟨Fr_up Fr_rf (by decide) _, fun k h => by rw [p_up_s, p_up_n _ _ h], by rw [p_up_s, p_up_s], by rw [p_up_n _ _ (by decide)]⟩ (show 0 < 2 ^ 20 - 400 by decide)) rfl gS_65 (by decide) rfl rfl rfl (Nat.le_of_ble_eq_true rfl) (by decide) ?_
      rintro _ _ - ⟨rfl, I2, t2, rfl, hB2, ht2⟩
      subst ht2
      refine px_goto rfl ?_
      refine px_ireturn rfl (.inl rfl) ?_
      exact ⟨rfl, I2, rfl, hB2.1, hB2.2.1, hB2.2.2.1, hB2.2.2.2⟩
    · exact absurd ((in_nn (by decide) (by decide)).mpr ⟨_, Nat.zero_le _, by decide, rfl⟩) h03
  · exact absurd ⟨b, hb, rfl⟩ hbb
theorem vX12_act_2_3 {I : Nat → Nat → Int32} {J : Nat → Nat → Int64} {p : Bool × Option Nat} {ro : List (Nat × Nat × (Nat → Int32))} {z : Nat} (hz : I 65 55 = nI z) (hz50 : z ≤ 50) {b : Nat} (hb : b < z) (hk : I 96 b = nI 2) {v : Int32} : Pv 9 0 0 CX12_act [.ref (65), .int (nI b), .int (nI 3), .int (v)] (gS, I, J, gR p, ro) (fun r S' => r = some (.int (sp_act 2 3 (nI b) v)) ∧ ∃ I', S' = (gS, I', J, gR p, ro) ∧ Fr [65, 97] I I' ∧ (∀ k, k ≠ 57 → I' 65 k = I 65 k) ∧ I' 65 57 = nI (sp_nts (I 97, 0) (sp_atr 2 3)).2 ∧ I' 97 = (sp_nts (I 97, 0) (sp_atr 2 3)).1) := by
  refine ⟨okCX12_act, Nat.le_of_ble_eq_true rfl, (show Px _ _ _ _ 0 [some (.ref (65)), some (.int (nI b)), some (.int (nI 3)), some (.int (v))] [] _ _ from ?_)⟩
  refine px_aload_n (kk := 0) rfl rfl rfl ?_
  refine px_iconst (v := nI 0) rfl k_0 ?_
  refine px_putI rfl gS_65 rfl rfl ?_
  refine px_aload_n (kk := 0) rfl rfl rfl ?_
  refine px_iload_n (kk := 1) rfl rfl rfl ?_
  refine px_callV0 CX12_isBody [] [.int _] (vX12_isBody (z := z) (by rw [p_up_s, p_up_n _ _ (by decide)]; exact hz) hz50) rfl gS_65 (by decide) rfl rfl rfl (Nat.le_of_ble_eq_true rfl) (by decide) ?_
  rintro _ _ - (⟨hbb, rfl, rfl⟩ | ⟨hbb, rfl, rfl⟩)
  · refine px_if_eq rfl (fun h => absurd h (by decide)) (fun _ => ?_)
    refine px_iload_n (kk := 2) rfl rfl rfl ?_
    refine px_iconst (v := nI 0) rfl k_0 ?_
    refine px_iconst (v := nI 3) rfl k_3 ?_
    refine px_callS0 CX12_in [] [.int _, .int _, .int _] (vX12_in) rfl rfl rfl (Nat.le_of_ble_eq_true rfl) (by decide) ?_
    rintro _ _ - (⟨h03, rfl, rfl⟩ | ⟨h03, rfl, rfl⟩)
    · refine px_if_ne rfl (fun _ => ?_) (fun h => absurd h (by decide))
      refine px_iload_n (kk := 2) rfl rfl rfl ?_
      refine px_if_ne rfl (fun _ => ?_) (fun h => absurd h (by decide))
      refine px_iload_n (kk := 2) rfl rfl rfl ?_
      refine px_iconst (v := nI 1) rfl k_1 ?_
      refine px_icmp_ne rfl (fun _ => ?_) (fun h => absurd h (by decide))
      refine px_iload_n (kk := 2) rfl rfl rfl ?_
      refine px_iconst (v := nI 2) rfl k_2 ?_
      refine px_icmp_ne rfl (fun _ => ?_) (fun h => absurd h (by decide))
      refine px_aload_n (kk := 0) rfl rfl rfl ?_
      refine px_iload_n (kk := 1) rfl rfl rfl ?_
      refine px_iload_n (kk := 3) rfl rfl rfl ?_
      refine px_callV0 CX12_telling [] [.int _, .int _] (vX12_telling_2 (I := I) (t := (I 97, 0)) (I1 := (va_up I 65 (va_up (I 65) 57 (nI 0)))) (by omega) hk ⟨Fr_up Fr_rf (by decide) _, fun k h => by rw [p_up_s, p_up_n _ _ h], by rw [p_up_s, p_up_s], by rw [p_up_n _ _ (by decide)]⟩ (show 0 < 2 ^ 20 - 800 by decide)) rfl gS_65 (by decide) rfl rfl rfl (Nat.le_of_ble_eq_true rfl) (by decide) ?_
      rintro _ _ - ⟨rfl, I2, t2, rfl, hB2, ht2⟩
      subst ht2
      refine px_ireturn rfl (.inl rfl) ?_
      exact ⟨rfl, I2, rfl, hB2.1, hB2.2.1, hB2.2.2.1, hB2.2.2.2⟩
    · exact absurd ((in_nn (by decide) (by decide)).mpr ⟨_, Nat.zero_le _, by decide, rfl⟩) h03
  · exact absurd ⟨b, hb, rfl⟩ hbb
theorem vX12_act_3_0 {I : Nat → Nat → Int32} {J : Nat → Nat → Int64} {p : Bool × Option Nat} {ro : List (Nat × Nat × (Nat → Int32))} {z : Nat} (hz : I 65 55 = nI z) (hz50 : z ≤ 50) {b : Nat} (hb : b < z) (hk : I 96 b = nI 3) {v : Int32} : Pv 9 0 0 CX12_act [.ref (65), .int (nI b), .int (nI 0), .int (v)] (gS, I, J, gR p, ro) (fun r S' => r = some (.int (sp_act 3 0 (nI b) v)) ∧ ∃ I', S' = (gS, I', J, gR p, ro) ∧ Fr [65, 97] I I' ∧ (∀ k, k ≠ 57 → I' 65 k = I 65 k) ∧ I' 65 57 = nI (sp_nts (I 97, 0) (sp_atr 3 0)).2 ∧ I' 97 = (sp_nts (I 97, 0) (sp_atr 3 0)).1) := by
  refine ⟨okCX12_act, Nat.le_of_ble_eq_true rfl, (show Px _ _ _ _ 0 [some (.ref (65)), some (.int (nI b)), some (.int (nI 0)), some (.int (v))] [] _ _ from ?_)⟩
  refine px_aload_n (kk := 0) rfl rfl rfl ?_
  refine px_iconst (v := nI 0) rfl k_0 ?_
  refine px_putI rfl gS_65 rfl rfl ?_
  refine px_aload_n (kk := 0) rfl rfl rfl ?_
  refine px_iload_n (kk := 1) rfl rfl rfl ?_
  refine px_callV0 CX12_isBody [] [.int _] (vX12_isBody (z := z) (by rw [p_up_s, p_up_n _ _ (by decide)]; exact hz) hz50) rfl gS_65 (by decide) rfl rfl rfl (Nat.le_of_ble_eq_true rfl) (by decide) ?_
  rintro _ _ - (⟨hbb, rfl, rfl⟩ | ⟨hbb, rfl, rfl⟩)
  · refine px_if_eq rfl (fun h => absurd h (by decide)) (fun _ => ?_)
    refine px_iload_n (kk := 2) rfl rfl rfl ?_
    refine px_iconst (v := nI 0) rfl k_0 ?_
    refine px_iconst (v := nI 3) rfl k_3 ?_
    refine px_callS0 CX12_in [] [.int _, .int _, .int _] (vX12_in) rfl rfl rfl (Nat.le_of_ble_eq_true rfl) (by decide) ?_
    rintro _ _ - (⟨h03, rfl, rfl⟩ | ⟨h03, rfl, rfl⟩)
    · refine px_if_ne rfl (fun _ => ?_) (fun h => absurd h (by decide))
      refine px_iload_n (kk := 2) rfl rfl rfl ?_
      refine px_if_ne rfl (fun h => absurd h (by decide)) (fun _ => ?_)
      refine px_aload_n (kk := 0) rfl rfl rfl ?_
      refine px_iload_n (kk := 1) rfl rfl rfl ?_
      refine px_iload_n (kk := 3) rfl rfl rfl ?_
      refine px_callV0 CX12_warming [] [.int _, .int _] (vX12_warming_3 (I := I) (t := (I 97, 0)) (I1 := (va_up I 65 (va_up (I 65) 57 (nI 0)))) (by omega) hk ⟨Fr_up Fr_rf (by decide) _, fun k h => by rw [p_up_s, p_up_n _ _ h], by rw [p_up_s, p_up_s], by rw [p_up_n _ _ (by decide)]⟩ (show 0 < 2 ^ 20 - 300 by decide)) rfl gS_65 (by decide) rfl rfl rfl (Nat.le_of_ble_eq_true rfl) (by decide) ?_
      rintro _ _ - ⟨rfl, I2, t2, rfl, hB2, ht2⟩
      subst ht2
      refine px_goto rfl ?_
      refine px_ireturn rfl (.inl rfl) ?_
      exact ⟨rfl, I2, rfl, hB2.1, hB2.2.1, hB2.2.2.1, hB2.2.2.2⟩
    · exact absurd ((in_nn (by decide) (by decide)).mpr ⟨_, Nat.zero_le _, by decide, rfl⟩) h03
  · exact absurd ⟨b, hb, rfl⟩ hbb
theorem vX12_act_3_1 {I : Nat → Nat → Int32} {J : Nat → Nat → Int64} {p : Bool × Option Nat} {ro : List (Nat × Nat × (Nat → Int32))} {z : Nat} (hz : I 65 55 = nI z) (hz50 : z ≤ 50) {b : Nat} (hb : b < z) (hk : I 96 b = nI 3) {v : Int32} : Pv 9 0 0 CX12_act [.ref (65), .int (nI b), .int (nI 1), .int (v)] (gS, I, J, gR p, ro) (fun r S' => r = some (.int (sp_act 3 1 (nI b) v)) ∧ ∃ I', S' = (gS, I', J, gR p, ro) ∧ Fr [65, 97] I I' ∧ (∀ k, k ≠ 57 → I' 65 k = I 65 k) ∧ I' 65 57 = nI (sp_nts (I 97, 0) (sp_atr 3 1)).2 ∧ I' 97 = (sp_nts (I 97, 0) (sp_atr 3 1)).1) := by
  refine ⟨okCX12_act, Nat.le_of_ble_eq_true rfl, (show Px _ _ _ _ 0 [some (.ref (65)), some (.int (nI b)), some (.int (nI 1)), some (.int (v))] [] _ _ from ?_)⟩
  refine px_aload_n (kk := 0) rfl rfl rfl ?_
  refine px_iconst (v := nI 0) rfl k_0 ?_
  refine px_putI rfl gS_65 rfl rfl ?_
  refine px_aload_n (kk := 0) rfl rfl rfl ?_
  refine px_iload_n (kk := 1) rfl rfl rfl ?_
  refine px_callV0 CX12_isBody [] [.int _] (vX12_isBody (z := z) (by rw [p_up_s, p_up_n _ _ (by decide)]; exact hz) hz50) rfl gS_65 (by decide) rfl rfl rfl (Nat.le_of_ble_eq_true rfl) (by decide) ?_
  rintro _ _ - (⟨hbb, rfl, rfl⟩ | ⟨hbb, rfl, rfl⟩)
  · refine px_if_eq rfl (fun h => absurd h (by decide)) (fun _ => ?_)
    refine px_iload_n (kk := 2) rfl rfl rfl ?_
    refine px_iconst (v := nI 0) rfl k_0 ?_
    refine px_iconst (v := nI 3) rfl k_3 ?_
    refine px_callS0 CX12_in [] [.int _, .int _, .int _] (vX12_in) rfl rfl rfl (Nat.le_of_ble_eq_true rfl) (by decide) ?_
    rintro _ _ - (⟨h03, rfl, rfl⟩ | ⟨h03, rfl, rfl⟩)
    · refine px_if_ne rfl (fun _ => ?_) (fun h => absurd h (by decide))
      refine px_iload_n (kk := 2) rfl rfl rfl ?_
      refine px_if_ne rfl (fun _ => ?_) (fun h => absurd h (by decide))
      refine px_iload_n (kk := 2) rfl rfl rfl ?_
      refine px_iconst (v := nI 1) rfl k_1 ?_
      refine px_icmp_ne rfl (fun h => absurd h (by decide)) (fun _ => ?_)
      refine px_aload_n (kk := 0) rfl rfl rfl ?_
      refine px_iload_n (kk := 1) rfl rfl rfl ?_
      refine px_iload_n (kk := 3) rfl rfl rfl ?_
      refine px_callV0 CX12_waiting [] [.int _, .int _] (vX12_waiting_3 (I := I) (t := (I 97, 0)) (I1 := (va_up I 65 (va_up (I 65) 57 (nI 0)))) (by omega) hk ⟨Fr_up Fr_rf (by decide) _, fun k h => by rw [p_up_s, p_up_n _ _ h], by rw [p_up_s, p_up_s], by rw [p_up_n _ _ (by decide)]⟩ (show 0 < 2 ^ 20 - 600 by decide)) rfl gS_65 (by decide) rfl rfl rfl (Nat.le_of_ble_eq_true rfl) (by decide) ?_
      rintro _ _ - ⟨rfl, I2, t2, rfl, hB2, ht2⟩
      subst ht2
      refine px_goto rfl ?_
      refine px_ireturn rfl (.inl rfl) ?_
      exact ⟨rfl, I2, rfl, hB2.1, hB2.2.1, hB2.2.2.1, hB2.2.2.2⟩
    · exact absurd ((in_nn (by decide) (by decide)).mpr ⟨_, Nat.zero_le _, by decide, rfl⟩) h03
  · exact absurd ⟨b, hb, rfl⟩ hbb
theorem vX12_act_3_2 {I : Nat → Nat → Int32} {J : Nat → Nat → Int64} {p : Bool × Option Nat} {ro : List (Nat × Nat × (Nat → Int32))} {z : Nat} (hz : I 65 55 = nI z) (hz50 : z ≤ 50) {b : Nat} (hb : b < z) (hk : I 96 b = nI 3) {v : Int32} : Pv 9 0 0 CX12_act [.ref (65), .int (nI b), .int (nI 2), .int (v)] (gS, I, J, gR p, ro) (fun r S' => r = some (.int (sp_act 3 2 (nI b) v)) ∧ ∃ I', S' = (gS, I', J, gR p, ro) ∧ Fr [65, 97] I I' ∧ (∀ k, k ≠ 57 → I' 65 k = I 65 k) ∧ I' 65 57 = nI (sp_nts (I 97, 0) (sp_atr 3 2)).2 ∧ I' 97 = (sp_nts (I 97, 0) (sp_atr 3 2)).1) := by
  refine ⟨okCX12_act, Nat.le_of_ble_eq_true rfl, (show Px _ _ _ _ 0 [some (.ref (65)), some (.int (nI b)), some (.int (nI 2)), some (.int (v))] [] _ _ from ?_)⟩
  refine px_aload_n (kk := 0) rfl rfl rfl ?_
  refine px_iconst (v := nI 0) rfl k_0 ?_
  refine px_putI rfl gS_65 rfl rfl ?_
  refine px_aload_n (kk := 0) rfl rfl rfl ?_
  refine px_iload_n (kk := 1) rfl rfl rfl ?_
  refine px_callV0 CX12_isBody [] [.int _] (vX12_isBody (z := z) (by rw [p_up_s, p_up_n _ _ (by decide)]; exact hz) hz50) rfl gS_65 (by decide) rfl rfl rfl (Nat.le_of_ble_eq_true rfl) (by decide) ?_
  rintro _ _ - (⟨hbb, rfl, rfl⟩ | ⟨hbb, rfl, rfl⟩)
  · refine px_if_eq rfl (fun h => absurd h (by decide)) (fun _ => ?_)
    refine px_iload_n (kk := 2) rfl rfl rfl ?_
    refine px_iconst (v := nI 0) rfl k_0 ?_
    refine px_iconst (v := nI 3) rfl k_3 ?_
    refine px_callS0 CX12_in [] [.int _, .int _, .int _] (vX12_in) rfl rfl rfl (Nat.le_of_ble_eq_true rfl) (by decide) ?_
    rintro _ _ - (⟨h03, rfl, rfl⟩ | ⟨h03, rfl, rfl⟩)
    · refine px_if_ne rfl (fun _ => ?_) (fun h => absurd h (by decide))
      refine px_iload_n (kk := 2) rfl rfl rfl ?_
      refine px_if_ne rfl (fun _ => ?_) (fun h => absurd h (by decide))
      refine px_iload_n (kk := 2) rfl rfl rfl ?_
      refine px_iconst (v := nI 1) rfl k_1 ?_
      refine px_icmp_ne rfl (fun _ => ?_) (fun h => absurd h (by decide))
      refine px_iload_n (kk := 2) rfl rfl rfl ?_
      refine px_iconst (v := nI 2) rfl k_2 ?_
      refine px_icmp_ne rfl (fun h => absurd h (by decide)) (fun _ => ?_)
      refine px_aload_n (kk := 0) rfl rfl rfl ?_
      refine px_iload_n (kk := 1) rfl rfl rfl ?_
      refine px_iload_n (kk := 3) rfl rfl rfl ?_
      refine px_callV0 CX12_crossing [] [.int _, .int _] (vX12_crossing_3 (I := I) (t := (I 97, 0)) (I1 := (va_up I 65 (va_up (I 65) 57 (nI 0)))) (by omega) hk ⟨Fr_up Fr_rf (by decide) _, fun k h => by rw [p_up_s, p_up_n _ _ h], by rw [p_up_s, p_up_s], by rw [p_up_n _ _ (by decide)]⟩ (show 0 < 2 ^ 20 - 400 by decide)) rfl gS_65 (by decide) rfl rfl rfl (Nat.le_of_ble_eq_true rfl) (by decide) ?_
      rintro _ _ - ⟨rfl, I2, t2, rfl, hB2, ht2⟩
      subst ht2
      refine px_goto rfl ?_
      refine px_ireturn rfl (.inl rfl) ?_
      exact ⟨rfl, I2, rfl, hB2.1, hB2.2.1, hB2.2.2.1, hB2.2.2.2⟩
    · exact absurd ((in_nn (by decide) (by decide)).mpr ⟨_, Nat.zero_le _, by decide, rfl⟩) h03
  · exact absurd ⟨b, hb, rfl⟩ hbb
theorem vX12_act_3_3 {I : Nat → Nat → Int32} {J : Nat → Nat → Int64} {p : Bool × Option Nat} {ro : List (Nat × Nat × (Nat → Int32))} {z : Nat} (hz : I 65 55 = nI z) (hz50 : z ≤ 50) {b : Nat} (hb : b < z) (hk : I 96 b = nI 3) {v : Int32} : Pv 9 0 0 CX12_act [.ref (65), .int (nI b), .int (nI 3), .int (v)] (gS, I, J, gR p, ro) (fun r S' => r = some (.int (sp_act 3 3 (nI b) v)) ∧ ∃ I', S' = (gS, I', J, gR p, ro) ∧ Fr [65, 97] I I' ∧ (∀ k, k ≠ 57 → I' 65 k = I 65 k) ∧ I' 65 57 = nI (sp_nts (I 97, 0) (sp_atr 3 3)).2 ∧ I' 97 = (sp_nts (I 97, 0) (sp_atr 3 3)).1) := by
  refine ⟨okCX12_act, Nat.le_of_ble_eq_true rfl, (show Px _ _ _ _ 0 [some (.ref (65)), some (.int (nI b)), some (.int (nI 3)), some (.int (v))] [] _ _ from ?_)⟩
  refine px_aload_n (kk := 0) rfl rfl rfl ?_
  refine px_iconst (v := nI 0) rfl k_0 ?_
  refine px_putI rfl gS_65 rfl rfl ?_
  refine px_aload_n (kk := 0) rfl rfl rfl ?_
  refine px_iload_n (kk := 1) rfl rfl rfl ?_
  refine px_callV0 CX12_isBody [] [.int _] (vX12_isBody (z := z) (by rw [p_up_s, p_up_n _ _ (by decide)]; exact hz) hz50) rfl gS_65 (by decide) rfl rfl rfl (Nat.le_of_ble_eq_true rfl) (by decide) ?_
  rintro _ _ - (⟨hbb, rfl, rfl⟩ | ⟨hbb, rfl, rfl⟩)
  · refine px_if_eq rfl (fun h => absurd h (by decide)) (fun _ => ?_)
    refine px_iload_n (kk := 2) rfl rfl rfl ?_
    refine px_iconst (v := nI 0) rfl k_0 ?_
    refine px_iconst (v := nI 3) rfl k_3 ?_
    refine px_callS0 CX12_in [] [.int _, .int _, .int _] (vX12_in) rfl rfl rfl (Nat.le_of_ble_eq_true rfl) (by decide) ?_
    rintro _ _ - (⟨h03, rfl, rfl⟩ | ⟨h03, rfl, rfl⟩)
    · refine px_if_ne rfl (fun _ => ?_) (fun h => absurd h (by decide))
      refine px_iload_n (kk := 2) rfl rfl rfl ?_
      refine px_if_ne rfl (fun _ => ?_) (fun h => absurd h (by decide))
      refine px_iload_n (kk := 2) rfl rfl rfl ?_
      refine px_iconst (v := nI 1) rfl k_1 ?_
      refine px_icmp_ne rfl (fun _ => ?_) (fun h => absurd h (by decide))
      refine px_iload_n (kk := 2) rfl rfl rfl ?_
      refine px_iconst (v := nI 2) rfl k_2 ?_
      refine px_icmp_ne rfl (fun _ => ?_) (fun h => absurd h (by decide))
      refine px_aload_n (kk := 0) rfl rfl rfl ?_
      refine px_iload_n (kk := 1) rfl rfl rfl ?_
      refine px_iload_n (kk := 3) rfl rfl rfl ?_
      refine px_callV0 CX12_telling [] [.int _, .int _] (vX12_telling_3 (I := I) (t := (I 97, 0)) (I1 := (va_up I 65 (va_up (I 65) 57 (nI 0)))) (by omega) hk ⟨Fr_up Fr_rf (by decide) _, fun k h => by rw [p_up_s, p_up_n _ _ h], by rw [p_up_s, p_up_s], by rw [p_up_n _ _ (by decide)]⟩ (show 0 < 2 ^ 20 - 800 by decide)) rfl gS_65 (by decide) rfl rfl rfl (Nat.le_of_ble_eq_true rfl) (by decide) ?_
      rintro _ _ - ⟨rfl, I2, t2, rfl, hB2, ht2⟩
      subst ht2
      refine px_ireturn rfl (.inl rfl) ?_
      exact ⟨rfl, I2, rfl, hB2.1, hB2.2.1, hB2.2.2.1, hB2.2.2.2⟩
    · exact absurd ((in_nn (by decide) (by decide)).mpr ⟨_, Nat.zero_le _, by decide, rfl⟩) h03
  · exact absurd ⟨b, hb, rfl⟩ hbb
theorem vX12_act_4_0 {I : Nat → Nat → Int32} {J : Nat → Nat → Int64} {p : Bool × Option Nat} {ro : List (Nat × Nat × (Nat → Int32))} {z : Nat} (hz : I 65 55 = nI z) (hz50 : z ≤ 50) {b : Nat} (hb : b < z) (hk : I 96 b = nI 4) {v : Int32} : Pv 9 0 0 CX12_act [.ref (65), .int (nI b), .int (nI 0), .int (v)] (gS, I, J, gR p, ro) (fun r S' => r = some (.int (sp_act 4 0 (nI b) v)) ∧ ∃ I', S' = (gS, I', J, gR p, ro) ∧ Fr [65, 97] I I' ∧ (∀ k, k ≠ 57 → I' 65 k = I 65 k) ∧ I' 65 57 = nI (sp_nts (I 97, 0) (sp_atr 4 0)).2 ∧ I' 97 = (sp_nts (I 97, 0) (sp_atr 4 0)).1) := by
  refine ⟨okCX12_act, Nat.le_of_ble_eq_true rfl, (show Px _ _ _ _ 0 [some (.ref (65)), some (.int (nI b)), some (.int (nI 0)), some (.int (v))] [] _ _ from ?_)⟩
  refine px_aload_n (kk := 0) rfl rfl rfl ?_
  refine px_iconst (v := nI 0) rfl k_0 ?_
  refine px_putI rfl gS_65 rfl rfl ?_
  refine px_aload_n (kk := 0) rfl rfl rfl ?_
  refine px_iload_n (kk := 1) rfl rfl rfl ?_
  refine px_callV0 CX12_isBody [] [.int _] (vX12_isBody (z := z) (by rw [p_up_s, p_up_n _ _ (by decide)]; exact hz) hz50) rfl gS_65 (by decide) rfl rfl rfl (Nat.le_of_ble_eq_true rfl) (by decide) ?_
  rintro _ _ - (⟨hbb, rfl, rfl⟩ | ⟨hbb, rfl, rfl⟩)
  · refine px_if_eq rfl (fun h => absurd h (by decide)) (fun _ => ?_)
    refine px_iload_n (kk := 2) rfl rfl rfl ?_
    refine px_iconst (v := nI 0) rfl k_0 ?_
    refine px_iconst (v := nI 3) rfl k_3 ?_
    refine px_callS0 CX12_in [] [.int _, .int _, .int _] (vX12_in) rfl rfl rfl (Nat.le_of_ble_eq_true rfl) (by decide) ?_
    rintro _ _ - (⟨h03, rfl, rfl⟩ | ⟨h03, rfl, rfl⟩)
    · refine px_if_ne rfl (fun _ => ?_) (fun h => absurd h (by decide))
      refine px_iload_n (kk := 2) rfl rfl rfl ?_
      refine px_if_ne rfl (fun h => absurd h (by decide)) (fun _ => ?_)
      refine px_aload_n (kk := 0) rfl rfl rfl ?_
      refine px_iload_n (kk := 1) rfl rfl rfl ?_
      refine px_iload_n (kk := 3) rfl rfl rfl ?_
      refine px_callV0 CX12_warming [] [.int _, .int _] (vX12_warming_4 (I := I) (t := (I 97, 0)) (I1 := (va_up I 65 (va_up (I 65) 57 (nI 0)))) (by omega) hk ⟨Fr_up Fr_rf (by decide) _, fun k h => by rw [p_up_s, p_up_n _ _ h], by rw [p_up_s, p_up_s], by rw [p_up_n _ _ (by decide)]⟩ (show 0 < 2 ^ 20 - 300 by decide)) rfl gS_65 (by decide) rfl rfl rfl (Nat.le_of_ble_eq_true rfl) (by decide) ?_
      rintro _ _ - ⟨rfl, I2, t2, rfl, hB2, ht2⟩
      subst ht2
      refine px_goto rfl ?_
      refine px_ireturn rfl (.inl rfl) ?_
      exact ⟨rfl, I2, rfl, hB2.1, hB2.2.1, hB2.2.2.1, hB2.2.2.2⟩
    · exact absurd ((in_nn (by decide) (by decide)).mpr ⟨_, Nat.zero_le _, by decide, rfl⟩) h03
  · exact absurd ⟨b, hb, rfl⟩ hbb
theorem vX12_act_4_1 {I : Nat → Nat → Int32} {J : Nat → Nat → Int64} {p : Bool × Option Nat} {ro : List (Nat × Nat × (Nat → Int32))} {z : Nat} (hz : I 65 55 = nI z) (hz50 : z ≤ 50) {b : Nat} (hb : b < z) (hk : I 96 b = nI 4) {v : Int32} : Pv 9 0 0 CX12_act [.ref (65), .int (nI b), .int (nI 1), .int (v)] (gS, I, J, gR p, ro) (fun r S' => r = some (.int (sp_act 4 1 (nI b) v)) ∧ ∃ I', S' = (gS, I', J, gR p, ro) ∧ Fr [65, 97] I I' ∧ (∀ k, k ≠ 57 → I' 65 k = I 65 k) ∧ I' 65 57 = nI (sp_nts (I 97, 0) (sp_atr 4 1)).2 ∧ I' 97 = (sp_nts (I 97, 0) (sp_atr 4 1)).1) := by
  refine ⟨okCX12_act, Nat.le_of_ble_eq_true rfl, (show Px _ _ _ _ 0 [some (.ref (65)), some (.int (nI b)), some (.int (nI 1)), some (.int (v))] [] _ _ from ?_)⟩
  refine px_aload_n (kk := 0) rfl rfl rfl ?_
  refine px_iconst (v := nI 0) rfl k_0 ?_
  refine px_putI rfl gS_65 rfl rfl ?_
  refine px_aload_n (kk := 0) rfl rfl rfl ?_
  refine px_iload_n (kk := 1) rfl rfl rfl ?_
  refine px_callV0 CX12_isBody [] [.int _] (vX12_isBody (z := z) (by rw [p_up_s, p_up_n _ _ (by decide)]; exact hz) hz50) rfl gS_65 (by decide) rfl rfl rfl (Nat.le_of_ble_eq_true rfl) (by decide) ?_
  rintro _ _ - (⟨hbb, rfl, rfl⟩ | ⟨hbb, rfl, rfl⟩)
  · refine px_if_eq rfl (fun h => absurd h (by decide)) (fun _ => ?_)
    refine px_iload_n (kk := 2) rfl rfl rfl ?_
    refine px_iconst (v := nI 0) rfl k_0 ?_
    refine px_iconst (v := nI 3) rfl k_3 ?_
    refine px_callS0 CX12_in [] [.int _, .int _, .int _] (vX12_in) rfl rfl rfl (Nat.le_of_ble_eq_true rfl) (by decide) ?_
    rintro _ _ - (⟨h03, rfl, rfl⟩ | ⟨h03, rfl, rfl⟩)
    · refine px_if_ne rfl (fun _ => ?_) (fun h => absurd h (by decide))
      refine px_iload_n (kk := 2) rfl rfl rfl ?_
      refine px_if_ne rfl (fun _ => ?_) (fun h => absurd h (by decide))
      refine px_iload_n (kk := 2) rfl rfl rfl ?_
      refine px_iconst (v := nI 1) rfl k_1 ?_
      refine px_icmp_ne rfl (fun h => absurd h (by decide)) (fun _ => ?_)
      refine px_aload_n (kk := 0) rfl rfl rfl ?_
      refine px_iload_n (kk := 1) rfl rfl rfl ?_
      refine px_iload_n (kk := 3) rfl rfl rfl ?_
      refine px_callV0 CX12_waiting [] [.int _, .int _] (vX12_waiting_4 (I := I) (t := (I 97, 0)) (I1 := (va_up I 65 (va_up (I 65) 57 (nI 0)))) (by omega) hk ⟨Fr_up Fr_rf (by decide) _, fun k h => by rw [p_up_s, p_up_n _ _ h], by rw [p_up_s, p_up_s], by rw [p_up_n _ _ (by decide)]⟩ (show 0 < 2 ^ 20 - 600 by decide)) rfl gS_65 (by decide) rfl rfl rfl (Nat.le_of_ble_eq_true rfl) (by decide) ?_
      rintro _ _ - ⟨rfl, I2, t2, rfl, hB2, ht2⟩
      subst ht2
      refine px_goto rfl ?_
      refine px_ireturn rfl (.inl rfl) ?_
      exact ⟨rfl, I2, rfl, hB2.1, hB2.2.1, hB2.2.2.1, hB2.2.2.2⟩
    · exact absurd ((in_nn (by decide) (by decide)).mpr ⟨_, Nat.zero_le _, by decide, rfl⟩) h03
  · exact absurd ⟨b, hb, rfl⟩ hbb
theorem vX12_act_4_2 {I : Nat → Nat → Int32} {J : Nat → Nat → Int64} {p : Bool × Option Nat} {ro : List (Nat × Nat × (Nat → Int32))} {z : Nat} (hz : I 65 55 = nI z) (hz50 : z ≤ 50) {b : Nat} (hb : b < z) (hk : I 96 b = nI 4) {v : Int32} : Pv 9 0 0 CX12_act [.ref (65), .int (nI b), .int (nI 2), .int (v)] (gS, I, J, gR p, ro) (fun r S' => r = some (.int (sp_act 4 2 (nI b) v)) ∧ ∃ I', S' = (gS, I', J, gR p, ro) ∧ Fr [65, 97] I I' ∧ (∀ k, k ≠ 57 → I' 65 k = I 65 k) ∧ I' 65 57 = nI (sp_nts (I 97, 0) (sp_atr 4 2)).2 ∧ I' 97 = (sp_nts (I 97, 0) (sp_atr 4 2)).1) := by
  refine ⟨okCX12_act, Nat.le_of_ble_eq_true rfl, (show Px _ _ _ _ 0 [some (.ref (65)), some (.int (nI b)), some (.int (nI 2)), some (.int (v))] [] _ _ from ?_)⟩
  refine px_aload_n (kk := 0) rfl rfl rfl ?_
  refine px_iconst (v := nI 0) rfl k_0 ?_
  refine px_putI rfl gS_65 rfl rfl ?_
  refine px_aload_n (kk := 0) rfl rfl rfl ?_
  refine px_iload_n (kk := 1) rfl rfl rfl ?_
  refine px_callV0 CX12_isBody [] [.int _] (vX12_isBody (z := z) (by rw [p_up_s, p_up_n _ _ (by decide)]; exact hz) hz50) rfl gS_65 (by decide) rfl rfl rfl (Nat.le_of_ble_eq_true rfl) (by decide) ?_
  rintro _ _ - (⟨hbb, rfl, rfl⟩ | ⟨hbb, rfl, rfl⟩)
  · refine px_if_eq rfl (fun h => absurd h (by decide)) (fun _ => ?_)
    refine px_iload_n (kk := 2) rfl rfl rfl ?_
    refine px_iconst (v := nI 0) rfl k_0 ?_
    refine px_iconst (v := nI 3) rfl k_3 ?_
    refine px_callS0 CX12_in [] [.int _, .int _, .int _] (vX12_in) rfl rfl rfl (Nat.le_of_ble_eq_true rfl) (by decide) ?_
    rintro _ _ - (⟨h03, rfl, rfl⟩ | ⟨h03, rfl, rfl⟩)
    · refine px_if_ne rfl (fun _ => ?_) (fun h => absurd h (by decide))
      refine px_iload_n (kk := 2) rfl rfl rfl ?_
      refine px_if_ne rfl (fun _ => ?_) (fun h => absurd h (by decide))
      refine px_iload_n (kk := 2) rfl rfl rfl ?_
      refine px_iconst (v := nI 1) rfl k_1 ?_
      refine px_icmp_ne rfl (fun _ => ?_) (fun h => absurd h (by decide))
      refine px_iload_n (kk := 2) rfl rfl rfl ?_
      refine px_iconst (v := nI 2) rfl k_2 ?_
      refine px_icmp_ne rfl (fun h => absurd h (by decide)) (fun _ => ?_)
      refine px_aload_n (kk := 0) rfl rfl rfl ?_
      refine px_iload_n (kk := 1) rfl rfl rfl ?_
      refine px_iload_n (kk := 3) rfl rfl rfl ?_
      refine px_callV0 CX12_crossing [] [.int _, .int _] (vX12_crossing_4 (I := I) (t := (I 97, 0)) (I1 := (va_up I 65 (va_up (I 65) 57 (nI 0)))) (by omega) hk ⟨Fr_up Fr_rf (by decide) _, fun k h => by rw [p_up_s, p_up_n _ _ h], by rw [p_up_s, p_up_s], by rw [p_up_n _ _ (by decide)]⟩ (show 0 < 2 ^ 20 - 400 by decide)) rfl gS_65 (by decide) rfl rfl rfl (Nat.le_of_ble_eq_true rfl) (by decide) ?_
      rintro _ _ - ⟨rfl, I2, t2, rfl, hB2, ht2⟩
      subst ht2
      refine px_goto rfl ?_
      refine px_ireturn rfl (.inl rfl) ?_
      exact ⟨rfl, I2, rfl, hB2.1, hB2.2.1, hB2.2.2.1, hB2.2.2.2⟩
    · exact absurd ((in_nn (by decide) (by decide)).mpr ⟨_, Nat.zero_le _, by decide, rfl⟩) h03
  · exact absurd ⟨b, hb, rfl⟩ hbb
theorem vX12_act_4_3 {I : Nat → Nat → Int32} {J : Nat → Nat → Int64} {p : Bool × Option Nat} {ro : List (Nat × Nat × (Nat → Int32))} {z : Nat} (hz : I 65 55 = nI z) (hz50 : z ≤ 50) {b : Nat} (hb : b < z) (hk : I 96 b = nI 4) {v : Int32} : Pv 9 0 0 CX12_act [.ref (65), .int (nI b), .int (nI 3), .int (v)] (gS, I, J, gR p, ro) (fun r S' => r = some (.int (sp_act 4 3 (nI b) v)) ∧ ∃ I', S' = (gS, I', J, gR p, ro) ∧ Fr [65, 97] I I' ∧ (∀ k, k ≠ 57 → I' 65 k = I 65 k) ∧ I' 65 57 = nI (sp_nts (I 97, 0) (sp_atr 4 3)).2 ∧ I' 97 = (sp_nts (I 97, 0) (sp_atr 4 3)).1) := by
  refine ⟨okCX12_act, Nat.le_of_ble_eq_true rfl, (show Px _ _ _ _ 0 [some (.ref (65)), some (.int (nI b)), some (.int (nI 3)), some (.int (v))] [] _ _ from ?_)⟩
  refine px_aload_n (kk := 0) rfl rfl rfl ?_
  refine px_iconst (v := nI 0) rfl k_0 ?_
  refine px_putI rfl gS_65 rfl rfl ?_
  refine px_aload_n (kk := 0) rfl rfl rfl ?_
  refine px_iload_n (kk := 1) rfl rfl rfl ?_
  refine px_callV0 CX12_isBody [] [.int _] (vX12_isBody (z := z) (by rw [p_up_s, p_up_n _ _ (by decide)]; exact hz) hz50) rfl gS_65 (by decide) rfl rfl rfl (Nat.le_of_ble_eq_true rfl) (by decide) ?_
  rintro _ _ - (⟨hbb, rfl, rfl⟩ | ⟨hbb, rfl, rfl⟩)
  · refine px_if_eq rfl (fun h => absurd h (by decide)) (fun _ => ?_)
    refine px_iload_n (kk := 2) rfl rfl rfl ?_
    refine px_iconst (v := nI 0) rfl k_0 ?_
    refine px_iconst (v := nI 3) rfl k_3 ?_
    refine px_callS0 CX12_in [] [.int _, .int _, .int _] (vX12_in) rfl rfl rfl (Nat.le_of_ble_eq_true rfl) (by decide) ?_
    rintro _ _ - (⟨h03, rfl, rfl⟩ | ⟨h03, rfl, rfl⟩)
    · refine px_if_ne rfl (fun _ => ?_) (fun h => absurd h (by decide))
      refine px_iload_n (kk := 2) rfl rfl rfl ?_
      refine px_if_ne rfl (fun _ => ?_) (fun h => absurd h (by decide))
      refine px_iload_n (kk := 2) rfl rfl rfl ?_
      refine px_iconst (v := nI 1) rfl k_1 ?_
      refine px_icmp_ne rfl (fun _ => ?_) (fun h => absurd h (by decide))
      refine px_iload_n (kk := 2) rfl rfl rfl ?_
      refine px_iconst (v := nI 2) rfl k_2 ?_
      refine px_icmp_ne rfl (fun _ => ?_) (fun h => absurd h (by decide))
      refine px_aload_n (kk := 0) rfl rfl rfl ?_
      refine px_iload_n (kk := 1) rfl rfl rfl ?_
      refine px_iload_n (kk := 3) rfl rfl rfl ?_
      refine px_callV0 CX12_telling [] [.int _, .int _] (vX12_telling_4 (I := I) (t := (I 97, 0)) (I1 := (va_up I 65 (va_up (I 65) 57 (nI 0)))) (by omega) hk ⟨Fr_up Fr_rf (by decide) _, fun k h => by rw [p_up_s, p_up_n _ _ h], by rw [p_up_s, p_up_s], by rw [p_up_n _ _ (by decide)]⟩ (show 0 < 2 ^ 20 - 800 by decide)) rfl gS_65 (by decide) rfl rfl rfl (Nat.le_of_ble_eq_true rfl) (by decide) ?_
      rintro _ _ - ⟨rfl, I2, t2, rfl, hB2, ht2⟩
      subst ht2
      refine px_ireturn rfl (.inl rfl) ?_
      exact ⟨rfl, I2, rfl, hB2.1, hB2.2.1, hB2.2.2.1, hB2.2.2.2⟩
    · exact absurd ((in_nn (by decide) (by decide)).mpr ⟨_, Nat.zero_le _, by decide, rfl⟩) h03
  · exact absurd ⟨b, hb, rfl⟩ hbb
theorem vX12_act_5_0 {I : Nat → Nat → Int32} {J : Nat → Nat → Int64} {p : Bool × Option Nat} {ro : List (Nat × Nat × (Nat → Int32))} {z : Nat} (hz : I 65 55 = nI z) (hz50 : z ≤ 50) {b : Nat} (hb : b < z) (hk : I 96 b = nI 5) {v : Int32} : Pv 9 0 0 CX12_act [.ref (65), .int (nI b), .int (nI 0), .int (v)] (gS, I, J, gR p, ro) (fun r S' => r = some (.int (sp_act 5 0 (nI b) v)) ∧ ∃ I', S' = (gS, I', J, gR p, ro) ∧ Fr [65, 97] I I' ∧ (∀ k, k ≠ 57 → I' 65 k = I 65 k) ∧ I' 65 57 = nI (sp_nts (I 97, 0) (sp_atr 5 0)).2 ∧ I' 97 = (sp_nts (I 97, 0) (sp_atr 5 0)).1) := by
  refine ⟨okCX12_act, Nat.le_of_ble_eq_true rfl, (show Px _ _ _ _ 0 [some (.ref (65)), some (.int (nI b)), some (.int (nI 0)), some (.int (v))] [] _ _ from ?_)⟩
  refine px_aload_n (kk := 0) rfl rfl rfl ?_
  refine px_iconst (v := nI 0) rfl k_0 ?_
  refine px_putI rfl gS_65 rfl rfl ?_
  refine px_aload_n (kk := 0) rfl rfl rfl ?_
  refine px_iload_n (kk := 1) rfl rfl rfl ?_
  refine px_callV0 CX12_isBody [] [.int _] (vX12_isBody (z := z) (by rw [p_up_s, p_up_n _ _ (by decide)]; exact hz) hz50) rfl gS_65 (by decide) rfl rfl rfl (Nat.le_of_ble_eq_true rfl) (by decide) ?_
  rintro _ _ - (⟨hbb, rfl, rfl⟩ | ⟨hbb, rfl, rfl⟩)
  · refine px_if_eq rfl (fun h => absurd h (by decide)) (fun _ => ?_)
    refine px_iload_n (kk := 2) rfl rfl rfl ?_
    refine px_iconst (v := nI 0) rfl k_0 ?_
    refine px_iconst (v := nI 3) rfl k_3 ?_
    refine px_callS0 CX12_in [] [.int _, .int _, .int _] (vX12_in) rfl rfl rfl (Nat.le_of_ble_eq_true rfl) (by decide) ?_
    rintro _ _ - (⟨h03, rfl, rfl⟩ | ⟨h03, rfl, rfl⟩)
    · refine px_if_ne rfl (fun _ => ?_) (fun h => absurd h (by decide))
      refine px_iload_n (kk := 2) rfl rfl rfl ?_
      refine px_if_ne rfl (fun h => absurd h (by decide)) (fun _ => ?_)
      refine px_aload_n (kk := 0) rfl rfl rfl ?_
      refine px_iload_n (kk := 1) rfl rfl rfl ?_
      refine px_iload_n (kk := 3) rfl rfl rfl ?_
      refine px_callV0 CX12_warming [] [.int _, .int _] (vX12_warming_5 (I := I) (t := (I 97, 0)) (I1 := (va_up I 65 (va_up (I 65) 57 (nI 0)))) (by omega) hk ⟨Fr_up Fr_rf (by decide) _, fun k h => by rw [p_up_s, p_up_n _ _ h], by rw [p_up_s, p_up_s], by rw [p_up_n _ _ (by decide)]⟩ (show 0 < 2 ^ 20 - 300 by decide)) rfl gS_65 (by decide) rfl rfl rfl (Nat.le_of_ble_eq_true rfl) (by decide) ?_
      rintro _ _ - ⟨rfl, I2, t2, rfl, hB2, ht2⟩
      subst ht2
      refine px_goto rfl ?_
      refine px_ireturn rfl (.inl rfl) ?_
      exact ⟨rfl, I2, rfl, hB2.1, hB2.2.1, hB2.2.2.1, hB2.2.2.2⟩
    · exact absurd ((in_nn (by decide) (by decide)).mpr ⟨_, Nat.zero_le _, by decide, rfl⟩) h03
  · exact absurd ⟨b, hb, rfl⟩ hbb
theorem vX12_act_5_1 {I : Nat → Nat → Int32} {J : Nat → Nat → Int64} {p : Bool × Option Nat} {ro : List (Nat × Nat × (Nat → Int32))} {z : Nat} (hz : I 65 55 = nI z) (hz50 : z ≤ 50) {b : Nat} (hb : b < z) (hk : I 96 b = nI 5) {v : Int32} : Pv 9 0 0 CX12_act [.ref (65), .int (nI b), .int (nI 1), .int (v)] (gS, I, J, gR p, ro) (fun r S' => r = some (.int (sp_act 5 1 (nI b) v)) ∧ ∃ I', S' = (gS, I', J, gR p, ro) ∧ Fr [65, 97] I I' ∧ (∀ k, k ≠ 57 → I' 65 k = I 65 k) ∧ I' 65 57 = nI (sp_nts (I 97, 0) (sp_atr 5 1)).2 ∧ I' 97 = (sp_nts (I 97, 0) (sp_atr 5 1)).1) := by
  refine ⟨okCX12_act, Nat.le_of_ble_eq_true rfl, (show Px _ _ _ _ 0 [some (.ref (65)), some (.int (nI b)), some (.int (nI 1)), some (.int (v))] [] _ _ from ?_)⟩
  refine px_aload_n (kk := 0) rfl rfl rfl ?_
  refine px_iconst (v := nI 0) rfl k_0 ?_
  refine px_putI rfl gS_65 rfl rfl ?_
  refine px_aload_n (kk := 0) rfl rfl rfl ?_
  refine px_iload_n (kk := 1) rfl rfl rfl ?_
  refine px_callV0 CX12_isBody [] [.int _] (vX12_isBody (z := z) (by rw [p_up_s, p_up_n _ _ (by decide)]; exact hz) hz50) rfl gS_65 (by decide) rfl rfl rfl (Nat.le_of_ble_eq_true rfl) (by decide) ?_
  rintro _ _ - (⟨hbb, rfl, rfl⟩ | ⟨hbb, rfl, rfl⟩)
  · refine px_if_eq rfl (fun h => absurd h (by decide)) (fun _ => ?_)
    refine px_iload_n (kk := 2) rfl rfl rfl ?_
    refine px_iconst (v := nI 0) rfl k_0 ?_
    refine px_iconst (v := nI 3) rfl k_3 ?_
    refine px_callS0 CX12_in [] [.int _, .int _, .int _] (vX12_in) rfl rfl rfl (Nat.le_of_ble_eq_true rfl) (by decide) ?_
    rintro _ _ - (⟨h03, rfl, rfl⟩ | ⟨h03, rfl, rfl⟩)
    · refine px_if_ne rfl (fun _ => ?_) (fun h => absurd h (by decide))
      refine px_iload_n (kk := 2) rfl rfl rfl ?_
      refine px_if_ne rfl (fun _ => ?_) (fun h => absurd h (by decide))
      refine px_iload_n (kk := 2) rfl rfl rfl ?_
      refine px_iconst (v := nI 1) rfl k_1 ?_
      refine px_icmp_ne rfl (fun h => absurd h (by decide)) (fun _ => ?_)
      refine px_aload_n (kk := 0) rfl rfl rfl ?_
      refine px_iload_n (kk := 1) rfl rfl rfl ?_
      refine px_iload_n (kk := 3) rfl rfl rfl ?_
      refine px_callV0 CX12_waiting [] [.int _, .int _] (vX12_waiting_5 (I := I) (t := (I 97, 0)) (I1 := (va_up I 65 (va_up (I 65) 57 (nI 0)))) (by omega) hk ⟨Fr_up Fr_rf (by decide) _, fun k h => by rw [p_up_s, p_up_n _ _ h], by rw [p_up_s, p_up_s], by rw [p_up_n _ _ (by decide)]⟩ (show 0 < 2 ^ 20 - 600 by decide)) rfl gS_65 (by decide) rfl rfl rfl (Nat.le_of_ble_eq_true rfl) (by decide) ?_
      rintro _ _ - ⟨rfl, I2, t2, rfl, hB2, ht2⟩
      subst ht2
      refine px_goto rfl ?_
      refine px_ireturn rfl (.inl rfl) ?_
      exact ⟨rfl, I2, rfl, hB2.1, hB2.2.1, hB2.2.2.1, hB2.2.2.2⟩
    · exact absurd ((in_nn (by decide) (by decide)).mpr ⟨_, Nat.zero_le _, by decide, rfl⟩) h03
  · exact absurd ⟨b, hb, rfl⟩ hbb
theorem vX12_act_5_2 {I : Nat → Nat → Int32} {J : Nat → Nat → Int64} {p : Bool × Option Nat} {ro : List (Nat × Nat × (Nat → Int32))} {z : Nat} (hz : I 65 55 = nI z) (hz50 : z ≤ 50) {b : Nat} (hb : b < z) (hk : I 96 b = nI 5) {v : Int32} : Pv 9 0 0 CX12_act [.ref (65), .int (nI b), .int (nI 2), .int (v)] (gS, I, J, gR p, ro) (fun r S' => r = some (.int (sp_act 5 2 (nI b) v)) ∧ ∃ I', S' = (gS, I', J, gR p, ro) ∧ Fr [65, 97] I I' ∧ (∀ k, k ≠ 57 → I' 65 k = I 65 k) ∧ I' 65 57 = nI (sp_nts (I 97, 0) (sp_atr 5 2)).2 ∧ I' 97 = (sp_nts (I 97, 0) (sp_atr 5 2)).1) := by
  refine ⟨okCX12_act, Nat.le_of_ble_eq_true rfl, (show Px _ _ _ _ 0 [some (.ref (65)), some (.int (nI b)), some (.int (nI 2)), some (.int (v))] [] _ _ from ?_)⟩
  refine px_aload_n (kk := 0) rfl rfl rfl ?_
  refine px_iconst (v := nI 0) rfl k_0 ?_
  refine px_putI rfl gS_65 rfl rfl ?_
  refine px_aload_n (kk := 0) rfl rfl rfl ?_
  refine px_iload_n (kk := 1) rfl rfl rfl ?_
  refine px_callV0 CX12_isBody [] [.int _] (vX12_isBody (z := z) (by rw [p_up_s, p_up_n _ _ (by decide)]; exact hz) hz50) rfl gS_65 (by decide) rfl rfl rfl (Nat.le_of_ble_eq_true rfl) (by decide) ?_
  rintro _ _ - (⟨hbb, rfl, rfl⟩ | ⟨hbb, rfl, rfl⟩)
  · refine px_if_eq rfl (fun h => absurd h (by decide)) (fun _ => ?_)
    refine px_iload_n (kk := 2) rfl rfl rfl ?_
    refine px_iconst (v := nI 0) rfl k_0 ?_
    refine px_iconst (v := nI 3) rfl k_3 ?_
    refine px_callS0 CX12_in [] [.int _, .int _, .int _] (vX12_in) rfl rfl rfl (Nat.le_of_ble_eq_true rfl) (by decide) ?_
    rintro _ _ - (⟨h03, rfl, rfl⟩ | ⟨h03, rfl, rfl⟩)
    · refine px_if_ne rfl (fun _ => ?_) (fun h => absurd h (by decide))
      refine px_iload_n (kk := 2) rfl rfl rfl ?_
      refine px_if_ne rfl (fun _ => ?_) (fun h => absurd h (by decide))
      refine px_iload_n (kk := 2) rfl rfl rfl ?_
      refine px_iconst (v := nI 1) rfl k_1 ?_
      refine px_icmp_ne rfl (fun _ => ?_) (fun h => absurd h (by decide))
      refine px_iload_n (kk := 2) rfl rfl rfl ?_
      refine px_iconst (v := nI 2) rfl k_2 ?_
      refine px_icmp_ne rfl (fun h => absurd h (by decide)) (fun _ => ?_)
      refine px_aload_n (kk := 0) rfl rfl rfl ?_
      refine px_iload_n (kk := 1) rfl rfl rfl ?_
      refine px_iload_n (kk := 3) rfl rfl rfl ?_
      refine px_callV0 CX12_crossing [] [.int _, .int _] (vX12_crossing_5 (I := I) (t := (I 97, 0)) (I1 := (va_up I 65 (va_up (I 65) 57 (nI 0)))) (by omega) hk ⟨Fr_up Fr_rf (by decide) _, fun k h => by rw [p_up_s, p_up_n _ _ h], by rw [p_up_s, p_up_s], by rw [p_up_n _ _ (by decide)]⟩ (show 0 < 2 ^ 20 - 400 by decide)) rfl gS_65 (by decide) rfl rfl rfl (Nat.le_of_ble_eq_true rfl) (by decide) ?_
      rintro _ _ - ⟨rfl, I2, t2, rfl, hB2, ht2⟩
      subst ht2
      refine px_goto rfl ?_
      refine px_ireturn rfl (.inl rfl) ?_
      exact ⟨rfl, I2, rfl, hB2.1, hB2.2.1, hB2.2.2.1, hB2.2.2.2⟩
    · exact absurd ((in_nn (by decide) (by decide)).mpr ⟨_, Nat.zero_le _, by decide, rfl⟩) h03
  · exact absurd ⟨b, hb, rfl⟩ hbb
theorem vX12_act_5_3 {I : Nat → Nat → Int32} {J : Nat → Nat → Int64} {p : Bool × Option Nat} {ro : List (Nat × Nat × (Nat → Int32))} {z : Nat} (hz : I 65 55 = nI z) (hz50 : z ≤ 50) {b : Nat} (hb : b < z) (hk : I 96 b = nI 5) {v : Int32} : Pv 9 0 0 CX12_act [.ref (65), .int (nI b), .int (nI 3), .int (v)] (gS, I, J, gR p, ro) (fun r S' => r = some (.int (sp_act 5 3 (nI b) v)) ∧ ∃ I', S' = (gS, I', J, gR p, ro) ∧ Fr [65, 97] I I' ∧ (∀ k, k ≠ 57 → I' 65 k = I 65 k) ∧ I' 65 57 = nI (sp_nts (I 97, 0) (sp_atr 5 3)).2 ∧ I' 97 = (sp_nts (I 97, 0) (sp_atr 5 3)).1) := by
  refine ⟨okCX12_act, Nat.le_of_ble_eq_true rfl, (show Px _ _ _ _ 0 [some (.ref (65)), some (.int (nI b)), some (.int (nI 3)), some (.int (v))] [] _ _ from ?_)⟩
  refine px_aload_n (kk := 0) rfl rfl rfl ?_
  refine px_iconst (v := nI 0) rfl k_0 ?_
  refine px_putI rfl gS_65 rfl rfl ?_
  refine px_aload_n (kk := 0) rfl rfl rfl ?_
  refine px_iload_n (kk := 1) rfl rfl rfl ?_
  refine px_callV0 CX12_isBody [] [.int _] (vX12_isBody (z := z) (by rw [p_up_s, p_up_n _ _ (by decide)]; exact hz) hz50) rfl gS_65 (by decide) rfl rfl rfl (Nat.le_of_ble_eq_true rfl) (by decide) ?_
  rintro _ _ - (⟨hbb, rfl, rfl⟩ | ⟨hbb, rfl, rfl⟩)
  · refine px_if_eq rfl (fun h => absurd h (by decide)) (fun _ => ?_)
    refine px_iload_n (kk := 2) rfl rfl rfl ?_
    refine px_iconst (v := nI 0) rfl k_0 ?_
    refine px_iconst (v := nI 3) rfl k_3 ?_
    refine px_callS0 CX12_in [] [.int _, .int _, .int _] (vX12_in) rfl rfl rfl (Nat.le_of_ble_eq_true rfl) (by decide) ?_
    rintro _ _ - (⟨h03, rfl, rfl⟩ | ⟨h03, rfl, rfl⟩)
    · refine px_if_ne rfl (fun _ => ?_) (fun h => absurd h (by decide))
      refine px_iload_n (kk := 2) rfl rfl rfl ?_
      refine px_if_ne rfl (fun _ => ?_) (fun h => absurd h (by decide))
      refine px_iload_n (kk := 2) rfl rfl rfl ?_
      refine px_iconst (v := nI 1) rfl k_1 ?_
      refine px_icmp_ne rfl (fun _ => ?_) (fun h => absurd h (by decide))
      refine px_iload_n (kk := 2) rfl rfl rfl ?_
      refine px_iconst (v := nI 2) rfl k_2 ?_
      refine px_icmp_ne rfl (fun _ => ?_) (fun h => absurd h (by decide))
      refine px_aload_n (kk := 0) rfl rfl rfl ?_
      refine px_iload_n (kk := 1) rfl rfl rfl ?_
      refine px_iload_n (kk := 3) rfl rfl rfl ?_
      refine px_callV0 CX12_telling [] [.int _, .int _] (vX12_telling_5 (I := I) (t := (I 97, 0)) (I1 := (va_up I 65 (va_up (I 65) 57 (nI 0)))) (by omega) hk ⟨Fr_up Fr_rf (by decide) _, fun k h => by rw [p_up_s, p_up_n _ _ h], by rw [p_up_s, p_up_s], by rw [p_up_n _ _ (by decide)]⟩ (show 0 < 2 ^ 20 - 800 by decide)) rfl gS_65 (by decide) rfl rfl rfl (Nat.le_of_ble_eq_true rfl) (by decide) ?_
      rintro _ _ - ⟨rfl, I2, t2, rfl, hB2, ht2⟩
      subst ht2
      refine px_ireturn rfl (.inl rfl) ?_
      exact ⟨rfl, I2, rfl, hB2.1, hB2.2.1, hB2.2.2.1, hB2.2.2.2⟩
    · exact absurd ((in_nn (by decide) (by decide)).mpr ⟨_, Nat.zero_le _, by decide, rfl⟩) h03
  · exact absurd ⟨b, hb, rfl⟩ hbb
theorem vX12_act_6_0 {I : Nat → Nat → Int32} {J : Nat → Nat → Int64} {p : Bool × Option Nat} {ro : List (Nat × Nat × (Nat → Int32))} {z : Nat} (hz : I 65 55 = nI z) (hz50 : z ≤ 50) {b : Nat} (hb : b < z) (hk : I 96 b = nI 6) {v : Int32} : Pv 9 0 0 CX12_act [.ref (65), .int (nI b), .int (nI 0), .int (v)] (gS, I, J, gR p, ro) (fun r S' => r = some (.int (sp_act 6 0 (nI b) v)) ∧ ∃ I', S' = (gS, I', J, gR p, ro) ∧ Fr [65, 97] I I' ∧ (∀ k, k ≠ 57 → I' 65 k = I 65 k) ∧ I' 65 57 = nI (sp_nts (I 97, 0) (sp_atr 6 0)).2 ∧ I' 97 = (sp_nts (I 97, 0) (sp_atr 6 0)).1) := by
  refine ⟨okCX12_act, Nat.le_of_ble_eq_true rfl, (show Px _ _ _ _ 0 [some (.ref (65)), some (.int (nI b)), some (.int (nI 0)), some (.int (v))] [] _ _ from ?_)⟩
  refine px_aload_n (kk := 0) rfl rfl rfl ?_
  refine px_iconst (v := nI 0) rfl k_0 ?_
  refine px_putI rfl gS_65 rfl rfl ?_
  refine px_aload_n (kk := 0) rfl rfl rfl ?_
  refine px_iload_n (kk := 1) rfl rfl rfl ?_
  refine px_callV0 CX12_isBody [] [.int _] (vX12_isBody (z := z) (by rw [p_up_s, p_up_n _ _ (by decide)]; exact hz) hz50) rfl gS_65 (by decide) rfl rfl rfl (Nat.le_of_ble_eq_true rfl) (by decide) ?_
  rintro _ _ - (⟨hbb, rfl, rfl⟩ | ⟨hbb, rfl, rfl⟩)
  · refine px_if_eq rfl (fun h => absurd h (by decide)) (fun _ => ?_)
    refine px_iload_n (kk := 2) rfl rfl rfl ?_
    refine px_iconst (v := nI 0) rfl k_0 ?_
    refine px_iconst (v := nI 3) rfl k_3 ?_
    refine px_callS0 CX12_in [] [.int _, .int _, .int _] (vX12_in) rfl rfl rfl (Nat.le_of_ble_eq_true rfl) (by decide) ?_
    rintro _ _ - (⟨h03, rfl, rfl⟩ | ⟨h03, rfl, rfl⟩)
    · refine px_if_ne rfl (fun _ => ?_) (fun h => absurd h (by decide))
      refine px_iload_n (kk := 2) rfl rfl rfl ?_
      refine px_if_ne rfl (fun h => absurd h (by decide)) (fun _ => ?_)
      refine px_aload_n (kk := 0) rfl rfl rfl ?_
      refine px_iload_n (kk := 1) rfl rfl rfl ?_
      refine px_iload_n (kk := 3) rfl rfl rfl ?_
      refine px_callV0 CX12_warming [] [.int _, .int _] (vX12_warming_6 (I := I) (t := (I 97, 0)) (I1 := (va_up I 65 (va_up (I 65) 57 (nI 0)))) (by omega) hk ⟨Fr_up Fr_rf (by decide) _, fun k h => by rw [p_up_s, p_up_n _ _ h], by rw [p_up_s, p_up_s], by rw [p_up_n _ _ (by decide)]⟩ (show 0 < 2 ^ 20 - 300 by decide)) rfl gS_65 (by decide) rfl rfl rfl (Nat.le_of_ble_eq_true rfl) (by decide) ?_
      rintro _ _ - ⟨rfl, I2, t2, rfl, hB2, ht2⟩
      subst ht2
      refine px_goto rfl ?_
      refine px_ireturn rfl (.inl rfl) ?_
      exact ⟨rfl, I2, rfl, hB2.1, hB2.2.1, hB2.2.2.1, hB2.2.2.2⟩
    · exact absurd ((in_nn (by decide) (by decide)).mpr ⟨_, Nat.zero_le _, by decide, rfl⟩) h03
  · exact absurd ⟨b, hb, rfl⟩ hbb
theorem vX12_act_6_1 {I : Nat → Nat → Int32} {J : Nat → Nat → Int64} {p : Bool × Option Nat} {ro : List (Nat × Nat × (Nat → Int32))} {z : Nat} (hz : I 65 55 = nI z) (hz50 : z ≤ 50) {b : Nat} (hb : b < z) (hk : I 96 b = nI 6) {v : Int32} : Pv 9 0 0 CX12_act [.ref (65), .int (nI b), .int (nI 1), .int (v)] (gS, I, J, gR p, ro) (fun r S' => r = some (.int (sp_act 6 1 (nI b) v)) ∧ ∃ I', S' = (gS, I', J, gR p, ro) ∧ Fr [65, 97] I I' ∧ (∀ k, k ≠ 57 → I' 65 k = I 65 k) ∧ I' 65 57 = nI (sp_nts (I 97, 0) (sp_atr 6 1)).2 ∧ I' 97 = (sp_nts (I 97, 0) (sp_atr 6 1)).1) := by
  refine ⟨okCX12_act, Nat.le_of_ble_eq_true rfl, (show Px _ _ _ _ 0 [some (.ref (65)), some (.int (nI b)), some (.int (nI 1)), some (.int (v))] [] _ _ from ?_)⟩
  refine px_aload_n (kk := 0) rfl rfl rfl ?_
  refine px_iconst (v := nI 0) rfl k_0 ?_
  refine px_putI rfl gS_65 rfl rfl ?_
  refine px_aload_n (kk := 0) rfl rfl rfl ?_
  refine px_iload_n (kk := 1) rfl rfl rfl ?_
  refine px_callV0 CX12_isBody [] [.int _] (vX12_isBody (z := z) (by rw [p_up_s, p_up_n _ _ (by decide)]; exact hz) hz50) rfl gS_65 (by decide) rfl rfl rfl (Nat.le_of_ble_eq_true rfl) (by decide) ?_
  rintro _ _ - (⟨hbb, rfl, rfl⟩ | ⟨hbb, rfl, rfl⟩)
  · refine px_if_eq rfl (fun h => absurd h (by decide)) (fun _ => ?_)
    refine px_iload_n (kk := 2) rfl rfl rfl ?_
    refine px_iconst (v := nI 0) rfl k_0 ?_
    refine px_iconst (v := nI 3) rfl k_3 ?_
    refine px_callS0 CX12_in [] [.int _, .int _, .int _] (vX12_in) rfl rfl rfl (Nat.le_of_ble_eq_true rfl) (by decide) ?_
    rintro _ _ - (⟨h03, rfl, rfl⟩ | ⟨h03, rfl, rfl⟩)
    · refine px_if_ne rfl (fun _ => ?_) (fun h => absurd h (by decide))
      refine px_iload_n (kk := 2) rfl rfl rfl ?_
      refine px_if_ne rfl (fun _ => ?_) (fun h => absurd h (by decide))
      refine px_iload_n (kk := 2) rfl rfl rfl ?_
      refine px_iconst (v := nI 1) rfl k_1 ?_
      refine px_icmp_ne rfl (fun h => absurd h (by decide)) (fun _ => ?_)
      refine px_aload_n (kk := 0) rfl rfl rfl ?_
      refine px_iload_n (kk := 1) rfl rfl rfl ?_
      refine px_iload_n (kk := 3) rfl rfl rfl ?_
      refine px_callV0 CX12_waiting [] [.int _, .int _] (vX12_waiting_6 (I := I) (t := (I 97, 0)) (I1 := (va_up I 65 (va_up (I 65) 57 (nI 0)))) (by omega) hk ⟨Fr_up Fr_rf (by decide) _, fun k h => by rw [p_up_s, p_up_n _ _ h], by rw [p_up_s, p_up_s], by rw [p_up_n _ _ (by decide)]⟩ (show 0 < 2 ^ 20 - 600 by decide)) rfl gS_65 (by decide) rfl rfl rfl (Nat.le_of_ble_eq_true rfl) (by decide) ?_
      rintro _ _ - ⟨rfl, I2, t2, rfl, hB2, ht2⟩
      subst ht2
      refine px_goto rfl ?_
      refine px_ireturn rfl (.inl rfl) ?_
      exact ⟨rfl, I2, rfl, hB2.1, hB2.2.1, hB2.2.2.1, hB2.2.2.2⟩
    · exact absurd ((in_nn (by decide) (by decide)).mpr ⟨_, Nat.zero_le _, by decide, rfl⟩) h03
  · exact absurd ⟨b, hb, rfl⟩ hbb
theorem vX12_act_6_2 {I : Nat → Nat → Int32} {J : Nat → Nat → Int64} {p : Bool × Option Nat} {ro : List (Nat × Nat × (Nat → Int32))} {z : Nat} (hz : I 65 55 = nI z) (hz50 : z ≤ 50) {b : Nat} (hb : b < z) (hk : I 96 b = nI 6) {v : Int32} : Pv 9 0 0 CX12_act [.ref (65), .int (nI b), .int (nI 2), .int (v)] (gS, I, J, gR p, ro) (fun r S' => r = some (.int (sp_act 6 2 (nI b) v)) ∧ ∃ I', S' = (gS, I', J, gR p, ro) ∧ Fr [65, 97] I I' ∧ (∀ k, k ≠ 57 → I' 65 k = I 65 k) ∧ I' 65 57 = nI (sp_nts (I 97, 0) (sp_atr 6 2)).2 ∧ I' 97 = (sp_nts (I 97, 0) (sp_atr 6 2)).1) := by
  refine ⟨okCX12_act, Nat.le_of_ble_eq_true rfl, (show Px _ _ _ _ 0 [some (.ref (65)), some (.int (nI b)), some (.int (nI 2)), some (.int (v))] [] _ _ from ?_)⟩
  refine px_aload_n (kk := 0) rfl rfl rfl ?_
  refine px_iconst (v := nI 0) rfl k_0 ?_
  refine px_putI rfl gS_65 rfl rfl ?_
  refine px_aload_n (kk := 0) rfl rfl rfl ?_
  refine px_iload_n (kk := 1) rfl rfl rfl ?_
  refine px_callV0 CX12_isBody [] [.int _] (vX12_isBody (z := z) (by rw [p_up_s, p_up_n _ _ (by decide)]; exact hz) hz50) rfl gS_65 (by decide) rfl rfl rfl (Nat.le_of_ble_eq_true rfl) (by decide) ?_
  rintro _ _ - (⟨hbb, rfl, rfl⟩ | ⟨hbb, rfl, rfl⟩)
  · refine px_if_eq rfl (fun h => absurd h (by decide)) (fun _ => ?_)
    refine px_iload_n (kk := 2) rfl rfl rfl ?_
    refine px_iconst (v := nI 0) rfl k_0 ?_
    refine px_iconst (v := nI 3) rfl k_3 ?_
    refine px_callS0 CX12_in [] [.int _, .int _, .int _] (vX12_in) rfl rfl rfl (Nat.le_of_ble_eq_true rfl) (by decide) ?_
    rintro _ _ - (⟨h03, rfl, rfl⟩ | ⟨h03, rfl, rfl⟩)
    · refine px_if_ne rfl (fun _ => ?_) (fun h => absurd h (by decide))
      refine px_iload_n (kk := 2) rfl rfl rfl ?_
      refine px_if_ne rfl (fun _ => ?_) (fun h => absurd h (by decide))
      refine px_iload_n (kk := 2) rfl rfl rfl ?_
      refine px_iconst (v := nI 1) rfl k_1 ?_
      refine px_icmp_ne rfl (fun _ => ?_) (fun h => absurd h (by decide))
      refine px_iload_n (kk := 2) rfl rfl rfl ?_
      refine px_iconst (v := nI 2) rfl k_2 ?_
      refine px_icmp_ne rfl (fun h => absurd h (by decide)) (fun _ => ?_)
      refine px_aload_n (kk := 0) rfl rfl rfl ?_
      refine px_iload_n (kk := 1) rfl rfl rfl ?_
      refine px_iload_n (kk := 3) rfl rfl rfl ?_
      refine px_callV0 CX12_crossing [] [.int _, .int _] (vX12_crossing_6 (I := I) (t := (I 97, 0)) (I1 := (va_up I 65 (va_up (I 65) 57 (nI 0)))) (by omega) hk ⟨Fr_up Fr_rf (by decide) _, fun k h => by rw [p_up_s, p_up_n _ _ h], by rw [p_up_s, p_up_s], by rw [p_up_n _ _ (by decide)]⟩ (show 0 < 2 ^ 20 - 400 by decide)) rfl gS_65 (by decide) rfl rfl rfl (Nat.le_of_ble_eq_true rfl) (by decide) ?_
      rintro _ _ - ⟨rfl, I2, t2, rfl, hB2, ht2⟩
      subst ht2
      refine px_goto rfl ?_
      refine px_ireturn rfl (.inl rfl) ?_
      exact ⟨rfl, I2, rfl, hB2.1, hB2.2.1, hB2.2.2.1, hB2.2.2.2⟩
    · exact absurd ((in_nn (by decide) (by decide)).mpr ⟨_, Nat.zero_le _, by decide, rfl⟩) h03
  · exact absurd ⟨b, hb, rfl⟩ hbb
theorem vX12_act_6_3 {I : Nat → Nat → Int32} {J : Nat → Nat → Int64} {p : Bool × Option Nat} {ro : List (Nat × Nat × (Nat → Int32))} {z : Nat} (hz : I 65 55 = nI z) (hz50 : z ≤ 50) {b : Nat} (hb : b < z) (hk : I 96 b = nI 6) {v : Int32} : Pv 9 0 0 CX12_act [.ref (65), .int (nI b), .int (nI 3), .int (v)] (gS, I, J, gR p, ro) (fun r S' => r = some (.int (sp_act 6 3 (nI b) v)) ∧ ∃ I', S' = (gS, I', J, gR p, ro) ∧ Fr [65, 97] I I' ∧ (∀ k, k ≠ 57 → I' 65 k = I 65 k) ∧ I' 65 57 = nI (sp_nts (I 97, 0) (sp_atr 6 3)).2 ∧ I' 97 = (sp_nts (I 97, 0) (sp_atr 6 3)).1) := by
  refine ⟨okCX12_act, Nat.le_of_ble_eq_true rfl, (show Px _ _ _ _ 0 [some (.ref (65)), some (.int (nI b)), some (.int (nI 3)), some (.int (v))] [] _ _ from ?_)⟩
  refine px_aload_n (kk := 0) rfl rfl rfl ?_
  refine px_iconst (v := nI 0) rfl k_0 ?_
  refine px_putI rfl gS_65 rfl rfl ?_
  refine px_aload_n (kk := 0) rfl rfl rfl ?_
  refine px_iload_n (kk := 1) rfl rfl rfl ?_
  refine px_callV0 CX12_isBody [] [.int _] (vX12_isBody (z := z) (by rw [p_up_s, p_up_n _ _ (by decide)]; exact hz) hz50) rfl gS_65 (by decide) rfl rfl rfl (Nat.le_of_ble_eq_true rfl) (by decide) ?_
  rintro _ _ - (⟨hbb, rfl, rfl⟩ | ⟨hbb, rfl, rfl⟩)
  · refine px_if_eq rfl (fun h => absurd h (by decide)) (fun _ => ?_)
    refine px_iload_n (kk := 2) rfl rfl rfl ?_
    refine px_iconst (v := nI 0) rfl k_0 ?_
    refine px_iconst (v := nI 3) rfl k_3 ?_
    refine px_callS0 CX12_in [] [.int _, .int _, .int _] (vX12_in) rfl rfl rfl (Nat.le_of_ble_eq_true rfl) (by decide) ?_
    rintro _ _ - (⟨h03, rfl, rfl⟩ | ⟨h03, rfl, rfl⟩)
    · refine px_if_ne rfl (fun _ => ?_) (fun h => absurd h (by decide))
      refine px_iload_n (kk := 2) rfl rfl rfl ?_
      refine px_if_ne rfl (fun _ => ?_) (fun h => absurd h (by decide))
      refine px_iload_n (kk := 2) rfl rfl rfl ?_
      refine px_iconst (v := nI 1) rfl k_1 ?_
      refine px_icmp_ne rfl (fun _ => ?_) (fun h => absurd h (by decide))
      refine px_iload_n (kk := 2) rfl rfl rfl ?_
      refine px_iconst (v := nI 2) rfl k_2 ?_
      refine px_icmp_ne rfl (fun _ => ?_) (fun h => absurd h (by decide))
      refine px_aload_n (kk := 0) rfl rfl rfl ?_
      refine px_iload_n (kk := 1) rfl rfl rfl ?_
      refine px_iload_n (kk := 3) rfl rfl rfl ?_
      refine px_callV0 CX12_telling [] [.int _, .int _] (vX12_telling_6 (I := I) (t := (I 97, 0)) (I1 := (va_up I 65 (va_up (I 65) 57 (nI 0)))) (by omega) hk ⟨Fr_up Fr_rf (by decide) _, fun k h => by rw [p_up_s, p_up_n _ _ h], by rw [p_up_s, p_up_s], by rw [p_up_n _ _ (by decide)]⟩ (show 0 < 2 ^ 20 - 800 by decide)) rfl gS_65 (by decide) rfl rfl rfl (Nat.le_of_ble_eq_true rfl) (by decide) ?_
      rintro _ _ - ⟨rfl, I2, t2, rfl, hB2, ht2⟩
      subst ht2
      refine px_ireturn rfl (.inl rfl) ?_
      exact ⟨rfl, I2, rfl, hB2.1, hB2.2.1, hB2.2.2.1, hB2.2.2.2⟩
    · exact absurd ((in_nn (by decide) (by decide)).mpr ⟨_, Nat.zero_le _, by decide, rfl⟩) h03
  · exact absurd ⟨b, hb, rfl⟩ hbb
theorem vX12_act_7_0 {I : Nat → Nat → Int32} {J : Nat → Nat → Int64} {p : Bool × Option Nat} {ro : List (Nat × Nat × (Nat → Int32))} {z : Nat} (hz : I 65 55 = nI z) (hz50 : z ≤ 50) {b : Nat} (hb : b < z) (hk : I 96 b = nI 7) {v : Int32} : Pv 9 0 0 CX12_act [.ref (65), .int (nI b), .int (nI 0), .int (v)] (gS, I, J, gR p, ro) (fun r S' => r = some (.int (sp_act 7 0 (nI b) v)) ∧ ∃ I', S' = (gS, I', J, gR p, ro) ∧ Fr [65, 97] I I' ∧ (∀ k, k ≠ 57 → I' 65 k = I 65 k) ∧ I' 65 57 = nI (sp_nts (I 97, 0) (sp_atr 7 0)).2 ∧ I' 97 = (sp_nts (I 97, 0) (sp_atr 7 0)).1) := by
  refine ⟨okCX12_act, Nat.le_of_ble_eq_true rfl, (show Px _ _ _ _ 0 [some (.ref (65)), some (.int (nI b)), some (.int (nI 0)), some (.int (v))] [] _ _ from ?_)⟩
  refine px_aload_n (kk := 0) rfl rfl rfl ?_
  refine px_iconst (v := nI 0) rfl k_0 ?_
  refine px_putI rfl gS_65 rfl rfl ?_
  refine px_aload_n (kk := 0) rfl rfl rfl ?_
  refine px_iload_n (kk := 1) rfl rfl rfl ?_
  refine px_callV0 CX12_isBody [] [.int _] (vX12_isBody (z := z) (by rw [p_up_s, p_up_n _ _ (by decide)]; exact hz) hz50) rfl gS_65 (by decide) rfl rfl rfl (Nat.le_of_ble_eq_true rfl) (by decide) ?_
  rintro _ _ - (⟨hbb, rfl, rfl⟩ | ⟨hbb, rfl, rfl⟩)
  · refine px_if_eq rfl (fun h => absurd h (by decide)) (fun _ => ?_)
    refine px_iload_n (kk := 2) rfl rfl rfl ?_
    refine px_iconst (v := nI 0) rfl k_0 ?_
    refine px_iconst (v := nI 3) rfl k_3 ?_
    refine px_callS0 CX12_in [] [.int _, .int _, .int _] (vX12_in) rfl rfl rfl (Nat.le_of_ble_eq_true rfl) (by decide) ?_
    rintro _ _ - (⟨h03, rfl, rfl⟩ | ⟨h03, rfl, rfl⟩)
    · refine px_if_ne rfl (fun _ => ?_) (fun h => absurd h (by decide))
      refine px_iload_n (kk := 2) rfl rfl rfl ?_
      refine px_if_ne rfl (fun h => absurd h (by decide)) (fun _ => ?_)
      refine px_aload_n (kk := 0) rfl rfl rfl ?_
      refine px_iload_n (kk := 1) rfl rfl rfl ?_
      refine px_iload_n (kk := 3) rfl rfl rfl ?_
      refine px_callV0 CX12_warming [] [.int _, .int _] (vX12_warming_7 (I := I) (t := (I 97, 0)) (I1 := (va_up I 65 (va_up (I 65) 57 (nI 0)))) (by omega) hk ⟨Fr_up Fr_rf (by decide) _, fun k h => by rw [p_up_s, p_up_n _ _ h], by rw [p_up_s, p_up_s], by rw [p_up_n _ _ (by decide)]⟩ (show 0 < 2 ^ 20 - 300 by decide)) rfl gS_65 (by decide) rfl rfl rfl (Nat.le_of_ble_eq_true rfl) (by decide) ?_
      rintro _ _ - ⟨rfl, I2, t2, rfl, hB2, ht2⟩
      subst ht2
      refine px_goto rfl ?_
      refine px_ireturn rfl (.inl rfl) ?_
      exact ⟨rfl, I2, rfl, hB2.1, hB2.2.1, hB2.2.2.1, hB2.2.2.2⟩
    · exact absurd ((in_nn (by decide) (by decide)).mpr ⟨_, Nat.zero_le _, by decide, rfl⟩) h03
  · exact absurd ⟨b, hb, rfl⟩ hbb
theorem vX12_act_7_1 {I : Nat → Nat → Int32} {J : Nat → Nat → Int64} {p : Bool × Option Nat} {ro : List (Nat × Nat × (Nat → Int32))} {z : Nat} (hz : I 65 55 = nI z) (hz50 : z ≤ 50) {b : Nat} (hb : b < z) (hk : I 96 b = nI 7) {v : Int32} : Pv 9 0 0 CX12_act [.ref (65), .int (nI b), .int (nI 1), .int (v)] (gS, I, J, gR p, ro) (fun r S' => r = some (.int (sp_act 7 1 (nI b) v)) ∧ ∃ I', S' = (gS, I', J, gR p, ro) ∧ Fr [65, 97] I I' ∧ (∀ k, k ≠ 57 → I' 65 k = I 65 k) ∧ I' 65 57 = nI (sp_nts (I 97, 0) (sp_atr 7 1)).2 ∧ I' 97 = (sp_nts (I 97, 0) (sp_atr 7 1)).1) := by
  refine ⟨okCX12_act, Nat.le_of_ble_eq_true rfl, (show Px _ _ _ _ 0 [some (.ref (65)), some (.int (nI b)), some (.int (nI 1)), some (.int (v))] [] _ _ from ?_)⟩
  refine px_aload_n (kk := 0) rfl rfl rfl ?_
  refine px_iconst (v := nI 0) rfl k_0 ?_
  refine px_putI rfl gS_65 rfl rfl ?_
  refine px_aload_n (kk := 0) rfl rfl rfl ?_
  refine px_iload_n (kk := 1) rfl rfl rfl ?_
  refine px_callV0 CX12_isBody [] [.int _] (vX12_isBody (z := z) (by rw [p_up_s, p_up_n _ _ (by decide)]; exact hz) hz50) rfl gS_65 (by decide) rfl rfl rfl (Nat.le_of_ble_eq_true rfl) (by decide) ?_
  rintro _ _ - (⟨hbb, rfl, rfl⟩ | ⟨hbb, rfl, rfl⟩)
  · refine px_if_eq rfl (fun h => absurd h (by decide)) (fun _ => ?_)
    refine px_iload_n (kk := 2) rfl rfl rfl ?_
    refine px_iconst (v := nI 0) rfl k_0 ?_
    refine px_iconst (v := nI 3) rfl k_3 ?_
    refine px_callS0 CX12_in [] [.int _, .int _, .int _] (vX12_in) rfl rfl rfl (Nat.le_of_ble_eq_true rfl) (by decide) ?_
    rintro _ _ - (⟨h03, rfl, rfl⟩ | ⟨h03, rfl, rfl⟩)
    · refine px_if_ne rfl (fun _ => ?_) (fun h => absurd h (by decide))
      refine px_iload_n (kk := 2) rfl rfl rfl ?_
      refine px_if_ne rfl (fun _ => ?_) (fun h => absurd h (by decide))
      refine px_iload_n (kk := 2) rfl rfl rfl ?_
      refine px_iconst (v := nI 1) rfl k_1 ?_
      refine px_icmp_ne rfl (fun h => absurd h (by decide)) (fun _ => ?_)
      refine px_aload_n (kk := 0) rfl rfl rfl ?_
      refine px_iload_n (kk := 1) rfl rfl rfl ?_
      refine px_iload_n (kk := 3) rfl rfl rfl ?_
      refine px_callV0 CX12_waiting [] [.int _, .int _] (vX12_waiting_7 (I := I) (t := (I 97, 0)) (I1 := (va_up I 65 (va_up (I 65) 57 (nI 0)))) (by omega) hk ⟨Fr_up Fr_rf (by decide) _, fun k h => by rw [p_up_s, p_up_n _ _ h], by rw [p_up_s, p_up_s], by rw [p_up_n _ _ (by decide)]⟩ (show 0 < 2 ^ 20 - 600 by decide)) rfl gS_65 (by decide) rfl rfl rfl (Nat.le_of_ble_eq_true rfl) (by decide) ?_
      rintro _ _ - ⟨rfl, I2, t2, rfl, hB2, ht2⟩
      subst ht2
      refine px_goto rfl ?_
      refine px_ireturn rfl (.inl rfl) ?_
      exact ⟨rfl, I2, rfl, hB2.1, hB2.2.1, hB2.2.2.1, hB2.2.2.2⟩
    · exact absurd ((in_nn (by decide) (by decide)).mpr ⟨_, Nat.zero_le _, by decide, rfl⟩) h03
  · exact absurd ⟨b, hb, rfl⟩ hbb
theorem vX12_act_7_2 {I : Nat → Nat → Int32} {J : Nat → Nat → Int64} {p : Bool × Option Nat} {ro : List (Nat × Nat × (Nat → Int32))} {z : Nat} (hz : I 65 55 = nI z) (hz50 : z ≤ 50) {b : Nat} (hb : b < z) (hk : I 96 b = nI 7) {v : Int32} : Pv 9 0 0 CX12_act [.ref (65), .int (nI b), .int (nI 2), .int (v)] (gS, I, J, gR p, ro) (fun r S' => r = some (.int (sp_act 7 2 (nI b) v)) ∧ ∃ I', S' = (gS, I', J, gR p, ro) ∧ Fr [65, 97] I I' ∧ (∀ k, k ≠ 57 → I' 65 k = I 65 k) ∧ I' 65 57 = nI (sp_nts (I 97, 0) (sp_atr 7 2)).2 ∧ I' 97 = (sp_nts (I 97, 0) (sp_atr 7 2)).1) := by
  refine ⟨okCX12_act, Nat.le_of_ble_eq_true rfl, (show Px _ _ _ _ 0 [some (.ref (65)), some (.int (nI b)), some (.int (nI 2)), some (.int (v))] [] _ _ from ?_)⟩
  refine px_aload_n (kk := 0) rfl rfl rfl ?_
  refine px_iconst (v := nI 0) rfl k_0 ?_
  refine px_putI rfl gS_65 rfl rfl ?_
  refine px_aload_n (kk := 0) rfl rfl rfl ?_
  refine px_iload_n (kk := 1) rfl rfl rfl ?_
  refine px_callV0 CX12_isBody [] [.int _] (vX12_isBody (z := z) (by rw [p_up_s, p_up_n _ _ (by decide)]; exact hz) hz50) rfl gS_65 (by decide) rfl rfl rfl (Nat.le_of_ble_eq_true rfl) (by decide) ?_
  rintro _ _ - (⟨hbb, rfl, rfl⟩ | ⟨hbb, rfl, rfl⟩)
  · refine px_if_eq rfl (fun h => absurd h (by decide)) (fun _ => ?_)
    refine px_iload_n (kk := 2) rfl rfl rfl ?_
    refine px_iconst (v := nI 0) rfl k_0 ?_
    refine px_iconst (v := nI 3) rfl k_3 ?_
    refine px_callS0 CX12_in [] [.int _, .int _, .int _] (vX12_in) rfl rfl rfl (Nat.le_of_ble_eq_true rfl) (by decide) ?_
    rintro _ _ - (⟨h03, rfl, rfl⟩ | ⟨h03, rfl, rfl⟩)
    · refine px_if_ne rfl (fun _ => ?_) (fun h => absurd h (by decide))
      refine px_iload_n (kk := 2) rfl rfl rfl ?_
      refine px_if_ne rfl (fun _ => ?_) (fun h => absurd h (by decide))
      refine px_iload_n (kk := 2) rfl rfl rfl ?_
      refine px_iconst (v := nI 1) rfl k_1 ?_
      refine px_icmp_ne rfl (fun _ => ?_) (fun h => absurd h (by decide))
      refine px_iload_n (kk := 2) rfl rfl rfl ?_
      refine px_iconst (v := nI 2) rfl k_2 ?_
      refine px_icmp_ne rfl (fun h => absurd h (by decide)) (fun _ => ?_)
      refine px_aload_n (kk := 0) rfl rfl rfl ?_
      refine px_iload_n (kk := 1) rfl rfl rfl ?_
      refine px_iload_n (kk := 3) rfl rfl rfl ?_
      refine px_callV0 CX12_crossing [] [.int _, .int _] (vX12_crossing_7 (I := I) (t := (I 97, 0)) (I1 := (va_up I 65 (va_up (I 65) 57 (nI 0)))) (by omega) hk ⟨Fr_up Fr_rf (by decide) _, fun k h => by rw [p_up_s, p_up_n _ _ h], by rw [p_up_s, p_up_s], by rw [p_up_n _ _ (by decide)]⟩ (show 0 < 2 ^ 20 - 400 by decide)) rfl gS_65 (by decide) rfl rfl rfl (Nat.le_of_ble_eq_true rfl) (by decide) ?_
      rintro _ _ - ⟨rfl, I2, t2, rfl, hB2, ht2⟩
      subst ht2
      refine px_goto rfl ?_
      refine px_ireturn rfl (.inl rfl) ?_
      exact ⟨rfl, I2, rfl, hB2.1, hB2.2.1, hB2.2.2.1, hB2.2.2.2⟩
    · exact absurd ((in_nn (by decide) (by decide)).mpr ⟨_, Nat.zero_le _, by decide, rfl⟩) h03
  · exact absurd ⟨b, hb, rfl⟩ hbb
theorem vX12_act_7_3 {I : Nat → Nat → Int32} {J : Nat → Nat → Int64} {p : Bool × Option Nat} {ro : List (Nat × Nat × (Nat → Int32))} {z : Nat} (hz : I 65 55 = nI z) (hz50 : z ≤ 50) {b : Nat} (hb : b < z) (hk : I 96 b = nI 7) {v : Int32} : Pv 9 0 0 CX12_act [.ref (65), .int (nI b), .int (nI 3), .int (v)] (gS, I, J, gR p, ro) (fun r S' => r = some (.int (sp_act 7 3 (nI b) v)) ∧ ∃ I', S' = (gS, I', J, gR p, ro) ∧ Fr [65, 97] I I' ∧ (∀ k, k ≠ 57 → I' 65 k = I 65 k) ∧ I' 65 57 = nI (sp_nts (I 97, 0) (sp_atr 7 3)).2 ∧ I' 97 = (sp_nts (I 97, 0) (sp_atr 7 3)).1) := by
  refine ⟨okCX12_act, Nat.le_of_ble_eq_true rfl, (show Px _ _ _ _ 0 [some (.ref (65)), some (.int (nI b)), some (.int (nI 3)), some (.int (v))] [] _ _ from ?_)⟩
  refine px_aload_n (kk := 0) rfl rfl rfl ?_
  refine px_iconst (v := nI 0) rfl k_0 ?_
  refine px_putI rfl gS_65 rfl rfl ?_
  refine px_aload_n (kk := 0) rfl rfl rfl ?_
  refine px_iload_n (kk := 1) rfl rfl rfl ?_
  refine px_callV0 CX12_isBody [] [.int _] (vX12_isBody (z := z) (by rw [p_up_s, p_up_n _ _ (by decide)]; exact hz) hz50) rfl gS_65 (by decide) rfl rfl rfl (Nat.le_of_ble_eq_true rfl) (by decide) ?_
  rintro _ _ - (⟨hbb, rfl, rfl⟩ | ⟨hbb, rfl, rfl⟩)
  · refine px_if_eq rfl (fun h => absurd h (by decide)) (fun _ => ?_)
    refine px_iload_n (kk := 2) rfl rfl rfl ?_
    refine px_iconst (v := nI 0) rfl k_0 ?_
    refine px_iconst (v := nI 3) rfl k_3 ?_
    refine px_callS0 CX12_in [] [.int _, .int _, .int _] (vX12_in) rfl rfl rfl (Nat.le_of_ble_eq_true rfl) (by decide) ?_
    rintro _ _ - (⟨h03, rfl, rfl⟩ | ⟨h03, rfl, rfl⟩)
    · refine px_if_ne rfl (fun _ => ?_) (fun h => absurd h (by decide))
      refine px_iload_n (kk := 2) rfl rfl rfl ?_
      refine px_if_ne rfl (fun _ => ?_) (fun h => absurd h (by decide))
      refine px_iload_n (kk := 2) rfl rfl rfl ?_
      refine px_iconst (v := nI 1) rfl k_1 ?_
      refine px_icmp_ne rfl (fun _ => ?_) (fun h => absurd h (by decide))
      refine px_iload_n (kk := 2) rfl rfl rfl ?_
      refine px_iconst (v := nI 2) rfl k_2 ?_
      refine px_icmp_ne rfl (fun _ => ?_) (fun h => absurd h (by decide))
      refine px_aload_n (kk := 0) rfl rfl rfl ?_
      refine px_iload_n (kk := 1) rfl rfl rfl ?_
      refine px_iload_n (kk := 3) rfl rfl rfl ?_
      refine px_callV0 CX12_telling [] [.int _, .int _] (vX12_telling_7 (I := I) (t := (I 97, 0)) (I1 := (va_up I 65 (va_up (I 65) 57 (nI 0)))) (by omega) hk ⟨Fr_up Fr_rf (by decide) _, fun k h => by rw [p_up_s, p_up_n _ _ h], by rw [p_up_s, p_up_s], by rw [p_up_n _ _ (by decide)]⟩ (show 0 < 2 ^ 20 - 800 by decide)) rfl gS_65 (by decide) rfl rfl rfl (Nat.le_of_ble_eq_true rfl) (by decide) ?_
      rintro _ _ - ⟨rfl, I2, t2, rfl, hB2, ht2⟩
      subst ht2
      refine px_ireturn rfl (.inl rfl) ?_
      exact ⟨rfl, I2, rfl, hB2.1, hB2.2.1, hB2.2.2.1, hB2.2.2.2⟩
    · exact absurd ((in_nn (by decide) (by decide)).mpr ⟨_, Nat.zero_le _, by decide, rfl⟩) h03
  · exact absurd ⟨b, hb, rfl⟩ hbb
theorem vX12_act_n {I : Nat → Nat → Int32} {J : Nat → Nat → Int64} {p : Bool × Option Nat} {ro : List (Nat × Nat × (Nat → Int32))} {z : Nat} (hz : I 65 55 = nI z) (hz50 : z ≤ 50) {x y v : Int32} (hno : ¬ ((∃ b, b < z ∧ x = nI b) ∧ ∃ w, w < 4 ∧ y = nI w)) : Pv 9 0 0 CX12_act [.ref (65), .int (x), .int (y), .int (v)] (gS, I, J, gR p, ro) (fun r S' => r = some (.int (nI 0)) ∧ S' = (gS, (va_up I 65 (va_up (I 65) 57 (nI 0))), J, gR p, ro)) := by
  refine ⟨okCX12_act, Nat.le_of_ble_eq_true rfl, (show Px _ _ _ _ 0 [some (.ref (65)), some (.int (x)), some (.int (y)), some (.int (v))] [] _ _ from ?_)⟩
  refine px_aload_n (kk := 0) rfl rfl rfl ?_
  refine px_iconst (v := nI 0) rfl k_0 ?_
  refine px_putI rfl gS_65 rfl rfl ?_
  refine px_aload_n (kk := 0) rfl rfl rfl ?_
  refine px_iload_n (kk := 1) rfl rfl rfl ?_
  refine px_callV0 CX12_isBody [] [.int _] (vX12_isBody (z := z) (by rw [p_up_s, p_up_n _ _ (by decide)]; exact hz) hz50) rfl gS_65 (by decide) rfl rfl rfl (Nat.le_of_ble_eq_true rfl) (by decide) ?_
  rintro _ _ - (⟨hbb, rfl, rfl⟩ | ⟨hbb, rfl, rfl⟩)
  · refine px_if_eq rfl (fun h => absurd h (by decide)) (fun _ => ?_)
    refine px_iload_n (kk := 2) rfl rfl rfl ?_
    refine px_iconst (v := nI 0) rfl k_0 ?_
    refine px_iconst (v := nI 3) rfl k_3 ?_
    refine px_callS0 CX12_in [] [.int _, .int _, .int _] (vX12_in) rfl rfl rfl (Nat.le_of_ble_eq_true rfl) (by decide) ?_
    rintro _ _ - (⟨h03, rfl, rfl⟩ | ⟨h03, rfl, rfl⟩)
    · exact absurd ⟨hbb, by obtain ⟨a, -, h, e⟩ := (in_nn (by decide) (by decide)).mp h03; exact ⟨a, by omega, e⟩⟩ hno
    · refine px_if_ne rfl (fun h => absurd h (by decide)) (fun _ => ?_)
      refine px_iconst (v := nI 0) rfl k_0 ?_
      refine px_ireturn rfl (.inl rfl) ?_
      exact ⟨rfl, rfl⟩
  · refine px_if_eq rfl (fun _ => ?_) (fun h => absurd h (by decide))
    refine px_iconst (v := nI 0) rfl k_0 ?_
    refine px_ireturn rfl (.inl rfl) ?_
    exact ⟨rfl, rfl⟩
theorem vX12_act {I : Nat → Nat → Int32} {J : Nat → Nat → Int64} {p : Bool × Option Nat} {ro : List (Nat × Nat × (Nat → Int32))} {z : Nat} (hz : I 65 55 = nI z) (hz50 : z ≤ 50) (hks : ∀ b, b < z → ∃ K, K < 8 ∧ I 96 b = nI K) {x y v : Int32} : Pv 9 0 0 CX12_act [.ref 65, .int x, .int y, .int v] (gS, I, J, gR p, ro) (fun r S' => (∃ b K w, b < z ∧ K < 8 ∧ w < 4 ∧ x = nI b ∧ I 96 b = nI K ∧ y = nI w ∧ r = some (.int (sp_act K w (nI b) v)) ∧ ∃ I', S' = (gS, I', J, gR p, ro) ∧ Fr [65, 97] I I' ∧ (∀ k, k ≠ 57 → I' 65 k = I 65 k) ∧ I' 65 57 = nI (sp_nts (I 97, 0) (sp_atr K w)).2 ∧ I' 97 = (sp_nts (I 97, 0) (sp_atr K w)).1) ∨ (¬ ((∃ b, b < z ∧ x = nI b) ∧ ∃ w, w < 4 ∧ y = nI w) ∧ r = some (.int (nI 0)) ∧ S' = (gS, (va_up I 65 (va_up (I 65) 57 (nI 0))), J, gR p, ro))) := by
  by_cases h : (∃ b, b < z ∧ x = nI b) ∧ ∃ w, w < 4 ∧ y = nI w
  · obtain ⟨⟨b, hb, rfl⟩, w, hw, rfl⟩ := h
    obtain ⟨K, hK, hk⟩ := hks b hb
    have key : Pv 9 0 0 CX12_act [.ref 65, .int (nI b), .int (nI w), .int v] (gS, I, J, gR p, ro) (fun r S' => r = some (.int (sp_act K w (nI b) v)) ∧ ∃ I', S' = (gS, I', J, gR p, ro) ∧ Fr [65, 97] I I' ∧ (∀ k, k ≠ 57 → I' 65 k = I 65 k) ∧ I' 65 57 = nI (sp_nts (I 97, 0) (sp_atr K w)).2 ∧ I' 97 = (sp_nts (I 97, 0) (sp_atr K w)).1) := by
      rcases (by omega : K = 0 ∨ K = 1 ∨ K = 2 ∨ K = 3 ∨ K = 4 ∨ K = 5 ∨ K = 6 ∨ K = 7) with rfl | rfl | rfl | rfl | rfl | rfl | rfl | rfl
      · rcases (by omega : w = 0 ∨ w = 1 ∨ w = 2 ∨ w = 3) with rfl | rfl | rfl | rfl
        · exact vX12_act_0_0 hz hz50 hb hk
        · exact vX12_act_0_1 hz hz50 hb hk
        · exact vX12_act_0_2 hz hz50 hb hk
        · exact vX12_act_0_3 hz hz50 hb hk
      · rcases (by omega : w = 0 ∨ w = 1 ∨ w = 2 ∨ w = 3) with rfl | rfl | rfl | rfl
        · exact vX12_act_1_0 hz hz50 hb hk
        · exact vX12_act_1_1 hz hz50 hb hk
        · exact vX12_act_1_2 hz hz50 hb hk
        · exact vX12_act_1_3 hz hz50 hb hk
      · rcases (by omega : w = 0 ∨ w = 1 ∨ w = 2 ∨ w = 3) with rfl | rfl | rfl | rfl
        · exact vX12_act_2_0 hz hz50 hb hk
        · exact vX12_act_2_1 hz hz50 hb hk
        · exact vX12_act_2_2 hz hz50 hb hk
        · exact vX12_act_2_3 hz hz50 hb hk
      · rcases (by omega : w = 0 ∨ w = 1 ∨ w = 2 ∨ w = 3) with rfl | rfl | rfl | rfl
        · exact vX12_act_3_0 hz hz50 hb hk
        · exact vX12_act_3_1 hz hz50 hb hk
        · exact vX12_act_3_2 hz hz50 hb hk
        · exact vX12_act_3_3 hz hz50 hb hk
      · rcases (by omega : w = 0 ∨ w = 1 ∨ w = 2 ∨ w = 3) with rfl | rfl | rfl | rfl
        · exact vX12_act_4_0 hz hz50 hb hk
        · exact vX12_act_4_1 hz hz50 hb hk
        · exact vX12_act_4_2 hz hz50 hb hk
        · exact vX12_act_4_3 hz hz50 hb hk
      · rcases (by omega : w = 0 ∨ w = 1 ∨ w = 2 ∨ w = 3) with rfl | rfl | rfl | rfl
        · exact vX12_act_5_0 hz hz50 hb hk
        · exact vX12_act_5_1 hz hz50 hb hk
        · exact vX12_act_5_2 hz hz50 hb hk
        · exact vX12_act_5_3 hz hz50 hb hk
      · rcases (by omega : w = 0 ∨ w = 1 ∨ w = 2 ∨ w = 3) with rfl | rfl | rfl | rfl
        · exact vX12_act_6_0 hz hz50 hb hk
        · exact vX12_act_6_1 hz hz50 hb hk
        · exact vX12_act_6_2 hz hz50 hb hk
        · exact vX12_act_6_3 hz hz50 hb hk
      · rcases (by omega : w = 0 ∨ w = 1 ∨ w = 2 ∨ w = 3) with rfl | rfl | rfl | rfl
        · exact vX12_act_7_0 hz hz50 hb hk
        · exact vX12_act_7_1 hz hz50 hb hk
        · exact vX12_act_7_2 hz hz50 hb hk
        · exact vX12_act_7_3 hz hz50 hb hk
    exact pv_post key (fun r S hr => .inl ⟨b, K, w, hb, hK, hw, rfl, hk, rfl, hr⟩)
  · exact pv_post (vX12_act_n hz hz50 h) (fun r S hr => .inr ⟨h, hr⟩)
