/-! the reference: hours in deed -/
theorem fillp {f g : Nat → Int32} (k : Nat) {v : Int32} (h : v = f k) : va_up (fun j => if j < k then f j else g j) k v = fun j => if j < k + 1 then f j else g j := by
  subst h
  funext j
  by_cases e : j = k
  · subst e; rw [p_up_s, if_pos (by omega)]
  · rw [p_up_n _ _ e]
    by_cases h : j < k
    · rw [if_pos h, if_pos (by omega)]
    · rw [if_neg h, if_neg (by omega)]
theorem vX12_led_k {I : Nat → Nat → Int32} {J : Nat → Nat → Int64} {p : Bool × Option Nat} {ro : List (Nat × Nat × (Nat → Int32))} {w : Int32} (h4 : w ≠ nI 4) : Pv 1 0 0 CX12_led [.ref (65), .int (w)] (gS, I, J, gR p, ro) (fun r S' => S' = (gS, I, J, gR p, ro) ∧ ((∃ k, k < 4 ∧ w = nI k ∧ r = some (.int (I 91 k))) ∨ (¬ (∃ k, k < 4 ∧ w = nI k) ∧ r = some (.int (-1))))) := by
  refine ⟨okCX12_led, Nat.le_of_ble_eq_true rfl, (show Px _ _ _ _ 0 [some (.ref (65)), some (.int (w)), none, none] [] _ _ from ?_)⟩
  refine px_iload_n (kk := 1) rfl rfl rfl ?_
  refine px_iconst (v := nI 4) rfl k_4 ?_
  refine px_icmp_eq rfl (fun h => absurd h h4) (fun c2 => ?_)
  refine px_iload_n (kk := 1) rfl rfl rfl ?_
  refine px_iconst (v := nI 0) rfl k_0 ?_
  refine px_iconst (v := nI 3) rfl k_3 ?_
  refine px_callS0 CX12_in [] [.int _, .int _, .int _] (vX12_in) rfl rfl rfl (Nat.le_of_ble_eq_true rfl) (by decide) ?_
  rintro _ _ - (⟨h, rfl, rfl⟩ | ⟨h, rfl, rfl⟩)
  · obtain ⟨k, -, hk, rfl⟩ := (in_nn (by decide) (by decide)).mp h
    refine px_if_eq rfl (fun h => absurd h (by decide)) (fun _ => ?_)
    refine px_aload_n (kk := 0) rfl rfl rfl ?_
    refine px_getR (r := 91) rfl gS_65 rfl (gR_65_48 _) ?_
    refine px_iload_n (kk := 1) rfl rfl rfl ?_
    refine px_iald (j := k) rfl gS_91 rfl (by omega) ?_
    refine px_goto rfl ?_
    refine px_ireturn rfl (.inl rfl) ?_
    exact ⟨rfl, .inl ⟨k, by omega, rfl, rfl⟩⟩
  · refine px_if_eq rfl (fun _ => ?_) (fun h => absurd h (by decide))
    refine px_iconst (v := -1) rfl k_m1 ?_
    refine px_ireturn rfl (.inl rfl) ?_
    exact ⟨rfl, .inr ⟨fun ⟨k, hk, e⟩ => h ((in_nn (by decide) (by decide)).mpr ⟨k, Nat.zero_le _, by omega, e⟩), rfl⟩⟩
theorem lX12_led {I : Nat → Nat → Int32} {J : Nat → Nat → Int64} {p : Bool × Option Nat} {ro : List (Nat × Nat × (Nat → Int32))} {n : Nat} (hn : I 65 1 = nI n) (hn8 : n ≤ 8) (hM : MT n (I 70)) {x : Int32} {k : Nat} (hk : k ≤ n) : Px 1 0 0 CX12_led 19 [some (.ref (65)), some (.int (x)), some (.int ((sp_bits (fun l => decide (I 70 l ≠ -1)) k))), some (.int (nI k))] [] (gS, I, J, gR p, ro) (qI (sp_bits (fun l => decide (I 70 l ≠ -1)) n) (gS, I, J, gR p, ro)) := by
  refine px_iload_n (kk := 3) rfl rfl rfl ?_
  refine px_aload_n (kk := 0) rfl rfl rfl ?_
  refine px_getIe (v := nI n) rfl gS_65 rfl hn ?_
  refine px_icmp_ge rfl (fun c22 => ?_) (fun c22 => ?_)
  · refine px_iload_n (kk := 2) rfl rfl rfl ?_
    refine px_ireturn rfl (.inl rfl) ?_
    rw [n_le (by omega) (by omega)] at c22
    obtain rfl : k = n := by omega
    exact ⟨rfl, rfl⟩
  · rw [n_le (by omega) (by omega)] at c22
    refine px_aload_n (kk := 0) rfl rfl rfl ?_
    refine px_getR (r := 70) rfl gS_65 rfl (gR_65_8 _) ?_
    refine px_iload_n (kk := 3) rfl rfl rfl ?_
    refine px_iald (j := k) rfl gS_70 rfl (by omega) ?_
    refine px_if_lt rfl (fun c27 => ?_) (fun c27 => ?_)
    · refine px_iinc3 (v := nI (k + 1)) rfl (n_inc k) rfl (by decide) ?_
      refine px_goto rfl ?_
      rw [show (sp_bits (fun l => decide (I 70 l ≠ -1)) k) = (sp_bits (fun l => decide (I 70 l ≠ -1)) (k + 1)) from (if_neg (by simp only [decide_eq_true_eq, ne_eq, Decidable.not_not]; exact (MT_ge hM (by omega) hn8).mp (by first | exact c27 | (rw [i_lt]; rw [i_le] at c27; omega)))).symm]
      exact lX12_led hn hn8 hM (k := k + 1) (by omega)
    · refine px_iload_n (kk := 2) rfl rfl rfl ?_
      refine px_iconst (v := nI 1) rfl k_1 ?_
      refine px_iload_n (kk := 3) rfl rfl rfl ?_
      refine px_ishl rfl ?_
      refine px_ior rfl ?_
      refine px_ist2 rfl rfl (by decide) ?_
      refine px_iinc3 (v := nI (k + 1)) rfl (n_inc k) rfl (by decide) ?_
      refine px_goto rfl ?_
      rw [show (sp_bits (fun l => decide (I 70 l ≠ -1)) k) ||| (nI 1 <<< (nI k &&& 31)) = (sp_bits (fun l => decide (I 70 l ≠ -1)) (k + 1)) from (if_pos (by simp only [decide_eq_true_eq, ne_eq]; exact fun e => (by first | exact c27 | (intro z; rw [i_lt] at z; rw [i_le] at c27; omega) : ¬ I 70 k < 0) ((MT_ge hM (by omega) hn8).mpr e))).symm]
      exact lX12_led hn hn8 hM (k := k + 1) (by omega)
termination_by n - k
decreasing_by all_goals (have h := ‹¬ nI n ≤ nI k›; rw [n_le (by omega) (by omega)] at h; omega)
theorem vX12_led_4 {I : Nat → Nat → Int32} {J : Nat → Nat → Int64} {p : Bool × Option Nat} {ro : List (Nat × Nat × (Nat → Int32))} {n : Nat} (hn : I 65 1 = nI n) (hn8 : n ≤ 8) (hM : MT n (I 70)) : Pv 1 0 0 CX12_led [.ref (65), .int (nI 4)] (gS, I, J, gR p, ro) (qI (sp_bits (fun l => decide (I 70 l ≠ -1)) n) (gS, I, J, gR p, ro)) := by
  refine ⟨okCX12_led, Nat.le_of_ble_eq_true rfl, (show Px _ _ _ _ 0 [some (.ref (65)), some (.int (nI 4)), none, none] [] _ _ from ?_)⟩
  refine px_iload_n (kk := 1) rfl rfl rfl ?_
  refine px_iconst (v := nI 4) rfl k_4 ?_
  refine px_icmp_eq rfl (fun _ => ?_) (fun h => absurd h (by decide))
  refine px_iconst (v := nI 0) rfl k_0 ?_
  refine px_ist2 rfl rfl (by decide) ?_
  refine px_iconst (v := nI 0) rfl k_0 ?_
  refine px_ist3 rfl rfl (by decide) ?_
  exact lX12_led hn hn8 hM (k := 0) (by omega)
def rf_joinM (I : Nat → Nat → Int32) (a b : Nat) : Nat → Nat → Int32 := va_up (va_up (va_up I 70 (va_up (va_up (I 70) a (nI b)) b (nI a))) 71 (va_up (va_up (I 71) a (nI 0)) b (nI 0))) 91 (va_up (I 91) 1 (I 91 1 + nI 1))
def rf_partM (I : Nat → Nat → Int32) (a b : Nat) : Nat → Nat → Int32 := va_up (va_up (va_up I 70 (va_up (va_up (I 70) a (-1)) b (-1))) 71 (va_up (va_up (I 71) a (nI 0)) b (nI 0))) 91 (va_up (I 91) 2 (I 91 2 + nI 1))
theorem vX12_putIn {I : Nat → Nat → Int32} {J : Nat → Nat → Int64} {p : Bool × Option Nat} {ro : List (Nat × Nat × (Nat → Int32))} {n : Nat} (hn : I 65 1 = nI n) (hn8 : n ≤ 8) (hM : MT n (I 70)) {w : Int32} : Pv 3 0 0 CX12_putIn [.ref (65), .int (w)] (gS, I, J, gR p, ro) (fun r S' => (¬ (∃ a b, a < n ∧ b < n ∧ a ≠ b ∧ w = nI (10 * a + b)) ∧ r = some (.int (-1)) ∧ S' = (gS, I, J, gR p, ro)) ∨ ∃ a b, a < n ∧ b < n ∧ a ≠ b ∧ w = nI (10 * a + b) ∧ (((I 70 a = -1 ∧ I 70 b = -1 ∧ nI (sp_cn (I 70) n) < I 65 6) ∧ r = some (.int (nI (sp_cn (I 70) n + 1))) ∧ S' = (gS, (rf_joinM I a b), J, gR p, ro)) ∨ (¬ (I 70 a = -1 ∧ I 70 b = -1 ∧ nI (sp_cn (I 70) n) < I 65 6) ∧ r = some (.int (-5)) ∧ S' = (gS, I, J, gR p, ro)))) := by
  refine ⟨okCX12_putIn, Nat.le_of_ble_eq_true rfl, (show Px _ _ _ _ 0 [some (.ref (65)), some (.int (w)), none, none] [] _ _ from ?_)⟩
  refine px_aload_n (kk := 0) rfl rfl rfl ?_
  refine px_iload_n (kk := 1) rfl rfl rfl ?_
  refine px_callV0 CX12_areTwo [] [.int _] (vX12_areTwo hn hn8) rfl gS_65 (by decide) rfl rfl rfl (Nat.le_of_ble_eq_true rfl) (by decide) ?_
  rintro _ _ - (⟨⟨a, b, ha, hb, hne, rfl⟩, rfl, rfl⟩ | ⟨hp, rfl, rfl⟩)
  · have ea : (10 * a + b) / 10 = a := by omega
    have eb : (10 * a + b) % 10 = b := by omega
    refine px_if_ne rfl (fun _ => ?_) (fun h => absurd h (by decide))
    skip
    refine px_iload_n (kk := 1) rfl rfl rfl ?_
    refine px_bipush (v := nI 10) rfl b_10 ?_
    refine px_idivN rfl (by decide) (by decide) (by omega) ?_
    refine px_ist2 rfl rfl (by decide) ?_
    refine px_iload_n (kk := 1) rfl rfl rfl ?_
    refine px_bipush (v := nI 10) rfl b_10 ?_
    refine px_iremN rfl (by decide) (by decide) (by omega) ?_
    refine px_ist3 rfl rfl (by decide) ?_
    rw [ea, eb]
    refine px_aload_n (kk := 0) rfl rfl rfl ?_
    refine px_getR (r := 70) rfl gS_65 rfl (gR_65_8 _) ?_
    refine px_iload_n (kk := 2) rfl rfl rfl ?_
    refine px_iald (j := a) rfl gS_70 rfl (by omega) ?_
    refine px_if_ge rfl (fun c18 => ?_) (fun c18 => ?_)
    · refine px_bipush (v := -5) rfl b_m5 ?_
      refine px_ireturn rfl (.inl rfl) ?_
      exact .inr ⟨a, b, ha, hb, hne, rfl, .inr ⟨fun h => by rw [h.1] at c18; exact absurd c18 (by decide), rfl, rfl⟩⟩
    · refine px_aload_n (kk := 0) rfl rfl rfl ?_
      refine px_getR (r := 70) rfl gS_65 rfl (gR_65_8 _) ?_
      refine px_iload_n (kk := 3) rfl rfl rfl ?_
      refine px_iald (j := b) rfl gS_70 rfl (by omega) ?_
      refine px_if_ge rfl (fun c23 => ?_) (fun c23 => ?_)
      · refine px_bipush (v := -5) rfl b_m5 ?_
        refine px_ireturn rfl (.inl rfl) ?_
        exact .inr ⟨a, b, ha, hb, hne, rfl, .inr ⟨fun h => by rw [h.2.1] at c23; exact absurd c23 (by decide), rfl, rfl⟩⟩
      · refine px_aload_n (kk := 0) rfl rfl rfl ?_
        refine px_callV0 CX12_pairsIn [] [] (vX12_pairsIn hn hn8) rfl gS_65 (by decide) rfl rfl rfl (Nat.le_of_ble_eq_true rfl) (by decide) ?_
        rintro _ _ - ⟨rfl, rfl⟩
        refine px_aload_n (kk := 0) rfl rfl rfl ?_
        refine px_getI rfl gS_65 rfl ?_
        refine px_icmp_lt rfl (fun c28 => ?_) (fun c28 => ?_)
        · refine px_aload_n (kk := 0) rfl rfl rfl ?_
          refine px_getR (r := 70) rfl gS_65 rfl (gR_65_8 _) ?_
          refine px_iload_n (kk := 2) rfl rfl rfl ?_
          refine px_iload_n (kk := 3) rfl rfl rfl ?_
          refine px_iast (j := a) rfl gS_70 rfl (by omega) ?_
          refine px_aload_n (kk := 0) rfl rfl rfl ?_
          refine px_getR (r := 70) rfl gS_65 rfl (gR_65_8 _) ?_
          refine px_iload_n (kk := 3) rfl rfl rfl ?_
          refine px_iload_n (kk := 2) rfl rfl rfl ?_
          refine px_iast (j := b) rfl gS_70 rfl (by omega) ?_
          refine px_aload_n (kk := 0) rfl rfl rfl ?_
          refine px_getR (r := 71) rfl gS_65 rfl (gR_65_9 _) ?_
          refine px_iload_n (kk := 2) rfl rfl rfl ?_
          refine px_iconst (v := nI 0) rfl k_0 ?_
          refine px_iast (j := a) rfl gS_71 rfl (by omega) ?_
          refine px_aload_n (kk := 0) rfl rfl rfl ?_
          refine px_getR (r := 71) rfl gS_65 rfl (gR_65_9 _) ?_
          refine px_iload_n (kk := 3) rfl rfl rfl ?_
          refine px_iconst (v := nI 0) rfl k_0 ?_
          refine px_iast (j := b) rfl gS_71 rfl (by omega) ?_
          refine px_aload_n (kk := 0) rfl rfl rfl ?_
          refine px_getR (r := 91) rfl gS_65 rfl (gR_65_48 _) ?_
          refine px_iconst (v := nI 1) rfl k_1 ?_
          refine px_dup2 rfl rfl rfl ?_
          refine px_iald (j := 1) rfl gS_91 rfl (by decide) ?_
          refine px_iconst (v := nI 1) rfl k_1 ?_
          refine px_iadd rfl ?_
          refine px_iast (j := 1) rfl gS_91 rfl (by decide) ?_
          refine px_aload_n (kk := 0) rfl rfl rfl ?_
          refine px_callV0 CX12_pairsIn [] [] (vX12_pairsIn (n := n) (by simp only [p_up_n _ _ (show (65 : Nat) ≠ 70 by decide), p_up_n _ _ (show (65 : Nat) ≠ 71 by decide), p_up_n _ _ (show (65 : Nat) ≠ 91 by decide), p_up_n _ _ (show (70 : Nat) ≠ 71 by decide), p_up_n _ _ (show (70 : Nat) ≠ 91 by decide), p_up_n _ _ (show (71 : Nat) ≠ 70 by decide), p_up_n _ _ (show (71 : Nat) ≠ 91 by decide), p_up_n _ _ (show (91 : Nat) ≠ 70 by decide), p_up_n _ _ (show (91 : Nat) ≠ 71 by decide)]; exact hn) hn8) rfl gS_65 (by decide) rfl rfl rfl (Nat.le_of_ble_eq_true rfl) (by decide) ?_
          rintro _ _ - ⟨rfl, rfl⟩
          refine px_ireturn rfl (.inl rfl) ?_
          have h1 : I 70 a = -1 := (MT_ge hM ha hn8).mp (by rw [i_lt]; rw [i_le] at c18; omega)
          have h2 : I 70 b = -1 := (MT_ge hM hb hn8).mp (by rw [i_lt]; rw [i_le] at c23; omega)
          refine .inr ⟨a, b, ha, hb, hne, rfl, .inl ⟨⟨h1, h2, by first | exact c28 | (rw [i_lt]; rw [i_le] at c28; omega)⟩, ?_, ?_⟩⟩
          · simp only [p_up_n _ _ (show (65 : Nat) ≠ 70 by decide), p_up_n _ _ (show (65 : Nat) ≠ 71 by decide), p_up_n _ _ (show (65 : Nat) ≠ 91 by decide), p_up_n _ _ (show (70 : Nat) ≠ 71 by decide), p_up_n _ _ (show (70 : Nat) ≠ 91 by decide), p_up_n _ _ (show (71 : Nat) ≠ 70 by decide), p_up_n _ _ (show (71 : Nat) ≠ 91 by decide), p_up_n _ _ (show (91 : Nat) ≠ 70 by decide), p_up_n _ _ (show (91 : Nat) ≠ 71 by decide), p_up_s, up2]
            rw [sp_cn_tie hn8 ha hb hne h1 h2]
          · unfold rf_joinM
            simp only [p_up_n _ _ (show (65 : Nat) ≠ 70 by decide), p_up_n _ _ (show (65 : Nat) ≠ 71 by decide), p_up_n _ _ (show (65 : Nat) ≠ 91 by decide), p_up_n _ _ (show (70 : Nat) ≠ 71 by decide), p_up_n _ _ (show (70 : Nat) ≠ 91 by decide), p_up_n _ _ (show (71 : Nat) ≠ 70 by decide), p_up_n _ _ (show (71 : Nat) ≠ 91 by decide), p_up_n _ _ (show (91 : Nat) ≠ 70 by decide), p_up_n _ _ (show (91 : Nat) ≠ 71 by decide), p_up_s, up2]
        · refine px_bipush (v := -5) rfl b_m5 ?_
          refine px_ireturn rfl (.inl rfl) ?_
          exact .inr ⟨a, b, ha, hb, hne, rfl, .inr ⟨fun h => (by first | exact c28 | (intro z; rw [i_lt] at z; rw [i_le] at c28; omega) : ¬ nI (sp_cn (I 70) n) < I 65 6) h.2.2, rfl, rfl⟩⟩
  · refine px_if_ne rfl (fun h => absurd h (by decide)) (fun _ => ?_)
    refine px_iconst (v := -1) rfl k_m1 ?_
    refine px_ireturn rfl (.inl rfl) ?_
    exact .inl ⟨hp, rfl, rfl⟩
theorem vX12_pull {I : Nat → Nat → Int32} {J : Nat → Nat → Int64} {p : Bool × Option Nat} {ro : List (Nat × Nat × (Nat → Int32))} {n : Nat} (hn : I 65 1 = nI n) (hn8 : n ≤ 8) {w : Int32} : Pv 3 0 0 CX12_pull [.ref (65), .int (w)] (gS, I, J, gR p, ro) (fun r S' => (¬ (∃ a b, a < n ∧ b < n ∧ a ≠ b ∧ w = nI (10 * a + b)) ∧ r = some (.int (-1)) ∧ S' = (gS, I, J, gR p, ro)) ∨ ∃ a b, a < n ∧ b < n ∧ a ≠ b ∧ w = nI (10 * a + b) ∧ ((I 70 a = nI b ∧ r = some (.int (I 71 a)) ∧ S' = (gS, (rf_partM I a b), J, gR p, ro)) ∨ (I 70 a ≠ nI b ∧ r = some (.int (-5)) ∧ S' = (gS, I, J, gR p, ro)))) := by
  refine ⟨okCX12_pull, Nat.le_of_ble_eq_true rfl, (show Px _ _ _ _ 0 [some (.ref (65)), some (.int (w)), none, none, none] [] _ _ from ?_)⟩
  refine px_aload_n (kk := 0) rfl rfl rfl ?_
  refine px_iload_n (kk := 1) rfl rfl rfl ?_
  refine px_callV0 CX12_areTwo [] [.int _] (vX12_areTwo hn hn8) rfl gS_65 (by decide) rfl rfl rfl (Nat.le_of_ble_eq_true rfl) (by decide) ?_
  rintro _ _ - (⟨⟨a, b, ha, hb, hne, rfl⟩, rfl, rfl⟩ | ⟨hp, rfl, rfl⟩)
  · have ea : (10 * a + b) / 10 = a := by omega
    have eb : (10 * a + b) % 10 = b := by omega
    refine px_if_ne rfl (fun _ => ?_) (fun h => absurd h (by decide))
    skip
    refine px_iload_n (kk := 1) rfl rfl rfl ?_
    refine px_bipush (v := nI 10) rfl b_10 ?_
    refine px_idivN rfl (by decide) (by decide) (by omega) ?_
    refine px_ist2 rfl rfl (by decide) ?_
    refine px_iload_n (kk := 1) rfl rfl rfl ?_
    refine px_bipush (v := nI 10) rfl b_10 ?_
    refine px_iremN rfl (by decide) (by decide) (by omega) ?_
    refine px_ist3 rfl rfl (by decide) ?_
    rw [ea, eb]
    refine px_aload_n (kk := 0) rfl rfl rfl ?_
    refine px_getR (r := 70) rfl gS_65 rfl (gR_65_8 _) ?_
    refine px_iload_n (kk := 2) rfl rfl rfl ?_
    refine px_iald (j := a) rfl gS_70 rfl (by omega) ?_
    refine px_iload_n (kk := 3) rfl rfl rfl ?_
    refine px_icmp_eq rfl (fun c19 => ?_) (fun c19 => ?_)
    · refine px_aload_n (kk := 0) rfl rfl rfl ?_
      refine px_getR (r := 71) rfl gS_65 rfl (gR_65_9 _) ?_
      refine px_iload_n (kk := 2) rfl rfl rfl ?_
      refine px_iald (j := a) rfl gS_71 rfl (by omega) ?_
      refine px_ist4 rfl rfl (by decide) ?_
      refine px_aload_n (kk := 0) rfl rfl rfl ?_
      refine px_getR (r := 70) rfl gS_65 rfl (gR_65_8 _) ?_
      refine px_iload_n (kk := 2) rfl rfl rfl ?_
      refine px_iconst (v := -1) rfl k_m1 ?_
      refine px_iast (j := a) rfl gS_70 rfl (by omega) ?_
      refine px_aload_n (kk := 0) rfl rfl rfl ?_
      refine px_getR (r := 70) rfl gS_65 rfl (gR_65_8 _) ?_
      refine px_iload_n (kk := 3) rfl rfl rfl ?_
      refine px_iconst (v := -1) rfl k_m1 ?_
      refine px_iast (j := b) rfl gS_70 rfl (by omega) ?_
      refine px_aload_n (kk := 0) rfl rfl rfl ?_
      refine px_getR (r := 71) rfl gS_65 rfl (gR_65_9 _) ?_
      refine px_iload_n (kk := 2) rfl rfl rfl ?_
      refine px_iconst (v := nI 0) rfl k_0 ?_
      refine px_iast (j := a) rfl gS_71 rfl (by omega) ?_
      refine px_aload_n (kk := 0) rfl rfl rfl ?_
      refine px_getR (r := 71) rfl gS_65 rfl (gR_65_9 _) ?_
      refine px_iload_n (kk := 3) rfl rfl rfl ?_
      refine px_iconst (v := nI 0) rfl k_0 ?_
      refine px_iast (j := b) rfl gS_71 rfl (by omega) ?_
      refine px_aload_n (kk := 0) rfl rfl rfl ?_
      refine px_getR (r := 91) rfl gS_65 rfl (gR_65_48 _) ?_
      refine px_iconst (v := nI 2) rfl k_2 ?_
      refine px_dup2 rfl rfl rfl ?_
      refine px_iald (j := 2) rfl gS_91 rfl (by decide) ?_
      refine px_iconst (v := nI 1) rfl k_1 ?_
      refine px_iadd rfl ?_
      refine px_iast (j := 2) rfl gS_91 rfl (by decide) ?_
      refine px_iload rfl rfl ?_
      refine px_ireturn rfl (.inl rfl) ?_
      exact .inr ⟨a, b, ha, hb, hne, rfl, .inl ⟨by first | exact c19 | exact Classical.byContradiction c19, rfl, by unfold rf_partM; simp only [p_up_n _ _ (show (65 : Nat) ≠ 70 by decide), p_up_n _ _ (show (65 : Nat) ≠ 71 by decide), p_up_n _ _ (show (65 : Nat) ≠ 91 by decide), p_up_n _ _ (show (70 : Nat) ≠ 71 by decide), p_up_n _ _ (show (70 : Nat) ≠ 91 by decide), p_up_n _ _ (show (71 : Nat) ≠ 70 by decide), p_up_n _ _ (show (71 : Nat) ≠ 91 by decide), p_up_n _ _ (show (91 : Nat) ≠ 70 by decide), p_up_n _ _ (show (91 : Nat) ≠ 71 by decide), p_up_s, up2]⟩⟩
    · refine px_bipush (v := -5) rfl b_m5 ?_
      refine px_ireturn rfl (.inl rfl) ?_
      exact .inr ⟨a, b, ha, hb, hne, rfl, .inr ⟨c19, rfl, rfl⟩⟩
  · refine px_if_ne rfl (fun h => absurd h (by decide)) (fun _ => ?_)
    refine px_iconst (v := -1) rfl k_m1 ?_
    refine px_ireturn rfl (.inl rfl) ?_
    exact .inl ⟨hp, rfl, rfl⟩
theorem lX12_hr1 {I : Nat → Nat → Int32} {J : Nat → Nat → Int64} {p : Bool × Option Nat} {ro : List (Nat × Nat × (Nat → Int32))} {n : Nat} (hn : I 65 1 = nI n) (hn8 : n ≤ 8) {k : Nat} (hk : k ≤ n) {Q : Option Value → pm_M → Prop} (kont : Px 6 0 0 CX12_hour 26 [some (.ref 65), some (.int (nI n))] [] (gS, (va_up (va_up I 85 (fun j => if j < n then I 70 j else I 85 j)) 86 (fun j => if j < n then I 71 j else I 86 j)), J, gR p, ro) Q) : Px 6 0 0 CX12_hour 4 [some (.ref (65)), some (.int (nI k))] [] (gS, (va_up (va_up I 85 (fun j => if j < k then I 70 j else I 85 j)) 86 (fun j => if j < k then I 71 j else I 86 j)), J, gR p, ro) (Q) := by
  refine px_iload_n (kk := 1) rfl rfl rfl ?_
  refine px_aload_n (kk := 0) rfl rfl rfl ?_
  refine px_getIe (v := nI n) rfl gS_65 rfl ((congrFun (p_up_n _ _ (by decide)) 1).trans ((congrFun (p_up_n _ _ (by decide)) 1).trans hn)) ?_
  refine px_icmp_ge rfl (fun c7 => ?_) (fun c7 => ?_)
  · rw [n_le (by omega) (by omega)] at c7
    obtain rfl : k = n := by omega
    exact kont
  · rw [n_le (by omega) (by omega)] at c7
    refine px_aload_n (kk := 0) rfl rfl rfl ?_
    refine px_getR (r := 85) rfl gS_65 rfl (gR_65_31 _) ?_
    refine px_iload_n (kk := 1) rfl rfl rfl ?_
    refine px_aload_n (kk := 0) rfl rfl rfl ?_
    refine px_getR (r := 70) rfl gS_65 rfl (gR_65_8 _) ?_
    refine px_iload_n (kk := 1) rfl rfl rfl ?_
    refine px_iald (j := k) rfl gS_70 rfl (by omega) ?_
    refine px_iast (j := k) rfl gS_85 rfl (by omega) ?_
    refine px_aload_n (kk := 0) rfl rfl rfl ?_
    refine px_getR (r := 86) rfl gS_65 rfl (gR_65_32 _) ?_
    refine px_iload_n (kk := 1) rfl rfl rfl ?_
    refine px_aload_n (kk := 0) rfl rfl rfl ?_
    refine px_getR (r := 71) rfl gS_65 rfl (gR_65_9 _) ?_
    refine px_iload_n (kk := 1) rfl rfl rfl ?_
    refine px_iald (j := k) rfl gS_71 rfl (by omega) ?_
    refine px_iast (j := k) rfl gS_86 rfl (by omega) ?_
    refine px_iinc1 (v := nI (k + 1)) rfl (n_inc k) rfl (by decide) ?_
    refine px_goto rfl ?_
    refine px_mem ?_ (lX12_hr1 hn hn8 (k := k + 1) (by omega) kont)
    simp only [p_up_n _ _ (show (85 : Nat) ≠ 86 by decide), p_up_n _ _ (show (86 : Nat) ≠ 85 by decide), p_up_n _ _ (show (70 : Nat) ≠ 86 by decide), p_up_n _ _ (show (70 : Nat) ≠ 85 by decide), p_up_n _ _ (show (71 : Nat) ≠ 86 by decide), p_up_n _ _ (show (71 : Nat) ≠ 85 by decide), p_up_s, up2]
    rw [fillp k (f := I 70) rfl, fillp k (f := I 71) rfl, up_c _ (show (86 : Nat) ≠ 85 by decide), up2, up2]
termination_by n - k
decreasing_by all_goals (have h := ‹¬ nI n ≤ nI k›; rw [n_le (by omega) (by omega)] at h; omega)
def HRk (I0 : Nat → Nat → Int32) (k : Nat) (I1 : Nat → Nat → Int32) : Prop := Fr [66, 71, 91] I0 I1 ∧ I1 66 = (fun j => if j < k then I0 84 j else I0 66 j) ∧ I1 71 = (fun j => if j < k ∧ ¬ I0 70 j < 0 then I0 71 j + nI 1 else I0 71 j) ∧ I1 91 = va_up (I0 91) 3 (I0 91 3 + sp_grow (I0 84) (I0 66) k)
theorem sub_gt {x y : Int32} (hx : 0 ≤ x.toInt ∧ x.toInt ≤ 99) (hy : 0 ≤ y.toInt ∧ y.toInt ≤ 99) : nI 0 < x - y ↔ y < x := by
  rw [i_lt, i_lt, nI_toInt (by decide), Int32.toInt_sub, Int.bmod_eq_of_le (by omega) (by omega)]
  omega
theorem up_up1 (f : Nat → Int32) (a : Nat) (x y : Int32) : va_up (va_up f a x) a y = va_up f a y := up_up f a x y
theorem HRk_a {I0 : Nat → Nat → Int32} {k : Nat} {I1 : Nat → Nat → Int32} (h : HRk I0 k I1) (hx : 0 ≤ (I0 84 k).toInt ∧ (I0 84 k).toInt ≤ 99) (hy : 0 ≤ (I0 66 k).toInt ∧ (I0 66 k).toInt ≤ 99) {g : Nat → Int32} {M : Nat → Nat → Int32} (hM : M = va_up (va_up I1 91 g) 66 (va_up (I1 66) k (I0 84 k))) (hg : (I0 66 k < I0 84 k ∧ g = va_up (I1 91) 3 (I1 91 3 + (I0 84 k - I0 66 k))) ∨ (¬ I0 66 k < I0 84 k ∧ g = I1 91)) {f : Nat → Int32} (hf : (I0 70 k < 0 ∧ f = I1 71) ∨ (¬ I0 70 k < 0 ∧ f = va_up (I1 71) k (I1 71 k + nI 1))) : HRk I0 (k + 1) (va_up M 71 f) := by
  obtain ⟨h1, h2, h3, h4⟩ := h
  subst hM
  refine ⟨Fr_up (Fr_up (Fr_up h1 (by decide) _) (by decide) _) (by decide) _, ?_, ?_, ?_⟩
  · rw [p_up_n _ _ (by decide), p_up_s, h2]
    exact fillp k rfl
  · rw [p_up_s]
    funext j
    rcases hf with ⟨c, e⟩ | ⟨c, e⟩
    · rw [e, h3]
      by_cases q : j < k ∧ ¬ I0 70 j < 0
      · simp only [if_pos q, if_pos (show j < k + 1 ∧ ¬ I0 70 j < 0 from ⟨by omega, q.2⟩)]
      · simp only [if_neg q]
        rw [if_neg (fun z => (by
          by_cases ej : j = k
          · subst ej; exact z.2 c
          · exact q ⟨by omega, z.2⟩))]
    · rw [e]
      by_cases ej : j = k
      · subst ej
        rw [p_up_s, if_pos (show j < j + 1 ∧ ¬ I0 70 j < 0 from ⟨by omega, c⟩), h3]
        simp only [if_neg (show ¬ (j < j ∧ ¬ I0 70 j < 0) from fun z => absurd z.1 (Nat.lt_irrefl _))]
      · rw [p_up_n _ _ ej, h3]
        by_cases q : j < k ∧ ¬ I0 70 j < 0
        · simp only [if_pos q, if_pos (show j < k + 1 ∧ ¬ I0 70 j < 0 from ⟨by omega, q.2⟩)]
        · simp only [if_neg q]
          rw [if_neg (fun z => q ⟨by omega, z.2⟩)]
  · rw [p_up_n _ _ (by decide), p_up_n _ _ (by decide), p_up_s]
    simp only [sp_grow]
    rcases hg with ⟨c, e⟩ | ⟨c, e⟩
    · rw [e, h4, p_up_s, up_up1, if_pos ((sub_gt hx hy).mpr c), Int32.add_assoc]
    · rw [e, h4, if_neg (fun z => c ((sub_gt hx hy).mp z)), show sp_grow (I0 84) (I0 66) k + nI 0 = sp_grow (I0 84) (I0 66) k from by rw [← n_0, Int32.add_zero]]
theorem HRk_g {I0 : Nat → Nat → Int32} {k : Nat} {I1 : Nat → Nat → Int32} (h : HRk I0 k I1) : I1 66 k = I0 66 k ∧ I1 84 = I0 84 ∧ I1 70 = I0 70 ∧ I1 65 = I0 65 := ⟨by rw [h.2.1]; exact if_neg (Nat.lt_irrefl _), h.1 84 (by decide), h.1 70 (by decide), h.1 65 (by decide)⟩
theorem up_selfn {I : Nat → Nat → Int32} {a : Nat} {f : Nat → Int32} (h : f = I a) : va_up I a f = I := by rw [h]; exact up_self I a
theorem lX12_hr2 {I : Nat → Nat → Int32} {J : Nat → Nat → Int64} {p : Bool × Option Nat} {ro : List (Nat × Nat × (Nat → Int32))} {n : Nat} {I0 : Nat → Nat → Int32} (hn : I0 65 1 = nI n) (hn8 : n ≤ 8) {k : Nat} (hk : k ≤ n) (hw : ∀ l, l < n → (0 ≤ (I0 84 l).toInt ∧ (I0 84 l).toInt ≤ 99) ∧ 0 ≤ (I0 66 l).toInt ∧ (I0 66 l).toInt ≤ 99) (hn1 : True) {I1 : Nat → Nat → Int32} (hR : HRk I0 k I1) {Q : Option Value → pm_M → Prop} (kont : ∀ I2, HRk I0 n I2 → Px 6 0 0 CX12_hour 82 [some (.ref 65), some (.int (nI n))] [] (gS, I2, J, gR p, ro) Q) : Px 6 0 0 CX12_hour 30 [some (.ref (65)), some (.int (nI k))] [] (gS, I1, J, gR p, ro) (Q) := by
  refine px_iload_n (kk := 1) rfl rfl rfl ?_
  refine px_aload_n (kk := 0) rfl rfl rfl ?_
  refine px_getIe (v := nI n) rfl gS_65 rfl ((congrFun (HRk_g hR).2.2.2 1).trans hn) ?_
  refine px_icmp_ge rfl (fun c33 => ?_) (fun c33 => ?_)
  · rw [n_le (by omega) (by omega)] at c33
    obtain rfl : k = n := by omega
    exact kont I1 hR
  · rw [n_le (by omega) (by omega)] at c33
    have hq := HRk_g hR
    refine px_aload_n (kk := 0) rfl rfl rfl ?_
    refine px_getR (r := 84) rfl gS_65 rfl (gR_65_30 _) ?_
    refine px_iload_n (kk := 1) rfl rfl rfl ?_
    refine px_ialde (j := k) (v := I0 84 k) rfl gS_84 rfl (by omega) (congrFun hq.2.1 k) ?_
    refine px_aload_n (kk := 0) rfl rfl rfl ?_
    refine px_getR (r := 66) rfl gS_65 rfl (gR_65_2 _) ?_
    refine px_iload_n (kk := 1) rfl rfl rfl ?_
    refine px_ialde (j := k) (v := I0 66 k) rfl gS_66 rfl (by omega) hq.1 ?_
    refine px_icmp_le rfl (fun c42 => ?_) (fun c42 => ?_)
    · refine px_aload_n (kk := 0) rfl rfl rfl ?_
      refine px_getR (r := 66) rfl gS_65 rfl (gR_65_2 _) ?_
      refine px_iload_n (kk := 1) rfl rfl rfl ?_
      refine px_aload_n (kk := 0) rfl rfl rfl ?_
      refine px_getR (r := 84) rfl gS_65 rfl (gR_65_30 _) ?_
      refine px_iload_n (kk := 1) rfl rfl rfl ?_
      refine px_ialde (j := k) (v := I0 84 k) rfl gS_84 rfl (by omega) (by (try simp only [p_up_n _ _ (show (65 : Nat) ≠ 66 by decide), p_up_n _ _ (show (65 : Nat) ≠ 71 by decide), p_up_n _ _ (show (65 : Nat) ≠ 91 by decide), p_up_n _ _ (show (66 : Nat) ≠ 71 by decide), p_up_n _ _ (show (66 : Nat) ≠ 91 by decide), p_up_n _ _ (show (70 : Nat) ≠ 66 by decide), p_up_n _ _ (show (70 : Nat) ≠ 71 by decide), p_up_n _ _ (show (70 : Nat) ≠ 91 by decide), p_up_n _ _ (show (71 : Nat) ≠ 66 by decide), p_up_n _ _ (show (71 : Nat) ≠ 91 by decide), p_up_n _ _ (show (84 : Nat) ≠ 66 by decide), p_up_n _ _ (show (84 : Nat) ≠ 71 by decide), p_up_n _ _ (show (84 : Nat) ≠ 91 by decide), p_up_n _ _ (show (91 : Nat) ≠ 66 by decide), p_up_n _ _ (show (91 : Nat) ≠ 71 by decide)]); exact congrFun hq.2.1 k) ?_
      refine px_iast (j := k) rfl gS_66 rfl (by omega) ?_
      refine px_aload_n (kk := 0) rfl rfl rfl ?_
      refine px_getR (r := 70) rfl gS_65 rfl (gR_65_8 _) ?_
      refine px_iload_n (kk := 1) rfl rfl rfl ?_
      refine px_ialde (j := k) (v := I0 70 k) rfl gS_70 rfl (by omega) (by (try simp only [p_up_n _ _ (show (65 : Nat) ≠ 66 by decide), p_up_n _ _ (show (65 : Nat) ≠ 71 by decide), p_up_n _ _ (show (65 : Nat) ≠ 91 by decide), p_up_n _ _ (show (66 : Nat) ≠ 71 by decide), p_up_n _ _ (show (66 : Nat) ≠ 91 by decide), p_up_n _ _ (show (70 : Nat) ≠ 66 by decide), p_up_n _ _ (show (70 : Nat) ≠ 71 by decide), p_up_n _ _ (show (70 : Nat) ≠ 91 by decide), p_up_n _ _ (show (71 : Nat) ≠ 66 by decide), p_up_n _ _ (show (71 : Nat) ≠ 91 by decide), p_up_n _ _ (show (84 : Nat) ≠ 66 by decide), p_up_n _ _ (show (84 : Nat) ≠ 71 by decide), p_up_n _ _ (show (84 : Nat) ≠ 91 by decide), p_up_n _ _ (show (91 : Nat) ≠ 66 by decide), p_up_n _ _ (show (91 : Nat) ≠ 71 by decide)]); exact congrFun hq.2.2.1 k) ?_
      refine px_if_lt rfl (fun c71 => ?_) (fun c71 => ?_)
      · refine px_iinc1 (v := nI (k + 1)) rfl (n_inc k) rfl (by decide) ?_
        refine px_goto rfl ?_
        refine px_mem ?_ (lX12_hr2 (I := I) hn hn8 (k := k + 1) (by omega) hw hn1 (I1 := va_up (va_up (va_up I1 91 (I1 91)) 66 (va_up (I1 66) k (I0 84 k))) 71 (I1 71)) (HRk_a hR (hw k (by omega)).1 (hw k (by omega)).2 rfl (.inr ⟨fun z => by rw [i_lt] at z; rw [i_le] at c42; omega, rfl⟩) (.inl ⟨by first | exact c71 | (rw [i_lt]; rw [i_le] at c71; omega), rfl⟩)) kont)
        rw [up_self I1 91, up_selfn (a := 71) (f := I1 71) (by simp only [p_up_n _ _ (show (65 : Nat) ≠ 66 by decide), p_up_n _ _ (show (65 : Nat) ≠ 71 by decide), p_up_n _ _ (show (65 : Nat) ≠ 91 by decide), p_up_n _ _ (show (66 : Nat) ≠ 71 by decide), p_up_n _ _ (show (66 : Nat) ≠ 91 by decide), p_up_n _ _ (show (70 : Nat) ≠ 66 by decide), p_up_n _ _ (show (70 : Nat) ≠ 71 by decide), p_up_n _ _ (show (70 : Nat) ≠ 91 by decide), p_up_n _ _ (show (71 : Nat) ≠ 66 by decide), p_up_n _ _ (show (71 : Nat) ≠ 91 by decide), p_up_n _ _ (show (84 : Nat) ≠ 66 by decide), p_up_n _ _ (show (84 : Nat) ≠ 71 by decide), p_up_n _ _ (show (84 : Nat) ≠ 91 by decide), p_up_n _ _ (show (91 : Nat) ≠ 66 by decide), p_up_n _ _ (show (91 : Nat) ≠ 71 by decide)])]
      · refine px_aload_n (kk := 0) rfl rfl rfl ?_
        refine px_getR (r := 71) rfl gS_65 rfl (gR_65_9 _) ?_
        refine px_iload_n (kk := 1) rfl rfl rfl ?_
        refine px_dup2 rfl rfl rfl ?_
        refine px_ialde (j := k) (v := I1 71 k) rfl gS_71 rfl (by omega) (by (try simp only [p_up_n _ _ (show (65 : Nat) ≠ 66 by decide), p_up_n _ _ (show (65 : Nat) ≠ 71 by decide), p_up_n _ _ (show (65 : Nat) ≠ 91 by decide), p_up_n _ _ (show (66 : Nat) ≠ 71 by decide), p_up_n _ _ (show (66 : Nat) ≠ 91 by decide), p_up_n _ _ (show (70 : Nat) ≠ 66 by decide), p_up_n _ _ (show (70 : Nat) ≠ 71 by decide), p_up_n _ _ (show (70 : Nat) ≠ 91 by decide), p_up_n _ _ (show (71 : Nat) ≠ 66 by decide), p_up_n _ _ (show (71 : Nat) ≠ 91 by decide), p_up_n _ _ (show (84 : Nat) ≠ 66 by decide), p_up_n _ _ (show (84 : Nat) ≠ 71 by decide), p_up_n _ _ (show (84 : Nat) ≠ 91 by decide), p_up_n _ _ (show (91 : Nat) ≠ 66 by decide), p_up_n _ _ (show (91 : Nat) ≠ 71 by decide)])) ?_
        refine px_iconst (v := nI 1) rfl k_1 ?_
        refine px_iadd rfl ?_
        refine px_iast (j := k) rfl gS_71 rfl (by omega) ?_
        refine px_iinc1 (v := nI (k + 1)) rfl (n_inc k) rfl (by decide) ?_
        refine px_goto rfl ?_
        refine px_mem ?_ (lX12_hr2 (I := I) hn hn8 (k := k + 1) (by omega) hw hn1 (I1 := va_up (va_up (va_up I1 91 (I1 91)) 66 (va_up (I1 66) k (I0 84 k))) 71 (va_up (I1 71) k (I1 71 k + nI 1))) (HRk_a hR (hw k (by omega)).1 (hw k (by omega)).2 rfl (.inr ⟨fun z => by rw [i_lt] at z; rw [i_le] at c42; omega, rfl⟩) (.inr ⟨by first | exact c71 | (intro z; rw [i_lt] at z; rw [i_le] at c71; omega), rfl⟩)) kont)
        rw [up_self I1 91]
        simp only [p_up_n _ _ (show (65 : Nat) ≠ 66 by decide), p_up_n _ _ (show (65 : Nat) ≠ 71 by decide), p_up_n _ _ (show (65 : Nat) ≠ 91 by decide), p_up_n _ _ (show (66 : Nat) ≠ 71 by decide), p_up_n _ _ (show (66 : Nat) ≠ 91 by decide), p_up_n _ _ (show (70 : Nat) ≠ 66 by decide), p_up_n _ _ (show (70 : Nat) ≠ 71 by decide), p_up_n _ _ (show (70 : Nat) ≠ 91 by decide), p_up_n _ _ (show (71 : Nat) ≠ 66 by decide), p_up_n _ _ (show (71 : Nat) ≠ 91 by decide), p_up_n _ _ (show (84 : Nat) ≠ 66 by decide), p_up_n _ _ (show (84 : Nat) ≠ 71 by decide), p_up_n _ _ (show (84 : Nat) ≠ 91 by decide), p_up_n _ _ (show (91 : Nat) ≠ 66 by decide), p_up_n _ _ (show (91 : Nat) ≠ 71 by decide), p_up_s]
    · refine px_aload_n (kk := 0) rfl rfl rfl ?_
      refine px_getR (r := 91) rfl gS_65 rfl (gR_65_48 _) ?_
      refine px_iconst (v := nI 3) rfl k_3 ?_
      refine px_dup2 rfl rfl rfl ?_
      refine px_iald (j := 3) rfl gS_91 rfl (by decide) ?_
      refine px_aload_n (kk := 0) rfl rfl rfl ?_
      refine px_getR (r := 84) rfl gS_65 rfl (gR_65_30 _) ?_
      refine px_iload_n (kk := 1) rfl rfl rfl ?_
      refine px_ialde (j := k) (v := I0 84 k) rfl gS_84 rfl (by omega) (by (try simp only [p_up_n _ _ (show (65 : Nat) ≠ 66 by decide), p_up_n _ _ (show (65 : Nat) ≠ 71 by decide), p_up_n _ _ (show (65 : Nat) ≠ 91 by decide), p_up_n _ _ (show (66 : Nat) ≠ 71 by decide), p_up_n _ _ (show (66 : Nat) ≠ 91 by decide), p_up_n _ _ (show (70 : Nat) ≠ 66 by decide), p_up_n _ _ (show (70 : Nat) ≠ 71 by decide), p_up_n _ _ (show (70 : Nat) ≠ 91 by decide), p_up_n _ _ (show (71 : Nat) ≠ 66 by decide), p_up_n _ _ (show (71 : Nat) ≠ 91 by decide), p_up_n _ _ (show (84 : Nat) ≠ 66 by decide), p_up_n _ _ (show (84 : Nat) ≠ 71 by decide), p_up_n _ _ (show (84 : Nat) ≠ 91 by decide), p_up_n _ _ (show (91 : Nat) ≠ 66 by decide), p_up_n _ _ (show (91 : Nat) ≠ 71 by decide)]); exact congrFun hq.2.1 k) ?_
      refine px_aload_n (kk := 0) rfl rfl rfl ?_
      refine px_getR (r := 66) rfl gS_65 rfl (gR_65_2 _) ?_
      refine px_iload_n (kk := 1) rfl rfl rfl ?_
      refine px_ialde (j := k) (v := I0 66 k) rfl gS_66 rfl (by omega) (by (try simp only [p_up_n _ _ (show (65 : Nat) ≠ 66 by decide), p_up_n _ _ (show (65 : Nat) ≠ 71 by decide), p_up_n _ _ (show (65 : Nat) ≠ 91 by decide), p_up_n _ _ (show (66 : Nat) ≠ 71 by decide), p_up_n _ _ (show (66 : Nat) ≠ 91 by decide), p_up_n _ _ (show (70 : Nat) ≠ 66 by decide), p_up_n _ _ (show (70 : Nat) ≠ 71 by decide), p_up_n _ _ (show (70 : Nat) ≠ 91 by decide), p_up_n _ _ (show (71 : Nat) ≠ 66 by decide), p_up_n _ _ (show (71 : Nat) ≠ 91 by decide), p_up_n _ _ (show (84 : Nat) ≠ 66 by decide), p_up_n _ _ (show (84 : Nat) ≠ 71 by decide), p_up_n _ _ (show (84 : Nat) ≠ 91 by decide), p_up_n _ _ (show (91 : Nat) ≠ 66 by decide), p_up_n _ _ (show (91 : Nat) ≠ 71 by decide)]); exact hq.1) ?_
      refine px_isub rfl ?_
      refine px_iadd rfl ?_
      refine px_iast (j := 3) rfl gS_91 rfl (by decide) ?_
      refine px_aload_n (kk := 0) rfl rfl rfl ?_
      refine px_getR (r := 66) rfl gS_65 rfl (gR_65_2 _) ?_
      refine px_iload_n (kk := 1) rfl rfl rfl ?_
      refine px_aload_n (kk := 0) rfl rfl rfl ?_
      refine px_getR (r := 84) rfl gS_65 rfl (gR_65_30 _) ?_
      refine px_iload_n (kk := 1) rfl rfl rfl ?_
      refine px_ialde (j := k) (v := I0 84 k) rfl gS_84 rfl (by omega) (by (try simp only [p_up_n _ _ (show (65 : Nat) ≠ 66 by decide), p_up_n _ _ (show (65 : Nat) ≠ 71 by decide), p_up_n _ _ (show (65 : Nat) ≠ 91 by decide), p_up_n _ _ (show (66 : Nat) ≠ 71 by decide), p_up_n _ _ (show (66 : Nat) ≠ 91 by decide), p_up_n _ _ (show (70 : Nat) ≠ 66 by decide), p_up_n _ _ (show (70 : Nat) ≠ 71 by decide), p_up_n _ _ (show (70 : Nat) ≠ 91 by decide), p_up_n _ _ (show (71 : Nat) ≠ 66 by decide), p_up_n _ _ (show (71 : Nat) ≠ 91 by decide), p_up_n _ _ (show (84 : Nat) ≠ 66 by decide), p_up_n _ _ (show (84 : Nat) ≠ 71 by decide), p_up_n _ _ (show (84 : Nat) ≠ 91 by decide), p_up_n _ _ (show (91 : Nat) ≠ 66 by decide), p_up_n _ _ (show (91 : Nat) ≠ 71 by decide)]); exact congrFun hq.2.1 k) ?_
      refine px_iast (j := k) rfl gS_66 rfl (by omega) ?_
      refine px_aload_n (kk := 0) rfl rfl rfl ?_
      refine px_getR (r := 70) rfl gS_65 rfl (gR_65_8 _) ?_
      refine px_iload_n (kk := 1) rfl rfl rfl ?_
      refine px_ialde (j := k) (v := I0 70 k) rfl gS_70 rfl (by omega) (by (try simp only [p_up_n _ _ (show (65 : Nat) ≠ 66 by decide), p_up_n _ _ (show (65 : Nat) ≠ 71 by decide), p_up_n _ _ (show (65 : Nat) ≠ 91 by decide), p_up_n _ _ (show (66 : Nat) ≠ 71 by decide), p_up_n _ _ (show (66 : Nat) ≠ 91 by decide), p_up_n _ _ (show (70 : Nat) ≠ 66 by decide), p_up_n _ _ (show (70 : Nat) ≠ 71 by decide), p_up_n _ _ (show (70 : Nat) ≠ 91 by decide), p_up_n _ _ (show (71 : Nat) ≠ 66 by decide), p_up_n _ _ (show (71 : Nat) ≠ 91 by decide), p_up_n _ _ (show (84 : Nat) ≠ 66 by decide), p_up_n _ _ (show (84 : Nat) ≠ 71 by decide), p_up_n _ _ (show (84 : Nat) ≠ 91 by decide), p_up_n _ _ (show (91 : Nat) ≠ 66 by decide), p_up_n _ _ (show (91 : Nat) ≠ 71 by decide)]); exact congrFun hq.2.2.1 k) ?_
      refine px_if_lt rfl (fun c71 => ?_) (fun c71 => ?_)
      · refine px_iinc1 (v := nI (k + 1)) rfl (n_inc k) rfl (by decide) ?_
        refine px_goto rfl ?_
        refine px_mem ?_ (lX12_hr2 (I := I) hn hn8 (k := k + 1) (by omega) hw hn1 (I1 := va_up (va_up (va_up I1 91 (va_up (I1 91) 3 (I1 91 3 + (I0 84 k - I0 66 k)))) 66 (va_up (I1 66) k (I0 84 k))) 71 (I1 71)) (HRk_a hR (hw k (by omega)).1 (hw k (by omega)).2 rfl (.inl ⟨by rw [i_lt]; rw [i_le] at c42; omega, rfl⟩) (.inl ⟨by first | exact c71 | (rw [i_lt]; rw [i_le] at c71; omega), rfl⟩)) kont)
        rw [up_selfn (a := 71) (f := I1 71) (by simp only [p_up_n _ _ (show (65 : Nat) ≠ 66 by decide), p_up_n _ _ (show (65 : Nat) ≠ 71 by decide), p_up_n _ _ (show (65 : Nat) ≠ 91 by decide), p_up_n _ _ (show (66 : Nat) ≠ 71 by decide), p_up_n _ _ (show (66 : Nat) ≠ 91 by decide), p_up_n _ _ (show (70 : Nat) ≠ 66 by decide), p_up_n _ _ (show (70 : Nat) ≠ 71 by decide), p_up_n _ _ (show (70 : Nat) ≠ 91 by decide), p_up_n _ _ (show (71 : Nat) ≠ 66 by decide), p_up_n _ _ (show (71 : Nat) ≠ 91 by decide), p_up_n _ _ (show (84 : Nat) ≠ 66 by decide), p_up_n _ _ (show (84 : Nat) ≠ 71 by decide), p_up_n _ _ (show (84 : Nat) ≠ 91 by decide), p_up_n _ _ (show (91 : Nat) ≠ 66 by decide), p_up_n _ _ (show (91 : Nat) ≠ 71 by decide)])]
        simp only [p_up_n _ _ (show (65 : Nat) ≠ 66 by decide), p_up_n _ _ (show (65 : Nat) ≠ 71 by decide), p_up_n _ _ (show (65 : Nat) ≠ 91 by decide), p_up_n _ _ (show (66 : Nat) ≠ 71 by decide), p_up_n _ _ (show (66 : Nat) ≠ 91 by decide), p_up_n _ _ (show (70 : Nat) ≠ 66 by decide), p_up_n _ _ (show (70 : Nat) ≠ 71 by decide), p_up_n _ _ (show (70 : Nat) ≠ 91 by decide), p_up_n _ _ (show (71 : Nat) ≠ 66 by decide), p_up_n _ _ (show (71 : Nat) ≠ 91 by decide), p_up_n _ _ (show (84 : Nat) ≠ 66 by decide), p_up_n _ _ (show (84 : Nat) ≠ 71 by decide), p_up_n _ _ (show (84 : Nat) ≠ 91 by decide), p_up_n _ _ (show (91 : Nat) ≠ 66 by decide), p_up_n _ _ (show (91 : Nat) ≠ 71 by decide), p_up_s]
      · refine px_aload_n (kk := 0) rfl rfl rfl ?_
        refine px_getR (r := 71) rfl gS_65 rfl (gR_65_9 _) ?_
        refine px_iload_n (kk := 1) rfl rfl rfl ?_
        refine px_dup2 rfl rfl rfl ?_
        refine px_ialde (j := k) (v := I1 71 k) rfl gS_71 rfl (by omega) (by (try simp only [p_up_n _ _ (show (65 : Nat) ≠ 66 by decide), p_up_n _ _ (show (65 : Nat) ≠ 71 by decide), p_up_n _ _ (show (65 : Nat) ≠ 91 by decide), p_up_n _ _ (show (66 : Nat) ≠ 71 by decide), p_up_n _ _ (show (66 : Nat) ≠ 91 by decide), p_up_n _ _ (show (70 : Nat) ≠ 66 by decide), p_up_n _ _ (show (70 : Nat) ≠ 71 by decide), p_up_n _ _ (show (70 : Nat) ≠ 91 by decide), p_up_n _ _ (show (71 : Nat) ≠ 66 by decide), p_up_n _ _ (show (71 : Nat) ≠ 91 by decide), p_up_n _ _ (show (84 : Nat) ≠ 66 by decide), p_up_n _ _ (show (84 : Nat) ≠ 71 by decide), p_up_n _ _ (show (84 : Nat) ≠ 91 by decide), p_up_n _ _ (show (91 : Nat) ≠ 66 by decide), p_up_n _ _ (show (91 : Nat) ≠ 71 by decide)])) ?_
        refine px_iconst (v := nI 1) rfl k_1 ?_
        refine px_iadd rfl ?_
        refine px_iast (j := k) rfl gS_71 rfl (by omega) ?_
        refine px_iinc1 (v := nI (k + 1)) rfl (n_inc k) rfl (by decide) ?_
        refine px_goto rfl ?_
        refine px_mem ?_ (lX12_hr2 (I := I) hn hn8 (k := k + 1) (by omega) hw hn1 (I1 := va_up (va_up (va_up I1 91 (va_up (I1 91) 3 (I1 91 3 + (I0 84 k - I0 66 k)))) 66 (va_up (I1 66) k (I0 84 k))) 71 (va_up (I1 71) k (I1 71 k + nI 1))) (HRk_a hR (hw k (by omega)).1 (hw k (by omega)).2 rfl (.inl ⟨by rw [i_lt]; rw [i_le] at c42; omega, rfl⟩) (.inr ⟨by first | exact c71 | (intro z; rw [i_lt] at z; rw [i_le] at c71; omega), rfl⟩)) kont)
        simp only [p_up_n _ _ (show (65 : Nat) ≠ 66 by decide), p_up_n _ _ (show (65 : Nat) ≠ 71 by decide), p_up_n _ _ (show (65 : Nat) ≠ 91 by decide), p_up_n _ _ (show (66 : Nat) ≠ 71 by decide), p_up_n _ _ (show (66 : Nat) ≠ 91 by decide), p_up_n _ _ (show (70 : Nat) ≠ 66 by decide), p_up_n _ _ (show (70 : Nat) ≠ 71 by decide), p_up_n _ _ (show (70 : Nat) ≠ 91 by decide), p_up_n _ _ (show (71 : Nat) ≠ 66 by decide), p_up_n _ _ (show (71 : Nat) ≠ 91 by decide), p_up_n _ _ (show (84 : Nat) ≠ 66 by decide), p_up_n _ _ (show (84 : Nat) ≠ 71 by decide), p_up_n _ _ (show (84 : Nat) ≠ 91 by decide), p_up_n _ _ (show (91 : Nat) ≠ 66 by decide), p_up_n _ _ (show (91 : Nat) ≠ 71 by decide), p_up_s]
termination_by n - k
decreasing_by all_goals (have h := ‹¬ nI n ≤ nI k›; rw [n_le (by omega) (by omega)] at h; omega)
theorem sp_cl_r (v : Int32) : 0 ≤ (sp_cl v).toInt ∧ (sp_cl v).toInt ≤ 99 := by
  unfold sp_cl
  have e0 : (nI 0 : Int32).toInt = 0 := by decide +kernel
  have e9 : (nI 99 : Int32).toInt = 99 := by decide +kernel
  by_cases h : v < 0
  · rw [if_pos h, e0]; omega
  · rw [if_neg h]
    by_cases h2 : nI 99 < v
    · rw [if_pos h2, e9]; omega
    · rw [if_neg h2]
      rw [i_lt, i_0] at h
      rw [i_lt, e9] at h2
      omega
theorem vX12_hour {I : Nat → Nat → Int32} {J : Nat → Nat → Int64} {p : Bool × Option Nat} {ro : List (Nat × Nat × (Nat → Int32))} {tx : List Ln} (hT : LawR tx I) {n : Nat} (hn : I 65 1 = nI n) (hn8 : n ≤ 8) (hM : MT n (I 70)) (hL : LK n (I 69)) (hw : ∀ l, l < n → 0 ≤ (I 66 l).toInt ∧ (I 66 l).toInt ≤ 99) : Pv 6 0 0 CX12_hour [.ref (65)] (gS, I, J, gR p, ro) (fun r S' => r = some (.int (sp_bits (fun l => decide (I 67 l ≤ (sp_nx tx n (I 69) (I 68) (I 65 7) (I 66) (I 70) (I 71)) l)) n)) ∧ ∃ I', S' = (gS, I', J, gR p, ro) ∧ Fr [66, 71, 82, 83, 84, 85, 86, 87, 91] I I' ∧ I' 66 = (fun j => if j < n then (sp_nx tx n (I 69) (I 68) (I 65 7) (I 66) (I 70) (I 71)) j else I 66 j) ∧ I' 71 = (fun j => if j < n ∧ ¬ I 70 j < 0 then I 71 j + nI 1 else I 71 j) ∧ I' 91 = va_up (va_up (I 91) 3 (I 91 3 + sp_grow (sp_nx tx n (I 69) (I 68) (I 65 7) (I 66) (I 70) (I 71)) (I 66) n)) 0 (I 91 0 + nI 1)) := by
  refine ⟨okCX12_hour, Nat.le_of_ble_eq_true rfl, (show Px _ _ _ _ 0 [some (.ref (65)), none] [] _ _ from ?_)⟩
  refine px_aload_n (kk := 0) rfl rfl rfl ?_
  refine px_callV0 CX12_layWarm [] [] (vX12_layWarm hn hn8) rfl gS_65 (by decide) rfl rfl rfl (Nat.le_of_ble_eq_true rfl) (by decide) ?_
  rintro _ _ - ⟨rfl, rfl⟩
  refine px_iconst (v := nI 0) rfl k_0 ?_
  refine px_ist1 rfl rfl (by decide) ?_
  obtain ⟨I0, h0⟩ : ∃ I0, I0 = (va_up I 84 (fun j => if j < n then I 66 j else I 84 j)) := ⟨_, rfl⟩
  have f0 : Fr [84] I I0 := by rw [h0]; exact Fr_up Fr_rf (by decide) _
  have w0 : ∀ l, l < n → I0 84 l = I 66 l := fun l hl => by rw [h0, p_up_s, if_pos hl]
  refine px_mem h0.symm ?_
  refine px_mem (show I0 = (va_up (va_up I0 85 (fun j => if j < 0 then I0 70 j else I0 85 j)) 86 (fun j => if j < 0 then I0 71 j else I0 86 j)) from ?_) (lX12_hr1 (I := I0) (by rw [f0 65 (by decide)]; exact hn) hn8 (k := 0) (by omega) ?_)
  · rw [← fill_0f I0 85 (I0 70), ← fill_0f I0 86 (I0 71)]
  obtain ⟨I2, h2⟩ : ∃ I2, I2 = (va_up (va_up I0 85 (fun j => if j < n then I0 70 j else I0 85 j)) 86 (fun j => if j < n then I0 71 j else I0 86 j)) := ⟨_, rfl⟩
  have f2 : Fr [84, 85, 86] I I2 := by rw [h2]; exact Fr_up (Fr_up (Fr_mo f0 (by decide)) (by decide) _) (by decide) _
  have w84 : ∀ l, l < n → I2 84 l = I 66 l := fun l hl => by rw [h2, p_up_n _ _ (by decide), p_up_n _ _ (by decide)]; exact w0 l hl
  have w85 : ∀ l, l < n → I2 85 l = I 70 l := fun l hl => by rw [h2, p_up_n _ _ (by decide), p_up_s, if_pos hl, f0 70 (by decide)]
  have w86 : ∀ l, l < n → I2 86 l = I 71 l := fun l hl => by rw [h2, p_up_s, if_pos hl, f0 71 (by decide)]
  have hM2 : MT n (I2 85) := fun l hl => by
    rw [w85 l hl]
    rcases hM l hl with e | ⟨j, hj, hne, e1, e2⟩
    · exact .inl e
    · exact .inr ⟨j, hj, hne, e1, by rw [w85 j hj]; exact e2⟩
  have hn2 : I2 65 1 = nI n := by rw [f2 65 (by decide)]; exact hn
  refine px_mem h2.symm ?_
  refine px_aload_n (kk := 0) rfl rfl rfl ?_
  refine px_callV0 CX12_goHour [] [] (vX12_goHour (tx := tx) hn2 hn8 hM2 (LawR_mv hT (by rw [f2 65 (by decide)]) (fun c hc => f2 c (fun e => by simp only [List.mem_cons, List.not_mem_nil, or_false] at e hc; omega))) (by rw [f2 69 (by decide)]; exact hL)) rfl gS_65 (by decide) rfl rfl rfl (Nat.le_of_ble_eq_true rfl) (by decide) ?_
  rintro _ _ - ⟨rfl, I3, rfl, f3, g84⟩
  have e84 : ∀ l, l < n → I3 84 l = (sp_nx tx n (I 69) (I 68) (I 65 7) (I 66) (I 70) (I 71)) l := fun l hl => by
    rw [g84]
    simp only [if_pos hl]
    rw [f2 69 (by decide), f2 68 (by decide), f2 65 (by decide)]
    exact sp_nx_congr hn8 hM w84 w85 w86 hl
  refine px_iconst (v := nI 0) rfl k_0 ?_
  refine px_ist1 rfl rfl (by decide) ?_
  have f23 : Fr [82, 83, 84, 85, 86, 87] I I3 := Fr_tr (Fr_mo f2 (by decide)) (Fr_mo f3 (by decide))
  refine lX12_hr2 (I := I) (I0 := I3) (n := n) (by rw [f23 65 (by decide)]; exact hn) hn8 (k := 0) (by omega) (fun l hl => ⟨by rw [e84 l hl]; exact sp_cl_r _, by rw [f23 66 (by decide)]; exact hw l hl⟩) trivial (I1 := I3) ⟨Fr_rf, by funext j; simp, by funext j; simp, by rw [sp_grow, show I3 91 3 + nI 0 = I3 91 3 from by rw [← n_0, Int32.add_zero]]; exact (up_self (I3 91) 3).symm⟩ (fun I4 hR => ?_)
  refine px_aload_n (kk := 0) rfl rfl rfl ?_
  refine px_getR (r := 91) rfl gS_65 rfl (gR_65_48 _) ?_
  refine px_iconst (v := nI 0) rfl k_0 ?_
  refine px_dup2 rfl rfl rfl ?_
  refine px_iald (j := 0) rfl gS_91 rfl (by decide) ?_
  refine px_iconst (v := nI 1) rfl k_1 ?_
  refine px_iadd rfl ?_
  refine px_iast (j := 0) rfl gS_91 rfl (by decide) ?_
  refine px_aload_n (kk := 0) rfl rfl rfl ?_
  refine px_callV0 CX12_haveNeeds [] [] (vX12_haveNeeds (n := n) (by rw [p_up_n _ _ (by decide), hR.1 65 (by decide), f23 65 (by decide)]; exact hn) hn8) rfl gS_65 (by decide) rfl rfl rfl (Nat.le_of_ble_eq_true rfl) (by decide) ?_
  rintro _ _ - ⟨rfl, rfl⟩
  refine px_ireturn rfl (.inl rfl) ?_
  refine ⟨?_, _, rfl, Fr_up (Fr_tr (Fr_mo f23 (by decide)) (Fr_mo hR.1 (by decide))) (by decide) _, ?_, ?_, ?_⟩
  · congr 2
    refine sp_bits_congr (fun l hl => ?_)
    rw [p_up_n _ _ (by decide), p_up_n _ _ (by decide), hR.1 67 (by decide), f23 67 (by decide), hR.1 84 (by decide), e84 l hl]
  · rw [p_up_n _ _ (by decide), hR.2.1]
    funext j
    by_cases hj : j < n
    · simp only [if_pos hj]; exact e84 j hj
    · simp only [if_neg hj]; rw [f23 66 (by decide)]
  · rw [p_up_n _ _ (by decide), hR.2.2.1, f23 70 (by decide), f23 71 (by decide)]
  · rw [p_up_s, hR.2.2.2, f23 91 (by decide), p_up_n _ _ (by decide), sp_grow_congr e84 (fun j hj => by rw [f23 66 (by decide)])]
def IMk (I0 : Nat → Nat → Int32) (k : Nat) (I1 : Nat → Nat → Int32) : Prop := Fr [92, 93, 94] I0 I1 ∧ ∀ l, l < k → I1 92 l = I0 66 l ∧ I1 93 l = I0 70 l ∧ I1 94 l = I0 71 l
theorem lX12_im1 {I : Nat → Nat → Int32} {J : Nat → Nat → Int64} {p : Bool × Option Nat} {ro : List (Nat × Nat × (Nat → Int32))} {n : Nat} {I0 : Nat → Nat → Int32} (hn : I0 65 1 = nI n) (hn8 : n ≤ 8) {k : Nat} (hk : k ≤ n) {I1 : Nat → Nat → Int32} (hR : IMk I0 k I1) {Q : Option Value → pm_M → Prop} (kont : ∀ I2, IMk I0 n I2 → Px 0 0 0 CX12_image 39 [some (.ref 65), some (.int (nI n))] [] (gS, I2, J, gR p, ro) Q) : Px 0 0 0 CX12_image 9 [some (.ref (65)), some (.int (nI k))] [] (gS, I1, J, gR p, ro) (Q) := by
  refine px_iload_n (kk := 1) rfl rfl rfl ?_
  refine px_aload_n (kk := 0) rfl rfl rfl ?_
  refine px_getIe (v := nI n) rfl gS_65 rfl ((congrFun (hR.1 65 (by decide)) 1).trans hn) ?_
  refine px_icmp_ge rfl (fun c12 => ?_) (fun c12 => ?_)
  · rw [n_le (by omega) (by omega)] at c12
    obtain rfl : k = n := by omega
    exact kont I1 hR
  · rw [n_le (by omega) (by omega)] at c12
    refine px_aload_n (kk := 0) rfl rfl rfl ?_
    refine px_getR (r := 92) rfl gS_65 rfl (gR_65_51 _) ?_
    refine px_iload_n (kk := 1) rfl rfl rfl ?_
    refine px_aload_n (kk := 0) rfl rfl rfl ?_
    refine px_getR (r := 66) rfl gS_65 rfl (gR_65_2 _) ?_
    refine px_iload_n (kk := 1) rfl rfl rfl ?_
    refine px_iald (j := k) rfl gS_66 rfl (by omega) ?_
    refine px_iast (j := k) rfl gS_92 rfl (by omega) ?_
    refine px_aload_n (kk := 0) rfl rfl rfl ?_
    refine px_getR (r := 93) rfl gS_65 rfl (gR_65_52 _) ?_
    refine px_iload_n (kk := 1) rfl rfl rfl ?_
    refine px_aload_n (kk := 0) rfl rfl rfl ?_
    refine px_getR (r := 70) rfl gS_65 rfl (gR_65_8 _) ?_
    refine px_iload_n (kk := 1) rfl rfl rfl ?_
    refine px_iald (j := k) rfl gS_70 rfl (by omega) ?_
    refine px_iast (j := k) rfl gS_93 rfl (by omega) ?_
    refine px_aload_n (kk := 0) rfl rfl rfl ?_
    refine px_getR (r := 94) rfl gS_65 rfl (gR_65_53 _) ?_
    refine px_iload_n (kk := 1) rfl rfl rfl ?_
    refine px_aload_n (kk := 0) rfl rfl rfl ?_
    refine px_getR (r := 71) rfl gS_65 rfl (gR_65_9 _) ?_
    refine px_iload_n (kk := 1) rfl rfl rfl ?_
    refine px_iald (j := k) rfl gS_71 rfl (by omega) ?_
    refine px_iast (j := k) rfl gS_94 rfl (by omega) ?_
    refine px_iinc1 (v := nI (k + 1)) rfl (n_inc k) rfl (by decide) ?_
    refine px_goto rfl ?_
    refine lX12_im1 (I := I) hn hn8 (k := k + 1) (by omega) ⟨Fr_up (Fr_up (Fr_up hR.1 (by decide) _) (by decide) _) (by decide) _, fun l hl => ?_⟩ kont
    simp only [p_up_n _ _ (show (65 : Nat) ≠ 92 by decide), p_up_n _ _ (show (65 : Nat) ≠ 93 by decide), p_up_n _ _ (show (65 : Nat) ≠ 94 by decide), p_up_n _ _ (show (65 : Nat) ≠ 95 by decide), p_up_n _ _ (show (66 : Nat) ≠ 92 by decide), p_up_n _ _ (show (66 : Nat) ≠ 93 by decide), p_up_n _ _ (show (66 : Nat) ≠ 94 by decide), p_up_n _ _ (show (66 : Nat) ≠ 95 by decide), p_up_n _ _ (show (70 : Nat) ≠ 92 by decide), p_up_n _ _ (show (70 : Nat) ≠ 93 by decide), p_up_n _ _ (show (70 : Nat) ≠ 94 by decide), p_up_n _ _ (show (70 : Nat) ≠ 95 by decide), p_up_n _ _ (show (71 : Nat) ≠ 92 by decide), p_up_n _ _ (show (71 : Nat) ≠ 93 by decide), p_up_n _ _ (show (71 : Nat) ≠ 94 by decide), p_up_n _ _ (show (71 : Nat) ≠ 95 by decide), p_up_n _ _ (show (91 : Nat) ≠ 92 by decide), p_up_n _ _ (show (91 : Nat) ≠ 93 by decide), p_up_n _ _ (show (91 : Nat) ≠ 94 by decide), p_up_n _ _ (show (91 : Nat) ≠ 95 by decide), p_up_n _ _ (show (92 : Nat) ≠ 93 by decide), p_up_n _ _ (show (92 : Nat) ≠ 94 by decide), p_up_n _ _ (show (92 : Nat) ≠ 95 by decide), p_up_n _ _ (show (93 : Nat) ≠ 92 by decide), p_up_n _ _ (show (93 : Nat) ≠ 94 by decide), p_up_n _ _ (show (93 : Nat) ≠ 95 by decide), p_up_n _ _ (show (94 : Nat) ≠ 92 by decide), p_up_n _ _ (show (94 : Nat) ≠ 93 by decide), p_up_n _ _ (show (94 : Nat) ≠ 95 by decide), p_up_n _ _ (show (95 : Nat) ≠ 92 by decide), p_up_n _ _ (show (95 : Nat) ≠ 93 by decide), p_up_n _ _ (show (95 : Nat) ≠ 94 by decide), p_up_s]
    by_cases e : l = k
    · subst e
      simp only [p_up_s]
      rw [hR.1 66 (by decide), hR.1 70 (by decide), hR.1 71 (by decide)]
      exact ⟨rfl, rfl, rfl⟩
    · simp only [p_up_n _ _ e]
      exact hR.2 l (by omega)
termination_by n - k
decreasing_by all_goals (have h := ‹¬ nI n ≤ nI k›; rw [n_le (by omega) (by omega)] at h; omega)
theorem lX12_im2 {I : Nat → Nat → Int32} {J : Nat → Nat → Int64} {p : Bool × Option Nat} {ro : List (Nat × Nat × (Nat → Int32))} {I0 : Nat → Nat → Int32} {k : Nat} (hk : k ≤ 4) {I1 : Nat → Nat → Int32} (hF : Fr [95] I0 I1) (hR : ∀ l, l < k → I1 95 l = I0 91 l) : Px 0 0 0 CX12_image 41 [some (.ref (65)), some (.int (nI k))] [] (gS, I1, J, gR p, ro) (fun r S' => r = some (.int (I0 91 0)) ∧ ∃ I', S' = (gS, I', J, gR p, ro) ∧ Fr [95] I0 I' ∧ ∀ l, l < 4 → I' 95 l = I0 91 l) := by
  refine px_iload_n (kk := 1) rfl rfl rfl ?_
  refine px_iconst (v := nI 4) rfl k_4 ?_
  refine px_icmp_ge rfl (fun c43 => ?_) (fun c43 => ?_)
  · refine px_aload_n (kk := 0) rfl rfl rfl ?_
    refine px_getR (r := 91) rfl gS_65 rfl (gR_65_48 _) ?_
    refine px_iconst (v := nI 0) rfl k_0 ?_
    refine px_ialde (j := 0) (v := I0 91 0) rfl gS_91 rfl (by decide) (congrFun (hF 91 (by decide)) 0) ?_
    refine px_ireturn rfl (.inl rfl) ?_
    rw [n_le (by omega) (by omega)] at c43
    obtain rfl : k = 4 := by omega
    exact ⟨rfl, I1, rfl, hF, hR⟩
  · rw [n_le (by omega) (by omega)] at c43
    refine px_aload_n (kk := 0) rfl rfl rfl ?_
    refine px_getR (r := 95) rfl gS_65 rfl (gR_65_54 _) ?_
    refine px_iload_n (kk := 1) rfl rfl rfl ?_
    refine px_aload_n (kk := 0) rfl rfl rfl ?_
    refine px_getR (r := 91) rfl gS_65 rfl (gR_65_48 _) ?_
    refine px_iload_n (kk := 1) rfl rfl rfl ?_
    refine px_iald (j := k) rfl gS_91 rfl (by omega) ?_
    refine px_iast (j := k) rfl gS_95 rfl (by omega) ?_
    refine px_iinc1 (v := nI (k + 1)) rfl (n_inc k) rfl (by decide) ?_
    refine px_goto rfl ?_
    refine lX12_im2 (I := I) (k := k + 1) (by omega) (Fr_up hF (by decide) _) (fun l hl => ?_)
    simp only [p_up_n _ _ (show (65 : Nat) ≠ 92 by decide), p_up_n _ _ (show (65 : Nat) ≠ 93 by decide), p_up_n _ _ (show (65 : Nat) ≠ 94 by decide), p_up_n _ _ (show (65 : Nat) ≠ 95 by decide), p_up_n _ _ (show (66 : Nat) ≠ 92 by decide), p_up_n _ _ (show (66 : Nat) ≠ 93 by decide), p_up_n _ _ (show (66 : Nat) ≠ 94 by decide), p_up_n _ _ (show (66 : Nat) ≠ 95 by decide), p_up_n _ _ (show (70 : Nat) ≠ 92 by decide), p_up_n _ _ (show (70 : Nat) ≠ 93 by decide), p_up_n _ _ (show (70 : Nat) ≠ 94 by decide), p_up_n _ _ (show (70 : Nat) ≠ 95 by decide), p_up_n _ _ (show (71 : Nat) ≠ 92 by decide), p_up_n _ _ (show (71 : Nat) ≠ 93 by decide), p_up_n _ _ (show (71 : Nat) ≠ 94 by decide), p_up_n _ _ (show (71 : Nat) ≠ 95 by decide), p_up_n _ _ (show (91 : Nat) ≠ 92 by decide), p_up_n _ _ (show (91 : Nat) ≠ 93 by decide), p_up_n _ _ (show (91 : Nat) ≠ 94 by decide), p_up_n _ _ (show (91 : Nat) ≠ 95 by decide), p_up_n _ _ (show (92 : Nat) ≠ 93 by decide), p_up_n _ _ (show (92 : Nat) ≠ 94 by decide), p_up_n _ _ (show (92 : Nat) ≠ 95 by decide), p_up_n _ _ (show (93 : Nat) ≠ 92 by decide), p_up_n _ _ (show (93 : Nat) ≠ 94 by decide), p_up_n _ _ (show (93 : Nat) ≠ 95 by decide), p_up_n _ _ (show (94 : Nat) ≠ 92 by decide), p_up_n _ _ (show (94 : Nat) ≠ 93 by decide), p_up_n _ _ (show (94 : Nat) ≠ 95 by decide), p_up_n _ _ (show (95 : Nat) ≠ 92 by decide), p_up_n _ _ (show (95 : Nat) ≠ 93 by decide), p_up_n _ _ (show (95 : Nat) ≠ 94 by decide), p_up_s]
    by_cases e : l = k
    · subst e
      simp only [p_up_s]
      rw [hF 91 (by decide)]
    · simp only [p_up_n _ _ e]
      exact hR l (by omega)
termination_by 4 - k
decreasing_by all_goals (have h := ‹¬ nI 4 ≤ nI k›; rw [n_le (by omega) (by omega)] at h; omega)
theorem vX12_image {I : Nat → Nat → Int32} {J : Nat → Nat → Int64} {p : Bool × Option Nat} {ro : List (Nat × Nat × (Nat → Int32))} {n : Nat} (hn : I 65 1 = nI n) (hn8 : n ≤ 8) : Pv 0 0 0 CX12_image [.ref (65)] (gS, I, J, gR p, ro) (fun r S' => r = some (.int (I 91 0)) ∧ ∃ I', S' = (gS, I', J, gR p, ro) ∧ Fr [65, 92, 93, 94, 95] I I' ∧ I' 65 = va_up (va_up (I 65) 49 (nI 1)) 50 (nI n) ∧ (∀ l, l < n → I' 92 l = I 66 l ∧ I' 93 l = I 70 l ∧ I' 94 l = I 71 l) ∧ ∀ l, l < 4 → I' 95 l = I 91 l) := by
  refine ⟨okCX12_image, Nat.le_of_ble_eq_true rfl, (show Px _ _ _ _ 0 [some (.ref (65)), none] [] _ _ from ?_)⟩
  refine px_aload_n (kk := 0) rfl rfl rfl ?_
  refine px_iconst (v := nI 1) rfl k_1 ?_
  refine px_putZ rfl gS_65 rfl (by decide) rfl ?_
  refine px_aload_n (kk := 0) rfl rfl rfl ?_
  refine px_aload_n (kk := 0) rfl rfl rfl ?_
  refine px_getIe (v := nI n) rfl gS_65 rfl (by rw [p_up_s, p_up_n _ _ (by decide)]; exact hn) ?_
  refine px_putI rfl gS_65 rfl rfl ?_
  refine px_iconst (v := nI 0) rfl k_0 ?_
  refine px_ist1 rfl rfl (by decide) ?_
  obtain ⟨I0, h0⟩ : ∃ I0, I0 = (va_up I 65 (va_up (va_up (I 65) 49 (nI 1)) 50 (nI n))) := ⟨_, rfl⟩
  have f0 : Fr [65] I I0 := by rw [h0]; exact Fr_up Fr_rf (by decide) _
  refine px_mem (show _ = I0 from by rw [h0, up2, p_up_s]) ?_
  have e65 : I0 65 = va_up (va_up (I 65) 49 (nI 1)) 50 (nI n) := by rw [h0, p_up_s]
  refine lX12_im1 (I := I) (I0 := I0) (n := n) (by rw [e65, p_up_n _ _ (by decide), p_up_n _ _ (by decide)]; exact hn) hn8 (k := 0) (by omega) (I1 := I0) ⟨Fr_rf, fun l hl => absurd hl (by omega)⟩ (fun I2 h2 => ?_)
  refine px_iconst (v := nI 0) rfl k_0 ?_
  refine px_ist1 rfl rfl (by decide) ?_
  refine pxv_post (lX12_im2 (I := I) (I0 := I2) (k := 0) (by omega) Fr_rf (fun l hl => absurd hl (by omega))) (fun r S hr => ?_)
  obtain ⟨rfl, I3, rfl, f3, g3⟩ := hr
  refine ⟨?_, I3, rfl, Fr_tr (Fr_mo f0 (by decide)) (Fr_tr (Fr_mo h2.1 (by decide)) (Fr_mo f3 (by decide))), ?_, fun l hl => ?_, fun l hl => ?_⟩
  · rw [h2.1 91 (by decide), f0 91 (by decide)]
  · rw [f3 65 (by decide), h2.1 65 (by decide), e65]
  · rw [f3 92 (by decide), f3 93 (by decide), f3 94 (by decide), ← f0 66 (by decide), ← f0 70 (by decide), ← f0 71 (by decide)]
    exact h2.2 l hl
  · rw [g3 l hl, h2.1 91 (by decide), f0 91 (by decide)]
def BKk (n m : Nat) (I0 : Nat → Nat → Int32) (k : Nat) (I1 : Nat → Nat → Int32) : Prop := Fr [66, 70, 71] I0 I1 ∧ I1 66 = (fun j => if j < k ∧ j < m then I0 92 j else I0 66 j) ∧ ∀ l, l < k → I1 70 l = (if l < m then I0 93 l else -1) ∧ I1 71 l = (if l < m then I0 94 l else nI 0)
theorem BK_66 {f g : Nat → Int32} {k m : Nat} (h : k < m) : va_up (fun j => if j < k ∧ j < m then f j else g j) k (f k) = fun j => if j < k + 1 ∧ j < m then f j else g j := by
  funext j
  by_cases e : j = k
  · subst e; rw [p_up_s, if_pos ⟨by omega, h⟩]
  · rw [p_up_n _ _ e]
    by_cases q : j < k ∧ j < m
    · rw [if_pos q, if_pos ⟨by omega, q.2⟩]
    · rw [if_neg q, if_neg (fun z => q ⟨by omega, z.2⟩)]
theorem BK_66n {f g : Nat → Int32} {k m : Nat} (h : ¬ k < m) : (fun j => if j < k ∧ j < m then f j else g j) = fun j => if j < k + 1 ∧ j < m then f j else g j := by
  funext j
  by_cases q : j < k ∧ j < m
  · rw [if_pos q, if_pos ⟨by omega, q.2⟩]
  · rw [if_neg q, if_neg (fun z => q ⟨by omega, z.2⟩)]
theorem lX12_bk1 {I : Nat → Nat → Int32} {J : Nat → Nat → Int64} {p : Bool × Option Nat} {ro : List (Nat × Nat × (Nat → Int32))} {n m : Nat} {I0 : Nat → Nat → Int32} (hn : I0 65 1 = nI n) (hm : I0 65 50 = nI m) (hmn : m ≤ n) (hn8 : n ≤ 8) {k : Nat} (hk : k ≤ n) {I1 : Nat → Nat → Int32} (hR : BKk n m I0 k I1) {Q : Option Value → pm_M → Prop} (kont : ∀ I2, BKk n m I0 n I2 → Px 0 0 0 CX12_back 53 [some (.ref 65), some (.int (nI n))] [] (gS, I2, J, gR p, ro) Q) : Px 0 0 0 CX12_back 7 [some (.ref (65)), some (.int (nI k))] [] (gS, I1, J, gR p, ro) (Q) := by
  refine px_iload_n (kk := 1) rfl rfl rfl ?_
  refine px_aload_n (kk := 0) rfl rfl rfl ?_
  refine px_getIe (v := nI n) rfl gS_65 rfl ((congrFun (hR.1 65 (by decide)) 1).trans hn) ?_
  refine px_icmp_ge rfl (fun c10 => ?_) (fun c10 => ?_)
  · rw [n_le (by omega) (by omega)] at c10
    obtain rfl : k = n := by omega
    exact kont I1 hR
  · rw [n_le (by omega) (by omega)] at c10
    refine px_iload_n (kk := 1) rfl rfl rfl ?_
    refine px_aload_n (kk := 0) rfl rfl rfl ?_
    refine px_getIe (v := nI m) rfl gS_65 rfl (by (try simp only [p_up_n _ _ (show (65 : Nat) ≠ 66 by decide), p_up_n _ _ (show (65 : Nat) ≠ 70 by decide), p_up_n _ _ (show (65 : Nat) ≠ 71 by decide), p_up_n _ _ (show (65 : Nat) ≠ 91 by decide), p_up_n _ _ (show (66 : Nat) ≠ 70 by decide), p_up_n _ _ (show (66 : Nat) ≠ 71 by decide), p_up_n _ _ (show (66 : Nat) ≠ 91 by decide), p_up_n _ _ (show (70 : Nat) ≠ 66 by decide), p_up_n _ _ (show (70 : Nat) ≠ 71 by decide), p_up_n _ _ (show (70 : Nat) ≠ 91 by decide), p_up_n _ _ (show (71 : Nat) ≠ 66 by decide), p_up_n _ _ (show (71 : Nat) ≠ 70 by decide), p_up_n _ _ (show (71 : Nat) ≠ 91 by decide), p_up_n _ _ (show (91 : Nat) ≠ 66 by decide), p_up_n _ _ (show (91 : Nat) ≠ 70 by decide), p_up_n _ _ (show (91 : Nat) ≠ 71 by decide), p_up_n _ _ (show (92 : Nat) ≠ 66 by decide), p_up_n _ _ (show (92 : Nat) ≠ 70 by decide), p_up_n _ _ (show (92 : Nat) ≠ 71 by decide), p_up_n _ _ (show (92 : Nat) ≠ 91 by decide), p_up_n _ _ (show (93 : Nat) ≠ 66 by decide), p_up_n _ _ (show (93 : Nat) ≠ 70 by decide), p_up_n _ _ (show (93 : Nat) ≠ 71 by decide), p_up_n _ _ (show (93 : Nat) ≠ 91 by decide), p_up_n _ _ (show (94 : Nat) ≠ 66 by decide), p_up_n _ _ (show (94 : Nat) ≠ 70 by decide), p_up_n _ _ (show (94 : Nat) ≠ 71 by decide), p_up_n _ _ (show (94 : Nat) ≠ 91 by decide), p_up_n _ _ (show (95 : Nat) ≠ 66 by decide), p_up_n _ _ (show (95 : Nat) ≠ 70 by decide), p_up_n _ _ (show (95 : Nat) ≠ 71 by decide), p_up_n _ _ (show (95 : Nat) ≠ 91 by decide)]); exact (congrFun (hR.1 65 (by decide)) 50).trans hm) ?_
    refine px_icmp_ge rfl (fun c14 => ?_) (fun c14 => ?_)
    · rw [n_le (by omega) (by omega)] at c14
      refine px_aload_n (kk := 0) rfl rfl rfl ?_
      refine px_getR (r := 70) rfl gS_65 rfl (gR_65_8 _) ?_
      refine px_iload_n (kk := 1) rfl rfl rfl ?_
      refine px_iload_n (kk := 1) rfl rfl rfl ?_
      refine px_aload_n (kk := 0) rfl rfl rfl ?_
      refine px_getIe (v := nI m) rfl gS_65 rfl (by (try simp only [p_up_n _ _ (show (65 : Nat) ≠ 66 by decide), p_up_n _ _ (show (65 : Nat) ≠ 70 by decide), p_up_n _ _ (show (65 : Nat) ≠ 71 by decide), p_up_n _ _ (show (65 : Nat) ≠ 91 by decide), p_up_n _ _ (show (66 : Nat) ≠ 70 by decide), p_up_n _ _ (show (66 : Nat) ≠ 71 by decide), p_up_n _ _ (show (66 : Nat) ≠ 91 by decide), p_up_n _ _ (show (70 : Nat) ≠ 66 by decide), p_up_n _ _ (show (70 : Nat) ≠ 71 by decide), p_up_n _ _ (show (70 : Nat) ≠ 91 by decide), p_up_n _ _ (show (71 : Nat) ≠ 66 by decide), p_up_n _ _ (show (71 : Nat) ≠ 70 by decide), p_up_n _ _ (show (71 : Nat) ≠ 91 by decide), p_up_n _ _ (show (91 : Nat) ≠ 66 by decide), p_up_n _ _ (show (91 : Nat) ≠ 70 by decide), p_up_n _ _ (show (91 : Nat) ≠ 71 by decide), p_up_n _ _ (show (92 : Nat) ≠ 66 by decide), p_up_n _ _ (show (92 : Nat) ≠ 70 by decide), p_up_n _ _ (show (92 : Nat) ≠ 71 by decide), p_up_n _ _ (show (92 : Nat) ≠ 91 by decide), p_up_n _ _ (show (93 : Nat) ≠ 66 by decide), p_up_n _ _ (show (93 : Nat) ≠ 70 by decide), p_up_n _ _ (show (93 : Nat) ≠ 71 by decide), p_up_n _ _ (show (93 : Nat) ≠ 91 by decide), p_up_n _ _ (show (94 : Nat) ≠ 66 by decide), p_up_n _ _ (show (94 : Nat) ≠ 70 by decide), p_up_n _ _ (show (94 : Nat) ≠ 71 by decide), p_up_n _ _ (show (94 : Nat) ≠ 91 by decide), p_up_n _ _ (show (95 : Nat) ≠ 66 by decide), p_up_n _ _ (show (95 : Nat) ≠ 70 by decide), p_up_n _ _ (show (95 : Nat) ≠ 71 by decide), p_up_n _ _ (show (95 : Nat) ≠ 91 by decide)]); exact (congrFun (hR.1 65 (by decide)) 50).trans hm) ?_
      refine px_icmp_ge rfl (fun c29 => ?_) (fun h => absurd (by rw [n_le (by omega) (by omega)]; omega) h)
      refine px_iconst (v := -1) rfl k_m1 ?_
      refine px_iast (j := k) rfl gS_70 rfl (by omega) ?_
      refine px_aload_n (kk := 0) rfl rfl rfl ?_
      refine px_getR (r := 71) rfl gS_65 rfl (gR_65_9 _) ?_
      refine px_iload_n (kk := 1) rfl rfl rfl ?_
      refine px_iload_n (kk := 1) rfl rfl rfl ?_
      refine px_aload_n (kk := 0) rfl rfl rfl ?_
      refine px_getIe (v := nI m) rfl gS_65 rfl (by (try simp only [p_up_n _ _ (show (65 : Nat) ≠ 66 by decide), p_up_n _ _ (show (65 : Nat) ≠ 70 by decide), p_up_n _ _ (show (65 : Nat) ≠ 71 by decide), p_up_n _ _ (show (65 : Nat) ≠ 91 by decide), p_up_n _ _ (show (66 : Nat) ≠ 70 by decide), p_up_n _ _ (show (66 : Nat) ≠ 71 by decide), p_up_n _ _ (show (66 : Nat) ≠ 91 by decide), p_up_n _ _ (show (70 : Nat) ≠ 66 by decide), p_up_n _ _ (show (70 : Nat) ≠ 71 by decide), p_up_n _ _ (show (70 : Nat) ≠ 91 by decide), p_up_n _ _ (show (71 : Nat) ≠ 66 by decide), p_up_n _ _ (show (71 : Nat) ≠ 70 by decide), p_up_n _ _ (show (71 : Nat) ≠ 91 by decide), p_up_n _ _ (show (91 : Nat) ≠ 66 by decide), p_up_n _ _ (show (91 : Nat) ≠ 70 by decide), p_up_n _ _ (show (91 : Nat) ≠ 71 by decide), p_up_n _ _ (show (92 : Nat) ≠ 66 by decide), p_up_n _ _ (show (92 : Nat) ≠ 70 by decide), p_up_n _ _ (show (92 : Nat) ≠ 71 by decide), p_up_n _ _ (show (92 : Nat) ≠ 91 by decide), p_up_n _ _ (show (93 : Nat) ≠ 66 by decide), p_up_n _ _ (show (93 : Nat) ≠ 70 by decide), p_up_n _ _ (show (93 : Nat) ≠ 71 by decide), p_up_n _ _ (show (93 : Nat) ≠ 91 by decide), p_up_n _ _ (show (94 : Nat) ≠ 66 by decide), p_up_n _ _ (show (94 : Nat) ≠ 70 by decide), p_up_n _ _ (show (94 : Nat) ≠ 71 by decide), p_up_n _ _ (show (94 : Nat) ≠ 91 by decide), p_up_n _ _ (show (95 : Nat) ≠ 66 by decide), p_up_n _ _ (show (95 : Nat) ≠ 70 by decide), p_up_n _ _ (show (95 : Nat) ≠ 71 by decide), p_up_n _ _ (show (95 : Nat) ≠ 91 by decide)]); exact (congrFun (hR.1 65 (by decide)) 50).trans hm) ?_
      refine px_icmp_ge rfl (fun c43 => ?_) (fun h => absurd (by rw [n_le (by omega) (by omega)]; omega) h)
      refine px_iconst (v := nI 0) rfl k_0 ?_
      refine px_iast (j := k) rfl gS_71 rfl (by omega) ?_
      refine px_iinc1 (v := nI (k + 1)) rfl (n_inc k) rfl (by decide) ?_
      refine px_goto rfl ?_
      refine lX12_bk1 (I := I) hn hm hmn hn8 (k := k + 1) (by omega) ⟨Fr_up (Fr_up hR.1 (by decide) _) (by decide) _, ?_, fun l hl => ?_⟩ kont
      · simp only [p_up_n _ _ (show (65 : Nat) ≠ 66 by decide), p_up_n _ _ (show (65 : Nat) ≠ 70 by decide), p_up_n _ _ (show (65 : Nat) ≠ 71 by decide), p_up_n _ _ (show (65 : Nat) ≠ 91 by decide), p_up_n _ _ (show (66 : Nat) ≠ 70 by decide), p_up_n _ _ (show (66 : Nat) ≠ 71 by decide), p_up_n _ _ (show (66 : Nat) ≠ 91 by decide), p_up_n _ _ (show (70 : Nat) ≠ 66 by decide), p_up_n _ _ (show (70 : Nat) ≠ 71 by decide), p_up_n _ _ (show (70 : Nat) ≠ 91 by decide), p_up_n _ _ (show (71 : Nat) ≠ 66 by decide), p_up_n _ _ (show (71 : Nat) ≠ 70 by decide), p_up_n _ _ (show (71 : Nat) ≠ 91 by decide), p_up_n _ _ (show (91 : Nat) ≠ 66 by decide), p_up_n _ _ (show (91 : Nat) ≠ 70 by decide), p_up_n _ _ (show (91 : Nat) ≠ 71 by decide), p_up_n _ _ (show (92 : Nat) ≠ 66 by decide), p_up_n _ _ (show (92 : Nat) ≠ 70 by decide), p_up_n _ _ (show (92 : Nat) ≠ 71 by decide), p_up_n _ _ (show (92 : Nat) ≠ 91 by decide), p_up_n _ _ (show (93 : Nat) ≠ 66 by decide), p_up_n _ _ (show (93 : Nat) ≠ 70 by decide), p_up_n _ _ (show (93 : Nat) ≠ 71 by decide), p_up_n _ _ (show (93 : Nat) ≠ 91 by decide), p_up_n _ _ (show (94 : Nat) ≠ 66 by decide), p_up_n _ _ (show (94 : Nat) ≠ 70 by decide), p_up_n _ _ (show (94 : Nat) ≠ 71 by decide), p_up_n _ _ (show (94 : Nat) ≠ 91 by decide), p_up_n _ _ (show (95 : Nat) ≠ 66 by decide), p_up_n _ _ (show (95 : Nat) ≠ 70 by decide), p_up_n _ _ (show (95 : Nat) ≠ 71 by decide), p_up_n _ _ (show (95 : Nat) ≠ 91 by decide), p_up_s]
        rw [hR.2.1]
        exact BK_66n (by omega)
      · simp only [p_up_n _ _ (show (65 : Nat) ≠ 66 by decide), p_up_n _ _ (show (65 : Nat) ≠ 70 by decide), p_up_n _ _ (show (65 : Nat) ≠ 71 by decide), p_up_n _ _ (show (65 : Nat) ≠ 91 by decide), p_up_n _ _ (show (66 : Nat) ≠ 70 by decide), p_up_n _ _ (show (66 : Nat) ≠ 71 by decide), p_up_n _ _ (show (66 : Nat) ≠ 91 by decide), p_up_n _ _ (show (70 : Nat) ≠ 66 by decide), p_up_n _ _ (show (70 : Nat) ≠ 71 by decide), p_up_n _ _ (show (70 : Nat) ≠ 91 by decide), p_up_n _ _ (show (71 : Nat) ≠ 66 by decide), p_up_n _ _ (show (71 : Nat) ≠ 70 by decide), p_up_n _ _ (show (71 : Nat) ≠ 91 by decide), p_up_n _ _ (show (91 : Nat) ≠ 66 by decide), p_up_n _ _ (show (91 : Nat) ≠ 70 by decide), p_up_n _ _ (show (91 : Nat) ≠ 71 by decide), p_up_n _ _ (show (92 : Nat) ≠ 66 by decide), p_up_n _ _ (show (92 : Nat) ≠ 70 by decide), p_up_n _ _ (show (92 : Nat) ≠ 71 by decide), p_up_n _ _ (show (92 : Nat) ≠ 91 by decide), p_up_n _ _ (show (93 : Nat) ≠ 66 by decide), p_up_n _ _ (show (93 : Nat) ≠ 70 by decide), p_up_n _ _ (show (93 : Nat) ≠ 71 by decide), p_up_n _ _ (show (93 : Nat) ≠ 91 by decide), p_up_n _ _ (show (94 : Nat) ≠ 66 by decide), p_up_n _ _ (show (94 : Nat) ≠ 70 by decide), p_up_n _ _ (show (94 : Nat) ≠ 71 by decide), p_up_n _ _ (show (94 : Nat) ≠ 91 by decide), p_up_n _ _ (show (95 : Nat) ≠ 66 by decide), p_up_n _ _ (show (95 : Nat) ≠ 70 by decide), p_up_n _ _ (show (95 : Nat) ≠ 71 by decide), p_up_n _ _ (show (95 : Nat) ≠ 91 by decide), p_up_s]
        by_cases e : l = k
        · subst e
          simp only [p_up_s]
          rw [if_neg (by omega), if_neg (by omega)]
          exact ⟨rfl, rfl⟩
        · simp only [p_up_n _ _ e]
          exact hR.2.2 l (by omega)
    · rw [n_le (by omega) (by omega)] at c14
      refine px_aload_n (kk := 0) rfl rfl rfl ?_
      refine px_getR (r := 66) rfl gS_65 rfl (gR_65_2 _) ?_
      refine px_iload_n (kk := 1) rfl rfl rfl ?_
      refine px_aload_n (kk := 0) rfl rfl rfl ?_
      refine px_getR (r := 92) rfl gS_65 rfl (gR_65_51 _) ?_
      refine px_iload_n (kk := 1) rfl rfl rfl ?_
      refine px_iald (j := k) rfl gS_92 rfl (by omega) ?_
      refine px_iast (j := k) rfl gS_66 rfl (by omega) ?_
      refine px_aload_n (kk := 0) rfl rfl rfl ?_
      refine px_getR (r := 70) rfl gS_65 rfl (gR_65_8 _) ?_
      refine px_iload_n (kk := 1) rfl rfl rfl ?_
      refine px_iload_n (kk := 1) rfl rfl rfl ?_
      refine px_aload_n (kk := 0) rfl rfl rfl ?_
      refine px_getIe (v := nI m) rfl gS_65 rfl (by (try simp only [p_up_n _ _ (show (65 : Nat) ≠ 66 by decide), p_up_n _ _ (show (65 : Nat) ≠ 70 by decide), p_up_n _ _ (show (65 : Nat) ≠ 71 by decide), p_up_n _ _ (show (65 : Nat) ≠ 91 by decide), p_up_n _ _ (show (66 : Nat) ≠ 70 by decide), p_up_n _ _ (show (66 : Nat) ≠ 71 by decide), p_up_n _ _ (show (66 : Nat) ≠ 91 by decide), p_up_n _ _ (show (70 : Nat) ≠ 66 by decide), p_up_n _ _ (show (70 : Nat) ≠ 71 by decide), p_up_n _ _ (show (70 : Nat) ≠ 91 by decide), p_up_n _ _ (show (71 : Nat) ≠ 66 by decide), p_up_n _ _ (show (71 : Nat) ≠ 70 by decide), p_up_n _ _ (show (71 : Nat) ≠ 91 by decide), p_up_n _ _ (show (91 : Nat) ≠ 66 by decide), p_up_n _ _ (show (91 : Nat) ≠ 70 by decide), p_up_n _ _ (show (91 : Nat) ≠ 71 by decide), p_up_n _ _ (show (92 : Nat) ≠ 66 by decide), p_up_n _ _ (show (92 : Nat) ≠ 70 by decide), p_up_n _ _ (show (92 : Nat) ≠ 71 by decide), p_up_n _ _ (show (92 : Nat) ≠ 91 by decide), p_up_n _ _ (show (93 : Nat) ≠ 66 by decide), p_up_n _ _ (show (93 : Nat) ≠ 70 by decide), p_up_n _ _ (show (93 : Nat) ≠ 71 by decide), p_up_n _ _ (show (93 : Nat) ≠ 91 by decide), p_up_n _ _ (show (94 : Nat) ≠ 66 by decide), p_up_n _ _ (show (94 : Nat) ≠ 70 by decide), p_up_n _ _ (show (94 : Nat) ≠ 71 by decide), p_up_n _ _ (show (94 : Nat) ≠ 91 by decide), p_up_n _ _ (show (95 : Nat) ≠ 66 by decide), p_up_n _ _ (show (95 : Nat) ≠ 70 by decide), p_up_n _ _ (show (95 : Nat) ≠ 71 by decide), p_up_n _ _ (show (95 : Nat) ≠ 91 by decide)]); exact (congrFun (hR.1 65 (by decide)) 50).trans hm) ?_
      refine px_icmp_ge rfl (fun h => absurd h (by rw [n_le (by omega) (by omega)]; omega)) (fun c29 => ?_)
      refine px_aload_n (kk := 0) rfl rfl rfl ?_
      refine px_getR (r := 93) rfl gS_65 rfl (gR_65_52 _) ?_
      refine px_iload_n (kk := 1) rfl rfl rfl ?_
      refine px_iald (j := k) rfl gS_93 rfl (by omega) ?_
      refine px_goto rfl ?_
      refine px_iast (j := k) rfl gS_70 rfl (by omega) ?_
      refine px_aload_n (kk := 0) rfl rfl rfl ?_
      refine px_getR (r := 71) rfl gS_65 rfl (gR_65_9 _) ?_
      refine px_iload_n (kk := 1) rfl rfl rfl ?_
      refine px_iload_n (kk := 1) rfl rfl rfl ?_
      refine px_aload_n (kk := 0) rfl rfl rfl ?_
      refine px_getIe (v := nI m) rfl gS_65 rfl (by (try simp only [p_up_n _ _ (show (65 : Nat) ≠ 66 by decide), p_up_n _ _ (show (65 : Nat) ≠ 70 by decide), p_up_n _ _ (show (65 : Nat) ≠ 71 by decide), p_up_n _ _ (show (65 : Nat) ≠ 91 by decide), p_up_n _ _ (show (66 : Nat) ≠ 70 by decide), p_up_n _ _ (show (66 : Nat) ≠ 71 by decide), p_up_n _ _ (show (66 : Nat) ≠ 91 by decide), p_up_n _ _ (show (70 : Nat) ≠ 66 by decide), p_up_n _ _ (show (70 : Nat) ≠ 71 by decide), p_up_n _ _ (show (70 : Nat) ≠ 91 by decide), p_up_n _ _ (show (71 : Nat) ≠ 66 by decide), p_up_n _ _ (show (71 : Nat) ≠ 70 by decide), p_up_n _ _ (show (71 : Nat) ≠ 91 by decide), p_up_n _ _ (show (91 : Nat) ≠ 66 by decide), p_up_n _ _ (show (91 : Nat) ≠ 70 by decide), p_up_n _ _ (show (91 : Nat) ≠ 71 by decide), p_up_n _ _ (show (92 : Nat) ≠ 66 by decide), p_up_n _ _ (show (92 : Nat) ≠ 70 by decide), p_up_n _ _ (show (92 : Nat) ≠ 71 by decide), p_up_n _ _ (show (92 : Nat) ≠ 91 by decide), p_up_n _ _ (show (93 : Nat) ≠ 66 by decide), p_up_n _ _ (show (93 : Nat) ≠ 70 by decide), p_up_n _ _ (show (93 : Nat) ≠ 71 by decide), p_up_n _ _ (show (93 : Nat) ≠ 91 by decide), p_up_n _ _ (show (94 : Nat) ≠ 66 by decide), p_up_n _ _ (show (94 : Nat) ≠ 70 by decide), p_up_n _ _ (show (94 : Nat) ≠ 71 by decide), p_up_n _ _ (show (94 : Nat) ≠ 91 by decide), p_up_n _ _ (show (95 : Nat) ≠ 66 by decide), p_up_n _ _ (show (95 : Nat) ≠ 70 by decide), p_up_n _ _ (show (95 : Nat) ≠ 71 by decide), p_up_n _ _ (show (95 : Nat) ≠ 91 by decide)]); exact (congrFun (hR.1 65 (by decide)) 50).trans hm) ?_
      refine px_icmp_ge rfl (fun h => absurd h (by rw [n_le (by omega) (by omega)]; omega)) (fun c43 => ?_)
      refine px_aload_n (kk := 0) rfl rfl rfl ?_
      refine px_getR (r := 94) rfl gS_65 rfl (gR_65_53 _) ?_
      refine px_iload_n (kk := 1) rfl rfl rfl ?_
      refine px_iald (j := k) rfl gS_94 rfl (by omega) ?_
      refine px_goto rfl ?_
      refine px_iast (j := k) rfl gS_71 rfl (by omega) ?_
      refine px_iinc1 (v := nI (k + 1)) rfl (n_inc k) rfl (by decide) ?_
      refine px_goto rfl ?_
      refine lX12_bk1 (I := I) hn hm hmn hn8 (k := k + 1) (by omega) ⟨Fr_up (Fr_up (Fr_up hR.1 (by decide) _) (by decide) _) (by decide) _, ?_, fun l hl => ?_⟩ kont
      · simp only [p_up_n _ _ (show (65 : Nat) ≠ 66 by decide), p_up_n _ _ (show (65 : Nat) ≠ 70 by decide), p_up_n _ _ (show (65 : Nat) ≠ 71 by decide), p_up_n _ _ (show (65 : Nat) ≠ 91 by decide), p_up_n _ _ (show (66 : Nat) ≠ 70 by decide), p_up_n _ _ (show (66 : Nat) ≠ 71 by decide), p_up_n _ _ (show (66 : Nat) ≠ 91 by decide), p_up_n _ _ (show (70 : Nat) ≠ 66 by decide), p_up_n _ _ (show (70 : Nat) ≠ 71 by decide), p_up_n _ _ (show (70 : Nat) ≠ 91 by decide), p_up_n _ _ (show (71 : Nat) ≠ 66 by decide), p_up_n _ _ (show (71 : Nat) ≠ 70 by decide), p_up_n _ _ (show (71 : Nat) ≠ 91 by decide), p_up_n _ _ (show (91 : Nat) ≠ 66 by decide), p_up_n _ _ (show (91 : Nat) ≠ 70 by decide), p_up_n _ _ (show (91 : Nat) ≠ 71 by decide), p_up_n _ _ (show (92 : Nat) ≠ 66 by decide), p_up_n _ _ (show (92 : Nat) ≠ 70 by decide), p_up_n _ _ (show (92 : Nat) ≠ 71 by decide), p_up_n _ _ (show (92 : Nat) ≠ 91 by decide), p_up_n _ _ (show (93 : Nat) ≠ 66 by decide), p_up_n _ _ (show (93 : Nat) ≠ 70 by decide), p_up_n _ _ (show (93 : Nat) ≠ 71 by decide), p_up_n _ _ (show (93 : Nat) ≠ 91 by decide), p_up_n _ _ (show (94 : Nat) ≠ 66 by decide), p_up_n _ _ (show (94 : Nat) ≠ 70 by decide), p_up_n _ _ (show (94 : Nat) ≠ 71 by decide), p_up_n _ _ (show (94 : Nat) ≠ 91 by decide), p_up_n _ _ (show (95 : Nat) ≠ 66 by decide), p_up_n _ _ (show (95 : Nat) ≠ 70 by decide), p_up_n _ _ (show (95 : Nat) ≠ 71 by decide), p_up_n _ _ (show (95 : Nat) ≠ 91 by decide), p_up_s]
        rw [hR.2.1, hR.1 92 (by decide)]
        exact BK_66 (by omega)
      · simp only [p_up_n _ _ (show (65 : Nat) ≠ 66 by decide), p_up_n _ _ (show (65 : Nat) ≠ 70 by decide), p_up_n _ _ (show (65 : Nat) ≠ 71 by decide), p_up_n _ _ (show (65 : Nat) ≠ 91 by decide), p_up_n _ _ (show (66 : Nat) ≠ 70 by decide), p_up_n _ _ (show (66 : Nat) ≠ 71 by decide), p_up_n _ _ (show (66 : Nat) ≠ 91 by decide), p_up_n _ _ (show (70 : Nat) ≠ 66 by decide), p_up_n _ _ (show (70 : Nat) ≠ 71 by decide), p_up_n _ _ (show (70 : Nat) ≠ 91 by decide), p_up_n _ _ (show (71 : Nat) ≠ 66 by decide), p_up_n _ _ (show (71 : Nat) ≠ 70 by decide), p_up_n _ _ (show (71 : Nat) ≠ 91 by decide), p_up_n _ _ (show (91 : Nat) ≠ 66 by decide), p_up_n _ _ (show (91 : Nat) ≠ 70 by decide), p_up_n _ _ (show (91 : Nat) ≠ 71 by decide), p_up_n _ _ (show (92 : Nat) ≠ 66 by decide), p_up_n _ _ (show (92 : Nat) ≠ 70 by decide), p_up_n _ _ (show (92 : Nat) ≠ 71 by decide), p_up_n _ _ (show (92 : Nat) ≠ 91 by decide), p_up_n _ _ (show (93 : Nat) ≠ 66 by decide), p_up_n _ _ (show (93 : Nat) ≠ 70 by decide), p_up_n _ _ (show (93 : Nat) ≠ 71 by decide), p_up_n _ _ (show (93 : Nat) ≠ 91 by decide), p_up_n _ _ (show (94 : Nat) ≠ 66 by decide), p_up_n _ _ (show (94 : Nat) ≠ 70 by decide), p_up_n _ _ (show (94 : Nat) ≠ 71 by decide), p_up_n _ _ (show (94 : Nat) ≠ 91 by decide), p_up_n _ _ (show (95 : Nat) ≠ 66 by decide), p_up_n _ _ (show (95 : Nat) ≠ 70 by decide), p_up_n _ _ (show (95 : Nat) ≠ 71 by decide), p_up_n _ _ (show (95 : Nat) ≠ 91 by decide), p_up_s]
        by_cases e : l = k
        · subst e
          simp only [p_up_s]
          rw [if_pos (by omega), if_pos (by omega)]
          exact ⟨congrFun (hR.1 93 (by decide)) l, congrFun (hR.1 94 (by decide)) l⟩
        · simp only [p_up_n _ _ e]
          exact hR.2.2 l (by omega)
termination_by n - k
decreasing_by all_goals (have h := ‹¬ nI n ≤ nI k›; rw [n_le (by omega) (by omega)] at h; omega)
theorem lX12_bk2 {I : Nat → Nat → Int32} {J : Nat → Nat → Int64} {p : Bool × Option Nat} {ro : List (Nat × Nat × (Nat → Int32))} {I0 : Nat → Nat → Int32} {k : Nat} (hk : k ≤ 4) {I1 : Nat → Nat → Int32} (hF : Fr [91] I0 I1) (hR : ∀ l, l < k → I1 91 l = I0 95 l) : Px 0 0 0 CX12_back 55 [some (.ref (65)), some (.int (nI k))] [] (gS, I1, J, gR p, ro) (fun r S' => r = some (.int (I0 95 0)) ∧ ∃ I', S' = (gS, I', J, gR p, ro) ∧ Fr [91] I0 I' ∧ ∀ l, l < 4 → I' 91 l = I0 95 l) := by
  refine px_iload_n (kk := 1) rfl rfl rfl ?_
  refine px_iconst (v := nI 4) rfl k_4 ?_
  refine px_icmp_ge rfl (fun c57 => ?_) (fun c57 => ?_)
  · rw [n_le (by omega) (by omega)] at c57
    obtain rfl : k = 4 := by omega
    refine px_aload_n (kk := 0) rfl rfl rfl ?_
    refine px_getR (r := 91) rfl gS_65 rfl (gR_65_48 _) ?_
    refine px_iconst (v := nI 0) rfl k_0 ?_
    refine px_ialde (j := 0) (v := I0 95 0) rfl gS_91 rfl (by decide) (hR 0 (by decide)) ?_
    refine px_ireturn rfl (.inl rfl) ?_
    exact ⟨rfl, I1, rfl, hF, hR⟩
  · rw [n_le (by omega) (by omega)] at c57
    refine px_aload_n (kk := 0) rfl rfl rfl ?_
    refine px_getR (r := 91) rfl gS_65 rfl (gR_65_48 _) ?_
    refine px_iload_n (kk := 1) rfl rfl rfl ?_
    refine px_aload_n (kk := 0) rfl rfl rfl ?_
    refine px_getR (r := 95) rfl gS_65 rfl (gR_65_54 _) ?_
    refine px_iload_n (kk := 1) rfl rfl rfl ?_
    refine px_iald (j := k) rfl gS_95 rfl (by omega) ?_
    refine px_iast (j := k) rfl gS_91 rfl (by omega) ?_
    refine px_iinc1 (v := nI (k + 1)) rfl (n_inc k) rfl (by decide) ?_
    refine px_goto rfl ?_
    refine lX12_bk2 (I := I) (k := k + 1) (by omega) (Fr_up hF (by decide) _) (fun l hl => ?_)
    simp only [p_up_n _ _ (show (65 : Nat) ≠ 66 by decide), p_up_n _ _ (show (65 : Nat) ≠ 70 by decide), p_up_n _ _ (show (65 : Nat) ≠ 71 by decide), p_up_n _ _ (show (65 : Nat) ≠ 91 by decide), p_up_n _ _ (show (66 : Nat) ≠ 70 by decide), p_up_n _ _ (show (66 : Nat) ≠ 71 by decide), p_up_n _ _ (show (66 : Nat) ≠ 91 by decide), p_up_n _ _ (show (70 : Nat) ≠ 66 by decide), p_up_n _ _ (show (70 : Nat) ≠ 71 by decide), p_up_n _ _ (show (70 : Nat) ≠ 91 by decide), p_up_n _ _ (show (71 : Nat) ≠ 66 by decide), p_up_n _ _ (show (71 : Nat) ≠ 70 by decide), p_up_n _ _ (show (71 : Nat) ≠ 91 by decide), p_up_n _ _ (show (91 : Nat) ≠ 66 by decide), p_up_n _ _ (show (91 : Nat) ≠ 70 by decide), p_up_n _ _ (show (91 : Nat) ≠ 71 by decide), p_up_n _ _ (show (92 : Nat) ≠ 66 by decide), p_up_n _ _ (show (92 : Nat) ≠ 70 by decide), p_up_n _ _ (show (92 : Nat) ≠ 71 by decide), p_up_n _ _ (show (92 : Nat) ≠ 91 by decide), p_up_n _ _ (show (93 : Nat) ≠ 66 by decide), p_up_n _ _ (show (93 : Nat) ≠ 70 by decide), p_up_n _ _ (show (93 : Nat) ≠ 71 by decide), p_up_n _ _ (show (93 : Nat) ≠ 91 by decide), p_up_n _ _ (show (94 : Nat) ≠ 66 by decide), p_up_n _ _ (show (94 : Nat) ≠ 70 by decide), p_up_n _ _ (show (94 : Nat) ≠ 71 by decide), p_up_n _ _ (show (94 : Nat) ≠ 91 by decide), p_up_n _ _ (show (95 : Nat) ≠ 66 by decide), p_up_n _ _ (show (95 : Nat) ≠ 70 by decide), p_up_n _ _ (show (95 : Nat) ≠ 71 by decide), p_up_n _ _ (show (95 : Nat) ≠ 91 by decide), p_up_s]
    by_cases e : l = k
    · subst e
      simp only [p_up_s]
      rw [hF 95 (by decide)]
    · simp only [p_up_n _ _ e]
      exact hR l (by omega)
termination_by 4 - k
decreasing_by all_goals (have h := ‹¬ nI 4 ≤ nI k›; rw [n_le (by omega) (by omega)] at h; omega)
theorem vX12_back_f {I : Nat → Nat → Int32} {J : Nat → Nat → Int64} {p : Bool × Option Nat} {ro : List (Nat × Nat × (Nat → Int32))} (h : I 65 49 = nI 0) : Pv 0 0 0 CX12_back [.ref (65)] (gS, I, J, gR p, ro) (qI (-5) (gS, I, J, gR p, ro)) := by
  refine ⟨okCX12_back, Nat.le_of_ble_eq_true rfl, (show Px _ _ _ _ 0 [some (.ref (65)), none] [] _ _ from ?_)⟩
  refine px_aload_n (kk := 0) rfl rfl rfl ?_
  refine px_getIe (v := nI 0) rfl gS_65 rfl h ?_
  refine px_if_ne rfl (fun h => absurd h (by decide)) (fun _ => ?_)
  refine px_bipush (v := -5) rfl b_m5 ?_
  refine px_ireturn rfl (.inl rfl) ?_
  exact ⟨rfl, rfl⟩
theorem vX12_back_t {I : Nat → Nat → Int32} {J : Nat → Nat → Int64} {p : Bool × Option Nat} {ro : List (Nat × Nat × (Nat → Int32))} {n : Nat} (hn : I 65 1 = nI n) (hn8 : n ≤ 8) {m : Nat} (h : I 65 49 = nI 1) (hm : I 65 50 = nI m) (hmn : m ≤ n) : Pv 0 0 0 CX12_back [.ref (65)] (gS, I, J, gR p, ro) (fun r S' => r = some (.int (I 95 0)) ∧ ∃ I', S' = (gS, I', J, gR p, ro) ∧ Fr [66, 70, 71, 91] I I' ∧ I' 66 = (fun j => if j < m then I 92 j else I 66 j) ∧ (∀ l, l < n → I' 70 l = (if l < m then I 93 l else -1) ∧ I' 71 l = (if l < m then I 94 l else nI 0)) ∧ ∀ l, l < 4 → I' 91 l = I 95 l) := by
  refine ⟨okCX12_back, Nat.le_of_ble_eq_true rfl, (show Px _ _ _ _ 0 [some (.ref (65)), none] [] _ _ from ?_)⟩
  refine px_aload_n (kk := 0) rfl rfl rfl ?_
  refine px_getIe (v := nI 1) rfl gS_65 rfl h ?_
  refine px_if_ne rfl (fun _ => ?_) (fun h => absurd h (by decide))
  refine px_iconst (v := nI 0) rfl k_0 ?_
  refine px_ist1 rfl rfl (by decide) ?_
  refine lX12_bk1 (I := I) (I0 := I) (n := n) hn hm hmn hn8 (k := 0) (by omega) (I1 := I) ⟨Fr_rf, by funext j; simp, fun l hl => absurd hl (by omega)⟩ (fun I2 h2 => ?_)
  refine px_iconst (v := nI 0) rfl k_0 ?_
  refine px_ist1 rfl rfl (by decide) ?_
  refine pxv_post (lX12_bk2 (I := I) (I0 := I2) (k := 0) (by omega) Fr_rf (fun l hl => absurd hl (by omega))) (fun r S hr => ?_)
  obtain ⟨rfl, I3, rfl, f3, g3⟩ := hr
  refine ⟨?_, I3, rfl, Fr_tr (Fr_mo h2.1 (by decide)) (Fr_mo f3 (by decide)), ?_, fun l hl => ?_, fun l hl => ?_⟩
  · rw [h2.1 95 (by decide)]
  · rw [f3 66 (by decide), h2.2.1]
    funext j
    by_cases q : j < m
    · simp only [if_pos q, if_pos (show j < n ∧ j < m from ⟨by omega, q⟩)]
    · simp only [if_neg q, if_neg (show ¬ (j < n ∧ j < m) from fun z => q z.2)]
  · rw [f3 70 (by decide), f3 71 (by decide)]
    exact h2.2.2 l hl
  · rw [g3 l hl, h2.1 95 (by decide)]
