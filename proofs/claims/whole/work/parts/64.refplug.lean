/-! the reference: who is through in an hour -/
def sp_cn (M : Nat → Int32) : Nat → Nat
  | 0 => 0
  | k + 1 => sp_cn M k + if nI k < M k then 1 else 0
theorem sp_cn_le (M : Nat → Int32) : ∀ k, sp_cn M k ≤ k
  | 0 => Nat.le_refl _
  | k + 1 => by
    have := sp_cn_le M k
    simp only [sp_cn]
    split <;> omega
theorem sp_cn_congr {M N : Nat → Int32} : ∀ {k : Nat}, (∀ l, l < k → M l = N l) → sp_cn M k = sp_cn N k
  | 0, _ => rfl
  | k + 1, h => by simp only [sp_cn]; rw [sp_cn_congr (fun l hl => h l (by omega)), h k (by omega)]
/-- one place told anew -/
theorem sp_cn_up {M : Nat → Int32} {a : Nat} {v : Int32} (h : ¬ nI a < M a) : ∀ {k : Nat}, sp_cn (va_up M a v) k = sp_cn M k + if a < k ∧ nI a < v then 1 else 0
  | 0 => by simp [sp_cn]
  | k + 1 => by
    simp only [sp_cn]
    rw [sp_cn_up h (k := k)]
    by_cases e : k = a
    · subst e
      rw [p_up_s, if_neg (show ¬ (k < k ∧ nI k < v) from fun z => by omega), if_neg h]
      by_cases q : nI k < v
      · rw [if_pos q, if_pos ⟨by omega, q⟩]
      · rw [if_neg q, if_neg (fun z => q z.2)]
    · rw [p_up_n _ _ e]
      by_cases q : a < k ∧ nI a < v
      · rw [if_pos q, if_pos (show a < k + 1 ∧ nI a < v from ⟨by omega, q.2⟩)]; omega
      · rw [if_neg q, if_neg (show ¬ (a < k + 1 ∧ nI a < v) from fun z => q ⟨by omega, z.2⟩)]; omega
theorem sp_cn_tie {n : Nat} (hn : n ≤ 8) {M : Nat → Int32} {a b : Nat} (ha : a < n) (hb : b < n) (hne : a ≠ b) (h1 : M a = -1) (h2 : M b = -1) : sp_cn (va_up (va_up M a (nI b)) b (nI a)) n = sp_cn M n + 1 := by
  have z : ∀ k, k < n → ¬ nI k < (-1 : Int32) := fun k hk e => by
    rw [i_lt, nI_toInt (by omega), show (-1 : Int32).toInt = -1 from by decide +kernel] at e
    omega
  rw [sp_cn_up (by rw [p_up_n _ _ (fun e => hne e.symm), h2]; exact z b hb), sp_cn_up (by rw [h1]; exact z a ha)]
  rcases Nat.lt_or_ge a b with h | h
  · rw [if_pos (show a < n ∧ nI a < nI b from ⟨ha, (n_lt (by omega) (by omega)).mpr h⟩), if_neg (show ¬ (b < n ∧ nI b < nI a) from fun z => by have := (n_lt (by omega) (by omega)).mp z.2; omega)]
  · rw [if_neg (show ¬ (a < n ∧ nI a < nI b) from fun z => by have := (n_lt (by omega) (by omega)).mp z.2; omega), if_pos (show b < n ∧ nI b < nI a from ⟨hb, (n_lt (by omega) (by omega)).mpr (by omega)⟩)]
theorem MT_gt {n : Nat} {M : Nat → Int32} (h : MT n M) (l : Nat) (hl : l < n) : (M l ≤ nI l) ∨ nI l < M l := by
  rw [i_le, i_lt]; omega
theorem lX12_cordsIn {I : Nat → Nat → Int32} {J : Nat → Nat → Int64} {p : Bool × Option Nat} {ro : List (Nat × Nat × (Nat → Int32))} {n : Nat} (hn : I 65 1 = nI n) (hn8 : n ≤ 8) {k : Nat} (hk : k ≤ n) : Px 0 0 0 CX12_cordsIn 4 [some (.ref (65)), some (.int ((nI (sp_cn (I 85) k)))), some (.int (nI k))] [] (gS, I, J, gR p, ro) (qI (nI (sp_cn (I 85) n)) (gS, I, J, gR p, ro)) := by
  refine px_iload_n (kk := 2) rfl rfl rfl ?_
  refine px_aload_n (kk := 0) rfl rfl rfl ?_
  refine px_getIe (v := nI n) rfl gS_65 rfl hn ?_
  refine px_icmp_ge rfl (fun c7 => ?_) (fun c7 => ?_)
  · refine px_iload_n (kk := 1) rfl rfl rfl ?_
    refine px_ireturn rfl (.inl rfl) ?_
    rw [n_le (by omega) (by omega)] at c7
    obtain rfl : k = n := by omega
    exact ⟨rfl, rfl⟩
  · rw [n_le (by omega) (by omega)] at c7
    refine px_aload_n (kk := 0) rfl rfl rfl ?_
    refine px_getR (r := 85) rfl gS_65 rfl (gR_65_31 _) ?_
    refine px_iload_n (kk := 2) rfl rfl rfl ?_
    refine px_iald (j := k) rfl gS_85 rfl (by omega) ?_
    refine px_iload_n (kk := 2) rfl rfl rfl ?_
    refine px_icmp_le rfl (fun c13 => ?_) (fun c13 => ?_)
    · refine px_iinc2 (v := nI (k + 1)) rfl (n_inc k) rfl (by decide) ?_
      refine px_goto rfl ?_
      rw [show (sp_cn (I 85) k) = (sp_cn (I 85) (k + 1)) from by simp only [sp_cn]; rw [if_neg (by rw [i_lt]; rw [i_le] at c13; omega)]; rfl]
      exact lX12_cordsIn hn hn8 (k := k + 1) (by omega)
    · refine px_iinc1 rfl rfl rfl (by decide) ?_
      refine px_iinc2 (v := nI (k + 1)) rfl (n_inc k) rfl (by decide) ?_
      refine px_goto rfl ?_
      refine px_l1 (y := nI (sp_cn (I 85) (k + 1))) ?_ (lX12_cordsIn hn hn8 (k := k + 1) (by omega))
      simp only [sp_cn]
      rw [if_pos (by rw [i_lt]; rw [i_le] at c13; omega)]
      try exact n_inc _
termination_by n - k
decreasing_by all_goals (have h := ‹¬ nI n ≤ nI k›; rw [n_le (by omega) (by omega)] at h; omega)
theorem vX12_cordsIn {I : Nat → Nat → Int32} {J : Nat → Nat → Int64} {p : Bool × Option Nat} {ro : List (Nat × Nat × (Nat → Int32))} {n : Nat} (hn : I 65 1 = nI n) (hn8 : n ≤ 8) : Pv 0 0 0 CX12_cordsIn [.ref (65)] (gS, I, J, gR p, ro) (qI (nI (sp_cn (I 85) n)) (gS, I, J, gR p, ro)) := by
  refine ⟨okCX12_cordsIn, Nat.le_of_ble_eq_true rfl, (show Px _ _ _ _ 0 [some (.ref (65)), none, none] [] _ _ from ?_)⟩
  refine px_iconst (v := nI 0) rfl k_0 ?_
  refine px_ist1 rfl rfl (by decide) ?_
  refine px_iconst (v := nI 0) rfl k_0 ?_
  refine px_ist2 rfl rfl (by decide) ?_
  exact lX12_cordsIn hn hn8 (k := 0) (by omega)
theorem vX12_mayPlug {I : Nat → Nat → Int32} {J : Nat → Nat → Int64} {p : Bool × Option Nat} {ro : List (Nat × Nat × (Nat → Int32))} {n : Nat} (hn : I 65 1 = nI n) (hn8 : n ≤ 8) (hM : MT n (I 85)) {x y : Int32} : Pv 2 0 0 CX12_mayPlug [.ref (65), .int (x), .int (y)] (gS, I, J, gR p, ro) (qB (∃ a b, a < n ∧ b < n ∧ a ≠ b ∧ x = nI a ∧ y = nI b ∧ I 85 a = -1 ∧ I 85 b = -1 ∧ nI (sp_cn (I 85) n) < I 65 6) (gS, I, J, gR p, ro)) := by
  refine ⟨okCX12_mayPlug, Nat.le_of_ble_eq_true rfl, (show Px _ _ _ _ 0 [some (.ref (65)), some (.int (x)), some (.int (y))] [] _ _ from ?_)⟩
  refine px_aload_n (kk := 0) rfl rfl rfl ?_
  refine px_iload_n (kk := 1) rfl rfl rfl ?_
  refine px_callV0 CX12_isLine [] [.int _] (vX12_isLine hn hn8) rfl gS_65 (by decide) rfl rfl rfl (Nat.le_of_ble_eq_true rfl) (by decide) ?_
  rintro _ _ - (⟨⟨a, ha, rfl⟩, rfl, rfl⟩ | ⟨hx, rfl, rfl⟩)
  · refine px_if_eq rfl (fun h => absurd h (by decide)) (fun _ => ?_)
    refine px_aload_n (kk := 0) rfl rfl rfl ?_
    refine px_iload_n (kk := 2) rfl rfl rfl ?_
    refine px_callV0 CX12_isLine [] [.int _] (vX12_isLine hn hn8) rfl gS_65 (by decide) rfl rfl rfl (Nat.le_of_ble_eq_true rfl) (by decide) ?_
    rintro _ _ - (⟨⟨b, hb, rfl⟩, rfl, rfl⟩ | ⟨hy, rfl, rfl⟩)
    · refine px_if_eq rfl (fun h => absurd h (by decide)) (fun _ => ?_)
      refine px_iload_n (kk := 1) rfl rfl rfl ?_
      refine px_iload_n (kk := 2) rfl rfl rfl ?_
      refine px_icmp_eq rfl (fun c10 => ?_) (fun c10 => ?_)
      · refine px_iconst (v := nI 0) rfl k_0 ?_
        refine px_ireturn rfl (.inr ⟨rfl, by decide⟩) ?_
        exact qB_f (fun ⟨a2, b2, h1, h2, h3, e1, e2, h4, h5, h6⟩ => by rw [n_eq (by omega) (by omega)] at e1 e2; subst e1; subst e2; rw [n_eq (by omega) (by omega)] at c10; exact h3 c10)
      · refine px_aload_n (kk := 0) rfl rfl rfl ?_
        refine px_getR (r := 85) rfl gS_65 rfl (gR_65_31 _) ?_
        refine px_iload_n (kk := 1) rfl rfl rfl ?_
        refine px_iald (j := a) rfl gS_85 rfl (by omega) ?_
        refine px_if_ge rfl (fun c15 => ?_) (fun c15 => ?_)
        · refine px_iconst (v := nI 0) rfl k_0 ?_
          refine px_ireturn rfl (.inr ⟨rfl, by decide⟩) ?_
          exact qB_f (fun ⟨a2, b2, h1, h2, h3, e1, e2, h4, h5, h6⟩ => by rw [n_eq (by omega) (by omega)] at e1 e2; subst e1; subst e2; rw [h4] at c15; exact absurd c15 (by decide))
        · refine px_aload_n (kk := 0) rfl rfl rfl ?_
          refine px_getR (r := 85) rfl gS_65 rfl (gR_65_31 _) ?_
          refine px_iload_n (kk := 2) rfl rfl rfl ?_
          refine px_iald (j := b) rfl gS_85 rfl (by omega) ?_
          refine px_if_ge rfl (fun c20 => ?_) (fun c20 => ?_)
          · refine px_iconst (v := nI 0) rfl k_0 ?_
            refine px_ireturn rfl (.inr ⟨rfl, by decide⟩) ?_
            exact qB_f (fun ⟨a2, b2, h1, h2, h3, e1, e2, h4, h5, h6⟩ => by rw [n_eq (by omega) (by omega)] at e1 e2; subst e1; subst e2; rw [h5] at c20; exact absurd c20 (by decide))
          · refine px_aload_n (kk := 0) rfl rfl rfl ?_
            refine px_callV0 CX12_cordsIn [] [] (vX12_cordsIn hn hn8) rfl gS_65 (by decide) rfl rfl rfl (Nat.le_of_ble_eq_true rfl) (by decide) ?_
            rintro _ _ - ⟨rfl, rfl⟩
            refine px_aload_n (kk := 0) rfl rfl rfl ?_
            refine px_getI rfl gS_65 rfl ?_
            refine px_icmp_ge rfl (fun c25 => ?_) (fun c25 => ?_)
            · refine px_iconst (v := nI 0) rfl k_0 ?_
              refine px_ireturn rfl (.inr ⟨rfl, by decide⟩) ?_
              exact qB_f (fun ⟨a2, b2, h1, h2, h3, e1, e2, h4, h5, h6⟩ => by rw [n_eq (by omega) (by omega)] at e1 e2; subst e1; subst e2; rw [i_lt] at h6; rw [i_le] at c25; omega)
            · refine px_iconst (v := nI 1) rfl k_1 ?_
              refine px_goto rfl ?_
              refine px_ireturn rfl (.inr ⟨rfl, by decide⟩) ?_
              exact qB_t ⟨a, b, ha, hb, fun e => c10 (by rw [e]), rfl, rfl, (MT_ge hM ha hn8).mp (by rw [i_lt]; rw [i_le] at c15; omega), (MT_ge hM hb hn8).mp (by rw [i_lt]; rw [i_le] at c20; omega), by rw [i_lt]; rw [i_le] at c25; omega⟩
    · refine px_if_eq rfl (fun _ => ?_) (fun h => absurd h (by decide))
      refine px_iconst (v := nI 0) rfl k_0 ?_
      refine px_ireturn rfl (.inr ⟨rfl, by decide⟩) ?_
      exact qB_f (fun ⟨_, b2, _, h2, _, _, e2, _⟩ => hy ⟨b2, h2, e2⟩)
  · refine px_if_eq rfl (fun _ => ?_) (fun h => absurd h (by decide))
    refine px_iconst (v := nI 0) rfl k_0 ?_
    refine px_ireturn rfl (.inr ⟨rfl, by decide⟩) ?_
    exact qB_f (fun ⟨a2, _, h1, _, _, e1, _⟩ => hx ⟨a2, h1, e1⟩)
theorem vX12_plugs {I : Nat → Nat → Int32} {J : Nat → Nat → Int64} {p : Bool × Option Nat} {ro : List (Nat × Nat × (Nat → Int32))} {a b : Nat} (ha : a < 8) (hb : b < 8) : Pv 0 0 0 CX12_plugs [.ref (65), .int (nI a), .int (nI b)] (gS, I, J, gR p, ro) (qV (gS, (va_up I 85 (va_up (va_up (I 85) a (nI b)) b (nI a))), J, gR p, ro)) := by
  refine ⟨okCX12_plugs, Nat.le_of_ble_eq_true rfl, (show Px _ _ _ _ 0 [some (.ref (65)), some (.int (nI a)), some (.int (nI b))] [] _ _ from ?_)⟩
  refine px_aload_n (kk := 0) rfl rfl rfl ?_
  refine px_getR (r := 85) rfl gS_65 rfl (gR_65_31 _) ?_
  refine px_iload_n (kk := 1) rfl rfl rfl ?_
  refine px_iload_n (kk := 2) rfl rfl rfl ?_
  refine px_iast (j := a) rfl gS_85 rfl (by omega) ?_
  refine px_aload_n (kk := 0) rfl rfl rfl ?_
  refine px_getR (r := 85) rfl gS_65 rfl (gR_65_31 _) ?_
  refine px_iload_n (kk := 2) rfl rfl rfl ?_
  refine px_iload_n (kk := 1) rfl rfl rfl ?_
  refine px_iast (j := b) rfl gS_85 rfl (by omega) ?_
  refine px_return rfl rfl ?_
  exact ⟨rfl, by rw [up2, p_up_s]⟩
theorem vX12_at {I : Nat → Nat → Int32} {J : Nat → Nat → Int64} {p : Bool × Option Nat} {ro : List (Nat × Nat × (Nat → Int32))} {s k : Nat} (hs : s < 6) (hk : k < 60) : Pv 0 0 0 CX12_at [.ref (65), .int (nI s), .int (nI k)] (gS, I, J, gR p, ro) (qI (J 100 (60 * s + k)).toInt32 (gS, I, J, gR p, ro)) := by
  refine ⟨okCX12_at, Nat.le_of_ble_eq_true rfl, (show Px _ _ _ _ 0 [some (.ref (65)), some (.int (nI s)), some (.int (nI k))] [] _ _ from ?_)⟩
  refine px_aload_n (kk := 0) rfl rfl rfl ?_
  refine px_getR (r := 100) rfl gS_65 rfl (gR_65_61 _) ?_
  refine px_bipush (v := nI 60) rfl b_60 ?_
  refine px_iload_n (kk := 1) rfl rfl rfl ?_
  refine px_imulN rfl ?_
  refine px_iload_n (kk := 2) rfl rfl rfl ?_
  refine px_iaddN rfl ?_
  refine px_lald (j := 60 * s + k) rfl gS_100 rfl (by omega) ?_
  refine px_l2i rfl ?_
  refine px_ireturn rfl (.inl rfl) ?_
  exact ⟨rfl, rfl⟩
theorem vX12_rowFault {I : Nat → Nat → Int32} {J : Nat → Nat → Int64} {p : Bool × Option Nat} {ro : List (Nat × Nat × (Nat → Int32))} {s : Nat} (hs : s < 6) : Pv 0 0 0 CX12_rowFault [.ref (65), .int (nI s)] (gS, I, J, gR p, ro) (fun r S' => S' = (gS, I, J, gR p, ro) ∧ ((I 98 s = -1 ∧ r = some (.int (-11))) ∨ (I 98 s ≠ -1 ∧ I 98 s = -2 ∧ r = some (.int (nI 0))) ∨ (I 98 s ≠ -1 ∧ I 98 s ≠ -2 ∧ r = some (.int (-12))))) := by
  refine ⟨okCX12_rowFault, Nat.le_of_ble_eq_true rfl, (show Px _ _ _ _ 0 [some (.ref (65)), some (.int (nI s))] [] _ _ from ?_)⟩
  refine px_aload_n (kk := 0) rfl rfl rfl ?_
  refine px_getR (r := 98) rfl gS_65 rfl (gR_65_59 _) ?_
  refine px_iload_n (kk := 1) rfl rfl rfl ?_
  refine px_iald (j := s) rfl gS_98 rfl (by omega) ?_
  refine px_iconst (v := -1) rfl k_m1 ?_
  refine px_icmp_ne rfl (fun c5 => ?_) (fun c5 => ?_)
  · refine px_aload_n (kk := 0) rfl rfl rfl ?_
    refine px_getR (r := 98) rfl gS_65 rfl (gR_65_59 _) ?_
    refine px_iload_n (kk := 1) rfl rfl rfl ?_
    refine px_iald (j := s) rfl gS_98 rfl (by omega) ?_
    refine px_bipush (v := -2) rfl b_m2 ?_
    refine px_icmp_ne rfl (fun c13 => ?_) (fun c13 => ?_)
    · refine px_bipush (v := -12) rfl b_m12 ?_
      refine px_ireturn rfl (.inl rfl) ?_
      exact ⟨rfl, .inr (.inr ⟨c5, c13, rfl⟩)⟩
    · refine px_iconst (v := nI 0) rfl k_0 ?_
      refine px_goto rfl ?_
      refine px_ireturn rfl (.inl rfl) ?_
      exact ⟨rfl, .inr (.inl ⟨c5, by first | exact c13 | exact Classical.byContradiction c13, rfl⟩)⟩
  · refine px_bipush (v := -11) rfl b_m11 ?_
    refine px_goto rfl ?_
    refine px_ireturn rfl (.inl rfl) ?_
    exact ⟨rfl, .inl ⟨by first | exact c5 | exact Classical.byContradiction c5, rfl⟩⟩
theorem vX12_beginDay {I : Nat → Nat → Int32} {J : Nat → Nat → Int64} {p : Bool × Option Nat} {ro : List (Nat × Nat × (Nat → Int32))} {n : Nat} (hn : I 65 1 = nI n) (hn8 : n ≤ 8) : Pv 1 0 0 CX12_beginDay [.ref (65)] (gS, I, J, gR p, ro) (fun r S' => r = none ∧ ∃ I', S' = (gS, I', J, gR p, ro) ∧ Fr [65, 84, 85, 86] I I' ∧ (∀ k, k ≠ 34 → k ≠ 35 → k ≠ 36 → I' 65 k = I 65 k) ∧ I' 65 34 = nI 0 ∧ I' 65 35 = nI 0 ∧ I' 65 36 = -1 ∧ (∀ l, l < n → I' 84 l = I 66 l) ∧ (∀ l, l < n → I' 85 l = -1) ∧ ∀ l, l < n → I' 86 l = nI 0) := by
  refine ⟨okCX12_beginDay, Nat.le_of_ble_eq_true rfl, (show Px _ _ _ _ 0 [some (.ref (65))] [] _ _ from ?_)⟩
  refine px_aload_n (kk := 0) rfl rfl rfl ?_
  refine px_callV0 CX12_layWarm [] [] (vX12_layWarm hn hn8) rfl gS_65 (by decide) rfl rfl rfl (Nat.le_of_ble_eq_true rfl) (by decide) ?_
  rintro _ _ - ⟨rfl, rfl⟩
  refine px_aload_n (kk := 0) rfl rfl rfl ?_
  refine px_callV0 CX12_layNobody [] [] (vX12_layNobody ((congrFun (p_up_n _ _ (by decide)) 1).trans hn) hn8) rfl gS_65 (by decide) rfl rfl rfl (Nat.le_of_ble_eq_true rfl) (by decide) ?_
  rintro _ _ - ⟨rfl, rfl⟩
  refine px_aload_n (kk := 0) rfl rfl rfl ?_
  refine px_iconst (v := nI 0) rfl k_0 ?_
  refine px_putI rfl gS_65 rfl rfl ?_
  refine px_aload_n (kk := 0) rfl rfl rfl ?_
  refine px_iconst (v := nI 0) rfl k_0 ?_
  refine px_putI rfl gS_65 rfl rfl ?_
  refine px_aload_n (kk := 0) rfl rfl rfl ?_
  refine px_iconst (v := -1) rfl k_m1 ?_
  refine px_putI rfl gS_65 rfl rfl ?_
  refine px_return rfl rfl ?_
  refine ⟨rfl, _, rfl, Fr_up (Fr_up (Fr_up (Fr_up (Fr_up (Fr_up Fr_rf (by decide) _) (by decide) _) (by decide) _) (by decide) _) (by decide) _) (by decide) _, fun k h1 h2 h3 => ?_, ?_, ?_, ?_, fun l hl => ?_, fun l hl => ?_, fun l hl => ?_⟩
  · simp only [up2, p_up_s, p_up_n _ _ h1, p_up_n _ _ h2, p_up_n _ _ h3, p_up_n _ _ (show (65 : Nat) ≠ 84 by decide), p_up_n _ _ (show (65 : Nat) ≠ 85 by decide), p_up_n _ _ (show (65 : Nat) ≠ 86 by decide)]
  · simp only [up2, p_up_s, p_up_n _ _ (show (34 : Nat) ≠ 35 by decide), p_up_n _ _ (show (34 : Nat) ≠ 36 by decide)]
  · simp only [up2, p_up_s, p_up_n _ _ (show (35 : Nat) ≠ 36 by decide)]
  · simp only [up2, p_up_s]
  · simp only [p_up_s, p_up_n _ _ (show (84 : Nat) ≠ 65 by decide), p_up_n _ _ (show (84 : Nat) ≠ 85 by decide), p_up_n _ _ (show (84 : Nat) ≠ 86 by decide), if_pos hl]
  · simp only [p_up_s, p_up_n _ _ (show (85 : Nat) ≠ 65 by decide), p_up_n _ _ (show (85 : Nat) ≠ 86 by decide), if_pos hl]
  · simp only [p_up_s, p_up_n _ _ (show (86 : Nat) ≠ 65 by decide), if_pos hl]
def wiR (g v : Int32) : Prop := 0 ≤ g ∧ 0 ≤ v ∧ (v / nI 10 = g ∨ v - v / nI 10 * nI 10 = g)
theorem vX12_isWithout {I : Nat → Nat → Int32} {J : Nat → Nat → Int64} {p : Bool × Option Nat} {ro : List (Nat × Nat × (Nat → Int32))} {v : Int32} : Pv 0 0 0 CX12_isWithout [.ref (65), .int (v)] (gS, I, J, gR p, ro) (qB (wiR (I 65 36) v) (gS, I, J, gR p, ro)) := by
  refine ⟨okCX12_isWithout, Nat.le_of_ble_eq_true rfl, (show Px _ _ _ _ 0 [some (.ref (65)), some (.int (v))] [] _ _ from ?_)⟩
  refine px_aload_n (kk := 0) rfl rfl rfl ?_
  refine px_getI rfl gS_65 rfl ?_
  refine px_if_lt rfl (fun c2 => ?_) (fun c2 => ?_)
  · refine px_iconst (v := nI 0) rfl k_0 ?_
    refine px_ireturn rfl (.inr ⟨rfl, by decide⟩) ?_
    exact qB_f (fun z => by have := z.1; rw [i_le] at this; rw [i_lt] at c2; omega)
  · refine px_iload_n (kk := 1) rfl rfl rfl ?_
    refine px_if_lt rfl (fun c4 => ?_) (fun c4 => ?_)
    · refine px_iconst (v := nI 0) rfl k_0 ?_
      refine px_ireturn rfl (.inr ⟨rfl, by decide⟩) ?_
      exact qB_f (fun z => by have := z.2.1; rw [i_le] at this; rw [i_lt] at c4; omega)
    · refine px_iload_n (kk := 1) rfl rfl rfl ?_
      refine px_bipush (v := nI 10) rfl b_10 ?_
      refine px_idiv rfl (by decide) ?_
      refine px_aload_n (kk := 0) rfl rfl rfl ?_
      refine px_getI rfl gS_65 rfl ?_
      refine px_icmp_eq rfl (fun c10 => ?_) (fun c10 => ?_)
      · refine px_iconst (v := nI 1) rfl k_1 ?_
        refine px_goto rfl ?_
        refine px_ireturn rfl (.inr ⟨rfl, by decide⟩) ?_
        exact qB_t ⟨by rw [i_le]; rw [i_lt] at c2; omega, by rw [i_le]; rw [i_lt] at c4; omega, .inl c10⟩
      · refine px_iload_n (kk := 1) rfl rfl rfl ?_
        refine px_bipush (v := nI 10) rfl b_10 ?_
        refine px_irem rfl (by decide) ?_
        refine px_aload_n (kk := 0) rfl rfl rfl ?_
        refine px_getI rfl gS_65 rfl ?_
        refine px_icmp_ne rfl (fun c16 => ?_) (fun c16 => ?_)
        · refine px_iconst (v := nI 0) rfl k_0 ?_
          refine px_ireturn rfl (.inr ⟨rfl, by decide⟩) ?_
          exact qB_f (fun z => z.2.2.elim c10 c16)
        · refine px_iconst (v := nI 1) rfl k_1 ?_
          refine px_goto rfl ?_
          refine px_ireturn rfl (.inr ⟨rfl, by decide⟩) ?_
          exact qB_t ⟨by rw [i_le]; rw [i_lt] at c2; omega, by rw [i_le]; rw [i_lt] at c4; omega, .inr (by first | exact c16 | exact Classical.byContradiction c16)⟩
