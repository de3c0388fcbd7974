/-! the reference: shelves -/
def RS (z : Nat) (h : Int32) : Prop := h = -1 ∨ (∃ t, t < 5 ∧ h = -2 - nI t) ∨ ∃ b, b < z ∧ h = nI b
theorem rs_1 {t : Nat} (h : t < 5) : ¬ (-2 - nI t : Int32) = -1 := by
  rcases (by omega : t = 0 ∨ t = 1 ∨ t = 2 ∨ t = 3 ∨ t = 4) with rfl | rfl | rfl | rfl | rfl <;> decide +kernel
theorem rs_neg {t : Nat} (h : t < 5) : (-2 - nI t : Int32) < 0 := by
  rcases (by omega : t = 0 ∨ t = 1 ∨ t = 2 ∨ t = 3 ∨ t = 4) with rfl | rfl | rfl | rfl | rfl <;> decide +kernel
theorem rs_back {t : Nat} (h : t < 5) : (-2 - (-2 - nI t) : Int32) = nI t := by
  rcases (by omega : t = 0 ∨ t = 1 ∨ t = 2 ∨ t = 3 ∨ t = 4) with rfl | rfl | rfl | rfl | rfl <;> decide +kernel
theorem rs_eq {t u : Nat} (h : t < 5) (h2 : u < 5) : (-2 - nI t : Int32) = -2 - nI u ↔ t = u := by
  constructor
  · intro e
    have e2 := congrArg (fun x : Int32 => -2 - x) e
    simp only [rs_back h, rs_back h2] at e2
    exact (n_eq (by omega) (by omega)).mp e2
  · rintro rfl; rfl
theorem rs_b {b : Nat} (h : b < 50) : ¬ nI b = (-1 : Int32) := nI_nm (by omega)
theorem in_lt3 {n : Nat} (hn : n ≤ 1000) {x : Int32} : (nI 0 ≤ x ∧ x ≤ nI n - nI 1) ↔ ∃ a, a < n ∧ x = nI a := by
  rcases Nat.eq_zero_or_pos n with rfl | h
  · constructor
    · rintro ⟨h1, h2⟩
      rw [i_le, nI_toInt (by decide)] at h1
      rw [i_le, show (nI 0 - nI 1).toInt = -1 from by decide +kernel] at h2
      omega
    · rintro ⟨a, ha, _⟩; omega
  · rw [n_sub (by omega), in_nn (by decide) (by omega)]
    constructor
    · rintro ⟨a, _, h2, e⟩; exact ⟨a, by omega, e⟩
    · rintro ⟨a, h2, e⟩; exact ⟨a, Nat.zero_le _, by omega, e⟩
theorem sub_n {z m a : Nat} (hz : z ≤ 1000) (hm : m < 2 ^ 31) (ha : a < 2 ^ 31) : nI z - nI m < nI a ↔ z < a + m := by
  rw [i_lt, Int32.toInt_sub, nI_toInt (by omega), nI_toInt hm, nI_toInt ha, Int.bmod_eq_of_le (by omega) (by omega)]
  omega
theorem vX12_keep {I : Nat → Nat → Int32} {J : Nat → Nat → Int64} {p : Bool × Option Nat} {ro : List (Nat × Nat × (Nat → Int32))} {nb : Nat} (hz : I 65 55 = nI nb) (hb50 : nb ≤ 50) {x y : Int32} : Pv 2 0 0 CX12_keep [.ref (65), .int (x), .int (y)] (gS, I, J, gR p, ro) (fun r S' => (¬ ((∃ s, s < 6 ∧ x = nI s) ∧ (y = -1 ∨ ∃ b, b < nb ∧ y = nI b)) ∧ r = some (.int (-1)) ∧ S' = (gS, I, J, gR p, ro)) ∨ (∃ s, s < 6 ∧ x = nI s ∧ (y = -1 ∨ ∃ b, b < nb ∧ y = nI b) ∧ r = some (.int (nI 1)) ∧ S' = (gS, (va_up I 98 (va_up (I 98) s y)), J, gR p, ro))) := by
  refine ⟨okCX12_keep, Nat.le_of_ble_eq_true rfl, (show Px _ _ _ _ 0 [some (.ref (65)), some (.int (x)), some (.int (y))] [] _ _ from ?_)⟩
  refine px_iload_n (kk := 1) rfl rfl rfl ?_
  refine px_callS0 CX12_isShelf [] [.int _] (vX12_isShelf) rfl rfl rfl (Nat.le_of_ble_eq_true rfl) (by decide) ?_
  rintro _ _ - (⟨⟨s, hs, rfl⟩, rfl, rfl⟩ | ⟨hs, rfl, rfl⟩)
  · refine px_if_eq rfl (fun h => absurd h (by decide)) (fun _ => ?_)
    refine px_iload_n (kk := 2) rfl rfl rfl ?_
    refine px_iconst (v := -1) rfl k_m1 ?_
    refine px_icmp_eq rfl (fun c5 => ?_) (fun c5 => ?_)
    · refine px_aload_n (kk := 0) rfl rfl rfl ?_
      refine px_getR (r := 98) rfl gS_65 rfl (gR_65_59 _) ?_
      refine px_iload_n (kk := 1) rfl rfl rfl ?_
      refine px_iload_n (kk := 2) rfl rfl rfl ?_
      refine px_iast (j := s) rfl gS_98 rfl hs ?_
      refine px_iconst (v := nI 1) rfl k_1 ?_
      refine px_ireturn rfl (.inl rfl) ?_
      exact .inr ⟨s, hs, rfl, .inl (by first | exact c5 | exact Classical.byContradiction c5), rfl, rfl⟩
    · refine px_aload_n (kk := 0) rfl rfl rfl ?_
      refine px_iload_n (kk := 2) rfl rfl rfl ?_
      refine px_callV0 CX12_isBody [] [.int _] (vX12_isBody hz hb50) rfl gS_65 (by decide) rfl rfl rfl (Nat.le_of_ble_eq_true rfl) (by decide) ?_
      rintro _ _ - (⟨hb, rfl, rfl⟩ | ⟨hb, rfl, rfl⟩)
      · refine px_if_ne rfl (fun _ => ?_) (fun h => absurd h (by decide))
        refine px_aload_n (kk := 0) rfl rfl rfl ?_
        refine px_getR (r := 98) rfl gS_65 rfl (gR_65_59 _) ?_
        refine px_iload_n (kk := 1) rfl rfl rfl ?_
        refine px_iload_n (kk := 2) rfl rfl rfl ?_
        refine px_iast (j := s) rfl gS_98 rfl hs ?_
        refine px_iconst (v := nI 1) rfl k_1 ?_
        refine px_ireturn rfl (.inl rfl) ?_
        exact .inr ⟨s, hs, rfl, .inr hb, rfl, rfl⟩
      · refine px_if_ne rfl (fun h => absurd h (by decide)) (fun _ => ?_)
        refine px_iconst (v := -1) rfl k_m1 ?_
        refine px_ireturn rfl (.inl rfl) ?_
        exact .inl ⟨fun h => h.2.elim c5 hb, rfl, rfl⟩
  · refine px_if_eq rfl (fun _ => ?_) (fun h => absurd h (by decide))
    refine px_iconst (v := -1) rfl k_m1 ?_
    refine px_ireturn rfl (.inl rfl) ?_
    exact .inl ⟨fun h => hs h.1, rfl, rfl⟩
theorem fillJ {f : Nat → Int64} {p k : Nat} {v : Int64} : va_up (fun j => if p ≤ j ∧ j < p + k then v else f j) (p + k) v = fun j => if p ≤ j ∧ j < p + (k + 1) then v else f j := by
  funext j
  by_cases e : j = p + k
  · subst e; rw [p_up_s, if_pos ⟨by omega, by omega⟩]
  · rw [p_up_n _ _ e]
    by_cases h : p ≤ j ∧ j < p + k
    · rw [if_pos h, if_pos ⟨h.1, by omega⟩]
    · rw [if_neg h, if_neg (fun z => h ⟨z.1, by omega⟩)]
theorem fillJ0 {J : Nat → Nat → Int64} {c p : Nat} (f : Nat → Int64) : J = va_up J c (fun j => if p ≤ j ∧ j < p + 0 then f j else J c j) := by
  funext d
  by_cases e : d = c
  · subst e
    rw [p_up_s]
    funext j
    rw [if_neg (fun z => by omega)]
  · rw [p_up_n _ _ e]
theorem up_upJ (J : Nat → Nat → Int64) (a : Nat) (f g : Nat → Int64) : va_up (va_up J a f) a g = va_up J a g := up_up J a f g
theorem lX12_row {I : Nat → Nat → Int32} {J : Nat → Nat → Int64} {p : Bool × Option Nat} {ro : List (Nat × Nat × (Nat → Int32))} {s : Nat} (hs : s < 6) {y w : Int32} {k : Nat} (hk : k ≤ 60) : Px 2 0 0 CX12_row 33 [some (.ref (65)), some (.int (nI s)), some (.int (y)), some (.int (w)), some (.int (nI (60 * s + k)))] [] (gS, I, (va_up J 100 (fun j => if 60 * s ≤ j ∧ j < 60 * s + k then 0 else J 100 j)), gR p, ro) (fun r S' => r = some (.int (nI 1)) ∧ S' = (gS, I, (va_up J 100 (fun j => if 60 * s ≤ j ∧ j < 60 * s + 60 then 0 else J 100 j)), gR p, ro)) := by
  refine px_iload rfl rfl ?_
  refine px_bipush (v := nI 60) rfl b_60 ?_
  refine px_iload_n (kk := 1) rfl rfl rfl ?_
  refine px_imulN rfl ?_
  refine px_bipush (v := nI 60) rfl b_60 ?_
  refine px_iaddN rfl ?_
  refine px_icmp_ge rfl (fun c39 => ?_) (fun c39 => ?_)
  · refine px_iconst (v := nI 1) rfl k_1 ?_
    refine px_ireturn rfl (.inl rfl) ?_
    rw [n_le (by omega) (by omega)] at c39
    obtain rfl : k = 60 := by omega
    exact ⟨rfl, rfl⟩
  · rw [n_le (by omega) (by omega)] at c39
    refine px_aload_n (kk := 0) rfl rfl rfl ?_
    refine px_getR (r := 100) rfl gS_65 rfl (gR_65_61 _) ?_
    refine px_iload rfl rfl ?_
    refine px_lconst (v := 0) rfl (by decide) ?_
    refine px_last (j := (60 * s + k)) rfl gS_100 rfl (by omega) ?_
    refine px_iinc4 (v := nI ((60 * s + k) + 1)) rfl (n_inc (60 * s + k)) rfl (by decide) ?_
    refine px_goto rfl ?_
    refine px_memJ ?_ (lX12_row hs (k := k + 1) (by omega))
    rw [p_up_s, fillJ, up_upJ]
termination_by 60 - k
decreasing_by all_goals (have h := ‹¬ nI (60 * s + 60) ≤ nI (60 * s + k)›; rw [n_le (by omega) (by omega)] at h; omega)
theorem vX12_row {I : Nat → Nat → Int32} {J : Nat → Nat → Int64} {p : Bool × Option Nat} {ro : List (Nat × Nat × (Nat → Int32))} {x y w : Int32} : Pv 2 0 0 CX12_row [.ref (65), .int (x), .int (y), .int (w)] (gS, I, J, gR p, ro) (fun r S' => (¬ ((∃ s, s < 6 ∧ x = nI s) ∧ (∃ t, t < 5 ∧ y = nI t) ∧ ¬ nI 60 < w) ∧ r = some (.int (-1)) ∧ S' = (gS, I, J, gR p, ro)) ∨ ((∃ s, s < 6 ∧ x = nI s) ∧ (∃ t, t < 5 ∧ y = nI t) ∧ w < 0 ∧ r = some (.int (-14)) ∧ S' = (gS, I, J, gR p, ro)) ∨ (∃ s t m, s < 6 ∧ x = nI s ∧ t < 5 ∧ y = nI t ∧ m ≤ 60 ∧ w = nI m ∧ r = some (.int (nI 1)) ∧ S' = (gS, (va_up (va_up I 98 (va_up (I 98) s (-2 - nI t))) 99 (va_up (I 99) s (nI m))), (va_up J 100 (fun j => if 60 * s ≤ j ∧ j < 60 * s + 60 then 0 else J 100 j)), gR p, ro))) := by
  refine ⟨okCX12_row, Nat.le_of_ble_eq_true rfl, (show Px _ _ _ _ 0 [some (.ref (65)), some (.int (x)), some (.int (y)), some (.int (w)), none] [] _ _ from ?_)⟩
  refine px_iload_n (kk := 1) rfl rfl rfl ?_
  refine px_callS0 CX12_isShelf [] [.int _] (vX12_isShelf) rfl rfl rfl (Nat.le_of_ble_eq_true rfl) (by decide) ?_
  rintro _ _ - (⟨⟨s, hs, rfl⟩, rfl, rfl⟩ | ⟨hs, rfl, rfl⟩)
  · refine px_if_eq rfl (fun h => absurd h (by decide)) (fun _ => ?_)
    refine px_iload_n (kk := 2) rfl rfl rfl ?_
    refine px_iconst (v := nI 0) rfl k_0 ?_
    refine px_iconst (v := nI 4) rfl k_4 ?_
    refine px_callS0 CX12_in [] [.int _, .int _, .int _] (vX12_in) rfl rfl rfl (Nat.le_of_ble_eq_true rfl) (by decide) ?_
    rintro _ _ - (⟨ht, rfl, rfl⟩ | ⟨ht, rfl, rfl⟩)
    · obtain ⟨t, -, ht, rfl⟩ := (in_nn (by decide) (by decide)).mp ht
      refine px_if_eq rfl (fun h => absurd h (by decide)) (fun _ => ?_)
      refine px_iload_n (kk := 3) rfl rfl rfl ?_
      refine px_bipush (v := nI 60) rfl b_60 ?_
      refine px_icmp_le rfl (fun c10 => ?_) (fun c10 => ?_)
      · refine px_iload_n (kk := 3) rfl rfl rfl ?_
        refine px_if_ge rfl (fun c14 => ?_) (fun c14 => ?_)
        · have c14n : ¬ w < 0 := fun e => by rw [i_lt] at e; rw [i_le] at c14; omega
          obtain ⟨m, hm, rfl⟩ := n_ofn c14n
          have hm60 : m ≤ 60 := by rw [n_le hm (by omega)] at c10; exact c10
          refine px_aload_n (kk := 0) rfl rfl rfl ?_
          refine px_getR (r := 98) rfl gS_65 rfl (gR_65_59 _) ?_
          refine px_iload_n (kk := 1) rfl rfl rfl ?_
          refine px_bipush (v := -2) rfl b_m2 ?_
          refine px_iload_n (kk := 2) rfl rfl rfl ?_
          refine px_isub rfl ?_
          refine px_iast (j := s) rfl gS_98 rfl hs ?_
          refine px_aload_n (kk := 0) rfl rfl rfl ?_
          refine px_getR (r := 99) rfl gS_65 rfl (gR_65_60 _) ?_
          refine px_iload_n (kk := 1) rfl rfl rfl ?_
          refine px_iload_n (kk := 3) rfl rfl rfl ?_
          refine px_iast (j := s) rfl gS_99 rfl hs ?_
          refine px_bipush (v := nI 60) rfl b_60 ?_
          refine px_iload_n (kk := 1) rfl rfl rfl ?_
          refine px_imulN rfl ?_
          refine px_ist4 rfl rfl (by decide) ?_
          refine px_mem (show _ = (va_up (va_up I 98 (va_up (I 98) s (-2 - nI t))) 99 (va_up (I 99) s (nI m))) from by simp only [p_up_n _ _ (show (99 : Nat) ≠ 98 by decide)]) ?_
          refine px_memJ (fillJ0 (J := J) (c := 100) (p := 60 * s) (fun _ => 0)) ?_
          refine pxv_post (lX12_row (I := (va_up (va_up I 98 (va_up (I 98) s (-2 - nI t))) 99 (va_up (I 99) s (nI m)))) hs (k := 0) (by omega)) (fun r S hr => ?_)
          obtain ⟨rfl, rfl⟩ := hr
          exact .inr (.inr ⟨s, t, m, hs, rfl, by omega, rfl, hm60, rfl, rfl, rfl⟩)
        · refine px_bipush (v := -14) rfl b_m14 ?_
          refine px_ireturn rfl (.inl rfl) ?_
          exact .inr (.inl ⟨⟨s, hs, rfl⟩, ⟨t, by omega, rfl⟩, by rw [i_lt]; rw [i_le] at c14; omega, rfl, rfl⟩)
      · refine px_iconst (v := -1) rfl k_m1 ?_
        refine px_ireturn rfl (.inl rfl) ?_
        exact .inl ⟨fun h => h.2.2 (by rw [i_lt]; rw [i_le] at c10; omega), rfl, rfl⟩
    · refine px_if_eq rfl (fun _ => ?_) (fun h => absurd h (by decide))
      refine px_iconst (v := -1) rfl k_m1 ?_
      refine px_ireturn rfl (.inl rfl) ?_
      exact .inl ⟨fun ⟨_, ⟨t, h1, h2⟩, _⟩ => ht ((in_nn (by decide) (by decide)).mpr ⟨t, Nat.zero_le _, by omega, h2⟩), rfl, rfl⟩
  · refine px_if_eq rfl (fun _ => ?_) (fun h => absurd h (by decide))
    refine px_iconst (v := -1) rfl k_m1 ?_
    refine px_ireturn rfl (.inl rfl) ?_
    exact .inl ⟨fun h => hs h.1, rfl, rfl⟩
theorem vX12_why {I : Nat → Nat → Int32} {J : Nat → Nat → Int64} {p : Bool × Option Nat} {ro : List (Nat × Nat × (Nat → Int32))} {nb : Nat} (hb50 : nb ≤ 50) (hH : ∀ s, s < 6 → RS nb (I 98 s)) (hSZ : ∀ s, s < 6 → ∃ z, z ≤ 60 ∧ I 99 s = nI z) {x y : Int32} : Pv 2 0 0 CX12_whyNoPlace [.ref (65), .int (x), .int (y)] (gS, I, J, gR p, ro) (fun r S' => S' = (gS, I, J, gR p, ro) ∧ ((¬ (∃ s, s < 6 ∧ x = nI s) ∧ r = some (.int (-1))) ∨ (∃ s, s < 6 ∧ x = nI s ∧ I 98 s = -1 ∧ r = some (.int (-11))) ∨ (∃ s b, s < 6 ∧ x = nI s ∧ b < nb ∧ I 98 s = nI b ∧ r = some (.int (-12))) ∨ (∃ s t a, s < 6 ∧ x = nI s ∧ t < 5 ∧ I 98 s = -2 - nI t ∧ y = nI a ∧ a < mN (I 99 s) ∧ r = some (.int (nI 0))) ∨ (∃ s t, s < 6 ∧ x = nI s ∧ t < 5 ∧ I 98 s = -2 - nI t ∧ ¬ (∃ a, y = nI a ∧ a < mN (I 99 s)) ∧ r = some (.int (-13))))) := by
  refine ⟨okCX12_whyNoPlace, Nat.le_of_ble_eq_true rfl, (show Px _ _ _ _ 0 [some (.ref (65)), some (.int (x)), some (.int (y))] [] _ _ from ?_)⟩
  refine px_iload_n (kk := 1) rfl rfl rfl ?_
  refine px_callS0 CX12_isShelf [] [.int _] (vX12_isShelf) rfl rfl rfl (Nat.le_of_ble_eq_true rfl) (by decide) ?_
  rintro _ _ - (⟨⟨s, hs, rfl⟩, rfl, rfl⟩ | ⟨hs, rfl, rfl⟩)
  · refine px_if_ne rfl (fun _ => ?_) (fun h => absurd h (by decide))
    obtain ⟨z, hz60, hz⟩ := hSZ s hs
    have hmz : mN (I 99 s) = z := by rw [hz, mN_n (by omega)]
    rcases hH s hs with h | ⟨t, ht, h⟩ | ⟨b, hb, h⟩
    · skip
      refine px_aload_n (kk := 0) rfl rfl rfl ?_
      refine px_getR (r := 98) rfl gS_65 rfl (gR_65_59 _) ?_
      refine px_iload_n (kk := 1) rfl rfl rfl ?_
      refine px_ialde (j := s) (v := -1) rfl gS_98 rfl hs h ?_
      refine px_iconst (v := -1) rfl k_m1 ?_
      refine px_icmp_ne rfl (fun h => absurd h (by decide)) (fun _ => ?_)
      refine px_bipush (v := -11) rfl b_m11 ?_
      refine px_ireturn rfl (.inl rfl) ?_
      exact ⟨rfl, .inr (.inl ⟨s, hs, rfl, h, rfl⟩)⟩
    · skip
      refine px_aload_n (kk := 0) rfl rfl rfl ?_
      refine px_getR (r := 98) rfl gS_65 rfl (gR_65_59 _) ?_
      refine px_iload_n (kk := 1) rfl rfl rfl ?_
      refine px_ialde (j := s) (v := (-2 - nI t)) rfl gS_98 rfl hs h ?_
      refine px_iconst (v := -1) rfl k_m1 ?_
      refine px_icmp_ne rfl (fun c10 => ?_) (fun h => absurd h (rs_1 ht))
      refine px_aload_n (kk := 0) rfl rfl rfl ?_
      refine px_getR (r := 98) rfl gS_65 rfl (gR_65_59 _) ?_
      refine px_iload_n (kk := 1) rfl rfl rfl ?_
      refine px_ialde (j := s) (v := (-2 - nI t)) rfl gS_98 rfl hs h ?_
      refine px_if_lt rfl (fun c17 => ?_) (fun h => absurd (rs_neg ht) h)
      refine px_iload_n (kk := 2) rfl rfl rfl ?_
      refine px_iconst (v := nI 0) rfl k_0 ?_
      refine px_aload_n (kk := 0) rfl rfl rfl ?_
      refine px_getR (r := 99) rfl gS_65 rfl (gR_65_60 _) ?_
      refine px_iload_n (kk := 1) rfl rfl rfl ?_
      refine px_ialde (j := s) (v := nI z) rfl gS_99 rfl hs hz ?_
      refine px_iconst (v := nI 1) rfl k_1 ?_
      refine px_isub rfl ?_
      refine px_callS0 CX12_in [] [.int _, .int _, .int _] (vX12_in) rfl rfl rfl (Nat.le_of_ble_eq_true rfl) (by decide) ?_
      rintro _ _ - (⟨hi, rfl, rfl⟩ | ⟨hi, rfl, rfl⟩)
      · obtain ⟨a, ha, rfl⟩ := (in_lt3 (n := z) (by omega)).mp hi
        refine px_if_eq rfl (fun h => absurd h (by decide)) (fun _ => ?_)
        refine px_iconst (v := nI 0) rfl k_0 ?_
        refine px_goto rfl ?_
        refine px_ireturn rfl (.inl rfl) ?_
        exact ⟨rfl, .inr (.inr (.inr (.inl ⟨s, t, a, hs, rfl, ht, h, rfl, by rw [hmz]; exact ha, rfl⟩)))⟩
      · have hi2 := fun q => hi ((in_lt3 (n := z) (by omega)).mpr q)
        refine px_if_eq rfl (fun _ => ?_) (fun h => absurd h (by decide))
        refine px_bipush (v := -13) rfl b_m13 ?_
        refine px_ireturn rfl (.inl rfl) ?_
        exact ⟨rfl, .inr (.inr (.inr (.inr ⟨s, t, hs, rfl, ht, h, fun ⟨a, e, q⟩ => hi2 ⟨a, by rw [← hmz]; exact q, e⟩, rfl⟩)))⟩
    · skip
      refine px_aload_n (kk := 0) rfl rfl rfl ?_
      refine px_getR (r := 98) rfl gS_65 rfl (gR_65_59 _) ?_
      refine px_iload_n (kk := 1) rfl rfl rfl ?_
      refine px_ialde (j := s) (v := nI b) rfl gS_98 rfl hs h ?_
      refine px_iconst (v := -1) rfl k_m1 ?_
      refine px_icmp_ne rfl (fun c10 => ?_) (fun h => absurd h (rs_b (by omega)))
      refine px_aload_n (kk := 0) rfl rfl rfl ?_
      refine px_getR (r := 98) rfl gS_65 rfl (gR_65_59 _) ?_
      refine px_iload_n (kk := 1) rfl rfl rfl ?_
      refine px_ialde (j := s) (v := nI b) rfl gS_98 rfl hs h ?_
      refine px_if_lt rfl (fun h => absurd h (n_nneg (by omega))) (fun c17 => ?_)
      refine px_bipush (v := -12) rfl b_m12 ?_
      refine px_ireturn rfl (.inl rfl) ?_
      exact ⟨rfl, .inr (.inr (.inl ⟨s, b, hs, rfl, hb, h, rfl⟩))⟩
  · refine px_if_ne rfl (fun h => absurd h (by decide)) (fun _ => ?_)
    refine px_iconst (v := -1) rfl k_m1 ?_
    refine px_ireturn rfl (.inl rfl) ?_
    exact ⟨rfl, .inl ⟨hs, rfl⟩⟩
theorem vX12_put {I : Nat → Nat → Int32} {J : Nat → Nat → Int64} {p : Bool × Option Nat} {ro : List (Nat × Nat × (Nat → Int32))} {nb : Nat} (hb50 : nb ≤ 50) (hH : ∀ s, s < 6 → RS nb (I 98 s)) (hSZ : ∀ s, s < 6 → ∃ z, z ≤ 60 ∧ I 99 s = nI z) {x y : Int32} {v : Int64} : Pv 3 0 0 CX12_put [.ref (65), .int (x), .int (y), .long (v)] (gS, I, J, gR p, ro) (fun r S' => (¬ (∃ s, s < 6 ∧ x = nI s) ∧ r = some (.int (-1)) ∧ S' = (gS, I, J, gR p, ro)) ∨ (∃ s, s < 6 ∧ x = nI s ∧ I 98 s = -1 ∧ r = some (.int (-11)) ∧ S' = (gS, I, J, gR p, ro)) ∨ (∃ s b, s < 6 ∧ x = nI s ∧ b < nb ∧ I 98 s = nI b ∧ r = some (.int (-12)) ∧ S' = (gS, I, J, gR p, ro)) ∨ (∃ s t a, s < 6 ∧ x = nI s ∧ t < 5 ∧ I 98 s = -2 - nI t ∧ y = nI a ∧ a < mN (I 99 s) ∧ r = some (.int (nI 1)) ∧ S' = (gS, I, (va_up J 100 (va_up (J 100) (60 * s + a) (sp_low t v))), gR p, ro)) ∨ (∃ s t, s < 6 ∧ x = nI s ∧ t < 5 ∧ I 98 s = -2 - nI t ∧ ¬ (∃ a, y = nI a ∧ a < mN (I 99 s)) ∧ r = some (.int (-13)) ∧ S' = (gS, I, J, gR p, ro))) := by
  refine ⟨okCX12_put, Nat.le_of_ble_eq_true rfl, (show Px _ _ _ _ 0 [some (.ref (65)), some (.int (x)), some (.int (y)), some (.long (v)), none, none, none] [] _ _ from ?_)⟩
  refine px_aload_n (kk := 0) rfl rfl rfl ?_
  refine px_iload_n (kk := 1) rfl rfl rfl ?_
  refine px_iload_n (kk := 2) rfl rfl rfl ?_
  refine px_callV0 CX12_whyNoPlace [] [.int _, .int _] (vX12_why hb50 hH hSZ) rfl gS_65 (by decide) rfl rfl rfl (Nat.le_of_ble_eq_true rfl) (by decide) ?_
  rintro _ _ - ⟨rfl, (⟨hno, rfl⟩ | ⟨s, hs, rfl, h, rfl⟩ | ⟨s, b, hs, rfl, hb, h, rfl⟩ | ⟨s, t, a, hs, rfl, ht, h, rfl, ha, rfl⟩ | ⟨s, t, hs, rfl, ht, h, ha, rfl⟩)⟩
  · refine px_ist5 rfl rfl (by decide) ?_
    refine px_iload rfl rfl ?_
    refine px_if_ge rfl (fun h => absurd h (by decide)) (fun _ => ?_)
    refine px_iload rfl rfl ?_
    refine px_ireturn rfl (.inl rfl) ?_
    exact .inl ⟨hno, rfl, rfl⟩
  · refine px_ist5 rfl rfl (by decide) ?_
    refine px_iload rfl rfl ?_
    refine px_if_ge rfl (fun h => absurd h (by decide)) (fun _ => ?_)
    refine px_iload rfl rfl ?_
    refine px_ireturn rfl (.inl rfl) ?_
    exact .inr (.inl ⟨s, hs, rfl, h, rfl, rfl⟩)
  · refine px_ist5 rfl rfl (by decide) ?_
    refine px_iload rfl rfl ?_
    refine px_if_ge rfl (fun h => absurd h (by decide)) (fun _ => ?_)
    refine px_iload rfl rfl ?_
    refine px_ireturn rfl (.inl rfl) ?_
    exact .inr (.inr (.inl ⟨s, b, hs, rfl, hb, h, rfl, rfl⟩))
  · obtain ⟨z, hz60, hz⟩ := hSZ s hs
    have hmz : mN (I 99 s) = z := by rw [hz, mN_n (by omega)]
    have ha60 : a < 60 := by omega
    refine px_ist5 rfl rfl (by decide) ?_
    refine px_iload rfl rfl ?_
    refine px_if_ge rfl (fun _ => ?_) (fun h => absurd h (by decide))
    skip
    refine px_bipush (v := -2) rfl b_m2 ?_
    refine px_aload_n (kk := 0) rfl rfl rfl ?_
    refine px_getR (r := 98) rfl gS_65 rfl (gR_65_59 _) ?_
    refine px_iload_n (kk := 1) rfl rfl rfl ?_
    refine px_ialde (j := s) (v := (-2 - nI t)) rfl gS_98 rfl hs h ?_
    refine px_isub rfl ?_
    refine px_ieq (rs_back ht) ?_
    rcases (by omega : t = 0 ∨ t = 1 ∨ t = 2 ∨ t = 3 ∨ t = 4) with rfl | rfl | rfl | rfl | rfl
    · skip
      refine px_ist6 rfl rfl (by decide) ?_
      refine px_aload_n (kk := 0) rfl rfl rfl ?_
      refine px_getR (r := 100) rfl gS_65 rfl (gR_65_61 _) ?_
      refine px_bipush (v := nI 60) rfl b_60 ?_
      refine px_iload_n (kk := 1) rfl rfl rfl ?_
      refine px_imulN rfl ?_
      refine px_iload_n (kk := 2) rfl rfl rfl ?_
      refine px_iaddN rfl ?_
      refine px_iload rfl rfl ?_
      refine px_if_ne rfl (fun h => absurd h (by decide)) (fun _ => ?_)
      refine px_lload_n (kk := 3) rfl rfl rfl ?_
      refine px_l2i rfl ?_
      refine px_i2b rfl ?_
      refine px_i2l rfl ?_
      refine px_goto rfl ?_
      refine px_last (j := 60 * s + a) rfl gS_100 rfl (by omega) ?_
      refine px_iconst (v := nI 1) rfl k_1 ?_
      refine px_ireturn rfl (.inl rfl) ?_
      exact .inr (.inr (.inr (.inl ⟨s, 0, a, hs, rfl, by decide, h, rfl, ha, rfl, rfl⟩)))
    · skip
      refine px_ist6 rfl rfl (by decide) ?_
      refine px_aload_n (kk := 0) rfl rfl rfl ?_
      refine px_getR (r := 100) rfl gS_65 rfl (gR_65_61 _) ?_
      refine px_bipush (v := nI 60) rfl b_60 ?_
      refine px_iload_n (kk := 1) rfl rfl rfl ?_
      refine px_imulN rfl ?_
      refine px_iload_n (kk := 2) rfl rfl rfl ?_
      refine px_iaddN rfl ?_
      refine px_iload rfl rfl ?_
      refine px_if_ne rfl (fun _ => ?_) (fun h => absurd h (by decide))
      refine px_iload rfl rfl ?_
      refine px_iconst (v := nI 1) rfl k_1 ?_
      refine px_icmp_ne rfl (fun h => absurd h (by decide)) (fun _ => ?_)
      refine px_lload_n (kk := 3) rfl rfl rfl ?_
      refine px_l2i rfl ?_
      refine px_i2s rfl ?_
      refine px_i2l rfl ?_
      refine px_goto rfl ?_
      refine px_last (j := 60 * s + a) rfl gS_100 rfl (by omega) ?_
      refine px_iconst (v := nI 1) rfl k_1 ?_
      refine px_ireturn rfl (.inl rfl) ?_
      exact .inr (.inr (.inr (.inl ⟨s, 1, a, hs, rfl, by decide, h, rfl, ha, rfl, rfl⟩)))
    · skip
      refine px_ist6 rfl rfl (by decide) ?_
      refine px_aload_n (kk := 0) rfl rfl rfl ?_
      refine px_getR (r := 100) rfl gS_65 rfl (gR_65_61 _) ?_
      refine px_bipush (v := nI 60) rfl b_60 ?_
      refine px_iload_n (kk := 1) rfl rfl rfl ?_
      refine px_imulN rfl ?_
      refine px_iload_n (kk := 2) rfl rfl rfl ?_
      refine px_iaddN rfl ?_
      refine px_iload rfl rfl ?_
      refine px_if_ne rfl (fun _ => ?_) (fun h => absurd h (by decide))
      refine px_iload rfl rfl ?_
      refine px_iconst (v := nI 1) rfl k_1 ?_
      refine px_icmp_ne rfl (fun _ => ?_) (fun h => absurd h (by decide))
      refine px_iload rfl rfl ?_
      refine px_iconst (v := nI 2) rfl k_2 ?_
      refine px_icmp_ne rfl (fun h => absurd h (by decide)) (fun _ => ?_)
      refine px_lload_n (kk := 3) rfl rfl rfl ?_
      refine px_l2i rfl ?_
      refine px_i2l rfl ?_
      refine px_goto rfl ?_
      refine px_last (j := 60 * s + a) rfl gS_100 rfl (by omega) ?_
      refine px_iconst (v := nI 1) rfl k_1 ?_
      refine px_ireturn rfl (.inl rfl) ?_
      exact .inr (.inr (.inr (.inl ⟨s, 2, a, hs, rfl, by decide, h, rfl, ha, rfl, rfl⟩)))
    · skip
      refine px_ist6 rfl rfl (by decide) ?_
      refine px_aload_n (kk := 0) rfl rfl rfl ?_
      refine px_getR (r := 100) rfl gS_65 rfl (gR_65_61 _) ?_
      refine px_bipush (v := nI 60) rfl b_60 ?_
      refine px_iload_n (kk := 1) rfl rfl rfl ?_
      refine px_imulN rfl ?_
      refine px_iload_n (kk := 2) rfl rfl rfl ?_
      refine px_iaddN rfl ?_
      refine px_iload rfl rfl ?_
      refine px_if_ne rfl (fun _ => ?_) (fun h => absurd h (by decide))
      refine px_iload rfl rfl ?_
      refine px_iconst (v := nI 1) rfl k_1 ?_
      refine px_icmp_ne rfl (fun _ => ?_) (fun h => absurd h (by decide))
      refine px_iload rfl rfl ?_
      refine px_iconst (v := nI 2) rfl k_2 ?_
      refine px_icmp_ne rfl (fun _ => ?_) (fun h => absurd h (by decide))
      refine px_iload rfl rfl ?_
      refine px_iconst (v := nI 3) rfl k_3 ?_
      refine px_icmp_ne rfl (fun h => absurd h (by decide)) (fun _ => ?_)
      refine px_lload_n (kk := 3) rfl rfl rfl ?_
      refine px_goto rfl ?_
      refine px_last (j := 60 * s + a) rfl gS_100 rfl (by omega) ?_
      refine px_iconst (v := nI 1) rfl k_1 ?_
      refine px_ireturn rfl (.inl rfl) ?_
      exact .inr (.inr (.inr (.inl ⟨s, 3, a, hs, rfl, by decide, h, rfl, ha, rfl, rfl⟩)))
    · skip
      refine px_ist6 rfl rfl (by decide) ?_
      refine px_aload_n (kk := 0) rfl rfl rfl ?_
      refine px_getR (r := 100) rfl gS_65 rfl (gR_65_61 _) ?_
      refine px_bipush (v := nI 60) rfl b_60 ?_
      refine px_iload_n (kk := 1) rfl rfl rfl ?_
      refine px_imulN rfl ?_
      refine px_iload_n (kk := 2) rfl rfl rfl ?_
      refine px_iaddN rfl ?_
      refine px_iload rfl rfl ?_
      refine px_if_ne rfl (fun _ => ?_) (fun h => absurd h (by decide))
      refine px_iload rfl rfl ?_
      refine px_iconst (v := nI 1) rfl k_1 ?_
      refine px_icmp_ne rfl (fun _ => ?_) (fun h => absurd h (by decide))
      refine px_iload rfl rfl ?_
      refine px_iconst (v := nI 2) rfl k_2 ?_
      refine px_icmp_ne rfl (fun _ => ?_) (fun h => absurd h (by decide))
      refine px_iload rfl rfl ?_
      refine px_iconst (v := nI 3) rfl k_3 ?_
      refine px_icmp_ne rfl (fun _ => ?_) (fun h => absurd h (by decide))
      refine px_lload_n (kk := 3) rfl rfl rfl ?_
      refine px_lconst (v := 0) rfl (by decide) ?_
      refine px_lcmp rfl ?_
      refine px_if_eq rfl (fun c53 => ?_) (fun c53 => ?_)
      · refine px_lconst (v := 0) rfl (by decide) ?_
        refine px_last (j := 60 * s + a) rfl gS_100 rfl (by omega) ?_
        refine px_iconst (v := nI 1) rfl k_1 ?_
        refine px_ireturn rfl (.inl rfl) ?_
        exact .inr (.inr (.inr (.inl ⟨s, 4, a, hs, rfl, by decide, h, rfl, ha, rfl, by rw [lg_cmp_eq] at c53; simp [sp_low, c53]⟩)))
      · refine px_lconst (v := 1) rfl (by decide) ?_
        refine px_goto rfl ?_
        refine px_last (j := 60 * s + a) rfl gS_100 rfl (by omega) ?_
        refine px_iconst (v := nI 1) rfl k_1 ?_
        refine px_ireturn rfl (.inl rfl) ?_
        exact .inr (.inr (.inr (.inl ⟨s, 4, a, hs, rfl, by decide, h, rfl, ha, rfl, by rw [lg_cmp_eq] at c53; simp [sp_low, c53]⟩)))
  · refine px_ist5 rfl rfl (by decide) ?_
    refine px_iload rfl rfl ?_
    refine px_if_ge rfl (fun h => absurd h (by decide)) (fun _ => ?_)
    refine px_iload rfl rfl ?_
    refine px_ireturn rfl (.inl rfl) ?_
    exact .inr (.inr (.inr (.inr ⟨s, t, hs, rfl, ht, h, ha, rfl, rfl⟩)))
theorem vX12_element {I : Nat → Nat → Int32} {J : Nat → Nat → Int64} {p : Bool × Option Nat} {ro : List (Nat × Nat × (Nat → Int32))} {nb : Nat} (hb50 : nb ≤ 50) (hH : ∀ s, s < 6 → RS nb (I 98 s)) (hSZ : ∀ s, s < 6 → ∃ z, z ≤ 60 ∧ I 99 s = nI z) {x y : Int32} : Pv 3 0 0 CX12_element [.ref (65), .int (x), .int (y)] (gS, I, J, gR p, ro) (fun r S' => S' = (gS, I, J, gR p, ro) ∧ ((∃ s t a, s < 6 ∧ x = nI s ∧ t < 5 ∧ I 98 s = -2 - nI t ∧ y = nI a ∧ a < mN (I 99 s) ∧ r = some (.long (J 100 (60 * s + a)))) ∨ (¬ (∃ s t a, s < 6 ∧ x = nI s ∧ t < 5 ∧ I 98 s = -2 - nI t ∧ y = nI a ∧ a < mN (I 99 s)) ∧ r = some (.long (-9223372036854775808))))) := by
  refine ⟨okCX12_element, Nat.le_of_ble_eq_true rfl, (show Px _ _ _ _ 0 [some (.ref (65)), some (.int (x)), some (.int (y))] [] _ _ from ?_)⟩
  refine px_aload_n (kk := 0) rfl rfl rfl ?_
  refine px_iload_n (kk := 1) rfl rfl rfl ?_
  refine px_iload_n (kk := 2) rfl rfl rfl ?_
  refine px_callV0 CX12_whyNoPlace [] [.int _, .int _] (vX12_why hb50 hH hSZ) rfl gS_65 (by decide) rfl rfl rfl (Nat.le_of_ble_eq_true rfl) (by decide) ?_
  rintro _ _ - ⟨rfl, (⟨hno, rfl⟩ | ⟨s, hs, rfl, h, rfl⟩ | ⟨s, b, hs, rfl, hb, h, rfl⟩ | ⟨s, t, a, hs, rfl, ht, h, rfl, ha, rfl⟩ | ⟨s, t, hs, rfl, ht, h, ha, rfl⟩)⟩
  · refine px_if_ge rfl (fun h => absurd h (by decide)) (fun _ => ?_)
    refine px_ldc2_w (v := -9223372036854775808) rfl (by decide) ?_
    refine px_goto rfl ?_
    refine px_lreturn rfl rfl ?_
    exact ⟨rfl, .inr ⟨fun ⟨s, t, a, h1, h2, _⟩ => hno ⟨s, h1, h2⟩, rfl⟩⟩
  · refine px_if_ge rfl (fun h => absurd h (by decide)) (fun _ => ?_)
    refine px_ldc2_w (v := -9223372036854775808) rfl (by decide) ?_
    refine px_goto rfl ?_
    refine px_lreturn rfl rfl ?_
    exact ⟨rfl, .inr ⟨fun ⟨s2, t2, a, h1, h2, h3, h4, _⟩ => by rw [n_eq (by omega) (by omega)] at h2; subst h2; rw [h] at h4; exact rs_1 h3 h4.symm, rfl⟩⟩
  · refine px_if_ge rfl (fun h => absurd h (by decide)) (fun _ => ?_)
    refine px_ldc2_w (v := -9223372036854775808) rfl (by decide) ?_
    refine px_goto rfl ?_
    refine px_lreturn rfl rfl ?_
    exact ⟨rfl, .inr ⟨fun ⟨s2, t2, a, h1, h2, h3, h4, _⟩ => by rw [n_eq (by omega) (by omega)] at h2; subst h2; rw [h] at h4; exact n_nneg (a := b) (by omega) (h4 ▸ rs_neg h3), rfl⟩⟩
  · obtain ⟨z, hz60, hz⟩ := hSZ s hs
    have hmz : mN (I 99 s) = z := by rw [hz, mN_n (by omega)]
    have ha60 : a < 60 := by omega
    refine px_if_ge rfl (fun _ => ?_) (fun h => absurd h (by decide))
    skip
    refine px_aload_n (kk := 0) rfl rfl rfl ?_
    refine px_getR (r := 100) rfl gS_65 rfl (gR_65_61 _) ?_
    refine px_bipush (v := nI 60) rfl b_60 ?_
    refine px_iload_n (kk := 1) rfl rfl rfl ?_
    refine px_imulN rfl ?_
    refine px_iload_n (kk := 2) rfl rfl rfl ?_
    refine px_iaddN rfl ?_
    refine px_lald (j := 60 * s + a) rfl gS_100 rfl (by omega) ?_
    refine px_lreturn rfl rfl ?_
    exact ⟨rfl, .inl ⟨s, t, a, hs, rfl, ht, h, rfl, ha, rfl⟩⟩
  · refine px_if_ge rfl (fun h => absurd h (by decide)) (fun _ => ?_)
    refine px_ldc2_w (v := -9223372036854775808) rfl (by decide) ?_
    refine px_goto rfl ?_
    refine px_lreturn rfl rfl ?_
    exact ⟨rfl, .inr ⟨fun ⟨s2, t2, a, h1, h2, h3, h4, h5, h6⟩ => by rw [n_eq (by omega) (by omega)] at h2; subst h2; exact ha ⟨a, h5, h6⟩, rfl⟩⟩
theorem vX12_und_0_0 {I : Nat → Nat → Int32} {J : Nat → Nat → Int64} {p : Bool × Option Nat} {ro : List (Nat × Nat × (Nat → Int32))}  : Pv 0 0 0 CX12_isUnder [.int (nI 0), .int (nI 0)] (gS, I, J, gR p, ro) (qB (nI 0 ∈ sp_und 0) (gS, I, J, gR p, ro)) := by
  refine ⟨okCX12_isUnder, Nat.le_of_ble_eq_true rfl, (show Px _ _ _ _ 0 [some (.int (nI 0)), some (.int (nI 0))] [] _ _ from ?_)⟩
  refine px_iload_n (kk := 1) rfl rfl rfl ?_
  refine px_if_eq rfl (fun _ => ?_) (fun h => absurd h (by decide))
  refine px_iconst (v := nI 1) rfl k_1 ?_
  refine px_goto rfl ?_
  refine px_ireturn rfl (.inr ⟨rfl, by decide⟩) ?_
  exact qB_t (by decide +kernel)
theorem vX12_und_0_1 {I : Nat → Nat → Int32} {J : Nat → Nat → Int64} {p : Bool × Option Nat} {ro : List (Nat × Nat × (Nat → Int32))}  : Pv 0 0 0 CX12_isUnder [.int (nI 0), .int (nI 1)] (gS, I, J, gR p, ro) (qB (nI 1 ∈ sp_und 0) (gS, I, J, gR p, ro)) := by
  refine ⟨okCX12_isUnder, Nat.le_of_ble_eq_true rfl, (show Px _ _ _ _ 0 [some (.int (nI 0)), some (.int (nI 1))] [] _ _ from ?_)⟩
  refine px_iload_n (kk := 1) rfl rfl rfl ?_
  refine px_if_eq rfl (fun h => absurd h (by decide)) (fun _ => ?_)
  refine px_iload_n (kk := 0) rfl rfl rfl ?_
  refine px_iload_n (kk := 1) rfl rfl rfl ?_
  refine px_icmp_eq rfl (fun h => absurd h (by decide)) (fun _ => ?_)
  refine px_iload_n (kk := 1) rfl rfl rfl ?_
  refine px_iconst (v := nI 1) rfl k_1 ?_
  refine px_icmp_ne rfl (fun h => absurd h (by decide)) (fun _ => ?_)
  refine px_iload_n (kk := 0) rfl rfl rfl ?_
  refine px_iconst (v := nI 4) rfl k_4 ?_
  refine px_icmp_eq rfl (fun h => absurd h (by decide)) (fun _ => ?_)
  refine px_iload_n (kk := 1) rfl rfl rfl ?_
  refine px_iconst (v := nI 2) rfl k_2 ?_
  refine px_icmp_ne rfl (fun _ => ?_) (fun h => absurd h (by decide))
  refine px_iload_n (kk := 1) rfl rfl rfl ?_
  refine px_iconst (v := nI 3) rfl k_3 ?_
  refine px_icmp_ne rfl (fun _ => ?_) (fun h => absurd h (by decide))
  refine px_iload_n (kk := 1) rfl rfl rfl ?_
  refine px_bipush (v := nI 6) rfl b_6 ?_
  refine px_icmp_ne rfl (fun _ => ?_) (fun h => absurd h (by decide))
  refine px_iconst (v := nI 0) rfl k_0 ?_
  refine px_ireturn rfl (.inr ⟨rfl, by decide⟩) ?_
  exact qB_f (by decide +kernel)
theorem vX12_und_0_2 {I : Nat → Nat → Int32} {J : Nat → Nat → Int64} {p : Bool × Option Nat} {ro : List (Nat × Nat × (Nat → Int32))}  : Pv 0 0 0 CX12_isUnder [.int (nI 0), .int (nI 2)] (gS, I, J, gR p, ro) (qB (nI 2 ∈ sp_und 0) (gS, I, J, gR p, ro)) := by
  refine ⟨okCX12_isUnder, Nat.le_of_ble_eq_true rfl, (show Px _ _ _ _ 0 [some (.int (nI 0)), some (.int (nI 2))] [] _ _ from ?_)⟩
  refine px_iload_n (kk := 1) rfl rfl rfl ?_
  refine px_if_eq rfl (fun h => absurd h (by decide)) (fun _ => ?_)
  refine px_iload_n (kk := 0) rfl rfl rfl ?_
  refine px_iload_n (kk := 1) rfl rfl rfl ?_
  refine px_icmp_eq rfl (fun h => absurd h (by decide)) (fun _ => ?_)
  refine px_iload_n (kk := 1) rfl rfl rfl ?_
  refine px_iconst (v := nI 1) rfl k_1 ?_
  refine px_icmp_ne rfl (fun _ => ?_) (fun h => absurd h (by decide))
  refine px_iload_n (kk := 1) rfl rfl rfl ?_
  refine px_iconst (v := nI 2) rfl k_2 ?_
  refine px_icmp_ne rfl (fun h => absurd h (by decide)) (fun _ => ?_)
  refine px_iload_n (kk := 0) rfl rfl rfl ?_
  refine px_iconst (v := nI 3) rfl k_3 ?_
  refine px_icmp_eq rfl (fun h => absurd h (by decide)) (fun _ => ?_)
  refine px_iload_n (kk := 0) rfl rfl rfl ?_
  refine px_iconst (v := nI 5) rfl k_5 ?_
  refine px_icmp_eq rfl (fun h => absurd h (by decide)) (fun _ => ?_)
  refine px_iload_n (kk := 1) rfl rfl rfl ?_
  refine px_iconst (v := nI 3) rfl k_3 ?_
  refine px_icmp_ne rfl (fun _ => ?_) (fun h => absurd h (by decide))
  refine px_iload_n (kk := 1) rfl rfl rfl ?_
  refine px_bipush (v := nI 6) rfl b_6 ?_
  refine px_icmp_ne rfl (fun _ => ?_) (fun h => absurd h (by decide))
  refine px_iconst (v := nI 0) rfl k_0 ?_
  refine px_ireturn rfl (.inr ⟨rfl, by decide⟩) ?_
  exact qB_f (by decide +kernel)
theorem vX12_und_0_3 {I : Nat → Nat → Int32} {J : Nat → Nat → Int64} {p : Bool × Option Nat} {ro : List (Nat × Nat × (Nat → Int32))}  : Pv 0 0 0 CX12_isUnder [.int (nI 0), .int (nI 3)] (gS, I, J, gR p, ro) (qB (nI 3 ∈ sp_und 0) (gS, I, J, gR p, ro)) := by
  refine ⟨okCX12_isUnder, Nat.le_of_ble_eq_true rfl, (show Px _ _ _ _ 0 [some (.int (nI 0)), some (.int (nI 3))] [] _ _ from ?_)⟩
  refine px_iload_n (kk := 1) rfl rfl rfl ?_
  refine px_if_eq rfl (fun h => absurd h (by decide)) (fun _ => ?_)
  refine px_iload_n (kk := 0) rfl rfl rfl ?_
  refine px_iload_n (kk := 1) rfl rfl rfl ?_
  refine px_icmp_eq rfl (fun h => absurd h (by decide)) (fun _ => ?_)
  refine px_iload_n (kk := 1) rfl rfl rfl ?_
  refine px_iconst (v := nI 1) rfl k_1 ?_
  refine px_icmp_ne rfl (fun _ => ?_) (fun h => absurd h (by decide))
  refine px_iload_n (kk := 1) rfl rfl rfl ?_
  refine px_iconst (v := nI 2) rfl k_2 ?_
  refine px_icmp_ne rfl (fun _ => ?_) (fun h => absurd h (by decide))
  refine px_iload_n (kk := 1) rfl rfl rfl ?_
  refine px_iconst (v := nI 3) rfl k_3 ?_
  refine px_icmp_ne rfl (fun h => absurd h (by decide)) (fun _ => ?_)
  refine px_iload_n (kk := 0) rfl rfl rfl ?_
  refine px_iconst (v := nI 5) rfl k_5 ?_
  refine px_icmp_eq rfl (fun h => absurd h (by decide)) (fun _ => ?_)
  refine px_iload_n (kk := 1) rfl rfl rfl ?_
  refine px_bipush (v := nI 6) rfl b_6 ?_
  refine px_icmp_ne rfl (fun _ => ?_) (fun h => absurd h (by decide))
  refine px_iconst (v := nI 0) rfl k_0 ?_
  refine px_ireturn rfl (.inr ⟨rfl, by decide⟩) ?_
  exact qB_f (by decide +kernel)
theorem vX12_und_0_4 {I : Nat → Nat → Int32} {J : Nat → Nat → Int64} {p : Bool × Option Nat} {ro : List (Nat × Nat × (Nat → Int32))}  : Pv 0 0 0 CX12_isUnder [.int (nI 0), .int (nI 4)] (gS, I, J, gR p, ro) (qB (nI 4 ∈ sp_und 0) (gS, I, J, gR p, ro)) := by
  refine ⟨okCX12_isUnder, Nat.le_of_ble_eq_true rfl, (show Px _ _ _ _ 0 [some (.int (nI 0)), some (.int (nI 4))] [] _ _ from ?_)⟩
  refine px_iload_n (kk := 1) rfl rfl rfl ?_
  refine px_if_eq rfl (fun h => absurd h (by decide)) (fun _ => ?_)
  refine px_iload_n (kk := 0) rfl rfl rfl ?_
  refine px_iload_n (kk := 1) rfl rfl rfl ?_
  refine px_icmp_eq rfl (fun h => absurd h (by decide)) (fun _ => ?_)
  refine px_iload_n (kk := 1) rfl rfl rfl ?_
  refine px_iconst (v := nI 1) rfl k_1 ?_
  refine px_icmp_ne rfl (fun _ => ?_) (fun h => absurd h (by decide))
  refine px_iload_n (kk := 1) rfl rfl rfl ?_
  refine px_iconst (v := nI 2) rfl k_2 ?_
  refine px_icmp_ne rfl (fun _ => ?_) (fun h => absurd h (by decide))
  refine px_iload_n (kk := 1) rfl rfl rfl ?_
  refine px_iconst (v := nI 3) rfl k_3 ?_
  refine px_icmp_ne rfl (fun _ => ?_) (fun h => absurd h (by decide))
  refine px_iload_n (kk := 1) rfl rfl rfl ?_
  refine px_bipush (v := nI 6) rfl b_6 ?_
  refine px_icmp_ne rfl (fun _ => ?_) (fun h => absurd h (by decide))
  refine px_iconst (v := nI 0) rfl k_0 ?_
  refine px_ireturn rfl (.inr ⟨rfl, by decide⟩) ?_
  exact qB_f (by decide +kernel)
theorem vX12_und_0_5 {I : Nat → Nat → Int32} {J : Nat → Nat → Int64} {p : Bool × Option Nat} {ro : List (Nat × Nat × (Nat → Int32))}  : Pv 0 0 0 CX12_isUnder [.int (nI 0), .int (nI 5)] (gS, I, J, gR p, ro) (qB (nI 5 ∈ sp_und 0) (gS, I, J, gR p, ro)) := by
  refine ⟨okCX12_isUnder, Nat.le_of_ble_eq_true rfl, (show Px _ _ _ _ 0 [some (.int (nI 0)), some (.int (nI 5))] [] _ _ from ?_)⟩
  refine px_iload_n (kk := 1) rfl rfl rfl ?_
  refine px_if_eq rfl (fun h => absurd h (by decide)) (fun _ => ?_)
  refine px_iload_n (kk := 0) rfl rfl rfl ?_
  refine px_iload_n (kk := 1) rfl rfl rfl ?_
  refine px_icmp_eq rfl (fun h => absurd h (by decide)) (fun _ => ?_)
  refine px_iload_n (kk := 1) rfl rfl rfl ?_
  refine px_iconst (v := nI 1) rfl k_1 ?_
  refine px_icmp_ne rfl (fun _ => ?_) (fun h => absurd h (by decide))
  refine px_iload_n (kk := 1) rfl rfl rfl ?_
  refine px_iconst (v := nI 2) rfl k_2 ?_
  refine px_icmp_ne rfl (fun _ => ?_) (fun h => absurd h (by decide))
  refine px_iload_n (kk := 1) rfl rfl rfl ?_
  refine px_iconst (v := nI 3) rfl k_3 ?_
  refine px_icmp_ne rfl (fun _ => ?_) (fun h => absurd h (by decide))
  refine px_iload_n (kk := 1) rfl rfl rfl ?_
  refine px_bipush (v := nI 6) rfl b_6 ?_
  refine px_icmp_ne rfl (fun _ => ?_) (fun h => absurd h (by decide))
  refine px_iconst (v := nI 0) rfl k_0 ?_
  refine px_ireturn rfl (.inr ⟨rfl, by decide⟩) ?_
  exact qB_f (by decide +kernel)
theorem vX12_und_0_6 {I : Nat → Nat → Int32} {J : Nat → Nat → Int64} {p : Bool × Option Nat} {ro : List (Nat × Nat × (Nat → Int32))}  : Pv 0 0 0 CX12_isUnder [.int (nI 0), .int (nI 6)] (gS, I, J, gR p, ro) (qB (nI 6 ∈ sp_und 0) (gS, I, J, gR p, ro)) := by
  refine ⟨okCX12_isUnder, Nat.le_of_ble_eq_true rfl, (show Px _ _ _ _ 0 [some (.int (nI 0)), some (.int (nI 6))] [] _ _ from ?_)⟩
  refine px_iload_n (kk := 1) rfl rfl rfl ?_
  refine px_if_eq rfl (fun h => absurd h (by decide)) (fun _ => ?_)
  refine px_iload_n (kk := 0) rfl rfl rfl ?_
  refine px_iload_n (kk := 1) rfl rfl rfl ?_
  refine px_icmp_eq rfl (fun h => absurd h (by decide)) (fun _ => ?_)
  refine px_iload_n (kk := 1) rfl rfl rfl ?_
  refine px_iconst (v := nI 1) rfl k_1 ?_
  refine px_icmp_ne rfl (fun _ => ?_) (fun h => absurd h (by decide))
  refine px_iload_n (kk := 1) rfl rfl rfl ?_
  refine px_iconst (v := nI 2) rfl k_2 ?_
  refine px_icmp_ne rfl (fun _ => ?_) (fun h => absurd h (by decide))
  refine px_iload_n (kk := 1) rfl rfl rfl ?_
  refine px_iconst (v := nI 3) rfl k_3 ?_
  refine px_icmp_ne rfl (fun _ => ?_) (fun h => absurd h (by decide))
  refine px_iload_n (kk := 1) rfl rfl rfl ?_
  refine px_bipush (v := nI 6) rfl b_6 ?_
  refine px_icmp_ne rfl (fun h => absurd h (by decide)) (fun _ => ?_)
  refine px_iload_n (kk := 0) rfl rfl rfl ?_
  refine px_bipush (v := nI 7) rfl b_7 ?_
  refine px_icmp_ne rfl (fun _ => ?_) (fun h => absurd h (by decide))
  refine px_iconst (v := nI 0) rfl k_0 ?_
  refine px_ireturn rfl (.inr ⟨rfl, by decide⟩) ?_
  exact qB_f (by decide +kernel)
theorem vX12_und_0_7 {I : Nat → Nat → Int32} {J : Nat → Nat → Int64} {p : Bool × Option Nat} {ro : List (Nat × Nat × (Nat → Int32))}  : Pv 0 0 0 CX12_isUnder [.int (nI 0), .int (nI 7)] (gS, I, J, gR p, ro) (qB (nI 7 ∈ sp_und 0) (gS, I, J, gR p, ro)) := by
  refine ⟨okCX12_isUnder, Nat.le_of_ble_eq_true rfl, (show Px _ _ _ _ 0 [some (.int (nI 0)), some (.int (nI 7))] [] _ _ from ?_)⟩
  refine px_iload_n (kk := 1) rfl rfl rfl ?_
  refine px_if_eq rfl (fun h => absurd h (by decide)) (fun _ => ?_)
  refine px_iload_n (kk := 0) rfl rfl rfl ?_
  refine px_iload_n (kk := 1) rfl rfl rfl ?_
  refine px_icmp_eq rfl (fun h => absurd h (by decide)) (fun _ => ?_)
  refine px_iload_n (kk := 1) rfl rfl rfl ?_
  refine px_iconst (v := nI 1) rfl k_1 ?_
  refine px_icmp_ne rfl (fun _ => ?_) (fun h => absurd h (by decide))
  refine px_iload_n (kk := 1) rfl rfl rfl ?_
  refine px_iconst (v := nI 2) rfl k_2 ?_
  refine px_icmp_ne rfl (fun _ => ?_) (fun h => absurd h (by decide))
  refine px_iload_n (kk := 1) rfl rfl rfl ?_
  refine px_iconst (v := nI 3) rfl k_3 ?_
  refine px_icmp_ne rfl (fun _ => ?_) (fun h => absurd h (by decide))
  refine px_iload_n (kk := 1) rfl rfl rfl ?_
  refine px_bipush (v := nI 6) rfl b_6 ?_
  refine px_icmp_ne rfl (fun _ => ?_) (fun h => absurd h (by decide))
  refine px_iconst (v := nI 0) rfl k_0 ?_
  refine px_ireturn rfl (.inr ⟨rfl, by decide⟩) ?_
  exact qB_f (by decide +kernel)
theorem vX12_und_1_0 {I : Nat → Nat → Int32} {J : Nat → Nat → Int64} {p : Bool × Option Nat} {ro : List (Nat × Nat × (Nat → Int32))}  : Pv 0 0 0 CX12_isUnder [.int (nI 1), .int (nI 0)] (gS, I, J, gR p, ro) (qB (nI 0 ∈ sp_und 1) (gS, I, J, gR p, ro)) := by
  refine ⟨okCX12_isUnder, Nat.le_of_ble_eq_true rfl, (show Px _ _ _ _ 0 [some (.int (nI 1)), some (.int (nI 0))] [] _ _ from ?_)⟩
  refine px_iload_n (kk := 1) rfl rfl rfl ?_
  refine px_if_eq rfl (fun _ => ?_) (fun h => absurd h (by decide))
  refine px_iconst (v := nI 1) rfl k_1 ?_
  refine px_goto rfl ?_
  refine px_ireturn rfl (.inr ⟨rfl, by decide⟩) ?_
  exact qB_t (by decide +kernel)
theorem vX12_und_1_1 {I : Nat → Nat → Int32} {J : Nat → Nat → Int64} {p : Bool × Option Nat} {ro : List (Nat × Nat × (Nat → Int32))}  : Pv 0 0 0 CX12_isUnder [.int (nI 1), .int (nI 1)] (gS, I, J, gR p, ro) (qB (nI 1 ∈ sp_und 1) (gS, I, J, gR p, ro)) := by
  refine ⟨okCX12_isUnder, Nat.le_of_ble_eq_true rfl, (show Px _ _ _ _ 0 [some (.int (nI 1)), some (.int (nI 1))] [] _ _ from ?_)⟩
  refine px_iload_n (kk := 1) rfl rfl rfl ?_
  refine px_if_eq rfl (fun h => absurd h (by decide)) (fun _ => ?_)
  refine px_iload_n (kk := 0) rfl rfl rfl ?_
  refine px_iload_n (kk := 1) rfl rfl rfl ?_
  refine px_icmp_eq rfl (fun _ => ?_) (fun h => absurd h (by decide))
  refine px_iconst (v := nI 1) rfl k_1 ?_
  refine px_goto rfl ?_
  refine px_ireturn rfl (.inr ⟨rfl, by decide⟩) ?_
  exact qB_t (by decide +kernel)
theorem vX12_und_1_2 {I : Nat → Nat → Int32} {J : Nat → Nat → Int64} {p : Bool × Option Nat} {ro : List (Nat × Nat × (Nat → Int32))}  : Pv 0 0 0 CX12_isUnder [.int (nI 1), .int (nI 2)] (gS, I, J, gR p, ro) (qB (nI 2 ∈ sp_und 1) (gS, I, J, gR p, ro)) := by
  refine ⟨okCX12_isUnder, Nat.le_of_ble_eq_true rfl, (show Px _ _ _ _ 0 [some (.int (nI 1)), some (.int (nI 2))] [] _ _ from ?_)⟩
  refine px_iload_n (kk := 1) rfl rfl rfl ?_
  refine px_if_eq rfl (fun h => absurd h (by decide)) (fun _ => ?_)
  refine px_iload_n (kk := 0) rfl rfl rfl ?_
  refine px_iload_n (kk := 1) rfl rfl rfl ?_
  refine px_icmp_eq rfl (fun h => absurd h (by decide)) (fun _ => ?_)
  refine px_iload_n (kk := 1) rfl rfl rfl ?_
  refine px_iconst (v := nI 1) rfl k_1 ?_
  refine px_icmp_ne rfl (fun _ => ?_) (fun h => absurd h (by decide))
  refine px_iload_n (kk := 1) rfl rfl rfl ?_
  refine px_iconst (v := nI 2) rfl k_2 ?_
  refine px_icmp_ne rfl (fun h => absurd h (by decide)) (fun _ => ?_)
  refine px_iload_n (kk := 0) rfl rfl rfl ?_
  refine px_iconst (v := nI 3) rfl k_3 ?_
  refine px_icmp_eq rfl (fun h => absurd h (by decide)) (fun _ => ?_)
  refine px_iload_n (kk := 0) rfl rfl rfl ?_
  refine px_iconst (v := nI 5) rfl k_5 ?_
  refine px_icmp_eq rfl (fun h => absurd h (by decide)) (fun _ => ?_)
  refine px_iload_n (kk := 1) rfl rfl rfl ?_
  refine px_iconst (v := nI 3) rfl k_3 ?_
  refine px_icmp_ne rfl (fun _ => ?_) (fun h => absurd h (by decide))
  refine px_iload_n (kk := 1) rfl rfl rfl ?_
  refine px_bipush (v := nI 6) rfl b_6 ?_
  refine px_icmp_ne rfl (fun _ => ?_) (fun h => absurd h (by decide))
  refine px_iconst (v := nI 0) rfl k_0 ?_
  refine px_ireturn rfl (.inr ⟨rfl, by decide⟩) ?_
  exact qB_f (by decide +kernel)
theorem vX12_und_1_3 {I : Nat → Nat → Int32} {J : Nat → Nat → Int64} {p : Bool × Option Nat} {ro : List (Nat × Nat × (Nat → Int32))}  : Pv 0 0 0 CX12_isUnder [.int (nI 1), .int (nI 3)] (gS, I, J, gR p, ro) (qB (nI 3 ∈ sp_und 1) (gS, I, J, gR p, ro)) := by
  refine ⟨okCX12_isUnder, Nat.le_of_ble_eq_true rfl, (show Px _ _ _ _ 0 [some (.int (nI 1)), some (.int (nI 3))] [] _ _ from ?_)⟩
  refine px_iload_n (kk := 1) rfl rfl rfl ?_
  refine px_if_eq rfl (fun h => absurd h (by decide)) (fun _ => ?_)
  refine px_iload_n (kk := 0) rfl rfl rfl ?_
  refine px_iload_n (kk := 1) rfl rfl rfl ?_
  refine px_icmp_eq rfl (fun h => absurd h (by decide)) (fun _ => ?_)
  refine px_iload_n (kk := 1) rfl rfl rfl ?_
  refine px_iconst (v := nI 1) rfl k_1 ?_
  refine px_icmp_ne rfl (fun _ => ?_) (fun h => absurd h (by decide))
  refine px_iload_n (kk := 1) rfl rfl rfl ?_
  refine px_iconst (v := nI 2) rfl k_2 ?_
  refine px_icmp_ne rfl (fun _ => ?_) (fun h => absurd h (by decide))
  refine px_iload_n (kk := 1) rfl rfl rfl ?_
  refine px_iconst (v := nI 3) rfl k_3 ?_
  refine px_icmp_ne rfl (fun h => absurd h (by decide)) (fun _ => ?_)
  refine px_iload_n (kk := 0) rfl rfl rfl ?_
  refine px_iconst (v := nI 5) rfl k_5 ?_
  refine px_icmp_eq rfl (fun h => absurd h (by decide)) (fun _ => ?_)
  refine px_iload_n (kk := 1) rfl rfl rfl ?_
  refine px_bipush (v := nI 6) rfl b_6 ?_
  refine px_icmp_ne rfl (fun _ => ?_) (fun h => absurd h (by decide))
  refine px_iconst (v := nI 0) rfl k_0 ?_
  refine px_ireturn rfl (.inr ⟨rfl, by decide⟩) ?_
  exact qB_f (by decide +kernel)
theorem vX12_und_1_4 {I : Nat → Nat → Int32} {J : Nat → Nat → Int64} {p : Bool × Option Nat} {ro : List (Nat × Nat × (Nat → Int32))}  : Pv 0 0 0 CX12_isUnder [.int (nI 1), .int (nI 4)] (gS, I, J, gR p, ro) (qB (nI 4 ∈ sp_und 1) (gS, I, J, gR p, ro)) := by
  refine ⟨okCX12_isUnder, Nat.le_of_ble_eq_true rfl, (show Px _ _ _ _ 0 [some (.int (nI 1)), some (.int (nI 4))] [] _ _ from ?_)⟩
  refine px_iload_n (kk := 1) rfl rfl rfl ?_
  refine px_if_eq rfl (fun h => absurd h (by decide)) (fun _ => ?_)
  refine px_iload_n (kk := 0) rfl rfl rfl ?_
  refine px_iload_n (kk := 1) rfl rfl rfl ?_
  refine px_icmp_eq rfl (fun h => absurd h (by decide)) (fun _ => ?_)
  refine px_iload_n (kk := 1) rfl rfl rfl ?_
  refine px_iconst (v := nI 1) rfl k_1 ?_
  refine px_icmp_ne rfl (fun _ => ?_) (fun h => absurd h (by decide))
  refine px_iload_n (kk := 1) rfl rfl rfl ?_
  refine px_iconst (v := nI 2) rfl k_2 ?_
  refine px_icmp_ne rfl (fun _ => ?_) (fun h => absurd h (by decide))
  refine px_iload_n (kk := 1) rfl rfl rfl ?_
  refine px_iconst (v := nI 3) rfl k_3 ?_
  refine px_icmp_ne rfl (fun _ => ?_) (fun h => absurd h (by decide))
  refine px_iload_n (kk := 1) rfl rfl rfl ?_
  refine px_bipush (v := nI 6) rfl b_6 ?_
  refine px_icmp_ne rfl (fun _ => ?_) (fun h => absurd h (by decide))
  refine px_iconst (v := nI 0) rfl k_0 ?_
  refine px_ireturn rfl (.inr ⟨rfl, by decide⟩) ?_
  exact qB_f (by decide +kernel)
theorem vX12_und_1_5 {I : Nat → Nat → Int32} {J : Nat → Nat → Int64} {p : Bool × Option Nat} {ro : List (Nat × Nat × (Nat → Int32))}  : Pv 0 0 0 CX12_isUnder [.int (nI 1), .int (nI 5)] (gS, I, J, gR p, ro) (qB (nI 5 ∈ sp_und 1) (gS, I, J, gR p, ro)) := by
  refine ⟨okCX12_isUnder, Nat.le_of_ble_eq_true rfl, (show Px _ _ _ _ 0 [some (.int (nI 1)), some (.int (nI 5))] [] _ _ from ?_)⟩
  refine px_iload_n (kk := 1) rfl rfl rfl ?_
  refine px_if_eq rfl (fun h => absurd h (by decide)) (fun _ => ?_)
  refine px_iload_n (kk := 0) rfl rfl rfl ?_
  refine px_iload_n (kk := 1) rfl rfl rfl ?_
  refine px_icmp_eq rfl (fun h => absurd h (by decide)) (fun _ => ?_)
  refine px_iload_n (kk := 1) rfl rfl rfl ?_
  refine px_iconst (v := nI 1) rfl k_1 ?_
  refine px_icmp_ne rfl (fun _ => ?_) (fun h => absurd h (by decide))
  refine px_iload_n (kk := 1) rfl rfl rfl ?_
  refine px_iconst (v := nI 2) rfl k_2 ?_
  refine px_icmp_ne rfl (fun _ => ?_) (fun h => absurd h (by decide))
  refine px_iload_n (kk := 1) rfl rfl rfl ?_
  refine px_iconst (v := nI 3) rfl k_3 ?_
  refine px_icmp_ne rfl (fun _ => ?_) (fun h => absurd h (by decide))
  refine px_iload_n (kk := 1) rfl rfl rfl ?_
  refine px_bipush (v := nI 6) rfl b_6 ?_
  refine px_icmp_ne rfl (fun _ => ?_) (fun h => absurd h (by decide))
  refine px_iconst (v := nI 0) rfl k_0 ?_
  refine px_ireturn rfl (.inr ⟨rfl, by decide⟩) ?_
  exact qB_f (by decide +kernel)
theorem vX12_und_1_6 {I : Nat → Nat → Int32} {J : Nat → Nat → Int64} {p : Bool × Option Nat} {ro : List (Nat × Nat × (Nat → Int32))}  : Pv 0 0 0 CX12_isUnder [.int (nI 1), .int (nI 6)] (gS, I, J, gR p, ro) (qB (nI 6 ∈ sp_und 1) (gS, I, J, gR p, ro)) := by
  refine ⟨okCX12_isUnder, Nat.le_of_ble_eq_true rfl, (show Px _ _ _ _ 0 [some (.int (nI 1)), some (.int (nI 6))] [] _ _ from ?_)⟩
  refine px_iload_n (kk := 1) rfl rfl rfl ?_
  refine px_if_eq rfl (fun h => absurd h (by decide)) (fun _ => ?_)
  refine px_iload_n (kk := 0) rfl rfl rfl ?_
  refine px_iload_n (kk := 1) rfl rfl rfl ?_
  refine px_icmp_eq rfl (fun h => absurd h (by decide)) (fun _ => ?_)
  refine px_iload_n (kk := 1) rfl rfl rfl ?_
  refine px_iconst (v := nI 1) rfl k_1 ?_
  refine px_icmp_ne rfl (fun _ => ?_) (fun h => absurd h (by decide))
  refine px_iload_n (kk := 1) rfl rfl rfl ?_
  refine px_iconst (v := nI 2) rfl k_2 ?_
  refine px_icmp_ne rfl (fun _ => ?_) (fun h => absurd h (by decide))
  refine px_iload_n (kk := 1) rfl rfl rfl ?_
  refine px_iconst (v := nI 3) rfl k_3 ?_
  refine px_icmp_ne rfl (fun _ => ?_) (fun h => absurd h (by decide))
  refine px_iload_n (kk := 1) rfl rfl rfl ?_
  refine px_bipush (v := nI 6) rfl b_6 ?_
  refine px_icmp_ne rfl (fun h => absurd h (by decide)) (fun _ => ?_)
  refine px_iload_n (kk := 0) rfl rfl rfl ?_
  refine px_bipush (v := nI 7) rfl b_7 ?_
  refine px_icmp_ne rfl (fun _ => ?_) (fun h => absurd h (by decide))
  refine px_iconst (v := nI 0) rfl k_0 ?_
  refine px_ireturn rfl (.inr ⟨rfl, by decide⟩) ?_
  exact qB_f (by decide +kernel)
theorem vX12_und_1_7 {I : Nat → Nat → Int32} {J : Nat → Nat → Int64} {p : Bool × Option Nat} {ro : List (Nat × Nat × (Nat → Int32))}  : Pv 0 0 0 CX12_isUnder [.int (nI 1), .int (nI 7)] (gS, I, J, gR p, ro) (qB (nI 7 ∈ sp_und 1) (gS, I, J, gR p, ro)) := by
  refine ⟨okCX12_isUnder, Nat.le_of_ble_eq_true rfl, (show Px _ _ _ _ 0 [some (.int (nI 1)), some (.int (nI 7))] [] _ _ from ?_)⟩
  refine px_iload_n (kk := 1) rfl rfl rfl ?_
  refine px_if_eq rfl (fun h => absurd h (by decide)) (fun _ => ?_)
  refine px_iload_n (kk := 0) rfl rfl rfl ?_
  refine px_iload_n (kk := 1) rfl rfl rfl ?_
  refine px_icmp_eq rfl (fun h => absurd h (by decide)) (fun _ => ?_)
  refine px_iload_n (kk := 1) rfl rfl rfl ?_
  refine px_iconst (v := nI 1) rfl k_1 ?_
  refine px_icmp_ne rfl (fun _ => ?_) (fun h => absurd h (by decide))
  refine px_iload_n (kk := 1) rfl rfl rfl ?_
  refine px_iconst (v := nI 2) rfl k_2 ?_
  refine px_icmp_ne rfl (fun _ => ?_) (fun h => absurd h (by decide))
  refine px_iload_n (kk := 1) rfl rfl rfl ?_
  refine px_iconst (v := nI 3) rfl k_3 ?_
  refine px_icmp_ne rfl (fun _ => ?_) (fun h => absurd h (by decide))
  refine px_iload_n (kk := 1) rfl rfl rfl ?_
  refine px_bipush (v := nI 6) rfl b_6 ?_
  refine px_icmp_ne rfl (fun _ => ?_) (fun h => absurd h (by decide))
  refine px_iconst (v := nI 0) rfl k_0 ?_
  refine px_ireturn rfl (.inr ⟨rfl, by decide⟩) ?_
  exact qB_f (by decide +kernel)
theorem vX12_und_2_0 {I : Nat → Nat → Int32} {J : Nat → Nat → Int64} {p : Bool × Option Nat} {ro : List (Nat × Nat × (Nat → Int32))}  : Pv 0 0 0 CX12_isUnder [.int (nI 2), .int (nI 0)] (gS, I, J, gR p, ro) (qB (nI 0 ∈ sp_und 2) (gS, I, J, gR p, ro)) := by
  refine ⟨okCX12_isUnder, Nat.le_of_ble_eq_true rfl, (show Px _ _ _ _ 0 [some (.int (nI 2)), some (.int (nI 0))] [] _ _ from ?_)⟩
  refine px_iload_n (kk := 1) rfl rfl rfl ?_
  refine px_if_eq rfl (fun _ => ?_) (fun h => absurd h (by decide))
  refine px_iconst (v := nI 1) rfl k_1 ?_
  refine px_goto rfl ?_
  refine px_ireturn rfl (.inr ⟨rfl, by decide⟩) ?_
  exact qB_t (by decide +kernel)
theorem vX12_und_2_1 {I : Nat → Nat → Int32} {J : Nat → Nat → Int64} {p : Bool × Option Nat} {ro : List (Nat × Nat × (Nat → Int32))}  : Pv 0 0 0 CX12_isUnder [.int (nI 2), .int (nI 1)] (gS, I, J, gR p, ro) (qB (nI 1 ∈ sp_und 2) (gS, I, J, gR p, ro)) := by
  refine ⟨okCX12_isUnder, Nat.le_of_ble_eq_true rfl, (show Px _ _ _ _ 0 [some (.int (nI 2)), some (.int (nI 1))] [] _ _ from ?_)⟩
  refine px_iload_n (kk := 1) rfl rfl rfl ?_
  refine px_if_eq rfl (fun h => absurd h (by decide)) (fun _ => ?_)
  refine px_iload_n (kk := 0) rfl rfl rfl ?_
  refine px_iload_n (kk := 1) rfl rfl rfl ?_
  refine px_icmp_eq rfl (fun h => absurd h (by decide)) (fun _ => ?_)
  refine px_iload_n (kk := 1) rfl rfl rfl ?_
  refine px_iconst (v := nI 1) rfl k_1 ?_
  refine px_icmp_ne rfl (fun h => absurd h (by decide)) (fun _ => ?_)
  refine px_iload_n (kk := 0) rfl rfl rfl ?_
  refine px_iconst (v := nI 4) rfl k_4 ?_
  refine px_icmp_eq rfl (fun h => absurd h (by decide)) (fun _ => ?_)
  refine px_iload_n (kk := 1) rfl rfl rfl ?_
  refine px_iconst (v := nI 2) rfl k_2 ?_
  refine px_icmp_ne rfl (fun _ => ?_) (fun h => absurd h (by decide))
  refine px_iload_n (kk := 1) rfl rfl rfl ?_
  refine px_iconst (v := nI 3) rfl k_3 ?_
  refine px_icmp_ne rfl (fun _ => ?_) (fun h => absurd h (by decide))
  refine px_iload_n (kk := 1) rfl rfl rfl ?_
  refine px_bipush (v := nI 6) rfl b_6 ?_
  refine px_icmp_ne rfl (fun _ => ?_) (fun h => absurd h (by decide))
  refine px_iconst (v := nI 0) rfl k_0 ?_
  refine px_ireturn rfl (.inr ⟨rfl, by decide⟩) ?_
  exact qB_f (by decide +kernel)
theorem vX12_und_2_2 {I : Nat → Nat → Int32} {J : Nat → Nat → Int64} {p : Bool × Option Nat} {ro : List (Nat × Nat × (Nat → Int32))}  : Pv 0 0 0 CX12_isUnder [.int (nI 2), .int (nI 2)] (gS, I, J, gR p, ro) (qB (nI 2 ∈ sp_und 2) (gS, I, J, gR p, ro)) := by
  refine ⟨okCX12_isUnder, Nat.le_of_ble_eq_true rfl, (show Px _ _ _ _ 0 [some (.int (nI 2)), some (.int (nI 2))] [] _ _ from ?_)⟩
  refine px_iload_n (kk := 1) rfl rfl rfl ?_
  refine px_if_eq rfl (fun h => absurd h (by decide)) (fun _ => ?_)
  refine px_iload_n (kk := 0) rfl rfl rfl ?_
  refine px_iload_n (kk := 1) rfl rfl rfl ?_
  refine px_icmp_eq rfl (fun _ => ?_) (fun h => absurd h (by decide))
  refine px_iconst (v := nI 1) rfl k_1 ?_
  refine px_goto rfl ?_
  refine px_ireturn rfl (.inr ⟨rfl, by decide⟩) ?_
  exact qB_t (by decide +kernel)
theorem vX12_und_2_3 {I : Nat → Nat → Int32} {J : Nat → Nat → Int64} {p : Bool × Option Nat} {ro : List (Nat × Nat × (Nat → Int32))}  : Pv 0 0 0 CX12_isUnder [.int (nI 2), .int (nI 3)] (gS, I, J, gR p, ro) (qB (nI 3 ∈ sp_und 2) (gS, I, J, gR p, ro)) := by
  refine ⟨okCX12_isUnder, Nat.le_of_ble_eq_true rfl, (show Px _ _ _ _ 0 [some (.int (nI 2)), some (.int (nI 3))] [] _ _ from ?_)⟩
  refine px_iload_n (kk := 1) rfl rfl rfl ?_
  refine px_if_eq rfl (fun h => absurd h (by decide)) (fun _ => ?_)
  refine px_iload_n (kk := 0) rfl rfl rfl ?_
  refine px_iload_n (kk := 1) rfl rfl rfl ?_
  refine px_icmp_eq rfl (fun h => absurd h (by decide)) (fun _ => ?_)
  refine px_iload_n (kk := 1) rfl rfl rfl ?_
  refine px_iconst (v := nI 1) rfl k_1 ?_
  refine px_icmp_ne rfl (fun _ => ?_) (fun h => absurd h (by decide))
  refine px_iload_n (kk := 1) rfl rfl rfl ?_
  refine px_iconst (v := nI 2) rfl k_2 ?_
  refine px_icmp_ne rfl (fun _ => ?_) (fun h => absurd h (by decide))
  refine px_iload_n (kk := 1) rfl rfl rfl ?_
  refine px_iconst (v := nI 3) rfl k_3 ?_
  refine px_icmp_ne rfl (fun h => absurd h (by decide)) (fun _ => ?_)
  refine px_iload_n (kk := 0) rfl rfl rfl ?_
  refine px_iconst (v := nI 5) rfl k_5 ?_
  refine px_icmp_eq rfl (fun h => absurd h (by decide)) (fun _ => ?_)
  refine px_iload_n (kk := 1) rfl rfl rfl ?_
  refine px_bipush (v := nI 6) rfl b_6 ?_
  refine px_icmp_ne rfl (fun _ => ?_) (fun h => absurd h (by decide))
  refine px_iconst (v := nI 0) rfl k_0 ?_
  refine px_ireturn rfl (.inr ⟨rfl, by decide⟩) ?_
  exact qB_f (by decide +kernel)
theorem vX12_und_2_4 {I : Nat → Nat → Int32} {J : Nat → Nat → Int64} {p : Bool × Option Nat} {ro : List (Nat × Nat × (Nat → Int32))}  : Pv 0 0 0 CX12_isUnder [.int (nI 2), .int (nI 4)] (gS, I, J, gR p, ro) (qB (nI 4 ∈ sp_und 2) (gS, I, J, gR p, ro)) := by
  refine ⟨okCX12_isUnder, Nat.le_of_ble_eq_true rfl, (show Px _ _ _ _ 0 [some (.int (nI 2)), some (.int (nI 4))] [] _ _ from ?_)⟩
  refine px_iload_n (kk := 1) rfl rfl rfl ?_
  refine px_if_eq rfl (fun h => absurd h (by decide)) (fun _ => ?_)
  refine px_iload_n (kk := 0) rfl rfl rfl ?_
  refine px_iload_n (kk := 1) rfl rfl rfl ?_
  refine px_icmp_eq rfl (fun h => absurd h (by decide)) (fun _ => ?_)
  refine px_iload_n (kk := 1) rfl rfl rfl ?_
  refine px_iconst (v := nI 1) rfl k_1 ?_
  refine px_icmp_ne rfl (fun _ => ?_) (fun h => absurd h (by decide))
  refine px_iload_n (kk := 1) rfl rfl rfl ?_
  refine px_iconst (v := nI 2) rfl k_2 ?_
  refine px_icmp_ne rfl (fun _ => ?_) (fun h => absurd h (by decide))
  refine px_iload_n (kk := 1) rfl rfl rfl ?_
  refine px_iconst (v := nI 3) rfl k_3 ?_
  refine px_icmp_ne rfl (fun _ => ?_) (fun h => absurd h (by decide))
  refine px_iload_n (kk := 1) rfl rfl rfl ?_
  refine px_bipush (v := nI 6) rfl b_6 ?_
  refine px_icmp_ne rfl (fun _ => ?_) (fun h => absurd h (by decide))
  refine px_iconst (v := nI 0) rfl k_0 ?_
  refine px_ireturn rfl (.inr ⟨rfl, by decide⟩) ?_
  exact qB_f (by decide +kernel)
theorem vX12_und_2_5 {I : Nat → Nat → Int32} {J : Nat → Nat → Int64} {p : Bool × Option Nat} {ro : List (Nat × Nat × (Nat → Int32))}  : Pv 0 0 0 CX12_isUnder [.int (nI 2), .int (nI 5)] (gS, I, J, gR p, ro) (qB (nI 5 ∈ sp_und 2) (gS, I, J, gR p, ro)) := by
  refine ⟨okCX12_isUnder, Nat.le_of_ble_eq_true rfl, (show Px _ _ _ _ 0 [some (.int (nI 2)), some (.int (nI 5))] [] _ _ from ?_)⟩
  refine px_iload_n (kk := 1) rfl rfl rfl ?_
  refine px_if_eq rfl (fun h => absurd h (by decide)) (fun _ => ?_)
  refine px_iload_n (kk := 0) rfl rfl rfl ?_
  refine px_iload_n (kk := 1) rfl rfl rfl ?_
  refine px_icmp_eq rfl (fun h => absurd h (by decide)) (fun _ => ?_)
  refine px_iload_n (kk := 1) rfl rfl rfl ?_
  refine px_iconst (v := nI 1) rfl k_1 ?_
  refine px_icmp_ne rfl (fun _ => ?_) (fun h => absurd h (by decide))
  refine px_iload_n (kk := 1) rfl rfl rfl ?_
  refine px_iconst (v := nI 2) rfl k_2 ?_
  refine px_icmp_ne rfl (fun _ => ?_) (fun h => absurd h (by decide))
  refine px_iload_n (kk := 1) rfl rfl rfl ?_
  refine px_iconst (v := nI 3) rfl k_3 ?_
  refine px_icmp_ne rfl (fun _ => ?_) (fun h => absurd h (by decide))
  refine px_iload_n (kk := 1) rfl rfl rfl ?_
  refine px_bipush (v := nI 6) rfl b_6 ?_
  refine px_icmp_ne rfl (fun _ => ?_) (fun h => absurd h (by decide))
  refine px_iconst (v := nI 0) rfl k_0 ?_
  refine px_ireturn rfl (.inr ⟨rfl, by decide⟩) ?_
  exact qB_f (by decide +kernel)
theorem vX12_und_2_6 {I : Nat → Nat → Int32} {J : Nat → Nat → Int64} {p : Bool × Option Nat} {ro : List (Nat × Nat × (Nat → Int32))}  : Pv 0 0 0 CX12_isUnder [.int (nI 2), .int (nI 6)] (gS, I, J, gR p, ro) (qB (nI 6 ∈ sp_und 2) (gS, I, J, gR p, ro)) := by
  refine ⟨okCX12_isUnder, Nat.le_of_ble_eq_true rfl, (show Px _ _ _ _ 0 [some (.int (nI 2)), some (.int (nI 6))] [] _ _ from ?_)⟩
  refine px_iload_n (kk := 1) rfl rfl rfl ?_
  refine px_if_eq rfl (fun h => absurd h (by decide)) (fun _ => ?_)
  refine px_iload_n (kk := 0) rfl rfl rfl ?_
  refine px_iload_n (kk := 1) rfl rfl rfl ?_
  refine px_icmp_eq rfl (fun h => absurd h (by decide)) (fun _ => ?_)
  refine px_iload_n (kk := 1) rfl rfl rfl ?_
  refine px_iconst (v := nI 1) rfl k_1 ?_
  refine px_icmp_ne rfl (fun _ => ?_) (fun h => absurd h (by decide))
  refine px_iload_n (kk := 1) rfl rfl rfl ?_
  refine px_iconst (v := nI 2) rfl k_2 ?_
  refine px_icmp_ne rfl (fun _ => ?_) (fun h => absurd h (by decide))
  refine px_iload_n (kk := 1) rfl rfl rfl ?_
  refine px_iconst (v := nI 3) rfl k_3 ?_
  refine px_icmp_ne rfl (fun _ => ?_) (fun h => absurd h (by decide))
  refine px_iload_n (kk := 1) rfl rfl rfl ?_
  refine px_bipush (v := nI 6) rfl b_6 ?_
  refine px_icmp_ne rfl (fun h => absurd h (by decide)) (fun _ => ?_)
  refine px_iload_n (kk := 0) rfl rfl rfl ?_
  refine px_bipush (v := nI 7) rfl b_7 ?_
  refine px_icmp_ne rfl (fun _ => ?_) (fun h => absurd h (by decide))
  refine px_iconst (v := nI 0) rfl k_0 ?_
  refine px_ireturn rfl (.inr ⟨rfl, by decide⟩) ?_
  exact qB_f (by decide +kernel)
theorem vX12_und_2_7 {I : Nat → Nat → Int32} {J : Nat → Nat → Int64} {p : Bool × Option Nat} {ro : List (Nat × Nat × (Nat → Int32))}  : Pv 0 0 0 CX12_isUnder [.int (nI 2), .int (nI 7)] (gS, I, J, gR p, ro) (qB (nI 7 ∈ sp_und 2) (gS, I, J, gR p, ro)) := by
  refine ⟨okCX12_isUnder, Nat.le_of_ble_eq_true rfl, (show Px _ _ _ _ 0 [some (.int (nI 2)), some (.int (nI 7))] [] _ _ from ?_)⟩
  refine px_iload_n (kk := 1) rfl rfl rfl ?_
  refine px_if_eq rfl (fun h => absurd h (by decide)) (fun _ => ?_)
  refine px_iload_n (kk := 0) rfl rfl rfl ?_
  refine px_iload_n (kk := 1) rfl rfl rfl ?_
  refine px_icmp_eq rfl (fun h => absurd h (by decide)) (fun _ => ?_)
  refine px_iload_n (kk := 1) rfl rfl rfl ?_
  refine px_iconst (v := nI 1) rfl k_1 ?_
  refine px_icmp_ne rfl (fun _ => ?_) (fun h => absurd h (by decide))
  refine px_iload_n (kk := 1) rfl rfl rfl ?_
  refine px_iconst (v := nI 2) rfl k_2 ?_
  refine px_icmp_ne rfl (fun _ => ?_) (fun h => absurd h (by decide))
  refine px_iload_n (kk := 1) rfl rfl rfl ?_
  refine px_iconst (v := nI 3) rfl k_3 ?_
  refine px_icmp_ne rfl (fun _ => ?_) (fun h => absurd h (by decide))
  refine px_iload_n (kk := 1) rfl rfl rfl ?_
  refine px_bipush (v := nI 6) rfl b_6 ?_
  refine px_icmp_ne rfl (fun _ => ?_) (fun h => absurd h (by decide))
  refine px_iconst (v := nI 0) rfl k_0 ?_
  refine px_ireturn rfl (.inr ⟨rfl, by decide⟩) ?_
  exact qB_f (by decide +kernel)
theorem vX12_und_3_0 {I : Nat → Nat → Int32} {J : Nat → Nat → Int64} {p : Bool × Option Nat} {ro : List (Nat × Nat × (Nat → Int32))}  : Pv 0 0 0 CX12_isUnder [.int (nI 3), .int (nI 0)] (gS, I, J, gR p, ro) (qB (nI 0 ∈ sp_und 3) (gS, I, J, gR p, ro)) := by
  refine ⟨okCX12_isUnder, Nat.le_of_ble_eq_true rfl, (show Px _ _ _ _ 0 [some (.int (nI 3)), some (.int (nI 0))] [] _ _ from ?_)⟩
  refine px_iload_n (kk := 1) rfl rfl rfl ?_
  refine px_if_eq rfl (fun _ => ?_) (fun h => absurd h (by decide))
  refine px_iconst (v := nI 1) rfl k_1 ?_
  refine px_goto rfl ?_
  refine px_ireturn rfl (.inr ⟨rfl, by decide⟩) ?_
  exact qB_t (by decide +kernel)
theorem vX12_und_3_1 {I : Nat → Nat → Int32} {J : Nat → Nat → Int64} {p : Bool × Option Nat} {ro : List (Nat × Nat × (Nat → Int32))}  : Pv 0 0 0 CX12_isUnder [.int (nI 3), .int (nI 1)] (gS, I, J, gR p, ro) (qB (nI 1 ∈ sp_und 3) (gS, I, J, gR p, ro)) := by
  refine ⟨okCX12_isUnder, Nat.le_of_ble_eq_true rfl, (show Px _ _ _ _ 0 [some (.int (nI 3)), some (.int (nI 1))] [] _ _ from ?_)⟩
  refine px_iload_n (kk := 1) rfl rfl rfl ?_
  refine px_if_eq rfl (fun h => absurd h (by decide)) (fun _ => ?_)
  refine px_iload_n (kk := 0) rfl rfl rfl ?_
  refine px_iload_n (kk := 1) rfl rfl rfl ?_
  refine px_icmp_eq rfl (fun h => absurd h (by decide)) (fun _ => ?_)
  refine px_iload_n (kk := 1) rfl rfl rfl ?_
  refine px_iconst (v := nI 1) rfl k_1 ?_
  refine px_icmp_ne rfl (fun h => absurd h (by decide)) (fun _ => ?_)
  refine px_iload_n (kk := 0) rfl rfl rfl ?_
  refine px_iconst (v := nI 4) rfl k_4 ?_
  refine px_icmp_eq rfl (fun h => absurd h (by decide)) (fun _ => ?_)
  refine px_iload_n (kk := 1) rfl rfl rfl ?_
  refine px_iconst (v := nI 2) rfl k_2 ?_
  refine px_icmp_ne rfl (fun _ => ?_) (fun h => absurd h (by decide))
  refine px_iload_n (kk := 1) rfl rfl rfl ?_
  refine px_iconst (v := nI 3) rfl k_3 ?_
  refine px_icmp_ne rfl (fun _ => ?_) (fun h => absurd h (by decide))
  refine px_iload_n (kk := 1) rfl rfl rfl ?_
  refine px_bipush (v := nI 6) rfl b_6 ?_
  refine px_icmp_ne rfl (fun _ => ?_) (fun h => absurd h (by decide))
  refine px_iconst (v := nI 0) rfl k_0 ?_
  refine px_ireturn rfl (.inr ⟨rfl, by decide⟩) ?_
  exact qB_f (by decide +kernel)
theorem vX12_und_3_2 {I : Nat → Nat → Int32} {J : Nat → Nat → Int64} {p : Bool × Option Nat} {ro : List (Nat × Nat × (Nat → Int32))}  : Pv 0 0 0 CX12_isUnder [.int (nI 3), .int (nI 2)] (gS, I, J, gR p, ro) (qB (nI 2 ∈ sp_und 3) (gS, I, J, gR p, ro)) := by
  refine ⟨okCX12_isUnder, Nat.le_of_ble_eq_true rfl, (show Px _ _ _ _ 0 [some (.int (nI 3)), some (.int (nI 2))] [] _ _ from ?_)⟩
  refine px_iload_n (kk := 1) rfl rfl rfl ?_
  refine px_if_eq rfl (fun h => absurd h (by decide)) (fun _ => ?_)
  refine px_iload_n (kk := 0) rfl rfl rfl ?_
  refine px_iload_n (kk := 1) rfl rfl rfl ?_
  refine px_icmp_eq rfl (fun h => absurd h (by decide)) (fun _ => ?_)
  refine px_iload_n (kk := 1) rfl rfl rfl ?_
  refine px_iconst (v := nI 1) rfl k_1 ?_
  refine px_icmp_ne rfl (fun _ => ?_) (fun h => absurd h (by decide))
  refine px_iload_n (kk := 1) rfl rfl rfl ?_
  refine px_iconst (v := nI 2) rfl k_2 ?_
  refine px_icmp_ne rfl (fun h => absurd h (by decide)) (fun _ => ?_)
  refine px_iload_n (kk := 0) rfl rfl rfl ?_
  refine px_iconst (v := nI 3) rfl k_3 ?_
  refine px_icmp_eq rfl (fun _ => ?_) (fun h => absurd h (by decide))
  refine px_iconst (v := nI 1) rfl k_1 ?_
  refine px_goto rfl ?_
  refine px_ireturn rfl (.inr ⟨rfl, by decide⟩) ?_
  exact qB_t (by decide +kernel)
theorem vX12_und_3_3 {I : Nat → Nat → Int32} {J : Nat → Nat → Int64} {p : Bool × Option Nat} {ro : List (Nat × Nat × (Nat → Int32))}  : Pv 0 0 0 CX12_isUnder [.int (nI 3), .int (nI 3)] (gS, I, J, gR p, ro) (qB (nI 3 ∈ sp_und 3) (gS, I, J, gR p, ro)) := by
  refine ⟨okCX12_isUnder, Nat.le_of_ble_eq_true rfl, (show Px _ _ _ _ 0 [some (.int (nI 3)), some (.int (nI 3))] [] _ _ from ?_)⟩
  refine px_iload_n (kk := 1) rfl rfl rfl ?_
  refine px_if_eq rfl (fun h => absurd h (by decide)) (fun _ => ?_)
  refine px_iload_n (kk := 0) rfl rfl rfl ?_
  refine px_iload_n (kk := 1) rfl rfl rfl ?_
  refine px_icmp_eq rfl (fun _ => ?_) (fun h => absurd h (by decide))
  refine px_iconst (v := nI 1) rfl k_1 ?_
  refine px_goto rfl ?_
  refine px_ireturn rfl (.inr ⟨rfl, by decide⟩) ?_
  exact qB_t (by decide +kernel)
theorem vX12_und_3_4 {I : Nat → Nat → Int32} {J : Nat → Nat → Int64} {p : Bool × Option Nat} {ro : List (Nat × Nat × (Nat → Int32))}  : Pv 0 0 0 CX12_isUnder [.int (nI 3), .int (nI 4)] (gS, I, J, gR p, ro) (qB (nI 4 ∈ sp_und 3) (gS, I, J, gR p, ro)) := by
  refine ⟨okCX12_isUnder, Nat.le_of_ble_eq_true rfl, (show Px _ _ _ _ 0 [some (.int (nI 3)), some (.int (nI 4))] [] _ _ from ?_)⟩
  refine px_iload_n (kk := 1) rfl rfl rfl ?_
  refine px_if_eq rfl (fun h => absurd h (by decide)) (fun _ => ?_)
  refine px_iload_n (kk := 0) rfl rfl rfl ?_
  refine px_iload_n (kk := 1) rfl rfl rfl ?_
  refine px_icmp_eq rfl (fun h => absurd h (by decide)) (fun _ => ?_)
  refine px_iload_n (kk := 1) rfl rfl rfl ?_
  refine px_iconst (v := nI 1) rfl k_1 ?_
  refine px_icmp_ne rfl (fun _ => ?_) (fun h => absurd h (by decide))
  refine px_iload_n (kk := 1) rfl rfl rfl ?_
  refine px_iconst (v := nI 2) rfl k_2 ?_
  refine px_icmp_ne rfl (fun _ => ?_) (fun h => absurd h (by decide))
  refine px_iload_n (kk := 1) rfl rfl rfl ?_
  refine px_iconst (v := nI 3) rfl k_3 ?_
  refine px_icmp_ne rfl (fun _ => ?_) (fun h => absurd h (by decide))
  refine px_iload_n (kk := 1) rfl rfl rfl ?_
  refine px_bipush (v := nI 6) rfl b_6 ?_
  refine px_icmp_ne rfl (fun _ => ?_) (fun h => absurd h (by decide))
  refine px_iconst (v := nI 0) rfl k_0 ?_
  refine px_ireturn rfl (.inr ⟨rfl, by decide⟩) ?_
  exact qB_f (by decide +kernel)
theorem vX12_und_3_5 {I : Nat → Nat → Int32} {J : Nat → Nat → Int64} {p : Bool × Option Nat} {ro : List (Nat × Nat × (Nat → Int32))}  : Pv 0 0 0 CX12_isUnder [.int (nI 3), .int (nI 5)] (gS, I, J, gR p, ro) (qB (nI 5 ∈ sp_und 3) (gS, I, J, gR p, ro)) := by
  refine ⟨okCX12_isUnder, Nat.le_of_ble_eq_true rfl, (show Px _ _ _ _ 0 [some (.int (nI 3)), some (.int (nI 5))] [] _ _ from ?_)⟩
  refine px_iload_n (kk := 1) rfl rfl rfl ?_
  refine px_if_eq rfl (fun h => absurd h (by decide)) (fun _ => ?_)
  refine px_iload_n (kk := 0) rfl rfl rfl ?_
  refine px_iload_n (kk := 1) rfl rfl rfl ?_
  refine px_icmp_eq rfl (fun h => absurd h (by decide)) (fun _ => ?_)
  refine px_iload_n (kk := 1) rfl rfl rfl ?_
  refine px_iconst (v := nI 1) rfl k_1 ?_
  refine px_icmp_ne rfl (fun _ => ?_) (fun h => absurd h (by decide))
  refine px_iload_n (kk := 1) rfl rfl rfl ?_
  refine px_iconst (v := nI 2) rfl k_2 ?_
  refine px_icmp_ne rfl (fun _ => ?_) (fun h => absurd h (by decide))
  refine px_iload_n (kk := 1) rfl rfl rfl ?_
  refine px_iconst (v := nI 3) rfl k_3 ?_
  refine px_icmp_ne rfl (fun _ => ?_) (fun h => absurd h (by decide))
  refine px_iload_n (kk := 1) rfl rfl rfl ?_
  refine px_bipush (v := nI 6) rfl b_6 ?_
  refine px_icmp_ne rfl (fun _ => ?_) (fun h => absurd h (by decide))
  refine px_iconst (v := nI 0) rfl k_0 ?_
  refine px_ireturn rfl (.inr ⟨rfl, by decide⟩) ?_
  exact qB_f (by decide +kernel)
theorem vX12_und_3_6 {I : Nat → Nat → Int32} {J : Nat → Nat → Int64} {p : Bool × Option Nat} {ro : List (Nat × Nat × (Nat → Int32))}  : Pv 0 0 0 CX12_isUnder [.int (nI 3), .int (nI 6)] (gS, I, J, gR p, ro) (qB (nI 6 ∈ sp_und 3) (gS, I, J, gR p, ro)) := by
  refine ⟨okCX12_isUnder, Nat.le_of_ble_eq_true rfl, (show Px _ _ _ _ 0 [some (.int (nI 3)), some (.int (nI 6))] [] _ _ from ?_)⟩
  refine px_iload_n (kk := 1) rfl rfl rfl ?_
  refine px_if_eq rfl (fun h => absurd h (by decide)) (fun _ => ?_)
  refine px_iload_n (kk := 0) rfl rfl rfl ?_
  refine px_iload_n (kk := 1) rfl rfl rfl ?_
  refine px_icmp_eq rfl (fun h => absurd h (by decide)) (fun _ => ?_)
  refine px_iload_n (kk := 1) rfl rfl rfl ?_
  refine px_iconst (v := nI 1) rfl k_1 ?_
  refine px_icmp_ne rfl (fun _ => ?_) (fun h => absurd h (by decide))
  refine px_iload_n (kk := 1) rfl rfl rfl ?_
  refine px_iconst (v := nI 2) rfl k_2 ?_
  refine px_icmp_ne rfl (fun _ => ?_) (fun h => absurd h (by decide))
  refine px_iload_n (kk := 1) rfl rfl rfl ?_
  refine px_iconst (v := nI 3) rfl k_3 ?_
  refine px_icmp_ne rfl (fun _ => ?_) (fun h => absurd h (by decide))
  refine px_iload_n (kk := 1) rfl rfl rfl ?_
  refine px_bipush (v := nI 6) rfl b_6 ?_
  refine px_icmp_ne rfl (fun h => absurd h (by decide)) (fun _ => ?_)
  refine px_iload_n (kk := 0) rfl rfl rfl ?_
  refine px_bipush (v := nI 7) rfl b_7 ?_
  refine px_icmp_ne rfl (fun _ => ?_) (fun h => absurd h (by decide))
  refine px_iconst (v := nI 0) rfl k_0 ?_
  refine px_ireturn rfl (.inr ⟨rfl, by decide⟩) ?_
  exact qB_f (by decide +kernel)
theorem vX12_und_3_7 {I : Nat → Nat → Int32} {J : Nat → Nat → Int64} {p : Bool × Option Nat} {ro : List (Nat × Nat × (Nat → Int32))}  : Pv 0 0 0 CX12_isUnder [.int (nI 3), .int (nI 7)] (gS, I, J, gR p, ro) (qB (nI 7 ∈ sp_und 3) (gS, I, J, gR p, ro)) := by
  refine ⟨okCX12_isUnder, Nat.le_of_ble_eq_true rfl, (show Px _ _ _ _ 0 [some (.int (nI 3)), some (.int (nI 7))] [] _ _ from ?_)⟩
  refine px_iload_n (kk := 1) rfl rfl rfl ?_
  refine px_if_eq rfl (fun h => absurd h (by decide)) (fun _ => ?_)
  refine px_iload_n (kk := 0) rfl rfl rfl ?_
  refine px_iload_n (kk := 1) rfl rfl rfl ?_
  refine px_icmp_eq rfl (fun h => absurd h (by decide)) (fun _ => ?_)
  refine px_iload_n (kk := 1) rfl rfl rfl ?_
  refine px_iconst (v := nI 1) rfl k_1 ?_
  refine px_icmp_ne rfl (fun _ => ?_) (fun h => absurd h (by decide))
  refine px_iload_n (kk := 1) rfl rfl rfl ?_
  refine px_iconst (v := nI 2) rfl k_2 ?_
  refine px_icmp_ne rfl (fun _ => ?_) (fun h => absurd h (by decide))
  refine px_iload_n (kk := 1) rfl rfl rfl ?_
  refine px_iconst (v := nI 3) rfl k_3 ?_
  refine px_icmp_ne rfl (fun _ => ?_) (fun h => absurd h (by decide))
  refine px_iload_n (kk := 1) rfl rfl rfl ?_
  refine px_bipush (v := nI 6) rfl b_6 ?_
  refine px_icmp_ne rfl (fun _ => ?_) (fun h => absurd h (by decide))
  refine px_iconst (v := nI 0) rfl k_0 ?_
  refine px_ireturn rfl (.inr ⟨rfl, by decide⟩) ?_
  exact qB_f (by decide +kernel)
theorem vX12_und_4_0 {I : Nat → Nat → Int32} {J : Nat → Nat → Int64} {p : Bool × Option Nat} {ro : List (Nat × Nat × (Nat → Int32))}  : Pv 0 0 0 CX12_isUnder [.int (nI 4), .int (nI 0)] (gS, I, J, gR p, ro) (qB (nI 0 ∈ sp_und 4) (gS, I, J, gR p, ro)) := by
  refine ⟨okCX12_isUnder, Nat.le_of_ble_eq_true rfl, (show Px _ _ _ _ 0 [some (.int (nI 4)), some (.int (nI 0))] [] _ _ from ?_)⟩
  refine px_iload_n (kk := 1) rfl rfl rfl ?_
  refine px_if_eq rfl (fun _ => ?_) (fun h => absurd h (by decide))
  refine px_iconst (v := nI 1) rfl k_1 ?_
  refine px_goto rfl ?_
  refine px_ireturn rfl (.inr ⟨rfl, by decide⟩) ?_
  exact qB_t (by decide +kernel)
theorem vX12_und_4_1 {I : Nat → Nat → Int32} {J : Nat → Nat → Int64} {p : Bool × Option Nat} {ro : List (Nat × Nat × (Nat → Int32))}  : Pv 0 0 0 CX12_isUnder [.int (nI 4), .int (nI 1)] (gS, I, J, gR p, ro) (qB (nI 1 ∈ sp_und 4) (gS, I, J, gR p, ro)) := by
  refine ⟨okCX12_isUnder, Nat.le_of_ble_eq_true rfl, (show Px _ _ _ _ 0 [some (.int (nI 4)), some (.int (nI 1))] [] _ _ from ?_)⟩
  refine px_iload_n (kk := 1) rfl rfl rfl ?_
  refine px_if_eq rfl (fun h => absurd h (by decide)) (fun _ => ?_)
  refine px_iload_n (kk := 0) rfl rfl rfl ?_
  refine px_iload_n (kk := 1) rfl rfl rfl ?_
  refine px_icmp_eq rfl (fun h => absurd h (by decide)) (fun _ => ?_)
  refine px_iload_n (kk := 1) rfl rfl rfl ?_
  refine px_iconst (v := nI 1) rfl k_1 ?_
  refine px_icmp_ne rfl (fun h => absurd h (by decide)) (fun _ => ?_)
  refine px_iload_n (kk := 0) rfl rfl rfl ?_
  refine px_iconst (v := nI 4) rfl k_4 ?_
  refine px_icmp_eq rfl (fun _ => ?_) (fun h => absurd h (by decide))
  refine px_iconst (v := nI 1) rfl k_1 ?_
  refine px_goto rfl ?_
  refine px_ireturn rfl (.inr ⟨rfl, by decide⟩) ?_
  exact qB_t (by decide +kernel)
theorem vX12_und_4_2 {I : Nat → Nat → Int32} {J : Nat → Nat → Int64} {p : Bool × Option Nat} {ro : List (Nat × Nat × (Nat → Int32))}  : Pv 0 0 0 CX12_isUnder [.int (nI 4), .int (nI 2)] (gS, I, J, gR p, ro) (qB (nI 2 ∈ sp_und 4) (gS, I, J, gR p, ro)) := by
  refine ⟨okCX12_isUnder, Nat.le_of_ble_eq_true rfl, (show Px _ _ _ _ 0 [some (.int (nI 4)), some (.int (nI 2))] [] _ _ from ?_)⟩
  refine px_iload_n (kk := 1) rfl rfl rfl ?_
  refine px_if_eq rfl (fun h => absurd h (by decide)) (fun _ => ?_)
  refine px_iload_n (kk := 0) rfl rfl rfl ?_
  refine px_iload_n (kk := 1) rfl rfl rfl ?_
  refine px_icmp_eq rfl (fun h => absurd h (by decide)) (fun _ => ?_)
  refine px_iload_n (kk := 1) rfl rfl rfl ?_
  refine px_iconst (v := nI 1) rfl k_1 ?_
  refine px_icmp_ne rfl (fun _ => ?_) (fun h => absurd h (by decide))
  refine px_iload_n (kk := 1) rfl rfl rfl ?_
  refine px_iconst (v := nI 2) rfl k_2 ?_
  refine px_icmp_ne rfl (fun h => absurd h (by decide)) (fun _ => ?_)
  refine px_iload_n (kk := 0) rfl rfl rfl ?_
  refine px_iconst (v := nI 3) rfl k_3 ?_
  refine px_icmp_eq rfl (fun h => absurd h (by decide)) (fun _ => ?_)
  refine px_iload_n (kk := 0) rfl rfl rfl ?_
  refine px_iconst (v := nI 5) rfl k_5 ?_
  refine px_icmp_eq rfl (fun h => absurd h (by decide)) (fun _ => ?_)
  refine px_iload_n (kk := 1) rfl rfl rfl ?_
  refine px_iconst (v := nI 3) rfl k_3 ?_
  refine px_icmp_ne rfl (fun _ => ?_) (fun h => absurd h (by decide))
  refine px_iload_n (kk := 1) rfl rfl rfl ?_
  refine px_bipush (v := nI 6) rfl b_6 ?_
  refine px_icmp_ne rfl (fun _ => ?_) (fun h => absurd h (by decide))
  refine px_iconst (v := nI 0) rfl k_0 ?_
  refine px_ireturn rfl (.inr ⟨rfl, by decide⟩) ?_
  exact qB_f (by decide +kernel)
theorem vX12_und_4_3 {I : Nat → Nat → Int32} {J : Nat → Nat → Int64} {p : Bool × Option Nat} {ro : List (Nat × Nat × (Nat → Int32))}  : Pv 0 0 0 CX12_isUnder [.int (nI 4), .int (nI 3)] (gS, I, J, gR p, ro) (qB (nI 3 ∈ sp_und 4) (gS, I, J, gR p, ro)) := by
  refine ⟨okCX12_isUnder, Nat.le_of_ble_eq_true rfl, (show Px _ _ _ _ 0 [some (.int (nI 4)), some (.int (nI 3))] [] _ _ from ?_)⟩
  refine px_iload_n (kk := 1) rfl rfl rfl ?_
  refine px_if_eq rfl (fun h => absurd h (by decide)) (fun _ => ?_)
  refine px_iload_n (kk := 0) rfl rfl rfl ?_
  refine px_iload_n (kk := 1) rfl rfl rfl ?_
  refine px_icmp_eq rfl (fun h => absurd h (by decide)) (fun _ => ?_)
  refine px_iload_n (kk := 1) rfl rfl rfl ?_
  refine px_iconst (v := nI 1) rfl k_1 ?_
  refine px_icmp_ne rfl (fun _ => ?_) (fun h => absurd h (by decide))
  refine px_iload_n (kk := 1) rfl rfl rfl ?_
  refine px_iconst (v := nI 2) rfl k_2 ?_
  refine px_icmp_ne rfl (fun _ => ?_) (fun h => absurd h (by decide))
  refine px_iload_n (kk := 1) rfl rfl rfl ?_
  refine px_iconst (v := nI 3) rfl k_3 ?_
  refine px_icmp_ne rfl (fun h => absurd h (by decide)) (fun _ => ?_)
  refine px_iload_n (kk := 0) rfl rfl rfl ?_
  refine px_iconst (v := nI 5) rfl k_5 ?_
  refine px_icmp_eq rfl (fun h => absurd h (by decide)) (fun _ => ?_)
  refine px_iload_n (kk := 1) rfl rfl rfl ?_
  refine px_bipush (v := nI 6) rfl b_6 ?_
  refine px_icmp_ne rfl (fun _ => ?_) (fun h => absurd h (by decide))
  refine px_iconst (v := nI 0) rfl k_0 ?_
  refine px_ireturn rfl (.inr ⟨rfl, by decide⟩) ?_
  exact qB_f (by decide +kernel)
theorem vX12_und_4_4 {I : Nat → Nat → Int32} {J : Nat → Nat → Int64} {p : Bool × Option Nat} {ro : List (Nat × Nat × (Nat → Int32))}  : Pv 0 0 0 CX12_isUnder [.int (nI 4), .int (nI 4)] (gS, I, J, gR p, ro) (qB (nI 4 ∈ sp_und 4) (gS, I, J, gR p, ro)) := by
  refine ⟨okCX12_isUnder, Nat.le_of_ble_eq_true rfl, (show Px _ _ _ _ 0 [some (.int (nI 4)), some (.int (nI 4))] [] _ _ from ?_)⟩
  refine px_iload_n (kk := 1) rfl rfl rfl ?_
  refine px_if_eq rfl (fun h => absurd h (by decide)) (fun _ => ?_)
  refine px_iload_n (kk := 0) rfl rfl rfl ?_
  refine px_iload_n (kk := 1) rfl rfl rfl ?_
  refine px_icmp_eq rfl (fun _ => ?_) (fun h => absurd h (by decide))
  refine px_iconst (v := nI 1) rfl k_1 ?_
  refine px_goto rfl ?_
  refine px_ireturn rfl (.inr ⟨rfl, by decide⟩) ?_
  exact qB_t (by decide +kernel)
theorem vX12_und_4_5 {I : Nat → Nat → Int32} {J : Nat → Nat → Int64} {p : Bool × Option Nat} {ro : List (Nat × Nat × (Nat → Int32))}  : Pv 0 0 0 CX12_isUnder [.int (nI 4), .int (nI 5)] (gS, I, J, gR p, ro) (qB (nI 5 ∈ sp_und 4) (gS, I, J, gR p, ro)) := by
  refine ⟨okCX12_isUnder, Nat.le_of_ble_eq_true rfl, (show Px _ _ _ _ 0 [some (.int (nI 4)), some (.int (nI 5))] [] _ _ from ?_)⟩
  refine px_iload_n (kk := 1) rfl rfl rfl ?_
  refine px_if_eq rfl (fun h => absurd h (by decide)) (fun _ => ?_)
  refine px_iload_n (kk := 0) rfl rfl rfl ?_
  refine px_iload_n (kk := 1) rfl rfl rfl ?_
  refine px_icmp_eq rfl (fun h => absurd h (by decide)) (fun _ => ?_)
  refine px_iload_n (kk := 1) rfl rfl rfl ?_
  refine px_iconst (v := nI 1) rfl k_1 ?_
  refine px_icmp_ne rfl (fun _ => ?_) (fun h => absurd h (by decide))
  refine px_iload_n (kk := 1) rfl rfl rfl ?_
  refine px_iconst (v := nI 2) rfl k_2 ?_
  refine px_icmp_ne rfl (fun _ => ?_) (fun h => absurd h (by decide))
  refine px_iload_n (kk := 1) rfl rfl rfl ?_
  refine px_iconst (v := nI 3) rfl k_3 ?_
  refine px_icmp_ne rfl (fun _ => ?_) (fun h => absurd h (by decide))
  refine px_iload_n (kk := 1) rfl rfl rfl ?_
  refine px_bipush (v := nI 6) rfl b_6 ?_
  refine px_icmp_ne rfl (fun _ => ?_) (fun h => absurd h (by decide))
  refine px_iconst (v := nI 0) rfl k_0 ?_
  refine px_ireturn rfl (.inr ⟨rfl, by decide⟩) ?_
  exact qB_f (by decide +kernel)
theorem vX12_und_4_6 {I : Nat → Nat → Int32} {J : Nat → Nat → Int64} {p : Bool × Option Nat} {ro : List (Nat × Nat × (Nat → Int32))}  : Pv 0 0 0 CX12_isUnder [.int (nI 4), .int (nI 6)] (gS, I, J, gR p, ro) (qB (nI 6 ∈ sp_und 4) (gS, I, J, gR p, ro)) := by
  refine ⟨okCX12_isUnder, Nat.le_of_ble_eq_true rfl, (show Px _ _ _ _ 0 [some (.int (nI 4)), some (.int (nI 6))] [] _ _ from ?_)⟩
  refine px_iload_n (kk := 1) rfl rfl rfl ?_
  refine px_if_eq rfl (fun h => absurd h (by decide)) (fun _ => ?_)
  refine px_iload_n (kk := 0) rfl rfl rfl ?_
  refine px_iload_n (kk := 1) rfl rfl rfl ?_
  refine px_icmp_eq rfl (fun h => absurd h (by decide)) (fun _ => ?_)
  refine px_iload_n (kk := 1) rfl rfl rfl ?_
  refine px_iconst (v := nI 1) rfl k_1 ?_
  refine px_icmp_ne rfl (fun _ => ?_) (fun h => absurd h (by decide))
  refine px_iload_n (kk := 1) rfl rfl rfl ?_
  refine px_iconst (v := nI 2) rfl k_2 ?_
  refine px_icmp_ne rfl (fun _ => ?_) (fun h => absurd h (by decide))
  refine px_iload_n (kk := 1) rfl rfl rfl ?_
  refine px_iconst (v := nI 3) rfl k_3 ?_
  refine px_icmp_ne rfl (fun _ => ?_) (fun h => absurd h (by decide))
  refine px_iload_n (kk := 1) rfl rfl rfl ?_
  refine px_bipush (v := nI 6) rfl b_6 ?_
  refine px_icmp_ne rfl (fun h => absurd h (by decide)) (fun _ => ?_)
  refine px_iload_n (kk := 0) rfl rfl rfl ?_
  refine px_bipush (v := nI 7) rfl b_7 ?_
  refine px_icmp_ne rfl (fun _ => ?_) (fun h => absurd h (by decide))
  refine px_iconst (v := nI 0) rfl k_0 ?_
  refine px_ireturn rfl (.inr ⟨rfl, by decide⟩) ?_
  exact qB_f (by decide +kernel)
theorem vX12_und_4_7 {I : Nat → Nat → Int32} {J : Nat → Nat → Int64} {p : Bool × Option Nat} {ro : List (Nat × Nat × (Nat → Int32))}  : Pv 0 0 0 CX12_isUnder [.int (nI 4), .int (nI 7)] (gS, I, J, gR p, ro) (qB (nI 7 ∈ sp_und 4) (gS, I, J, gR p, ro)) := by
  refine ⟨okCX12_isUnder, Nat.le_of_ble_eq_true rfl, (show Px _ _ _ _ 0 [some (.int (nI 4)), some (.int (nI 7))] [] _ _ from ?_)⟩
  refine px_iload_n (kk := 1) rfl rfl rfl ?_
  refine px_if_eq rfl (fun h => absurd h (by decide)) (fun _ => ?_)
  refine px_iload_n (kk := 0) rfl rfl rfl ?_
  refine px_iload_n (kk := 1) rfl rfl rfl ?_
  refine px_icmp_eq rfl (fun h => absurd h (by decide)) (fun _ => ?_)
  refine px_iload_n (kk := 1) rfl rfl rfl ?_
  refine px_iconst (v := nI 1) rfl k_1 ?_
  refine px_icmp_ne rfl (fun _ => ?_) (fun h => absurd h (by decide))
  refine px_iload_n (kk := 1) rfl rfl rfl ?_
  refine px_iconst (v := nI 2) rfl k_2 ?_
  refine px_icmp_ne rfl (fun _ => ?_) (fun h => absurd h (by decide))
  refine px_iload_n (kk := 1) rfl rfl rfl ?_
  refine px_iconst (v := nI 3) rfl k_3 ?_
  refine px_icmp_ne rfl (fun _ => ?_) (fun h => absurd h (by decide))
  refine px_iload_n (kk := 1) rfl rfl rfl ?_
  refine px_bipush (v := nI 6) rfl b_6 ?_
  refine px_icmp_ne rfl (fun _ => ?_) (fun h => absurd h (by decide))
  refine px_iconst (v := nI 0) rfl k_0 ?_
  refine px_ireturn rfl (.inr ⟨rfl, by decide⟩) ?_
  exact qB_f (by decide +kernel)
theorem vX12_und_5_0 {I : Nat → Nat → Int32} {J : Nat → Nat → Int64} {p : Bool × Option Nat} {ro : List (Nat × Nat × (Nat → Int32))}  : Pv 0 0 0 CX12_isUnder [.int (nI 5), .int (nI 0)] (gS, I, J, gR p, ro) (qB (nI 0 ∈ sp_und 5) (gS, I, J, gR p, ro)) := by
  refine ⟨okCX12_isUnder, Nat.le_of_ble_eq_true rfl, (show Px _ _ _ _ 0 [some (.int (nI 5)), some (.int (nI 0))] [] _ _ from ?_)⟩
  refine px_iload_n (kk := 1) rfl rfl rfl ?_
  refine px_if_eq rfl (fun _ => ?_) (fun h => absurd h (by decide))
  refine px_iconst (v := nI 1) rfl k_1 ?_
  refine px_goto rfl ?_
  refine px_ireturn rfl (.inr ⟨rfl, by decide⟩) ?_
  exact qB_t (by decide +kernel)
theorem vX12_und_5_1 {I : Nat → Nat → Int32} {J : Nat → Nat → Int64} {p : Bool × Option Nat} {ro : List (Nat × Nat × (Nat → Int32))}  : Pv 0 0 0 CX12_isUnder [.int (nI 5), .int (nI 1)] (gS, I, J, gR p, ro) (qB (nI 1 ∈ sp_und 5) (gS, I, J, gR p, ro)) := by
  refine ⟨okCX12_isUnder, Nat.le_of_ble_eq_true rfl, (show Px _ _ _ _ 0 [some (.int (nI 5)), some (.int (nI 1))] [] _ _ from ?_)⟩
  refine px_iload_n (kk := 1) rfl rfl rfl ?_
  refine px_if_eq rfl (fun h => absurd h (by decide)) (fun _ => ?_)
  refine px_iload_n (kk := 0) rfl rfl rfl ?_
  refine px_iload_n (kk := 1) rfl rfl rfl ?_
  refine px_icmp_eq rfl (fun h => absurd h (by decide)) (fun _ => ?_)
  refine px_iload_n (kk := 1) rfl rfl rfl ?_
  refine px_iconst (v := nI 1) rfl k_1 ?_
  refine px_icmp_ne rfl (fun h => absurd h (by decide)) (fun _ => ?_)
  refine px_iload_n (kk := 0) rfl rfl rfl ?_
  refine px_iconst (v := nI 4) rfl k_4 ?_
  refine px_icmp_eq rfl (fun h => absurd h (by decide)) (fun _ => ?_)
  refine px_iload_n (kk := 1) rfl rfl rfl ?_
  refine px_iconst (v := nI 2) rfl k_2 ?_
  refine px_icmp_ne rfl (fun _ => ?_) (fun h => absurd h (by decide))
  refine px_iload_n (kk := 1) rfl rfl rfl ?_
  refine px_iconst (v := nI 3) rfl k_3 ?_
  refine px_icmp_ne rfl (fun _ => ?_) (fun h => absurd h (by decide))
  refine px_iload_n (kk := 1) rfl rfl rfl ?_
  refine px_bipush (v := nI 6) rfl b_6 ?_
  refine px_icmp_ne rfl (fun _ => ?_) (fun h => absurd h (by decide))
  refine px_iconst (v := nI 0) rfl k_0 ?_
  refine px_ireturn rfl (.inr ⟨rfl, by decide⟩) ?_
  exact qB_f (by decide +kernel)
theorem vX12_und_5_2 {I : Nat → Nat → Int32} {J : Nat → Nat → Int64} {p : Bool × Option Nat} {ro : List (Nat × Nat × (Nat → Int32))}  : Pv 0 0 0 CX12_isUnder [.int (nI 5), .int (nI 2)] (gS, I, J, gR p, ro) (qB (nI 2 ∈ sp_und 5) (gS, I, J, gR p, ro)) := by
  refine ⟨okCX12_isUnder, Nat.le_of_ble_eq_true rfl, (show Px _ _ _ _ 0 [some (.int (nI 5)), some (.int (nI 2))] [] _ _ from ?_)⟩
  refine px_iload_n (kk := 1) rfl rfl rfl ?_
  refine px_if_eq rfl (fun h => absurd h (by decide)) (fun _ => ?_)
  refine px_iload_n (kk := 0) rfl rfl rfl ?_
  refine px_iload_n (kk := 1) rfl rfl rfl ?_
  refine px_icmp_eq rfl (fun h => absurd h (by decide)) (fun _ => ?_)
  refine px_iload_n (kk := 1) rfl rfl rfl ?_
  refine px_iconst (v := nI 1) rfl k_1 ?_
  refine px_icmp_ne rfl (fun _ => ?_) (fun h => absurd h (by decide))
  refine px_iload_n (kk := 1) rfl rfl rfl ?_
  refine px_iconst (v := nI 2) rfl k_2 ?_
  refine px_icmp_ne rfl (fun h => absurd h (by decide)) (fun _ => ?_)
  refine px_iload_n (kk := 0) rfl rfl rfl ?_
  refine px_iconst (v := nI 3) rfl k_3 ?_
  refine px_icmp_eq rfl (fun h => absurd h (by decide)) (fun _ => ?_)
  refine px_iload_n (kk := 0) rfl rfl rfl ?_
  refine px_iconst (v := nI 5) rfl k_5 ?_
  refine px_icmp_eq rfl (fun _ => ?_) (fun h => absurd h (by decide))
  refine px_iconst (v := nI 1) rfl k_1 ?_
  refine px_goto rfl ?_
  refine px_ireturn rfl (.inr ⟨rfl, by decide⟩) ?_
  exact qB_t (by decide +kernel)
theorem vX12_und_5_3 {I : Nat → Nat → Int32} {J : Nat → Nat → Int64} {p : Bool × Option Nat} {ro : List (Nat × Nat × (Nat → Int32))}  : Pv 0 0 0 CX12_isUnder [.int (nI 5), .int (nI 3)] (gS, I, J, gR p, ro) (qB (nI 3 ∈ sp_und 5) (gS, I, J, gR p, ro)) := by
  refine ⟨okCX12_isUnder, Nat.le_of_ble_eq_true rfl, (show Px _ _ _ _ 0 [some (.int (nI 5)), some (.int (nI 3))] [] _ _ from ?_)⟩
  refine px_iload_n (kk := 1) rfl rfl rfl ?_
  refine px_if_eq rfl (fun h => absurd h (by decide)) (fun _ => ?_)
  refine px_iload_n (kk := 0) rfl rfl rfl ?_
  refine px_iload_n (kk := 1) rfl rfl rfl ?_
  refine px_icmp_eq rfl (fun h => absurd h (by decide)) (fun _ => ?_)
  refine px_iload_n (kk := 1) rfl rfl rfl ?_
  refine px_iconst (v := nI 1) rfl k_1 ?_
  refine px_icmp_ne rfl (fun _ => ?_) (fun h => absurd h (by decide))
  refine px_iload_n (kk := 1) rfl rfl rfl ?_
  refine px_iconst (v := nI 2) rfl k_2 ?_
  refine px_icmp_ne rfl (fun _ => ?_) (fun h => absurd h (by decide))
  refine px_iload_n (kk := 1) rfl rfl rfl ?_
  refine px_iconst (v := nI 3) rfl k_3 ?_
  refine px_icmp_ne rfl (fun h => absurd h (by decide)) (fun _ => ?_)
  refine px_iload_n (kk := 0) rfl rfl rfl ?_
  refine px_iconst (v := nI 5) rfl k_5 ?_
  refine px_icmp_eq rfl (fun _ => ?_) (fun h => absurd h (by decide))
  refine px_iconst (v := nI 1) rfl k_1 ?_
  refine px_goto rfl ?_
  refine px_ireturn rfl (.inr ⟨rfl, by decide⟩) ?_
  exact qB_t (by decide +kernel)
theorem vX12_und_5_4 {I : Nat → Nat → Int32} {J : Nat → Nat → Int64} {p : Bool × Option Nat} {ro : List (Nat × Nat × (Nat → Int32))}  : Pv 0 0 0 CX12_isUnder [.int (nI 5), .int (nI 4)] (gS, I, J, gR p, ro) (qB (nI 4 ∈ sp_und 5) (gS, I, J, gR p, ro)) := by
  refine ⟨okCX12_isUnder, Nat.le_of_ble_eq_true rfl, (show Px _ _ _ _ 0 [some (.int (nI 5)), some (.int (nI 4))] [] _ _ from ?_)⟩
  refine px_iload_n (kk := 1) rfl rfl rfl ?_
  refine px_if_eq rfl (fun h => absurd h (by decide)) (fun _ => ?_)
  refine px_iload_n (kk := 0) rfl rfl rfl ?_
  refine px_iload_n (kk := 1) rfl rfl rfl ?_
  refine px_icmp_eq rfl (fun h => absurd h (by decide)) (fun _ => ?_)
  refine px_iload_n (kk := 1) rfl rfl rfl ?_
  refine px_iconst (v := nI 1) rfl k_1 ?_
  refine px_icmp_ne rfl (fun _ => ?_) (fun h => absurd h (by decide))
  refine px_iload_n (kk := 1) rfl rfl rfl ?_
  refine px_iconst (v := nI 2) rfl k_2 ?_
  refine px_icmp_ne rfl (fun _ => ?_) (fun h => absurd h (by decide))
  refine px_iload_n (kk := 1) rfl rfl rfl ?_
  refine px_iconst (v := nI 3) rfl k_3 ?_
  refine px_icmp_ne rfl (fun _ => ?_) (fun h => absurd h (by decide))
  refine px_iload_n (kk := 1) rfl rfl rfl ?_
  refine px_bipush (v := nI 6) rfl b_6 ?_
  refine px_icmp_ne rfl (fun _ => ?_) (fun h => absurd h (by decide))
  refine px_iconst (v := nI 0) rfl k_0 ?_
  refine px_ireturn rfl (.inr ⟨rfl, by decide⟩) ?_
  exact qB_f (by decide +kernel)
theorem vX12_und_5_5 {I : Nat → Nat → Int32} {J : Nat → Nat → Int64} {p : Bool × Option Nat} {ro : List (Nat × Nat × (Nat → Int32))}  : Pv 0 0 0 CX12_isUnder [.int (nI 5), .int (nI 5)] (gS, I, J, gR p, ro) (qB (nI 5 ∈ sp_und 5) (gS, I, J, gR p, ro)) := by
  refine ⟨okCX12_isUnder, Nat.le_of_ble_eq_true rfl, (show Px _ _ _ _ 0 [some (.int (nI 5)), some (.int (nI 5))] [] _ _ from ?_)⟩
  refine px_iload_n (kk := 1) rfl rfl rfl ?_
  refine px_if_eq rfl (fun h => absurd h (by decide)) (fun _ => ?_)
  refine px_iload_n (kk := 0) rfl rfl rfl ?_
  refine px_iload_n (kk := 1) rfl rfl rfl ?_
  refine px_icmp_eq rfl (fun _ => ?_) (fun h => absurd h (by decide))
  refine px_iconst (v := nI 1) rfl k_1 ?_
  refine px_goto rfl ?_
  refine px_ireturn rfl (.inr ⟨rfl, by decide⟩) ?_
  exact qB_t (by decide +kernel)
theorem vX12_und_5_6 {I : Nat → Nat → Int32} {J : Nat → Nat → Int64} {p : Bool × Option Nat} {ro : List (Nat × Nat × (Nat → Int32))}  : Pv 0 0 0 CX12_isUnder [.int (nI 5), .int (nI 6)] (gS, I, J, gR p, ro) (qB (nI 6 ∈ sp_und 5) (gS, I, J, gR p, ro)) := by
  refine ⟨okCX12_isUnder, Nat.le_of_ble_eq_true rfl, (show Px _ _ _ _ 0 [some (.int (nI 5)), some (.int (nI 6))] [] _ _ from ?_)⟩
  refine px_iload_n (kk := 1) rfl rfl rfl ?_
  refine px_if_eq rfl (fun h => absurd h (by decide)) (fun _ => ?_)
  refine px_iload_n (kk := 0) rfl rfl rfl ?_
  refine px_iload_n (kk := 1) rfl rfl rfl ?_
  refine px_icmp_eq rfl (fun h => absurd h (by decide)) (fun _ => ?_)
  refine px_iload_n (kk := 1) rfl rfl rfl ?_
  refine px_iconst (v := nI 1) rfl k_1 ?_
  refine px_icmp_ne rfl (fun _ => ?_) (fun h => absurd h (by decide))
  refine px_iload_n (kk := 1) rfl rfl rfl ?_
  refine px_iconst (v := nI 2) rfl k_2 ?_
  refine px_icmp_ne rfl (fun _ => ?_) (fun h => absurd h (by decide))
  refine px_iload_n (kk := 1) rfl rfl rfl ?_
  refine px_iconst (v := nI 3) rfl k_3 ?_
  refine px_icmp_ne rfl (fun _ => ?_) (fun h => absurd h (by decide))
  refine px_iload_n (kk := 1) rfl rfl rfl ?_
  refine px_bipush (v := nI 6) rfl b_6 ?_
  refine px_icmp_ne rfl (fun h => absurd h (by decide)) (fun _ => ?_)
  refine px_iload_n (kk := 0) rfl rfl rfl ?_
  refine px_bipush (v := nI 7) rfl b_7 ?_
  refine px_icmp_ne rfl (fun _ => ?_) (fun h => absurd h (by decide))
  refine px_iconst (v := nI 0) rfl k_0 ?_
  refine px_ireturn rfl (.inr ⟨rfl, by decide⟩) ?_
  exact qB_f (by decide +kernel)
theorem vX12_und_5_7 {I : Nat → Nat → Int32} {J : Nat → Nat → Int64} {p : Bool × Option Nat} {ro : List (Nat × Nat × (Nat → Int32))}  : Pv 0 0 0 CX12_isUnder [.int (nI 5), .int (nI 7)] (gS, I, J, gR p, ro) (qB (nI 7 ∈ sp_und 5) (gS, I, J, gR p, ro)) := by
  refine ⟨okCX12_isUnder, Nat.le_of_ble_eq_true rfl, (show Px _ _ _ _ 0 [some (.int (nI 5)), some (.int (nI 7))] [] _ _ from ?_)⟩
  refine px_iload_n (kk := 1) rfl rfl rfl ?_
  refine px_if_eq rfl (fun h => absurd h (by decide)) (fun _ => ?_)
  refine px_iload_n (kk := 0) rfl rfl rfl ?_
  refine px_iload_n (kk := 1) rfl rfl rfl ?_
  refine px_icmp_eq rfl (fun h => absurd h (by decide)) (fun _ => ?_)
  refine px_iload_n (kk := 1) rfl rfl rfl ?_
  refine px_iconst (v := nI 1) rfl k_1 ?_
  refine px_icmp_ne rfl (fun _ => ?_) (fun h => absurd h (by decide))
  refine px_iload_n (kk := 1) rfl rfl rfl ?_
  refine px_iconst (v := nI 2) rfl k_2 ?_
  refine px_icmp_ne rfl (fun _ => ?_) (fun h => absurd h (by decide))
  refine px_iload_n (kk := 1) rfl rfl rfl ?_
  refine px_iconst (v := nI 3) rfl k_3 ?_
  refine px_icmp_ne rfl (fun _ => ?_) (fun h => absurd h (by decide))
  refine px_iload_n (kk := 1) rfl rfl rfl ?_
  refine px_bipush (v := nI 6) rfl b_6 ?_
  refine px_icmp_ne rfl (fun _ => ?_) (fun h => absurd h (by decide))
  refine px_iconst (v := nI 0) rfl k_0 ?_
  refine px_ireturn rfl (.inr ⟨rfl, by decide⟩) ?_
  exact qB_f (by decide +kernel)
theorem vX12_und_6_0 {I : Nat → Nat → Int32} {J : Nat → Nat → Int64} {p : Bool × Option Nat} {ro : List (Nat × Nat × (Nat → Int32))}  : Pv 0 0 0 CX12_isUnder [.int (nI 6), .int (nI 0)] (gS, I, J, gR p, ro) (qB (nI 0 ∈ sp_und 6) (gS, I, J, gR p, ro)) := by
  refine ⟨okCX12_isUnder, Nat.le_of_ble_eq_true rfl, (show Px _ _ _ _ 0 [some (.int (nI 6)), some (.int (nI 0))] [] _ _ from ?_)⟩
  refine px_iload_n (kk := 1) rfl rfl rfl ?_
  refine px_if_eq rfl (fun _ => ?_) (fun h => absurd h (by decide))
  refine px_iconst (v := nI 1) rfl k_1 ?_
  refine px_goto rfl ?_
  refine px_ireturn rfl (.inr ⟨rfl, by decide⟩) ?_
  exact qB_t (by decide +kernel)
theorem vX12_und_6_1 {I : Nat → Nat → Int32} {J : Nat → Nat → Int64} {p : Bool × Option Nat} {ro : List (Nat × Nat × (Nat → Int32))}  : Pv 0 0 0 CX12_isUnder [.int (nI 6), .int (nI 1)] (gS, I, J, gR p, ro) (qB (nI 1 ∈ sp_und 6) (gS, I, J, gR p, ro)) := by
  refine ⟨okCX12_isUnder, Nat.le_of_ble_eq_true rfl, (show Px _ _ _ _ 0 [some (.int (nI 6)), some (.int (nI 1))] [] _ _ from ?_)⟩
  refine px_iload_n (kk := 1) rfl rfl rfl ?_
  refine px_if_eq rfl (fun h => absurd h (by decide)) (fun _ => ?_)
  refine px_iload_n (kk := 0) rfl rfl rfl ?_
  refine px_iload_n (kk := 1) rfl rfl rfl ?_
  refine px_icmp_eq rfl (fun h => absurd h (by decide)) (fun _ => ?_)
  refine px_iload_n (kk := 1) rfl rfl rfl ?_
  refine px_iconst (v := nI 1) rfl k_1 ?_
  refine px_icmp_ne rfl (fun h => absurd h (by decide)) (fun _ => ?_)
  refine px_iload_n (kk := 0) rfl rfl rfl ?_
  refine px_iconst (v := nI 4) rfl k_4 ?_
  refine px_icmp_eq rfl (fun h => absurd h (by decide)) (fun _ => ?_)
  refine px_iload_n (kk := 1) rfl rfl rfl ?_
  refine px_iconst (v := nI 2) rfl k_2 ?_
  refine px_icmp_ne rfl (fun _ => ?_) (fun h => absurd h (by decide))
  refine px_iload_n (kk := 1) rfl rfl rfl ?_
  refine px_iconst (v := nI 3) rfl k_3 ?_
  refine px_icmp_ne rfl (fun _ => ?_) (fun h => absurd h (by decide))
  refine px_iload_n (kk := 1) rfl rfl rfl ?_
  refine px_bipush (v := nI 6) rfl b_6 ?_
  refine px_icmp_ne rfl (fun _ => ?_) (fun h => absurd h (by decide))
  refine px_iconst (v := nI 0) rfl k_0 ?_
  refine px_ireturn rfl (.inr ⟨rfl, by decide⟩) ?_
  exact qB_f (by decide +kernel)
theorem vX12_und_6_2 {I : Nat → Nat → Int32} {J : Nat → Nat → Int64} {p : Bool × Option Nat} {ro : List (Nat × Nat × (Nat → Int32))}  : Pv 0 0 0 CX12_isUnder [.int (nI 6), .int (nI 2)] (gS, I, J, gR p, ro) (qB (nI 2 ∈ sp_und 6) (gS, I, J, gR p, ro)) := by
  refine ⟨okCX12_isUnder, Nat.le_of_ble_eq_true rfl, (show Px _ _ _ _ 0 [some (.int (nI 6)), some (.int (nI 2))] [] _ _ from ?_)⟩
  refine px_iload_n (kk := 1) rfl rfl rfl ?_
  refine px_if_eq rfl (fun h => absurd h (by decide)) (fun _ => ?_)
  refine px_iload_n (kk := 0) rfl rfl rfl ?_
  refine px_iload_n (kk := 1) rfl rfl rfl ?_
  refine px_icmp_eq rfl (fun h => absurd h (by decide)) (fun _ => ?_)
  refine px_iload_n (kk := 1) rfl rfl rfl ?_
  refine px_iconst (v := nI 1) rfl k_1 ?_
  refine px_icmp_ne rfl (fun _ => ?_) (fun h => absurd h (by decide))
  refine px_iload_n (kk := 1) rfl rfl rfl ?_
  refine px_iconst (v := nI 2) rfl k_2 ?_
  refine px_icmp_ne rfl (fun h => absurd h (by decide)) (fun _ => ?_)
  refine px_iload_n (kk := 0) rfl rfl rfl ?_
  refine px_iconst (v := nI 3) rfl k_3 ?_
  refine px_icmp_eq rfl (fun h => absurd h (by decide)) (fun _ => ?_)
  refine px_iload_n (kk := 0) rfl rfl rfl ?_
  refine px_iconst (v := nI 5) rfl k_5 ?_
  refine px_icmp_eq rfl (fun h => absurd h (by decide)) (fun _ => ?_)
  refine px_iload_n (kk := 1) rfl rfl rfl ?_
  refine px_iconst (v := nI 3) rfl k_3 ?_
  refine px_icmp_ne rfl (fun _ => ?_) (fun h => absurd h (by decide))
  refine px_iload_n (kk := 1) rfl rfl rfl ?_
  refine px_bipush (v := nI 6) rfl b_6 ?_
  refine px_icmp_ne rfl (fun _ => ?_) (fun h => absurd h (by decide))
  refine px_iconst (v := nI 0) rfl k_0 ?_
  refine px_ireturn rfl (.inr ⟨rfl, by decide⟩) ?_
  exact qB_f (by decide +kernel)
theorem vX12_und_6_3 {I : Nat → Nat → Int32} {J : Nat → Nat → Int64} {p : Bool × Option Nat} {ro : List (Nat × Nat × (Nat → Int32))}  : Pv 0 0 0 CX12_isUnder [.int (nI 6), .int (nI 3)] (gS, I, J, gR p, ro) (qB (nI 3 ∈ sp_und 6) (gS, I, J, gR p, ro)) := by
  refine ⟨okCX12_isUnder, Nat.le_of_ble_eq_true rfl, (show Px _ _ _ _ 0 [some (.int (nI 6)), some (.int (nI 3))] [] _ _ from ?_)⟩
  refine px_iload_n (kk := 1) rfl rfl rfl ?_
  refine px_if_eq rfl (fun h => absurd h (by decide)) (fun _ => ?_)
  refine px_iload_n (kk := 0) rfl rfl rfl ?_
  refine px_iload_n (kk := 1) rfl rfl rfl ?_
  refine px_icmp_eq rfl (fun h => absurd h (by decide)) (fun _ => ?_)
  refine px_iload_n (kk := 1) rfl rfl rfl ?_
  refine px_iconst (v := nI 1) rfl k_1 ?_
  refine px_icmp_ne rfl (fun _ => ?_) (fun h => absurd h (by decide))
  refine px_iload_n (kk := 1) rfl rfl rfl ?_
  refine px_iconst (v := nI 2) rfl k_2 ?_
  refine px_icmp_ne rfl (fun _ => ?_) (fun h => absurd h (by decide))
  refine px_iload_n (kk := 1) rfl rfl rfl ?_
  refine px_iconst (v := nI 3) rfl k_3 ?_
  refine px_icmp_ne rfl (fun h => absurd h (by decide)) (fun _ => ?_)
  refine px_iload_n (kk := 0) rfl rfl rfl ?_
  refine px_iconst (v := nI 5) rfl k_5 ?_
  refine px_icmp_eq rfl (fun h => absurd h (by decide)) (fun _ => ?_)
  refine px_iload_n (kk := 1) rfl rfl rfl ?_
  refine px_bipush (v := nI 6) rfl b_6 ?_
  refine px_icmp_ne rfl (fun _ => ?_) (fun h => absurd h (by decide))
  refine px_iconst (v := nI 0) rfl k_0 ?_
  refine px_ireturn rfl (.inr ⟨rfl, by decide⟩) ?_
  exact qB_f (by decide +kernel)
theorem vX12_und_6_4 {I : Nat → Nat → Int32} {J : Nat → Nat → Int64} {p : Bool × Option Nat} {ro : List (Nat × Nat × (Nat → Int32))}  : Pv 0 0 0 CX12_isUnder [.int (nI 6), .int (nI 4)] (gS, I, J, gR p, ro) (qB (nI 4 ∈ sp_und 6) (gS, I, J, gR p, ro)) := by
  refine ⟨okCX12_isUnder, Nat.le_of_ble_eq_true rfl, (show Px _ _ _ _ 0 [some (.int (nI 6)), some (.int (nI 4))] [] _ _ from ?_)⟩
  refine px_iload_n (kk := 1) rfl rfl rfl ?_
  refine px_if_eq rfl (fun h => absurd h (by decide)) (fun _ => ?_)
  refine px_iload_n (kk := 0) rfl rfl rfl ?_
  refine px_iload_n (kk := 1) rfl rfl rfl ?_
  refine px_icmp_eq rfl (fun h => absurd h (by decide)) (fun _ => ?_)
  refine px_iload_n (kk := 1) rfl rfl rfl ?_
  refine px_iconst (v := nI 1) rfl k_1 ?_
  refine px_icmp_ne rfl (fun _ => ?_) (fun h => absurd h (by decide))
  refine px_iload_n (kk := 1) rfl rfl rfl ?_
  refine px_iconst (v := nI 2) rfl k_2 ?_
  refine px_icmp_ne rfl (fun _ => ?_) (fun h => absurd h (by decide))
  refine px_iload_n (kk := 1) rfl rfl rfl ?_
  refine px_iconst (v := nI 3) rfl k_3 ?_
  refine px_icmp_ne rfl (fun _ => ?_) (fun h => absurd h (by decide))
  refine px_iload_n (kk := 1) rfl rfl rfl ?_
  refine px_bipush (v := nI 6) rfl b_6 ?_
  refine px_icmp_ne rfl (fun _ => ?_) (fun h => absurd h (by decide))
  refine px_iconst (v := nI 0) rfl k_0 ?_
  refine px_ireturn rfl (.inr ⟨rfl, by decide⟩) ?_
  exact qB_f (by decide +kernel)
theorem vX12_und_6_5 {I : Nat → Nat → Int32} {J : Nat → Nat → Int64} {p : Bool × Option Nat} {ro : List (Nat × Nat × (Nat → Int32))}  : Pv 0 0 0 CX12_isUnder [.int (nI 6), .int (nI 5)] (gS, I, J, gR p, ro) (qB (nI 5 ∈ sp_und 6) (gS, I, J, gR p, ro)) := by
  refine ⟨okCX12_isUnder, Nat.le_of_ble_eq_true rfl, (show Px _ _ _ _ 0 [some (.int (nI 6)), some (.int (nI 5))] [] _ _ from ?_)⟩
  refine px_iload_n (kk := 1) rfl rfl rfl ?_
  refine px_if_eq rfl (fun h => absurd h (by decide)) (fun _ => ?_)
  refine px_iload_n (kk := 0) rfl rfl rfl ?_
  refine px_iload_n (kk := 1) rfl rfl rfl ?_
  refine px_icmp_eq rfl (fun h => absurd h (by decide)) (fun _ => ?_)
  refine px_iload_n (kk := 1) rfl rfl rfl ?_
  refine px_iconst (v := nI 1) rfl k_1 ?_
  refine px_icmp_ne rfl (fun _ => ?_) (fun h => absurd h (by decide))
  refine px_iload_n (kk := 1) rfl rfl rfl ?_
  refine px_iconst (v := nI 2) rfl k_2 ?_
  refine px_icmp_ne rfl (fun _ => ?_) (fun h => absurd h (by decide))
  refine px_iload_n (kk := 1) rfl rfl rfl ?_
  refine px_iconst (v := nI 3) rfl k_3 ?_
  refine px_icmp_ne rfl (fun _ => ?_) (fun h => absurd h (by decide))
  refine px_iload_n (kk := 1) rfl rfl rfl ?_
  refine px_bipush (v := nI 6) rfl b_6 ?_
  refine px_icmp_ne rfl (fun _ => ?_) (fun h => absurd h (by decide))
  refine px_iconst (v := nI 0) rfl k_0 ?_
  refine px_ireturn rfl (.inr ⟨rfl, by decide⟩) ?_
  exact qB_f (by decide +kernel)
theorem vX12_und_6_6 {I : Nat → Nat → Int32} {J : Nat → Nat → Int64} {p : Bool × Option Nat} {ro : List (Nat × Nat × (Nat → Int32))}  : Pv 0 0 0 CX12_isUnder [.int (nI 6), .int (nI 6)] (gS, I, J, gR p, ro) (qB (nI 6 ∈ sp_und 6) (gS, I, J, gR p, ro)) := by
  refine ⟨okCX12_isUnder, Nat.le_of_ble_eq_true rfl, (show Px _ _ _ _ 0 [some (.int (nI 6)), some (.int (nI 6))] [] _ _ from ?_)⟩
  refine px_iload_n (kk := 1) rfl rfl rfl ?_
  refine px_if_eq rfl (fun h => absurd h (by decide)) (fun _ => ?_)
  refine px_iload_n (kk := 0) rfl rfl rfl ?_
  refine px_iload_n (kk := 1) rfl rfl rfl ?_
  refine px_icmp_eq rfl (fun _ => ?_) (fun h => absurd h (by decide))
  refine px_iconst (v := nI 1) rfl k_1 ?_
  refine px_goto rfl ?_
  refine px_ireturn rfl (.inr ⟨rfl, by decide⟩) ?_
  exact qB_t (by decide +kernel)
theorem vX12_und_6_7 {I : Nat → Nat → Int32} {J : Nat → Nat → Int64} {p : Bool × Option Nat} {ro : List (Nat × Nat × (Nat → Int32))}  : Pv 0 0 0 CX12_isUnder [.int (nI 6), .int (nI 7)] (gS, I, J, gR p, ro) (qB (nI 7 ∈ sp_und 6) (gS, I, J, gR p, ro)) := by
  refine ⟨okCX12_isUnder, Nat.le_of_ble_eq_true rfl, (show Px _ _ _ _ 0 [some (.int (nI 6)), some (.int (nI 7))] [] _ _ from ?_)⟩
  refine px_iload_n (kk := 1) rfl rfl rfl ?_
  refine px_if_eq rfl (fun h => absurd h (by decide)) (fun _ => ?_)
  refine px_iload_n (kk := 0) rfl rfl rfl ?_
  refine px_iload_n (kk := 1) rfl rfl rfl ?_
  refine px_icmp_eq rfl (fun h => absurd h (by decide)) (fun _ => ?_)
  refine px_iload_n (kk := 1) rfl rfl rfl ?_
  refine px_iconst (v := nI 1) rfl k_1 ?_
  refine px_icmp_ne rfl (fun _ => ?_) (fun h => absurd h (by decide))
  refine px_iload_n (kk := 1) rfl rfl rfl ?_
  refine px_iconst (v := nI 2) rfl k_2 ?_
  refine px_icmp_ne rfl (fun _ => ?_) (fun h => absurd h (by decide))
  refine px_iload_n (kk := 1) rfl rfl rfl ?_
  refine px_iconst (v := nI 3) rfl k_3 ?_
  refine px_icmp_ne rfl (fun _ => ?_) (fun h => absurd h (by decide))
  refine px_iload_n (kk := 1) rfl rfl rfl ?_
  refine px_bipush (v := nI 6) rfl b_6 ?_
  refine px_icmp_ne rfl (fun _ => ?_) (fun h => absurd h (by decide))
  refine px_iconst (v := nI 0) rfl k_0 ?_
  refine px_ireturn rfl (.inr ⟨rfl, by decide⟩) ?_
  exact qB_f (by decide +kernel)
theorem vX12_und_7_0 {I : Nat → Nat → Int32} {J : Nat → Nat → Int64} {p : Bool × Option Nat} {ro : List (Nat × Nat × (Nat → Int32))}  : Pv 0 0 0 CX12_isUnder [.int (nI 7), .int (nI 0)] (gS, I, J, gR p, ro) (qB (nI 0 ∈ sp_und 7) (gS, I, J, gR p, ro)) := by
  refine ⟨okCX12_isUnder, Nat.le_of_ble_eq_true rfl, (show Px _ _ _ _ 0 [some (.int (nI 7)), some (.int (nI 0))] [] _ _ from ?_)⟩
  refine px_iload_n (kk := 1) rfl rfl rfl ?_
  refine px_if_eq rfl (fun _ => ?_) (fun h => absurd h (by decide))
  refine px_iconst (v := nI 1) rfl k_1 ?_
  refine px_goto rfl ?_
  refine px_ireturn rfl (.inr ⟨rfl, by decide⟩) ?_
  exact qB_t (by decide +kernel)
theorem vX12_und_7_1 {I : Nat → Nat → Int32} {J : Nat → Nat → Int64} {p : Bool × Option Nat} {ro : List (Nat × Nat × (Nat → Int32))}  : Pv 0 0 0 CX12_isUnder [.int (nI 7), .int (nI 1)] (gS, I, J, gR p, ro) (qB (nI 1 ∈ sp_und 7) (gS, I, J, gR p, ro)) := by
  refine ⟨okCX12_isUnder, Nat.le_of_ble_eq_true rfl, (show Px _ _ _ _ 0 [some (.int (nI 7)), some (.int (nI 1))] [] _ _ from ?_)⟩
  refine px_iload_n (kk := 1) rfl rfl rfl ?_
  refine px_if_eq rfl (fun h => absurd h (by decide)) (fun _ => ?_)
  refine px_iload_n (kk := 0) rfl rfl rfl ?_
  refine px_iload_n (kk := 1) rfl rfl rfl ?_
  refine px_icmp_eq rfl (fun h => absurd h (by decide)) (fun _ => ?_)
  refine px_iload_n (kk := 1) rfl rfl rfl ?_
  refine px_iconst (v := nI 1) rfl k_1 ?_
  refine px_icmp_ne rfl (fun h => absurd h (by decide)) (fun _ => ?_)
  refine px_iload_n (kk := 0) rfl rfl rfl ?_
  refine px_iconst (v := nI 4) rfl k_4 ?_
  refine px_icmp_eq rfl (fun h => absurd h (by decide)) (fun _ => ?_)
  refine px_iload_n (kk := 1) rfl rfl rfl ?_
  refine px_iconst (v := nI 2) rfl k_2 ?_
  refine px_icmp_ne rfl (fun _ => ?_) (fun h => absurd h (by decide))
  refine px_iload_n (kk := 1) rfl rfl rfl ?_
  refine px_iconst (v := nI 3) rfl k_3 ?_
  refine px_icmp_ne rfl (fun _ => ?_) (fun h => absurd h (by decide))
  refine px_iload_n (kk := 1) rfl rfl rfl ?_
  refine px_bipush (v := nI 6) rfl b_6 ?_
  refine px_icmp_ne rfl (fun _ => ?_) (fun h => absurd h (by decide))
  refine px_iconst (v := nI 0) rfl k_0 ?_
  refine px_ireturn rfl (.inr ⟨rfl, by decide⟩) ?_
  exact qB_f (by decide +kernel)
theorem vX12_und_7_2 {I : Nat → Nat → Int32} {J : Nat → Nat → Int64} {p : Bool × Option Nat} {ro : List (Nat × Nat × (Nat → Int32))}  : Pv 0 0 0 CX12_isUnder [.int (nI 7), .int (nI 2)] (gS, I, J, gR p, ro) (qB (nI 2 ∈ sp_und 7) (gS, I, J, gR p, ro)) := by
  refine ⟨okCX12_isUnder, Nat.le_of_ble_eq_true rfl, (show Px _ _ _ _ 0 [some (.int (nI 7)), some (.int (nI 2))] [] _ _ from ?_)⟩
  refine px_iload_n (kk := 1) rfl rfl rfl ?_
  refine px_if_eq rfl (fun h => absurd h (by decide)) (fun _ => ?_)
  refine px_iload_n (kk := 0) rfl rfl rfl ?_
  refine px_iload_n (kk := 1) rfl rfl rfl ?_
  refine px_icmp_eq rfl (fun h => absurd h (by decide)) (fun _ => ?_)
  refine px_iload_n (kk := 1) rfl rfl rfl ?_
  refine px_iconst (v := nI 1) rfl k_1 ?_
  refine px_icmp_ne rfl (fun _ => ?_) (fun h => absurd h (by decide))
  refine px_iload_n (kk := 1) rfl rfl rfl ?_
  refine px_iconst (v := nI 2) rfl k_2 ?_
  refine px_icmp_ne rfl (fun h => absurd h (by decide)) (fun _ => ?_)
  refine px_iload_n (kk := 0) rfl rfl rfl ?_
  refine px_iconst (v := nI 3) rfl k_3 ?_
  refine px_icmp_eq rfl (fun h => absurd h (by decide)) (fun _ => ?_)
  refine px_iload_n (kk := 0) rfl rfl rfl ?_
  refine px_iconst (v := nI 5) rfl k_5 ?_
  refine px_icmp_eq rfl (fun h => absurd h (by decide)) (fun _ => ?_)
  refine px_iload_n (kk := 1) rfl rfl rfl ?_
  refine px_iconst (v := nI 3) rfl k_3 ?_
  refine px_icmp_ne rfl (fun _ => ?_) (fun h => absurd h (by decide))
  refine px_iload_n (kk := 1) rfl rfl rfl ?_
  refine px_bipush (v := nI 6) rfl b_6 ?_
  refine px_icmp_ne rfl (fun _ => ?_) (fun h => absurd h (by decide))
  refine px_iconst (v := nI 0) rfl k_0 ?_
  refine px_ireturn rfl (.inr ⟨rfl, by decide⟩) ?_
  exact qB_f (by decide +kernel)
theorem vX12_und_7_3 {I : Nat → Nat → Int32} {J : Nat → Nat → Int64} {p : Bool × Option Nat} {ro : List (Nat × Nat × (Nat → Int32))}  : Pv 0 0 0 CX12_isUnder [.int (nI 7), .int (nI 3)] (gS, I, J, gR p, ro) (qB (nI 3 ∈ sp_und 7) (gS, I, J, gR p, ro)) := by
  refine ⟨okCX12_isUnder, Nat.le_of_ble_eq_true rfl, (show Px _ _ _ _ 0 [some (.int (nI 7)), some (.int (nI 3))] [] _ _ from ?_)⟩
  refine px_iload_n (kk := 1) rfl rfl rfl ?_
  refine px_if_eq rfl (fun h => absurd h (by decide)) (fun _ => ?_)
  refine px_iload_n (kk := 0) rfl rfl rfl ?_
  refine px_iload_n (kk := 1) rfl rfl rfl ?_
  refine px_icmp_eq rfl (fun h => absurd h (by decide)) (fun _ => ?_)
  refine px_iload_n (kk := 1) rfl rfl rfl ?_
  refine px_iconst (v := nI 1) rfl k_1 ?_
  refine px_icmp_ne rfl (fun _ => ?_) (fun h => absurd h (by decide))
  refine px_iload_n (kk := 1) rfl rfl rfl ?_
  refine px_iconst (v := nI 2) rfl k_2 ?_
  refine px_icmp_ne rfl (fun _ => ?_) (fun h => absurd h (by decide))
  refine px_iload_n (kk := 1) rfl rfl rfl ?_
  refine px_iconst (v := nI 3) rfl k_3 ?_
  refine px_icmp_ne rfl (fun h => absurd h (by decide)) (fun _ => ?_)
  refine px_iload_n (kk := 0) rfl rfl rfl ?_
  refine px_iconst (v := nI 5) rfl k_5 ?_
  refine px_icmp_eq rfl (fun h => absurd h (by decide)) (fun _ => ?_)
  refine px_iload_n (kk := 1) rfl rfl rfl ?_
  refine px_bipush (v := nI 6) rfl b_6 ?_
  refine px_icmp_ne rfl (fun _ => ?_) (fun h => absurd h (by decide))
  refine px_iconst (v := nI 0) rfl k_0 ?_
  refine px_ireturn rfl (.inr ⟨rfl, by decide⟩) ?_
  exact qB_f (by decide +kernel)
theorem vX12_und_7_4 {I : Nat → Nat → Int32} {J : Nat → Nat → Int64} {p : Bool × Option Nat} {ro : List (Nat × Nat × (Nat → Int32))}  : Pv 0 0 0 CX12_isUnder [.int (nI 7), .int (nI 4)] (gS, I, J, gR p, ro) (qB (nI 4 ∈ sp_und 7) (gS, I, J, gR p, ro)) := by
  refine ⟨okCX12_isUnder, Nat.le_of_ble_eq_true rfl, (show Px _ _ _ _ 0 [some (.int (nI 7)), some (.int (nI 4))] [] _ _ from ?_)⟩
  refine px_iload_n (kk := 1) rfl rfl rfl ?_
  refine px_if_eq rfl (fun h => absurd h (by decide)) (fun _ => ?_)
  refine px_iload_n (kk := 0) rfl rfl rfl ?_
  refine px_iload_n (kk := 1) rfl rfl rfl ?_
  refine px_icmp_eq rfl (fun h => absurd h (by decide)) (fun _ => ?_)
  refine px_iload_n (kk := 1) rfl rfl rfl ?_
  refine px_iconst (v := nI 1) rfl k_1 ?_
  refine px_icmp_ne rfl (fun _ => ?_) (fun h => absurd h (by decide))
  refine px_iload_n (kk := 1) rfl rfl rfl ?_
  refine px_iconst (v := nI 2) rfl k_2 ?_
  refine px_icmp_ne rfl (fun _ => ?_) (fun h => absurd h (by decide))
  refine px_iload_n (kk := 1) rfl rfl rfl ?_
  refine px_iconst (v := nI 3) rfl k_3 ?_
  refine px_icmp_ne rfl (fun _ => ?_) (fun h => absurd h (by decide))
  refine px_iload_n (kk := 1) rfl rfl rfl ?_
  refine px_bipush (v := nI 6) rfl b_6 ?_
  refine px_icmp_ne rfl (fun _ => ?_) (fun h => absurd h (by decide))
  refine px_iconst (v := nI 0) rfl k_0 ?_
  refine px_ireturn rfl (.inr ⟨rfl, by decide⟩) ?_
  exact qB_f (by decide +kernel)
theorem vX12_und_7_5 {I : Nat → Nat → Int32} {J : Nat → Nat → Int64} {p : Bool × Option Nat} {ro : List (Nat × Nat × (Nat → Int32))}  : Pv 0 0 0 CX12_isUnder [.int (nI 7), .int (nI 5)] (gS, I, J, gR p, ro) (qB (nI 5 ∈ sp_und 7) (gS, I, J, gR p, ro)) := by
  refine ⟨okCX12_isUnder, Nat.le_of_ble_eq_true rfl, (show Px _ _ _ _ 0 [some (.int (nI 7)), some (.int (nI 5))] [] _ _ from ?_)⟩
  refine px_iload_n (kk := 1) rfl rfl rfl ?_
  refine px_if_eq rfl (fun h => absurd h (by decide)) (fun _ => ?_)
  refine px_iload_n (kk := 0) rfl rfl rfl ?_
  refine px_iload_n (kk := 1) rfl rfl rfl ?_
  refine px_icmp_eq rfl (fun h => absurd h (by decide)) (fun _ => ?_)
  refine px_iload_n (kk := 1) rfl rfl rfl ?_
  refine px_iconst (v := nI 1) rfl k_1 ?_
  refine px_icmp_ne rfl (fun _ => ?_) (fun h => absurd h (by decide))
  refine px_iload_n (kk := 1) rfl rfl rfl ?_
  refine px_iconst (v := nI 2) rfl k_2 ?_
  refine px_icmp_ne rfl (fun _ => ?_) (fun h => absurd h (by decide))
  refine px_iload_n (kk := 1) rfl rfl rfl ?_
  refine px_iconst (v := nI 3) rfl k_3 ?_
  refine px_icmp_ne rfl (fun _ => ?_) (fun h => absurd h (by decide))
  refine px_iload_n (kk := 1) rfl rfl rfl ?_
  refine px_bipush (v := nI 6) rfl b_6 ?_
  refine px_icmp_ne rfl (fun _ => ?_) (fun h => absurd h (by decide))
  refine px_iconst (v := nI 0) rfl k_0 ?_
  refine px_ireturn rfl (.inr ⟨rfl, by decide⟩) ?_
  exact qB_f (by decide +kernel)
theorem vX12_und_7_6 {I : Nat → Nat → Int32} {J : Nat → Nat → Int64} {p : Bool × Option Nat} {ro : List (Nat × Nat × (Nat → Int32))}  : Pv 0 0 0 CX12_isUnder [.int (nI 7), .int (nI 6)] (gS, I, J, gR p, ro) (qB (nI 6 ∈ sp_und 7) (gS, I, J, gR p, ro)) := by
  refine ⟨okCX12_isUnder, Nat.le_of_ble_eq_true rfl, (show Px _ _ _ _ 0 [some (.int (nI 7)), some (.int (nI 6))] [] _ _ from ?_)⟩
  refine px_iload_n (kk := 1) rfl rfl rfl ?_
  refine px_if_eq rfl (fun h => absurd h (by decide)) (fun _ => ?_)
  refine px_iload_n (kk := 0) rfl rfl rfl ?_
  refine px_iload_n (kk := 1) rfl rfl rfl ?_
  refine px_icmp_eq rfl (fun h => absurd h (by decide)) (fun _ => ?_)
  refine px_iload_n (kk := 1) rfl rfl rfl ?_
  refine px_iconst (v := nI 1) rfl k_1 ?_
  refine px_icmp_ne rfl (fun _ => ?_) (fun h => absurd h (by decide))
  refine px_iload_n (kk := 1) rfl rfl rfl ?_
  refine px_iconst (v := nI 2) rfl k_2 ?_
  refine px_icmp_ne rfl (fun _ => ?_) (fun h => absurd h (by decide))
  refine px_iload_n (kk := 1) rfl rfl rfl ?_
  refine px_iconst (v := nI 3) rfl k_3 ?_
  refine px_icmp_ne rfl (fun _ => ?_) (fun h => absurd h (by decide))
  refine px_iload_n (kk := 1) rfl rfl rfl ?_
  refine px_bipush (v := nI 6) rfl b_6 ?_
  refine px_icmp_ne rfl (fun h => absurd h (by decide)) (fun _ => ?_)
  refine px_iload_n (kk := 0) rfl rfl rfl ?_
  refine px_bipush (v := nI 7) rfl b_7 ?_
  refine px_icmp_ne rfl (fun h => absurd h (by decide)) (fun _ => ?_)
  refine px_iconst (v := nI 1) rfl k_1 ?_
  refine px_goto rfl ?_
  refine px_ireturn rfl (.inr ⟨rfl, by decide⟩) ?_
  exact qB_t (by decide +kernel)
theorem vX12_und_7_7 {I : Nat → Nat → Int32} {J : Nat → Nat → Int64} {p : Bool × Option Nat} {ro : List (Nat × Nat × (Nat → Int32))}  : Pv 0 0 0 CX12_isUnder [.int (nI 7), .int (nI 7)] (gS, I, J, gR p, ro) (qB (nI 7 ∈ sp_und 7) (gS, I, J, gR p, ro)) := by
  refine ⟨okCX12_isUnder, Nat.le_of_ble_eq_true rfl, (show Px _ _ _ _ 0 [some (.int (nI 7)), some (.int (nI 7))] [] _ _ from ?_)⟩
  refine px_iload_n (kk := 1) rfl rfl rfl ?_
  refine px_if_eq rfl (fun h => absurd h (by decide)) (fun _ => ?_)
  refine px_iload_n (kk := 0) rfl rfl rfl ?_
  refine px_iload_n (kk := 1) rfl rfl rfl ?_
  refine px_icmp_eq rfl (fun _ => ?_) (fun h => absurd h (by decide))
  refine px_iconst (v := nI 1) rfl k_1 ?_
  refine px_goto rfl ?_
  refine px_ireturn rfl (.inr ⟨rfl, by decide⟩) ?_
  exact qB_t (by decide +kernel)
theorem vX12_isUnderG {I : Nat → Nat → Int32} {J : Nat → Nat → Int64} {p : Bool × Option Nat} {ro : List (Nat × Nat × (Nat → Int32))} {K q : Nat} (hK : K < 8) (hq : q < 8) : Pv 0 0 0 CX12_isUnder [.int (nI K), .int (nI q)] (gS, I, J, gR p, ro) (qB (nI q ∈ sp_und K) (gS, I, J, gR p, ro)) := by
  rcases (by omega : K = 0 ∨ K = 1 ∨ K = 2 ∨ K = 3 ∨ K = 4 ∨ K = 5 ∨ K = 6 ∨ K = 7) with rfl | rfl | rfl | rfl | rfl | rfl | rfl | rfl
  · rcases (by omega : q = 0 ∨ q = 1 ∨ q = 2 ∨ q = 3 ∨ q = 4 ∨ q = 5 ∨ q = 6 ∨ q = 7) with rfl | rfl | rfl | rfl | rfl | rfl | rfl | rfl
    · exact vX12_und_0_0
    · exact vX12_und_0_1
    · exact vX12_und_0_2
    · exact vX12_und_0_3
    · exact vX12_und_0_4
    · exact vX12_und_0_5
    · exact vX12_und_0_6
    · exact vX12_und_0_7
  · rcases (by omega : q = 0 ∨ q = 1 ∨ q = 2 ∨ q = 3 ∨ q = 4 ∨ q = 5 ∨ q = 6 ∨ q = 7) with rfl | rfl | rfl | rfl | rfl | rfl | rfl | rfl
    · exact vX12_und_1_0
    · exact vX12_und_1_1
    · exact vX12_und_1_2
    · exact vX12_und_1_3
    · exact vX12_und_1_4
    · exact vX12_und_1_5
    · exact vX12_und_1_6
    · exact vX12_und_1_7
  · rcases (by omega : q = 0 ∨ q = 1 ∨ q = 2 ∨ q = 3 ∨ q = 4 ∨ q = 5 ∨ q = 6 ∨ q = 7) with rfl | rfl | rfl | rfl | rfl | rfl | rfl | rfl
    · exact vX12_und_2_0
    · exact vX12_und_2_1
    · exact vX12_und_2_2
    · exact vX12_und_2_3
    · exact vX12_und_2_4
    · exact vX12_und_2_5
    · exact vX12_und_2_6
    · exact vX12_und_2_7
  · rcases (by omega : q = 0 ∨ q = 1 ∨ q = 2 ∨ q = 3 ∨ q = 4 ∨ q = 5 ∨ q = 6 ∨ q = 7) with rfl | rfl | rfl | rfl | rfl | rfl | rfl | rfl
    · exact vX12_und_3_0
    · exact vX12_und_3_1
    · exact vX12_und_3_2
    · exact vX12_und_3_3
    · exact vX12_und_3_4
    · exact vX12_und_3_5
    · exact vX12_und_3_6
    · exact vX12_und_3_7
  · rcases (by omega : q = 0 ∨ q = 1 ∨ q = 2 ∨ q = 3 ∨ q = 4 ∨ q = 5 ∨ q = 6 ∨ q = 7) with rfl | rfl | rfl | rfl | rfl | rfl | rfl | rfl
    · exact vX12_und_4_0
    · exact vX12_und_4_1
    · exact vX12_und_4_2
    · exact vX12_und_4_3
    · exact vX12_und_4_4
    · exact vX12_und_4_5
    · exact vX12_und_4_6
    · exact vX12_und_4_7
  · rcases (by omega : q = 0 ∨ q = 1 ∨ q = 2 ∨ q = 3 ∨ q = 4 ∨ q = 5 ∨ q = 6 ∨ q = 7) with rfl | rfl | rfl | rfl | rfl | rfl | rfl | rfl
    · exact vX12_und_5_0
    · exact vX12_und_5_1
    · exact vX12_und_5_2
    · exact vX12_und_5_3
    · exact vX12_und_5_4
    · exact vX12_und_5_5
    · exact vX12_und_5_6
    · exact vX12_und_5_7
  · rcases (by omega : q = 0 ∨ q = 1 ∨ q = 2 ∨ q = 3 ∨ q = 4 ∨ q = 5 ∨ q = 6 ∨ q = 7) with rfl | rfl | rfl | rfl | rfl | rfl | rfl | rfl
    · exact vX12_und_6_0
    · exact vX12_und_6_1
    · exact vX12_und_6_2
    · exact vX12_und_6_3
    · exact vX12_und_6_4
    · exact vX12_und_6_5
    · exact vX12_und_6_6
    · exact vX12_und_6_7
  · rcases (by omega : q = 0 ∨ q = 1 ∨ q = 2 ∨ q = 3 ∨ q = 4 ∨ q = 5 ∨ q = 6 ∨ q = 7) with rfl | rfl | rfl | rfl | rfl | rfl | rfl | rfl
    · exact vX12_und_7_0
    · exact vX12_und_7_1
    · exact vX12_und_7_2
    · exact vX12_und_7_3
    · exact vX12_und_7_4
    · exact vX12_und_7_5
    · exact vX12_und_7_6
    · exact vX12_und_7_7
theorem vX12_taken {I : Nat → Nat → Int32} {J : Nat → Nat → Int64} {p : Bool × Option Nat} {ro : List (Nat × Nat × (Nat → Int32))} {nb : Nat} (hb50 : nb ≤ 50) (hH : ∀ s, s < 6 → RS nb (I 98 s)) (hks : ∀ b, b < nb → ∃ K, K < 8 ∧ I 96 b = nI K) {x y : Int32} : Pv 2 0 0 CX12_taken [.ref (65), .int (x), .int (y)] (gS, I, J, gR p, ro) (fun r S' => S' = (gS, I, J, gR p, ro) ∧ ((¬ ((∃ s, s < 6 ∧ x = nI s) ∧ (∃ k, k < 8 ∧ y = nI k)) ∧ r = some (.int (-1))) ∨ (∃ s, s < 6 ∧ x = nI s ∧ (∃ k, k < 8 ∧ y = nI k) ∧ ((I 98 s = -1 ∧ r = some (.int (-11))) ∨ (I 98 s ≠ -1 ∧ ¬ (∃ b K, b < nb ∧ I 98 s = nI b ∧ K < 8 ∧ I 96 b = nI K ∧ y ∈ sp_und K) ∧ r = some (.int (-12))) ∨ (∃ b K, b < nb ∧ I 98 s = nI b ∧ K < 8 ∧ I 96 b = nI K ∧ y ∈ sp_und K ∧ r = some (.int (nI K))))))) := by
  refine ⟨okCX12_taken, Nat.le_of_ble_eq_true rfl, (show Px _ _ _ _ 0 [some (.ref (65)), some (.int (x)), some (.int (y))] [] _ _ from ?_)⟩
  refine px_iload_n (kk := 1) rfl rfl rfl ?_
  refine px_callS0 CX12_isShelf [] [.int _] (vX12_isShelf) rfl rfl rfl (Nat.le_of_ble_eq_true rfl) (by decide) ?_
  rintro _ _ - (⟨⟨s, hs, rfl⟩, rfl, rfl⟩ | ⟨hs, rfl, rfl⟩)
  · refine px_if_eq rfl (fun h => absurd h (by decide)) (fun _ => ?_)
    refine px_iload_n (kk := 2) rfl rfl rfl ?_
    refine px_iconst (v := nI 0) rfl k_0 ?_
    refine px_bipush (v := nI 7) rfl b_7 ?_
    refine px_callS0 CX12_in [] [.int _, .int _, .int _] (vX12_in) rfl rfl rfl (Nat.le_of_ble_eq_true rfl) (by decide) ?_
    rintro _ _ - (⟨hy, rfl, rfl⟩ | ⟨hy, rfl, rfl⟩)
    · obtain ⟨q, -, hq, rfl⟩ := (in_nn (by decide) (by decide)).mp hy
      refine px_if_ne rfl (fun _ => ?_) (fun h => absurd h (by decide))
      rcases hH s hs with h | ⟨t, ht, h⟩ | ⟨b, hb, h⟩
      · skip
        refine px_aload_n (kk := 0) rfl rfl rfl ?_
        refine px_getR (r := 98) rfl gS_65 rfl (gR_65_59 _) ?_
        refine px_iload_n (kk := 1) rfl rfl rfl ?_
        refine px_ialde (j := s) (v := -1) rfl gS_98 rfl hs h ?_
        refine px_iconst (v := -1) rfl k_m1 ?_
        refine px_icmp_ne rfl (fun h => absurd h (by decide)) (fun _ => ?_)
        refine px_bipush (v := -11) rfl b_m11 ?_
        refine px_ireturn rfl (.inl rfl) ?_
        exact ⟨rfl, .inr ⟨s, hs, rfl, ⟨q, by omega, rfl⟩, .inl ⟨h, rfl⟩⟩⟩
      · skip
        refine px_aload_n (kk := 0) rfl rfl rfl ?_
        refine px_getR (r := 98) rfl gS_65 rfl (gR_65_59 _) ?_
        refine px_iload_n (kk := 1) rfl rfl rfl ?_
        refine px_ialde (j := s) (v := (-2 - nI t)) rfl gS_98 rfl hs h ?_
        refine px_iconst (v := -1) rfl k_m1 ?_
        refine px_icmp_ne rfl (fun c15 => ?_) (fun h => absurd h (rs_1 ht))
        refine px_aload_n (kk := 0) rfl rfl rfl ?_
        refine px_getR (r := 98) rfl gS_65 rfl (gR_65_59 _) ?_
        refine px_iload_n (kk := 1) rfl rfl rfl ?_
        refine px_ialde (j := s) (v := (-2 - nI t)) rfl gS_98 rfl hs h ?_
        refine px_if_lt rfl (fun c22 => ?_) (fun h => absurd (rs_neg ht) h)
        refine px_bipush (v := -12) rfl b_m12 ?_
        refine px_ireturn rfl (.inl rfl) ?_
        exact ⟨rfl, .inr ⟨s, hs, rfl, ⟨q, by omega, rfl⟩, .inr (.inl ⟨by rw [h]; exact rs_1 ht, fun ⟨b2, K2, h1, h2, _⟩ => by rw [h] at h2; exact n_nneg (a := b2) (by omega) (h2 ▸ rs_neg ht), rfl⟩)⟩⟩
      · obtain ⟨K, hK, hk⟩ := hks b hb
        refine px_aload_n (kk := 0) rfl rfl rfl ?_
        refine px_getR (r := 98) rfl gS_65 rfl (gR_65_59 _) ?_
        refine px_iload_n (kk := 1) rfl rfl rfl ?_
        refine px_ialde (j := s) (v := nI b) rfl gS_98 rfl hs h ?_
        refine px_iconst (v := -1) rfl k_m1 ?_
        refine px_icmp_ne rfl (fun c15 => ?_) (fun h => absurd h (rs_b (by omega)))
        refine px_aload_n (kk := 0) rfl rfl rfl ?_
        refine px_getR (r := 98) rfl gS_65 rfl (gR_65_59 _) ?_
        refine px_iload_n (kk := 1) rfl rfl rfl ?_
        refine px_ialde (j := s) (v := nI b) rfl gS_98 rfl hs h ?_
        refine px_if_lt rfl (fun h => absurd h (n_nneg (by omega))) (fun c22 => ?_)
        refine px_aload_n (kk := 0) rfl rfl rfl ?_
        refine px_getR (r := 96) rfl gS_65 rfl (gR_65_56 _) ?_
        refine px_aload_n (kk := 0) rfl rfl rfl ?_
        refine px_getR (r := 98) rfl gS_65 rfl (gR_65_59 _) ?_
        refine px_iload_n (kk := 1) rfl rfl rfl ?_
        refine px_ialde (j := s) (v := nI b) rfl gS_98 rfl hs h ?_
        refine px_ialde (j := b) (v := nI K) rfl gS_96 rfl (by omega) hk ?_
        refine px_iload_n (kk := 2) rfl rfl rfl ?_
        refine px_callS0 CX12_isUnder [] [.int _, .int _] (vX12_isUnderG hK (by omega)) rfl rfl rfl (Nat.le_of_ble_eq_true rfl) (by decide) ?_
        rintro _ _ - (⟨hu, rfl, rfl⟩ | ⟨hu, rfl, rfl⟩)
        · refine px_if_eq rfl (fun h => absurd h (by decide)) (fun _ => ?_)
          refine px_aload_n (kk := 0) rfl rfl rfl ?_
          refine px_getR (r := 96) rfl gS_65 rfl (gR_65_56 _) ?_
          refine px_aload_n (kk := 0) rfl rfl rfl ?_
          refine px_getR (r := 98) rfl gS_65 rfl (gR_65_59 _) ?_
          refine px_iload_n (kk := 1) rfl rfl rfl ?_
          refine px_ialde (j := s) (v := nI b) rfl gS_98 rfl hs h ?_
          refine px_ialde (j := b) (v := nI K) rfl gS_96 rfl (by omega) hk ?_
          refine px_goto rfl ?_
          refine px_ireturn rfl (.inl rfl) ?_
          exact ⟨rfl, .inr ⟨s, hs, rfl, ⟨q, by omega, rfl⟩, .inr (.inr ⟨b, K, hb, h, hK, hk, hu, rfl⟩)⟩⟩
        · refine px_if_eq rfl (fun _ => ?_) (fun h => absurd h (by decide))
          refine px_bipush (v := -12) rfl b_m12 ?_
          refine px_ireturn rfl (.inl rfl) ?_
          exact ⟨rfl, .inr ⟨s, hs, rfl, ⟨q, by omega, rfl⟩, .inr (.inl ⟨by rw [h]; exact rs_b (by omega), fun ⟨b2, K2, h1, h2, h3, h4, h5⟩ => by rw [h, n_eq (by omega) (by omega)] at h2; subst h2; rw [hk, n_eq (by omega) (by omega)] at h4; subst h4; exact hu h5, rfl⟩)⟩⟩
    · refine px_if_ne rfl (fun h => absurd h (by decide)) (fun _ => ?_)
      refine px_iconst (v := -1) rfl k_m1 ?_
      refine px_ireturn rfl (.inl rfl) ?_
      exact ⟨rfl, .inl ⟨fun ⟨_, k, h1, h2⟩ => hy ((in_nn (by decide) (by decide)).mpr ⟨k, Nat.zero_le _, by omega, h2⟩), rfl⟩⟩
  · refine px_if_eq rfl (fun _ => ?_) (fun h => absurd h (by decide))
    refine px_iconst (v := -1) rfl k_m1 ?_
    refine px_ireturn rfl (.inl rfl) ?_
    exact ⟨rfl, .inl ⟨fun h => hs h.1, rfl⟩⟩
theorem lX12_sh1 {I : Nat → Nat → Int32} {J : Nat → Nat → Int64} {p : Bool × Option Nat} {ro : List (Nat × Nat × (Nat → Int32))} {s s2 a b m : Nat} (hs : s < 6) (hs2 : s2 < 6) (ha : a + m ≤ 60) (hb : b + m ≤ 60) {k : Nat} (hk : k ≤ m) {J1 : Nat → Nat → Int64} (hJ : ∀ c, c ≠ 101 → J1 c = J c) (hR : ∀ i, i < k → J1 101 i = J 100 (60 * s + a + i)) {Q : Option Value → pm_M → Prop} (kont : ∀ J2, (∀ c, c ≠ 101 → J2 c = J c) → (∀ i, i < m → J2 101 i = J 100 (60 * s + a + i)) → Px 2 0 0 CX12_shift 83 [some (.ref (65)), some (.int (nI s)), some (.int (nI a)), some (.int (nI s2)), some (.int (nI b)), some (.int (nI m)), some (.int (nI m))] [] (gS, I, J2, gR p, ro) Q) : Px 2 0 0 CX12_shift 64 [some (.ref (65)), some (.int (nI s)), some (.int (nI a)), some (.int (nI s2)), some (.int (nI b)), some (.int (nI m)), some (.int (nI k))] [] (gS, I, J1, gR p, ro) (Q) := by
  refine px_iload rfl rfl ?_
  refine px_iload rfl rfl ?_
  refine px_icmp_ge rfl (fun c66 => ?_) (fun c66 => ?_)
  · rw [n_le (by omega) (by omega)] at c66
    obtain rfl : k = m := by omega
    exact kont J1 hJ hR
  · rw [n_le (by omega) (by omega)] at c66
    refine px_aload_n (kk := 0) rfl rfl rfl ?_
    refine px_getR (r := 101) rfl gS_65 rfl (gR_65_62 _) ?_
    refine px_iload rfl rfl ?_
    refine px_aload_n (kk := 0) rfl rfl rfl ?_
    refine px_getR (r := 100) rfl gS_65 rfl (gR_65_61 _) ?_
    refine px_bipush (v := nI 60) rfl b_60 ?_
    refine px_iload_n (kk := 1) rfl rfl rfl ?_
    refine px_imulN rfl ?_
    refine px_iload_n (kk := 2) rfl rfl rfl ?_
    refine px_iaddN rfl ?_
    refine px_iload rfl rfl ?_
    refine px_iaddN rfl ?_
    refine px_lald (j := (((60 * s) + a) + k)) rfl gS_100 rfl (by omega) ?_
    refine px_last (j := k) rfl gS_101 rfl (by omega) ?_
    refine px_iinc6 (v := nI (k + 1)) rfl (n_inc k) rfl (by decide) ?_
    refine px_goto rfl ?_
    refine lX12_sh1 hs hs2 ha hb (k := k + 1) (by omega) (fun c hc => by rw [p_up_n _ _ hc]; exact hJ c hc) (fun i hi => ?_) kont
    rw [p_up_s]
    by_cases e : i = k
    · subst e; rw [p_up_s, hJ 100 (by decide)]
    · rw [p_up_n _ _ e]; exact hR i (by omega)
termination_by m - k
decreasing_by all_goals (have h := ‹¬ nI m ≤ nI k›; rw [n_le (by omega) (by omega)] at h; omega)
theorem lX12_sh2 {I : Nat → Nat → Int32} {J : Nat → Nat → Int64} {p : Bool × Option Nat} {ro : List (Nat × Nat × (Nat → Int32))} {s s2 a b m : Nat} (hs : s < 6) (hs2 : s2 < 6) (ha : a + m ≤ 60) (hb : b + m ≤ 60) {k : Nat} (hk : k ≤ m) {J1 : Nat → Nat → Int64} (hJ : ∀ c, c ≠ 100 → J1 c = J c) (hR : J1 100 = (fun j => if 60 * s2 + b ≤ j ∧ j < 60 * s2 + b + k then J 101 (j - (60 * s2 + b)) else J 100 j)) : Px 2 0 0 CX12_shift 85 [some (.ref (65)), some (.int (nI s)), some (.int (nI a)), some (.int (nI s2)), some (.int (nI b)), some (.int (nI m)), some (.int (nI k))] [] (gS, I, J1, gR p, ro) (fun r S' => r = some (.int (nI m)) ∧ ∃ J', S' = (gS, I, J', gR p, ro) ∧ (∀ c, c ≠ 100 → J' c = J c) ∧ J' 100 = (fun j => if 60 * s2 + b ≤ j ∧ j < 60 * s2 + b + m then J 101 (j - (60 * s2 + b)) else J 100 j)) := by
  refine px_iload rfl rfl ?_
  refine px_iload rfl rfl ?_
  refine px_icmp_ge rfl (fun c87 => ?_) (fun c87 => ?_)
  · refine px_iload rfl rfl ?_
    refine px_ireturn rfl (.inl rfl) ?_
    rw [n_le (by omega) (by omega)] at c87
    obtain rfl : k = m := by omega
    exact ⟨rfl, J1, rfl, hJ, hR⟩
  · rw [n_le (by omega) (by omega)] at c87
    refine px_aload_n (kk := 0) rfl rfl rfl ?_
    refine px_getR (r := 100) rfl gS_65 rfl (gR_65_61 _) ?_
    refine px_bipush (v := nI 60) rfl b_60 ?_
    refine px_iload_n (kk := 3) rfl rfl rfl ?_
    refine px_imulN rfl ?_
    refine px_iload rfl rfl ?_
    refine px_iaddN rfl ?_
    refine px_iload rfl rfl ?_
    refine px_iaddN rfl ?_
    refine px_aload_n (kk := 0) rfl rfl rfl ?_
    refine px_getR (r := 101) rfl gS_65 rfl (gR_65_62 _) ?_
    refine px_iload rfl rfl ?_
    refine px_lald (j := k) rfl gS_101 rfl (by omega) ?_
    refine px_last (j := (((60 * s2) + b) + k)) rfl gS_100 rfl (by omega) ?_
    refine px_iinc6 (v := nI (k + 1)) rfl (n_inc k) rfl (by decide) ?_
    refine px_goto rfl ?_
    refine lX12_sh2 hs hs2 ha hb (k := k + 1) (by omega) (fun c hc => by rw [p_up_n _ _ hc]; exact hJ c hc) ?_
    rw [p_up_s, hR]
    funext j
    by_cases e : j = 60 * s2 + b + k
    · subst e
      rw [p_up_s, if_pos ⟨by omega, by omega⟩, hJ 101 (by decide), show 60 * s2 + b + k - (60 * s2 + b) = k by omega]
    · rw [p_up_n _ _ e]
      by_cases h : 60 * s2 + b ≤ j ∧ j < 60 * s2 + b + k
      · rw [if_pos h, if_pos ⟨h.1, by omega⟩]
      · rw [if_neg h, if_neg (fun z => h ⟨z.1, by omega⟩)]
termination_by m - k
decreasing_by all_goals (have h := ‹¬ nI m ≤ nI k›; rw [n_le (by omega) (by omega)] at h; omega)
theorem vX12_shift {I : Nat → Nat → Int32} {J : Nat → Nat → Int64} {p : Bool × Option Nat} {ro : List (Nat × Nat × (Nat → Int32))} (hSZ : ∀ s, s < 6 → ∃ z, z ≤ 60 ∧ I 99 s = nI z) {x y v w u : Int32} : Pv 2 0 0 CX12_shift [.ref (65), .int (x), .int (y), .int (v), .int (w), .int (u)] (gS, I, J, gR p, ro) (fun r S' => (¬ ((∃ s, s < 6 ∧ x = nI s) ∧ ∃ s, s < 6 ∧ v = nI s) ∧ r = some (.int (-1)) ∧ S' = (gS, I, J, gR p, ro)) ∨ ∃ s s2, s < 6 ∧ s2 < 6 ∧ x = nI s ∧ v = nI s2 ∧ (((I 98 s = -1 ∨ I 98 s2 = -1) ∧ r = some (.int (-11)) ∧ S' = (gS, I, J, gR p, ro)) ∨ (¬ (I 98 s = -1 ∨ I 98 s2 = -1) ∧ ((¬ (I 98 s < 0 ∧ I 98 s = I 98 s2) ∧ r = some (.int (-12)) ∧ S' = (gS, I, J, gR p, ro)) ∨ ((I 98 s < 0 ∧ I 98 s = I 98 s2) ∧ ((¬ (∃ a b m, y = nI a ∧ w = nI b ∧ u = nI m ∧ a + m ≤ mN (I 99 s) ∧ b + m ≤ mN (I 99 s2)) ∧ r = some (.int (-13)) ∧ S' = (gS, I, J, gR p, ro)) ∨ (∃ a b m, y = nI a ∧ w = nI b ∧ u = nI m ∧ a + m ≤ mN (I 99 s) ∧ b + m ≤ mN (I 99 s2) ∧ r = some (.int (nI m)) ∧ ∃ J', S' = (gS, I, J', gR p, ro) ∧ (∀ c, c ≠ 100 → c ≠ 101 → J' c = J c) ∧ J' 100 = fun j => if 60 * s2 + b ≤ j ∧ j < 60 * s2 + b + m then J 100 (60 * s + a + (j - (60 * s2 + b))) else J 100 j)))))) ) := by
  refine ⟨okCX12_shift, Nat.le_of_ble_eq_true rfl, (show Px _ _ _ _ 0 [some (.ref (65)), some (.int (x)), some (.int (y)), some (.int (v)), some (.int (w)), some (.int (u)), none] [] _ _ from ?_)⟩
  refine px_iload_n (kk := 1) rfl rfl rfl ?_
  refine px_callS0 CX12_isShelf [] [.int _] (vX12_isShelf) rfl rfl rfl (Nat.le_of_ble_eq_true rfl) (by decide) ?_
  rintro _ _ - (⟨⟨s, hs, rfl⟩, rfl, rfl⟩ | ⟨hs, rfl, rfl⟩)
  · refine px_if_eq rfl (fun h => absurd h (by decide)) (fun _ => ?_)
    refine px_iload_n (kk := 3) rfl rfl rfl ?_
    refine px_callS0 CX12_isShelf [] [.int _] (vX12_isShelf) rfl rfl rfl (Nat.le_of_ble_eq_true rfl) (by decide) ?_
    rintro _ _ - (⟨⟨s2, hs2, rfl⟩, rfl, rfl⟩ | ⟨hs2, rfl, rfl⟩)
    · refine px_if_ne rfl (fun _ => ?_) (fun h => absurd h (by decide))
      refine px_aload_n (kk := 0) rfl rfl rfl ?_
      refine px_getR (r := 98) rfl gS_65 rfl (gR_65_59 _) ?_
      refine px_iload_n (kk := 1) rfl rfl rfl ?_
      refine px_iald (j := s) rfl gS_98 rfl hs ?_
      refine px_iconst (v := -1) rfl k_m1 ?_
      refine px_icmp_eq rfl (fun c13 => ?_) (fun c13 => ?_)
      · refine px_bipush (v := -11) rfl b_m11 ?_
        refine px_ireturn rfl (.inl rfl) ?_
        first | (exact .inr ⟨s, s2, hs, hs2, rfl, rfl, .inl ⟨.inl (by first | exact c13 | exact Classical.byContradiction c13), rfl, rfl⟩⟩) | (exact .inr ⟨s, s2, hs, hs2, rfl, rfl, .inl ⟨.inr (by first | exact c19 | exact Classical.byContradiction c19), rfl, rfl⟩⟩) | (exact .inr ⟨s, s2, hs, hs2, rfl, rfl, .inr ⟨fun h => h.elim c13 c19, .inl ⟨fun h => by have := h.1; rw [i_lt] at this; rw [i_le] at c26; omega, rfl, rfl⟩⟩⟩) | (exact .inr ⟨s, s2, hs, hs2, rfl, rfl, .inr ⟨fun h => h.elim c13 c19, .inl ⟨fun h => c35 h.2, rfl, rfl⟩⟩⟩) | (exact .inr ⟨s, s2, hs, hs2, rfl, rfl, .inr ⟨fun h => h.elim c13 c19, .inr ⟨⟨by rw [i_lt]; rw [i_le] at c26; omega, by first | exact c35 | exact Classical.byContradiction c35⟩, .inl ⟨fun ⟨a2, b2, m2, h1, h2, h3, h4, h5⟩ => by rw [h3] at c39; exact n_nneg (a := m2) (by omega) c39, rfl, rfl⟩⟩⟩⟩) | (exact .inr ⟨s, s2, hs, hs2, rfl, rfl, .inr ⟨fun h => h.elim c13 c19, .inr ⟨⟨by rw [i_lt]; rw [i_le] at c26; omega, by first | exact c35 | exact Classical.byContradiction c35⟩, .inl ⟨fun ⟨a2, b2, m2, h1, h2, h3, h4, h5⟩ => by rw [h1] at c41; exact n_nneg (a := a2) (by omega) c41, rfl, rfl⟩⟩⟩⟩) | (exact .inr ⟨s, s2, hs, hs2, rfl, rfl, .inr ⟨fun h => h.elim c13 c19, .inr ⟨⟨by rw [i_lt]; rw [i_le] at c26; omega, by first | exact c35 | exact Classical.byContradiction c35⟩, .inl ⟨fun ⟨a2, b2, m2, h1, h2, h3, h4, h5⟩ => by rw [h2] at c43; exact n_nneg (a := b2) (by omega) c43, rfl, rfl⟩⟩⟩⟩) | (exact .inr ⟨s, s2, hs, hs2, rfl, rfl, .inr ⟨fun h => h.elim c13 c19, .inr ⟨⟨by rw [i_lt]; rw [i_le] at c26; omega, by first | exact c35 | exact Classical.byContradiction c35⟩, .inl ⟨fun ⟨a2, b2, m2, h1, h2, h3, h4, h5⟩ => by rw [n_eq hal (by omega)] at h1; rw [n_eq hml (by omega)] at h3; rw [sub_n (by omega) hml hal] at c51; omega, rfl, rfl⟩⟩⟩⟩) | (exact .inr ⟨s, s2, hs, hs2, rfl, rfl, .inr ⟨fun h => h.elim c13 c19, .inr ⟨⟨by rw [i_lt]; rw [i_le] at c26; omega, by first | exact c35 | exact Classical.byContradiction c35⟩, .inl ⟨fun ⟨a2, b2, m2, h1, h2, h3, h4, h5⟩ => by rw [n_eq hbl (by omega)] at h2; rw [n_eq hml (by omega)] at h3; have c59b : nI q - nI m < nI b := (by first | exact c59 | (rw [i_lt]; rw [i_le] at c59; omega)); rw [sub_n (by omega) hml hbl] at c59b; omega, rfl, rfl⟩⟩⟩⟩) | exact .inl ⟨fun h => hs2 h.2, rfl, rfl⟩ | exact .inl ⟨fun h => hs h.1, rfl, rfl⟩
      · refine px_aload_n (kk := 0) rfl rfl rfl ?_
        refine px_getR (r := 98) rfl gS_65 rfl (gR_65_59 _) ?_
        refine px_iload_n (kk := 3) rfl rfl rfl ?_
        refine px_iald (j := s2) rfl gS_98 rfl hs2 ?_
        refine px_iconst (v := -1) rfl k_m1 ?_
        refine px_icmp_ne rfl (fun c19 => ?_) (fun c19 => ?_)
        · refine px_aload_n (kk := 0) rfl rfl rfl ?_
          refine px_getR (r := 98) rfl gS_65 rfl (gR_65_59 _) ?_
          refine px_iload_n (kk := 1) rfl rfl rfl ?_
          refine px_iald (j := s) rfl gS_98 rfl hs ?_
          refine px_if_ge rfl (fun c26 => ?_) (fun c26 => ?_)
          · refine px_bipush (v := -12) rfl b_m12 ?_
            refine px_ireturn rfl (.inl rfl) ?_
            first | (exact .inr ⟨s, s2, hs, hs2, rfl, rfl, .inl ⟨.inl (by first | exact c13 | exact Classical.byContradiction c13), rfl, rfl⟩⟩) | (exact .inr ⟨s, s2, hs, hs2, rfl, rfl, .inl ⟨.inr (by first | exact c19 | exact Classical.byContradiction c19), rfl, rfl⟩⟩) | (exact .inr ⟨s, s2, hs, hs2, rfl, rfl, .inr ⟨fun h => h.elim c13 c19, .inl ⟨fun h => by have := h.1; rw [i_lt] at this; rw [i_le] at c26; omega, rfl, rfl⟩⟩⟩) | (exact .inr ⟨s, s2, hs, hs2, rfl, rfl, .inr ⟨fun h => h.elim c13 c19, .inl ⟨fun h => c35 h.2, rfl, rfl⟩⟩⟩) | (exact .inr ⟨s, s2, hs, hs2, rfl, rfl, .inr ⟨fun h => h.elim c13 c19, .inr ⟨⟨by rw [i_lt]; rw [i_le] at c26; omega, by first | exact c35 | exact Classical.byContradiction c35⟩, .inl ⟨fun ⟨a2, b2, m2, h1, h2, h3, h4, h5⟩ => by rw [h3] at c39; exact n_nneg (a := m2) (by omega) c39, rfl, rfl⟩⟩⟩⟩) | (exact .inr ⟨s, s2, hs, hs2, rfl, rfl, .inr ⟨fun h => h.elim c13 c19, .inr ⟨⟨by rw [i_lt]; rw [i_le] at c26; omega, by first | exact c35 | exact Classical.byContradiction c35⟩, .inl ⟨fun ⟨a2, b2, m2, h1, h2, h3, h4, h5⟩ => by rw [h1] at c41; exact n_nneg (a := a2) (by omega) c41, rfl, rfl⟩⟩⟩⟩) | (exact .inr ⟨s, s2, hs, hs2, rfl, rfl, .inr ⟨fun h => h.elim c13 c19, .inr ⟨⟨by rw [i_lt]; rw [i_le] at c26; omega, by first | exact c35 | exact Classical.byContradiction c35⟩, .inl ⟨fun ⟨a2, b2, m2, h1, h2, h3, h4, h5⟩ => by rw [h2] at c43; exact n_nneg (a := b2) (by omega) c43, rfl, rfl⟩⟩⟩⟩) | (exact .inr ⟨s, s2, hs, hs2, rfl, rfl, .inr ⟨fun h => h.elim c13 c19, .inr ⟨⟨by rw [i_lt]; rw [i_le] at c26; omega, by first | exact c35 | exact Classical.byContradiction c35⟩, .inl ⟨fun ⟨a2, b2, m2, h1, h2, h3, h4, h5⟩ => by rw [n_eq hal (by omega)] at h1; rw [n_eq hml (by omega)] at h3; rw [sub_n (by omega) hml hal] at c51; omega, rfl, rfl⟩⟩⟩⟩) | (exact .inr ⟨s, s2, hs, hs2, rfl, rfl, .inr ⟨fun h => h.elim c13 c19, .inr ⟨⟨by rw [i_lt]; rw [i_le] at c26; omega, by first | exact c35 | exact Classical.byContradiction c35⟩, .inl ⟨fun ⟨a2, b2, m2, h1, h2, h3, h4, h5⟩ => by rw [n_eq hbl (by omega)] at h2; rw [n_eq hml (by omega)] at h3; have c59b : nI q - nI m < nI b := (by first | exact c59 | (rw [i_lt]; rw [i_le] at c59; omega)); rw [sub_n (by omega) hml hbl] at c59b; omega, rfl, rfl⟩⟩⟩⟩) | exact .inl ⟨fun h => hs2 h.2, rfl, rfl⟩ | exact .inl ⟨fun h => hs h.1, rfl, rfl⟩
          · refine px_aload_n (kk := 0) rfl rfl rfl ?_
            refine px_getR (r := 98) rfl gS_65 rfl (gR_65_59 _) ?_
            refine px_iload_n (kk := 1) rfl rfl rfl ?_
            refine px_iald (j := s) rfl gS_98 rfl hs ?_
            refine px_aload_n (kk := 0) rfl rfl rfl ?_
            refine px_getR (r := 98) rfl gS_65 rfl (gR_65_59 _) ?_
            refine px_iload_n (kk := 3) rfl rfl rfl ?_
            refine px_iald (j := s2) rfl gS_98 rfl hs2 ?_
            refine px_icmp_eq rfl (fun c35 => ?_) (fun c35 => ?_)
            · obtain ⟨z, hz60, hz⟩ := hSZ s hs
              obtain ⟨q, hq60, hq⟩ := hSZ s2 hs2
              have hmz : mN (I 99 s) = z := by rw [hz, mN_n (by omega)]
              have hmq : mN (I 99 s2) = q := by rw [hq, mN_n (by omega)]
              refine px_iload rfl rfl ?_
              refine px_if_lt rfl (fun c39 => ?_) (fun c39 => ?_)
              · refine px_bipush (v := -13) rfl b_m13 ?_
                refine px_ireturn rfl (.inl rfl) ?_
                first | (exact .inr ⟨s, s2, hs, hs2, rfl, rfl, .inl ⟨.inl (by first | exact c13 | exact Classical.byContradiction c13), rfl, rfl⟩⟩) | (exact .inr ⟨s, s2, hs, hs2, rfl, rfl, .inl ⟨.inr (by first | exact c19 | exact Classical.byContradiction c19), rfl, rfl⟩⟩) | (exact .inr ⟨s, s2, hs, hs2, rfl, rfl, .inr ⟨fun h => h.elim c13 c19, .inl ⟨fun h => by have := h.1; rw [i_lt] at this; rw [i_le] at c26; omega, rfl, rfl⟩⟩⟩) | (exact .inr ⟨s, s2, hs, hs2, rfl, rfl, .inr ⟨fun h => h.elim c13 c19, .inl ⟨fun h => c35 h.2, rfl, rfl⟩⟩⟩) | (exact .inr ⟨s, s2, hs, hs2, rfl, rfl, .inr ⟨fun h => h.elim c13 c19, .inr ⟨⟨by rw [i_lt]; rw [i_le] at c26; omega, by first | exact c35 | exact Classical.byContradiction c35⟩, .inl ⟨fun ⟨a2, b2, m2, h1, h2, h3, h4, h5⟩ => by rw [h3] at c39; exact n_nneg (a := m2) (by omega) c39, rfl, rfl⟩⟩⟩⟩) | (exact .inr ⟨s, s2, hs, hs2, rfl, rfl, .inr ⟨fun h => h.elim c13 c19, .inr ⟨⟨by rw [i_lt]; rw [i_le] at c26; omega, by first | exact c35 | exact Classical.byContradiction c35⟩, .inl ⟨fun ⟨a2, b2, m2, h1, h2, h3, h4, h5⟩ => by rw [h1] at c41; exact n_nneg (a := a2) (by omega) c41, rfl, rfl⟩⟩⟩⟩) | (exact .inr ⟨s, s2, hs, hs2, rfl, rfl, .inr ⟨fun h => h.elim c13 c19, .inr ⟨⟨by rw [i_lt]; rw [i_le] at c26; omega, by first | exact c35 | exact Classical.byContradiction c35⟩, .inl ⟨fun ⟨a2, b2, m2, h1, h2, h3, h4, h5⟩ => by rw [h2] at c43; exact n_nneg (a := b2) (by omega) c43, rfl, rfl⟩⟩⟩⟩) | (exact .inr ⟨s, s2, hs, hs2, rfl, rfl, .inr ⟨fun h => h.elim c13 c19, .inr ⟨⟨by rw [i_lt]; rw [i_le] at c26; omega, by first | exact c35 | exact Classical.byContradiction c35⟩, .inl ⟨fun ⟨a2, b2, m2, h1, h2, h3, h4, h5⟩ => by rw [n_eq hal (by omega)] at h1; rw [n_eq hml (by omega)] at h3; rw [sub_n (by omega) hml hal] at c51; omega, rfl, rfl⟩⟩⟩⟩) | (exact .inr ⟨s, s2, hs, hs2, rfl, rfl, .inr ⟨fun h => h.elim c13 c19, .inr ⟨⟨by rw [i_lt]; rw [i_le] at c26; omega, by first | exact c35 | exact Classical.byContradiction c35⟩, .inl ⟨fun ⟨a2, b2, m2, h1, h2, h3, h4, h5⟩ => by rw [n_eq hbl (by omega)] at h2; rw [n_eq hml (by omega)] at h3; have c59b : nI q - nI m < nI b := (by first | exact c59 | (rw [i_lt]; rw [i_le] at c59; omega)); rw [sub_n (by omega) hml hbl] at c59b; omega, rfl, rfl⟩⟩⟩⟩) | exact .inl ⟨fun h => hs2 h.2, rfl, rfl⟩ | exact .inl ⟨fun h => hs h.1, rfl, rfl⟩
              · obtain ⟨m, hml, rfl⟩ := n_ofn c39
                refine px_iload_n (kk := 2) rfl rfl rfl ?_
                refine px_if_lt rfl (fun c41 => ?_) (fun c41 => ?_)
                · refine px_bipush (v := -13) rfl b_m13 ?_
                  refine px_ireturn rfl (.inl rfl) ?_
                  first | (exact .inr ⟨s, s2, hs, hs2, rfl, rfl, .inl ⟨.inl (by first | exact c13 | exact Classical.byContradiction c13), rfl, rfl⟩⟩) | (exact .inr ⟨s, s2, hs, hs2, rfl, rfl, .inl ⟨.inr (by first | exact c19 | exact Classical.byContradiction c19), rfl, rfl⟩⟩) | (exact .inr ⟨s, s2, hs, hs2, rfl, rfl, .inr ⟨fun h => h.elim c13 c19, .inl ⟨fun h => by have := h.1; rw [i_lt] at this; rw [i_le] at c26; omega, rfl, rfl⟩⟩⟩) | (exact .inr ⟨s, s2, hs, hs2, rfl, rfl, .inr ⟨fun h => h.elim c13 c19, .inl ⟨fun h => c35 h.2, rfl, rfl⟩⟩⟩) | (exact .inr ⟨s, s2, hs, hs2, rfl, rfl, .inr ⟨fun h => h.elim c13 c19, .inr ⟨⟨by rw [i_lt]; rw [i_le] at c26; omega, by first | exact c35 | exact Classical.byContradiction c35⟩, .inl ⟨fun ⟨a2, b2, m2, h1, h2, h3, h4, h5⟩ => by rw [h3] at c39; exact n_nneg (a := m2) (by omega) c39, rfl, rfl⟩⟩⟩⟩) | (exact .inr ⟨s, s2, hs, hs2, rfl, rfl, .inr ⟨fun h => h.elim c13 c19, .inr ⟨⟨by rw [i_lt]; rw [i_le] at c26; omega, by first | exact c35 | exact Classical.byContradiction c35⟩, .inl ⟨fun ⟨a2, b2, m2, h1, h2, h3, h4, h5⟩ => by rw [h1] at c41; exact n_nneg (a := a2) (by omega) c41, rfl, rfl⟩⟩⟩⟩) | (exact .inr ⟨s, s2, hs, hs2, rfl, rfl, .inr ⟨fun h => h.elim c13 c19, .inr ⟨⟨by rw [i_lt]; rw [i_le] at c26; omega, by first | exact c35 | exact Classical.byContradiction c35⟩, .inl ⟨fun ⟨a2, b2, m2, h1, h2, h3, h4, h5⟩ => by rw [h2] at c43; exact n_nneg (a := b2) (by omega) c43, rfl, rfl⟩⟩⟩⟩) | (exact .inr ⟨s, s2, hs, hs2, rfl, rfl, .inr ⟨fun h => h.elim c13 c19, .inr ⟨⟨by rw [i_lt]; rw [i_le] at c26; omega, by first | exact c35 | exact Classical.byContradiction c35⟩, .inl ⟨fun ⟨a2, b2, m2, h1, h2, h3, h4, h5⟩ => by rw [n_eq hal (by omega)] at h1; rw [n_eq hml (by omega)] at h3; rw [sub_n (by omega) hml hal] at c51; omega, rfl, rfl⟩⟩⟩⟩) | (exact .inr ⟨s, s2, hs, hs2, rfl, rfl, .inr ⟨fun h => h.elim c13 c19, .inr ⟨⟨by rw [i_lt]; rw [i_le] at c26; omega, by first | exact c35 | exact Classical.byContradiction c35⟩, .inl ⟨fun ⟨a2, b2, m2, h1, h2, h3, h4, h5⟩ => by rw [n_eq hbl (by omega)] at h2; rw [n_eq hml (by omega)] at h3; have c59b : nI q - nI m < nI b := (by first | exact c59 | (rw [i_lt]; rw [i_le] at c59; omega)); rw [sub_n (by omega) hml hbl] at c59b; omega, rfl, rfl⟩⟩⟩⟩) | exact .inl ⟨fun h => hs2 h.2, rfl, rfl⟩ | exact .inl ⟨fun h => hs h.1, rfl, rfl⟩
                · obtain ⟨a, hal, rfl⟩ := n_ofn c41
                  refine px_iload rfl rfl ?_
                  refine px_if_lt rfl (fun c43 => ?_) (fun c43 => ?_)
                  · refine px_bipush (v := -13) rfl b_m13 ?_
                    refine px_ireturn rfl (.inl rfl) ?_
                    first | (exact .inr ⟨s, s2, hs, hs2, rfl, rfl, .inl ⟨.inl (by first | exact c13 | exact Classical.byContradiction c13), rfl, rfl⟩⟩) | (exact .inr ⟨s, s2, hs, hs2, rfl, rfl, .inl ⟨.inr (by first | exact c19 | exact Classical.byContradiction c19), rfl, rfl⟩⟩) | (exact .inr ⟨s, s2, hs, hs2, rfl, rfl, .inr ⟨fun h => h.elim c13 c19, .inl ⟨fun h => by have := h.1; rw [i_lt] at this; rw [i_le] at c26; omega, rfl, rfl⟩⟩⟩) | (exact .inr ⟨s, s2, hs, hs2, rfl, rfl, .inr ⟨fun h => h.elim c13 c19, .inl ⟨fun h => c35 h.2, rfl, rfl⟩⟩⟩) | (exact .inr ⟨s, s2, hs, hs2, rfl, rfl, .inr ⟨fun h => h.elim c13 c19, .inr ⟨⟨by rw [i_lt]; rw [i_le] at c26; omega, by first | exact c35 | exact Classical.byContradiction c35⟩, .inl ⟨fun ⟨a2, b2, m2, h1, h2, h3, h4, h5⟩ => by rw [h3] at c39; exact n_nneg (a := m2) (by omega) c39, rfl, rfl⟩⟩⟩⟩) | (exact .inr ⟨s, s2, hs, hs2, rfl, rfl, .inr ⟨fun h => h.elim c13 c19, .inr ⟨⟨by rw [i_lt]; rw [i_le] at c26; omega, by first | exact c35 | exact Classical.byContradiction c35⟩, .inl ⟨fun ⟨a2, b2, m2, h1, h2, h3, h4, h5⟩ => by rw [h1] at c41; exact n_nneg (a := a2) (by omega) c41, rfl, rfl⟩⟩⟩⟩) | (exact .inr ⟨s, s2, hs, hs2, rfl, rfl, .inr ⟨fun h => h.elim c13 c19, .inr ⟨⟨by rw [i_lt]; rw [i_le] at c26; omega, by first | exact c35 | exact Classical.byContradiction c35⟩, .inl ⟨fun ⟨a2, b2, m2, h1, h2, h3, h4, h5⟩ => by rw [h2] at c43; exact n_nneg (a := b2) (by omega) c43, rfl, rfl⟩⟩⟩⟩) | (exact .inr ⟨s, s2, hs, hs2, rfl, rfl, .inr ⟨fun h => h.elim c13 c19, .inr ⟨⟨by rw [i_lt]; rw [i_le] at c26; omega, by first | exact c35 | exact Classical.byContradiction c35⟩, .inl ⟨fun ⟨a2, b2, m2, h1, h2, h3, h4, h5⟩ => by rw [n_eq hal (by omega)] at h1; rw [n_eq hml (by omega)] at h3; rw [sub_n (by omega) hml hal] at c51; omega, rfl, rfl⟩⟩⟩⟩) | (exact .inr ⟨s, s2, hs, hs2, rfl, rfl, .inr ⟨fun h => h.elim c13 c19, .inr ⟨⟨by rw [i_lt]; rw [i_le] at c26; omega, by first | exact c35 | exact Classical.byContradiction c35⟩, .inl ⟨fun ⟨a2, b2, m2, h1, h2, h3, h4, h5⟩ => by rw [n_eq hbl (by omega)] at h2; rw [n_eq hml (by omega)] at h3; have c59b : nI q - nI m < nI b := (by first | exact c59 | (rw [i_lt]; rw [i_le] at c59; omega)); rw [sub_n (by omega) hml hbl] at c59b; omega, rfl, rfl⟩⟩⟩⟩) | exact .inl ⟨fun h => hs2 h.2, rfl, rfl⟩ | exact .inl ⟨fun h => hs h.1, rfl, rfl⟩
                  · obtain ⟨b, hbl, rfl⟩ := n_ofn c43
                    refine px_iload_n (kk := 2) rfl rfl rfl ?_
                    refine px_aload_n (kk := 0) rfl rfl rfl ?_
                    refine px_getR (r := 99) rfl gS_65 rfl (gR_65_60 _) ?_
                    refine px_iload_n (kk := 1) rfl rfl rfl ?_
                    refine px_ialde (j := s) (v := nI z) rfl gS_99 rfl hs hz ?_
                    refine px_iload rfl rfl ?_
                    refine px_isub rfl ?_
                    refine px_icmp_gt rfl (fun c51 => ?_) (fun c51 => ?_)
                    · refine px_bipush (v := -13) rfl b_m13 ?_
                      refine px_ireturn rfl (.inl rfl) ?_
                      first | (exact .inr ⟨s, s2, hs, hs2, rfl, rfl, .inl ⟨.inl (by first | exact c13 | exact Classical.byContradiction c13), rfl, rfl⟩⟩) | (exact .inr ⟨s, s2, hs, hs2, rfl, rfl, .inl ⟨.inr (by first | exact c19 | exact Classical.byContradiction c19), rfl, rfl⟩⟩) | (exact .inr ⟨s, s2, hs, hs2, rfl, rfl, .inr ⟨fun h => h.elim c13 c19, .inl ⟨fun h => by have := h.1; rw [i_lt] at this; rw [i_le] at c26; omega, rfl, rfl⟩⟩⟩) | (exact .inr ⟨s, s2, hs, hs2, rfl, rfl, .inr ⟨fun h => h.elim c13 c19, .inl ⟨fun h => c35 h.2, rfl, rfl⟩⟩⟩) | (exact .inr ⟨s, s2, hs, hs2, rfl, rfl, .inr ⟨fun h => h.elim c13 c19, .inr ⟨⟨by rw [i_lt]; rw [i_le] at c26; omega, by first | exact c35 | exact Classical.byContradiction c35⟩, .inl ⟨fun ⟨a2, b2, m2, h1, h2, h3, h4, h5⟩ => by rw [h3] at c39; exact n_nneg (a := m2) (by omega) c39, rfl, rfl⟩⟩⟩⟩) | (exact .inr ⟨s, s2, hs, hs2, rfl, rfl, .inr ⟨fun h => h.elim c13 c19, .inr ⟨⟨by rw [i_lt]; rw [i_le] at c26; omega, by first | exact c35 | exact Classical.byContradiction c35⟩, .inl ⟨fun ⟨a2, b2, m2, h1, h2, h3, h4, h5⟩ => by rw [h1] at c41; exact n_nneg (a := a2) (by omega) c41, rfl, rfl⟩⟩⟩⟩) | (exact .inr ⟨s, s2, hs, hs2, rfl, rfl, .inr ⟨fun h => h.elim c13 c19, .inr ⟨⟨by rw [i_lt]; rw [i_le] at c26; omega, by first | exact c35 | exact Classical.byContradiction c35⟩, .inl ⟨fun ⟨a2, b2, m2, h1, h2, h3, h4, h5⟩ => by rw [h2] at c43; exact n_nneg (a := b2) (by omega) c43, rfl, rfl⟩⟩⟩⟩) | (exact .inr ⟨s, s2, hs, hs2, rfl, rfl, .inr ⟨fun h => h.elim c13 c19, .inr ⟨⟨by rw [i_lt]; rw [i_le] at c26; omega, by first | exact c35 | exact Classical.byContradiction c35⟩, .inl ⟨fun ⟨a2, b2, m2, h1, h2, h3, h4, h5⟩ => by rw [n_eq hal (by omega)] at h1; rw [n_eq hml (by omega)] at h3; rw [sub_n (by omega) hml hal] at c51; omega, rfl, rfl⟩⟩⟩⟩) | (exact .inr ⟨s, s2, hs, hs2, rfl, rfl, .inr ⟨fun h => h.elim c13 c19, .inr ⟨⟨by rw [i_lt]; rw [i_le] at c26; omega, by first | exact c35 | exact Classical.byContradiction c35⟩, .inl ⟨fun ⟨a2, b2, m2, h1, h2, h3, h4, h5⟩ => by rw [n_eq hbl (by omega)] at h2; rw [n_eq hml (by omega)] at h3; have c59b : nI q - nI m < nI b := (by first | exact c59 | (rw [i_lt]; rw [i_le] at c59; omega)); rw [sub_n (by omega) hml hbl] at c59b; omega, rfl, rfl⟩⟩⟩⟩) | exact .inl ⟨fun h => hs2 h.2, rfl, rfl⟩ | exact .inl ⟨fun h => hs h.1, rfl, rfl⟩
                    · rw [sub_n (by omega) hml hal] at c51
                      refine px_iload rfl rfl ?_
                      refine px_aload_n (kk := 0) rfl rfl rfl ?_
                      refine px_getR (r := 99) rfl gS_65 rfl (gR_65_60 _) ?_
                      refine px_iload_n (kk := 3) rfl rfl rfl ?_
                      refine px_ialde (j := s2) (v := nI q) rfl gS_99 rfl hs2 hq ?_
                      refine px_iload rfl rfl ?_
                      refine px_isub rfl ?_
                      refine px_icmp_le rfl (fun c59 => ?_) (fun c59 => ?_)
                      · replace c59 : ¬ (nI q - nI m < nI b) := by intro z; rw [i_lt] at z; rw [i_le] at c59; omega
                        rw [sub_n (by omega) hml hbl] at c59
                        refine px_iconst (v := nI 0) rfl k_0 ?_
                        refine px_ist6 rfl rfl (by decide) ?_
                        refine lX12_sh1 hs hs2 (a := a) (b := b) (m := m) (by omega) (by omega) (k := 0) (by omega) (J1 := J) (fun _ _ => rfl) (fun i hi => absurd hi (by omega)) (fun J2 hJ2 hR2 => ?_)
                        refine px_iconst (v := nI 0) rfl k_0 ?_
                        refine px_ist6 rfl rfl (by decide) ?_
                        refine pxv_post (lX12_sh2 (J := J2) hs hs2 (a := a) (b := b) (m := m) (by omega) (by omega) (k := 0) (by omega) (fun _ _ => rfl) (by funext j; rw [if_neg (fun z => by omega)])) (fun r S hr => ?_)
                        obtain ⟨rfl, J3, rfl, hJ3, hR3⟩ := hr
                        refine .inr ⟨s, s2, hs, hs2, rfl, rfl, .inr ⟨fun h => h.elim c13 c19, .inr ⟨⟨by rw [i_lt]; rw [i_le] at c26; omega, by first | exact c35 | exact Classical.byContradiction c35⟩, .inr ⟨a, b, m, rfl, rfl, rfl, by omega, by omega, rfl, J3, rfl, fun c h1 h2 => (hJ3 c h1).trans (hJ2 c h2), ?_⟩⟩⟩⟩
                        rw [hR3]
                        funext j
                        by_cases h : 60 * s2 + b ≤ j ∧ j < 60 * s2 + b + m
                        · rw [if_pos h, if_pos h, hR2 _ (by omega)]
                        · rw [if_neg h, if_neg h, hJ2 100 (by decide)]
                      · refine px_bipush (v := -13) rfl b_m13 ?_
                        refine px_ireturn rfl (.inl rfl) ?_
                        first | (exact .inr ⟨s, s2, hs, hs2, rfl, rfl, .inl ⟨.inl (by first | exact c13 | exact Classical.byContradiction c13), rfl, rfl⟩⟩) | (exact .inr ⟨s, s2, hs, hs2, rfl, rfl, .inl ⟨.inr (by first | exact c19 | exact Classical.byContradiction c19), rfl, rfl⟩⟩) | (exact .inr ⟨s, s2, hs, hs2, rfl, rfl, .inr ⟨fun h => h.elim c13 c19, .inl ⟨fun h => by have := h.1; rw [i_lt] at this; rw [i_le] at c26; omega, rfl, rfl⟩⟩⟩) | (exact .inr ⟨s, s2, hs, hs2, rfl, rfl, .inr ⟨fun h => h.elim c13 c19, .inl ⟨fun h => c35 h.2, rfl, rfl⟩⟩⟩) | (exact .inr ⟨s, s2, hs, hs2, rfl, rfl, .inr ⟨fun h => h.elim c13 c19, .inr ⟨⟨by rw [i_lt]; rw [i_le] at c26; omega, by first | exact c35 | exact Classical.byContradiction c35⟩, .inl ⟨fun ⟨a2, b2, m2, h1, h2, h3, h4, h5⟩ => by rw [h3] at c39; exact n_nneg (a := m2) (by omega) c39, rfl, rfl⟩⟩⟩⟩) | (exact .inr ⟨s, s2, hs, hs2, rfl, rfl, .inr ⟨fun h => h.elim c13 c19, .inr ⟨⟨by rw [i_lt]; rw [i_le] at c26; omega, by first | exact c35 | exact Classical.byContradiction c35⟩, .inl ⟨fun ⟨a2, b2, m2, h1, h2, h3, h4, h5⟩ => by rw [h1] at c41; exact n_nneg (a := a2) (by omega) c41, rfl, rfl⟩⟩⟩⟩) | (exact .inr ⟨s, s2, hs, hs2, rfl, rfl, .inr ⟨fun h => h.elim c13 c19, .inr ⟨⟨by rw [i_lt]; rw [i_le] at c26; omega, by first | exact c35 | exact Classical.byContradiction c35⟩, .inl ⟨fun ⟨a2, b2, m2, h1, h2, h3, h4, h5⟩ => by rw [h2] at c43; exact n_nneg (a := b2) (by omega) c43, rfl, rfl⟩⟩⟩⟩) | (exact .inr ⟨s, s2, hs, hs2, rfl, rfl, .inr ⟨fun h => h.elim c13 c19, .inr ⟨⟨by rw [i_lt]; rw [i_le] at c26; omega, by first | exact c35 | exact Classical.byContradiction c35⟩, .inl ⟨fun ⟨a2, b2, m2, h1, h2, h3, h4, h5⟩ => by rw [n_eq hal (by omega)] at h1; rw [n_eq hml (by omega)] at h3; rw [sub_n (by omega) hml hal] at c51; omega, rfl, rfl⟩⟩⟩⟩) | (exact .inr ⟨s, s2, hs, hs2, rfl, rfl, .inr ⟨fun h => h.elim c13 c19, .inr ⟨⟨by rw [i_lt]; rw [i_le] at c26; omega, by first | exact c35 | exact Classical.byContradiction c35⟩, .inl ⟨fun ⟨a2, b2, m2, h1, h2, h3, h4, h5⟩ => by rw [n_eq hbl (by omega)] at h2; rw [n_eq hml (by omega)] at h3; have c59b : nI q - nI m < nI b := (by first | exact c59 | (rw [i_lt]; rw [i_le] at c59; omega)); rw [sub_n (by omega) hml hbl] at c59b; omega, rfl, rfl⟩⟩⟩⟩) | exact .inl ⟨fun h => hs2 h.2, rfl, rfl⟩ | exact .inl ⟨fun h => hs h.1, rfl, rfl⟩
            · refine px_bipush (v := -12) rfl b_m12 ?_
              refine px_ireturn rfl (.inl rfl) ?_
              first | (exact .inr ⟨s, s2, hs, hs2, rfl, rfl, .inl ⟨.inl (by first | exact c13 | exact Classical.byContradiction c13), rfl, rfl⟩⟩) | (exact .inr ⟨s, s2, hs, hs2, rfl, rfl, .inl ⟨.inr (by first | exact c19 | exact Classical.byContradiction c19), rfl, rfl⟩⟩) | (exact .inr ⟨s, s2, hs, hs2, rfl, rfl, .inr ⟨fun h => h.elim c13 c19, .inl ⟨fun h => by have := h.1; rw [i_lt] at this; rw [i_le] at c26; omega, rfl, rfl⟩⟩⟩) | (exact .inr ⟨s, s2, hs, hs2, rfl, rfl, .inr ⟨fun h => h.elim c13 c19, .inl ⟨fun h => c35 h.2, rfl, rfl⟩⟩⟩) | (exact .inr ⟨s, s2, hs, hs2, rfl, rfl, .inr ⟨fun h => h.elim c13 c19, .inr ⟨⟨by rw [i_lt]; rw [i_le] at c26; omega, by first | exact c35 | exact Classical.byContradiction c35⟩, .inl ⟨fun ⟨a2, b2, m2, h1, h2, h3, h4, h5⟩ => by rw [h3] at c39; exact n_nneg (a := m2) (by omega) c39, rfl, rfl⟩⟩⟩⟩) | (exact .inr ⟨s, s2, hs, hs2, rfl, rfl, .inr ⟨fun h => h.elim c13 c19, .inr ⟨⟨by rw [i_lt]; rw [i_le] at c26; omega, by first | exact c35 | exact Classical.byContradiction c35⟩, .inl ⟨fun ⟨a2, b2, m2, h1, h2, h3, h4, h5⟩ => by rw [h1] at c41; exact n_nneg (a := a2) (by omega) c41, rfl, rfl⟩⟩⟩⟩) | (exact .inr ⟨s, s2, hs, hs2, rfl, rfl, .inr ⟨fun h => h.elim c13 c19, .inr ⟨⟨by rw [i_lt]; rw [i_le] at c26; omega, by first | exact c35 | exact Classical.byContradiction c35⟩, .inl ⟨fun ⟨a2, b2, m2, h1, h2, h3, h4, h5⟩ => by rw [h2] at c43; exact n_nneg (a := b2) (by omega) c43, rfl, rfl⟩⟩⟩⟩) | (exact .inr ⟨s, s2, hs, hs2, rfl, rfl, .inr ⟨fun h => h.elim c13 c19, .inr ⟨⟨by rw [i_lt]; rw [i_le] at c26; omega, by first | exact c35 | exact Classical.byContradiction c35⟩, .inl ⟨fun ⟨a2, b2, m2, h1, h2, h3, h4, h5⟩ => by rw [n_eq hal (by omega)] at h1; rw [n_eq hml (by omega)] at h3; rw [sub_n (by omega) hml hal] at c51; omega, rfl, rfl⟩⟩⟩⟩) | (exact .inr ⟨s, s2, hs, hs2, rfl, rfl, .inr ⟨fun h => h.elim c13 c19, .inr ⟨⟨by rw [i_lt]; rw [i_le] at c26; omega, by first | exact c35 | exact Classical.byContradiction c35⟩, .inl ⟨fun ⟨a2, b2, m2, h1, h2, h3, h4, h5⟩ => by rw [n_eq hbl (by omega)] at h2; rw [n_eq hml (by omega)] at h3; have c59b : nI q - nI m < nI b := (by first | exact c59 | (rw [i_lt]; rw [i_le] at c59; omega)); rw [sub_n (by omega) hml hbl] at c59b; omega, rfl, rfl⟩⟩⟩⟩) | exact .inl ⟨fun h => hs2 h.2, rfl, rfl⟩ | exact .inl ⟨fun h => hs h.1, rfl, rfl⟩
        · refine px_bipush (v := -11) rfl b_m11 ?_
          refine px_ireturn rfl (.inl rfl) ?_
          first | (exact .inr ⟨s, s2, hs, hs2, rfl, rfl, .inl ⟨.inl (by first | exact c13 | exact Classical.byContradiction c13), rfl, rfl⟩⟩) | (exact .inr ⟨s, s2, hs, hs2, rfl, rfl, .inl ⟨.inr (by first | exact c19 | exact Classical.byContradiction c19), rfl, rfl⟩⟩) | (exact .inr ⟨s, s2, hs, hs2, rfl, rfl, .inr ⟨fun h => h.elim c13 c19, .inl ⟨fun h => by have := h.1; rw [i_lt] at this; rw [i_le] at c26; omega, rfl, rfl⟩⟩⟩) | (exact .inr ⟨s, s2, hs, hs2, rfl, rfl, .inr ⟨fun h => h.elim c13 c19, .inl ⟨fun h => c35 h.2, rfl, rfl⟩⟩⟩) | (exact .inr ⟨s, s2, hs, hs2, rfl, rfl, .inr ⟨fun h => h.elim c13 c19, .inr ⟨⟨by rw [i_lt]; rw [i_le] at c26; omega, by first | exact c35 | exact Classical.byContradiction c35⟩, .inl ⟨fun ⟨a2, b2, m2, h1, h2, h3, h4, h5⟩ => by rw [h3] at c39; exact n_nneg (a := m2) (by omega) c39, rfl, rfl⟩⟩⟩⟩) | (exact .inr ⟨s, s2, hs, hs2, rfl, rfl, .inr ⟨fun h => h.elim c13 c19, .inr ⟨⟨by rw [i_lt]; rw [i_le] at c26; omega, by first | exact c35 | exact Classical.byContradiction c35⟩, .inl ⟨fun ⟨a2, b2, m2, h1, h2, h3, h4, h5⟩ => by rw [h1] at c41; exact n_nneg (a := a2) (by omega) c41, rfl, rfl⟩⟩⟩⟩) | (exact .inr ⟨s, s2, hs, hs2, rfl, rfl, .inr ⟨fun h => h.elim c13 c19, .inr ⟨⟨by rw [i_lt]; rw [i_le] at c26; omega, by first | exact c35 | exact Classical.byContradiction c35⟩, .inl ⟨fun ⟨a2, b2, m2, h1, h2, h3, h4, h5⟩ => by rw [h2] at c43; exact n_nneg (a := b2) (by omega) c43, rfl, rfl⟩⟩⟩⟩) | (exact .inr ⟨s, s2, hs, hs2, rfl, rfl, .inr ⟨fun h => h.elim c13 c19, .inr ⟨⟨by rw [i_lt]; rw [i_le] at c26; omega, by first | exact c35 | exact Classical.byContradiction c35⟩, .inl ⟨fun ⟨a2, b2, m2, h1, h2, h3, h4, h5⟩ => by rw [n_eq hal (by omega)] at h1; rw [n_eq hml (by omega)] at h3; rw [sub_n (by omega) hml hal] at c51; omega, rfl, rfl⟩⟩⟩⟩) | (exact .inr ⟨s, s2, hs, hs2, rfl, rfl, .inr ⟨fun h => h.elim c13 c19, .inr ⟨⟨by rw [i_lt]; rw [i_le] at c26; omega, by first | exact c35 | exact Classical.byContradiction c35⟩, .inl ⟨fun ⟨a2, b2, m2, h1, h2, h3, h4, h5⟩ => by rw [n_eq hbl (by omega)] at h2; rw [n_eq hml (by omega)] at h3; have c59b : nI q - nI m < nI b := (by first | exact c59 | (rw [i_lt]; rw [i_le] at c59; omega)); rw [sub_n (by omega) hml hbl] at c59b; omega, rfl, rfl⟩⟩⟩⟩) | exact .inl ⟨fun h => hs2 h.2, rfl, rfl⟩ | exact .inl ⟨fun h => hs h.1, rfl, rfl⟩
    · refine px_if_ne rfl (fun h => absurd h (by decide)) (fun _ => ?_)
      refine px_iconst (v := -1) rfl k_m1 ?_
      refine px_ireturn rfl (.inl rfl) ?_
      first | (exact .inr ⟨s, s2, hs, hs2, rfl, rfl, .inl ⟨.inl (by first | exact c13 | exact Classical.byContradiction c13), rfl, rfl⟩⟩) | (exact .inr ⟨s, s2, hs, hs2, rfl, rfl, .inl ⟨.inr (by first | exact c19 | exact Classical.byContradiction c19), rfl, rfl⟩⟩) | (exact .inr ⟨s, s2, hs, hs2, rfl, rfl, .inr ⟨fun h => h.elim c13 c19, .inl ⟨fun h => by have := h.1; rw [i_lt] at this; rw [i_le] at c26; omega, rfl, rfl⟩⟩⟩) | (exact .inr ⟨s, s2, hs, hs2, rfl, rfl, .inr ⟨fun h => h.elim c13 c19, .inl ⟨fun h => c35 h.2, rfl, rfl⟩⟩⟩) | (exact .inr ⟨s, s2, hs, hs2, rfl, rfl, .inr ⟨fun h => h.elim c13 c19, .inr ⟨⟨by rw [i_lt]; rw [i_le] at c26; omega, by first | exact c35 | exact Classical.byContradiction c35⟩, .inl ⟨fun ⟨a2, b2, m2, h1, h2, h3, h4, h5⟩ => by rw [h3] at c39; exact n_nneg (a := m2) (by omega) c39, rfl, rfl⟩⟩⟩⟩) | (exact .inr ⟨s, s2, hs, hs2, rfl, rfl, .inr ⟨fun h => h.elim c13 c19, .inr ⟨⟨by rw [i_lt]; rw [i_le] at c26; omega, by first | exact c35 | exact Classical.byContradiction c35⟩, .inl ⟨fun ⟨a2, b2, m2, h1, h2, h3, h4, h5⟩ => by rw [h1] at c41; exact n_nneg (a := a2) (by omega) c41, rfl, rfl⟩⟩⟩⟩) | (exact .inr ⟨s, s2, hs, hs2, rfl, rfl, .inr ⟨fun h => h.elim c13 c19, .inr ⟨⟨by rw [i_lt]; rw [i_le] at c26; omega, by first | exact c35 | exact Classical.byContradiction c35⟩, .inl ⟨fun ⟨a2, b2, m2, h1, h2, h3, h4, h5⟩ => by rw [h2] at c43; exact n_nneg (a := b2) (by omega) c43, rfl, rfl⟩⟩⟩⟩) | (exact .inr ⟨s, s2, hs, hs2, rfl, rfl, .inr ⟨fun h => h.elim c13 c19, .inr ⟨⟨by rw [i_lt]; rw [i_le] at c26; omega, by first | exact c35 | exact Classical.byContradiction c35⟩, .inl ⟨fun ⟨a2, b2, m2, h1, h2, h3, h4, h5⟩ => by rw [n_eq hal (by omega)] at h1; rw [n_eq hml (by omega)] at h3; rw [sub_n (by omega) hml hal] at c51; omega, rfl, rfl⟩⟩⟩⟩) | (exact .inr ⟨s, s2, hs, hs2, rfl, rfl, .inr ⟨fun h => h.elim c13 c19, .inr ⟨⟨by rw [i_lt]; rw [i_le] at c26; omega, by first | exact c35 | exact Classical.byContradiction c35⟩, .inl ⟨fun ⟨a2, b2, m2, h1, h2, h3, h4, h5⟩ => by rw [n_eq hbl (by omega)] at h2; rw [n_eq hml (by omega)] at h3; have c59b : nI q - nI m < nI b := (by first | exact c59 | (rw [i_lt]; rw [i_le] at c59; omega)); rw [sub_n (by omega) hml hbl] at c59b; omega, rfl, rfl⟩⟩⟩⟩) | exact .inl ⟨fun h => hs2 h.2, rfl, rfl⟩ | exact .inl ⟨fun h => hs h.1, rfl, rfl⟩
  · refine px_if_eq rfl (fun _ => ?_) (fun h => absurd h (by decide))
    refine px_iconst (v := -1) rfl k_m1 ?_
    refine px_ireturn rfl (.inl rfl) ?_
    first | (exact .inr ⟨s, s2, hs, hs2, rfl, rfl, .inl ⟨.inl (by first | exact c13 | exact Classical.byContradiction c13), rfl, rfl⟩⟩) | (exact .inr ⟨s, s2, hs, hs2, rfl, rfl, .inl ⟨.inr (by first | exact c19 | exact Classical.byContradiction c19), rfl, rfl⟩⟩) | (exact .inr ⟨s, s2, hs, hs2, rfl, rfl, .inr ⟨fun h => h.elim c13 c19, .inl ⟨fun h => by have := h.1; rw [i_lt] at this; rw [i_le] at c26; omega, rfl, rfl⟩⟩⟩) | (exact .inr ⟨s, s2, hs, hs2, rfl, rfl, .inr ⟨fun h => h.elim c13 c19, .inl ⟨fun h => c35 h.2, rfl, rfl⟩⟩⟩) | (exact .inr ⟨s, s2, hs, hs2, rfl, rfl, .inr ⟨fun h => h.elim c13 c19, .inr ⟨⟨by rw [i_lt]; rw [i_le] at c26; omega, by first | exact c35 | exact Classical.byContradiction c35⟩, .inl ⟨fun ⟨a2, b2, m2, h1, h2, h3, h4, h5⟩ => by rw [h3] at c39; exact n_nneg (a := m2) (by omega) c39, rfl, rfl⟩⟩⟩⟩) | (exact .inr ⟨s, s2, hs, hs2, rfl, rfl, .inr ⟨fun h => h.elim c13 c19, .inr ⟨⟨by rw [i_lt]; rw [i_le] at c26; omega, by first | exact c35 | exact Classical.byContradiction c35⟩, .inl ⟨fun ⟨a2, b2, m2, h1, h2, h3, h4, h5⟩ => by rw [h1] at c41; exact n_nneg (a := a2) (by omega) c41, rfl, rfl⟩⟩⟩⟩) | (exact .inr ⟨s, s2, hs, hs2, rfl, rfl, .inr ⟨fun h => h.elim c13 c19, .inr ⟨⟨by rw [i_lt]; rw [i_le] at c26; omega, by first | exact c35 | exact Classical.byContradiction c35⟩, .inl ⟨fun ⟨a2, b2, m2, h1, h2, h3, h4, h5⟩ => by rw [h2] at c43; exact n_nneg (a := b2) (by omega) c43, rfl, rfl⟩⟩⟩⟩) | (exact .inr ⟨s, s2, hs, hs2, rfl, rfl, .inr ⟨fun h => h.elim c13 c19, .inr ⟨⟨by rw [i_lt]; rw [i_le] at c26; omega, by first | exact c35 | exact Classical.byContradiction c35⟩, .inl ⟨fun ⟨a2, b2, m2, h1, h2, h3, h4, h5⟩ => by rw [n_eq hal (by omega)] at h1; rw [n_eq hml (by omega)] at h3; rw [sub_n (by omega) hml hal] at c51; omega, rfl, rfl⟩⟩⟩⟩) | (exact .inr ⟨s, s2, hs, hs2, rfl, rfl, .inr ⟨fun h => h.elim c13 c19, .inr ⟨⟨by rw [i_lt]; rw [i_le] at c26; omega, by first | exact c35 | exact Classical.byContradiction c35⟩, .inl ⟨fun ⟨a2, b2, m2, h1, h2, h3, h4, h5⟩ => by rw [n_eq hbl (by omega)] at h2; rw [n_eq hml (by omega)] at h3; have c59b : nI q - nI m < nI b := (by first | exact c59 | (rw [i_lt]; rw [i_le] at c59; omega)); rw [sub_n (by omega) hml hbl] at c59b; omega, rfl, rfl⟩⟩⟩⟩) | exact .inl ⟨fun h => hs2 h.2, rfl, rfl⟩ | exact .inl ⟨fun h => hs h.1, rfl, rfl⟩
