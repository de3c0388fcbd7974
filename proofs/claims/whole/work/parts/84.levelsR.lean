/-! the reference's figure and levels -/
def figR (c : Nat → Nat) (a : Nat) : PR0 := if dg (c a) = true then ((sp_dgs c 4 a 0).1, some [(0, (sp_dgs c 4 a 0).2)]) else (a, none)
theorem lX12_fx {I : Nat → Nat → Int32} {J : Nat → Nat → Int64} {p : Bool × Option Nat} {ro : List (Nat × Nat × (Nat → Int32))} {c : Nat → Nat} {T : Nat} (hT : TP c T) (hLT : LTr c T I) {o a e v n : Nat} {ts : List Tk} {I1 : Nat → Nat → Int32} (hl : ts.length ≤ a) (hae : e = a + n) (he : e ≤ T) (hS : RSt I o e ts I1) (hd0 : n ≠ 0 → dg (c a) = true) (hn : n ≤ 4) (hr : sp_dgs c 4 a 0 = (e, v)) (h0 : n = 0 → ¬ dg (c a) = true) : Px 1 0 0 CX12_figure 30 [some (.ref (65)), some (.int (nI v)), some (.int (nI n))] [] (gS, I1, J, gR p, ro) (POr p I J ro c T a o ts (figR c a)) := by
  refine px_iload_n (kk := 2) rfl rfl rfl ?_
  refine px_if_eq rfl (fun c31 => ?_) (fun c31 => ?_)
  · refine px_aload_n (kk := 0) rfl rfl rfl ?_
    refine px_callV0 CX12_wrong [] [] (vX12_wrong hS) rfl gS_65 (by decide) rfl rfl rfl (Nat.le_of_ble_eq_true rfl) (by decide) ?_
    rintro _ _ - ⟨rfl, I2, rfl, hF2⟩
    refine px_aload_n (kk := 0) rfl rfl rfl ?_
    refine px_iconst (v := nI 1) rfl k_1 ?_
    refine px_iload_n (kk := 1) rfl rfl rfl ?_
    refine px_callV0 CX12_addStep [] [.int _, .int _] (vX12_stepF hF2 (by have := hT.1; omega)) rfl gS_65 (by decide) rfl rfl rfl (Nat.le_of_ble_eq_true rfl) (by decide) ?_
    rintro _ _ - ⟨rfl, I3, rfl, hF3⟩
    refine px_return rfl rfl ?_
    obtain rfl : n = 0 := (n_eq (show n < 2 ^ 31 by omega) (show 0 < 2 ^ 31 by decide)).mp c31
    refine .inr ⟨e, ts.length + 1, I3, .inl ?_, by omega, he, by omega, rfl, rfl, hF3⟩
    rw [figR, if_neg (h0 rfl), hae]; rfl
  · refine px_aload_n (kk := 0) rfl rfl rfl ?_
    refine px_callV0 CX12_look [] [] (vX12_look hT hLT (a := e) he hS.1 hS.2.1) rfl gS_65 (by decide) rfl rfl rfl (Nat.le_of_ble_eq_true rfl) (by decide) ?_
    rintro _ _ - ⟨rfl, rfl⟩
    refine px_bipush (v := nI 48) rfl b_48 ?_
    refine px_bipush (v := nI 57) rfl b_57 ?_
    refine px_callS0 CX12_in [] [.int _, .int _, .int _] (vX12_in) rfl rfl rfl (Nat.le_of_ble_eq_true rfl) (by decide) ?_
    rintro _ _ - (⟨hd, rfl, rfl⟩ | ⟨hd, rfl, rfl⟩)
    · rw [dg_sR _ (TP_b hT (e))] at hd
      refine px_if_eq rfl (fun h => absurd h (by decide)) (fun _ => ?_)
      refine px_aload_n (kk := 0) rfl rfl rfl ?_
      refine px_callV0 CX12_wrong [] [] (vX12_wrong hS) rfl gS_65 (by decide) rfl rfl rfl (Nat.le_of_ble_eq_true rfl) (by decide) ?_
      rintro _ _ - ⟨rfl, I2, rfl, hF2⟩
      refine px_aload_n (kk := 0) rfl rfl rfl ?_
      refine px_iconst (v := nI 1) rfl k_1 ?_
      refine px_iload_n (kk := 1) rfl rfl rfl ?_
      refine px_callV0 CX12_addStep [] [.int _, .int _] (vX12_stepF hF2 (by have := hT.1; omega)) rfl gS_65 (by decide) rfl rfl rfl (Nat.le_of_ble_eq_true rfl) (by decide) ?_
      rintro _ _ - ⟨rfl, I3, rfl, hF3⟩
      refine px_return rfl rfl ?_
      replace c31 : n ≠ 0 := fun z => c31 ((n_eq (show n < 2 ^ 31 by omega) (show 0 < 2 ^ 31 by decide)).mpr z)
      exact .inr ⟨e, ts.length + 1, I3, .inr ⟨[(0, v)], by rw [figR, if_pos (hd0 c31), hr], hd⟩, by omega, he, by omega, rfl, rfl, hF3⟩
    · rw [dg_sR _ (TP_b hT (e))] at hd
      refine px_if_eq rfl (fun _ => ?_) (fun h => absurd h (by decide))
      refine px_aload_n (kk := 0) rfl rfl rfl ?_
      refine px_iconst (v := nI 1) rfl k_1 ?_
      refine px_iload_n (kk := 1) rfl rfl rfl ?_
      refine px_callV0 CX12_addStep [] [.int _, .int _] (vX12_step (t := (0, v)) hS (by have := hT.1; omega) rfl rfl (.inl (show 0 ≤ 2 by decide))) rfl gS_65 (by decide) rfl rfl rfl (Nat.le_of_ble_eq_true rfl) (by decide) ?_
      rintro _ _ - ⟨rfl, I3, rfl, hS3⟩
      refine px_return rfl rfl ?_
      replace c31 : n ≠ 0 := fun z => c31 ((n_eq (show n < 2 ^ 31 by omega) (show 0 < 2 ^ 31 by decide)).mpr z)
      exact .inl ⟨e, [(0, v)], I3, by rw [figR, if_pos (hd0 c31), hr], rfl, rfl, hS3⟩
theorem lX12_fig {I : Nat → Nat → Int32} {J : Nat → Nat → Int64} {p : Bool × Option Nat} {ro : List (Nat × Nat × (Nat → Int32))} {c : Nat → Nat} {T : Nat} (hT : TP c T) (hLT : LTr c T I) {o a e v n : Nat} {ts : List Tk} {I1 : Nat → Nat → Int32} (hl : ts.length ≤ a) (hae : e = a + n) (he : e ≤ T) (hS : RSt I o e ts I1) (hd0 : n ≠ 0 → dg (c a) = true) (hn : n ≤ 4) (hr : sp_dgs c 4 a 0 = sp_dgs c (4 - n) e v) : Px 1 0 0 CX12_figure 4 [some (.ref (65)), some (.int (nI v)), some (.int (nI n))] [] (gS, I1, J, gR p, ro) (POr p I J ro c T a o ts (figR c a)) := by
  refine px_iload_n (kk := 2) rfl rfl rfl ?_
  refine px_iconst (v := nI 4) rfl k_4 ?_
  refine px_icmp_ge rfl (fun c6 => ?_) (fun c6 => ?_)
  · rw [n_le (by omega) (by omega)] at c6
    obtain rfl : n = 4 := by omega
    exact lX12_fx hT hLT hl hae he hS hd0 hn hr (fun z => absurd z (by decide))
  · rw [n_le (by omega) (by omega)] at c6
    refine px_aload_n (kk := 0) rfl rfl rfl ?_
    refine px_callV0 CX12_look [] [] (vX12_look hT hLT (a := e) he hS.1 hS.2.1) rfl gS_65 (by decide) rfl rfl rfl (Nat.le_of_ble_eq_true rfl) (by decide) ?_
    rintro _ _ - ⟨rfl, rfl⟩
    refine px_bipush (v := nI 48) rfl b_48 ?_
    refine px_bipush (v := nI 57) rfl b_57 ?_
    refine px_callS0 CX12_in [] [.int _, .int _, .int _] (vX12_in) rfl rfl rfl (Nat.le_of_ble_eq_true rfl) (by decide) ?_
    rintro _ _ - (⟨hd, rfl, rfl⟩ | ⟨hd, rfl, rfl⟩)
    · rw [dg_sR _ (TP_b hT (e))] at hd
      refine px_if_eq rfl (fun h => absurd h (by decide)) (fun _ => ?_)
      refine px_bipush (v := nI 10) rfl b_10 ?_
      refine px_iload_n (kk := 1) rfl rfl rfl ?_
      refine px_imulN rfl ?_
      refine px_aload_n (kk := 0) rfl rfl rfl ?_
      refine px_callV0 CX12_look [.int _] [] (vX12_look hT hLT (a := e) he hS.1 hS.2.1) rfl gS_65 (by decide) rfl rfl rfl (Nat.le_of_ble_eq_true rfl) (by decide) ?_
      rintro _ _ - ⟨rfl, rfl⟩
      have hdb := dg_b hd
      have heT : e < T := TP_lt hT (fun z => by omega)
      refine px_ieq ((sR_eq (TP_b hT e) (by omega)).mpr rfl) ?_
      refine px_iaddN rfl ?_
      refine px_bipush (v := nI 48) rfl b_48 ?_
      refine px_isubN rfl (by omega) ?_
      refine px_ist1 rfl rfl (by decide) ?_
      refine px_iinc2 (v := nI (n + 1)) rfl (n_inc n) rfl (by decide) ?_
      refine px_aload_n (kk := 0) rfl rfl rfl ?_
      refine px_dup rfl rfl ?_
      refine px_getIe (v := nI e) rfl gS_65 rfl hS.2.1 ?_
      refine px_iconst (v := nI 1) rfl k_1 ?_
      refine px_iaddN rfl ?_
      refine px_putI rfl gS_65 rfl rfl ?_
      refine px_goto rfl ?_
      refine px_l1 (y := nI (v * 10 + (c e - 48))) (by congr 1; omega) ?_
      have hu : sp_dgs c (4 - n) e v = sp_dgs c (4 - (n + 1)) (e + 1) (v * 10 + (c e - 48)) := by
        conv => lhs; rw [show 4 - n = (4 - (n + 1)) + 1 by omega]; unfold sp_dgs
        rw [if_pos hd]
      exact lX12_fig hT hLT (n := n + 1) hl (by omega) (by omega) (RSt_at hS (e + 1)) (fun _ => by
        rcases Nat.eq_zero_or_pos n with z | z
        · subst z; rw [Nat.add_zero] at hae; subst hae; exact hd
        · exact hd0 (by omega)) (by omega) (hr.trans hu)
    · rw [dg_sR _ (TP_b hT (e))] at hd
      refine px_if_eq rfl (fun _ => ?_) (fun h => absurd h (by decide))
      have hu : sp_dgs c (4 - n) e v = (e, v) := by
        conv => lhs; rw [show 4 - n = (4 - (n + 1)) + 1 by omega]; unfold sp_dgs
        rw [if_neg hd]
      exact lX12_fx hT hLT hl hae he hS hd0 hn (hr.trans hu) (fun z => by subst z; rw [Nat.add_zero] at hae; subst hae; exact hd)
termination_by 4 - n
decreasing_by all_goals (have h := ‹¬ nI 4 ≤ nI n›; rw [n_le (by omega) (by omega)] at h; omega)
theorem vX12_figure {I : Nat → Nat → Int32} {J : Nat → Nat → Int64} {p : Bool × Option Nat} {ro : List (Nat × Nat × (Nat → Int32))} {c : Nat → Nat} {T : Nat} (hT : TP c T) (hLT : LTr c T I) {o a : Nat} {ts : List Tk} {I1 : Nat → Nat → Int32} (hl : ts.length ≤ a) (ha : a ≤ T) (hS : RSt I o a ts I1) : Pv 1 0 0 CX12_figure [.ref (65)] (gS, I1, J, gR p, ro) (POr p I J ro c T a o ts (figR c a)) := by
  refine ⟨okCX12_figure, Nat.le_of_ble_eq_true rfl, (show Px _ _ _ _ 0 [some (.ref (65)), none, none] [] _ _ from ?_)⟩
  refine px_iconst (v := nI 0) rfl k_0 ?_
  refine px_ist1 rfl rfl (by decide) ?_
  refine px_iconst (v := nI 0) rfl k_0 ?_
  refine px_ist2 rfl rfl (by decide) ?_
  exact lX12_fig hT hLT (v := 0) (n := 0) hl rfl ha hS (fun z => absurd rfl z) (by decide) rfl
theorem lX12_product {I : Nat → Nat → Int32} {J : Nat → Nat → Int64} {p : Bool × Option Nat} {ro : List (Nat × Nat × (Nat → Int32))} {c : Nat → Nat} {T : Nat} (hT : TP c T) (hLT : LTr c T I) {g : Nat → PR0} {o D : Nat} (hG : ∀ a, a ≤ T → PGr (g a) a T) (hg : ∀ (a : Nat) (ts : List Tk) (I1 : Nat → Nat → Int32), a ≤ T → ts.length ≤ a → RSt I o a ts I1 → Pv D 0 0 CX12_operand [.ref 65] (gS, I1, J, gR p, ro) (POr p I J ro c T a o ts (g a))) {a q n : Nat} {ts t : List Tk} {I1 : Nat → Nat → Int32} (hl : ts.length ≤ a) (hq : q ≤ T) (haq : t.length + a ≤ q) (hn : T - q < n) (hS : RSt I o q (ts ++ t) I1) {o3 : Option Value} : Px (D + 1) 0 0 CX12_product 2 [some (.ref (65)), o3] [] (gS, I1, J, gR p, ro) (POr p I J ro c T a o ts (sp_lp c 4 g n q t)) := by
  refine px_aload_n (kk := 0) rfl rfl rfl ?_
  refine px_getIe (v := -1) rfl gS_65 rfl hS.2.2.1 ?_
  refine px_if_ge rfl (fun h => absurd h (by decide)) (fun _ => ?_)
  refine px_aload_n (kk := 0) rfl rfl rfl ?_
  refine px_callV0 CX12_look [] [] (pv_mono (Nat.zero_le _) (vX12_look hT hLT (a := q) hq hS.1 hS.2.1)) rfl gS_65 (by decide) rfl rfl rfl (Nat.le_of_ble_eq_true rfl) (Nat.le_refl _) ?_
  rintro _ _ - ⟨rfl, rfl⟩
  refine px_bipush (v := nI 42) rfl b_42 ?_
  refine px_icmp_eq rfl (fun c8 => ?_) (fun c8 => ?_)
  · have hlev : lvN (c q) = 4 := lvr_4 _ (TP_b hT q) (by first | exact .inl c8 | exact .inr (.inl c12) | exact .inr (.inr (by first | exact c16 | exact Classical.byContradiction c16)))
    have hqT : q < T := TP_lt hT (fun e => by rw [e] at hlev; exact absurd hlev (by decide))
    have hcq : sR (c q) = aT (3, bnN (c q)) := bn_aT _ (TP_b hT q) (by omega)
    obtain ⟨n, rfl⟩ : ∃ m, n = m + 1 := ⟨n - 1, by omega⟩
    have hlt : (ts ++ t).length = ts.length + t.length := List.length_append
    refine px_aload_n (kk := 0) rfl rfl rfl ?_
    refine px_callV0 CX12_look [] [] (pv_mono (Nat.zero_le _) (vX12_look hT hLT (a := q) hq hS.1 hS.2.1)) rfl gS_65 (by decide) rfl rfl rfl (Nat.le_of_ble_eq_true rfl) (Nat.le_refl _) ?_
    rintro _ _ - ⟨rfl, rfl⟩
    refine px_ist1 rfl rfl (by decide) ?_
    refine px_aload_n (kk := 0) rfl rfl rfl ?_
    refine px_dup rfl rfl ?_
    refine px_getIe (v := nI q) rfl gS_65 rfl hS.2.1 ?_
    refine px_iconst (v := nI 1) rfl k_1 ?_
    refine px_iaddN rfl ?_
    refine px_putI rfl gS_65 rfl rfl ?_
    refine px_aload_n (kk := 0) rfl rfl rfl ?_
    refine px_callV0 CX12_operand [] [] (hg (q + 1) (ts ++ t) _ (by omega) (by rw [hlt]; omega) (RSt_at hS (q + 1))) rfl gS_65 (by decide) rfl rfl rfl (Nat.le_of_ble_eq_true rfl) (Nat.le_refl _) ?_
    rintro _ _ - (⟨w, u, I2, hR, rfl, rfl, hS2⟩ | ⟨w, L, I2, hR, hw1, hw2, hL, rfl, rfl, hF2⟩)
    · have hgu := (hG (q + 1) (by omega)).1 w u hR
      have hlu : (ts ++ t ++ u).length = ts.length + t.length + u.length := by rw [List.length_append, hlt]
      refine px_aload_n (kk := 0) rfl rfl rfl ?_
      refine px_iload_n (kk := 1) rfl rfl rfl ?_
      refine px_iconst (v := nI 0) rfl k_0 ?_
      refine px_callV0 CX12_addStep [] [.int _, .int _] (pv_mono (Nat.zero_le _) (vX12_step (t := (3, bnN (c q))) hS2 (by have := hT.1; omega) hcq rfl (.inr (bnN_10 _)))) rfl gS_65 (by decide) rfl rfl rfl (Nat.le_of_ble_eq_true rfl) (Nat.le_refl _) ?_
      rintro _ _ - ⟨rfl, I3, rfl, hS3⟩
      rw [List.append_assoc ts t u, List.append_assoc ts] at hS3
      refine px_goto rfl ?_
      have hu : sp_lp c 4 g (n + 1) q t = sp_lp c 4 g n w (t ++ u ++ [(3, bnN (c q))]) := by
        conv => lhs; unfold sp_lp
        rw [if_pos hlev, hR]
        rfl
      rw [hu]
      have hlx : (t ++ u ++ [(3, bnN (c q))]).length = t.length + u.length + 1 := by simp only [List.length_append, List.length_cons, List.length_nil]
      exact lX12_product hT hLT hG hg (n := n) hl hgu.2.1 (by omega) (by omega) hS3
    · rw [hlt] at hL
      refine px_aload_n (kk := 0) rfl rfl rfl ?_
      refine px_iload_n (kk := 1) rfl rfl rfl ?_
      refine px_iconst (v := nI 0) rfl k_0 ?_
      refine px_callV0 CX12_addStep [] [.int _, .int _] (pv_mono (Nat.zero_le _) (vX12_stepF hF2 (by have := hT.1; omega))) rfl gS_65 (by decide) rfl rfl rfl (Nat.le_of_ble_eq_true rfl) (Nat.le_refl _) ?_
      rintro _ _ - ⟨rfl, I3, rfl, hF3⟩
      refine px_goto rfl ?_
      refine px_aload_n (kk := 0) rfl rfl rfl ?_
      refine px_getIe (v := nI w) rfl gS_65 rfl hF3.2.2.1 ?_
      refine px_if_ge rfl (fun c4 => ?_) (fun h => absurd (nn_ge (by have := hT.1; omega)) h)
      refine px_return rfl rfl ?_
      first
      | exact .inr ⟨w, L + 1, I3, FT_lp (by decide) hlev (TP_b hT) hR, by omega, hw2, by omega, rfl, rfl, hF3⟩
      | exact .inl ⟨q, t, I1, sp_lp_stuck (by decide) (fun e => (by have z := lvl_4 _ (TP_b hT q) e; rcases z with z | z | z; exact c8 z; exact c12 z; exact c16 z)), rfl, rfl, hS⟩
  · refine px_aload_n (kk := 0) rfl rfl rfl ?_
    refine px_callV0 CX12_look [] [] (pv_mono (Nat.zero_le _) (vX12_look hT hLT (a := q) hq hS.1 hS.2.1)) rfl gS_65 (by decide) rfl rfl rfl (Nat.le_of_ble_eq_true rfl) (Nat.le_refl _) ?_
    rintro _ _ - ⟨rfl, rfl⟩
    refine px_bipush (v := nI 47) rfl b_47 ?_
    refine px_icmp_eq rfl (fun c12 => ?_) (fun c12 => ?_)
    · have hlev : lvN (c q) = 4 := lvr_4 _ (TP_b hT q) (by first | exact .inl c8 | exact .inr (.inl c12) | exact .inr (.inr (by first | exact c16 | exact Classical.byContradiction c16)))
      have hqT : q < T := TP_lt hT (fun e => by rw [e] at hlev; exact absurd hlev (by decide))
      have hcq : sR (c q) = aT (3, bnN (c q)) := bn_aT _ (TP_b hT q) (by omega)
      obtain ⟨n, rfl⟩ : ∃ m, n = m + 1 := ⟨n - 1, by omega⟩
      have hlt : (ts ++ t).length = ts.length + t.length := List.length_append
      refine px_aload_n (kk := 0) rfl rfl rfl ?_
      refine px_callV0 CX12_look [] [] (pv_mono (Nat.zero_le _) (vX12_look hT hLT (a := q) hq hS.1 hS.2.1)) rfl gS_65 (by decide) rfl rfl rfl (Nat.le_of_ble_eq_true rfl) (Nat.le_refl _) ?_
      rintro _ _ - ⟨rfl, rfl⟩
      refine px_ist1 rfl rfl (by decide) ?_
      refine px_aload_n (kk := 0) rfl rfl rfl ?_
      refine px_dup rfl rfl ?_
      refine px_getIe (v := nI q) rfl gS_65 rfl hS.2.1 ?_
      refine px_iconst (v := nI 1) rfl k_1 ?_
      refine px_iaddN rfl ?_
      refine px_putI rfl gS_65 rfl rfl ?_
      refine px_aload_n (kk := 0) rfl rfl rfl ?_
      refine px_callV0 CX12_operand [] [] (hg (q + 1) (ts ++ t) _ (by omega) (by rw [hlt]; omega) (RSt_at hS (q + 1))) rfl gS_65 (by decide) rfl rfl rfl (Nat.le_of_ble_eq_true rfl) (Nat.le_refl _) ?_
      rintro _ _ - (⟨w, u, I2, hR, rfl, rfl, hS2⟩ | ⟨w, L, I2, hR, hw1, hw2, hL, rfl, rfl, hF2⟩)
      · have hgu := (hG (q + 1) (by omega)).1 w u hR
        have hlu : (ts ++ t ++ u).length = ts.length + t.length + u.length := by rw [List.length_append, hlt]
        refine px_aload_n (kk := 0) rfl rfl rfl ?_
        refine px_iload_n (kk := 1) rfl rfl rfl ?_
        refine px_iconst (v := nI 0) rfl k_0 ?_
        refine px_callV0 CX12_addStep [] [.int _, .int _] (pv_mono (Nat.zero_le _) (vX12_step (t := (3, bnN (c q))) hS2 (by have := hT.1; omega) hcq rfl (.inr (bnN_10 _)))) rfl gS_65 (by decide) rfl rfl rfl (Nat.le_of_ble_eq_true rfl) (Nat.le_refl _) ?_
        rintro _ _ - ⟨rfl, I3, rfl, hS3⟩
        rw [List.append_assoc ts t u, List.append_assoc ts] at hS3
        refine px_goto rfl ?_
        have hu : sp_lp c 4 g (n + 1) q t = sp_lp c 4 g n w (t ++ u ++ [(3, bnN (c q))]) := by
          conv => lhs; unfold sp_lp
          rw [if_pos hlev, hR]
          rfl
        rw [hu]
        have hlx : (t ++ u ++ [(3, bnN (c q))]).length = t.length + u.length + 1 := by simp only [List.length_append, List.length_cons, List.length_nil]
        exact lX12_product hT hLT hG hg (n := n) hl hgu.2.1 (by omega) (by omega) hS3
      · rw [hlt] at hL
        refine px_aload_n (kk := 0) rfl rfl rfl ?_
        refine px_iload_n (kk := 1) rfl rfl rfl ?_
        refine px_iconst (v := nI 0) rfl k_0 ?_
        refine px_callV0 CX12_addStep [] [.int _, .int _] (pv_mono (Nat.zero_le _) (vX12_stepF hF2 (by have := hT.1; omega))) rfl gS_65 (by decide) rfl rfl rfl (Nat.le_of_ble_eq_true rfl) (Nat.le_refl _) ?_
        rintro _ _ - ⟨rfl, I3, rfl, hF3⟩
        refine px_goto rfl ?_
        refine px_aload_n (kk := 0) rfl rfl rfl ?_
        refine px_getIe (v := nI w) rfl gS_65 rfl hF3.2.2.1 ?_
        refine px_if_ge rfl (fun c4 => ?_) (fun h => absurd (nn_ge (by have := hT.1; omega)) h)
        refine px_return rfl rfl ?_
        first
        | exact .inr ⟨w, L + 1, I3, FT_lp (by decide) hlev (TP_b hT) hR, by omega, hw2, by omega, rfl, rfl, hF3⟩
        | exact .inl ⟨q, t, I1, sp_lp_stuck (by decide) (fun e => (by have z := lvl_4 _ (TP_b hT q) e; rcases z with z | z | z; exact c8 z; exact c12 z; exact c16 z)), rfl, rfl, hS⟩
    · refine px_aload_n (kk := 0) rfl rfl rfl ?_
      refine px_callV0 CX12_look [] [] (pv_mono (Nat.zero_le _) (vX12_look hT hLT (a := q) hq hS.1 hS.2.1)) rfl gS_65 (by decide) rfl rfl rfl (Nat.le_of_ble_eq_true rfl) (Nat.le_refl _) ?_
      rintro _ _ - ⟨rfl, rfl⟩
      refine px_bipush (v := nI 37) rfl b_37 ?_
      refine px_icmp_ne rfl (fun c16 => ?_) (fun c16 => ?_)
      · refine px_return rfl rfl ?_
        first
        | exact .inr ⟨w, L + 1, I3, FT_lp (by decide) hlev (TP_b hT) hR, by omega, hw2, by omega, rfl, rfl, hF3⟩
        | exact .inl ⟨q, t, I1, sp_lp_stuck (by decide) (fun e => (by have z := lvl_4 _ (TP_b hT q) e; rcases z with z | z | z; exact c8 z; exact c12 z; exact c16 z)), rfl, rfl, hS⟩
      · have hlev : lvN (c q) = 4 := lvr_4 _ (TP_b hT q) (by first | exact .inl c8 | exact .inr (.inl c12) | exact .inr (.inr (by first | exact c16 | exact Classical.byContradiction c16)))
        have hqT : q < T := TP_lt hT (fun e => by rw [e] at hlev; exact absurd hlev (by decide))
        have hcq : sR (c q) = aT (3, bnN (c q)) := bn_aT _ (TP_b hT q) (by omega)
        obtain ⟨n, rfl⟩ : ∃ m, n = m + 1 := ⟨n - 1, by omega⟩
        have hlt : (ts ++ t).length = ts.length + t.length := List.length_append
        refine px_aload_n (kk := 0) rfl rfl rfl ?_
        refine px_callV0 CX12_look [] [] (pv_mono (Nat.zero_le _) (vX12_look hT hLT (a := q) hq hS.1 hS.2.1)) rfl gS_65 (by decide) rfl rfl rfl (Nat.le_of_ble_eq_true rfl) (Nat.le_refl _) ?_
        rintro _ _ - ⟨rfl, rfl⟩
        refine px_ist1 rfl rfl (by decide) ?_
        refine px_aload_n (kk := 0) rfl rfl rfl ?_
        refine px_dup rfl rfl ?_
        refine px_getIe (v := nI q) rfl gS_65 rfl hS.2.1 ?_
        refine px_iconst (v := nI 1) rfl k_1 ?_
        refine px_iaddN rfl ?_
        refine px_putI rfl gS_65 rfl rfl ?_
        refine px_aload_n (kk := 0) rfl rfl rfl ?_
        refine px_callV0 CX12_operand [] [] (hg (q + 1) (ts ++ t) _ (by omega) (by rw [hlt]; omega) (RSt_at hS (q + 1))) rfl gS_65 (by decide) rfl rfl rfl (Nat.le_of_ble_eq_true rfl) (Nat.le_refl _) ?_
        rintro _ _ - (⟨w, u, I2, hR, rfl, rfl, hS2⟩ | ⟨w, L, I2, hR, hw1, hw2, hL, rfl, rfl, hF2⟩)
        · have hgu := (hG (q + 1) (by omega)).1 w u hR
          have hlu : (ts ++ t ++ u).length = ts.length + t.length + u.length := by rw [List.length_append, hlt]
          refine px_aload_n (kk := 0) rfl rfl rfl ?_
          refine px_iload_n (kk := 1) rfl rfl rfl ?_
          refine px_iconst (v := nI 0) rfl k_0 ?_
          refine px_callV0 CX12_addStep [] [.int _, .int _] (pv_mono (Nat.zero_le _) (vX12_step (t := (3, bnN (c q))) hS2 (by have := hT.1; omega) hcq rfl (.inr (bnN_10 _)))) rfl gS_65 (by decide) rfl rfl rfl (Nat.le_of_ble_eq_true rfl) (Nat.le_refl _) ?_
          rintro _ _ - ⟨rfl, I3, rfl, hS3⟩
          rw [List.append_assoc ts t u, List.append_assoc ts] at hS3
          refine px_goto rfl ?_
          have hu : sp_lp c 4 g (n + 1) q t = sp_lp c 4 g n w (t ++ u ++ [(3, bnN (c q))]) := by
            conv => lhs; unfold sp_lp
            rw [if_pos hlev, hR]
            rfl
          rw [hu]
          have hlx : (t ++ u ++ [(3, bnN (c q))]).length = t.length + u.length + 1 := by simp only [List.length_append, List.length_cons, List.length_nil]
          exact lX12_product hT hLT hG hg (n := n) hl hgu.2.1 (by omega) (by omega) hS3
        · rw [hlt] at hL
          refine px_aload_n (kk := 0) rfl rfl rfl ?_
          refine px_iload_n (kk := 1) rfl rfl rfl ?_
          refine px_iconst (v := nI 0) rfl k_0 ?_
          refine px_callV0 CX12_addStep [] [.int _, .int _] (pv_mono (Nat.zero_le _) (vX12_stepF hF2 (by have := hT.1; omega))) rfl gS_65 (by decide) rfl rfl rfl (Nat.le_of_ble_eq_true rfl) (Nat.le_refl _) ?_
          rintro _ _ - ⟨rfl, I3, rfl, hF3⟩
          refine px_goto rfl ?_
          refine px_aload_n (kk := 0) rfl rfl rfl ?_
          refine px_getIe (v := nI w) rfl gS_65 rfl hF3.2.2.1 ?_
          refine px_if_ge rfl (fun c4 => ?_) (fun h => absurd (nn_ge (by have := hT.1; omega)) h)
          refine px_return rfl rfl ?_
          first
          | exact .inr ⟨w, L + 1, I3, FT_lp (by decide) hlev (TP_b hT) hR, by omega, hw2, by omega, rfl, rfl, hF3⟩
          | exact .inl ⟨q, t, I1, sp_lp_stuck (by decide) (fun e => (by have z := lvl_4 _ (TP_b hT q) e; rcases z with z | z | z; exact c8 z; exact c12 z; exact c16 z)), rfl, rfl, hS⟩
termination_by n
decreasing_by all_goals omega
theorem vX12_product {I : Nat → Nat → Int32} {J : Nat → Nat → Int64} {p : Bool × Option Nat} {ro : List (Nat × Nat × (Nat → Int32))} {c : Nat → Nat} {T : Nat} (hT : TP c T) (hLT : LTr c T I) {g : Nat → PR0} {o D : Nat} (hG : ∀ a, a ≤ T → PGr (g a) a T) (hg : ∀ (a : Nat) (ts : List Tk) (I1 : Nat → Nat → Int32), a ≤ T → ts.length ≤ a → RSt I o a ts I1 → Pv D 0 0 CX12_operand [.ref 65] (gS, I1, J, gR p, ro) (POr p I J ro c T a o ts (g a))) {a : Nat} {ts : List Tk} {I1 : Nat → Nat → Int32} (ha : a ≤ T) (hl : ts.length ≤ a) (hS : RSt I o a ts I1) : Pv (D + 1) 0 0 CX12_product [.ref (65)] (gS, I1, J, gR p, ro) (POr p I J ro c T a o ts (sp_uq c 4 g a)) := by
  refine ⟨okCX12_product, Nat.le_of_ble_eq_true rfl, (show Px _ _ _ _ 0 [some (.ref (65)), none] [] _ _ from ?_)⟩
  refine px_aload_n (kk := 0) rfl rfl rfl ?_
  refine px_callV0 CX12_operand [] [] (hg a ts I1 ha hl hS) rfl gS_65 (by decide) rfl rfl rfl (Nat.le_of_ble_eq_true rfl) (Nat.le_refl _) ?_
  rintro _ _ - (⟨q, t, I2, hR, rfl, rfl, hS2⟩ | ⟨q, L, I2, hR, hw1, hw2, hL, rfl, rfl, hF2⟩)
  · have hgu := (hG a ha).1 q t hR
    have hu : sp_uq c 4 g a = sp_lp c 4 g 121 q t := by
      unfold sp_uq
      rw [hR]
    rw [hu]
    have hTT := hT.1
    exact lX12_product hT hLT hG hg (n := 121) hl hgu.2.1 (by omega) (by omega) hS2
  · refine px_aload_n (kk := 0) rfl rfl rfl ?_
    refine px_getIe (v := nI q) rfl gS_65 rfl hF2.2.2.1 ?_
    refine px_if_ge rfl (fun c4 => ?_) (fun h => absurd (nn_ge (by have := hT.1; omega)) h)
    refine px_return rfl rfl ?_
    exact .inr ⟨q, L, I2, FT_up (by decide) (TP_b hT) hR, hw1, hw2, hL, rfl, rfl, hF2⟩
theorem lX12_sum {I : Nat → Nat → Int32} {J : Nat → Nat → Int64} {p : Bool × Option Nat} {ro : List (Nat × Nat × (Nat → Int32))} {c : Nat → Nat} {T : Nat} (hT : TP c T) (hLT : LTr c T I) {g : Nat → PR0} {o D : Nat} (hG : ∀ a, a ≤ T → PGr (g a) a T) (hg : ∀ (a : Nat) (ts : List Tk) (I1 : Nat → Nat → Int32), a ≤ T → ts.length ≤ a → RSt I o a ts I1 → Pv D 0 0 CX12_product [.ref 65] (gS, I1, J, gR p, ro) (POr p I J ro c T a o ts (g a))) {a q n : Nat} {ts t : List Tk} {I1 : Nat → Nat → Int32} (hl : ts.length ≤ a) (hq : q ≤ T) (haq : t.length + a ≤ q) (hn : T - q < n) (hS : RSt I o q (ts ++ t) I1) {o3 : Option Value} : Px (D + 1) 0 0 CX12_sum 2 [some (.ref (65)), o3] [] (gS, I1, J, gR p, ro) (POr p I J ro c T a o ts (sp_lp c 3 g n q t)) := by
  refine px_aload_n (kk := 0) rfl rfl rfl ?_
  refine px_getIe (v := -1) rfl gS_65 rfl hS.2.2.1 ?_
  refine px_if_ge rfl (fun h => absurd h (by decide)) (fun _ => ?_)
  refine px_aload_n (kk := 0) rfl rfl rfl ?_
  refine px_callV0 CX12_look [] [] (pv_mono (Nat.zero_le _) (vX12_look hT hLT (a := q) hq hS.1 hS.2.1)) rfl gS_65 (by decide) rfl rfl rfl (Nat.le_of_ble_eq_true rfl) (Nat.le_refl _) ?_
  rintro _ _ - ⟨rfl, rfl⟩
  refine px_bipush (v := nI 43) rfl b_43 ?_
  refine px_icmp_eq rfl (fun c8 => ?_) (fun c8 => ?_)
  · have hlev : lvN (c q) = 3 := lvr_3 _ (TP_b hT q) (by first | exact .inl c8 | exact .inr (by first | exact c12 | exact Classical.byContradiction c12))
    have hqT : q < T := TP_lt hT (fun e => by rw [e] at hlev; exact absurd hlev (by decide))
    have hcq : sR (c q) = aT (3, bnN (c q)) := bn_aT _ (TP_b hT q) (by omega)
    obtain ⟨n, rfl⟩ : ∃ m, n = m + 1 := ⟨n - 1, by omega⟩
    have hlt : (ts ++ t).length = ts.length + t.length := List.length_append
    refine px_aload_n (kk := 0) rfl rfl rfl ?_
    refine px_callV0 CX12_look [] [] (pv_mono (Nat.zero_le _) (vX12_look hT hLT (a := q) hq hS.1 hS.2.1)) rfl gS_65 (by decide) rfl rfl rfl (Nat.le_of_ble_eq_true rfl) (Nat.le_refl _) ?_
    rintro _ _ - ⟨rfl, rfl⟩
    refine px_ist1 rfl rfl (by decide) ?_
    refine px_aload_n (kk := 0) rfl rfl rfl ?_
    refine px_dup rfl rfl ?_
    refine px_getIe (v := nI q) rfl gS_65 rfl hS.2.1 ?_
    refine px_iconst (v := nI 1) rfl k_1 ?_
    refine px_iaddN rfl ?_
    refine px_putI rfl gS_65 rfl rfl ?_
    refine px_aload_n (kk := 0) rfl rfl rfl ?_
    refine px_callV0 CX12_product [] [] (hg (q + 1) (ts ++ t) _ (by omega) (by rw [hlt]; omega) (RSt_at hS (q + 1))) rfl gS_65 (by decide) rfl rfl rfl (Nat.le_of_ble_eq_true rfl) (Nat.le_refl _) ?_
    rintro _ _ - (⟨w, u, I2, hR, rfl, rfl, hS2⟩ | ⟨w, L, I2, hR, hw1, hw2, hL, rfl, rfl, hF2⟩)
    · have hgu := (hG (q + 1) (by omega)).1 w u hR
      have hlu : (ts ++ t ++ u).length = ts.length + t.length + u.length := by rw [List.length_append, hlt]
      refine px_aload_n (kk := 0) rfl rfl rfl ?_
      refine px_iload_n (kk := 1) rfl rfl rfl ?_
      refine px_iconst (v := nI 0) rfl k_0 ?_
      refine px_callV0 CX12_addStep [] [.int _, .int _] (pv_mono (Nat.zero_le _) (vX12_step (t := (3, bnN (c q))) hS2 (by have := hT.1; omega) hcq rfl (.inr (bnN_10 _)))) rfl gS_65 (by decide) rfl rfl rfl (Nat.le_of_ble_eq_true rfl) (Nat.le_refl _) ?_
      rintro _ _ - ⟨rfl, I3, rfl, hS3⟩
      rw [List.append_assoc ts t u, List.append_assoc ts] at hS3
      refine px_goto rfl ?_
      have hu : sp_lp c 3 g (n + 1) q t = sp_lp c 3 g n w (t ++ u ++ [(3, bnN (c q))]) := by
        conv => lhs; unfold sp_lp
        rw [if_pos hlev, hR]
        rfl
      rw [hu]
      have hlx : (t ++ u ++ [(3, bnN (c q))]).length = t.length + u.length + 1 := by simp only [List.length_append, List.length_cons, List.length_nil]
      exact lX12_sum hT hLT hG hg (n := n) hl hgu.2.1 (by omega) (by omega) hS3
    · rw [hlt] at hL
      refine px_aload_n (kk := 0) rfl rfl rfl ?_
      refine px_iload_n (kk := 1) rfl rfl rfl ?_
      refine px_iconst (v := nI 0) rfl k_0 ?_
      refine px_callV0 CX12_addStep [] [.int _, .int _] (pv_mono (Nat.zero_le _) (vX12_stepF hF2 (by have := hT.1; omega))) rfl gS_65 (by decide) rfl rfl rfl (Nat.le_of_ble_eq_true rfl) (Nat.le_refl _) ?_
      rintro _ _ - ⟨rfl, I3, rfl, hF3⟩
      refine px_goto rfl ?_
      refine px_aload_n (kk := 0) rfl rfl rfl ?_
      refine px_getIe (v := nI w) rfl gS_65 rfl hF3.2.2.1 ?_
      refine px_if_ge rfl (fun c4 => ?_) (fun h => absurd (nn_ge (by have := hT.1; omega)) h)
      refine px_return rfl rfl ?_
      first
      | exact .inr ⟨w, L + 1, I3, FT_lp (by decide) hlev (TP_b hT) hR, by omega, hw2, by omega, rfl, rfl, hF3⟩
      | exact .inl ⟨q, t, I1, sp_lp_stuck (by decide) (fun e => (by have z := lvl_3 _ (TP_b hT q) e; rcases z with z | z; exact c8 z; exact c12 z)), rfl, rfl, hS⟩
  · refine px_aload_n (kk := 0) rfl rfl rfl ?_
    refine px_callV0 CX12_look [] [] (pv_mono (Nat.zero_le _) (vX12_look hT hLT (a := q) hq hS.1 hS.2.1)) rfl gS_65 (by decide) rfl rfl rfl (Nat.le_of_ble_eq_true rfl) (Nat.le_refl _) ?_
    rintro _ _ - ⟨rfl, rfl⟩
    refine px_bipush (v := nI 45) rfl b_45 ?_
    refine px_icmp_ne rfl (fun c12 => ?_) (fun c12 => ?_)
    · refine px_return rfl rfl ?_
      first
      | exact .inr ⟨w, L + 1, I3, FT_lp (by decide) hlev (TP_b hT) hR, by omega, hw2, by omega, rfl, rfl, hF3⟩
      | exact .inl ⟨q, t, I1, sp_lp_stuck (by decide) (fun e => (by have z := lvl_3 _ (TP_b hT q) e; rcases z with z | z; exact c8 z; exact c12 z)), rfl, rfl, hS⟩
    · have hlev : lvN (c q) = 3 := lvr_3 _ (TP_b hT q) (by first | exact .inl c8 | exact .inr (by first | exact c12 | exact Classical.byContradiction c12))
      have hqT : q < T := TP_lt hT (fun e => by rw [e] at hlev; exact absurd hlev (by decide))
      have hcq : sR (c q) = aT (3, bnN (c q)) := bn_aT _ (TP_b hT q) (by omega)
      obtain ⟨n, rfl⟩ : ∃ m, n = m + 1 := ⟨n - 1, by omega⟩
      have hlt : (ts ++ t).length = ts.length + t.length := List.length_append
      refine px_aload_n (kk := 0) rfl rfl rfl ?_
      refine px_callV0 CX12_look [] [] (pv_mono (Nat.zero_le _) (vX12_look hT hLT (a := q) hq hS.1 hS.2.1)) rfl gS_65 (by decide) rfl rfl rfl (Nat.le_of_ble_eq_true rfl) (Nat.le_refl _) ?_
      rintro _ _ - ⟨rfl, rfl⟩
      refine px_ist1 rfl rfl (by decide) ?_
      refine px_aload_n (kk := 0) rfl rfl rfl ?_
      refine px_dup rfl rfl ?_
      refine px_getIe (v := nI q) rfl gS_65 rfl hS.2.1 ?_
      refine px_iconst (v := nI 1) rfl k_1 ?_
      refine px_iaddN rfl ?_
      refine px_putI rfl gS_65 rfl rfl ?_
      refine px_aload_n (kk := 0) rfl rfl rfl ?_
      refine px_callV0 CX12_product [] [] (hg (q + 1) (ts ++ t) _ (by omega) (by rw [hlt]; omega) (RSt_at hS (q + 1))) rfl gS_65 (by decide) rfl rfl rfl (Nat.le_of_ble_eq_true rfl) (Nat.le_refl _) ?_
      rintro _ _ - (⟨w, u, I2, hR, rfl, rfl, hS2⟩ | ⟨w, L, I2, hR, hw1, hw2, hL, rfl, rfl, hF2⟩)
      · have hgu := (hG (q + 1) (by omega)).1 w u hR
        have hlu : (ts ++ t ++ u).length = ts.length + t.length + u.length := by rw [List.length_append, hlt]
        refine px_aload_n (kk := 0) rfl rfl rfl ?_
        refine px_iload_n (kk := 1) rfl rfl rfl ?_
        refine px_iconst (v := nI 0) rfl k_0 ?_
        refine px_callV0 CX12_addStep [] [.int _, .int _] (pv_mono (Nat.zero_le _) (vX12_step (t := (3, bnN (c q))) hS2 (by have := hT.1; omega) hcq rfl (.inr (bnN_10 _)))) rfl gS_65 (by decide) rfl rfl rfl (Nat.le_of_ble_eq_true rfl) (Nat.le_refl _) ?_
        rintro _ _ - ⟨rfl, I3, rfl, hS3⟩
        rw [List.append_assoc ts t u, List.append_assoc ts] at hS3
        refine px_goto rfl ?_
        have hu : sp_lp c 3 g (n + 1) q t = sp_lp c 3 g n w (t ++ u ++ [(3, bnN (c q))]) := by
          conv => lhs; unfold sp_lp
          rw [if_pos hlev, hR]
          rfl
        rw [hu]
        have hlx : (t ++ u ++ [(3, bnN (c q))]).length = t.length + u.length + 1 := by simp only [List.length_append, List.length_cons, List.length_nil]
        exact lX12_sum hT hLT hG hg (n := n) hl hgu.2.1 (by omega) (by omega) hS3
      · rw [hlt] at hL
        refine px_aload_n (kk := 0) rfl rfl rfl ?_
        refine px_iload_n (kk := 1) rfl rfl rfl ?_
        refine px_iconst (v := nI 0) rfl k_0 ?_
        refine px_callV0 CX12_addStep [] [.int _, .int _] (pv_mono (Nat.zero_le _) (vX12_stepF hF2 (by have := hT.1; omega))) rfl gS_65 (by decide) rfl rfl rfl (Nat.le_of_ble_eq_true rfl) (Nat.le_refl _) ?_
        rintro _ _ - ⟨rfl, I3, rfl, hF3⟩
        refine px_goto rfl ?_
        refine px_aload_n (kk := 0) rfl rfl rfl ?_
        refine px_getIe (v := nI w) rfl gS_65 rfl hF3.2.2.1 ?_
        refine px_if_ge rfl (fun c4 => ?_) (fun h => absurd (nn_ge (by have := hT.1; omega)) h)
        refine px_return rfl rfl ?_
        first
        | exact .inr ⟨w, L + 1, I3, FT_lp (by decide) hlev (TP_b hT) hR, by omega, hw2, by omega, rfl, rfl, hF3⟩
        | exact .inl ⟨q, t, I1, sp_lp_stuck (by decide) (fun e => (by have z := lvl_3 _ (TP_b hT q) e; rcases z with z | z; exact c8 z; exact c12 z)), rfl, rfl, hS⟩
termination_by n
decreasing_by all_goals omega
theorem vX12_sum {I : Nat → Nat → Int32} {J : Nat → Nat → Int64} {p : Bool × Option Nat} {ro : List (Nat × Nat × (Nat → Int32))} {c : Nat → Nat} {T : Nat} (hT : TP c T) (hLT : LTr c T I) {g : Nat → PR0} {o D : Nat} (hG : ∀ a, a ≤ T → PGr (g a) a T) (hg : ∀ (a : Nat) (ts : List Tk) (I1 : Nat → Nat → Int32), a ≤ T → ts.length ≤ a → RSt I o a ts I1 → Pv D 0 0 CX12_product [.ref 65] (gS, I1, J, gR p, ro) (POr p I J ro c T a o ts (g a))) {a : Nat} {ts : List Tk} {I1 : Nat → Nat → Int32} (ha : a ≤ T) (hl : ts.length ≤ a) (hS : RSt I o a ts I1) : Pv (D + 1) 0 0 CX12_sum [.ref (65)] (gS, I1, J, gR p, ro) (POr p I J ro c T a o ts (sp_uq c 3 g a)) := by
  refine ⟨okCX12_sum, Nat.le_of_ble_eq_true rfl, (show Px _ _ _ _ 0 [some (.ref (65)), none] [] _ _ from ?_)⟩
  refine px_aload_n (kk := 0) rfl rfl rfl ?_
  refine px_callV0 CX12_product [] [] (hg a ts I1 ha hl hS) rfl gS_65 (by decide) rfl rfl rfl (Nat.le_of_ble_eq_true rfl) (Nat.le_refl _) ?_
  rintro _ _ - (⟨q, t, I2, hR, rfl, rfl, hS2⟩ | ⟨q, L, I2, hR, hw1, hw2, hL, rfl, rfl, hF2⟩)
  · have hgu := (hG a ha).1 q t hR
    have hu : sp_uq c 3 g a = sp_lp c 3 g 121 q t := by
      unfold sp_uq
      rw [hR]
    rw [hu]
    have hTT := hT.1
    exact lX12_sum hT hLT hG hg (n := 121) hl hgu.2.1 (by omega) (by omega) hS2
  · refine px_aload_n (kk := 0) rfl rfl rfl ?_
    refine px_getIe (v := nI q) rfl gS_65 rfl hF2.2.2.1 ?_
    refine px_if_ge rfl (fun c4 => ?_) (fun h => absurd (nn_ge (by have := hT.1; omega)) h)
    refine px_return rfl rfl ?_
    exact .inr ⟨q, L, I2, FT_up (by decide) (TP_b hT) hR, hw1, hw2, hL, rfl, rfl, hF2⟩
theorem lX12_compared {I : Nat → Nat → Int32} {J : Nat → Nat → Int64} {p : Bool × Option Nat} {ro : List (Nat × Nat × (Nat → Int32))} {c : Nat → Nat} {T : Nat} (hT : TP c T) (hLT : LTr c T I) {g : Nat → PR0} {o D : Nat} (hG : ∀ a, a ≤ T → PGr (g a) a T) (hg : ∀ (a : Nat) (ts : List Tk) (I1 : Nat → Nat → Int32), a ≤ T → ts.length ≤ a → RSt I o a ts I1 → Pv D 0 0 CX12_sum [.ref 65] (gS, I1, J, gR p, ro) (POr p I J ro c T a o ts (g a))) {a q n : Nat} {ts t : List Tk} {I1 : Nat → Nat → Int32} (hl : ts.length ≤ a) (hq : q ≤ T) (haq : t.length + a ≤ q) (hn : T - q < n) (hS : RSt I o q (ts ++ t) I1) {o3 : Option Value} : Px (D + 1) 0 0 CX12_compared 2 [some (.ref (65)), o3] [] (gS, I1, J, gR p, ro) (POr p I J ro c T a o ts (sp_lp c 2 g n q t)) := by
  refine px_aload_n (kk := 0) rfl rfl rfl ?_
  refine px_callV0 CX12_look [] [] (pv_mono (Nat.zero_le _) (vX12_look hT hLT (a := q) hq hS.1 hS.2.1)) rfl gS_65 (by decide) rfl rfl rfl (Nat.le_of_ble_eq_true rfl) (Nat.le_refl _) ?_
  rintro _ _ - ⟨rfl, rfl⟩
  refine px_ist1 rfl rfl (by decide) ?_
  refine px_aload_n (kk := 0) rfl rfl rfl ?_
  refine px_getIe (v := -1) rfl gS_65 rfl hS.2.2.1 ?_
  refine px_if_ge rfl (fun h => absurd h (by decide)) (fun _ => ?_)
  refine px_iload_n (kk := 1) rfl rfl rfl ?_
  refine px_bipush (v := nI 60) rfl b_60 ?_
  refine px_icmp_eq rfl (fun c10 => ?_) (fun c10 => ?_)
  · have hlev : lvN (c q) = 2 := lvr_2 _ (TP_b hT q) (by first | exact .inl c10 | exact .inr (.inl c13) | exact .inr (.inr c16))
    have hqT : q < T := TP_lt hT (fun e => by rw [e] at hlev; exact absurd hlev (by decide))
    have hcq : sR (c q) = aT (3, bnN (c q)) := bn_aT _ (TP_b hT q) (by omega)
    obtain ⟨n, rfl⟩ : ∃ m, n = m + 1 := ⟨n - 1, by omega⟩
    have hlt : (ts ++ t).length = ts.length + t.length := List.length_append
    refine px_aload_n (kk := 0) rfl rfl rfl ?_
    refine px_dup rfl rfl ?_
    refine px_getIe (v := nI q) rfl gS_65 rfl hS.2.1 ?_
    refine px_iconst (v := nI 1) rfl k_1 ?_
    refine px_iaddN rfl ?_
    refine px_putI rfl gS_65 rfl rfl ?_
    refine px_aload_n (kk := 0) rfl rfl rfl ?_
    refine px_callV0 CX12_sum [] [] (hg (q + 1) (ts ++ t) _ (by omega) (by rw [hlt]; omega) (RSt_at hS (q + 1))) rfl gS_65 (by decide) rfl rfl rfl (Nat.le_of_ble_eq_true rfl) (Nat.le_refl _) ?_
    rintro _ _ - (⟨w, u, I2, hR, rfl, rfl, hS2⟩ | ⟨w, L, I2, hR, hw1, hw2, hL, rfl, rfl, hF2⟩)
    · have hgu := (hG (q + 1) (by omega)).1 w u hR
      have hlu : (ts ++ t ++ u).length = ts.length + t.length + u.length := by rw [List.length_append, hlt]
      refine px_aload_n (kk := 0) rfl rfl rfl ?_
      refine px_iload_n (kk := 1) rfl rfl rfl ?_
      refine px_iconst (v := nI 0) rfl k_0 ?_
      refine px_callV0 CX12_addStep [] [.int _, .int _] (pv_mono (Nat.zero_le _) (vX12_step (t := (3, bnN (c q))) hS2 (by have := hT.1; omega) hcq rfl (.inr (bnN_10 _)))) rfl gS_65 (by decide) rfl rfl rfl (Nat.le_of_ble_eq_true rfl) (Nat.le_refl _) ?_
      rintro _ _ - ⟨rfl, I3, rfl, hS3⟩
      rw [List.append_assoc ts t u, List.append_assoc ts] at hS3
      refine px_return rfl rfl ?_
      first
      | (refine .inl ⟨w, t ++ u ++ [(3, bnN (c q))], I3, ?_, rfl, rfl, hS3⟩; unfold sp_lp; rw [if_pos hlev, hR]; simp only [if_true])
      | exact .inr ⟨w, L + 1, I3, FT_lp (by decide) hlev (TP_b hT) hR, by omega, hw2, by omega, rfl, rfl, hF3⟩
      | exact .inl ⟨q, t, I1, sp_lp_stuck (by decide) (fun e => (by have z := lvl_2 _ (TP_b hT q) e; rcases z with z | z | z; exact c10 z; exact c13 z; exact c16 z)), rfl, rfl, hS⟩
    · rw [hlt] at hL
      refine px_aload_n (kk := 0) rfl rfl rfl ?_
      refine px_iload_n (kk := 1) rfl rfl rfl ?_
      refine px_iconst (v := nI 0) rfl k_0 ?_
      refine px_callV0 CX12_addStep [] [.int _, .int _] (pv_mono (Nat.zero_le _) (vX12_stepF hF2 (by have := hT.1; omega))) rfl gS_65 (by decide) rfl rfl rfl (Nat.le_of_ble_eq_true rfl) (Nat.le_refl _) ?_
      rintro _ _ - ⟨rfl, I3, rfl, hF3⟩
      refine px_return rfl rfl ?_
      first
      | (refine .inl ⟨w, t ++ u ++ [(3, bnN (c q))], I3, ?_, rfl, rfl, hS3⟩; unfold sp_lp; rw [if_pos hlev, hR]; simp only [if_true])
      | exact .inr ⟨w, L + 1, I3, FT_lp (by decide) hlev (TP_b hT) hR, by omega, hw2, by omega, rfl, rfl, hF3⟩
      | exact .inl ⟨q, t, I1, sp_lp_stuck (by decide) (fun e => (by have z := lvl_2 _ (TP_b hT q) e; rcases z with z | z | z; exact c10 z; exact c13 z; exact c16 z)), rfl, rfl, hS⟩
  · refine px_iload_n (kk := 1) rfl rfl rfl ?_
    refine px_bipush (v := nI 61) rfl b_61 ?_
    refine px_icmp_eq rfl (fun c13 => ?_) (fun c13 => ?_)
    · have hlev : lvN (c q) = 2 := lvr_2 _ (TP_b hT q) (by first | exact .inl c10 | exact .inr (.inl c13) | exact .inr (.inr c16))
      have hqT : q < T := TP_lt hT (fun e => by rw [e] at hlev; exact absurd hlev (by decide))
      have hcq : sR (c q) = aT (3, bnN (c q)) := bn_aT _ (TP_b hT q) (by omega)
      obtain ⟨n, rfl⟩ : ∃ m, n = m + 1 := ⟨n - 1, by omega⟩
      have hlt : (ts ++ t).length = ts.length + t.length := List.length_append
      refine px_aload_n (kk := 0) rfl rfl rfl ?_
      refine px_dup rfl rfl ?_
      refine px_getIe (v := nI q) rfl gS_65 rfl hS.2.1 ?_
      refine px_iconst (v := nI 1) rfl k_1 ?_
      refine px_iaddN rfl ?_
      refine px_putI rfl gS_65 rfl rfl ?_
      refine px_aload_n (kk := 0) rfl rfl rfl ?_
      refine px_callV0 CX12_sum [] [] (hg (q + 1) (ts ++ t) _ (by omega) (by rw [hlt]; omega) (RSt_at hS (q + 1))) rfl gS_65 (by decide) rfl rfl rfl (Nat.le_of_ble_eq_true rfl) (Nat.le_refl _) ?_
      rintro _ _ - (⟨w, u, I2, hR, rfl, rfl, hS2⟩ | ⟨w, L, I2, hR, hw1, hw2, hL, rfl, rfl, hF2⟩)
      · have hgu := (hG (q + 1) (by omega)).1 w u hR
        have hlu : (ts ++ t ++ u).length = ts.length + t.length + u.length := by rw [List.length_append, hlt]
        refine px_aload_n (kk := 0) rfl rfl rfl ?_
        refine px_iload_n (kk := 1) rfl rfl rfl ?_
        refine px_iconst (v := nI 0) rfl k_0 ?_
        refine px_callV0 CX12_addStep [] [.int _, .int _] (pv_mono (Nat.zero_le _) (vX12_step (t := (3, bnN (c q))) hS2 (by have := hT.1; omega) hcq rfl (.inr (bnN_10 _)))) rfl gS_65 (by decide) rfl rfl rfl (Nat.le_of_ble_eq_true rfl) (Nat.le_refl _) ?_
        rintro _ _ - ⟨rfl, I3, rfl, hS3⟩
        rw [List.append_assoc ts t u, List.append_assoc ts] at hS3
        refine px_return rfl rfl ?_
        first
        | (refine .inl ⟨w, t ++ u ++ [(3, bnN (c q))], I3, ?_, rfl, rfl, hS3⟩; unfold sp_lp; rw [if_pos hlev, hR]; simp only [if_true])
        | exact .inr ⟨w, L + 1, I3, FT_lp (by decide) hlev (TP_b hT) hR, by omega, hw2, by omega, rfl, rfl, hF3⟩
        | exact .inl ⟨q, t, I1, sp_lp_stuck (by decide) (fun e => (by have z := lvl_2 _ (TP_b hT q) e; rcases z with z | z | z; exact c10 z; exact c13 z; exact c16 z)), rfl, rfl, hS⟩
      · rw [hlt] at hL
        refine px_aload_n (kk := 0) rfl rfl rfl ?_
        refine px_iload_n (kk := 1) rfl rfl rfl ?_
        refine px_iconst (v := nI 0) rfl k_0 ?_
        refine px_callV0 CX12_addStep [] [.int _, .int _] (pv_mono (Nat.zero_le _) (vX12_stepF hF2 (by have := hT.1; omega))) rfl gS_65 (by decide) rfl rfl rfl (Nat.le_of_ble_eq_true rfl) (Nat.le_refl _) ?_
        rintro _ _ - ⟨rfl, I3, rfl, hF3⟩
        refine px_return rfl rfl ?_
        first
        | (refine .inl ⟨w, t ++ u ++ [(3, bnN (c q))], I3, ?_, rfl, rfl, hS3⟩; unfold sp_lp; rw [if_pos hlev, hR]; simp only [if_true])
        | exact .inr ⟨w, L + 1, I3, FT_lp (by decide) hlev (TP_b hT) hR, by omega, hw2, by omega, rfl, rfl, hF3⟩
        | exact .inl ⟨q, t, I1, sp_lp_stuck (by decide) (fun e => (by have z := lvl_2 _ (TP_b hT q) e; rcases z with z | z | z; exact c10 z; exact c13 z; exact c16 z)), rfl, rfl, hS⟩
    · refine px_iload_n (kk := 1) rfl rfl rfl ?_
      refine px_bipush (v := nI 62) rfl b_62 ?_
      refine px_icmp_eq rfl (fun c16 => ?_) (fun c16 => ?_)
      · have hlev : lvN (c q) = 2 := lvr_2 _ (TP_b hT q) (by first | exact .inl c10 | exact .inr (.inl c13) | exact .inr (.inr c16))
        have hqT : q < T := TP_lt hT (fun e => by rw [e] at hlev; exact absurd hlev (by decide))
        have hcq : sR (c q) = aT (3, bnN (c q)) := bn_aT _ (TP_b hT q) (by omega)
        obtain ⟨n, rfl⟩ : ∃ m, n = m + 1 := ⟨n - 1, by omega⟩
        have hlt : (ts ++ t).length = ts.length + t.length := List.length_append
        refine px_aload_n (kk := 0) rfl rfl rfl ?_
        refine px_dup rfl rfl ?_
        refine px_getIe (v := nI q) rfl gS_65 rfl hS.2.1 ?_
        refine px_iconst (v := nI 1) rfl k_1 ?_
        refine px_iaddN rfl ?_
        refine px_putI rfl gS_65 rfl rfl ?_
        refine px_aload_n (kk := 0) rfl rfl rfl ?_
        refine px_callV0 CX12_sum [] [] (hg (q + 1) (ts ++ t) _ (by omega) (by rw [hlt]; omega) (RSt_at hS (q + 1))) rfl gS_65 (by decide) rfl rfl rfl (Nat.le_of_ble_eq_true rfl) (Nat.le_refl _) ?_
        rintro _ _ - (⟨w, u, I2, hR, rfl, rfl, hS2⟩ | ⟨w, L, I2, hR, hw1, hw2, hL, rfl, rfl, hF2⟩)
        · have hgu := (hG (q + 1) (by omega)).1 w u hR
          have hlu : (ts ++ t ++ u).length = ts.length + t.length + u.length := by rw [List.length_append, hlt]
          refine px_aload_n (kk := 0) rfl rfl rfl ?_
          refine px_iload_n (kk := 1) rfl rfl rfl ?_
          refine px_iconst (v := nI 0) rfl k_0 ?_
          refine px_callV0 CX12_addStep [] [.int _, .int _] (pv_mono (Nat.zero_le _) (vX12_step (t := (3, bnN (c q))) hS2 (by have := hT.1; omega) hcq rfl (.inr (bnN_10 _)))) rfl gS_65 (by decide) rfl rfl rfl (Nat.le_of_ble_eq_true rfl) (Nat.le_refl _) ?_
          rintro _ _ - ⟨rfl, I3, rfl, hS3⟩
          rw [List.append_assoc ts t u, List.append_assoc ts] at hS3
          refine px_return rfl rfl ?_
          first
          | (refine .inl ⟨w, t ++ u ++ [(3, bnN (c q))], I3, ?_, rfl, rfl, hS3⟩; unfold sp_lp; rw [if_pos hlev, hR]; simp only [if_true])
          | exact .inr ⟨w, L + 1, I3, FT_lp (by decide) hlev (TP_b hT) hR, by omega, hw2, by omega, rfl, rfl, hF3⟩
          | exact .inl ⟨q, t, I1, sp_lp_stuck (by decide) (fun e => (by have z := lvl_2 _ (TP_b hT q) e; rcases z with z | z | z; exact c10 z; exact c13 z; exact c16 z)), rfl, rfl, hS⟩
        · rw [hlt] at hL
          refine px_aload_n (kk := 0) rfl rfl rfl ?_
          refine px_iload_n (kk := 1) rfl rfl rfl ?_
          refine px_iconst (v := nI 0) rfl k_0 ?_
          refine px_callV0 CX12_addStep [] [.int _, .int _] (pv_mono (Nat.zero_le _) (vX12_stepF hF2 (by have := hT.1; omega))) rfl gS_65 (by decide) rfl rfl rfl (Nat.le_of_ble_eq_true rfl) (Nat.le_refl _) ?_
          rintro _ _ - ⟨rfl, I3, rfl, hF3⟩
          refine px_return rfl rfl ?_
          first
          | (refine .inl ⟨w, t ++ u ++ [(3, bnN (c q))], I3, ?_, rfl, rfl, hS3⟩; unfold sp_lp; rw [if_pos hlev, hR]; simp only [if_true])
          | exact .inr ⟨w, L + 1, I3, FT_lp (by decide) hlev (TP_b hT) hR, by omega, hw2, by omega, rfl, rfl, hF3⟩
          | exact .inl ⟨q, t, I1, sp_lp_stuck (by decide) (fun e => (by have z := lvl_2 _ (TP_b hT q) e; rcases z with z | z | z; exact c10 z; exact c13 z; exact c16 z)), rfl, rfl, hS⟩
      · refine px_return rfl rfl ?_
        first
        | (refine .inl ⟨w, t ++ u ++ [(3, bnN (c q))], I3, ?_, rfl, rfl, hS3⟩; unfold sp_lp; rw [if_pos hlev, hR]; simp only [if_true])
        | exact .inr ⟨w, L + 1, I3, FT_lp (by decide) hlev (TP_b hT) hR, by omega, hw2, by omega, rfl, rfl, hF3⟩
        | exact .inl ⟨q, t, I1, sp_lp_stuck (by decide) (fun e => (by have z := lvl_2 _ (TP_b hT q) e; rcases z with z | z | z; exact c10 z; exact c13 z; exact c16 z)), rfl, rfl, hS⟩
theorem vX12_compared {I : Nat → Nat → Int32} {J : Nat → Nat → Int64} {p : Bool × Option Nat} {ro : List (Nat × Nat × (Nat → Int32))} {c : Nat → Nat} {T : Nat} (hT : TP c T) (hLT : LTr c T I) {g : Nat → PR0} {o D : Nat} (hG : ∀ a, a ≤ T → PGr (g a) a T) (hg : ∀ (a : Nat) (ts : List Tk) (I1 : Nat → Nat → Int32), a ≤ T → ts.length ≤ a → RSt I o a ts I1 → Pv D 0 0 CX12_sum [.ref 65] (gS, I1, J, gR p, ro) (POr p I J ro c T a o ts (g a))) {a : Nat} {ts : List Tk} {I1 : Nat → Nat → Int32} (ha : a ≤ T) (hl : ts.length ≤ a) (hS : RSt I o a ts I1) : Pv (D + 1) 0 0 CX12_compared [.ref (65)] (gS, I1, J, gR p, ro) (POr p I J ro c T a o ts (sp_uq c 2 g a)) := by
  refine ⟨okCX12_compared, Nat.le_of_ble_eq_true rfl, (show Px _ _ _ _ 0 [some (.ref (65)), none] [] _ _ from ?_)⟩
  refine px_aload_n (kk := 0) rfl rfl rfl ?_
  refine px_callV0 CX12_sum [] [] (hg a ts I1 ha hl hS) rfl gS_65 (by decide) rfl rfl rfl (Nat.le_of_ble_eq_true rfl) (Nat.le_refl _) ?_
  rintro _ _ - (⟨q, t, I2, hR, rfl, rfl, hS2⟩ | ⟨q, L, I2, hR, hw1, hw2, hL, rfl, rfl, hF2⟩)
  · have hgu := (hG a ha).1 q t hR
    have hu : sp_uq c 2 g a = sp_lp c 2 g 121 q t := by
      unfold sp_uq
      rw [hR]
    rw [hu]
    have hTT := hT.1
    exact lX12_compared hT hLT hG hg (n := 121) hl hgu.2.1 (by omega) (by omega) hS2
  · refine px_aload_n (kk := 0) rfl rfl rfl ?_
    refine px_callV0 CX12_look [] [] (pv_mono (Nat.zero_le _) (vX12_look hT hLT (a := q) hw2 hF2.1 hF2.2.1)) rfl gS_65 (by decide) rfl rfl rfl (Nat.le_of_ble_eq_true rfl) (Nat.le_refl _) ?_
    rintro _ _ - ⟨rfl, rfl⟩
    refine px_ist1 rfl rfl (by decide) ?_
    refine px_aload_n (kk := 0) rfl rfl rfl ?_
    refine px_getIe (v := nI q) rfl gS_65 rfl hF2.2.2.1 ?_
    refine px_if_ge rfl (fun c7 => ?_) (fun h => absurd (nn_ge (by have := hT.1; omega)) h)
    refine px_return rfl rfl ?_
    exact .inr ⟨q, L, I2, FT_up (by decide) (TP_b hT) hR, hw1, hw2, hL, rfl, rfl, hF2⟩
theorem lX12_both {I : Nat → Nat → Int32} {J : Nat → Nat → Int64} {p : Bool × Option Nat} {ro : List (Nat × Nat × (Nat → Int32))} {c : Nat → Nat} {T : Nat} (hT : TP c T) (hLT : LTr c T I) {g : Nat → PR0} {o D : Nat} (hG : ∀ a, a ≤ T → PGr (g a) a T) (hg : ∀ (a : Nat) (ts : List Tk) (I1 : Nat → Nat → Int32), a ≤ T → ts.length ≤ a → RSt I o a ts I1 → Pv D 0 0 CX12_compared [.ref 65] (gS, I1, J, gR p, ro) (POr p I J ro c T a o ts (g a))) {a q n : Nat} {ts t : List Tk} {I1 : Nat → Nat → Int32} (hl : ts.length ≤ a) (hq : q ≤ T) (haq : t.length + a ≤ q) (hn : T - q < n) (hS : RSt I o q (ts ++ t) I1) : Px (D + 1) 0 0 CX12_both 2 [some (.ref (65))] [] (gS, I1, J, gR p, ro) (POr p I J ro c T a o ts (sp_lp c 1 g n q t)) := by
  refine px_aload_n (kk := 0) rfl rfl rfl ?_
  refine px_getIe (v := -1) rfl gS_65 rfl hS.2.2.1 ?_
  refine px_if_ge rfl (fun h => absurd h (by decide)) (fun _ => ?_)
  refine px_aload_n (kk := 0) rfl rfl rfl ?_
  refine px_callV0 CX12_look [] [] (pv_mono (Nat.zero_le _) (vX12_look hT hLT (a := q) hq hS.1 hS.2.1)) rfl gS_65 (by decide) rfl rfl rfl (Nat.le_of_ble_eq_true rfl) (Nat.le_refl _) ?_
  rintro _ _ - ⟨rfl, rfl⟩
  refine px_bipush (v := nI 38) rfl b_38 ?_
  refine px_icmp_ne rfl (fun c8 => ?_) (fun c8 => ?_)
  · refine px_return rfl rfl ?_
    first
    | exact .inr ⟨w, L + 1, I3, FT_lp (by decide) hlev (TP_b hT) hR, by omega, hw2, by omega, rfl, rfl, hF3⟩
    | exact .inl ⟨q, t, I1, sp_lp_stuck (by decide) (fun e => (by have z := lvl_1 _ (TP_b hT q) e; exact c8 z)), rfl, rfl, hS⟩
  · have hlev : lvN (c q) = 1 := lvr_1 _ (TP_b hT q) (by first | exact (by first | exact c8 | exact Classical.byContradiction c8))
    have hqT : q < T := TP_lt hT (fun e => by rw [e] at hlev; exact absurd hlev (by decide))
    have hcq : sR (c q) = aT (3, bnN (c q)) := bn_aT _ (TP_b hT q) (by omega)
    obtain ⟨n, rfl⟩ : ∃ m, n = m + 1 := ⟨n - 1, by omega⟩
    have hlt : (ts ++ t).length = ts.length + t.length := List.length_append
    refine px_aload_n (kk := 0) rfl rfl rfl ?_
    refine px_dup rfl rfl ?_
    refine px_getIe (v := nI q) rfl gS_65 rfl hS.2.1 ?_
    refine px_iconst (v := nI 1) rfl k_1 ?_
    refine px_iaddN rfl ?_
    refine px_putI rfl gS_65 rfl rfl ?_
    refine px_aload_n (kk := 0) rfl rfl rfl ?_
    refine px_callV0 CX12_compared [] [] (hg (q + 1) (ts ++ t) _ (by omega) (by rw [hlt]; omega) (RSt_at hS (q + 1))) rfl gS_65 (by decide) rfl rfl rfl (Nat.le_of_ble_eq_true rfl) (Nat.le_refl _) ?_
    rintro _ _ - (⟨w, u, I2, hR, rfl, rfl, hS2⟩ | ⟨w, L, I2, hR, hw1, hw2, hL, rfl, rfl, hF2⟩)
    · have hgu := (hG (q + 1) (by omega)).1 w u hR
      have hlu : (ts ++ t ++ u).length = ts.length + t.length + u.length := by rw [List.length_append, hlt]
      refine px_aload_n (kk := 0) rfl rfl rfl ?_
      refine px_bipush (v := nI 38) rfl b_38 ?_
      refine px_iconst (v := nI 0) rfl k_0 ?_
      refine px_callV0 CX12_addStep [] [.int _, .int _] (pv_mono (Nat.zero_le _) (vX12_step (t := (3, bnN (c q))) hS2 (by have := hT.1; omega) (show nI 38 = aT (3, bnN (c q)) from by rw [← hcq]; exact Eq.symm (by first | exact c8 | exact Classical.byContradiction c8)) rfl (.inr (bnN_10 _)))) rfl gS_65 (by decide) rfl rfl rfl (Nat.le_of_ble_eq_true rfl) (Nat.le_refl _) ?_
      rintro _ _ - ⟨rfl, I3, rfl, hS3⟩
      rw [List.append_assoc ts t u, List.append_assoc ts] at hS3
      refine px_goto rfl ?_
      have hu : sp_lp c 1 g (n + 1) q t = sp_lp c 1 g n w (t ++ u ++ [(3, bnN (c q))]) := by
        conv => lhs; unfold sp_lp
        rw [if_pos hlev, hR]
        rfl
      rw [hu]
      have hlx : (t ++ u ++ [(3, bnN (c q))]).length = t.length + u.length + 1 := by simp only [List.length_append, List.length_cons, List.length_nil]
      exact lX12_both hT hLT hG hg (n := n) hl hgu.2.1 (by omega) (by omega) hS3
    · rw [hlt] at hL
      refine px_aload_n (kk := 0) rfl rfl rfl ?_
      refine px_bipush (v := nI 38) rfl b_38 ?_
      refine px_iconst (v := nI 0) rfl k_0 ?_
      refine px_callV0 CX12_addStep [] [.int _, .int _] (pv_mono (Nat.zero_le _) (vX12_stepF hF2 (by have := hT.1; omega))) rfl gS_65 (by decide) rfl rfl rfl (Nat.le_of_ble_eq_true rfl) (Nat.le_refl _) ?_
      rintro _ _ - ⟨rfl, I3, rfl, hF3⟩
      refine px_goto rfl ?_
      refine px_aload_n (kk := 0) rfl rfl rfl ?_
      refine px_getIe (v := nI w) rfl gS_65 rfl hF3.2.2.1 ?_
      refine px_if_ge rfl (fun c4 => ?_) (fun h => absurd (nn_ge (by have := hT.1; omega)) h)
      refine px_return rfl rfl ?_
      first
      | exact .inr ⟨w, L + 1, I3, FT_lp (by decide) hlev (TP_b hT) hR, by omega, hw2, by omega, rfl, rfl, hF3⟩
      | exact .inl ⟨q, t, I1, sp_lp_stuck (by decide) (fun e => (by have z := lvl_1 _ (TP_b hT q) e; exact c8 z)), rfl, rfl, hS⟩
termination_by n
decreasing_by all_goals omega
theorem vX12_both {I : Nat → Nat → Int32} {J : Nat → Nat → Int64} {p : Bool × Option Nat} {ro : List (Nat × Nat × (Nat → Int32))} {c : Nat → Nat} {T : Nat} (hT : TP c T) (hLT : LTr c T I) {g : Nat → PR0} {o D : Nat} (hG : ∀ a, a ≤ T → PGr (g a) a T) (hg : ∀ (a : Nat) (ts : List Tk) (I1 : Nat → Nat → Int32), a ≤ T → ts.length ≤ a → RSt I o a ts I1 → Pv D 0 0 CX12_compared [.ref 65] (gS, I1, J, gR p, ro) (POr p I J ro c T a o ts (g a))) {a : Nat} {ts : List Tk} {I1 : Nat → Nat → Int32} (ha : a ≤ T) (hl : ts.length ≤ a) (hS : RSt I o a ts I1) : Pv (D + 1) 0 0 CX12_both [.ref (65)] (gS, I1, J, gR p, ro) (POr p I J ro c T a o ts (sp_uq c 1 g a)) := by
  refine ⟨okCX12_both, Nat.le_of_ble_eq_true rfl, (show Px _ _ _ _ 0 [some (.ref (65))] [] _ _ from ?_)⟩
  refine px_aload_n (kk := 0) rfl rfl rfl ?_
  refine px_callV0 CX12_compared [] [] (hg a ts I1 ha hl hS) rfl gS_65 (by decide) rfl rfl rfl (Nat.le_of_ble_eq_true rfl) (Nat.le_refl _) ?_
  rintro _ _ - (⟨q, t, I2, hR, rfl, rfl, hS2⟩ | ⟨q, L, I2, hR, hw1, hw2, hL, rfl, rfl, hF2⟩)
  · have hgu := (hG a ha).1 q t hR
    have hu : sp_uq c 1 g a = sp_lp c 1 g 121 q t := by
      unfold sp_uq
      rw [hR]
    rw [hu]
    have hTT := hT.1
    exact lX12_both hT hLT hG hg (n := 121) hl hgu.2.1 (by omega) (by omega) hS2
  · refine px_aload_n (kk := 0) rfl rfl rfl ?_
    refine px_getIe (v := nI q) rfl gS_65 rfl hF2.2.2.1 ?_
    refine px_if_ge rfl (fun c4 => ?_) (fun h => absurd (nn_ge (by have := hT.1; omega)) h)
    refine px_return rfl rfl ?_
    exact .inr ⟨q, L, I2, FT_up (by decide) (TP_b hT) hR, hw1, hw2, hL, rfl, rfl, hF2⟩
theorem lX12_either {I : Nat → Nat → Int32} {J : Nat → Nat → Int64} {p : Bool × Option Nat} {ro : List (Nat × Nat × (Nat → Int32))} {c : Nat → Nat} {T : Nat} (hT : TP c T) (hLT : LTr c T I) {g : Nat → PR0} {o D : Nat} (hG : ∀ a, a ≤ T → PGr (g a) a T) (hg : ∀ (a : Nat) (ts : List Tk) (I1 : Nat → Nat → Int32), a ≤ T → ts.length ≤ a → RSt I o a ts I1 → Pv D 0 0 CX12_both [.ref 65] (gS, I1, J, gR p, ro) (POr p I J ro c T a o ts (g a))) {a q n : Nat} {ts t : List Tk} {I1 : Nat → Nat → Int32} (hl : ts.length ≤ a) (hq : q ≤ T) (haq : t.length + a ≤ q) (hn : T - q < n) (hS : RSt I o q (ts ++ t) I1) : Px (D + 1) 0 0 CX12_either 2 [some (.ref (65))] [] (gS, I1, J, gR p, ro) (POr p I J ro c T a o ts (sp_lp c 0 g n q t)) := by
  refine px_aload_n (kk := 0) rfl rfl rfl ?_
  refine px_getIe (v := -1) rfl gS_65 rfl hS.2.2.1 ?_
  refine px_if_ge rfl (fun h => absurd h (by decide)) (fun _ => ?_)
  refine px_aload_n (kk := 0) rfl rfl rfl ?_
  refine px_callV0 CX12_look [] [] (pv_mono (Nat.zero_le _) (vX12_look hT hLT (a := q) hq hS.1 hS.2.1)) rfl gS_65 (by decide) rfl rfl rfl (Nat.le_of_ble_eq_true rfl) (Nat.le_refl _) ?_
  rintro _ _ - ⟨rfl, rfl⟩
  refine px_bipush (v := nI 124) rfl b_124 ?_
  refine px_icmp_ne rfl (fun c8 => ?_) (fun c8 => ?_)
  · refine px_return rfl rfl ?_
    first
    | exact .inr ⟨w, L + 1, I3, FT_lp (by decide) hlev (TP_b hT) hR, by omega, hw2, by omega, rfl, rfl, hF3⟩
    | exact .inl ⟨q, t, I1, sp_lp_stuck (by decide) (fun e => (by have z := lvl_0 _ (TP_b hT q) e; exact c8 z)), rfl, rfl, hS⟩
  · have hlev : lvN (c q) = 0 := lvr_0 _ (TP_b hT q) (by first | exact (by first | exact c8 | exact Classical.byContradiction c8))
    have hqT : q < T := TP_lt hT (fun e => by rw [e] at hlev; exact absurd hlev (by decide))
    have hcq : sR (c q) = aT (3, bnN (c q)) := bn_aT _ (TP_b hT q) (by omega)
    obtain ⟨n, rfl⟩ : ∃ m, n = m + 1 := ⟨n - 1, by omega⟩
    have hlt : (ts ++ t).length = ts.length + t.length := List.length_append
    refine px_aload_n (kk := 0) rfl rfl rfl ?_
    refine px_dup rfl rfl ?_
    refine px_getIe (v := nI q) rfl gS_65 rfl hS.2.1 ?_
    refine px_iconst (v := nI 1) rfl k_1 ?_
    refine px_iaddN rfl ?_
    refine px_putI rfl gS_65 rfl rfl ?_
    refine px_aload_n (kk := 0) rfl rfl rfl ?_
    refine px_callV0 CX12_both [] [] (hg (q + 1) (ts ++ t) _ (by omega) (by rw [hlt]; omega) (RSt_at hS (q + 1))) rfl gS_65 (by decide) rfl rfl rfl (Nat.le_of_ble_eq_true rfl) (Nat.le_refl _) ?_
    rintro _ _ - (⟨w, u, I2, hR, rfl, rfl, hS2⟩ | ⟨w, L, I2, hR, hw1, hw2, hL, rfl, rfl, hF2⟩)
    · have hgu := (hG (q + 1) (by omega)).1 w u hR
      have hlu : (ts ++ t ++ u).length = ts.length + t.length + u.length := by rw [List.length_append, hlt]
      refine px_aload_n (kk := 0) rfl rfl rfl ?_
      refine px_bipush (v := nI 124) rfl b_124 ?_
      refine px_iconst (v := nI 0) rfl k_0 ?_
      refine px_callV0 CX12_addStep [] [.int _, .int _] (pv_mono (Nat.zero_le _) (vX12_step (t := (3, bnN (c q))) hS2 (by have := hT.1; omega) (show nI 124 = aT (3, bnN (c q)) from by rw [← hcq]; exact Eq.symm (by first | exact c8 | exact Classical.byContradiction c8)) rfl (.inr (bnN_10 _)))) rfl gS_65 (by decide) rfl rfl rfl (Nat.le_of_ble_eq_true rfl) (Nat.le_refl _) ?_
      rintro _ _ - ⟨rfl, I3, rfl, hS3⟩
      rw [List.append_assoc ts t u, List.append_assoc ts] at hS3
      refine px_goto rfl ?_
      have hu : sp_lp c 0 g (n + 1) q t = sp_lp c 0 g n w (t ++ u ++ [(3, bnN (c q))]) := by
        conv => lhs; unfold sp_lp
        rw [if_pos hlev, hR]
        rfl
      rw [hu]
      have hlx : (t ++ u ++ [(3, bnN (c q))]).length = t.length + u.length + 1 := by simp only [List.length_append, List.length_cons, List.length_nil]
      exact lX12_either hT hLT hG hg (n := n) hl hgu.2.1 (by omega) (by omega) hS3
    · rw [hlt] at hL
      refine px_aload_n (kk := 0) rfl rfl rfl ?_
      refine px_bipush (v := nI 124) rfl b_124 ?_
      refine px_iconst (v := nI 0) rfl k_0 ?_
      refine px_callV0 CX12_addStep [] [.int _, .int _] (pv_mono (Nat.zero_le _) (vX12_stepF hF2 (by have := hT.1; omega))) rfl gS_65 (by decide) rfl rfl rfl (Nat.le_of_ble_eq_true rfl) (Nat.le_refl _) ?_
      rintro _ _ - ⟨rfl, I3, rfl, hF3⟩
      refine px_goto rfl ?_
      refine px_aload_n (kk := 0) rfl rfl rfl ?_
      refine px_getIe (v := nI w) rfl gS_65 rfl hF3.2.2.1 ?_
      refine px_if_ge rfl (fun c4 => ?_) (fun h => absurd (nn_ge (by have := hT.1; omega)) h)
      refine px_return rfl rfl ?_
      first
      | exact .inr ⟨w, L + 1, I3, FT_lp (by decide) hlev (TP_b hT) hR, by omega, hw2, by omega, rfl, rfl, hF3⟩
      | exact .inl ⟨q, t, I1, sp_lp_stuck (by decide) (fun e => (by have z := lvl_0 _ (TP_b hT q) e; exact c8 z)), rfl, rfl, hS⟩
termination_by n
decreasing_by all_goals omega
theorem vX12_either {I : Nat → Nat → Int32} {J : Nat → Nat → Int64} {p : Bool × Option Nat} {ro : List (Nat × Nat × (Nat → Int32))} {c : Nat → Nat} {T : Nat} (hT : TP c T) (hLT : LTr c T I) {g : Nat → PR0} {o D : Nat} (hG : ∀ a, a ≤ T → PGr (g a) a T) (hg : ∀ (a : Nat) (ts : List Tk) (I1 : Nat → Nat → Int32), a ≤ T → ts.length ≤ a → RSt I o a ts I1 → Pv D 0 0 CX12_both [.ref 65] (gS, I1, J, gR p, ro) (POr p I J ro c T a o ts (g a))) {a : Nat} {ts : List Tk} {I1 : Nat → Nat → Int32} (ha : a ≤ T) (hl : ts.length ≤ a) (hS : RSt I o a ts I1) : Pv (D + 1) 0 0 CX12_either [.ref (65)] (gS, I1, J, gR p, ro) (POr p I J ro c T a o ts (sp_uq c 0 g a)) := by
  refine ⟨okCX12_either, Nat.le_of_ble_eq_true rfl, (show Px _ _ _ _ 0 [some (.ref (65))] [] _ _ from ?_)⟩
  refine px_aload_n (kk := 0) rfl rfl rfl ?_
  refine px_callV0 CX12_both [] [] (hg a ts I1 ha hl hS) rfl gS_65 (by decide) rfl rfl rfl (Nat.le_of_ble_eq_true rfl) (Nat.le_refl _) ?_
  rintro _ _ - (⟨q, t, I2, hR, rfl, rfl, hS2⟩ | ⟨q, L, I2, hR, hw1, hw2, hL, rfl, rfl, hF2⟩)
  · have hgu := (hG a ha).1 q t hR
    have hu : sp_uq c 0 g a = sp_lp c 0 g 121 q t := by
      unfold sp_uq
      rw [hR]
    rw [hu]
    have hTT := hT.1
    exact lX12_either hT hLT hG hg (n := 121) hl hgu.2.1 (by omega) (by omega) hS2
  · refine px_aload_n (kk := 0) rfl rfl rfl ?_
    refine px_getIe (v := nI q) rfl gS_65 rfl hF2.2.2.1 ?_
    refine px_if_ge rfl (fun c4 => ?_) (fun h => absurd (nn_ge (by have := hT.1; omega)) h)
    refine px_return rfl rfl ?_
    exact .inr ⟨q, L, I2, FT_up (by decide) (TP_b hT) hR, hw1, hw2, hL, rfl, rfl, hF2⟩
