/-! the reference: an hour told -/
theorem neg_two {v : Int32} (h : v < 0) {a b : Nat} (ha : a < 8) (hb : b < 8) (e1 : v / nI 10 = nI a) (e2 : v - v / nI 10 * nI 10 = nI b) : a = b := by
  have h1 : v.toInt < 0 := by rw [i_lt, i_0] at h; exact h
  have h2 := Int32.le_toInt v
  have t := congrArg Int32.toInt e1
  rw [Int32.toInt_div, nI_toInt (by decide), nI_toInt (by omega)] at t
  have e : ((10 : Nat) : Int) = 10 := rfl
  rw [e] at t
  have h3 : v.toInt.tdiv 10 ≤ 0 ∧ -2 ^ 31 ≤ v.toInt.tdiv 10 := by
    have := Int.tdiv_eq_ediv (a := v.toInt) (b := 10)
    rw [this]
    constructor
    · split
      · omega
      · simp only [Int.sign]; omega
    · split
      · omega
      · simp only [Int.sign]; omega
  rw [Int.bmod_eq_of_le (by omega) (by omega)] at t
  have ha0 : a = 0 := by omega
  subst ha0
  rw [e1] at e2
  have t2 := congrArg Int32.toInt e2
  rw [show nI 0 * nI 10 = nI 0 from by decide +kernel, show v - nI 0 = v from by rw [← n_0]; exact Int32.sub_zero v, nI_toInt (by omega)] at t2
  omega
theorem TK_neg {n : Nat} (hn : n ≤ 8) {co : Int32} {s : DT} {v : Int32} (h : v < 0) : ¬ TK n co s (v / nI 10) (v - v / nI 10 * nI 10) := fun ⟨a, b, ha, hb, hne, e1, e2, _⟩ => hne (neg_two h (by omega) (by omega) e1 e2)
theorem lX12_ph1 {I : Nat → Nat → Int32} {J : Nat → Nat → Int64} {p : Bool × Option Nat} {ro : List (Nat × Nat × (Nat → Int32))} {n : Nat} (hn : I 65 1 = nI n) (hn8 : n ≤ 8) {x : Int32} {k : Nat} (hk : k ≤ n) {Q : Option Value → pm_M → Prop} (kont : Px 3 0 0 CX12_plugHour 21 [some (.ref 65), some (.int x), some (.int (nI n))] [] (gS, (va_up (va_up I 88 (fun j => if j < n then I 85 j else I 88 j)) 85 (fun j => if j < n then -1 else I 85 j)), J, gR p, ro) Q) : Px 3 0 0 CX12_plugHour 2 [some (.ref (65)), some (.int (x)), some (.int (nI k))] [] (gS, (va_up (va_up I 88 (fun j => if j < k then I 85 j else I 88 j)) 85 (fun j => if j < k then -1 else I 85 j)), J, gR p, ro) (Q) := by
  refine px_iload_n (kk := 2) rfl rfl rfl ?_
  refine px_aload_n (kk := 0) rfl rfl rfl ?_
  refine px_getIe (v := nI n) rfl gS_65 rfl ((congrFun (p_up_n _ _ (by decide)) 1).trans ((congrFun (p_up_n _ _ (by decide)) 1).trans hn)) ?_
  refine px_icmp_ge rfl (fun c5 => ?_) (fun c5 => ?_)
  · rw [n_le (by omega) (by omega)] at c5
    obtain rfl : k = n := by omega
    exact kont
  · rw [n_le (by omega) (by omega)] at c5
    refine px_aload_n (kk := 0) rfl rfl rfl ?_
    refine px_getR (r := 88) rfl gS_65 rfl (gR_65_37 _) ?_
    refine px_iload_n (kk := 2) rfl rfl rfl ?_
    refine px_aload_n (kk := 0) rfl rfl rfl ?_
    refine px_getR (r := 85) rfl gS_65 rfl (gR_65_31 _) ?_
    refine px_iload_n (kk := 2) rfl rfl rfl ?_
    refine px_ialde (j := k) (v := I 85 k) rfl gS_85 rfl (by omega) (by rw [p_up_s, if_neg (by omega)]) ?_
    refine px_iast (j := k) rfl gS_88 rfl (by omega) ?_
    refine px_aload_n (kk := 0) rfl rfl rfl ?_
    refine px_getR (r := 85) rfl gS_65 rfl (gR_65_31 _) ?_
    refine px_iload_n (kk := 2) rfl rfl rfl ?_
    refine px_iconst (v := -1) rfl k_m1 ?_
    refine px_iast (j := k) rfl gS_85 rfl (by omega) ?_
    refine px_iinc2 (v := nI (k + 1)) rfl (n_inc k) rfl (by decide) ?_
    refine px_goto rfl ?_
    refine px_mem ?_ (lX12_ph1 hn hn8 (k := k + 1) (by omega) kont)
    simp only [p_up_s, p_up_n _ _ (show (85 : Nat) ≠ 88 by decide), p_up_n _ _ (show (88 : Nat) ≠ 85 by decide), up2]
    rw [fill_step, up_c _ (show (85 : Nat) ≠ 88 by decide), up2]
    congr 1
    · rw [up2]
      congr 1
      funext j
      by_cases h : j = k
      · subst h; rw [p_up_s, if_pos (by omega)]
      · rw [p_up_n _ _ h]
        by_cases h2 : j < k
        · rw [if_pos h2, if_pos (by omega)]
        · rw [if_neg h2, if_neg (by omega)]
termination_by n - k
decreasing_by all_goals (have h := ‹¬ nI n ≤ nI k›; rw [n_le (by omega) (by omega)] at h; omega)
/-- the reference's rows as an hour is told -/
def RH (n : Nat) (t : DT) (pl : Nat) (I I1 : Nat → Nat → Int32) : Prop := Fr [65, 85] I I1 ∧ (∀ k, k ≠ 34 → k ≠ 35 → I1 65 k = I 65 k) ∧ (∀ l, l < n → I1 85 l = t.1 l) ∧ I1 65 35 = t.2.2 ∧ I1 65 34 = nI pl ∧ MT n t.1 ∧ sp_cn t.1 n = t.2.1
theorem RH_MT {n : Nat} {t : DT} {pl : Nat} {I I1 : Nat → Nat → Int32} (h : RH n t pl I I1) : MT n (I1 85) := fun l hl => by
  rw [h.2.2.1 l hl]
  rcases h.2.2.2.2.2.1 l hl with e | ⟨k, hk, hne, e1, e2⟩
  · exact .inl e
  · exact .inr ⟨k, hk, hne, e1, by rw [h.2.2.1 k hk]; exact e2⟩
theorem RH_pl {n : Nat} {t : DT} {pl : Nat} {I I1 : Nat → Nat → Int32} (h : RH n t pl I I1) (q : Nat) : RH n t q I (va_up I1 65 (va_up (I1 65) 34 (nI q))) :=
  ⟨Fr_up h.1 (by decide) _, fun k h1 h2 => by rw [p_up_s, p_up_n _ _ h1]; exact h.2.1 k h1 h2, fun l hl => by rw [p_up_n _ _ (by decide)]; exact h.2.2.1 l hl, by rw [p_up_s, p_up_n _ _ (by decide)]; exact h.2.2.2.1, by rw [p_up_s, p_up_s], h.2.2.2.2.2.1, h.2.2.2.2.2.2⟩
theorem RH_bad {n : Nat} {t : DT} {pl : Nat} {I I1 : Nat → Nat → Int32} (h : RH n t pl I I1) : RH n (t.1, t.2.1, t.2.2 + nI 1) pl I (va_up I1 65 (va_up (I1 65) 35 (I1 65 35 + nI 1))) :=
  ⟨Fr_up h.1 (by decide) _, fun k h1 h2 => by rw [p_up_s, p_up_n _ _ h2]; exact h.2.1 k h1 h2, fun l hl => by rw [p_up_n _ _ (by decide)]; exact h.2.2.1 l hl, by rw [p_up_s, p_up_s, h.2.2.2.1], by rw [p_up_s, p_up_n _ _ (by decide)]; exact h.2.2.2.2.1, h.2.2.2.2.2.1, h.2.2.2.2.2.2⟩
theorem RH_tie {n : Nat} {t : DT} {pl : Nat} {I I1 : Nat → Nat → Int32} (hn : n ≤ 8) (h : RH n t pl I I1) {a b : Nat} (ha : a < n) (hb : b < n) (hne : a ≠ b) (h1 : t.1 a = -1) (h2 : t.1 b = -1) : RH n (va_up (va_up t.1 a (nI b)) b (nI a), t.2.1 + 1, t.2.2) pl I (va_up I1 85 (va_up (va_up (I1 85) a (nI b)) b (nI a))) :=
  ⟨Fr_up h.1 (by decide) _, fun k z1 z2 => by rw [p_up_n _ _ (by decide)]; exact h.2.1 k z1 z2, fun l hl => by
    show _ = va_up (va_up t.1 a (nI b)) b (nI a) l
    rw [p_up_s]
    by_cases e1 : l = b
    · subst e1; rw [p_up_s, p_up_s]
    · rw [p_up_n _ _ e1, p_up_n _ _ e1]
      by_cases e2 : l = a
      · subst e2; rw [p_up_s, p_up_s]
      · rw [p_up_n _ _ e2, p_up_n _ _ e2]; exact h.2.2.1 l hl, by rw [p_up_n _ _ (by decide)]; exact h.2.2.2.1, by rw [p_up_n _ _ (by decide)]; exact h.2.2.2.2.1, MT_tie h.2.2.2.2.2.1 ha hb hne h1 h2 hn, by rw [sp_cn_tie hn ha hb hne h1 h2, h.2.2.2.2.2.2]⟩
theorem RH_tk {n : Nat} {t : DT} {pl : Nat} {I I1 : Nat → Nat → Int32} (h : RH n t pl I I1) (x y : Int32) : (∃ a b, a < n ∧ b < n ∧ a ≠ b ∧ x = nI a ∧ y = nI b ∧ I1 85 a = -1 ∧ I1 85 b = -1 ∧ nI (sp_cn (I1 85) n) < I1 65 6) ↔ TK n (I 65 6) t x y := by
  have ec : sp_cn (I1 85) n = t.2.1 := (sp_cn_congr h.2.2.1).trans h.2.2.2.2.2.2
  have e6 : I1 65 6 = I 65 6 := h.2.1 6 (by decide) (by decide)
  constructor
  · rintro ⟨a, b, ha, hb, hne, e1, e2, h1, h2, h3⟩
    exact ⟨a, b, ha, hb, hne, e1, e2, by rw [← h.2.2.1 a ha]; exact h1, by rw [← h.2.2.1 b hb]; exact h2, by rw [← ec, ← e6]; exact h3⟩
  · rintro ⟨a, b, ha, hb, hne, e1, e2, h1, h2, h3⟩
    exact ⟨a, b, ha, hb, hne, e1, e2, by rw [h.2.2.1 a ha]; exact h1, by rw [h.2.2.1 b hb]; exact h2, by rw [ec, e6]; exact h3⟩
theorem lX12_ph2 {I : Nat → Nat → Int32} {J : Nat → Nat → Int64} {p : Bool × Option Nat} {ro : List (Nat × Nat × (Nat → Int32))} {n : Nat} (hn8 : n ≤ 8) (hn : I 65 1 = nI n) {s z : Nat} (hs : s < 6) (hz : I 99 s = nI z) (hz60 : z ≤ 60) {pl : Nat} (hpl2 : pl < 1000) {t : DT} {I1 : Nat → Nat → Int32} (hR : RH n t pl I I1) {o : Option Value} {Q : Option Value → pm_M → Prop} (kont : ∀ I2 b o2, RH n (sp_tell n (I 65 6) (fun j => (J 100 (60 * s + j)).toInt32) (wiR (I 65 36)) (z - pl) pl t).1 b I I2 → (b + 1 = (sp_tell n (I 65 6) (fun j => (J 100 (60 * s + j)).toInt32) (wiR (I 65 36)) (z - pl) pl t).2 ∨ (z ≤ (sp_tell n (I 65 6) (fun j => (J 100 (60 * s + j)).toInt32) (wiR (I 65 36)) (z - pl) pl t).2 ∧ b = (sp_tell n (I 65 6) (fun j => (J 100 (60 * s + j)).toInt32) (wiR (I 65 36)) (z - pl) pl t).2)) → Px 3 0 0 CX12_plugHour 79 [some (.ref 65), some (.int (nI s)), o2] [] (gS, I2, J, gR p, ro) Q) : Px 3 0 0 CX12_plugHour 21 [some (.ref (65)), some (.int (nI s)), o] [] (gS, I1, J, gR p, ro) (Q) := by
  refine px_aload_n (kk := 0) rfl rfl rfl ?_
  refine px_getIe (v := nI pl) rfl gS_65 rfl hR.2.2.2.2.1 ?_
  refine px_aload_n (kk := 0) rfl rfl rfl ?_
  refine px_getR (r := 99) rfl gS_65 rfl (gR_65_60 _) ?_
  refine px_iload_n (kk := 1) rfl rfl rfl ?_
  refine px_ialde (j := s) (v := nI z) rfl gS_99 rfl hs ((congrFun (hR.1 99 (by decide)) s).trans hz) ?_
  refine px_icmp_ge rfl (fun c27 => ?_) (fun c27 => ?_)
  · rw [n_le (by omega) (by omega)] at c27
    rw [show z - pl = 0 by omega] at kont
    exact kont I1 pl _ hR (.inr ⟨by show z ≤ pl; omega, rfl⟩)
  · have hpl : pl < z := by rw [n_le (by omega) (by omega)] at c27; omega
    have hzf : z - pl = (z - (pl + 1)) + 1 := by omega
    refine px_aload_n (kk := 0) rfl rfl rfl ?_
    refine px_iload_n (kk := 1) rfl rfl rfl ?_
    refine px_aload_n (kk := 0) rfl rfl rfl ?_
    refine px_getIe (v := nI pl) rfl gS_65 rfl hR.2.2.2.2.1 ?_
    refine px_callV0 CX12_at [] [.int _, .int _] (vX12_at hs (by omega)) rfl gS_65 (by decide) rfl rfl rfl (Nat.le_of_ble_eq_true rfl) (by decide) ?_
    rintro _ _ - ⟨rfl, rfl⟩
    refine px_iconst (v := -1) rfl k_m1 ?_
    refine px_icmp_eq rfl (fun c34 => ?_) (fun c34 => ?_)
    · rw [hzf] at kont
      unfold sp_tell at kont
      rw [if_pos c34] at kont
      exact kont I1 pl _ hR (.inl rfl)
    · refine px_aload_n (kk := 0) rfl rfl rfl ?_
      refine px_iload_n (kk := 1) rfl rfl rfl ?_
      refine px_aload_n (kk := 0) rfl rfl rfl ?_
      refine px_getIe (v := nI pl) rfl gS_65 rfl hR.2.2.2.2.1 ?_
      refine px_callV0 CX12_at [] [.int _, .int _] (vX12_at hs (by omega)) rfl gS_65 (by decide) rfl rfl rfl (Nat.le_of_ble_eq_true rfl) (by decide) ?_
      rintro _ _ - ⟨rfl, rfl⟩
      refine px_ist2 rfl rfl (by decide) ?_
      refine px_aload_n (kk := 0) rfl rfl rfl ?_
      refine px_dup rfl rfl ?_
      refine px_getIe (v := nI pl) rfl gS_65 rfl hR.2.2.2.2.1 ?_
      refine px_iconst (v := nI 1) rfl k_1 ?_
      refine px_iaddN rfl ?_
      refine px_putI rfl gS_65 rfl rfl ?_
      refine px_aload_n (kk := 0) rfl rfl rfl ?_
      refine px_iload_n (kk := 2) rfl rfl rfl ?_
      refine px_callV0 CX12_isWithout [] [.int _] (vX12_isWithout) rfl gS_65 (by decide) rfl rfl rfl (Nat.le_of_ble_eq_true rfl) (by decide) ?_
      rintro _ _ - (⟨hw, rfl, rfl⟩ | ⟨hw, rfl, rfl⟩)
      · have hR1 := RH_pl hR (pl + 1)
        rw [hR1.2.1 36 (by decide) (by decide)] at hw
        refine px_if_eq rfl (fun h => absurd h (by decide)) (fun _ => ?_)
        refine px_goto rfl ?_
        rw [hzf] at kont
        unfold sp_tell at kont
        rw [if_neg c34, if_pos hw] at kont
        refine lX12_ph2 hn8 hn hs hz hz60 (pl := pl + 1) (by omega) (t := t) (hR1) kont
      · have hR1 := RH_pl hR (pl + 1)
        rw [hR1.2.1 36 (by decide) (by decide)] at hw
        refine px_if_eq rfl (fun _ => ?_) (fun h => absurd h (by decide))
        refine px_iload_n (kk := 2) rfl rfl rfl ?_
        refine px_if_lt rfl (fun c53 => ?_) (fun c53 => ?_)
        · refine px_aload_n (kk := 0) rfl rfl rfl ?_
          refine px_dup rfl rfl ?_
          refine px_getI rfl gS_65 rfl ?_
          refine px_iconst (v := nI 1) rfl k_1 ?_
          refine px_iadd rfl ?_
          refine px_putI rfl gS_65 rfl rfl ?_
          refine px_goto rfl ?_
          rw [hzf] at kont
          unfold sp_tell at kont
          rw [if_neg c34, if_neg hw, sp_ask_f (TK_neg hn8 c53)] at kont
          refine lX12_ph2 hn8 hn hs hz hz60 (pl := pl + 1) (by omega) (t := _) (RH_bad hR1) kont
        · obtain ⟨m, hm, hv⟩ := n_ofn c53
          have ed : (J 100 (60 * s + pl)).toInt32 / nI 10 = nI (m / 10) := by rw [hv]; exact n_div (by omega) (by omega)
          have em : (J 100 (60 * s + pl)).toInt32 - (J 100 (60 * s + pl)).toInt32 / nI 10 * nI 10 = nI (m % 10) := by rw [hv]; exact n_rem (by omega) (by omega)
          refine px_l2 (y := nI m) hv ?_
          refine px_aload_n (kk := 0) rfl rfl rfl ?_
          refine px_iload_n (kk := 2) rfl rfl rfl ?_
          refine px_bipush (v := nI 10) rfl b_10 ?_
          refine px_idivN rfl (by decide) (by decide) (by omega) ?_
          refine px_iload_n (kk := 2) rfl rfl rfl ?_
          refine px_bipush (v := nI 10) rfl b_10 ?_
          refine px_iremN rfl (by decide) (by decide) (by omega) ?_
          refine px_callV0 CX12_mayPlug [] [.int _, .int _] (vX12_mayPlug ((hR1.2.1 1 (by decide) (by decide)).trans hn) hn8 (RH_MT hR1)) rfl gS_65 (by decide) rfl rfl rfl (Nat.le_of_ble_eq_true rfl) (by decide) ?_
          rintro _ _ - (⟨htk, rfl, rfl⟩ | ⟨htk, rfl, rfl⟩)
          · obtain ⟨a, b, ha, hb, hne, e1, e2, h1, h2, h3⟩ := (RH_tk hR1 _ _).mp htk
            rw [n_eq (by omega) (by omega)] at e1 e2
            subst e1
            subst e2
            refine px_if_eq rfl (fun h => absurd h (by decide)) (fun _ => ?_)
            refine px_aload_n (kk := 0) rfl rfl rfl ?_
            refine px_iload_n (kk := 2) rfl rfl rfl ?_
            refine px_bipush (v := nI 10) rfl b_10 ?_
            refine px_idivN rfl (by decide) (by decide) (by omega) ?_
            refine px_iload_n (kk := 2) rfl rfl rfl ?_
            refine px_bipush (v := nI 10) rfl b_10 ?_
            refine px_iremN rfl (by decide) (by decide) (by omega) ?_
            refine px_callV0 CX12_plugs [] [.int _, .int _] (vX12_plugs (a := m / 10) (b := m % 10) (by omega) (by omega)) rfl gS_65 (by decide) rfl rfl rfl (Nat.le_of_ble_eq_true rfl) (by decide) ?_
            rintro _ _ - ⟨rfl, rfl⟩
            refine px_goto rfl ?_
            refine px_goto rfl ?_
            rw [hzf] at kont
            unfold sp_tell at kont
            rw [if_neg c34, if_neg hw, em, ed, sp_ask_t ha hb hne h1 h2 h3 hn8] at kont
            refine lX12_ph2 hn8 hn hs hz hz60 (pl := pl + 1) (by omega) (t := _) (RH_tie hn8 hR1 ha hb hne h1 h2) kont
          · refine px_if_eq rfl (fun _ => ?_) (fun h => absurd h (by decide))
            refine px_aload_n (kk := 0) rfl rfl rfl ?_
            refine px_dup rfl rfl ?_
            refine px_getI rfl gS_65 rfl ?_
            refine px_iconst (v := nI 1) rfl k_1 ?_
            refine px_iadd rfl ?_
            refine px_putI rfl gS_65 rfl rfl ?_
            refine px_goto rfl ?_
            rw [hzf] at kont
            unfold sp_tell at kont
            rw [if_neg c34, if_neg hw, em, ed, sp_ask_f (fun z => htk ((RH_tk hR1 _ _).mpr z))] at kont
            refine lX12_ph2 hn8 hn hs hz hz60 (pl := pl + 1) (by omega) (t := _) (RH_bad hR1) kont
theorem lX12_ph3 {I : Nat → Nat → Int32} {J : Nat → Nat → Int64} {p : Bool × Option Nat} {ro : List (Nat × Nat × (Nat → Int32))} {n : Nat} (hn8 : n ≤ 8) (hn : I 65 1 = nI n) (hM : MT n (I 85)) {s k : Nat} (hk : k ≤ n) : Px 3 0 0 CX12_plugHour 87 [some (.ref (65)), some (.int (nI s)), some (.int (nI k))] [] (gS, (va_up I 86 (fun j => if j < k then hA (I 88) (fun l => I 86 l + nI 1) (I 85) j else I 86 j)), J, gR p, ro) (qV (gS, (va_up I 86 (fun j => if j < n then hA (I 88) (fun l => I 86 l + nI 1) (I 85) j else I 86 j)), J, gR p, ro)) := by
  refine px_iload_n (kk := 2) rfl rfl rfl ?_
  refine px_aload_n (kk := 0) rfl rfl rfl ?_
  refine px_getIe (v := nI n) rfl gS_65 rfl ((congrFun (p_up_n _ _ (by decide)) 1).trans hn) ?_
  refine px_icmp_ge rfl (fun c90 => ?_) (fun c90 => ?_)
  · refine px_return rfl rfl ?_
    rw [n_le (by omega) (by omega)] at c90
    obtain rfl : k = n := by omega
    exact ⟨rfl, rfl⟩
  · rw [n_le (by omega) (by omega)] at c90
    refine px_aload_n (kk := 0) rfl rfl rfl ?_
    refine px_getR (r := 86) rfl gS_65 rfl (gR_65_32 _) ?_
    refine px_iload_n (kk := 2) rfl rfl rfl ?_
    refine px_aload_n (kk := 0) rfl rfl rfl ?_
    refine px_getR (r := 85) rfl gS_65 rfl (gR_65_31 _) ?_
    refine px_iload_n (kk := 2) rfl rfl rfl ?_
    refine px_ialde (j := k) (v := I 85 k) rfl gS_85 rfl (by omega) (congrFun (p_up_n _ _ (by decide)) k) ?_
    refine px_if_lt rfl (fun c98 => ?_) (fun c98 => ?_)
    · refine px_iconst (v := nI 0) rfl k_0 ?_
      refine px_iast (j := k) rfl gS_86 rfl (by omega) ?_
      refine px_iinc2 (v := nI (k + 1)) rfl (n_inc k) rfl (by decide) ?_
      refine px_goto rfl ?_
      refine px_mem (show _ = (va_up I 86 (fun j => if j < (k + 1) then hA (I 88) (fun l => I 86 l + nI 1) (I 85) j else I 86 j)) from ?_) (lX12_ph3 hn8 hn hM (k := k + 1) (by omega))
      rw [p_up_s]
      refine Eq.trans ?_ (fillf_next I 86 k (hA (I 88) (fun l => I 86 l + nI 1) (I 85)))
      rw [show hA (I 88) (fun l => I 86 l + nI 1) (I 85) k = nI 0 from by rw [hA, if_neg (fun z => z.1 ((MT_ge hM (by omega) hn8).mp c98))]]
    · refine px_aload_n (kk := 0) rfl rfl rfl ?_
      refine px_getR (r := 85) rfl gS_65 rfl (gR_65_31 _) ?_
      refine px_iload_n (kk := 2) rfl rfl rfl ?_
      refine px_ialde (j := k) (v := I 85 k) rfl gS_85 rfl (by omega) (congrFun (p_up_n _ _ (by decide)) k) ?_
      refine px_aload_n (kk := 0) rfl rfl rfl ?_
      refine px_getR (r := 88) rfl gS_65 rfl (gR_65_37 _) ?_
      refine px_iload_n (kk := 2) rfl rfl rfl ?_
      refine px_ialde (j := k) (v := I 88 k) rfl gS_88 rfl (by omega) (congrFun (p_up_n _ _ (by decide)) k) ?_
      refine px_icmp_ne rfl (fun c107 => ?_) (fun c107 => ?_)
      · refine px_iconst (v := nI 0) rfl k_0 ?_
        refine px_iast (j := k) rfl gS_86 rfl (by omega) ?_
        refine px_iinc2 (v := nI (k + 1)) rfl (n_inc k) rfl (by decide) ?_
        refine px_goto rfl ?_
        refine px_mem (show _ = (va_up I 86 (fun j => if j < (k + 1) then hA (I 88) (fun l => I 86 l + nI 1) (I 85) j else I 86 j)) from ?_) (lX12_ph3 hn8 hn hM (k := k + 1) (by omega))
        rw [p_up_s]
        refine Eq.trans ?_ (fillf_next I 86 k (hA (I 88) (fun l => I 86 l + nI 1) (I 85)))
        rw [show hA (I 88) (fun l => I 86 l + nI 1) (I 85) k = nI 0 from by rw [hA, if_neg (fun z => c107 z.2.symm)]]
      · refine px_aload_n (kk := 0) rfl rfl rfl ?_
        refine px_getR (r := 86) rfl gS_65 rfl (gR_65_32 _) ?_
        refine px_iload_n (kk := 2) rfl rfl rfl ?_
        refine px_ialde (j := k) (v := I 86 k) rfl gS_86 rfl (by omega) (by rw [p_up_s, if_neg (by omega)]) ?_
        refine px_iconst (v := nI 1) rfl k_1 ?_
        refine px_iadd rfl ?_
        refine px_goto rfl ?_
        refine px_iast (j := k) rfl gS_86 rfl (by omega) ?_
        refine px_iinc2 (v := nI (k + 1)) rfl (n_inc k) rfl (by decide) ?_
        refine px_goto rfl ?_
        refine px_mem (show _ = (va_up I 86 (fun j => if j < (k + 1) then hA (I 88) (fun l => I 86 l + nI 1) (I 85) j else I 86 j)) from ?_) (lX12_ph3 hn8 hn hM (k := k + 1) (by omega))
        rw [p_up_s]
        refine Eq.trans ?_ (fillf_next I 86 k (hA (I 88) (fun l => I 86 l + nI 1) (I 85)))
        rw [show hA (I 88) (fun l => I 86 l + nI 1) (I 85) k = I 86 k + nI 1 from by rw [hA, if_pos ⟨fun z => c98 ((MT_ge hM (by omega) hn8).mpr z), (show I 85 k = I 88 k from by first | exact c107 | exact Classical.byContradiction c107).symm⟩]]
termination_by n - k
decreasing_by all_goals (have h := ‹¬ nI n ≤ nI k›; rw [n_le (by omega) (by omega)] at h; omega)
theorem sp_cn_n1 : ∀ k, k ≤ 8 → sp_cn n1 k = 0
  | 0, _ => rfl
  | k + 1, h => by
    simp only [sp_cn]
    rw [sp_cn_n1 k (by omega), if_neg (fun e => by rw [i_lt, nI_toInt (by omega), show (n1 k).toInt = -1 from (show (-1 : Int32).toInt = -1 from by decide +kernel)] at e; omega)]
theorem vX12_plugHour {I : Nat → Nat → Int32} {J : Nat → Nat → Int64} {p : Bool × Option Nat} {ro : List (Nat × Nat × (Nat → Int32))} {n : Nat} (hn8 : n ≤ 8) (hn : I 65 1 = nI n) {s z : Nat} (hs : s < 6) (hz : I 99 s = nI z) (hz60 : z ≤ 60) {pl : Nat} (hpl2 : pl < 1000) (hpl : I 65 34 = nI pl) : Pv 3 0 0 CX12_plugHour [.ref (65), .int (nI s)] (gS, I, J, gR p, ro) (fun r S' => r = none ∧ ∃ I', S' = (gS, I', J, gR p, ro) ∧ Fr [65, 85, 86, 88] I I' ∧ (∀ k, k ≠ 34 → k ≠ 35 → I' 65 k = I 65 k) ∧ (∀ l, l < n → I' 85 l = (sp_tell n (I 65 6) (fun j => (J 100 (60 * s + j)).toInt32) (wiR (I 65 36)) (z - pl) pl (n1, 0, I 65 35)).1.1 l) ∧ MT n (sp_tell n (I 65 6) (fun j => (J 100 (60 * s + j)).toInt32) (wiR (I 65 36)) (z - pl) pl (n1, 0, I 65 35)).1.1 ∧ I' 65 35 = (sp_tell n (I 65 6) (fun j => (J 100 (60 * s + j)).toInt32) (wiR (I 65 36)) (z - pl) pl (n1, 0, I 65 35)).1.2.2 ∧ (∃ q, I' 65 34 = nI q ∧ (q = (sp_tell n (I 65 6) (fun j => (J 100 (60 * s + j)).toInt32) (wiR (I 65 36)) (z - pl) pl (n1, 0, I 65 35)).2 ∨ (z ≤ (sp_tell n (I 65 6) (fun j => (J 100 (60 * s + j)).toInt32) (wiR (I 65 36)) (z - pl) pl (n1, 0, I 65 35)).2 ∧ q = (sp_tell n (I 65 6) (fun j => (J 100 (60 * s + j)).toInt32) (wiR (I 65 36)) (z - pl) pl (n1, 0, I 65 35)).2 + 1))) ∧ ∀ l, l < n → I' 86 l = hA (I 85) (fun j => I 86 j + nI 1) (sp_tell n (I 65 6) (fun j => (J 100 (60 * s + j)).toInt32) (wiR (I 65 36)) (z - pl) pl (n1, 0, I 65 35)).1.1 l) := by
  refine ⟨okCX12_plugHour, Nat.le_of_ble_eq_true rfl, (show Px _ _ _ _ 0 [some (.ref (65)), some (.int (nI s)), none] [] _ _ from ?_)⟩
  refine px_iconst (v := nI 0) rfl k_0 ?_
  refine px_ist2 rfl rfl (by decide) ?_
  refine px_mem (show I = (va_up (va_up I 88 (fun j => if j < 0 then I 85 j else I 88 j)) 85 (fun j => if j < 0 then -1 else I 85 j)) from ?_) (lX12_ph1 hn hn8 (k := 0) (by omega) ?_)
  · rw [← fill_0f I 88 (I 85), ← fill_0f I 85 (fun _ => -1)]
  obtain ⟨I0, h0⟩ : ∃ I0, I0 = (va_up (va_up I 88 (fun j => if j < n then I 85 j else I 88 j)) 85 (fun j => if j < n then -1 else I 85 j)) := ⟨_, rfl⟩
  have f0 : Fr [85, 88] I I0 := by rw [h0]; exact Fr_up (Fr_up Fr_rf (by decide) _) (by decide) _
  have g85 : ∀ l, l < n → I0 85 l = -1 := fun l hl => by rw [h0, p_up_s, if_pos hl]
  have g88 : ∀ l, l < n → I0 88 l = I 85 l := fun l hl => by rw [h0, p_up_n _ _ (by decide), p_up_s, if_pos hl]
  have e65 : I0 65 = I 65 := f0 65 (by decide)
  refine px_mem h0.symm ?_
  refine lX12_ph2 (I := I0) hn8 (by rw [e65]; exact hn) hs (by rw [f0 99 (by decide)]; exact hz) hz60 (pl := pl) hpl2 (t := (n1, 0, I 65 35)) ⟨Fr_rf, fun _ _ _ => rfl, g85, by rw [e65], by rw [e65]; exact hpl, MT_n1, sp_cn_n1 n hn8⟩ (fun I2 b o2 hR hb => ?_)
  rw [e65] at hR hb
  refine px_aload_n (kk := 0) rfl rfl rfl ?_
  refine px_dup rfl rfl ?_
  refine px_getIe (v := nI b) rfl gS_65 rfl hR.2.2.2.2.1 ?_
  refine px_iconst (v := nI 1) rfl k_1 ?_
  refine px_iaddN rfl ?_
  refine px_putI rfl gS_65 rfl rfl ?_
  refine px_iconst (v := nI 0) rfl k_0 ?_
  refine px_ist2 rfl rfl (by decide) ?_
  have hR2 := RH_pl hR (b + 1)
  refine px_mem (fill_0f (va_up I2 65 (va_up (I2 65) 34 (nI (b + 1)))) 86 (hA ((va_up I2 65 (va_up (I2 65) 34 (nI (b + 1)))) 88) (fun l => (va_up I2 65 (va_up (I2 65) 34 (nI (b + 1)))) 86 l + nI 1) ((va_up I2 65 (va_up (I2 65) 34 (nI (b + 1)))) 85))) ?_
  refine pxv_post (lX12_ph3 (I := (va_up I2 65 (va_up (I2 65) 34 (nI (b + 1))))) hn8 ((hR2.2.1 1 (by decide) (by decide)).trans (by rw [e65]; exact hn)) (RH_MT hR2) (k := 0) (by omega)) (fun r S hr => ?_)
  obtain ⟨rfl, rfl⟩ := hr
  refine ⟨rfl, _, rfl, Fr_up (Fr_tr (Fr_mo f0 (by decide)) (Fr_mo hR2.1 (by decide))) (by decide) _, fun k h1 h2 => ?_, fun l hl => ?_, hR2.2.2.2.2.2.1, ?_, ⟨b + 1, ?_, ?_⟩, fun l hl => ?_⟩
  · rw [p_up_n _ _ (by decide), hR2.2.1 k h1 h2, e65]
  · rw [p_up_n _ _ (by decide)]; exact hR2.2.2.1 l hl
  · rw [p_up_n _ _ (by decide)]; exact hR2.2.2.2.1
  · rw [p_up_n _ _ (by decide)]; exact hR2.2.2.2.2.1
  · rcases hb with hb | ⟨hb1, hb2⟩
    · exact .inl hb
    · exact .inr ⟨hb1, by omega⟩
  · rw [p_up_s, if_pos hl]
    unfold hA
    rw [hR2.2.2.1 l hl, hR2.1 88 (by decide), hR2.1 86 (by decide), g88 l hl, f0 86 (by decide)]
