/-! the reference: nieces at the board -/
theorem jm (a b : Nat) : lN a * lN b = lN (a * b) := (Int64.ofNat_mul a b).symm
theorem ja (a b : Nat) : lN a + lN b = lN (a + b) := (Int64.ofNat_add a b).symm
def RNI (n : Nat) (t : DT) (I I1 : Nat → Nat → Int32) : Prop := Fr [82, 83, 85, 87] I I1 ∧ (∀ l, l < n → I1 85 l = t.1 l) ∧ MT n t.1 ∧ sp_cn t.1 n = t.2.1
theorem RNI_MT {n : Nat} {t : DT} {I I1 : Nat → Nat → Int32} (h : RNI n t I I1) : MT n (I1 85) := MT_of h.2.1 h.2.2.1
theorem RNI_tie {n : Nat} {t : DT} {I I1 : Nat → Nat → Int32} (hn : n ≤ 8) (h : RNI n t I I1) {a b : Nat} (ha : a < n) (hb : b < n) (hne : a ≠ b) (h1 : t.1 a = -1) (h2 : t.1 b = -1) : RNI n (va_up (va_up t.1 a (nI b)) b (nI a), t.2.1 + 1, t.2.2) I (va_up I1 85 (va_up (va_up (I1 85) a (nI b)) b (nI a))) :=
  ⟨Fr_up h.1 (by decide) _, fun l hl => by
    show _ = va_up (va_up t.1 a (nI b)) b (nI a) l
    rw [p_up_s]
    by_cases e1 : l = b
    · subst e1; rw [p_up_s, p_up_s]
    · rw [p_up_n _ _ e1, p_up_n _ _ e1]
      by_cases e2 : l = a
      · subst e2; rw [p_up_s, p_up_s]
      · rw [p_up_n _ _ e2, p_up_n _ _ e2]; exact h.2.1 l hl, MT_tie h.2.2.1 ha hb hne h1 h2 hn, by rw [sp_cn_tie hn ha hb hne h1 h2, h.2.2.2]⟩
theorem RNI_untie {n : Nat} {t : DT} {I I1 : Nat → Nat → Int32} {a b : Nat} (h : RNI n (va_up (va_up t.1 a (nI b)) b (nI a), t.2.1 + 1, t.2.2) I I1) (hM : MT n t.1) (hc : sp_cn t.1 n = t.2.1) (h1 : t.1 a = -1) (h2 : t.1 b = -1) : RNI n t I (va_up (va_up I1 85 (va_up (I1 85) a (-1))) 85 (va_up (va_up I1 85 (va_up (I1 85) a (-1)) 85) b (-1))) :=
  ⟨Fr_up (Fr_up h.1 (by decide) _) (by decide) _, fun l hl => by
    rw [p_up_s, p_up_s]
    by_cases h3 : l = b
    · subst h3; rw [p_up_s, h2]
    · rw [p_up_n _ _ h3]
      by_cases h4 : l = a
      · subst h4; rw [p_up_s, h1]
      · have h5 := h.2.1 l hl
        dsimp only at h5
        rw [p_up_n _ _ h4, h5, p_up_n _ _ h3, p_up_n _ _ h4], hM, hc⟩
theorem RNI_tk {n : Nat} {t : DT} {I I1 : Nat → Nat → Int32} (h : RNI n t I I1) (x y : Int32) : (∃ a b, a < n ∧ b < n ∧ a ≠ b ∧ x = nI a ∧ y = nI b ∧ I1 85 a = -1 ∧ I1 85 b = -1 ∧ nI (sp_cn (I1 85) n) < I1 65 6) ↔ TK n (I 65 6) t x y := by
  have ec : sp_cn (I1 85) n = t.2.1 := (sp_cn_congr h.2.1).trans h.2.2.2
  have e6 : I1 65 6 = I 65 6 := congrFun (h.1 65 (by decide)) 6
  constructor
  · rintro ⟨a, b, ha, hb, hne, e1, e2, h1, h2, h3⟩
    exact ⟨a, b, ha, hb, hne, e1, e2, by rw [← h.2.1 a ha]; exact h1, by rw [← h.2.1 b hb]; exact h2, by rw [← ec, ← e6]; exact h3⟩
  · rintro ⟨a, b, ha, hb, hne, e1, e2, h1, h2, h3⟩
    exact ⟨a, b, ha, hb, hne, e1, e2, by rw [h.2.1 a ha]; exact h1, by rw [h.2.1 b hb]; exact h2, by rw [ec, e6]; exact h3⟩
theorem rem_next {b n : Nat} (h : b < n) : (b + 1) % n = if b + 1 < n then b + 1 else 0 := by
  by_cases c : b + 1 < n
  · rw [if_pos c, Nat.mod_eq_of_lt c]
  · rw [if_neg c, show b + 1 = n by omega, Nat.mod_self]
theorem lX12_sumThen {I : Nat → Nat → Int32} {J : Nat → Nat → Int64} {p : Bool × Option Nat} {ro : List (Nat × Nat × (Nat → Int32))} {n : Nat} (hn : I 65 1 = nI n) (hn8 : n ≤ 8) {k : Nat} (hk : k ≤ n) : Px 5 0 0 CX12_sumThen 6 [some (.ref (65)), some (.int ((sp_sum (I 87) k))), some (.int (nI k))] [] (gS, I, J, gR p, ro) (qI (sp_sum (I 87) n) (gS, I, J, gR p, ro)) := by
  refine px_iload_n (kk := 2) rfl rfl rfl ?_
  refine px_aload_n (kk := 0) rfl rfl rfl ?_
  refine px_getIe (v := nI n) rfl gS_65 rfl hn ?_
  refine px_icmp_ge rfl (fun c9 => ?_) (fun c9 => ?_)
  · refine px_iload_n (kk := 1) rfl rfl rfl ?_
    refine px_ireturn rfl (.inl rfl) ?_
    rw [n_le (by omega) (by omega)] at c9
    obtain rfl : k = n := by omega
    exact ⟨rfl, rfl⟩
  · rw [n_le (by omega) (by omega)] at c9
    refine px_iload_n (kk := 1) rfl rfl rfl ?_
    refine px_aload_n (kk := 0) rfl rfl rfl ?_
    refine px_getR (r := 87) rfl gS_65 rfl (gR_65_33 _) ?_
    refine px_iload_n (kk := 2) rfl rfl rfl ?_
    refine px_iald (j := k) rfl gS_87 rfl (by omega) ?_
    refine px_iadd rfl ?_
    refine px_ist1 rfl rfl (by decide) ?_
    refine px_iinc2 (v := nI (k + 1)) rfl (n_inc k) rfl (by decide) ?_
    refine px_goto rfl ?_
    exact lX12_sumThen hn hn8 (k := k + 1) (by omega)
termination_by n - k
decreasing_by all_goals (have h := ‹¬ nI n ≤ nI k›; rw [n_le (by omega) (by omega)] at h; omega)
theorem vX12_sumThen {I : Nat → Nat → Int32} {J : Nat → Nat → Int64} {p : Bool × Option Nat} {ro : List (Nat × Nat × (Nat → Int32))} {tx : List Ln} (hT : LawR tx I) {n : Nat} (hn : I 65 1 = nI n) (hn8 : n ≤ 8) (hL : LK n (I 69)) (h84 : ∀ l, l < n → I 84 l = I 66 l) (h86 : ∀ l, l < n → I 86 l = nI 0) {t : DT} {I1 : Nat → Nat → Int32} (hR : RNI n t I I1) : Pv 5 0 0 CX12_sumThen [.ref (65)] (gS, I1, J, gR p, ro) (fun r S' => r = some (.int (sp_sum ((fun M => sp_nx tx n (I 69) (I 68) (I 65 7) (I 66) M (fun _ => nI 0)) t.1) n)) ∧ ∃ I', S' = (gS, I', J, gR p, ro) ∧ RNI n t I I') := by
  refine ⟨okCX12_sumThen, Nat.le_of_ble_eq_true rfl, (show Px _ _ _ _ 0 [some (.ref (65)), none, none] [] _ _ from ?_)⟩
  refine px_aload_n (kk := 0) rfl rfl rfl ?_
  refine px_callV0 CX12_layThen [] [] (vX12_layThen (I := I1) (tx := tx) (by rw [hR.1 65 (by decide)]; exact hn) hn8 (RNI_MT hR) (LawR_mv hT (by rw [hR.1 65 (by decide)]) (fun c hc => hR.1 c (fun e => by simp only [List.mem_cons, List.not_mem_nil, or_false] at e hc; omega))) (by rw [hR.1 69 (by decide)]; exact hL)) rfl gS_65 (by decide) rfl rfl rfl (Nat.le_of_ble_eq_true rfl) (by decide) ?_
  rintro _ _ - ⟨rfl, I2, rfl, f2, h87⟩
  have hnx : ∀ l, l < n → I2 87 l = (fun M => sp_nx tx n (I 69) (I 68) (I 65 7) (I 66) M (fun _ => nI 0)) t.1 l := fun l hl => by
    rw [h87 l hl, hR.1 69 (by decide), hR.1 68 (by decide), hR.1 65 (by decide)]
    exact sp_nx_congr hn8 hR.2.2.1 (fun j hj => by rw [hR.1 84 (by decide)]; exact h84 j hj) hR.2.1 (fun j hj => by rw [hR.1 86 (by decide)]; exact h86 j hj) hl
  have hn2 : I2 65 1 = nI n := by rw [f2 65 (by decide), hR.1 65 (by decide)]; exact hn
  have hR2 : RNI n t I I2 := ⟨Fr_tr hR.1 (Fr_mo f2 (by decide)), fun l hl => by rw [f2 85 (by decide)]; exact hR.2.1 l hl, hR.2.2.1, hR.2.2.2⟩
  refine px_iconst (v := nI 0) rfl k_0 ?_
  refine px_ist1 rfl rfl (by decide) ?_
  refine px_iconst (v := nI 0) rfl k_0 ?_
  refine px_ist2 rfl rfl (by decide) ?_
  refine pxv_post (lX12_sumThen (I := I2) hn2 hn8 (k := 0) (by omega)) (fun r S hr => ?_)
  obtain ⟨rfl, rfl⟩ := hr
  exact ⟨by rw [sp_sum_congr hnx], I2, rfl, hR2⟩
theorem vX12_goPlugged {I : Nat → Nat → Int32} {J : Nat → Nat → Int64} {p : Bool × Option Nat} {ro : List (Nat × Nat × (Nat → Int32))} {n : Nat} (hn8 : n ≤ 8) {s k D : Nat} {F : DT → Nat} (hGo : ∀ (t : DT) (I1 : Nat → Nat → Int32), RNI n t I I1 → Pv D 0 0 CX12_goNieces [.ref 65, .int (nI s), .int (nI (k + 1))] (gS, I1, J, gR p, ro) (fun r S' => r = some (.long (lN (F t))) ∧ ∃ I', S' = (gS, I', J, gR p, ro) ∧ RNI n t I I')) {t : DT} {I1 : Nat → Nat → Int32} (hR : RNI n t I I1) {a b : Nat} (ha : a < n) (hb : b < n) (h1 : t.1 a = -1) (h3 : nI t.2.1 < (I 65 6)) : Pv (D + 1) 0 0 CX12_goPlugged [.ref (65), .int (nI s), .int (nI k), .int (nI a), .int (nI b)] (gS, I1, J, gR p, ro) (fun r S' => r = some (.long (lN (@ite _ (TK n (I 65 6) t (nI a) (nI b)) (Classical.propDecidable _) (F (sp_ask n (I 65 6) t (nI a) (nI b))) (F t)))) ∧ ∃ I', S' = (gS, I', J, gR p, ro) ∧ RNI n t I I') := by
  refine ⟨okCX12_goPlugged, Nat.le_of_ble_eq_true rfl, (show Px _ _ _ _ 0 [some (.ref (65)), some (.int (nI s)), some (.int (nI k)), some (.int (nI a)), some (.int (nI b)), none, none] [] _ _ from ?_)⟩
  refine px_iload_n (kk := 3) rfl rfl rfl ?_
  refine px_iload rfl rfl ?_
  refine px_icmp_eq rfl (fun c2 => ?_) (fun c2 => ?_)
  · refine px_aload_n (kk := 0) rfl rfl rfl ?_
    refine px_iload_n (kk := 1) rfl rfl rfl ?_
    refine px_iload_n (kk := 2) rfl rfl rfl ?_
    refine px_iconst (v := nI 1) rfl k_1 ?_
    refine px_iaddN rfl ?_
    refine px_callV0 CX12_goNieces [] [.int _, .int _] (hGo t I1 hR) rfl gS_65 (by decide) rfl rfl rfl (Nat.le_of_ble_eq_true rfl) (Nat.le_refl _) ?_
    rintro _ _ - ⟨rfl, I2, rfl, hR2⟩
    refine px_lreturn rfl rfl ?_
    rw [if_neg (fun ⟨a2, b2, z1, z2, z3, z4, z5, z6, z7, z8⟩ => by rw [n_eq (by omega) (by omega)] at z4 z5; subst z4; subst z5; exact z3 ((n_eq (by omega) (by omega)).mp (by first | exact c2 | exact Classical.byContradiction c2)))]
    exact ⟨rfl, I2, rfl, hR2⟩
  · refine px_aload_n (kk := 0) rfl rfl rfl ?_
    refine px_getR (r := 85) rfl gS_65 rfl (gR_65_31 _) ?_
    refine px_iload rfl rfl ?_
    refine px_ialde (j := b) (v := t.1 b) rfl gS_85 rfl (by omega) (hR.2.1 b hb) ?_
    refine px_if_lt rfl (fun c7 => ?_) (fun c7 => ?_)
    · refine px_aload_n (kk := 0) rfl rfl rfl ?_
      refine px_iload_n (kk := 3) rfl rfl rfl ?_
      refine px_iload rfl rfl ?_
      refine px_callV0 CX12_plugs [] [.int _, .int _] (pv_mono (Nat.zero_le _) (vX12_plugs (a := a) (b := b) (by omega) (by omega))) rfl gS_65 (by decide) rfl rfl rfl (Nat.le_of_ble_eq_true rfl) (Nat.le_refl _) ?_
      rintro _ _ - ⟨rfl, rfl⟩
      have h2 : t.1 b = -1 := (MT_ge hR.2.2.1 hb hn8).mp c7
      have hne : a ≠ b := fun e => c2 (by rw [e])
      refine px_aload_n (kk := 0) rfl rfl rfl ?_
      refine px_iload_n (kk := 1) rfl rfl rfl ?_
      refine px_iload_n (kk := 2) rfl rfl rfl ?_
      refine px_iconst (v := nI 1) rfl k_1 ?_
      refine px_iaddN rfl ?_
      refine px_callV0 CX12_goNieces [] [.int _, .int _] (hGo _ _ (RNI_tie hn8 hR ha hb hne h1 h2)) rfl gS_65 (by decide) rfl rfl rfl (Nat.le_of_ble_eq_true rfl) (Nat.le_refl _) ?_
      rintro _ _ - ⟨rfl, I2, rfl, hR2⟩
      refine px_lst5 rfl rfl (by decide) ?_
      refine px_aload_n (kk := 0) rfl rfl rfl ?_
      refine px_getR (r := 85) rfl gS_65 rfl (gR_65_31 _) ?_
      refine px_iload_n (kk := 3) rfl rfl rfl ?_
      refine px_iconst (v := -1) rfl k_m1 ?_
      refine px_iast (j := a) rfl gS_85 rfl (by omega) ?_
      refine px_aload_n (kk := 0) rfl rfl rfl ?_
      refine px_getR (r := 85) rfl gS_65 rfl (gR_65_31 _) ?_
      refine px_iload rfl rfl ?_
      refine px_iconst (v := -1) rfl k_m1 ?_
      refine px_iast (j := b) rfl gS_85 rfl (by omega) ?_
      refine px_lload rfl rfl ?_
      refine px_lreturn rfl rfl ?_
      rw [if_pos (show TK n (I 65 6) t (nI a) (nI b) from ⟨a, b, ha, hb, hne, rfl, rfl, h1, h2, h3⟩), sp_ask_t ha hb hne h1 h2 h3 hn8]
      exact ⟨rfl, _, rfl, RNI_untie hR2 hR.2.2.1 hR.2.2.2 h1 h2⟩
    · refine px_aload_n (kk := 0) rfl rfl rfl ?_
      refine px_iload_n (kk := 1) rfl rfl rfl ?_
      refine px_iload_n (kk := 2) rfl rfl rfl ?_
      refine px_iconst (v := nI 1) rfl k_1 ?_
      refine px_iaddN rfl ?_
      refine px_callV0 CX12_goNieces [] [.int _, .int _] (hGo t I1 hR) rfl gS_65 (by decide) rfl rfl rfl (Nat.le_of_ble_eq_true rfl) (Nat.le_refl _) ?_
      rintro _ _ - ⟨rfl, I2, rfl, hR2⟩
      refine px_lreturn rfl rfl ?_
      rw [if_neg (fun ⟨a2, b2, z1, z2, z3, z4, z5, z6, z7, z8⟩ => by rw [n_eq (by omega) (by omega)] at z4 z5; subst z4; subst z5; exact c7 ((MT_ge hR.2.2.1 hb hn8).mpr z7))]
      exact ⟨rfl, I2, rfl, hR2⟩
theorem lX12_ni {I : Nat → Nat → Int32} {J : Nat → Nat → Int64} {p : Bool × Option Nat} {ro : List (Nat × Nat × (Nat → Int32))} {tx : List Ln} (hT : LawR tx I) {n : Nat} (hn : I 65 1 = nI n) (hn8 : n ≤ 8) (hL : LK n (I 69)) (h84 : ∀ l, l < n → I 84 l = I 66 l) (h86 : ∀ l, l < n → I 86 l = nI 0) {s N sk : Nat} {wa : Int32} (hs : s < 6) (hsk : I 65 45 = nI sk) (hsk12 : sk ≤ 12) (hwa : I 65 46 = wa) (hN : I 65 47 = nI N) (hN6 : N ≤ 6) : ∀ (m k : Nat) (t : DT) (I1 : Nat → Nat → Int32), k + m = N → RNI n t I I1 → Pv (6 + 2 * m) 0 0 CX12_goNieces [.ref 65, .int (nI s), .int (nI k)] (gS, I1, J, gR p, ro) (fun r S' => r = some (.long (lN (sp_ni n (I 65 6) (fun j => (J 100 (60 * s + j)).toInt32) (fun M => sp_nx tx n (I 69) (I 68) (I 65 7) (I 66) M (fun _ => nI 0)) sk wa m k t))) ∧ ∃ I', S' = (gS, I', J, gR p, ro) ∧ RNI n t I I')
  | 0, k, t, I1, hk, hR => by
    have hk : k = N := by omega
    subst hk
    refine ⟨okCX12_goNieces, Nat.le_of_ble_eq_true rfl, (show Px (5 + 1) _ _ _ 0 [some (.ref (65)), some (.int (nI s)), some (.int (nI k)), none, none, none, none] [] _ _ from ?_)⟩
    refine px_iload_n (kk := 2) rfl rfl rfl ?_
    refine px_aload_n (kk := 0) rfl rfl rfl ?_
    refine px_getIe (v := nI k) rfl gS_65 rfl (by rw [hR.1 65 (by decide)]; exact hN) ?_
    refine px_icmp_ne rfl (fun h => absurd rfl h) (fun c3 => ?_)
    refine px_aload_n (kk := 0) rfl rfl rfl ?_
    refine px_callV0 CX12_sumThen [] [] (vX12_sumThen hT hn hn8 hL h84 h86 hR) rfl gS_65 (by decide) rfl rfl rfl (Nat.le_of_ble_eq_true rfl) (by decide) ?_
    rintro _ _ - ⟨rfl, I2, rfl, hR2⟩
    refine px_aload_n (kk := 0) rfl rfl rfl ?_
    refine px_getIe (v := wa) rfl gS_65 rfl (by rw [hR2.1 65 (by decide)]; exact hwa) ?_
    refine px_icmp_lt rfl (fun c8 => ?_) (fun c8 => ?_)
    · refine px_lconst (v := 0) rfl (by decide) ?_
      refine px_lreturn rfl rfl ?_
      dsimp only at c8
      exact ⟨by rw [sp_ni, if_neg (fun z => by rw [i_le] at z; rw [i_lt] at c8; omega), l_0], I2, rfl, hR2⟩
    · refine px_lconst (v := 1) rfl (by decide) ?_
      refine px_goto rfl ?_
      refine px_lreturn rfl rfl ?_
      dsimp only at c8
      exact ⟨by rw [sp_ni, if_pos (by rw [i_le]; rw [i_lt] at c8; omega), l_1], I2, rfl, hR2⟩
  | m + 1, k, t, I1, hk, hR => by
    refine ⟨okCX12_goNieces, Nat.le_of_ble_eq_true rfl, (show Px (6 + 2 * m + 1 + 1) _ _ _ 0 [some (.ref (65)), some (.int (nI s)), some (.int (nI k)), none, none, none, none] [] _ _ from ?_)⟩
    unfold sp_ni
    refine px_iload_n (kk := 2) rfl rfl rfl ?_
    refine px_aload_n (kk := 0) rfl rfl rfl ?_
    refine px_getIe (v := nI N) rfl gS_65 rfl (by rw [hR.1 65 (by decide)]; exact hN) ?_
    refine px_icmp_ne rfl (fun c3 => ?_) (fun h => absurd h (fun e => by rw [n_eq (by omega) (by omega)] at e; omega))
    refine px_aload_n (kk := 0) rfl rfl rfl ?_
    refine px_iload_n (kk := 1) rfl rfl rfl ?_
    refine px_iload_n (kk := 2) rfl rfl rfl ?_
    refine px_callV0 CX12_at [] [.int _, .int _] (pv_mono (Nat.zero_le _) (vX12_at hs (k := k) (by omega))) rfl gS_65 (by decide) rfl rfl rfl (Nat.le_of_ble_eq_true rfl) (Nat.le_refl _) ?_
    rintro _ _ - ⟨rfl, rfl⟩
    refine px_ist3 rfl rfl (by decide) ?_
    refine px_iload_n (kk := 3) rfl rfl rfl ?_
    refine px_if_lt rfl (fun c19 => ?_) (fun c19 => ?_)
    · refine px_ldc2_w (v := 12) rfl (by decide) ?_
      refine px_aload_n (kk := 0) rfl rfl rfl ?_
      refine px_iload_n (kk := 1) rfl rfl rfl ?_
      refine px_iload_n (kk := 2) rfl rfl rfl ?_
      refine px_iconst (v := nI 1) rfl k_1 ?_
      refine px_iaddN rfl ?_
      refine px_callV0 CX12_goNieces [.long _] [.int _, .int _] (pv_mono (e := 6 + 2 * m + 1) (by omega) (lX12_ni hT hn hn8 hL h84 h86 hs hsk hsk12 hwa hN hN6 m (k + 1) t I1 (by omega) hR)) rfl gS_65 (by decide) rfl rfl rfl (Nat.le_of_ble_eq_true rfl) (Nat.le_refl _) ?_
      rintro _ _ - ⟨rfl, I2, rfl, hR2⟩
      refine px_lmul rfl ?_
      refine px_lreturn rfl rfl ?_
      first | (rw [if_neg (TK_neg hn8 (by first | exact c19 | (rw [i_lt]; rw [i_le] at c19; omega)))]; exact ⟨by rw [l_12, jm], I2, rfl, hR2⟩)
    · obtain ⟨v, hvl, hve⟩ := n_ofn c19
      have ed : (J 100 (60 * s + k)).toInt32 / nI 10 = nI (v / 10) := by rw [hve]; exact n_div (by omega) (by omega)
      have em : (J 100 (60 * s + k)).toInt32 - (J 100 (60 * s + k)).toInt32 / nI 10 * nI 10 = nI (v % 10) := by rw [hve]; exact n_rem (by omega) (by omega)
      refine px_l3 (y := nI v) hve ?_
      refine px_aload_n (kk := 0) rfl rfl rfl ?_
      refine px_iload_n (kk := 3) rfl rfl rfl ?_
      refine px_bipush (v := nI 10) rfl b_10 ?_
      refine px_idivN rfl (by decide) (by decide) (by omega) ?_
      refine px_iload_n (kk := 3) rfl rfl rfl ?_
      refine px_bipush (v := nI 10) rfl b_10 ?_
      refine px_iremN rfl (by decide) (by decide) (by omega) ?_
      refine px_callV0 CX12_mayPlug [] [.int _, .int _] (pv_mono (e := 6 + 2 * m + 1) (by omega) (vX12_mayPlug (by rw [hR.1 65 (by decide)]; exact hn) hn8 (RNI_MT hR))) rfl gS_65 (by decide) rfl rfl rfl (Nat.le_of_ble_eq_true rfl) (Nat.le_refl _) ?_
      rintro _ _ - (⟨htk, rfl, rfl⟩ | ⟨htk, rfl, rfl⟩)
      · have htk2 := (RNI_tk hR _ _).mp htk
        have htk3 := htk2
        obtain ⟨a, b, ha, hb, hne, e1, e2, h1, h2, h3⟩ := htk3
        rw [n_eq (by omega) (by omega)] at e1 e2
        subst e1
        subst e2
        have hyes : TK n (I 65 6) t ((J 100 (60 * s + k)).toInt32 / nI 10) ((J 100 (60 * s + k)).toInt32 - (J 100 (60 * s + k)).toInt32 / nI 10 * nI 10) := by rw [em, ed]; exact htk2
        rw [if_pos hyes, em, ed, mN_n (by omega), ← rem_next hb]
        have hrm : (v % 10 + 1) % n < n := Nat.mod_lt _ (by omega)
        refine px_if_ne rfl (fun _ => ?_) (fun h => absurd h (by decide))
        refine px_iload_n (kk := 3) rfl rfl rfl ?_
        refine px_bipush (v := nI 10) rfl b_10 ?_
        refine px_idivN rfl (by decide) (by decide) (by omega) ?_
        refine px_ist4 rfl rfl (by decide) ?_
        refine px_lconst (v := 0) rfl (by decide) ?_
        refine px_lst5 rfl rfl (by decide) ?_
        rcases (by omega : sk = 0 ∨ (0 < sk ∧ sk < 12) ∨ sk = 12) with hz | hz | hz
        · have hsk0 : I 65 45 = nI 0 := by rw [hsk, hz]
          refine px_aload_n (kk := 0) rfl rfl rfl ?_
          refine px_getIe (v := nI 0) rfl gS_65 rfl (by first | (rw [hR.1 65 (by decide)]; exact hsk0) | (rw [hR2.1 65 (by decide)]; exact hsk0)) ?_
          refine px_if_le rfl (fun _ => ?_) (fun h => absurd h (by decide))
          refine px_aload_n (kk := 0) rfl rfl rfl ?_
          refine px_getIe (v := nI 0) rfl gS_65 rfl (by first | (rw [hR.1 65 (by decide)]; exact hsk0) | (rw [hR2.1 65 (by decide)]; exact hsk0)) ?_
          refine px_bipush (v := nI 12) rfl b_12 ?_
          refine px_icmp_ge rfl (fun h => absurd h (by decide)) (fun _ => ?_)
          refine px_lload rfl rfl ?_
          refine px_bipush (v := nI 12) rfl b_12 ?_
          refine px_aload_n (kk := 0) rfl rfl rfl ?_
          refine px_getIe (v := nI 0) rfl gS_65 rfl (by first | (rw [hR.1 65 (by decide)]; exact hsk0) | (rw [hR2.1 65 (by decide)]; exact hsk0)) ?_
          refine px_isubN rfl (by omega) ?_
          refine px_i2l rfl ?_
          refine px_aload_n (kk := 0) rfl rfl rfl ?_
          refine px_iload_n (kk := 1) rfl rfl rfl ?_
          refine px_iload_n (kk := 2) rfl rfl rfl ?_
          refine px_iload rfl rfl ?_
          refine px_iload_n (kk := 3) rfl rfl rfl ?_
          refine px_bipush (v := nI 10) rfl b_10 ?_
          refine px_iremN rfl (by decide) (by decide) (by omega) ?_
          refine px_iconst (v := nI 1) rfl k_1 ?_
          refine px_iaddN rfl ?_
          refine px_aload_n (kk := 0) rfl rfl rfl ?_
          refine px_getIe (v := nI n) rfl gS_65 rfl (by first | (rw [hR2.1 65 (by decide)]; exact hn) | (rw [hR.1 65 (by decide)]; exact hn)) ?_
          refine px_irem rfl (n_nz (by omega) (by omega)) ?_
          refine px_ieq (y := nI ((v % 10 + 1) % n)) (n_rem (by omega) (by omega)) ?_
          refine px_callV0 CX12_goPlugged [.long _, .long _] [.int _, .int _, .int _, .int _] (vX12_goPlugged (F := (fun t => sp_ni n (I 65 6) (fun j => (J 100 (60 * s + j)).toInt32) (fun M => sp_nx tx n (I 69) (I 68) (I 65 7) (I 66) M (fun _ => nI 0)) sk wa m (k + 1) t)) hn8 (fun t I1 hR => lX12_ni hT hn hn8 hL h84 h86 hs hsk hsk12 hwa hN hN6 m (k + 1) t I1 (by omega) hR) hR (a := v / 10) (b := (v % 10 + 1) % n) ha hrm h1 h3) rfl gS_65 (by decide) rfl rfl rfl (Nat.le_of_ble_eq_true rfl) (Nat.le_refl _) ?_
          rintro _ _ - ⟨rfl, I3, rfl, hR3⟩
          refine px_lmul rfl ?_
          refine px_ladd rfl ?_
          refine px_lst5 rfl rfl (by decide) ?_
          refine px_lload rfl rfl ?_
          refine px_lreturn rfl rfl ?_
          subst hz
          refine ⟨?_, I3, rfl, hR3⟩
          rw [l_0, j_nI (show 12 - 0 < 2 ^ 31 by omega), jm, ja, Nat.zero_mul]
        · skip
          refine px_aload_n (kk := 0) rfl rfl rfl ?_
          refine px_getIe (v := nI sk) rfl gS_65 rfl (by rw [hR.1 65 (by decide)]; exact hsk) ?_
          refine px_if_le rfl (fun h => absurd h (fun z => by rw [n_0, n_le (by omega) (by omega)] at z; omega)) (fun c46 => ?_)
          refine px_lload rfl rfl ?_
          refine px_aload_n (kk := 0) rfl rfl rfl ?_
          refine px_getIe (v := nI sk) rfl gS_65 rfl (by rw [hR.1 65 (by decide)]; exact hsk) ?_
          refine px_i2l rfl ?_
          refine px_aload_n (kk := 0) rfl rfl rfl ?_
          refine px_iload_n (kk := 1) rfl rfl rfl ?_
          refine px_iload_n (kk := 2) rfl rfl rfl ?_
          refine px_iload rfl rfl ?_
          refine px_iload_n (kk := 3) rfl rfl rfl ?_
          refine px_bipush (v := nI 10) rfl b_10 ?_
          refine px_iremN rfl (by decide) (by decide) (by omega) ?_
          refine px_callV0 CX12_goPlugged [.long _, .long _] [.int _, .int _, .int _, .int _] (vX12_goPlugged (F := (fun t => sp_ni n (I 65 6) (fun j => (J 100 (60 * s + j)).toInt32) (fun M => sp_nx tx n (I 69) (I 68) (I 65 7) (I 66) M (fun _ => nI 0)) sk wa m (k + 1) t)) hn8 (fun t I1 hR => lX12_ni hT hn hn8 hL h84 h86 hs hsk hsk12 hwa hN hN6 m (k + 1) t I1 (by omega) hR) hR (a := v / 10) (b := v % 10) ha hb h1 h3) rfl gS_65 (by decide) rfl rfl rfl (Nat.le_of_ble_eq_true rfl) (Nat.le_refl _) ?_
          rintro _ _ - ⟨rfl, I2, rfl, hR2⟩
          rw [if_pos htk2]
          refine px_lmul rfl ?_
          refine px_ladd rfl ?_
          refine px_lst5 rfl rfl (by decide) ?_
          refine px_aload_n (kk := 0) rfl rfl rfl ?_
          refine px_getIe (v := nI sk) rfl gS_65 rfl (by first | (rw [hR2.1 65 (by decide)]; exact hsk) | (rw [hR.1 65 (by decide)]; exact hsk)) ?_
          refine px_bipush (v := nI 12) rfl b_12 ?_
          refine px_icmp_ge rfl (fun h => absurd h (fun z => by rw [n_le (by omega) (by omega)] at z; omega)) (fun c65 => ?_)
          refine px_lload rfl rfl ?_
          refine px_bipush (v := nI 12) rfl b_12 ?_
          refine px_aload_n (kk := 0) rfl rfl rfl ?_
          refine px_getIe (v := nI sk) rfl gS_65 rfl (by first | (rw [hR2.1 65 (by decide)]; exact hsk) | (rw [hR.1 65 (by decide)]; exact hsk)) ?_
          refine px_isubN rfl (by omega) ?_
          refine px_i2l rfl ?_
          refine px_aload_n (kk := 0) rfl rfl rfl ?_
          refine px_iload_n (kk := 1) rfl rfl rfl ?_
          refine px_iload_n (kk := 2) rfl rfl rfl ?_
          refine px_iload rfl rfl ?_
          refine px_iload_n (kk := 3) rfl rfl rfl ?_
          refine px_bipush (v := nI 10) rfl b_10 ?_
          refine px_iremN rfl (by decide) (by decide) (by omega) ?_
          refine px_iconst (v := nI 1) rfl k_1 ?_
          refine px_iaddN rfl ?_
          refine px_aload_n (kk := 0) rfl rfl rfl ?_
          refine px_getIe (v := nI n) rfl gS_65 rfl (by first | (rw [hR2.1 65 (by decide)]; exact hn) | (rw [hR.1 65 (by decide)]; exact hn)) ?_
          refine px_irem rfl (n_nz (by omega) (by omega)) ?_
          refine px_ieq (y := nI ((v % 10 + 1) % n)) (n_rem (by omega) (by omega)) ?_
          refine px_callV0 CX12_goPlugged [.long _, .long _] [.int _, .int _, .int _, .int _] (vX12_goPlugged (F := (fun t => sp_ni n (I 65 6) (fun j => (J 100 (60 * s + j)).toInt32) (fun M => sp_nx tx n (I 69) (I 68) (I 65 7) (I 66) M (fun _ => nI 0)) sk wa m (k + 1) t)) hn8 (fun t I1 hR => lX12_ni hT hn hn8 hL h84 h86 hs hsk hsk12 hwa hN hN6 m (k + 1) t I1 (by omega) hR) hR2 (a := v / 10) (b := (v % 10 + 1) % n) ha hrm h1 h3) rfl gS_65 (by decide) rfl rfl rfl (Nat.le_of_ble_eq_true rfl) (Nat.le_refl _) ?_
          rintro _ _ - ⟨rfl, I3, rfl, hR3⟩
          refine px_lmul rfl ?_
          refine px_ladd rfl ?_
          refine px_lst5 rfl rfl (by decide) ?_
          refine px_lload rfl rfl ?_
          refine px_lreturn rfl rfl ?_
          refine ⟨?_, I3, rfl, hR3⟩
          rw [l_0, j_nI (show sk < 2 ^ 31 by omega), jm, ja, j_nI (show 12 - sk < 2 ^ 31 by omega), jm, ja, Nat.zero_add]
        · have hsk0 : I 65 45 = nI 12 := by rw [hsk, hz]
          refine px_aload_n (kk := 0) rfl rfl rfl ?_
          refine px_getIe (v := nI 12) rfl gS_65 rfl (by first | (rw [hR2.1 65 (by decide)]; exact hsk0) | (rw [hR.1 65 (by decide)]; exact hsk0)) ?_
          refine px_if_le rfl (fun h => absurd h (by decide)) (fun _ => ?_)
          refine px_lload rfl rfl ?_
          refine px_aload_n (kk := 0) rfl rfl rfl ?_
          refine px_getIe (v := nI 12) rfl gS_65 rfl (by first | (rw [hR2.1 65 (by decide)]; exact hsk0) | (rw [hR.1 65 (by decide)]; exact hsk0)) ?_
          refine px_i2l rfl ?_
          refine px_aload_n (kk := 0) rfl rfl rfl ?_
          refine px_iload_n (kk := 1) rfl rfl rfl ?_
          refine px_iload_n (kk := 2) rfl rfl rfl ?_
          refine px_iload rfl rfl ?_
          refine px_iload_n (kk := 3) rfl rfl rfl ?_
          refine px_bipush (v := nI 10) rfl b_10 ?_
          refine px_iremN rfl (by decide) (by decide) (by omega) ?_
          refine px_callV0 CX12_goPlugged [.long _, .long _] [.int _, .int _, .int _, .int _] (vX12_goPlugged (F := (fun t => sp_ni n (I 65 6) (fun j => (J 100 (60 * s + j)).toInt32) (fun M => sp_nx tx n (I 69) (I 68) (I 65 7) (I 66) M (fun _ => nI 0)) sk wa m (k + 1) t)) hn8 (fun t I1 hR => lX12_ni hT hn hn8 hL h84 h86 hs hsk hsk12 hwa hN hN6 m (k + 1) t I1 (by omega) hR) hR (a := v / 10) (b := v % 10) ha hb h1 h3) rfl gS_65 (by decide) rfl rfl rfl (Nat.le_of_ble_eq_true rfl) (Nat.le_refl _) ?_
          rintro _ _ - ⟨rfl, I2, rfl, hR2⟩
          rw [if_pos htk2]
          refine px_lmul rfl ?_
          refine px_ladd rfl ?_
          refine px_lst5 rfl rfl (by decide) ?_
          refine px_aload_n (kk := 0) rfl rfl rfl ?_
          refine px_getIe (v := nI 12) rfl gS_65 rfl (by first | (rw [hR2.1 65 (by decide)]; exact hsk0) | (rw [hR.1 65 (by decide)]; exact hsk0)) ?_
          refine px_bipush (v := nI 12) rfl b_12 ?_
          refine px_icmp_ge rfl (fun _ => ?_) (fun h => absurd h (by decide))
          refine px_lload rfl rfl ?_
          refine px_lreturn rfl rfl ?_
          subst hz
          refine ⟨?_, I2, rfl, hR2⟩
          rw [l_0, j_nI (show 12 < 2 ^ 31 by omega), jm, ja, Nat.sub_self, Nat.zero_mul, Nat.zero_add]
          rfl
      · have hno : ¬ TK n (I 65 6) t ((J 100 (60 * s + k)).toInt32 / nI 10) ((J 100 (60 * s + k)).toInt32 - (J 100 (60 * s + k)).toInt32 / nI 10 * nI 10) := by rw [em, ed]; exact fun z => htk ((RNI_tk hR _ _).mpr z)
        rw [if_neg hno]
        refine px_if_ne rfl (fun h => absurd h (by decide)) (fun _ => ?_)
        refine px_ldc2_w (v := 12) rfl (by decide) ?_
        refine px_aload_n (kk := 0) rfl rfl rfl ?_
        refine px_iload_n (kk := 1) rfl rfl rfl ?_
        refine px_iload_n (kk := 2) rfl rfl rfl ?_
        refine px_iconst (v := nI 1) rfl k_1 ?_
        refine px_iaddN rfl ?_
        refine px_callV0 CX12_goNieces [.long _] [.int _, .int _] (pv_mono (e := 6 + 2 * m + 1) (by omega) (lX12_ni hT hn hn8 hL h84 h86 hs hsk hsk12 hwa hN hN6 m (k + 1) t I1 (by omega) hR)) rfl gS_65 (by decide) rfl rfl rfl (Nat.le_of_ble_eq_true rfl) (Nat.le_refl _) ?_
        rintro _ _ - ⟨rfl, I2, rfl, hR2⟩
        refine px_lmul rfl ?_
        refine px_lreturn rfl rfl ?_
        exact ⟨by rw [l_12, jm], I2, rfl, hR2⟩
theorem lX12_low {I : Nat → Nat → Int32} {J : Nat → Nat → Int64} {p : Bool × Option Nat} {ro : List (Nat × Nat × (Nat → Int32))} {ab be : Nat} (hab : ab < 2 ^ 31) (hbe : 0 < be) (hbe2 : be < 2 ^ 31) {part : Int32} {x y : Nat} (hx : x < 2 ^ 31) (hy : y < 2 ^ 31) (hg : Nat.gcd x y = Nat.gcd be ab) {o9 : Option Value} : Px 0 0 0 CX12_lowest 4 [some (.long (lN ab)), none, some (.long (lN be)), none, some (.int (part)), some (.long (lN x)), none, some (.long (lN y)), none, o9, none] [] (gS, I, J, gR p, ro) (qJ (if part = 0 then lN (ab / Nat.gcd be ab) else lN (be / Nat.gcd be ab)) (gS, I, J, gR p, ro)) := by
  refine px_lload rfl rfl ?_
  refine px_lconst (v := 0) rfl (by decide) ?_
  refine px_lcmp rfl ?_
  refine px_if_eq rfl (fun c7 => ?_) (fun c7 => ?_)
  · have hy0 : y = 0 := by rw [lg_cmp_eq, l_0, pk_lEQ (by omega) (by decide)] at c7; exact c7
    subst hy0
    rw [Nat.gcd_zero_right] at hg
    subst hg
    have hg0 : 0 < Nat.gcd be ab := Nat.gcd_pos_of_pos_left _ hbe
    have hgl : Nat.gcd be ab ≤ be := Nat.gcd_le_left _ hbe
    refine px_iload rfl rfl ?_
    refine px_if_ne rfl (fun c18 => ?_) (fun c18 => ?_)
    · refine px_lload_n (kk := 2) rfl rfl rfl ?_
      refine px_lload rfl rfl ?_
      refine px_ldiv rfl (fun e => by rw [l_0, pk_lEQ (by omega) (by decide)] at e; omega) ?_
      refine px_lreturn rfl rfl ?_
      exact ⟨by rw [if_neg c18, pk_lDiv (by omega) (by omega) (by omega)], rfl⟩
    · refine px_lload_n (kk := 0) rfl rfl rfl ?_
      refine px_lload rfl rfl ?_
      refine px_ldiv rfl (fun e => by rw [l_0, pk_lEQ (by omega) (by decide)] at e; omega) ?_
      refine px_goto rfl ?_
      refine px_lreturn rfl rfl ?_
      exact ⟨by rw [if_pos (by first | exact c18 | exact Classical.byContradiction c18), pk_lDiv (by omega) (by omega) (by omega)], rfl⟩
  · have hy0 : y ≠ 0 := fun e => c7 (by rw [e, ← l_0, lg_cmp_eq])
    refine px_lload rfl rfl ?_
    refine px_lload rfl rfl ?_
    refine px_lrem rfl (fun e => hy0 (by rw [l_0, pk_lEQ (by omega) (by decide)] at e; exact e)) ?_
    refine px_jeq (y := lN (x % y)) (pk_lRem (by omega) (by omega) (by omega)) ?_
    refine px_lst9 rfl rfl (by decide) ?_
    refine px_lload rfl rfl ?_
    refine px_lst5 rfl rfl (by decide) ?_
    refine px_lload rfl rfl ?_
    refine px_lst7 rfl rfl (by decide) ?_
    refine px_goto rfl ?_
    exact lX12_low hab hbe hbe2 (x := y) (y := x % y) hy (Nat.lt_trans (Nat.mod_lt _ (by omega)) hy) (by rw [← hg, Nat.gcd_comm y (x % y), ← Nat.gcd_rec, Nat.gcd_comm])
termination_by y
decreasing_by all_goals exact Nat.mod_lt _ (by have : y ≠ 0 := fun e => c7 (by rw [e, ← l_0, lg_cmp_eq]); omega)
theorem vX12_lowest {I : Nat → Nat → Int32} {J : Nat → Nat → Int64} {p : Bool × Option Nat} {ro : List (Nat × Nat × (Nat → Int32))} {ab be : Nat} (hab : ab < 2 ^ 31) (hbe : 0 < be) (hbe2 : be < 2 ^ 31) {part : Int32} : Pv 0 0 0 CX12_lowest [.long (lN ab), .long (lN be), .int (part)] (gS, I, J, gR p, ro) (qJ (if part = 0 then lN (ab / Nat.gcd be ab) else lN (be / Nat.gcd be ab)) (gS, I, J, gR p, ro)) := by
  refine ⟨okCX12_lowest, Nat.le_of_ble_eq_true rfl, (show Px _ _ _ _ 0 [some (.long (lN ab)), none, some (.long (lN be)), none, some (.int (part)), none, none, none, none, none, none] [] _ _ from ?_)⟩
  refine px_lload_n (kk := 0) rfl rfl rfl ?_
  refine px_lst5 rfl rfl (by decide) ?_
  refine px_lload_n (kk := 2) rfl rfl rfl ?_
  refine px_lst7 rfl rfl (by decide) ?_
  exact lX12_low hab hbe hbe2 (x := ab) (y := be) hab hbe2 (Nat.gcd_comm ab be)
def PRL (Q : Int64 → Prop) (I : Nat → Nat → Int32) (J : Nat → Nat → Int64) (p : Bool × Option Nat) (ro : List (Nat × Nat × (Nat → Int32))) : Option Value → pm_M → Prop := fun r S' => ∃ v, r = some (.long v) ∧ Q v ∧ ∃ I', S' = (gS, I', J, gR p, ro) ∧ Fr crt I I' ∧ K65 I I'
theorem PRL_id {Q : Int64 → Prop} {I : Nat → Nat → Int32} {J : Nat → Nat → Int64} {p : Bool × Option Nat} {ro : List (Nat × Nat × (Nat → Int32))} {v : Int64} (h : Q v) : PRL Q I J p ro (some (.long v)) (gS, I, J, gR p, ro) := ⟨v, rfl, h, I, rfl, Fr_rf, fun _ _ => rfl⟩
theorem lX12_np {I : Nat → Nat → Int32} {J : Nat → Nat → Int64} {p : Bool × Option Nat} {ro : List (Nat × Nat × (Nat → Int32))} {s z : Nat} (hs : s < 6) (hz : I 99 s = nI z) (hz60 : z ≤ 60) {y w u : Int32} {k : Nat} (hk : k ≤ 6) {Q : Option Value → pm_M → Prop} (kont : ∀ k0, k0 = (sp_nn (fun j => (J 100 (60 * s + j)).toInt32) z (6 - k) k) → k0 ≤ 6 → Px 19 0 0 CX12_nieces 61 [some (.ref 65), some (.int (nI s)), some (.int y), some (.int w), some (.int u), some (.long (lN (12 ^ k0))), none] [] (gS, (va_up I 65 (va_up (I 65) 47 (nI k0))), J, gR p, ro) Q) : Px 19 0 0 CX12_nieces 32 [some (.ref (65)), some (.int (nI s)), some (.int (y)), some (.int (w)), some (.int (u)), some (.long (lN (12 ^ k))), none] [] (gS, (va_up I 65 (va_up (I 65) 47 (nI k))), J, gR p, ro) (Q) := by
  refine px_aload_n (kk := 0) rfl rfl rfl ?_
  refine px_getIe (v := nI k) rfl gS_65 rfl (by rw [p_up_s, p_up_s]) ?_
  refine px_bipush (v := nI 6) rfl b_6 ?_
  refine px_icmp_ge rfl (fun c35 => ?_) (fun c35 => ?_)
  · rw [n_le (by omega) (by omega)] at c35
    obtain rfl : k = 6 := by omega
    exact kont 6 rfl (by omega)
  · rw [n_le (by omega) (by omega)] at c35
    refine px_aload_n (kk := 0) rfl rfl rfl ?_
    refine px_getIe (v := nI k) rfl gS_65 rfl (by rw [p_up_s, p_up_s]) ?_
    refine px_aload_n (kk := 0) rfl rfl rfl ?_
    refine px_getR (r := 99) rfl gS_65 rfl (gR_65_60 _) ?_
    refine px_iload_n (kk := 1) rfl rfl rfl ?_
    refine px_ialde (j := s) (v := nI z) rfl gS_99 rfl hs ((congrFun (p_up_n _ _ (by decide)) s).trans hz) ?_
    refine px_icmp_ge rfl (fun c42 => ?_) (fun c42 => ?_)
    · rw [n_le (by omega) (by omega)] at c42
      have hu : (sp_nn (fun j => (J 100 (60 * s + j)).toInt32) z (6 - k) k) = k := by
        conv => lhs; rw [show 6 - k = (6 - (k + 1)) + 1 by omega]; unfold sp_nn
        rw [if_neg (fun h => by omega)]
      exact kont k hu.symm (by omega)
    · rw [n_le (by omega) (by omega)] at c42
      refine px_aload_n (kk := 0) rfl rfl rfl ?_
      refine px_iload_n (kk := 1) rfl rfl rfl ?_
      refine px_aload_n (kk := 0) rfl rfl rfl ?_
      refine px_getIe (v := nI k) rfl gS_65 rfl (by rw [p_up_s, p_up_s]) ?_
      refine px_callV0 CX12_at [] [.int _, .int _] (vX12_at hs (k := k) (by omega)) rfl gS_65 (by decide) rfl rfl rfl (Nat.le_of_ble_eq_true rfl) (by decide) ?_
      rintro _ _ - ⟨rfl, rfl⟩
      refine px_iconst (v := -1) rfl k_m1 ?_
      refine px_icmp_eq rfl (fun c49 => ?_) (fun c49 => ?_)
      · have hu : (sp_nn (fun j => (J 100 (60 * s + j)).toInt32) z (6 - k) k) = k := by
          conv => lhs; rw [show 6 - k = (6 - (k + 1)) + 1 by omega]; unfold sp_nn
          rw [if_neg (fun h => h.2 (by first | exact c49 | exact Classical.byContradiction c49))]
        exact kont k hu.symm (by omega)
      · refine px_aload_n (kk := 0) rfl rfl rfl ?_
        refine px_dup rfl rfl ?_
        refine px_getIe (v := nI k) rfl gS_65 rfl (by rw [p_up_s, p_up_s]) ?_
        refine px_iconst (v := nI 1) rfl k_1 ?_
        refine px_iaddN rfl ?_
        refine px_putI rfl gS_65 rfl rfl ?_
        refine px_lload rfl rfl ?_
        refine px_ldc2_w (v := 12) rfl (by decide) ?_
        refine px_lmul rfl ?_
        refine px_jeq (y := lN (12 ^ (k + 1))) (by rw [l_12, jm, Nat.pow_succ]) ?_
        refine px_lst5 rfl rfl (by decide) ?_
        refine px_goto rfl ?_
        have hu : (sp_nn (fun j => (J 100 (60 * s + j)).toInt32) z (6 - k) k) = (sp_nn (fun j => (J 100 (60 * s + j)).toInt32) z (6 - (k + 1)) (k + 1)) := by
          conv => lhs; rw [show 6 - k = (6 - (k + 1)) + 1 by omega]; unfold sp_nn
          rw [if_pos ⟨by omega, c49⟩]
        refine px_mem (show _ = (va_up I 65 (va_up (I 65) 47 (nI (k + 1)))) from by rw [p_up_s, up2, up_up]) ?_
        exact lX12_np hs hz hz60 (k := k + 1) (by omega) (fun k0 h0 => kont k0 (h0.trans hu.symm))
termination_by 6 - k
decreasing_by all_goals (have h := ‹¬ nI 6 ≤ nI k›; rw [n_le (by omega) (by omega)] at h; omega)
theorem vX12_nieces {I : Nat → Nat → Int32} {J : Nat → Nat → Int64} {p : Bool × Option Nat} {ro : List (Nat × Nat × (Nat → Int32))} {tx : List Ln} (hT : LawR tx I) {n : Nat} (hn : I 65 1 = nI n) (hn8 : n ≤ 8) (hL : LK n (I 69)) (hSZ : ∀ s, s < 6 → ∃ z, z ≤ 60 ∧ I 99 s = nI z) {x y w u : Int32} : Pv 19 0 0 CX12_nieces [.ref (65), .int (x), .int (y), .int (w), .int (u)] (gS, I, J, gR p, ro) (PRL (ASKJ (-9223372036854775808) (((∃ k, k ≤ 12 ∧ y = nI k) ∧ (u = nI 0 ∨ u = nI 1)) ∧ ∃ s, s < 6 ∧ x = nI s ∧ ¬ (I 98 s = -1) ∧ I 98 s = -2) (if u = nI 0 then lN ((sp_ni n (I 65 6) (fun j => (J 100 (60 * (mN x) + j)).toInt32) (fun M => sp_nx tx n (I 69) (I 68) (I 65 7) (I 66) M (fun _ => nI 0)) (mN y) w (sp_nn (fun j => (J 100 (60 * (mN x) + j)).toInt32) (mN (I 99 (mN x))) 6 0) 0 (n1, 0, nI 0)) / Nat.gcd (12 ^ (sp_nn (fun j => (J 100 (60 * (mN x) + j)).toInt32) (mN (I 99 (mN x))) 6 0)) (sp_ni n (I 65 6) (fun j => (J 100 (60 * (mN x) + j)).toInt32) (fun M => sp_nx tx n (I 69) (I 68) (I 65 7) (I 66) M (fun _ => nI 0)) (mN y) w (sp_nn (fun j => (J 100 (60 * (mN x) + j)).toInt32) (mN (I 99 (mN x))) 6 0) 0 (n1, 0, nI 0))) else lN ((12 ^ (sp_nn (fun j => (J 100 (60 * (mN x) + j)).toInt32) (mN (I 99 (mN x))) 6 0)) / Nat.gcd (12 ^ (sp_nn (fun j => (J 100 (60 * (mN x) + j)).toInt32) (mN (I 99 (mN x))) 6 0)) (sp_ni n (I 65 6) (fun j => (J 100 (60 * (mN x) + j)).toInt32) (fun M => sp_nx tx n (I 69) (I 68) (I 65 7) (I 66) M (fun _ => nI 0)) (mN y) w (sp_nn (fun j => (J 100 (60 * (mN x) + j)).toInt32) (mN (I 99 (mN x))) 6 0) 0 (n1, 0, nI 0))))) I J p ro) := by
  refine ⟨okCX12_nieces, Nat.le_of_ble_eq_true rfl, (show Px _ _ _ _ 0 [some (.ref (65)), some (.int (x)), some (.int (y)), some (.int (w)), some (.int (u)), none, none] [] _ _ from ?_)⟩
  refine px_iload_n (kk := 1) rfl rfl rfl ?_
  refine px_callS0 CX12_isShelf [] [.int _] (vX12_isShelf) rfl rfl rfl (Nat.le_of_ble_eq_true rfl) (by decide) ?_
  rintro _ _ - (⟨⟨s, hs, rfl⟩, rfl, rfl⟩ | ⟨hs, rfl, rfl⟩)
  · refine px_if_eq rfl (fun h => absurd h (by decide)) (fun _ => ?_)
    refine px_iload_n (kk := 2) rfl rfl rfl ?_
    refine px_iconst (v := nI 0) rfl k_0 ?_
    refine px_bipush (v := nI 12) rfl b_12 ?_
    refine px_callS0 CX12_in [] [.int _, .int _, .int _] (vX12_in) rfl rfl rfl (Nat.le_of_ble_eq_true rfl) (by decide) ?_
    rintro _ _ - (⟨h12, rfl, rfl⟩ | ⟨h12, rfl, rfl⟩)
    · obtain ⟨q, -, hq12, rfl⟩ := (in_nn (by decide) (by decide)).mp h12
      refine px_if_eq rfl (fun h => absurd h (by decide)) (fun _ => ?_)
      refine px_iload rfl rfl ?_
      refine px_iconst (v := nI 0) rfl k_0 ?_
      refine px_iconst (v := nI 1) rfl k_1 ?_
      refine px_callS0 CX12_in [] [.int _, .int _, .int _] (vX12_in) rfl rfl rfl (Nat.le_of_ble_eq_true rfl) (by decide) ?_
      rintro _ _ - (⟨h01, rfl, rfl⟩ | ⟨h01, rfl, rfl⟩)
      · have hei : u = nI 0 ∨ u = nI 1 := by
          obtain ⟨e, _, he, rfl⟩ := (in_nn (by decide) (by decide)).mp h01
          rcases (by omega : e = 0 ∨ e = 1) with rfl | rfl
          · exact .inl rfl
          · exact .inr rfl
        refine px_if_eq rfl (fun h => absurd h (by decide)) (fun _ => ?_)
        skip
        refine px_aload_n (kk := 0) rfl rfl rfl ?_
        refine px_iload_n (kk := 1) rfl rfl rfl ?_
        refine px_callV0 CX12_rowFault [] [.int _] (vX12_rowFault hs) rfl gS_65 (by decide) rfl rfl rfl (Nat.le_of_ble_eq_true rfl) (by decide) ?_
        rintro _ _ - ⟨rfl, (⟨h98, rfl⟩ | ⟨h98, h2, rfl⟩ | ⟨h98, h2, rfl⟩)⟩
        · refine px_if_ge rfl (fun h => absurd h (by decide)) (fun _ => ?_)
          refine px_ldc2_w (v := -9223372036854775808) rfl (by decide) ?_
          refine px_lreturn rfl rfl ?_
          first | exact PRL_id (.inl ⟨fun ⟨_, s2, hs2, e, g1, g2⟩ => by rw [n_eq (by omega) (by omega)] at e; subst e; first | exact g1 h98 | exact h2 g2, rfl⟩) | exact PRL_id (.inl ⟨fun ⟨⟨_, h⟩, _⟩ => hei h, rfl⟩) | exact PRL_id (.inl ⟨fun ⟨⟨⟨k, hk, e⟩, _⟩, _⟩ => h12 ((in_nn (by decide) (by decide)).mpr ⟨k, Nat.zero_le _, hk, e⟩), rfl⟩) | exact PRL_id (.inl ⟨fun ⟨_, s2, hs2, e, _⟩ => hs ⟨s2, hs2, e⟩, rfl⟩)
        · obtain ⟨z, hz60, hz⟩ := hSZ s hs
          refine px_if_ge rfl (fun _ => ?_) (fun h => absurd h (by decide))
          refine px_aload_n (kk := 0) rfl rfl rfl ?_
          refine px_callV0 CX12_beginDay [] [] (vX12_beginDay hn hn8) rfl gS_65 (by decide) rfl rfl rfl (Nat.le_of_ble_eq_true rfl) (by decide) ?_
          rintro _ _ - ⟨rfl, I2, rfl, f2, k2, b34, b35, b36, b84, b85, b86⟩
          refine px_aload_n (kk := 0) rfl rfl rfl ?_
          refine px_iload_n (kk := 2) rfl rfl rfl ?_
          refine px_putI rfl gS_65 rfl rfl ?_
          refine px_aload_n (kk := 0) rfl rfl rfl ?_
          refine px_iload_n (kk := 3) rfl rfl rfl ?_
          refine px_putI rfl gS_65 rfl rfl ?_
          refine px_aload_n (kk := 0) rfl rfl rfl ?_
          refine px_iconst (v := nI 0) rfl k_0 ?_
          refine px_putI rfl gS_65 rfl rfl ?_
          refine px_lconst (v := 1) rfl (by decide) ?_
          refine px_jeq (y := lN (12 ^ 0)) l_1 ?_
          refine px_lst5 rfl rfl (by decide) ?_
          obtain ⟨I3, h3⟩ : ∃ I3, I3 = (va_up (va_up I2 65 (va_up (I2 65) 45 (nI q))) 65 (va_up (va_up I2 65 (va_up (I2 65) 45 (nI q)) 65) 46 w)) := ⟨_, rfl⟩
          have f3 : Fr [65, 84, 85, 86] I I3 := by rw [h3]; exact Fr_up (Fr_up f2 (by decide) _) (by decide) _
          have k3 : ∀ k, k ≠ 34 → k ≠ 35 → k ≠ 36 → k ≠ 45 → k ≠ 46 → I3 65 k = I 65 k := fun k a1 a2 a3 a4 a5 => by rw [h3, p_up_s, p_up_n _ _ a5, p_up_s, p_up_n _ _ a4]; exact k2 k a1 a2 a3
          have e45 : I3 65 45 = nI q := by rw [h3, p_up_s, p_up_n _ _ (by decide), p_up_s, p_up_s]
          have e46 : I3 65 46 = w := by rw [h3, p_up_s, p_up_s]
          have o84 : I3 84 = I2 84 := by rw [h3, p_up_n _ _ (by decide), p_up_n _ _ (by decide)]
          have o85 : I3 85 = I2 85 := by rw [h3, p_up_n _ _ (by decide), p_up_n _ _ (by decide)]
          have o86 : I3 86 = I2 86 := by rw [h3, p_up_n _ _ (by decide), p_up_n _ _ (by decide)]
          refine px_mem (show _ = (va_up I3 65 (va_up (I3 65) 47 (nI 0))) from by rw [h3]) ?_
          refine lX12_np (I := I3) hs (z := z) (by rw [f3 99 (by decide)]; exact hz) hz60 (k := 0) (by omega) (fun N hN hN6 => ?_)
          obtain ⟨I4, h4⟩ : ∃ I4, I4 = (va_up I3 65 (va_up (I3 65) 47 (nI N))) := ⟨_, rfl⟩
          have f4 : Fr [65, 84, 85, 86] I I4 := by rw [h4]; exact Fr_up f3 (by decide) _
          have k4 : ∀ k, k ≠ 34 → k ≠ 35 → k ≠ 36 → k ≠ 45 → k ≠ 46 → k ≠ 47 → I4 65 k = I 65 k := fun k a1 a2 a3 a4 a5 a6 => by rw [h4, p_up_s, p_up_n _ _ a6]; exact k3 k a1 a2 a3 a4 a5
          have e47 : I4 65 47 = nI N := by rw [h4, p_up_s, p_up_s]
          have e45' : I4 65 45 = nI q := by rw [h4, p_up_s, p_up_n _ _ (by decide)]; exact e45
          have e46' : I4 65 46 = w := by rw [h4, p_up_s, p_up_n _ _ (by decide)]; exact e46
          have w84 : ∀ l, l < n → I4 84 l = I4 66 l := fun l hl => by rw [f4 66 (by decide), h4, p_up_n _ _ (by decide), o84]; exact b84 l hl
          have w85 : ∀ l, l < n → I4 85 l = n1 l := fun l hl => by rw [h4, p_up_n _ _ (by decide), o85]; exact b85 l hl
          have w86 : ∀ l, l < n → I4 86 l = nI 0 := fun l hl => by rw [h4, p_up_n _ _ (by decide), o86]; exact b86 l hl
          have kk : ∀ k, k < 34 → I4 65 k = I 65 k := fun k hk => k4 k (by omega) (by omega) (by omega) (by omega) (by omega) (by omega)
          refine px_mem h4.symm ?_
          refine px_aload_n (kk := 0) rfl rfl rfl ?_
          refine px_iload_n (kk := 1) rfl rfl rfl ?_
          refine px_iconst (v := nI 0) rfl k_0 ?_
          refine px_callV0 CX12_goNieces [] [.int _, .int _] (lX12_ni (I := I4) (tx := tx) (LawR_mv hT (kk 29 (by decide)) (fun c hc => f4 c (fun e => by simp only [List.mem_cons, List.not_mem_nil, or_false] at e hc; omega))) ((kk 1 (by decide)).trans hn) hn8 (by rw [f4 69 (by decide)]; exact hL) w84 w86 hs e45' hq12 e46' e47 hN6 N 0 (n1, 0, nI 0) I4 (by omega) ⟨Fr_rf, w85, MT_n1, sp_cn_n1 n hn8⟩) rfl gS_65 (by decide) rfl rfl rfl (Nat.le_of_ble_eq_true rfl) (by omega) ?_
          rintro _ _ - ⟨rfl, I5, rfl, hR5⟩
          rw [f4 69 (by decide), f4 68 (by decide), f4 66 (by decide), kk 6 (by decide), kk 7 (by decide)]
          have hab := sp_ni_le (n := n) (co := I 65 6) (E := (fun j => (J 100 (60 * s + j)).toInt32)) (nx := (fun M => sp_nx tx n (I 69) (I 68) (I 65 7) (I 66) M (fun _ => nI 0))) (wa := w) hq12 N 0 (n1, 0, nI 0)
          have hp : 12 ^ N ≤ 12 ^ 6 := Nat.pow_le_pow_right (by decide) hN6
          have hp0 : 0 < 12 ^ N := Nat.pow_pos (by decide)
          refine px_lload rfl rfl ?_
          refine px_iload rfl rfl ?_
          refine px_callS0 CX12_lowest [] [.long _, .long _, .int _] (pv_mono (Nat.zero_le _) (vX12_lowest (ab := (sp_ni n (I 65 6) (fun j => (J 100 (60 * s + j)).toInt32) (fun M => sp_nx tx n (I 69) (I 68) (I 65 7) (I 66) M (fun _ => nI 0)) q w N 0 (n1, 0, nI 0))) (be := 12 ^ N) (by omega) hp0 (by omega))) rfl rfl rfl (Nat.le_of_ble_eq_true rfl) (Nat.le_refl _) ?_
          rintro _ _ - ⟨rfl, rfl⟩
          refine px_lreturn rfl rfl ?_
          refine ⟨_, rfl, .inr ⟨⟨⟨⟨q, hq12, rfl⟩, hei⟩, s, hs, rfl, h98, h2⟩, ?_⟩, I5, rfl, Fr_tr (Fr_mo f4 (by decide)) (Fr_mo hR5.1 (by decide)), fun k hk => ?_⟩
          · rw [mN_n (show s < 2 ^ 31 by omega), mN_n (show q < 2 ^ 31 by omega), hz, mN_n (show z < 2 ^ 31 by omega), ← hN]
            rfl
          · rw [hR5.1 65 (by decide)]
            exact k4 k (by omega) (by omega) (by omega) (by omega) (by omega) (by omega)
        · refine px_if_ge rfl (fun h => absurd h (by decide)) (fun _ => ?_)
          refine px_ldc2_w (v := -9223372036854775808) rfl (by decide) ?_
          refine px_lreturn rfl rfl ?_
          first | exact PRL_id (.inl ⟨fun ⟨_, s2, hs2, e, g1, g2⟩ => by rw [n_eq (by omega) (by omega)] at e; subst e; first | exact g1 h98 | exact h2 g2, rfl⟩) | exact PRL_id (.inl ⟨fun ⟨⟨_, h⟩, _⟩ => hei h, rfl⟩) | exact PRL_id (.inl ⟨fun ⟨⟨⟨k, hk, e⟩, _⟩, _⟩ => h12 ((in_nn (by decide) (by decide)).mpr ⟨k, Nat.zero_le _, hk, e⟩), rfl⟩) | exact PRL_id (.inl ⟨fun ⟨_, s2, hs2, e, _⟩ => hs ⟨s2, hs2, e⟩, rfl⟩)
      · have hei : ¬ (u = nI 0 ∨ u = nI 1) := fun h => h01 ((in_nn (by decide) (by decide)).mpr (h.elim (fun e => ⟨0, by decide, by decide, e⟩) (fun e => ⟨1, by decide, by decide, e⟩)))
        refine px_if_eq rfl (fun _ => ?_) (fun h => absurd h (by decide))
        refine px_ldc2_w (v := -9223372036854775808) rfl (by decide) ?_
        refine px_lreturn rfl rfl ?_
        first | exact PRL_id (.inl ⟨fun ⟨_, s2, hs2, e, g1, g2⟩ => by rw [n_eq (by omega) (by omega)] at e; subst e; first | exact g1 h98 | exact h2 g2, rfl⟩) | exact PRL_id (.inl ⟨fun ⟨⟨_, h⟩, _⟩ => hei h, rfl⟩) | exact PRL_id (.inl ⟨fun ⟨⟨⟨k, hk, e⟩, _⟩, _⟩ => h12 ((in_nn (by decide) (by decide)).mpr ⟨k, Nat.zero_le _, hk, e⟩), rfl⟩) | exact PRL_id (.inl ⟨fun ⟨_, s2, hs2, e, _⟩ => hs ⟨s2, hs2, e⟩, rfl⟩)
    · refine px_if_eq rfl (fun _ => ?_) (fun h => absurd h (by decide))
      refine px_ldc2_w (v := -9223372036854775808) rfl (by decide) ?_
      refine px_lreturn rfl rfl ?_
      first | exact PRL_id (.inl ⟨fun ⟨_, s2, hs2, e, g1, g2⟩ => by rw [n_eq (by omega) (by omega)] at e; subst e; first | exact g1 h98 | exact h2 g2, rfl⟩) | exact PRL_id (.inl ⟨fun ⟨⟨_, h⟩, _⟩ => hei h, rfl⟩) | exact PRL_id (.inl ⟨fun ⟨⟨⟨k, hk, e⟩, _⟩, _⟩ => h12 ((in_nn (by decide) (by decide)).mpr ⟨k, Nat.zero_le _, hk, e⟩), rfl⟩) | exact PRL_id (.inl ⟨fun ⟨_, s2, hs2, e, _⟩ => hs ⟨s2, hs2, e⟩, rfl⟩)
  · refine px_if_eq rfl (fun _ => ?_) (fun h => absurd h (by decide))
    refine px_ldc2_w (v := -9223372036854775808) rfl (by decide) ?_
    refine px_lreturn rfl rfl ?_
    first | exact PRL_id (.inl ⟨fun ⟨_, s2, hs2, e, g1, g2⟩ => by rw [n_eq (by omega) (by omega)] at e; subst e; first | exact g1 h98 | exact h2 g2, rfl⟩) | exact PRL_id (.inl ⟨fun ⟨⟨_, h⟩, _⟩ => hei h, rfl⟩) | exact PRL_id (.inl ⟨fun ⟨⟨⟨k, hk, e⟩, _⟩, _⟩ => h12 ((in_nn (by decide) (by decide)).mpr ⟨k, Nat.zero_le _, hk, e⟩), rfl⟩) | exact PRL_id (.inl ⟨fun ⟨_, s2, hs2, e, _⟩ => hs ⟨s2, hs2, e⟩, rfl⟩)
