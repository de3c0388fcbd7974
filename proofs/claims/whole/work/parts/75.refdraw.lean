/-! the reference: winters by draws -/
theorem bits_1 : ∀ v, v < 256 → 0 < v → (nI v &&& (nI v - nI 1)) = nI (v &&& (v - 1)) ∧ v &&& (v - 1) < v ∧ sp_pop (nI v) = nI 1 + sp_pop (nI (v &&& (v - 1))) := by decide +kernel
theorem bits_0 : sp_pop (nI 0) = nI 0 := by decide +kernel
theorem dz0 (z : Int32) : z * 1103515245 + nI 12345 = drF.1 z := rfl
theorem dz1 (z : Int32) : (z.toUInt32 >>> ((nI 6).toUInt32 &&& Int32.toUInt32 31)).toInt32 - (z.toUInt32 >>> ((nI 6).toUInt32 &&& Int32.toUInt32 31)).toInt32 / nI 8 * nI 8 = drF.2.1 z := rfl
theorem dz2 (z : Int32) : (z.toUInt32 >>> ((nI 14).toUInt32 &&& Int32.toUInt32 31)).toInt32 - (z.toUInt32 >>> ((nI 14).toUInt32 &&& Int32.toUInt32 31)).toInt32 / nI 8 * nI 8 = drF.2.2 z := rfl
theorem lX12_bitsOf {I : Nat → Nat → Int32} {J : Nat → Nat → Int64} {p : Bool × Option Nat} {ro : List (Nat × Nat × (Nat → Int32))} {x c : Int32} {v : Nat} (hv : v < 256) : Px 0 0 0 CX12_bitsOf 4 [some (.int (x)), some (.int (c)), some (.int (nI v))] [] (gS, I, J, gR p, ro) (qI (c + sp_pop (nI v)) (gS, I, J, gR p, ro)) := by
  refine px_iload_n (kk := 2) rfl rfl rfl ?_
  refine px_if_eq rfl (fun c5 => ?_) (fun c5 => ?_)
  · refine px_iload_n (kk := 1) rfl rfl rfl ?_
    refine px_ireturn rfl (.inl rfl) ?_
    have hv0 : v = 0 := by rw [n_0, n_eq (by omega) (by omega)] at c5; exact c5
    subst hv0
    exact ⟨by rw [bits_0, ← n_0, Int32.add_zero], rfl⟩
  · have hv0 : 0 < v := by rcases Nat.eq_zero_or_pos v with e | e; subst e; exact absurd rfl c5; exact e
    obtain ⟨b1, b2, b3⟩ := bits_1 v hv hv0
    refine px_iinc1 rfl rfl rfl (by decide) ?_
    refine px_iload_n (kk := 2) rfl rfl rfl ?_
    refine px_iload_n (kk := 2) rfl rfl rfl ?_
    refine px_iconst (v := nI 1) rfl k_1 ?_
    refine px_isub rfl ?_
    refine px_iand rfl ?_
    refine px_ist2 rfl rfl (by decide) ?_
    refine px_goto rfl ?_
    refine px_l2 (y := nI (v &&& (v - 1))) b1 ?_
    refine pxv_post (lX12_bitsOf (by omega)) (fun r S hr => ?_)
    obtain ⟨rfl, rfl⟩ := hr
    exact ⟨by rw [b3, k_1, Int32.add_assoc], rfl⟩
termination_by v
decreasing_by all_goals exact (bits_1 v hv (by rcases Nat.eq_zero_or_pos v with e | e; subst e; exact absurd rfl c5; exact e)).2.1
theorem vX12_bitsOf {I : Nat → Nat → Int32} {J : Nat → Nat → Int64} {p : Bool × Option Nat} {ro : List (Nat × Nat × (Nat → Int32))} {v : Nat} (hv : v < 256) : Pv 0 0 0 CX12_bitsOf [.int (nI v)] (gS, I, J, gR p, ro) (qI (sp_pop (nI v)) (gS, I, J, gR p, ro)) := by
  refine ⟨okCX12_bitsOf, Nat.le_of_ble_eq_true rfl, (show Px _ _ _ _ 0 [some (.int (nI v)), none, none] [] _ _ from ?_)⟩
  refine px_iconst (v := nI 0) rfl k_0 ?_
  refine px_ist1 rfl rfl (by decide) ?_
  refine px_iload_n (kk := 0) rfl rfl rfl ?_
  refine px_ist2 rfl rfl (by decide) ?_
  refine pxv_post (lX12_bitsOf hv) (fun r S hr => ?_)
  obtain ⟨rfl, rfl⟩ := hr
  exact ⟨by rw [show nI 0 + sp_pop (nI v) = sp_pop (nI v) from by rw [← n_0, Int32.zero_add]], rfl⟩
theorem lX12_dr1 {I : Nat → Nat → Int32} {J : Nat → Nat → Int64} {p : Bool × Option Nat} {ro : List (Nat × Nat × (Nat → Int32))} {n : Nat} (hn : I 65 1 = nI n) (hn8 : n ≤ 8) {x w zz hv wr : Int32} {q k h : Nat} {u1 : Nat} (hj : u1 ≤ n) {Q : Option Value → pm_M → Prop} (kont : Px 6 0 0 CX12_drawn 66 [some (.ref (65)), some (.int (x)), some (.int (nI q)), some (.int (w)), some (.int (zz)), some (.int (hv)), some (.int (wr)), some (.int (nI k)), some (.int (nI h)), some (.int (nI n))] [] (gS, (va_up (va_up I 88 (fun j => if j < n then I 85 j else I 88 j)) 85 (fun j => if j < n then -1 else I 85 j)), J, gR p, ro) Q) : Px 6 0 0 CX12_drawn 47 [some (.ref (65)), some (.int (x)), some (.int (nI q)), some (.int (w)), some (.int (zz)), some (.int (hv)), some (.int (wr)), some (.int (nI k)), some (.int (nI h)), some (.int (nI u1))] [] (gS, (va_up (va_up I 88 (fun j => if j < u1 then I 85 j else I 88 j)) 85 (fun j => if j < u1 then -1 else I 85 j)), J, gR p, ro) (Q) := by
  refine px_iload rfl rfl ?_
  refine px_aload_n (kk := 0) rfl rfl rfl ?_
  refine px_getIe (v := nI n) rfl gS_65 rfl ((congrFun (p_up_n _ _ (by decide)) 1).trans ((congrFun (p_up_n _ _ (by decide)) 1).trans hn)) ?_
  refine px_icmp_ge rfl (fun c50 => ?_) (fun c50 => ?_)
  · rw [n_le (by omega) (by omega)] at c50
    obtain rfl : u1 = n := by omega
    exact kont
  · rw [n_le (by omega) (by omega)] at c50
    refine px_aload_n (kk := 0) rfl rfl rfl ?_
    refine px_getR (r := 88) rfl gS_65 rfl (gR_65_37 _) ?_
    refine px_iload rfl rfl ?_
    refine px_aload_n (kk := 0) rfl rfl rfl ?_
    refine px_getR (r := 85) rfl gS_65 rfl (gR_65_31 _) ?_
    refine px_iload rfl rfl ?_
    refine px_ialde (j := u1) (v := I 85 u1) rfl gS_85 rfl (by omega) (by rw [p_up_s, if_neg (by omega)]) ?_
    refine px_iast (j := u1) rfl gS_88 rfl (by omega) ?_
    refine px_aload_n (kk := 0) rfl rfl rfl ?_
    refine px_getR (r := 85) rfl gS_65 rfl (gR_65_31 _) ?_
    refine px_iload rfl rfl ?_
    refine px_iconst (v := -1) rfl k_m1 ?_
    refine px_iast (j := u1) rfl gS_85 rfl (by omega) ?_
    refine px_iinc9 (v := nI (u1 + 1)) rfl (n_inc u1) rfl (by decide) ?_
    refine px_goto rfl ?_
    refine px_mem ?_ (lX12_dr1 hn hn8 (u1 := u1 + 1) (by omega) kont)
    simp only [p_up_s, p_up_n _ _ (show (85 : Nat) ≠ 88 by decide), p_up_n _ _ (show (88 : Nat) ≠ 85 by decide), up2]
    rw [fill_step, up_c _ (show (85 : Nat) ≠ 88 by decide), up2]
    congr 1
    rw [up2]
    congr 1
    exact fillp u1 rfl
termination_by n - u1
decreasing_by all_goals (have h := ‹¬ nI n ≤ nI u1›; rw [n_le (by omega) (by omega)] at h; omega)
def RC (n : Nat) (t : DT) (I I1 : Nat → Nat → Int32) : Prop := Fr [85] I I1 ∧ (∀ l, l < n → I1 85 l = t.1 l) ∧ MT n t.1 ∧ sp_cn t.1 n = t.2.1
theorem RC_MT {n : Nat} {t : DT} {I I1 : Nat → Nat → Int32} (h : RC n t I I1) : MT n (I1 85) := fun l hl => by
  rw [h.2.1 l hl]
  rcases h.2.2.1 l hl with e | ⟨k, hk, hne, e1, e2⟩
  · exact .inl e
  · exact .inr ⟨k, hk, hne, e1, by rw [h.2.1 k hk]; exact e2⟩
theorem RC_tie {n : Nat} {t : DT} {I I1 : Nat → Nat → Int32} (hn : n ≤ 8) (h : RC n t I I1) {a b : Nat} (ha : a < n) (hb : b < n) (hne : a ≠ b) (h1 : t.1 a = -1) (h2 : t.1 b = -1) : RC n (va_up (va_up t.1 a (nI b)) b (nI a), t.2.1 + 1, t.2.2) I (va_up I1 85 (va_up (va_up (I1 85) a (nI b)) b (nI a))) :=
  ⟨Fr_up h.1 (by decide) _, fun l hl => by
    show _ = va_up (va_up t.1 a (nI b)) b (nI a) l
    rw [p_up_s]
    by_cases e1 : l = b
    · subst e1; rw [p_up_s, p_up_s]
    · rw [p_up_n _ _ e1, p_up_n _ _ e1]
      by_cases e2 : l = a
      · subst e2; rw [p_up_s, p_up_s]
      · rw [p_up_n _ _ e2, p_up_n _ _ e2]; exact h.2.1 l hl, MT_tie h.2.2.1 ha hb hne h1 h2 hn, by rw [sp_cn_tie hn ha hb hne h1 h2, h.2.2.2]⟩
theorem RC_tk {n : Nat} {t : DT} {I I1 : Nat → Nat → Int32} (h : RC n t I I1) (x y : Int32) : (∃ a b, a < n ∧ b < n ∧ a ≠ b ∧ x = nI a ∧ y = nI b ∧ I1 85 a = -1 ∧ I1 85 b = -1 ∧ nI (sp_cn (I1 85) n) < I1 65 6) ↔ TK n (I 65 6) t x y := by
  have ec : sp_cn (I1 85) n = t.2.1 := (sp_cn_congr h.2.1).trans h.2.2.2
  have e6 : I1 65 6 = I 65 6 := congrFun (h.1 65 (by decide)) 6
  constructor
  · rintro ⟨a, b, ha, hb, hne, e1, e2, h1, h2, h3⟩
    exact ⟨a, b, ha, hb, hne, e1, e2, by rw [← h.2.1 a ha]; exact h1, by rw [← h.2.1 b hb]; exact h2, by rw [← ec, ← e6]; exact h3⟩
  · rintro ⟨a, b, ha, hb, hne, e1, e2, h1, h2, h3⟩
    exact ⟨a, b, ha, hb, hne, e1, e2, by rw [h.2.1 a ha]; exact h1, by rw [h.2.1 b hb]; exact h2, by rw [ec, e6]; exact h3⟩
theorem px_l6e {d mc ms : Nat} {cd : pm_C} {i : Nat} {a0 a1 a2 a3 a4 a5 : Option Value} {x y : Int32} {t : List (Option Value)} {st : List Value} {S : pm_M} {Q : Option Value → pm_M → Prop} (e : x = y) (k : Px d mc ms cd i (a0 :: a1 :: a2 :: a3 :: a4 :: a5 :: some (.int y) :: t) st S Q) : Px d mc ms cd i (a0 :: a1 :: a2 :: a3 :: a4 :: a5 :: some (.int x) :: t) st S Q := e ▸ k
theorem lX12_dr2 {I : Nat → Nat → Int32} {J : Nat → Nat → Int64} {p : Bool × Option Nat} {ro : List (Nat × Nat × (Nat → Int32))} {n : Nat} (hn8 : n ≤ 8) (hn : I 65 1 = nI n) {cd : Nat} (hcd : I 65 6 = nI cd) (hcd4 : cd ≤ 4) {x w zz hv c0 : Int32} {q k h c : Nat} (hc : c ≤ cd) {t : DT} {I1 : Nat → Nat → Int32} (hR : RC n t I I1) {Q : Option Value → pm_M → Prop} (kont : ∀ I2 t2 z2, (t2, z2) = (sp_dr n (I 65 6) (cd - c) t zz) → RC n t2 I I2 → Px 6 0 0 CX12_drawn 107 [some (.ref (65)), some (.int (x)), some (.int (nI q)), some (.int (w)), some (.int (z2)), some (.int (hv)), some (.int ((c0 + t2.2.2))), some (.int (nI k)), some (.int (nI h)), some (.int (nI cd))] [] (gS, I2, J, gR p, ro) Q) : Px 6 0 0 CX12_drawn 68 [some (.ref (65)), some (.int (x)), some (.int (nI q)), some (.int (w)), some (.int (zz)), some (.int (hv)), some (.int ((c0 + t.2.2))), some (.int (nI k)), some (.int (nI h)), some (.int (nI c))] [] (gS, I1, J, gR p, ro) (Q) := by
  refine px_iload rfl rfl ?_
  refine px_aload_n (kk := 0) rfl rfl rfl ?_
  refine px_getIe (v := nI cd) rfl gS_65 rfl ((congrFun (hR.1 65 (by decide)) 6).trans hcd) ?_
  refine px_icmp_ge rfl (fun c71 => ?_) (fun c71 => ?_)
  · rw [n_le (by omega) (by omega)] at c71
    obtain rfl : c = cd := by omega
    rw [Nat.sub_self] at kont
    exact kont I1 t zz rfl hR
  · rw [n_le (by omega) (by omega)] at c71
    refine px_iload rfl rfl ?_
    refine px_ldc_w (v := 1103515245) rfl (by decide) ?_
    refine px_imul rfl ?_
    refine px_sipush (v := nI 12345) rfl s_12345 ?_
    refine px_iadd rfl ?_
    refine px_ieq (dz0 zz) ?_
    refine px_ist4 rfl rfl (by decide) ?_
    refine px_aload_n (kk := 0) rfl rfl rfl ?_
    refine px_iload rfl rfl ?_
    refine px_bipush (v := nI 6) rfl b_6 ?_
    refine px_iushr rfl ?_
    refine px_bipush (v := nI 8) rfl b_8 ?_
    refine px_irem rfl (by decide) ?_
    refine px_ieq (dz1 _) ?_
    refine px_iload rfl rfl ?_
    refine px_bipush (v := nI 14) rfl b_14 ?_
    refine px_iushr rfl ?_
    refine px_bipush (v := nI 8) rfl b_8 ?_
    refine px_irem rfl (by decide) ?_
    refine px_ieq (dz2 _) ?_
    refine px_callV0 CX12_mayPlug [] [.int _, .int _] (vX12_mayPlug ((congrFun (hR.1 65 (by decide)) 1).trans hn) hn8 (RC_MT hR)) rfl gS_65 (by decide) rfl rfl rfl (Nat.le_of_ble_eq_true rfl) (by decide) ?_
    rintro _ _ - (⟨htk, rfl, rfl⟩ | ⟨htk, rfl, rfl⟩)
    · have htk2 := (RC_tk hR _ _).mp htk
      obtain ⟨a, b, ha, hb, hne, e1, e2, h1, h2, h3⟩ := htk2
      refine px_if_eq rfl (fun h => absurd h (by decide)) (fun _ => ?_)
      refine px_aload_n (kk := 0) rfl rfl rfl ?_
      refine px_iload rfl rfl ?_
      refine px_bipush (v := nI 6) rfl b_6 ?_
      refine px_iushr rfl ?_
      refine px_bipush (v := nI 8) rfl b_8 ?_
      refine px_irem rfl (by decide) ?_
      refine px_ieq (dz1 _) ?_
      refine px_ieq (y := nI a) e1 ?_
      refine px_iload rfl rfl ?_
      refine px_bipush (v := nI 14) rfl b_14 ?_
      refine px_iushr rfl ?_
      refine px_bipush (v := nI 8) rfl b_8 ?_
      refine px_irem rfl (by decide) ?_
      refine px_ieq (dz2 _) ?_
      refine px_ieq (y := nI b) e2 ?_
      refine px_callV0 CX12_plugs [] [.int _, .int _] (vX12_plugs (a := a) (b := b) (by omega) (by omega)) rfl gS_65 (by decide) rfl rfl rfl (Nat.le_of_ble_eq_true rfl) (by decide) ?_
      rintro _ _ - ⟨rfl, rfl⟩
      refine px_goto rfl ?_
      refine px_iinc9 (v := nI (c + 1)) rfl (n_inc c) rfl (by decide) ?_
      refine px_goto rfl ?_
      have hu : sp_dr n (I 65 6) (cd - c) t zz = sp_dr n (I 65 6) (cd - (c + 1)) (sp_ask n (I 65 6) t (drF.2.1 (drF.1 zz)) (drF.2.2 (drF.1 zz))) (drF.1 zz) := by
        conv => lhs; rw [show cd - c = (cd - (c + 1)) + 1 by omega]; unfold sp_drF
      rw [hu] at kont
      rw [e1, e2, sp_ask_t ha hb hne h1 h2 h3 hn8] at kont
      exact lX12_dr2 hn8 hn hcd hcd4 (c := c + 1) (by omega) (t := (_, _, _)) (zz := drF.1 zz) (RC_tie hn8 hR ha hb hne h1 h2) kont
    · refine px_if_eq rfl (fun _ => ?_) (fun h => absurd h (by decide))
      refine px_iinc6 rfl rfl rfl (by decide) ?_
      refine px_iinc9 (v := nI (c + 1)) rfl (n_inc c) rfl (by decide) ?_
      refine px_goto rfl ?_
      have hu : sp_dr n (I 65 6) (cd - c) t zz = sp_dr n (I 65 6) (cd - (c + 1)) (sp_ask n (I 65 6) t (drF.2.1 (drF.1 zz)) (drF.2.2 (drF.1 zz))) (drF.1 zz) := by
        conv => lhs; rw [show cd - c = (cd - (c + 1)) + 1 by omega]; unfold sp_drF
      rw [hu] at kont
      rw [sp_ask_f (fun z => htk ((RC_tk hR _ _).mpr z))] at kont
      refine px_l6e (y := c0 + (t.2.2 + nI 1)) (by rw [k_1, Int32.add_assoc]) ?_
      exact lX12_dr2 hn8 hn hcd hcd4 (c := c + 1) (by omega) (t := (t.1, t.2.1, t.2.2 + nI 1)) (zz := drF.1 zz) hR kont
termination_by cd - c
decreasing_by all_goals (have h := ‹¬ nI cd ≤ nI c›; rw [n_le (by omega) (by omega)] at h; omega)
theorem lX12_dr3 {I : Nat → Nat → Int32} {J : Nat → Nat → Int64} {p : Bool × Option Nat} {ro : List (Nat × Nat × (Nat → Int32))} {n : Nat} (hn8 : n ≤ 8) (hn : I 65 1 = nI n) (hM : MT n (I 85)) {x w zz hv wr : Int32} {q k h : Nat} {u1 : Nat} (hj : u1 ≤ n) {Q : Option Value → pm_M → Prop} (kont : Px 6 0 0 CX12_drawn 141 [some (.ref (65)), some (.int (x)), some (.int (nI q)), some (.int (w)), some (.int (zz)), some (.int (hv)), some (.int (wr)), some (.int (nI k)), some (.int (nI h)), some (.int (nI n))] [] (gS, (va_up I 86 (fun j => if j < n then hA (I 88) (fun l => I 86 l + nI 1) (I 85) j else I 86 j)), J, gR p, ro) Q) : Px 6 0 0 CX12_drawn 109 [some (.ref (65)), some (.int (x)), some (.int (nI q)), some (.int (w)), some (.int (zz)), some (.int (hv)), some (.int (wr)), some (.int (nI k)), some (.int (nI h)), some (.int (nI u1))] [] (gS, (va_up I 86 (fun j => if j < u1 then hA (I 88) (fun l => I 86 l + nI 1) (I 85) j else I 86 j)), J, gR p, ro) (Q) := by
  refine px_iload rfl rfl ?_
  refine px_aload_n (kk := 0) rfl rfl rfl ?_
  refine px_getIe (v := nI n) rfl gS_65 rfl ((congrFun (p_up_n _ _ (by decide)) 1).trans hn) ?_
  refine px_icmp_ge rfl (fun c112 => ?_) (fun c112 => ?_)
  · rw [n_le (by omega) (by omega)] at c112
    obtain rfl : u1 = n := by omega
    exact kont
  · rw [n_le (by omega) (by omega)] at c112
    refine px_aload_n (kk := 0) rfl rfl rfl ?_
    refine px_getR (r := 86) rfl gS_65 rfl (gR_65_32 _) ?_
    refine px_iload rfl rfl ?_
    refine px_aload_n (kk := 0) rfl rfl rfl ?_
    refine px_getR (r := 85) rfl gS_65 rfl (gR_65_31 _) ?_
    refine px_iload rfl rfl ?_
    refine px_ialde (j := u1) (v := I 85 u1) rfl gS_85 rfl (by omega) (congrFun (p_up_n _ _ (by decide)) u1) ?_
    refine px_if_lt rfl (fun c120 => ?_) (fun c120 => ?_)
    · refine px_iconst (v := nI 0) rfl k_0 ?_
      refine px_iast (j := u1) rfl gS_86 rfl (by omega) ?_
      refine px_iinc9 (v := nI (u1 + 1)) rfl (n_inc u1) rfl (by decide) ?_
      refine px_goto rfl ?_
      refine px_mem (show _ = (va_up I 86 (fun j => if j < (u1 + 1) then hA (I 88) (fun l => I 86 l + nI 1) (I 85) j else I 86 j)) from ?_) (lX12_dr3 hn8 hn hM (u1 := u1 + 1) (by omega) kont)
      rw [p_up_s]
      refine Eq.trans ?_ (fillf_next I 86 u1 (hA (I 88) (fun l => I 86 l + nI 1) (I 85)))
      rw [show hA (I 88) (fun l => I 86 l + nI 1) (I 85) u1 = nI 0 from by rw [hA, if_neg (fun z => z.1 ((MT_ge hM (by omega) hn8).mp c120))]]
    · refine px_aload_n (kk := 0) rfl rfl rfl ?_
      refine px_getR (r := 85) rfl gS_65 rfl (gR_65_31 _) ?_
      refine px_iload rfl rfl ?_
      refine px_ialde (j := u1) (v := I 85 u1) rfl gS_85 rfl (by omega) (congrFun (p_up_n _ _ (by decide)) u1) ?_
      refine px_aload_n (kk := 0) rfl rfl rfl ?_
      refine px_getR (r := 88) rfl gS_65 rfl (gR_65_37 _) ?_
      refine px_iload rfl rfl ?_
      refine px_ialde (j := u1) (v := I 88 u1) rfl gS_88 rfl (by omega) (congrFun (p_up_n _ _ (by decide)) u1) ?_
      refine px_icmp_ne rfl (fun c129 => ?_) (fun c129 => ?_)
      · refine px_iconst (v := nI 0) rfl k_0 ?_
        refine px_iast (j := u1) rfl gS_86 rfl (by omega) ?_
        refine px_iinc9 (v := nI (u1 + 1)) rfl (n_inc u1) rfl (by decide) ?_
        refine px_goto rfl ?_
        refine px_mem (show _ = (va_up I 86 (fun j => if j < (u1 + 1) then hA (I 88) (fun l => I 86 l + nI 1) (I 85) j else I 86 j)) from ?_) (lX12_dr3 hn8 hn hM (u1 := u1 + 1) (by omega) kont)
        rw [p_up_s]
        refine Eq.trans ?_ (fillf_next I 86 u1 (hA (I 88) (fun l => I 86 l + nI 1) (I 85)))
        rw [show hA (I 88) (fun l => I 86 l + nI 1) (I 85) u1 = nI 0 from by rw [hA, if_neg (fun z => c129 z.2.symm)]]
      · refine px_aload_n (kk := 0) rfl rfl rfl ?_
        refine px_getR (r := 86) rfl gS_65 rfl (gR_65_32 _) ?_
        refine px_iload rfl rfl ?_
        refine px_ialde (j := u1) (v := I 86 u1) rfl gS_86 rfl (by omega) (by rw [p_up_s, if_neg (by omega)]) ?_
        refine px_iconst (v := nI 1) rfl k_1 ?_
        refine px_iadd rfl ?_
        refine px_goto rfl ?_
        refine px_iast (j := u1) rfl gS_86 rfl (by omega) ?_
        refine px_iinc9 (v := nI (u1 + 1)) rfl (n_inc u1) rfl (by decide) ?_
        refine px_goto rfl ?_
        refine px_mem (show _ = (va_up I 86 (fun j => if j < (u1 + 1) then hA (I 88) (fun l => I 86 l + nI 1) (I 85) j else I 86 j)) from ?_) (lX12_dr3 hn8 hn hM (u1 := u1 + 1) (by omega) kont)
        rw [p_up_s]
        refine Eq.trans ?_ (fillf_next I 86 u1 (hA (I 88) (fun l => I 86 l + nI 1) (I 85)))
        rw [show hA (I 88) (fun l => I 86 l + nI 1) (I 85) u1 = I 86 u1 + nI 1 from by rw [hA, if_pos ⟨fun z => c120 ((MT_ge hM (by omega) hn8).mpr z), (show I 85 u1 = I 88 u1 from by first | exact c129 | exact Classical.byContradiction c129).symm⟩]]
termination_by n - u1
decreasing_by all_goals (have h := ‹¬ nI n ≤ nI u1›; rw [n_le (by omega) (by omega)] at h; omega)
def RW (n : Nat) (D : WS) (I1 : Nat → Nat → Int32) : Prop := (∀ l, l < n → I1 84 l = D.1 l) ∧ (∀ l, l < n → I1 85 l = D.2.1 l) ∧ (∀ l, l < n → D.2.1 l ≠ -1 → I1 86 l + nI 1 = D.2.2.1 l) ∧ MT n D.2.1
theorem lX12_dh {I : Nat → Nat → Int32} {J : Nat → Nat → Int64} {p : Bool × Option Nat} {ro : List (Nat × Nat × (Nat → Int32))} {tx : List Ln} (hT : LawR tx I) {n : Nat} (hn8 : n ≤ 8) (hn : I 65 1 = nI n) (hL : LK n (I 69)) {cd : Nat} (hcd : I 65 6 = nI cd) (hcd4 : cd ≤ 4) {x w z0 hv c0 : Int32} {q k hh h : Nat} (hh60 : q % 100 = hh ∧ q < 2 ^ 31) (hk : h ≤ hh) {I1 : Nat → Nat → Int32} (hG : GD I I1) (hR : RW n (sp_whs tx n (I 69) (I 68) (I 65 7) (I 65 6) cd (W0 (I 66) z0) h).1 I1) {o9 : Option Value} {Q : Option Value → pm_M → Prop} (kont : ∀ I2 o9, GD I I2 → RW n (sp_whs tx n (I 69) (I 68) (I 65 7) (I 65 6) cd (W0 (I 66) z0) hh).1 I2 → Px 6 0 0 CX12_drawn 145 [some (.ref (65)), some (.int (x)), some (.int (nI q)), some (.int (w)), some (.int ((sp_whs tx n (I 69) (I 68) (I 65 7) (I 65 6) cd (W0 (I 66) z0) hh).2)), some (.int (hv)), some (.int ((c0 + (sp_whs tx n (I 69) (I 68) (I 65 7) (I 65 6) cd (W0 (I 66) z0) hh).1.2.2.2))), some (.int (nI k)), some (.int (nI hh)), o9] [] (gS, I2, J, gR p, ro) Q) : Px 6 0 0 CX12_drawn 40 [some (.ref (65)), some (.int (x)), some (.int (nI q)), some (.int (w)), some (.int ((sp_whs tx n (I 69) (I 68) (I 65 7) (I 65 6) cd (W0 (I 66) z0) h).2)), some (.int (hv)), some (.int ((c0 + (sp_whs tx n (I 69) (I 68) (I 65 7) (I 65 6) cd (W0 (I 66) z0) h).1.2.2.2))), some (.int (nI k)), some (.int (nI h)), o9] [] (gS, I1, J, gR p, ro) (Q) := by
  refine px_iload rfl rfl ?_
  refine px_iload_n (kk := 2) rfl rfl rfl ?_
  refine px_bipush (v := nI 100) rfl b_100 ?_
  refine px_iremN rfl (by decide) (by decide) (by omega) ?_
  refine px_icmp_ge rfl (fun c44 => ?_) (fun c44 => ?_)
  · rw [hh60.1, n_le (by omega) (by omega)] at c44
    obtain rfl : h = hh := by omega
    exact kont I1 _ hG hR
  · rw [hh60.1, n_le (by omega) (by omega)] at c44
    refine px_iconst (v := nI 0) rfl k_0 ?_
    refine px_ist9 rfl rfl (by decide) ?_
    obtain ⟨D, hD⟩ : ∃ D, D = (sp_whs tx n (I 69) (I 68) (I 65 7) (I 65 6) cd (W0 (I 66) z0) h) := ⟨_, rfl⟩
    rw [← hD] at hR ⊢
    refine px_mem (show I1 = (va_up (va_up I1 88 (fun j => if j < 0 then I1 85 j else I1 88 j)) 85 (fun j => if j < 0 then -1 else I1 85 j)) from by rw [← fill_0f I1 88 (I1 85), ← fill_0f I1 85 (fun _ => -1)]) ?_
    refine lX12_dr1 (I := I1) ((hG.2.1 1 (by decide) (by decide) (by decide)).trans hn) hn8 (u1 := 0) (by omega) ?_
    obtain ⟨I2, h2⟩ : ∃ I2, I2 = (va_up (va_up I1 88 (fun j => if j < n then I1 85 j else I1 88 j)) 85 (fun j => if j < n then -1 else I1 85 j)) := ⟨_, rfl⟩
    have f2 : Fr [85, 88] I1 I2 := by rw [h2]; exact Fr_up (Fr_up Fr_rf (by decide) _) (by decide) _
    have g85 : ∀ l, l < n → I2 85 l = -1 := fun l hl => by rw [h2, p_up_s, if_pos hl]
    have g88 : ∀ l, l < n → I2 88 l = D.1.2.1 l := fun l hl => by rw [h2, p_up_n _ _ (by decide), p_up_s, if_pos hl]; exact hR.2.1 l hl
    have e65 : I2 65 = I1 65 := f2 65 (by decide)
    refine px_mem h2.symm ?_
    refine px_iconst (v := nI 0) rfl k_0 ?_
    refine px_ist9 rfl rfl (by decide) ?_
    have e6 : I2 65 6 = I 65 6 := by rw [e65]; exact (hG.2.1 6 (by decide) (by decide) (by decide))
    refine lX12_dr2 (I := I2) hn8 (by rw [e65]; exact (hG.2.1 1 (by decide) (by decide) (by decide)).trans hn) (e6.trans hcd) hcd4 (c := 0) (by omega) (t := (n1, 0, D.1.2.2.2)) ⟨Fr_rf, g85, MT_n1, sp_cn_n1 n hn8⟩ (fun I3 t2 z2 ht hR3 => ?_)
    rw [e6, Nat.sub_zero] at ht
    refine px_iconst (v := nI 0) rfl k_0 ?_
    refine px_ist9 rfl rfl (by decide) ?_
    have f3 : Fr [85, 88] I1 I3 := Fr_tr f2 (Fr_mo hR3.1 (by decide))
    refine px_mem (fill_0f I3 86 (hA (I3 88) (fun l => I3 86 l + nI 1) (I3 85))) ?_
    refine lX12_dr3 (I := I3) hn8 (by rw [f3 65 (by decide)]; exact (hG.2.1 1 (by decide) (by decide) (by decide)).trans hn) (RC_MT hR3) (u1 := 0) (by omega) ?_
    obtain ⟨I4, h4⟩ : ∃ I4, I4 = (va_up I3 86 (fun j => if j < n then hA (I3 88) (fun l => I3 86 l + nI 1) (I3 85) j else I3 86 j)) := ⟨_, rfl⟩
    refine px_mem h4.symm ?_
    have f4 : Fr [85, 86, 88] I1 I4 := by rw [h4]; exact Fr_up (Fr_mo f3 (by decide)) (by decide) _
    have m85 : ∀ l, l < n → I4 85 l = t2.1 l := fun l hl => by rw [h4, p_up_n _ _ (by decide)]; exact hR3.2.1 l hl
    have m86 : ∀ l, l < n → I4 86 l = hA D.1.2.1 D.1.2.2.1 t2.1 l := fun l hl => by
      rw [h4, p_up_s, if_pos hl, hR3.1 88 (by decide), hR3.1 86 (by decide), f2 86 (by decide)]
      unfold hA
      rw [hR3.2.1 l hl, g88 l hl]
      by_cases c : t2.1 l ≠ -1 ∧ D.1.2.1 l = t2.1 l
      · rw [if_pos c, if_pos c]; exact hR.2.2.1 l hl (by rw [c.2]; exact c.1)
      · rw [if_neg c, if_neg c]
    have hM4 : MT n (I4 85) := by rw [show I4 85 = I3 85 from by rw [h4, p_up_n _ _ (by decide)]]; exact RC_MT hR3
    refine px_aload_n (kk := 0) rfl rfl rfl ?_
    refine px_callV0 CX12_goHour [] [] (vX12_goHour (tx := tx) (by rw [f4 65 (by decide)]; exact (hG.2.1 1 (by decide) (by decide) (by decide)).trans hn) hn8 hM4 (LawR_mv hT (by rw [f4 65 (by decide)]; exact (hG.2.1 29 (by decide) (by decide) (by decide))) (fun c hc => by rw [f4 c (fun e => by simp only [List.mem_cons, List.not_mem_nil, or_false] at e hc; omega), hG.1 c (fun e => by simp only [List.mem_cons, List.not_mem_nil, or_false] at e hc; omega)])) (by rw [f4 69 (by decide), hG.1 69 (by decide)]; exact hL)) rfl gS_65 (by decide) rfl rfl rfl (Nat.le_of_ble_eq_true rfl) (by decide) ?_
    rintro _ _ - ⟨rfl, I5, rfl, f5, g84⟩
    refine px_iinc8 (v := nI (h + 1)) rfl (n_inc h) rfl (by decide) ?_
    refine px_goto rfl ?_
    have hW : (sp_whs tx n (I 69) (I 68) (I 65 7) (I 65 6) cd (W0 (I 66) z0) (h + 1)) = sp_wh tx n (I 69) (I 68) (I 65 7) (I 65 6) cd D := by rw [hD]; rfl
    have hW2 : sp_wh tx n (I 69) (I 68) (I 65 7) (I 65 6) cd D = ((sp_nx tx n (I 69) (I 68) (I 65 7) D.1.1 t2.1 (hA D.1.2.1 D.1.2.2.1 t2.1), t2.1, (fun j => if t2.1 j ≠ -1 then hA D.1.2.1 D.1.2.2.1 t2.1 j + nI 1 else hA D.1.2.1 D.1.2.2.1 t2.1 j), t2.2.2), z2) := by
      simp only [sp_wh]
      rw [← ht]
    have hW3 := hW.trans hW2
    have e1 : z2 = (sp_whs tx n (I 69) (I 68) (I 65 7) (I 65 6) cd (W0 (I 66) z0) (h + 1)).2 := by rw [hW3]
    have e2 : t2.2.2 = (sp_whs tx n (I 69) (I 68) (I 65 7) (I 65 6) cd (W0 (I 66) z0) (h + 1)).1.2.2.2 := by rw [hW3]
    rw [e1, e2]
    refine lX12_dh hT hn8 hn hL hcd hcd4 hh60 (h := h + 1) (by omega) (I1 := I5) ⟨?_, fun k a1 a2 a3 => ?_, ?_⟩ ?_ kont
    · exact Fr_tr hG.1 (Fr_tr (Fr_mo f4 (by decide)) (Fr_mo f5 (by decide)))
    · rw [f5 65 (by decide), f4 65 (by decide)]; exact hG.2.1 k a1 a2 a3
    · rw [f5 65 (by decide), f4 65 (by decide)]; exact hG.2.2
    · rw [hW3]
      refine ⟨fun l hl => ?_, fun l hl => ?_, fun l hl hne => ?_, hR3.2.2.1⟩
      · rw [g84]
        simp only [if_pos hl]
        rw [f4 69 (by decide), hG.1 69 (by decide), f4 68 (by decide), hG.1 68 (by decide), f4 65 (by decide), (hG.2.1 7 (by decide) (by decide) (by decide))]
        exact sp_nx_congr hn8 hR3.2.2.1 (fun j hj => by rw [f4 84 (by decide)]; exact hR.1 j hj) m85 m86 hl
      · rw [f5 85 (by decide)]; exact m85 l hl
      · rw [f5 86 (by decide), m86 l hl]
        exact (if_pos hne).symm
termination_by hh - h
decreasing_by all_goals (have hq := ‹¬ nI (q % 100) ≤ nI h›; rw [hh60.1, n_le (by omega) (by omega)] at hq; omega)
theorem lX12_dw {I : Nat → Nat → Int32} {J : Nat → Nat → Int64} {p : Bool × Option Nat} {ro : List (Nat × Nat × (Nat → Int32))} {tx : List Ln} (hT : LawR tx I) {n : Nat} (hn8 : n ≤ 8) (hn : I 65 1 = nI n) (hL : LK n (I 69)) {cd : Nat} (hcd : I 65 6 = nI cd) (hcd4 : cd ≤ 4) {x w sd : Int32} {q k : Nat} (hq31 : q < 2 ^ 31) (hk : k ≤ q / 100) {I1 : Nat → Nat → Int32} (hF : Fr crt I I1) (hK : K65 I I1) {o8 o9 : Option Value} : Px 6 0 0 CX12_drawn 31 [some (.ref (65)), some (.int (x)), some (.int (nI q)), some (.int (w)), some (.int ((sp_ws tx n (I 69) (I 68) (I 67) (I 66) (I 65 7) (I 65 6) cd (q % 100) sd k).2.2)), some (.int ((sp_ws tx n (I 69) (I 68) (I 67) (I 66) (I 65 7) (I 65 6) cd (q % 100) sd k).1)), some (.int ((sp_ws tx n (I 69) (I 68) (I 67) (I 66) (I 65 7) (I 65 6) cd (q % 100) sd k).2.1)), some (.int (nI k)), o8, o9] [] (gS, I1, J, gR p, ro) (fun r S' => r = some (.int (if w = nI 0 then (sp_ws tx n (I 69) (I 68) (I 67) (I 66) (I 65 7) (I 65 6) cd (q % 100) sd (q / 100)).1 else (sp_ws tx n (I 69) (I 68) (I 67) (I 66) (I 65 7) (I 65 6) cd (q % 100) sd (q / 100)).2.1)) ∧ ∃ I', S' = (gS, I', J, gR p, ro) ∧ Fr crt I I' ∧ K65 I I') := by
  refine px_iload rfl rfl ?_
  refine px_iload_n (kk := 2) rfl rfl rfl ?_
  refine px_bipush (v := nI 100) rfl b_100 ?_
  refine px_idivN rfl (by decide) (by decide) (by omega) ?_
  refine px_icmp_ge rfl (fun c35 => ?_) (fun c35 => ?_)
  · refine px_iload_n (kk := 3) rfl rfl rfl ?_
    refine px_if_ne rfl (fun c154 => ?_) (fun c154 => ?_)
    · refine px_iload rfl rfl ?_
      refine px_ireturn rfl (.inl rfl) ?_
      rw [n_le (by omega) (by omega)] at c35
      obtain rfl : k = q / 100 := by omega
      exact ⟨by rw [if_neg (fun e => c154 (by rw [n_0]; exact e))], I1, rfl, hF, hK⟩
    · refine px_iload rfl rfl ?_
      refine px_goto rfl ?_
      refine px_ireturn rfl (.inl rfl) ?_
      rw [n_le (by omega) (by omega)] at c35
      obtain rfl : k = q / 100 := by omega
      exact ⟨by rw [if_pos (show w = nI 0 by rw [← n_0]; first | exact c154 | exact Classical.byContradiction c154)], I1, rfl, hF, hK⟩
  · rw [n_le (by omega) (by omega)] at c35
    refine px_aload_n (kk := 0) rfl rfl rfl ?_
    refine px_callV0 CX12_beginDay [] [] (vX12_beginDay (I := I1) (n := n) ((hK 1 (by decide)).trans hn) hn8) rfl gS_65 (by decide) rfl rfl rfl (Nat.le_of_ble_eq_true rfl) (by decide) ?_
    rintro _ _ - ⟨rfl, I2, rfl, f2, k2, b34, b35, b36, b84, b85, b86⟩
    refine px_iconst (v := nI 0) rfl k_0 ?_
    refine px_ist8 rfl rfl (by decide) ?_
    obtain ⟨V, hV⟩ : ∃ V, V = (sp_ws tx n (I 69) (I 68) (I 67) (I 66) (I 65 7) (I 65 6) cd (q % 100) sd k) := ⟨_, rfl⟩
    rw [← hV]
    have gT : GD I1 I2 := ⟨Fr_mo f2 (by decide), k2, b36⟩
    refine px_l6e (y := V.2.1 + nI 0) (by rw [show (nI 0 : Int32) = 0 from by decide +kernel, Int32.add_zero]) ?_
    have hws : (sp_whs tx n (I1 69) (I1 68) (I1 65 7) (I1 65 6) cd (W0 (I1 66) V.2.2)) = (sp_whs tx n (I 69) (I 68) (I 65 7) (I 65 6) cd (W0 (I 66) V.2.2)) := by rw [hF 69 (by decide), hF 68 (by decide), hF 66 (by decide), (hK 7 (by decide)), (hK 6 (by decide))]
    refine lX12_dh (I := I1) (tx := tx) (LawR_mv hT (hK 29 (by decide)) (fun c hc => hF c (fun e => by simp only [List.mem_cons, List.not_mem_nil, or_false] at e hc; omega))) hn8 ((hK 1 (by decide)).trans hn) (by rw [hF 69 (by decide)]; exact hL) ((hK 6 (by decide)).trans hcd) hcd4 (z0 := V.2.2) (hh := q % 100) ⟨rfl, hq31⟩ (h := 0) (by omega) (I1 := I2) gT ⟨b84, b85, fun l hl hne => absurd rfl hne, MT_n1⟩ (fun I3 o9 hG3 hR3 => ?_)
    rw [hws] at hR3 ⊢
    obtain ⟨vb, hvb, evb, -⟩ := sp_bits_v (fun l => decide (I 67 l ≤ (sp_whs tx n (I 69) (I 68) (I 65 7) (I 65 6) cd (W0 (I 66) V.2.2) (q % 100)).1.1 l)) n hn8
    have ebits : sp_bits (fun l => decide (I3 67 l ≤ I3 84 l)) n = nI vb := by
      rw [← evb]
      exact sp_bits_congr (fun l hl => by rw [hG3.1 67 (by decide), hF 67 (by decide), hR3.1 l hl])
    refine px_iload rfl rfl ?_
    refine px_aload_n (kk := 0) rfl rfl rfl ?_
    refine px_callV0 CX12_haveNeeds [.int _] [] (vX12_haveNeeds (n := n) ((hG3.2.1 1 (by decide) (by decide) (by decide)).trans ((hK 1 (by decide)).trans hn)) hn8) rfl gS_65 (by decide) rfl rfl rfl (Nat.le_of_ble_eq_true rfl) (by decide) ?_
    rintro _ _ - ⟨rfl, rfl⟩
    refine px_ieq ebits ?_
    refine px_callS0 CX12_bitsOf [.int _] [.int _] (vX12_bitsOf hvb) rfl rfl rfl (Nat.le_of_ble_eq_true rfl) (by decide) ?_
    rintro _ _ - ⟨rfl, rfl⟩
    refine px_iadd rfl ?_
    refine px_ist5 rfl rfl (by decide) ?_
    refine px_iinc7 (v := nI (k + 1)) rfl (n_inc k) rfl (by decide) ?_
    refine px_goto rfl ?_
    have hS : (sp_ws tx n (I 69) (I 68) (I 67) (I 66) (I 65 7) (I 65 6) cd (q % 100) sd (k + 1)) = (V.1 + sp_pop (nI vb), V.2.1 + (sp_whs tx n (I 69) (I 68) (I 65 7) (I 65 6) cd (W0 (I 66) V.2.2) (q % 100)).1.2.2.2, (sp_whs tx n (I 69) (I 68) (I 65 7) (I 65 6) cd (W0 (I 66) V.2.2) (q % 100)).2) := by
      rw [sp_ws, ← hV, evb]
    have q1 : V.1 + sp_pop (nI vb) = (sp_ws tx n (I 69) (I 68) (I 67) (I 66) (I 65 7) (I 65 6) cd (q % 100) sd (k + 1)).1 := by rw [hS]
    have q2 : V.2.1 + (sp_whs tx n (I 69) (I 68) (I 65 7) (I 65 6) cd (W0 (I 66) V.2.2) (q % 100)).1.2.2.2 = (sp_ws tx n (I 69) (I 68) (I 67) (I 66) (I 65 7) (I 65 6) cd (q % 100) sd (k + 1)).2.1 := by rw [hS]
    have q3 : (sp_whs tx n (I 69) (I 68) (I 65 7) (I 65 6) cd (W0 (I 66) V.2.2) (q % 100)).2 = (sp_ws tx n (I 69) (I 68) (I 67) (I 66) (I 65 7) (I 65 6) cd (q % 100) sd (k + 1)).2.2 := by rw [hS]
    rw [q1, q2, q3]
    exact lX12_dw hT hn8 hn hL hcd hcd4 hq31 (k := k + 1) (by omega) (I1 := I3) (Fr_tr hF (Fr_mo hG3.1 (by decide))) (fun j hj => (hG3.2.1 j (by omega) (by omega) (by omega)).trans (hK j hj))
termination_by q / 100 - k
decreasing_by all_goals (have hq := ‹¬ nI (q / 100) ≤ nI k›; rw [n_le (by omega) (by omega)] at hq; omega)
theorem vX12_drawn {I : Nat → Nat → Int32} {J : Nat → Nat → Int64} {p : Bool × Option Nat} {ro : List (Nat × Nat × (Nat → Int32))} {tx : List Ln} (hT : LawR tx I) {n : Nat} (hn8 : n ≤ 8) (hn : I 65 1 = nI n) (hL : LK n (I 69)) {cd : Nat} (hcd : I 65 6 = nI cd) (hcd4 : cd ≤ 4) {sd nm w : Int32} : Pv 6 0 0 CX12_drawn [.ref (65), .int (sd), .int (nm), .int (w)] (gS, I, J, gR p, ro) (PR (ASK (-1) ((w = nI 0 ∨ w = nI 1) ∧ ∃ m, m < 2 ^ 31 ∧ nm = nI m ∧ 1 ≤ m / 100 ∧ m / 100 ≤ 20 ∧ 1 ≤ m % 100 ∧ m % 100 ≤ 60) (if w = nI 0 then (sp_ws tx n (I 69) (I 68) (I 67) (I 66) (I 65 7) (I 65 6) (mN (I 65 6)) (mN nm % 100) sd (mN nm / 100)).1 else (sp_ws tx n (I 69) (I 68) (I 67) (I 66) (I 65 7) (I 65 6) (mN (I 65 6)) (mN nm % 100) sd (mN nm / 100)).2.1)) I J p ro) := by
  refine ⟨okCX12_drawn, Nat.le_of_ble_eq_true rfl, (show Px _ _ _ _ 0 [some (.ref (65)), some (.int (sd)), some (.int (nm)), some (.int (w)), none, none, none, none, none, none] [] _ _ from ?_)⟩
  refine px_iload_n (kk := 2) rfl rfl rfl ?_
  refine px_if_lt rfl (fun c1 => ?_) (fun c1 => ?_)
  · refine px_iconst (v := -1) rfl k_m1 ?_
    refine px_ireturn rfl (.inl rfl) ?_
    exact PR_id (.inl ⟨fun ⟨_, m, h1, h2, _⟩ => n_nneg h1 (h2 ▸ c1), rfl⟩)
  · obtain ⟨m, hml, rfl⟩ := n_ofn c1
    refine px_iload_n (kk := 2) rfl rfl rfl ?_
    refine px_bipush (v := nI 100) rfl b_100 ?_
    refine px_idivN rfl (by decide) (by decide) (by omega) ?_
    refine px_iconst (v := nI 1) rfl k_1 ?_
    refine px_bipush (v := nI 20) rfl b_20 ?_
    refine px_callS0 CX12_in [] [.int _, .int _, .int _] (vX12_in) rfl rfl rfl (Nat.le_of_ble_eq_true rfl) (by decide) ?_
    rintro _ _ - (⟨hm, rfl, rfl⟩ | ⟨hm, rfl, rfl⟩)
    · obtain ⟨uhm, hm1, hm2, hme⟩ := (in_nn (by decide) (by decide)).mp hm
      rw [n_eq (by omega) (by omega)] at hme
      refine px_if_eq rfl (fun h => absurd h (by decide)) (fun _ => ?_)
      refine px_iload_n (kk := 2) rfl rfl rfl ?_
      refine px_bipush (v := nI 100) rfl b_100 ?_
      refine px_iremN rfl (by decide) (by decide) (by omega) ?_
      refine px_iconst (v := nI 1) rfl k_1 ?_
      refine px_bipush (v := nI 60) rfl b_60 ?_
      refine px_callS0 CX12_in [] [.int _, .int _, .int _] (vX12_in) rfl rfl rfl (Nat.le_of_ble_eq_true rfl) (by decide) ?_
      rintro _ _ - (⟨hp, rfl, rfl⟩ | ⟨hp, rfl, rfl⟩)
      · obtain ⟨uhp, hp1, hp2, hpe⟩ := (in_nn (by decide) (by decide)).mp hp
        rw [n_eq (by omega) (by omega)] at hpe
        refine px_if_eq rfl (fun h => absurd h (by decide)) (fun _ => ?_)
        refine px_iload_n (kk := 3) rfl rfl rfl ?_
        refine px_iconst (v := nI 0) rfl k_0 ?_
        refine px_iconst (v := nI 1) rfl k_1 ?_
        refine px_callS0 CX12_in [] [.int _, .int _, .int _] (vX12_in) rfl rfl rfl (Nat.le_of_ble_eq_true rfl) (by decide) ?_
        rintro _ _ - (⟨h01, rfl, rfl⟩ | ⟨h01, rfl, rfl⟩)
        · have hei : w = nI 0 ∨ w = nI 1 := by
            obtain ⟨e, _, he, rfl⟩ := (in_nn (by decide) (by decide)).mp h01
            rcases (by omega : e = 0 ∨ e = 1) with rfl | rfl
            · exact .inl rfl
            · exact .inr rfl
          refine px_if_ne rfl (fun _ => ?_) (fun h => absurd h (by decide))
          refine px_iload_n (kk := 1) rfl rfl rfl ?_
          refine px_ist4 rfl rfl (by decide) ?_
          refine px_iconst (v := nI 0) rfl k_0 ?_
          refine px_ist5 rfl rfl (by decide) ?_
          refine px_iconst (v := nI 0) rfl k_0 ?_
          refine px_ist6 rfl rfl (by decide) ?_
          refine px_iconst (v := nI 0) rfl k_0 ?_
          refine px_ist7 rfl rfl (by decide) ?_
          refine pxv_post (lX12_dw hT hn8 hn hL hcd hcd4 (q := m) (sd := sd) hml (k := 0) (by omega) (I1 := I) Fr_rf (fun _ _ => rfl)) (fun r S hr => ?_)
          obtain ⟨rfl, I3, rfl, hF, hK⟩ := hr
          exact ⟨_, rfl, .inr ⟨⟨hei, m, hml, rfl, by omega, by omega, by omega, by omega⟩, by rw [mN_n hml, hcd, mN_n (by omega)]⟩, I3, rfl, hF, hK⟩
        · have hei : ¬ (w = nI 0 ∨ w = nI 1) := fun h => h01 ((in_nn (by decide) (by decide)).mpr (h.elim (fun e => ⟨0, by decide, by decide, e⟩) (fun e => ⟨1, by decide, by decide, e⟩)))
          refine px_if_ne rfl (fun h => absurd h (by decide)) (fun _ => ?_)
          refine px_iconst (v := -1) rfl k_m1 ?_
          refine px_ireturn rfl (.inl rfl) ?_
          first | exact PR_id (.inl ⟨fun h => hei h.1, rfl⟩) | (exact PR_id (.inl ⟨fun ⟨_, m2, e0, e1, e2, e3, e4, e5⟩ => by rw [n_eq hml e0] at e1; subst e1; exact hpn ⟨_, e4, e5, rfl⟩, rfl⟩)) | (exact PR_id (.inl ⟨fun ⟨_, m2, e0, e1, e2, e3, e4, e5⟩ => by rw [n_eq hml e0] at e1; subst e1; exact hmn ⟨_, e2, e3, rfl⟩, rfl⟩))
      · have hpn := fun z => hp ((in_nn (by decide) (by decide)).mpr z)
        refine px_if_eq rfl (fun _ => ?_) (fun h => absurd h (by decide))
        refine px_iconst (v := -1) rfl k_m1 ?_
        refine px_ireturn rfl (.inl rfl) ?_
        first | exact PR_id (.inl ⟨fun h => hei h.1, rfl⟩) | (exact PR_id (.inl ⟨fun ⟨_, m2, e0, e1, e2, e3, e4, e5⟩ => by rw [n_eq hml e0] at e1; subst e1; exact hpn ⟨_, e4, e5, rfl⟩, rfl⟩)) | (exact PR_id (.inl ⟨fun ⟨_, m2, e0, e1, e2, e3, e4, e5⟩ => by rw [n_eq hml e0] at e1; subst e1; exact hmn ⟨_, e2, e3, rfl⟩, rfl⟩))
    · have hmn := fun z => hm ((in_nn (by decide) (by decide)).mpr z)
      refine px_if_eq rfl (fun _ => ?_) (fun h => absurd h (by decide))
      refine px_iconst (v := -1) rfl k_m1 ?_
      refine px_ireturn rfl (.inl rfl) ?_
      first | exact PR_id (.inl ⟨fun h => hei h.1, rfl⟩) | (exact PR_id (.inl ⟨fun ⟨_, m2, e0, e1, e2, e3, e4, e5⟩ => by rw [n_eq hml e0] at e1; subst e1; exact hpn ⟨_, e4, e5, rfl⟩, rfl⟩)) | (exact PR_id (.inl ⟨fun ⟨_, m2, e0, e1, e2, e3, e4, e5⟩ => by rw [n_eq hml e0] at e1; subst e1; exact hmn ⟨_, e2, e3, rfl⟩, rfl⟩))
