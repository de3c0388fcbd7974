/-! WHO KNOWS IT BEHIND SO MANY HOURS -/
theorem sp_kn_congr {n : Nat} {P M M' : Nat → Int32} {v : Nat} (h : ∀ l, l < n → M' l = M l) : sp_kn n P M' v = sp_kn n P M v := by
  refine mask_ext sp_kn_v sp_kn_v (fun l hl => ?_)
  rw [sp_kn_tb hl, sp_kn_tb hl]
  have ht : ∀ e, e < n → (TL M' v e ↔ TL M v e) := fun e he => by unfold TL; rw [h e he]
  constructor
  · rintro (a | ⟨a, b | ⟨c, e, d, f, g⟩⟩)
    · exact Or.inl a
    · exact Or.inr ⟨a, Or.inl ((ht l a).mp b)⟩
    · exact Or.inr ⟨a, Or.inr ⟨c, e, d, (ht e d).mp f, g⟩⟩
  · rintro (a | ⟨a, b | ⟨c, e, d, f, g⟩⟩)
    · exact Or.inl a
    · exact Or.inr ⟨a, Or.inl ((ht l a).mpr b)⟩
    · exact Or.inr ⟨a, Or.inr ⟨c, e, d, (ht e d).mpr f, g⟩⟩
theorem sp_tell_gone {n : Nat} {co : Int32} {E : Nat → Int32} {g : Nat} (hn : n ≤ 8) (hg : g < n) : ∀ (f pl : Nat) (s : DT), s.1 g = -1 → (sp_tell n co E (wiC (nI g)) f pl s).1.1 g = -1
  | 0, pl, s, h => h
  | f + 1, pl, s, h => by
    unfold sp_tell
    split
    · exact h
    · refine sp_tell_gone hn hg f (pl + 1) _ ?_
      by_cases hw : wiC (nI g) (E pl)
      · rw [if_pos hw]; exact h
      · rw [if_neg hw]
        by_cases ht : TK n co s (E pl / nI 10) (E pl - E pl / nI 10 * nI 10)
        · obtain ⟨a, b, ha, hb, hne, e1, e2, h1, h2, h3⟩ := ht
          rw [e2, e1, sp_ask_t ha hb hne h1 h2 h3 hn]
          have k1 : g ≠ a := fun e => hw ⟨nI_nm (by omega), Or.inl (by rw [e1, e])⟩
          have k2 : g ≠ b := fun e => hw ⟨nI_nm (by omega), Or.inr (by rw [e2, e])⟩
          show va_up (va_up s.1 a (nI b)) b (nI a) g = -1
          rw [p_up_n _ _ k2, p_up_n _ _ k1]
          exact h
        · rw [sp_ask_f ht]; exact h
theorem TC_DC {n : Nat} {BM BA : Nat → Int32} {s : DT} {I : Nat → Nat → Int32} {pl : Nat} (h : TC n BM BA s I) (hp : I 15 7 = nI pl) : DC n (I 22) s.1 (hA BM BA s.1) s.2.2 pl I := ⟨fun _ _ => rfl, h.1, h.2.2.2.2.2.2, h.2.2.2.1, h.2.2.1, hp⟩
abbrev c9 : List Nat := [15, 16, 17, 18, 19, 20, 21, 22, 23]
/-- the class's rows ahead of an hour of which only the plugs matter -/
def KC (n : Nat) (pl : Nat) (I : Nat → Nat → Int32) : Prop := ∃ W M A u, DC n W M A u pl I ∧ MT n M ∧ HS n M A
theorem vX8_tellK {I : Nat → Nat → Int32} {J : Nat → Nat → Int64} {p : Bool × Option Nat} {ro : List (Nat × Nat × (Nat → Int32))} {n : Nat} (hn : I 1 4 = nI n) (hn8 : n ≤ 8) (hP : PA n (I 4)) (hc : C4 (I 1 5)) {s z : Nat} (hs : s < 6) (hz : I (53 + 2 * s) 4 = nI z) (hz60 : z ≤ 60) {g : Int32} (hg : g = -1 ∨ ∃ k, k < n ∧ g = nI k) {I1 : Nat → Nat → Int32} (hF : Fr c9 I I1) {k : Nat} (hK : KC n (sp_plk n (I 1 5) (fun j => (J (54 + 2 * s) j).toInt32) z (wiC g) k) I1) : Pv 4 0 0 CX8_tellHour [.ref (15), .ref (53 + 2 * s), .int g] (gS, I1, J, gR p, ro) (fun v S' => v = none ∧ ∃ I', S' = (gS, I', J, gR p, ro) ∧ Fr c9 I1 I' ∧ KC n (sp_plk n (I 1 5) (fun j => (J (54 + 2 * s) j).toInt32) z (wiC g) (k + 1)) I' ∧ (∀ l, l < n → I' 17 l = sp_Mk n (I 1 5) (fun j => (J (54 + 2 * s) j).toInt32) z (wiC g) k l) ∧ MT n (I' 17) ∧ ∀ e, e < n → nI e = g → I' 17 e = -1) := by
  obtain ⟨W, M, A, u, hD, hM, hA0⟩ := hK
  have hpl : (sp_plk n (I 1 5) (fun j => (J (54 + 2 * s) j).toInt32) z (wiC g) k) ≤ 60 := by
    cases k with
    | zero => exact Nat.zero_le _
    | succ k =>
      have := sp_tell_pl (n := n) (co := I 1 5) (E := (fun j => (J (54 + 2 * s) j).toInt32)) (wi := wiC g) (z - (sp_plk n (I 1 5) (fun j => (J (54 + 2 * s) j).toInt32) z (wiC g) k)) (sp_plk n (I 1 5) (fun j => (J (54 + 2 * s) j).toInt32) z (wiC g) k) (n1, 0, nI 0)
      have h2 : ∀ j, sp_plk n (I 1 5) (fun j => (J (54 + 2 * s) j).toInt32) z (wiC g) j ≤ z := fun j => by
        induction j with
        | zero => exact Nat.zero_le _
        | succ j ih =>
          have := sp_tell_pl (n := n) (co := I 1 5) (E := (fun j => (J (54 + 2 * s) j).toInt32)) (wi := wiC g) (z - (sp_plk n (I 1 5) (fun j => (J (54 + 2 * s) j).toInt32) z (wiC g) j)) (sp_plk n (I 1 5) (fun j => (J (54 + 2 * s) j).toInt32) z (wiC g) j) (n1, 0, nI 0)
          show (sp_tell _ _ _ _ _ _ _).2 ≤ z
          omega
      exact Nat.le_trans (h2 _) hz60
  refine pv_post (vX8_tell (I := I1) ((congrFun (hF 1 (by decide)) 4).trans hn) hn8 hs ((congrFun (hF (53 + 2 * s) (by simp; omega)) 4).trans hz) hz60 hD hM hA0 (g := g) hpl) ?_
  rintro v S' ⟨rfl, I2, rfl, hF2, hTC, hp⟩
  rw [hF 1 (by decide)] at hTC hp
  have hu := sp_tell_u (n := n) (co := I 1 5) (E := (fun j => (J (54 + 2 * s) j).toInt32)) (wi := wiC g) (wj := wiC g) (fun v => Or.inl Iff.rfl) (z - (sp_plk n (I 1 5) (fun j => (J (54 + 2 * s) j).toInt32) z (wiC g) k)) (sp_plk n (I 1 5) (fun j => (J (54 + 2 * s) j).toInt32) z (wiC g) k) (n1, 0, u) (n1, 0, nI 0) rfl rfl
  have hTI := sp_tell_TI (E := (fun j => (J (54 + 2 * s) j).toInt32)) (wi := wiC g) hc hn8 (z - (sp_plk n (I 1 5) (fun j => (J (54 + 2 * s) j).toInt32) z (wiC g) k)) (sp_plk n (I 1 5) (fun j => (J (54 + 2 * s) j).toInt32) z (wiC g) k) (n1, 0, u) TI_0
  have hDC := TC_DC hTC hp
  rw [hu.2.2] at hDC
  refine ⟨rfl, I2, rfl, Fr_mo hF2 (by decide), ⟨_, _, _, _, hDC, hTI.1, hA_sym hn8 hM hA0 hTI.1⟩, fun l hl => ?_, fun l hl => ?_, fun e he hge => ?_⟩
  · rw [hTC.1 l hl, hu.1]; rfl
  · rcases hTI.1 l hl with e | ⟨j, hj, h1, h2, h3⟩
    · exact Or.inl (by rw [hTC.1 l hl]; exact e)
    · exact Or.inr ⟨j, hj, h1, by rw [hTC.1 l hl]; exact h2, by rw [hTC.1 j hj]; exact h3⟩
  · subst hge
    rw [hTC.1 e he]
    exact sp_tell_gone hn8 he _ _ _ rfl
theorem lX8_know {I : Nat → Nat → Int32} {J : Nat → Nat → Int64} {p : Bool × Option Nat} {ro : List (Nat × Nat × (Nat → Int32))} {n : Nat} (hn : I 1 4 = nI n) (hn8 : n ≤ 8) (hP : PA n (I 4)) (hc : C4 (I 1 5)) {s z : Nat} (hs : s < 6) (hz : I (53 + 2 * s) 4 = nI z) (hz60 : z ≤ 60) {g : Int32} (hg : g = -1 ∨ ∃ k, k < n ∧ g = nI k) {one : Nat} (h1 : one < n) {N k : Nat} (hk : k ≤ N) (hN : N ≤ 60) {I1 : Nat → Nat → Int32} (hF : Fr c9 I I1) (hK : KC n (sp_plk n (I 1 5) (fun j => (J (54 + 2 * s) j).toInt32) z (wiC g) k) I1) : Px 5 0 0 CX8_knowers 8 [some (.ref (15)), some (.ref (53 + 2 * s)), some (.int (nI N)), some (.int (nI one)), some (.int (g)), some (.int (nI (sp_news n (fun l => if nI l = g then nI 0 else I 4 l) (I 1 5) (fun j => (J (54 + 2 * s) j).toInt32) z (wiC g) one k))), some (.int (nI k))] [] (gS, I1, J, gR p, ro) (fun v S' => v = some (.int (nI (sp_news n (fun l => if nI l = g then nI 0 else I 4 l) (I 1 5) (fun j => (J (54 + 2 * s) j).toInt32) z (wiC g) one N))) ∧ ∃ I', S' = (gS, I', J, gR p, ro) ∧ Fr c9 I I') := by
  refine px_iload rfl rfl ?_
  refine px_iload_n (kk := 2) rfl rfl rfl ?_
  refine px_icmp_ge rfl (fun c10 => ?_) (fun c10 => ?_)
  · refine px_iload rfl rfl ?_
    refine px_ireturn rfl (.inl rfl) ?_
    rw [n_le (by omega) (by omega)] at c10
    obtain rfl : k = N := by omega
    exact ⟨rfl, I1, rfl, hF⟩
  · rw [n_le (by omega) (by omega)] at c10
    refine px_aload_n (kk := 0) rfl rfl rfl ?_
    refine px_aload_n (kk := 1) rfl rfl rfl ?_
    refine px_iload rfl rfl ?_
    refine px_callV0 CX8_tellHour [] [.ref _, .int _] (vX8_tellK hn hn8 hP hc hs hz hz60 hg hF hK) rfl gS_15 (by decide) rfl rfl rfl (Nat.le_of_ble_eq_true rfl) (by decide) ?_
    rintro _ _ - ⟨rfl, I2, rfl, hF2, hK2, hM2, hMT2, hg2⟩
    refine px_aload_n (kk := 0) rfl rfl rfl ?_
    refine px_iload rfl rfl ?_
    refine px_iload rfl rfl ?_
    refine px_callV0 CX8_spread [] [.int _, .int _] (vX8_spread ((congrFun (hF2 1 (by decide)) 4).trans ((congrFun (hF 1 (by decide)) 4).trans hn)) hn8 hMT2 (by rw [hF2 4 (by decide), hF 4 (by decide)]; exact hP) (v := (sp_news n (fun l => if nI l = g then nI 0 else I 4 l) (I 1 5) (fun j => (J (54 + 2 * s) j).toInt32) z (wiC g) one k)) (sp_news_v (by omega) k) hg2) rfl gS_15 (by decide) rfl rfl rfl (Nat.le_of_ble_eq_true rfl) (by decide) ?_
    rintro _ _ - ⟨rfl, rfl⟩
    rw [hF2 4 (by decide), hF 4 (by decide), sp_kn_congr hM2]
    obtain ⟨w, hw, hw2⟩ : ∃ w, w = (sp_news n (fun l => if nI l = g then nI 0 else I 4 l) (I 1 5) (fun j => (J (54 + 2 * s) j).toInt32) z (wiC g) one (k + 1)) ∧ w < 256 := ⟨_, rfl, sp_news_v (by omega) _⟩
    rw [show (sp_kn n (fun l => if nI l = g then nI 0 else I 4 l) (sp_Mk n (I 1 5) (fun j => (J (54 + 2 * s) j).toInt32) z (wiC g) k) (sp_news n (fun l => if nI l = g then nI 0 else I 4 l) (I 1 5) (fun j => (J (54 + 2 * s) j).toInt32) z (wiC g) one k)) = w from hw.symm]
    refine px_ist5 rfl rfl (by decide) ?_
    refine px_iinc6 (v := nI (k + 1)) rfl (n_inc k) rfl (by decide) ?_
    refine px_goto rfl ?_
    subst hw
    exact lX8_know hn hn8 hP hc hs hz hz60 hg h1 (k := k + 1) (by omega) hN (Fr_tr hF hF2) hK2
termination_by N - k
decreasing_by all_goals (have h := ‹¬ nI N ≤ nI k›; rw [n_le (by omega) (by omega)] at h; omega)
theorem vX8_know {I : Nat → Nat → Int32} {J : Nat → Nat → Int64} {p : Bool × Option Nat} {ro : List (Nat × Nat × (Nat → Int32))} {n : Nat} (hn : I 1 4 = nI n) (hn8 : n ≤ 8) (hP : PA n (I 4)) (hc : C4 (I 1 5)) {s z : Nat} (hs : s < 6) (hz : I (53 + 2 * s) 4 = nI z) (hz60 : z ≤ 60) {g : Int32} (hg : g = -1 ∨ ∃ k, k < n ∧ g = nI k) {one : Nat} (h1 : one < n) {N : Nat} (hN : N ≤ 60) : Pv 5 0 0 CX8_knowers [.ref (15), .ref (53 + 2 * s), .int (nI N), .int (nI one), .int (g)] (gS, I, J, gR p, ro) (fun v S' => v = some (.int (nI (sp_news n (fun l => if nI l = g then nI 0 else I 4 l) (I 1 5) (fun j => (J (54 + 2 * s) j).toInt32) z (wiC g) one N))) ∧ ∃ I', S' = (gS, I', J, gR p, ro) ∧ Fr c9 I I') := by
  refine ⟨okCX8_knowers, Nat.le_of_ble_eq_true rfl, (show Px _ _ _ _ 0 [some (.ref (15)), some (.ref (53 + 2 * s)), some (.int (nI N)), some (.int (nI one)), some (.int (g)), none, none] [] _ _ from ?_)⟩
  refine px_aload_n (kk := 0) rfl rfl rfl ?_
  refine px_callV0 CX8_begin [] [] (vX8_begin hn8) rfl gS_15 (by decide) rfl rfl rfl (Nat.le_of_ble_eq_true rfl) (by decide) ?_
  rintro _ _ - ⟨rfl, I1, rfl, hF0, hD, hX⟩
  refine px_iconst (v := nI 1) rfl k_1 ?_
  refine px_iload_n (kk := 3) rfl rfl rfl ?_
  refine px_ishl rfl ?_
  refine px_ist5 rfl rfl (by decide) ?_
  refine px_iconst (v := nI 0) rfl k_0 ?_
  refine px_ist6 rfl rfl (by decide) ?_
  rw [(bit_1 one (by omega)).1]
  exact lX8_know hn hn8 hP hc hs hz hz60 hg h1 (k := 0) (by omega) hN (Fr_mo hF0 (by decide)) ⟨_, _, _, _, hD, MT_n1, fun _ _ _ _ _ => rfl⟩
noncomputable def sp_hear (w : Nat → Nat) (other : Nat) : Nat → Nat → Int32
  | 0, _ => -2
  | f + 1, k => if (w (k + 1)).testBit other = true then nI k else sp_hear w other f (k + 1)
theorem lX8_hear {I : Nat → Nat → Int32} {J : Nat → Nat → Int64} {p : Bool × Option Nat} {ro : List (Nat × Nat × (Nat → Int32))} {n : Nat} (hn : I 1 4 = nI n) (hn8 : n ≤ 8) (hP : PA n (I 4)) (hc : C4 (I 1 5)) {s z : Nat} (hs : s < 6) (hz : I (53 + 2 * s) 4 = nI z) (hz60 : z ≤ 60) {one other : Nat} (h1 : one < n) (h2 : other < n) {k : Nat} (hk : k ≤ 60) {I1 : Nat → Nat → Int32} (hF : Fr c9 I I1) (hK : KC n (sp_plk n (I 1 5) (fun j => (J (54 + 2 * s) j).toInt32) z (wiC (-1)) k) I1) : Px 5 0 0 CX8_hearsIn 8 [some (.ref (15)), some (.ref (53 + 2 * s)), some (.int (nI one)), some (.int (nI other)), some (.int (nI (sp_news n (fun l => if nI l = -1 then nI 0 else I 4 l) (I 1 5) (fun j => (J (54 + 2 * s) j).toInt32) z (wiC (-1)) one k))), some (.int (nI k))] [] (gS, I1, J, gR p, ro) (fun v S' => v = some (.int (sp_hear (fun k => (sp_news n (fun l => if nI l = -1 then nI 0 else I 4 l) (I 1 5) (fun j => (J (54 + 2 * s) j).toInt32) z (wiC (-1)) one k)) other (60 - k) k)) ∧ ∃ I', S' = (gS, I', J, gR p, ro) ∧ Fr c9 I I') := by
  refine px_iload rfl rfl ?_
  refine px_bipush (v := nI 60) rfl b_60 ?_
  refine px_icmp_ge rfl (fun c10 => ?_) (fun c10 => ?_)
  · refine px_bipush (v := -2) rfl b_m2 ?_
    refine px_ireturn rfl (.inl rfl) ?_
    rw [n_le (by omega) (by omega)] at c10
    obtain rfl : k = 60 := by omega
    exact ⟨rfl, I1, rfl, hF⟩
  · rw [n_le (by omega) (by omega)] at c10
    refine px_aload_n (kk := 0) rfl rfl rfl ?_
    refine px_aload_n (kk := 1) rfl rfl rfl ?_
    refine px_iconst (v := -1) rfl k_m1 ?_
    refine px_callV0 CX8_tellHour [] [.ref _, .int _] (vX8_tellK hn hn8 hP hc hs hz hz60 (Or.inl rfl) hF hK) rfl gS_15 (by decide) rfl rfl rfl (Nat.le_of_ble_eq_true rfl) (by decide) ?_
    rintro _ _ - ⟨rfl, I2, rfl, hF2, hK2, hM2, hMT2, hg2⟩
    refine px_aload_n (kk := 0) rfl rfl rfl ?_
    refine px_iload rfl rfl ?_
    refine px_iconst (v := -1) rfl k_m1 ?_
    refine px_callV0 CX8_spread [] [.int _, .int _] (vX8_spread ((congrFun (hF2 1 (by decide)) 4).trans ((congrFun (hF 1 (by decide)) 4).trans hn)) hn8 hMT2 (by rw [hF2 4 (by decide), hF 4 (by decide)]; exact hP) (v := (sp_news n (fun l => if nI l = -1 then nI 0 else I 4 l) (I 1 5) (fun j => (J (54 + 2 * s) j).toInt32) z (wiC (-1)) one k)) (sp_news_v (by omega) k) hg2) rfl gS_15 (by decide) rfl rfl rfl (Nat.le_of_ble_eq_true rfl) (by decide) ?_
    rintro _ _ - ⟨rfl, rfl⟩
    rw [hF2 4 (by decide), hF 4 (by decide), sp_kn_congr hM2]
    obtain ⟨w, hw, hw2⟩ : ∃ w, w = (sp_news n (fun l => if nI l = -1 then nI 0 else I 4 l) (I 1 5) (fun j => (J (54 + 2 * s) j).toInt32) z (wiC (-1)) one (k + 1)) ∧ w < 256 := ⟨_, rfl, sp_news_v (by omega) _⟩
    rw [show (sp_kn n (fun l => if nI l = -1 then nI 0 else I 4 l) (sp_Mk n (I 1 5) (fun j => (J (54 + 2 * s) j).toInt32) z (wiC (-1)) k) (sp_news n (fun l => if nI l = -1 then nI 0 else I 4 l) (I 1 5) (fun j => (J (54 + 2 * s) j).toInt32) z (wiC (-1)) one k)) = w from hw.symm]
    refine px_ist4 rfl rfl (by decide) ?_
    refine px_iload rfl rfl ?_
    refine px_iload_n (kk := 3) rfl rfl rfl ?_
    refine px_ishr rfl ?_
    refine px_iconst (v := nI 1) rfl k_1 ?_
    refine px_iand rfl ?_
    refine px_if_eq rfl (fun c25 => ?_) (fun c25 => ?_)
    · refine px_iinc5 (v := nI (k + 1)) rfl (n_inc k) rfl (by decide) ?_
      refine px_goto rfl ?_
      have c25 := (bit_at0 hw2 (l := other) (by omega)).mp c25
      subst hw
      have hu : sp_hear (fun k => (sp_news n (fun l => if nI l = -1 then nI 0 else I 4 l) (I 1 5) (fun j => (J (54 + 2 * s) j).toInt32) z (wiC (-1)) one k)) other (60 - k) k = sp_hear (fun k => (sp_news n (fun l => if nI l = -1 then nI 0 else I 4 l) (I 1 5) (fun j => (J (54 + 2 * s) j).toInt32) z (wiC (-1)) one k)) other (60 - (k + 1)) (k + 1) := by
        conv => lhs; rw [show 60 - k = (60 - (k + 1)) + 1 by omega]; unfold sp_hear
        rw [if_neg c25]
      rw [hu]
      exact lX8_hear hn hn8 hP hc hs hz hz60 h1 h2 (k := k + 1) (by omega) (Fr_tr hF hF2) hK2
    · refine px_iload rfl rfl ?_
      refine px_ireturn rfl (.inl rfl) ?_
      have c25 := Decidable.not_not.mp (fun y => c25 ((bit_at0 hw2 (l := other) (by omega)).mpr y))
      subst hw
      have hu : sp_hear (fun k => (sp_news n (fun l => if nI l = -1 then nI 0 else I 4 l) (I 1 5) (fun j => (J (54 + 2 * s) j).toInt32) z (wiC (-1)) one k)) other (60 - k) k = nI k := by
        conv => lhs; rw [show 60 - k = (60 - (k + 1)) + 1 by omega]; unfold sp_hear
        rw [if_pos c25]
      rw [hu]
      exact ⟨rfl, I2, rfl, Fr_tr hF hF2⟩
termination_by 60 - k
decreasing_by all_goals (have h := ‹¬ nI 60 ≤ nI k›; rw [n_le (by omega) (by omega)] at h; omega)
theorem vX8_hear {I : Nat → Nat → Int32} {J : Nat → Nat → Int64} {p : Bool × Option Nat} {ro : List (Nat × Nat × (Nat → Int32))} {n : Nat} (hn : I 1 4 = nI n) (hn8 : n ≤ 8) (hP : PA n (I 4)) (hc : C4 (I 1 5)) {s z : Nat} (hs : s < 6) (hz : I (53 + 2 * s) 4 = nI z) (hz60 : z ≤ 60) {one other : Nat} (h1 : one < n) (h2 : other < n) : Pv 5 0 0 CX8_hearsIn [.ref (15), .ref (53 + 2 * s), .int (nI one), .int (nI other)] (gS, I, J, gR p, ro) (fun v S' => v = some (.int (sp_hear (fun k => (sp_news n (fun l => if nI l = -1 then nI 0 else I 4 l) (I 1 5) (fun j => (J (54 + 2 * s) j).toInt32) z (wiC (-1)) one k)) other 60 0)) ∧ ∃ I', S' = (gS, I', J, gR p, ro) ∧ Fr c9 I I') := by
  refine ⟨okCX8_hearsIn, Nat.le_of_ble_eq_true rfl, (show Px _ _ _ _ 0 [some (.ref (15)), some (.ref (53 + 2 * s)), some (.int (nI one)), some (.int (nI other)), none, none] [] _ _ from ?_)⟩
  refine px_aload_n (kk := 0) rfl rfl rfl ?_
  refine px_callV0 CX8_begin [] [] (vX8_begin hn8) rfl gS_15 (by decide) rfl rfl rfl (Nat.le_of_ble_eq_true rfl) (by decide) ?_
  rintro _ _ - ⟨rfl, I1, rfl, hF0, hD, hX⟩
  refine px_iconst (v := nI 1) rfl k_1 ?_
  refine px_iload_n (kk := 2) rfl rfl rfl ?_
  refine px_ishl rfl ?_
  refine px_ist4 rfl rfl (by decide) ?_
  refine px_iconst (v := nI 0) rfl k_0 ?_
  refine px_ist5 rfl rfl (by decide) ?_
  rw [(bit_1 one (by omega)).1]
  exact lX8_hear hn hn8 hP hc hs hz hz60 h1 h2 (k := 0) (by omega) (Fr_mo hF0 (by decide)) ⟨_, _, _, _, hD, MT_n1, fun _ _ _ _ _ => rfl⟩
theorem lX8_keep {I : Nat → Nat → Int32} {J : Nat → Nat → Int64} {p : Bool × Option Nat} {ro : List (Nat × Nat × (Nat → Int32))} {n : Nat} (hn : I 1 4 = nI n) (hn8 : n ≤ 8) (hP : PA n (I 4)) (hc : C4 (I 1 5)) {s z : Nat} (hs : s < 6) (hz : I (53 + 2 * s) 4 = nI z) (hz60 : z ≤ 60) {one other : Nat} (h1 : one < n) (h2 : other < n) {N : Nat} (hN : N ≤ 60) {k : Nat} (hk : k ≤ n) {I1 : Nat → Nat → Int32} (hF : Fr c9 I I1) : Px 6 0 0 CX8_keepers 17 [some (.ref (15)), some (.ref (53 + 2 * s)), some (.int (nI N)), some (.int (nI one)), some (.int (nI other)), some (.int ((sp_bits (fun gg => decide (gg ≠ one) && (decide (gg ≠ other) && !((sp_news n (fun l => if nI l = (nI gg) then nI 0 else I 4 l) (I 1 5) (fun j => (J (54 + 2 * s) j).toInt32) z (wiC (nI gg)) one N).testBit other))) k))), some (.int (nI k))] [] (gS, I1, J, gR p, ro) (fun v S' => v = some (.int (sp_bits (fun gg => decide (gg ≠ one) && (decide (gg ≠ other) && !((sp_news n (fun l => if nI l = (nI gg) then nI 0 else I 4 l) (I 1 5) (fun j => (J (54 + 2 * s) j).toInt32) z (wiC (nI gg)) one N).testBit other))) n)) ∧ ∃ I', S' = (gS, I', J, gR p, ro) ∧ Fr c9 I I') := by
  refine px_iload rfl rfl ?_
  refine px_aload_n (kk := 0) rfl rfl rfl ?_
  refine px_getR (r := 1) rfl gS_15 rfl (gR_15_0 _) ?_
  refine px_getIe rfl gS_1 rfl ((congrFun (hF 1 (by decide)) 4).trans hn) ?_
  refine px_icmp_ge rfl (fun c21 => ?_) (fun c21 => ?_)
  · refine px_iload rfl rfl ?_
    refine px_ireturn rfl (.inl rfl) ?_
    rw [n_le (by omega) (by omega)] at c21
    obtain rfl : k = n := by omega
    exact ⟨rfl, I1, rfl, hF⟩
  · rw [n_le (by omega) (by omega)] at c21
    refine px_iload rfl rfl ?_
    refine px_iload_n (kk := 3) rfl rfl rfl ?_
    refine px_icmp_eq rfl (fun c24 => ?_) (fun c24 => ?_)
    · refine px_iinc6 (v := nI (k + 1)) rfl (n_inc k) rfl (by decide) ?_
      refine px_goto rfl ?_
      rw [show sp_bits (fun gg => decide (gg ≠ one) && (decide (gg ≠ other) && !((sp_news n (fun l => if nI l = (nI gg) then nI 0 else I 4 l) (I 1 5) (fun j => (J (54 + 2 * s) j).toInt32) z (wiC (nI gg)) one N).testBit other))) k = sp_bits (fun gg => decide (gg ≠ one) && (decide (gg ≠ other) && !((sp_news n (fun l => if nI l = (nI gg) then nI 0 else I 4 l) (I 1 5) (fun j => (J (54 + 2 * s) j).toInt32) z (wiC (nI gg)) one N).testBit other))) (k + 1) by simp only [sp_bits]; rw [if_neg (by rw [n_eq (by omega) (by omega)] at c24; simp [c24])]]
      exact lX8_keep hn hn8 hP hc hs hz hz60 h1 h2 hN (k := k + 1) (by omega) hF
    · refine px_iload rfl rfl ?_
      refine px_iload rfl rfl ?_
      refine px_icmp_eq rfl (fun c27 => ?_) (fun c27 => ?_)
      · refine px_iinc6 (v := nI (k + 1)) rfl (n_inc k) rfl (by decide) ?_
        refine px_goto rfl ?_
        rw [show sp_bits (fun gg => decide (gg ≠ one) && (decide (gg ≠ other) && !((sp_news n (fun l => if nI l = (nI gg) then nI 0 else I 4 l) (I 1 5) (fun j => (J (54 + 2 * s) j).toInt32) z (wiC (nI gg)) one N).testBit other))) k = sp_bits (fun gg => decide (gg ≠ one) && (decide (gg ≠ other) && !((sp_news n (fun l => if nI l = (nI gg) then nI 0 else I 4 l) (I 1 5) (fun j => (J (54 + 2 * s) j).toInt32) z (wiC (nI gg)) one N).testBit other))) (k + 1) by simp only [sp_bits]; rw [if_neg (by rw [n_eq (by omega) (by omega)] at c27; simp [c27])]]
        exact lX8_keep hn hn8 hP hc hs hz hz60 h1 h2 hN (k := k + 1) (by omega) hF
      · refine px_aload_n (kk := 0) rfl rfl rfl ?_
        refine px_aload_n (kk := 1) rfl rfl rfl ?_
        refine px_iload_n (kk := 2) rfl rfl rfl ?_
        refine px_iload_n (kk := 3) rfl rfl rfl ?_
        refine px_iload rfl rfl ?_
        refine px_callV0 CX8_knowers [] [.ref _, .int _, .int _, .int _] (vX8_know (I := I1) (g := (nI k)) ((congrFun (hF 1 (by decide)) 4).trans hn) hn8 (by rw [hF 4 (by decide)]; exact hP) (by rw [hF 1 (by decide)]; exact hc) hs ((congrFun (hF (53 + 2 * s) (by simp; omega)) 4).trans hz) hz60 (Or.inr ⟨k, by omega, rfl⟩) h1 hN) rfl gS_15 (by decide) rfl rfl rfl (Nat.le_of_ble_eq_true rfl) (by decide) ?_
        rintro _ _ - ⟨rfl, I2, rfl, hF2⟩
        rw [hF 4 (by decide), hF 1 (by decide)]
        obtain ⟨w, hw, hw2⟩ : ∃ w, w = (sp_news n (fun l => if nI l = (nI k) then nI 0 else I 4 l) (I 1 5) (fun j => (J (54 + 2 * s) j).toInt32) z (wiC (nI k)) one N) ∧ w < 256 := ⟨_, rfl, sp_news_v (by omega) _⟩
        rw [show (sp_news n (fun l => if nI l = (nI k) then nI 0 else I 4 l) (I 1 5) (fun j => (J (54 + 2 * s) j).toInt32) z (wiC (nI k)) one N) = w from hw.symm]
        refine px_iload rfl rfl ?_
        refine px_ishr rfl ?_
        refine px_iconst (v := nI 1) rfl k_1 ?_
        refine px_iand rfl ?_
        refine px_if_ne rfl (fun c38 => ?_) (fun c38 => ?_)
        · refine px_iinc6 (v := nI (k + 1)) rfl (n_inc k) rfl (by decide) ?_
          refine px_goto rfl ?_
          have hb : (sp_news n (fun l => if nI l = (nI k) then nI 0 else I 4 l) (I 1 5) (fun j => (J (54 + 2 * s) j).toInt32) z (wiC (nI k)) one N).testBit other = true := by
            rw [← hw]
            exact Decidable.not_not.mp (fun y => c38 ((bit_at0 hw2 (l := other) (by omega)).mpr y))
          rw [show sp_bits (fun gg => decide (gg ≠ one) && (decide (gg ≠ other) && !((sp_news n (fun l => if nI l = (nI gg) then nI 0 else I 4 l) (I 1 5) (fun j => (J (54 + 2 * s) j).toInt32) z (wiC (nI gg)) one N).testBit other))) k = sp_bits (fun gg => decide (gg ≠ one) && (decide (gg ≠ other) && !((sp_news n (fun l => if nI l = (nI gg) then nI 0 else I 4 l) (I 1 5) (fun j => (J (54 + 2 * s) j).toInt32) z (wiC (nI gg)) one N).testBit other))) (k + 1) by simp only [sp_bits]; rw [if_neg (by simp [hb])]]
          exact lX8_keep hn hn8 hP hc hs hz hz60 h1 h2 hN (k := k + 1) (by omega) (Fr_tr hF hF2)
        · refine px_iload rfl rfl ?_
          refine px_iconst (v := nI 1) rfl k_1 ?_
          refine px_iload rfl rfl ?_
          refine px_ishl rfl ?_
          refine px_ior rfl ?_
          refine px_ist5 rfl rfl (by decide) ?_
          refine px_iinc6 (v := nI (k + 1)) rfl (n_inc k) rfl (by decide) ?_
          refine px_goto rfl ?_
          have hb : ¬ (sp_news n (fun l => if nI l = (nI k) then nI 0 else I 4 l) (I 1 5) (fun j => (J (54 + 2 * s) j).toInt32) z (wiC (nI k)) one N).testBit other = true := by
            rw [← hw]
            exact (bit_at0 hw2 (l := other) (by omega)).mp c38
          rw [n_eq (by omega) (by omega)] at c24 c27
          rw [show sp_bits (fun gg => decide (gg ≠ one) && (decide (gg ≠ other) && !((sp_news n (fun l => if nI l = (nI gg) then nI 0 else I 4 l) (I 1 5) (fun j => (J (54 + 2 * s) j).toInt32) z (wiC (nI gg)) one N).testBit other))) k ||| (nI 1 <<< (nI k &&& 31)) = sp_bits (fun gg => decide (gg ≠ one) && (decide (gg ≠ other) && !((sp_news n (fun l => if nI l = (nI gg) then nI 0 else I 4 l) (I 1 5) (fun j => (J (54 + 2 * s) j).toInt32) z (wiC (nI gg)) one N).testBit other))) (k + 1) by simp only [sp_bits]; rw [if_pos (by simp [c24, c27, hb])]]
          exact lX8_keep hn hn8 hP hc hs hz hz60 h1 h2 hN (k := k + 1) (by omega) (Fr_tr hF hF2)
termination_by n - k
decreasing_by all_goals (have h := ‹¬ nI n ≤ nI k›; rw [n_le (by omega) (by omega)] at h; omega)
theorem vX8_keep {I : Nat → Nat → Int32} {J : Nat → Nat → Int64} {p : Bool × Option Nat} {ro : List (Nat × Nat × (Nat → Int32))} {n : Nat} (hn : I 1 4 = nI n) (hn8 : n ≤ 8) (hP : PA n (I 4)) (hc : C4 (I 1 5)) {s z : Nat} (hs : s < 6) (hz : I (53 + 2 * s) 4 = nI z) (hz60 : z ≤ 60) {one other : Nat} (h1 : one < n) (h2 : other < n) {N : Nat} (hN : N ≤ 60) : Pv 6 0 0 CX8_keepers [.ref (15), .ref (53 + 2 * s), .int (nI N), .int (nI one), .int (nI other)] (gS, I, J, gR p, ro) (fun v S' => v = some (.int (if (sp_news n (fun l => if nI l = (-1) then nI 0 else I 4 l) (I 1 5) (fun j => (J (54 + 2 * s) j).toInt32) z (wiC (-1)) one N).testBit other = true then sp_bits (fun gg => decide (gg ≠ one) && (decide (gg ≠ other) && !((sp_news n (fun l => if nI l = (nI gg) then nI 0 else I 4 l) (I 1 5) (fun j => (J (54 + 2 * s) j).toInt32) z (wiC (nI gg)) one N).testBit other))) n else nI 0)) ∧ ∃ I', S' = (gS, I', J, gR p, ro) ∧ Fr c9 I I') := by
  refine ⟨okCX8_keepers, Nat.le_of_ble_eq_true rfl, (show Px _ _ _ _ 0 [some (.ref (15)), some (.ref (53 + 2 * s)), some (.int (nI N)), some (.int (nI one)), some (.int (nI other)), none, none] [] _ _ from ?_)⟩
  refine px_aload_n (kk := 0) rfl rfl rfl ?_
  refine px_aload_n (kk := 1) rfl rfl rfl ?_
  refine px_iload_n (kk := 2) rfl rfl rfl ?_
  refine px_iload_n (kk := 3) rfl rfl rfl ?_
  refine px_iconst (v := -1) rfl k_m1 ?_
  refine px_callV0 CX8_knowers [] [.ref _, .int _, .int _, .int _] (vX8_know (g := -1) hn hn8 hP hc hs hz hz60 (Or.inl rfl) h1 hN) rfl gS_15 (by decide) rfl rfl rfl (Nat.le_of_ble_eq_true rfl) (by decide) ?_
  rintro _ _ - ⟨rfl, I1, rfl, hF⟩
  obtain ⟨w, hw, hw2⟩ : ∃ w, w = (sp_news n (fun l => if nI l = (-1) then nI 0 else I 4 l) (I 1 5) (fun j => (J (54 + 2 * s) j).toInt32) z (wiC (-1)) one N) ∧ w < 256 := ⟨_, rfl, sp_news_v (by omega) _⟩
  rw [show (sp_news n (fun l => if nI l = (-1) then nI 0 else I 4 l) (I 1 5) (fun j => (J (54 + 2 * s) j).toInt32) z (wiC (-1)) one N) = w from hw.symm]
  refine px_iload rfl rfl ?_
  refine px_ishr rfl ?_
  refine px_iconst (v := nI 1) rfl k_1 ?_
  refine px_iand rfl ?_
  refine px_if_ne rfl (fun c10 => ?_) (fun c10 => ?_)
  · refine px_iconst (v := nI 0) rfl k_0 ?_
    refine px_ist5 rfl rfl (by decide) ?_
    refine px_iconst (v := nI 0) rfl k_0 ?_
    refine px_ist6 rfl rfl (by decide) ?_
    have c10 := Decidable.not_not.mp (fun y => c10 ((bit_at0 hw2 (l := other) (by omega)).mpr y))
    rw [if_pos c10]
    exact lX8_keep hn hn8 hP hc hs hz hz60 h1 h2 hN (k := 0) (by omega) hF
  · refine px_iconst (v := nI 0) rfl k_0 ?_
    refine px_ireturn rfl (.inl rfl) ?_
    have c10 := (bit_at0 hw2 (l := other) (by omega)).mp c10
    exact ⟨by rw [if_neg c10], I1, rfl, hF⟩
