/-! A DAY IN THOUGHT: what both sides tell -/
abbrev DT : Type := (Nat → Int32) × Nat × Int32
def TK (n : Nat) (co : Int32) (s : DT) (x y : Int32) : Prop := ∃ a b, a < n ∧ b < n ∧ a ≠ b ∧ x = nI a ∧ y = nI b ∧ s.1 a = -1 ∧ s.1 b = -1 ∧ nI s.2.1 < co
noncomputable def sp_ask (n : Nat) (co : Int32) (s : DT) (x y : Int32) : DT := @ite _ (TK n co s x y) (Classical.propDecidable _) (va_up (va_up s.1 (mN x) y) (mN y) x, s.2.1 + 1, s.2.2) (s.1, s.2.1, s.2.2 + nI 1)
theorem sp_ask_t {n : Nat} {co : Int32} {s : DT} {a b : Nat} (ha : a < n) (hb : b < n) (hne : a ≠ b) (h1 : s.1 a = -1) (h2 : s.1 b = -1) (hc : nI s.2.1 < co) (hn : n ≤ 8) : sp_ask n co s (nI a) (nI b) = (va_up (va_up s.1 a (nI b)) b (nI a), s.2.1 + 1, s.2.2) := by
  unfold sp_ask
  rw [if_pos ⟨a, b, ha, hb, hne, rfl, rfl, h1, h2, hc⟩, mN_n (by omega), mN_n (by omega)]
theorem sp_ask_f {n : Nat} {co : Int32} {s : DT} {x y : Int32} (h : ¬ TK n co s x y) : sp_ask n co s x y = (s.1, s.2.1, s.2.2 + nI 1) := by
  unfold sp_ask
  rw [if_neg h]
def TI (n : Nat) (s : DT) : Prop := MT n s.1 ∧ s.2.1 ≤ 4
def C4 (co : Int32) : Prop := ∃ k, k ≤ 4 ∧ co = nI k
theorem MT_tie {n : Nat} {M : Nat → Int32} {a b : Nat} (h : MT n M) (ha : a < n) (hb : b < n) (hne : a ≠ b) (h1 : M a = -1) (h2 : M b = -1) (hn : n ≤ 8) : MT n (va_up (va_up M a (nI b)) b (nI a)) := by
  intro l hl
  by_cases e1 : l = b
  · subst e1
    exact Or.inr ⟨a, ha, hne, p_up_s _ _ _, by rw [p_up_n _ _ hne, p_up_s]⟩
  · by_cases e2 : l = a
    · subst e2
      exact Or.inr ⟨b, hb, fun e => hne e.symm, by rw [p_up_n _ _ hne, p_up_s], p_up_s _ _ _⟩
    · rw [p_up_n _ _ e1, p_up_n _ _ e2]
      rcases h l hl with h | ⟨k, hk, hkl, e3, e4⟩
      · exact Or.inl h
      · have k1 : k ≠ a := fun e => by rw [e, h1] at e4; exact nI_nm (by omega) e4.symm
        have k2 : k ≠ b := fun e => by rw [e, h2] at e4; exact nI_nm (by omega) e4.symm
        exact Or.inr ⟨k, hk, hkl, e3, by rw [p_up_n _ _ k2, p_up_n _ _ k1]; exact e4⟩
theorem sp_ask_TI {n : Nat} {co : Int32} {s : DT} {x y : Int32} (h : TI n s) (hco : C4 co) (hn : n ≤ 8) : TI n (sp_ask n co s x y) := by
  by_cases ht : TK n co s x y
  · obtain ⟨a, b, ha, hb, hne, rfl, rfl, h1, h2, h3⟩ := ht
    rw [sp_ask_t ha hb hne h1 h2 h3 hn]
    refine ⟨MT_tie h.1 ha hb hne h1 h2 hn, ?_⟩
    obtain ⟨k, hk, rfl⟩ := hco
    have := h.2
    rw [n_lt (by omega) (by omega)] at h3
    show s.2.1 + 1 ≤ 4
    omega
  · rw [sp_ask_f ht]
    exact h
noncomputable def sp_tell (n : Nat) (co : Int32) (E : Nat → Int32) (wi : Int32 → Prop) : Nat → Nat → DT → DT × Nat
  | 0, pl, s => (s, pl)
  | f + 1, pl, s => if E pl = -1 then (s, pl + 1) else sp_tell n co E wi f (pl + 1) (@ite _ (wi (E pl)) (Classical.propDecidable _) s (sp_ask n co s (E pl / nI 10) (E pl - E pl / nI 10 * nI 10)))
theorem sp_tell_TI {n : Nat} {co : Int32} {E : Nat → Int32} {wi : Int32 → Prop} (hco : C4 co) (hn : n ≤ 8) : ∀ (f pl : Nat) (s : DT), TI n s → TI n (sp_tell n co E wi f pl s).1
  | 0, pl, s, h => h
  | f + 1, pl, s, h => by
    unfold sp_tell
    split
    · exact h
    · refine sp_tell_TI hco hn f (pl + 1) _ ?_
      by_cases hw : wi (E pl)
      · rw [if_pos hw]; exact h
      · rw [if_neg hw]; exact sp_ask_TI h hco hn
theorem sp_tell_pl {n : Nat} {co : Int32} {E : Nat → Int32} {wi : Int32 → Prop} : ∀ (f pl : Nat) (s : DT), pl ≤ (sp_tell n co E wi f pl s).2 ∧ (sp_tell n co E wi f pl s).2 ≤ pl + f
  | 0, pl, s => ⟨Nat.le_refl _, Nat.le_refl _⟩
  | f + 1, pl, s => by
    unfold sp_tell
    split
    · exact ⟨by show pl ≤ pl + 1; omega, by show pl + 1 ≤ pl + (f + 1); omega⟩
    · have := sp_tell_pl (n := n) (co := co) (E := E) (wi := wi) f (pl + 1) (@ite _ (wi (E pl)) (Classical.propDecidable _) s (sp_ask n co s (E pl / nI 10) (E pl - E pl / nI 10 * nI 10)))
      omega
/-- hours ahead of those that are through now, by who was through, for how long -/
def hA (BM BA M : Nat → Int32) (l : Nat) : Int32 := if M l ≠ -1 ∧ BM l = M l then BA l else nI 0
def HS (n : Nat) (M A : Nat → Int32) : Prop := ∀ l k, l < n → k < n → M l = nI k → A l = A k
/-- the class's rows as the hour is told -/
def TC (n : Nat) (BM BA : Nat → Int32) (s : DT) (I : Nat → Nat → Int32) : Prop := (∀ l, l < n → I 17 l = s.1 l) ∧ I 16 2 = nI s.2.1 ∧ I 15 6 = s.2.2 ∧ (∀ l, l < n → I 18 l = hA BM BA s.1 l) ∧ (∀ l, l < n → I 20 l = BM l) ∧ (∀ l, l < n → I 21 l = BA l) ∧ (∀ l, n ≤ l → l < 8 → I 17 l = -1)
theorem TC_tk {n : Nat} {BM BA : Nat → Int32} {s : DT} {I : Nat → Nat → Int32} (h : TC n BM BA s I) (x y : Int32) : (∃ a b, a < n ∧ b < n ∧ a ≠ b ∧ x = nI a ∧ y = nI b ∧ I 17 a = -1 ∧ I 17 b = -1 ∧ I 16 2 < I 1 5) ↔ TK n (I 1 5) s x y := by
  constructor
  · rintro ⟨a, b, ha, hb, hne, e1, e2, h1, h2, h3⟩
    exact ⟨a, b, ha, hb, hne, e1, e2, by rw [← h.1 a ha]; exact h1, by rw [← h.1 b hb]; exact h2, by rw [← h.2.1]; exact h3⟩
  · rintro ⟨a, b, ha, hb, hne, e1, e2, h1, h2, h3⟩
    exact ⟨a, b, ha, hb, hne, e1, e2, by rw [h.1 a ha]; exact h1, by rw [h.1 b hb]; exact h2, by rw [h.2.1]; exact h3⟩
theorem vX8_ask {I : Nat → Nat → Int32} {J : Nat → Nat → Int64} {p : Bool × Option Nat} {ro : List (Nat × Nat × (Nat → Int32))} {n : Nat} (hn : I 1 4 = nI n) (hn8 : n ≤ 8) {BM BA : Nat → Int32} {s : DT} (hTC : TC n BM BA s I) (hBM : MT n BM) (hHS : HS n BM BA) {x y : Int32} : Pv 3 0 0 CX8_ask [.ref (15), .int (x), .int (y)] (gS, I, J, gR p, ro) (fun v S' => v = none ∧ ∃ I', S' = (gS, I', J, gR p, ro) ∧ Fr [15, 16, 17, 18] I I' ∧ I' 15 7 = I 15 7 ∧ TC n BM BA (sp_ask n (I 1 5) s x y) I') := by
  refine ⟨okCX8_ask, Nat.le_of_ble_eq_true rfl, (show Px _ _ _ _ 0 [some (.ref (15)), some (.int (x)), some (.int (y))] [] _ _ from ?_)⟩
  refine px_aload_n (kk := 0) rfl rfl rfl ?_
  refine px_getR (r := 16) rfl gS_15 rfl (gR_15_2 _) ?_
  refine px_aload_n (kk := 0) rfl rfl rfl ?_
  refine px_getR (r := 1) rfl gS_15 rfl (gR_15_0 _) ?_
  refine px_iload_n (kk := 1) rfl rfl rfl ?_
  refine px_iload_n (kk := 2) rfl rfl rfl ?_
  refine px_callV0 CX6_takes [] [.ref 1, .int _, .int _] (vX6_takes PG_th hn hn8) rfl gS_16 (by decide) rfl rfl rfl (Nat.le_of_ble_eq_true rfl) (by decide) ?_
  rintro _ _ - (⟨ht, rfl, rfl⟩ | ⟨hf, rfl, rfl⟩)
  · have ht2 := ht
    obtain ⟨a, b, ha, hb, hne, rfl, rfl, -, -, -⟩ := ht2
    refine px_if_eq rfl (fun h => absurd h (by decide)) (fun _ => ?_)
    refine px_aload_n (kk := 0) rfl rfl rfl ?_
    refine px_getR (r := 16) rfl gS_15 rfl (gR_15_2 _) ?_
    refine px_iload_n (kk := 1) rfl rfl rfl ?_
    refine px_iload_n (kk := 2) rfl rfl rfl ?_
    refine px_aload_n (kk := 0) rfl rfl rfl ?_
    refine px_getR (r := 19) rfl gS_15 rfl (gR_15_3 _) ?_
    refine px_iload_n (kk := 1) rfl rfl rfl ?_
    refine px_iload_n (kk := 2) rfl rfl rfl ?_
    refine px_callV0 CX6_hoursOf [.int _, .int _, .ref 16] [.int _, .int _] (vX6_hoursOf PG_be (a := a) (by omega)) rfl gS_19 (by decide) rfl rfl rfl (Nat.le_of_ble_eq_true rfl) (by decide) ?_
    rintro _ _ - ⟨rfl, rfl⟩
    refine px_callV0 CX6_tie [] [.int _, .int _, .int _] (vX6_tie PG_th (a := a) (b := b) (by omega) (by omega)) rfl gS_16 (by decide) rfl rfl rfl (Nat.le_of_ble_eq_true rfl) (by decide) ?_
    rintro _ _ - ⟨rfl, rfl⟩
    refine px_goto rfl ?_
    refine px_return rfl rfl ?_
    obtain ⟨a2, b2, g1, g2, -, e1, e2, m1, m2, m3⟩ := ht
    rw [n_eq (by omega) (by omega)] at e1 e2
    subst e1 e2
    refine ⟨rfl, _, rfl, ?_, ?_, ?_⟩
    · exact Fr_up (Fr_up (Fr_up Fr_rf (by decide) _) (by decide) _) (by decide) _
    · rw [p_up_n _ _ (by decide), p_up_n _ _ (by decide), p_up_n _ _ (by decide)]
    · rw [sp_ask_t ha hb hne (by rw [← hTC.1 a ha]; exact m1) (by rw [← hTC.1 b hb]; exact m2) (by rw [← hTC.2.1]; exact m3) hn8]
      obtain ⟨t1, t2, t3, t4, t5, t6, t7⟩ := hTC
      have s1 : s.1 a = -1 := by rw [← t1 a ha]; exact m1
      have s2 : s.1 b = -1 := by rw [← t1 b hb]; exact m2
      refine ⟨fun l hl => ?_, ?_, ?_, fun l hl => ?_, fun l hl => ?_, fun l hl => ?_, fun l h1 h2 => ?_⟩
      · simp only [va_up, Nat.reduceEqDiff, if_true, if_false]
        rw [t1 l hl]
      · simp only [va_up, Nat.reduceEqDiff, if_true, if_false]
        rw [t2, nI_add]
      · simp only [va_up, Nat.reduceEqDiff, if_true, if_false]
        exact t3
      · rw [p_up_n _ _ (by decide), p_up_s, t5 a ha, t6 a ha]
        by_cases e1 : l = b
        · subst e1
          rw [p_up_s, hA]
          simp only [p_up_s]
          by_cases e2 : BM a = nI l
          · have e3 : BM l = nI a := by
              rcases hBM l hl with z | ⟨k, hk, hkl, z1, z2⟩
              · rcases hBM a ha with y | ⟨k, hk, hkl, y1, y2⟩
                · rw [y] at e2; exact absurd e2.symm (nI_nm (by omega))
                · rw [y1, n_eq (by omega) (by omega)] at e2
                  subst e2
                  exact y2
              · rcases hBM a ha with y | ⟨k2, hk2, hkl2, y1, y2⟩
                · rw [y] at e2; exact absurd e2.symm (nI_nm (by omega))
                · rw [y1, n_eq (by omega) (by omega)] at e2
                  subst e2
                  exact y2
            rw [if_pos e2, if_pos ⟨nI_nm (by omega), e3⟩]
            exact hHS a l ha hl e2
          · have e3 : ¬ BM l = nI a := fun e3 => by
              rcases hBM l hl with z | ⟨k, hk, hkl, z1, z2⟩
              · rw [z] at e3; exact nI_nm (by omega) e3.symm
              · rw [z1, n_eq (by omega) (by omega)] at e3
                subst e3
                exact e2 z2
            rw [if_neg e2, if_neg (fun z => e3 z.2)]
        · rw [p_up_n _ _ e1]
          by_cases e2 : l = a
          · subst e2
            rw [p_up_s, hA]
            simp only [p_up_n _ _ e1, p_up_s]
            by_cases e3 : BM l = nI b
            · rw [if_pos e3, if_pos ⟨nI_nm (by omega), e3⟩]
            · rw [if_neg e3, if_neg (fun z => e3 z.2)]
          · rw [p_up_n _ _ e2, t4 l hl, hA, hA]
            simp only [p_up_n _ _ e1, p_up_n _ _ e2]
      · simp only [va_up, Nat.reduceEqDiff, if_true, if_false]
        exact t5 l hl
      · simp only [va_up, Nat.reduceEqDiff, if_true, if_false]
        exact t6 l hl
      · simp only [va_up, Nat.reduceEqDiff, if_true, if_false]
        rw [if_neg (by omega), if_neg (by omega)]
        exact t7 l h1 h2
  · refine px_if_eq rfl (fun _ => ?_) (fun h => absurd h (by decide))
    refine px_aload_n (kk := 0) rfl rfl rfl ?_
    refine px_dup rfl rfl ?_
    refine px_getI rfl gS_15 rfl ?_
    refine px_iconst (v := nI 1) rfl k_1 ?_
    refine px_iadd rfl ?_
    refine px_putI rfl gS_15 rfl rfl ?_
    refine px_return rfl rfl ?_
    refine ⟨rfl, _, rfl, Fr_up Fr_rf (by decide) _, by rw [p_up_s, p_up_n _ _ (by decide)], ?_⟩
    rw [sp_ask_f (fun z => hf ((TC_tk hTC x y).mpr z))]
    obtain ⟨t1, t2, t3, t4, t5, t6, t7⟩ := hTC
    exact ⟨fun l hl => by rw [p_up_n _ _ (by decide)]; exact t1 l hl, by rw [p_up_n _ _ (by decide)]; exact t2, by rw [p_up_s, p_up_s, t3], fun l hl => by rw [p_up_n _ _ (by decide)]; exact t4 l hl, fun l hl => by rw [p_up_n _ _ (by decide)]; exact t5 l hl, fun l hl => by rw [p_up_n _ _ (by decide)]; exact t6 l hl, fun l h1 h2 => by rw [p_up_n _ _ (by decide)]; exact t7 l h1 h2⟩
