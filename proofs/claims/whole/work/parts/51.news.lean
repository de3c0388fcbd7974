/-! NEWS: who knows it, as a mask below 256 -/
theorem bit_or : ∀ v, v < 256 → ∀ l, l < 8 → nI v ||| (nI 1 <<< (nI l &&& 31)) = nI (v ||| 2 ^ l) ∧ v ||| 2 ^ l < 256 := by decide +kernel
theorem bit_at : ∀ v, v < 256 → ∀ l, l < 8 → ((nI v >>> (nI l &&& 31)) &&& nI 1) = (if v.testBit l = true then nI 1 else nI 0) := by decide +kernel
theorem bit_tb : ∀ v, v < 256 → ∀ l, l < 8 → ∀ r, r < 8 → ((v ||| 2 ^ l).testBit r = true ↔ v.testBit r = true ∨ r = l) := by decide +kernel
theorem bit_2 : ∀ v, v < 256 → ∀ l, l < 8 → ∀ r, r < 8 → ((((nI v >>> (nI l &&& 31)) ||| (nI v >>> (nI r &&& 31))) &&& nI 1) ≠ 0 ↔ v.testBit l = true ∨ v.testBit r = true) := by decide +kernel
theorem bit_1 : ∀ l, l < 8 → nI 1 <<< (nI l &&& 31) = nI (2 ^ l) ∧ 2 ^ l < 256 := by decide +kernel
theorem par_or0 : ∀ v, v < 16 → ∀ q, q < 4 → ((nI v >>> (nI q &&& 31)) &&& nI 1 ≠ 0 ↔ v.testBit q = true) := by decide +kernel
theorem bit_at0 {v l : Nat} (hv : v < 256) (hl : l < 8) : ((nI v >>> (nI l &&& 31)) &&& nI 1) = 0 ↔ ¬ v.testBit l = true := by
  rw [bit_at v hv l hl]
  by_cases h : v.testBit l = true
  · rw [if_pos h]; exact ⟨fun e => absurd e (by decide), fun e => absurd h e⟩
  · rw [if_neg h]; exact ⟨fun _ => h, fun _ => rfl⟩
noncomputable def sp_mask (q : Nat → Prop) : Nat → Nat
  | 0 => 0
  | k + 1 => @ite _ (q k) (Classical.propDecidable _) (sp_mask q k ||| 2 ^ k) (sp_mask q k)
theorem sp_mask_v (q : Nat → Prop) : ∀ k, k ≤ 8 → sp_mask q k < 256 ∧ ∀ l, l < 8 → ((sp_mask q k).testBit l = true ↔ l < k ∧ q l)
  | 0, _ => ⟨Nat.succ_pos 255, fun l _ => by simp [sp_mask]⟩
  | k + 1, hk => by
    obtain ⟨h1, h2⟩ := sp_mask_v q k (by omega)
    unfold sp_mask
    by_cases hq : q k
    · rw [if_pos hq]
      refine ⟨(bit_or _ h1 k (by omega)).2, fun l hl => ?_⟩
      rw [bit_tb _ h1 k (by omega) l hl, h2 l hl]
      constructor
      · rintro (⟨a, b⟩ | rfl)
        · exact ⟨by omega, b⟩
        · exact ⟨by omega, hq⟩
      · rintro ⟨a, b⟩
        by_cases e : l = k
        · exact Or.inr e
        · exact Or.inl ⟨by omega, b⟩
    · rw [if_neg hq]
      refine ⟨h1, fun l hl => ?_⟩
      rw [h2 l hl]
      constructor
      · rintro ⟨a, b⟩; exact ⟨by omega, b⟩
      · rintro ⟨a, b⟩
        refine ⟨?_, b⟩
        by_cases e : l = k
        · subst e; exact absurd b hq
        · omega
theorem tb_high {v l : Nat} (h : v < 256) (hl : 8 ≤ l) : v.testBit l = false := Nat.testBit_lt_two_pow (Nat.lt_of_lt_of_le h (by calc 256 = 2 ^ 8 := by decide
    _ ≤ 2 ^ l := Nat.pow_le_pow_right (by decide) hl))
theorem mask_ext {v w : Nat} (hv : v < 256) (hw : w < 256) (h : ∀ l, l < 8 → (v.testBit l = true ↔ w.testBit l = true)) : v = w := by
  refine Nat.eq_of_testBit_eq (fun l => ?_)
  by_cases hl : l < 8
  · exact Bool.eq_iff_iff.mpr (h l hl)
  · rw [tb_high hv (by omega), tb_high hw (by omega)]
def TL (M : Nat → Int32) (v e : Nat) : Prop := M e ≠ -1 ∧ (v.testBit e = true ∨ v.testBit (mN (M e)) = true)
noncomputable def sp_kn (n : Nat) (P M : Nat → Int32) (v : Nat) : Nat := sp_mask (fun l => v.testBit l = true ∨ (l < n ∧ (TL M v l ∨ (P l ≠ nI 0 ∧ ∃ e, e < n ∧ TL M v e ∧ P e = P l)))) 8
theorem sp_kn_v {n : Nat} {P M : Nat → Int32} {v : Nat} : sp_kn n P M v < 256 := (sp_mask_v _ 8 (Nat.le_refl _)).1
theorem sp_kn_tb {n : Nat} {P M : Nat → Int32} {v l : Nat} (hl : l < 8) : (sp_kn n P M v).testBit l = true ↔ (v.testBit l = true ∨ (l < n ∧ (TL M v l ∨ (P l ≠ nI 0 ∧ ∃ e, e < n ∧ TL M v e ∧ P e = P l)))) := by
  rw [sp_kn, (sp_mask_v _ 8 (Nat.le_refl _)).2 l hl]
  exact ⟨fun h => h.2, fun h => ⟨hl, h⟩⟩
noncomputable def sp_plk (n : Nat) (co : Int32) (E : Nat → Int32) (z : Nat) (wi : Int32 → Prop) : Nat → Nat
  | 0 => 0
  | k + 1 => (sp_tell n co E wi (z - sp_plk n co E z wi k) (sp_plk n co E z wi k) (n1, 0, nI 0)).2
noncomputable def sp_Mk (n : Nat) (co : Int32) (E : Nat → Int32) (z : Nat) (wi : Int32 → Prop) (k : Nat) : Nat → Int32 := (sp_tell n co E wi (z - sp_plk n co E z wi k) (sp_plk n co E z wi k) (n1, 0, nI 0)).1.1
noncomputable def sp_news (n : Nat) (P : Nat → Int32) (co : Int32) (E : Nat → Int32) (z : Nat) (wi : Int32 → Prop) (one : Nat) : Nat → Nat
  | 0 => 2 ^ one
  | k + 1 => sp_kn n P (sp_Mk n co E z wi k) (sp_news n P co E z wi one k)
theorem sp_news_v {n : Nat} {P : Nat → Int32} {co : Int32} {E : Nat → Int32} {z : Nat} {wi : Int32 → Prop} {one : Nat} (h : one < 8) : ∀ k, sp_news n P co E z wi one k < 256
  | 0 => (bit_1 one h).2
  | k + 1 => sp_kn_v
theorem sp_ask_u {n : Nat} {co : Int32} {s t : DT} (h1 : s.1 = t.1) (h2 : s.2.1 = t.2.1) (x y : Int32) : (sp_ask n co s x y).1 = (sp_ask n co t x y).1 ∧ (sp_ask n co s x y).2.1 = (sp_ask n co t x y).2.1 := by
  have ht : TK n co s x y ↔ TK n co t x y := by unfold TK; rw [h1, h2]
  unfold sp_ask
  by_cases h : TK n co s x y
  · rw [if_pos h, if_pos (ht.mp h)]; simp only [h1, h2, and_self]
  · rw [if_neg h, if_neg (fun z => h (ht.mpr z))]; simp only [h1, h2, and_self]
/-- the pairs don't hang on what was unlawful, nor on leaving out what may not be there -/
theorem sp_tell_u {n : Nat} {co : Int32} {E : Nat → Int32} {wi wj : Int32 → Prop} (hw : ∀ v, (wi v ↔ wj v) ∨ ∀ s, ¬ TK n co s (v / nI 10) (v - v / nI 10 * nI 10)) : ∀ (f pl : Nat) (s t : DT), s.1 = t.1 → s.2.1 = t.2.1 → (sp_tell n co E wi f pl s).1.1 = (sp_tell n co E wj f pl t).1.1 ∧ (sp_tell n co E wi f pl s).1.2.1 = (sp_tell n co E wj f pl t).1.2.1 ∧ (sp_tell n co E wi f pl s).2 = (sp_tell n co E wj f pl t).2
  | 0, pl, s, t, h1, h2 => ⟨h1, h2, rfl⟩
  | f + 1, pl, s, t, h1, h2 => by
    unfold sp_tell
    split
    · exact ⟨h1, h2, rfl⟩
    · refine sp_tell_u hw f (pl + 1) _ _ ?_ ?_
      · have ha := sp_ask_u (n := n) (co := co) h1 h2 (E pl / nI 10) (E pl - E pl / nI 10 * nI 10)
        rcases hw (E pl) with e | e
        · by_cases hwi : wi (E pl)
          · rw [if_pos hwi, if_pos (e.mp hwi)]; exact h1
          · rw [if_neg hwi, if_neg (fun z => hwi (e.mpr z))]; exact ha.1
        · have e1 := sp_ask_f (e s)
          have e2 := sp_ask_f (e t)
          by_cases hwi : wi (E pl) <;> by_cases hwj : wj (E pl) <;> simp only [hwi, hwj, if_true, if_false, e1, e2, h1]
      · have ha := sp_ask_u (n := n) (co := co) h1 h2 (E pl / nI 10) (E pl - E pl / nI 10 * nI 10)
        rcases hw (E pl) with e | e
        · by_cases hwi : wi (E pl)
          · rw [if_pos hwi, if_pos (e.mp hwi)]; exact h2
          · rw [if_neg hwi, if_neg (fun z => hwi (e.mpr z))]; exact ha.2
        · have e1 := sp_ask_f (e s)
          have e2 := sp_ask_f (e t)
          by_cases hwi : wi (E pl) <;> by_cases hwj : wj (E pl) <;> simp only [hwi, hwj, if_true, if_false, e1, e2, h2]
theorem lX8_s1 {I : Nat → Nat → Int32} {J : Nat → Nat → Int64} {p : Bool × Option Nat} {ro : List (Nat × Nat × (Nat → Int32))} {n : Nat} (hn : I 1 4 = nI n) (hn8 : n ≤ 8) (hM : MT n (I 17)) (hP : PA n (I 4)) {v : Nat} (hv : v < 256) {g : Int32} (hg : ∀ e, e < n → nI e = g → I 17 e = -1) {w q k : Nat} (hk : k ≤ n) (h1 : w < 256) (h2 : ∀ l, l < 8 → (w.testBit l = true ↔ v.testBit l = true ∨ (l < k ∧ TL (I 17) v l))) (h3 : q < 16) (h4 : ∀ r, r < 4 → (q.testBit r = true ↔ ∃ e, e < k ∧ TL (I 17) v e ∧ I 4 e = nI r)) {o : Option Value} {Q : Option Value → pm_M → Prop} (kont : ∀ (w q : Nat) (o : Option Value), w < 256 → (∀ l, l < 8 → (w.testBit l = true ↔ v.testBit l = true ∨ (l < n ∧ TL (I 17) v l))) → q < 16 → (∀ r, r < 4 → (q.testBit r = true ↔ ∃ e, e < n ∧ TL (I 17) v e ∧ I 4 e = nI r)) → Px 0 0 0 CX8_spread 50 [some (.ref 15), some (.int (nI v)), some (.int g), some (.int (nI w)), some (.int (nI q)), some (.int (nI 0)), o] [] (gS, I, J, gR p, ro) Q) : Px 0 0 0 CX8_spread 6 [some (.ref (15)), some (.int (nI v)), some (.int (g)), some (.int (nI w)), some (.int (nI q)), some (.int (nI k)), o] [] (gS, I, J, gR p, ro) (Q) := by
  refine px_iload rfl rfl ?_
  refine px_aload_n (kk := 0) rfl rfl rfl ?_
  refine px_getR (r := 1) rfl gS_15 rfl (gR_15_0 _) ?_
  refine px_getIe rfl gS_1 rfl hn ?_
  refine px_icmp_ge rfl (fun c10 => ?_) (fun c10 => ?_)
  · refine px_iconst (v := nI 0) rfl k_0 ?_
    refine px_ist5 rfl rfl (by decide) ?_
    rw [n_le (by omega) (by omega)] at c10
    obtain rfl : k = n := by omega
    exact kont w q _ h1 h2 h3 h4
  · rw [n_le (by omega) (by omega)] at c10
    rcases hM k (by omega) with hm | ⟨j0, hj0, hjk, hm, -⟩
    · skip
      refine px_aload_n (kk := 0) rfl rfl rfl ?_
      refine px_getR (r := 16) rfl gS_15 rfl (gR_15_2 _) ?_
      refine px_getR (r := 17) rfl gS_16 rfl (gR_16_0 _) ?_
      refine px_iload rfl rfl ?_
      refine px_ialde (j := k) (v := -1) rfl gS_17 rfl (by omega) hm ?_
      refine px_ist6 rfl rfl (by decide) ?_
      refine px_iload rfl rfl ?_
      refine px_iconst (v := -1) rfl k_m1 ?_
      refine px_icmp_eq rfl (fun _ => ?_) (fun h => absurd h (by decide))
      refine px_iinc5 (v := nI (k + 1)) rfl (n_inc k) rfl (by decide) ?_
      refine px_goto rfl ?_
      refine lX8_s1 hn hn8 hM hP hv hg (k := k + 1) (by omega) h1 (fun l hl => ?_) h3 (fun r hr => ?_) kont
      · rw [h2 l hl]
        constructor
        · rintro (h | ⟨ha, hb⟩)
          · exact Or.inl h
          · exact Or.inr ⟨by omega, hb⟩
        · rintro (h | ⟨ha, hb⟩)
          · exact Or.inl h
          · by_cases e : l = k
            · subst e; exact absurd hm hb.1
            · exact Or.inr ⟨by omega, hb⟩
      · rw [h4 r hr]
        constructor
        · rintro ⟨e, ha, hb⟩; exact ⟨e, by omega, hb⟩
        · rintro ⟨e, ha, hb, hc⟩
          by_cases e1 : e = k
          · subst e1; exact absurd hm hb.1
          · exact ⟨e, by omega, hb, hc⟩
    · skip
      refine px_aload_n (kk := 0) rfl rfl rfl ?_
      refine px_getR (r := 16) rfl gS_15 rfl (gR_15_2 _) ?_
      refine px_getR (r := 17) rfl gS_16 rfl (gR_16_0 _) ?_
      refine px_iload rfl rfl ?_
      refine px_ialde (j := k) (v := nI j0) rfl gS_17 rfl (by omega) hm ?_
      refine px_ist6 rfl rfl (by decide) ?_
      refine px_iload rfl rfl ?_
      refine px_iconst (v := -1) rfl k_m1 ?_
      refine px_icmp_eq rfl (fun h => absurd h (nI_nm (by omega))) (fun c19 => ?_)
      refine px_iload_n (kk := 1) rfl rfl rfl ?_
      refine px_iload rfl rfl ?_
      refine px_ishr rfl ?_
      refine px_iload_n (kk := 1) rfl rfl rfl ?_
      refine px_iload rfl rfl ?_
      refine px_ishr rfl ?_
      refine px_ior rfl ?_
      refine px_iconst (v := nI 1) rfl k_1 ?_
      refine px_iand rfl ?_
      refine px_if_eq rfl (fun c29 => ?_) (fun c29 => ?_)
      · refine px_iinc5 (v := nI (k + 1)) rfl (n_inc k) rfl (by decide) ?_
        refine px_goto rfl ?_
        have ht : ¬ TL (I 17) v k := fun z => by
          have := (bit_2 v hv k (by omega) j0 (by omega)).mpr (by have := z.2; rw [hm, mN_n (by omega)] at this; exact this)
          exact this c29
        refine lX8_s1 hn hn8 hM hP hv hg (k := k + 1) (by omega) h1 (fun l hl => ?_) h3 (fun r hr => ?_) kont
        · rw [h2 l hl]
          constructor
          · rintro (h | ⟨ha, hb⟩)
            · exact Or.inl h
            · exact Or.inr ⟨by omega, hb⟩
          · rintro (h | ⟨ha, hb⟩)
            · exact Or.inl h
            · by_cases e : l = k
              · subst e; exact absurd hb ht
              · exact Or.inr ⟨by omega, hb⟩
        · rw [h4 r hr]
          constructor
          · rintro ⟨e, ha, hb⟩; exact ⟨e, by omega, hb⟩
          · rintro ⟨e, ha, hb, hc⟩
            by_cases e1 : e = k
            · subst e1; exact absurd hb ht
            · exact ⟨e, by omega, hb, hc⟩
      · refine px_iload_n (kk := 3) rfl rfl rfl ?_
        refine px_iconst (v := nI 1) rfl k_1 ?_
        refine px_iload rfl rfl ?_
        refine px_ishl rfl ?_
        refine px_ior rfl ?_
        refine px_ist3 rfl rfl (by decide) ?_
        refine px_iload rfl rfl ?_
        refine px_iconst (v := nI 1) rfl k_1 ?_
        refine px_aload_n (kk := 0) rfl rfl rfl ?_
        refine px_getR (r := 1) rfl gS_15 rfl (gR_15_0 _) ?_
        refine px_getR (r := 4) rfl gS_1 rfl (gR_1_2 _) ?_
        refine px_iload rfl rfl ?_
        refine px_iald (j := k) rfl gS_4 rfl (by omega) ?_
        refine px_ishl rfl ?_
        refine px_ior rfl ?_
        refine px_ist4 rfl rfl (by decide) ?_
        refine px_iinc5 (v := nI (k + 1)) rfl (n_inc k) rfl (by decide) ?_
        refine px_goto rfl ?_
        have ht : TL (I 17) v k := ⟨by rw [hm]; exact nI_nm (by omega), by rw [hm, mN_n (by omega)]; exact (bit_2 v hv k (by omega) j0 (by omega)).mp c29⟩
        obtain ⟨q0, hq0, eq0⟩ := hP k (by omega)
        rw [(bit_or w h1 k (by omega)).1, eq0, (par_or q h3 q0 hq0).1]
        refine lX8_s1 hn hn8 hM hP hv hg (k := k + 1) (by omega) (bit_or w h1 k (by omega)).2 (fun l hl => ?_) (par_or q h3 q0 hq0).2 (fun r hr => ?_) kont
        · rw [bit_tb w h1 k (by omega) l hl, h2 l hl]
          constructor
          · rintro ((h | ⟨ha, hb⟩) | rfl)
            · exact Or.inl h
            · exact Or.inr ⟨by omega, hb⟩
            · exact Or.inr ⟨by omega, ht⟩
          · rintro (h | ⟨ha, hb⟩)
            · exact Or.inl (Or.inl h)
            · by_cases e : l = k
              · exact Or.inr e
              · exact Or.inl (Or.inr ⟨by omega, hb⟩)
        · rw [par_tb q h3 q0 hq0 r hr, h4 r hr]
          constructor
          · rintro (⟨e, ha, hb⟩ | rfl)
            · exact ⟨e, by omega, hb⟩
            · exact ⟨k, by omega, ht, eq0⟩
          · rintro ⟨e, ha, hb, hc⟩
            by_cases e1 : e = k
            · subst e1
              rw [eq0, n_eq (by omega) (by omega)] at hc
              exact Or.inr hc.symm
            · exact Or.inl ⟨e, by omega, hb, hc⟩
termination_by n - k
decreasing_by all_goals (have h := ‹¬ nI n ≤ nI k›; rw [n_le (by omega) (by omega)] at h; omega)
theorem lX8_s2 {I : Nat → Nat → Int32} {J : Nat → Nat → Int64} {p : Bool × Option Nat} {ro : List (Nat × Nat × (Nat → Int32))} {n : Nat} (hn : I 1 4 = nI n) (hn8 : n ≤ 8) (hM : MT n (I 17)) (hP : PA n (I 4)) {v : Nat} (hv : v < 256) {g : Int32} (hg : ∀ e, e < n → nI e = g → I 17 e = -1) {w q k : Nat} (hk : k ≤ n) (h1 : w < 256) (h2 : ∀ l, l < 8 → (w.testBit l = true ↔ v.testBit l = true ∨ (l < n ∧ TL (I 17) v l) ∨ (l < k ∧ (fun l => if nI l = g then nI 0 else I 4 l) l ≠ nI 0 ∧ ∃ e, e < n ∧ TL (I 17) v e ∧ I 4 e = (fun l => if nI l = g then nI 0 else I 4 l) l))) (h3 : q < 16) (h4 : ∀ r, r < 4 → (q.testBit r = true ↔ ∃ e, e < n ∧ TL (I 17) v e ∧ I 4 e = nI r)) {o : Option Value} : Px 0 0 0 CX8_spread 50 [some (.ref (15)), some (.int (nI v)), some (.int (g)), some (.int (nI w)), some (.int (nI q)), some (.int (nI k)), o] [] (gS, I, J, gR p, ro) (qI (nI (sp_kn n (fun l => if nI l = g then nI 0 else I 4 l) (I 17) v)) (gS, I, J, gR p, ro)) := by
  refine px_iload rfl rfl ?_
  refine px_aload_n (kk := 0) rfl rfl rfl ?_
  refine px_getR (r := 1) rfl gS_15 rfl (gR_15_0 _) ?_
  refine px_getIe rfl gS_1 rfl hn ?_
  refine px_icmp_ge rfl (fun c54 => ?_) (fun c54 => ?_)
  · refine px_iload_n (kk := 3) rfl rfl rfl ?_
    refine px_ireturn rfl (.inl rfl) ?_
    rw [n_le (by omega) (by omega)] at c54
    obtain rfl : k = n := by omega
    refine ⟨?_, rfl⟩
    congr 3
    refine mask_ext h1 sp_kn_v (fun l hl => ?_)
    rw [h2 l hl, sp_kn_tb hl]
    have hPe : ∀ e, e < k → TL (I 17) v e → (fun l => if nI l = g then nI 0 else I 4 l) e = I 4 e := fun e he ht => by
      by_cases hge : nI e = g
      · exact absurd (hg e he hge) ht.1
      · simp only [if_neg hge]
    constructor
    · rintro (h | h | ⟨ha, hb, e, hc, hd, he⟩)
      · exact Or.inl h
      · exact Or.inr ⟨h.1, Or.inl h.2⟩
      · exact Or.inr ⟨ha, Or.inr ⟨hb, e, hc, hd, (hPe e hc hd).trans he⟩⟩
    · rintro (h | ⟨ha, h | ⟨hb, e, hc, hd, he⟩⟩)
      · exact Or.inl h
      · exact Or.inr (Or.inl ⟨ha, h⟩)
      · exact Or.inr (Or.inr ⟨ha, hb, e, hc, hd, (hPe e hc hd).symm.trans he⟩)
  · rw [n_le (by omega) (by omega)] at c54
    obtain ⟨q0, hq0, eq0⟩ := hP k (by omega)
    refine px_iload rfl rfl ?_
    refine px_iload_n (kk := 2) rfl rfl rfl ?_
    refine px_icmp_ne rfl (fun c57 => ?_) (fun c57 => ?_)
    · refine px_aload_n (kk := 0) rfl rfl rfl ?_
      refine px_getR (r := 1) rfl gS_15 rfl (gR_15_0 _) ?_
      refine px_getR (r := 4) rfl gS_1 rfl (gR_1_2 _) ?_
      refine px_iload rfl rfl ?_
      refine px_ialde (j := k) (v := nI q0) rfl gS_4 rfl (by omega) eq0 ?_
      refine px_ist6 rfl rfl (by decide) ?_
      refine px_iload rfl rfl ?_
      refine px_if_eq rfl (fun c67 => ?_) (fun c67 => ?_)
      · refine px_iinc5 (v := nI (k + 1)) rfl (n_inc k) rfl (by decide) ?_
        refine px_goto rfl ?_
        have hno : ¬ ((fun l => if nI l = g then nI 0 else I 4 l) k ≠ nI 0 ∧ ∃ e, e < n ∧ TL (I 17) v e ∧ I 4 e = (fun l => if nI l = g then nI 0 else I 4 l) k) := fun z => by
          simp only [if_neg c57, eq0] at z
          exact z.1 (by rw [← n_0]; exact c67)
        refine lX8_s2 hn hn8 hM hP hv hg (k := k + 1) (by omega) h1 (fun l hl => ?_) h3 h4
        rw [h2 l hl]
        constructor
        · rintro (h | h | ⟨ha, hb⟩)
          · exact Or.inl h
          · exact Or.inr (Or.inl h)
          · exact Or.inr (Or.inr ⟨by omega, hb⟩)
        · rintro (h | h | ⟨ha, hb⟩)
          · exact Or.inl h
          · exact Or.inr (Or.inl h)
          · by_cases e : l = k
            · subst e; exact absurd hb hno
            · exact Or.inr (Or.inr ⟨by omega, hb⟩)
      · refine px_iload rfl rfl ?_
        refine px_iload rfl rfl ?_
        refine px_ishr rfl ?_
        refine px_iconst (v := nI 1) rfl k_1 ?_
        refine px_iand rfl ?_
        refine px_if_eq rfl (fun c73 => ?_) (fun c73 => ?_)
        · refine px_iinc5 (v := nI (k + 1)) rfl (n_inc k) rfl (by decide) ?_
          refine px_goto rfl ?_
          have hno : ¬ ((fun l => if nI l = g then nI 0 else I 4 l) k ≠ nI 0 ∧ ∃ e, e < n ∧ TL (I 17) v e ∧ I 4 e = (fun l => if nI l = g then nI 0 else I 4 l) k) := fun z => by
            simp only [if_neg c57, eq0] at z
            exact (par_or0 q h3 q0 hq0).mpr ((h4 q0 hq0).mpr z.2) c73
          refine lX8_s2 hn hn8 hM hP hv hg (k := k + 1) (by omega) h1 (fun l hl => ?_) h3 h4
          rw [h2 l hl]
          constructor
          · rintro (h | h | ⟨ha, hb⟩)
            · exact Or.inl h
            · exact Or.inr (Or.inl h)
            · exact Or.inr (Or.inr ⟨by omega, hb⟩)
          · rintro (h | h | ⟨ha, hb⟩)
            · exact Or.inl h
            · exact Or.inr (Or.inl h)
            · by_cases e : l = k
              · subst e; exact absurd hb hno
              · exact Or.inr (Or.inr ⟨by omega, hb⟩)
        · refine px_iload_n (kk := 3) rfl rfl rfl ?_
          refine px_iconst (v := nI 1) rfl k_1 ?_
          refine px_iload rfl rfl ?_
          refine px_ishl rfl ?_
          refine px_ior rfl ?_
          refine px_ist3 rfl rfl (by decide) ?_
          refine px_iinc5 (v := nI (k + 1)) rfl (n_inc k) rfl (by decide) ?_
          refine px_goto rfl ?_
          have hyes : (fun l => if nI l = g then nI 0 else I 4 l) k ≠ nI 0 ∧ ∃ e, e < n ∧ TL (I 17) v e ∧ I 4 e = (fun l => if nI l = g then nI 0 else I 4 l) k := by
            simp only [if_neg c57, eq0]
            exact ⟨by rw [← n_0]; exact c67, (h4 q0 hq0).mp ((par_or0 q h3 q0 hq0).mp c73)⟩
          rw [(bit_or w h1 k (by omega)).1]
          refine lX8_s2 hn hn8 hM hP hv hg (k := k + 1) (by omega) (bit_or w h1 k (by omega)).2 (fun l hl => ?_) h3 h4
          rw [bit_tb w h1 k (by omega) l hl, h2 l hl]
          constructor
          · rintro ((h | h | ⟨ha, hb⟩) | rfl)
            · exact Or.inl h
            · exact Or.inr (Or.inl h)
            · exact Or.inr (Or.inr ⟨by omega, hb⟩)
            · exact Or.inr (Or.inr ⟨by omega, hyes⟩)
          · rintro (h | h | ⟨ha, hb⟩)
            · exact Or.inl (Or.inl h)
            · exact Or.inl (Or.inr (Or.inl h))
            · by_cases e : l = k
              · exact Or.inr e
              · exact Or.inl (Or.inr (Or.inr ⟨by omega, hb⟩))
    · refine px_iconst (v := nI 0) rfl k_0 ?_
      refine px_goto rfl ?_
      refine px_ist6 rfl rfl (by decide) ?_
      refine px_iload rfl rfl ?_
      refine px_if_eq rfl (fun _ => ?_) (fun h => absurd h (by decide))
      refine px_iinc5 (v := nI (k + 1)) rfl (n_inc k) rfl (by decide) ?_
      refine px_goto rfl ?_
      have hno : ¬ ((fun l => if nI l = g then nI 0 else I 4 l) k ≠ nI 0 ∧ ∃ e, e < n ∧ TL (I 17) v e ∧ I 4 e = (fun l => if nI l = g then nI 0 else I 4 l) k) := fun z => by
        simp only [if_pos c57] at z
        exact z.1 rfl
      refine lX8_s2 hn hn8 hM hP hv hg (k := k + 1) (by omega) h1 (fun l hl => ?_) h3 h4
      rw [h2 l hl]
      constructor
      · rintro (h | h | ⟨ha, hb⟩)
        · exact Or.inl h
        · exact Or.inr (Or.inl h)
        · exact Or.inr (Or.inr ⟨by omega, hb⟩)
      · rintro (h | h | ⟨ha, hb⟩)
        · exact Or.inl h
        · exact Or.inr (Or.inl h)
        · by_cases e : l = k
          · subst e; exact absurd hb hno
          · exact Or.inr (Or.inr ⟨by omega, hb⟩)
termination_by n - k
decreasing_by all_goals (have h := ‹¬ nI n ≤ nI k›; rw [n_le (by omega) (by omega)] at h; omega)
theorem vX8_spread {I : Nat → Nat → Int32} {J : Nat → Nat → Int64} {p : Bool × Option Nat} {ro : List (Nat × Nat × (Nat → Int32))} {n : Nat} (hn : I 1 4 = nI n) (hn8 : n ≤ 8) (hM : MT n (I 17)) (hP : PA n (I 4)) {v : Nat} (hv : v < 256) {g : Int32} (hg : ∀ e, e < n → nI e = g → I 17 e = -1) : Pv 0 0 0 CX8_spread [.ref (15), .int (nI v), .int (g)] (gS, I, J, gR p, ro) (qI (nI (sp_kn n (fun l => if nI l = g then nI 0 else I 4 l) (I 17) v)) (gS, I, J, gR p, ro)) := by
  refine ⟨okCX8_spread, Nat.le_of_ble_eq_true rfl, (show Px _ _ _ _ 0 [some (.ref (15)), some (.int (nI v)), some (.int (g)), none, none, none, none] [] _ _ from ?_)⟩
  refine px_iload_n (kk := 1) rfl rfl rfl ?_
  refine px_ist3 rfl rfl (by decide) ?_
  refine px_iconst (v := nI 0) rfl k_0 ?_
  refine px_ist4 rfl rfl (by decide) ?_
  refine px_iconst (v := nI 0) rfl k_0 ?_
  refine px_ist5 rfl rfl (by decide) ?_
  refine lX8_s1 hn hn8 hM hP hv hg (w := v) (q := 0) (k := 0) (by omega) hv (fun l hl => ⟨Or.inl, fun h => h.elim id (fun z => absurd z.1 (by omega))⟩) (by decide) (fun r hr => ⟨fun h => by simp at h, fun ⟨e, h, _⟩ => absurd h (by omega)⟩) (fun w q o h1 h2 h3 h4 => ?_)
  exact lX8_s2 hn hn8 hM hP hv hg (k := 0) (by omega) h1 (fun l hl => (h2 l hl).trans ⟨fun h => h.elim Or.inl (fun z => Or.inr (Or.inl z)), fun h => h.elim Or.inl (fun z => z.elim Or.inr (fun y => absurd y.1 (by omega)))⟩) h3 h4
