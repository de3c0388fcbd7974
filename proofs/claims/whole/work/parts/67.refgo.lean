/-! the reference: a day told -/
def RD (n z : Nat) (D : DS) (I1 : Nat → Nat → Int32) (k : Nat) : Prop := (∀ l, l < n → I1 84 l = D.1 l) ∧ (∀ l, l < n → I1 85 l = D.2.1 l) ∧ (∀ l, l < n → D.2.1 l ≠ -1 → I1 86 l + nI 1 = D.2.2.1 l) ∧ I1 65 35 = D.2.2.2.1 ∧ ∃ q, q ≤ 60 + k ∧ I1 65 34 = nI q ∧ (q = D.2.2.2.2 ∨ (z ≤ D.2.2.2.2 ∧ z ≤ q))
theorem tell_two {n : Nat} {co : Int32} {E : Nat → Int32} {wi : Int32 → Prop} {z pl q : Nat} (h : q = pl ∨ (z ≤ pl ∧ z ≤ q)) (t : DT) : (sp_tell n co E wi (z - q) q t).1 = (sp_tell n co E wi (z - pl) pl t).1 ∧ ((sp_tell n co E wi (z - q) q t).2 = (sp_tell n co E wi (z - pl) pl t).2 ∨ (z ≤ (sp_tell n co E wi (z - pl) pl t).2 ∧ z ≤ (sp_tell n co E wi (z - q) q t).2)) := by
  rcases h with rfl | ⟨h1, h2⟩
  · exact ⟨rfl, .inl rfl⟩
  · rw [show z - q = 0 by omega, show z - pl = 0 by omega]
    exact ⟨rfl, .inr ⟨h1, h2⟩⟩
theorem tell_le {n : Nat} {co : Int32} {E : Nat → Int32} {wi : Int32 → Prop} : ∀ (f pl : Nat) (t : DT), (sp_tell n co E wi f pl t).2 ≤ pl + f
  | 0, _, _ => Nat.le_refl _
  | f + 1, pl, t => by
    unfold sp_tell
    split
    · show pl + 1 ≤ _; omega
    · exact Nat.le_trans (tell_le f (pl + 1) _) (by omega)
theorem wi_m1 : wiR (-1) = wiC (-1) := by
  funext v
  exact propext ⟨fun h => absurd h.1 (by decide), fun h => absurd rfl h.1⟩
theorem hA_two {BM BA F M : Nat → Int32} {l : Nat} (h : BM l ≠ -1 → F l + nI 1 = BA l) : hA BM (fun j => F j + nI 1) M l = hA BM BA M l := by
  unfold hA
  by_cases c : M l ≠ -1 ∧ BM l = M l
  · rw [if_pos c, if_pos c]; exact h (by rw [c.2]; exact c.1)
  · rw [if_neg c, if_neg c]
theorem hA_bm {BM BM' BA M M' : Nat → Int32} {l : Nat} (h : BM' l = BM l) (h2 : M' l = M l) : hA BM' BA M' l = hA BM BA M l := by
  unfold hA
  rw [h, h2]
theorem RD_step {tx : List Ln} {n z k : Nat} (hn : n ≤ 8) (hz : z ≤ 60) {L P : Nat → Int32} {cold co : Int32} {E : Nat → Int32} {D : DS} {I1 I2 I3 : Nat → Nat → Int32} {q : Nat} (hR : RD n z D I1 k) (hq : q ≤ 60 + k) (hqr : q = D.2.2.2.2 ∨ (z ≤ D.2.2.2.2 ∧ z ≤ q))
    (h85 : ∀ l, l < n → I2 85 l = (sp_tell n co E (wiC (-1)) (z - q) q (n1, 0, I1 65 35)).1.1 l) (hM : MT n (sp_tell n co E (wiC (-1)) (z - q) q (n1, 0, I1 65 35)).1.1) (h35 : I2 65 35 = (sp_tell n co E (wiC (-1)) (z - q) q (n1, 0, I1 65 35)).1.2.2)
    (h34 : ∃ r, I2 65 34 = nI r ∧ (r = (sp_tell n co E (wiC (-1)) (z - q) q (n1, 0, I1 65 35)).2 ∨ (z ≤ (sp_tell n co E (wiC (-1)) (z - q) q (n1, 0, I1 65 35)).2 ∧ r = (sp_tell n co E (wiC (-1)) (z - q) q (n1, 0, I1 65 35)).2 + 1)))
    (h86 : ∀ l, l < n → I2 86 l = hA (I1 85) (fun j => I1 86 j + nI 1) (sp_tell n co E (wiC (-1)) (z - q) q (n1, 0, I1 65 35)).1.1 l) (h84 : I2 84 = I1 84)
    (f : Fr [82, 83, 84, 87] I2 I3) (g84 : ∀ l, l < n → I3 84 l = sp_nx tx n L P cold (I2 84) (I2 85) (I2 86) l) : RD n z (sp_hour tx n L P cold co E z (wiC (-1)) D) I3 (k + 1) := by
  obtain ⟨r1, r2, r3, r4, -⟩ := hR
  obtain ⟨t1, t2⟩ := tell_two (n := n) (co := co) (E := E) (wi := wiC (-1)) hqr (n1, 0, I1 65 35)
  have tl := tell_le (n := n) (co := co) (E := E) (wi := wiC (-1)) (z - q) q (n1, 0, I1 65 35)
  rw [t1] at h85 hM h35 h86
  rw [r4] at h85 hM h35 h86 h34 t2 tl
  have a86 : ∀ l, l < n → I2 86 l = hA D.2.1 D.2.2.1 (sp_tell n co E (wiC (-1)) (z - D.2.2.2.2) D.2.2.2.2 (n1, 0, D.2.2.2.1)).1.1 l := fun l hl => by
    rw [h86 l hl]
    exact (hA_bm (l := l) (r2 l hl) rfl).trans (hA_two (l := l) (fun h => r3 l hl h))
  refine ⟨fun l hl => ?_, fun l hl => ?_, fun l hl hne => ?_, ?_, ?_⟩
  · rw [g84 l hl]
    exact sp_nx_congr hn hM (fun j hj => by rw [h84]; exact r1 j hj) h85 a86 hl
  · rw [f 85 (by decide)]; exact h85 l hl
  · rw [f 86 (by decide), a86 l hl]
    exact (if_pos hne).symm
  · rw [f 65 (by decide)]; exact h35
  · obtain ⟨r, e1, e2⟩ := h34
    refine ⟨r, ?_, by rw [f 65 (by decide)]; exact e1, ?_⟩
    · rcases e2 with e2 | e2 <;> omega
    · show r = (sp_tell n co E (wiC (-1)) (z - D.2.2.2.2) D.2.2.2.2 (n1, 0, D.2.2.2.1)).2 ∨ (z ≤ (sp_tell n co E (wiC (-1)) (z - D.2.2.2.2) D.2.2.2.2 (n1, 0, D.2.2.2.1)).2 ∧ z ≤ r)
      rcases e2 with e2 | ⟨e2, e3⟩
      · rcases t2 with t2 | ⟨t2, t3⟩
        · exact .inl (by omega)
        · exact .inr ⟨t2, by omega⟩
      · rcases t2 with t2 | ⟨t2, t3⟩
        · exact .inr ⟨by omega, by omega⟩
        · exact .inr ⟨t2, by omega⟩
def GD (I I1 : Nat → Nat → Int32) : Prop := Fr [65, 82, 83, 84, 85, 86, 87, 88] I I1 ∧ (∀ k, k ≠ 34 → k ≠ 35 → k ≠ 36 → I1 65 k = I 65 k) ∧ I1 65 36 = -1
theorem lX12_goDay {I : Nat → Nat → Int32} {J : Nat → Nat → Int64} {p : Bool × Option Nat} {ro : List (Nat × Nat × (Nat → Int32))} {tx : List Ln} (hT : LawR tx I) {n : Nat} (hL : LK n (I 69)) (hn8 : n ≤ 8) (hn : I 65 1 = nI n) {s z : Nat} (hs : s < 6) (hz : I 99 s = nI z) (hz60 : z ≤ 60) {N : Nat} (hN : N ≤ 60) {k : Nat} (hk : k ≤ N) {I1 : Nat → Nat → Int32} (hG : GD I I1) (hR : RD n z (sp_days tx n (I 69) (I 68) (I 65 7) (I 65 6) (fun j => (J 100 (60 * s + j)).toInt32) z (wiC (-1)) k (D0 (I 66))) I1 k) : Px 6 0 0 CX12_goDay 4 [some (.ref (65)), some (.int (nI s)), some (.int (nI N)), some (.int (nI k))] [] (gS, I1, J, gR p, ro) (fun r S' => r = none ∧ ∃ I', S' = (gS, I', J, gR p, ro) ∧ GD I I' ∧ RD n z (sp_days tx n (I 69) (I 68) (I 65 7) (I 65 6) (fun j => (J 100 (60 * s + j)).toInt32) z (wiC (-1)) N (D0 (I 66))) I' N) := by
  refine px_iload_n (kk := 3) rfl rfl rfl ?_
  refine px_iload_n (kk := 2) rfl rfl rfl ?_
  refine px_icmp_ge rfl (fun c6 => ?_) (fun c6 => ?_)
  · refine px_return rfl rfl ?_
    rw [n_le (by omega) (by omega)] at c6
    obtain rfl : k = N := by omega
    exact ⟨rfl, I1, rfl, hG, hR⟩
  · rw [n_le (by omega) (by omega)] at c6
    obtain ⟨q, hq1, hq2, hq3⟩ := hR.2.2.2.2
    refine px_aload_n (kk := 0) rfl rfl rfl ?_
    refine px_iload_n (kk := 1) rfl rfl rfl ?_
    refine px_callV0 CX12_plugHour [] [.int _] (vX12_plugHour hn8 ((hG.2.1 1 (by decide) (by decide) (by decide)).trans hn) hs ((congrFun (hG.1 99 (by decide)) s).trans hz) hz60 (pl := q) (by omega) hq2) rfl gS_65 (by decide) rfl rfl rfl (Nat.le_of_ble_eq_true rfl) (by decide) ?_
    rintro _ _ - ⟨rfl, I2, rfl, f2, k2, p85, pM, p35, p34, p86⟩
    rw [hG.2.1 6 (by decide) (by decide) (by decide), hG.2.2, wi_m1] at p85 pM p35 p34 p86
    refine px_aload_n (kk := 0) rfl rfl rfl ?_
    refine px_callV0 CX12_goHour [] [] (vX12_goHour (tx := tx) ((k2 1 (by decide) (by decide)).trans ((hG.2.1 1 (by decide) (by decide) (by decide)).trans hn)) hn8 (fun l hl => by rw [p85 l hl]; rcases pM l hl with e | ⟨j, hj, hne, e1, e2⟩; exact .inl e; exact .inr ⟨j, hj, hne, e1, by rw [p85 j hj]; exact e2⟩) (LawR_mv hT ((k2 29 (by decide) (by decide)).trans (hG.2.1 29 (by decide) (by decide) (by decide))) (fun c hc => by rw [f2 c (fun e => by simp only [List.mem_cons, List.not_mem_nil, or_false] at e hc; omega), hG.1 c (fun e => by simp only [List.mem_cons, List.not_mem_nil, or_false] at e hc; omega)])) (by rw [f2 69 (by decide), hG.1 69 (by decide)]; exact hL)) rfl gS_65 (by decide) rfl rfl rfl (Nat.le_of_ble_eq_true rfl) (by decide) ?_
    rintro _ _ - ⟨rfl, I3, rfl, f3, g84⟩
    refine px_iinc3 (v := nI (k + 1)) rfl (n_inc k) rfl (by decide) ?_
    refine px_goto rfl ?_
    refine lX12_goDay hT hL hn8 hn hs hz hz60 hN (k := k + 1) (by omega) (I1 := I3) ⟨?_, ?_, ?_⟩ ?_
    · exact Fr_tr hG.1 (Fr_tr (Fr_mo f2 (by decide)) (Fr_mo f3 (by decide)))
    · intro j h1 h2 h3
      rw [f3 65 (by decide), k2 j h1 h2, hG.2.1 j h1 h2 h3]
    · rw [f3 65 (by decide), k2 36 (by decide) (by decide), hG.2.2]
    · refine RD_step hn8 hz60 hR hq1 hq3 p85 pM p35 p34 p86 (f2 84 (by decide)) f3 (fun l hl => ?_)
      rw [g84]
      simp only [if_pos hl]
      rw [f2 69 (by decide), f2 68 (by decide), k2 7 (by decide) (by decide), hG.1 69 (by decide), hG.1 68 (by decide), hG.2.1 7 (by decide) (by decide) (by decide)]
termination_by N - k
decreasing_by all_goals (have h := ‹¬ nI N ≤ nI k›; rw [n_le (by omega) (by omega)] at h; omega)
theorem vX12_goDay {I : Nat → Nat → Int32} {J : Nat → Nat → Int64} {p : Bool × Option Nat} {ro : List (Nat × Nat × (Nat → Int32))} {tx : List Ln} (hT : LawR tx I) {n : Nat} (hL : LK n (I 69)) (hn8 : n ≤ 8) (hn : I 65 1 = nI n) {s z : Nat} (hs : s < 6) (hz : I 99 s = nI z) (hz60 : z ≤ 60) {N : Nat} (hN : N ≤ 60) : Pv 6 0 0 CX12_goDay [.ref (65), .int (nI s), .int (nI N)] (gS, I, J, gR p, ro) (fun r S' => r = none ∧ ∃ I', S' = (gS, I', J, gR p, ro) ∧ GD I I' ∧ RD n z (sp_days tx n (I 69) (I 68) (I 65 7) (I 65 6) (fun j => (J 100 (60 * s + j)).toInt32) z (wiC (-1)) N (D0 (I 66))) I' N) := by
  refine ⟨okCX12_goDay, Nat.le_of_ble_eq_true rfl, (show Px _ _ _ _ 0 [some (.ref (65)), some (.int (nI s)), some (.int (nI N)), none] [] _ _ from ?_)⟩
  refine px_aload_n (kk := 0) rfl rfl rfl ?_
  refine px_callV0 CX12_beginDay [] [] (vX12_beginDay hn hn8) rfl gS_65 (by decide) rfl rfl rfl (Nat.le_of_ble_eq_true rfl) (by decide) ?_
  rintro _ _ - ⟨rfl, I2, rfl, f2, k2, b34, b35, b36, b84, b85, b86⟩
  refine px_iconst (v := nI 0) rfl k_0 ?_
  refine px_ist3 rfl rfl (by decide) ?_
  refine lX12_goDay hT hL hn8 hn hs hz hz60 hN (k := 0) (by omega) (I1 := I2) ⟨Fr_mo f2 (by decide), k2, b36⟩ ⟨b84, b85, fun l hl hne => absurd rfl hne, b35, 0, by omega, b34, .inl rfl⟩
