/-! HOURS OF A DAY -/
theorem sp_nx_congr {tx : List Ln} {n : Nat} {L P W W' M M' H H' : Nat → Int32} {co : Int32} (hn : n ≤ 8) (hM : MT n M) (h1 : ∀ j, j < n → W' j = W j) (h2 : ∀ j, j < n → M' j = M j) (h3 : ∀ j, j < n → H' j = H j) {l : Nat} (hl : l < n) : sp_nx tx n L P co W' M' H' l = sp_nx tx n L P co W M H l := by
  refine sp_set_congr hl (h1 l hl) h2 (fun _ _ => rfl) (fun hne => ?_)
  unfold sp_up
  rcases hM l hl with e | ⟨k, hk, -, e, -⟩
  · exact absurd e hne
  · rw [h2 l hl, e, mN_n (by omega), h1 l hl, h1 k hk, h3 l hl]
abbrev DS : Type := (Nat → Int32) × (Nat → Int32) × (Nat → Int32) × Int32 × Nat
noncomputable def sp_hour (tx : List Ln) (n : Nat) (L P : Nat → Int32) (cold cords : Int32) (E : Nat → Int32) (z : Nat) (wi : Int32 → Prop) (D : DS) : DS :=
  (sp_nx tx n L P cold D.1 (sp_tell n cords E wi (z - D.2.2.2.2) D.2.2.2.2 (n1, 0, D.2.2.2.1)).1.1 (hA D.2.1 D.2.2.1 (sp_tell n cords E wi (z - D.2.2.2.2) D.2.2.2.2 (n1, 0, D.2.2.2.1)).1.1),
   (sp_tell n cords E wi (z - D.2.2.2.2) D.2.2.2.2 (n1, 0, D.2.2.2.1)).1.1,
   (fun j => if (sp_tell n cords E wi (z - D.2.2.2.2) D.2.2.2.2 (n1, 0, D.2.2.2.1)).1.1 j ≠ -1 then hA D.2.1 D.2.2.1 (sp_tell n cords E wi (z - D.2.2.2.2) D.2.2.2.2 (n1, 0, D.2.2.2.1)).1.1 j + nI 1 else hA D.2.1 D.2.2.1 (sp_tell n cords E wi (z - D.2.2.2.2) D.2.2.2.2 (n1, 0, D.2.2.2.1)).1.1 j),
   (sp_tell n cords E wi (z - D.2.2.2.2) D.2.2.2.2 (n1, 0, D.2.2.2.1)).1.2.2,
   (sp_tell n cords E wi (z - D.2.2.2.2) D.2.2.2.2 (n1, 0, D.2.2.2.1)).2)
noncomputable def sp_days (tx : List Ln) (n : Nat) (L P : Nat → Int32) (cold cords : Int32) (E : Nat → Int32) (z : Nat) (wi : Int32 → Prop) : Nat → DS → DS
  | 0, D => D
  | k + 1, D => sp_hour tx n L P cold cords E z wi (sp_days tx n L P cold cords E z wi k D)
def DI (n : Nat) (D : DS) : Prop := MT n D.2.1 ∧ HS n D.2.1 D.2.2.1 ∧ D.2.2.2.2 ≤ 60
theorem hA_sym {n : Nat} {BM BA M : Nat → Int32} (hn : n ≤ 8) (hB : MT n BM) (hS : HS n BM BA) (hM : MT n M) : HS n M (hA BM BA M) := by
  intro l k hl hk e
  have e2 : M k = nI l := by
    rcases hM l hl with h | ⟨j, hj, -, h1, h2⟩
    · rw [h] at e; exact absurd e.symm (nI_nm (by omega))
    · rw [h1, n_eq (by omega) (by omega)] at e
      subst e
      exact h2
  unfold hA
  rw [e, e2]
  by_cases hb : BM l = nI k
  · have hb2 : BM k = nI l := by
      rcases hB l hl with h | ⟨j, hj, -, h1, h2⟩
      · rw [h] at hb; exact absurd hb.symm (nI_nm (by omega))
      · rw [h1, n_eq (by omega) (by omega)] at hb
        subst hb
        exact h2
    rw [if_pos ⟨nI_nm (by omega), hb⟩, if_pos ⟨nI_nm (by omega), hb2⟩]
    exact hS l k hl hk hb
  · have hb2 : ¬ BM k = nI l := fun z => by
      rcases hB k hk with h | ⟨j, hj, -, h1, h2⟩
      · rw [h] at z; exact nI_nm (by omega) z.symm
      · rw [h1, n_eq (by omega) (by omega)] at z
        subst z
        exact hb h2
    rw [if_neg (fun z => hb z.2), if_neg (fun z => hb2 z.2)]
theorem sp_hour_DI {tx : List Ln} {n : Nat} {L P : Nat → Int32} {cold cords : Int32} {E : Nat → Int32} {z : Nat} {wi : Int32 → Prop} {D : DS} (hn : n ≤ 8) (hc : C4 cords) (hz : z ≤ 60) (h : DI n D) : DI n (sp_hour tx n L P cold cords E z wi D) := by
  obtain ⟨h1, h2, h3⟩ := h
  have hT := sp_tell_TI (E := E) (wi := wi) hc hn (z - D.2.2.2.2) D.2.2.2.2 (n1, 0, D.2.2.2.1) TI_0
  refine ⟨hT.1, fun l k hl hk e => ?_, ?_⟩
  · have hs := hA_sym hn h1 h2 hT.1 l k hl hk e
    show (if _ then _ else _) = (if _ then _ else _)
    have ek : (sp_tell n cords E wi (z - D.2.2.2.2) D.2.2.2.2 (n1, 0, D.2.2.2.1)).1.1 l ≠ -1 := by
      rw [show (sp_tell n cords E wi (z - D.2.2.2.2) D.2.2.2.2 (n1, 0, D.2.2.2.1)).1.1 l = nI k from e]; exact nI_nm (by omega)
    have el : (sp_tell n cords E wi (z - D.2.2.2.2) D.2.2.2.2 (n1, 0, D.2.2.2.1)).1.1 k ≠ -1 := by
      rcases hT.1 l hl with q | ⟨j, hj, -, q1, q2⟩
      · exact absurd q ek
      · have e' : (sp_tell n cords E wi (z - D.2.2.2.2) D.2.2.2.2 (n1, 0, D.2.2.2.1)).1.1 l = nI k := e
        rw [q1, n_eq (by omega) (by omega)] at e'
        subst e'
        rw [q2]; exact nI_nm (by omega)
    rw [if_pos ek, if_pos el, hs]
  · have := sp_tell_pl (n := n) (co := cords) (E := E) (wi := wi) (z - D.2.2.2.2) D.2.2.2.2 (n1, 0, D.2.2.2.1)
    show (sp_tell n cords E wi (z - D.2.2.2.2) D.2.2.2.2 (n1, 0, D.2.2.2.1)).2 ≤ 60
    omega
theorem sp_days_DI {tx : List Ln} {n : Nat} {L P : Nat → Int32} {cold cords : Int32} {E : Nat → Int32} {z : Nat} {wi : Int32 → Prop} {D : DS} (hn : n ≤ 8) (hc : C4 cords) (hz : z ≤ 60) (h : DI n D) : ∀ k, DI n (sp_days tx n L P cold cords E z wi k D)
  | 0 => h
  | k + 1 => sp_hour_DI hn hc hz (sp_days_DI hn hc hz h k)
/-- what the class's town is as all is worked out -/
def TW (tx : List Ln) (n : Nat) (p : Bool × Option Nat) (I : Nat → Nat → Int32) : Prop := LawC tx p I ∧ I 1 4 = nI n ∧ n ≤ 8 ∧ PA n (I 4) ∧ C4 (I 1 5)
theorem TW_mv {tx : List Ln} {n : Nat} {p : Bool × Option Nat} {I I' : Nat → Nat → Int32} {cs : List Nat} (h : TW tx n p I) (hF : Fr cs I I') (h6 : K6 I I') (hc : 1 ∉ cs ∧ 4 ∉ cs ∧ 9 ∉ cs ∧ 10 ∉ cs) : TW tx n p I' := ⟨LawC_mv h.1 h6 (hF 9 hc.2.2.1) (hF 10 hc.2.2.2), by rw [hF 1 hc.1]; exact h.2.1, h.2.2.1, by rw [hF 4 hc.2.1]; exact h.2.2.2.1, by rw [hF 1 hc.1]; exact h.2.2.2.2⟩
abbrev c8 : List Nat := [6, 8, 12, 13, 15, 16, 17, 18, 19, 20, 21, 22, 23]
def D0 (W : Nat → Int32) : DS := (W, n1, fun _ => nI 0, nI 0, 0)
theorem D0_DI {n : Nat} {W : Nat → Int32} : DI n (D0 W) := ⟨MT_n1, fun _ _ _ _ _ => rfl, Nat.zero_le _⟩
def DCD (n : Nat) (D : DS) (I : Nat → Nat → Int32) : Prop := DC n D.1 D.2.1 D.2.2.1 D.2.2.2.1 D.2.2.2.2 I
/-- one hour lived in thought, behind what was told -/
theorem live_DC {tx : List Ln} {n : Nat} {p : Bool × Option Nat} {W M A : Nat → Int32} {s : DT} {pl : Nat} {I I' : Nat → Nat → Int32} (hn : n ≤ 8) (hs : MT n s.1) (hTC : TC n M A s I) (hp : I 15 7 = nI pl) (hW : ∀ l, l < n → I 22 l = W l) (hF : Fr [6, 8, 12, 13, 22, 18] I I')
    (h1 : I' 22 = fun j => if j < n then sp_nx tx n (I 5) (I 4) (I 1 6) (I 22) (I 17) (I 18) j else I 22 j) (h2 : I' 18 = fun j => if j < 8 ∧ I 17 j ≠ -1 then I 18 j + nI 1 else I 18 j) : DC n (sp_nx tx n (I 5) (I 4) (I 1 6) W s.1 (hA M A s.1)) s.1 (fun j => if s.1 j ≠ -1 then hA M A s.1 j + nI 1 else hA M A s.1 j) s.2.2 pl I' := by
  obtain ⟨t1, t2, t3, t4, t5, t6, t7⟩ := hTC
  refine ⟨fun l hl => ?_, fun l hl => ?_, fun l g1 g2 => ?_, fun l hl => ?_, ?_, ?_⟩
  · rw [h1]
    simp only [hl, if_true]
    exact sp_nx_congr hn hs hW t1 t4 hl
  · rw [hF 17 (by decide)]; exact t1 l hl
  · rw [hF 17 (by decide)]; exact t7 l g1 g2
  · rw [h2]
    simp only [show l < 8 by omega, true_and, t1 l hl, t4 l hl]
  · rw [hF 15 (by decide)]; exact t3
  · rw [hF 15 (by decide)]; exact hp
theorem TC_23 {n : Nat} {BM BA : Nat → Int32} {s : DT} {I : Nat → Nat → Int32} {f : Nat → Int32} (h : TC n BM BA s I) : TC n BM BA s (va_up I 23 f) := by
  obtain ⟨t1, t2, t3, t4, t5, t6, t7⟩ := h
  exact ⟨fun l hl => by rw [p_up_n _ _ (by decide)]; exact t1 l hl, by rw [p_up_n _ _ (by decide)]; exact t2, by rw [p_up_n _ _ (by decide)]; exact t3, fun l hl => by rw [p_up_n _ _ (by decide)]; exact t4 l hl, fun l hl => by rw [p_up_n _ _ (by decide)]; exact t5 l hl, fun l hl => by rw [p_up_n _ _ (by decide)]; exact t6 l hl, fun l h1 h2 => by rw [p_up_n _ _ (by decide)]; exact t7 l h1 h2⟩
/-- how many hours each waited -/
noncomputable def sp_wait (tx : List Ln) (n : Nat) (L P : Nat → Int32) (cold cords : Int32) (E : Nat → Int32) (z : Nat) (wi : Int32 → Prop) (D : DS) (l : Nat) : Nat → Int32
  | 0 => nI 0
  | k + 1 => if (sp_days tx n L P cold cords E z wi (k + 1) D).2.1 l = -1 then sp_wait tx n L P cold cords E z wi D l k + nI 1 else sp_wait tx n L P cold cords E z wi D l k
theorem lX8_spend {I : Nat → Nat → Int32} {J : Nat → Nat → Int64} {p : Bool × Option Nat} {ro : List (Nat × Nat × (Nat → Int32))} {tx : List Ln} {n : Nat} (hW : TW tx n p I) {s z : Nat} (hs : s < 6) (hz : I (53 + 2 * s) 4 = nI z) (hz60 : z ≤ 60) {N k : Nat} (hk : k ≤ N) (hN : N ≤ 60) {I1 : Nat → Nat → Int32} (hF : Fr c8 I I1) (h6 : K6 I I1) (hD : DCD n (sp_days tx n (I 5) (I 4) (I 1 6) (I 1 5) (fun j => (J (54 + 2 * s) j).toInt32) z (wiC (-1)) k (D0 (I 2))) I1) (hX : ∀ l, l < n → I1 23 l = (sp_wait tx n (I 5) (I 4) (I 1 6) (I 1 5) (fun j => (J (54 + 2 * s) j).toInt32) z (wiC (-1)) (D0 (I 2)) l k)) : Px 5 0 0 CX8_spend 4 [some (.ref (15)), some (.ref (53 + 2 * s)), some (.int (nI N)), some (.int (nI k))] [] (gS, I1, J, gR p, ro) (fun v S' => v = none ∧ ∃ I', S' = (gS, I', J, gR p, ro) ∧ Fr c8 I I' ∧ K6 I I' ∧ DCD n (sp_days tx n (I 5) (I 4) (I 1 6) (I 1 5) (fun j => (J (54 + 2 * s) j).toInt32) z (wiC (-1)) N (D0 (I 2))) I' ∧ ∀ l, l < n → I' 23 l = (sp_wait tx n (I 5) (I 4) (I 1 6) (I 1 5) (fun j => (J (54 + 2 * s) j).toInt32) z (wiC (-1)) (D0 (I 2)) l N)) := by
  refine px_iload_n (kk := 3) rfl rfl rfl ?_
  refine px_iload_n (kk := 2) rfl rfl rfl ?_
  refine px_icmp_ge rfl (fun c6 => ?_) (fun c6 => ?_)
  · refine px_return rfl rfl ?_
    rw [n_le (by omega) (by omega)] at c6
    obtain rfl : k = N := by omega
    exact ⟨rfl, I1, rfl, hF, h6, hD, hX⟩
  · rw [n_le (by omega) (by omega)] at c6
    have hW1 := TW_mv hW hF h6 (by decide)
    have hDI := sp_days_DI (tx := tx) (n := n) (L := I 5) (P := I 4) (cold := I 1 6) (cords := I 1 5) (E := (fun j => (J (54 + 2 * s) j).toInt32)) (z := z) (wi := wiC (-1)) (D := D0 (I 2)) hW.2.2.1 hW.2.2.2.2 hz60 D0_DI k
    refine px_aload_n (kk := 0) rfl rfl rfl ?_
    refine px_aload_n (kk := 1) rfl rfl rfl ?_
    refine px_iconst (v := -1) rfl k_m1 ?_
    refine px_callV0 CX8_tellHour [] [.ref _, .int _] (vX8_tell hW1.2.1 hW1.2.2.1 hs ((congrFun (hF (53 + 2 * s) (by simp; omega)) 4).trans hz) hz60 hD hDI.1 hDI.2.1 hDI.2.2) rfl gS_15 (by decide) rfl rfl rfl (Nat.le_of_ble_eq_true rfl) (by decide) ?_
    rintro _ _ - ⟨rfl, I2, rfl, hF2, hTC2, hp2⟩
    refine px_aload_n (kk := 0) rfl rfl rfl ?_
    refine px_callV0 CX8_countWaits [] [] (vX8_cw (by rw [hF2 1 (by decide)]; exact hW1.2.1) hW1.2.2.1) rfl gS_15 (by decide) rfl rfl rfl (Nat.le_of_ble_eq_true rfl) (by decide) ?_
    rintro _ _ - ⟨rfl, rfl⟩
    have hW2 := TW_mv hW1 hF2 (K6_fr hF2 (by decide)) (by decide)
    have hs2 := sp_tell_TI (E := (fun j => (J (54 + 2 * s) j).toInt32)) (wi := wiC (-1)) hW1.2.2.2.2 hW.2.2.1 (z - (sp_days tx n (I 5) (I 4) (I 1 6) (I 1 5) (fun j => (J (54 + 2 * s) j).toInt32) z (wiC (-1)) k (D0 (I 2))).2.2.2.2) (sp_days tx n (I 5) (I 4) (I 1 6) (I 1 5) (fun j => (J (54 + 2 * s) j).toInt32) z (wiC (-1)) k (D0 (I 2))).2.2.2.2 (n1, 0, (sp_days tx n (I 5) (I 4) (I 1 6) (I 1 5) (fun j => (J (54 + 2 * s) j).toInt32) z (wiC (-1)) k (D0 (I 2))).2.2.2.1) TI_0
    have hM2 : MT n (I2 17) := fun l hl => by
      rcases hs2.1 l hl with e | ⟨j, hj, h1, h2, h3⟩
      · exact Or.inl (by rw [hTC2.1 l hl]; exact e)
      · exact Or.inr ⟨j, hj, h1, by rw [hTC2.1 l hl]; exact h2, by rw [hTC2.1 j hj]; exact h3⟩
    have hW3 := TW_mv (I' := va_up I2 23 (fun j => if j < n ∧ I2 17 j = -1 then I2 23 j + nI 1 else I2 23 j)) hW2 (Fr_up (cs := [23]) Fr_rf (by decide) _) (K6_up (fun _ _ => rfl) (by decide) _) (by decide)
    refine px_aload_n (kk := 0) rfl rfl rfl ?_
    refine px_getR (r := 11) rfl gS_15 rfl (gR_15_1 _) ?_
    refine px_aload_n (kk := 0) rfl rfl rfl ?_
    refine px_getR (r := 22) rfl gS_15 rfl (gR_15_4 _) ?_
    refine px_aload_n (kk := 0) rfl rfl rfl ?_
    refine px_getR (r := 16) rfl gS_15 rfl (gR_15_2 _) ?_
    refine px_callV0 CX5_live [] [.ref 22, .ref 16] (vX5_live hW3.1 hW3.2.1 hW3.2.2.1 PG_th (w := 22) rfl (by rw [p_up_n _ _ (by decide)]; exact hM2) (by decide) (by decide) (by decide) hW3.2.2.2.1 (by decide) (by decide) (by decide) (by decide) (by decide) (by decide)) rfl gS_11 (by decide) rfl rfl rfl (Nat.le_of_ble_eq_true rfl) (by decide) ?_
    rintro _ _ - ⟨rfl, I4, rfl, hF4, h64, hw4, hh4⟩
    refine px_pop rfl rfl ?_
    refine px_iinc3 (v := nI (k + 1)) rfl (n_inc k) rfl (by decide) ?_
    refine px_goto rfl ?_
    refine lX8_spend hW hs hz hz60 (k := k + 1) (by omega) hN (Fr_tr (Fr_tr (Fr_tr hF (Fr_mo hF2 (by decide))) (Fr_up Fr_rf (by decide) _)) (Fr_mo hF4 (by decide))) (K6_tr (K6_tr (K6_tr h6 (K6_fr hF2 (by decide))) (K6_up (fun _ _ => rfl) (by decide) _)) h64) ?_ (fun l hl => ?_)
    · have e1 : I1 1 = I 1 := hF 1 (by decide)
      have e4 : I1 4 = I 4 := hF 4 (by decide)
      have e5 : I1 5 = I 5 := hF 5 (by decide)
      have q1 : I2 1 = I 1 := (hF2 1 (by decide)).trans e1
      have q4 : I2 4 = I 4 := (hF2 4 (by decide)).trans e4
      have q5 : I2 5 = I 5 := (hF2 5 (by decide)).trans e5
      rw [e1] at hTC2 hp2 hs2
      have hTC3 : TC n _ _ _ (va_up I2 23 (fun j => if j < n ∧ I2 17 j = -1 then I2 23 j + nI 1 else I2 23 j)) := TC_23 hTC2
      have := live_DC (p := p) (W := (sp_days tx n (I 5) (I 4) (I 1 6) (I 1 5) (fun j => (J (54 + 2 * s) j).toInt32) z (wiC (-1)) k (D0 (I 2))).1) hW.2.2.1 hs2.1 hTC3 (by rw [p_up_n _ _ (by decide)]; exact hp2) (fun l hl => (by rw [p_up_n _ _ (by decide), hF2 22 (by decide)]; exact hD.1 l hl)) hF4 hw4 hh4
      simp only [p_up_n _ _ (show (5 : Nat) ≠ 23 by decide), p_up_n _ _ (show (4 : Nat) ≠ 23 by decide), p_up_n _ _ (show (1 : Nat) ≠ 23 by decide), q1, q4, q5] at this
      exact this
    · have e1 : I1 1 = I 1 := hF 1 (by decide)
      rw [e1] at hTC2
      rw [hF4 23 (by decide), p_up_s]
      have em : I2 17 l = (sp_days tx n (I 5) (I 4) (I 1 6) (I 1 5) (fun j => (J (54 + 2 * s) j).toInt32) z (wiC (-1)) (k + 1) (D0 (I 2))).2.1 l := hTC2.1 l hl
      rw [sp_wait, ← em, hF2 23 (by decide), hX l hl]
      simp only [hl, true_and]
termination_by N - k
decreasing_by all_goals (have h := ‹¬ nI N ≤ nI k›; rw [n_le (by omega) (by omega)] at h; omega)
theorem vX8_spend {I : Nat → Nat → Int32} {J : Nat → Nat → Int64} {p : Bool × Option Nat} {ro : List (Nat × Nat × (Nat → Int32))} {tx : List Ln} {n : Nat} (hW : TW tx n p I) {s z : Nat} (hs : s < 6) (hz : I (53 + 2 * s) 4 = nI z) (hz60 : z ≤ 60) {N : Nat} (hN : N ≤ 60) : Pv 5 0 0 CX8_spend [.ref (15), .ref (53 + 2 * s), .int (nI N)] (gS, I, J, gR p, ro) (fun v S' => v = none ∧ ∃ I', S' = (gS, I', J, gR p, ro) ∧ Fr c8 I I' ∧ K6 I I' ∧ DCD n (sp_days tx n (I 5) (I 4) (I 1 6) (I 1 5) (fun j => (J (54 + 2 * s) j).toInt32) z (wiC (-1)) N (D0 (I 2))) I' ∧ ∀ l, l < n → I' 23 l = (sp_wait tx n (I 5) (I 4) (I 1 6) (I 1 5) (fun j => (J (54 + 2 * s) j).toInt32) z (wiC (-1)) (D0 (I 2)) l N)) := by
  refine ⟨okCX8_spend, Nat.le_of_ble_eq_true rfl, (show Px _ _ _ _ 0 [some (.ref (15)), some (.ref (53 + 2 * s)), some (.int (nI N)), none] [] _ _ from ?_)⟩
  refine px_aload_n (kk := 0) rfl rfl rfl ?_
  refine px_callV0 CX8_begin [] [] (vX8_begin hW.2.2.1) rfl gS_15 (by decide) rfl rfl rfl (Nat.le_of_ble_eq_true rfl) (by decide) ?_
  rintro _ _ - ⟨rfl, I1, rfl, hF, hD, hX⟩
  refine px_iconst (v := nI 0) rfl k_0 ?_
  refine px_ist3 rfl rfl (by decide) ?_
  exact lX8_spend hW hs hz hz60 (k := 0) (by omega) hN (Fr_mo hF (by decide)) (K6_fr hF (by decide)) hD (fun l hl => hX l (by have := hW.2.2.1; omega))
