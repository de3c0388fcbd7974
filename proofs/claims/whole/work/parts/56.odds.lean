/-! NIECES -/
theorem px_getJe {d mc ms : Nat} {cd : pm_C} {i b : Nat} {con : Int} {ls : List (Option Value)} {st : List Value} {Sh : List (Nat × Nat)} {I : Nat → Nat → Int32} {J : Nat → Nat → Int64} {R : Nat → Nat → Option Nat} {ro : List (Nat × Nat × (Nat → Int32))} {Q : Option Value → pm_M → Prop} {a k ci pos idx n : Nat} {v : Int64} (h : (cdE cd)[i]? = some (b, 3, .getfield idx, [ci, k, pos], con)) (hS : Sh[a]? = some (ci, n)) (hty : tyC ci k = .long) (hv : J a k = v) (kk : Px d mc ms cd (i + 1) ls (.long v :: st) (Sh, I, J, R, ro) Q) : Px d mc ms cd i ls (.ref a :: st) (Sh, I, J, R, ro) Q := px_getJ h hS hty (hv ▸ kk)
theorem px_jeq {d mc ms : Nat} {cd : pm_C} {i : Nat} {ls : List (Option Value)} {st : List Value} {S : pm_M} {Q : Option Value → pm_M → Prop} {x y : Int64} (e : x = y) (kk : Px d mc ms cd i ls (.long y :: st) S Q) : Px d mc ms cd i ls (.long x :: st) S Q := e ▸ kk
theorem v_pair {v : Int32} {a b : Nat} (e1 : v / nI 10 = nI a) (e2 : v - v / nI 10 * nI 10 = nI b) : v = nI (10 * a + b) := by
  have h : v = (v - v / nI 10 * nI 10) + v / nI 10 * nI 10 := (Int32.sub_add_cancel _ _).symm
  rw [e2, e1, n_mul, nI_add] at h
  exact h.trans (by congr 1; omega)
theorem l_12 : (12 : Int64) = lN 12 := by decide +kernel
theorem l_1 : (1 : Int64) = lN 1 := by decide +kernel
theorem l_0 : (0 : Int64) = lN 0 := by decide +kernel
noncomputable def sp_ni (n : Nat) (co : Int32) (E : Nat → Int32) (nx : (Nat → Int32) → Nat → Int32) (sk : Nat) (wa : Int32) : Nat → Nat → DT → Nat
  | 0, _, s => if wa ≤ sp_sum (nx s.1) n then 1 else 0
  | m + 1, k, s => @ite _ (TK n co s (E k / nI 10) (E k - E k / nI 10 * nI 10)) (Classical.propDecidable _)
      (sk * sp_ni n co E nx sk wa m (k + 1) (sp_ask n co s (E k / nI 10) (E k - E k / nI 10 * nI 10)) +
        (12 - sk) * @ite _ (TK n co s (E k / nI 10) (nI (if mN (E k - E k / nI 10 * nI 10) + 1 < n then mN (E k - E k / nI 10 * nI 10) + 1 else 0))) (Classical.propDecidable _)
          (sp_ni n co E nx sk wa m (k + 1) (sp_ask n co s (E k / nI 10) (nI (if mN (E k - E k / nI 10 * nI 10) + 1 < n then mN (E k - E k / nI 10 * nI 10) + 1 else 0))))
          (sp_ni n co E nx sk wa m (k + 1) s))
      (12 * sp_ni n co E nx sk wa m (k + 1) s)
theorem sp_ni_le {n : Nat} {co : Int32} {E : Nat → Int32} {nx : (Nat → Int32) → Nat → Int32} {sk : Nat} {wa : Int32} (hs : sk ≤ 12) : ∀ (m k : Nat) (s : DT), sp_ni n co E nx sk wa m k s ≤ 12 ^ m
  | 0, k, s => by unfold sp_ni; split <;> simp
  | m + 1, k, s => by
    have h12 : 12 ^ (m + 1) = 12 * 12 ^ m := by rw [Nat.pow_succ, Nat.mul_comm]
    unfold sp_ni
    by_cases h1 : TK n co s (E k / nI 10) (E k - E k / nI 10 * nI 10)
    · rw [if_pos h1]
      have a1 := sp_ni_le (n := n) (co := co) (E := E) (nx := nx) (wa := wa) hs m (k + 1) (sp_ask n co s (E k / nI 10) (E k - E k / nI 10 * nI 10))
      have e : 12 * 12 ^ m = sk * 12 ^ m + (12 - sk) * 12 ^ m := by rw [← Nat.add_mul]; congr 1; omega
      rw [h12, e]
      refine Nat.add_le_add (Nat.mul_le_mul_left _ a1) (Nat.mul_le_mul_left _ ?_)
      by_cases h2 : TK n co s (E k / nI 10) (nI (if mN (E k - E k / nI 10 * nI 10) + 1 < n then mN (E k - E k / nI 10 * nI 10) + 1 else 0))
      · rw [if_pos h2]; exact sp_ni_le hs m (k + 1) _
      · rw [if_neg h2]; exact sp_ni_le hs m (k + 1) _
    · rw [if_neg h1, h12]
      exact Nat.mul_le_mul_left _ (sp_ni_le hs m (k + 1) _)
def OC (n : Nat) (s : DT) (I : Nat → Nat → Int32) : Prop := (∀ l, l < n → I 31 l = s.1 l) ∧ I 30 2 = nI s.2.1
def FJ (J J' : Nat → Nat → Int64) : Prop := (∀ c, c ≠ 29 → J' c = J c) ∧ J' 29 8 = J 29 8
abbrev co5 : List Nat := [12, 13, 30, 31, 32]
theorem OC_tie {n : Nat} {s : DT} {I : Nat → Nat → Int32} {co : Int32} (hn : n ≤ 8) (h : OC n s I) {a b : Nat} (ha : a < n) (hb : b < n) (hne : a ≠ b) (h1 : s.1 a = -1) (h2 : s.1 b = -1) (h3 : nI s.2.1 < co) : OC n (sp_ask n co s (nI a) (nI b)) (va_up (va_up (va_up I 31 (va_up (va_up (I 31) a (nI b)) b (nI a))) 32 (va_up (va_up (I 32) a (nI 0)) b (nI 0))) 30 (va_up (I 30) 2 (I 30 2 + nI 1))) := by
  rw [sp_ask_t ha hb hne h1 h2 h3 hn]
  refine ⟨fun l hl => ?_, ?_⟩
  · simp only [va_up, Nat.reduceEqDiff, if_true, if_false, h.1 l hl]
  · simp only [va_up, Nat.reduceEqDiff, if_true, if_false, h.2, nI_add]
theorem OC_untie {n : Nat} {s : DT} {I : Nat → Nat → Int32} {co : Int32} (hn : n ≤ 8) {a b : Nat} (h : OC n (sp_ask n co s (nI a) (nI b)) I) (ha : a < n) (hb : b < n) (hne : a ≠ b) (h1 : s.1 a = -1) (h2 : s.1 b = -1) (h3 : nI s.2.1 < co) : OC n s (va_up (va_up (va_up I 31 (va_up (va_up (I 31) a (-1)) b (-1))) 32 (va_up (va_up (I 32) a (nI 0)) b (nI 0))) 30 (va_up (I 30) 2 (I 30 2 - nI 1))) := by
  rw [sp_ask_t ha hb hne h1 h2 h3 hn] at h
  refine ⟨fun l hl => ?_, ?_⟩
  · simp only [va_up, Nat.reduceEqDiff, if_true, if_false]
    by_cases e1 : l = b
    · subst e1; simp [h2]
    · by_cases e2 : l = a
      · subst e2; simp [e1, h1]
      · have := h.1 l hl
        simp only [va_up, e1, e2, if_false] at this ⊢
        exact this
  · simp only [va_up, Nat.reduceEqDiff, if_true, if_false, h.2]
    exact n_sub (by omega)
theorem vX4_with {I : Nat → Nat → Int32} {J : Nat → Nat → Int64} {p : Bool × Option Nat} {ro : List (Nat × Nat × (Nat → Int32))} {tx : List Ln} {n : Nat} (hW : TW tx n p I) {sk : Nat} (hsk12 : sk ≤ 12) {wa : Int32}  {E : Nat → Int32} {m k w ab : Nat} {s : DT} {a b : Nat} (ha : a < n) (hb : b < n) (hne : a ≠ b) (h1 : s.1 a = -1) (h2 : s.1 b = -1) (h3 : nI s.2.1 < I 1 5) {I1 : Nat → Nat → Int32} {J1 : Nat → Nat → Int64} (hF : Fr co5 I I1) (hI : TI n s) (hOC : OC n s I1) (hJ1 : J1 29 7 = lN ab) (hw : w * 12 ^ m ≤ 12 ^ 6) (hGo : ∀ (w : Nat) (s : DT) (ab : Nat) (I1 : Nat → Nat → Int32) (J1 : Nat → Nat → Int64), Fr co5 I I1 → TI n s → OC n s I1 → J1 29 7 = lN ab → w * 12 ^ m ≤ 12 ^ 6 → Pv (3 + 2 * m) 0 0 CX4_go [.ref 29, .int (nI (k + 1)), .long (lN w)] (gS, I1, J1, gR p, ro) (fun r S' => r = none ∧ ∃ I' J', S' = (gS, I', J', gR p, ro) ∧ Fr co5 I I' ∧ OC n s I' ∧ J' 29 7 = lN (ab + w * (sp_ni n (I 1 5) E (fun M => sp_nx tx n (I 5) (I 4) (I 1 6) (I 2) M (fun _ => nI 0)) sk wa m (k + 1) s)) ∧ FJ J1 J')) : Pv (3 + 2 * m + 1) 0 0 CX4_goWith [.ref (29), .int (nI (k + 1)), .long (lN w), .int (nI a), .int (nI b)] (gS, I1, J1, gR p, ro) (fun r S' => r = none ∧ ∃ I' J', S' = (gS, I', J', gR p, ro) ∧ Fr co5 I I' ∧ OC n s I' ∧ J' 29 7 = lN (ab + w * (sp_ni n (I 1 5) E (fun M => sp_nx tx n (I 5) (I 4) (I 1 6) (I 2) M (fun _ => nI 0)) sk wa m (k + 1) (sp_ask n (I 1 5) s (nI a) (nI b)))) ∧ FJ J1 J') := by
  refine ⟨okCX4_goWith, Nat.le_of_ble_eq_true rfl, (show Px _ _ _ _ 0 [some (.ref (29)), some (.int (nI (k + 1))), some (.long (lN w)), none, some (.int (nI a)), some (.int (nI b))] [] _ _ from ?_)⟩
  have hn8 := hW.2.2.1
  refine px_aload_n (kk := 0) rfl rfl rfl ?_
  refine px_getR (r := 30) rfl gS_29 rfl (gR_29_2 _) ?_
  refine px_iload rfl rfl ?_
  refine px_iload rfl rfl ?_
  refine px_iconst (v := nI 0) rfl k_0 ?_
  refine px_callV0 CX6_tie [] [.int _, .int _, .int _] (vX6_tie PG_od (a := a) (b := b) (by omega) (by omega)) rfl gS_30 (by decide) rfl rfl rfl (Nat.le_of_ble_eq_true rfl) (by omega) ?_
  rintro _ _ - ⟨rfl, rfl⟩
  refine px_aload_n (kk := 0) rfl rfl rfl ?_
  refine px_iload_n (kk := 1) rfl rfl rfl ?_
  refine px_lload_n (kk := 2) rfl rfl rfl ?_
  refine px_callV0 CX4_go [] [.int _, .long _] (hGo w (sp_ask n (I 1 5) s (nI a) (nI b)) ab _ J1 (Fr_up (Fr_up (Fr_up hF (by decide) _) (by decide) _) (by decide) _) (sp_ask_TI hI hW.2.2.2.2 hn8) (OC_tie hn8 hOC ha hb hne h1 h2 h3) hJ1 hw) rfl gS_29 (by decide) rfl rfl rfl (Nat.le_of_ble_eq_true rfl) (by omega) ?_
  rintro _ _ - ⟨rfl, I2, J2, rfl, hF2, hO2, hJ2, hFJ2⟩
  refine px_aload_n (kk := 0) rfl rfl rfl ?_
  refine px_getR (r := 30) rfl gS_29 rfl (gR_29_2 _) ?_
  refine px_iload rfl rfl ?_
  refine px_iload rfl rfl ?_
  refine px_callV0 CX6_untie [] [.int _, .int _] (vX6_untie PG_od (a := a) (b := b) (by omega) (by omega)) rfl gS_30 (by decide) rfl rfl rfl (Nat.le_of_ble_eq_true rfl) (by omega) ?_
  rintro _ _ - ⟨rfl, rfl⟩
  refine px_return rfl rfl ?_
  exact ⟨rfl, _, J2, rfl, Fr_up (Fr_up (Fr_up hF2 (by decide) _) (by decide) _) (by decide) _, OC_untie hn8 hO2 ha hb hne h1 h2 h3, hJ2, hFJ2⟩
theorem FJ_tr {J J1 J2 : Nat → Nat → Int64} (h : FJ J J1) (h2 : FJ J1 J2) : FJ J J2 := ⟨fun c hc => (h2.1 c hc).trans (h.1 c hc), h2.2.trans h.2⟩
theorem lX4_rec {I : Nat → Nat → Int32} {J : Nat → Nat → Int64} {p : Bool × Option Nat} {ro : List (Nat × Nat × (Nat → Int32))} {tx : List Ln} {n : Nat} (hW : TW tx n p I) {sk : Nat} (hsk : I 29 5 = nI sk) (hsk12 : sk ≤ 12) {wa : Int32} (hwa : I 29 6 = wa) {N : Nat} (hN : I 29 4 = nI N) (hN6 : N ≤ 6) {E : Nat → Int32} (hE : ∀ j, j < N → I 33 j = E j) (hNR : ∀ x y, x < n → y < n → NR tx n I I x y) : ∀ (m k w : Nat) (s : DT) (ab : Nat) (I1 : Nat → Nat → Int32) (J1 : Nat → Nat → Int64), k + m = N → Fr co5 I I1 → TI n s → OC n s I1 → J1 29 7 = lN ab → w * 12 ^ m ≤ 12 ^ 6 → Pv (3 + 2 * m) 0 0 CX4_go [.ref 29, .int (nI k), .long (lN w)] (gS, I1, J1, gR p, ro) (fun r S' => r = none ∧ ∃ I' J', S' = (gS, I', J', gR p, ro) ∧ Fr co5 I I' ∧ OC n s I' ∧ J' 29 7 = lN (ab + w * (sp_ni n (I 1 5) E (fun M => sp_nx tx n (I 5) (I 4) (I 1 6) (I 2) M (fun _ => nI 0)) sk wa m k s)) ∧ FJ J1 J')
  | 0, k, w, s, ab, I1, J1, hk, hF, hI, hOC, hJ1, hw => by
    have hk : k = N := hk
    have hn8 := hW.2.2.1
    have hw : w ≤ 12 ^ 6 := by simpa using hw
    refine ⟨okCX4_go, Nat.le_of_ble_eq_true rfl, (show Px (2 + 1) _ _ _ 0 [some (.ref (29)), some (.int (nI k)), some (.long (lN w)), none, none, none, none] [] _ _ from ?_)⟩
    refine px_lload_n (kk := 2) rfl rfl rfl ?_
    refine px_lconst (v := 0) rfl (by decide) ?_
    refine px_lcmp rfl ?_
    refine px_if_ne rfl (fun c3 => ?_) (fun c3 => ?_)
    · refine px_iload_n (kk := 1) rfl rfl rfl ?_
      refine px_aload_n (kk := 0) rfl rfl rfl ?_
      refine px_getIe rfl gS_29 rfl ((congrFun (hF 29 (by decide)) 4).trans hN) ?_
      refine px_icmp_lt rfl (fun h => absurd h (by rw [hk]; exact Int32.lt_irrefl)) (fun c8 => ?_)
      have hM1 : MT n (I1 31) := fun l hl => by
        rcases hI.1 l hl with e | ⟨j, hj, h1, h2, h3⟩
        · exact Or.inl (by rw [hOC.1 l hl]; exact e)
        · exact Or.inr ⟨j, hj, h1, by rw [hOC.1 l hl]; exact h2, by rw [hOC.1 j hj]; exact h3⟩
      have hW1 := TW_mv hW hF (K6_fr hF (by decide)) (by decide)
      have hNR1 : ∀ x y, x < n → y < n → NR tx n I1 I1 x y := fun x y hx hy hxy => by
        rw [hF 14 (by decide), hF 5 (by decide), hF 4 (by decide), hF 1 (by decide), hF 2 (by decide)]
        exact hNR x y hx hy hxy
      refine px_aload_n (kk := 0) rfl rfl rfl ?_
      refine px_getR (r := 11) rfl gS_29 rfl (gR_29_1 _) ?_
      refine px_aload_n (kk := 0) rfl rfl rfl ?_
      refine px_getR (r := 30) rfl gS_29 rfl (gR_29_2 _) ?_
      refine px_getR (r := 31) rfl gS_30 rfl (gR_30_0 _) ?_
      refine px_callV0 CX5_tryWay [] [.ref 31] (vX5_tryWay (tx := tx) hW1.2.1 hn8 (t := 31) rfl (by decide) (by decide) hM1 hW1.2.2.2.1 hNR1) rfl gS_11 (by decide) rfl rfl rfl (Nat.le_of_ble_eq_true rfl) (by decide) ?_
      rintro _ _ - ⟨rfl, I2, rfl, hF2, hN2⟩
      have hnx : ∀ j, j < n → I2 13 j = (fun M => sp_nx tx n (I 5) (I 4) (I 1 6) (I 2) M (fun _ => nI 0)) s.1 j := fun j hj => by
        rw [hN2 j hj, hF 5 (by decide), hF 4 (by decide), hF 1 (by decide), hF 2 (by decide)]
        exact sp_nx_congr hn8 hI.1 (fun _ _ => rfl) hOC.1 (fun _ _ => rfl) hj
      have hO2 : OC n s I2 := ⟨fun l hl => by rw [hF2 31 (by decide)]; exact hOC.1 l hl, by rw [hF2 30 (by decide)]; exact hOC.2⟩
      refine px_aload_n (kk := 0) rfl rfl rfl ?_
      refine px_getR (r := 1) rfl gS_29 rfl (gR_29_0 _) ?_
      refine px_aload_n (kk := 0) rfl rfl rfl ?_
      refine px_getR (r := 11) rfl gS_29 rfl (gR_29_1 _) ?_
      refine px_getR (r := 13) rfl gS_11 rfl (gR_11_3 _) ?_
      refine px_callV0 CX9_sum [] [.ref 13] (vX9_sum (by rw [hF2 1 (by decide)]; exact hW1.2.1) hn8 13 rfl) rfl gS_1 (by decide) rfl rfl rfl (Nat.le_of_ble_eq_true rfl) (by decide) ?_
      rintro _ _ - ⟨rfl, rfl⟩
      rw [sp_sum_congr hnx]
      refine px_aload_n (kk := 0) rfl rfl rfl ?_
      refine px_getIe rfl gS_29 rfl (by first | exact ((congrFun (hF2 29 (by decide)) 6).trans ((congrFun (hF 29 (by decide)) 6).trans hwa))) ?_
      refine px_icmp_lt rfl (fun c23 => ?_) (fun c23 => ?_)
      · refine px_return rfl rfl ?_
        refine ⟨rfl, I2, J1, rfl, Fr_tr hF (Fr_mo hF2 (by decide)), hO2, ?_, fun _ _ => rfl, rfl⟩
        dsimp only at c23
        rw [sp_ni, if_neg (fun h => by rw [i_le] at h; rw [i_lt] at c23; omega), Nat.mul_zero, Nat.add_zero]
        exact hJ1
      · refine px_aload_n (kk := 0) rfl rfl rfl ?_
        refine px_dup rfl rfl ?_
        refine px_getJe rfl gS_29 rfl hJ1 ?_
        refine px_lload_n (kk := 2) rfl rfl rfl ?_
        skip
        refine px_ladd rfl ?_
        rw [lN_add]
        refine px_putJ rfl gS_29 rfl rfl ?_
        refine px_return rfl rfl ?_
        refine ⟨rfl, I2, _, rfl, Fr_tr hF (Fr_mo hF2 (by decide)), hO2, ?_, fun c hc => by rw [p_up_n _ _ hc], by rw [p_up_s, p_up_n _ _ (by decide)]⟩
        dsimp only at c23
        rw [sp_ni, if_pos (by rw [i_le]; rw [i_lt] at c23; omega), Nat.mul_one, p_up_s, p_up_s]
    · refine px_return rfl rfl ?_
      rw [lg_cmp_eq, l_0, pk_lEQ (by omega) (by decide)] at c3
      subst c3
      exact ⟨rfl, I1, J1, rfl, hF, hOC, by rw [Nat.zero_mul, Nat.add_zero]; exact hJ1, fun _ _ => rfl, rfl⟩
  | m + 1, k, w, s, ab, I1, J1, hk, hF, hI, hOC, hJ1, hw => by
    have hn8 := hW.2.2.1
    have hpow : 12 ^ (m + 1) = 12 * 12 ^ m := by rw [Nat.pow_succ, Nat.mul_comm]
    have hp1 : 1 ≤ 12 ^ m := Nat.pos_of_ne_zero (by simp)
    have hw6 : w ≤ 12 ^ 6 := Nat.le_trans (Nat.le_mul_of_pos_right _ (by rw [hpow]; omega)) hw
    refine ⟨okCX4_go, Nat.le_of_ble_eq_true rfl, (show Px (3 + 2 * m + 1 + 1) _ _ _ 0 [some (.ref (29)), some (.int (nI k)), some (.long (lN w)), none, none, none, none] [] _ _ from ?_)⟩
    refine px_lload_n (kk := 2) rfl rfl rfl ?_
    refine px_lconst (v := 0) rfl (by decide) ?_
    refine px_lcmp rfl ?_
    refine px_if_ne rfl (fun c3 => ?_) (fun c3 => ?_)
    · have hM1 : MT n (I1 31) := fun l hl => by
        rcases hI.1 l hl with e | ⟨j, hj, h1, h2, h3⟩
        · exact Or.inl (by rw [hOC.1 l hl]; exact e)
        · exact Or.inr ⟨j, hj, h1, by rw [hOC.1 l hl]; exact h2, by rw [hOC.1 j hj]; exact h3⟩
      have hW1 := TW_mv hW hF (K6_fr hF (by decide)) (by decide)
      have hNR1 : ∀ x y, x < n → y < n → NR tx n I1 I1 x y := fun x y hx hy hxy => by
        rw [hF 14 (by decide), hF 5 (by decide), hF 4 (by decide), hF 1 (by decide), hF 2 (by decide)]
        exact hNR x y hx hy hxy
      refine px_iload_n (kk := 1) rfl rfl rfl ?_
      refine px_aload_n (kk := 0) rfl rfl rfl ?_
      refine px_getIe rfl gS_29 rfl ((congrFun (hF 29 (by decide)) 4).trans hN) ?_
      refine px_icmp_lt rfl (fun c8 => ?_) (fun h => absurd (nI_lt (by omega) (by omega)) h)
      refine px_aload_n (kk := 0) rfl rfl rfl ?_
      refine px_getR (r := 33) rfl gS_29 rfl (gR_29_3 _) ?_
      refine px_iload_n (kk := 1) rfl rfl rfl ?_
      refine px_ialde (j := k) (v := E k) rfl gS_33 rfl (by omega) ((congrFun (hF 33 (by decide)) k).trans (hE k (by omega))) ?_
      refine px_bipush (v := nI 10) rfl b_10 ?_
      refine px_idiv rfl (by decide) ?_
      refine px_ist4 rfl rfl (by decide) ?_
      refine px_aload_n (kk := 0) rfl rfl rfl ?_
      refine px_getR (r := 33) rfl gS_29 rfl (gR_29_3 _) ?_
      refine px_iload_n (kk := 1) rfl rfl rfl ?_
      refine px_ialde (j := k) (v := E k) rfl gS_33 rfl (by omega) ((congrFun (hF 33 (by decide)) k).trans (hE k (by omega))) ?_
      refine px_bipush (v := nI 10) rfl b_10 ?_
      refine px_irem rfl (by decide) ?_
      refine px_ist5 rfl rfl (by decide) ?_
      refine px_aload_n (kk := 0) rfl rfl rfl ?_
      refine px_getR (r := 1) rfl gS_29 rfl (gR_29_0 _) ?_
      refine px_aload_n (kk := 0) rfl rfl rfl ?_
      refine px_getR (r := 33) rfl gS_29 rfl (gR_29_3 _) ?_
      refine px_iload_n (kk := 1) rfl rfl rfl ?_
      refine px_ialde (j := k) (v := E k) rfl gS_33 rfl (by omega) ((congrFun (hF 33 (by decide)) k).trans (hE k (by omega))) ?_
      refine px_callV0 CX9_isPair [] [.int _] (vX9_isPair hW1.2.1 hn8) rfl gS_1 (by decide) rfl rfl rfl (Nat.le_of_ble_eq_true rfl) (by omega) ?_
      rintro _ _ - (⟨hp, rfl, rfl⟩ | ⟨hp, rfl, rfl⟩)
      · refine px_if_eq rfl (fun h => absurd h (by decide)) (fun _ => ?_)
        refine px_aload_n (kk := 0) rfl rfl rfl ?_
        refine px_getR (r := 30) rfl gS_29 rfl (gR_29_2 _) ?_
        refine px_aload_n (kk := 0) rfl rfl rfl ?_
        refine px_getR (r := 1) rfl gS_29 rfl (gR_29_0 _) ?_
        refine px_iload rfl rfl ?_
        refine px_iload rfl rfl ?_
        refine px_callV0 CX6_takes [] [.ref 1, .int _, .int _] (vX6_takes PG_od hW1.2.1 hn8) rfl gS_30 (by decide) rfl rfl rfl (Nat.le_of_ble_eq_true rfl) (by omega) ?_
        rintro _ _ - (⟨ht, rfl, rfl⟩ | ⟨ht, rfl, rfl⟩)
        · obtain ⟨a, b, ha, hb, hne, e1, e2, g1, g2, g3⟩ := ht
          rw [hOC.1 a ha] at g1
          rw [hOC.1 b hb] at g2
          rw [hOC.2, hF 1 (by decide)] at g3
          rw [e2, e1]
          have hyt : TK n (I 1 5) s (E k / nI 10) (E k - E k / nI 10 * nI 10) := ⟨a, b, ha, hb, hne, e1, e2, g1, g2, g3⟩
          refine px_if_ne rfl (fun _ => ?_) (fun h => absurd h (by decide))
          refine px_aload_n (kk := 0) rfl rfl rfl ?_
          refine px_iload_n (kk := 1) rfl rfl rfl ?_
          refine px_iconst (v := nI 1) rfl k_1 ?_
          refine px_iaddN rfl ?_
          refine px_lload_n (kk := 2) rfl rfl rfl ?_
          refine px_aload_n (kk := 0) rfl rfl rfl ?_
          refine px_getIe rfl gS_29 rfl (by first | exact ((congrFun (hF 29 (by decide)) 5).trans hsk) | exact ((congrFun (hF2 29 (by decide)) 5).trans hsk)) ?_
          refine px_i2l rfl ?_
          refine px_lmul rfl ?_
          refine px_jeq (y := lN (w * sk)) (by rw [nI_l (by omega), lN_mul]) ?_
          refine px_iload rfl rfl ?_
          refine px_iload rfl rfl ?_
          refine px_callV0 CX4_goWith [] [.int _, .long _, .int _, .int _] (vX4_with (J := J) hW hsk12 (m := m) (k := k) (w := w * sk) ha hb hne g1 g2 g3 hF hI hOC hJ1 (by rw [hpow] at hw; exact Nat.le_trans (by rw [Nat.mul_assoc]; exact Nat.mul_le_mul_left _ (Nat.mul_le_mul_right _ hsk12)) hw) (fun w s ab I1 J1 hF hI hOC hJ1 hw => lX4_rec (J := J) hW hsk hsk12 hwa hN hN6 hE hNR m (k + 1) w s ab I1 J1 (by omega) hF hI hOC hJ1 hw)) rfl gS_29 (by decide) rfl rfl rfl (Nat.le_of_ble_eq_true rfl) (by omega) ?_
          rintro _ _ - ⟨rfl, I2, J2, rfl, hF2, hO2, hJ2, hFJ2⟩
          have hW2 := TW_mv hW hF2 (K6_fr hF2 (by decide)) (by decide)
          refine px_iload rfl rfl ?_
          refine px_iconst (v := nI 1) rfl k_1 ?_
          refine px_iaddN rfl ?_
          refine px_aload_n (kk := 0) rfl rfl rfl ?_
          refine px_getR (r := 1) rfl gS_29 rfl (gR_29_0 _) ?_
          refine px_getIe rfl gS_1 rfl ((congrFun (hF2 1 (by decide)) 4).trans hW.2.1) ?_
          refine px_icmp_ge rfl (fun c88 => ?_) (fun c88 => ?_)
          · refine px_iconst (v := nI 0) rfl k_0 ?_
            rw [n_le (by omega) (by omega)] at c88
            refine px_ieq (y := nI (if b + 1 < n then b + 1 else 0)) (by rw [if_neg (by omega)]) ?_
            refine px_ist6 rfl rfl (by decide) ?_
            refine px_aload_n (kk := 0) rfl rfl rfl ?_
            refine px_getR (r := 30) rfl gS_29 rfl (gR_29_2 _) ?_
            refine px_aload_n (kk := 0) rfl rfl rfl ?_
            refine px_getR (r := 1) rfl gS_29 rfl (gR_29_0 _) ?_
            refine px_iload rfl rfl ?_
            refine px_iload rfl rfl ?_
            refine px_callV0 CX6_takes [] [.ref 1, .int _, .int _] (vX6_takes PG_od hW2.2.1 hn8) rfl gS_30 (by decide) rfl rfl rfl (Nat.le_of_ble_eq_true rfl) (by omega) ?_
            rintro _ _ - (⟨ht2, rfl, rfl⟩ | ⟨ht2, rfl, rfl⟩)
            · obtain ⟨a2, b2, ha2, hb2, hne2, q1, q2, r1, r2, r3⟩ := ht2
              rw [hO2.1 a2 ha2] at r1
              rw [hO2.1 b2 hb2] at r2
              rw [hO2.2, hF2 1 (by decide)] at r3
              have hyt2 : TK n (I 1 5) s (nI a) (nI (if b + 1 < n then b + 1 else 0)) := ⟨a2, b2, ha2, hb2, hne2, q1, q2, r1, r2, r3⟩
              rw [n_eq (by omega) (by omega)] at q1
              subst q1
              rw [n_eq (by split <;> omega) (by omega)] at q2
              subst q2
              refine px_if_eq rfl (fun h => absurd h (by decide)) (fun _ => ?_)
              refine px_aload_n (kk := 0) rfl rfl rfl ?_
              refine px_iload_n (kk := 1) rfl rfl rfl ?_
              refine px_iconst (v := nI 1) rfl k_1 ?_
              refine px_iaddN rfl ?_
              refine px_lload_n (kk := 2) rfl rfl rfl ?_
              refine px_bipush (v := nI 12) rfl b_12 ?_
              refine px_aload_n (kk := 0) rfl rfl rfl ?_
              refine px_getIe rfl gS_29 rfl (by first | exact ((congrFun (hF 29 (by decide)) 5).trans hsk) | exact ((congrFun (hF2 29 (by decide)) 5).trans hsk)) ?_
              refine px_isubN rfl (by omega) ?_
              refine px_i2l rfl ?_
              refine px_lmul rfl ?_
              refine px_jeq (y := lN (w * (12 - sk))) (by rw [nI_l (by omega), lN_mul]) ?_
              refine px_iload rfl rfl ?_
              refine px_iload rfl rfl ?_
              refine px_callV0 CX4_goWith [] [.int _, .long _, .int _, .int _] (vX4_with (J := J) hW hsk12 (m := m) (k := k) (w := w * (12 - sk)) (ab := ab + w * sk * (sp_ni n (I 1 5) E (fun M => sp_nx tx n (I 5) (I 4) (I 1 6) (I 2) M (fun _ => nI 0)) sk wa m (k + 1) (sp_ask n (I 1 5) s (nI a) (nI b)))) ha hb2 hne2 r1 r2 r3 hF2 hI hO2 hJ2 (by rw [hpow] at hw; exact Nat.le_trans (by rw [Nat.mul_assoc]; exact Nat.mul_le_mul_left _ (Nat.mul_le_mul_right _ (by omega))) hw) (fun w s ab I1 J1 hF hI hOC hJ1 hw => lX4_rec (J := J) hW hsk hsk12 hwa hN hN6 hE hNR m (k + 1) w s ab I1 J1 (by omega) hF hI hOC hJ1 hw)) rfl gS_29 (by decide) rfl rfl rfl (Nat.le_of_ble_eq_true rfl) (by omega) ?_
              rintro _ _ - ⟨rfl, I3, J3, rfl, hF3, hO3, hJ3, hFJ3⟩
              refine px_goto rfl ?_
              refine px_return rfl rfl ?_
              refine ⟨rfl, I3, J3, rfl, hF3, hO3, ?_, FJ_tr hFJ2 hFJ3⟩
              rw [hJ3]
              congr 1
              conv => rhs; unfold sp_ni
              rw [if_pos hyt, e2, e1, mN_n (by omega), if_pos hyt2, Nat.mul_add, Nat.mul_assoc, Nat.mul_assoc, Nat.add_assoc]
            · have hnt2 : ¬ TK n (I 1 5) s (nI a) (nI (if b + 1 < n then b + 1 else 0)) := fun ⟨a2, b2, ha2, hb2, hne2, q1, q2, r1, r2, r3⟩ => ht2 ⟨a2, b2, ha2, hb2, hne2, q1, q2, by rw [hO2.1 a2 ha2]; exact r1, by rw [hO2.1 b2 hb2]; exact r2, by rw [hO2.2, hF2 1 (by decide)]; exact r3⟩
              refine px_if_eq rfl (fun _ => ?_) (fun h => absurd h (by decide))
              refine px_aload_n (kk := 0) rfl rfl rfl ?_
              refine px_iload_n (kk := 1) rfl rfl rfl ?_
              refine px_iconst (v := nI 1) rfl k_1 ?_
              refine px_iaddN rfl ?_
              refine px_lload_n (kk := 2) rfl rfl rfl ?_
              refine px_bipush (v := nI 12) rfl b_12 ?_
              refine px_aload_n (kk := 0) rfl rfl rfl ?_
              refine px_getIe rfl gS_29 rfl (by first | exact ((congrFun (hF 29 (by decide)) 5).trans hsk) | exact ((congrFun (hF2 29 (by decide)) 5).trans hsk)) ?_
              refine px_isubN rfl (by omega) ?_
              refine px_i2l rfl ?_
              refine px_lmul rfl ?_
              refine px_jeq (y := lN (w * (12 - sk))) (by rw [nI_l (by omega), lN_mul]) ?_
              refine px_callV0 CX4_go [] [.int _, .long _] (lX4_rec (J := J) hW hsk hsk12 hwa hN hN6 hE hNR m (k + 1) (w * (12 - sk)) s (ab + w * sk * (sp_ni n (I 1 5) E (fun M => sp_nx tx n (I 5) (I 4) (I 1 6) (I 2) M (fun _ => nI 0)) sk wa m (k + 1) (sp_ask n (I 1 5) s (nI a) (nI b)))) I2 J2 (by omega) hF2 hI hO2 hJ2 (by rw [hpow] at hw; exact Nat.le_trans (by rw [Nat.mul_assoc]; exact Nat.mul_le_mul_left _ (Nat.mul_le_mul_right _ (by omega))) hw)) rfl gS_29 (by decide) rfl rfl rfl (Nat.le_of_ble_eq_true rfl) (by omega) ?_
              rintro _ _ - ⟨rfl, I3, J3, rfl, hF3, hO3, hJ3, hFJ3⟩
              refine px_return rfl rfl ?_
              refine ⟨rfl, I3, J3, rfl, hF3, hO3, ?_, FJ_tr hFJ2 hFJ3⟩
              rw [hJ3]
              congr 1
              conv => rhs; unfold sp_ni
              rw [if_pos hyt, e2, e1, mN_n (by omega), if_neg hnt2, Nat.mul_add, Nat.mul_assoc, Nat.mul_assoc, Nat.add_assoc]
          · refine px_iload rfl rfl ?_
            refine px_iconst (v := nI 1) rfl k_1 ?_
            refine px_iaddN rfl ?_
            refine px_goto rfl ?_
            rw [n_le (by omega) (by omega)] at c88
            refine px_ieq (y := nI (if b + 1 < n then b + 1 else 0)) (by rw [if_pos (by omega)]) ?_
            refine px_ist6 rfl rfl (by decide) ?_
            refine px_aload_n (kk := 0) rfl rfl rfl ?_
            refine px_getR (r := 30) rfl gS_29 rfl (gR_29_2 _) ?_
            refine px_aload_n (kk := 0) rfl rfl rfl ?_
            refine px_getR (r := 1) rfl gS_29 rfl (gR_29_0 _) ?_
            refine px_iload rfl rfl ?_
            refine px_iload rfl rfl ?_
            refine px_callV0 CX6_takes [] [.ref 1, .int _, .int _] (vX6_takes PG_od hW2.2.1 hn8) rfl gS_30 (by decide) rfl rfl rfl (Nat.le_of_ble_eq_true rfl) (by omega) ?_
            rintro _ _ - (⟨ht2, rfl, rfl⟩ | ⟨ht2, rfl, rfl⟩)
            · obtain ⟨a2, b2, ha2, hb2, hne2, q1, q2, r1, r2, r3⟩ := ht2
              rw [hO2.1 a2 ha2] at r1
              rw [hO2.1 b2 hb2] at r2
              rw [hO2.2, hF2 1 (by decide)] at r3
              have hyt2 : TK n (I 1 5) s (nI a) (nI (if b + 1 < n then b + 1 else 0)) := ⟨a2, b2, ha2, hb2, hne2, q1, q2, r1, r2, r3⟩
              rw [n_eq (by omega) (by omega)] at q1
              subst q1
              rw [n_eq (by split <;> omega) (by omega)] at q2
              subst q2
              refine px_if_eq rfl (fun h => absurd h (by decide)) (fun _ => ?_)
              refine px_aload_n (kk := 0) rfl rfl rfl ?_
              refine px_iload_n (kk := 1) rfl rfl rfl ?_
              refine px_iconst (v := nI 1) rfl k_1 ?_
              refine px_iaddN rfl ?_
              refine px_lload_n (kk := 2) rfl rfl rfl ?_
              refine px_bipush (v := nI 12) rfl b_12 ?_
              refine px_aload_n (kk := 0) rfl rfl rfl ?_
              refine px_getIe rfl gS_29 rfl (by first | exact ((congrFun (hF 29 (by decide)) 5).trans hsk) | exact ((congrFun (hF2 29 (by decide)) 5).trans hsk)) ?_
              refine px_isubN rfl (by omega) ?_
              refine px_i2l rfl ?_
              refine px_lmul rfl ?_
              refine px_jeq (y := lN (w * (12 - sk))) (by rw [nI_l (by omega), lN_mul]) ?_
              refine px_iload rfl rfl ?_
              refine px_iload rfl rfl ?_
              refine px_callV0 CX4_goWith [] [.int _, .long _, .int _, .int _] (vX4_with (J := J) hW hsk12 (m := m) (k := k) (w := w * (12 - sk)) (ab := ab + w * sk * (sp_ni n (I 1 5) E (fun M => sp_nx tx n (I 5) (I 4) (I 1 6) (I 2) M (fun _ => nI 0)) sk wa m (k + 1) (sp_ask n (I 1 5) s (nI a) (nI b)))) ha hb2 hne2 r1 r2 r3 hF2 hI hO2 hJ2 (by rw [hpow] at hw; exact Nat.le_trans (by rw [Nat.mul_assoc]; exact Nat.mul_le_mul_left _ (Nat.mul_le_mul_right _ (by omega))) hw) (fun w s ab I1 J1 hF hI hOC hJ1 hw => lX4_rec (J := J) hW hsk hsk12 hwa hN hN6 hE hNR m (k + 1) w s ab I1 J1 (by omega) hF hI hOC hJ1 hw)) rfl gS_29 (by decide) rfl rfl rfl (Nat.le_of_ble_eq_true rfl) (by omega) ?_
              rintro _ _ - ⟨rfl, I3, J3, rfl, hF3, hO3, hJ3, hFJ3⟩
              refine px_goto rfl ?_
              refine px_return rfl rfl ?_
              refine ⟨rfl, I3, J3, rfl, hF3, hO3, ?_, FJ_tr hFJ2 hFJ3⟩
              rw [hJ3]
              congr 1
              conv => rhs; unfold sp_ni
              rw [if_pos hyt, e2, e1, mN_n (by omega), if_pos hyt2, Nat.mul_add, Nat.mul_assoc, Nat.mul_assoc, Nat.add_assoc]
            · have hnt2 : ¬ TK n (I 1 5) s (nI a) (nI (if b + 1 < n then b + 1 else 0)) := fun ⟨a2, b2, ha2, hb2, hne2, q1, q2, r1, r2, r3⟩ => ht2 ⟨a2, b2, ha2, hb2, hne2, q1, q2, by rw [hO2.1 a2 ha2]; exact r1, by rw [hO2.1 b2 hb2]; exact r2, by rw [hO2.2, hF2 1 (by decide)]; exact r3⟩
              refine px_if_eq rfl (fun _ => ?_) (fun h => absurd h (by decide))
              refine px_aload_n (kk := 0) rfl rfl rfl ?_
              refine px_iload_n (kk := 1) rfl rfl rfl ?_
              refine px_iconst (v := nI 1) rfl k_1 ?_
              refine px_iaddN rfl ?_
              refine px_lload_n (kk := 2) rfl rfl rfl ?_
              refine px_bipush (v := nI 12) rfl b_12 ?_
              refine px_aload_n (kk := 0) rfl rfl rfl ?_
              refine px_getIe rfl gS_29 rfl (by first | exact ((congrFun (hF 29 (by decide)) 5).trans hsk) | exact ((congrFun (hF2 29 (by decide)) 5).trans hsk)) ?_
              refine px_isubN rfl (by omega) ?_
              refine px_i2l rfl ?_
              refine px_lmul rfl ?_
              refine px_jeq (y := lN (w * (12 - sk))) (by rw [nI_l (by omega), lN_mul]) ?_
              refine px_callV0 CX4_go [] [.int _, .long _] (lX4_rec (J := J) hW hsk hsk12 hwa hN hN6 hE hNR m (k + 1) (w * (12 - sk)) s (ab + w * sk * (sp_ni n (I 1 5) E (fun M => sp_nx tx n (I 5) (I 4) (I 1 6) (I 2) M (fun _ => nI 0)) sk wa m (k + 1) (sp_ask n (I 1 5) s (nI a) (nI b)))) I2 J2 (by omega) hF2 hI hO2 hJ2 (by rw [hpow] at hw; exact Nat.le_trans (by rw [Nat.mul_assoc]; exact Nat.mul_le_mul_left _ (Nat.mul_le_mul_right _ (by omega))) hw)) rfl gS_29 (by decide) rfl rfl rfl (Nat.le_of_ble_eq_true rfl) (by omega) ?_
              rintro _ _ - ⟨rfl, I3, J3, rfl, hF3, hO3, hJ3, hFJ3⟩
              refine px_return rfl rfl ?_
              refine ⟨rfl, I3, J3, rfl, hF3, hO3, ?_, FJ_tr hFJ2 hFJ3⟩
              rw [hJ3]
              congr 1
              conv => rhs; unfold sp_ni
              rw [if_pos hyt, e2, e1, mN_n (by omega), if_neg hnt2, Nat.mul_add, Nat.mul_assoc, Nat.mul_assoc, Nat.add_assoc]
        · have hnt : ¬ TK n (I 1 5) s (E k / nI 10) (E k - E k / nI 10 * nI 10) := fun ⟨a, b, ha, hb, hne, e1, e2, g1, g2, g3⟩ => ht ⟨a, b, ha, hb, hne, e1, e2, by rw [hOC.1 a ha]; exact g1, by rw [hOC.1 b hb]; exact g2, by rw [hOC.2, hF 1 (by decide)]; exact g3⟩
          refine px_if_ne rfl (fun h => absurd h (by decide)) (fun _ => ?_)
          refine px_aload_n (kk := 0) rfl rfl rfl ?_
          refine px_iload_n (kk := 1) rfl rfl rfl ?_
          refine px_iconst (v := nI 1) rfl k_1 ?_
          refine px_iaddN rfl ?_
          refine px_lload_n (kk := 2) rfl rfl rfl ?_
          refine px_ldc2_w (v := 12) rfl (by decide) ?_
          refine px_lmul rfl ?_
          refine px_jeq (y := lN (w * 12)) (by rw [l_12, lN_mul]) ?_
          refine px_callV0 CX4_go [] [.int _, .long _] (lX4_rec (J := J) hW hsk hsk12 hwa hN hN6 hE hNR m (k + 1) (w * 12) s ab I1 J1 (by omega) hF hI hOC hJ1 (by rw [hpow] at hw; rw [Nat.mul_assoc]; exact hw)) rfl gS_29 (by decide) rfl rfl rfl (Nat.le_of_ble_eq_true rfl) (by omega) ?_
          rintro _ _ - ⟨rfl, I2, J2, rfl, hF2, hO2, hJ2, hFJ2⟩
          refine px_return rfl rfl ?_
          refine ⟨rfl, I2, J2, rfl, hF2, hO2, ?_, hFJ2⟩
          rw [hJ2]
          congr 2
          conv => rhs; unfold sp_ni
          rw [if_neg hnt, Nat.mul_assoc]
      · have hnt : ¬ TK n (I 1 5) s (E k / nI 10) (E k - E k / nI 10 * nI 10) := fun ⟨a, b, ha, hb, hne, e1, e2, _⟩ => hp ⟨a, b, ha, hb, hne, v_pair e1 e2⟩
        refine px_if_eq rfl (fun _ => ?_) (fun h => absurd h (by decide))
        refine px_aload_n (kk := 0) rfl rfl rfl ?_
        refine px_iload_n (kk := 1) rfl rfl rfl ?_
        refine px_iconst (v := nI 1) rfl k_1 ?_
        refine px_iaddN rfl ?_
        refine px_lload_n (kk := 2) rfl rfl rfl ?_
        refine px_ldc2_w (v := 12) rfl (by decide) ?_
        refine px_lmul rfl ?_
        refine px_jeq (y := lN (w * 12)) (by rw [l_12, lN_mul]) ?_
        refine px_callV0 CX4_go [] [.int _, .long _] (lX4_rec (J := J) hW hsk hsk12 hwa hN hN6 hE hNR m (k + 1) (w * 12) s ab I1 J1 (by omega) hF hI hOC hJ1 (by rw [hpow] at hw; rw [Nat.mul_assoc]; exact hw)) rfl gS_29 (by decide) rfl rfl rfl (Nat.le_of_ble_eq_true rfl) (by omega) ?_
        rintro _ _ - ⟨rfl, I2, J2, rfl, hF2, hO2, hJ2, hFJ2⟩
        refine px_return rfl rfl ?_
        refine ⟨rfl, I2, J2, rfl, hF2, hO2, ?_, hFJ2⟩
        rw [hJ2]
        congr 2
        conv => rhs; unfold sp_ni
        rw [if_neg hnt, Nat.mul_assoc]
    · refine px_return rfl rfl ?_
      rw [lg_cmp_eq, l_0, pk_lEQ (by omega) (by decide)] at c3
      subst c3
      exact ⟨rfl, I1, J1, rfl, hF, hOC, by rw [Nat.zero_mul, Nat.add_zero]; exact hJ1, fun _ _ => rfl, rfl⟩
/-- the greatest that both are made of -/
def GS (a b t : Nat) : Prop := ∃ f, (b < 2 ^ f ∧ t + 2 * f ≤ 98) ∨ (b < a ∧ a < 2 ^ (f + 1) ∧ t + 2 * f + 1 ≤ 98)
theorem GS_next {a b t : Nat} (h : GS a b t) (hb : 0 < b) : GS b (a % b) (t + 1) := by
  have hm := Nat.mod_lt a hb
  obtain ⟨f, h | h⟩ := h
  · cases f with
    | zero => have := h.1; simp at this; omega
    | succ f => exact ⟨f, Or.inr ⟨hm, h.1, by omega⟩⟩
  · refine ⟨f, Or.inl ⟨?_, by omega⟩⟩
    have h1 : a % b + b ≤ a := by
      have h2 := Nat.div_add_mod a b
      have h3 : 1 ≤ a / b := (Nat.le_div_iff_mul_le hb).mpr (by omega)
      have h4 : b * 1 ≤ b * (a / b) := Nat.mul_le_mul_left _ h3
      omega
    have h2 : 2 ^ (f + 1) = 2 ^ f + 2 ^ f := by rw [Nat.pow_succ]; omega
    omega
theorem GS_t {a b t : Nat} (h : GS a b t) : t < 100 := by
  obtain ⟨f, h | h⟩ := h <;> omega
theorem lX4_red {I : Nat → Nat → Int32} {J : Nat → Nat → Int64} {p : Bool × Option Nat} {ro : List (Nat × Nat × (Nat → Int32))} {ab be : Nat} (h7 : J 29 7 = lN ab) (h8 : J 29 8 = lN be) (hab : ab < 2 ^ 31) (hbe : 0 < be) (hbe2 : be < 2 ^ 31) {x y t : Nat} (hx : x < 2 ^ 31) (hy : y < 2 ^ 31) (hg : Nat.gcd x y = Nat.gcd be ab) (hs : GS x y t) {o6 o7 : Option Value} : Px 0 0 0 CX4_reduce 8 [some (.ref (29)), some (.long (lN x)), none, some (.long (lN y)), none, some (.int (nI t)), o6, o7] [] (gS, I, J, gR p, ro) (fun r S' => r = none ∧ ∃ J', S' = (gS, I, J', gR p, ro) ∧ (∀ c, c ≠ 29 → J' c = J c) ∧ J' 29 7 = lN (ab / Nat.gcd be ab) ∧ J' 29 8 = lN (be / Nat.gcd be ab)) := by
  refine px_iload rfl rfl ?_
  refine px_bipush (v := nI 100) rfl b_100 ?_
  refine px_icmp_ge rfl (fun h => absurd h (nI_ge (GS_t hs) (by omega))) (fun c10 => ?_)
  skip
  refine px_lload_n (kk := 3) rfl rfl rfl ?_
  refine px_lconst (v := 0) rfl (by decide) ?_
  refine px_lcmp rfl ?_
  refine px_if_eq rfl (fun c14 => ?_) (fun c14 => ?_)
  · have hy0 : y = 0 := by rw [lg_cmp_eq, l_0, pk_lEQ (by omega) (by decide)] at c14; exact c14
    subst hy0
    rw [Nat.gcd_zero_right] at hg
    have hx0 : 0 < x := by rw [hg]; exact Nat.gcd_pos_of_pos_left _ hbe
    refine px_lload_n (kk := 1) rfl rfl rfl ?_
    refine px_lconst (v := 1) rfl (by decide) ?_
    refine px_lcmp rfl ?_
    refine px_if_le rfl (fun c28 => ?_) (fun c28 => ?_)
    · refine px_return rfl rfl ?_
      have hx1 : x = 1 := by
        rw [lg_cmp_le, l_1, pk_lLE (by omega) (by decide)] at c28
        omega
      exact ⟨rfl, J, rfl, fun _ _ => rfl, by rw [← hg, hx1, Nat.div_one]; exact h7, by rw [← hg, hx1, Nat.div_one]; exact h8⟩
    · refine px_aload_n (kk := 0) rfl rfl rfl ?_
      refine px_dup rfl rfl ?_
      refine px_getJe rfl gS_29 rfl h7 ?_
      refine px_lload_n (kk := 1) rfl rfl rfl ?_
      refine px_ldiv rfl (fun e => by rw [l_0, pk_lEQ (by omega) (by decide)] at e; omega) ?_
      refine px_jeq (y := lN (ab / x)) (pk_lDiv (by omega) hx0 (by omega)) ?_
      refine px_putJ rfl gS_29 rfl rfl ?_
      refine px_aload_n (kk := 0) rfl rfl rfl ?_
      refine px_dup rfl rfl ?_
      refine px_getJe rfl gS_29 rfl ((by rw [p_up_s, p_up_n _ _ (by decide)]; exact h8 : va_up J 29 (va_up (J 29) 7 (lN (ab / x))) 29 8 = lN be)) ?_
      refine px_lload_n (kk := 1) rfl rfl rfl ?_
      refine px_ldiv rfl (fun e => by rw [l_0, pk_lEQ (by omega) (by decide)] at e; omega) ?_
      refine px_jeq (y := lN (be / x)) (pk_lDiv (by omega) hx0 (by omega)) ?_
      refine px_putJ rfl gS_29 rfl rfl ?_
      refine px_return rfl rfl ?_
      exact ⟨rfl, _, rfl, fun c hc => by rw [p_up_n _ _ hc, p_up_n _ _ hc], by rw [← hg]; simp [va_up], by rw [← hg]; simp [va_up]⟩
  · refine px_lload_n (kk := 1) rfl rfl rfl ?_
    refine px_lload_n (kk := 3) rfl rfl rfl ?_
    refine px_lrem rfl (fun e => c14 (by rw [lg_cmp_eq]; exact e)) ?_
    refine px_jeq (y := lN (x % y)) (pk_lRem (by omega) (by rw [lg_cmp_eq, l_0, pk_lEQ (by omega) (by decide)] at c14; omega) (by omega)) ?_
    refine px_lst6 rfl rfl (by decide) ?_
    refine px_lload_n (kk := 3) rfl rfl rfl ?_
    refine px_lst1 rfl rfl (by decide) ?_
    refine px_lload rfl rfl ?_
    refine px_lst3 rfl rfl (by decide) ?_
    refine px_iinc5 (v := nI (t + 1)) rfl (n_inc t) rfl (by decide) ?_
    refine px_goto rfl ?_
    have hy0 : 0 < y := by rw [lg_cmp_eq, l_0, pk_lEQ (by omega) (by decide)] at c14; omega
    exact lX4_red h7 h8 hab hbe hbe2 (x := y) (y := x % y) hy (Nat.lt_trans (Nat.mod_lt _ hy0) hy) (by rw [← hg, Nat.gcd_comm y, ← Nat.gcd_rec, Nat.gcd_comm]) (GS_next hs hy0)
termination_by 100 - t
decreasing_by all_goals (have h := GS_t hs; omega)
theorem vX4_red {I : Nat → Nat → Int32} {J : Nat → Nat → Int64} {p : Bool × Option Nat} {ro : List (Nat × Nat × (Nat → Int32))} {ab be : Nat} (h7 : J 29 7 = lN ab) (h8 : J 29 8 = lN be) (hab : ab < 2 ^ 31) (hbe : 0 < be) (hbe2 : be < 2 ^ 31) (hab2 : ab < 2 ^ 40) : Pv 0 0 0 CX4_reduce [.ref (29)] (gS, I, J, gR p, ro) (fun r S' => r = none ∧ ∃ J', S' = (gS, I, J', gR p, ro) ∧ (∀ c, c ≠ 29 → J' c = J c) ∧ J' 29 7 = lN (ab / Nat.gcd be ab) ∧ J' 29 8 = lN (be / Nat.gcd be ab)) := by
  refine ⟨okCX4_reduce, Nat.le_of_ble_eq_true rfl, (show Px _ _ _ _ 0 [some (.ref (29)), none, none, none, none, none, none, none] [] _ _ from ?_)⟩
  refine px_aload_n (kk := 0) rfl rfl rfl ?_
  refine px_getJe rfl gS_29 rfl h8 ?_
  refine px_lst1 rfl rfl (by decide) ?_
  refine px_aload_n (kk := 0) rfl rfl rfl ?_
  refine px_getJe rfl gS_29 rfl h7 ?_
  refine px_lst3 rfl rfl (by decide) ?_
  refine px_iconst (v := nI 0) rfl k_0 ?_
  refine px_ist5 rfl rfl (by decide) ?_
  exact lX4_red h7 h8 hab hbe hbe2 (x := be) (y := ab) hbe2 hab rfl ⟨40, Or.inl ⟨hab2, by omega⟩⟩
/-- how many pairs of the hour are told: up to six, none behind the hour's end -/
def sp_nn (E : Nat → Int32) (z : Nat) : Nat → Nat → Nat
  | 0, k => k
  | f + 1, k => if k < z ∧ E k ≠ -1 then sp_nn E z f (k + 1) else k
theorem sp_nn_le (E : Nat → Int32) (z : Nat) : ∀ (f k : Nat), sp_nn E z f k ≤ k + f
  | 0, k => Nat.le_refl _
  | f + 1, k => by
    unfold sp_nn
    split
    · have := sp_nn_le E z f (k + 1); omega
    · omega
theorem lX4_w1 {I : Nat → Nat → Int32} {J : Nat → Nat → Int64} {p : Bool × Option Nat} {ro : List (Nat × Nat × (Nat → Int32))} {s z : Nat} (hs : s < 6) (hz : I (53 + 2 * s) 4 = nI z) (hz60 : z ≤ 60) {sk0 wa : Int32} {k : Nat} (hk : k ≤ 6) {o : Option Value} {Q : Option Value → pm_M → Prop} (kont : ∀ k0, k0 = (sp_nn (fun j => (J (54 + 2 * s) j).toInt32) z (6 - k) k) → Px 40 0 0 CX4_weigh 40 [some (.ref 29), some (.ref (53 + 2 * s)), some (.int sk0), some (.int wa), o] [] (gS, (va_up (va_up I 33 (fun j => if j < k0 then (fun j => (J (54 + 2 * s) j).toInt32) j else I 33 j)) 29 (va_up (va_up (va_up (I 29) 5 sk0) 6 wa) 4 (nI k0))), J, gR p, ro) Q) : Px 40 0 0 CX4_weigh 9 [some (.ref (29)), some (.ref (53 + 2 * s)), some (.int (sk0)), some (.int (wa)), o] [] (gS, (va_up (va_up I 33 (fun j => if j < k then (fun j => (J (54 + 2 * s) j).toInt32) j else I 33 j)) 29 (va_up (va_up (va_up (I 29) 5 sk0) 6 wa) 4 (nI k))), J, gR p, ro) (Q) := by
  refine px_aload_n (kk := 0) rfl rfl rfl ?_
  refine px_getIe rfl gS_29 rfl ((by rw [p_up_s, p_up_s] : (va_up (va_up I 33 (fun j => if j < k then (fun j => (J (54 + 2 * s) j).toInt32) j else I 33 j)) 29 (va_up (va_up (va_up (I 29) 5 sk0) 6 wa) 4 (nI k))) 29 4 = nI k)) ?_
  refine px_bipush (v := nI 6) rfl b_6 ?_
  refine px_icmp_ge rfl (fun c12 => ?_) (fun c12 => ?_)
  · rw [n_le (by omega) (by omega)] at c12
    obtain rfl : k = 6 := by omega
    exact kont 6 rfl
  · rw [n_le (by omega) (by omega)] at c12
    refine px_aload_n (kk := 0) rfl rfl rfl ?_
    refine px_getIe rfl gS_29 rfl ((by rw [p_up_s, p_up_s] : (va_up (va_up I 33 (fun j => if j < k then (fun j => (J (54 + 2 * s) j).toInt32) j else I 33 j)) 29 (va_up (va_up (va_up (I 29) 5 sk0) 6 wa) 4 (nI k))) 29 4 = nI k)) ?_
    refine px_aload_n (kk := 1) rfl rfl rfl ?_
    refine px_getIe rfl (gS_sh s hs) rfl ((by rw [p_up_n _ _ (by omega), p_up_n _ _ (by omega)]; exact hz : (va_up (va_up I 33 (fun j => if j < k then (fun j => (J (54 + 2 * s) j).toInt32) j else I 33 j)) 29 (va_up (va_up (va_up (I 29) 5 sk0) 6 wa) 4 (nI k))) (53 + 2 * s) 4 = nI z)) ?_
    refine px_icmp_ge rfl (fun c17 => ?_) (fun c17 => ?_)
    · rw [n_le (by omega) (by omega)] at c17
      have hu : (sp_nn (fun j => (J (54 + 2 * s) j).toInt32) z (6 - k) k) = k := by
        conv => lhs; rw [show 6 - k = (6 - (k + 1)) + 1 by omega]; unfold sp_nn
        rw [if_neg (fun h => by omega)]
      exact kont k hu.symm
    · rw [n_le (by omega) (by omega)] at c17
      refine px_aload_n (kk := 1) rfl rfl rfl ?_
      refine px_aload_n (kk := 0) rfl rfl rfl ?_
      refine px_getIe rfl gS_29 rfl ((by rw [p_up_s, p_up_s] : (va_up (va_up I 33 (fun j => if j < k then (fun j => (J (54 + 2 * s) j).toInt32) j else I 33 j)) 29 (va_up (va_up (va_up (I 29) 5 sk0) 6 wa) 4 (nI k))) 29 4 = nI k)) ?_
      refine px_callV0 CX7_byteAt [] [.int _] (vX7_byteAt hs ((by rw [p_up_n _ _ (by omega), p_up_n _ _ (by omega)]; exact hz : (va_up (va_up I 33 (fun j => if j < k then (fun j => (J (54 + 2 * s) j).toInt32) j else I 33 j)) 29 (va_up (va_up (va_up (I 29) 5 sk0) 6 wa) 4 (nI k))) (53 + 2 * s) 4 = nI z)) hz60 (a := k) (by omega)) rfl (gS_sh s hs) (by decide) rfl rfl rfl (Nat.le_of_ble_eq_true rfl) (by omega) ?_
      rintro _ _ - ⟨rfl, rfl⟩
      refine px_iconst (v := -1) rfl k_m1 ?_
      refine px_icmp_eq rfl (fun c23 => ?_) (fun c23 => ?_)
      · have hu : (sp_nn (fun j => (J (54 + 2 * s) j).toInt32) z (6 - k) k) = k := by
          conv => lhs; rw [show 6 - k = (6 - (k + 1)) + 1 by omega]; unfold sp_nn
          rw [if_neg (fun h => h.2 c23)]
        exact kont k hu.symm
      · refine px_aload_n (kk := 0) rfl rfl rfl ?_
        refine px_getR (r := 33) rfl gS_29 rfl (gR_29_3 _) ?_
        refine px_aload_n (kk := 0) rfl rfl rfl ?_
        refine px_getIe rfl gS_29 rfl ((by rw [p_up_s, p_up_s] : (va_up (va_up I 33 (fun j => if j < k then (fun j => (J (54 + 2 * s) j).toInt32) j else I 33 j)) 29 (va_up (va_up (va_up (I 29) 5 sk0) 6 wa) 4 (nI k))) 29 4 = nI k)) ?_
        refine px_aload_n (kk := 1) rfl rfl rfl ?_
        refine px_aload_n (kk := 0) rfl rfl rfl ?_
        refine px_getIe rfl gS_29 rfl ((by rw [p_up_s, p_up_s] : (va_up (va_up I 33 (fun j => if j < k then (fun j => (J (54 + 2 * s) j).toInt32) j else I 33 j)) 29 (va_up (va_up (va_up (I 29) 5 sk0) 6 wa) 4 (nI k))) 29 4 = nI k)) ?_
        refine px_callV0 CX7_byteAt [.int _, .ref 33] [.int _] (vX7_byteAt hs ((by rw [p_up_n _ _ (by omega), p_up_n _ _ (by omega)]; exact hz : (va_up (va_up I 33 (fun j => if j < k then (fun j => (J (54 + 2 * s) j).toInt32) j else I 33 j)) 29 (va_up (va_up (va_up (I 29) 5 sk0) 6 wa) 4 (nI k))) (53 + 2 * s) 4 = nI z)) hz60 (a := k) (by omega)) rfl (gS_sh s hs) (by decide) rfl rfl rfl (Nat.le_of_ble_eq_true rfl) (by omega) ?_
        rintro _ _ - ⟨rfl, rfl⟩
        refine px_iast (j := k) rfl gS_33 rfl (by omega) ?_
        refine px_aload_n (kk := 0) rfl rfl rfl ?_
        refine px_dup rfl rfl ?_
        refine px_getIe rfl gS_29 rfl ((by rw [p_up_s, p_up_s] : (va_up (va_up I 33 (fun j => if j < k then (fun j => (J (54 + 2 * s) j).toInt32) j else I 33 j)) 29 (va_up (va_up (va_up (I 29) 5 sk0) 6 wa) 4 (nI k))) 29 4 = nI k)) ?_
        refine px_iconst (v := nI 1) rfl k_1 ?_
        refine px_iaddN rfl ?_
        refine px_putI rfl gS_29 rfl rfl ?_
        refine px_goto rfl ?_
        have hu : (sp_nn (fun j => (J (54 + 2 * s) j).toInt32) z (6 - k) k) = (sp_nn (fun j => (J (54 + 2 * s) j).toInt32) z (6 - (k + 1)) (k + 1)) := by
          conv => lhs; rw [show 6 - k = (6 - (k + 1)) + 1 by omega]; unfold sp_nn
          rw [if_pos ⟨by omega, c23⟩]
        refine px_mem (show _ = (va_up (va_up I 33 (fun j => if j < (k + 1) then (fun j => (J (54 + 2 * s) j).toInt32) j else I 33 j)) 29 (va_up (va_up (va_up (I 29) 5 sk0) 6 wa) 4 (nI (k + 1)))) from ?_) (lX4_w1 hs hz hz60 (k := k + 1) (by omega) (fun k0 e => kont k0 (by rw [e]; exact hu.symm)))
        have e33 := fillf_next I 33 k (fun j => (J (54 + 2 * s) j).toInt32)
        rw [up2] at e33
        simp only [up2, p_up_s, p_up_n _ _ (show (33 : Nat) ≠ 29 by decide), p_up_n _ _ (show (29 : Nat) ≠ 33 by decide)]
        funext c
        by_cases h29 : c = 29
        · subst h29
          rw [p_up_s, p_up_s]
          funext j
          by_cases h4 : j = 4
          · subst h4; rw [p_up_s, p_up_s]
          · rw [p_up_n _ _ h4, p_up_n _ _ h4, p_up_n _ _ h4]
        · rw [p_up_n _ _ h29, p_up_n _ _ h29]
          by_cases h33 : c = 33
          · subst h33
            rw [p_up_s, p_up_s]
            have := congrFun e33 33
            rw [p_up_s, p_up_s] at this
            exact this
          · rw [p_up_n _ _ h33, p_up_n _ _ h33]
            try rw [p_up_n _ _ h29]
            try rw [p_up_n _ _ h33]
termination_by 6 - k
decreasing_by all_goals (have h := ‹¬ nI 6 ≤ nI k›; rw [n_le (by omega) (by omega)] at h; omega)
theorem lX4_w2 {I : Nat → Nat → Int32} {J : Nat → Nat → Int64} {p : Bool × Option Nat} {ro : List (Nat × Nat × (Nat → Int32))} {s : Nat} {sk0 wa : Int32} {N t : Nat} (hN : I 29 4 = nI N) (hN6 : N ≤ 6) (ht : t ≤ N) {Q : Option Value → pm_M → Prop} (kont : ∀ o, Px 40 0 0 CX4_weigh 60 [some (.ref 29), some (.ref (53 + 2 * s)), some (.int sk0), some (.int wa), o] [] (gS, I, (va_up (va_up J 29 (va_up (J 29) 7 (lN 0))) 29 (va_up (va_up J 29 (va_up (J 29) 7 (lN 0)) 29) 8 (lN (12 ^ N)))), gR p, ro) Q) : Px 40 0 0 CX4_weigh 48 [some (.ref (29)), some (.ref (53 + 2 * s)), some (.int (sk0)), some (.int (wa)), some (.int (nI t))] [] (gS, I, (va_up (va_up J 29 (va_up (J 29) 7 (lN 0))) 29 (va_up (va_up J 29 (va_up (J 29) 7 (lN 0)) 29) 8 (lN (12 ^ t)))), gR p, ro) (Q) := by
  refine px_iload rfl rfl ?_
  refine px_aload_n (kk := 0) rfl rfl rfl ?_
  refine px_getIe rfl gS_29 rfl hN ?_
  refine px_icmp_ge rfl (fun c51 => ?_) (fun c51 => ?_)
  · rw [n_le (by omega) (by omega)] at c51
    obtain rfl : t = N := by omega
    exact kont _
  · refine px_aload_n (kk := 0) rfl rfl rfl ?_
    refine px_dup rfl rfl ?_
    refine px_getJe rfl gS_29 rfl ((by rw [p_up_s, p_up_s] : (va_up (va_up J 29 (va_up (J 29) 7 (lN 0))) 29 (va_up (va_up J 29 (va_up (J 29) 7 (lN 0)) 29) 8 (lN (12 ^ t)))) 29 8 = lN (12 ^ t))) ?_
    refine px_ldc2_w (v := 12) rfl (by decide) ?_
    refine px_lmul rfl ?_
    refine px_jeq (y := lN (12 ^ (t + 1))) (by rw [l_12, lN_mul, Nat.pow_succ]) ?_
    refine px_putJ rfl gS_29 rfl rfl ?_
    refine px_iinc4 (v := nI (t + 1)) rfl (n_inc t) rfl (by decide) ?_
    refine px_goto rfl ?_
    rw [n_le (by omega) (by omega)] at c51
    refine px_memJ (show _ = (va_up (va_up J 29 (va_up (J 29) 7 (lN 0))) 29 (va_up (va_up J 29 (va_up (J 29) 7 (lN 0)) 29) 8 (lN (12 ^ (t + 1))))) from ?_) (lX4_w2 hN hN6 (t := t + 1) (by omega) kont)
    funext c
    by_cases h29 : c = 29
    · subst h29
      simp only [p_up_s]
      funext j
      by_cases h8 : j = 8
      · subst h8; rw [p_up_s, p_up_s]
      · rw [p_up_n _ _ h8, p_up_n _ _ h8, p_up_n _ _ h8]
    · simp only [p_up_n _ _ h29]
termination_by N - t
decreasing_by all_goals (have h := ‹¬ nI N ≤ nI t›; rw [n_le (by omega) (by omega)] at h; omega)
theorem vX4_weigh {I : Nat → Nat → Int32} {J : Nat → Nat → Int64} {p : Bool × Option Nat} {ro : List (Nat × Nat × (Nat → Int32))} {tx : List Ln} {n : Nat} (hW : TW tx n p I) {s z : Nat} (hs : s < 6) (hz : I (53 + 2 * s) 4 = nI z) (hz60 : z ≤ 60) {sk : Nat} (hsk12 : sk ≤ 12) {wa : Int32} : Pv 40 0 0 CX4_weigh [.ref (29), .ref (53 + 2 * s), .int (nI sk), .int (wa)] (gS, I, J, gR p, ro) (fun r S' => r = none ∧ ∃ I' J', S' = (gS, I', J', gR p, ro) ∧ Fr [6, 8, 12, 13, 14, 29, 30, 31, 32, 33] I I' ∧ K6 I I' ∧ (∀ c, c ≠ 29 → J' c = J c) ∧ J' 29 7 = lN ((sp_ni n (I 1 5) (fun j => (J (54 + 2 * s) j).toInt32) (fun M => sp_nx tx n (I 5) (I 4) (I 1 6) (I 2) M (fun _ => nI 0)) sk wa (sp_nn (fun j => (J (54 + 2 * s) j).toInt32) z 6 0) 0 (n1, 0, nI 0)) / (Nat.gcd (12 ^ (sp_nn (fun j => (J (54 + 2 * s) j).toInt32) z 6 0)) (sp_ni n (I 1 5) (fun j => (J (54 + 2 * s) j).toInt32) (fun M => sp_nx tx n (I 5) (I 4) (I 1 6) (I 2) M (fun _ => nI 0)) sk wa (sp_nn (fun j => (J (54 + 2 * s) j).toInt32) z 6 0) 0 (n1, 0, nI 0)))) ∧ J' 29 8 = lN (12 ^ (sp_nn (fun j => (J (54 + 2 * s) j).toInt32) z 6 0) / (Nat.gcd (12 ^ (sp_nn (fun j => (J (54 + 2 * s) j).toInt32) z 6 0)) (sp_ni n (I 1 5) (fun j => (J (54 + 2 * s) j).toInt32) (fun M => sp_nx tx n (I 5) (I 4) (I 1 6) (I 2) M (fun _ => nI 0)) sk wa (sp_nn (fun j => (J (54 + 2 * s) j).toInt32) z 6 0) 0 (n1, 0, nI 0))))) := by
  refine ⟨okCX4_weigh, Nat.le_of_ble_eq_true rfl, (show Px _ _ _ _ 0 [some (.ref (29)), some (.ref (53 + 2 * s)), some (.int (nI sk)), some (.int (wa)), none] [] _ _ from ?_)⟩
  refine px_aload_n (kk := 0) rfl rfl rfl ?_
  refine px_iload_n (kk := 2) rfl rfl rfl ?_
  refine px_putI rfl gS_29 rfl rfl ?_
  refine px_aload_n (kk := 0) rfl rfl rfl ?_
  refine px_iload_n (kk := 3) rfl rfl rfl ?_
  refine px_putI rfl gS_29 rfl rfl ?_
  refine px_aload_n (kk := 0) rfl rfl rfl ?_
  refine px_iconst (v := nI 0) rfl k_0 ?_
  refine px_putI rfl gS_29 rfl rfl ?_
  refine px_mem (show _ = (va_up (va_up I 33 (fun j => if j < 0 then (fun j => (J (54 + 2 * s) j).toInt32) j else I 33 j)) 29 (va_up (va_up (va_up (I 29) 5 (nI sk)) 6 wa) 4 (nI 0))) from ?_) ?_
  · rw [← fill_0f I 33]
    simp only [up2, p_up_s]
  refine lX4_w1 hs hz hz60 (k := 0) (by omega) (fun N hN => ?_)
  rw [Nat.sub_zero] at hN
  have hN6 : N ≤ 6 := by have := sp_nn_le (fun j => (J (54 + 2 * s) j).toInt32) z 6 0; omega
  generalize hI1 : (va_up (va_up I 33 (fun j => if j < N then (fun j => (J (54 + 2 * s) j).toInt32) j else I 33 j)) 29 (va_up (va_up (va_up (I 29) 5 (nI sk)) 6 wa) 4 (nI N))) = I1
  have hF1 : Fr [29, 33] I I1 := by rw [← hI1]; exact Fr_up (Fr_up Fr_rf (by decide) _) (by decide) _
  have f5 : I1 29 5 = nI sk := by rw [← hI1]; simp [va_up]
  have f6 : I1 29 6 = wa := by rw [← hI1]; simp [va_up]
  have f4 : I1 29 4 = nI N := by rw [← hI1]; simp [va_up]
  have f33 : ∀ j, j < N → I1 33 j = (fun j => (J (54 + 2 * s) j).toInt32) j := fun j hj => by rw [← hI1]; simp [va_up, hj]
  have hW1 := TW_mv hW hF1 (K6_fr hF1 (by decide)) (by decide)
  refine px_aload_n (kk := 0) rfl rfl rfl ?_
  refine px_lconst (v := 0) rfl (by decide) ?_
  refine px_jeq (y := lN 0) l_0 ?_
  refine px_putJ rfl gS_29 rfl rfl ?_
  refine px_aload_n (kk := 0) rfl rfl rfl ?_
  refine px_lconst (v := 1) rfl (by decide) ?_
  refine px_jeq (y := lN (12 ^ 0)) l_1 ?_
  refine px_putJ rfl gS_29 rfl rfl ?_
  refine px_iconst (v := nI 0) rfl k_0 ?_
  refine px_ist4 rfl rfl (by decide) ?_
  refine lX4_w2 (J := J) f4 hN6 (t := 0) (by omega) (fun o => ?_)
  generalize hJ1 : (va_up (va_up J 29 (va_up (J 29) 7 (lN 0))) 29 (va_up (va_up J 29 (va_up (J 29) 7 (lN 0)) 29) 8 (lN (12 ^ N)))) = J1
  have g7 : J1 29 7 = lN 0 := by rw [← hJ1]; simp [va_up]
  have g8 : J1 29 8 = lN (12 ^ N) := by rw [← hJ1]; simp [va_up]
  have gc : ∀ c, c ≠ 29 → J1 c = J c := fun c hc => by rw [← hJ1]; simp [va_up, hc]
  refine px_aload_n (kk := 0) rfl rfl rfl ?_
  refine px_getR (r := 30) rfl gS_29 rfl (gR_29_2 _) ?_
  refine px_callV0 CX6_clear [] [] (vX6_clear PG_od) rfl gS_30 (by decide) rfl rfl rfl (Nat.le_of_ble_eq_true rfl) (by omega) ?_
  rintro _ _ - ⟨rfl, rfl⟩
  generalize hI2 : va_up (va_up (va_up I1 31 (fun j => if j < 8 then -1 else I1 31 j)) 32 (fun j => if j < 8 then nI 0 else I1 32 j)) 30 (va_up (I1 30) 2 (nI 0)) = I2
  have hF2 : Fr [30, 31, 32] I1 I2 := by rw [← hI2]; exact Fr_up (Fr_up (Fr_up Fr_rf (by decide) _) (by decide) _) (by decide) _
  have hO2 : OC n (n1, 0, nI 0) I2 := by
    rw [← hI2]
    have := hW.2.2.1
    exact ⟨fun l hl => by simp only [va_up, Nat.reduceEqDiff, if_true, if_false, show l < 8 by omega]; rfl, by simp [va_up]⟩
  have hW2 := TW_mv hW1 hF2 (K6_fr hF2 (by decide)) (by decide)
  refine px_aload_n (kk := 0) rfl rfl rfl ?_
  refine px_getR (r := 11) rfl gS_29 rfl (gR_29_1 _) ?_
  refine px_callV0 CX5_foresee [] [] (vX5_foresee hW2.1 hW2.2.1 hW2.2.2.1) rfl gS_11 (by decide) rfl rfl rfl (Nat.le_of_ble_eq_true rfl) (by omega) ?_
  rintro _ _ - ⟨rfl, I3, rfl, hF3, h63, hN3⟩
  have hW3 := TW_mv hW2 hF3 h63 (by decide)
  have hNR3 : ∀ x y, x < n → y < n → NR tx n I3 I3 x y := fun x y hx hy hxy => by
    rw [hN3 x y hx hy hxy, hF3 5 (by decide), hF3 4 (by decide), hF3 1 (by decide), hF3 2 (by decide)]
  refine px_aload_n (kk := 0) rfl rfl rfl ?_
  refine px_iconst (v := nI 0) rfl k_0 ?_
  refine px_lconst (v := 1) rfl (by decide) ?_
  refine px_jeq (y := lN 1) l_1 ?_
  refine px_callV0 CX4_go [] [.int _, .long _] (lX4_rec (J := J1) (sk := sk) (wa := wa) (N := N) hW3 (by rw [hF3 29 (by decide), hF2 29 (by decide)]; exact f5) hsk12 (by rw [hF3 29 (by decide), hF2 29 (by decide)]; exact f6) (by rw [hF3 29 (by decide), hF2 29 (by decide)]; exact f4) hN6 (E := (fun j => (J (54 + 2 * s) j).toInt32)) (fun j hj => by rw [hF3 33 (by decide), hF2 33 (by decide)]; exact f33 j hj) hNR3 N 0 1 (n1, 0, nI 0) 0 I3 J1 (by omega) Fr_rf TI_0 ⟨fun l hl => by rw [hF3 31 (by decide)]; exact hO2.1 l hl, by rw [hF3 30 (by decide)]; exact hO2.2⟩ g7 (by rw [Nat.one_mul]; exact Nat.pow_le_pow_right (by decide) hN6)) rfl gS_29 (by decide) rfl rfl rfl (Nat.le_of_ble_eq_true rfl) (by omega) ?_
  rintro _ _ - ⟨rfl, I4, J4, rfl, hF4, hO4, hJ4, hFJ4⟩
  have hni : sp_ni n (I3 1 5) (fun j => (J (54 + 2 * s) j).toInt32) (fun M => sp_nx tx n (I3 5) (I3 4) (I3 1 6) (I3 2) M (fun _ => nI 0)) sk wa N 0 (n1, 0, nI 0) = sp_ni n (I 1 5) (fun j => (J (54 + 2 * s) j).toInt32) (fun M => sp_nx tx n (I 5) (I 4) (I 1 6) (I 2) M (fun _ => nI 0)) sk wa N 0 (n1, 0, nI 0) := by
    rw [hF3 1 (by decide), hF3 2 (by decide), hF3 4 (by decide), hF3 5 (by decide), hF2 1 (by decide), hF2 2 (by decide), hF2 4 (by decide), hF2 5 (by decide), hF1 1 (by decide), hF1 2 (by decide), hF1 4 (by decide), hF1 5 (by decide)]
  rw [hni, Nat.zero_add, Nat.one_mul] at hJ4
  have hle := sp_ni_le (n := n) (co := I 1 5) (E := (fun j => (J (54 + 2 * s) j).toInt32)) (nx := (fun M => sp_nx tx n (I 5) (I 4) (I 1 6) (I 2) M (fun _ => nI 0))) (sk := sk) (wa := wa) hsk12 N 0 (n1, 0, nI 0)
  have hp6 : 12 ^ N ≤ 12 ^ 6 := Nat.pow_le_pow_right (by decide) hN6
  have hp6b : (12 : Nat) ^ 6 < 2 ^ 22 := by decide
  refine px_aload_n (kk := 0) rfl rfl rfl ?_
  refine px_callV0 CX4_reduce [] [] (vX4_red hJ4 (hFJ4.2.trans g8) (by omega) (Nat.pos_of_ne_zero (by simp)) (by omega) (by omega)) rfl gS_29 (by decide) rfl rfl rfl (Nat.le_of_ble_eq_true rfl) (by omega) ?_
  rintro _ _ - ⟨rfl, J5, rfl, hJ5, hJ57, hJ58⟩
  refine px_return rfl rfl ?_
  subst hN
  refine ⟨rfl, I4, J5, rfl, ?_, ?_, fun c hc => (hJ5 c hc).trans ((hFJ4.1 c hc).trans (gc c hc)), hJ57, hJ58⟩
  · exact Fr_tr (Fr_tr (Fr_tr (Fr_mo hF1 (by decide)) (Fr_mo hF2 (by decide))) (Fr_mo hF3 (by decide))) (Fr_mo hF4 (by decide))
  · exact K6_tr (K6_tr (K6_tr (K6_fr hF1 (by decide)) (K6_fr hF2 (by decide))) h63) (K6_fr hF4 (by decide))
