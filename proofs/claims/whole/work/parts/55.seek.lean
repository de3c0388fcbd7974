/-! WHAT IS ASKED OF ALL WAYS -/
theorem px_memR {d mc ms : Nat} {cd : pm_C} {i : Nat} {ls : List (Option Value)} {st : List Value} {Sh : List (Nat × Nat)} {I : Nat → Nat → Int32} {J : Nat → Nat → Int64} {R R' : Nat → Nat → Option Nat} {ro : List (Nat × Nat × (Nat → Int32))} {Q : Option Value → pm_M → Prop} (e : R = R') (h : Px d mc ms cd i ls st (Sh, I, J, R', ro) Q) : Px d mc ms cd i ls st (Sh, I, J, R, ro) Q := e ▸ h
def v0 : VS := (n1, fun _ => nI 0, 0, -1)
noncomputable def sp_seek (aim n : Nat) (tx : List Ln) (L P N W : Nat → Int32) (cold : Int32) (z : Nat) (E : Nat → Int32) (c : Nat) : VS := sp_go n (sp_vis aim n L N z E (fun M => sp_nx tx n L P cold W M (fun _ => nI 0))) n c n1 v0
theorem WC_0 {n aim : Nat} {I : Nat → Nat → Int32} (hn : n ≤ 8) : WC n aim n1 v0 (va_up (va_up (va_up (va_up I 24 (va_up (va_up (va_up (I 24) 6 (nI aim)) 8 (nI 0)) 9 (-1))) 25 (fun j => if j < 8 then -1 else I 25 j)) 26 (fun j => if j < 8 then -1 else I 26 j)) 27 (fun j => if j < 8 then nI 0 else I 27 j)) := by
  refine ⟨fun l hl => ?_, fun l hl => ?_, fun l hl => ?_, ?_, ?_, ?_⟩
  · simp only [va_up, Nat.reduceEqDiff, if_true, if_false, show l < 8 by omega]; rfl
  · simp only [va_up, Nat.reduceEqDiff, if_true, if_false, show l < 8 by omega]; rfl
  · simp only [va_up, Nat.reduceEqDiff, if_true, if_false, show l < 8 by omega]; rfl
  · simp only [va_up, Nat.reduceEqDiff, if_true, if_false]; rfl
  · simp only [va_up, Nat.reduceEqDiff, if_true, if_false]; rfl
  · simp only [va_up, Nat.reduceEqDiff, if_true, if_false]
theorem pow8 : ∀ n, n ≤ 8 → 0 + 8 ^ n < 2 ^ 31 := by decide +kernel
theorem n1_o {n : Nat} : ∀ l, n ≤ l → n1 l = -1 := fun _ _ => rfl
abbrev csk : List Nat := [6, 8, 12, 13, 14, 24, 25, 26, 27, 28]
theorem px_monoD {d e mc ms : Nat} {cd : pm_C} {i : Nat} {ls : List (Option Value)} {st : List Value} {S : pm_M} {Q : Option Value → pm_M → Prop} (hde : d ≤ e) (h : Px d mc ms cd i ls st S Q) : Px e mc ms cd i ls st S Q := by
  intro hok p l en R s m args below meth c D aC A Z hC
  exact h hok p l en R s m args below meth c D aC A Z ⟨hC.1, hC.2.1, hC.2.2.1, hC.2.2.2.1, ⟨by have := hC.2.2.2.2.1.1; omega, by have := hC.2.2.2.2.1.2; omega⟩, hC.2.2.2.2.2⟩
theorem pv_mono {d e mc ms : Nat} {cd : pm_C} {vs : List Value} {S : pm_M} {Q : Option Value → pm_M → Prop} (hde : d ≤ e) (h : Pv d mc ms cd vs S Q) : Pv e mc ms cd vs S Q := ⟨h.1, h.2.1, px_monoD hde h.2.2⟩
theorem vX10_seek0 {I : Nat → Nat → Int32} {J : Nat → Nat → Int64} {p : Bool × Option Nat} {ro : List (Nat × Nat × (Nat → Int32))} {tx : List Ln} {n : Nat} (hW : TW tx n p I) {z : Nat} {E : Nat → Int32} {cd : Nat} (hcd : I 1 5 = nI cd) (hcd4 : cd ≤ 4) : Pv 14 0 0 CX10_seek [.ref (24), .int (nI 0), .null] (gS, I, J, gR p, ro) (fun r S' => r = none ∧ ∃ I', S' = (gS, I', J, gR (p.1, none), ro) ∧ Fr csk I I' ∧ K6 I I' ∧ WC n 0 n1 (sp_seek 0 n tx (I 5) (I 4) (I 3) (I 2) (I 1 6) z E cd) I') := by
  refine ⟨okCX10_seek, Nat.le_of_ble_eq_true rfl, (show Px _ _ _ _ 0 [some (.ref (24)), some (.int (nI 0)), some .null] [] _ _ from ?_)⟩
  refine px_aload_n (kk := 0) rfl rfl rfl ?_
  refine px_iload_n (kk := 1) rfl rfl rfl ?_
  refine px_putI rfl gS_24 rfl rfl ?_
  refine px_aload_n (kk := 0) rfl rfl rfl ?_
  refine px_aload_nN (kk := 2) rfl rfl rfl ?_
  refine px_putN rfl gS_24 rfl rfl ?_
  refine px_memR (gR_told p none) ?_
  refine px_aload_n (kk := 0) rfl rfl rfl ?_
  refine px_iconst (v := nI 0) rfl k_0 ?_
  refine px_putI rfl gS_24 rfl rfl ?_
  refine px_aload_n (kk := 0) rfl rfl rfl ?_
  refine px_iconst (v := -1) rfl k_m1 ?_
  refine px_putI rfl gS_24 rfl rfl ?_
  refine px_aload_n (kk := 0) rfl rfl rfl ?_
  refine px_getR (r := 25) rfl gS_24 rfl (gR_24_2 _) ?_
  refine px_iconst (v := -1) rfl k_m1 ?_
  refine px_callS0 CJ7_fill_53178 [] [.ref 25, .int _] (vJ_fillI gS_25 (by decide) (-1)) rfl rfl rfl (Nat.le_of_ble_eq_true rfl) (by decide) ?_
  rintro _ _ - ⟨rfl, rfl⟩
  refine px_aload_n (kk := 0) rfl rfl rfl ?_
  refine px_getR (r := 26) rfl gS_24 rfl (gR_24_3 _) ?_
  refine px_iconst (v := -1) rfl k_m1 ?_
  refine px_callS0 CJ7_fill_53178 [] [.ref 26, .int _] (vJ_fillI gS_26 (by decide) (-1)) rfl rfl rfl (Nat.le_of_ble_eq_true rfl) (by decide) ?_
  rintro _ _ - ⟨rfl, rfl⟩
  refine px_aload_n (kk := 0) rfl rfl rfl ?_
  refine px_getR (r := 27) rfl gS_24 rfl (gR_24_4 _) ?_
  refine px_iconst (v := nI 0) rfl k_0 ?_
  refine px_callS0 CJ7_fill_53178 [] [.ref 27, .int _] (vJ_fillI gS_27 (by decide) (nI 0)) rfl rfl rfl (Nat.le_of_ble_eq_true rfl) (by decide) ?_
  rintro _ _ - ⟨rfl, rfl⟩
  refine px_mem (show _ = (va_up (va_up (va_up (va_up I 24 (va_up (va_up (va_up (I 24) 6 (nI 0)) 8 (nI 0)) 9 (-1))) 25 (fun j => if j < 8 then -1 else I 25 j)) 26 (fun j => if j < 8 then -1 else I 26 j)) 27 (fun j => if j < 8 then nI 0 else I 27 j)) from by simp only [up2, p_up_s, p_up_n _ _ (show (26 : Nat) ≠ 25 by decide), p_up_n _ _ (show (26 : Nat) ≠ 24 by decide), p_up_n _ _ (show (27 : Nat) ≠ 26 by decide), p_up_n _ _ (show (27 : Nat) ≠ 25 by decide), p_up_n _ _ (show (27 : Nat) ≠ 24 by decide), p_up_n _ _ (show (25 : Nat) ≠ 24 by decide)]) ?_
  generalize hI1 : (va_up (va_up (va_up (va_up I 24 (va_up (va_up (va_up (I 24) 6 (nI 0)) 8 (nI 0)) 9 (-1))) 25 (fun j => if j < 8 then -1 else I 25 j)) 26 (fun j => if j < 8 then -1 else I 26 j)) 27 (fun j => if j < 8 then nI 0 else I 27 j)) = I1
  have hF1 : Fr csk I I1 := by rw [← hI1]; exact Fr_up (Fr_up (Fr_up (Fr_up Fr_rf (by decide) _) (by decide) _) (by decide) _) (by decide) _
  have h61 : K6 I I1 := by rw [← hI1]; exact K6_up (K6_up (K6_up (K6_up (fun _ _ => rfl) (by decide) _) (by decide) _) (by decide) _) (by decide) _
  have hC1 : WC n 0 n1 v0 I1 := by rw [← hI1]; exact WC_0 hW.2.2.1
  have e2 : I1 2 = I 2 := by rw [← hI1]; simp only [va_up, Nat.reduceEqDiff, if_false]
  have hW0 : TW tx n (p.1, none) I := hW
  have hW1 := TW_mv hW0 hF1 h61 (by decide)
  refine px_aload_n (kk := 0) rfl rfl rfl ?_
  refine px_getIe rfl gS_24 rfl (by first | exact hC1.2.2.2.2.2 | exact ((congrFun (hF2 24 (by decide)) 6).trans hC1.2.2.2.2.2)) ?_
  refine px_iconst (v := nI 2) rfl k_2 ?_
  refine px_icmp_eq rfl (fun h => absurd h (by decide)) (fun _ => ?_)
  refine px_aload_n (kk := 0) rfl rfl rfl ?_
  refine px_getR (r := 11) rfl gS_24 rfl (gR_24_1 _) ?_
  refine px_callV0 CX5_foresee [] [] (vX5_foresee hW1.1 hW1.2.1 hW1.2.2.1) rfl gS_11 (by decide) rfl rfl rfl (Nat.le_of_ble_eq_true rfl) (by decide) ?_
  rintro _ _ - ⟨rfl, I2, rfl, hF2, h62, hN2⟩
  have hW2 := TW_mv hW1 hF2 h62 (by decide)
  have hNR2 : ∀ x y, x < n → y < n → NR tx n I2 I2 x y := fun x y hx hy hxy => by
    rw [hN2 x y hx hy hxy, hF2 5 (by decide), hF2 4 (by decide), hF2 1 (by decide), hF2 2 (by decide)]
  refine px_aload_n (kk := 0) rfl rfl rfl ?_
  refine px_iconst (v := nI 0) rfl k_0 ?_
  refine px_aload_n (kk := 0) rfl rfl rfl ?_
  refine px_getIe rfl gS_24 rfl (by first | exact hC1.2.2.2.2.2 | exact ((congrFun (hF2 24 (by decide)) 6).trans hC1.2.2.2.2.2)) ?_
  refine px_iconst (v := nI 2) rfl k_2 ?_
  refine px_icmp_ne rfl (fun _ => ?_) (fun h => absurd h (by decide))
  refine px_aload_n (kk := 0) rfl rfl rfl ?_
  refine px_getR (r := 1) rfl gS_24 rfl (gR_24_0 _) ?_
  refine px_getIe rfl gS_1 rfl (by first | exact ((congrFun (hF2 1 (by decide)) 5).trans ((congrFun (hF1 1 (by decide)) 5).trans hcd))) ?_
  refine px_callV0 CX10_go [] [.int _, .int _] (pv_mono (e := 13) (by have := hW.2.2.1; omega) (lX10_rec (I := I2) hW2.2.1 hW.2.2.1 (fun M v I3 hF3 hM3 hf3 hC3 => vX10_judge0 (z := z) (E := E) hW2 hF3 hM3 hf3 hC3 hNR2) (fun M v => sp_vis_f M v) n 0 cd n1 v0 I2 (by omega) hcd4 Fr_rf MT_n1 n1_o (pow8 n hW.2.2.1) (WC_fr hC1 hF2 (by decide)))) rfl gS_24 (by decide) rfl rfl rfl (Nat.le_of_ble_eq_true rfl) (by decide) ?_
  rintro _ _ - ⟨rfl, I4, rfl, hF4, hC4⟩
  refine px_return rfl rfl ?_
  refine ⟨rfl, I4, rfl, Fr_tr (Fr_tr hF1 (Fr_mo hF2 (by decide))) (Fr_mo hF4 (by decide)), K6_tr (K6_tr h61 h62) (K6_fr hF4 (by decide)), ?_⟩
  simp only [hF2 5 (by decide), hF2 4 (by decide), hF2 3 (by decide), hF2 2 (by decide), hF2 1 (by decide), hF1 5 (by decide), hF1 4 (by decide), hF1 3 (by decide), e2, hF1 1 (by decide)] at hC4
  exact hC4
theorem vX10_seek1 {I : Nat → Nat → Int32} {J : Nat → Nat → Int64} {p : Bool × Option Nat} {ro : List (Nat × Nat × (Nat → Int32))} {tx : List Ln} {n : Nat} (hW : TW tx n p I) {z : Nat} {E : Nat → Int32} {cd : Nat} (hcd : I 1 5 = nI cd) (hcd4 : cd ≤ 4) : Pv 14 0 0 CX10_seek [.ref (24), .int (nI 1), .null] (gS, I, J, gR p, ro) (fun r S' => r = none ∧ ∃ I', S' = (gS, I', J, gR (p.1, none), ro) ∧ Fr csk I I' ∧ K6 I I' ∧ WC n 1 n1 (sp_seek 1 n tx (I 5) (I 4) (I 3) (I 2) (I 1 6) z E cd) I') := by
  refine ⟨okCX10_seek, Nat.le_of_ble_eq_true rfl, (show Px _ _ _ _ 0 [some (.ref (24)), some (.int (nI 1)), some .null] [] _ _ from ?_)⟩
  refine px_aload_n (kk := 0) rfl rfl rfl ?_
  refine px_iload_n (kk := 1) rfl rfl rfl ?_
  refine px_putI rfl gS_24 rfl rfl ?_
  refine px_aload_n (kk := 0) rfl rfl rfl ?_
  refine px_aload_nN (kk := 2) rfl rfl rfl ?_
  refine px_putN rfl gS_24 rfl rfl ?_
  refine px_memR (gR_told p none) ?_
  refine px_aload_n (kk := 0) rfl rfl rfl ?_
  refine px_iconst (v := nI 0) rfl k_0 ?_
  refine px_putI rfl gS_24 rfl rfl ?_
  refine px_aload_n (kk := 0) rfl rfl rfl ?_
  refine px_iconst (v := -1) rfl k_m1 ?_
  refine px_putI rfl gS_24 rfl rfl ?_
  refine px_aload_n (kk := 0) rfl rfl rfl ?_
  refine px_getR (r := 25) rfl gS_24 rfl (gR_24_2 _) ?_
  refine px_iconst (v := -1) rfl k_m1 ?_
  refine px_callS0 CJ7_fill_53178 [] [.ref 25, .int _] (vJ_fillI gS_25 (by decide) (-1)) rfl rfl rfl (Nat.le_of_ble_eq_true rfl) (by decide) ?_
  rintro _ _ - ⟨rfl, rfl⟩
  refine px_aload_n (kk := 0) rfl rfl rfl ?_
  refine px_getR (r := 26) rfl gS_24 rfl (gR_24_3 _) ?_
  refine px_iconst (v := -1) rfl k_m1 ?_
  refine px_callS0 CJ7_fill_53178 [] [.ref 26, .int _] (vJ_fillI gS_26 (by decide) (-1)) rfl rfl rfl (Nat.le_of_ble_eq_true rfl) (by decide) ?_
  rintro _ _ - ⟨rfl, rfl⟩
  refine px_aload_n (kk := 0) rfl rfl rfl ?_
  refine px_getR (r := 27) rfl gS_24 rfl (gR_24_4 _) ?_
  refine px_iconst (v := nI 0) rfl k_0 ?_
  refine px_callS0 CJ7_fill_53178 [] [.ref 27, .int _] (vJ_fillI gS_27 (by decide) (nI 0)) rfl rfl rfl (Nat.le_of_ble_eq_true rfl) (by decide) ?_
  rintro _ _ - ⟨rfl, rfl⟩
  refine px_mem (show _ = (va_up (va_up (va_up (va_up I 24 (va_up (va_up (va_up (I 24) 6 (nI 1)) 8 (nI 0)) 9 (-1))) 25 (fun j => if j < 8 then -1 else I 25 j)) 26 (fun j => if j < 8 then -1 else I 26 j)) 27 (fun j => if j < 8 then nI 0 else I 27 j)) from by simp only [up2, p_up_s, p_up_n _ _ (show (26 : Nat) ≠ 25 by decide), p_up_n _ _ (show (26 : Nat) ≠ 24 by decide), p_up_n _ _ (show (27 : Nat) ≠ 26 by decide), p_up_n _ _ (show (27 : Nat) ≠ 25 by decide), p_up_n _ _ (show (27 : Nat) ≠ 24 by decide), p_up_n _ _ (show (25 : Nat) ≠ 24 by decide)]) ?_
  generalize hI1 : (va_up (va_up (va_up (va_up I 24 (va_up (va_up (va_up (I 24) 6 (nI 1)) 8 (nI 0)) 9 (-1))) 25 (fun j => if j < 8 then -1 else I 25 j)) 26 (fun j => if j < 8 then -1 else I 26 j)) 27 (fun j => if j < 8 then nI 0 else I 27 j)) = I1
  have hF1 : Fr csk I I1 := by rw [← hI1]; exact Fr_up (Fr_up (Fr_up (Fr_up Fr_rf (by decide) _) (by decide) _) (by decide) _) (by decide) _
  have h61 : K6 I I1 := by rw [← hI1]; exact K6_up (K6_up (K6_up (K6_up (fun _ _ => rfl) (by decide) _) (by decide) _) (by decide) _) (by decide) _
  have hC1 : WC n 1 n1 v0 I1 := by rw [← hI1]; exact WC_0 hW.2.2.1
  have e2 : I1 2 = I 2 := by rw [← hI1]; simp only [va_up, Nat.reduceEqDiff, if_false]
  have hW0 : TW tx n (p.1, none) I := hW
  have hW1 := TW_mv hW0 hF1 h61 (by decide)
  refine px_aload_n (kk := 0) rfl rfl rfl ?_
  refine px_getIe rfl gS_24 rfl (by first | exact hC1.2.2.2.2.2 | exact ((congrFun (hF2 24 (by decide)) 6).trans hC1.2.2.2.2.2)) ?_
  refine px_iconst (v := nI 2) rfl k_2 ?_
  refine px_icmp_eq rfl (fun h => absurd h (by decide)) (fun _ => ?_)
  refine px_aload_n (kk := 0) rfl rfl rfl ?_
  refine px_getR (r := 11) rfl gS_24 rfl (gR_24_1 _) ?_
  refine px_callV0 CX5_foresee [] [] (vX5_foresee hW1.1 hW1.2.1 hW1.2.2.1) rfl gS_11 (by decide) rfl rfl rfl (Nat.le_of_ble_eq_true rfl) (by decide) ?_
  rintro _ _ - ⟨rfl, I2, rfl, hF2, h62, hN2⟩
  have hW2 := TW_mv hW1 hF2 h62 (by decide)
  have hNR2 : ∀ x y, x < n → y < n → NR tx n I2 I2 x y := fun x y hx hy hxy => by
    rw [hN2 x y hx hy hxy, hF2 5 (by decide), hF2 4 (by decide), hF2 1 (by decide), hF2 2 (by decide)]
  refine px_aload_n (kk := 0) rfl rfl rfl ?_
  refine px_iconst (v := nI 0) rfl k_0 ?_
  refine px_aload_n (kk := 0) rfl rfl rfl ?_
  refine px_getIe rfl gS_24 rfl (by first | exact hC1.2.2.2.2.2 | exact ((congrFun (hF2 24 (by decide)) 6).trans hC1.2.2.2.2.2)) ?_
  refine px_iconst (v := nI 2) rfl k_2 ?_
  refine px_icmp_ne rfl (fun _ => ?_) (fun h => absurd h (by decide))
  refine px_aload_n (kk := 0) rfl rfl rfl ?_
  refine px_getR (r := 1) rfl gS_24 rfl (gR_24_0 _) ?_
  refine px_getIe rfl gS_1 rfl (by first | exact ((congrFun (hF2 1 (by decide)) 5).trans ((congrFun (hF1 1 (by decide)) 5).trans hcd))) ?_
  refine px_callV0 CX10_go [] [.int _, .int _] (pv_mono (e := 13) (by have := hW.2.2.1; omega) (lX10_rec (I := I2) hW2.2.1 hW.2.2.1 (fun M v I3 hF3 hM3 hf3 hC3 => vX10_judge1 (z := z) (E := E) hW2 hF3 hM3 hf3 hC3 hNR2) (fun M v => sp_vis_f M v) n 0 cd n1 v0 I2 (by omega) hcd4 Fr_rf MT_n1 n1_o (pow8 n hW.2.2.1) (WC_fr hC1 hF2 (by decide)))) rfl gS_24 (by decide) rfl rfl rfl (Nat.le_of_ble_eq_true rfl) (by decide) ?_
  rintro _ _ - ⟨rfl, I4, rfl, hF4, hC4⟩
  refine px_return rfl rfl ?_
  refine ⟨rfl, I4, rfl, Fr_tr (Fr_tr hF1 (Fr_mo hF2 (by decide))) (Fr_mo hF4 (by decide)), K6_tr (K6_tr h61 h62) (K6_fr hF4 (by decide)), ?_⟩
  simp only [hF2 5 (by decide), hF2 4 (by decide), hF2 3 (by decide), hF2 2 (by decide), hF2 1 (by decide), hF1 5 (by decide), hF1 4 (by decide), hF1 3 (by decide), e2, hF1 1 (by decide)] at hC4
  exact hC4
theorem vX10_seek2 {I : Nat → Nat → Int32} {J : Nat → Nat → Int64} {p : Bool × Option Nat} {ro : List (Nat × Nat × (Nat → Int32))} {tx : List Ln} {n : Nat} (hW : TW tx n p I) {z : Nat} {E : Nat → Int32} : Pv 14 0 0 CX10_seek [.ref (24), .int (nI 2), .null] (gS, I, J, gR p, ro) (fun r S' => r = none ∧ ∃ I', S' = (gS, I', J, gR (p.1, none), ro) ∧ Fr csk I I' ∧ K6 I I' ∧ WC n 2 n1 (sp_seek 2 n tx (I 5) (I 4) (I 3) (I 2) (I 1 6) z E 4) I') := by
  refine ⟨okCX10_seek, Nat.le_of_ble_eq_true rfl, (show Px _ _ _ _ 0 [some (.ref (24)), some (.int (nI 2)), some .null] [] _ _ from ?_)⟩
  refine px_aload_n (kk := 0) rfl rfl rfl ?_
  refine px_iload_n (kk := 1) rfl rfl rfl ?_
  refine px_putI rfl gS_24 rfl rfl ?_
  refine px_aload_n (kk := 0) rfl rfl rfl ?_
  refine px_aload_nN (kk := 2) rfl rfl rfl ?_
  refine px_putN rfl gS_24 rfl rfl ?_
  refine px_memR (gR_told p none) ?_
  refine px_aload_n (kk := 0) rfl rfl rfl ?_
  refine px_iconst (v := nI 0) rfl k_0 ?_
  refine px_putI rfl gS_24 rfl rfl ?_
  refine px_aload_n (kk := 0) rfl rfl rfl ?_
  refine px_iconst (v := -1) rfl k_m1 ?_
  refine px_putI rfl gS_24 rfl rfl ?_
  refine px_aload_n (kk := 0) rfl rfl rfl ?_
  refine px_getR (r := 25) rfl gS_24 rfl (gR_24_2 _) ?_
  refine px_iconst (v := -1) rfl k_m1 ?_
  refine px_callS0 CJ7_fill_53178 [] [.ref 25, .int _] (vJ_fillI gS_25 (by decide) (-1)) rfl rfl rfl (Nat.le_of_ble_eq_true rfl) (by decide) ?_
  rintro _ _ - ⟨rfl, rfl⟩
  refine px_aload_n (kk := 0) rfl rfl rfl ?_
  refine px_getR (r := 26) rfl gS_24 rfl (gR_24_3 _) ?_
  refine px_iconst (v := -1) rfl k_m1 ?_
  refine px_callS0 CJ7_fill_53178 [] [.ref 26, .int _] (vJ_fillI gS_26 (by decide) (-1)) rfl rfl rfl (Nat.le_of_ble_eq_true rfl) (by decide) ?_
  rintro _ _ - ⟨rfl, rfl⟩
  refine px_aload_n (kk := 0) rfl rfl rfl ?_
  refine px_getR (r := 27) rfl gS_24 rfl (gR_24_4 _) ?_
  refine px_iconst (v := nI 0) rfl k_0 ?_
  refine px_callS0 CJ7_fill_53178 [] [.ref 27, .int _] (vJ_fillI gS_27 (by decide) (nI 0)) rfl rfl rfl (Nat.le_of_ble_eq_true rfl) (by decide) ?_
  rintro _ _ - ⟨rfl, rfl⟩
  refine px_mem (show _ = (va_up (va_up (va_up (va_up I 24 (va_up (va_up (va_up (I 24) 6 (nI 2)) 8 (nI 0)) 9 (-1))) 25 (fun j => if j < 8 then -1 else I 25 j)) 26 (fun j => if j < 8 then -1 else I 26 j)) 27 (fun j => if j < 8 then nI 0 else I 27 j)) from by simp only [up2, p_up_s, p_up_n _ _ (show (26 : Nat) ≠ 25 by decide), p_up_n _ _ (show (26 : Nat) ≠ 24 by decide), p_up_n _ _ (show (27 : Nat) ≠ 26 by decide), p_up_n _ _ (show (27 : Nat) ≠ 25 by decide), p_up_n _ _ (show (27 : Nat) ≠ 24 by decide), p_up_n _ _ (show (25 : Nat) ≠ 24 by decide)]) ?_
  generalize hI1 : (va_up (va_up (va_up (va_up I 24 (va_up (va_up (va_up (I 24) 6 (nI 2)) 8 (nI 0)) 9 (-1))) 25 (fun j => if j < 8 then -1 else I 25 j)) 26 (fun j => if j < 8 then -1 else I 26 j)) 27 (fun j => if j < 8 then nI 0 else I 27 j)) = I1
  have hF1 : Fr csk I I1 := by rw [← hI1]; exact Fr_up (Fr_up (Fr_up (Fr_up Fr_rf (by decide) _) (by decide) _) (by decide) _) (by decide) _
  have h61 : K6 I I1 := by rw [← hI1]; exact K6_up (K6_up (K6_up (K6_up (fun _ _ => rfl) (by decide) _) (by decide) _) (by decide) _) (by decide) _
  have hC1 : WC n 2 n1 v0 I1 := by rw [← hI1]; exact WC_0 hW.2.2.1
  have e2 : I1 2 = I 2 := by rw [← hI1]; simp only [va_up, Nat.reduceEqDiff, if_false]
  have hW0 : TW tx n (p.1, none) I := hW
  have hW1 := TW_mv hW0 hF1 h61 (by decide)
  refine px_aload_n (kk := 0) rfl rfl rfl ?_
  refine px_getIe rfl gS_24 rfl (by first | exact hC1.2.2.2.2.2 | exact ((congrFun (hF2 24 (by decide)) 6).trans hC1.2.2.2.2.2)) ?_
  refine px_iconst (v := nI 2) rfl k_2 ?_
  refine px_icmp_eq rfl (fun _ => ?_) (fun h => absurd h (by decide))
  refine px_aload_n (kk := 0) rfl rfl rfl ?_
  refine px_iconst (v := nI 0) rfl k_0 ?_
  refine px_aload_n (kk := 0) rfl rfl rfl ?_
  refine px_getIe rfl gS_24 rfl (by first | exact hC1.2.2.2.2.2 | exact ((congrFun (hF2 24 (by decide)) 6).trans hC1.2.2.2.2.2)) ?_
  refine px_iconst (v := nI 2) rfl k_2 ?_
  refine px_icmp_ne rfl (fun h => absurd h (by decide)) (fun _ => ?_)
  refine px_iconst (v := nI 4) rfl k_4 ?_
  refine px_goto rfl ?_
  refine px_callV0 CX10_go [] [.int _, .int _] (pv_mono (e := 13) (by have := hW.2.2.1; omega) (lX10_rec (I := I1) hW1.2.1 hW.2.2.1 (fun M v I3 hF3 hM3 hf3 hC3 => vX10_judge2 (z := z) (E := E) hW1 hF3 hM3 hf3 hC3) (fun M v => sp_vis_f M v) n 0 4 n1 v0 I1 (by omega) (by decide) Fr_rf MT_n1 n1_o (pow8 n hW.2.2.1) hC1)) rfl gS_24 (by decide) rfl rfl rfl (Nat.le_of_ble_eq_true rfl) (by decide) ?_
  rintro _ _ - ⟨rfl, I4, rfl, hF4, hC4⟩
  refine px_return rfl rfl ?_
  refine ⟨rfl, I4, rfl, Fr_tr hF1 (Fr_mo hF4 (by decide)), K6_tr h61 (K6_fr hF4 (by decide)), ?_⟩
  simp only [hF1 5 (by decide), hF1 4 (by decide), hF1 3 (by decide), e2, hF1 1 (by decide)] at hC4
  exact hC4
theorem vX10_seek3 {I : Nat → Nat → Int32} {J : Nat → Nat → Int64} {p : Bool × Option Nat} {ro : List (Nat × Nat × (Nat → Int32))} {tx : List Ln} {n : Nat} (hW : TW tx n p I) {s z : Nat} (hs : s < 6) (hz : I (53 + 2 * s) 4 = nI z) (hz60 : z ≤ 60) {cd : Nat} (hcd : I 1 5 = nI cd) (hcd4 : cd ≤ 4) : Pv 14 0 0 CX10_seek [.ref (24), .int (nI 3), .ref (53 + 2 * s)] (gS, I, J, gR p, ro) (fun r S' => r = none ∧ ∃ I', S' = (gS, I', J, gR (p.1, (some (53 + 2 * s))), ro) ∧ Fr csk I I' ∧ K6 I I' ∧ WC n 3 n1 (sp_seek 3 n tx (I 5) (I 4) (I 3) (I 2) (I 1 6) z (fun j => (J (54 + 2 * s) j).toInt32) cd) I') := by
  refine ⟨okCX10_seek, Nat.le_of_ble_eq_true rfl, (show Px _ _ _ _ 0 [some (.ref (24)), some (.int (nI 3)), some (.ref (53 + 2 * s))] [] _ _ from ?_)⟩
  refine px_aload_n (kk := 0) rfl rfl rfl ?_
  refine px_iload_n (kk := 1) rfl rfl rfl ?_
  refine px_putI rfl gS_24 rfl rfl ?_
  refine px_aload_n (kk := 0) rfl rfl rfl ?_
  refine px_aload_n (kk := 2) rfl rfl rfl ?_
  refine px_putR rfl gS_24 rfl rfl ?_
  refine px_memR (gR_told p (some (53 + 2 * s))) ?_
  refine px_aload_n (kk := 0) rfl rfl rfl ?_
  refine px_iconst (v := nI 0) rfl k_0 ?_
  refine px_putI rfl gS_24 rfl rfl ?_
  refine px_aload_n (kk := 0) rfl rfl rfl ?_
  refine px_iconst (v := -1) rfl k_m1 ?_
  refine px_putI rfl gS_24 rfl rfl ?_
  refine px_aload_n (kk := 0) rfl rfl rfl ?_
  refine px_getR (r := 25) rfl gS_24 rfl (gR_24_2 _) ?_
  refine px_iconst (v := -1) rfl k_m1 ?_
  refine px_callS0 CJ7_fill_53178 [] [.ref 25, .int _] (vJ_fillI gS_25 (by decide) (-1)) rfl rfl rfl (Nat.le_of_ble_eq_true rfl) (by decide) ?_
  rintro _ _ - ⟨rfl, rfl⟩
  refine px_aload_n (kk := 0) rfl rfl rfl ?_
  refine px_getR (r := 26) rfl gS_24 rfl (gR_24_3 _) ?_
  refine px_iconst (v := -1) rfl k_m1 ?_
  refine px_callS0 CJ7_fill_53178 [] [.ref 26, .int _] (vJ_fillI gS_26 (by decide) (-1)) rfl rfl rfl (Nat.le_of_ble_eq_true rfl) (by decide) ?_
  rintro _ _ - ⟨rfl, rfl⟩
  refine px_aload_n (kk := 0) rfl rfl rfl ?_
  refine px_getR (r := 27) rfl gS_24 rfl (gR_24_4 _) ?_
  refine px_iconst (v := nI 0) rfl k_0 ?_
  refine px_callS0 CJ7_fill_53178 [] [.ref 27, .int _] (vJ_fillI gS_27 (by decide) (nI 0)) rfl rfl rfl (Nat.le_of_ble_eq_true rfl) (by decide) ?_
  rintro _ _ - ⟨rfl, rfl⟩
  refine px_mem (show _ = (va_up (va_up (va_up (va_up I 24 (va_up (va_up (va_up (I 24) 6 (nI 3)) 8 (nI 0)) 9 (-1))) 25 (fun j => if j < 8 then -1 else I 25 j)) 26 (fun j => if j < 8 then -1 else I 26 j)) 27 (fun j => if j < 8 then nI 0 else I 27 j)) from by simp only [up2, p_up_s, p_up_n _ _ (show (26 : Nat) ≠ 25 by decide), p_up_n _ _ (show (26 : Nat) ≠ 24 by decide), p_up_n _ _ (show (27 : Nat) ≠ 26 by decide), p_up_n _ _ (show (27 : Nat) ≠ 25 by decide), p_up_n _ _ (show (27 : Nat) ≠ 24 by decide), p_up_n _ _ (show (25 : Nat) ≠ 24 by decide)]) ?_
  generalize hI1 : (va_up (va_up (va_up (va_up I 24 (va_up (va_up (va_up (I 24) 6 (nI 3)) 8 (nI 0)) 9 (-1))) 25 (fun j => if j < 8 then -1 else I 25 j)) 26 (fun j => if j < 8 then -1 else I 26 j)) 27 (fun j => if j < 8 then nI 0 else I 27 j)) = I1
  have hF1 : Fr csk I I1 := by rw [← hI1]; exact Fr_up (Fr_up (Fr_up (Fr_up Fr_rf (by decide) _) (by decide) _) (by decide) _) (by decide) _
  have h61 : K6 I I1 := by rw [← hI1]; exact K6_up (K6_up (K6_up (K6_up (fun _ _ => rfl) (by decide) _) (by decide) _) (by decide) _) (by decide) _
  have hC1 : WC n 3 n1 v0 I1 := by rw [← hI1]; exact WC_0 hW.2.2.1
  have e2 : I1 2 = I 2 := by rw [← hI1]; simp only [va_up, Nat.reduceEqDiff, if_false]
  have hW0 : TW tx n (p.1, (some (53 + 2 * s))) I := hW
  have hW1 := TW_mv hW0 hF1 h61 (by decide)
  refine px_aload_n (kk := 0) rfl rfl rfl ?_
  refine px_getIe rfl gS_24 rfl (by first | exact hC1.2.2.2.2.2 | exact ((congrFun (hF2 24 (by decide)) 6).trans hC1.2.2.2.2.2)) ?_
  refine px_iconst (v := nI 2) rfl k_2 ?_
  refine px_icmp_eq rfl (fun h => absurd h (by decide)) (fun _ => ?_)
  refine px_aload_n (kk := 0) rfl rfl rfl ?_
  refine px_getR (r := 11) rfl gS_24 rfl (gR_24_1 _) ?_
  refine px_callV0 CX5_foresee [] [] (vX5_foresee hW1.1 hW1.2.1 hW1.2.2.1) rfl gS_11 (by decide) rfl rfl rfl (Nat.le_of_ble_eq_true rfl) (by decide) ?_
  rintro _ _ - ⟨rfl, I2, rfl, hF2, h62, hN2⟩
  have hW2 := TW_mv hW1 hF2 h62 (by decide)
  have hNR2 : ∀ x y, x < n → y < n → NR tx n I2 I2 x y := fun x y hx hy hxy => by
    rw [hN2 x y hx hy hxy, hF2 5 (by decide), hF2 4 (by decide), hF2 1 (by decide), hF2 2 (by decide)]
  refine px_aload_n (kk := 0) rfl rfl rfl ?_
  refine px_iconst (v := nI 0) rfl k_0 ?_
  refine px_aload_n (kk := 0) rfl rfl rfl ?_
  refine px_getIe rfl gS_24 rfl (by first | exact hC1.2.2.2.2.2 | exact ((congrFun (hF2 24 (by decide)) 6).trans hC1.2.2.2.2.2)) ?_
  refine px_iconst (v := nI 2) rfl k_2 ?_
  refine px_icmp_ne rfl (fun _ => ?_) (fun h => absurd h (by decide))
  refine px_aload_n (kk := 0) rfl rfl rfl ?_
  refine px_getR (r := 1) rfl gS_24 rfl (gR_24_0 _) ?_
  refine px_getIe rfl gS_1 rfl (by first | exact ((congrFun (hF2 1 (by decide)) 5).trans ((congrFun (hF1 1 (by decide)) 5).trans hcd))) ?_
  refine px_callV0 CX10_go [] [.int _, .int _] (pv_mono (e := 13) (by have := hW.2.2.1; omega) (lX10_rec (I := I2) hW2.2.1 hW.2.2.1 (fun M v I3 hF3 hM3 hf3 hC3 => vX10_judge3 hW2 hs (by rw [hF2 (53 + 2 * s) (by simp; omega), hF1 (53 + 2 * s) (by simp; omega)]; exact hz) hz60 rfl hF3 hM3 hf3 hC3 hNR2) (fun M v => sp_vis_f M v) n 0 cd n1 v0 I2 (by omega) hcd4 Fr_rf MT_n1 n1_o (pow8 n hW.2.2.1) (WC_fr hC1 hF2 (by decide)))) rfl gS_24 (by decide) rfl rfl rfl (Nat.le_of_ble_eq_true rfl) (by decide) ?_
  rintro _ _ - ⟨rfl, I4, rfl, hF4, hC4⟩
  refine px_return rfl rfl ?_
  refine ⟨rfl, I4, rfl, Fr_tr (Fr_tr hF1 (Fr_mo hF2 (by decide))) (Fr_mo hF4 (by decide)), K6_tr (K6_tr h61 h62) (K6_fr hF4 (by decide)), ?_⟩
  simp only [hF2 5 (by decide), hF2 4 (by decide), hF2 3 (by decide), hF2 2 (by decide), hF2 1 (by decide), hF1 5 (by decide), hF1 4 (by decide), hF1 3 (by decide), e2, hF1 1 (by decide)] at hC4
  exact hC4
def sp_pair (F : Nat → Int32) (k : Int32) : Nat → Nat → Nat → Int32
  | 0, _, _ => -2
  | m + 1, l, c => if nI l < F l then (if nI c = k then nI (10 * l) + F l else sp_pair F k m (l + 1) (c + 1)) else sp_pair F k m (l + 1) c
theorem sp_pair_congr {F G : Nat → Int32} {k : Int32} {n : Nat} (h : ∀ l, l < n → F l = G l) : ∀ (m l c : Nat), l + m ≤ n → sp_pair F k m l c = sp_pair G k m l c
  | 0, _, _, _ => rfl
  | m + 1, l, c, hl => by
    simp only [sp_pair]
    rw [h l (by omega), sp_pair_congr h m (l + 1) (c + 1) (by omega), sp_pair_congr h m (l + 1) c (by omega)]
def sp_lamp (S : Nat → Int32) (f : Nat) : Nat → Int32 × Int32
  | 0 => (-2, nI f)
  | k + 1 => if (sp_lamp S f k).1 = -2 ∨ (if S k < nI f - S k then nI f - S k else S k) < (sp_lamp S f k).2 then (nI k, if S k < nI f - S k then nI f - S k else S k) else sp_lamp S f k
theorem sp_lamp_congr {S T : Nat → Int32} {f : Nat} : ∀ {k : Nat}, (∀ l, l < k → S l = T l) → sp_lamp S f k = sp_lamp T f k
  | 0, _ => rfl
  | k + 1, h => by simp only [sp_lamp]; rw [sp_lamp_congr (fun l hl => h l (by omega)), h k (by omega)]
theorem lX10_pair {I : Nat → Nat → Int32} {J : Nat → Nat → Int64} {p : Bool × Option Nat} {ro : List (Nat × Nat × (Nat → Int32))} {n : Nat} (hn : I 1 4 = nI n) (hn8 : n ≤ 8) {k : Int32} {c l : Nat} (hl : l ≤ n) : Px 0 0 0 CX10_pairOfFirst 4 [some (.ref (24)), some (.int (k)), some (.int (nI c)), some (.int (nI l))] [] (gS, I, J, gR p, ro) (qI (sp_pair (I 26) k (n - l) l c) (gS, I, J, gR p, ro)) := by
  refine px_iload_n (kk := 3) rfl rfl rfl ?_
  refine px_aload_n (kk := 0) rfl rfl rfl ?_
  refine px_getR (r := 1) rfl gS_24 rfl (gR_24_0 _) ?_
  refine px_getIe rfl gS_1 rfl hn ?_
  refine px_icmp_ge rfl (fun c8 => ?_) (fun c8 => ?_)
  · refine px_bipush (v := -2) rfl b_m2 ?_
    refine px_ireturn rfl (.inl rfl) ?_
    rw [n_le (by omega) (by omega)] at c8
    obtain rfl : l = n := by omega
    rw [Nat.sub_self]
    exact ⟨rfl, rfl⟩
  · rw [n_le (by omega) (by omega)] at c8
    refine px_aload_n (kk := 0) rfl rfl rfl ?_
    refine px_getR (r := 26) rfl gS_24 rfl (gR_24_3 _) ?_
    refine px_iload_n (kk := 3) rfl rfl rfl ?_
    refine px_iald (j := l) rfl gS_26 rfl (by omega) ?_
    refine px_iload_n (kk := 3) rfl rfl rfl ?_
    refine px_icmp_le rfl (fun c14 => ?_) (fun c14 => ?_)
    · refine px_iinc3 (v := nI (l + 1)) rfl (n_inc l) rfl (by decide) ?_
      refine px_goto rfl ?_
      have hu : (sp_pair (I 26) k (n - l) l c) = sp_pair (I 26) k (n - (l + 1)) (l + 1) c := by
        conv => lhs; rw [show n - l = (n - (l + 1)) + 1 by omega]; unfold sp_pair
        rw [if_neg (fun h => by rw [i_lt] at h; rw [i_le] at c14; omega)]
      rw [hu]
      exact lX10_pair hn hn8 (by omega)
    · refine px_iload_n (kk := 2) rfl rfl rfl ?_
      refine px_iload_n (kk := 1) rfl rfl rfl ?_
      refine px_icmp_ne rfl (fun c17 => ?_) (fun c17 => ?_)
      · refine px_iinc2 (v := nI (c + 1)) rfl (n_inc c) rfl (by decide) ?_
        refine px_iinc3 (v := nI (l + 1)) rfl (n_inc l) rfl (by decide) ?_
        refine px_goto rfl ?_
        have hu : (sp_pair (I 26) k (n - l) l c) = sp_pair (I 26) k (n - (l + 1)) (l + 1) (c + 1) := by
          conv => lhs; rw [show n - l = (n - (l + 1)) + 1 by omega]; unfold sp_pair
          rw [if_pos (by rw [i_lt]; rw [i_le] at c14; omega), if_neg c17]
        rw [hu]
        exact lX10_pair hn hn8 (by omega)
      · refine px_bipush (v := nI 10) rfl b_10 ?_
        refine px_iload_n (kk := 3) rfl rfl rfl ?_
        refine px_imulN rfl ?_
        refine px_aload_n (kk := 0) rfl rfl rfl ?_
        refine px_getR (r := 26) rfl gS_24 rfl (gR_24_3 _) ?_
        refine px_iload_n (kk := 3) rfl rfl rfl ?_
        refine px_iald (j := l) rfl gS_26 rfl (by omega) ?_
        refine px_iadd rfl ?_
        refine px_ireturn rfl (.inl rfl) ?_
        have hu : (sp_pair (I 26) k (n - l) l c) = nI (10 * l) + I 26 l := by
          conv => lhs; rw [show n - l = (n - (l + 1)) + 1 by omega]; unfold sp_pair
          rw [if_pos (by rw [i_lt]; rw [i_le] at c14; omega), if_pos c17]
        rw [hu]
        exact ⟨rfl, rfl⟩
termination_by n - l
decreasing_by all_goals (have h9 := ‹¬ nI n ≤ nI l›; rw [n_le (by omega) (by omega)] at h9; omega)
theorem vX10_pair {I : Nat → Nat → Int32} {J : Nat → Nat → Int64} {p : Bool × Option Nat} {ro : List (Nat × Nat × (Nat → Int32))} {n : Nat} (hn : I 1 4 = nI n) (hn8 : n ≤ 8) {k : Int32} : Pv 0 0 0 CX10_pairOfFirst [.ref (24), .int (k)] (gS, I, J, gR p, ro) (qI (sp_pair (I 26) k n 0 0) (gS, I, J, gR p, ro)) := by
  refine ⟨okCX10_pairOfFirst, Nat.le_of_ble_eq_true rfl, (show Px _ _ _ _ 0 [some (.ref (24)), some (.int (k)), none, none] [] _ _ from ?_)⟩
  refine px_iconst (v := nI 0) rfl k_0 ?_
  refine px_ist2 rfl rfl (by decide) ?_
  refine px_iconst (v := nI 0) rfl k_0 ?_
  refine px_ist3 rfl rfl (by decide) ?_
  exact lX10_pair hn hn8 (l := 0) (by omega)
theorem lX10_sure {I : Nat → Nat → Int32} {J : Nat → Nat → Int64} {p : Bool × Option Nat} {ro : List (Nat × Nat × (Nat → Int32))} {n : Nat} (hn : I 1 4 = nI n) (hn8 : n ≤ 8) {f : Nat} (hf : I 24 8 = nI f) (hf31 : f < 2 ^ 31) {k : Nat} (hk : k ≤ n) : Px 0 0 0 CX10_alwaysThrough 4 [some (.ref (24)), some (.int ((sp_bits (fun l => decide (0 < f) && decide (I 27 l = nI f)) k))), some (.int (nI k))] [] (gS, I, J, gR p, ro) (qI (sp_bits (fun l => decide (0 < f) && decide (I 27 l = nI f)) n) (gS, I, J, gR p, ro)) := by
  refine px_iload_n (kk := 2) rfl rfl rfl ?_
  refine px_aload_n (kk := 0) rfl rfl rfl ?_
  refine px_getR (r := 1) rfl gS_24 rfl (gR_24_0 _) ?_
  refine px_getIe rfl gS_1 rfl hn ?_
  refine px_icmp_ge rfl (fun c8 => ?_) (fun c8 => ?_)
  · refine px_iload_n (kk := 1) rfl rfl rfl ?_
    refine px_ireturn rfl (.inl rfl) ?_
    rw [n_le (by omega) (by omega)] at c8
    obtain rfl : k = n := by omega
    exact ⟨rfl, rfl⟩
  · rw [n_le (by omega) (by omega)] at c8
    refine px_aload_n (kk := 0) rfl rfl rfl ?_
    refine px_getIe rfl gS_24 rfl hf ?_
    refine px_if_le rfl (fun c11 => ?_) (fun c11 => ?_)
    · refine px_iinc2 (v := nI (k + 1)) rfl (n_inc k) rfl (by decide) ?_
      refine px_goto rfl ?_
      rw [show sp_bits (fun l => decide (0 < f) && decide (I 27 l = nI f)) k = sp_bits (fun l => decide (0 < f) && decide (I 27 l = nI f)) (k + 1) by simp only [sp_bits]; rw [if_neg (by rw [n_0, n_le hf31 (by omega)] at c11; simp; omega)]]
      exact lX10_sure hn hn8 hf hf31 (k := k + 1) (by omega)
    · refine px_aload_n (kk := 0) rfl rfl rfl ?_
      refine px_getR (r := 27) rfl gS_24 rfl (gR_24_4 _) ?_
      refine px_iload_n (kk := 2) rfl rfl rfl ?_
      refine px_iald (j := k) rfl gS_27 rfl (by omega) ?_
      refine px_aload_n (kk := 0) rfl rfl rfl ?_
      refine px_getIe rfl gS_24 rfl hf ?_
      refine px_icmp_ne rfl (fun c18 => ?_) (fun c18 => ?_)
      · refine px_iinc2 (v := nI (k + 1)) rfl (n_inc k) rfl (by decide) ?_
        refine px_goto rfl ?_
        rw [show sp_bits (fun l => decide (0 < f) && decide (I 27 l = nI f)) k = sp_bits (fun l => decide (0 < f) && decide (I 27 l = nI f)) (k + 1) by simp only [sp_bits]; rw [if_neg (by simp [c18])]]
        exact lX10_sure hn hn8 hf hf31 (k := k + 1) (by omega)
      · refine px_iload_n (kk := 1) rfl rfl rfl ?_
        refine px_iconst (v := nI 1) rfl k_1 ?_
        refine px_iload_n (kk := 2) rfl rfl rfl ?_
        refine px_ishl rfl ?_
        refine px_ior rfl ?_
        refine px_ist1 rfl rfl (by decide) ?_
        refine px_iinc2 (v := nI (k + 1)) rfl (n_inc k) rfl (by decide) ?_
        refine px_goto rfl ?_
        rw [show sp_bits (fun l => decide (0 < f) && decide (I 27 l = nI f)) k ||| (nI 1 <<< (nI k &&& 31)) = sp_bits (fun l => decide (0 < f) && decide (I 27 l = nI f)) (k + 1) by simp only [sp_bits]; rw [if_pos (by rw [n_0, n_le hf31 (by omega)] at c11; simp [c18]; omega)]]
        exact lX10_sure hn hn8 hf hf31 (k := k + 1) (by omega)
termination_by n - k
decreasing_by all_goals (have h := ‹¬ nI n ≤ nI k›; rw [n_le (by omega) (by omega)] at h; omega)
theorem vX10_sure {I : Nat → Nat → Int32} {J : Nat → Nat → Int64} {p : Bool × Option Nat} {ro : List (Nat × Nat × (Nat → Int32))} {n : Nat} (hn : I 1 4 = nI n) (hn8 : n ≤ 8) {f : Nat} (hf : I 24 8 = nI f) (hf31 : f < 2 ^ 31) : Pv 0 0 0 CX10_alwaysThrough [.ref (24)] (gS, I, J, gR p, ro) (qI (sp_bits (fun l => decide (0 < f) && decide (I 27 l = nI f)) n) (gS, I, J, gR p, ro)) := by
  refine ⟨okCX10_alwaysThrough, Nat.le_of_ble_eq_true rfl, (show Px _ _ _ _ 0 [some (.ref (24)), none, none] [] _ _ from ?_)⟩
  refine px_iconst (v := nI 0) rfl k_0 ?_
  refine px_ist1 rfl rfl (by decide) ?_
  refine px_iconst (v := nI 0) rfl k_0 ?_
  refine px_ist2 rfl rfl (by decide) ?_
  exact lX10_sure hn hn8 hf hf31 (k := 0) (by omega)
theorem lX10_lamp {I : Nat → Nat → Int32} {J : Nat → Nat → Int64} {p : Bool × Option Nat} {ro : List (Nat × Nat × (Nat → Int32))} {n : Nat} (hn : I 1 4 = nI n) (hn8 : n ≤ 8) {f : Nat} (hf : I 24 8 = nI f) (hf31 : f < 2 ^ 31) (h0 : 0 < f) {k : Nat} (hk : k ≤ n) {o : Option Value} : Px 0 0 0 CX10_partsBest 7 [some (.ref (24)), some (.int ((sp_lamp (I 27) f k).1)), some (.int ((sp_lamp (I 27) f k).2)), some (.int (nI k)), o] [] (gS, I, J, gR p, ro) (qI (sp_lamp (I 27) f n).1 (gS, I, J, gR p, ro)) := by
  refine px_iload_n (kk := 3) rfl rfl rfl ?_
  refine px_aload_n (kk := 0) rfl rfl rfl ?_
  refine px_getR (r := 1) rfl gS_24 rfl (gR_24_0 _) ?_
  refine px_getIe rfl gS_1 rfl hn ?_
  refine px_icmp_ge rfl (fun c11 => ?_) (fun c11 => ?_)
  · refine px_iload_n (kk := 1) rfl rfl rfl ?_
    refine px_ireturn rfl (.inl rfl) ?_
    rw [n_le (by omega) (by omega)] at c11
    obtain rfl : k = n := by omega
    exact ⟨rfl, rfl⟩
  · rw [n_le (by omega) (by omega)] at c11
    refine px_aload_n (kk := 0) rfl rfl rfl ?_
    refine px_getIe rfl gS_24 rfl hf ?_
    refine px_if_le rfl (fun h => absurd h (by rw [n_0, n_le hf31 (by omega)]; omega)) (fun c14 => ?_)
    refine px_aload_n (kk := 0) rfl rfl rfl ?_
    refine px_getR (r := 27) rfl gS_24 rfl (gR_24_4 _) ?_
    refine px_iload_n (kk := 3) rfl rfl rfl ?_
    refine px_iald (j := k) rfl gS_27 rfl (by omega) ?_
    refine px_aload_n (kk := 0) rfl rfl rfl ?_
    refine px_getIe rfl gS_24 rfl hf ?_
    refine px_aload_n (kk := 0) rfl rfl rfl ?_
    refine px_getR (r := 27) rfl gS_24 rfl (gR_24_4 _) ?_
    refine px_iload_n (kk := 3) rfl rfl rfl ?_
    refine px_iald (j := k) rfl gS_27 rfl (by omega) ?_
    refine px_isub rfl ?_
    refine px_mmax rfl (Nat.le_of_ble_eq_true rfl) ?_
    refine px_ist4 rfl rfl (by decide) ?_
    refine px_iload_n (kk := 1) rfl rfl rfl ?_
    refine px_bipush (v := -2) rfl b_m2 ?_
    refine px_icmp_eq rfl (fun c30 => ?_) (fun c30 => ?_)
    · refine px_iload_n (kk := 3) rfl rfl rfl ?_
      refine px_ist1 rfl rfl (by decide) ?_
      refine px_iload rfl rfl ?_
      refine px_ist2 rfl rfl (by decide) ?_
      refine px_iinc3 (v := nI (k + 1)) rfl (n_inc k) rfl (by decide) ?_
      refine px_goto rfl ?_
      have hu : (sp_lamp (I 27) f (k + 1)) = (nI k, (if I 27 k < nI f - I 27 k then nI f - I 27 k else I 27 k)) := by
        conv => lhs; unfold sp_lamp
        rw [if_pos (Or.inl c30)]
      have := lX10_lamp (J := J) (p := p) (ro := ro) hn hn8 hf hf31 h0 (k := k + 1) (o := some (.int (if I 27 k < nI f - I 27 k then nI f - I 27 k else I 27 k))) (by omega)
      rw [hu] at this
      exact this
    · refine px_iload rfl rfl ?_
      refine px_iload_n (kk := 2) rfl rfl rfl ?_
      refine px_icmp_ge rfl (fun c33 => ?_) (fun c33 => ?_)
      · refine px_iinc3 (v := nI (k + 1)) rfl (n_inc k) rfl (by decide) ?_
        refine px_goto rfl ?_
        have hu : (sp_lamp (I 27) f (k + 1)) = (sp_lamp (I 27) f k) := by
          conv => lhs; unfold sp_lamp
          rw [if_neg (fun z => z.elim (fun y => c30 y) (fun y => by rw [i_lt] at y; rw [i_le] at c33; omega))]
        have := lX10_lamp (J := J) (p := p) (ro := ro) hn hn8 hf hf31 h0 (k := k + 1) (o := some (.int (if I 27 k < nI f - I 27 k then nI f - I 27 k else I 27 k))) (by omega)
        rw [hu] at this
        exact this
      · refine px_iload_n (kk := 3) rfl rfl rfl ?_
        refine px_ist1 rfl rfl (by decide) ?_
        refine px_iload rfl rfl ?_
        refine px_ist2 rfl rfl (by decide) ?_
        refine px_iinc3 (v := nI (k + 1)) rfl (n_inc k) rfl (by decide) ?_
        refine px_goto rfl ?_
        have hu : (sp_lamp (I 27) f (k + 1)) = (nI k, (if I 27 k < nI f - I 27 k then nI f - I 27 k else I 27 k)) := by
          conv => lhs; unfold sp_lamp
          rw [if_pos (Or.inr (by rw [i_lt]; rw [i_le] at c33; omega))]
        have := lX10_lamp (J := J) (p := p) (ro := ro) hn hn8 hf hf31 h0 (k := k + 1) (o := some (.int (if I 27 k < nI f - I 27 k then nI f - I 27 k else I 27 k))) (by omega)
        rw [hu] at this
        exact this
termination_by n - k
decreasing_by all_goals (have h := ‹¬ nI n ≤ nI k›; rw [n_le (by omega) (by omega)] at h; omega)
theorem vX10_lamp {I : Nat → Nat → Int32} {J : Nat → Nat → Int64} {p : Bool × Option Nat} {ro : List (Nat × Nat × (Nat → Int32))} {n : Nat} (hn : I 1 4 = nI n) (hn8 : n ≤ 8) {f : Nat} (hf : I 24 8 = nI f) (hf31 : f < 2 ^ 31) : Pv 0 0 0 CX10_partsBest [.ref (24)] (gS, I, J, gR p, ro) (qI (if 0 < f then (sp_lamp (I 27) f n).1 else -2) (gS, I, J, gR p, ro)) := by
  refine ⟨okCX10_partsBest, Nat.le_of_ble_eq_true rfl, (show Px _ _ _ _ 0 [some (.ref (24)), none, none, none, none] [] _ _ from ?_)⟩
  refine px_bipush (v := -2) rfl b_m2 ?_
  refine px_ist1 rfl rfl (by decide) ?_
  refine px_aload_n (kk := 0) rfl rfl rfl ?_
  refine px_getIe rfl gS_24 rfl hf ?_
  refine px_ist2 rfl rfl (by decide) ?_
  refine px_iconst (v := nI 0) rfl k_0 ?_
  refine px_ist3 rfl rfl (by decide) ?_
  by_cases h0 : 0 < f
  · rw [if_pos h0]
    exact lX10_lamp hn hn8 hf hf31 h0 (k := 0) (by omega)
  · rw [if_neg h0]
    refine px_iload_n (kk := 3) rfl rfl rfl ?_
    refine px_aload_n (kk := 0) rfl rfl rfl ?_
    refine px_getR (r := 1) rfl gS_24 rfl (gR_24_0 _) ?_
    refine px_getIe rfl gS_1 rfl hn ?_
    refine px_icmp_ge rfl (fun c11 => ?_) (fun c11 => ?_)
    · refine px_iload_n (kk := 1) rfl rfl rfl ?_
      refine px_ireturn rfl (.inl rfl) ?_
      exact ⟨rfl, rfl⟩
    · refine px_aload_n (kk := 0) rfl rfl rfl ?_
      refine px_getIe rfl gS_24 rfl hf ?_
      refine px_if_le rfl (fun c14 => ?_) (fun h => absurd (by rw [n_0, n_le hf31 (by omega)]; omega) h)
      refine px_iload_n (kk := 1) rfl rfl rfl ?_
      refine px_ireturn rfl (.inl rfl) ?_
      exact ⟨rfl, rfl⟩
