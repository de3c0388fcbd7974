/-! Math.max and Math.min -/
theorem e_mmax : lw_tbl[735]? = some (Cond.code Lib.Math.max.name Lib.Math.max.code 2 (some .int)) := by decide +kernel
theorem h_mmax : p_has 735 (Cond.code Lib.Math.max.name Lib.Math.max.code 2 (some .int)) = true := by decide +kernel
theorem px_mmax {d mc ms : Nat} {cd : pm_C} {i b : Nat} {con : Int} {ls : List (Option Value)} {st : List Value} {S : pm_M} {Q : Option Value → pm_M → Prop} {x y : Int32} {idx pL pI pN : Nat} (h : (cdE cd)[i]? = some (b, 3, .invokestatic idx, [pL, pI, pN, 735], con)) (hct : (st.map fun v => v.category).sum ≤ 8) (k : Px d mc ms cd (i + 1) ls (.int (if x < y then y else x) :: st) S Q) : Px d mc ms cd i ls (.int y :: .int x :: st) S Q := by
  intro hok p l e R s m args below meth c D aC A Z hC ad H locs cells slots mls b' hH hF hb hc hs hK
  obtain ⟨hd, hn, hx⟩ := p_at hok h hb
  simp only [p_okX] at hx
  unfold p_inv at hx
  rw [e_mmax] at hx
  simp only [Bool.and_eq_true] at hx
  have hfr := hC.2.2.2.2.1
  refine va_mmax hC.1.1 hC.1.2.1 (by rw [hC.1.2.2.1]; exact hF.1.1.symm) hC.1.2.2.2.1 (hC.1.2.2.2.2 _ (p_has_in hx.1.1)) (hC.1.2.2.2.2 _ (p_has_in hx.1.2)) (hC.1.2.2.2.2 _ (p_has_in hx.2)) (hC.1.2.2.2.2 _ (p_has_in h_mmax)) (by omega) ?_ (by omega) (by omega) hd (k hok p l e R s m args below meth c D aC A Z hC ad H locs cells slots mls _ hH ⟨hF.1, hF.2.1, p_ws_i (p_ws_t (p_ws_t hF.2.2))⟩ (hn rfl) hc hs hK)
  have := p_cats (ad := ad) hct
  omega
theorem e_mmin : lw_tbl[741]? = some (Cond.code Lib.Math.min.name Lib.Math.min.code 2 (some .int)) := by decide +kernel
theorem h_mmin : p_has 741 (Cond.code Lib.Math.min.name Lib.Math.min.code 2 (some .int)) = true := by decide +kernel
theorem px_mmin {d mc ms : Nat} {cd : pm_C} {i b : Nat} {con : Int} {ls : List (Option Value)} {st : List Value} {S : pm_M} {Q : Option Value → pm_M → Prop} {x y : Int32} {idx pL pI pN : Nat} (h : (cdE cd)[i]? = some (b, 3, .invokestatic idx, [pL, pI, pN, 741], con)) (hct : (st.map fun v => v.category).sum ≤ 8) (k : Px d mc ms cd (i + 1) ls (.int (if y < x then y else x) :: st) S Q) : Px d mc ms cd i ls (.int y :: .int x :: st) S Q := by
  intro hok p l e R s m args below meth c D aC A Z hC ad H locs cells slots mls b' hH hF hb hc hs hK
  obtain ⟨hd, hn, hx⟩ := p_at hok h hb
  simp only [p_okX] at hx
  unfold p_inv at hx
  rw [e_mmin] at hx
  simp only [Bool.and_eq_true] at hx
  have hfr := hC.2.2.2.2.1
  refine va_mmin hC.1.1 hC.1.2.1 (by rw [hC.1.2.2.1]; exact hF.1.1.symm) hC.1.2.2.2.1 (hC.1.2.2.2.2 _ (p_has_in hx.1.1)) (hC.1.2.2.2.2 _ (p_has_in hx.1.2)) (hC.1.2.2.2.2 _ (p_has_in hx.2)) (hC.1.2.2.2.2 _ (p_has_in h_mmin)) (by omega) ?_ (by omega) (by omega) hd (k hok p l e R s m args below meth c D aC A Z hC ad H locs cells slots mls _ hH ⟨hF.1, hF.2.1, p_ws_i (p_ws_t (p_ws_t hF.2.2))⟩ (hn rfl) hc hs hK)
  have := p_cats (ad := ad) hct
  omega
