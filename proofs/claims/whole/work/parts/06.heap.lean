/-! classes by number -/
theorem p_cls {ci N : Nat} {C : String} {T : u_T} (h : vwCl[ci]? = some (C, T, N)) : (∀ w ∈ u_ws C T N, w ∈ lw_good) ∧ (∀ k, k < N → parseFieldDescriptor (T k).2.2.1 = some (tyC ci k)) ∧ (∀ a, a < N → ∀ b, b < N → a ≠ b → (T a).2.1 ≠ (T b).2.1) ∧ ci < 100 := by
  match ci, h with
  | 0, h => cases h; exact ⟨inX0, tyX0_ok, nmX0, by decide⟩
  | 1, h => cases h; exact ⟨inX1, tyX1_ok, nmX1, by decide⟩
  | 2, h => cases h; exact ⟨inX2, tyX2_ok, nmX2, by decide⟩
  | 3, h => cases h; exact ⟨inX3, tyX3_ok, nmX3, by decide⟩
  | 4, h => cases h; exact ⟨inX4, tyX4_ok, nmX4, by decide⟩
  | 5, h => cases h; exact ⟨inX5, tyX5_ok, nmX5, by decide⟩
  | 6, h => cases h; exact ⟨inX6, tyX6_ok, nmX6, by decide⟩
  | 7, h => cases h; exact ⟨inX7, tyX7_ok, nmX7, by decide⟩
  | 8, h => cases h; exact ⟨inX8, tyX8_ok, nmX8, by decide⟩
  | 9, h => cases h; exact ⟨inX9, tyX9_ok, nmX9, by decide⟩
  | 10, h => cases h; exact ⟨inX10, tyX10_ok, nmX10, by decide⟩
  | 11, h => cases h; exact ⟨inX11, tyX11_ok, nmX11, by decide⟩
  | 12, h => cases h; exact ⟨inX12, tyX12_ok, nmX12, by decide⟩
  | n + 13, h => simp [vwCl] at h
def p_fin (ci k : Nat) : Bool := match vwCl[ci]? with
  | some (_, T, _) => (T k).2.2.2
  | none => false
def p_dec (ci k : Nat) : String := match vwCl[ci]? with
  | some (_, T, _) => (T k).1
  | none => ""
def p_isr (ty : FieldType) : Bool := match ty with
  | .object _ => true
  | .array _ => true
  | _ => false
theorem p_fld_of {own : String} {idx ci k pos : Nat} (h : p_fld own idx ci k pos = true) : ∃ C T N, vwCl[ci]? = some (C, T, N) ∧ k < N ∧ Cond.fieldLink own idx (T k).1 (T k).2.1 (T k).2.2.1 ∈ lw_good := by
  unfold p_fld at h
  split at h
  · rename_i C T N e
    simp only [Bool.and_eq_true, decide_eq_true_eq] at h
    exact ⟨C, T, N, e, h.1, p_has_in h.2⟩
  · cases h
theorem p_range_set {α : Type} {n k : Nat} {f g : Nat → α} {v : α} (hk : k < n) (hv : g k = v) (ho : ∀ j, j ≠ k → g j = f j) : ((List.range n).map f).set k v = (List.range n).map g := by
  apply List.ext_getElem?
  intro j
  by_cases hj : j = k
  · subst hj
    rw [List.getElem?_set_self (by simpa using hk)]
    simp [hk, hv]
  · rw [List.getElem?_set_ne (fun e => hj e.symm)]
    by_cases hn : j < n
    · simp [hn, ho j hj]
    · simp [hn]
theorem p_cel_eq {aC : Nat → ClassId} {ad : Nat → Nat} {S S' : pm_M} {j : Nat} (hSh : S'.1 = S.1) (h1 : S'.2.1 j = S.2.1 j) (h2 : S'.2.2.1 j = S.2.2.1 j) (h3 : S'.2.2.2.1 j = S.2.2.2.1 j) : p_cel aC ad S' j = p_cel aC ad S j := by
  unfold p_cel
  rw [hSh]
  simp only [h1, h2, h3]
theorem p_set_obj {aC : Nat → ClassId} {ad : Nat → Nat} {S S' : pm_M} {a t n k : Nat} {v : Value} (hSh : S'.1 = S.1) (h : S.1[a]? = some (t, n)) (ht : t < 100) (hk : k < n) (hv : p_fv (tyC t k) ad (S'.2.1 a k) (S'.2.2.1 a k) (S'.2.2.2.1 a k) = v)
    (ho : ∀ j, j ≠ k → S'.2.1 a j = S.2.1 a j ∧ S'.2.2.1 a j = S.2.2.1 a j ∧ S'.2.2.2.1 a j = S.2.2.2.1 a j) (hc : ∀ c, c ≠ a → S'.2.1 c = S.2.1 c ∧ S'.2.2.1 c = S.2.2.1 c ∧ S'.2.2.2.1 c = S.2.2.2.1 c) :
    (p_wd aC ad S).set a (ad a, .inr (t, ((List.range n).map (fun j => p_fv (tyC t j) ad (S.2.1 a j) (S.2.2.1 a j) (S.2.2.2.1 a j))).set k v)) = p_wd aC ad S' := by
  rw [← p_wd_set (S := S) (S' := S') (k := a) (by rw [hSh]) (fun j hj => p_cel_eq hSh (hc j hj).1 (hc j hj).2.1 (hc j hj).2.2), p_cel_o (S := S') (by rw [hSh]; exact h) ht,
    p_range_set (g := fun j => p_fv (tyC t j) ad (S'.2.1 a j) (S'.2.2.1 a j) (S'.2.2.2.1 a j)) hk hv (fun j hj => by simp only [(ho j hj).1, (ho j hj).2.1, (ho j hj).2.2])]
theorem p_set_arr {aC : Nat → ClassId} {ad : Nat → Nat} {S S' : pm_M} {a : Nat} {e : va_E} (hSh : S'.1 = S.1) (he : p_cel aC ad S' a = e) (hc : ∀ c, c ≠ a → S'.2.1 c = S.2.1 c ∧ S'.2.2.1 c = S.2.2.1 c ∧ S'.2.2.2.1 c = S.2.2.2.1 c) : (p_wd aC ad S).set a (ad a, e) = p_wd aC ad S' := by
  rw [← he]
  exact p_wd_set (by rw [hSh]) (fun j hj => p_cel_eq hSh (hc j hj).1 (hc j hj).2.1 (hc j hj).2.2)
theorem p_up_s {α : Type} (f : Nat → α) (k : Nat) (v : α) : va_up f k v k = v := by simp [va_up]
theorem p_up_n {α : Type} (f : Nat → α) {k j : Nat} (v : α) (h : j ≠ k) : va_up f k v j = f j := by simp [va_up, h]
def p_isI (ty : FieldType) : Bool := match ty with
  | .int => true
  | .boolean => true
  | _ => false
theorem p_fvI {ty : FieldType} {ad : Nat → Nat} {i : Int32} {j : Int64} {r : Option Nat} (h : p_isI ty = true) : p_fv ty ad i j r = .int i := by
  cases ty <;> simp_all [p_isI, p_fv]
theorem p_fvR {ty : FieldType} {ad : Nat → Nat} {i : Int32} {j : Int64} {r : Option Nat} (h : p_isr ty = true) : p_fv ty ad i j r = va_rf (r.map ad) := by
  cases ty <;> simp_all [p_isr, p_fv]
theorem p_fitR {ty : FieldType} {a : Nat} (h : p_isr ty = true) : narrow ty (.ref a) = .ref a ∧ fits ty (.ref a) = true ∧ narrow ty .null = .null ∧ fits ty .null = true := by
  cases ty <;> simp_all [p_isr, narrow, fits]
theorem p_fitZ {x : Int32} (h : x = 0 ∨ x = 1) : narrow .boolean (.int x) = .int x ∧ fits .boolean (.int x) = true := by
  rcases h with rfl | rfl <;> exact ⟨by decide, by decide⟩
theorem px_getI {d mc ms : Nat} {cd : pm_C} {i b : Nat} {con : Int} {ls : List (Option Value)} {st : List Value} {Sh : List (Nat × Nat)} {I : Nat → Nat → Int32} {J : Nat → Nat → Int64} {R : Nat → Nat → Option Nat} {ro : List (Nat × Nat × (Nat → Int32))} {Q : Option Value → pm_M → Prop} {a k ci pos idx n : Nat} (h : (cdE cd)[i]? = some (b, 3, .getfield idx, [ci, k, pos], con)) (hS : Sh[a]? = some (ci, n)) (hty : p_isI (tyC ci k) = true) (kk : Px d mc ms cd (i + 1) ls (.int (I a k) :: st) (Sh, I, J, R, ro) Q) : Px d mc ms cd i ls (.ref a :: st) (Sh, I, J, R, ro) Q := by
  intro hok p l e Rm s m args below meth c D aC A Z hC ad H locs cells slots mls b' hH hF hb hc hs hK
  obtain ⟨hd, hn, hx⟩ := p_at hok h hb
  obtain ⟨C, T, N, hcl, hkN, hlk⟩ := p_fld_of hx
  obtain ⟨hin, hty0, hnm, hci⟩ := p_cls hcl
  have hlt := p_lt hS
  obtain ⟨hn31, hob⟩ := hH.2.2.2.2.2.2 a ci n hS
  obtain ⟨C', T', he⟩ := hob hci
  rw [hcl] at he
  cases he
  refine va_get hC.1.1 hC.1.2.1 hC.1.2.2.2.2 hin hC.1.2.2.2.1 hC.2.2.2.2.2.1 hH.1 a (by rw [p_wd_at hlt, p_cel_o hS hci]) hcl k hkN (hC.1.2.2.2.2 _ hlk) (fun _ q => q) (v := pv ad (.int (I a k))) ?_ hd (kk hok p l e Rm s m args below meth c D aC A Z hC ad H locs cells slots mls _ hH ⟨hF.1, hF.2.1, p_ws_i (p_ws_t hF.2.2)⟩ (hn rfl) hc hs hK)
  simp [hkN, p_fvI hty, pv]

theorem px_getJ {d mc ms : Nat} {cd : pm_C} {i b : Nat} {con : Int} {ls : List (Option Value)} {st : List Value} {Sh : List (Nat × Nat)} {I : Nat → Nat → Int32} {J : Nat → Nat → Int64} {R : Nat → Nat → Option Nat} {ro : List (Nat × Nat × (Nat → Int32))} {Q : Option Value → pm_M → Prop} {a k ci pos idx n : Nat} (h : (cdE cd)[i]? = some (b, 3, .getfield idx, [ci, k, pos], con)) (hS : Sh[a]? = some (ci, n)) (hty : tyC ci k = .long) (kk : Px d mc ms cd (i + 1) ls (.long (J a k) :: st) (Sh, I, J, R, ro) Q) : Px d mc ms cd i ls (.ref a :: st) (Sh, I, J, R, ro) Q := by
  intro hok p l e Rm s m args below meth c D aC A Z hC ad H locs cells slots mls b' hH hF hb hc hs hK
  obtain ⟨hd, hn, hx⟩ := p_at hok h hb
  obtain ⟨C, T, N, hcl, hkN, hlk⟩ := p_fld_of hx
  obtain ⟨hin, hty0, hnm, hci⟩ := p_cls hcl
  have hlt := p_lt hS
  obtain ⟨hn31, hob⟩ := hH.2.2.2.2.2.2 a ci n hS
  obtain ⟨C', T', he⟩ := hob hci
  rw [hcl] at he
  cases he
  refine va_get hC.1.1 hC.1.2.1 hC.1.2.2.2.2 hin hC.1.2.2.2.1 hC.2.2.2.2.2.1 hH.1 a (by rw [p_wd_at hlt, p_cel_o hS hci]) hcl k hkN (hC.1.2.2.2.2 _ hlk) (fun _ q => q) (v := pv ad (.long (J a k))) ?_ hd (kk hok p l e Rm s m args below meth c D aC A Z hC ad H locs cells slots mls _ hH ⟨hF.1, hF.2.1, p_ws_l (p_ws_t hF.2.2)⟩ (hn rfl) hc hs hK)
  simp [hkN, hty, p_fv, pv]

theorem px_getR {d mc ms : Nat} {cd : pm_C} {i b : Nat} {con : Int} {ls : List (Option Value)} {st : List Value} {Sh : List (Nat × Nat)} {I : Nat → Nat → Int32} {J : Nat → Nat → Int64} {R : Nat → Nat → Option Nat} {ro : List (Nat × Nat × (Nat → Int32))} {Q : Option Value → pm_M → Prop} {a k ci pos idx n : Nat} {r : Nat} (h : (cdE cd)[i]? = some (b, 3, .getfield idx, [ci, k, pos], con)) (hS : Sh[a]? = some (ci, n)) (hty : p_isr (tyC ci k) = true) (hr : R a k = some r) (kk : Px d mc ms cd (i + 1) ls (.ref r :: st) (Sh, I, J, R, ro) Q) : Px d mc ms cd i ls (.ref a :: st) (Sh, I, J, R, ro) Q := by
  intro hok p l e Rm s m args below meth c D aC A Z hC ad H locs cells slots mls b' hH hF hb hc hs hK
  obtain ⟨hd, hn, hx⟩ := p_at hok h hb
  obtain ⟨C, T, N, hcl, hkN, hlk⟩ := p_fld_of hx
  obtain ⟨hin, hty0, hnm, hci⟩ := p_cls hcl
  have hlt := p_lt hS
  obtain ⟨hn31, hob⟩ := hH.2.2.2.2.2.2 a ci n hS
  obtain ⟨C', T', he⟩ := hob hci
  rw [hcl] at he
  cases he
  refine va_get hC.1.1 hC.1.2.1 hC.1.2.2.2.2 hin hC.1.2.2.2.1 hC.2.2.2.2.2.1 hH.1 a (by rw [p_wd_at hlt, p_cel_o hS hci]) hcl k hkN (hC.1.2.2.2.2 _ hlk) (fun _ q => q) (v := pv ad (.ref r)) ?_ hd (kk hok p l e Rm s m args below meth c D aC A Z hC ad H locs cells slots mls _ hH ⟨hF.1, hF.2.1, p_ws_c (fun q e => by cases e; exact hH.2.2.2.2.2.1 a k r hr) (p_ws_t hF.2.2)⟩ (hn rfl) hc hs hK)
  simp [hkN, p_fvR hty, pv, hr, va_rf]

theorem px_getN {d mc ms : Nat} {cd : pm_C} {i b : Nat} {con : Int} {ls : List (Option Value)} {st : List Value} {Sh : List (Nat × Nat)} {I : Nat → Nat → Int32} {J : Nat → Nat → Int64} {R : Nat → Nat → Option Nat} {ro : List (Nat × Nat × (Nat → Int32))} {Q : Option Value → pm_M → Prop} {a k ci pos idx n : Nat} (h : (cdE cd)[i]? = some (b, 3, .getfield idx, [ci, k, pos], con)) (hS : Sh[a]? = some (ci, n)) (hty : p_isr (tyC ci k) = true) (hr : R a k = none) (kk : Px d mc ms cd (i + 1) ls (.null :: st) (Sh, I, J, R, ro) Q) : Px d mc ms cd i ls (.ref a :: st) (Sh, I, J, R, ro) Q := by
  intro hok p l e Rm s m args below meth c D aC A Z hC ad H locs cells slots mls b' hH hF hb hc hs hK
  obtain ⟨hd, hn, hx⟩ := p_at hok h hb
  obtain ⟨C, T, N, hcl, hkN, hlk⟩ := p_fld_of hx
  obtain ⟨hin, hty0, hnm, hci⟩ := p_cls hcl
  have hlt := p_lt hS
  obtain ⟨hn31, hob⟩ := hH.2.2.2.2.2.2 a ci n hS
  obtain ⟨C', T', he⟩ := hob hci
  rw [hcl] at he
  cases he
  refine va_get hC.1.1 hC.1.2.1 hC.1.2.2.2.2 hin hC.1.2.2.2.1 hC.2.2.2.2.2.1 hH.1 a (by rw [p_wd_at hlt, p_cel_o hS hci]) hcl k hkN (hC.1.2.2.2.2 _ hlk) (fun _ q => q) (v := pv ad (.null)) ?_ hd (kk hok p l e Rm s m args below meth c D aC A Z hC ad H locs cells slots mls _ hH ⟨hF.1, hF.2.1, p_ws_n (p_ws_t hF.2.2)⟩ (hn rfl) hc hs hK)
  simp [hkN, p_fvR hty, pv, hr, va_rf]

theorem px_putI {d mc ms : Nat} {cd : pm_C} {i b : Nat} {con : Int} {ls : List (Option Value)} {st : List Value} {Sh : List (Nat × Nat)} {I : Nat → Nat → Int32} {J : Nat → Nat → Int64} {R : Nat → Nat → Option Nat} {ro : List (Nat × Nat × (Nat → Int32))} {Q : Option Value → pm_M → Prop} {a k ci pos idx n : Nat} {x : Int32} (h : (cdE cd)[i]? = some (b, 3, .putfield idx, [ci, k, pos], con)) (hS : Sh[a]? = some (ci, n)) (hty : tyC ci k = .int) (hf : p_fin ci k = false) (kk : Px d mc ms cd (i + 1) ls st (Sh, va_up I a (va_up (I a) k x), J, R, ro) Q) : Px d mc ms cd i ls (.int x :: .ref a :: st) (Sh, I, J, R, ro) Q := by
  intro hok p l e Rm s m args below meth c D aC A Z hC ad H locs cells slots mls b' hH hF hb hc hs hK
  obtain ⟨hd, hn, hx⟩ := p_at hok h hb
  obtain ⟨C, T, N, hcl, hkN, hlk⟩ := p_fld_of hx
  obtain ⟨hin, hty0, hnm, hci⟩ := p_cls hcl
  have hlt := p_lt hS
  obtain ⟨hn31, hob⟩ := hH.2.2.2.2.2.2 a ci n hS
  obtain ⟨C', T', he⟩ := hob hci
  rw [hcl] at he
  cases he
  refine va_put hC.1.1 hC.1.2.1 hC.1.2.2.2.2 hin (tyC ci) hty0 hnm hC.1.2.2.2.1 hC.2.2.2.2.2.1 hH.1 hH.2.1 hH.2.2.1 a (by rw [p_wd_at hlt, p_cel_o hS hci]) hcl k hkN (hC.1.2.2.2.2 _ hlk) (fun _ q => q) (by rw [← hf]; simp [p_fin, hcl]) (ty := .int) (v := pv ad (.int x)) (by rw [hty0 k hkN, hty]) (rfl) (rfl) (by simpa using hkN) hd (fun H1 locs1 hP1 hD1 hS1 => ?_)
  have e1 := p_set_obj (aC := aC) (ad := ad) (S := (Sh, I, J, R, ro)) (S' := (Sh, va_up I a (va_up (I a) k x), J, R, ro)) (v := pv ad (.int x)) (k := k) rfl hS hci hkN (by simp [hty, p_fv, pv, va_up]) (fun j hj => ⟨by first | rfl | simp [va_up, hj], by first | rfl | simp [va_up, hj], by first | rfl | simp [va_up, hj]⟩) (fun q hq => ⟨by first | rfl | simp [va_up, hq], by first | rfl | simp [va_up, hq], by first | rfl | simp [va_up, hq]⟩)
  rw [e1] at hP1 hD1
  exact kk hok p l e Rm s m args below meth c D aC A Z hC ad H1 locs1 cells slots mls _ ⟨hP1, hD1, hS1, hH.2.2.2.1, hH.2.2.2.2⟩ ⟨hF.1, hF.2.1, p_ws_t (p_ws_t hF.2.2)⟩ (hn rfl) hc hs hK

theorem px_putZ {d mc ms : Nat} {cd : pm_C} {i b : Nat} {con : Int} {ls : List (Option Value)} {st : List Value} {Sh : List (Nat × Nat)} {I : Nat → Nat → Int32} {J : Nat → Nat → Int64} {R : Nat → Nat → Option Nat} {ro : List (Nat × Nat × (Nat → Int32))} {Q : Option Value → pm_M → Prop} {a k ci pos idx n : Nat} {x : Int32} (h : (cdE cd)[i]? = some (b, 3, .putfield idx, [ci, k, pos], con)) (hS : Sh[a]? = some (ci, n)) (hty : tyC ci k = .boolean) (h01 : x = 0 ∨ x = 1) (hf : p_fin ci k = false) (kk : Px d mc ms cd (i + 1) ls st (Sh, va_up I a (va_up (I a) k x), J, R, ro) Q) : Px d mc ms cd i ls (.int x :: .ref a :: st) (Sh, I, J, R, ro) Q := by
  intro hok p l e Rm s m args below meth c D aC A Z hC ad H locs cells slots mls b' hH hF hb hc hs hK
  obtain ⟨hd, hn, hx⟩ := p_at hok h hb
  obtain ⟨C, T, N, hcl, hkN, hlk⟩ := p_fld_of hx
  obtain ⟨hin, hty0, hnm, hci⟩ := p_cls hcl
  have hlt := p_lt hS
  obtain ⟨hn31, hob⟩ := hH.2.2.2.2.2.2 a ci n hS
  obtain ⟨C', T', he⟩ := hob hci
  rw [hcl] at he
  cases he
  refine va_put hC.1.1 hC.1.2.1 hC.1.2.2.2.2 hin (tyC ci) hty0 hnm hC.1.2.2.2.1 hC.2.2.2.2.2.1 hH.1 hH.2.1 hH.2.2.1 a (by rw [p_wd_at hlt, p_cel_o hS hci]) hcl k hkN (hC.1.2.2.2.2 _ hlk) (fun _ q => q) (by rw [← hf]; simp [p_fin, hcl]) (ty := .boolean) (v := pv ad (.int x)) (by rw [hty0 k hkN, hty]) ((p_fitZ h01).1) ((p_fitZ h01).2) (by simpa using hkN) hd (fun H1 locs1 hP1 hD1 hS1 => ?_)
  have e1 := p_set_obj (aC := aC) (ad := ad) (S := (Sh, I, J, R, ro)) (S' := (Sh, va_up I a (va_up (I a) k x), J, R, ro)) (v := pv ad (.int x)) (k := k) rfl hS hci hkN (by simp [hty, p_fv, pv, va_up]) (fun j hj => ⟨by first | rfl | simp [va_up, hj], by first | rfl | simp [va_up, hj], by first | rfl | simp [va_up, hj]⟩) (fun q hq => ⟨by first | rfl | simp [va_up, hq], by first | rfl | simp [va_up, hq], by first | rfl | simp [va_up, hq]⟩)
  rw [e1] at hP1 hD1
  exact kk hok p l e Rm s m args below meth c D aC A Z hC ad H1 locs1 cells slots mls _ ⟨hP1, hD1, hS1, hH.2.2.2.1, hH.2.2.2.2⟩ ⟨hF.1, hF.2.1, p_ws_t (p_ws_t hF.2.2)⟩ (hn rfl) hc hs hK

theorem px_putJ {d mc ms : Nat} {cd : pm_C} {i b : Nat} {con : Int} {ls : List (Option Value)} {st : List Value} {Sh : List (Nat × Nat)} {I : Nat → Nat → Int32} {J : Nat → Nat → Int64} {R : Nat → Nat → Option Nat} {ro : List (Nat × Nat × (Nat → Int32))} {Q : Option Value → pm_M → Prop} {a k ci pos idx n : Nat} {x : Int64} (h : (cdE cd)[i]? = some (b, 3, .putfield idx, [ci, k, pos], con)) (hS : Sh[a]? = some (ci, n)) (hty : tyC ci k = .long) (hf : p_fin ci k = false) (kk : Px d mc ms cd (i + 1) ls st (Sh, I, va_up J a (va_up (J a) k x), R, ro) Q) : Px d mc ms cd i ls (.long x :: .ref a :: st) (Sh, I, J, R, ro) Q := by
  intro hok p l e Rm s m args below meth c D aC A Z hC ad H locs cells slots mls b' hH hF hb hc hs hK
  obtain ⟨hd, hn, hx⟩ := p_at hok h hb
  obtain ⟨C, T, N, hcl, hkN, hlk⟩ := p_fld_of hx
  obtain ⟨hin, hty0, hnm, hci⟩ := p_cls hcl
  have hlt := p_lt hS
  obtain ⟨hn31, hob⟩ := hH.2.2.2.2.2.2 a ci n hS
  obtain ⟨C', T', he⟩ := hob hci
  rw [hcl] at he
  cases he
  refine va_put hC.1.1 hC.1.2.1 hC.1.2.2.2.2 hin (tyC ci) hty0 hnm hC.1.2.2.2.1 hC.2.2.2.2.2.1 hH.1 hH.2.1 hH.2.2.1 a (by rw [p_wd_at hlt, p_cel_o hS hci]) hcl k hkN (hC.1.2.2.2.2 _ hlk) (fun _ q => q) (by rw [← hf]; simp [p_fin, hcl]) (ty := .long) (v := pv ad (.long x)) (by rw [hty0 k hkN, hty]) (rfl) (rfl) (by simpa using hkN) hd (fun H1 locs1 hP1 hD1 hS1 => ?_)
  have e1 := p_set_obj (aC := aC) (ad := ad) (S := (Sh, I, J, R, ro)) (S' := (Sh, I, va_up J a (va_up (J a) k x), R, ro)) (v := pv ad (.long x)) (k := k) rfl hS hci hkN (by simp [hty, p_fv, pv, va_up]) (fun j hj => ⟨by first | rfl | simp [va_up, hj], by first | rfl | simp [va_up, hj], by first | rfl | simp [va_up, hj]⟩) (fun q hq => ⟨by first | rfl | simp [va_up, hq], by first | rfl | simp [va_up, hq], by first | rfl | simp [va_up, hq]⟩)
  rw [e1] at hP1 hD1
  exact kk hok p l e Rm s m args below meth c D aC A Z hC ad H1 locs1 cells slots mls _ ⟨hP1, hD1, hS1, hH.2.2.2.1, hH.2.2.2.2⟩ ⟨hF.1, hF.2.1, p_ws_t (p_ws_t hF.2.2)⟩ (hn rfl) hc hs hK

theorem p_Wf_up {n a k : Nat} {R : Nat → Nat → Option Nat} {v : Option Nat} (h : ∀ c k r, R c k = some r → p_ok n r) (hv : ∀ r, v = some r → p_ok n r) : ∀ c j r, va_up R a (va_up (R a) k v) c j = some r → p_ok n r := by
  intro c j r hr
  by_cases hc : c = a
  · subst hc
    rw [p_up_s] at hr
    by_cases hj : j = k
    · subst hj
      rw [p_up_s] at hr
      exact hv r hr
    · rw [p_up_n _ _ hj] at hr
      exact h _ _ _ hr
  · rw [p_up_n _ _ hc] at hr
    exact h _ _ _ hr

theorem px_putR {d mc ms : Nat} {cd : pm_C} {i b : Nat} {con : Int} {ls : List (Option Value)} {st : List Value} {Sh : List (Nat × Nat)} {I : Nat → Nat → Int32} {J : Nat → Nat → Int64} {R : Nat → Nat → Option Nat} {ro : List (Nat × Nat × (Nat → Int32))} {Q : Option Value → pm_M → Prop} {a k ci pos idx n : Nat} {x : Nat} (h : (cdE cd)[i]? = some (b, 3, .putfield idx, [ci, k, pos], con)) (hS : Sh[a]? = some (ci, n)) (hty : p_isr (tyC ci k) = true) (hf : p_fin ci k = false) (kk : Px d mc ms cd (i + 1) ls st (Sh, I, J, va_up R a (va_up (R a) k (some x)), ro) Q) : Px d mc ms cd i ls (.ref x :: .ref a :: st) (Sh, I, J, R, ro) Q := by
  intro hok p l e Rm s m args below meth c D aC A Z hC ad H locs cells slots mls b' hH hF hb hc hs hK
  obtain ⟨hd, hn, hx⟩ := p_at hok h hb
  obtain ⟨C, T, N, hcl, hkN, hlk⟩ := p_fld_of hx
  obtain ⟨hin, hty0, hnm, hci⟩ := p_cls hcl
  have hlt := p_lt hS
  obtain ⟨hn31, hob⟩ := hH.2.2.2.2.2.2 a ci n hS
  obtain ⟨C', T', he⟩ := hob hci
  rw [hcl] at he
  cases he
  refine va_put hC.1.1 hC.1.2.1 hC.1.2.2.2.2 hin (tyC ci) hty0 hnm hC.1.2.2.2.1 hC.2.2.2.2.2.1 hH.1 hH.2.1 hH.2.2.1 a (by rw [p_wd_at hlt, p_cel_o hS hci]) hcl k hkN (hC.1.2.2.2.2 _ hlk) (fun _ q => q) (by rw [← hf]; simp [p_fin, hcl]) (ty := tyC ci k) (v := pv ad (.ref x)) (by rw [hty0 k hkN]) ((p_fitR hty).1) ((p_fitR (a := ad x) hty).2.1) (by simpa using hkN) hd (fun H1 locs1 hP1 hD1 hS1 => ?_)
  have e1 := p_set_obj (aC := aC) (ad := ad) (S := (Sh, I, J, R, ro)) (S' := (Sh, I, J, va_up R a (va_up (R a) k (some x)), ro)) (v := pv ad (.ref x)) (k := k) rfl hS hci hkN (by rw [p_fvR hty]; simp [pv, va_up, va_rf]) (fun j hj => ⟨by first | rfl | simp [va_up, hj], by first | rfl | simp [va_up, hj], by first | rfl | simp [va_up, hj]⟩) (fun q hq => ⟨by first | rfl | simp [va_up, hq], by first | rfl | simp [va_up, hq], by first | rfl | simp [va_up, hq]⟩)
  rw [e1] at hP1 hD1
  exact kk hok p l e Rm s m args below meth c D aC A Z hC ad H1 locs1 cells slots mls _ ⟨hP1, hD1, hS1, hH.2.2.2.1, ⟨hH.2.2.2.2.1, p_Wf_up hH.2.2.2.2.2.1 (fun q e => by cases e; exact p_ws_h hF.2.2 x rfl), hH.2.2.2.2.2.2⟩⟩ ⟨hF.1, hF.2.1, p_ws_t (p_ws_t hF.2.2)⟩ (hn rfl) hc hs hK

theorem px_putN {d mc ms : Nat} {cd : pm_C} {i b : Nat} {con : Int} {ls : List (Option Value)} {st : List Value} {Sh : List (Nat × Nat)} {I : Nat → Nat → Int32} {J : Nat → Nat → Int64} {R : Nat → Nat → Option Nat} {ro : List (Nat × Nat × (Nat → Int32))} {Q : Option Value → pm_M → Prop} {a k ci pos idx n : Nat} (h : (cdE cd)[i]? = some (b, 3, .putfield idx, [ci, k, pos], con)) (hS : Sh[a]? = some (ci, n)) (hty : p_isr (tyC ci k) = true) (hf : p_fin ci k = false) (kk : Px d mc ms cd (i + 1) ls st (Sh, I, J, va_up R a (va_up (R a) k none), ro) Q) : Px d mc ms cd i ls (.null :: .ref a :: st) (Sh, I, J, R, ro) Q := by
  intro hok p l e Rm s m args below meth c D aC A Z hC ad H locs cells slots mls b' hH hF hb hc hs hK
  obtain ⟨hd, hn, hx⟩ := p_at hok h hb
  obtain ⟨C, T, N, hcl, hkN, hlk⟩ := p_fld_of hx
  obtain ⟨hin, hty0, hnm, hci⟩ := p_cls hcl
  have hlt := p_lt hS
  obtain ⟨hn31, hob⟩ := hH.2.2.2.2.2.2 a ci n hS
  obtain ⟨C', T', he⟩ := hob hci
  rw [hcl] at he
  cases he
  refine va_put hC.1.1 hC.1.2.1 hC.1.2.2.2.2 hin (tyC ci) hty0 hnm hC.1.2.2.2.1 hC.2.2.2.2.2.1 hH.1 hH.2.1 hH.2.2.1 a (by rw [p_wd_at hlt, p_cel_o hS hci]) hcl k hkN (hC.1.2.2.2.2 _ hlk) (fun _ q => q) (by rw [← hf]; simp [p_fin, hcl]) (ty := tyC ci k) (v := pv ad (.null)) (by rw [hty0 k hkN]) ((p_fitR (a := 0) hty).2.2.1) ((p_fitR (a := 0) hty).2.2.2) (by simpa using hkN) hd (fun H1 locs1 hP1 hD1 hS1 => ?_)
  have e1 := p_set_obj (aC := aC) (ad := ad) (S := (Sh, I, J, R, ro)) (S' := (Sh, I, J, va_up R a (va_up (R a) k none), ro)) (v := pv ad (.null)) (k := k) rfl hS hci hkN (by rw [p_fvR hty]; simp [pv, va_up, va_rf]) (fun j hj => ⟨by first | rfl | simp [va_up, hj], by first | rfl | simp [va_up, hj], by first | rfl | simp [va_up, hj]⟩) (fun q hq => ⟨by first | rfl | simp [va_up, hq], by first | rfl | simp [va_up, hq], by first | rfl | simp [va_up, hq]⟩)
  rw [e1] at hP1 hD1
  exact kk hok p l e Rm s m args below meth c D aC A Z hC ad H1 locs1 cells slots mls _ ⟨hP1, hD1, hS1, hH.2.2.2.1, ⟨hH.2.2.2.2.1, p_Wf_up hH.2.2.2.2.2.1 (fun q e => by cases e), hH.2.2.2.2.2.2⟩⟩ ⟨hF.1, hF.2.1, p_ws_t (p_ws_t hF.2.2)⟩ (hn rfl) hc hs hK

theorem px_putRF {d mc ms : Nat} {cd : pm_C} {i b : Nat} {con : Int} {ls : List (Option Value)} {st : List Value} {Sh : List (Nat × Nat)} {I : Nat → Nat → Int32} {J : Nat → Nat → Int64} {R : Nat → Nat → Option Nat} {ro : List (Nat × Nat × (Nat → Int32))} {Q : Option Value → pm_M → Prop} {a k ci pos idx n : Nat} {x : Nat} (h : (cdE cd)[i]? = some (b, 3, .putfield idx, [ci, k, pos], con)) (hS : Sh[a]? = some (ci, n)) (hty : p_isr (tyC ci k) = true) (hf : p_fin ci k = true) (hi : (cdY cd).name = "<init>") (hdl : p_dec ci k = cdO cd) (kk : Px d mc ms cd (i + 1) ls st (Sh, I, J, va_up R a (va_up (R a) k (some x)), ro) Q) : Px d mc ms cd i ls (.ref x :: .ref a :: st) (Sh, I, J, R, ro) Q := by
  intro hok p l e Rm s m args below meth c D aC A Z hC ad H locs cells slots mls b' hH hF hb hc hs hK
  obtain ⟨hd, hn, hx⟩ := p_at hok h hb
  obtain ⟨C, T, N, hcl, hkN, hlk⟩ := p_fld_of hx
  obtain ⟨hin, hty0, hnm, hci⟩ := p_cls hcl
  have hlt := p_lt hS
  obtain ⟨hn31, hob⟩ := hH.2.2.2.2.2.2 a ci n hS
  obtain ⟨C', T', he⟩ := hob hci
  rw [hcl] at he
  cases he
  refine va_putF hC.1.1 hC.1.2.1 hC.1.2.2.2.2 hin (tyC ci) hty0 hnm hC.1.2.2.2.1 hC.2.2.2.2.2.1 hH.1 hH.2.1 hH.2.2.1 a (by rw [p_wd_at hlt, p_cel_o hS hci]) hcl k hkN (hC.1.2.2.2.2 _ hlk) (fun _ q => q) (by rw [← hf]; simp [p_fin, hcl]) (by rw [hC.2.2.2.1]; exact hi) (by rw [← hdl]; simp [p_dec, hcl]) (ty := tyC ci k) (v := pv ad (.ref x)) (by rw [hty0 k hkN]) ((p_fitR hty).1) ((p_fitR (a := ad x) hty).2.1) (by simpa using hkN) hd (fun H1 locs1 hP1 hD1 hS1 => ?_)
  have e1 := p_set_obj (aC := aC) (ad := ad) (S := (Sh, I, J, R, ro)) (S' := (Sh, I, J, va_up R a (va_up (R a) k (some x)), ro)) (v := pv ad (.ref x)) (k := k) rfl hS hci hkN (by rw [p_fvR hty]; simp [pv, va_up, va_rf]) (fun j hj => ⟨by first | rfl | simp [va_up, hj], by first | rfl | simp [va_up, hj], by first | rfl | simp [va_up, hj]⟩) (fun q hq => ⟨by first | rfl | simp [va_up, hq], by first | rfl | simp [va_up, hq], by first | rfl | simp [va_up, hq]⟩)
  rw [e1] at hP1 hD1
  exact kk hok p l e Rm s m args below meth c D aC A Z hC ad H1 locs1 cells slots mls _ ⟨hP1, hD1, hS1, hH.2.2.2.1, ⟨hH.2.2.2.2.1, p_Wf_up hH.2.2.2.2.2.1 (fun q e => by cases e; exact p_ws_h hF.2.2 x rfl), hH.2.2.2.2.2.2⟩⟩ ⟨hF.1, hF.2.1, p_ws_t (p_ws_t hF.2.2)⟩ (hn rfl) hc hs hK

theorem px_putNF {d mc ms : Nat} {cd : pm_C} {i b : Nat} {con : Int} {ls : List (Option Value)} {st : List Value} {Sh : List (Nat × Nat)} {I : Nat → Nat → Int32} {J : Nat → Nat → Int64} {R : Nat → Nat → Option Nat} {ro : List (Nat × Nat × (Nat → Int32))} {Q : Option Value → pm_M → Prop} {a k ci pos idx n : Nat} (h : (cdE cd)[i]? = some (b, 3, .putfield idx, [ci, k, pos], con)) (hS : Sh[a]? = some (ci, n)) (hty : p_isr (tyC ci k) = true) (hf : p_fin ci k = true) (hi : (cdY cd).name = "<init>") (hdl : p_dec ci k = cdO cd) (kk : Px d mc ms cd (i + 1) ls st (Sh, I, J, va_up R a (va_up (R a) k none), ro) Q) : Px d mc ms cd i ls (.null :: .ref a :: st) (Sh, I, J, R, ro) Q := by
  intro hok p l e Rm s m args below meth c D aC A Z hC ad H locs cells slots mls b' hH hF hb hc hs hK
  obtain ⟨hd, hn, hx⟩ := p_at hok h hb
  obtain ⟨C, T, N, hcl, hkN, hlk⟩ := p_fld_of hx
  obtain ⟨hin, hty0, hnm, hci⟩ := p_cls hcl
  have hlt := p_lt hS
  obtain ⟨hn31, hob⟩ := hH.2.2.2.2.2.2 a ci n hS
  obtain ⟨C', T', he⟩ := hob hci
  rw [hcl] at he
  cases he
  refine va_putF hC.1.1 hC.1.2.1 hC.1.2.2.2.2 hin (tyC ci) hty0 hnm hC.1.2.2.2.1 hC.2.2.2.2.2.1 hH.1 hH.2.1 hH.2.2.1 a (by rw [p_wd_at hlt, p_cel_o hS hci]) hcl k hkN (hC.1.2.2.2.2 _ hlk) (fun _ q => q) (by rw [← hf]; simp [p_fin, hcl]) (by rw [hC.2.2.2.1]; exact hi) (by rw [← hdl]; simp [p_dec, hcl]) (ty := tyC ci k) (v := pv ad (.null)) (by rw [hty0 k hkN]) ((p_fitR (a := 0) hty).2.2.1) ((p_fitR (a := 0) hty).2.2.2) (by simpa using hkN) hd (fun H1 locs1 hP1 hD1 hS1 => ?_)
  have e1 := p_set_obj (aC := aC) (ad := ad) (S := (Sh, I, J, R, ro)) (S' := (Sh, I, J, va_up R a (va_up (R a) k none), ro)) (v := pv ad (.null)) (k := k) rfl hS hci hkN (by rw [p_fvR hty]; simp [pv, va_up, va_rf]) (fun j hj => ⟨by first | rfl | simp [va_up, hj], by first | rfl | simp [va_up, hj], by first | rfl | simp [va_up, hj]⟩) (fun q hq => ⟨by first | rfl | simp [va_up, hq], by first | rfl | simp [va_up, hq], by first | rfl | simp [va_up, hq]⟩)
  rw [e1] at hP1 hD1
  exact kk hok p l e Rm s m args below meth c D aC A Z hC ad H1 locs1 cells slots mls _ ⟨hP1, hD1, hS1, hH.2.2.2.1, ⟨hH.2.2.2.2.1, p_Wf_up hH.2.2.2.2.2.1 (fun q e => by cases e), hH.2.2.2.2.2.2⟩⟩ ⟨hF.1, hF.2.1, p_ws_t (p_ws_t hF.2.2)⟩ (hn rfl) hc hs hK

theorem px_iald {d mc ms : Nat} {cd : pm_C} {i b : Nat} {con : Int} {ls : List (Option Value)} {st : List Value} {Sh : List (Nat × Nat)} {I : Nat → Nat → Int32} {J : Nat → Nat → Int64} {R : Nat → Nat → Option Nat} {ro : List (Nat × Nat × (Nat → Int32))} {Q : Option Value → pm_M → Prop} {a n j : Nat} {x : Int32} {xs : List Nat} (h : (cdE cd)[i]? = some (b, 1, .iaload, xs, con)) (hS : Sh[a]? = some (100, n)) (hj : x = nI j) (hjn : j < n) (kk : Px d mc ms cd (i + 1) ls (.int (I a j) :: st) (Sh, I, J, R, ro) Q) : Px d mc ms cd i ls (.int x :: .ref a :: st) (Sh, I, J, R, ro) Q := by
  intro hok p l e Rm s m args below meth c D aC A Z hC ad H locs cells slots mls b' hH hF hb hc hs hK
  obtain ⟨hd, hn, hx⟩ := p_at hok h hb
  have hlt := p_lt hS
  obtain ⟨hn31, -⟩ := hH.2.2.2.2.2.2 a _ n hS
  subst hj
  have hin : vp_in (nI j) n := vp_in_nI hjn hn31
  have hcl : (nI j).toNatClampNeg = j := nI_clamp (Nat.lt_trans hjn hn31)
  refine va_iald hC.1.1 hC.1.2.1 hC.2.2.2.2.2.1 hH.1 a 0 (by rw [p_wd_at hlt, p_cel_i hS (by decide) (by decide) (by decide)]) rfl hin hd ?_
  rw [hcl]
  exact kk hok p l e Rm s m args below meth c D aC A Z hC ad H locs cells slots mls _ hH ⟨hF.1, hF.2.1, p_ws_i (p_ws_t (p_ws_t hF.2.2))⟩ (hn rfl) hc hs hK

theorem px_bald {d mc ms : Nat} {cd : pm_C} {i b : Nat} {con : Int} {ls : List (Option Value)} {st : List Value} {Sh : List (Nat × Nat)} {I : Nat → Nat → Int32} {J : Nat → Nat → Int64} {R : Nat → Nat → Option Nat} {ro : List (Nat × Nat × (Nat → Int32))} {Q : Option Value → pm_M → Prop} {a n j : Nat} {x : Int32} {xs : List Nat} (h : (cdE cd)[i]? = some (b, 1, .baload, xs, con)) (hS : Sh[a]? = some (102, n)) (hj : x = nI j) (hjn : j < n) (kk : Px d mc ms cd (i + 1) ls (.int (I a j) :: st) (Sh, I, J, R, ro) Q) : Px d mc ms cd i ls (.int x :: .ref a :: st) (Sh, I, J, R, ro) Q := by
  intro hok p l e Rm s m args below meth c D aC A Z hC ad H locs cells slots mls b' hH hF hb hc hs hK
  obtain ⟨hd, hn, hx⟩ := p_at hok h hb
  have hlt := p_lt hS
  obtain ⟨hn31, -⟩ := hH.2.2.2.2.2.2 a _ n hS
  subst hj
  have hin : vp_in (nI j) n := vp_in_nI hjn hn31
  have hcl : (nI j).toNatClampNeg = j := nI_clamp (Nat.lt_trans hjn hn31)
  refine va_bald hC.1.1 hC.1.2.1 hC.2.2.2.2.2.1 hH.1 a 2 (by rw [p_wd_at hlt, p_cel_i hS (by decide) (by decide) (by decide)]) rfl hin hd ?_
  rw [hcl]
  exact kk hok p l e Rm s m args below meth c D aC A Z hC ad H locs cells slots mls _ hH ⟨hF.1, hF.2.1, p_ws_i (p_ws_t (p_ws_t hF.2.2))⟩ (hn rfl) hc hs hK

theorem px_sald {d mc ms : Nat} {cd : pm_C} {i b : Nat} {con : Int} {ls : List (Option Value)} {st : List Value} {Sh : List (Nat × Nat)} {I : Nat → Nat → Int32} {J : Nat → Nat → Int64} {R : Nat → Nat → Option Nat} {ro : List (Nat × Nat × (Nat → Int32))} {Q : Option Value → pm_M → Prop} {a n j : Nat} {x : Int32} {xs : List Nat} (h : (cdE cd)[i]? = some (b, 1, .saload, xs, con)) (hS : Sh[a]? = some (103, n)) (hj : x = nI j) (hjn : j < n) (kk : Px d mc ms cd (i + 1) ls (.int (I a j) :: st) (Sh, I, J, R, ro) Q) : Px d mc ms cd i ls (.int x :: .ref a :: st) (Sh, I, J, R, ro) Q := by
  intro hok p l e Rm s m args below meth c D aC A Z hC ad H locs cells slots mls b' hH hF hb hc hs hK
  obtain ⟨hd, hn, hx⟩ := p_at hok h hb
  have hlt := p_lt hS
  obtain ⟨hn31, -⟩ := hH.2.2.2.2.2.2 a _ n hS
  subst hj
  have hin : vp_in (nI j) n := vp_in_nI hjn hn31
  have hcl : (nI j).toNatClampNeg = j := nI_clamp (Nat.lt_trans hjn hn31)
  refine va_sald hC.1.1 hC.1.2.1 hC.2.2.2.2.2.1 hH.1 a 3 (by rw [p_wd_at hlt, p_cel_i hS (by decide) (by decide) (by decide)]) rfl hin hd ?_
  rw [hcl]
  exact kk hok p l e Rm s m args below meth c D aC A Z hC ad H locs cells slots mls _ hH ⟨hF.1, hF.2.1, p_ws_i (p_ws_t (p_ws_t hF.2.2))⟩ (hn rfl) hc hs hK

theorem px_lald {d mc ms : Nat} {cd : pm_C} {i b : Nat} {con : Int} {ls : List (Option Value)} {st : List Value} {Sh : List (Nat × Nat)} {I : Nat → Nat → Int32} {J : Nat → Nat → Int64} {R : Nat → Nat → Option Nat} {ro : List (Nat × Nat × (Nat → Int32))} {Q : Option Value → pm_M → Prop} {a n j : Nat} {x : Int32} {xs : List Nat} (h : (cdE cd)[i]? = some (b, 1, .laload, xs, con)) (hS : Sh[a]? = some (101, n)) (hj : x = nI j) (hjn : j < n) (kk : Px d mc ms cd (i + 1) ls (.long (J a j) :: st) (Sh, I, J, R, ro) Q) : Px d mc ms cd i ls (.int x :: .ref a :: st) (Sh, I, J, R, ro) Q := by
  intro hok p l e Rm s m args below meth c D aC A Z hC ad H locs cells slots mls b' hH hF hb hc hs hK
  obtain ⟨hd, hn, hx⟩ := p_at hok h hb
  have hlt := p_lt hS
  obtain ⟨hn31, -⟩ := hH.2.2.2.2.2.2 a _ n hS
  subst hj
  have hin : vp_in (nI j) n := vp_in_nI hjn hn31
  have hcl : (nI j).toNatClampNeg = j := nI_clamp (Nat.lt_trans hjn hn31)
  refine va_lald hC.1.1 hC.1.2.1 hC.2.2.2.2.2.1 hH.1 a 1 (by rw [p_wd_at hlt, p_cel_l hS]) rfl hin hd ?_
  rw [hcl]
  exact kk hok p l e Rm s m args below meth c D aC A Z hC ad H locs cells slots mls _ hH ⟨hF.1, hF.2.1, p_ws_l (p_ws_t (p_ws_t hF.2.2))⟩ (hn rfl) hc hs hK

theorem px_aald {d mc ms : Nat} {cd : pm_C} {i b : Nat} {con : Int} {ls : List (Option Value)} {st : List Value} {Sh : List (Nat × Nat)} {I : Nat → Nat → Int32} {J : Nat → Nat → Int64} {R : Nat → Nat → Option Nat} {ro : List (Nat × Nat × (Nat → Int32))} {Q : Option Value → pm_M → Prop} {a n j : Nat} {x : Int32} {r : Nat} {xs : List Nat} (h : (cdE cd)[i]? = some (b, 1, .aaload, xs, con)) (hS : Sh[a]? = some (104, n)) (hj : x = nI j) (hjn : j < n) (hr : R a j = some r) (kk : Px d mc ms cd (i + 1) ls (.ref r :: st) (Sh, I, J, R, ro) Q) : Px d mc ms cd i ls (.int x :: .ref a :: st) (Sh, I, J, R, ro) Q := by
  intro hok p l e Rm s m args below meth c D aC A Z hC ad H locs cells slots mls b' hH hF hb hc hs hK
  obtain ⟨hd, hn, hx⟩ := p_at hok h hb
  have hlt := p_lt hS
  obtain ⟨hn31, -⟩ := hH.2.2.2.2.2.2 a _ n hS
  subst hj
  have hin : vp_in (nI j) n := vp_in_nI hjn hn31
  have hcl : (nI j).toNatClampNeg = j := nI_clamp (Nat.lt_trans hjn hn31)
  refine va_aldq hC.1.1 hC.1.2.1 hC.2.2.2.2.2.1 hH.1 a 4 (by rw [p_wd_at hlt, p_cel_q hS]) rfl hin hd ?_
  rw [hcl]
  simp only [hr, Option.map_some, va_rf]
  exact kk hok p l e Rm s m args below meth c D aC A Z hC ad H locs cells slots mls _ hH ⟨hF.1, hF.2.1, p_ws_c (fun q e => by cases e; exact hH.2.2.2.2.2.1 a j r hr) (p_ws_t (p_ws_t hF.2.2))⟩ (hn rfl) hc hs hK

theorem px_iast {d mc ms : Nat} {cd : pm_C} {i b : Nat} {con : Int} {ls : List (Option Value)} {st : List Value} {Sh : List (Nat × Nat)} {I : Nat → Nat → Int32} {J : Nat → Nat → Int64} {R : Nat → Nat → Option Nat} {ro : List (Nat × Nat × (Nat → Int32))} {Q : Option Value → pm_M → Prop} {a n j : Nat} {x : Int32} {v : Int32} {xs : List Nat} (h : (cdE cd)[i]? = some (b, 1, .iastore, xs, con)) (hS : Sh[a]? = some (100, n)) (hj : x = nI j) (hjn : j < n) (kk : Px d mc ms cd (i + 1) ls st (Sh, va_up I a (va_up (I a) j (v)), J, R, ro) Q) : Px d mc ms cd i ls (.int v :: .int x :: .ref a :: st) (Sh, I, J, R, ro) Q := by
  intro hok p l e Rm s m args below meth c D aC A Z hC ad H locs cells slots mls b' hH hF hb hc hs hK
  obtain ⟨hd, hn, hx⟩ := p_at hok h hb
  have hlt := p_lt hS
  obtain ⟨hn31, -⟩ := hH.2.2.2.2.2.2 a _ n hS
  subst hj
  have hin : vp_in (nI j) n := vp_in_nI hjn hn31
  have hcl : (nI j).toNatClampNeg = j := nI_clamp (Nat.lt_trans hjn hn31)
  refine va_iast hC.1.1 hC.1.2.1 hC.2.2.2.2.2.1 hH.1 hH.2.1 hH.2.2.1 a 0 (by rw [p_wd_at hlt, p_cel_i hS (by decide) (by decide) (by decide)]) rfl hin hd (fun H1 locs1 hP1 hD1 hS1 => ?_)
  rw [hcl] at hP1 hD1
  have e1 := p_set_arr (aC := aC) (ad := ad) (S := (Sh, I, J, R, ro)) (S' := (Sh, va_up I a (va_up (I a) j (v)), J, R, ro)) (a := a) rfl (e := .inl (aC 0, n, .inl (upd (I a) j (v)))) (by rw [p_cel_i (S := (Sh, va_up I a (va_up (I a) j (v)), J, R, ro)) hS (by decide) (by decide) (by decide)]; simp only [p_up_s]; rfl) (fun q hq => ⟨by first | rfl | simp [va_up, hq], by first | rfl | simp [va_up, hq], rfl⟩)
  first | rw [e1] at hP1 hD1 | (erw [e1] at hP1 hD1)
  exact kk hok p l e Rm s m args below meth c D aC A Z hC ad H1 locs1 cells slots mls _ ⟨hP1, hD1, hS1, hH.2.2.2.1, hH.2.2.2.2⟩ ⟨hF.1, hF.2.1, p_ws_t (p_ws_t (p_ws_t hF.2.2))⟩ (hn rfl) hc hs hK

theorem px_bast {d mc ms : Nat} {cd : pm_C} {i b : Nat} {con : Int} {ls : List (Option Value)} {st : List Value} {Sh : List (Nat × Nat)} {I : Nat → Nat → Int32} {J : Nat → Nat → Int64} {R : Nat → Nat → Option Nat} {ro : List (Nat × Nat × (Nat → Int32))} {Q : Option Value → pm_M → Prop} {a n j : Nat} {x : Int32} {v : Int32} {xs : List Nat} (h : (cdE cd)[i]? = some (b, 1, .bastore, xs, con)) (hS : Sh[a]? = some (102, n)) (hj : x = nI j) (hjn : j < n) (kk : Px d mc ms cd (i + 1) ls st (Sh, va_up I a (va_up (I a) j (v.toInt8.toInt32)), J, R, ro) Q) : Px d mc ms cd i ls (.int v :: .int x :: .ref a :: st) (Sh, I, J, R, ro) Q := by
  intro hok p l e Rm s m args below meth c D aC A Z hC ad H locs cells slots mls b' hH hF hb hc hs hK
  obtain ⟨hd, hn, hx⟩ := p_at hok h hb
  have hlt := p_lt hS
  obtain ⟨hn31, -⟩ := hH.2.2.2.2.2.2 a _ n hS
  subst hj
  have hin : vp_in (nI j) n := vp_in_nI hjn hn31
  have hcl : (nI j).toNatClampNeg = j := nI_clamp (Nat.lt_trans hjn hn31)
  refine va_bast hC.1.1 hC.1.2.1 hC.2.2.2.2.2.1 hH.1 hH.2.1 hH.2.2.1 a 2 (by rw [p_wd_at hlt, p_cel_i hS (by decide) (by decide) (by decide)]) rfl hin hd (fun H1 locs1 hP1 hD1 hS1 => ?_)
  rw [hcl] at hP1 hD1
  have e1 := p_set_arr (aC := aC) (ad := ad) (S := (Sh, I, J, R, ro)) (S' := (Sh, va_up I a (va_up (I a) j (v.toInt8.toInt32)), J, R, ro)) (a := a) rfl (e := .inl (aC 2, n, .inl (upd (I a) j (v.toInt8.toInt32)))) (by rw [p_cel_i (S := (Sh, va_up I a (va_up (I a) j (v.toInt8.toInt32)), J, R, ro)) hS (by decide) (by decide) (by decide)]; simp only [p_up_s]; rfl) (fun q hq => ⟨by first | rfl | simp [va_up, hq], by first | rfl | simp [va_up, hq], rfl⟩)
  first | rw [e1] at hP1 hD1 | (erw [e1] at hP1 hD1)
  exact kk hok p l e Rm s m args below meth c D aC A Z hC ad H1 locs1 cells slots mls _ ⟨hP1, hD1, hS1, hH.2.2.2.1, hH.2.2.2.2⟩ ⟨hF.1, hF.2.1, p_ws_t (p_ws_t (p_ws_t hF.2.2))⟩ (hn rfl) hc hs hK

theorem px_sast {d mc ms : Nat} {cd : pm_C} {i b : Nat} {con : Int} {ls : List (Option Value)} {st : List Value} {Sh : List (Nat × Nat)} {I : Nat → Nat → Int32} {J : Nat → Nat → Int64} {R : Nat → Nat → Option Nat} {ro : List (Nat × Nat × (Nat → Int32))} {Q : Option Value → pm_M → Prop} {a n j : Nat} {x : Int32} {v : Int32} {xs : List Nat} (h : (cdE cd)[i]? = some (b, 1, .sastore, xs, con)) (hS : Sh[a]? = some (103, n)) (hj : x = nI j) (hjn : j < n) (kk : Px d mc ms cd (i + 1) ls st (Sh, va_up I a (va_up (I a) j (v.toInt16.toInt32)), J, R, ro) Q) : Px d mc ms cd i ls (.int v :: .int x :: .ref a :: st) (Sh, I, J, R, ro) Q := by
  intro hok p l e Rm s m args below meth c D aC A Z hC ad H locs cells slots mls b' hH hF hb hc hs hK
  obtain ⟨hd, hn, hx⟩ := p_at hok h hb
  have hlt := p_lt hS
  obtain ⟨hn31, -⟩ := hH.2.2.2.2.2.2 a _ n hS
  subst hj
  have hin : vp_in (nI j) n := vp_in_nI hjn hn31
  have hcl : (nI j).toNatClampNeg = j := nI_clamp (Nat.lt_trans hjn hn31)
  refine va_sast hC.1.1 hC.1.2.1 hC.2.2.2.2.2.1 hH.1 hH.2.1 hH.2.2.1 a 3 (by rw [p_wd_at hlt, p_cel_i hS (by decide) (by decide) (by decide)]) rfl hin hd (fun H1 locs1 hP1 hD1 hS1 => ?_)
  rw [hcl] at hP1 hD1
  have e1 := p_set_arr (aC := aC) (ad := ad) (S := (Sh, I, J, R, ro)) (S' := (Sh, va_up I a (va_up (I a) j (v.toInt16.toInt32)), J, R, ro)) (a := a) rfl (e := .inl (aC 3, n, .inl (upd (I a) j (v.toInt16.toInt32)))) (by rw [p_cel_i (S := (Sh, va_up I a (va_up (I a) j (v.toInt16.toInt32)), J, R, ro)) hS (by decide) (by decide) (by decide)]; simp only [p_up_s]; rfl) (fun q hq => ⟨by first | rfl | simp [va_up, hq], by first | rfl | simp [va_up, hq], rfl⟩)
  first | rw [e1] at hP1 hD1 | (erw [e1] at hP1 hD1)
  exact kk hok p l e Rm s m args below meth c D aC A Z hC ad H1 locs1 cells slots mls _ ⟨hP1, hD1, hS1, hH.2.2.2.1, hH.2.2.2.2⟩ ⟨hF.1, hF.2.1, p_ws_t (p_ws_t (p_ws_t hF.2.2))⟩ (hn rfl) hc hs hK

theorem px_last {d mc ms : Nat} {cd : pm_C} {i b : Nat} {con : Int} {ls : List (Option Value)} {st : List Value} {Sh : List (Nat × Nat)} {I : Nat → Nat → Int32} {J : Nat → Nat → Int64} {R : Nat → Nat → Option Nat} {ro : List (Nat × Nat × (Nat → Int32))} {Q : Option Value → pm_M → Prop} {a n j : Nat} {x : Int32} {v : Int64} {xs : List Nat} (h : (cdE cd)[i]? = some (b, 1, .lastore, xs, con)) (hS : Sh[a]? = some (101, n)) (hj : x = nI j) (hjn : j < n) (kk : Px d mc ms cd (i + 1) ls st (Sh, I, va_up J a (va_up (J a) j v), R, ro) Q) : Px d mc ms cd i ls (.long v :: .int x :: .ref a :: st) (Sh, I, J, R, ro) Q := by
  intro hok p l e Rm s m args below meth c D aC A Z hC ad H locs cells slots mls b' hH hF hb hc hs hK
  obtain ⟨hd, hn, hx⟩ := p_at hok h hb
  have hlt := p_lt hS
  obtain ⟨hn31, -⟩ := hH.2.2.2.2.2.2 a _ n hS
  subst hj
  have hin : vp_in (nI j) n := vp_in_nI hjn hn31
  have hcl : (nI j).toNatClampNeg = j := nI_clamp (Nat.lt_trans hjn hn31)
  refine va_last hC.1.1 hC.1.2.1 hC.2.2.2.2.2.1 hH.1 hH.2.1 hH.2.2.1 a 1 (by rw [p_wd_at hlt, p_cel_l hS]) rfl hin hd (fun H1 locs1 hP1 hD1 hS1 => ?_)
  rw [hcl] at hP1 hD1
  have e1 := p_set_arr (aC := aC) (ad := ad) (S := (Sh, I, J, R, ro)) (S' := (Sh, I, va_up J a (va_up (J a) j v), R, ro)) (a := a) rfl (e := .inl (aC 1, n, .inr (.inl (vp_updL (J a) j v)))) (by rw [p_cel_l (S := (Sh, I, va_up J a (va_up (J a) j v), R, ro)) hS]; simp only [p_up_s]; rfl) (fun q hq => ⟨by first | rfl | simp [va_up, hq], by first | rfl | simp [va_up, hq], rfl⟩)
  first | rw [e1] at hP1 hD1 | (erw [e1] at hP1 hD1)
  exact kk hok p l e Rm s m args below meth c D aC A Z hC ad H1 locs1 cells slots mls _ ⟨hP1, hD1, hS1, hH.2.2.2.1, hH.2.2.2.2⟩ ⟨hF.1, hF.2.1, p_ws_t (p_ws_t (p_ws_t hF.2.2))⟩ (hn rfl) hc hs hK

theorem px_alen {d mc ms : Nat} {cd : pm_C} {i b : Nat} {con : Int} {ls : List (Option Value)} {st : List Value} {Sh : List (Nat × Nat)} {I : Nat → Nat → Int32} {J : Nat → Nat → Int64} {R : Nat → Nat → Option Nat} {ro : List (Nat × Nat × (Nat → Int32))} {Q : Option Value → pm_M → Prop} {a n : Nat} {xs : List Nat} (h : (cdE cd)[i]? = some (b, 1, .arraylength, xs, con)) (hS : Sh[a]? = some (100, n)) (kk : Px d mc ms cd (i + 1) ls (.int (nI n) :: st) (Sh, I, J, R, ro) Q) : Px d mc ms cd i ls (.ref a :: st) (Sh, I, J, R, ro) Q := by
  intro hok p l e Rm s m args below meth c D aC A Z hC ad H locs cells slots mls b' hH hF hb hc hs hK
  obtain ⟨hd, hn, hx⟩ := p_at hok h hb
  have hlt := p_lt hS
  exact va_alen (v := nI n) hC.1.1 hC.1.2.1 hC.2.2.2.2.2.1 hH.1 a 0 (by rw [p_wd_at hlt, p_cel_i hS (by decide) (by decide) (by decide)]) rfl rfl hd (kk hok p l e Rm s m args below meth c D aC A Z hC ad H locs cells slots mls _ hH ⟨hF.1, hF.2.1, p_ws_i (p_ws_t hF.2.2)⟩ (hn rfl) hc hs hK)

theorem px_alenL {d mc ms : Nat} {cd : pm_C} {i b : Nat} {con : Int} {ls : List (Option Value)} {st : List Value} {Sh : List (Nat × Nat)} {I : Nat → Nat → Int32} {J : Nat → Nat → Int64} {R : Nat → Nat → Option Nat} {ro : List (Nat × Nat × (Nat → Int32))} {Q : Option Value → pm_M → Prop} {a n : Nat} {xs : List Nat} (h : (cdE cd)[i]? = some (b, 1, .arraylength, xs, con)) (hS : Sh[a]? = some (101, n)) (kk : Px d mc ms cd (i + 1) ls (.int (nI n) :: st) (Sh, I, J, R, ro) Q) : Px d mc ms cd i ls (.ref a :: st) (Sh, I, J, R, ro) Q := by
  intro hok p l e Rm s m args below meth c D aC A Z hC ad H locs cells slots mls b' hH hF hb hc hs hK
  obtain ⟨hd, hn, hx⟩ := p_at hok h hb
  have hlt := p_lt hS
  exact va_alen (v := nI n) hC.1.1 hC.1.2.1 hC.2.2.2.2.2.1 hH.1 a 1 (by rw [p_wd_at hlt, p_cel_l hS]) rfl rfl hd (kk hok p l e Rm s m args below meth c D aC A Z hC ad H locs cells slots mls _ hH ⟨hF.1, hF.2.1, p_ws_i (p_ws_t hF.2.2)⟩ (hn rfl) hc hs hK)

theorem px_getstatic {d mc ms : Nat} {cd : pm_C} {i b : Nat} {con : Int} {ls : List (Option Value)} {st : List Value} {Sh : List (Nat × Nat)} {I : Nat → Nat → Int32} {J : Nat → Nat → Int64} {R : Nat → Nat → Option Nat} {ro : List (Nat × Nat × (Nat → Int32))} {Q : Option Value → pm_M → Prop} {q pos idx : Nat} (h : (cdE cd)[i]? = some (b, 3, .getstatic idx, [q, pos], con)) (kk : Px d mc ms cd (i + 1) ls (.ref q :: st) (Sh, I, J, R, ro) Q) : Px d mc ms cd i ls st (Sh, I, J, R, ro) Q := by
  intro hok p l e Rm s m args below meth c D aC A Z hC ad H locs cells slots mls b' hH hF hb hc hs hK
  obtain ⟨hd, hn, hx⟩ := p_at hok h hb
  simp only [p_okX, Bool.or_eq_true, Bool.and_eq_true, decide_eq_true_eq] at hx
  rcases hx with ⟨rfl, hp⟩ | ⟨rfl, hp⟩
  · exact va_gets hC.1.1 hC.1.2.1 hH.2.2.2.1.2.1 hH.2.2.1 hC.1.2.2.2.1 (hC.1.2.2.2.2 _ (p_has_in hp)) (fun _ q => q) hd (kk hok p l e Rm s m args below meth c D aC A Z hC ad H locs cells slots mls _ hH ⟨hF.1, hF.2.1, p_ws_c (fun r e => by cases e; exact Or.inr (by decide)) hF.2.2⟩ (hn rfl) hc hs hK)
  · exact va_gets hC.1.1 hC.1.2.1 hH.2.2.2.1.2.2 hH.2.2.1 hC.1.2.2.2.1 (hC.1.2.2.2.2 _ (p_has_in hp)) (fun _ q => q) hd (kk hok p l e Rm s m args below meth c D aC A Z hC ad H locs cells slots mls _ hH ⟨hF.1, hF.2.1, p_ws_c (fun r e => by cases e; exact Or.inr (by decide)) hF.2.2⟩ (hn rfl) hc hs hK)
theorem px_roald {d mc ms : Nat} {cd : pm_C} {i b : Nat} {con : Int} {ls : List (Option Value)} {st : List Value} {Sh : List (Nat × Nat)} {I : Nat → Nat → Int32} {J : Nat → Nat → Int64} {R : Nat → Nat → Option Nat} {ro : List (Nat × Nat × (Nat → Int32))} {Q : Option Value → pm_M → Prop} {q N j : Nat} {x : Int32} {f : Nat → Int32} {xs : List Nat} (h : (cdE cd)[i]? = some (b, 1, .iaload, xs, con)) (hm : (q, N, f) ∈ ro) (hj : x = nI j) (hjn : j < N) (kk : Px d mc ms cd (i + 1) ls (.int (f j) :: st) (Sh, I, J, R, ro) Q) : Px d mc ms cd i ls (.int x :: .ref q :: st) (Sh, I, J, R, ro) Q := by
  intro hok p l e Rm s m args below meth c D aC A Z hC ad H locs cells slots mls b' hH hF hb hc hs hK
  obtain ⟨hd, hn, hx⟩ := p_at hok h hb
  obtain ⟨⟨cell, q1, q2, q3, q4, q5, q6, q7⟩, hN, h1000⟩ := hH.2.2.2.1.1 _ hm
  subst hj
  have hcl : (nI j).toNatClampNeg = j := nI_clamp (Nat.lt_trans hjn hN)
  have hh : H[ad q]? = some cell := by
    rw [hH.2.2.1.2.1 _ (Array.getElem?_eq_some_iff.mp q1).1 q7]
    exact q1
  exact W.iald hC.1.1 hC.1.2.1 hh q2 q3 (by have h3 : vp_in (nI j) N := vp_in_nI hjn hN; unfold vp_in at h3; intro hor; rcases hor with z | z; exact h3 (Or.inl z); rw [hcl] at z; have q4' : N ≤ cell.slots.size := q4; have hjn' : j < N := hjn; omega) (by rw [hcl]; exact q6 j hjn) rfl rfl hd (kk hok p l e Rm s m args below meth c D aC A Z hC ad H locs cells slots mls _ hH ⟨hF.1, hF.2.1, p_ws_i (p_ws_t (p_ws_t hF.2.2))⟩ (hn rfl) hc hs hK)
theorem px_rolen {d mc ms : Nat} {cd : pm_C} {i b : Nat} {con : Int} {ls : List (Option Value)} {st : List Value} {Sh : List (Nat × Nat)} {I : Nat → Nat → Int32} {J : Nat → Nat → Int64} {R : Nat → Nat → Option Nat} {ro : List (Nat × Nat × (Nat → Int32))} {Q : Option Value → pm_M → Prop} {q N : Nat} {f : Nat → Int32} {xs : List Nat} (h : (cdE cd)[i]? = some (b, 1, .arraylength, xs, con)) (hm : (q, N, f) ∈ ro) (kk : Px d mc ms cd (i + 1) ls (.int (nI N) :: st) (Sh, I, J, R, ro) Q) : Px d mc ms cd i ls (.ref q :: st) (Sh, I, J, R, ro) Q := by
  intro hok p l e Rm s m args below meth c D aC A Z hC ad H locs cells slots mls b' hH hF hb hc hs hK
  obtain ⟨hd, hn, hx⟩ := p_at hok h hb
  obtain ⟨⟨cell, q1, q2, q3, q4, q5, q6, q7⟩, hN, h1000⟩ := hH.2.2.2.1.1 _ hm
  have hh : H[ad q]? = some cell := by
    rw [hH.2.2.1.2.1 _ (Array.getElem?_eq_some_iff.mp q1).1 q7]
    exact q1
  exact W.alen hC.1.1 hC.1.2.1 hh q2 q5 rfl rfl hd (kk hok p l e Rm s m args below meth c D aC A Z hC ad H locs cells slots mls _ hH ⟨hF.1, hF.2.1, p_ws_i (p_ws_t hF.2.2)⟩ (hn rfl) hc hs hK)
