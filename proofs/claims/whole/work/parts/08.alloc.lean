/-! Object.<init>, arraycopy, what is made -/
theorem px_objinit {d mc ms : Nat} {cd : pm_C} {i b : Nat} {con : Int} {ls : List (Option Value)} {st : List Value} {S : pm_M} {Q : Option Value → pm_M → Prop} {idx pL pI pC a : Nat} (h : (cdE cd)[i]? = some (b, 3, .invokespecial idx, [pL, pI, pC], con)) (hct : (st.map fun v => v.category).sum ≤ 8) (k : Px d mc ms cd (i + 1) ls st S Q) : Px d mc ms cd i ls (.ref a :: st) S Q := by
  intro hok p l e R s m args below meth c D aC A Z hC ad H locs cells slots mls b' hH hF hb hc hs hK
  obtain ⟨hd, hn, hx⟩ := p_at hok h hb
  simp only [p_okX, Bool.and_eq_true] at hx
  have hfr := hC.2.2.2.2.1
  refine W.objInit hC.1.1 hC.1.2.1 hC.1.2.2.2.1 (hC.1.2.2.2.2 _ (p_has_in hx.1.1)) (hC.1.2.2.2.2 _ (p_has_in hx.1.2)) (hC.1.2.2.2.2 _ (p_has_in hx.2)) rfl (by rw [hC.1.2.2.1]; exact hF.1.1) (rest := st.map (pv ad)) rfl hd (by omega) ?_ (k hok p l e R s m args below meth c D aC A Z hC ad H locs cells slots mls _ hH ⟨hF.1, hF.2.1, p_ws_t hF.2.2⟩ (hn rfl) hc hs hK)
  have := lv_room (pc := b') (m := m) (ls := mls) (rest := List.map (pv ad) (Value.ref a :: st)) (p_cats (ad := ad) hct)
  omega
theorem px_copyI {d mc ms : Nat} {cd : pm_C} {i b : Nat} {con : Int} {ls : List (Option Value)} {st : List Value} {Sh : List (Nat × Nat)} {I : Nat → Nat → Int32} {J : Nat → Nat → Int64} {R : Nat → Nat → Option Nat} {ro : List (Nat × Nat × (Nat → Int32))} {Q : Option Value → pm_M → Prop} {idx pL pI pN pS p0 a c n0 n1 : Nat} {sp dp n : Int32} (xsp xdp xn : Nat) (h : (cdE cd)[i]? = some (b, 3, .invokestatic idx, [pL, pI, pS, pN, p0], con)) (hct : (st.map fun v => v.category).sum ≤ 8) (hA : Sh[a]? = some (100, n0)) (hB : Sh[c]? = some (100, n1)) (e1 : sp = nI xsp) (e2 : dp = nI xdp) (e3 : n = nI xn) (l1 : xsp + xn ≤ n0) (l2 : xdp + xn ≤ n1)
    (k : Px d mc ms cd (i + 1) ls st (Sh, va_up I c (va_cpy (I a) (I c) xsp xdp xn), J, R, ro) Q) : Px d mc ms cd i ls (.int n :: .int dp :: .ref c :: .int sp :: .ref a :: st) (Sh, I, J, R, ro) Q := by
  intro hok p l e Rm s m args below meth cc D aC A Z hC ad H locs cells slots mls b' hH hF hb hc hs hK
  obtain ⟨hd, hn, hx⟩ := p_at hok h hb
  simp only [p_okX, Bool.and_eq_true] at hx
  subst e1 e2 e3
  have g0 := (hH.2.2.2.2.2.2 a _ n0 hA).1
  have g1 := (hH.2.2.2.2.2.2 c _ n1 hB).1
  have c1 : (nI xsp).toNatClampNeg = xsp := nI_clamp (by omega)
  have c2 : (nI xdp).toNatClampNeg = xdp := nI_clamp (by omega)
  have c3 : (nI xn).toNatClampNeg = xn := nI_clamp (by omega)
  have hfr := hC.2.2.2.2.1
  refine va_copyi hC.1.1 hC.1.2.1 (by rw [hC.1.2.2.1]; exact hF.1.1.symm) hC.1.2.2.2.1 (hC.1.2.2.2.2 _ (p_has_in hx.1.1.1)) (hC.1.2.2.2.2 _ (p_has_in hx.1.1.2)) (hC.1.2.2.2.2 _ (p_has_in hx.1.2)) (hC.1.2.2.2.2 _ (p_has_in hx.2)) hC.2.2.2.2.2.1 hH.1 hH.2.1 hH.2.2.1 a c 0 0 (by rw [p_wd_at (p_lt hA), p_cel_i hA (by decide) (by decide) (by decide)]) (by rw [p_wd_at (p_lt hB), p_cel_i hB (by decide) (by decide) (by decide)]) rfl rfl rfl (nI_pos (by omega)) (nI_pos (by omega)) (nI_pos (by omega)) (by rw [c1, c3]; exact l1) (by rw [c2, c3]; exact l2) (fun _ _ => rfl) (by omega) ?_ hd (fun H1 locs1 hP1 hD1 hS1 => ?_)
  · have := p_cats (ad := ad) hct
    have e : nativeFrameWords "java/lang/System" "arraycopy" 5 ≤ 20 := by decide +kernel
    omega
  · rw [c1, c2, c3] at hP1 hD1
    have q1 := p_set_arr (aC := aC) (ad := ad) (S := (Sh, I, J, R, ro)) (S' := (Sh, va_up I c (va_cpy (I a) (I c) xsp xdp xn), J, R, ro)) (a := c) rfl (e := .inl (aC 0, n1, .inl (va_cpy (I a) (I c) xsp xdp xn))) (by rw [p_cel_i (S := (Sh, va_up I c (va_cpy (I a) (I c) xsp xdp xn), J, R, ro)) hB (by decide) (by decide) (by decide)]; simp only [p_up_s]) (fun q hq => ⟨by simp [va_up, hq], rfl, rfl⟩)
    first | rw [q1] at hP1 hD1 | (erw [q1] at hP1 hD1)
    exact k hok p l e Rm s m args below meth cc D aC A Z hC ad H1 locs1 cells slots mls _ ⟨hP1, hD1, hS1, hH.2.2.2.1, hH.2.2.2.2⟩ ⟨hF.1, hF.2.1, p_ws_t (p_ws_t (p_ws_t (p_ws_t (p_ws_t hF.2.2))))⟩ (hn rfl) hc hs hK
theorem px_copyL {d mc ms : Nat} {cd : pm_C} {i b : Nat} {con : Int} {ls : List (Option Value)} {st : List Value} {Sh : List (Nat × Nat)} {I : Nat → Nat → Int32} {J : Nat → Nat → Int64} {R : Nat → Nat → Option Nat} {ro : List (Nat × Nat × (Nat → Int32))} {Q : Option Value → pm_M → Prop} {idx pL pI pN pS p0 a c n0 n1 : Nat} {sp dp n : Int32} (xsp xdp xn : Nat) (h : (cdE cd)[i]? = some (b, 3, .invokestatic idx, [pL, pI, pS, pN, p0], con)) (hct : (st.map fun v => v.category).sum ≤ 8) (hA : Sh[a]? = some (101, n0)) (hB : Sh[c]? = some (101, n1)) (e1 : sp = nI xsp) (e2 : dp = nI xdp) (e3 : n = nI xn) (l1 : xsp + xn ≤ n0) (l2 : xdp + xn ≤ n1)
    (k : Px d mc ms cd (i + 1) ls st (Sh, I, va_up J c (va_cpy (J a) (J c) xsp xdp xn), R, ro) Q) : Px d mc ms cd i ls (.int n :: .int dp :: .ref c :: .int sp :: .ref a :: st) (Sh, I, J, R, ro) Q := by
  intro hok p l e Rm s m args below meth cc D aC A Z hC ad H locs cells slots mls b' hH hF hb hc hs hK
  obtain ⟨hd, hn, hx⟩ := p_at hok h hb
  simp only [p_okX, Bool.and_eq_true] at hx
  subst e1 e2 e3
  have g0 := (hH.2.2.2.2.2.2 a _ n0 hA).1
  have g1 := (hH.2.2.2.2.2.2 c _ n1 hB).1
  have c1 : (nI xsp).toNatClampNeg = xsp := nI_clamp (by omega)
  have c2 : (nI xdp).toNatClampNeg = xdp := nI_clamp (by omega)
  have c3 : (nI xn).toNatClampNeg = xn := nI_clamp (by omega)
  have hfr := hC.2.2.2.2.1
  refine va_copyl hC.1.1 hC.1.2.1 (by rw [hC.1.2.2.1]; exact hF.1.1.symm) hC.1.2.2.2.1 (hC.1.2.2.2.2 _ (p_has_in hx.1.1.1)) (hC.1.2.2.2.2 _ (p_has_in hx.1.1.2)) (hC.1.2.2.2.2 _ (p_has_in hx.1.2)) (hC.1.2.2.2.2 _ (p_has_in hx.2)) hC.2.2.2.2.2.1 hH.1 hH.2.1 hH.2.2.1 a c 1 1 (by rw [p_wd_at (p_lt hA), p_cel_l hA]) (by rw [p_wd_at (p_lt hB), p_cel_l hB]) rfl rfl rfl (nI_pos (by omega)) (nI_pos (by omega)) (nI_pos (by omega)) (by rw [c1, c3]; exact l1) (by rw [c2, c3]; exact l2) (fun _ _ => rfl) (by omega) ?_ hd (fun H1 locs1 hP1 hD1 hS1 => ?_)
  · have := p_cats (ad := ad) hct
    have e : nativeFrameWords "java/lang/System" "arraycopy" 5 ≤ 20 := by decide +kernel
    omega
  · rw [c1, c2, c3] at hP1 hD1
    have q1 := p_set_arr (aC := aC) (ad := ad) (S := (Sh, I, J, R, ro)) (S' := (Sh, I, va_up J c (va_cpy (J a) (J c) xsp xdp xn), R, ro)) (a := c) rfl (e := .inl (aC 1, n1, .inr (.inl (va_cpy (J a) (J c) xsp xdp xn)))) (by rw [p_cel_l (S := (Sh, I, va_up J c (va_cpy (J a) (J c) xsp xdp xn), R, ro)) hB]; simp only [p_up_s]) (fun q hq => ⟨rfl, by simp [va_up, hq], rfl⟩)
    first | rw [q1] at hP1 hD1 | (erw [q1] at hP1 hD1)
    exact k hok p l e Rm s m args below meth cc D aC A Z hC ad H1 locs1 cells slots mls _ ⟨hP1, hD1, hS1, hH.2.2.2.1, hH.2.2.2.2⟩ ⟨hF.1, hF.2.1, p_ws_t (p_ws_t (p_ws_t (p_ws_t (p_ws_t hF.2.2))))⟩ (hn rfl) hc hs hK
def p_tyK (ty : FieldType) : Bool := match ty with
  | .int => true
  | .boolean => true
  | .long => true
  | .object _ => true
  | .array _ => true
  | _ => false
theorem p_tyK_ok (ci k : Nat) : p_tyK (tyC ci k) = true := by
  unfold tyC
  split <;> (first | unfold tyX0 | unfold tyX1 | unfold tyX2 | unfold tyX3 | unfold tyX4 | unfold tyX5 | unfold tyX6 | unfold tyX7 | unfold tyX8 | unfold tyX9 | unfold tyX10 | unfold tyX11 | unfold tyX12) <;> split <;> rfl
/-! what is made -/
theorem p_wd_push {aC : Nat → ClassId} {ad : Nat → Nat} {Sh : List (Nat × Nat)} {I I' : Nat → Nat → Int32} {J J' : Nat → Nat → Int64} {R R' : Nat → Nat → Option Nat} {ro : List (Nat × Nat × (Nat → Int32))} {x : Nat × Nat} {q : Nat} (hw : p_Wf (Sh, I, J, R, ro)) (hI : ∀ k, k < Sh.length → I' k = I k) (hJ : ∀ k, k < Sh.length → J' k = J k) (hR : ∀ k, k < Sh.length → R' k = R k) :
    p_wd aC (va_up ad Sh.length q) (Sh ++ [x], I', J', R', ro) = p_wd aC ad (Sh, I, J, R, ro) ++ [(q, p_cel aC (va_up ad Sh.length q) (Sh ++ [x], I', J', R', ro) Sh.length)] := by
  have hag : ∀ k, p_ok Sh.length k → va_up ad Sh.length q k = ad k := by
    intro k hk
    refine p_up_n _ _ ?_
    rcases hk with h | h
    · omega
    · have := hw.1
      simp only at this
      omega
  have hrm : ∀ c k, (R c k).map (va_up ad Sh.length q) = (R c k).map ad := by
    intro c k
    cases hr : R c k with
    | none => rfl
    | some r => exact congrArg some (hag r (hw.2.1 c k r hr))
  unfold p_wd
  simp only [List.length_append, List.length_cons, List.length_nil, Nat.zero_add]
  rw [List.range_succ, List.map_append]
  congr 1
  · refine List.map_congr_left (fun k hk => ?_)
    have hk := List.mem_range.mp hk
    rw [hag k (Or.inl hk)]
    congr 1
    unfold p_cel
    simp only [List.getElem?_append_left hk, hI k hk, hJ k hk, hR k hk]
    have hfv : ∀ (ty : FieldType) (j : Nat), p_fv ty (va_up ad Sh.length q) (I k j) (J k j) (R k j) = p_fv ty ad (I k j) (J k j) (R k j) := by
      intro ty j
      unfold p_fv
      split <;> first | rfl | rw [hrm]
    simp only [hfv, hrm]
  · simp only [List.map_cons, List.map_nil, p_up_s]
theorem p_Wf_push {Sh : List (Nat × Nat)} {I I' : Nat → Nat → Int32} {J J' : Nat → Nat → Int64} {R R' : Nat → Nat → Option Nat} {ro : List (Nat × Nat × (Nat → Int32))} {t n : Nat} (hw : p_Wf (Sh, I, J, R, ro)) (hl : Sh.length + 1 < 1000) (hR : ∀ k j r, R' k j = some r → R k j = some r) (hn : n < 2 ^ 31) (ht : t < 100 → ∃ C T, vwCl[t]? = some (C, T, n)) : p_Wf (Sh ++ [(t, n)], I', J', R', ro) := by
  refine ⟨by simpa using hl, fun c k r hr => ?_, fun a t' n' ha => ?_⟩
  · exact p_ok_le (hw.2.1 c k r (hR c k r hr)) (by simp)
  · by_cases h : a < Sh.length
    · rw [List.getElem?_append_left h] at ha
      exact hw.2.2 a t' n' ha
    · rw [List.getElem?_append_right (by omega)] at ha
      cases hh : a - Sh.length with
      | zero => rw [hh] at ha; cases ha; exact ⟨hn, ht⟩
      | succ k => rw [hh] at ha; simp at ha
theorem p_upR {R : Nat → Nat → Option Nat} {n : Nat} : ∀ k j r, va_up R n (fun _ => none) k j = some r → R k j = some r := by
  intro k j r h
  by_cases hk : k = n
  · subst hk; rw [p_up_s] at h; cases h
  · rw [p_up_n _ _ hk] at h; exact h
/-- what goes on behind a making -/
theorem p_made {d mc ms n : Nat} {cd : pm_C} {i : Nat} {ls : List (Option Value)} {st : List Value} {Sh : List (Nat × Nat)} {I : Nat → Nat → Int32} {J : Nat → Nat → Int64} {R : Nat → Nat → Option Nat} {ro : List (Nat × Nat × (Nat → Int32))} {Q : Option Value → pm_M → Prop} {t : Nat} (hl : Sh.length + 1 < 1000) (hn : n < 2 ^ 31) (ht : t < 100 → ∃ C T, vwCl[t]? = some (C, T, n))
    (kk : Px d mc ms cd i ls (.ref Sh.length :: st) (Sh ++ [(t, n)], va_up I Sh.length (fun _ => 0), va_up J Sh.length (fun _ => 0), va_up R Sh.length (fun _ => none), ro) Q) (hok : p_okM cd = true) {p : Program} {l : Launch} {e : Env} {Rm : Room} {s : State} {m : MethodId} {args : Array Value} {below : List Frame} {meth : Method} {c : Code} {D : va_G} {aC : Nat → ClassId} {A : Nat → Prop} {Z : State → Prop} (hC : p_Cx d cd p Rm s m args meth c D aC A) {ad : Nat → Nat} {H H1 : Heap} {locs : List Loc} {cells slots : Nat} {mls : Array Slot} {b' q : Nat} (hH : p_Hx D aC A s ad (Sh, I, J, R, ro) H locs) (hlv : p_lv ad mls (cdL cd) ls) (hw : p_wl Sh.length ls) (hs' : p_ws Sh.length st) (hb1 : (cdE cd)[i]?.map (·.1) = some b') (hc : cells + (1 + mc) ≤ Rm.cells) (hs : slots + (n + ms) ≤ Rm.slots)
    (hK : p_Kx p l e Rm s m args below meth c D aC A Z cd Sh.length ro ad (cells + (1 + mc)) (slots + (n + ms)) Q) {E : va_E}
    (hE : E = p_cel aC (va_up ad Sh.length q) (Sh ++ [(t, n)], va_up I Sh.length (fun _ => 0), va_up J Sh.length (fun _ => 0), va_up R Sh.length (fun _ => none), ro) Sh.length) (hP1 : va_P D vwCl (p_wd aC ad (Sh, I, J, R, ro) ++ [(q, E)]) H1) (hD1 : va_D A (p_wd aC ad (Sh, I, J, R, ro) ++ [(q, E)])) (hS1 : va_S A s.heap H1 locs) : W p l e Rm s m args below meth c H1 locs (cells + 1) (slots + n) Z (F0 m b' mls (.ref q :: st.map (pv ad))) := by
  have hWf := hH.2.2.2.2
  have hag : ∀ k, p_ok Sh.length k → va_up ad Sh.length q k = ad k := by
    intro k hk
    refine p_up_n _ _ ?_
    rcases hk with h | h
    · omega
    · omega
  have hpw := p_wd_push (aC := aC) (ad := ad) (x := (t, n)) (q := q) (I' := va_up I Sh.length (fun _ => 0)) (J' := va_up J Sh.length (fun _ => 0)) (R' := va_up R Sh.length (fun _ => none)) hWf (fun k hk => p_up_n _ _ (by omega)) (fun k hk => p_up_n _ _ (by omega)) (fun k hk => p_up_n _ _ (by omega))
  rw [← hE] at hpw
  have key := kk hok p l e Rm s m args below meth c D aC A Z hC (va_up ad Sh.length q) H1 locs (cells + 1) (slots + n) mls b' ⟨by rw [hpw]; exact hP1, by rw [hpw]; exact hD1, hS1, p_Ro_re hH.2.2.2.1 rfl (fun k hk => hag k (Or.inr hk)), p_Wf_push hWf hl p_upR hn ht⟩
    ⟨p_lv_re hlv hw hag, p_wl_le hw (by simp), p_ws_c (fun r e => by cases e; exact Or.inl (by simp)) (p_ws_le hs' (by simp))⟩ hb1 (by omega) (by omega) (fun r2 S2 ad2 H2 locs2 mls2 b2 q2 h2 n2 ro2 a2 d2 f2 => ?_)
  · rw [List.map_cons, p_st_re hs' hag, pv, p_up_s] at key
    exact key
  · have n2' : Sh.length + 1 ≤ S2.1.length := by simpa using n2
    have := hK r2 S2 ad2 H2 locs2 mls2 b2 q2 h2 (by omega) ro2 (fun k hk => (a2 k (p_ok_le hk (by simp))).trans (hag k hk)) d2 f2
    rw [Nat.add_assoc, Nat.add_assoc]
    exact this
theorem px_new {d mc ms : Nat} {cd : pm_C} {i b : Nat} {con : Int} {ls : List (Option Value)} {st : List Value} {Sh : List (Nat × Nat)} {I : Nat → Nat → Int32} {J : Nat → Nat → Int64} {R : Nat → Nat → Option Nat} {ro : List (Nat × Nat × (Nat → Int32))} {Q : Option Value → pm_M → Prop} {idx ci p1 p2 p3 n : Nat} {C : String} {T : u_T} (h : (cdE cd)[i]? = some (b, 3, .new idx, [ci, p1, p2, p3], con)) (hcl : vwCl[ci]? = some (C, T, n)) (hn31 : n < 2 ^ 31) (hl : Sh.length + 1 < 1000) {m0 : Nat} (em : Sh.length = m0)
    (kk : Px d mc ms cd (i + 1) ls (.ref m0 :: st) (Sh ++ [(ci, n)], va_up I m0 (fun _ => 0), va_up J m0 (fun _ => 0), va_up R m0 (fun _ => none), ro) Q) : Px d (1 + mc) (n + ms) cd i ls st (Sh, I, J, R, ro) Q := by
  subst em
  intro hok p l e Rm s m args below meth c D aC A Z hC ad H locs cells slots mls b' hH hF hb hc hs hK
  obtain ⟨hd, hn, hx⟩ := p_at hok h hb
  obtain ⟨hin, hty0, hnm, hci⟩ := p_cls hcl
  simp only [p_okX, hcl, Bool.and_eq_true] at hx
  refine va_new hC.1.1 hC.1.2.1 hC.1.2.2.2.2 hin (tyC ci) hty0 hC.1.2.2.2.1 (hC.1.2.2.2.2 _ (p_has_in hx.1.1)) (hC.1.2.2.2.2 _ (p_has_in hx.1.2)) (hC.1.2.2.2.2 _ (p_has_in hx.2)) hC.2.2.2.2.2.1 hH.1 hH.2.1 hH.2.2.1 hC.2.2.2.2.2.2.1 hcl (fs := (List.range n).map (fun j => p_fv (tyC ci j) ad 0 0 none)) ?_ (by omega) (by omega) hd (fun q H1 hP1 hD1 hS1 => ?_)
  · intro j hj
    simp only [vp_V, List.getD_eq_getElem?_getD, List.getElem?_map, List.getElem?_range hj, Option.map_some, Option.getD_some]
    have hp := hty0 j hj
    have : p_tyK (tyC ci j) = true := p_tyK_ok ci j
    unfold p_fv
    cases hty : tyC ci j <;> simp_all [p_tyK, defaultValue, va_rf]
  · refine p_made hl hn31 (fun _ => ⟨C, T, hcl⟩) kk hok hC hH hF.1 hF.2.1 hF.2.2 (hn rfl) hc hs hK ?_ hP1 hD1 hS1
    rw [p_cel_o (t := ci) (n := n) (by simp) hci]
    congr 2
    refine List.map_congr_left (fun j _ => ?_)
    simp only [p_up_s]
    unfold p_fv
    split <;> rfl
theorem p_ra {D : va_G} {tys : List (ClassId × FieldType)} {s : State} {cA cB : ClassId} {ty : FieldType} (k : Nat) (hK : va_K D vwCl tys s) (h0 : tys[k]? = some (cB, ty)) (hK2 : va_K D vwCl (tys ++ [(cA, ty)]) s) : cA = cB := by
  have h1 := (hK.2 k _ h0).2
  have h2 := (hK2.2 tys.length (cA, ty) (by simp)).2
  have key : ∀ {cX : ClassId} {t : FieldType}, va_RA s cX t → s.vm.findClass ("[" ++ t.toString) = some cX := by
    intro cX t hra
    cases t with
    | object C => obtain ⟨_, _, _, _, _, h4⟩ := hra; exact h4
    | _ => exact hra
  exact Option.some.inj ((key h2).symm.trans (key h1))
theorem px_newI {d mc ms : Nat} {cd : pm_C} {i b : Nat} {con : Int} {ls : List (Option Value)} {st : List Value} {Sh : List (Nat × Nat)} {I : Nat → Nat → Int32} {J : Nat → Nat → Int64} {R : Nat → Nat → Option Nat} {ro : List (Nat × Nat × (Nat → Int32))} {Q : Option Value → pm_M → Prop} {tag pos n : Nat} {x : Int32} {ty : ArrayType} (h : (cdE cd)[i]? = some (b, 2, .newarray ty, [tag, pos], con)) (ht : tag ≠ 101) (ex : x = nI n) (hn27 : n < 2 ^ 26) (hl : Sh.length + 1 < 1000) {m0 : Nat} (em : Sh.length = m0)
    (kk : Px d mc ms cd (i + 1) ls (.ref m0 :: st) (Sh ++ [(tag, n)], va_up I m0 (fun _ => 0), va_up J m0 (fun _ => 0), va_up R m0 (fun _ => none), ro) Q) : Px d (1 + mc) (n + ms) cd i ls (.int x :: st) (Sh, I, J, R, ro) Q := by
  subst em ex
  intro hok p l e Rm s m args below meth c D aC A Z hC ad H locs cells slots mls b' hH hF hb hc hs hK
  obtain ⟨hd, hn, hx⟩ := p_at hok h hb
  simp only [p_okX, Bool.and_eq_true] at hx
  have hats := hx.2
  simp only [p_ats, decide_eq_true_eq] at hats
  have harr := hC.1.2.2.2.2 _ (p_has_in hx.1)
  rcases hats with ⟨rfl, ety⟩ | ⟨rfl, ety⟩ | ⟨rfl, ety⟩ | ⟨rfl, ety⟩
  · refine va_newa hC.1.1 hC.1.2.1 harr ety hC.2.2.2.2.2.1 hH.1 hH.2.1 hH.2.2.1 hC.2.2.2.2.2.2.1 (a0 := (n, .inl (fun _ => 0))) (fun cA => rfl) (nI_pos (by omega)) (nI_clamp (by omega)) (by simp [componentBytes]; omega) (by omega) (by omega) hd (fun q cA H1 hK2 hP1 hD1 hS1 => ?_)
    have := p_ra 0 hC.2.2.2.2.2.1 rfl hK2
    subst this
    refine p_made hl (by omega) (fun q => absurd q (by decide)) kk hok hC hH hF.1 hF.2.1 (p_ws_t hF.2.2) (hn rfl) hc hs hK ?_ hP1 hD1 hS1
    rw [p_cel_i (t := 100) (n := n) (by simp) (by decide) (by decide) (by decide)]
    simp only [p_up_s]
  · exact absurd rfl ht
  · refine va_newa hC.1.1 hC.1.2.1 harr ety hC.2.2.2.2.2.1 hH.1 hH.2.1 hH.2.2.1 hC.2.2.2.2.2.2.1 (a0 := (n, .inl (fun _ => 0))) (fun cA => rfl) (nI_pos (by omega)) (nI_clamp (by omega)) (by simp [componentBytes]; omega) (by omega) (by omega) hd (fun q cA H1 hK2 hP1 hD1 hS1 => ?_)
    have := p_ra 2 hC.2.2.2.2.2.1 rfl hK2
    subst this
    refine p_made hl (by omega) (fun q => absurd q (by decide)) kk hok hC hH hF.1 hF.2.1 (p_ws_t hF.2.2) (hn rfl) hc hs hK ?_ hP1 hD1 hS1
    rw [p_cel_i (t := 102) (n := n) (by simp) (by decide) (by decide) (by decide)]
    simp only [p_up_s]
  · refine va_newa hC.1.1 hC.1.2.1 harr ety hC.2.2.2.2.2.1 hH.1 hH.2.1 hH.2.2.1 hC.2.2.2.2.2.2.1 (a0 := (n, .inl (fun _ => 0))) (fun cA => rfl) (nI_pos (by omega)) (nI_clamp (by omega)) (by simp [componentBytes]; omega) (by omega) (by omega) hd (fun q cA H1 hK2 hP1 hD1 hS1 => ?_)
    have := p_ra 3 hC.2.2.2.2.2.1 rfl hK2
    subst this
    refine p_made hl (by omega) (fun q => absurd q (by decide)) kk hok hC hH hF.1 hF.2.1 (p_ws_t hF.2.2) (hn rfl) hc hs hK ?_ hP1 hD1 hS1
    rw [p_cel_i (t := 103) (n := n) (by simp) (by decide) (by decide) (by decide)]
    simp only [p_up_s]
theorem px_newL {d mc ms : Nat} {cd : pm_C} {i b : Nat} {con : Int} {ls : List (Option Value)} {st : List Value} {Sh : List (Nat × Nat)} {I : Nat → Nat → Int32} {J : Nat → Nat → Int64} {R : Nat → Nat → Option Nat} {ro : List (Nat × Nat × (Nat → Int32))} {Q : Option Value → pm_M → Prop} {pos n : Nat} {x : Int32} {ty : ArrayType} (h : (cdE cd)[i]? = some (b, 2, .newarray ty, [101, pos], con)) (ex : x = nI n) (hn27 : n < 2 ^ 26) (hl : Sh.length + 1 < 1000) {m0 : Nat} (em : Sh.length = m0)
    (kk : Px d mc ms cd (i + 1) ls (.ref m0 :: st) (Sh ++ [(101, n)], va_up I m0 (fun _ => 0), va_up J m0 (fun _ => 0), va_up R m0 (fun _ => none), ro) Q) : Px d (1 + mc) (n + ms) cd i ls (.int x :: st) (Sh, I, J, R, ro) Q := by
  subst em ex
  intro hok p l e Rm s m args below meth c D aC A Z hC ad H locs cells slots mls b' hH hF hb hc hs hK
  obtain ⟨hd, hn, hx⟩ := p_at hok h hb
  simp only [p_okX, Bool.and_eq_true] at hx
  have hats := hx.2
  simp only [p_ats, decide_eq_true_eq] at hats
  have harr := hC.1.2.2.2.2 _ (p_has_in hx.1)
  have ety : newarray.typeOf ty = .long := by
    rcases hats with ⟨h, _⟩ | ⟨_, e⟩ | ⟨h, _⟩ | ⟨h, _⟩
    · cases h
    · exact e
    · cases h
    · cases h
  refine va_newa hC.1.1 hC.1.2.1 harr ety hC.2.2.2.2.2.1 hH.1 hH.2.1 hH.2.2.1 hC.2.2.2.2.2.2.1 (a0 := (n, .inr (.inl (fun _ => 0)))) (fun cA => rfl) (nI_pos (by omega)) (nI_clamp (by omega)) (by simp [componentBytes]; omega) (by omega) (by omega) hd (fun q cA H1 hK2 hP1 hD1 hS1 => ?_)
  have := p_ra 1 hC.2.2.2.2.2.1 rfl hK2
  subst this
  refine p_made hl (by omega) (fun q => absurd q (by decide)) kk hok hC hH hF.1 hF.2.1 (p_ws_t hF.2.2) (hn rfl) hc hs hK ?_ hP1 hD1 hS1
  rw [p_cel_l (n := n) (by simp)]
  simp only [p_up_s]
theorem px_newQ {d mc ms : Nat} {cd : pm_C} {i b : Nat} {con : Int} {ls : List (Option Value)} {st : List Value} {Sh : List (Nat × Nat)} {I : Nat → Nat → Int32} {J : Nat → Nat → Int64} {R : Nat → Nat → Option Nat} {ro : List (Nat × Nat × (Nat → Int32))} {Q : Option Value → pm_M → Prop} {idx pos n : Nat} {x : Int32} (h : (cdE cd)[i]? = some (b, 3, .anewarray idx, [pos], con)) (ex : x = nI n) (hn27 : n < 2 ^ 26) (hl : Sh.length + 1 < 1000) {m0 : Nat} (em : Sh.length = m0)
    (kk : Px d mc ms cd (i + 1) ls (.ref m0 :: st) (Sh ++ [(104, n)], va_up I m0 (fun _ => 0), va_up J m0 (fun _ => 0), va_up R m0 (fun _ => none), ro) Q) : Px d (1 + mc) (n + ms) cd i ls (.int x :: st) (Sh, I, J, R, ro) Q := by
  subst em ex
  intro hok p l e Rm s m args below meth c D aC A Z hC ad H locs cells slots mls b' hH hF hb hc hs hK
  obtain ⟨hd, hn, hx⟩ := p_at hok h hb
  simp only [p_okX] at hx
  refine va_newq hC.1.1 hC.1.2.1 hC.1.2.2.2.1 (hC.1.2.2.2.2 _ (p_has_in hx)) hC.2.2.2.2.2.2.2.2.2.2 hC.2.2.2.2.2.1 hH.1 hH.2.1 hH.2.2.1 hC.2.2.2.2.2.2.1 (nI_pos (by omega)) (nI_clamp (by omega)) (by omega) (by omega) (by omega) hd (fun q cA H1 hK2 hP1 hD1 hS1 => ?_)
  have := p_ra 4 hC.2.2.2.2.2.1 rfl hK2
  subst this
  refine p_made hl (by omega) (fun q => absurd q (by decide)) kk hok hC hH hF.1 hF.2.1 (p_ws_t hF.2.2) (hn rfl) hc hs hK ?_ hP1 hD1 hS1
  rw [p_cel_q (n := n) (by simp)]
  simp only [p_up_s, Option.map_none]
theorem px_aast {d mc ms : Nat} {cd : pm_C} {i b : Nat} {xs : List Nat} {con : Int} {ls : List (Option Value)} {st : List Value} {Sh : List (Nat × Nat)} {I : Nat → Nat → Int32} {J : Nat → Nat → Int64} {R : Nat → Nat → Option Nat} {ro : List (Nat × Nat × (Nat → Int32))} {Q : Option Value → pm_M → Prop} {a n j v nv : Nat} {x : Int32} (h : (cdE cd)[i]? = some (b, 1, .aastore, xs, con)) (hS : Sh[a]? = some (104, n)) (hV : Sh[v]? = some (7, nv)) (hj : x = nI j) (hjn : j < n) (kk : Px d mc ms cd (i + 1) ls st (Sh, I, J, va_up R a (va_up (R a) j (some v)), ro) Q) : Px d mc ms cd i ls (.ref v :: .int x :: .ref a :: st) (Sh, I, J, R, ro) Q := by
  intro hok p l e Rm s m args below meth c D aC A Z hC ad H locs cells slots mls b' hH hF hb hc hs hK
  obtain ⟨hd, hn, hx⟩ := p_at hok h hb
  have hlt := p_lt hS
  have hn31 := (hH.2.2.2.2.2.2 a _ n hS).1
  obtain ⟨-, hob⟩ := hH.2.2.2.2.2.2 v _ nv hV
  obtain ⟨C', T', hcl⟩ := hob (by decide)
  subst hj
  have hin : vp_in (nI j) n := vp_in_nI hjn hn31
  have hcc : (nI j).toNatClampNeg = j := nI_clamp (Nat.lt_trans hjn hn31)
  have hC' : C' = "SwitchboardHeart$Shelf" := by
    have : vwCl[7]?.map (·.1) = some "SwitchboardHeart$Shelf" := by decide
    rw [hcl] at this
    exact Option.some.inj this
  subst hC'
  refine va_astq hC.1.1 hC.1.2.1 hC.2.2.2.2.2.1 hH.1 hH.2.1 hH.2.2.1 a 4 v 7 (by rw [p_wd_at hlt, p_cel_q hS]) rfl (by rw [p_wd_at (p_lt hV), p_cel_o hV (by decide)]) hcl hin hd (fun H1 locs1 hP1 hD1 hS1 => ?_)
  rw [hcc] at hP1 hD1
  have hee : va_up (fun i => (R a i).map ad) j (some (ad v)) = fun i => (va_up (R a) j (some v) i).map ad := by
    funext k
    by_cases hk : k = j
    · subst hk; simp [va_up]
    · simp [va_up, hk]
  have e1 := p_set_arr (aC := aC) (ad := ad) (S := (Sh, I, J, R, ro)) (S' := (Sh, I, J, va_up R a (va_up (R a) j (some v)), ro)) (a := a) rfl (e := .inl (aC 4, n, .inr (.inr (.inr (.inr (va_up (fun i => (R a i).map ad) j (some (ad v)))))))) (by rw [p_cel_q (S := (Sh, I, J, va_up R a (va_up (R a) j (some v)), ro)) hS]; simp only [p_up_s]; rw [hee]) (fun q hq => ⟨rfl, rfl, by simp [va_up, hq]⟩)
  first | rw [e1] at hP1 hD1 | (erw [e1] at hP1 hD1)
  exact kk hok p l e Rm s m args below meth c D aC A Z hC ad H1 locs1 cells slots mls _ ⟨hP1, hD1, hS1, hH.2.2.2.1, ⟨hH.2.2.2.2.1, p_Wf_up hH.2.2.2.2.2.1 (fun q e => by cases e; exact Or.inl (p_lt hV)), hH.2.2.2.2.2.2⟩⟩ ⟨hF.1, hF.2.1, p_ws_t (p_ws_t (p_ws_t hF.2.2))⟩ (hn rfl) hc hs hK
