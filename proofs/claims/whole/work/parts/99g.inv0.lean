/-! the invariant, when both are made -/
set_option maxRecDepth 100000 in
theorem iI_66 : iI 66 = fun _ => 0 := rfl
set_option maxRecDepth 100000 in
theorem iI_2 : iI 2 = fun _ => 0 := rfl
set_option maxRecDepth 100000 in
theorem iI_67 : iI 67 = fun _ => 0 := rfl
set_option maxRecDepth 100000 in
theorem iI_3 : iI 3 = fun _ => 0 := rfl
set_option maxRecDepth 100000 in
theorem iI_68 : iI 68 = fun _ => 0 := rfl
set_option maxRecDepth 100000 in
theorem iI_4 : iI 4 = fun _ => 0 := rfl
set_option maxRecDepth 100000 in
theorem iI_69 : iI 69 = fun _ => 0 := rfl
set_option maxRecDepth 100000 in
theorem iI_5 : iI 5 = fun _ => 0 := rfl
set_option maxRecDepth 100000 in
theorem iI_96 : iI 96 = fun _ => 0 := rfl
set_option maxRecDepth 100000 in
theorem iI_50 : iI 50 = fun _ => 0 := rfl
set_option maxRecDepth 100000 in
theorem iI_97 : iI 97 = fun _ => 0 := rfl
set_option maxRecDepth 100000 in
theorem iI_51 : iI 51 = fun _ => 0 := rfl
set_option maxRecDepth 100000 in
theorem iJ_s : ∀ s, s < 6 → iJ (54 + 2 * s) = fun _ => 0 := fun s hs => by
  rcases (by omega : s = 0 ∨ s = 1 ∨ s = 2 ∨ s = 3 ∨ s = 4 ∨ s = 5) with rfl | rfl | rfl | rfl | rfl | rfl <;> rfl
set_option maxRecDepth 100000 in
theorem iJ_100 : iJ 100 = fun _ => 0 := rfl
theorem iR_g : ∀ a, a < 102 → ∀ j, j < (gS[a]?.getD (0, 0)).2 → iR a j = gR (false, none) a j := by decide +kernel
theorem gRt_ok : ∀ l ∈ gRt, ∀ x ∈ l, x.all (fun r => decide (r < 102)) = true := by decide +kernel
theorem gRo_lt {c k r : Nat} (h : gRo c k = some r) : r < 102 := by
  unfold gRo at h
  rcases e : gRt[c]? with _ | l
  · rw [e] at h
    simp at h
  · rw [e] at h
    rcases e2 : l[k]? with _ | x
    · simp [e2] at h
    · simp only [Option.getD_some, e2] at h
      have z := gRt_ok l (List.mem_of_getElem? e) x (List.mem_of_getElem? e2)
      rw [h] at z
      simpa using z
theorem gR0_lt {c k r : Nat} (h : gR (false, none) c k = some r) : r < 102 := by
  unfold gR at h
  split at h
  · cases h; decide
  · split at h
    · cases h; decide
    · split at h
      · cases h
      · exact gRo_lt h
theorem p_cel_garbR {aC : Nat → ClassId} {ad : Nat → Nat} {Sh : List (Nat × Nat)} {I : Nat → Nat → Int32} {J : Nat → Nat → Int64} {R R' : Nat → Nat → Option Nat} {ro : List (Nat × Nat × (Nat → Int32))} (h : ∀ a t n, Sh[a]? = some (t, n) → ∀ j, j < n → R' a j = R a j) {D : va_G} {cl : List vw_C} {H : Heap} {q k : Nat} (hn4 : ∀ n, Sh[k]? = some (104, n) → R' k = R k) (hk : va_at D cl (q, p_cel aC ad (Sh, I, J, R, ro) k) H) : va_at D cl (q, p_cel aC ad (Sh, I, J, R', ro) k) H := by
  rcases e : Sh[k]? with _ | ⟨t, n⟩
  · have h1 : p_cel aC ad (Sh, I, J, R', ro) k = p_cel aC ad (Sh, I, J, R, ro) k := by simp only [p_cel, e]
    rw [h1]; exact hk
  · have hj := h k t n e
    by_cases ht : t < 100
    · rw [p_cel_o (S := (Sh, I, J, R', ro)) e ht]
      rw [p_cel_o (S := (Sh, I, J, R, ro)) e ht] at hk
      have h1 : (List.range n).map (fun j => p_fv (tyC t j) ad (I k j) (J k j) (R' k j)) = (List.range n).map (fun j => p_fv (tyC t j) ad (I k j) (J k j) (R k j)) := List.map_congr_left (fun j hm => by rw [hj j (List.mem_range.mp hm)])
      show va_at D cl (q, .inr (t, (List.range n).map (fun j => p_fv (tyC t j) ad (I k j) (J k j) (R' k j)))) H
      rw [h1]; exact hk
    · by_cases h1 : t = 101
      · subst h1
        rw [p_cel_l (S := (Sh, I, J, R', ro)) e]
        rw [p_cel_l (S := (Sh, I, J, R, ro)) e] at hk
        exact hk
      · by_cases h4 : t = 104
        · subst h4
          rw [p_cel_q (S := (Sh, I, J, R', ro)) e]
          rw [p_cel_q (S := (Sh, I, J, R, ro)) e] at hk
          show va_at D cl (q, .inl (aC 4, n, .inr (.inr (.inr (.inr (fun i => (R' k i).map ad)))))) H
          rw [hn4 n e]; exact hk
        · rw [p_cel_i (S := (Sh, I, J, R', ro)) e (by omega) h1 h4]
          rw [p_cel_i (S := (Sh, I, J, R, ro)) e (by omega) h1 h4] at hk
          exact hk
theorem px_garbR {d mc ms : Nat} {cd : pm_C} {i : Nat} {ls : List (Option Value)} {st : List Value} {Sh : List (Nat × Nat)} {I : Nat → Nat → Int32} {J : Nat → Nat → Int64} {R R' : Nat → Nat → Option Nat} {ro : List (Nat × Nat × (Nat → Int32))} {Q : Option Value → pm_M → Prop} (h : ∀ a t n, Sh[a]? = some (t, n) → ∀ j, j < n → R' a j = R a j) (hn4 : ∀ k n, Sh[k]? = some (104, n) → R' k = R k) (hlt : ∀ c k r, R' c k = some r → p_ok Sh.length r) (kk : Px d mc ms cd i ls st (Sh, I, J, R', ro) Q) : Px d mc ms cd i ls st (Sh, I, J, R, ro) Q := by
  intro hok p l e Rm s m args below meth c D aC A Z hC ad H locs cells slots mls b hH hF hb hc hs hK
  refine kk hok p l e Rm s m args below meth c D aC A Z hC ad H locs cells slots mls b ⟨?_, ?_, hH.2.2.1, hH.2.2.2.1, hH.2.2.2.2.1, hlt, hH.2.2.2.2.2.2⟩ hF hb hc hs hK
  · intro k q hq
    have hlt : k < Sh.length := by
      have := (List.getElem?_eq_some_iff.mp hq).1
      rwa [p_wd_len] at this
    rw [p_wd_at (S := (Sh, I, J, R', ro)) hlt] at hq
    cases hq
    exact p_cel_garbR h (fun n => hn4 k n) (hH.1 k _ (p_wd_at (S := (Sh, I, J, R, ro)) hlt))
  · refine ⟨fun i j x y hx hy e => ?_, fun k q hq => ?_⟩
    · have h1 : i < Sh.length := by have := (List.getElem?_eq_some_iff.mp hx).1; rwa [p_wd_len] at this
      have h2 : j < Sh.length := by have := (List.getElem?_eq_some_iff.mp hy).1; rwa [p_wd_len] at this
      rw [p_wd_at (S := (Sh, I, J, R', ro)) h1] at hx
      rw [p_wd_at (S := (Sh, I, J, R', ro)) h2] at hy
      cases hx
      cases hy
      exact hH.2.1.1 i j _ _ (p_wd_at (S := (Sh, I, J, R, ro)) h1) (p_wd_at (S := (Sh, I, J, R, ro)) h2) e
    · have h1 : k < Sh.length := by have := (List.getElem?_eq_some_iff.mp hq).1; rwa [p_wd_len] at this
      rw [p_wd_at (S := (Sh, I, J, R', ro)) h1] at hq
      cases hq
      exact hH.2.1.2 k (ad k, p_cel aC ad (Sh, I, J, R, ro) k) (p_wd_at (S := (Sh, I, J, R, ro)) h1)
theorem gS_104 : ∀ k, k < 102 → (gS[k]?.getD (0, 0)).1 = 104 → k = 52 := by decide +kernel
set_option maxRecDepth 100000 in
theorem iR_52 : ∀ j, j < 6 → iR 52 j = gR (false, none) 52 j := by decide +kernel
theorem Inv_0 : Inv [] 0 0 iI iJ (false, none) := ⟨
  ⟨(by decide +kernel), (by decide +kernel), trivial, fun q hq => by cases hq⟩,
  ⟨(by decide +kernel), (by decide +kernel), (by decide +kernel), (by decide +kernel), trivial, fun q hq => by cases hq⟩,
  (by decide +kernel),
  (by decide +kernel),
  (by decide +kernel),
  iI_66.trans iI_2.symm,
  iI_67.trans iI_3.symm,
  iI_68.trans iI_4.symm,
  iI_69.trans iI_5.symm,
  (by decide +kernel),
  (by decide +kernel),
  fun l hl => absurd hl (Nat.not_lt_zero _),
  ⟨2, (by decide +kernel), (by decide +kernel)⟩,
  fun a b _ _ => by rw [iI_5]; exact (by decide +kernel : -9 ≤ (0 : Int32).toInt ∧ (0 : Int32).toInt ≤ 9),
  fun w a b ho => by
    have hw := ho.1
    have z1 := ho.2.1
    have z2 := ho.2.2
    rcases (by omega : w = 0 ∨ w = 1 ∨ w = 2 ∨ w = 3 ∨ w = 4 ∨ w = 5) with rfl | rfl | rfl | rfl | rfl | rfl
    · exact absurd (z1 (by decide)) (Nat.not_lt_zero _)
    · exact absurd (z1 (by decide)) (Nat.not_lt_zero _)
    · exact absurd (z1 (by decide)) (Nat.not_lt_zero _)
    · exact absurd (z2 rfl).1 (Nat.not_lt_zero _)
    · exact (by decide +kernel : 0 ≤ (iI 1 5).toInt ∧ (iI 1 5).toInt ≤ 4)
    · exact (by decide +kernel : 0 ≤ (iI 1 6).toInt ∧ (iI 1 6).toInt ≤ 9),
  fun l hl => absurd hl (Nat.not_lt_zero _),
  fun l hl => absurd hl (Nat.not_lt_zero _),
  fun l _ h2 => (by decide +kernel : ∀ l, l < 8 → iI 36 l = -1 ∧ iI 37 l = nI 0) l h2,
  (by decide +kernel),
  (by decide +kernel),
  .inl ⟨(by decide +kernel), (by decide +kernel)⟩,
  ⟨0, 0, (by decide +kernel), (by decide +kernel), (by decide +kernel), (by decide +kernel), (by decide +kernel), fun k hk => absurd hk (Nat.not_lt_zero _)⟩,
  ⟨fun _ => 256, 0, ⟨Nat.zero_le _, fun j hj => absurd hj (Nat.not_lt_zero _), fun _ _ => rfl⟩, ⟨(by decide +kernel), fun j hj => absurd hj (Nat.not_lt_zero _)⟩, ⟨(by decide +kernel), fun j hj => absurd hj (Nat.not_lt_zero _)⟩⟩,
  (by decide +kernel),
  (by decide +kernel),
  (by decide +kernel),
  iI_96.trans iI_50.symm,
  fun b hb => absurd hb (Nat.not_lt_zero _),
  ⟨0, (by decide +kernel), (by decide +kernel), (by decide +kernel)⟩,
  iI_97.trans iI_51.symm,
  fun s hs => ⟨.inl ((by decide +kernel : ∀ s, s < 6 → iI (53 + 2 * s) 1 = nI 0 ∧ iI 98 s = -1) s hs), ⟨0, (by decide +kernel), (by decide +kernel : ∀ s, s < 6 → iI (53 + 2 * s) 4 = nI 0) s hs⟩, ⟨0, (by decide +kernel), (by decide +kernel : ∀ s, s < 6 → iI 99 s = nI 0) s hs⟩⟩,
  fun s hs j => by rw [iJ_s s hs, iJ_100]⟩
theorem iR_52b {j : Nat} (h : 6 ≤ j) : iR 52 j = gR (false, none) 52 j := by
  have e1 : gR (false, none) 52 j = none := by
    unfold gR
    rw [if_neg (by omega), if_neg (by omega), if_neg (by omega)]
    show (([some 53, some 55, some 57, some 59, some 61, some 63] : List (Option Nat))[j]?).getD none = none
    rw [List.getElem?_eq_none (by simpa using h)]
    rfl
  rw [e1]
  have e2 : iR 52 = se2 (se2 (se2 (se2 (se2 (se2 (fun (_ : Nat) (_ : Nat) => (none : Option Nat)) 52 0 (some 53)) 52 1 (some 55)) 52 2 (some 57)) 52 3 (some 59)) 52 4 (some 61)) 52 5 (some 63) 52 := rfl
  rw [e2]
  simp only [se2, p_up_s]
  rw [p_up_n _ _ (by omega), p_up_n _ _ (by omega), p_up_n _ _ (by omega), p_up_n _ _ (by omega), p_up_n _ _ (by omega), p_up_n _ _ (by omega)]
theorem law_0 {ro : List (Nat × Nat × (Nat → Int32))} {L : Nat} {xs : Nat → Int32} (hL : L ≤ 3072) (hscr : (1002, L, xs) ∈ ro) (hro : RO ro) : Px 61 102 3742 CL_law 0 [some (.ref 1002), none, none, none] [] (gS.take 0, fun _ _ => 0, fun _ _ => 0, fun _ _ => none, ro) LQ := by
  refine law_mk ?_
  rw [show gS.take 102 = gS from by decide +kernel]
  refine px_garbR (R' := gR (false, none)) (fun a t n h j hj => ?_) (fun k n h => ?_) (fun c k r h => .inl (gR0_lt h)) (law_10 hL hscr hro 3072 0 (by omega) (by omega) _ _ _ _ _ _ Inv_0)
  · have ha : a < 102 := p_lt h
    exact (iR_g a ha j (by rw [h]; exact hj)).symm
  · have hk : k < 102 := p_lt h
    obtain rfl := gS_104 k hk (by rw [h]; rfl)
    funext j
    by_cases q : j < 6
    · exact (iR_52 j q).symm
    · exact (iR_52b (by omega)).symm
