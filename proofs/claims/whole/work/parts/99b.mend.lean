/-! mend, undo, redo -/
theorem ite_cg {P P2 : Prop} [Decidable P] [Decidable P2] {a b c d : Int32} (h : P ↔ P2) (e1 : a = c) (e2 : b = d) : (if P then a else b) = if P2 then c else d := by
  subst e1
  subst e2
  by_cases q : P
  · rw [if_pos q, if_pos (h.mp q)]
  · rw [if_neg q, if_neg (fun z => q (h.mpr z))]
theorem sl_if0 {n w a b : Nat} (ho : okN n w a b) {j : Nat} : (66 = (slR w a b).1 ∧ j = (slR w a b).2) ↔ (2 = (sl w a b).1 ∧ j = (sl w a b).2) := by
  have hw := ho.1
  rcases (by omega : w = 0 ∨ w = 1 ∨ w = 2 ∨ w = 3 ∨ w = 4 ∨ w = 5) with rfl | rfl | rfl | rfl | rfl | rfl <;> simp [sl, slR]
theorem sl_if1 {n w a b : Nat} (ho : okN n w a b) {j : Nat} : (67 = (slR w a b).1 ∧ j = (slR w a b).2) ↔ (3 = (sl w a b).1 ∧ j = (sl w a b).2) := by
  have hw := ho.1
  rcases (by omega : w = 0 ∨ w = 1 ∨ w = 2 ∨ w = 3 ∨ w = 4 ∨ w = 5) with rfl | rfl | rfl | rfl | rfl | rfl <;> simp [sl, slR]
theorem sl_if2 {n w a b : Nat} (ho : okN n w a b) {j : Nat} : (68 = (slR w a b).1 ∧ j = (slR w a b).2) ↔ (4 = (sl w a b).1 ∧ j = (sl w a b).2) := by
  have hw := ho.1
  rcases (by omega : w = 0 ∨ w = 1 ∨ w = 2 ∨ w = 3 ∨ w = 4 ∨ w = 5) with rfl | rfl | rfl | rfl | rfl | rfl <;> simp [sl, slR]
theorem sl_if3 {n w a b : Nat} (ho : okN n w a b) {j : Nat} : (69 = (slR w a b).1 ∧ j = (slR w a b).2) ↔ (5 = (sl w a b).1 ∧ j = (sl w a b).2) := by
  have hw := ho.1
  rcases (by omega : w = 0 ∨ w = 1 ∨ w = 2 ∨ w = 3 ∨ w = 4 ∨ w = 5) with rfl | rfl | rfl | rfl | rfl | rfl <;> simp [sl, slR]
theorem sl_if4 {n w a b : Nat} (ho : okN n w a b) : (65 = (slR w a b).1 ∧ 6 = (slR w a b).2) ↔ (1 = (sl w a b).1 ∧ 5 = (sl w a b).2) := by
  have hw := ho.1
  rcases (by omega : w = 0 ∨ w = 1 ∨ w = 2 ∨ w = 3 ∨ w = 4 ∨ w = 5) with rfl | rfl | rfl | rfl | rfl | rfl <;> simp [sl, slR]
theorem sl_if5 {n w a b : Nat} (ho : okN n w a b) : (65 = (slR w a b).1 ∧ 7 = (slR w a b).2) ↔ (1 = (sl w a b).1 ∧ 6 = (sl w a b).2) := by
  have hw := ho.1
  rcases (by omega : w = 0 ∨ w = 1 ∨ w = 2 ∨ w = 3 ∨ w = 4 ∨ w = 5) with rfl | rfl | rfl | rfl | rfl | rfl <;> simp [sl, slR]
theorem sl_14 {n w a b : Nat} (ho : okN n w a b) : ¬ (1 = (sl w a b).1 ∧ 4 = (sl w a b).2) := by
  have hw := ho.1
  rcases (by omega : w = 0 ∨ w = 1 ∨ w = 2 ∨ w = 3 ∨ w = 4 ∨ w = 5) with rfl | rfl | rfl | rfl | rfl | rfl <;> simp [sl]
theorem sl_w {n w a b w2 a2 b2 : Nat} (ho : okN n w a b) (ho2 : okN n w2 a2 b2) (e : (sl w2 a2 b2).1 = (sl w a b).1 ∧ (sl w2 a2 b2).2 = (sl w a b).2) : w2 = w := by
  have hw := ho.1
  have hw2 := ho2.1
  rcases (by omega : w = 0 ∨ w = 1 ∨ w = 2 ∨ w = 3 ∨ w = 4 ∨ w = 5) with rfl | rfl | rfl | rfl | rfl | rfl <;> rcases (by omega : w2 = 0 ∨ w2 = 1 ∨ w2 = 2 ∨ w2 = 3 ∨ w2 = 4 ∨ w2 = 5) with rfl | rfl | rfl | rfl | rfl | rfl <;> first | rfl | (simp [sl] at e)
theorem may_n {m : Nat} {v : Int32} (h : 0 ≤ v.toInt ∧ v.toInt ≤ m) : ∃ q, q < m + 1 ∧ v = nI q := by
  obtain ⟨a, ha, e⟩ := n_of (x := v) (by rw [i_le, i_0]; exact h.1)
  refine ⟨a, ?_, e⟩
  have h2 := h.2
  rw [e, nI_toInt ha] at h2
  omega
theorem slR_lo {n w a b : Nat} (ho : okN n w a b) : 65 ≤ (slR w a b).1 ∧ (slR w a b).1 ≤ 69 := by
  have hw := ho.1
  rcases (by omega : w = 0 ∨ w = 1 ∨ w = 2 ∨ w = 3 ∨ w = 4 ∨ w = 5) with rfl | rfl | rfl | rfl | rfl | rfl <;> simp [slR]
theorem sl_lo {n w a b : Nat} (ho : okN n w a b) : 1 ≤ (sl w a b).1 ∧ (sl w a b).1 ≤ 5 := by
  have hw := ho.1
  rcases (by omega : w = 0 ∨ w = 1 ∨ w = 2 ∨ w = 3 ∨ w = 4 ∨ w = 5) with rfl | rfl | rfl | rfl | rfl | rfl <;> simp [sl]
theorem Inv_num {tx : List Ln} {n nb : Nat} {I I1 : Nat → Nat → Int32} {J : Nat → Nat → Int64} {p : Bool × Option Nat} {w a b : Nat} {v : Int32} (h : Inv tx n nb I J p) (ho : okN n w a b) (hv : sp_may w v) (e : ∀ c, c ∉ ([1, 2, 3, 4, 5, 65, 66, 67, 68, 69, 44, 45, 46, 47, 48, 72, 73, 74, 75] : List Nat) → I1 c = I c) (eN : ∀ c j, c ∈ [1, 2, 3, 4, 5] → I1 c j = if c = (sl w a b).1 ∧ j = (sl w a b).2 then v else I c j) (eR : ∀ c j, c ∈ [66, 67, 68, 69] → I1 c j = if c = (slR w a b).1 ∧ j = (slR w a b).2 then v else I c j) (e65 : ∀ j, j ≠ 10 → j ≠ 11 → I1 65 j = if 65 = (slR w a b).1 ∧ j = (slR w a b).2 then v else I 65 j) (hchg : ∃ dn un, dn + un ≤ 40 ∧ I1 44 5 = nI dn ∧ I1 44 6 = nI (dn + un) ∧ I1 65 10 = nI dn ∧ I1 65 11 = nI un ∧ ∀ k, k < dn + un → CHG n I1 k) : Inv tx n nb I1 J p := by
  have h65 : ∀ k, k ≠ 6 → k ≠ 7 → k ≠ 10 → k ≠ 11 → I1 65 k = I 65 k := fun k h6 h7 h10 h11 => by
    rw [e65 k h10 h11, if_neg (fun z => by
      rcases slR_f ho z.1.symm with q | q
      · exact h6 (z.2.trans q)
      · exact h7 (z.2.trans q))]
  have hmy : ∀ w2 a2 b2, okN n w2 a2 b2 → sp_may w2 (I1 (sl w2 a2 b2).1 (sl w2 a2 b2).2) := fun w2 a2 b2 ho2 => by
    rw [eN _ _ (by rcases sl_in ho2 with q | q | q | q | q <;> rw [q] <;> decide)]
    split
    · rename_i q
      rw [sl_w ho ho2 q]; exact hv
    · exact h.mays w2 a2 b2 ho2
  exact ⟨
  LawC_mv h.lawC (fun k hk => by rw [e 6 (by decide)]) (e 9 (by decide)) (e 10 (by decide)),
  LawR_mv h.lawR (h65 29 (by decide) (by decide) (by decide) (by decide)) (fun c hc => e c (by revert hc; revert c; decide)),
  by rw [eN 1 4 (by decide), if_neg (sl_14 ho)]; exact h.cn,
  by rw [h65 1 (by decide) (by decide) (by decide) (by decide)]; exact h.rn,
  h.n8,
  funext fun j => by rw [eR 66 j (by decide), eN 2 j (by decide)]; exact ite_cg (sl_if0 ho) rfl (congrFun h.warm j),
  funext fun j => by rw [eR 67 j (by decide), eN 3 j (by decide)]; exact ite_cg (sl_if1 ho) rfl (congrFun h.need j),
  funext fun j => by rw [eR 68 j (by decide), eN 4 j (by decide)]; exact ite_cg (sl_if2 ho) rfl (congrFun h.part j),
  funext fun j => by rw [eR 69 j (by decide), eN 5 j (by decide)]; exact ite_cg (sl_if3 ho) rfl (congrFun h.like j),
  by rw [e65 6 (by decide) (by decide), eN 1 5 (by decide)]; exact ite_cg (sl_if4 ho) rfl h.cord,
  by rw [e65 7 (by decide) (by decide), eN 1 6 (by decide)]; exact ite_cg (sl_if5 ho) rfl h.cold,
  fun l hl => may_n (m := 3) (hmy 2 l 0 ⟨by decide, fun _ => hl, fun z => absurd z (by decide)⟩),
  (match may_n (m := 4) (hmy 4 0 0 ⟨by decide, fun z => absurd z (by decide), fun z => absurd z (by decide)⟩) with | ⟨q, hq, e⟩ => ⟨q, by omega, e⟩),
  fun c d hc hd => by
    rw [eN 5 _ (by decide)]
    split
    · rename_i q
      have hw := ho.1
      rcases (by omega : w = 0 ∨ w = 1 ∨ w = 2 ∨ w = 3 ∨ w = 4 ∨ w = 5) with rfl | rfl | rfl | rfl | rfl | rfl
      · exact absurd q.1 (by decide : ¬ (5 = 2))
      · exact absurd q.1 (by decide : ¬ (5 = 3))
      · exact absurd q.1 (by decide : ¬ (5 = 4))
      · exact hv
      · exact absurd q.1 (by decide : ¬ (5 = 1))
      · exact absurd q.1 (by decide : ¬ (5 = 1))
    · exact h.lk c d hc hd,
  hmy,
  by rw [e 36 (by decide)]; exact h.mt,
  by rw [e 36 (by decide), e 70 (by decide), e 37 (by decide), e 71 (by decide)]; exact h.to1,
  by rw [e 36 (by decide), e 37 (by decide)]; exact h.to2,
  by rw [e 35 (by decide), e 70 (by decide)]; exact h.many,
  by rw [e 38 (by decide), e 91 (by decide)]; exact h.led,
  by rw [e 34 (by decide), h65 49 (by decide) (by decide) (by decide) (by decide), h65 50 (by decide) (by decide) (by decide) (by decide), e 43 (by decide), e 92 (by decide), e 40 (by decide), e 93 (by decide), e 41 (by decide), e 94 (by decide), e 42 (by decide), e 95 (by decide), e 39 (by decide)]; exact h.kept,
  hchg,
  (match h.tape with | ⟨c, T, a, b, d⟩ => ⟨c, T, a, ⟨(congrFun (e 6 (by decide)) 5).trans b.1, fun j hj => by rw [e 7 (by decide)]; exact b.2 j hj⟩, ⟨(h65 17 (by decide) (by decide) (by decide) (by decide)).trans d.1, fun j hj => by rw [e 76 (by decide)]; exact d.2 j hj⟩⟩),
  h.nb50,
  by rw [e 49 (by decide)]; exact h.cb,
  by rw [h65 55 (by decide) (by decide) (by decide) (by decide)]; exact h.rb,
  by rw [e 96 (by decide), e 50 (by decide)]; exact h.kind,
  by rw [e 50 (by decide)]; exact h.knd8,
  by rw [e 49 (by decide), h65 57 (by decide) (by decide) (by decide) (by decide)]; exact h.ran,
  by rw [e 97 (by decide), e 51 (by decide)]; exact h.trac,
  fun s hs => by have z := h.shl s hs; unfold SHL at z ⊢; rw [e _ (fun z => by simp only [List.mem_cons, List.not_mem_nil, or_false] at z; omega), e 98 (by decide), e 99 (by decide)]; exact z,
  h.elem⟩
/-- one entry of a memory set -/
theorem se_at (M : Nat → Nat → Int32) (c j : Nat) (v : Int32) (d k : Nat) : va_up M c (va_up (M c) j v) d k = if d = c ∧ k = j then v else M d k := by
  by_cases h : d = c
  · subst h
    rw [p_up_s]
    by_cases h2 : k = j
    · rw [h2, p_up_s, if_pos ⟨rfl, rfl⟩]
    · rw [p_up_n _ _ h2, if_neg (fun z => h2 z.2)]
  · rw [p_up_n _ _ h, if_neg (fun z => h z.1)]
theorem nt_o (I : Nat → Nat → Int32) (dn : Nat) (x w u v : Int32) {c : Nat} (hc : c ∉ [44, 45, 46, 47, 48]) : sp_noteM I dn x w u v c = I c := by
  simp only [List.mem_cons, List.not_mem_nil, or_false, not_or] at hc
  unfold sp_noteM
  rw [p_up_n _ _ hc.1, p_up_n _ _ hc.2.2.2.2, p_up_n _ _ hc.2.2.2.1, p_up_n _ _ hc.2.2.1, p_up_n _ _ hc.2.1]
theorem nt_c (I : Nat → Nat → Int32) (dn : Nat) (x w u v : Int32) : sp_noteM I dn x w u v 45 = sp_push (I 45) dn x ∧ sp_noteM I dn x w u v 46 = sp_push (I 46) dn w ∧ sp_noteM I dn x w u v 47 = sp_push (I 47) dn u ∧ sp_noteM I dn x w u v 48 = sp_push (I 48) dn v ∧ sp_noteM I dn x w u v 44 = va_up (va_up (I 44) 5 (nI (sp_dn dn))) 6 (nI (sp_dn dn)) := by
  unfold sp_noteM
  refine ⟨?_, ?_, ?_, ?_, ?_⟩
  · rw [p_up_n _ _ (by decide), p_up_n _ _ (by decide), p_up_n _ _ (by decide), p_up_n _ _ (by decide), p_up_s]
  · rw [p_up_n _ _ (by decide), p_up_n _ _ (by decide), p_up_n _ _ (by decide), p_up_s]
  · rw [p_up_n _ _ (by decide), p_up_n _ _ (by decide), p_up_s]
  · rw [p_up_n _ _ (by decide), p_up_s]
  · rw [p_up_s]
theorem rn_o (I : Nat → Nat → Int32) (dn : Nat) (x w u v : Int32) {c : Nat} (hc : c ∉ [65, 72, 73, 74, 75]) : rf_noM I dn x w u v c = I c := by
  simp only [List.mem_cons, List.not_mem_nil, or_false, not_or] at hc
  unfold rf_noM
  rw [p_up_n _ _ hc.1, p_up_n _ _ hc.2.2.2.2, p_up_n _ _ hc.2.2.2.1, p_up_n _ _ hc.2.2.1, p_up_n _ _ hc.2.1]
theorem rn_c (I : Nat → Nat → Int32) (dn : Nat) (x w u v : Int32) : rf_noM I dn x w u v 72 = sp_push (I 72) dn x ∧ rf_noM I dn x w u v 73 = sp_push (I 73) dn w ∧ rf_noM I dn x w u v 74 = sp_push (I 74) dn u ∧ rf_noM I dn x w u v 75 = sp_push (I 75) dn v ∧ rf_noM I dn x w u v 65 = va_up (va_up (I 65) 11 (nI 0)) 10 (nI (sp_dn dn)) := by
  unfold rf_noM
  refine ⟨?_, ?_, ?_, ?_, ?_⟩
  · rw [p_up_n _ _ (by decide), p_up_n _ _ (by decide), p_up_n _ _ (by decide), p_up_n _ _ (by decide), p_up_s]
  · rw [p_up_n _ _ (by decide), p_up_n _ _ (by decide), p_up_n _ _ (by decide), p_up_s]
  · rw [p_up_n _ _ (by decide), p_up_n _ _ (by decide), p_up_s]
  · rw [p_up_n _ _ (by decide), p_up_s]
  · rw [p_up_s]
theorem push_or {dn k : Nat} (hd : dn ≤ 40) (hk : k < sp_dn dn) : (∃ s, s < dn ∧ ∀ f v, sp_push f dn v k = f s) ∨ ∀ f v, sp_push f dn v k = v := by
  unfold sp_dn at hk
  by_cases h : dn < 40
  · rw [if_pos h] at hk
    by_cases e : k = dn
    · right; intro f v; unfold sp_push; rw [if_pos h, e, p_up_s]
    · left; refine ⟨k, by omega, fun f v => ?_⟩; unfold sp_push; rw [if_pos h, p_up_n _ _ e]
  · rw [if_neg h] at hk
    by_cases e : k = 39
    · right; intro f v; unfold sp_push; rw [if_neg h, e, p_up_s]
    · left; refine ⟨k + 1, by omega, fun f v => ?_⟩
      unfold sp_push sp_sh va_cpy
      rw [if_neg h, p_up_n _ _ e, if_pos ⟨Nat.zero_le _, by omega⟩]
      congr 1; omega
theorem CHG_push {n dn w a b : Nat} {I I1 : Nat → Nat → Int32} {u v : Int32} (hd : dn ≤ 40) (h : ∀ k, k < dn → CHG n I k) (ho : okN n w a b) (hu : sp_may w u) (hv : sp_may w v) (e45 : I1 45 = sp_push (I 45) dn (nI (nmb w a b))) (e46 : I1 46 = sp_push (I 46) dn (nI w)) (e47 : I1 47 = sp_push (I 47) dn u) (e48 : I1 48 = sp_push (I 48) dn v) (e72 : I1 72 = sp_push (I 72) dn (nI w)) (e73 : I1 73 = sp_push (I 73) dn (nI (nmb w a b))) (e74 : I1 74 = sp_push (I 74) dn u) (e75 : I1 75 = sp_push (I 75) dn v) : ∀ k, k < sp_dn dn → CHG n I1 k := by
  intro k hk
  unfold CHG
  rw [e45, e46, e47, e48, e72, e73, e74, e75]
  rcases push_or hd hk with ⟨s, hs, q⟩ | q
  · simp only [q]
    exact h s hs
  · exact ⟨by rw [q, q], by rw [q, q], by rw [q, q], by rw [q, q], w, a, b, ho, q _ _, q _ _, by rw [q]; exact hu, by rw [q]; exact hv⟩
theorem CHG_cg {n k : Nat} {I I1 : Nat → Nat → Int32} (e : ∀ c, c ∈ [45, 46, 47, 48, 72, 73, 74, 75] → I1 c = I c) (h : CHG n I k) : CHG n I1 k := by
  unfold CHG at h ⊢
  rw [e 45 (by decide), e 46 (by decide), e 47 (by decide), e 48 (by decide), e 72 (by decide), e 73 (by decide), e 74 (by decide), e 75 (by decide)]
  exact h
/-- mend's memory, from either object's part -/
theorem Inv_mend {tx : List Ln} {n nb : Nat} {I : Nat → Nat → Int32} {J : Nat → Nat → Int64} {p : Bool × Option Nat} {k a b a2 b2 dn un : Nat} {v x w u : Int32} (h : Inv tx n nb I J p) (ho : okN n k a b) (ho2 : okN n k a2 b2) (es : sl k a b = sl k a2 b2) (eq : nmb k a b = nmb k a2 b2) (hv : sp_may k v) (hw : w = nI k) (hx : x = nI (nmb k a b)) (hu : u = I (sl k a b).1 (sl k a b).2) (d1 : dn + un ≤ 40) (d6 : ∀ k, k < dn + un → CHG n I k) {M : Nat → Nat → Int32} (hM : M = sp_noteM (va_up I (sl k a b).1 (va_up (I (sl k a b).1) (sl k a b).2 v)) dn x w (I (sl k a b).1 (sl k a b).2) v) : Inv tx n nb (va_up (rf_noM M dn (nI k) (nI (nmb k a2 b2)) u v) (slR k a2 b2).1 (va_up ((rf_noM M dn (nI k) (nI (nmb k a2 b2)) u v) (slR k a2 b2).1) (slR k a2 b2).2 v)) J p := by
  have hl := sl_lo ho
  have hr := slR_lo ho2
  have hsl : ∀ c, ¬ (1 ≤ c ∧ c ≤ 5) → c ∉ [44, 45, 46, 47, 48] → M c = I c := fun c h1 h2 => by
    rw [hM, nt_o _ _ _ _ _ _ h2, p_up_n _ _ (fun z => h1 (by rw [z]; exact hl))]
  have hc := nt_c (va_up I (sl k a b).1 (va_up (I (sl k a b).1) (sl k a b).2 v)) dn x w (I (sl k a b).1 (sl k a b).2) v
  rw [← hM] at hc
  have hr2 := rn_c M dn (nI k) (nI (nmb k a2 b2)) u v
  have ex : x = nI (nmb k a2 b2) := hx.trans (by rw [eq])
  have eu := h.mays k a b ho
  rw [← hu] at hc eu
  have o44 : ∀ c, 44 ≤ c → (va_up I (sl k a b).1 (va_up (I (sl k a b).1) (sl k a b).2 v)) c = I c := fun c hc => p_up_n _ _ (by omega)
  rw [o44 45 (by decide), o44 46 (by decide), o44 47 (by decide), o44 48 (by decide), o44 44 (by decide)] at hc
  have hs : ∀ c, c < 65 ∨ 70 ≤ c → va_up (rf_noM M dn (nI k) (nI (nmb k a2 b2)) u v) (slR k a2 b2).1 (va_up ((rf_noM M dn (nI k) (nI (nmb k a2 b2)) u v) (slR k a2 b2).1) (slR k a2 b2).2 v) c = rf_noM M dn (nI k) (nI (nmb k a2 b2)) u v c := fun c hc => p_up_n _ _ (by omega)
  refine Inv_num h ho2 hv (fun c hc => ?_) (fun c j hc => ?_) (fun c j hc => ?_) (fun j h10 h11 => ?_) ⟨sp_dn dn, 0, ?_, ?_, ?_, ?_, ?_, ?_⟩
  · simp only [List.mem_cons, List.not_mem_nil, or_false, not_or] at hc
    rw [p_up_n _ _ (by omega), rn_o _ _ _ _ _ _ (by simp only [List.mem_cons, List.not_mem_nil, or_false, not_or]; omega), hsl c (by omega) (by simp only [List.mem_cons, List.not_mem_nil, or_false, not_or]; omega)]
  · simp only [List.mem_cons, List.not_mem_nil, or_false] at hc
    rw [hs c (by omega), rn_o _ _ _ _ _ _ (by simp only [List.mem_cons, List.not_mem_nil, or_false, not_or]; omega), hM, nt_o _ _ _ _ _ _ (by simp only [List.mem_cons, List.not_mem_nil, or_false, not_or]; omega), se_at, es]
  · simp only [List.mem_cons, List.not_mem_nil, or_false] at hc
    rw [se_at, rn_o _ _ _ _ _ _ (by simp only [List.mem_cons, List.not_mem_nil, or_false, not_or]; omega), hsl c (by omega) (by simp only [List.mem_cons, List.not_mem_nil, or_false, not_or]; omega)]
  · rw [se_at, hr2.2.2.2.2, p_up_n _ _ h10, p_up_n _ _ h11, hsl 65 (by decide) (by decide)]
  · unfold sp_dn; split <;> omega
  · rw [hs 44 (by decide), rn_o _ _ _ _ _ _ (by decide), hc.2.2.2.2, p_up_n _ _ (by decide), p_up_s]
  · rw [hs 44 (by decide), rn_o _ _ _ _ _ _ (by decide), hc.2.2.2.2, p_up_s]; rfl
  · rw [se_at, if_neg (fun z => by rcases slR_f ho2 z.1.symm with q | q <;> omega), hr2.2.2.2.2, p_up_s]
  · rw [se_at, if_neg (fun z => by rcases slR_f ho2 z.1.symm with q | q <;> omega), hr2.2.2.2.2, p_up_n _ _ (by decide), p_up_s]
  · have g : ∀ c, 72 ≤ c → c ≤ 75 → M c = I c := fun c h1 h2 => hsl c (by omega) (by simp only [List.mem_cons, List.not_mem_nil, or_false, not_or]; omega)
    refine CHG_push (by omega) (fun k hk => d6 k (by omega)) ho2 eu hv ?_ ?_ ?_ ?_ ?_ ?_ ?_ ?_
    · rw [hs 45 (by decide), rn_o _ _ _ _ _ _ (by decide), hc.1, ex]
    · rw [hs 46 (by decide), rn_o _ _ _ _ _ _ (by decide), hc.2.1, hw]
    · rw [hs 47 (by decide), rn_o _ _ _ _ _ _ (by decide), hc.2.2.1]
    · rw [hs 48 (by decide), rn_o _ _ _ _ _ _ (by decide), hc.2.2.2.1]
    · rw [hs 72 (by decide), hr2.1, g 72 (by decide) (by decide)]
    · rw [hs 73 (by decide), hr2.2.1, g 73 (by decide) (by decide)]
    · rw [hs 74 (by decide), hr2.2.2.1, g 74 (by decide) (by decide)]
    · rw [hs 75 (by decide), hr2.2.2.2.1, g 75 (by decide) (by decide)]
set_option maxRecDepth 20000 in
theorem stp_mend {I : Nat → Nat → Int32} {J : Nat → Nat → Int64} {p : Bool × Option Nat} {ro : List (Nat × Nat × (Nat → Int32))} {tx : List Ln} {n nb : Nat} (h : Inv tx n nb I J p) {L i : Nat} {xs : Nat → Int32} (hi : i + 6 ≤ L) (hL : L ≤ 3072) (hscr : (1002, L, xs) ∈ ro) (hro : RO ro) {Q : Option Value → pm_M → Prop}  (kont : ∀ (tx : List Ln) (n nb : Nat) (I : Nat → Nat → Int32) (J : Nat → Nat → Int64) (p : Bool × Option Nat), Inv tx n nb I J p → Px 61 0 0 CL_law 1065 [some (.ref (1002)), some (.ref (0)), some (.ref (65)), some (.int (nI i))] [] (gS, I, J, gR p, ro) Q) : Px 61 0 0 CL_law 76 [some (.ref (1002)), some (.ref (0)), some (.ref (65)), some (.int (nI i))] [] (gS, I, J, gR p, ro) Q := by
  have hn8 := h.n8
  obtain ⟨dn, un, d1, d2, d3, d4, d5, d6⟩ := h.chg
  refine px_aload_n (kk := 1) rfl rfl rfl ?_
  refine px_aload_n (kk := 0) rfl rfl rfl ?_
  refine px_iload_n (kk := 3) rfl rfl rfl ?_
  refine px_iconst (v := nI 1) rfl k_1 ?_
  refine px_iaddN rfl ?_
  refine px_roald (j := (i + 1)) rfl hscr rfl (by omega) ?_
  refine px_aload_n (kk := 0) rfl rfl rfl ?_
  refine px_iload_n (kk := 3) rfl rfl rfl ?_
  refine px_iconst (v := nI 2) rfl k_2 ?_
  refine px_iaddN rfl ?_
  refine px_roald (j := (i + 2)) rfl hscr rfl (by omega) ?_
  refine px_aload_n (kk := 0) rfl rfl rfl ?_
  refine px_iload_n (kk := 3) rfl rfl rfl ?_
  refine px_iconst (v := nI 3) rfl k_3 ?_
  refine px_iaddN rfl ?_
  refine px_roald (j := (i + 3)) rfl hscr rfl (by omega) ?_
  refine px_callV0 CX11_mend [] [.int _, .int _, .int _] (vX11_mend h.cn h.n8 d2 (by omega)) rfl gS_0 (by decide) rfl rfl rfl (Nat.le_of_ble_eq_true rfl) (by decide) ?_
  rintro _ _ - (⟨k, a, b, ho, hw, hx, hm, rfl, ⟨hu, rfl⟩ | ⟨hu, rfl⟩⟩ | ⟨hn, rfl, rfl⟩)
  · refine px_aload_n (kk := 2) rfl rfl rfl ?_
    refine px_aload_n (kk := 0) rfl rfl rfl ?_
    refine px_iload_n (kk := 3) rfl rfl rfl ?_
    refine px_iconst (v := nI 1) rfl k_1 ?_
    refine px_iaddN rfl ?_
    refine px_roald (j := (i + 1)) rfl hscr rfl (by omega) ?_
    refine px_aload_n (kk := 0) rfl rfl rfl ?_
    refine px_iload_n (kk := 3) rfl rfl rfl ?_
    refine px_iconst (v := nI 2) rfl k_2 ?_
    refine px_iaddN rfl ?_
    refine px_roald (j := (i + 2)) rfl hscr rfl (by omega) ?_
    refine px_aload_n (kk := 0) rfl rfl rfl ?_
    refine px_iload_n (kk := 3) rfl rfl rfl ?_
    refine px_iconst (v := nI 3) rfl k_3 ?_
    refine px_iaddN rfl ?_
    refine px_roald (j := (i + 3)) rfl hscr rfl (by omega) ?_
    refine px_callV0 CX12_mend [.int _] [.int _, .int _, .int _] (vX12_mend h.rn h.n8 d4 (by omega)) rfl gS_65 (by decide) rfl rfl rfl (Nat.le_of_ble_eq_true rfl) (by decide) ?_
    rintro _ _ - (⟨k2, a2, b2, ho2, hw2, hx2, hm2, rfl, ⟨hu2, rfl⟩ | ⟨hu2, rfl⟩⟩ | ⟨hn2, rfl, rfl⟩)
    · have hk6 := ho.1
      have hk62 := ho2.1
      have ek := hw.symm.trans hw2
      rw [n_eq (by omega) (by omega)] at ek
      subst ek
      have en := hx.symm.trans hx2
      rw [n_eq (by have := nmb_lt hn8 ho; omega) (by have := nmb_lt hn8 ho2; omega)] at en
      have es := nmb_sl hn8 ho ho2 en
      have heq : I (sl k a b).1 (sl k a b).2 = I (slR k a2 b2).1 (slR k a2 b2).2 := by rw [sl_slR h ho2, es.1]
      refine px_icmp_eq rfl (fun c110 => ?_) (fun hZ => absurd (heq) hZ)
      exact kont _ _ _ _ _ _ h
    · have hk6 := ho.1
      have hk62 := ho2.1
      have ek := hw.symm.trans hw2
      rw [n_eq (by omega) (by omega)] at ek
      subst ek
      have en := hx.symm.trans hx2
      rw [n_eq (by have := nmb_lt hn8 ho; omega) (by have := nmb_lt hn8 ho2; omega)] at en
      have es := nmb_sl hn8 ho ho2 en
      have heq : I (sl k a b).1 (sl k a b).2 = I (slR k a2 b2).1 (slR k a2 b2).2 := by rw [sl_slR h ho2, es.1]
      exact absurd (heq.symm.trans hu) hu2
    · exact absurd ⟨k, ho.1, hw, by rw [hx]; exact ok_sp_num ho, hm⟩ hn2
  · have hM : ∀ c, 65 ≤ c → (sp_noteM (va_up I (sl k a b).1 (va_up (I (sl k a b).1) (sl k a b).2 (xs (i + 3)))) dn (xs (i + 1)) (xs (i + 2)) (I (sl k a b).1 (sl k a b).2) (xs (i + 3))) c = I c := fun c hc => by
      have hl := sl_lo ho
      rw [nt_o _ _ _ _ _ _ (by simp only [List.mem_cons, List.not_mem_nil, or_false, not_or]; omega), p_up_n _ _ (by omega)]
    refine px_aload_n (kk := 2) rfl rfl rfl ?_
    refine px_aload_n (kk := 0) rfl rfl rfl ?_
    refine px_iload_n (kk := 3) rfl rfl rfl ?_
    refine px_iconst (v := nI 1) rfl k_1 ?_
    refine px_iaddN rfl ?_
    refine px_roald (j := (i + 1)) rfl hscr rfl (by omega) ?_
    refine px_aload_n (kk := 0) rfl rfl rfl ?_
    refine px_iload_n (kk := 3) rfl rfl rfl ?_
    refine px_iconst (v := nI 2) rfl k_2 ?_
    refine px_iaddN rfl ?_
    refine px_roald (j := (i + 2)) rfl hscr rfl (by omega) ?_
    refine px_aload_n (kk := 0) rfl rfl rfl ?_
    refine px_iload_n (kk := 3) rfl rfl rfl ?_
    refine px_iconst (v := nI 3) rfl k_3 ?_
    refine px_iaddN rfl ?_
    refine px_roald (j := (i + 3)) rfl hscr rfl (by omega) ?_
    refine px_callV0 CX12_mend [.int _] [.int _, .int _, .int _] (vX12_mend (I := (sp_noteM (va_up I (sl k a b).1 (va_up (I (sl k a b).1) (sl k a b).2 (xs (i + 3)))) dn (xs (i + 1)) (xs (i + 2)) (I (sl k a b).1 (sl k a b).2) (xs (i + 3)))) (n := n) (dn := dn) (by rw [hM 65 (by decide)]; exact h.rn) h.n8 (by rw [hM 65 (by decide)]; exact d4) (by omega)) rfl gS_65 (by decide) rfl rfl rfl (Nat.le_of_ble_eq_true rfl) (by decide) ?_
    rintro _ _ - (⟨k2, a2, b2, ho2, hw2, hx2, hm2, rfl, ⟨hu2, rfl⟩ | ⟨hu2, rfl⟩⟩ | ⟨hn2, rfl, rfl⟩)
    · have hk6 := ho.1
      have hk62 := ho2.1
      have ek := hw.symm.trans hw2
      rw [n_eq (by omega) (by omega)] at ek
      subst ek
      have en := hx.symm.trans hx2
      rw [n_eq (by have := nmb_lt hn8 ho; omega) (by have := nmb_lt hn8 ho2; omega)] at en
      have es := nmb_sl hn8 ho ho2 en
      have heq : I (sl k a b).1 (sl k a b).2 = (sp_noteM (va_up I (sl k a b).1 (va_up (I (sl k a b).1) (sl k a b).2 (xs (i + 3)))) dn (xs (i + 1)) (xs (i + 2)) (I (sl k a b).1 (sl k a b).2) (xs (i + 3))) (slR k a2 b2).1 (slR k a2 b2).2 := by rw [hM _ (slR_lo ho2).1, sl_slR h ho2, es.1]
      exact absurd (heq.trans hu2) hu
    · have hk6 := ho.1
      have hk62 := ho2.1
      have ek := hw.symm.trans hw2
      rw [n_eq (by omega) (by omega)] at ek
      subst ek
      have en := hx.symm.trans hx2
      rw [n_eq (by have := nmb_lt hn8 ho; omega) (by have := nmb_lt hn8 ho2; omega)] at en
      have es := nmb_sl hn8 ho ho2 en
      have heq : I (sl k a b).1 (sl k a b).2 = (sp_noteM (va_up I (sl k a b).1 (va_up (I (sl k a b).1) (sl k a b).2 (xs (i + 3)))) dn (xs (i + 1)) (xs (i + 2)) (I (sl k a b).1 (sl k a b).2) (xs (i + 3))) (slR k a2 b2).1 (slR k a2 b2).2 := by rw [hM _ (slR_lo ho2).1, sl_slR h ho2, es.1]
      refine px_icmp_eq rfl (fun c110 => ?_) (fun hZ => absurd (heq) hZ)
      exact kont _ _ _ _ _ _ (Inv_mend h ho ho2 es.1 en hm hw hx heq.symm d1 d6 rfl)
    · exact absurd ⟨k, ho.1, hw, by rw [hx]; exact ok_sp_num ho, hm⟩ hn2
  · refine px_aload_n (kk := 2) rfl rfl rfl ?_
    refine px_aload_n (kk := 0) rfl rfl rfl ?_
    refine px_iload_n (kk := 3) rfl rfl rfl ?_
    refine px_iconst (v := nI 1) rfl k_1 ?_
    refine px_iaddN rfl ?_
    refine px_roald (j := (i + 1)) rfl hscr rfl (by omega) ?_
    refine px_aload_n (kk := 0) rfl rfl rfl ?_
    refine px_iload_n (kk := 3) rfl rfl rfl ?_
    refine px_iconst (v := nI 2) rfl k_2 ?_
    refine px_iaddN rfl ?_
    refine px_roald (j := (i + 2)) rfl hscr rfl (by omega) ?_
    refine px_aload_n (kk := 0) rfl rfl rfl ?_
    refine px_iload_n (kk := 3) rfl rfl rfl ?_
    refine px_iconst (v := nI 3) rfl k_3 ?_
    refine px_iaddN rfl ?_
    refine px_roald (j := (i + 3)) rfl hscr rfl (by omega) ?_
    refine px_callV0 CX12_mend [.int _] [.int _, .int _, .int _] (vX12_mend h.rn h.n8 d4 (by omega)) rfl gS_65 (by decide) rfl rfl rfl (Nat.le_of_ble_eq_true rfl) (by decide) ?_
    rintro _ _ - (⟨k2, a2, b2, ho2, hw2, hx2, hm2, rfl, ⟨hu2, rfl⟩ | ⟨hu2, rfl⟩⟩ | ⟨hn2, rfl, rfl⟩)
    · exact absurd ⟨k2, ho2.1, hw2, by rw [hx2]; exact ok_sp_num ho2, hm2⟩ hn
    · exact absurd ⟨k2, ho2.1, hw2, by rw [hx2]; exact ok_sp_num ho2, hm2⟩ hn
    · have heq : (-2000000000 : Int32) = -2000000000 := rfl
      refine px_icmp_eq rfl (fun c110 => ?_) (fun hZ => absurd (heq) hZ)
      exact kont _ _ _ _ _ _ h
theorem tb_o (I : Nat → Nat → Int32) (c k j : Nat) (v : Int32) {d : Nat} (h44 : d ≠ 44) (hk : d ≠ k) : sp_tbM I c k j v d = I d := by
  unfold sp_tbM
  rw [p_up_n _ _ hk, p_up_n _ _ h44]
theorem tb_N (I : Nat → Nat → Int32) (c k j : Nat) (v : Int32) {d l : Nat} (h44 : d ≠ 44) (hk : k ≠ 44) : sp_tbM I c k j v d l = if d = k ∧ l = j then v else I d l := by
  unfold sp_tbM
  by_cases q : d = k
  · subst q
    rw [p_up_s]
    by_cases h2 : l = j
    · rw [h2, p_up_s, if_pos ⟨rfl, rfl⟩]
    · rw [p_up_n _ _ h2, if_neg (fun z => h2 z.2)]
  · rw [p_up_n _ _ q, p_up_n _ _ h44, if_neg (fun z => q z.1)]
theorem tb_44 (I : Nat → Nat → Int32) (c k j : Nat) (v : Int32) (hk : k ≠ 44) : sp_tbM I c k j v 44 = va_up (I 44) 5 (nI c) := by
  unfold sp_tbM
  rw [p_up_n _ _ (fun z => hk z.symm), p_up_s]
/-- undo's and redo's memory -/
theorem Inv_ud {tx : List Ln} {n nb : Nat} {I I1 : Nat → Nat → Int32} {J : Nat → Nat → Int64} {p : Bool × Option Nat} {k a b d u : Nat} {v : Int32} (h : Inv tx n nb I J p) (ho : okN n k a b) (hv : sp_may k v) (d1 : d + u ≤ 40) (d3 : I 44 6 = nI (d + u)) (d6 : ∀ k, k < d + u → CHG n I k) (e : ∀ c l, c < 65 ∨ 70 ≤ c → I1 c l = sp_tbM I d (sl k a b).1 (sl k a b).2 v c l) (eR : ∀ c l, 65 ≤ c → c ≤ 69 → (c = 65 → l ≠ 10 ∧ l ≠ 11) → I1 c l = if c = (slR k a b).1 ∧ l = (slR k a b).2 then v else I c l) (e10 : I1 65 10 = nI d) (e11 : I1 65 11 = nI u) : Inv tx n nb I1 J p := by
  have hl := sl_lo ho
  have hc : ∀ c, c ∈ [45, 46, 47, 48, 72, 73, 74, 75] → I1 c = I c := fun c hc => by
    simp only [List.mem_cons, List.not_mem_nil, or_false] at hc
    funext l
    rw [e c l (by omega), tb_o _ _ _ _ _ (by omega) (by omega)]
  refine Inv_num h ho hv (fun c hc => ?_) (fun c j hc => ?_) (fun c j hc => ?_) (fun j h10 h11 => ?_) ⟨d, u, d1, ?_, ?_, e10, e11, fun k hk => CHG_cg hc (d6 k hk)⟩
  · simp only [List.mem_cons, List.not_mem_nil, or_false, not_or] at hc
    funext l
    rw [e c l (by omega), tb_o _ _ _ _ _ (by omega) (by omega)]
  · simp only [List.mem_cons, List.not_mem_nil, or_false] at hc
    rw [e c j (by omega), tb_N _ _ _ _ _ (by omega) (by omega)]
  · simp only [List.mem_cons, List.not_mem_nil, or_false] at hc
    exact eR c j (by omega) (by omega) (fun z => by omega)
  · exact eR 65 j (by decide) (by decide) (fun _ => ⟨h10, h11⟩)
  · rw [e 44 5 (by decide), tb_44 _ _ _ _ _ (by omega), p_up_s]
  · rw [e 44 6 (by decide), tb_44 _ _ _ _ _ (by omega), p_up_n _ _ (by decide)]; exact d3
set_option maxRecDepth 20000 in
theorem stp_undo {I : Nat → Nat → Int32} {J : Nat → Nat → Int64} {p : Bool × Option Nat} {ro : List (Nat × Nat × (Nat → Int32))} {tx : List Ln} {n nb : Nat} (h : Inv tx n nb I J p) {L i : Nat} {xs : Nat → Int32} (hi : i + 6 ≤ L) (hL : L ≤ 3072) (hscr : (1002, L, xs) ∈ ro) (hro : RO ro) {Q : Option Value → pm_M → Prop}  (kont : ∀ (tx : List Ln) (n nb : Nat) (I : Nat → Nat → Int32) (J : Nat → Nat → Int64) (p : Bool × Option Nat), Inv tx n nb I J p → Px 61 0 0 CL_law 1065 [some (.ref (1002)), some (.ref (0)), some (.ref (65)), some (.int (nI i))] [] (gS, I, J, gR p, ro) Q) : Px 61 0 0 CL_law 726 [some (.ref (1002)), some (.ref (0)), some (.ref (65)), some (.int (nI i))] [] (gS, I, J, gR p, ro) Q := by
  have hn8 := h.n8
  obtain ⟨dn, un, d1, d2, d3, d4, d5, d6⟩ := h.chg
  rcases dn with _ | c
  · have heq : (-5 : Int32) = -5 := rfl
    refine px_aload_n (kk := 1) rfl rfl rfl ?_
    refine px_callV0 CX11_undo [] [] (vX11_undo_0 d2) rfl gS_0 (by decide) rfl rfl rfl (Nat.le_of_ble_eq_true rfl) (by decide) ?_
    rintro _ _ - ⟨rfl, rfl⟩
    refine px_aload_n (kk := 2) rfl rfl rfl ?_
    refine px_callV0 CX12_undo [.int _] [] (vX12_undo_0 d4) rfl gS_65 (by decide) rfl rfl rfl (Nat.le_of_ble_eq_true rfl) (by decide) ?_
    rintro _ _ - ⟨rfl, rfl⟩
    refine px_icmp_eq rfl (fun c730 => ?_) (fun hZ => absurd (heq) hZ)
    exact kont _ _ _ _ _ _ h
  · obtain ⟨y1, y2, y3, y4, w, a, b, ho, y5, y6, y7, y8⟩ := d6 c (by omega)
    have hl := sl_lo ho
    have hr := slR_lo ho
    have hM : ∀ c2, 65 ≤ c2 → (sp_tbM I c (sl w a b).1 (sl w a b).2 (I 47 c)) c2 = I c2 := fun c2 hc => tb_o _ _ _ _ _ (by omega) (by omega)
    have heq : nI c = nI c := rfl
    refine px_aload_n (kk := 1) rfl rfl rfl ?_
    refine px_callV0 CX11_undo [] [] (vX11_undo_s h.cn hn8 d2 (by omega) ho y5 y6) rfl gS_0 (by decide) rfl rfl rfl (Nat.le_of_ble_eq_true rfl) (by decide) ?_
    rintro _ _ - ⟨rfl, rfl⟩
    refine px_aload_n (kk := 2) rfl rfl rfl ?_
    refine px_callV0 CX12_undo [.int _] [] (vX12_undo_s (I := (sp_tbM I c (sl w a b).1 (sl w a b).2 (I 47 c))) (c := c) (un := un) hn8 (by rw [hM 65 (by decide)]; exact d4) (by omega) (by rw [hM 65 (by decide)]; exact d5) ho (by rw [hM 73 (by decide)]; exact y1.symm.trans y5) (by rw [hM 72 (by decide)]; exact y2.symm.trans y6)) rfl gS_65 (by decide) rfl rfl rfl (Nat.le_of_ble_eq_true rfl) (by decide) ?_
    rintro _ _ - ⟨rfl, rfl⟩
    refine px_icmp_eq rfl (fun c730 => ?_) (fun hZ => absurd (heq) hZ)
    have ev : (sp_tbM I c (sl w a b).1 (sl w a b).2 (I 47 c)) 74 c = I 47 c := by rw [hM 74 (by decide)]; exact y3.symm
    rw [ev]
    refine kont _ _ _ _ _ _ (Inv_ud h ho (d := c) (u := un + 1) y7 (by omega) (by rw [d3]; congr 1; omega) (fun k hk => d6 k (by omega)) (fun c2 l hc => ?_) (fun c2 l h1 h2 h3 => ?_) ?_ ?_)
    · unfold rf_unM
      rw [p_up_n _ _ (by omega), p_up_n _ _ (by omega)]
    · unfold rf_unM
      rw [se_at]
      refine ite_cg Iff.rfl rfl ?_
      by_cases z : c2 = 65
      · rw [z, p_up_s, p_up_n _ _ (h3 z).2, p_up_n _ _ (h3 z).1, hM 65 (by decide)]
      · rw [p_up_n _ _ z, hM c2 (by omega)]
    · unfold rf_unM
      rw [se_at, if_neg (fun z => by rcases slR_f ho z.1.symm with q | q <;> omega), p_up_s, p_up_n _ _ (by decide), p_up_s]
    · unfold rf_unM
      rw [se_at, if_neg (fun z => by rcases slR_f ho z.1.symm with q | q <;> omega), p_up_s, p_up_s]
set_option maxRecDepth 20000 in
theorem stp_redo {I : Nat → Nat → Int32} {J : Nat → Nat → Int64} {p : Bool × Option Nat} {ro : List (Nat × Nat × (Nat → Int32))} {tx : List Ln} {n nb : Nat} (h : Inv tx n nb I J p) {L i : Nat} {xs : Nat → Int32} (hi : i + 6 ≤ L) (hL : L ≤ 3072) (hscr : (1002, L, xs) ∈ ro) (hro : RO ro) {Q : Option Value → pm_M → Prop}  (kont : ∀ (tx : List Ln) (n nb : Nat) (I : Nat → Nat → Int32) (J : Nat → Nat → Int64) (p : Bool × Option Nat), Inv tx n nb I J p → Px 61 0 0 CL_law 1065 [some (.ref (1002)), some (.ref (0)), some (.ref (65)), some (.int (nI i))] [] (gS, I, J, gR p, ro) Q) : Px 61 0 0 CL_law 733 [some (.ref (1002)), some (.ref (0)), some (.ref (65)), some (.int (nI i))] [] (gS, I, J, gR p, ro) Q := by
  have hn8 := h.n8
  obtain ⟨dn, un, d1, d2, d3, d4, d5, d6⟩ := h.chg
  rcases un with _ | q
  · have heq : (-5 : Int32) = -5 := rfl
    refine px_aload_n (kk := 1) rfl rfl rfl ?_
    refine px_callV0 CX11_redo [] [] (vX11_redo_0 d2 (by omega) d3) rfl gS_0 (by decide) rfl rfl rfl (Nat.le_of_ble_eq_true rfl) (by decide) ?_
    rintro _ _ - ⟨rfl, rfl⟩
    refine px_aload_n (kk := 2) rfl rfl rfl ?_
    refine px_callV0 CX12_redo [.int _] [] (vX12_redo_0 d5) rfl gS_65 (by decide) rfl rfl rfl (Nat.le_of_ble_eq_true rfl) (by decide) ?_
    rintro _ _ - ⟨rfl, rfl⟩
    refine px_icmp_eq rfl (fun c737 => ?_) (fun hZ => absurd (heq) hZ)
    exact kont _ _ _ _ _ _ h
  · obtain ⟨y1, y2, y3, y4, w, a, b, ho, y5, y6, y7, y8⟩ := d6 dn (by omega)
    have hl := sl_lo ho
    have hr := slR_lo ho
    have hM : ∀ c2, 65 ≤ c2 → (sp_tbM I (dn + 1) (sl w a b).1 (sl w a b).2 (I 48 dn)) c2 = I c2 := fun c2 hc => tb_o _ _ _ _ _ (by omega) (by omega)
    have heq : nI (dn + (q + 1) - (dn + 1)) = nI q := by congr 1; omega
    refine px_aload_n (kk := 1) rfl rfl rfl ?_
    refine px_callV0 CX11_redo [] [] (vX11_redo_s h.cn hn8 d2 d3 (by omega) (by omega) ho y5 y6) rfl gS_0 (by decide) rfl rfl rfl (Nat.le_of_ble_eq_true rfl) (by decide) ?_
    rintro _ _ - ⟨rfl, rfl⟩
    refine px_aload_n (kk := 2) rfl rfl rfl ?_
    refine px_callV0 CX12_redo [.int _] [] (vX12_redo_s (I := (sp_tbM I (dn + 1) (sl w a b).1 (sl w a b).2 (I 48 dn))) (c := dn) (un := q) hn8 (by rw [hM 65 (by decide)]; exact d4) (by omega) (by rw [hM 65 (by decide)]; exact d5) (by omega) ho (by rw [hM 73 (by decide)]; exact y1.symm.trans y5) (by rw [hM 72 (by decide)]; exact y2.symm.trans y6)) rfl gS_65 (by decide) rfl rfl rfl (Nat.le_of_ble_eq_true rfl) (by decide) ?_
    rintro _ _ - ⟨rfl, rfl⟩
    refine px_icmp_eq rfl (fun c737 => ?_) (fun hZ => absurd (heq) hZ)
    have ev : (sp_tbM I (dn + 1) (sl w a b).1 (sl w a b).2 (I 48 dn)) 75 dn = I 48 dn := by rw [hM 75 (by decide)]; exact y4.symm
    rw [ev]
    refine kont _ _ _ _ _ _ (Inv_ud h ho (d := dn + 1) (u := q) y8 (by omega) (by rw [d3]; congr 1; omega) (fun k hk => d6 k (by omega)) (fun c2 l hc => ?_) (fun c2 l h1 h2 h3 => ?_) ?_ ?_)
    · unfold rf_reM
      rw [p_up_n _ _ (by omega), p_up_n _ _ (by omega)]
    · unfold rf_reM
      by_cases z : c2 = 65
      · rw [z, p_up_s, p_up_n _ _ (h3 z).2, p_up_n _ _ (h3 z).1, se_at, hM 65 (by decide)]
      · rw [p_up_n _ _ z, se_at, hM c2 (by omega)]
    · unfold rf_reM
      rw [p_up_s, p_up_n _ _ (by decide), p_up_s]
    · unfold rf_reM
      rw [p_up_s, p_up_s]
