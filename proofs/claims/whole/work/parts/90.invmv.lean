/-! thought changes nothing of the invariant -/
abbrev cTT : List Nat := [6, 65, 8, 12, 13, 14, 15, 16, 17, 18, 19, 20, 21, 22, 23, 24, 25, 26, 27, 28, 29, 30, 31, 32, 33, 82, 83, 84, 85, 86, 87, 88, 89, 90]
theorem ntt_shl {s : Nat} (hs : s < 6) : 53 + 2 * s ∉ cTT := fun h => by simp only [List.mem_cons, List.not_mem_nil, or_false] at h; omega
theorem sl_in {n w a b : Nat} (h : okN n w a b) : (sl w a b).1 = 1 ∨ (sl w a b).1 = 2 ∨ (sl w a b).1 = 3 ∨ (sl w a b).1 = 4 ∨ (sl w a b).1 = 5 := by
  have hw := h.1
  rcases (by omega : w = 0 ∨ w = 1 ∨ w = 2 ∨ w = 3 ∨ w = 4 ∨ w = 5) with rfl | rfl | rfl | rfl | rfl | rfl <;> simp [sl]
theorem ntt_sl {n w a b : Nat} (h : okN n w a b) : (sl w a b).1 ∉ cTT := by
  rcases sl_in h with e | e | e | e | e <;> rw [e] <;> decide
theorem Inv_mv {tx : List Ln} {n nb : Nat} {I I1 : Nat → Nat → Int32} {J J1 : Nat → Nat → Int64} {p : Bool × Option Nat} (h : Inv tx n nb I J p) (e : ∀ c, c ∉ cTT → I1 c = I c) (h6 : ∀ k, k < 9 → I1 6 k = I 6 k) (h65 : ∀ k, k < 34 ∨ 48 ≤ k → I1 65 k = I 65 k) (hJ : ∀ c, c ≠ 29 → c ≠ 65 → J1 c = J c) (b : Option Nat) : Inv tx n nb I1 J1 (p.1, b) := ⟨
  LawC_mv h.lawC (fun k hk => h6 k hk) (e 9 (by decide)) (e 10 (by decide)),
  LawR_mv h.lawR (h65 29 (.inl (by decide))) (fun c hc => e c (by revert hc; revert c; decide)),
  by rw [e 1 (by decide)]; exact h.cn,
  by rw [h65 1 (by decide)]; exact h.rn,
  h.n8,
  by rw [e 66 (by decide), e 2 (by decide)]; exact h.warm,
  by rw [e 67 (by decide), e 3 (by decide)]; exact h.need,
  by rw [e 68 (by decide), e 4 (by decide)]; exact h.part,
  by rw [e 69 (by decide), e 5 (by decide)]; exact h.like,
  by rw [h65 6 (by decide), e 1 (by decide)]; exact h.cord,
  by rw [h65 7 (by decide), e 1 (by decide)]; exact h.cold,
  by rw [e 4 (by decide)]; exact h.pa,
  by rw [e 1 (by decide)]; exact h.c4,
  by rw [e 5 (by decide)]; exact h.lk,
  fun w a b ho => by rw [e _ (ntt_sl ho)]; exact h.mays w a b ho,
  by rw [e 36 (by decide)]; exact h.mt,
  by rw [e 36 (by decide), e 70 (by decide), e 37 (by decide), e 71 (by decide)]; exact h.to1,
  by rw [e 36 (by decide), e 37 (by decide)]; exact h.to2,
  by rw [e 35 (by decide), e 70 (by decide)]; exact h.many,
  by rw [e 38 (by decide), e 91 (by decide)]; exact h.led,
  by rw [e 34 (by decide), h65 49 (by decide), h65 50 (by decide), e 43 (by decide), e 92 (by decide), e 40 (by decide), e 93 (by decide), e 41 (by decide), e 94 (by decide), e 42 (by decide), e 95 (by decide), e 39 (by decide)]; exact h.kept,
  by have z := h.chg; simp only [CHG] at z ⊢; rw [e 44 (by decide), e 45 (by decide), e 46 (by decide), e 47 (by decide), e 48 (by decide), e 72 (by decide), e 73 (by decide), e 74 (by decide), e 75 (by decide), h65 10 (.inl (by decide)), h65 11 (.inl (by decide))]; exact z,
  (match h.tape with | ⟨c, T, a, b, d⟩ => ⟨c, T, a, ⟨(h6 5 (by decide)).trans b.1, fun j hj => by rw [e 7 (by decide)]; exact b.2 j hj⟩, ⟨(h65 17 (.inl (by decide))).trans d.1, fun j hj => by rw [e 76 (by decide)]; exact d.2 j hj⟩⟩),
  h.nb50,
  by rw [e 49 (by decide)]; exact h.cb,
  by rw [h65 55 (by decide)]; exact h.rb,
  by rw [e 96 (by decide), e 50 (by decide)]; exact h.kind,
  by rw [e 50 (by decide)]; exact h.knd8,
  by rw [e 49 (by decide), h65 57 (by decide)]; exact h.ran,
  by rw [e 97 (by decide), e 51 (by decide)]; exact h.trac,
  fun s hs => by have z := h.shl s hs; unfold SHL at z ⊢; rw [e _ (ntt_shl hs), e 98 (by decide), e 99 (by decide)]; exact z,
  fun s hs j => by rw [hJ _ (by omega) (by omega), hJ 100 (by decide) (by decide)]; exact h.elem s hs j⟩
theorem Inv_th {tx : List Ln} {n nb : Nat} {I I1 : Nat → Nat → Int32} {J J1 : Nat → Nat → Int64} {p : Bool × Option Nat} (h : Inv tx n nb I J p) (hF : Fr cth I I1) (hK : K6 I I1) (hJ : ∀ c, c ≠ 29 → J1 c = J c) (b : Option Nat) : Inv tx n nb I1 J1 (p.1, b) := by
  refine Inv_mv h (fun c hc => hF c (fun z => hc ?_)) hK (fun k _ => by rw [hF 65 (by decide)]) (fun c hc _ => hJ c hc) b
  revert z
  simp only [List.mem_cons, List.not_mem_nil, or_false]
  omega
theorem Inv_rt {tx : List Ln} {n nb : Nat} {I I1 : Nat → Nat → Int32} {J J1 : Nat → Nat → Int64} {p : Bool × Option Nat} (h : Inv tx n nb I J p) (hF : Fr crt I I1) (hK : K65 I I1) (hJ : ∀ c, c ≠ 65 → J1 c = J c) : Inv tx n nb I1 J1 p := by
  refine Inv_mv h (fun c hc => hF c (fun z => hc ?_)) (fun k _ => by rw [hF 6 (by decide)]) hK (fun c _ hc => hJ c hc) p.2
  revert z
  simp only [List.mem_cons, List.not_mem_nil, or_false]
  omega
