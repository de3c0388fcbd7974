/-! what lies beyond a row's end is of no account; then the invariant of both objects -/
theorem p_cel_garb {aC : Nat → ClassId} {ad : Nat → Nat} {Sh : List (Nat × Nat)} {I I' : Nat → Nat → Int32} {J J' : Nat → Nat → Int64} {R : Nat → Nat → Option Nat} {ro : List (Nat × Nat × (Nat → Int32))} (h : ∀ a t n, Sh[a]? = some (t, n) → ∀ j, j < n → I' a j = I a j ∧ J' a j = J a j) {D : va_G} {cl : List vw_C} {H : Heap} {q k : Nat} (hk : va_at D cl (q, p_cel aC ad (Sh, I, J, R, ro) k) H) : va_at D cl (q, p_cel aC ad (Sh, I', J', R, ro) k) H := by
  rcases e : Sh[k]? with _ | ⟨t, n⟩
  · have h1 : p_cel aC ad (Sh, I', J', R, ro) k = p_cel aC ad (Sh, I, J, R, ro) k := by simp only [p_cel, e]
    rw [h1]; exact hk
  · have hj := h k t n e
    by_cases ht : t < 100
    · rw [p_cel_o (S := (Sh, I', J', R, ro)) e ht]
      rw [p_cel_o (S := (Sh, I, J, R, ro)) e ht] at hk
      have h1 : (List.range n).map (fun j => p_fv (tyC t j) ad (I' k j) (J' k j) (R k j)) = (List.range n).map (fun j => p_fv (tyC t j) ad (I k j) (J k j) (R k j)) := List.map_congr_left (fun j hm => by rw [(hj j (List.mem_range.mp hm)).1, (hj j (List.mem_range.mp hm)).2])
      show va_at D cl (q, .inr (t, (List.range n).map (fun j => p_fv (tyC t j) ad (I' k j) (J' k j) (R k j)))) H
      rw [h1]; exact hk
    · by_cases h1 : t = 101
      · subst h1
        rw [p_cel_l (S := (Sh, I', J', R, ro)) e]
        rw [p_cel_l (S := (Sh, I, J, R, ro)) e] at hk
        have h2 : arrV (aC 1) n (fun j => .long (J' k j)) = arrV (aC 1) n (fun j => .long (J k j)) := by
          unfold arrV
          congr 1
          congr 1
          funext j
          exact congrArg Value.long (hj j.val j.isLt).2
        show H[q]? = some (arrV (aC 1) n (fun j => .long (J' k j)))
        rw [h2]; exact hk
      · by_cases h4 : t = 104
        · subst h4
          rw [p_cel_q (S := (Sh, I', J', R, ro)) e]
          rw [p_cel_q (S := (Sh, I, J, R, ro)) e] at hk
          exact hk
        · rw [p_cel_i (S := (Sh, I', J', R, ro)) e (by omega) h1 h4]
          rw [p_cel_i (S := (Sh, I, J, R, ro)) e (by omega) h1 h4] at hk
          have h2 : arrV (aC (t - 100)) n (fun j => .int (I' k j)) = arrV (aC (t - 100)) n (fun j => .int (I k j)) := by
            unfold arrV
            congr 1
            congr 1
            funext j
            exact congrArg Value.int (hj j.val j.isLt).1
          show H[q]? = some (arrV (aC (t - 100)) n (fun j => .int (I' k j)))
          rw [h2]; exact hk
theorem px_garb {d mc ms : Nat} {cd : pm_C} {i : Nat} {ls : List (Option Value)} {st : List Value} {Sh : List (Nat × Nat)} {I I' : Nat → Nat → Int32} {J J' : Nat → Nat → Int64} {R : Nat → Nat → Option Nat} {ro : List (Nat × Nat × (Nat → Int32))} {Q : Option Value → pm_M → Prop} (h : ∀ a t n, Sh[a]? = some (t, n) → ∀ j, j < n → I' a j = I a j ∧ J' a j = J a j) (kk : Px d mc ms cd i ls st (Sh, I', J', R, ro) Q) : Px d mc ms cd i ls st (Sh, I, J, R, ro) Q := by
  intro hok p l e Rm s m args below meth c D aC A Z hC ad H locs cells slots mls b hH hF hb hc hs hK
  refine kk hok p l e Rm s m args below meth c D aC A Z hC ad H locs cells slots mls b ⟨?_, ?_, hH.2.2.1, hH.2.2.2.1, hH.2.2.2.2⟩ hF hb hc hs hK
  · intro k q hq
    have hlt : k < Sh.length := by
      have := (List.getElem?_eq_some_iff.mp hq).1
      rwa [p_wd_len] at this
    rw [p_wd_at (S := (Sh, I', J', R, ro)) hlt] at hq
    cases hq
    exact p_cel_garb h (hH.1 k _ (p_wd_at (S := (Sh, I, J, R, ro)) hlt))
  · refine ⟨fun i j x y hx hy e => ?_, fun k q hq => ?_⟩
    · have h1 : i < Sh.length := by have := (List.getElem?_eq_some_iff.mp hx).1; rwa [p_wd_len] at this
      have h2 : j < Sh.length := by have := (List.getElem?_eq_some_iff.mp hy).1; rwa [p_wd_len] at this
      rw [p_wd_at (S := (Sh, I', J', R, ro)) h1] at hx
      rw [p_wd_at (S := (Sh, I', J', R, ro)) h2] at hy
      cases hx
      cases hy
      exact hH.2.1.1 i j _ _ (p_wd_at (S := (Sh, I, J, R, ro)) h1) (p_wd_at (S := (Sh, I, J, R, ro)) h2) e
    · have h1 : k < Sh.length := by have := (List.getElem?_eq_some_iff.mp hq).1; rwa [p_wd_len] at this
      rw [p_wd_at (S := (Sh, I', J', R, ro)) h1] at hq
      cases hq
      exact hH.2.1.2 k (ad k, p_cel aC ad (Sh, I, J, R, ro) k) (p_wd_at (S := (Sh, I, J, R, ro)) h1)
/-- one shelf, in both -/
def SHL (nb : Nat) (I : Nat → Nat → Int32) (s : Nat) : Prop := ((I (53 + 2 * s) 1 = nI 0 ∧ I 98 s = -1) ∨ (∃ b, b < nb ∧ I (53 + 2 * s) 1 = nI 1 ∧ I (53 + 2 * s) 2 = nI b ∧ I 98 s = nI b) ∨ ∃ t, t < 5 ∧ I (53 + 2 * s) 1 = nI 2 ∧ I (53 + 2 * s) 3 = nI t ∧ I 98 s = -2 - nI t ∧ I (53 + 2 * s) 4 = I 99 s) ∧ (∃ z, z ≤ 60 ∧ I (53 + 2 * s) 4 = nI z) ∧ ∃ z, z ≤ 60 ∧ I 99 s = nI z
/-- one change kept, in both -/
def CHG (n : Nat) (I : Nat → Nat → Int32) (k : Nat) : Prop := I 45 k = I 73 k ∧ I 46 k = I 72 k ∧ I 47 k = I 74 k ∧ I 48 k = I 75 k ∧ ∃ w a b, okN n w a b ∧ I 45 k = nI (nmb w a b) ∧ I 46 k = nI w ∧ sp_may w (I 47 k) ∧ sp_may w (I 48 k)
/-- both objects, after any deeds: the class's cells, the reference's, and that they say the same -/
def Inv (tx : List Ln) (n nb : Nat) (I : Nat → Nat → Int32) (J : Nat → Nat → Int64) (p : Bool × Option Nat) : Prop := (LawC tx p I) ∧ (LawR tx I) ∧ (I 1 4 = nI n) ∧ (I 65 1 = nI n) ∧ (n ≤ 8) ∧ (I 66 = I 2) ∧ (I 67 = I 3) ∧ (I 68 = I 4) ∧ (I 69 = I 5) ∧ (I 65 6 = I 1 5) ∧ (I 65 7 = I 1 6) ∧ (PA n (I 4)) ∧ (C4 (I 1 5)) ∧ (LK 8 (I 5)) ∧ (∀ w a b, okN n w a b → sp_may w (I (sl w a b).1 (sl w a b).2)) ∧ (MT n (I 36)) ∧ (∀ l, l < n → I 36 l = I 70 l ∧ I 37 l = I 71 l) ∧ (∀ l, n ≤ l → l < 8 → I 36 l = -1 ∧ I 37 l = nI 0) ∧ (I 35 2 = nI (sp_cn (I 70) n)) ∧ (∀ j, j < 4 → I 38 j = I 91 j) ∧ ((I 34 8 = nI 0 ∧ I 65 49 = nI 0) ∨ (I 34 8 = nI 1 ∧ I 65 49 = nI 1 ∧ ∃ z, z ≤ n ∧ I 34 7 = nI z ∧ I 65 50 = nI z ∧ (∀ l, l < z → I 43 l = I 92 l ∧ I 40 l = I 93 l ∧ I 41 l = I 94 l ∧ sp_may 0 (I 43 l)) ∧ (∀ j, j < 4 → I 42 j = I 95 j) ∧ MT z (I 40) ∧ (∀ l, z ≤ l → l < 8 → I 40 l = -1 ∧ I 41 l = nI 0) ∧ I 39 2 = nI (sp_cn (I 93) z))) ∧ (∃ dn un, dn + un ≤ 40 ∧ I 44 5 = nI dn ∧ I 44 6 = nI (dn + un) ∧ I 65 10 = nI dn ∧ I 65 11 = nI un ∧ ∀ k, k < dn + un → CHG n I k) ∧ (∃ c T, TP c T ∧ LTc c T I ∧ LTr c T I) ∧ (nb ≤ 50) ∧ (I 49 2 = nI nb) ∧ (I 65 55 = nI nb) ∧ (I 96 = I 50) ∧ (∀ b, b < nb → ∃ K, K < 8 ∧ I 50 b = nI K) ∧ (∃ q, q < 2 ^ 31 ∧ I 49 3 = nI q ∧ I 65 57 = nI q) ∧ (I 97 = I 51) ∧ (∀ s, s < 6 → SHL nb I s) ∧ (∀ s, s < 6 → ∀ j, J (54 + 2 * s) j = J 100 (60 * s + j))
theorem Inv.lawC {tx : List Ln} {n nb : Nat} {I : Nat → Nat → Int32} {J : Nat → Nat → Int64} {p : Bool × Option Nat} (h : Inv tx n nb I J p) : LawC tx p I := h.1
theorem Inv.lawR {tx : List Ln} {n nb : Nat} {I : Nat → Nat → Int32} {J : Nat → Nat → Int64} {p : Bool × Option Nat} (h : Inv tx n nb I J p) : LawR tx I := h.2.1
theorem Inv.cn {tx : List Ln} {n nb : Nat} {I : Nat → Nat → Int32} {J : Nat → Nat → Int64} {p : Bool × Option Nat} (h : Inv tx n nb I J p) : I 1 4 = nI n := h.2.2.1
theorem Inv.rn {tx : List Ln} {n nb : Nat} {I : Nat → Nat → Int32} {J : Nat → Nat → Int64} {p : Bool × Option Nat} (h : Inv tx n nb I J p) : I 65 1 = nI n := h.2.2.2.1
theorem Inv.n8 {tx : List Ln} {n nb : Nat} {I : Nat → Nat → Int32} {J : Nat → Nat → Int64} {p : Bool × Option Nat} (h : Inv tx n nb I J p) : n ≤ 8 := h.2.2.2.2.1
theorem Inv.warm {tx : List Ln} {n nb : Nat} {I : Nat → Nat → Int32} {J : Nat → Nat → Int64} {p : Bool × Option Nat} (h : Inv tx n nb I J p) : I 66 = I 2 := h.2.2.2.2.2.1
theorem Inv.need {tx : List Ln} {n nb : Nat} {I : Nat → Nat → Int32} {J : Nat → Nat → Int64} {p : Bool × Option Nat} (h : Inv tx n nb I J p) : I 67 = I 3 := h.2.2.2.2.2.2.1
theorem Inv.part {tx : List Ln} {n nb : Nat} {I : Nat → Nat → Int32} {J : Nat → Nat → Int64} {p : Bool × Option Nat} (h : Inv tx n nb I J p) : I 68 = I 4 := h.2.2.2.2.2.2.2.1
theorem Inv.like {tx : List Ln} {n nb : Nat} {I : Nat → Nat → Int32} {J : Nat → Nat → Int64} {p : Bool × Option Nat} (h : Inv tx n nb I J p) : I 69 = I 5 := h.2.2.2.2.2.2.2.2.1
theorem Inv.cord {tx : List Ln} {n nb : Nat} {I : Nat → Nat → Int32} {J : Nat → Nat → Int64} {p : Bool × Option Nat} (h : Inv tx n nb I J p) : I 65 6 = I 1 5 := h.2.2.2.2.2.2.2.2.2.1
theorem Inv.cold {tx : List Ln} {n nb : Nat} {I : Nat → Nat → Int32} {J : Nat → Nat → Int64} {p : Bool × Option Nat} (h : Inv tx n nb I J p) : I 65 7 = I 1 6 := h.2.2.2.2.2.2.2.2.2.2.1
theorem Inv.pa {tx : List Ln} {n nb : Nat} {I : Nat → Nat → Int32} {J : Nat → Nat → Int64} {p : Bool × Option Nat} (h : Inv tx n nb I J p) : PA n (I 4) := h.2.2.2.2.2.2.2.2.2.2.2.1
theorem Inv.c4 {tx : List Ln} {n nb : Nat} {I : Nat → Nat → Int32} {J : Nat → Nat → Int64} {p : Bool × Option Nat} (h : Inv tx n nb I J p) : C4 (I 1 5) := h.2.2.2.2.2.2.2.2.2.2.2.2.1
theorem Inv.lk {tx : List Ln} {n nb : Nat} {I : Nat → Nat → Int32} {J : Nat → Nat → Int64} {p : Bool × Option Nat} (h : Inv tx n nb I J p) : LK 8 (I 5) := h.2.2.2.2.2.2.2.2.2.2.2.2.2.1
theorem Inv.mays {tx : List Ln} {n nb : Nat} {I : Nat → Nat → Int32} {J : Nat → Nat → Int64} {p : Bool × Option Nat} (h : Inv tx n nb I J p) : ∀ w a b, okN n w a b → sp_may w (I (sl w a b).1 (sl w a b).2) := h.2.2.2.2.2.2.2.2.2.2.2.2.2.2.1
theorem Inv.mt {tx : List Ln} {n nb : Nat} {I : Nat → Nat → Int32} {J : Nat → Nat → Int64} {p : Bool × Option Nat} (h : Inv tx n nb I J p) : MT n (I 36) := h.2.2.2.2.2.2.2.2.2.2.2.2.2.2.2.1
theorem Inv.to1 {tx : List Ln} {n nb : Nat} {I : Nat → Nat → Int32} {J : Nat → Nat → Int64} {p : Bool × Option Nat} (h : Inv tx n nb I J p) : ∀ l, l < n → I 36 l = I 70 l ∧ I 37 l = I 71 l := h.2.2.2.2.2.2.2.2.2.2.2.2.2.2.2.2.1
theorem Inv.to2 {tx : List Ln} {n nb : Nat} {I : Nat → Nat → Int32} {J : Nat → Nat → Int64} {p : Bool × Option Nat} (h : Inv tx n nb I J p) : ∀ l, n ≤ l → l < 8 → I 36 l = -1 ∧ I 37 l = nI 0 := h.2.2.2.2.2.2.2.2.2.2.2.2.2.2.2.2.2.1
theorem Inv.many {tx : List Ln} {n nb : Nat} {I : Nat → Nat → Int32} {J : Nat → Nat → Int64} {p : Bool × Option Nat} (h : Inv tx n nb I J p) : I 35 2 = nI (sp_cn (I 70) n) := h.2.2.2.2.2.2.2.2.2.2.2.2.2.2.2.2.2.2.1
theorem Inv.led {tx : List Ln} {n nb : Nat} {I : Nat → Nat → Int32} {J : Nat → Nat → Int64} {p : Bool × Option Nat} (h : Inv tx n nb I J p) : ∀ j, j < 4 → I 38 j = I 91 j := h.2.2.2.2.2.2.2.2.2.2.2.2.2.2.2.2.2.2.2.1
theorem Inv.kept {tx : List Ln} {n nb : Nat} {I : Nat → Nat → Int32} {J : Nat → Nat → Int64} {p : Bool × Option Nat} (h : Inv tx n nb I J p) : (I 34 8 = nI 0 ∧ I 65 49 = nI 0) ∨ (I 34 8 = nI 1 ∧ I 65 49 = nI 1 ∧ ∃ z, z ≤ n ∧ I 34 7 = nI z ∧ I 65 50 = nI z ∧ (∀ l, l < z → I 43 l = I 92 l ∧ I 40 l = I 93 l ∧ I 41 l = I 94 l ∧ sp_may 0 (I 43 l)) ∧ (∀ j, j < 4 → I 42 j = I 95 j) ∧ MT z (I 40) ∧ (∀ l, z ≤ l → l < 8 → I 40 l = -1 ∧ I 41 l = nI 0) ∧ I 39 2 = nI (sp_cn (I 93) z)) := h.2.2.2.2.2.2.2.2.2.2.2.2.2.2.2.2.2.2.2.2.1
theorem Inv.chg {tx : List Ln} {n nb : Nat} {I : Nat → Nat → Int32} {J : Nat → Nat → Int64} {p : Bool × Option Nat} (h : Inv tx n nb I J p) : ∃ dn un, dn + un ≤ 40 ∧ I 44 5 = nI dn ∧ I 44 6 = nI (dn + un) ∧ I 65 10 = nI dn ∧ I 65 11 = nI un ∧ ∀ k, k < dn + un → CHG n I k := h.2.2.2.2.2.2.2.2.2.2.2.2.2.2.2.2.2.2.2.2.2.1
theorem Inv.tape {tx : List Ln} {n nb : Nat} {I : Nat → Nat → Int32} {J : Nat → Nat → Int64} {p : Bool × Option Nat} (h : Inv tx n nb I J p) : ∃ c T, TP c T ∧ LTc c T I ∧ LTr c T I := h.2.2.2.2.2.2.2.2.2.2.2.2.2.2.2.2.2.2.2.2.2.2.1
theorem Inv.nb50 {tx : List Ln} {n nb : Nat} {I : Nat → Nat → Int32} {J : Nat → Nat → Int64} {p : Bool × Option Nat} (h : Inv tx n nb I J p) : nb ≤ 50 := h.2.2.2.2.2.2.2.2.2.2.2.2.2.2.2.2.2.2.2.2.2.2.2.1
theorem Inv.cb {tx : List Ln} {n nb : Nat} {I : Nat → Nat → Int32} {J : Nat → Nat → Int64} {p : Bool × Option Nat} (h : Inv tx n nb I J p) : I 49 2 = nI nb := h.2.2.2.2.2.2.2.2.2.2.2.2.2.2.2.2.2.2.2.2.2.2.2.2.1
theorem Inv.rb {tx : List Ln} {n nb : Nat} {I : Nat → Nat → Int32} {J : Nat → Nat → Int64} {p : Bool × Option Nat} (h : Inv tx n nb I J p) : I 65 55 = nI nb := h.2.2.2.2.2.2.2.2.2.2.2.2.2.2.2.2.2.2.2.2.2.2.2.2.2.1
theorem Inv.kind {tx : List Ln} {n nb : Nat} {I : Nat → Nat → Int32} {J : Nat → Nat → Int64} {p : Bool × Option Nat} (h : Inv tx n nb I J p) : I 96 = I 50 := h.2.2.2.2.2.2.2.2.2.2.2.2.2.2.2.2.2.2.2.2.2.2.2.2.2.2.1
theorem Inv.knd8 {tx : List Ln} {n nb : Nat} {I : Nat → Nat → Int32} {J : Nat → Nat → Int64} {p : Bool × Option Nat} (h : Inv tx n nb I J p) : ∀ b, b < nb → ∃ K, K < 8 ∧ I 50 b = nI K := h.2.2.2.2.2.2.2.2.2.2.2.2.2.2.2.2.2.2.2.2.2.2.2.2.2.2.2.1
theorem Inv.ran {tx : List Ln} {n nb : Nat} {I : Nat → Nat → Int32} {J : Nat → Nat → Int64} {p : Bool × Option Nat} (h : Inv tx n nb I J p) : ∃ q, q < 2 ^ 31 ∧ I 49 3 = nI q ∧ I 65 57 = nI q := h.2.2.2.2.2.2.2.2.2.2.2.2.2.2.2.2.2.2.2.2.2.2.2.2.2.2.2.2.1
theorem Inv.trac {tx : List Ln} {n nb : Nat} {I : Nat → Nat → Int32} {J : Nat → Nat → Int64} {p : Bool × Option Nat} (h : Inv tx n nb I J p) : I 97 = I 51 := h.2.2.2.2.2.2.2.2.2.2.2.2.2.2.2.2.2.2.2.2.2.2.2.2.2.2.2.2.2.1
theorem Inv.shl {tx : List Ln} {n nb : Nat} {I : Nat → Nat → Int32} {J : Nat → Nat → Int64} {p : Bool × Option Nat} (h : Inv tx n nb I J p) : ∀ s, s < 6 → SHL nb I s := h.2.2.2.2.2.2.2.2.2.2.2.2.2.2.2.2.2.2.2.2.2.2.2.2.2.2.2.2.2.2.1
theorem Inv.elem {tx : List Ln} {n nb : Nat} {I : Nat → Nat → Int32} {J : Nat → Nat → Int64} {p : Bool × Option Nat} (h : Inv tx n nb I J p) : ∀ s, s < 6 → ∀ j, J (54 + 2 * s) j = J 100 (60 * s + j) := h.2.2.2.2.2.2.2.2.2.2.2.2.2.2.2.2.2.2.2.2.2.2.2.2.2.2.2.2.2.2.2
theorem Inv.tw {tx : List Ln} {n nb : Nat} {I : Nat → Nat → Int32} {J : Nat → Nat → Int64} {p : Bool × Option Nat} (h : Inv tx n nb I J p) : TW tx n p I := ⟨h.lawC, h.cn, h.n8, h.pa, h.c4⟩
theorem Inv.lkr {tx : List Ln} {n nb : Nat} {I : Nat → Nat → Int32} {J : Nat → Nat → Int64} {p : Bool × Option Nat} (h : Inv tx n nb I J p) : LK n (I 69) := by rw [h.like]; exact fun a b ha hb => h.lk a b (Nat.lt_of_lt_of_le ha h.n8) (Nat.lt_of_lt_of_le hb h.n8)
theorem Inv.szC {tx : List Ln} {n nb : Nat} {I : Nat → Nat → Int32} {J : Nat → Nat → Int64} {p : Bool × Option Nat} (h : Inv tx n nb I J p) : ∀ s, s < 6 → ∃ z, z ≤ 60 ∧ I (53 + 2 * s) 4 = nI z := fun s hs => (h.shl s hs).2.1
theorem Inv.szR {tx : List Ln} {n nb : Nat} {I : Nat → Nat → Int32} {J : Nat → Nat → Int64} {p : Bool × Option Nat} (h : Inv tx n nb I J p) : ∀ s, s < 6 → ∃ z, z ≤ 60 ∧ I 99 s = nI z := fun s hs => (h.shl s hs).2.2
theorem rs_body {b : Nat} (hb : b < 50) : nI b ≠ -1 ∧ nI b ≠ -2 := ⟨nI_nm (by omega), fun e => by
  have := congrArg Int32.toInt e
  rw [nI_toInt (by omega), show (-2 : Int32).toInt = -2 from by decide +kernel] at this
  omega⟩
theorem SHL_E {nb : Nat} {I : Nat → Nat → Int32} {s : Nat} (hnb : nb ≤ 50) (h : SHL nb I s) : I (53 + 2 * s) 1 = nI 0 ↔ I 98 s = -1 := by
  rcases h.1 with ⟨h1, h2⟩ | ⟨b, hb, h1, _, h2⟩ | ⟨t, ht, h1, _, h2, _⟩
  · exact ⟨fun _ => h2, fun _ => h1⟩
  · rw [h1, h2]
    exact ⟨fun e => absurd e (by decide), fun e => absurd e (rs_body (by omega)).1⟩
  · rw [h1, h2]
    exact ⟨fun e => absurd e (by decide), fun e => absurd e (rs_1 ht)⟩
theorem SHL_B {nb : Nat} {I : Nat → Nat → Int32} {s : Nat} (hnb : nb ≤ 50) (h : SHL nb I s) : (I (53 + 2 * s) 1 = nI 2 ∧ I (53 + 2 * s) 3 = nI 0) ↔ I 98 s = -2 := by
  rcases h.1 with ⟨h1, h2⟩ | ⟨b, hb, h1, _, h2⟩ | ⟨t, ht, h1, h3, h2, _⟩
  · rw [h1, h2]
    exact ⟨fun e => absurd e.1 (by decide), fun e => absurd e (by decide)⟩
  · rw [h1, h2]
    exact ⟨fun e => absurd e.1 (by decide), fun e => absurd e (rs_body (by omega)).2⟩
  · rw [h1, h2, h3]
    rcases (by omega : t = 0 ∨ t = 1 ∨ t = 2 ∨ t = 3 ∨ t = 4) with rfl | rfl | rfl | rfl | rfl <;> decide +kernel
theorem SHL_Z {nb : Nat} {I : Nat → Nat → Int32} {s : Nat} (h : SHL nb I s) (h2 : I (53 + 2 * s) 1 = nI 2) : I 99 s = I (53 + 2 * s) 4 := by
  rcases h.1 with ⟨h1, _⟩ | ⟨b, hb, h1, _, _⟩ | ⟨t, ht, h1, h3, _, h4⟩
  · rw [h1] at h2; exact absurd h2 (by decide)
  · rw [h1] at h2; exact absurd h2 (by decide)
  · exact h4.symm
