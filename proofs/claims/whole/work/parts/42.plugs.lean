/-! pairs that are in -/
def PG (q m h : Nat) : Prop := gS[q]? = some (6, 3) ∧ gS[m]? = some (100, 8) ∧ gS[h]? = some (100, 8) ∧ (∀ p, gR p q 0 = some m) ∧ (∀ p, gR p q 1 = some h) ∧ m ≠ h ∧ m ≠ q ∧ h ≠ q ∧ h ≠ m ∧ q ≠ m ∧ q ≠ h ∧ q ≠ 1 ∧ m ≠ 1 ∧ h ≠ 1
theorem PG_th : PG 16 17 18 := ⟨rfl, rfl, rfl, fun _ => rfl, fun _ => rfl, by decide, by decide, by decide, by decide, by decide, by decide, by decide, by decide, by decide⟩
theorem PG_be : PG 19 20 21 := ⟨rfl, rfl, rfl, fun _ => rfl, fun _ => rfl, by decide, by decide, by decide, by decide, by decide, by decide, by decide, by decide, by decide⟩
theorem PG_od : PG 30 31 32 := ⟨rfl, rfl, rfl, fun _ => rfl, fun _ => rfl, by decide, by decide, by decide, by decide, by decide, by decide, by decide, by decide, by decide⟩
theorem PG_de : PG 35 36 37 := ⟨rfl, rfl, rfl, fun _ => rfl, fun _ => rfl, by decide, by decide, by decide, by decide, by decide, by decide, by decide, by decide, by decide⟩
theorem PG_ke : PG 39 40 41 := ⟨rfl, rfl, rfl, fun _ => rfl, fun _ => rfl, by decide, by decide, by decide, by decide, by decide, by decide, by decide, by decide, by decide⟩
def cp8 (f g : Nat → Int32) : Nat → Int32 := fun j => if j < 8 then f j else g j
theorem cpy_8 (f g : Nat → Int32) : va_cpy f g 0 0 8 = cp8 f g := by
  funext k
  simp only [va_cpy, cp8, Nat.zero_le, true_and, Nat.zero_add, Nat.sub_zero]
theorem vX6_clear {I : Nat → Nat → Int32} {J : Nat → Nat → Int64} {p : Bool × Option Nat} {ro : List (Nat × Nat × (Nat → Int32))} {q m h : Nat} (hq : PG q m h) : Pv 1 0 0 CX6_clear [.ref (q)] (gS, I, J, gR p, ro) (qV (gS, (va_up (va_up (va_up I m (fun j => if j < 8 then -1 else I m j)) h (fun j => if j < 8 then nI 0 else I h j)) q (va_up (I q) 2 (nI 0))), J, gR p, ro)) := by
  refine ⟨okCX6_clear, Nat.le_of_ble_eq_true rfl, (show Px _ _ _ _ 0 [some (.ref (q))] [] _ _ from ?_)⟩
  refine px_aload_n (kk := 0) rfl rfl rfl ?_
  refine px_getR (r := m) rfl hq.1 rfl (hq.2.2.2.1 _) ?_
  refine px_iconst (v := -1) rfl k_m1 ?_
  refine px_callS0 CJ7_fill_53178 [] [.ref _, .int _] (vJ_fillI hq.2.1 (by decide) (-1)) rfl rfl rfl (Nat.le_of_ble_eq_true rfl) (by decide) ?_
  rintro _ _ - ⟨rfl, rfl⟩
  refine px_aload_n (kk := 0) rfl rfl rfl ?_
  refine px_getR (r := h) rfl hq.1 rfl (hq.2.2.2.2.1 _) ?_
  refine px_iconst (v := nI 0) rfl k_0 ?_
  refine px_callS0 CJ7_fill_53178 [] [.ref _, .int _] (vJ_fillI hq.2.2.1 (by decide) (nI 0)) rfl rfl rfl (Nat.le_of_ble_eq_true rfl) (by decide) ?_
  rintro _ _ - ⟨rfl, rfl⟩
  refine px_aload_n (kk := 0) rfl rfl rfl ?_
  refine px_iconst (v := nI 0) rfl k_0 ?_
  refine px_putI rfl hq.1 rfl rfl ?_
  refine px_return rfl rfl ?_
  obtain ⟨-, -, -, -, -, n1, n2, n3, n4, n5, n6, n7, n8, n9⟩ := hq
  exact ⟨rfl, by simp only [p_up_s, up2, p_up_n _ _ n1, p_up_n _ _ n2, p_up_n _ _ n3, p_up_n _ _ n4, p_up_n _ _ n5, p_up_n _ _ n6]⟩
theorem vX6_takes {I : Nat → Nat → Int32} {J : Nat → Nat → Int64} {p : Bool × Option Nat} {ro : List (Nat × Nat × (Nat → Int32))} {q m h : Nat} (hq : PG q m h) {n : Nat} (hn : I 1 4 = nI n) (hn8 : n ≤ 8) {x y : Int32} : Pv 2 0 0 CX6_takes [.ref (q), .ref (1), .int (x), .int (y)] (gS, I, J, gR p, ro) (qB (∃ a b, a < n ∧ b < n ∧ a ≠ b ∧ x = nI a ∧ y = nI b ∧ I m a = -1 ∧ I m b = -1 ∧ I q 2 < I 1 5) (gS, I, J, gR p, ro)) := by
  refine ⟨okCX6_takes, Nat.le_of_ble_eq_true rfl, (show Px _ _ _ _ 0 [some (.ref (q)), some (.ref (1)), some (.int (x)), some (.int (y))] [] _ _ from ?_)⟩
  refine px_aload_n (kk := 1) rfl rfl rfl ?_
  refine px_iload_n (kk := 2) rfl rfl rfl ?_
  refine px_iload_n (kk := 3) rfl rfl rfl ?_
  refine px_callV0 CX9_areTwo [] [.int _, .int _] (vX9_areTwo hn hn8) rfl gS_1 (by decide) rfl rfl rfl (Nat.le_of_ble_eq_true rfl) (by decide) ?_
  rintro _ _ - (⟨⟨a, b, ha, hb, hne, rfl, rfl⟩, rfl, rfl⟩ | ⟨hf, rfl, rfl⟩)
  · refine px_if_eq rfl (fun h => absurd h (by decide)) (fun _ => ?_)
    have ha8 : a < 8 := by omega
    have hb8 : b < 8 := by omega
    refine px_aload_n (kk := 0) rfl rfl rfl ?_
    refine px_getR (r := m) rfl hq.1 rfl (hq.2.2.2.1 _) ?_
    refine px_iload_n (kk := 2) rfl rfl rfl ?_
    refine px_iald (j := a) rfl hq.2.1 rfl (by omega) ?_
    refine px_iconst (v := -1) rfl k_m1 ?_
    refine px_icmp_ne rfl (fun c10 => ?_) (fun c10 => ?_)
    · refine px_iconst (v := nI 0) rfl k_0 ?_
      refine px_ireturn rfl (.inr ⟨rfl, by decide⟩) ?_
      exact qB_f (fun ⟨a2, b2, h1, h2, _, e1, e2, h3, h4, h5⟩ => by rw [n_eq (by omega) (by omega)] at e1; subst e1; exact c10 h3)
    · refine px_aload_n (kk := 0) rfl rfl rfl ?_
      refine px_getR (r := m) rfl hq.1 rfl (hq.2.2.2.1 _) ?_
      refine px_iload_n (kk := 3) rfl rfl rfl ?_
      refine px_iald (j := b) rfl hq.2.1 rfl (by omega) ?_
      refine px_iconst (v := -1) rfl k_m1 ?_
      refine px_icmp_ne rfl (fun c16 => ?_) (fun c16 => ?_)
      · refine px_iconst (v := nI 0) rfl k_0 ?_
        refine px_ireturn rfl (.inr ⟨rfl, by decide⟩) ?_
        exact qB_f (fun ⟨a2, b2, h1, h2, _, e1, e2, h3, h4, h5⟩ => by rw [n_eq (by omega) (by omega)] at e2; subst e2; exact c16 h4)
      · refine px_aload_n (kk := 0) rfl rfl rfl ?_
        refine px_getI rfl hq.1 rfl ?_
        refine px_aload_n (kk := 1) rfl rfl rfl ?_
        refine px_getI rfl gS_1 rfl ?_
        refine px_icmp_ge rfl (fun c21 => ?_) (fun c21 => ?_)
        · refine px_iconst (v := nI 0) rfl k_0 ?_
          refine px_ireturn rfl (.inr ⟨rfl, by decide⟩) ?_
          exact qB_f (fun ⟨a2, b2, h1, h2, _, e1, e2, h3, h4, h5⟩ => by rw [i_lt] at h5; rw [i_le] at c21; omega)
        · refine px_iconst (v := nI 1) rfl k_1 ?_
          refine px_goto rfl ?_
          refine px_ireturn rfl (.inr ⟨rfl, by decide⟩) ?_
          exact qB_t ⟨a, b, ha, hb, hne, rfl, rfl, c10, c16, by rw [i_lt]; rw [i_le] at c21; omega⟩
  · refine px_if_eq rfl (fun _ => ?_) (fun h => absurd h (by decide))
    refine px_iconst (v := nI 0) rfl k_0 ?_
    refine px_ireturn rfl (.inr ⟨rfl, by decide⟩) ?_
    exact qB_f (fun ⟨a2, b2, h1, h2, h3, e1, e2, _⟩ => hf ⟨a2, b2, h1, h2, h3, e1, e2⟩)
theorem vX6_tie {I : Nat → Nat → Int32} {J : Nat → Nat → Int64} {p : Bool × Option Nat} {ro : List (Nat × Nat × (Nat → Int32))} {q m h : Nat} (hq : PG q m h) {a b : Nat} (ha : a < 8) (hb : b < 8) {v : Int32} : Pv 0 0 0 CX6_tie [.ref (q), .int (nI a), .int (nI b), .int (v)] (gS, I, J, gR p, ro) (qV (gS, (va_up (va_up (va_up I m (va_up (va_up (I m) a (nI b)) b (nI a))) h (va_up (va_up (I h) a v) b v)) q (va_up (I q) 2 (I q 2 + nI 1))), J, gR p, ro)) := by
  refine ⟨okCX6_tie, Nat.le_of_ble_eq_true rfl, (show Px _ _ _ _ 0 [some (.ref (q)), some (.int (nI a)), some (.int (nI b)), some (.int (v))] [] _ _ from ?_)⟩
  refine px_aload_n (kk := 0) rfl rfl rfl ?_
  refine px_getR (r := m) rfl hq.1 rfl (hq.2.2.2.1 _) ?_
  refine px_iload_n (kk := 1) rfl rfl rfl ?_
  refine px_iload_n (kk := 2) rfl rfl rfl ?_
  refine px_iast (j := a) rfl hq.2.1 rfl (by omega) ?_
  refine px_aload_n (kk := 0) rfl rfl rfl ?_
  refine px_getR (r := m) rfl hq.1 rfl (hq.2.2.2.1 _) ?_
  refine px_iload_n (kk := 2) rfl rfl rfl ?_
  refine px_iload_n (kk := 1) rfl rfl rfl ?_
  refine px_iast (j := b) rfl hq.2.1 rfl (by omega) ?_
  refine px_aload_n (kk := 0) rfl rfl rfl ?_
  refine px_getR (r := h) rfl hq.1 rfl (hq.2.2.2.2.1 _) ?_
  refine px_iload_n (kk := 1) rfl rfl rfl ?_
  refine px_iload_n (kk := 3) rfl rfl rfl ?_
  refine px_iast (j := a) rfl hq.2.2.1 rfl (by omega) ?_
  refine px_aload_n (kk := 0) rfl rfl rfl ?_
  refine px_getR (r := h) rfl hq.1 rfl (hq.2.2.2.2.1 _) ?_
  refine px_iload_n (kk := 2) rfl rfl rfl ?_
  refine px_iload_n (kk := 3) rfl rfl rfl ?_
  refine px_iast (j := b) rfl hq.2.2.1 rfl (by omega) ?_
  refine px_aload_n (kk := 0) rfl rfl rfl ?_
  refine px_dup rfl rfl ?_
  refine px_getI rfl hq.1 rfl ?_
  refine px_iconst (v := nI 1) rfl k_1 ?_
  refine px_iadd rfl ?_
  refine px_putI rfl hq.1 rfl rfl ?_
  refine px_return rfl rfl ?_
  obtain ⟨-, -, -, -, -, n1, n2, n3, n4, n5, n6, n7, n8, n9⟩ := hq
  exact ⟨rfl, by simp only [p_up_s, up2, p_up_n _ _ n1, p_up_n _ _ n2, p_up_n _ _ n3, p_up_n _ _ n4, p_up_n _ _ n5, p_up_n _ _ n6]⟩
theorem vX6_untie {I : Nat → Nat → Int32} {J : Nat → Nat → Int64} {p : Bool × Option Nat} {ro : List (Nat × Nat × (Nat → Int32))} {q m h : Nat} (hq : PG q m h) {a b : Nat} (ha : a < 8) (hb : b < 8) : Pv 0 0 0 CX6_untie [.ref (q), .int (nI a), .int (nI b)] (gS, I, J, gR p, ro) (qV (gS, (va_up (va_up (va_up I m (va_up (va_up (I m) a (-1)) b (-1))) h (va_up (va_up (I h) a (nI 0)) b (nI 0))) q (va_up (I q) 2 (I q 2 - nI 1))), J, gR p, ro)) := by
  refine ⟨okCX6_untie, Nat.le_of_ble_eq_true rfl, (show Px _ _ _ _ 0 [some (.ref (q)), some (.int (nI a)), some (.int (nI b))] [] _ _ from ?_)⟩
  refine px_aload_n (kk := 0) rfl rfl rfl ?_
  refine px_getR (r := m) rfl hq.1 rfl (hq.2.2.2.1 _) ?_
  refine px_iload_n (kk := 1) rfl rfl rfl ?_
  refine px_iconst (v := -1) rfl k_m1 ?_
  refine px_iast (j := a) rfl hq.2.1 rfl (by omega) ?_
  refine px_aload_n (kk := 0) rfl rfl rfl ?_
  refine px_getR (r := m) rfl hq.1 rfl (hq.2.2.2.1 _) ?_
  refine px_iload_n (kk := 2) rfl rfl rfl ?_
  refine px_iconst (v := -1) rfl k_m1 ?_
  refine px_iast (j := b) rfl hq.2.1 rfl (by omega) ?_
  refine px_aload_n (kk := 0) rfl rfl rfl ?_
  refine px_getR (r := h) rfl hq.1 rfl (hq.2.2.2.2.1 _) ?_
  refine px_iload_n (kk := 1) rfl rfl rfl ?_
  refine px_iconst (v := nI 0) rfl k_0 ?_
  refine px_iast (j := a) rfl hq.2.2.1 rfl (by omega) ?_
  refine px_aload_n (kk := 0) rfl rfl rfl ?_
  refine px_getR (r := h) rfl hq.1 rfl (hq.2.2.2.2.1 _) ?_
  refine px_iload_n (kk := 2) rfl rfl rfl ?_
  refine px_iconst (v := nI 0) rfl k_0 ?_
  refine px_iast (j := b) rfl hq.2.2.1 rfl (by omega) ?_
  refine px_aload_n (kk := 0) rfl rfl rfl ?_
  refine px_dup rfl rfl ?_
  refine px_getI rfl hq.1 rfl ?_
  refine px_iconst (v := nI 1) rfl k_1 ?_
  refine px_isub rfl ?_
  refine px_putI rfl hq.1 rfl rfl ?_
  refine px_return rfl rfl ?_
  obtain ⟨-, -, -, -, -, n1, n2, n3, n4, n5, n6, n7, n8, n9⟩ := hq
  exact ⟨rfl, by simp only [p_up_s, up2, p_up_n _ _ n1, p_up_n _ _ n2, p_up_n _ _ n3, p_up_n _ _ n4, p_up_n _ _ n5, p_up_n _ _ n6]⟩
theorem vX6_hoursOf {I : Nat → Nat → Int32} {J : Nat → Nat → Int64} {p : Bool × Option Nat} {ro : List (Nat × Nat × (Nat → Int32))} {q m h : Nat} (hq : PG q m h) {a : Nat} (ha : a < 8) {y : Int32} : Pv 0 0 0 CX6_hoursOf [.ref (q), .int (nI a), .int (y)] (gS, I, J, gR p, ro) (qI (if I m a = y then I h a else nI 0) (gS, I, J, gR p, ro)) := by
  refine ⟨okCX6_hoursOf, Nat.le_of_ble_eq_true rfl, (show Px _ _ _ _ 0 [some (.ref (q)), some (.int (nI a)), some (.int (y))] [] _ _ from ?_)⟩
  refine px_aload_n (kk := 0) rfl rfl rfl ?_
  refine px_getR (r := m) rfl hq.1 rfl (hq.2.2.2.1 _) ?_
  refine px_iload_n (kk := 1) rfl rfl rfl ?_
  refine px_iald (j := a) rfl hq.2.1 rfl (by omega) ?_
  refine px_iload_n (kk := 2) rfl rfl rfl ?_
  refine px_icmp_ne rfl (fun c5 => ?_) (fun c5 => ?_)
  · refine px_iconst (v := nI 0) rfl k_0 ?_
    refine px_ireturn rfl (.inl rfl) ?_
    exact ⟨by rw [if_neg c5], rfl⟩
  · refine px_aload_n (kk := 0) rfl rfl rfl ?_
    refine px_getR (r := h) rfl hq.1 rfl (hq.2.2.2.2.1 _) ?_
    refine px_iload_n (kk := 1) rfl rfl rfl ?_
    refine px_iald (j := a) rfl hq.2.2.1 rfl (by omega) ?_
    refine px_goto rfl ?_
    refine px_ireturn rfl (.inl rfl) ?_
    exact ⟨by rw [if_pos c5], rfl⟩
theorem vX6_copy {I : Nat → Nat → Int32} {J : Nat → Nat → Int64} {p : Bool × Option Nat} {ro : List (Nat × Nat × (Nat → Int32))} {q m h : Nat} (hq : PG q m h) {q2 m2 k2 : Nat} (hq2 : PG q2 m2 k2) (d1 : k2 ≠ m) (d2 : q2 ≠ m) (d3 : q2 ≠ h) : Pv 0 0 0 CX6_copy [.ref (q), .ref (q2)] (gS, I, J, gR p, ro) (qV (gS, (va_up (va_up (va_up I m (cp8 (I m2) (I m))) h (cp8 (I k2) (I h))) q (va_up (I q) 2 (I q2 2))), J, gR p, ro)) := by
  refine ⟨okCX6_copy, Nat.le_of_ble_eq_true rfl, (show Px _ _ _ _ 0 [some (.ref (q)), some (.ref (q2))] [] _ _ from ?_)⟩
  refine px_aload_n (kk := 1) rfl rfl rfl ?_
  refine px_getR (r := m2) rfl hq2.1 rfl (hq2.2.2.2.1 _) ?_
  refine px_iconst (v := nI 0) rfl k_0 ?_
  refine px_aload_n (kk := 0) rfl rfl rfl ?_
  refine px_getR (r := m) rfl hq.1 rfl (hq.2.2.2.1 _) ?_
  refine px_iconst (v := nI 0) rfl k_0 ?_
  refine px_bipush (v := nI 8) rfl b_8 ?_
  refine px_copyI (0) (0) (8) rfl (Nat.le_of_ble_eq_true rfl) hq2.2.1 hq.2.1 rfl rfl rfl (by decide) (by decide) ?_
  refine px_aload_n (kk := 1) rfl rfl rfl ?_
  refine px_getR (r := k2) rfl hq2.1 rfl (hq2.2.2.2.2.1 _) ?_
  refine px_iconst (v := nI 0) rfl k_0 ?_
  refine px_aload_n (kk := 0) rfl rfl rfl ?_
  refine px_getR (r := h) rfl hq.1 rfl (hq.2.2.2.2.1 _) ?_
  refine px_iconst (v := nI 0) rfl k_0 ?_
  refine px_bipush (v := nI 8) rfl b_8 ?_
  refine px_copyI (0) (0) (8) rfl (Nat.le_of_ble_eq_true rfl) hq2.2.2.1 hq.2.2.1 rfl rfl rfl (by decide) (by decide) ?_
  refine px_aload_n (kk := 0) rfl rfl rfl ?_
  refine px_aload_n (kk := 1) rfl rfl rfl ?_
  refine px_getI rfl hq2.1 rfl ?_
  refine px_putI rfl hq.1 rfl rfl ?_
  refine px_return rfl rfl ?_
  obtain ⟨-, -, -, -, -, n1, n2, n3, n4, n5, n6, n7, n8, n9⟩ := hq
  exact ⟨rfl, by simp only [cpy_8, p_up_s, up2, p_up_n _ _ n1, p_up_n _ _ n2, p_up_n _ _ n3, p_up_n _ _ n4, p_up_n _ _ n5, p_up_n _ _ n6, p_up_n _ _ d1, p_up_n _ _ d2, p_up_n _ _ d3]⟩
theorem age_0 (I : Nat → Nat → Int32) (h m : Nat) : I = va_up I h (fun j => if j < 0 ∧ I m j ≠ -1 then I h j + nI 1 else I h j) := by
  funext c
  by_cases hc : c = h
  · subst hc; rw [p_up_s]; funext j; rw [if_neg (by omega)]
  · rw [p_up_n _ _ hc]
theorem age_s (f g : Nat → Int32) (k : Nat) (hk : g k ≠ -1) : va_up (fun j => if j < k ∧ g j ≠ -1 then f j + nI 1 else f j) k (f k + nI 1) = fun j => if j < k + 1 ∧ g j ≠ -1 then f j + nI 1 else f j := by
  funext j
  by_cases h : j = k
  · subst h; rw [p_up_s, if_pos ⟨by omega, hk⟩]
  · rw [p_up_n _ _ h]
    by_cases h2 : j < k
    · simp only [h2, show j < k + 1 by omega]
    · simp only [h2, show ¬ j < k + 1 by omega]
theorem age_n (f g : Nat → Int32) (k : Nat) (hk : g k = -1) : (fun j => if j < k ∧ g j ≠ -1 then f j + nI 1 else f j) = fun j => if j < k + 1 ∧ g j ≠ -1 then f j + nI 1 else f j := by
  funext j
  by_cases h : j = k
  · subst h; rw [if_neg (fun z => z.2 hk), if_neg (fun z => z.2 hk)]
  · by_cases h2 : j < k
    · simp only [h2, show j < k + 1 by omega]
    · simp only [h2, show ¬ j < k + 1 by omega]
theorem lX6_age {I : Nat → Nat → Int32} {J : Nat → Nat → Int64} {p : Bool × Option Nat} {ro : List (Nat × Nat × (Nat → Int32))} {q m h : Nat} (hq : PG q m h) {k : Nat} (hk : k ≤ 8) : Px 0 0 0 CX6_age 2 [some (.ref (q)), some (.int (nI k))] [] (gS, (va_up I h (fun j => if j < k ∧ I m j ≠ -1 then I h j + nI 1 else I h j)), J, gR p, ro) (qV (gS, (va_up I h (fun j => if j < 8 ∧ I m j ≠ -1 then I h j + nI 1 else I h j)), J, gR p, ro)) := by
  refine px_iload_n (kk := 1) rfl rfl rfl ?_
  refine px_bipush (v := nI 8) rfl b_8 ?_
  refine px_icmp_ge rfl (fun c4 => ?_) (fun c4 => ?_)
  · refine px_return rfl rfl ?_
    rw [n_le (by omega) (by omega)] at c4
    obtain rfl : k = 8 := by omega
    exact ⟨rfl, rfl⟩
  · rw [n_le (by omega) (by omega)] at c4
    refine px_aload_n (kk := 0) rfl rfl rfl ?_
    refine px_getR (r := m) rfl hq.1 rfl (hq.2.2.2.1 _) ?_
    refine px_iload_n (kk := 1) rfl rfl rfl ?_
    refine px_iald (j := k) rfl hq.2.1 rfl (by omega) ?_
    refine px_iconst (v := -1) rfl k_m1 ?_
    refine px_icmp_eq rfl (fun c10 => ?_) (fun c10 => ?_)
    · refine px_iinc1 (v := nI (k + 1)) rfl (n_inc k) rfl (by decide) ?_
      refine px_goto rfl ?_
      have n1 := hq.2.2.2.2.2.1
      rw [p_up_n _ _ n1] at c10
      rw [age_n (I h) (I m) k c10]
      exact lX6_age hq (k := k + 1) (by omega)
    · refine px_aload_n (kk := 0) rfl rfl rfl ?_
      refine px_getR (r := h) rfl hq.1 rfl (hq.2.2.2.2.1 _) ?_
      refine px_iload_n (kk := 1) rfl rfl rfl ?_
      refine px_dup2 rfl rfl rfl ?_
      refine px_iald (j := k) rfl hq.2.2.1 rfl (by omega) ?_
      refine px_iconst (v := nI 1) rfl k_1 ?_
      refine px_iadd rfl ?_
      refine px_iast (j := k) rfl hq.2.2.1 rfl (by omega) ?_
      refine px_iinc1 (v := nI (k + 1)) rfl (n_inc k) rfl (by decide) ?_
      refine px_goto rfl ?_
      have n1 := hq.2.2.2.2.2.1
      rw [p_up_n _ _ n1] at c10
      refine px_mem (show _ = va_up I h (fun j => if j < k + 1 ∧ I m j ≠ -1 then I h j + nI 1 else I h j) from ?_) ?_
      · rw [up2, p_up_s, if_neg (by omega), age_s (I h) (I m) k c10]
      · exact lX6_age hq (k := k + 1) (by omega)
termination_by 8 - k
decreasing_by all_goals (have h := ‹¬ nI 8 ≤ nI k›; rw [n_le (by omega) (by omega)] at h; omega)
theorem vX6_age {I : Nat → Nat → Int32} {J : Nat → Nat → Int64} {p : Bool × Option Nat} {ro : List (Nat × Nat × (Nat → Int32))} {q m h : Nat} (hq : PG q m h) : Pv 0 0 0 CX6_age [.ref (q)] (gS, I, J, gR p, ro) (qV (gS, (va_up I h (fun j => if j < 8 ∧ I m j ≠ -1 then I h j + nI 1 else I h j)), J, gR p, ro)) := by
  refine ⟨okCX6_age, Nat.le_of_ble_eq_true rfl, (show Px _ _ _ _ 0 [some (.ref (q)), none] [] _ _ from ?_)⟩
  refine px_iconst (v := nI 0) rfl k_0 ?_
  refine px_ist1 rfl rfl (by decide) ?_
  refine px_mem (age_0 I h m) ?_
  exact lX6_age hq (k := 0) (by omega)
theorem lX6_bits {I : Nat → Nat → Int32} {J : Nat → Nat → Int64} {p : Bool × Option Nat} {ro : List (Nat × Nat × (Nat → Int32))} {q m h : Nat} (hq : PG q m h) {k : Nat} (hk : k ≤ 8) : Px 0 0 0 CX6_bits 4 [some (.ref (q)), some (.int ((sp_bits (fun l => decide (I m l ≠ -1)) k))), some (.int (nI k))] [] (gS, I, J, gR p, ro) (qI (sp_bits (fun l => decide (I m l ≠ -1)) 8) (gS, I, J, gR p, ro)) := by
  refine px_iload_n (kk := 2) rfl rfl rfl ?_
  refine px_bipush (v := nI 8) rfl b_8 ?_
  refine px_icmp_ge rfl (fun c6 => ?_) (fun c6 => ?_)
  · refine px_iload_n (kk := 1) rfl rfl rfl ?_
    refine px_ireturn rfl (.inl rfl) ?_
    rw [n_le (by omega) (by omega)] at c6
    obtain rfl : k = 8 := by omega
    exact ⟨rfl, rfl⟩
  · rw [n_le (by omega) (by omega)] at c6
    refine px_aload_n (kk := 0) rfl rfl rfl ?_
    refine px_getR (r := m) rfl hq.1 rfl (hq.2.2.2.1 _) ?_
    refine px_iload_n (kk := 2) rfl rfl rfl ?_
    refine px_iald (j := k) rfl hq.2.1 rfl (by omega) ?_
    refine px_iconst (v := -1) rfl k_m1 ?_
    refine px_icmp_eq rfl (fun c12 => ?_) (fun c12 => ?_)
    · refine px_iinc2 (v := nI (k + 1)) rfl (n_inc k) rfl (by decide) ?_
      refine px_goto rfl ?_
      rw [show (sp_bits (fun l => decide (I m l ≠ -1)) k) = (sp_bits (fun l => decide (I m l ≠ -1)) (k + 1)) by simp only [sp_bits]; rw [if_neg (by simpa using c12)]]
      exact lX6_bits hq (k := k + 1) (by omega)
    · refine px_iload_n (kk := 1) rfl rfl rfl ?_
      refine px_iconst (v := nI 1) rfl k_1 ?_
      refine px_iload_n (kk := 2) rfl rfl rfl ?_
      refine px_ishl rfl ?_
      refine px_ior rfl ?_
      refine px_ist1 rfl rfl (by decide) ?_
      refine px_iinc2 (v := nI (k + 1)) rfl (n_inc k) rfl (by decide) ?_
      refine px_goto rfl ?_
      rw [show (sp_bits (fun l => decide (I m l ≠ -1)) k) ||| (nI 1 <<< (nI k &&& 31)) = (sp_bits (fun l => decide (I m l ≠ -1)) (k + 1)) by simp only [sp_bits]; rw [if_pos (by simpa using c12)]]
      exact lX6_bits hq (k := k + 1) (by omega)
termination_by 8 - k
decreasing_by all_goals (have h := ‹¬ nI 8 ≤ nI k›; rw [n_le (by omega) (by omega)] at h; omega)
theorem vX6_bits {I : Nat → Nat → Int32} {J : Nat → Nat → Int64} {p : Bool × Option Nat} {ro : List (Nat × Nat × (Nat → Int32))} {q m h : Nat} (hq : PG q m h) : Pv 0 0 0 CX6_bits [.ref (q)] (gS, I, J, gR p, ro) (qI (sp_bits (fun l => decide (I m l ≠ -1)) 8) (gS, I, J, gR p, ro)) := by
  refine ⟨okCX6_bits, Nat.le_of_ble_eq_true rfl, (show Px _ _ _ _ 0 [some (.ref (q)), none, none] [] _ _ from ?_)⟩
  refine px_iconst (v := nI 0) rfl k_0 ?_
  refine px_ist1 rfl rfl (by decide) ?_
  refine px_iconst (v := nI 0) rfl k_0 ?_
  refine px_ist2 rfl rfl (by decide) ?_
  exact lX6_bits hq (k := 0) (by omega)
