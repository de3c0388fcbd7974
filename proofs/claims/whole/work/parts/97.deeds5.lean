/-! of -/
theorem nmb_sl {n k a b c d : Nat} (hn : n ≤ 8) (h1 : okN n k a b) (h2 : okN n k c d) (e : nmb k a b = nmb k c d) : sl k a b = sl k c d ∧ slR k a b = slR k c d := by
  have hw := h1.1
  have z1 := h1.2.2
  have z2 := h2.2.2
  rcases (by omega : k = 0 ∨ k = 1 ∨ k = 2 ∨ k = 3 ∨ k = 4 ∨ k = 5) with rfl | rfl | rfl | rfl | rfl | rfl
  · have e : a = c := e
    subst e; exact ⟨rfl, rfl⟩
  · have e : a = c := e
    subst e; exact ⟨rfl, rfl⟩
  · have e : a = c := e
    subst e; exact ⟨rfl, rfl⟩
  · have e : 10 * a + b = 10 * c + d := e
    have y1 := z1 rfl
    have y2 := z2 rfl
    obtain ⟨rfl, rfl⟩ : a = c ∧ b = d := by omega
    exact ⟨rfl, rfl⟩
  · exact ⟨rfl, rfl⟩
  · exact ⟨rfl, rfl⟩
theorem nmb_lt {n k a b : Nat} (hn : n ≤ 8) (h1 : okN n k a b) : nmb k a b < 100 := by
  have hw := h1.1
  have z0 := h1.2.1
  have z1 := h1.2.2
  rcases (by omega : k = 0 ∨ k = 1 ∨ k = 2 ∨ k = 3 ∨ k = 4 ∨ k = 5) with rfl | rfl | rfl | rfl | rfl | rfl <;> simp only [nmb] <;> first | omega | (have := z0 (by decide); omega) | (have := z1 rfl; omega)
theorem sl_slR {tx : List Ln} {n nb : Nat} {I : Nat → Nat → Int32} {J : Nat → Nat → Int64} {p : Bool × Option Nat} (h : Inv tx n nb I J p) {k a b : Nat} (ho : okN n k a b) : I (slR k a b).1 (slR k a b).2 = I (sl k a b).1 (sl k a b).2 := by
  have hw := ho.1
  rcases (by omega : k = 0 ∨ k = 1 ∨ k = 2 ∨ k = 3 ∨ k = 4 ∨ k = 5) with rfl | rfl | rfl | rfl | rfl | rfl
  · exact congrFun h.warm a
  · exact congrFun h.need a
  · exact congrFun h.part a
  · exact congrFun h.like (8 * a + b)
  · exact h.cord
  · exact h.cold
def OFN (n : Nat) (A B : Nat → Int32) (W : Nat → Nat → Nat → Int32) (x w v : Int32) : Prop := (∃ a, a < n ∧ x = nI a ∧ w = nI 6 ∧ v = A a) ∨ (∃ a, a < n ∧ x = nI a ∧ w = nI 7 ∧ v = B a) ∨ (∃ k a b, okN n k a b ∧ w = nI k ∧ x = nI (nmb k a b) ∧ v = W k a b) ∨ (¬ ((∃ a, a < n ∧ x = nI a) ∧ (w = nI 6 ∨ w = nI 7)) ∧ ¬ (∃ k, k < 6 ∧ w = nI k ∧ sp_num n k x) ∧ v = -2000000000)
theorem w_ne {k j : Nat} {w : Int32} (h : w = nI k) (h2 : w = nI j) (hk : k < 8) (hj : j < 8) (hne : k ≠ j) : False := by
  rw [h, n_eq (by omega) (by omega)] at h2
  exact hne h2
theorem OFN_fn {n : Nat} (hn : n ≤ 8) {A B A2 B2 : Nat → Int32} {W W2 : Nat → Nat → Nat → Int32} (hA : ∀ a, a < n → A a = A2 a) (hB : ∀ a, a < n → B a = B2 a) (hW : ∀ k a b c d, okN n k a b → okN n k c d → nmb k a b = nmb k c d → W k a b = W2 k c d) {x w v u : Int32} (h : OFN n A B W x w v) (h2 : OFN n A2 B2 W2 x w u) : v = u := by
  rcases h with ⟨a, ha, hx, hw, rfl⟩ | ⟨a, ha, hx, hw, rfl⟩ | ⟨k, a, b, ho, hw, hx, rfl⟩ | ⟨h1, h3, rfl⟩
  · rcases h2 with ⟨c, hc, hx2, hw2, rfl⟩ | ⟨c, hc, hx2, hw2, rfl⟩ | ⟨k2, c, d, ho2, hw2, hx2, rfl⟩ | ⟨h4, h5, rfl⟩
    · rw [hx, n_eq (by omega) (by omega)] at hx2
      subst hx2; exact hA a ha
    · exact (w_ne hw hw2 (by decide) (by decide) (by decide)).elim
    · exact (w_ne hw hw2 (by decide) (by have := ho2.1; omega) (by have := ho2.1; omega)).elim
    · exact absurd ⟨⟨a, ha, hx⟩, .inl hw⟩ h4
  · rcases h2 with ⟨c, hc, hx2, hw2, rfl⟩ | ⟨c, hc, hx2, hw2, rfl⟩ | ⟨k2, c, d, ho2, hw2, hx2, rfl⟩ | ⟨h4, h5, rfl⟩
    · exact (w_ne hw hw2 (by decide) (by decide) (by decide)).elim
    · rw [hx, n_eq (by omega) (by omega)] at hx2
      subst hx2; exact hB a ha
    · exact (w_ne hw hw2 (by decide) (by have := ho2.1; omega) (by have := ho2.1; omega)).elim
    · exact absurd ⟨⟨a, ha, hx⟩, .inr hw⟩ h4
  · have hk6 := ho.1
    rcases h2 with ⟨c, hc, hx2, hw2, rfl⟩ | ⟨c, hc, hx2, hw2, rfl⟩ | ⟨k2, c, d, ho2, hw2, hx2, rfl⟩ | ⟨h4, h5, rfl⟩
    · exact (w_ne hw hw2 (by omega) (by decide) (by omega)).elim
    · exact (w_ne hw hw2 (by omega) (by decide) (by omega)).elim
    · have hk2 := ho2.1
      rw [hw, n_eq (by omega) (by omega)] at hw2
      subst hw2
      have l1 := nmb_lt hn ho
      have l2 := nmb_lt hn ho2
      rw [hx, n_eq (by omega) (by omega)] at hx2
      exact hW k a b c d ho ho2 hx2
    · exact absurd ⟨k, hk6, hw, by rw [hx]; exact ok_sp_num ho⟩ h5
  · rcases h2 with ⟨c, hc, hx2, hw2, rfl⟩ | ⟨c, hc, hx2, hw2, rfl⟩ | ⟨k2, c, d, ho2, hw2, hx2, rfl⟩ | ⟨h4, h5, rfl⟩
    · exact absurd ⟨⟨c, hc, hx2⟩, .inl hw2⟩ h1
    · exact absurd ⟨⟨c, hc, hx2⟩, .inr hw2⟩ h1
    · exact absurd ⟨k2, ho2.1, hw2, by rw [hx2]; exact ok_sp_num ho2⟩ h3
    · rfl
theorem eq_of {tx : List Ln} {n nb : Nat} {I : Nat → Nat → Int32} {J : Nat → Nat → Int64} {p : Bool × Option Nat} (h : Inv tx n nb I J p) {x w v u : Int32} (hc : OFN n (fun a => if I 36 a = -1 then -2 else I 36 a) (I 37) (fun k a b => I (sl k a b).1 (sl k a b).2) x w v) (hr : OFN n (fun a => if I 70 a < 0 then -2 else I 70 a) (I 71) (fun k a b => I (slR k a b).1 (slR k a b).2) x w u) : v = u := by
  refine OFN_fn h.n8 (fun a ha => ?_) (fun a ha => (h.to1 a ha).2) (fun k a b c d ho ho2 e => ?_) hc hr
  · have hn8 := h.n8
    show (if I 36 a = -1 then -2 else I 36 a) = (if I 70 a < 0 then -2 else I 70 a)
    rw [← (h.to1 a ha).1]
    rcases h.mt a ha with z | ⟨k, hk, h1, h2, h3⟩
    · rw [z, if_pos rfl, if_pos (by decide)]
    · rw [h2, if_neg (nI_nm (by omega)), if_neg (n_nneg (by omega))]
  · show I (sl k a b).1 (sl k a b).2 = I (slR k c d).1 (slR k c d).2
    rw [sl_slR h ho2, (nmb_sl h.n8 ho ho2 e).1]
set_option maxRecDepth 20000 in
theorem stp_of {I : Nat → Nat → Int32} {J : Nat → Nat → Int64} {p : Bool × Option Nat} {ro : List (Nat × Nat × (Nat → Int32))} {tx : List Ln} {n nb : Nat} (h : Inv tx n nb I J p) {L i : Nat} {xs : Nat → Int32} (hi : i + 6 ≤ L) (hL : L ≤ 3072) (hscr : (1002, L, xs) ∈ ro) (hro : RO ro) {Q : Option Value → pm_M → Prop}  (kont : ∀ (tx : List Ln) (n nb : Nat) (I : Nat → Nat → Int32) (J : Nat → Nat → Int64) (p : Bool × Option Nat), Inv tx n nb I J p → Px 61 0 0 CL_law 1065 [some (.ref (1002)), some (.ref (0)), some (.ref (65)), some (.int (nI i))] [] (gS, I, J, gR p, ro) Q) : Px 61 0 0 CL_law 113 [some (.ref (1002)), some (.ref (0)), some (.ref (65)), some (.int (nI i))] [] (gS, I, J, gR p, ro) Q := by
  refine px_aload_n (kk := 1) rfl rfl rfl ?_
  refine px_aload_n (kk := 0) rfl rfl rfl ?_
  refine px_iload_n (kk := 3) rfl rfl rfl ?_
  refine px_iconst (v := nI 1) rfl k_1 ?_
  refine px_iaddN rfl ?_
  refine px_roald (j := (i + 1)) rfl hscr rfl (by omega) ?_
  refine px_aload_n (kk := 0) rfl rfl rfl ?_
  refine px_iload_n (kk := 3) rfl rfl rfl ?_
  refine px_iconst (v := nI 2) rfl k_2 ?_
  refine px_iaddN rfl ?_
  refine px_roald (j := (i + 2)) rfl hscr rfl (by omega) ?_
  refine px_callV0 CX11_of [] [.int _, .int _] (vX11_of h.cn h.n8) rfl gS_0 (by decide) rfl rfl rfl (Nat.le_of_ble_eq_true rfl) (by decide) ?_
  rintro _ _ - ⟨rfl, v, rfl, hv⟩
  refine px_aload_n (kk := 2) rfl rfl rfl ?_
  refine px_aload_n (kk := 0) rfl rfl rfl ?_
  refine px_iload_n (kk := 3) rfl rfl rfl ?_
  refine px_iconst (v := nI 1) rfl k_1 ?_
  refine px_iaddN rfl ?_
  refine px_roald (j := (i + 1)) rfl hscr rfl (by omega) ?_
  refine px_aload_n (kk := 0) rfl rfl rfl ?_
  refine px_iload_n (kk := 3) rfl rfl rfl ?_
  refine px_iconst (v := nI 2) rfl k_2 ?_
  refine px_iaddN rfl ?_
  refine px_roald (j := (i + 2)) rfl hscr rfl (by omega) ?_
  refine px_callV0 CX12_of [.int _] [.int _, .int _] (vX12_of h.rn h.n8) rfl gS_65 (by decide) rfl rfl rfl (Nat.le_of_ble_eq_true rfl) (by decide) ?_
  rintro _ _ - ⟨rfl, v2, rfl, hv2⟩
  have heq := eq_of h hv hv2
  refine px_icmp_eq rfl (fun c137 => ?_) (fun hZ => absurd (heq) hZ)
  exact kont _ _ _ _ _ _ h
