/-! stable, back, hour -/
/-- how many of the last m are free -/
def fc (M : Nat → Int32) (n : Nat) : Nat → Nat
  | 0 => 0
  | m + 1 => fc M n m + if M (n - (m + 1)) = -1 then 1 else 0
theorem fc_le (M : Nat → Int32) (n : Nat) : ∀ m, fc M n m ≤ m
  | 0 => Nat.le_refl _
  | m + 1 => by
    have := fc_le M n m
    simp only [fc]
    split <;> omega
theorem fc_cg {M N : Nat → Int32} {n : Nat} : ∀ {m : Nat}, (∀ e, n - m ≤ e → e < n → N e = M e) → m ≤ n → fc N n m = fc M n m
  | 0, _, _ => rfl
  | m + 1, h, hm => by
    simp only [fc]
    rw [fc_cg (fun e h1 h2 => h e (by omega) h2) (by omega), h (n - (m + 1)) (by omega) (by omega)]
theorem fc_up {M : Nat → Int32} {n e : Nat} {v : Int32} (he : e < n) (hM : M e = -1) (hv : v ≠ -1) : ∀ {m : Nat}, m ≤ n → n - m ≤ e → fc (va_up M e v) n m + 1 = fc M n m
  | 0, _, h => by omega
  | m + 1, hm, h => by
    simp only [fc]
    by_cases q : e = n - (m + 1)
    · rw [← q, p_up_s, if_neg hv, if_pos hM, fc_cg (M := M) (fun x h1 _ => p_up_n _ _ (by omega)) (by omega)]
    · have z := fc_up he hM hv (m := m) (by omega) (by omega)
      rw [p_up_n _ _ (fun z => q z.symm)]
      omega
theorem fc_0 {M : Nat → Int32} {n : Nat} : ∀ {m : Nat}, m ≤ n → fc M n m = 0 → ∀ e, n - m ≤ e → e < n → M e ≠ -1
  | 0, _, _, e, h1, h2 => by omega
  | m + 1, hm, h, e, h1, h2 => by
    simp only [fc] at h
    by_cases q : e = n - (m + 1)
    · intro z
      rw [q] at z
      rw [if_pos z] at h
      omega
    · exact fc_0 (m := m) (by omega) (by omega) e (by omega) h2
theorem sp_loop_cg {f g : Nat → VS → VS} : ∀ (c e : Nat) (v : VS), (∀ x, e ≤ x → x < e + c → ∀ v, f x v = g x v) → sp_loop f c e v = sp_loop g c e v
  | 0, _, _, _ => rfl
  | c + 1, e, v, h => by
    simp only [sp_loop]
    rw [h e (Nat.le_refl _) (by omega)]
    exact sp_loop_cg c (e + 1) _ (fun x h1 h2 => h x (by omega) (by omega))
theorem sp_loop_id {f : Nat → VS → VS} : ∀ (c e : Nat) (v : VS), (∀ x, e ≤ x → x < e + c → ∀ v, f x v = v) → sp_loop f c e v = v
  | 0, _, _, _ => rfl
  | c + 1, e, v, h => by
    simp only [sp_loop]
    rw [h e (Nat.le_refl _) (by omega)]
    exact sp_loop_id c (e + 1) _ (fun x h1 h2 => h x (by omega) (by omega))
theorem sp_go_cc {n : Nat} {V : (Nat → Int32) → VS → VS} (hn : n ≤ 8) : ∀ (m c d : Nat) (M : Nat → Int32) (v : VS), m ≤ n → fc M n m ≤ 2 * c + 1 → fc M n m ≤ 2 * d + 1 → sp_go n V m c M v = sp_go n V m d M v
  | 0, c, d, M, v, _, _, _ => by simp only [sp_go]
  | m + 1, c, d, M, v, hm, hc, hd => by
    unfold sp_go
    by_cases hk : M (n - (m + 1)) = -1
    · have hf : fc M n (m + 1) = fc M n m + 1 := by simp only [fc]; rw [if_pos hk]
      have zz : ∀ c, fc M n m = 0 → ∀ w, sp_loop (fun e v => if M e ≠ -1 then v else sp_go n V m (c - 1) (va_up (va_up M (n - (m + 1)) (nI e)) e (nI (n - (m + 1)))) v) m (n - m) w = w := fun c h0 w => sp_loop_id _ _ _ (fun x h1 h2 v => if_pos (fc_0 (by omega) h0 x h1 (by omega)))
      by_cases c0 : c = 0
      · rw [if_pos (.inr c0)]
        by_cases d0 : d = 0
        · rw [if_pos (.inr d0), c0, d0]
        · rw [if_neg (fun z => z.elim (fun z => z hk) d0), zz d (by omega)]
          exact sp_go_cc hn m c d M v (by omega) (by omega) (by omega)
      · rw [if_neg (fun z => z.elim (fun z => z hk) c0)]
        by_cases d0 : d = 0
        · rw [if_pos (.inr d0), zz c (by omega)]
          exact sp_go_cc hn m c d M v (by omega) (by omega) (by omega)
        · rw [if_neg (fun z => z.elim (fun z => z hk) d0), sp_go_cc hn m c d M v (by omega) (by omega) (by omega)]
          refine sp_loop_cg _ _ _ (fun x h1 h2 w => ?_)
          show (if M x ≠ -1 then w else _) = (if M x ≠ -1 then w else _)
          by_cases hx : M x = -1
          · rw [if_neg (fun z => z hx), if_neg (fun z => z hx)]
            have z1 := fc_up (M := va_up M (n - (m + 1)) (nI x)) (n := n) (e := x) (v := nI (n - (m + 1))) (by omega) (by rw [p_up_n _ _ (by omega)]; exact hx) (nI_nm (by omega)) (m := m) (by omega) (by omega)
            have z2 := fc_cg (M := M) (N := va_up M (n - (m + 1)) (nI x)) (n := n) (m := m) (fun e h1 h2 => p_up_n _ _ (by omega)) (by omega)
            exact sp_go_cc hn m (c - 1) (d - 1) _ w (by omega) (by omega) (by omega)
          · rw [if_pos hx, if_pos hx]
    · rw [if_pos (.inl hk), if_pos (.inl hk)]
      have hf : fc M n (m + 1) = fc M n m := by simp only [fc]; rw [if_neg hk]; rfl
      exact sp_go_cc hn m c d M v (by omega) (by omega) (by omega)
theorem sp_seek_48 {aim n : Nat} (hn : n ≤ 8) {tx : List Ln} {L P N W : Nat → Int32} {cold : Int32} {z : Nat} {E : Nat → Int32} : sp_seek aim n tx L P N W cold z E 4 = sp_seek aim n tx L P N W cold z E 8 := by
  have h := fc_le n1 n n
  exact sp_go_cc hn n 4 8 n1 v0 (Nat.le_refl _) (by omega) (by omega)
theorem eq_stable {tx : List Ln} {n nb : Nat} {I : Nat → Nat → Int32} {J : Nat → Nat → Int64} {p : Bool × Option Nat} (h : Inv tx n nb I J p) {y : Int32} {v v2 : Int32} (hc : (ASK (-1) (¬ y < -1) (if y = -1 then nI (sp_seek 2 n tx (I 5) (I 4) (I 3) (I 2) (I 1 6) 0 (fun _ => nI 0) 4).2.2.1 else sp_pair (sp_seek 2 n tx (I 5) (I 4) (I 3) (I 2) (I 1 6) 0 (fun _ => nI 0) 4).1 y n 0 0)) v) (hr : (ASK (-1) (¬ y < -1) (if y = -1 then nI (sp_seek 2 n tx (I 69) (I 68) (I 67) (I 66) (I 65 7) 0 (fun _ => nI 0) 8).2.2.1 else sp_pair (sp_seek 2 n tx (I 69) (I 68) (I 67) (I 66) (I 65 7) 0 (fun _ => nI 0) 8).1 y n 0 0)) v2) : v = v2 := by
  rw [h.warm, h.need, h.part, h.like, h.cold] at hr
  rw [sp_seek_48 h.n8] at hc
  exact ASK_fn hc hr Iff.rfl (fun _ => rfl)
set_option maxRecDepth 20000 in
theorem stp_stable {I : Nat → Nat → Int32} {J : Nat → Nat → Int64} {p : Bool × Option Nat} {ro : List (Nat × Nat × (Nat → Int32))} {tx : List Ln} {n nb : Nat} (h : Inv tx n nb I J p) {L i : Nat} {xs : Nat → Int32} (hi : i + 6 ≤ L) (hL : L ≤ 3072) (hscr : (1002, L, xs) ∈ ro) (hro : RO ro) {Q : Option Value → pm_M → Prop}  (kont : ∀ (tx : List Ln) (n nb : Nat) (I : Nat → Nat → Int32) (J : Nat → Nat → Int64) (p : Bool × Option Nat), Inv tx n nb I J p → Px 61 0 0 CL_law 1065 [some (.ref (1002)), some (.ref (0)), some (.ref (65)), some (.int (nI i))] [] (gS, I, J, gR p, ro) Q) : Px 61 0 0 CL_law 413 [some (.ref (1002)), some (.ref (0)), some (.ref (65)), some (.int (nI i))] [] (gS, I, J, gR p, ro) Q := by
  refine px_aload_n (kk := 1) rfl rfl rfl ?_
  refine px_aload_n (kk := 0) rfl rfl rfl ?_
  refine px_iload_n (kk := 3) rfl rfl rfl ?_
  refine px_iconst (v := nI 1) rfl k_1 ?_
  refine px_iaddN rfl ?_
  refine px_roald (j := (i + 1)) rfl hscr rfl (by omega) ?_
  refine px_callV0 CX11_stable [] [.int _] (vX11_stable h.tw) rfl gS_0 (by decide) rfl rfl rfl (Nat.le_of_ble_eq_true rfl) (by decide) ?_
  rintro _ _ - ⟨v, rfl, hv, I1, J1, b, rfl, hF, hK, hJ⟩
  have h1 := Inv_th h hF hK hJ b
  obtain ⟨cd, hcd4, hcd⟩ := h1.c4
  refine px_aload_n (kk := 2) rfl rfl rfl ?_
  refine px_aload_n (kk := 0) rfl rfl rfl ?_
  refine px_iload_n (kk := 3) rfl rfl rfl ?_
  refine px_iconst (v := nI 1) rfl k_1 ?_
  refine px_iaddN rfl ?_
  refine px_roald (j := (i + 1)) rfl hscr rfl (by omega) ?_
  refine px_callV0 CX12_stable [.int _] [.int _] (vX12_stable h1.lawR h1.rn h1.n8 h1.lkr) rfl gS_65 (by decide) rfl rfl rfl (Nat.le_of_ble_eq_true rfl) (by decide) ?_
  rintro _ _ - ⟨v2, rfl, hv2, I2, J2, rfl, hF2, hK2, hJ2⟩
  rw [hF 69 (by decide), hF 68 (by decide), hF 67 (by decide), hF 66 (by decide), hF 65 (by decide)] at hv2
  have heq := eq_stable h hv hv2
  have h2 := Inv_rt h1 hF2 hK2 hJ2
  refine px_icmp_eq rfl (fun c427 => ?_) (fun hZ => absurd (heq) hZ)
  exact kont _ _ _ _ _ _ h2
theorem Inv_bk {tx : List Ln} {n nb : Nat} {I I1 : Nat → Nat → Int32} {J : Nat → Nat → Int64} {p : Bool × Option Nat} (h : Inv tx n nb I J p) (e : ∀ c, c ∉ ([2, 35, 36, 37, 38, 66, 70, 71, 91] : List Nat) → I1 c = I c) (hwm : I1 66 = I1 2) (hmy : ∀ w a b, okN n w a b → sp_may w (I1 (sl w a b).1 (sl w a b).2)) (hmt : MT n (I1 36)) (ht1 : ∀ l, l < n → I1 36 l = I1 70 l ∧ I1 37 l = I1 71 l) (ht2 : ∀ l, n ≤ l → l < 8 → I1 36 l = -1 ∧ I1 37 l = nI 0) (hmn : I1 35 2 = nI (sp_cn (I1 70) n)) (hld : ∀ j, j < 4 → I1 38 j = I1 91 j) : Inv tx n nb I1 J p := ⟨
  LawC_mv h.lawC (fun k hk => by rw [e 6 (by decide)]) (e 9 (by decide)) (e 10 (by decide)),
  LawR_mv h.lawR (by rw [e 65 (by decide)]) (fun c hc => e c (by revert hc; revert c; decide)),
  by rw [e 1 (by decide)]; exact h.cn,
  by rw [e 65 (by decide)]; exact h.rn,
  h.n8,
  hwm,
  by rw [e 67 (by decide), e 3 (by decide)]; exact h.need,
  by rw [e 68 (by decide), e 4 (by decide)]; exact h.part,
  by rw [e 69 (by decide), e 5 (by decide)]; exact h.like,
  by rw [e 65 (by decide), e 1 (by decide)]; exact h.cord,
  by rw [e 65 (by decide), e 1 (by decide)]; exact h.cold,
  by rw [e 4 (by decide)]; exact h.pa,
  by rw [e 1 (by decide)]; exact h.c4,
  by rw [e 5 (by decide)]; exact h.lk,
  hmy,
  hmt,
  ht1,
  ht2,
  hmn,
  hld,
  by rw [e 34 (by decide), e 65 (by decide), e 43 (by decide), e 92 (by decide), e 40 (by decide), e 93 (by decide), e 41 (by decide), e 94 (by decide), e 42 (by decide), e 95 (by decide), e 39 (by decide)]; exact h.kept,
  by have z := h.chg; simp only [CHG] at z ⊢; rw [e 44 (by decide), e 45 (by decide), e 46 (by decide), e 47 (by decide), e 48 (by decide), e 72 (by decide), e 73 (by decide), e 74 (by decide), e 75 (by decide), e 65 (by decide)]; exact z,
  (match h.tape with | ⟨c, T, a, b, d⟩ => ⟨c, T, a, ⟨(congrFun (e 6 (by decide)) 5).trans b.1, fun j hj => by rw [e 7 (by decide)]; exact b.2 j hj⟩, ⟨(congrFun (e 65 (by decide)) 17).trans d.1, fun j hj => by rw [e 76 (by decide)]; exact d.2 j hj⟩⟩),
  h.nb50,
  by rw [e 49 (by decide)]; exact h.cb,
  by rw [e 65 (by decide)]; exact h.rb,
  by rw [e 96 (by decide), e 50 (by decide)]; exact h.kind,
  by rw [e 50 (by decide)]; exact h.knd8,
  by rw [e 49 (by decide), e 65 (by decide)]; exact h.ran,
  by rw [e 97 (by decide), e 51 (by decide)]; exact h.trac,
  fun s hs => by have z := h.shl s hs; unfold SHL at z ⊢; rw [e _ (fun z => by simp only [List.mem_cons, List.not_mem_nil, or_false] at z; omega), e 98 (by decide), e 99 (by decide)]; exact z,
  h.elem⟩
theorem mays_0 {tx : List Ln} {n nb : Nat} {I I1 : Nat → Nat → Int32} {J : Nat → Nat → Int64} {p : Bool × Option Nat} (h : Inv tx n nb I J p) (e : ∀ c, c ∈ [1, 3, 4, 5] → I1 c = I c) (e2 : ∀ l, l < n → sp_may 0 (I1 2 l)) : ∀ w a b, okN n w a b → sp_may w (I1 (sl w a b).1 (sl w a b).2) := by
  intro w a b ho
  have hw := ho.1
  rcases (by omega : w = 0 ∨ w = 1 ∨ w = 2 ∨ w = 3 ∨ w = 4 ∨ w = 5) with rfl | rfl | rfl | rfl | rfl | rfl
  · exact e2 a (ho.2.1 (by decide))
  · have z := h.mays 1 a b ho
    show sp_may 1 (I1 3 a)
    rw [e 3 (by decide)]; exact z
  · have z := h.mays 2 a b ho
    show sp_may 2 (I1 4 a)
    rw [e 4 (by decide)]; exact z
  · have z := h.mays 3 a b ho
    show sp_may 3 (I1 5 (8 * a + b))
    rw [e 5 (by decide)]; exact z
  · have z := h.mays 4 a b ho
    show sp_may 4 (I1 1 5)
    rw [e 1 (by decide)]; exact z
  · have z := h.mays 5 a b ho
    show sp_may 5 (I1 1 6)
    rw [e 1 (by decide)]; exact z
theorem sp_cn_ext {M N : Nat → Int32} {z : Nat} (h1 : ∀ l, l < z → N l = M l) : ∀ {n : Nat}, n ≤ 8 → z ≤ n → (∀ l, z ≤ l → l < n → N l = -1) → sp_cn N n = sp_cn M z
  | 0, _, hz, _ => by
    obtain rfl : z = 0 := by omega
    rfl
  | n + 1, hn, hz, h => by
    by_cases e : z = n + 1
    · subst e; exact sp_cn_congr h1
    · rw [sp_cn, h n (by omega) (by omega), if_neg (fun z => absurd z (nm1_lt (by omega))), sp_cn_ext h1 (by omega) (by omega) (fun l a b => h l a (by omega))]; rfl
theorem lb_o (I : Nat → Nat → Int32) (z : Nat) {c : Nat} (hc : c ∉ [2, 35, 36, 37, 38]) : sp_lbM I z c = I c := by
  simp only [List.mem_cons, List.not_mem_nil, or_false, not_or] at hc
  unfold sp_lbM
  rw [p_up_n _ _ hc.1, p_up_n _ _ hc.2.2.2.2, p_up_n _ _ hc.2.1, p_up_n _ _ hc.2.2.2.1, p_up_n _ _ hc.2.2.1]
theorem lb_c (I : Nat → Nat → Int32) (z : Nat) : sp_lbM I z 2 = (fun j => if j < z then I 43 j else I 2 j) ∧ (∀ l, l < 8 → sp_lbM I z 36 l = I 40 l ∧ sp_lbM I z 37 l = I 41 l) ∧ sp_lbM I z 35 2 = I 39 2 ∧ ∀ j, j < 4 → sp_lbM I z 38 j = I 42 j := by
  unfold sp_lbM
  refine ⟨?_, fun l hl => ⟨?_, ?_⟩, ?_, fun j hj => ?_⟩
  · rw [p_up_s]
    funext j
    unfold va_cpy
    by_cases h : j < z
    · rw [if_pos ⟨Nat.zero_le _, by omega⟩, if_pos h]; congr 1; omega
    · rw [if_neg (by omega), if_neg h]
  · rw [p_up_n _ _ (by decide), p_up_n _ _ (by decide), p_up_n _ _ (by decide), p_up_n _ _ (by decide), p_up_s, cp8_l hl]
  · rw [p_up_n _ _ (by decide), p_up_n _ _ (by decide), p_up_n _ _ (by decide), p_up_s, cp8_l hl]
  · rw [p_up_n _ _ (by decide), p_up_n _ _ (by decide), p_up_s, p_up_s]
  · rw [p_up_n _ _ (by decide), p_up_s, cpy_l hj]
set_option maxRecDepth 20000 in
theorem stp_back {I : Nat → Nat → Int32} {J : Nat → Nat → Int64} {p : Bool × Option Nat} {ro : List (Nat × Nat × (Nat → Int32))} {tx : List Ln} {n nb : Nat} (h : Inv tx n nb I J p) {L i : Nat} {xs : Nat → Int32} (hi : i + 6 ≤ L) (hL : L ≤ 3072) (hscr : (1002, L, xs) ∈ ro) (hro : RO ro) {Q : Option Value → pm_M → Prop}  (kont : ∀ (tx : List Ln) (n nb : Nat) (I : Nat → Nat → Int32) (J : Nat → Nat → Int64) (p : Bool × Option Nat), Inv tx n nb I J p → Px 61 0 0 CL_law 1065 [some (.ref (1002)), some (.ref (0)), some (.ref (65)), some (.int (nI i))] [] (gS, I, J, gR p, ro) Q) : Px 61 0 0 CL_law 719 [some (.ref (1002)), some (.ref (0)), some (.ref (65)), some (.int (nI i))] [] (gS, I, J, gR p, ro) Q := by
  have hn8 := h.n8
  rcases h.kept with ⟨k1, k2⟩ | ⟨k1, k2, z, hz, k3, k4, k5, k6, k7, k8, k9⟩
  · have heq : (-5 : Int32) = -5 := rfl
    refine px_aload_n (kk := 1) rfl rfl rfl ?_
    refine px_callV0 CX11_back [] [] (vX11_back_f k1) rfl gS_0 (by decide) rfl rfl rfl (Nat.le_of_ble_eq_true rfl) (by decide) ?_
    rintro _ _ - ⟨rfl, rfl⟩
    refine px_aload_n (kk := 2) rfl rfl rfl ?_
    refine px_callV0 CX12_back [.int _] [] (vX12_back_f k2) rfl gS_65 (by decide) rfl rfl rfl (Nat.le_of_ble_eq_true rfl) (by decide) ?_
    rintro _ _ - ⟨rfl, rfl⟩
    refine px_icmp_eq rfl (fun c723 => ?_) (fun hZ => absurd (heq) hZ)
    exact kont _ _ _ _ _ _ h
  · have heq : I 42 0 = I 95 0 := k6 0 (by decide)
    have hlc := lb_c I z
    refine px_aload_n (kk := 1) rfl rfl rfl ?_
    refine px_callV0 CX11_back [] [] (vX11_back_t k1 k3 (by omega)) rfl gS_0 (by decide) rfl rfl rfl (Nat.le_of_ble_eq_true rfl) (by decide) ?_
    rintro _ _ - ⟨rfl, rfl⟩
    refine px_aload_n (kk := 2) rfl rfl rfl ?_
    refine px_callV0 CX12_back [.int _] [] (vX12_back_t (I := sp_lbM I z) (n := n) (by rw [lb_o I z (c := 65) (by decide)]; exact h.rn) hn8 (m := z) (by rw [lb_o I z (c := 65) (by decide)]; exact k2) (by rw [lb_o I z (c := 65) (by decide)]; exact k4) hz) rfl gS_65 (by decide) rfl rfl rfl (Nat.le_of_ble_eq_true rfl) (by decide) ?_
    rintro _ _ - ⟨rfl, I2, rfl, hF, f1, f2, f3⟩
    rw [lb_o I z (c := 95) (by decide)]
    refine px_icmp_eq rfl (fun c723 => ?_) (fun hZ => absurd (heq) hZ)
    have e40 : ∀ l, l < n → I 40 l = if l < z then I 93 l else -1 := fun l hl => by
      by_cases q : l < z
      · rw [if_pos q]; exact (k5 l q).2.1
      · rw [if_neg q]; exact (k8 l (by omega) (by omega)).1
    have e41 : ∀ l, l < n → I 41 l = if l < z then I 94 l else nI 0 := fun l hl => by
      by_cases q : l < z
      · rw [if_pos q]; exact (k5 l q).2.2.1
      · rw [if_neg q]; exact (k8 l (by omega) (by omega)).2
    rw [lb_o I z (c := 92) (by decide), lb_o I z (c := 66) (by decide)] at f1
    rw [lb_o I z (c := 93) (by decide), lb_o I z (c := 94) (by decide)] at f2
    rw [lb_o I z (c := 95) (by decide)] at f3
    refine kont _ _ _ _ _ _ (Inv_bk h (fun c hc => ?_) ?_ (mays_0 h (fun c hc => ?_) (fun l hl => ?_)) ?_ (fun l hl => ⟨?_, ?_⟩) (fun l h1 h2 => ⟨?_, ?_⟩) ?_ (fun j hj => ?_))
    · simp only [List.mem_cons, List.not_mem_nil, or_false, not_or] at hc
      rw [hF c (by simp only [List.mem_cons, List.not_mem_nil, or_false, not_or]; omega)]
      exact lb_o I z (by simp only [List.mem_cons, List.not_mem_nil, or_false, not_or]; omega)
    · rw [f1, hF 2 (by decide), hlc.1]
      funext j
      by_cases q : j < z
      · rw [if_pos q, if_pos q]; exact (k5 j q).1.symm
      · rw [if_neg q, if_neg q, h.warm]
    · simp only [List.mem_cons, List.not_mem_nil, or_false] at hc
      rw [hF c (by simp only [List.mem_cons, List.not_mem_nil, or_false, not_or]; omega)]
      exact lb_o I z (by simp only [List.mem_cons, List.not_mem_nil, or_false, not_or]; omega)
    · rw [hF 2 (by decide), hlc.1]
      show sp_may 0 (if l < z then I 43 l else I 2 l)
      by_cases q : l < z
      · rw [if_pos q]; exact (k5 l q).2.2.2
      · rw [if_neg q]; exact h.mays 0 l 0 ⟨by decide, fun _ => hl, fun z => absurd z (by decide)⟩
    · rw [hF 36 (by decide)]
      intro l hl
      rw [(hlc.2.1 l (by omega)).1]
      by_cases q : l < z
      · rcases k7 l q with y | ⟨k, hk, y1, y2, y3⟩
        · exact .inl y
        · exact .inr ⟨k, by omega, y1, y2, by rw [(hlc.2.1 k (by omega)).1]; exact y3⟩
      · left; exact (k8 l (by omega) (by omega)).1
    · rw [hF 36 (by decide), (hlc.2.1 l (by omega)).1, (f2 l hl).1, e40 l hl]
    · rw [hF 37 (by decide), (hlc.2.1 l (by omega)).2, (f2 l hl).2, e41 l hl]
    · rw [hF 36 (by decide), (hlc.2.1 l h2).1]; exact (k8 l (by omega) h2).1
    · rw [hF 37 (by decide), (hlc.2.1 l h2).2]; exact (k8 l (by omega) h2).2
    · rw [hF 35 (by decide), hlc.2.2.1, k9]
      refine congrArg nI (Eq.symm (sp_cn_ext (fun l hl => ?_) hn8 hz (fun l h1 h2 => ?_)))
      · rw [(f2 l (by omega)).1, if_pos hl]
      · rw [(f2 l h2).1, if_neg (by omega)]
    · rw [hF 38 (by decide), hlc.2.2.2 j hj, f3 j hj]; exact k6 j hj
theorem Inv_hr {tx : List Ln} {n nb : Nat} {I I1 : Nat → Nat → Int32} {J : Nat → Nat → Int64} {p : Bool × Option Nat} (h : Inv tx n nb I J p) (e : ∀ c, c ∉ ([6, 8, 12, 13, 2, 37, 38, 66, 71, 82, 83, 84, 85, 86, 87, 91] : List Nat) → I1 c = I c) (h6 : K6 I I1) (hwm : I1 66 = I1 2) (hmy : ∀ w a b, okN n w a b → sp_may w (I1 (sl w a b).1 (sl w a b).2)) (ht1 : ∀ l, l < n → I1 36 l = I1 70 l ∧ I1 37 l = I1 71 l) (ht2 : ∀ l, n ≤ l → l < 8 → I1 36 l = -1 ∧ I1 37 l = nI 0) (hld : ∀ j, j < 4 → I1 38 j = I1 91 j) : Inv tx n nb I1 J p := ⟨
  LawC_mv h.lawC h6 (e 9 (by decide)) (e 10 (by decide)),
  LawR_mv h.lawR (by rw [e 65 (by decide)]) (fun c hc => e c (by revert hc; revert c; decide)),
  by rw [e 1 (by decide)]; exact h.cn,
  by rw [e 65 (by decide)]; exact h.rn,
  h.n8,
  hwm,
  by rw [e 67 (by decide), e 3 (by decide)]; exact h.need,
  by rw [e 68 (by decide), e 4 (by decide)]; exact h.part,
  by rw [e 69 (by decide), e 5 (by decide)]; exact h.like,
  by rw [e 65 (by decide), e 1 (by decide)]; exact h.cord,
  by rw [e 65 (by decide), e 1 (by decide)]; exact h.cold,
  by rw [e 4 (by decide)]; exact h.pa,
  by rw [e 1 (by decide)]; exact h.c4,
  by rw [e 5 (by decide)]; exact h.lk,
  hmy,
  by rw [e 36 (by decide)]; exact h.mt,
  ht1,
  ht2,
  by rw [e 35 (by decide), e 70 (by decide)]; exact h.many,
  hld,
  by rw [e 34 (by decide), e 65 (by decide), e 43 (by decide), e 92 (by decide), e 40 (by decide), e 93 (by decide), e 41 (by decide), e 94 (by decide), e 42 (by decide), e 95 (by decide), e 39 (by decide)]; exact h.kept,
  by have z := h.chg; simp only [CHG] at z ⊢; rw [e 44 (by decide), e 45 (by decide), e 46 (by decide), e 47 (by decide), e 48 (by decide), e 72 (by decide), e 73 (by decide), e 74 (by decide), e 75 (by decide), e 65 (by decide)]; exact z,
  (match h.tape with | ⟨c, T, a, b, d⟩ => ⟨c, T, a, ⟨(h6 5 (by decide)).trans b.1, fun j hj => by rw [e 7 (by decide)]; exact b.2 j hj⟩, ⟨(congrFun (e 65 (by decide)) 17).trans d.1, fun j hj => by rw [e 76 (by decide)]; exact d.2 j hj⟩⟩),
  h.nb50,
  by rw [e 49 (by decide)]; exact h.cb,
  by rw [e 65 (by decide)]; exact h.rb,
  by rw [e 96 (by decide), e 50 (by decide)]; exact h.kind,
  by rw [e 50 (by decide)]; exact h.knd8,
  by rw [e 49 (by decide), e 65 (by decide)]; exact h.ran,
  by rw [e 97 (by decide), e 51 (by decide)]; exact h.trac,
  fun s hs => by have z := h.shl s hs; unfold SHL at z ⊢; rw [e _ (fun z => by simp only [List.mem_cons, List.not_mem_nil, or_false] at z; omega), e 98 (by decide), e 99 (by decide)]; exact z,
  h.elem⟩
theorem MT_neg {n l : Nat} {M : Nat → Int32} (hn : n ≤ 8) (hM : MT n M) (hl : l < n) : M l ≠ -1 ↔ ¬ M l < 0 := by
  rcases hM l hl with z | ⟨k, hk, h1, h2, h3⟩
  · rw [z]; exact ⟨fun z => absurd rfl z, fun z => absurd (by decide) z⟩
  · rw [h2]; exact ⟨fun _ => n_nneg (by omega), fun _ => nI_nm (by omega)⟩
set_option maxRecDepth 20000 in
theorem stp_hour {I : Nat → Nat → Int32} {J : Nat → Nat → Int64} {p : Bool × Option Nat} {ro : List (Nat × Nat × (Nat → Int32))} {tx : List Ln} {n nb : Nat} (h : Inv tx n nb I J p) {L i : Nat} {xs : Nat → Int32} (hi : i + 6 ≤ L) (hL : L ≤ 3072) (hscr : (1002, L, xs) ∈ ro) (hro : RO ro) {Q : Option Value → pm_M → Prop}  (kont : ∀ (tx : List Ln) (n nb : Nat) (I : Nat → Nat → Int32) (J : Nat → Nat → Int64) (p : Bool × Option Nat), Inv tx n nb I J p → Px 61 0 0 CL_law 1065 [some (.ref (1002)), some (.ref (0)), some (.ref (65)), some (.int (nI i))] [] (gS, I, J, gR p, ro) Q) : Px 61 0 0 CL_law 688 [some (.ref (1002)), some (.ref (0)), some (.ref (65)), some (.int (nI i))] [] (gS, I, J, gR p, ro) Q := by
  have hn8 := h.n8
  refine px_aload_n (kk := 1) rfl rfl rfl ?_
  refine px_callV0 CX11_hour [] [] (vX11_hour h.lawC h.cn h.n8 h.mt h.pa) rfl gS_0 (by decide) rfl rfl rfl (Nat.le_of_ble_eq_true rfl) (by decide) ?_
  rintro _ _ - ⟨rfl, I2, rfl, hF, hK, g2, g37, g38⟩
  have G : ∀ c, c ∉ [6, 8, 12, 13, 2, 37, 38] → I2 c = I c := fun c hc => hF c hc
  have hT2 : LawR tx I2 := LawR_mv h.lawR (by rw [G 65 (by decide)]) (fun c hc => G c (by revert hc; revert c; decide))
  have hx : ∀ l, l < n → (sp_nx tx n (I 5) (I 4) (I 1 6) (I 2) (I 70) (I 71)) l = (sp_nx tx n (I 5) (I 4) (I 1 6) (I 2) (I 36) (I 37)) l := fun l hl => sp_nx_congr hn8 h.mt (fun _ _ => rfl) (fun j hj => ((h.to1 j hj).1).symm) (fun j hj => ((h.to1 j hj).2).symm) hl
  refine px_aload_n (kk := 2) rfl rfl rfl ?_
  refine px_callV0 CX12_hour [.int _] [] (vX12_hour hT2 (n := n) (by rw [G 65 (by decide)]; exact h.rn) h.n8 (by rw [G 70 (by decide)]; exact MT_congr h.to1 h.mt) (by rw [G 69 (by decide)]; exact h.lkr) (fun l hl => by rw [G 66 (by decide), h.warm]; exact h.mays 0 l 0 ⟨by decide, fun _ => hl, fun z => absurd z (by decide)⟩)) rfl gS_65 (by decide) rfl rfl rfl (Nat.le_of_ble_eq_true rfl) (by decide) ?_
  rintro _ _ - ⟨rfl, I3, rfl, hF3, f1, f2, f3⟩
  rw [G 69 (by decide), G 68 (by decide), G 65 (by decide), G 66 (by decide), G 70 (by decide), G 71 (by decide), h.like, h.part, h.cold, h.warm] at f1
  rw [G 70 (by decide), G 71 (by decide)] at f2
  rw [G 69 (by decide), G 68 (by decide), G 65 (by decide), G 66 (by decide), G 70 (by decide), G 71 (by decide), G 91 (by decide), h.like, h.part, h.cold, h.warm] at f3
  have heq : sp_bits (fun l => decide (I 3 l ≤ (sp_nx tx n (I 5) (I 4) (I 1 6) (I 2) (I 36) (I 37)) l)) n = sp_bits (fun l => decide (I2 67 l ≤ sp_nx tx n (I2 69) (I2 68) (I2 65 7) (I2 66) (I2 70) (I2 71) l)) n := by
    rw [G 67 (by decide), G 69 (by decide), G 68 (by decide), G 65 (by decide), G 66 (by decide), G 70 (by decide), G 71 (by decide), h.like, h.part, h.cold, h.warm, h.need]
    exact sp_bits_congr (fun l hl => by rw [hx l hl])
  refine px_icmp_eq rfl (fun c692 => ?_) (fun hZ => absurd (heq) hZ)
  refine kont _ _ _ _ _ _ (Inv_hr h (fun c hc => ?_) (fun k hk => ?_) ?_ (mays_0 h (fun c hc => ?_) (fun l hl => ?_)) (fun l hl => ⟨?_, ?_⟩) (fun l h1 h2 => ⟨?_, ?_⟩) (fun j hj => ?_))
  · simp only [List.mem_cons, List.not_mem_nil, or_false, not_or] at hc
    rw [hF3 c (by simp only [List.mem_cons, List.not_mem_nil, or_false, not_or]; omega)]
    exact G c (by simp only [List.mem_cons, List.not_mem_nil, or_false, not_or]; omega)
  · rw [hF3 6 (by decide)]; exact hK k hk
  · rw [f1, hF3 2 (by decide), g2]
    funext j
    by_cases q : j < n
    · rw [if_pos q, if_pos q]; exact hx j q
    · rw [if_neg q, if_neg q]
  · simp only [List.mem_cons, List.not_mem_nil, or_false] at hc
    rw [hF3 c (by simp only [List.mem_cons, List.not_mem_nil, or_false, not_or]; omega)]
    exact G c (by simp only [List.mem_cons, List.not_mem_nil, or_false, not_or]; omega)
  · rw [hF3 2 (by decide), g2]
    show sp_may 0 (if l < n then _ else _)
    rw [if_pos hl]
    exact sp_cl_r _
  · rw [hF3 36 (by decide), hF3 70 (by decide), G 36 (by decide), G 70 (by decide)]; exact (h.to1 l hl).1
  · rw [hF3 37 (by decide), g37, f2]
    show (if l < 8 ∧ I 36 l ≠ -1 then I 37 l + nI 1 else I 37 l) = (if l < n ∧ ¬ I 70 l < 0 then I 71 l + nI 1 else I 71 l)
    rw [← (h.to1 l hl).1, ← (h.to1 l hl).2]
    exact ite_cg ⟨fun z => ⟨hl, (MT_neg hn8 h.mt hl).mp z.2⟩, fun z => ⟨by omega, (MT_neg hn8 h.mt hl).mpr z.2⟩⟩ rfl rfl
  · rw [hF3 36 (by decide), G 36 (by decide)]; exact (h.to2 l h1 h2).1
  · rw [hF3 37 (by decide), g37]
    show (if l < 8 ∧ I 36 l ≠ -1 then I 37 l + nI 1 else I 37 l) = nI 0
    rw [if_neg (fun z => z.2 (h.to2 l h1 h2).1)]; exact (h.to2 l h1 h2).2
  · rw [hF3 38 (by decide), g38, f3, sp_grow_congr (N' := (sp_nx tx n (I 5) (I 4) (I 1 6) (I 2) (I 70) (I 71))) (N := (sp_nx tx n (I 5) (I 4) (I 1 6) (I 2) (I 36) (I 37))) hx (fun _ _ => rfl), h.led 0 (by decide), h.led 3 (by decide)]
    by_cases q : j = 0
    · rw [q, p_up_s, p_up_s]
    · rw [p_up_n _ _ q, p_up_n _ _ q]
      by_cases q2 : j = 3
      · rw [q2, p_up_s, p_up_s]
      · rw [p_up_n _ _ q2, p_up_n _ _ q2]; exact h.led j hj
