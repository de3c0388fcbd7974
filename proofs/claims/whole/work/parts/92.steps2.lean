/-! the steps that ask and change nothing -/
set_option maxRecDepth 20000 in
theorem stp_first {I : Nat → Nat → Int32} {J : Nat → Nat → Int64} {p : Bool × Option Nat} {ro : List (Nat × Nat × (Nat → Int32))} {tx : List Ln} {n nb : Nat} (h : Inv tx n nb I J p) {L i : Nat} {xs : Nat → Int32} (hi : i + 6 ≤ L) (hL : L ≤ 3072) (hscr : (1002, L, xs) ∈ ro) (hro : RO ro) {Q : Option Value → pm_M → Prop}  (kont : ∀ (tx : List Ln) (n nb : Nat) (I : Nat → Nat → Int32) (J : Nat → Nat → Int64) (p : Bool × Option Nat), Inv tx n nb I J p → Px 61 0 0 CL_law 1065 [some (.ref (1002)), some (.ref (0)), some (.ref (65)), some (.int (nI i))] [] (gS, I, J, gR p, ro) Q) : Px 61 0 0 CL_law 562 [some (.ref (1002)), some (.ref (0)), some (.ref (65)), some (.int (nI i))] [] (gS, I, J, gR p, ro) Q := by
  refine px_aload_n (kk := 1) rfl rfl rfl ?_
  refine px_callV0 CX11_first [] [] (vX11_first h.cn h.n8) rfl gS_0 (by decide) rfl rfl rfl (Nat.le_of_ble_eq_true rfl) (by decide) ?_
  rintro _ _ - ⟨rfl, rfl⟩
  refine px_aload_n (kk := 2) rfl rfl rfl ?_
  refine px_callV0 CX12_first [.int _] [] (vX12_first h.rn h.n8) rfl gS_65 (by decide) rfl rfl rfl (Nat.le_of_ble_eq_true rfl) (by decide) ?_
  rintro _ _ - ⟨rfl, rfl⟩
  refine px_icmp_eq rfl (fun c566 => ?_) (fun hZ => absurd (by rw [h.need, h.warm]) hZ)
  exact kont _ _ _ _ _ _ h
def TRq (q : Nat) (f : Nat → Int32) (x : Int32) (r : Option Value) : Prop := (∃ k, k < q ∧ k < 24 ∧ x = nI k ∧ r = some (.int (f k))) ∨ (¬ (∃ k, k < q ∧ k < 24 ∧ x = nI k) ∧ r = some (.int (-1)))
theorem TRq_v {q : Nat} {f : Nat → Int32} {x : Int32} {r : Option Value} (h : TRq q f x r) : ∃ v, r = some (.int v) ∧ TRq q f x (some (.int v)) := by
  rcases h with ⟨k, h1, h2, h3, rfl⟩ | ⟨h1, rfl⟩
  · exact ⟨_, rfl, .inl ⟨k, h1, h2, h3, rfl⟩⟩
  · exact ⟨_, rfl, .inr ⟨h1, rfl⟩⟩
theorem TRq_fn {q : Nat} {f : Nat → Int32} {x v w : Int32} (h : TRq q f x (some (.int v))) (h2 : TRq q f x (some (.int w))) : v = w := by
  rcases h with ⟨k, a, b, c, e⟩ | ⟨a, e⟩
  · rcases h2 with ⟨k2, a2, b2, c2, e2⟩ | ⟨a2, e2⟩
    · rw [c, n_eq (by omega) (by omega)] at c2
      subst c2
      cases e
      cases e2
      rfl
    · exact absurd ⟨k, a, b, c⟩ a2
  · rcases h2 with ⟨k2, a2, b2, c2, e2⟩ | ⟨a2, e2⟩
    · exact absurd ⟨k2, a2, b2, c2⟩ a
    · cases e
      cases e2
      rfl
set_option maxRecDepth 20000 in
theorem stp_trace {I : Nat → Nat → Int32} {J : Nat → Nat → Int64} {p : Bool × Option Nat} {ro : List (Nat × Nat × (Nat → Int32))} {tx : List Ln} {n nb : Nat} (h : Inv tx n nb I J p) {L i : Nat} {xs : Nat → Int32} (hi : i + 6 ≤ L) (hL : L ≤ 3072) (hscr : (1002, L, xs) ∈ ro) (hro : RO ro) {Q : Option Value → pm_M → Prop}  (kont : ∀ (tx : List Ln) (n nb : Nat) (I : Nat → Nat → Int32) (J : Nat → Nat → Int64) (p : Bool × Option Nat), Inv tx n nb I J p → Px 61 0 0 CL_law 1065 [some (.ref (1002)), some (.ref (0)), some (.ref (65)), some (.int (nI i))] [] (gS, I, J, gR p, ro) Q) : Px 61 0 0 CL_law 794 [some (.ref (1002)), some (.ref (0)), some (.ref (65)), some (.int (nI i))] [] (gS, I, J, gR p, ro) Q := by
  obtain ⟨q, q1, q2, q3⟩ := h.ran
  refine px_aload_n (kk := 1) rfl rfl rfl ?_
  refine px_aload_n (kk := 0) rfl rfl rfl ?_
  refine px_iload_n (kk := 3) rfl rfl rfl ?_
  refine px_iconst (v := nI 1) rfl k_1 ?_
  refine px_iaddN rfl ?_
  refine px_roald (j := (i + 1)) rfl hscr rfl (by omega) ?_
  refine px_callV0 CX11_trace [] [.int _] (pv_post (vX11_trace q2 q1) (fun r S2 z => (⟨z.1, TRq_v z.2⟩ : S2 = _ ∧ ∃ v, r = some (.int v) ∧ TRq q (I 51) _ (some (.int v))))) rfl gS_0 (by decide) rfl rfl rfl (Nat.le_of_ble_eq_true rfl) (by decide) ?_
  rintro _ _ - ⟨rfl, v, rfl, hv⟩
  refine px_aload_n (kk := 2) rfl rfl rfl ?_
  refine px_aload_n (kk := 0) rfl rfl rfl ?_
  refine px_iload_n (kk := 3) rfl rfl rfl ?_
  refine px_iconst (v := nI 1) rfl k_1 ?_
  refine px_iaddN rfl ?_
  refine px_roald (j := (i + 1)) rfl hscr rfl (by omega) ?_
  refine px_callV0 CX12_trace [.int _] [.int _] (pv_post (vX12_trace q3 q1) (fun r S2 z => (⟨z.1, TRq_v z.2⟩ : S2 = _ ∧ ∃ v, r = some (.int v) ∧ TRq q (I 97) _ (some (.int v))))) rfl gS_65 (by decide) rfl rfl rfl (Nat.le_of_ble_eq_true rfl) (by decide) ?_
  rintro _ _ - ⟨rfl, v2, rfl, hv2⟩
  rw [h.trac] at hv2
  have heq := TRq_fn hv hv2
  refine px_icmp_eq rfl (fun c808 => ?_) (fun hZ => absurd (heq) hZ)
  exact kont _ _ _ _ _ _ h
def ELC (I : Nat → Nat → Int32) (J : Nat → Nat → Int64) (x y : Int32) (v : Int64) : Prop := (∃ s a, s < 6 ∧ x = nI s ∧ I (53 + 2 * s) 1 = nI 2 ∧ y = nI a ∧ a < mN (I (53 + 2 * s) 4) ∧ v = J (54 + 2 * s) a) ∨ (¬ (∃ s a, s < 6 ∧ x = nI s ∧ I (53 + 2 * s) 1 = nI 2 ∧ y = nI a ∧ a < mN (I (53 + 2 * s) 4)) ∧ v = -9223372036854775808)
def ELR (I : Nat → Nat → Int32) (J : Nat → Nat → Int64) (x y : Int32) (v : Int64) : Prop := (∃ s t a, s < 6 ∧ x = nI s ∧ t < 5 ∧ I 98 s = -2 - nI t ∧ y = nI a ∧ a < mN (I 99 s) ∧ v = J 100 (60 * s + a)) ∨ (¬ (∃ s t a, s < 6 ∧ x = nI s ∧ t < 5 ∧ I 98 s = -2 - nI t ∧ y = nI a ∧ a < mN (I 99 s)) ∧ v = -9223372036854775808)
theorem rs_ne {t b : Nat} (ht : t < 5) (hb : b < 50) : nI b ≠ -2 - nI t := fun e => by
  have h1 := rs_neg ht
  rw [← e] at h1
  exact n_nneg (by omega) h1
theorem SHL_T {nb : Nat} {I : Nat → Nat → Int32} {s : Nat} (hnb : nb ≤ 50) (h : SHL nb I s) : I (53 + 2 * s) 1 = nI 2 ↔ ∃ t, t < 5 ∧ I 98 s = -2 - nI t := by
  rcases h.1 with ⟨h1, h2⟩ | ⟨b, hb, h1, _, h2⟩ | ⟨t, ht, h1, h3, h2, _⟩
  · rw [h1, h2]
    exact ⟨fun e => absurd e (by decide), fun ⟨t, ht, e⟩ => absurd e.symm (rs_1 ht)⟩
  · rw [h1, h2]
    exact ⟨fun e => absurd e (by decide), fun ⟨t, ht, e⟩ => absurd e (rs_ne ht (by omega))⟩
  · rw [h1, h2]
    exact ⟨fun _ => ⟨t, ht, rfl⟩, fun _ => rfl⟩
theorem eq_element {tx : List Ln} {n nb : Nat} {I : Nat → Nat → Int32} {J : Nat → Nat → Int64} {p : Bool × Option Nat} (h : Inv tx n nb I J p) {x y : Int32} {v w : Int64} (hc : ELC I J x y v) (hr : ELR I J x y w) : v = w := by
  have key : ∀ s, s < 6 → I (53 + 2 * s) 1 = nI 2 → I 99 s = I (53 + 2 * s) 4 := fun s hs => SHL_Z (h.shl s hs)
  rcases hc with ⟨s, a, hs, hx, h1, hy, ha, rfl⟩ | ⟨hc, rfl⟩
  · rcases hr with ⟨s2, t, a2, hs2, hx2, _, h2, hy2, ha2, rfl⟩ | ⟨hr, rfl⟩
    · rw [hx, n_eq (by omega) (by omega)] at hx2
      subst hx2
      have hz : ∃ z, z ≤ 60 ∧ I (53 + 2 * s) 4 = nI z := h.szC s hs
      obtain ⟨z, hz, ez⟩ := hz
      rw [ez, mN_n (by omega)] at ha
      rw [key s hs h1, ez, mN_n (by omega)] at ha2
      rw [hy, n_eq (by omega) (by omega)] at hy2
      subst hy2
      exact h.elem s hs a
    · obtain ⟨t, ht, e⟩ := (SHL_T h.nb50 (h.shl s hs)).mp h1
      exact absurd ⟨s, t, a, hs, hx, ht, e, hy, by rw [key s hs h1]; exact ha⟩ hr
  · rcases hr with ⟨s2, t, a2, hs2, hx2, ht, h2, hy2, ha2, rfl⟩ | ⟨hr, rfl⟩
    · have h1 := (SHL_T h.nb50 (h.shl s2 hs2)).mpr ⟨t, ht, h2⟩
      exact absurd ⟨s2, a2, hs2, hx2, h1, hy2, by rw [← key s2 hs2 h1]; exact ha2⟩ hc
    · rfl
theorem qX11_element {I : Nat → Nat → Int32} {J : Nat → Nat → Int64} {p : Bool × Option Nat} {ro : List (Nat × Nat × (Nat → Int32))} (hSH : ∀ s, s < 6 → ∃ z, z ≤ 60 ∧ I (53 + 2 * s) 4 = nI z) {x y : Int32} : Pv 2 0 0 CX11_element [.ref 0, .int x, .int y] (gS, I, J, gR p, ro) (fun r S' => S' = (gS, I, J, gR p, ro) ∧ ∃ v, r = some (.long v) ∧ ELC I J x y v) := pv_post (vX11_element hSH) (fun r S2 z => ⟨z.1, by
  rcases z.2 with ⟨s, a, h1, h2, h3, h4, h5, rfl⟩ | ⟨h1, rfl⟩
  · exact ⟨_, rfl, .inl ⟨s, a, h1, h2, h3, h4, h5, rfl⟩⟩
  · exact ⟨_, rfl, .inr ⟨h1, rfl⟩⟩⟩)
theorem rs_of {nb : Nat} {I : Nat → Nat → Int32} {s : Nat} (h : SHL nb I s) : RS nb (I 98 s) := by
  rcases h.1 with ⟨h1, h2⟩ | ⟨b, hb, h1, _, h2⟩ | ⟨t, ht, h1, h3, h2, _⟩
  · exact .inl h2
  · exact .inr (.inr ⟨b, hb, h2⟩)
  · exact .inr (.inl ⟨t, ht, h2⟩)
theorem qX12_element {I : Nat → Nat → Int32} {J : Nat → Nat → Int64} {p : Bool × Option Nat} {ro : List (Nat × Nat × (Nat → Int32))} {nb : Nat} (hb50 : nb ≤ 50) (hH : ∀ s, s < 6 → RS nb (I 98 s)) (hSZ : ∀ s, s < 6 → ∃ z, z ≤ 60 ∧ I 99 s = nI z) {x y : Int32} : Pv 3 0 0 CX12_element [.ref 65, .int x, .int y] (gS, I, J, gR p, ro) (fun r S' => S' = (gS, I, J, gR p, ro) ∧ ∃ v, r = some (.long v) ∧ ELR I J x y v) := pv_post (vX12_element hb50 hH hSZ) (fun r S2 z => ⟨z.1, by
  rcases z.2 with ⟨s, t, a, h1, h2, h3, h4, h5, h6, rfl⟩ | ⟨h1, rfl⟩
  · exact ⟨_, rfl, .inl ⟨s, t, a, h1, h2, h3, h4, h5, h6, rfl⟩⟩
  · exact ⟨_, rfl, .inr ⟨h1, rfl⟩⟩⟩)
set_option maxRecDepth 20000 in
theorem stp_element {I : Nat → Nat → Int32} {J : Nat → Nat → Int64} {p : Bool × Option Nat} {ro : List (Nat × Nat × (Nat → Int32))} {tx : List Ln} {n nb : Nat} (h : Inv tx n nb I J p) {L i : Nat} {xs : Nat → Int32} (hi : i + 6 ≤ L) (hL : L ≤ 3072) (hscr : (1002, L, xs) ∈ ro) (hro : RO ro) {Q : Option Value → pm_M → Prop}  (kont : ∀ (tx : List Ln) (n nb : Nat) (I : Nat → Nat → Int32) (J : Nat → Nat → Int64) (p : Bool × Option Nat), Inv tx n nb I J p → Px 61 0 0 CL_law 1065 [some (.ref (1002)), some (.ref (0)), some (.ref (65)), some (.int (nI i))] [] (gS, I, J, gR p, ro) Q) : Px 61 0 0 CL_law 936 [some (.ref (1002)), some (.ref (0)), some (.ref (65)), some (.int (nI i))] [] (gS, I, J, gR p, ro) Q := by
  refine px_aload_n (kk := 1) rfl rfl rfl ?_
  refine px_aload_n (kk := 0) rfl rfl rfl ?_
  refine px_iload_n (kk := 3) rfl rfl rfl ?_
  refine px_iconst (v := nI 1) rfl k_1 ?_
  refine px_iaddN rfl ?_
  refine px_roald (j := (i + 1)) rfl hscr rfl (by omega) ?_
  refine px_aload_n (kk := 0) rfl rfl rfl ?_
  refine px_iload_n (kk := 3) rfl rfl rfl ?_
  refine px_iconst (v := nI 2) rfl k_2 ?_
  refine px_iaddN rfl ?_
  refine px_roald (j := (i + 2)) rfl hscr rfl (by omega) ?_
  refine px_callV0 CX11_element [] [.int _, .int _] (qX11_element h.szC) rfl gS_0 (by decide) rfl rfl rfl (Nat.le_of_ble_eq_true rfl) (by decide) ?_
  rintro _ _ - ⟨rfl, v, rfl, hv⟩
  refine px_aload_n (kk := 2) rfl rfl rfl ?_
  refine px_aload_n (kk := 0) rfl rfl rfl ?_
  refine px_iload_n (kk := 3) rfl rfl rfl ?_
  refine px_iconst (v := nI 1) rfl k_1 ?_
  refine px_iaddN rfl ?_
  refine px_roald (j := (i + 1)) rfl hscr rfl (by omega) ?_
  refine px_aload_n (kk := 0) rfl rfl rfl ?_
  refine px_iload_n (kk := 3) rfl rfl rfl ?_
  refine px_iconst (v := nI 2) rfl k_2 ?_
  refine px_iaddN rfl ?_
  refine px_roald (j := (i + 2)) rfl hscr rfl (by omega) ?_
  refine px_callV0 CX12_element [.long _] [.int _, .int _] (qX12_element h.nb50 (fun s hs => rs_of (h.shl s hs)) h.szR) rfl gS_65 (by decide) rfl rfl rfl (Nat.le_of_ble_eq_true rfl) (by decide) ?_
  rintro _ _ - ⟨rfl, v2, rfl, hv2⟩
  have heq := eq_element h hv hv2
  refine px_lcmp rfl ?_
  refine px_if_eq rfl (fun c961 => ?_) (fun hZ => absurd ((by subst heq; exact lcmp_rf v)) hZ)
  exact kont _ _ _ _ _ _ h
set_option maxRecDepth 20000 in
theorem stp_count_0 {I : Nat → Nat → Int32} {J : Nat → Nat → Int64} {p : Bool × Option Nat} {ro : List (Nat × Nat × (Nat → Int32))} {tx : List Ln} {n nb : Nat} (h : Inv tx n nb I J p) {L i : Nat} {xs : Nat → Int32} (hi : i + 6 ≤ L) (hL : L ≤ 3072) (hscr : (1002, L, xs) ∈ ro) (hro : RO ro) {Q : Option Value → pm_M → Prop} (hx : xs (i + 1) = nI 0) (kont : ∀ (tx : List Ln) (n nb : Nat) (I : Nat → Nat → Int32) (J : Nat → Nat → Int64) (p : Bool × Option Nat), Inv tx n nb I J p → Px 61 0 0 CL_law 1065 [some (.ref (1002)), some (.ref (0)), some (.ref (65)), some (.int (nI i))] [] (gS, I, J, gR p, ro) Q) : Px 61 0 0 CL_law 1048 [some (.ref (1002)), some (.ref (0)), some (.ref (65)), some (.int (nI i))] [] (gS, I, J, gR p, ro) Q := by
  refine px_aload_n (kk := 1) rfl rfl rfl ?_
  refine px_aload_n (kk := 0) rfl rfl rfl ?_
  refine px_iload_n (kk := 3) rfl rfl rfl ?_
  refine px_iconst (v := nI 1) rfl k_1 ?_
  refine px_iaddN rfl ?_
  refine px_roalde (j := (i + 1)) (v := nI 0) rfl hscr rfl (by omega) hx ?_
  refine px_callV0 CX11_count [] [.int _] (vX11_count_0) rfl gS_0 (by decide) rfl rfl rfl (Nat.le_of_ble_eq_true rfl) (by decide) ?_
  rintro _ _ - ⟨rfl, rfl⟩
  refine px_aload_n (kk := 2) rfl rfl rfl ?_
  refine px_aload_n (kk := 0) rfl rfl rfl ?_
  refine px_iload_n (kk := 3) rfl rfl rfl ?_
  refine px_iconst (v := nI 1) rfl k_1 ?_
  refine px_iaddN rfl ?_
  refine px_roalde (j := (i + 1)) (v := nI 0) rfl hscr rfl (by omega) hx ?_
  refine px_callV0 CX12_count [.int _] [.int _] (vX12_count_0 ) rfl gS_65 (by decide) rfl rfl rfl (Nat.le_of_ble_eq_true rfl) (by decide) ?_
  rintro _ _ - ⟨rfl, rfl⟩
  refine px_icmp_eq rfl (fun c1062 => ?_) (fun hZ => absurd (by rw [h.cn, h.rn]) hZ)
  exact kont _ _ _ _ _ _ h
set_option maxRecDepth 20000 in
theorem stp_count_1 {I : Nat → Nat → Int32} {J : Nat → Nat → Int64} {p : Bool × Option Nat} {ro : List (Nat × Nat × (Nat → Int32))} {tx : List Ln} {n nb : Nat} (h : Inv tx n nb I J p) {L i : Nat} {xs : Nat → Int32} (hi : i + 6 ≤ L) (hL : L ≤ 3072) (hscr : (1002, L, xs) ∈ ro) (hro : RO ro) {Q : Option Value → pm_M → Prop} (hx : xs (i + 1) = nI 1) (kont : ∀ (tx : List Ln) (n nb : Nat) (I : Nat → Nat → Int32) (J : Nat → Nat → Int64) (p : Bool × Option Nat), Inv tx n nb I J p → Px 61 0 0 CL_law 1065 [some (.ref (1002)), some (.ref (0)), some (.ref (65)), some (.int (nI i))] [] (gS, I, J, gR p, ro) Q) : Px 61 0 0 CL_law 1048 [some (.ref (1002)), some (.ref (0)), some (.ref (65)), some (.int (nI i))] [] (gS, I, J, gR p, ro) Q := by
  refine px_aload_n (kk := 1) rfl rfl rfl ?_
  refine px_aload_n (kk := 0) rfl rfl rfl ?_
  refine px_iload_n (kk := 3) rfl rfl rfl ?_
  refine px_iconst (v := nI 1) rfl k_1 ?_
  refine px_iaddN rfl ?_
  refine px_roalde (j := (i + 1)) (v := nI 1) rfl hscr rfl (by omega) hx ?_
  refine px_callV0 CX11_count [] [.int _] (vX11_count_1) rfl gS_0 (by decide) rfl rfl rfl (Nat.le_of_ble_eq_true rfl) (by decide) ?_
  rintro _ _ - ⟨rfl, rfl⟩
  refine px_aload_n (kk := 2) rfl rfl rfl ?_
  refine px_aload_n (kk := 0) rfl rfl rfl ?_
  refine px_iload_n (kk := 3) rfl rfl rfl ?_
  refine px_iconst (v := nI 1) rfl k_1 ?_
  refine px_iaddN rfl ?_
  refine px_roalde (j := (i + 1)) (v := nI 1) rfl hscr rfl (by omega) hx ?_
  refine px_callV0 CX12_count [.int _] [.int _] (vX12_count_1 h.rn h.n8) rfl gS_65 (by decide) rfl rfl rfl (Nat.le_of_ble_eq_true rfl) (by decide) ?_
  rintro _ _ - ⟨rfl, rfl⟩
  refine px_icmp_eq rfl (fun c1062 => ?_) (fun hZ => absurd (h.many) hZ)
  exact kont _ _ _ _ _ _ h
set_option maxRecDepth 20000 in
theorem stp_count_2 {I : Nat → Nat → Int32} {J : Nat → Nat → Int64} {p : Bool × Option Nat} {ro : List (Nat × Nat × (Nat → Int32))} {tx : List Ln} {n nb : Nat} (h : Inv tx n nb I J p) {L i : Nat} {xs : Nat → Int32} (hi : i + 6 ≤ L) (hL : L ≤ 3072) (hscr : (1002, L, xs) ∈ ro) (hro : RO ro) {Q : Option Value → pm_M → Prop} (hx : xs (i + 1) = nI 2) (kont : ∀ (tx : List Ln) (n nb : Nat) (I : Nat → Nat → Int32) (J : Nat → Nat → Int64) (p : Bool × Option Nat), Inv tx n nb I J p → Px 61 0 0 CL_law 1065 [some (.ref (1002)), some (.ref (0)), some (.ref (65)), some (.int (nI i))] [] (gS, I, J, gR p, ro) Q) : Px 61 0 0 CL_law 1048 [some (.ref (1002)), some (.ref (0)), some (.ref (65)), some (.int (nI i))] [] (gS, I, J, gR p, ro) Q := by
  obtain ⟨c, T, t1, t2, t3⟩ := h.tape
  refine px_aload_n (kk := 1) rfl rfl rfl ?_
  refine px_aload_n (kk := 0) rfl rfl rfl ?_
  refine px_iload_n (kk := 3) rfl rfl rfl ?_
  refine px_iconst (v := nI 1) rfl k_1 ?_
  refine px_iaddN rfl ?_
  refine px_roalde (j := (i + 1)) (v := nI 2) rfl hscr rfl (by omega) hx ?_
  refine px_callV0 CX11_count [] [.int _] (vX11_count_2) rfl gS_0 (by decide) rfl rfl rfl (Nat.le_of_ble_eq_true rfl) (by decide) ?_
  rintro _ _ - ⟨rfl, rfl⟩
  refine px_aload_n (kk := 2) rfl rfl rfl ?_
  refine px_aload_n (kk := 0) rfl rfl rfl ?_
  refine px_iload_n (kk := 3) rfl rfl rfl ?_
  refine px_iconst (v := nI 1) rfl k_1 ?_
  refine px_iaddN rfl ?_
  refine px_roalde (j := (i + 1)) (v := nI 2) rfl hscr rfl (by omega) hx ?_
  refine px_callV0 CX12_count [.int _] [.int _] (vX12_count_2 ) rfl gS_65 (by decide) rfl rfl rfl (Nat.le_of_ble_eq_true rfl) (by decide) ?_
  rintro _ _ - ⟨rfl, rfl⟩
  refine px_icmp_eq rfl (fun c1062 => ?_) (fun hZ => absurd (by rw [t2.1, t3.1]) hZ)
  exact kont _ _ _ _ _ _ h
set_option maxRecDepth 20000 in
theorem stp_count_3 {I : Nat → Nat → Int32} {J : Nat → Nat → Int64} {p : Bool × Option Nat} {ro : List (Nat × Nat × (Nat → Int32))} {tx : List Ln} {n nb : Nat} (h : Inv tx n nb I J p) {L i : Nat} {xs : Nat → Int32} (hi : i + 6 ≤ L) (hL : L ≤ 3072) (hscr : (1002, L, xs) ∈ ro) (hro : RO ro) {Q : Option Value → pm_M → Prop} (hx : xs (i + 1) = nI 3) (kont : ∀ (tx : List Ln) (n nb : Nat) (I : Nat → Nat → Int32) (J : Nat → Nat → Int64) (p : Bool × Option Nat), Inv tx n nb I J p → Px 61 0 0 CL_law 1065 [some (.ref (1002)), some (.ref (0)), some (.ref (65)), some (.int (nI i))] [] (gS, I, J, gR p, ro) Q) : Px 61 0 0 CL_law 1048 [some (.ref (1002)), some (.ref (0)), some (.ref (65)), some (.int (nI i))] [] (gS, I, J, gR p, ro) Q := by
  obtain ⟨dn, un, d1, d2, d3, d4, d5, d6⟩ := h.chg
  refine px_aload_n (kk := 1) rfl rfl rfl ?_
  refine px_aload_n (kk := 0) rfl rfl rfl ?_
  refine px_iload_n (kk := 3) rfl rfl rfl ?_
  refine px_iconst (v := nI 1) rfl k_1 ?_
  refine px_iaddN rfl ?_
  refine px_roalde (j := (i + 1)) (v := nI 3) rfl hscr rfl (by omega) hx ?_
  refine px_callV0 CX11_count [] [.int _] (vX11_count_3) rfl gS_0 (by decide) rfl rfl rfl (Nat.le_of_ble_eq_true rfl) (by decide) ?_
  rintro _ _ - ⟨rfl, rfl⟩
  refine px_aload_n (kk := 2) rfl rfl rfl ?_
  refine px_aload_n (kk := 0) rfl rfl rfl ?_
  refine px_iload_n (kk := 3) rfl rfl rfl ?_
  refine px_iconst (v := nI 1) rfl k_1 ?_
  refine px_iaddN rfl ?_
  refine px_roalde (j := (i + 1)) (v := nI 3) rfl hscr rfl (by omega) hx ?_
  refine px_callV0 CX12_count [.int _] [.int _] (vX12_count_3 ) rfl gS_65 (by decide) rfl rfl rfl (Nat.le_of_ble_eq_true rfl) (by decide) ?_
  rintro _ _ - ⟨rfl, rfl⟩
  refine px_icmp_eq rfl (fun c1062 => ?_) (fun hZ => absurd (by rw [d2, d4]) hZ)
  exact kont _ _ _ _ _ _ h
set_option maxRecDepth 20000 in
theorem stp_count_4 {I : Nat → Nat → Int32} {J : Nat → Nat → Int64} {p : Bool × Option Nat} {ro : List (Nat × Nat × (Nat → Int32))} {tx : List Ln} {n nb : Nat} (h : Inv tx n nb I J p) {L i : Nat} {xs : Nat → Int32} (hi : i + 6 ≤ L) (hL : L ≤ 3072) (hscr : (1002, L, xs) ∈ ro) (hro : RO ro) {Q : Option Value → pm_M → Prop} (hx : xs (i + 1) = nI 4) (kont : ∀ (tx : List Ln) (n nb : Nat) (I : Nat → Nat → Int32) (J : Nat → Nat → Int64) (p : Bool × Option Nat), Inv tx n nb I J p → Px 61 0 0 CL_law 1065 [some (.ref (1002)), some (.ref (0)), some (.ref (65)), some (.int (nI i))] [] (gS, I, J, gR p, ro) Q) : Px 61 0 0 CL_law 1048 [some (.ref (1002)), some (.ref (0)), some (.ref (65)), some (.int (nI i))] [] (gS, I, J, gR p, ro) Q := by
  refine px_aload_n (kk := 1) rfl rfl rfl ?_
  refine px_aload_n (kk := 0) rfl rfl rfl ?_
  refine px_iload_n (kk := 3) rfl rfl rfl ?_
  refine px_iconst (v := nI 1) rfl k_1 ?_
  refine px_iaddN rfl ?_
  refine px_roalde (j := (i + 1)) (v := nI 4) rfl hscr rfl (by omega) hx ?_
  refine px_callV0 CX11_count [] [.int _] (vX11_count_4) rfl gS_0 (by decide) rfl rfl rfl (Nat.le_of_ble_eq_true rfl) (by decide) ?_
  rintro _ _ - ⟨rfl, rfl⟩
  refine px_aload_n (kk := 2) rfl rfl rfl ?_
  refine px_aload_n (kk := 0) rfl rfl rfl ?_
  refine px_iload_n (kk := 3) rfl rfl rfl ?_
  refine px_iconst (v := nI 1) rfl k_1 ?_
  refine px_iaddN rfl ?_
  refine px_roalde (j := (i + 1)) (v := nI 4) rfl hscr rfl (by omega) hx ?_
  refine px_callV0 CX12_count [.int _] [.int _] (vX12_count_4 ) rfl gS_65 (by decide) rfl rfl rfl (Nat.le_of_ble_eq_true rfl) (by decide) ?_
  rintro _ _ - ⟨rfl, rfl⟩
  refine px_icmp_eq rfl (fun c1062 => ?_) (fun hZ => absurd (by rw [h.cb, h.rb]) hZ)
  exact kont _ _ _ _ _ _ h
set_option maxRecDepth 20000 in
theorem stp_count_5 {I : Nat → Nat → Int32} {J : Nat → Nat → Int64} {p : Bool × Option Nat} {ro : List (Nat × Nat × (Nat → Int32))} {tx : List Ln} {n nb : Nat} (h : Inv tx n nb I J p) {L i : Nat} {xs : Nat → Int32} (hi : i + 6 ≤ L) (hL : L ≤ 3072) (hscr : (1002, L, xs) ∈ ro) (hro : RO ro) {Q : Option Value → pm_M → Prop} (hx : xs (i + 1) = nI 5) (kont : ∀ (tx : List Ln) (n nb : Nat) (I : Nat → Nat → Int32) (J : Nat → Nat → Int64) (p : Bool × Option Nat), Inv tx n nb I J p → Px 61 0 0 CL_law 1065 [some (.ref (1002)), some (.ref (0)), some (.ref (65)), some (.int (nI i))] [] (gS, I, J, gR p, ro) Q) : Px 61 0 0 CL_law 1048 [some (.ref (1002)), some (.ref (0)), some (.ref (65)), some (.int (nI i))] [] (gS, I, J, gR p, ro) Q := by
  obtain ⟨q, q1, q2, q3⟩ := h.ran
  refine px_aload_n (kk := 1) rfl rfl rfl ?_
  refine px_aload_n (kk := 0) rfl rfl rfl ?_
  refine px_iload_n (kk := 3) rfl rfl rfl ?_
  refine px_iconst (v := nI 1) rfl k_1 ?_
  refine px_iaddN rfl ?_
  refine px_roalde (j := (i + 1)) (v := nI 5) rfl hscr rfl (by omega) hx ?_
  refine px_callV0 CX11_count [] [.int _] (vX11_count_5) rfl gS_0 (by decide) rfl rfl rfl (Nat.le_of_ble_eq_true rfl) (by decide) ?_
  rintro _ _ - ⟨rfl, rfl⟩
  refine px_aload_n (kk := 2) rfl rfl rfl ?_
  refine px_aload_n (kk := 0) rfl rfl rfl ?_
  refine px_iload_n (kk := 3) rfl rfl rfl ?_
  refine px_iconst (v := nI 1) rfl k_1 ?_
  refine px_iaddN rfl ?_
  refine px_roalde (j := (i + 1)) (v := nI 5) rfl hscr rfl (by omega) hx ?_
  refine px_callV0 CX12_count [.int _] [.int _] (vX12_count_5 ) rfl gS_65 (by decide) rfl rfl rfl (Nat.le_of_ble_eq_true rfl) (by decide) ?_
  rintro _ _ - ⟨rfl, rfl⟩
  refine px_icmp_eq rfl (fun c1062 => ?_) (fun hZ => absurd (by rw [q2, q3]) hZ)
  exact kont _ _ _ _ _ _ h
set_option maxRecDepth 20000 in
theorem stp_count_o {I : Nat → Nat → Int32} {J : Nat → Nat → Int64} {p : Bool × Option Nat} {ro : List (Nat × Nat × (Nat → Int32))} {tx : List Ln} {n nb : Nat} (h : Inv tx n nb I J p) {L i : Nat} {xs : Nat → Int32} (hi : i + 6 ≤ L) (hL : L ≤ 3072) (hscr : (1002, L, xs) ∈ ro) (hro : RO ro) {Q : Option Value → pm_M → Prop} (hx : (xs (i + 1)).toInt < 0 ∨ 5 < (xs (i + 1)).toInt) (kont : ∀ (tx : List Ln) (n nb : Nat) (I : Nat → Nat → Int32) (J : Nat → Nat → Int64) (p : Bool × Option Nat), Inv tx n nb I J p → Px 61 0 0 CL_law 1065 [some (.ref (1002)), some (.ref (0)), some (.ref (65)), some (.int (nI i))] [] (gS, I, J, gR p, ro) Q) : Px 61 0 0 CL_law 1048 [some (.ref (1002)), some (.ref (0)), some (.ref (65)), some (.int (nI i))] [] (gS, I, J, gR p, ro) Q := by
  refine px_aload_n (kk := 1) rfl rfl rfl ?_
  refine px_aload_n (kk := 0) rfl rfl rfl ?_
  refine px_iload_n (kk := 3) rfl rfl rfl ?_
  refine px_iconst (v := nI 1) rfl k_1 ?_
  refine px_iaddN rfl ?_
  refine px_roald (j := (i + 1)) rfl hscr rfl (by omega) ?_
  refine px_callV0 CX11_count [] [.int _] (vX11_count_o hx) rfl gS_0 (by decide) rfl rfl rfl (Nat.le_of_ble_eq_true rfl) (by decide) ?_
  rintro _ _ - ⟨rfl, rfl⟩
  refine px_aload_n (kk := 2) rfl rfl rfl ?_
  refine px_aload_n (kk := 0) rfl rfl rfl ?_
  refine px_iload_n (kk := 3) rfl rfl rfl ?_
  refine px_iconst (v := nI 1) rfl k_1 ?_
  refine px_iaddN rfl ?_
  refine px_roald (j := (i + 1)) rfl hscr rfl (by omega) ?_
  refine px_callV0 CX12_count [.int _] [.int _] (vX12_count_o hx) rfl gS_65 (by decide) rfl rfl rfl (Nat.le_of_ble_eq_true rfl) (by decide) ?_
  rintro _ _ - ⟨rfl, rfl⟩
  refine px_icmp_eq rfl (fun c1062 => ?_) (fun hZ => absurd (rfl) hZ)
  exact kont _ _ _ _ _ _ h
theorem stp_count {I : Nat → Nat → Int32} {J : Nat → Nat → Int64} {p : Bool × Option Nat} {ro : List (Nat × Nat × (Nat → Int32))} {tx : List Ln} {n nb : Nat} (h : Inv tx n nb I J p) {L i : Nat} {xs : Nat → Int32} (hi : i + 6 ≤ L) (hL : L ≤ 3072) (hscr : (1002, L, xs) ∈ ro) (hro : RO ro) {Q : Option Value → pm_M → Prop} (kont : ∀ (tx : List Ln) (n nb : Nat) (I : Nat → Nat → Int32) (J : Nat → Nat → Int64) (p : Bool × Option Nat), Inv tx n nb I J p → Px 61 0 0 CL_law 1065 [some (.ref (1002)), some (.ref (0)), some (.ref (65)), some (.int (nI i))] [] (gS, I, J, gR p, ro) Q) : Px 61 0 0 CL_law 1048 [some (.ref (1002)), some (.ref (0)), some (.ref (65)), some (.int (nI i))] [] (gS, I, J, gR p, ro) Q := by
  by_cases hx : (xs (i + 1)).toInt < 0 ∨ 5 < (xs (i + 1)).toInt
  · exact stp_count_o h hi hL hscr hro hx kont
  · obtain ⟨z, hz, e⟩ := n_ofn (x := xs (i + 1)) (fun q => by rw [i_lt, i_0] at q; omega)
    rw [e, nI_toInt hz] at hx
    rcases (by omega : z = 0 ∨ z = 1 ∨ z = 2 ∨ z = 3 ∨ z = 4 ∨ z = 5) with rfl | rfl | rfl | rfl | rfl | rfl
    · exact stp_count_0 h hi hL hscr hro e kont
    · exact stp_count_1 h hi hL hscr hro e kont
    · exact stp_count_2 h hi hL hscr hro e kont
    · exact stp_count_3 h hi hL hscr hro e kont
    · exact stp_count_4 h hi hL hscr hro e kont
    · exact stp_count_5 h hi hL hscr hro e kont
def LDq (f : Nat → Int32) (w : Int32) (r : Option Value) : Prop := (∃ k, k < 4 ∧ w = nI k ∧ r = some (.int (f k))) ∨ (¬ (∃ k, k < 4 ∧ w = nI k) ∧ r = some (.int (-1)))
theorem LDq_v {f : Nat → Int32} {w : Int32} {r : Option Value} (h : LDq f w r) : ∃ v, r = some (.int v) ∧ LDq f w (some (.int v)) := by
  rcases h with ⟨k, h1, h2, rfl⟩ | ⟨h1, rfl⟩
  · exact ⟨_, rfl, .inl ⟨k, h1, h2, rfl⟩⟩
  · exact ⟨_, rfl, .inr ⟨h1, rfl⟩⟩
theorem LDq_fn {f g : Nat → Int32} (hf : ∀ j, j < 4 → f j = g j) {x v w : Int32} (h : LDq f x (some (.int v))) (h2 : LDq g x (some (.int w))) : v = w := by
  rcases h with ⟨k, a, c, e⟩ | ⟨a, e⟩
  · rcases h2 with ⟨k2, a2, c2, e2⟩ | ⟨a2, e2⟩
    · rw [c, n_eq (by omega) (by omega)] at c2
      subst c2
      cases e
      cases e2
      exact hf k a
    · exact absurd ⟨k, a, c⟩ a2
  · rcases h2 with ⟨k2, a2, c2, e2⟩ | ⟨a2, e2⟩
    · exact absurd ⟨k2, a2, c2⟩ a
    · cases e
      cases e2
      rfl
theorem MT_congr {n : Nat} {I : Nat → Nat → Int32} (h : ∀ l, l < n → I 36 l = I 70 l ∧ I 37 l = I 71 l) (hM : MT n (I 36)) : MT n (I 70) := by
  intro l hl
  rw [← (h l hl).1]
  rcases hM l hl with e | ⟨k, hk, h1, h2, h3⟩
  · exact .inl e
  · exact .inr ⟨k, hk, h1, h2, by rw [← (h k hk).1]; exact h3⟩
theorem bits_pad {P : Nat → Bool} {n : Nat} : ∀ m, (∀ l, n ≤ l → l < n + m → P l = false) → sp_bits P (n + m) = sp_bits P n
  | 0, _ => rfl
  | m + 1, h => by
    rw [← bits_pad m (fun l h1 h2 => h l h1 (by omega))]
    show sp_bits P (n + m + 1) = _
    rw [sp_bits, h (n + m) (by omega) (by omega)]
    simp
theorem led_eq {tx : List Ln} {n nb : Nat} {I : Nat → Nat → Int32} {J : Nat → Nat → Int64} {p : Bool × Option Nat} (h : Inv tx n nb I J p) : sp_bits (fun l => decide (I 36 l ≠ -1)) 8 = sp_bits (fun l => decide (I 70 l ≠ -1)) n := by
  have hn := h.n8
  rw [show 8 = n + (8 - n) by omega, bits_pad (8 - n) (fun l h1 h2 => by simp only [(h.to2 l h1 (by omega)).1, ne_eq, not_true_eq_false, decide_false])]
  exact sp_bits_congr (fun l hl => by rw [(h.to1 l hl).1])
set_option maxRecDepth 20000 in
theorem stp_led_4 {I : Nat → Nat → Int32} {J : Nat → Nat → Int64} {p : Bool × Option Nat} {ro : List (Nat × Nat × (Nat → Int32))} {tx : List Ln} {n nb : Nat} (h : Inv tx n nb I J p) {L i : Nat} {xs : Nat → Int32} (hi : i + 6 ≤ L) (hL : L ≤ 3072) (hscr : (1002, L, xs) ∈ ro) (hro : RO ro) {Q : Option Value → pm_M → Prop} (hx : xs (i + 1) = nI 4) (kont : ∀ (tx : List Ln) (n nb : Nat) (I : Nat → Nat → Int32) (J : Nat → Nat → Int64) (p : Bool × Option Nat), Inv tx n nb I J p → Px 61 0 0 CL_law 1065 [some (.ref (1002)), some (.ref (0)), some (.ref (65)), some (.int (nI i))] [] (gS, I, J, gR p, ro) Q) : Px 61 0 0 CL_law 695 [some (.ref (1002)), some (.ref (0)), some (.ref (65)), some (.int (nI i))] [] (gS, I, J, gR p, ro) Q := by
  refine px_aload_n (kk := 1) rfl rfl rfl ?_
  refine px_aload_n (kk := 0) rfl rfl rfl ?_
  refine px_iload_n (kk := 3) rfl rfl rfl ?_
  refine px_iconst (v := nI 1) rfl k_1 ?_
  refine px_iaddN rfl ?_
  refine px_roalde (j := (i + 1)) (v := nI 4) rfl hscr rfl (by omega) hx ?_
  refine px_callV0 CX11_led [] [.int _] (vX11_led_4) rfl gS_0 (by decide) rfl rfl rfl (Nat.le_of_ble_eq_true rfl) (by decide) ?_
  rintro _ _ - ⟨rfl, rfl⟩
  refine px_aload_n (kk := 2) rfl rfl rfl ?_
  refine px_aload_n (kk := 0) rfl rfl rfl ?_
  refine px_iload_n (kk := 3) rfl rfl rfl ?_
  refine px_iconst (v := nI 1) rfl k_1 ?_
  refine px_iaddN rfl ?_
  refine px_roalde (j := (i + 1)) (v := nI 4) rfl hscr rfl (by omega) hx ?_
  refine px_callV0 CX12_led [.int _] [.int _] (vX12_led_4 h.rn h.n8 (MT_congr h.to1 h.mt)) rfl gS_65 (by decide) rfl rfl rfl (Nat.le_of_ble_eq_true rfl) (by decide) ?_
  rintro _ _ - ⟨rfl, rfl⟩
  refine px_icmp_eq rfl (fun c709 => ?_) (fun hZ => absurd (led_eq h) hZ)
  exact kont _ _ _ _ _ _ h
set_option maxRecDepth 20000 in
theorem stp_led_k {I : Nat → Nat → Int32} {J : Nat → Nat → Int64} {p : Bool × Option Nat} {ro : List (Nat × Nat × (Nat → Int32))} {tx : List Ln} {n nb : Nat} (h : Inv tx n nb I J p) {L i : Nat} {xs : Nat → Int32} (hi : i + 6 ≤ L) (hL : L ≤ 3072) (hscr : (1002, L, xs) ∈ ro) (hro : RO ro) {Q : Option Value → pm_M → Prop} (hx : xs (i + 1) ≠ nI 4) (kont : ∀ (tx : List Ln) (n nb : Nat) (I : Nat → Nat → Int32) (J : Nat → Nat → Int64) (p : Bool × Option Nat), Inv tx n nb I J p → Px 61 0 0 CL_law 1065 [some (.ref (1002)), some (.ref (0)), some (.ref (65)), some (.int (nI i))] [] (gS, I, J, gR p, ro) Q) : Px 61 0 0 CL_law 695 [some (.ref (1002)), some (.ref (0)), some (.ref (65)), some (.int (nI i))] [] (gS, I, J, gR p, ro) Q := by
  refine px_aload_n (kk := 1) rfl rfl rfl ?_
  refine px_aload_n (kk := 0) rfl rfl rfl ?_
  refine px_iload_n (kk := 3) rfl rfl rfl ?_
  refine px_iconst (v := nI 1) rfl k_1 ?_
  refine px_iaddN rfl ?_
  refine px_roald (j := (i + 1)) rfl hscr rfl (by omega) ?_
  refine px_callV0 CX11_led [] [.int _] (pv_post (vX11_led_k hx) (fun r S2 z => (⟨z.1, LDq_v z.2⟩ : S2 = _ ∧ ∃ v, r = some (.int v) ∧ LDq (I 38) _ (some (.int v))))) rfl gS_0 (by decide) rfl rfl rfl (Nat.le_of_ble_eq_true rfl) (by decide) ?_
  rintro _ _ - ⟨rfl, v, rfl, hv⟩
  refine px_aload_n (kk := 2) rfl rfl rfl ?_
  refine px_aload_n (kk := 0) rfl rfl rfl ?_
  refine px_iload_n (kk := 3) rfl rfl rfl ?_
  refine px_iconst (v := nI 1) rfl k_1 ?_
  refine px_iaddN rfl ?_
  refine px_roald (j := (i + 1)) rfl hscr rfl (by omega) ?_
  refine px_callV0 CX12_led [.int _] [.int _] (pv_post (vX12_led_k hx) (fun r S2 z => (⟨z.1, LDq_v z.2⟩ : S2 = _ ∧ ∃ v, r = some (.int v) ∧ LDq (I 91) _ (some (.int v))))) rfl gS_65 (by decide) rfl rfl rfl (Nat.le_of_ble_eq_true rfl) (by decide) ?_
  rintro _ _ - ⟨rfl, v2, rfl, hv2⟩
  have heq := LDq_fn h.led hv hv2
  refine px_icmp_eq rfl (fun c709 => ?_) (fun hZ => absurd (heq) hZ)
  exact kont _ _ _ _ _ _ h
theorem stp_led {I : Nat → Nat → Int32} {J : Nat → Nat → Int64} {p : Bool × Option Nat} {ro : List (Nat × Nat × (Nat → Int32))} {tx : List Ln} {n nb : Nat} (h : Inv tx n nb I J p) {L i : Nat} {xs : Nat → Int32} (hi : i + 6 ≤ L) (hL : L ≤ 3072) (hscr : (1002, L, xs) ∈ ro) (hro : RO ro) {Q : Option Value → pm_M → Prop} (kont : ∀ (tx : List Ln) (n nb : Nat) (I : Nat → Nat → Int32) (J : Nat → Nat → Int64) (p : Bool × Option Nat), Inv tx n nb I J p → Px 61 0 0 CL_law 1065 [some (.ref (1002)), some (.ref (0)), some (.ref (65)), some (.int (nI i))] [] (gS, I, J, gR p, ro) Q) : Px 61 0 0 CL_law 695 [some (.ref (1002)), some (.ref (0)), some (.ref (65)), some (.int (nI i))] [] (gS, I, J, gR p, ro) Q := by
  by_cases hx : xs (i + 1) = nI 4
  · exact stp_led_4 h hi hL hscr hro hx kont
  · exact stp_led_k h hi hL hscr hro hx kont
