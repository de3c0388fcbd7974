/-! the law's own steps: both are asked, and say the same -/
theorem lcmp_rf (v : Int64) : lg_cmp v v = nI 0 := by simp [lg_cmp]; rfl
set_option maxRecDepth 20000 in
theorem stp_later {I : Nat → Nat → Int32} {J : Nat → Nat → Int64} {p : Bool × Option Nat} {ro : List (Nat × Nat × (Nat → Int32))} {tx : List Ln} {n nb : Nat} (h : Inv tx n nb I J p) {L i : Nat} {xs : Nat → Int32} (hi : i + 6 ≤ L) (hL : L ≤ 3072) (hscr : (1002, L, xs) ∈ ro) (hro : RO ro) {Q : Option Value → pm_M → Prop}  (kont : ∀ (tx : List Ln) (n nb : Nat) (I : Nat → Nat → Int32) (J : Nat → Nat → Int64) (p : Bool × Option Nat), Inv tx n nb I J p → Px 61 0 0 CL_law 1065 [some (.ref (1002)), some (.ref (0)), some (.ref (65)), some (.int (nI i))] [] (gS, I, J, gR p, ro) Q) : Px 61 0 0 CL_law 191 [some (.ref (1002)), some (.ref (0)), some (.ref (65)), some (.int (nI i))] [] (gS, I, J, gR p, ro) Q := by
  refine px_aload_n (kk := 1) rfl rfl rfl ?_
  refine px_aload_n (kk := 0) rfl rfl rfl ?_
  refine px_iload_n (kk := 3) rfl rfl rfl ?_
  refine px_iconst (v := nI 1) rfl k_1 ?_
  refine px_iaddN rfl ?_
  refine px_roald (j := (i + 1)) rfl hscr rfl (by omega) ?_
  refine px_aload_n (kk := 0) rfl rfl rfl ?_
  refine px_iload_n (kk := 3) rfl rfl rfl ?_
  refine px_iconst (v := nI 2) rfl k_2 ?_
  refine px_iaddN rfl ?_
  refine px_roald (j := (i + 2)) rfl hscr rfl (by omega) ?_
  refine px_aload_n (kk := 0) rfl rfl rfl ?_
  refine px_iload_n (kk := 3) rfl rfl rfl ?_
  refine px_iconst (v := nI 3) rfl k_3 ?_
  refine px_iaddN rfl ?_
  refine px_roald (j := (i + 3)) rfl hscr rfl (by omega) ?_
  refine px_callV0 CX11_later [] [.int _, .int _, .int _] (vX11_later h.tw h.szC) rfl gS_0 (by decide) rfl rfl rfl (Nat.le_of_ble_eq_true rfl) (by decide) ?_
  rintro _ _ - ⟨v, rfl, hv, I1, J1, b, rfl, hF, hK, hJ⟩
  have h1 := Inv_th h hF hK hJ b
  obtain ⟨cd, hcd4, hcd⟩ := h1.c4
  refine px_aload_n (kk := 2) rfl rfl rfl ?_
  refine px_aload_n (kk := 0) rfl rfl rfl ?_
  refine px_iload_n (kk := 3) rfl rfl rfl ?_
  refine px_iconst (v := nI 1) rfl k_1 ?_
  refine px_iaddN rfl ?_
  refine px_roald (j := (i + 1)) rfl hscr rfl (by omega) ?_
  refine px_aload_n (kk := 0) rfl rfl rfl ?_
  refine px_iload_n (kk := 3) rfl rfl rfl ?_
  refine px_iconst (v := nI 2) rfl k_2 ?_
  refine px_iaddN rfl ?_
  refine px_roald (j := (i + 2)) rfl hscr rfl (by omega) ?_
  refine px_aload_n (kk := 0) rfl rfl rfl ?_
  refine px_iload_n (kk := 3) rfl rfl rfl ?_
  refine px_iconst (v := nI 3) rfl k_3 ?_
  refine px_iaddN rfl ?_
  refine px_roald (j := (i + 3)) rfl hscr rfl (by omega) ?_
  refine px_callV0 CX12_later [.int _] [.int _, .int _, .int _] (vX12_later h1.lawR h1.rn h1.n8 h1.lkr h1.szR) rfl gS_65 (by decide) rfl rfl rfl (Nat.le_of_ble_eq_true rfl) (by decide) ?_
  rintro _ _ - ⟨v2, rfl, hv2, I2, rfl, hF2, hK2⟩
  rw [hF 98 (by decide), hF 69 (by decide), hF 68 (by decide), hF 65 (by decide), hF 99 (by decide), hF 66 (by decide), hJ 100 (by decide)] at hv2
  have heq := eq_later h hv hv2
  have h2 := Inv_rt h1 hF2 hK2 (fun _ _ => rfl)
  refine px_icmp_eq rfl (fun c225 => ?_) (fun hZ => absurd (heq) hZ)
  exact kont _ _ _ _ _ _ h2
set_option maxRecDepth 20000 in
theorem stp_have {I : Nat → Nat → Int32} {J : Nat → Nat → Int64} {p : Bool × Option Nat} {ro : List (Nat × Nat × (Nat → Int32))} {tx : List Ln} {n nb : Nat} (h : Inv tx n nb I J p) {L i : Nat} {xs : Nat → Int32} (hi : i + 6 ≤ L) (hL : L ≤ 3072) (hscr : (1002, L, xs) ∈ ro) (hro : RO ro) {Q : Option Value → pm_M → Prop}  (kont : ∀ (tx : List Ln) (n nb : Nat) (I : Nat → Nat → Int32) (J : Nat → Nat → Int64) (p : Bool × Option Nat), Inv tx n nb I J p → Px 61 0 0 CL_law 1065 [some (.ref (1002)), some (.ref (0)), some (.ref (65)), some (.int (nI i))] [] (gS, I, J, gR p, ro) Q) : Px 61 0 0 CL_law 228 [some (.ref (1002)), some (.ref (0)), some (.ref (65)), some (.int (nI i))] [] (gS, I, J, gR p, ro) Q := by
  refine px_aload_n (kk := 1) rfl rfl rfl ?_
  refine px_aload_n (kk := 0) rfl rfl rfl ?_
  refine px_iload_n (kk := 3) rfl rfl rfl ?_
  refine px_iconst (v := nI 1) rfl k_1 ?_
  refine px_iaddN rfl ?_
  refine px_roald (j := (i + 1)) rfl hscr rfl (by omega) ?_
  refine px_aload_n (kk := 0) rfl rfl rfl ?_
  refine px_iload_n (kk := 3) rfl rfl rfl ?_
  refine px_iconst (v := nI 2) rfl k_2 ?_
  refine px_iaddN rfl ?_
  refine px_roald (j := (i + 2)) rfl hscr rfl (by omega) ?_
  refine px_aload_n (kk := 0) rfl rfl rfl ?_
  refine px_iload_n (kk := 3) rfl rfl rfl ?_
  refine px_iconst (v := nI 3) rfl k_3 ?_
  refine px_iaddN rfl ?_
  refine px_roald (j := (i + 3)) rfl hscr rfl (by omega) ?_
  refine px_callV0 CX11_have [] [.int _, .int _, .int _] (vX11_have h.tw h.szC) rfl gS_0 (by decide) rfl rfl rfl (Nat.le_of_ble_eq_true rfl) (by decide) ?_
  rintro _ _ - ⟨v, rfl, hv, I1, J1, b, rfl, hF, hK, hJ⟩
  have h1 := Inv_th h hF hK hJ b
  obtain ⟨cd, hcd4, hcd⟩ := h1.c4
  refine px_aload_n (kk := 2) rfl rfl rfl ?_
  refine px_aload_n (kk := 0) rfl rfl rfl ?_
  refine px_iload_n (kk := 3) rfl rfl rfl ?_
  refine px_iconst (v := nI 1) rfl k_1 ?_
  refine px_iaddN rfl ?_
  refine px_roald (j := (i + 1)) rfl hscr rfl (by omega) ?_
  refine px_aload_n (kk := 0) rfl rfl rfl ?_
  refine px_iload_n (kk := 3) rfl rfl rfl ?_
  refine px_iconst (v := nI 2) rfl k_2 ?_
  refine px_iaddN rfl ?_
  refine px_roald (j := (i + 2)) rfl hscr rfl (by omega) ?_
  refine px_aload_n (kk := 0) rfl rfl rfl ?_
  refine px_iload_n (kk := 3) rfl rfl rfl ?_
  refine px_iconst (v := nI 3) rfl k_3 ?_
  refine px_iaddN rfl ?_
  refine px_roald (j := (i + 3)) rfl hscr rfl (by omega) ?_
  refine px_callV0 CX12_have [.int _] [.int _, .int _, .int _] (vX12_have h1.lawR h1.rn h1.n8 h1.lkr h1.szR) rfl gS_65 (by decide) rfl rfl rfl (Nat.le_of_ble_eq_true rfl) (by decide) ?_
  rintro _ _ - ⟨v2, rfl, hv2, I2, rfl, hF2, hK2⟩
  rw [hF 98 (by decide), hF 67 (by decide), hF 69 (by decide), hF 68 (by decide), hF 65 (by decide), hF 99 (by decide), hF 66 (by decide), hJ 100 (by decide)] at hv2
  have heq := eq_have h hv hv2
  have h2 := Inv_rt h1 hF2 hK2 (fun _ _ => rfl)
  refine px_icmp_eq rfl (fun c262 => ?_) (fun hZ => absurd (heq) hZ)
  exact kont _ _ _ _ _ _ h2
set_option maxRecDepth 20000 in
theorem stp_through {I : Nat → Nat → Int32} {J : Nat → Nat → Int64} {p : Bool × Option Nat} {ro : List (Nat × Nat × (Nat → Int32))} {tx : List Ln} {n nb : Nat} (h : Inv tx n nb I J p) {L i : Nat} {xs : Nat → Int32} (hi : i + 6 ≤ L) (hL : L ≤ 3072) (hscr : (1002, L, xs) ∈ ro) (hro : RO ro) {Q : Option Value → pm_M → Prop}  (kont : ∀ (tx : List Ln) (n nb : Nat) (I : Nat → Nat → Int32) (J : Nat → Nat → Int64) (p : Bool × Option Nat), Inv tx n nb I J p → Px 61 0 0 CL_law 1065 [some (.ref (1002)), some (.ref (0)), some (.ref (65)), some (.int (nI i))] [] (gS, I, J, gR p, ro) Q) : Px 61 0 0 CL_law 265 [some (.ref (1002)), some (.ref (0)), some (.ref (65)), some (.int (nI i))] [] (gS, I, J, gR p, ro) Q := by
  refine px_aload_n (kk := 1) rfl rfl rfl ?_
  refine px_aload_n (kk := 0) rfl rfl rfl ?_
  refine px_iload_n (kk := 3) rfl rfl rfl ?_
  refine px_iconst (v := nI 1) rfl k_1 ?_
  refine px_iaddN rfl ?_
  refine px_roald (j := (i + 1)) rfl hscr rfl (by omega) ?_
  refine px_aload_n (kk := 0) rfl rfl rfl ?_
  refine px_iload_n (kk := 3) rfl rfl rfl ?_
  refine px_iconst (v := nI 2) rfl k_2 ?_
  refine px_iaddN rfl ?_
  refine px_roald (j := (i + 2)) rfl hscr rfl (by omega) ?_
  refine px_aload_n (kk := 0) rfl rfl rfl ?_
  refine px_iload_n (kk := 3) rfl rfl rfl ?_
  refine px_iconst (v := nI 3) rfl k_3 ?_
  refine px_iaddN rfl ?_
  refine px_roald (j := (i + 3)) rfl hscr rfl (by omega) ?_
  refine px_callV0 CX11_through [] [.int _, .int _, .int _] (vX11_through h.tw h.szC) rfl gS_0 (by decide) rfl rfl rfl (Nat.le_of_ble_eq_true rfl) (by decide) ?_
  rintro _ _ - ⟨v, rfl, hv, I1, J1, b, rfl, hF, hK, hJ⟩
  have h1 := Inv_th h hF hK hJ b
  obtain ⟨cd, hcd4, hcd⟩ := h1.c4
  refine px_aload_n (kk := 2) rfl rfl rfl ?_
  refine px_aload_n (kk := 0) rfl rfl rfl ?_
  refine px_iload_n (kk := 3) rfl rfl rfl ?_
  refine px_iconst (v := nI 1) rfl k_1 ?_
  refine px_iaddN rfl ?_
  refine px_roald (j := (i + 1)) rfl hscr rfl (by omega) ?_
  refine px_aload_n (kk := 0) rfl rfl rfl ?_
  refine px_iload_n (kk := 3) rfl rfl rfl ?_
  refine px_iconst (v := nI 2) rfl k_2 ?_
  refine px_iaddN rfl ?_
  refine px_roald (j := (i + 2)) rfl hscr rfl (by omega) ?_
  refine px_aload_n (kk := 0) rfl rfl rfl ?_
  refine px_iload_n (kk := 3) rfl rfl rfl ?_
  refine px_iconst (v := nI 3) rfl k_3 ?_
  refine px_iaddN rfl ?_
  refine px_roald (j := (i + 3)) rfl hscr rfl (by omega) ?_
  refine px_callV0 CX12_through [.int _] [.int _, .int _, .int _] (vX12_through h1.lawR h1.rn h1.n8 h1.lkr h1.szR) rfl gS_65 (by decide) rfl rfl rfl (Nat.le_of_ble_eq_true rfl) (by decide) ?_
  rintro _ _ - ⟨v2, rfl, hv2, I2, rfl, hF2, hK2⟩
  rw [hF 98 (by decide), hF 69 (by decide), hF 68 (by decide), hF 65 (by decide), hF 99 (by decide), hF 66 (by decide), hJ 100 (by decide)] at hv2
  have heq := eq_through h hv hv2
  have h2 := Inv_rt h1 hF2 hK2 (fun _ _ => rfl)
  refine px_icmp_eq rfl (fun c299 => ?_) (fun hZ => absurd (heq) hZ)
  exact kont _ _ _ _ _ _ h2
set_option maxRecDepth 20000 in
theorem stp_idle {I : Nat → Nat → Int32} {J : Nat → Nat → Int64} {p : Bool × Option Nat} {ro : List (Nat × Nat × (Nat → Int32))} {tx : List Ln} {n nb : Nat} (h : Inv tx n nb I J p) {L i : Nat} {xs : Nat → Int32} (hi : i + 6 ≤ L) (hL : L ≤ 3072) (hscr : (1002, L, xs) ∈ ro) (hro : RO ro) {Q : Option Value → pm_M → Prop}  (kont : ∀ (tx : List Ln) (n nb : Nat) (I : Nat → Nat → Int32) (J : Nat → Nat → Int64) (p : Bool × Option Nat), Inv tx n nb I J p → Px 61 0 0 CL_law 1065 [some (.ref (1002)), some (.ref (0)), some (.ref (65)), some (.int (nI i))] [] (gS, I, J, gR p, ro) Q) : Px 61 0 0 CL_law 302 [some (.ref (1002)), some (.ref (0)), some (.ref (65)), some (.int (nI i))] [] (gS, I, J, gR p, ro) Q := by
  refine px_aload_n (kk := 1) rfl rfl rfl ?_
  refine px_aload_n (kk := 0) rfl rfl rfl ?_
  refine px_iload_n (kk := 3) rfl rfl rfl ?_
  refine px_iconst (v := nI 1) rfl k_1 ?_
  refine px_iaddN rfl ?_
  refine px_roald (j := (i + 1)) rfl hscr rfl (by omega) ?_
  refine px_aload_n (kk := 0) rfl rfl rfl ?_
  refine px_iload_n (kk := 3) rfl rfl rfl ?_
  refine px_iconst (v := nI 2) rfl k_2 ?_
  refine px_iaddN rfl ?_
  refine px_roald (j := (i + 2)) rfl hscr rfl (by omega) ?_
  refine px_aload_n (kk := 0) rfl rfl rfl ?_
  refine px_iload_n (kk := 3) rfl rfl rfl ?_
  refine px_iconst (v := nI 3) rfl k_3 ?_
  refine px_iaddN rfl ?_
  refine px_roald (j := (i + 3)) rfl hscr rfl (by omega) ?_
  refine px_callV0 CX11_idle [] [.int _, .int _, .int _] (vX11_idle h.tw h.szC) rfl gS_0 (by decide) rfl rfl rfl (Nat.le_of_ble_eq_true rfl) (by decide) ?_
  rintro _ _ - ⟨v, rfl, hv, I1, J1, b, rfl, hF, hK, hJ⟩
  have h1 := Inv_th h hF hK hJ b
  obtain ⟨cd, hcd4, hcd⟩ := h1.c4
  refine px_aload_n (kk := 2) rfl rfl rfl ?_
  refine px_aload_n (kk := 0) rfl rfl rfl ?_
  refine px_iload_n (kk := 3) rfl rfl rfl ?_
  refine px_iconst (v := nI 1) rfl k_1 ?_
  refine px_iaddN rfl ?_
  refine px_roald (j := (i + 1)) rfl hscr rfl (by omega) ?_
  refine px_aload_n (kk := 0) rfl rfl rfl ?_
  refine px_iload_n (kk := 3) rfl rfl rfl ?_
  refine px_iconst (v := nI 2) rfl k_2 ?_
  refine px_iaddN rfl ?_
  refine px_roald (j := (i + 2)) rfl hscr rfl (by omega) ?_
  refine px_aload_n (kk := 0) rfl rfl rfl ?_
  refine px_iload_n (kk := 3) rfl rfl rfl ?_
  refine px_iconst (v := nI 3) rfl k_3 ?_
  refine px_iaddN rfl ?_
  refine px_roald (j := (i + 3)) rfl hscr rfl (by omega) ?_
  refine px_callV0 CX12_idle [.int _] [.int _, .int _, .int _] (vX12_idle (tx := tx) h1.rn h1.n8 h1.szR) rfl gS_65 (by decide) rfl rfl rfl (Nat.le_of_ble_eq_true rfl) (by decide) ?_
  rintro _ _ - ⟨v2, rfl, hv2, I2, rfl, hF2, hK2⟩
  rw [hF 98 (by decide), hF 69 (by decide), hF 68 (by decide), hF 65 (by decide), hF 99 (by decide), hF 66 (by decide), hJ 100 (by decide)] at hv2
  have heq := eq_idle h hv hv2
  have h2 := Inv_rt h1 hF2 hK2 (fun _ _ => rfl)
  refine px_icmp_eq rfl (fun c336 => ?_) (fun hZ => absurd (heq) hZ)
  exact kont _ _ _ _ _ _ h2
set_option maxRecDepth 20000 in
theorem stp_news {I : Nat → Nat → Int32} {J : Nat → Nat → Int64} {p : Bool × Option Nat} {ro : List (Nat × Nat × (Nat → Int32))} {tx : List Ln} {n nb : Nat} (h : Inv tx n nb I J p) {L i : Nat} {xs : Nat → Int32} (hi : i + 6 ≤ L) (hL : L ≤ 3072) (hscr : (1002, L, xs) ∈ ro) (hro : RO ro) {Q : Option Value → pm_M → Prop}  (kont : ∀ (tx : List Ln) (n nb : Nat) (I : Nat → Nat → Int32) (J : Nat → Nat → Int64) (p : Bool × Option Nat), Inv tx n nb I J p → Px 61 0 0 CL_law 1065 [some (.ref (1002)), some (.ref (0)), some (.ref (65)), some (.int (nI i))] [] (gS, I, J, gR p, ro) Q) : Px 61 0 0 CL_law 339 [some (.ref (1002)), some (.ref (0)), some (.ref (65)), some (.int (nI i))] [] (gS, I, J, gR p, ro) Q := by
  refine px_aload_n (kk := 1) rfl rfl rfl ?_
  refine px_aload_n (kk := 0) rfl rfl rfl ?_
  refine px_iload_n (kk := 3) rfl rfl rfl ?_
  refine px_iconst (v := nI 1) rfl k_1 ?_
  refine px_iaddN rfl ?_
  refine px_roald (j := (i + 1)) rfl hscr rfl (by omega) ?_
  refine px_aload_n (kk := 0) rfl rfl rfl ?_
  refine px_iload_n (kk := 3) rfl rfl rfl ?_
  refine px_iconst (v := nI 2) rfl k_2 ?_
  refine px_iaddN rfl ?_
  refine px_roald (j := (i + 2)) rfl hscr rfl (by omega) ?_
  refine px_aload_n (kk := 0) rfl rfl rfl ?_
  refine px_iload_n (kk := 3) rfl rfl rfl ?_
  refine px_iconst (v := nI 3) rfl k_3 ?_
  refine px_iaddN rfl ?_
  refine px_roald (j := (i + 3)) rfl hscr rfl (by omega) ?_
  refine px_aload_n (kk := 0) rfl rfl rfl ?_
  refine px_iload_n (kk := 3) rfl rfl rfl ?_
  refine px_iconst (v := nI 4) rfl k_4 ?_
  refine px_iaddN rfl ?_
  refine px_roald (j := (i + 4)) rfl hscr rfl (by omega) ?_
  refine px_callV0 CX11_news [] [.int _, .int _, .int _, .int _] (vX11_news h.tw h.szC) rfl gS_0 (by decide) rfl rfl rfl (Nat.le_of_ble_eq_true rfl) (by decide) ?_
  rintro _ _ - ⟨v, rfl, hv, I1, J1, b, rfl, hF, hK, hJ⟩
  have h1 := Inv_th h hF hK hJ b
  obtain ⟨cd, hcd4, hcd⟩ := h1.c4
  refine px_aload_n (kk := 2) rfl rfl rfl ?_
  refine px_aload_n (kk := 0) rfl rfl rfl ?_
  refine px_iload_n (kk := 3) rfl rfl rfl ?_
  refine px_iconst (v := nI 1) rfl k_1 ?_
  refine px_iaddN rfl ?_
  refine px_roald (j := (i + 1)) rfl hscr rfl (by omega) ?_
  refine px_aload_n (kk := 0) rfl rfl rfl ?_
  refine px_iload_n (kk := 3) rfl rfl rfl ?_
  refine px_iconst (v := nI 2) rfl k_2 ?_
  refine px_iaddN rfl ?_
  refine px_roald (j := (i + 2)) rfl hscr rfl (by omega) ?_
  refine px_aload_n (kk := 0) rfl rfl rfl ?_
  refine px_iload_n (kk := 3) rfl rfl rfl ?_
  refine px_iconst (v := nI 3) rfl k_3 ?_
  refine px_iaddN rfl ?_
  refine px_roald (j := (i + 3)) rfl hscr rfl (by omega) ?_
  refine px_aload_n (kk := 0) rfl rfl rfl ?_
  refine px_iload_n (kk := 3) rfl rfl rfl ?_
  refine px_iconst (v := nI 4) rfl k_4 ?_
  refine px_iaddN rfl ?_
  refine px_roald (j := (i + 4)) rfl hscr rfl (by omega) ?_
  refine px_callV0 CX12_news [.int _] [.int _, .int _, .int _, .int _] (vX12_news (tx := tx) h1.rn h1.n8 h1.szR) rfl gS_65 (by decide) rfl rfl rfl (Nat.le_of_ble_eq_true rfl) (by decide) ?_
  rintro _ _ - ⟨v2, rfl, hv2, I2, rfl, hF2, hK2⟩
  rw [hF 98 (by decide), hF 68 (by decide), hF 65 (by decide), hF 99 (by decide), hJ 100 (by decide)] at hv2
  have heq := eq_news h hv hv2
  have h2 := Inv_rt h1 hF2 hK2 (fun _ _ => rfl)
  refine px_icmp_eq rfl (fun c383 => ?_) (fun hZ => absurd (heq) hZ)
  exact kont _ _ _ _ _ _ h2
set_option maxRecDepth 20000 in
theorem stp_cut {I : Nat → Nat → Int32} {J : Nat → Nat → Int64} {p : Bool × Option Nat} {ro : List (Nat × Nat × (Nat → Int32))} {tx : List Ln} {n nb : Nat} (h : Inv tx n nb I J p) {L i : Nat} {xs : Nat → Int32} (hi : i + 6 ≤ L) (hL : L ≤ 3072) (hscr : (1002, L, xs) ∈ ro) (hro : RO ro) {Q : Option Value → pm_M → Prop}  (kont : ∀ (tx : List Ln) (n nb : Nat) (I : Nat → Nat → Int32) (J : Nat → Nat → Int64) (p : Bool × Option Nat), Inv tx n nb I J p → Px 61 0 0 CL_law 1065 [some (.ref (1002)), some (.ref (0)), some (.ref (65)), some (.int (nI i))] [] (gS, I, J, gR p, ro) Q) : Px 61 0 0 CL_law 525 [some (.ref (1002)), some (.ref (0)), some (.ref (65)), some (.int (nI i))] [] (gS, I, J, gR p, ro) Q := by
  refine px_aload_n (kk := 1) rfl rfl rfl ?_
  refine px_aload_n (kk := 0) rfl rfl rfl ?_
  refine px_iload_n (kk := 3) rfl rfl rfl ?_
  refine px_iconst (v := nI 1) rfl k_1 ?_
  refine px_iaddN rfl ?_
  refine px_roald (j := (i + 1)) rfl hscr rfl (by omega) ?_
  refine px_aload_n (kk := 0) rfl rfl rfl ?_
  refine px_iload_n (kk := 3) rfl rfl rfl ?_
  refine px_iconst (v := nI 2) rfl k_2 ?_
  refine px_iaddN rfl ?_
  refine px_roald (j := (i + 2)) rfl hscr rfl (by omega) ?_
  refine px_aload_n (kk := 0) rfl rfl rfl ?_
  refine px_iload_n (kk := 3) rfl rfl rfl ?_
  refine px_iconst (v := nI 3) rfl k_3 ?_
  refine px_iaddN rfl ?_
  refine px_roald (j := (i + 3)) rfl hscr rfl (by omega) ?_
  refine px_callV0 CX11_cut [] [.int _, .int _, .int _] (vX11_cut h.tw h.szC) rfl gS_0 (by decide) rfl rfl rfl (Nat.le_of_ble_eq_true rfl) (by decide) ?_
  rintro _ _ - ⟨v, rfl, hv, I1, J1, b, rfl, hF, hK, hJ⟩
  have h1 := Inv_th h hF hK hJ b
  obtain ⟨cd, hcd4, hcd⟩ := h1.c4
  refine px_aload_n (kk := 2) rfl rfl rfl ?_
  refine px_aload_n (kk := 0) rfl rfl rfl ?_
  refine px_iload_n (kk := 3) rfl rfl rfl ?_
  refine px_iconst (v := nI 1) rfl k_1 ?_
  refine px_iaddN rfl ?_
  refine px_roald (j := (i + 1)) rfl hscr rfl (by omega) ?_
  refine px_aload_n (kk := 0) rfl rfl rfl ?_
  refine px_iload_n (kk := 3) rfl rfl rfl ?_
  refine px_iconst (v := nI 2) rfl k_2 ?_
  refine px_iaddN rfl ?_
  refine px_roald (j := (i + 2)) rfl hscr rfl (by omega) ?_
  refine px_aload_n (kk := 0) rfl rfl rfl ?_
  refine px_iload_n (kk := 3) rfl rfl rfl ?_
  refine px_iconst (v := nI 3) rfl k_3 ?_
  refine px_iaddN rfl ?_
  refine px_roald (j := (i + 3)) rfl hscr rfl (by omega) ?_
  refine px_callV0 CX12_cut [.int _] [.int _, .int _, .int _] (vX12_cut (tx := tx) h1.rn h1.n8 h1.szR) rfl gS_65 (by decide) rfl rfl rfl (Nat.le_of_ble_eq_true rfl) (by decide) ?_
  rintro _ _ - ⟨v2, rfl, hv2, I2, rfl, hF2, hK2⟩
  rw [hF 98 (by decide), hF 68 (by decide), hF 65 (by decide), hF 99 (by decide), hJ 100 (by decide)] at hv2
  have heq := eq_cut h hv hv2
  have h2 := Inv_rt h1 hF2 hK2 (fun _ _ => rfl)
  refine px_icmp_eq rfl (fun c559 => ?_) (fun hZ => absurd (heq) hZ)
  exact kont _ _ _ _ _ _ h2
set_option maxRecDepth 20000 in
theorem stp_which {I : Nat → Nat → Int32} {J : Nat → Nat → Int64} {p : Bool × Option Nat} {ro : List (Nat × Nat × (Nat → Int32))} {tx : List Ln} {n nb : Nat} (h : Inv tx n nb I J p) {L i : Nat} {xs : Nat → Int32} (hi : i + 6 ≤ L) (hL : L ≤ 3072) (hscr : (1002, L, xs) ∈ ro) (hro : RO ro) {Q : Option Value → pm_M → Prop}  (kont : ∀ (tx : List Ln) (n nb : Nat) (I : Nat → Nat → Int32) (J : Nat → Nat → Int64) (p : Bool × Option Nat), Inv tx n nb I J p → Px 61 0 0 CL_law 1065 [some (.ref (1002)), some (.ref (0)), some (.ref (65)), some (.int (nI i))] [] (gS, I, J, gR p, ro) Q) : Px 61 0 0 CL_law 464 [some (.ref (1002)), some (.ref (0)), some (.ref (65)), some (.int (nI i))] [] (gS, I, J, gR p, ro) Q := by
  refine px_aload_n (kk := 1) rfl rfl rfl ?_
  refine px_aload_n (kk := 0) rfl rfl rfl ?_
  refine px_iload_n (kk := 3) rfl rfl rfl ?_
  refine px_iconst (v := nI 1) rfl k_1 ?_
  refine px_iaddN rfl ?_
  refine px_roald (j := (i + 1)) rfl hscr rfl (by omega) ?_
  refine px_aload_n (kk := 0) rfl rfl rfl ?_
  refine px_iload_n (kk := 3) rfl rfl rfl ?_
  refine px_iconst (v := nI 2) rfl k_2 ?_
  refine px_iaddN rfl ?_
  refine px_roald (j := (i + 2)) rfl hscr rfl (by omega) ?_
  refine px_callV0 CX11_which [] [.int _, .int _] (vX11_which h.tw h.szC) rfl gS_0 (by decide) rfl rfl rfl (Nat.le_of_ble_eq_true rfl) (by decide) ?_
  rintro _ _ - ⟨v, rfl, hv, I1, J1, b, rfl, hF, hK, hJ⟩
  have h1 := Inv_th h hF hK hJ b
  obtain ⟨cd, hcd4, hcd⟩ := h1.c4
  refine px_aload_n (kk := 2) rfl rfl rfl ?_
  refine px_aload_n (kk := 0) rfl rfl rfl ?_
  refine px_iload_n (kk := 3) rfl rfl rfl ?_
  refine px_iconst (v := nI 1) rfl k_1 ?_
  refine px_iaddN rfl ?_
  refine px_roald (j := (i + 1)) rfl hscr rfl (by omega) ?_
  refine px_aload_n (kk := 0) rfl rfl rfl ?_
  refine px_iload_n (kk := 3) rfl rfl rfl ?_
  refine px_iconst (v := nI 2) rfl k_2 ?_
  refine px_iaddN rfl ?_
  refine px_roald (j := (i + 2)) rfl hscr rfl (by omega) ?_
  refine px_callV0 CX12_which [.int _] [.int _, .int _] (vX12_which h1.lawR h1.rn h1.n8 h1.lkr (h1.cord.trans hcd) hcd4 h1.szR) rfl gS_65 (by decide) rfl rfl rfl (Nat.le_of_ble_eq_true rfl) (by decide) ?_
  rintro _ _ - ⟨v2, rfl, hv2, I2, J2, rfl, hF2, hK2, hJ2⟩
  rw [hF 98 (by decide), hF 69 (by decide), hF 68 (by decide), hF 67 (by decide), hF 66 (by decide), hF 65 (by decide), hF 99 (by decide), hJ 100 (by decide)] at hv2
  have heq := eq_which h hv hv2
  have h2 := Inv_rt h1 hF2 hK2 hJ2
  refine px_icmp_eq rfl (fun c488 => ?_) (fun hZ => absurd (heq) hZ)
  exact kont _ _ _ _ _ _ h2
set_option maxRecDepth 20000 in
theorem stp_sure {I : Nat → Nat → Int32} {J : Nat → Nat → Int64} {p : Bool × Option Nat} {ro : List (Nat × Nat × (Nat → Int32))} {tx : List Ln} {n nb : Nat} (h : Inv tx n nb I J p) {L i : Nat} {xs : Nat → Int32} (hi : i + 6 ≤ L) (hL : L ≤ 3072) (hscr : (1002, L, xs) ∈ ro) (hro : RO ro) {Q : Option Value → pm_M → Prop}  (kont : ∀ (tx : List Ln) (n nb : Nat) (I : Nat → Nat → Int32) (J : Nat → Nat → Int64) (p : Bool × Option Nat), Inv tx n nb I J p → Px 61 0 0 CL_law 1065 [some (.ref (1002)), some (.ref (0)), some (.ref (65)), some (.int (nI i))] [] (gS, I, J, gR p, ro) Q) : Px 61 0 0 CL_law 491 [some (.ref (1002)), some (.ref (0)), some (.ref (65)), some (.int (nI i))] [] (gS, I, J, gR p, ro) Q := by
  refine px_aload_n (kk := 1) rfl rfl rfl ?_
  refine px_aload_n (kk := 0) rfl rfl rfl ?_
  refine px_iload_n (kk := 3) rfl rfl rfl ?_
  refine px_iconst (v := nI 1) rfl k_1 ?_
  refine px_iaddN rfl ?_
  refine px_roald (j := (i + 1)) rfl hscr rfl (by omega) ?_
  refine px_callV0 CX11_sure [] [.int _] (vX11_sure h.tw h.szC) rfl gS_0 (by decide) rfl rfl rfl (Nat.le_of_ble_eq_true rfl) (by decide) ?_
  rintro _ _ - ⟨v, rfl, hv, I1, J1, b, rfl, hF, hK, hJ⟩
  have h1 := Inv_th h hF hK hJ b
  obtain ⟨cd, hcd4, hcd⟩ := h1.c4
  refine px_aload_n (kk := 2) rfl rfl rfl ?_
  refine px_aload_n (kk := 0) rfl rfl rfl ?_
  refine px_iload_n (kk := 3) rfl rfl rfl ?_
  refine px_iconst (v := nI 1) rfl k_1 ?_
  refine px_iaddN rfl ?_
  refine px_roald (j := (i + 1)) rfl hscr rfl (by omega) ?_
  refine px_callV0 CX12_sure [.int _] [.int _] (vX12_sure h1.lawR h1.rn h1.n8 h1.lkr (h1.cord.trans hcd) hcd4 h1.szR) rfl gS_65 (by decide) rfl rfl rfl (Nat.le_of_ble_eq_true rfl) (by decide) ?_
  rintro _ _ - ⟨v2, rfl, hv2, I2, J2, rfl, hF2, hK2, hJ2⟩
  rw [hF 98 (by decide), hF 69 (by decide), hF 68 (by decide), hF 67 (by decide), hF 66 (by decide), hF 65 (by decide), hF 99 (by decide), hJ 100 (by decide)] at hv2
  have heq := eq_sure h hv hv2
  have h2 := Inv_rt h1 hF2 hK2 hJ2
  refine px_icmp_eq rfl (fun c505 => ?_) (fun hZ => absurd (heq) hZ)
  exact kont _ _ _ _ _ _ h2
set_option maxRecDepth 20000 in
theorem stp_lamp {I : Nat → Nat → Int32} {J : Nat → Nat → Int64} {p : Bool × Option Nat} {ro : List (Nat × Nat × (Nat → Int32))} {tx : List Ln} {n nb : Nat} (h : Inv tx n nb I J p) {L i : Nat} {xs : Nat → Int32} (hi : i + 6 ≤ L) (hL : L ≤ 3072) (hscr : (1002, L, xs) ∈ ro) (hro : RO ro) {Q : Option Value → pm_M → Prop}  (kont : ∀ (tx : List Ln) (n nb : Nat) (I : Nat → Nat → Int32) (J : Nat → Nat → Int64) (p : Bool × Option Nat), Inv tx n nb I J p → Px 61 0 0 CL_law 1065 [some (.ref (1002)), some (.ref (0)), some (.ref (65)), some (.int (nI i))] [] (gS, I, J, gR p, ro) Q) : Px 61 0 0 CL_law 508 [some (.ref (1002)), some (.ref (0)), some (.ref (65)), some (.int (nI i))] [] (gS, I, J, gR p, ro) Q := by
  refine px_aload_n (kk := 1) rfl rfl rfl ?_
  refine px_aload_n (kk := 0) rfl rfl rfl ?_
  refine px_iload_n (kk := 3) rfl rfl rfl ?_
  refine px_iconst (v := nI 1) rfl k_1 ?_
  refine px_iaddN rfl ?_
  refine px_roald (j := (i + 1)) rfl hscr rfl (by omega) ?_
  refine px_callV0 CX11_lamp [] [.int _] (vX11_lamp h.tw h.szC) rfl gS_0 (by decide) rfl rfl rfl (Nat.le_of_ble_eq_true rfl) (by decide) ?_
  rintro _ _ - ⟨v, rfl, hv, I1, J1, b, rfl, hF, hK, hJ⟩
  have h1 := Inv_th h hF hK hJ b
  obtain ⟨cd, hcd4, hcd⟩ := h1.c4
  refine px_aload_n (kk := 2) rfl rfl rfl ?_
  refine px_aload_n (kk := 0) rfl rfl rfl ?_
  refine px_iload_n (kk := 3) rfl rfl rfl ?_
  refine px_iconst (v := nI 1) rfl k_1 ?_
  refine px_iaddN rfl ?_
  refine px_roald (j := (i + 1)) rfl hscr rfl (by omega) ?_
  refine px_callV0 CX12_lamp [.int _] [.int _] (vX12_lamp h1.lawR h1.rn h1.n8 h1.lkr (h1.cord.trans hcd) hcd4 h1.szR) rfl gS_65 (by decide) rfl rfl rfl (Nat.le_of_ble_eq_true rfl) (by decide) ?_
  rintro _ _ - ⟨v2, rfl, hv2, I2, J2, rfl, hF2, hK2, hJ2⟩
  rw [hF 98 (by decide), hF 69 (by decide), hF 68 (by decide), hF 67 (by decide), hF 66 (by decide), hF 65 (by decide), hF 99 (by decide), hJ 100 (by decide)] at hv2
  have heq := eq_lamp h hv hv2
  have h2 := Inv_rt h1 hF2 hK2 hJ2
  refine px_icmp_eq rfl (fun c522 => ?_) (fun hZ => absurd (heq) hZ)
  exact kont _ _ _ _ _ _ h2
set_option maxRecDepth 20000 in
theorem stp_best {I : Nat → Nat → Int32} {J : Nat → Nat → Int64} {p : Bool × Option Nat} {ro : List (Nat × Nat × (Nat → Int32))} {tx : List Ln} {n nb : Nat} (h : Inv tx n nb I J p) {L i : Nat} {xs : Nat → Int32} (hi : i + 6 ≤ L) (hL : L ≤ 3072) (hscr : (1002, L, xs) ∈ ro) (hro : RO ro) {Q : Option Value → pm_M → Prop}  (kont : ∀ (tx : List Ln) (n nb : Nat) (I : Nat → Nat → Int32) (J : Nat → Nat → Int64) (p : Bool × Option Nat), Inv tx n nb I J p → Px 61 0 0 CL_law 1065 [some (.ref (1002)), some (.ref (0)), some (.ref (65)), some (.int (nI i))] [] (gS, I, J, gR p, ro) Q) : Px 61 0 0 CL_law 386 [some (.ref (1002)), some (.ref (0)), some (.ref (65)), some (.int (nI i))] [] (gS, I, J, gR p, ro) Q := by
  refine px_aload_n (kk := 1) rfl rfl rfl ?_
  refine px_aload_n (kk := 0) rfl rfl rfl ?_
  refine px_iload_n (kk := 3) rfl rfl rfl ?_
  refine px_iconst (v := nI 1) rfl k_1 ?_
  refine px_iaddN rfl ?_
  refine px_roald (j := (i + 1)) rfl hscr rfl (by omega) ?_
  refine px_aload_n (kk := 0) rfl rfl rfl ?_
  refine px_iload_n (kk := 3) rfl rfl rfl ?_
  refine px_iconst (v := nI 2) rfl k_2 ?_
  refine px_iaddN rfl ?_
  refine px_roald (j := (i + 2)) rfl hscr rfl (by omega) ?_
  refine px_callV0 CX11_best [] [.int _, .int _] (vX11_best h.tw) rfl gS_0 (by decide) rfl rfl rfl (Nat.le_of_ble_eq_true rfl) (by decide) ?_
  rintro _ _ - ⟨v, rfl, hv, I1, J1, b, rfl, hF, hK, hJ⟩
  have h1 := Inv_th h hF hK hJ b
  obtain ⟨cd, hcd4, hcd⟩ := h1.c4
  refine px_aload_n (kk := 2) rfl rfl rfl ?_
  refine px_aload_n (kk := 0) rfl rfl rfl ?_
  refine px_iload_n (kk := 3) rfl rfl rfl ?_
  refine px_iconst (v := nI 1) rfl k_1 ?_
  refine px_iaddN rfl ?_
  refine px_roald (j := (i + 1)) rfl hscr rfl (by omega) ?_
  refine px_aload_n (kk := 0) rfl rfl rfl ?_
  refine px_iload_n (kk := 3) rfl rfl rfl ?_
  refine px_iconst (v := nI 2) rfl k_2 ?_
  refine px_iaddN rfl ?_
  refine px_roald (j := (i + 2)) rfl hscr rfl (by omega) ?_
  refine px_callV0 CX12_best [.int _] [.int _, .int _] (vX12_best h1.lawR h1.rn h1.n8 h1.lkr (h1.cord.trans hcd) hcd4) rfl gS_65 (by decide) rfl rfl rfl (Nat.le_of_ble_eq_true rfl) (by decide) ?_
  rintro _ _ - ⟨v2, rfl, hv2, I2, J2, rfl, hF2, hK2, hJ2⟩
  rw [hF 69 (by decide), hF 68 (by decide), hF 67 (by decide), hF 66 (by decide), hF 65 (by decide)] at hv2
  have heq := eq_best h hv hv2
  have h2 := Inv_rt h1 hF2 hK2 hJ2
  refine px_icmp_eq rfl (fun c410 => ?_) (fun hZ => absurd (heq) hZ)
  exact kont _ _ _ _ _ _ h2
set_option maxRecDepth 20000 in
theorem stp_soon {I : Nat → Nat → Int32} {J : Nat → Nat → Int64} {p : Bool × Option Nat} {ro : List (Nat × Nat × (Nat → Int32))} {tx : List Ln} {n nb : Nat} (h : Inv tx n nb I J p) {L i : Nat} {xs : Nat → Int32} (hi : i + 6 ≤ L) (hL : L ≤ 3072) (hscr : (1002, L, xs) ∈ ro) (hro : RO ro) {Q : Option Value → pm_M → Prop}  (kont : ∀ (tx : List Ln) (n nb : Nat) (I : Nat → Nat → Int32) (J : Nat → Nat → Int64) (p : Bool × Option Nat), Inv tx n nb I J p → Px 61 0 0 CL_law 1065 [some (.ref (1002)), some (.ref (0)), some (.ref (65)), some (.int (nI i))] [] (gS, I, J, gR p, ro) Q) : Px 61 0 0 CL_law 430 [some (.ref (1002)), some (.ref (0)), some (.ref (65)), some (.int (nI i))] [] (gS, I, J, gR p, ro) Q := by
  refine px_aload_n (kk := 1) rfl rfl rfl ?_
  refine px_aload_n (kk := 0) rfl rfl rfl ?_
  refine px_iload_n (kk := 3) rfl rfl rfl ?_
  refine px_iconst (v := nI 1) rfl k_1 ?_
  refine px_iaddN rfl ?_
  refine px_roald (j := (i + 1)) rfl hscr rfl (by omega) ?_
  refine px_callV0 CX11_soon [] [.int _] (vX11_soon h.tw) rfl gS_0 (by decide) rfl rfl rfl (Nat.le_of_ble_eq_true rfl) (by decide) ?_
  rintro _ _ - ⟨v, rfl, hv, I1, J1, b, rfl, hF, hK, hJ⟩
  have h1 := Inv_th h hF hK hJ b
  obtain ⟨cd, hcd4, hcd⟩ := h1.c4
  refine px_aload_n (kk := 2) rfl rfl rfl ?_
  refine px_aload_n (kk := 0) rfl rfl rfl ?_
  refine px_iload_n (kk := 3) rfl rfl rfl ?_
  refine px_iconst (v := nI 1) rfl k_1 ?_
  refine px_iaddN rfl ?_
  refine px_roald (j := (i + 1)) rfl hscr rfl (by omega) ?_
  refine px_callV0 CX12_soon [.int _] [.int _] (vX12_soon h1.lawR h1.rn h1.n8 h1.lkr) rfl gS_65 (by decide) rfl rfl rfl (Nat.le_of_ble_eq_true rfl) (by decide) ?_
  rintro _ _ - ⟨v2, rfl, hv2, I2, rfl, hF2, hK2⟩
  rw [hF 69 (by decide), hF 68 (by decide), hF 67 (by decide), hF 65 (by decide), hF 66 (by decide)] at hv2
  have heq := eq_soon h hv hv2
  have h2 := Inv_rt h1 hF2 hK2 (fun _ _ => rfl)
  refine px_icmp_eq rfl (fun c444 => ?_) (fun hZ => absurd (heq) hZ)
  exact kont _ _ _ _ _ _ h2
set_option maxRecDepth 20000 in
theorem stp_instead {I : Nat → Nat → Int32} {J : Nat → Nat → Int64} {p : Bool × Option Nat} {ro : List (Nat × Nat × (Nat → Int32))} {tx : List Ln} {n nb : Nat} (h : Inv tx n nb I J p) {L i : Nat} {xs : Nat → Int32} (hi : i + 6 ≤ L) (hL : L ≤ 3072) (hscr : (1002, L, xs) ∈ ro) (hro : RO ro) {Q : Option Value → pm_M → Prop}  (kont : ∀ (tx : List Ln) (n nb : Nat) (I : Nat → Nat → Int32) (J : Nat → Nat → Int64) (p : Bool × Option Nat), Inv tx n nb I J p → Px 61 0 0 CL_law 1065 [some (.ref (1002)), some (.ref (0)), some (.ref (65)), some (.int (nI i))] [] (gS, I, J, gR p, ro) Q) : Px 61 0 0 CL_law 447 [some (.ref (1002)), some (.ref (0)), some (.ref (65)), some (.int (nI i))] [] (gS, I, J, gR p, ro) Q := by
  refine px_aload_n (kk := 1) rfl rfl rfl ?_
  refine px_aload_n (kk := 0) rfl rfl rfl ?_
  refine px_iload_n (kk := 3) rfl rfl rfl ?_
  refine px_iconst (v := nI 1) rfl k_1 ?_
  refine px_iaddN rfl ?_
  refine px_roald (j := (i + 1)) rfl hscr rfl (by omega) ?_
  refine px_callV0 CX11_instead [] [.int _] (vX11_instead h.tw) rfl gS_0 (by decide) rfl rfl rfl (Nat.le_of_ble_eq_true rfl) (by decide) ?_
  rintro _ _ - ⟨v, rfl, hv, I1, J1, b, rfl, hF, hK, hJ⟩
  have h1 := Inv_th h hF hK hJ b
  obtain ⟨cd, hcd4, hcd⟩ := h1.c4
  refine px_aload_n (kk := 2) rfl rfl rfl ?_
  refine px_aload_n (kk := 0) rfl rfl rfl ?_
  refine px_iload_n (kk := 3) rfl rfl rfl ?_
  refine px_iconst (v := nI 1) rfl k_1 ?_
  refine px_iaddN rfl ?_
  refine px_roald (j := (i + 1)) rfl hscr rfl (by omega) ?_
  refine px_callV0 CX12_instead [.int _] [.int _] (vX12_instead h1.rn h1.n8) rfl gS_65 (by decide) rfl rfl rfl (Nat.le_of_ble_eq_true rfl) (by decide) ?_
  rintro _ _ - ⟨v2, rfl, hv2, I2, rfl, hF2, hK2⟩
  rw [hF 69 (by decide)] at hv2
  have heq := eq_instead h hv hv2
  have h2 := Inv_rt h1 hF2 hK2 (fun _ _ => rfl)
  refine px_icmp_eq rfl (fun c461 => ?_) (fun hZ => absurd (heq) hZ)
  exact kont _ _ _ _ _ _ h2
set_option maxRecDepth 20000 in
theorem stp_warmer {I : Nat → Nat → Int32} {J : Nat → Nat → Int64} {p : Bool × Option Nat} {ro : List (Nat × Nat × (Nat → Int32))} {tx : List Ln} {n nb : Nat} (h : Inv tx n nb I J p) {L i : Nat} {xs : Nat → Int32} (hi : i + 6 ≤ L) (hL : L ≤ 3072) (hscr : (1002, L, xs) ∈ ro) (hro : RO ro) {Q : Option Value → pm_M → Prop}  (kont : ∀ (tx : List Ln) (n nb : Nat) (I : Nat → Nat → Int32) (J : Nat → Nat → Int64) (p : Bool × Option Nat), Inv tx n nb I J p → Px 61 0 0 CL_law 1065 [some (.ref (1002)), some (.ref (0)), some (.ref (65)), some (.int (nI i))] [] (gS, I, J, gR p, ro) Q) : Px 61 0 0 CL_law 164 [some (.ref (1002)), some (.ref (0)), some (.ref (65)), some (.int (nI i))] [] (gS, I, J, gR p, ro) Q := by
  refine px_aload_n (kk := 1) rfl rfl rfl ?_
  refine px_aload_n (kk := 0) rfl rfl rfl ?_
  refine px_iload_n (kk := 3) rfl rfl rfl ?_
  refine px_iconst (v := nI 1) rfl k_1 ?_
  refine px_iaddN rfl ?_
  refine px_roald (j := (i + 1)) rfl hscr rfl (by omega) ?_
  refine px_aload_n (kk := 0) rfl rfl rfl ?_
  refine px_iload_n (kk := 3) rfl rfl rfl ?_
  refine px_iconst (v := nI 2) rfl k_2 ?_
  refine px_iaddN rfl ?_
  refine px_roald (j := (i + 2)) rfl hscr rfl (by omega) ?_
  refine px_callV0 CX11_warmer [] [.int _, .int _] (vX11_warmer h.tw) rfl gS_0 (by decide) rfl rfl rfl (Nat.le_of_ble_eq_true rfl) (by decide) ?_
  rintro _ _ - ⟨v, rfl, hv, I1, J1, b, rfl, hF, hK, hJ⟩
  have h1 := Inv_th h hF hK hJ b
  obtain ⟨cd, hcd4, hcd⟩ := h1.c4
  refine px_aload_n (kk := 2) rfl rfl rfl ?_
  refine px_aload_n (kk := 0) rfl rfl rfl ?_
  refine px_iload_n (kk := 3) rfl rfl rfl ?_
  refine px_iconst (v := nI 1) rfl k_1 ?_
  refine px_iaddN rfl ?_
  refine px_roald (j := (i + 1)) rfl hscr rfl (by omega) ?_
  refine px_aload_n (kk := 0) rfl rfl rfl ?_
  refine px_iload_n (kk := 3) rfl rfl rfl ?_
  refine px_iconst (v := nI 2) rfl k_2 ?_
  refine px_iaddN rfl ?_
  refine px_roald (j := (i + 2)) rfl hscr rfl (by omega) ?_
  refine px_callV0 CX12_warmer [.int _] [.int _, .int _] (vX12_warmer h1.lawR h1.rn h1.n8 h1.lkr) rfl gS_65 (by decide) rfl rfl rfl (Nat.le_of_ble_eq_true rfl) (by decide) ?_
  rintro _ _ - ⟨v2, rfl, hv2, I2, rfl, hF2, hK2⟩
  rw [hF 69 (by decide), hF 66 (by decide), hF 65 (by decide), hF 68 (by decide)] at hv2
  have heq := eq_warmer h hv hv2
  have h2 := Inv_rt h1 hF2 hK2 (fun _ _ => rfl)
  refine px_icmp_eq rfl (fun c188 => ?_) (fun hZ => absurd (heq) hZ)
  exact kont _ _ _ _ _ _ h2
set_option maxRecDepth 20000 in
theorem stp_drawn {I : Nat → Nat → Int32} {J : Nat → Nat → Int64} {p : Bool × Option Nat} {ro : List (Nat × Nat × (Nat → Int32))} {tx : List Ln} {n nb : Nat} (h : Inv tx n nb I J p) {L i : Nat} {xs : Nat → Int32} (hi : i + 6 ≤ L) (hL : L ≤ 3072) (hscr : (1002, L, xs) ∈ ro) (hro : RO ro) {Q : Option Value → pm_M → Prop}  (kont : ∀ (tx : List Ln) (n nb : Nat) (I : Nat → Nat → Int32) (J : Nat → Nat → Int64) (p : Bool × Option Nat), Inv tx n nb I J p → Px 61 0 0 CL_law 1065 [some (.ref (1002)), some (.ref (0)), some (.ref (65)), some (.int (nI i))] [] (gS, I, J, gR p, ro) Q) : Px 61 0 0 CL_law 617 [some (.ref (1002)), some (.ref (0)), some (.ref (65)), some (.int (nI i))] [] (gS, I, J, gR p, ro) Q := by
  refine px_aload_n (kk := 1) rfl rfl rfl ?_
  refine px_aload_n (kk := 0) rfl rfl rfl ?_
  refine px_iload_n (kk := 3) rfl rfl rfl ?_
  refine px_iconst (v := nI 1) rfl k_1 ?_
  refine px_iaddN rfl ?_
  refine px_roald (j := (i + 1)) rfl hscr rfl (by omega) ?_
  refine px_aload_n (kk := 0) rfl rfl rfl ?_
  refine px_iload_n (kk := 3) rfl rfl rfl ?_
  refine px_iconst (v := nI 2) rfl k_2 ?_
  refine px_iaddN rfl ?_
  refine px_roald (j := (i + 2)) rfl hscr rfl (by omega) ?_
  refine px_aload_n (kk := 0) rfl rfl rfl ?_
  refine px_iload_n (kk := 3) rfl rfl rfl ?_
  refine px_iconst (v := nI 3) rfl k_3 ?_
  refine px_iaddN rfl ?_
  refine px_roald (j := (i + 3)) rfl hscr rfl (by omega) ?_
  refine px_callV0 CX11_drawn [] [.int _, .int _, .int _] (vX11_drawn h.tw) rfl gS_0 (by decide) rfl rfl rfl (Nat.le_of_ble_eq_true rfl) (by decide) ?_
  rintro _ _ - ⟨v, rfl, hv, I1, J1, b, rfl, hF, hK, hJ⟩
  have h1 := Inv_th h hF hK hJ b
  obtain ⟨cd, hcd4, hcd⟩ := h1.c4
  refine px_aload_n (kk := 2) rfl rfl rfl ?_
  refine px_aload_n (kk := 0) rfl rfl rfl ?_
  refine px_iload_n (kk := 3) rfl rfl rfl ?_
  refine px_iconst (v := nI 1) rfl k_1 ?_
  refine px_iaddN rfl ?_
  refine px_roald (j := (i + 1)) rfl hscr rfl (by omega) ?_
  refine px_aload_n (kk := 0) rfl rfl rfl ?_
  refine px_iload_n (kk := 3) rfl rfl rfl ?_
  refine px_iconst (v := nI 2) rfl k_2 ?_
  refine px_iaddN rfl ?_
  refine px_roald (j := (i + 2)) rfl hscr rfl (by omega) ?_
  refine px_aload_n (kk := 0) rfl rfl rfl ?_
  refine px_iload_n (kk := 3) rfl rfl rfl ?_
  refine px_iconst (v := nI 3) rfl k_3 ?_
  refine px_iaddN rfl ?_
  refine px_roald (j := (i + 3)) rfl hscr rfl (by omega) ?_
  refine px_callV0 CX12_drawn [.int _] [.int _, .int _, .int _] (vX12_drawn h1.lawR h1.n8 h1.rn h1.lkr (h1.cord.trans hcd) hcd4) rfl gS_65 (by decide) rfl rfl rfl (Nat.le_of_ble_eq_true rfl) (by decide) ?_
  rintro _ _ - ⟨v2, rfl, hv2, I2, rfl, hF2, hK2⟩
  rw [hF 69 (by decide), hF 68 (by decide), hF 67 (by decide), hF 66 (by decide), hF 65 (by decide)] at hv2
  have heq := eq_drawn h hv hv2
  have h2 := Inv_rt h1 hF2 hK2 (fun _ _ => rfl)
  refine px_icmp_eq rfl (fun c651 => ?_) (fun hZ => absurd (heq) hZ)
  exact kont _ _ _ _ _ _ h2
set_option maxRecDepth 20000 in
theorem stp_nieces {I : Nat → Nat → Int32} {J : Nat → Nat → Int64} {p : Bool × Option Nat} {ro : List (Nat × Nat × (Nat → Int32))} {tx : List Ln} {n nb : Nat} (h : Inv tx n nb I J p) {L i : Nat} {xs : Nat → Int32} (hi : i + 6 ≤ L) (hL : L ≤ 3072) (hscr : (1002, L, xs) ∈ ro) (hro : RO ro) {Q : Option Value → pm_M → Prop}  (kont : ∀ (tx : List Ln) (n nb : Nat) (I : Nat → Nat → Int32) (J : Nat → Nat → Int64) (p : Bool × Option Nat), Inv tx n nb I J p → Px 61 0 0 CL_law 1065 [some (.ref (1002)), some (.ref (0)), some (.ref (65)), some (.int (nI i))] [] (gS, I, J, gR p, ro) Q) : Px 61 0 0 CL_law 569 [some (.ref (1002)), some (.ref (0)), some (.ref (65)), some (.int (nI i))] [] (gS, I, J, gR p, ro) Q := by
  refine px_aload_n (kk := 1) rfl rfl rfl ?_
  refine px_aload_n (kk := 0) rfl rfl rfl ?_
  refine px_iload_n (kk := 3) rfl rfl rfl ?_
  refine px_iconst (v := nI 1) rfl k_1 ?_
  refine px_iaddN rfl ?_
  refine px_roald (j := (i + 1)) rfl hscr rfl (by omega) ?_
  refine px_aload_n (kk := 0) rfl rfl rfl ?_
  refine px_iload_n (kk := 3) rfl rfl rfl ?_
  refine px_iconst (v := nI 2) rfl k_2 ?_
  refine px_iaddN rfl ?_
  refine px_roald (j := (i + 2)) rfl hscr rfl (by omega) ?_
  refine px_aload_n (kk := 0) rfl rfl rfl ?_
  refine px_iload_n (kk := 3) rfl rfl rfl ?_
  refine px_iconst (v := nI 3) rfl k_3 ?_
  refine px_iaddN rfl ?_
  refine px_roald (j := (i + 3)) rfl hscr rfl (by omega) ?_
  refine px_aload_n (kk := 0) rfl rfl rfl ?_
  refine px_iload_n (kk := 3) rfl rfl rfl ?_
  refine px_iconst (v := nI 4) rfl k_4 ?_
  refine px_iaddN rfl ?_
  refine px_roald (j := (i + 4)) rfl hscr rfl (by omega) ?_
  refine px_callV0 CX11_nieces [] [.int _, .int _, .int _, .int _] (vX11_nieces h.tw h.szC) rfl gS_0 (by decide) rfl rfl rfl (Nat.le_of_ble_eq_true rfl) (by decide) ?_
  rintro _ _ - ⟨v, rfl, hv, I1, J1, b, rfl, hF, hK, hJ⟩
  have h1 := Inv_th h hF hK hJ b
  obtain ⟨cd, hcd4, hcd⟩ := h1.c4
  refine px_aload_n (kk := 2) rfl rfl rfl ?_
  refine px_aload_n (kk := 0) rfl rfl rfl ?_
  refine px_iload_n (kk := 3) rfl rfl rfl ?_
  refine px_iconst (v := nI 1) rfl k_1 ?_
  refine px_iaddN rfl ?_
  refine px_roald (j := (i + 1)) rfl hscr rfl (by omega) ?_
  refine px_aload_n (kk := 0) rfl rfl rfl ?_
  refine px_iload_n (kk := 3) rfl rfl rfl ?_
  refine px_iconst (v := nI 2) rfl k_2 ?_
  refine px_iaddN rfl ?_
  refine px_roald (j := (i + 2)) rfl hscr rfl (by omega) ?_
  refine px_aload_n (kk := 0) rfl rfl rfl ?_
  refine px_iload_n (kk := 3) rfl rfl rfl ?_
  refine px_iconst (v := nI 3) rfl k_3 ?_
  refine px_iaddN rfl ?_
  refine px_roald (j := (i + 3)) rfl hscr rfl (by omega) ?_
  refine px_aload_n (kk := 0) rfl rfl rfl ?_
  refine px_iload_n (kk := 3) rfl rfl rfl ?_
  refine px_iconst (v := nI 4) rfl k_4 ?_
  refine px_iaddN rfl ?_
  refine px_roald (j := (i + 4)) rfl hscr rfl (by omega) ?_
  refine px_callV0 CX12_nieces [.long _] [.int _, .int _, .int _, .int _] (vX12_nieces h1.lawR h1.rn h1.n8 h1.lkr h1.szR) rfl gS_65 (by decide) rfl rfl rfl (Nat.le_of_ble_eq_true rfl) (by decide) ?_
  rintro _ _ - ⟨v2, rfl, hv2, I2, rfl, hF2, hK2⟩
  rw [hF 98 (by decide), hF 65 (by decide), hF 69 (by decide), hF 68 (by decide), hF 66 (by decide), hF 99 (by decide), hJ 100 (by decide)] at hv2
  have heq := eq_nieces h hv hv2
  have h2 := Inv_rt h1 hF2 hK2 (fun _ _ => rfl)
  refine px_lcmp rfl ?_
  refine px_if_eq rfl (fun c614 => ?_) (fun hZ => absurd ((by subst heq; exact lcmp_rf v)) hZ)
  exact kont _ _ _ _ _ _ h2
