theorem lX3_tok {I : Nat → Nat → Int32} {J : Nat → Nat → Int64} {p : Bool × Option Nat} {ro : List (Nat × Nat × (Nat → Int32))} {L : Nat} (hL : I 6 6 = nI L) (hL2 : L ≤ 256) {k : Nat} (hk : k < L) {g : Nat → Int32} {o : Option Value} {t : Tk} (ht : tkOK t) {st : List Int32} (h2 : t.1 = 2 → 1 ≤ st.length) (h3 : t.1 = 3 → 2 ≤ st.length) (hs : I (gA p.1) k = cT t) (hsg : SG g st) (h100 : st.length < 120) {Q : Option Value → pm_M → Prop} (kont : ∀ (g' : Nat → Int32) (x : Int32), SG g' (tkE (fC I) t st) → Px 1 0 0 CX3_run 4 [some (.ref 6), some (.int (nI (tkE (fC I) t st).length)), some (.int (nI (k + 1))), some (.int x)] [] (gS, (va_up I 8 g'), J, gR p, ro) Q) : Px 1 0 0 CX3_run 4 [some (.ref 6), some (.int (nI st.length)), some (.int (nI k)), o] [] (gS, (va_up I 8 g), J, gR p, ro) Q := by
  obtain ⟨a, x⟩ := t
  match a, st, ht, h2, h3, hs, hsg, h100, kont with
  | 0, st, ht, _, _, hs, hsg, h100, kont => exact lX3_num hL hL2 hk ht hs hsg h100 kont
  | 1, st, ht, _, _, hs, hsg, h100, kont =>
    match x, ht, hs, kont with
    | 0, _, hs, kont => exact lX3_nam_0 hL hL2 hk hs hsg h100 kont
    | 1, _, hs, kont => exact lX3_nam_1 hL hL2 hk hs hsg h100 kont
    | 2, _, hs, kont => exact lX3_nam_2 hL hL2 hk hs hsg h100 kont
    | 3, _, hs, kont => exact lX3_nam_3 hL hL2 hk hs hsg h100 kont
    | 4, _, hs, kont => exact lX3_nam_4 hL hL2 hk hs hsg h100 kont
    | 5, _, hs, kont => exact lX3_nam_5 hL hL2 hk hs hsg h100 kont
    | n + 6, h, _, _ => exact absurd h (by simp [tkOK])
  | 2, [], _, h2, _, _, _, _, _ => exact absurd (h2 rfl) (by simp)
  | 2, a :: q, ht, _, _, hs, hsg, h100, kont =>
    match x, ht, hs, kont with
    | 0, _, hs, kont => exact lX3_un_0 hL hL2 hk hs hsg h100 kont
    | 1, _, hs, kont => exact lX3_un_1 hL hL2 hk hs hsg h100 kont
    | n + 2, h, _, _ => exact absurd h (by simp [tkOK])
  | 3, [], _, _, h3, _, _, _, _ => exact absurd (h3 rfl) (by simp)
  | 3, [a], _, _, h3, _, _, _, _ => exact absurd (h3 rfl) (by simp)
  | 3, b :: a :: q, ht, _, _, hs, hsg, h100, kont =>
    match x, ht, hs, kont with
    | 0, _, hs, kont => exact lX3_bin_0 hL hL2 hk hs hsg h100 kont
    | 1, _, hs, kont => exact lX3_bin_1 hL hL2 hk hs hsg h100 kont
    | 2, _, hs, kont => exact lX3_bin_2 hL hL2 hk hs hsg h100 kont
    | 3, _, hs, kont => exact lX3_bin_3 hL hL2 hk hs hsg h100 kont
    | 4, _, hs, kont => exact lX3_bin_4 hL hL2 hk hs hsg h100 kont
    | 5, _, hs, kont => exact lX3_bin_5 hL hL2 hk hs hsg h100 kont
    | 6, _, hs, kont => exact lX3_bin_6 hL hL2 hk hs hsg h100 kont
    | 7, _, hs, kont => exact lX3_bin_7 hL hL2 hk hs hsg h100 kont
    | 8, _, hs, kont => exact lX3_bin_8 hL hL2 hk hs hsg h100 kont
    | 9, _, hs, kont => exact lX3_bin_9 hL hL2 hk hs hsg h100 kont
    | n + 10, h, _, _ => exact absurd h (by simp [tkOK])
  | n + 4, _, ht, _, _, _, _, _, _ => exact absurd ht (by simp [tkOK])
theorem lX3_exp {I : Nat → Nat → Int32} {J : Nat → Nat → Int64} {p : Bool × Option Nat} {ro : List (Nat × Nat × (Nat → Int32))} {L : Nat} (hL : I 6 6 = nI L) (hL2 : L ≤ 256) {Q : Option Value → pm_M → Prop} : ∀ (e : List Tk) (st : List Int32) (d' k : Nat) (g : Nat → Int32) (o : Option Value), dpt e st.length d' → st.length ≤ 100 → HC (I (gA p.1)) k (e.map cT) → k + e.length ≤ L → SG g st → (∀ (g' : Nat → Int32) (o' : Option Value), SG g' (evE (fC I) e st) → (evE (fC I) e st).length = d' → Px 1 0 0 CX3_run 4 [some (.ref 6), some (.int (nI d')), some (.int (nI (k + e.length))), o'] [] (gS, (va_up I 8 g'), J, gR p, ro) Q) → Px 1 0 0 CX3_run 4 [some (.ref 6), some (.int (nI st.length)), some (.int (nI k)), o] [] (gS, (va_up I 8 g), J, gR p, ro) Q
  | [], st, d', k, g, o, hd, _, _, _, hsg, kont => by
    have hd : d' = st.length := hd
    subst hd
    exact kont g o hsg rfl
  | t :: e, st, d', k, g, o, hd, h100, hc, hk, hsg, kont => by
    obtain ⟨ht, hd⟩ := hd
    simp only [List.length_cons] at hk kont
    have hl := tkE_len (fa := fC I) (st := st) ht
    have h2 : t.1 = 2 → 1 ≤ st.length := fun h => by rcases hd with ⟨a, _⟩ | ⟨_, b, _⟩ | ⟨a, _⟩ <;> omega
    have h3 : t.1 = 3 → 2 ≤ st.length := fun h => by rcases hd with ⟨a, _⟩ | ⟨a, _⟩ | ⟨_, b, _⟩ <;> omega
    have hl := hl h2 h3
    refine lX3_tok hL hL2 (by omega) ht h2 h3 hc.1 hsg (by omega) (fun g' x hsg' => ?_)
    refine lX3_exp hL hL2 e (tkE (fC I) t st) d' (k + 1) g' _ ?_ ?_ hc.2 (by omega) hsg' (fun g2 o2 h h' => ?_)
    · rcases hd with ⟨a, _, c⟩ | ⟨a, _, c⟩ | ⟨a, _, c⟩
      · rw [hl.1 a]; exact c
      · rw [hl.2.1 a]; exact c
      · rw [hl.2.2 a]; exact c
    · rcases hd with ⟨a, b, c⟩ | ⟨a, _, c⟩ | ⟨a, _, c⟩
      · rw [hl.1 a]; omega
      · rw [hl.2.1 a]; omega
      · rw [hl.2.2 a]; omega
    · have := kont g2 o2 h h'
      rw [show k + (e.length + 1) = k + 1 + e.length by omega] at this
      exact this
theorem lX3_end {I : Nat → Nat → Int32} {J : Nat → Nat → Int64} {p : Bool × Option Nat} {ro : List (Nat × Nat × (Nat → Int32))} {L : Nat} (hL : I 6 6 = nI L) (hL2 : L ≤ 256) {k : Nat} (hk : k < L) {g : Nat → Int32} {o : Option Value} (hs : I (gA p.1) k = -(nI 59)) {Q : Option Value → pm_M → Prop} (hq : Q (some (.int (g 0))) (gS, (va_up I 8 g), J, gR p, ro)) : Px 1 0 0 CX3_run 4 [some (.ref (6)), some (.int (nI 1)), some (.int (nI k)), o] [] (gS, (va_up I 8 g), J, gR p, ro) (Q) := by
  refine px_iload_n (kk := 2) rfl rfl rfl ?_
  refine px_aload_n (kk := 0) rfl rfl rfl ?_
  refine px_getIe rfl gS_6 rfl ((congrFun (p_up_n _ _ (by decide)) 6).trans hL) ?_
  refine px_icmp_ge rfl (fun h => absurd h (nI_ge (by omega) (by omega))) (fun c7 => ?_)
  refine px_iload_n (kk := 2) rfl rfl rfl ?_
  refine px_sipush (v := nI 256) rfl s_256 ?_
  refine px_icmp_ge rfl (fun h => absurd h (nI_ge (by omega) (by omega))) (fun c10 => ?_)
  refine px_iload_n (kk := 1) rfl rfl rfl ?_
  refine px_bipush (v := nI 120) rfl b_120 ?_
  refine px_icmp_ge rfl (fun h => absurd h (by decide)) (fun _ => ?_)
  refine px_aload_n (kk := 0) rfl rfl rfl ?_
  refine px_getR (r := (gA p.1)) rfl gS_6 rfl (gR_6_3 _) ?_
  refine px_iload_n (kk := 2) rfl rfl rfl ?_
  refine px_iald (j := k) rfl (gS_A p.1) rfl (by omega) ?_
  refine px_ineg rfl ?_
  refine px_ist3 rfl rfl (by decide) ?_
  refine px_l3 (y := nI 59) (by rw [p_up_n _ _ (gA_ne p.1).1, hs, Int32.neg_neg]) ?_
  refine px_iload_n (kk := 3) rfl rfl rfl ?_
  refine px_if_gt rfl (fun _ => ?_) (fun h => absurd h (by decide))
  refine px_iload_n (kk := 3) rfl rfl rfl ?_
  refine px_bipush (v := nI 97) rfl b_97 ?_
  refine px_icmp_lt rfl (fun _ => ?_) (fun h => absurd h (by decide))
  refine px_iload_n (kk := 1) rfl rfl rfl ?_
  refine px_iconst (v := nI 1) rfl k_1 ?_
  refine px_icmp_ge rfl (fun _ => ?_) (fun h => absurd h (by decide))
  refine px_iload_n (kk := 3) rfl rfl rfl ?_
  refine px_bipush (v := nI 59) rfl b_59 ?_
  refine px_icmp_ne rfl (fun h => absurd h (by decide)) (fun _ => ?_)
  refine px_aload_n (kk := 0) rfl rfl rfl ?_
  refine px_getR (r := 8) rfl gS_6 rfl (gR_6_2 _) ?_
  refine px_iload_n (kk := 1) rfl rfl rfl ?_
  refine px_iconst (v := nI 1) rfl k_1 ?_
  refine px_isubN rfl (by decide) ?_
  refine px_iald (j := 0) rfl gS_8 rfl (by decide) ?_
  refine px_ireturn rfl (.inl rfl) ?_
  rw [p_up_s]
  exact hq
theorem vX3_lineBehind {I : Nat → Nat → Int32} {J : Nat → Nat → Int64} {p : Bool × Option Nat} {ro : List (Nat × Nat × (Nat → Int32))} {k x : Nat} (hk : k + 2 ≤ 256) (hx : k + 2 ≤ x) (hx2 : x < 2 ^ 31) (hh : I (gA p.1) (k + 1) = nI x) : Pv 0 0 0 CX3_lineBehind [.ref (6), .int (nI k)] (gS, I, J, gR p, ro) (qI (nI (x - 1)) (gS, I, J, gR p, ro)) := by
  refine ⟨okCX3_lineBehind, Nat.le_of_ble_eq_true rfl, (show Px _ _ _ _ 0 [some (.ref (6)), some (.int (nI k)), none] [] _ _ from ?_)⟩
  refine px_iload_n (kk := 1) rfl rfl rfl ?_
  refine px_iconst (v := nI 1) rfl k_1 ?_
  refine px_iaddN rfl ?_
  refine px_ist2 rfl rfl (by decide) ?_
  refine px_iload_n (kk := 2) rfl rfl rfl ?_
  refine px_sipush (v := nI 256) rfl s_256 ?_
  refine px_icmp_ge rfl (fun h => absurd h (nI_ge (by omega) (by omega))) (fun c6 => ?_)
  refine px_iload_n (kk := 2) rfl rfl rfl ?_
  refine px_aload_n (kk := 0) rfl rfl rfl ?_
  refine px_getR (r := (gA p.1)) rfl gS_6 rfl (gR_6_3 _) ?_
  refine px_iload_n (kk := 2) rfl rfl rfl ?_
  refine px_iald (j := (k + 1)) rfl (gS_A p.1) rfl (by omega) ?_
  rw [hh]
  refine px_iconst (v := nI 1) rfl k_1 ?_
  refine px_isubN rfl (by omega) ?_
  refine px_mmax rfl (Nat.le_of_ble_eq_true rfl) ?_
  refine px_goto rfl ?_
  refine px_ireturn rfl (.inl rfl) ?_
  refine ⟨?_, rfl⟩
  by_cases h : k + 1 < x - 1
  · rw [if_pos (nI_lt h (by omega))]
  · rw [if_neg (nI_nlt (by omega) (by omega))]
    congr 3
    omega
theorem lX3_yes {I : Nat → Nat → Int32} {J : Nat → Nat → Int64} {p : Bool × Option Nat} {ro : List (Nat × Nat × (Nat → Int32))} {L : Nat} (hL : I 6 6 = nI L) (hL2 : L ≤ 256) {k : Nat} (hk : k < L) {g : Nat → Int32} {o : Option Value} (hs : I (gA p.1) k = -(nI 63)) {Q : Option Value → pm_M → Prop} (hv : g 0 ≠ 0) (kont : ∀ o, Px 1 0 0 CX3_run 4 [some (.ref 6), some (.int (nI 0)), some (.int (nI (k + 2))), o] [] (gS, (va_up I 8 g), J, gR p, ro) Q) : Px 1 0 0 CX3_run 4 [some (.ref (6)), some (.int (nI 1)), some (.int (nI k)), o] [] (gS, (va_up I 8 g), J, gR p, ro) (Q) := by
  refine px_iload_n (kk := 2) rfl rfl rfl ?_
  refine px_aload_n (kk := 0) rfl rfl rfl ?_
  refine px_getIe rfl gS_6 rfl ((congrFun (p_up_n _ _ (by decide)) 6).trans hL) ?_
  refine px_icmp_ge rfl (fun h => absurd h (nI_ge (by omega) (by omega))) (fun c7 => ?_)
  refine px_iload_n (kk := 2) rfl rfl rfl ?_
  refine px_sipush (v := nI 256) rfl s_256 ?_
  refine px_icmp_ge rfl (fun h => absurd h (nI_ge (by omega) (by omega))) (fun c10 => ?_)
  refine px_iload_n (kk := 1) rfl rfl rfl ?_
  refine px_bipush (v := nI 120) rfl b_120 ?_
  refine px_icmp_ge rfl (fun h => absurd h (by decide)) (fun _ => ?_)
  refine px_aload_n (kk := 0) rfl rfl rfl ?_
  refine px_getR (r := (gA p.1)) rfl gS_6 rfl (gR_6_3 _) ?_
  refine px_iload_n (kk := 2) rfl rfl rfl ?_
  refine px_iald (j := k) rfl (gS_A p.1) rfl (by omega) ?_
  refine px_ineg rfl ?_
  refine px_ist3 rfl rfl (by decide) ?_
  refine px_l3 (y := nI 63) (by rw [p_up_n _ _ (gA_ne p.1).1, hs, Int32.neg_neg]) ?_
  refine px_iload_n (kk := 3) rfl rfl rfl ?_
  refine px_if_gt rfl (fun _ => ?_) (fun h => absurd h (by decide))
  refine px_iload_n (kk := 3) rfl rfl rfl ?_
  refine px_bipush (v := nI 97) rfl b_97 ?_
  refine px_icmp_lt rfl (fun _ => ?_) (fun h => absurd h (by decide))
  refine px_iload_n (kk := 1) rfl rfl rfl ?_
  refine px_iconst (v := nI 1) rfl k_1 ?_
  refine px_icmp_ge rfl (fun _ => ?_) (fun h => absurd h (by decide))
  refine px_iload_n (kk := 3) rfl rfl rfl ?_
  refine px_bipush (v := nI 59) rfl b_59 ?_
  refine px_icmp_ne rfl (fun _ => ?_) (fun h => absurd h (by decide))
  refine px_iload_n (kk := 3) rfl rfl rfl ?_
  refine px_bipush (v := nI 63) rfl b_63 ?_
  refine px_icmp_ne rfl (fun h => absurd h (by decide)) (fun _ => ?_)
  refine px_iinc1 rfl rfl rfl (by decide) ?_
  refine px_l1 (y := nI 0) (n_dec 0) ?_
  refine px_aload_n (kk := 0) rfl rfl rfl ?_
  refine px_getR (r := 8) rfl gS_6 rfl (gR_6_2 _) ?_
  refine px_iload_n (kk := 1) rfl rfl rfl ?_
  refine px_iald (j := 0) rfl gS_8 rfl (by decide) ?_
  rw [p_up_s]
  refine px_if_ne rfl (fun c68 => ?_) (fun h => absurd h hv)
  refine px_iload_n (kk := 2) rfl rfl rfl ?_
  refine px_iconst (v := nI 1) rfl k_1 ?_
  refine px_iaddN rfl ?_
  refine px_ist2 rfl rfl (by decide) ?_
  refine px_goto rfl ?_
  refine px_iinc2 (v := nI ((k + 1) + 1)) rfl (n_inc (k + 1)) rfl (by decide) ?_
  refine px_goto rfl ?_
  exact kont _
theorem lX3_no {I : Nat → Nat → Int32} {J : Nat → Nat → Int64} {p : Bool × Option Nat} {ro : List (Nat × Nat × (Nat → Int32))} {L : Nat} (hL : I 6 6 = nI L) (hL2 : L ≤ 256) {k : Nat} (hk : k < L) {g : Nat → Int32} {o : Option Value} (hs : I (gA p.1) k = -(nI 63)) {Q : Option Value → pm_M → Prop} (hv : g 0 = 0) {x : Nat} (hk2 : k + 2 ≤ 256) (hx : k + 2 ≤ x) (hx2 : x ≤ 256) (hh : I (gA p.1) (k + 1) = nI x) (kont : ∀ o, Px 1 0 0 CX3_run 4 [some (.ref 6), some (.int (nI 0)), some (.int (nI x)), o] [] (gS, (va_up I 8 g), J, gR p, ro) Q) : Px 1 0 0 CX3_run 4 [some (.ref (6)), some (.int (nI 1)), some (.int (nI k)), o] [] (gS, (va_up I 8 g), J, gR p, ro) (Q) := by
  refine px_iload_n (kk := 2) rfl rfl rfl ?_
  refine px_aload_n (kk := 0) rfl rfl rfl ?_
  refine px_getIe rfl gS_6 rfl ((congrFun (p_up_n _ _ (by decide)) 6).trans hL) ?_
  refine px_icmp_ge rfl (fun h => absurd h (nI_ge (by omega) (by omega))) (fun c7 => ?_)
  refine px_iload_n (kk := 2) rfl rfl rfl ?_
  refine px_sipush (v := nI 256) rfl s_256 ?_
  refine px_icmp_ge rfl (fun h => absurd h (nI_ge (by omega) (by omega))) (fun c10 => ?_)
  refine px_iload_n (kk := 1) rfl rfl rfl ?_
  refine px_bipush (v := nI 120) rfl b_120 ?_
  refine px_icmp_ge rfl (fun h => absurd h (by decide)) (fun _ => ?_)
  refine px_aload_n (kk := 0) rfl rfl rfl ?_
  refine px_getR (r := (gA p.1)) rfl gS_6 rfl (gR_6_3 _) ?_
  refine px_iload_n (kk := 2) rfl rfl rfl ?_
  refine px_iald (j := k) rfl (gS_A p.1) rfl (by omega) ?_
  refine px_ineg rfl ?_
  refine px_ist3 rfl rfl (by decide) ?_
  refine px_l3 (y := nI 63) (by rw [p_up_n _ _ (gA_ne p.1).1, hs, Int32.neg_neg]) ?_
  refine px_iload_n (kk := 3) rfl rfl rfl ?_
  refine px_if_gt rfl (fun _ => ?_) (fun h => absurd h (by decide))
  refine px_iload_n (kk := 3) rfl rfl rfl ?_
  refine px_bipush (v := nI 97) rfl b_97 ?_
  refine px_icmp_lt rfl (fun _ => ?_) (fun h => absurd h (by decide))
  refine px_iload_n (kk := 1) rfl rfl rfl ?_
  refine px_iconst (v := nI 1) rfl k_1 ?_
  refine px_icmp_ge rfl (fun _ => ?_) (fun h => absurd h (by decide))
  refine px_iload_n (kk := 3) rfl rfl rfl ?_
  refine px_bipush (v := nI 59) rfl b_59 ?_
  refine px_icmp_ne rfl (fun _ => ?_) (fun h => absurd h (by decide))
  refine px_iload_n (kk := 3) rfl rfl rfl ?_
  refine px_bipush (v := nI 63) rfl b_63 ?_
  refine px_icmp_ne rfl (fun h => absurd h (by decide)) (fun _ => ?_)
  refine px_iinc1 rfl rfl rfl (by decide) ?_
  refine px_l1 (y := nI 0) (n_dec 0) ?_
  refine px_aload_n (kk := 0) rfl rfl rfl ?_
  refine px_getR (r := 8) rfl gS_6 rfl (gR_6_2 _) ?_
  refine px_iload_n (kk := 1) rfl rfl rfl ?_
  refine px_iald (j := 0) rfl gS_8 rfl (by decide) ?_
  rw [p_up_s]
  refine px_if_ne rfl (fun h => absurd hv h) (fun c68 => ?_)
  refine px_aload_n (kk := 0) rfl rfl rfl ?_
  refine px_iload_n (kk := 2) rfl rfl rfl ?_
  refine px_callV0 CX3_lineBehind [] [.int _] (vX3_lineBehind (k := k) (x := x) hk2 hx (by omega) (by rw [p_up_n _ _ (gA_ne p.1).1]; exact hh)) rfl gS_6 (by decide) rfl rfl rfl (Nat.le_of_ble_eq_true rfl) (by decide) ?_
  rintro _ _ - ⟨rfl, rfl⟩
  refine px_goto rfl ?_
  refine px_ist2 rfl rfl (by decide) ?_
  refine px_goto rfl ?_
  refine px_iinc2 (v := nI ((x - 1) + 1)) rfl (n_inc (x - 1)) rfl (by decide) ?_
  refine px_goto rfl ?_
  rw [show x - 1 + 1 = x by omega]
  exact kont _
theorem lX3_out {I : Nat → Nat → Int32} {J : Nat → Nat → Int64} {p : Bool × Option Nat} {ro : List (Nat × Nat × (Nat → Int32))} {L : Nat} (hL : I 6 6 = nI L) {k : Nat} (hk : k = L) {g : Nat → Int32} {o : Option Value} {Q : Option Value → pm_M → Prop} (hq : Q (some (.int (nI 0))) (gS, (va_up I 8 g), J, gR p, ro)) : Px 1 0 0 CX3_run 4 [some (.ref (6)), some (.int (nI 0)), some (.int (nI k)), o] [] (gS, (va_up I 8 g), J, gR p, ro) (Q) := by
  refine px_iload_n (kk := 2) rfl rfl rfl ?_
  refine px_aload_n (kk := 0) rfl rfl rfl ?_
  refine px_getIe rfl gS_6 rfl ((congrFun (p_up_n _ _ (by decide)) 6).trans hL) ?_
  refine px_icmp_ge rfl (fun c7 => ?_) (fun h => absurd (by rw [hk]; exact Int32.le_refl _) h)
  refine px_iconst (v := nI 0) rfl k_0 ?_
  refine px_ireturn rfl (.inl rfl) ?_
  exact hq
theorem codeL_len (k : Nat) (q : Ln) : (codeL k q).length = (if q.1 = [] then q.2.length + 1 else q.1.length + q.2.length + 3) := by
  unfold codeL
  split <;> simp <;> omega
theorem lX3_lines {I : Nat → Nat → Int32} {J : Nat → Nat → Int64} {p : Bool × Option Nat} {ro : List (Nat × Nat × (Nat → Int32))} {L : Nat} (hL : I 6 6 = nI L) (hL2 : L ≤ 256) : ∀ (r : List Ln) (k : Nat) (g : Nat → Int32) (o : Option Value), (∀ q ∈ r, lnOK q) → HC (I (gA p.1)) k (codeC k r) → k + (codeC k r).length = L → Px 1 0 0 CX3_run 4 [some (.ref 6), some (.int (nI 0)), some (.int (nI k)), o] [] (gS, (va_up I 8 g), J, gR p, ro) (fun v S' => v = some (.int (evL (fC I) r)) ∧ ∃ g, S' = (gS, (va_up I 8 g), J, gR p, ro))
  | [], k, g, o, _, _, hL3 => by
    have hk : k = L := by simpa [codeC] using hL3
    exact lX3_out hL hk ⟨rfl, g, rfl⟩
  | (t, e) :: r, k, g, o, hok, hc, hL3 => by
    have hln := hok (t, e) List.mem_cons_self
    have hr := fun q hq => hok q (List.mem_cons_of_mem _ hq)
    unfold codeC at hc hL3
    rw [List.length_append] at hL3
    have hcl := codeL_len k (t, e)
    obtain ⟨hc1, hc2⟩ := HC_app.mp hc
    by_cases ht : t = []
    · subst ht
      simp only [codeL, if_true] at hc1
      simp only [if_true] at hcl
      obtain ⟨c1, c2⟩ := HC_app.mp hc1
      rw [List.length_map] at c2
      refine lX3_exp hL hL2 e [] 1 k g o hln.2 (by simp) c1 (by omega) trivial (fun g' o' hsg hl => ?_)
      refine lX3_end hL hL2 (by omega) c2.1 ⟨?_, g', rfl⟩
      match hv : evE (fC I) e [], hl, hsg with
      | [a], _, hsg => simp only [evL, hv, true_or, if_true, List.headD_cons]; rw [show g' 0 = a from hsg.1]
    · simp only [codeL, ht, if_false] at hc1
      simp only [ht, if_false] at hcl
      obtain ⟨c1, c2⟩ := HC_app.mp hc1
      rw [List.length_map] at c2
      obtain ⟨c3, c4, c5⟩ := c2
      obtain ⟨c6, c7⟩ := HC_app.mp c5
      rw [List.length_map] at c7
      refine lX3_exp hL hL2 t [] 1 k g o (hln.1 ht) (by simp) c1 (by omega) trivial (fun g' o' hsg hl => ?_)
      match hv : evE (fC I) t [], hl, hsg with
      | [a], _, hsg =>
        have ha : g' 0 = a := hsg.1
        by_cases h0 : a = 0
        · refine lX3_no hL hL2 (by omega) c3 (by rw [ha]; exact h0) (x := k + t.length + e.length + 3) (by omega) (by omega) (by omega) c4 (fun o2 => ?_)
          have hrec := lX3_lines (J := J) (ro := ro) hL hL2 r (k + (codeL k (t, e)).length) g' o2 hr hc2 (by omega)
          rw [hcl] at hrec
          simp only [evL, ht, hv, h0, List.headD_cons, false_or, ne_eq, not_true_eq_false, if_false]
          rw [show k + t.length + e.length + 3 = k + (t.length + e.length + 3) by omega]
          exact hrec
        · refine lX3_yes hL hL2 (by omega) c3 (by rw [ha]; exact h0) (fun o2 => ?_)
          refine lX3_exp hL hL2 e [] 1 (k + t.length + 2) g' o2 hln.2 (by simp) c6 (by omega) trivial (fun g3 o3 hsg3 hl3 => ?_)
          refine lX3_end hL hL2 (by omega) c7.1 ⟨?_, g3, rfl⟩
          match hw : evE (fC I) e [], hl3, hsg3 with
          | [b], _, hsg3 =>
            simp only [evL, hv, hw, List.headD_cons]
            rw [if_pos (Or.inr h0), show g3 0 = b from hsg3.1]
theorem up_id (I : Nat → Nat → Int32) (a : Nat) : I = va_up I a (I a) := by
  funext c
  by_cases h : c = a
  · subst h; rw [p_up_s]
  · rw [p_up_n _ _ h]
theorem vX3_run {I : Nat → Nat → Int32} {J : Nat → Nat → Int64} {p : Bool × Option Nat} {ro : List (Nat × Nat × (Nat → Int32))} {tx : List Ln} (hT : LawC tx p I) : Pv 1 0 0 CX3_run [.ref (6)] (gS, I, J, gR p, ro) (fun v S' => v = some (.int (evL (fC I) tx)) ∧ ∃ g, S' = (gS, (va_up I 8 g), J, gR p, ro)) := by
  refine ⟨okCX3_run, Nat.le_of_ble_eq_true rfl, (show Px _ _ _ _ 0 [some (.ref (6)), none, none, none] [] _ _ from ?_)⟩
  refine px_iconst (v := nI 0) rfl k_0 ?_
  refine px_ist1 rfl rfl (by decide) ?_
  refine px_iconst (v := nI 0) rfl k_0 ?_
  refine px_ist2 rfl rfl (by decide) ?_
  refine px_mem (up_id I 8) ?_
  exact lX3_lines hT.1 hT.2.1 tx 0 (I 8) _ hT.2.2.2 hT.2.2.1 (by omega)
/-- by how much one is warmer, by the law (no text: []) -/
def fL (l w o h c q : Int32) (k : Nat) : Int32 := match k with
  | 0 => l
  | 1 => w
  | 2 => o
  | 3 => h
  | 4 => c
  | _ => q
def sp_rise (tx : List Ln) (l w o h c q : Int32) : Int32 := if tx = [] then l + nI 5 else if -20 < (if evL (fL l w o h c q) tx < nI 20 then evL (fL l w o h c q) tx else nI 20) then (if evL (fL l w o h c q) tx < nI 20 then evL (fL l w o h c q) tx else nI 20) else -20
def sp_one (x y : Int32) : Int32 := if x ≠ 0 ∧ x = y then nI 1 else nI 0
def Fr (cs : List Nat) (I I' : Nat → Nat → Int32) : Prop := ∀ c, c ∉ cs → I' c = I c
theorem codeC_pos (q : Ln) (r : List Ln) : 0 < (codeC 0 (q :: r)).length := by
  unfold codeC
  rw [List.length_append, codeL_len]
  split <;> omega
theorem fL_fC (I : Nat → Nat → Int32) : fC I = fL (I 6 9) (I 6 10) (I 6 11) (I 6 12) (I 1 6) (I 6 13) := by
  funext k
  match k with
  | 0 => rfl
  | 1 => rfl
  | 2 => rfl
  | 3 => rfl
  | 4 => rfl
  | k + 5 => rfl
theorem vX3_rise {I : Nat → Nat → Int32} {J : Nat → Nat → Int64} {p : Bool × Option Nat} {ro : List (Nat × Nat × (Nat → Int32))} {tx : List Ln} (hT : LawC tx p I) {n : Nat} (hn : I 1 4 = nI n) (hn8 : n ≤ 8) {a b : Nat} (ha : a < n) (hb : b < n) (hne : a ≠ b) {x : Int32} {w : Nat} (hw : gS[w]? = some (100, 8)) (hw6 : w ≠ 6) : Pv 2 0 0 CX3_rise [.ref (6), .int (nI a), .int (nI b), .int (x), .ref (w)] (gS, I, J, gR p, ro) (fun v S' => v = some (.int (sp_rise tx (I 5 (8 * a + b)) (I w a) (I w b) x (I 1 6) (sp_one (I 4 a) (I 4 b)))) ∧ ∃ I', S' = (gS, I', J, gR p, ro) ∧ Fr [6, 8] I I' ∧ ∀ k, k < 9 → I' 6 k = I 6 k) := by
  refine ⟨okCX3_rise, Nat.le_of_ble_eq_true rfl, (show Px _ _ _ _ 0 [some (.ref (6)), some (.int (nI a)), some (.int (nI b)), some (.int (x)), some (.ref (w))] [] _ _ from ?_)⟩
  refine px_aload_n (kk := 0) rfl rfl rfl ?_
  refine px_getR (r := 1) rfl gS_6 rfl (gR_6_0 _) ?_
  refine px_iload_n (kk := 1) rfl rfl rfl ?_
  refine px_iload_n (kk := 2) rfl rfl rfl ?_
  refine px_callV0 CX9_areTwo [] [.int _, .int _] (vX9_areTwo hn hn8) rfl gS_1 (by decide) rfl rfl rfl (Nat.le_of_ble_eq_true rfl) (by decide) ?_
  rintro _ _ - (⟨h, rfl, rfl⟩ | ⟨h, rfl, rfl⟩)
  · refine px_if_ne rfl (fun _ => ?_) (fun h => absurd h (by decide))
    refine px_aload_n (kk := 0) rfl rfl rfl ?_
    refine px_aload_n (kk := 0) rfl rfl rfl ?_
    refine px_getR (r := 1) rfl gS_6 rfl (gR_6_0 _) ?_
    refine px_getR (r := 5) rfl gS_1 rfl (gR_1_3 _) ?_
    refine px_iload_n (kk := 1) rfl rfl rfl ?_
    refine px_bipush (v := nI 8) rfl b_8 ?_
    refine px_imulN rfl ?_
    refine px_iload_n (kk := 2) rfl rfl rfl ?_
    refine px_iaddN rfl ?_
    refine px_iald (j := 8 * a + b) rfl gS_5 (by congr 1; omega) (by omega) ?_
    refine px_putI rfl gS_6 rfl rfl ?_
    refine px_aload_n (kk := 0) rfl rfl rfl ?_
    refine px_getI rfl gS_6 rfl ?_
    rw [show va_up I 6 (va_up (I 6) 9 (I 5 (8 * a + b))) 6 6 = I 6 6 from by simp [va_up]]
    refine px_if_ne rfl (fun c21 => ?_) (fun c21 => ?_)
    · refine px_aload_n (kk := 0) rfl rfl rfl ?_
      refine px_aload rfl rfl ?_
      refine px_iload_n (kk := 1) rfl rfl rfl ?_
      refine px_iald (j := a) rfl hw rfl (by omega) ?_
      refine px_putI rfl gS_6 rfl rfl ?_
      refine px_aload_n (kk := 0) rfl rfl rfl ?_
      refine px_aload rfl rfl ?_
      refine px_iload_n (kk := 2) rfl rfl rfl ?_
      refine px_iald (j := b) rfl hw rfl (by omega) ?_
      refine px_putI rfl gS_6 rfl rfl ?_
      refine px_aload_n (kk := 0) rfl rfl rfl ?_
      refine px_iload_n (kk := 3) rfl rfl rfl ?_
      refine px_putI rfl gS_6 rfl rfl ?_
      refine px_aload_n (kk := 0) rfl rfl rfl ?_
      refine px_aload_n (kk := 0) rfl rfl rfl ?_
      refine px_getR (r := 1) rfl gS_6 rfl (gR_6_0 _) ?_
      refine px_getR (r := 4) rfl gS_1 rfl (gR_1_2 _) ?_
      refine px_iload_n (kk := 1) rfl rfl rfl ?_
      refine px_ialde (j := a) (v := I 4 a) rfl gS_4 rfl (by omega) (by simp [va_up]) ?_
      refine px_if_eq rfl (fun c46 => ?_) (fun c46 => ?_)
      · refine px_iconst (v := nI 0) rfl k_0 ?_
        refine px_putI rfl gS_6 rfl rfl ?_
        refine px_bipush (v := -20) rfl b_m20 ?_
        refine px_bipush (v := nI 20) rfl b_20 ?_
        refine px_aload_n (kk := 0) rfl rfl rfl ?_
        refine px_callV0 CX3_run [.int _, .int _] [] (vX3_run (tx := tx) ⟨by simpa [va_up] using hT.1, hT.2.1, by simpa [va_up, (gA_ne p.1).2.1] using hT.2.2.1, hT.2.2.2⟩) rfl gS_6 (by decide) rfl rfl rfl (Nat.le_of_ble_eq_true rfl) (by decide) ?_
        rintro _ _ - ⟨rfl, g, rfl⟩
        refine px_mmin rfl (Nat.le_of_ble_eq_true rfl) ?_
        refine px_mmax rfl (Nat.le_of_ble_eq_true rfl) ?_
        refine px_ireturn rfl (.inl rfl) ?_
        refine ⟨?_, _, rfl, fun c hc => ?_, fun k hk => ?_⟩
        · have hne : tx ≠ [] := by
            rintro rfl
            exact c21 (by rw [hT.1]; rfl)
          rw [sp_rise, if_neg hne, fL_fC]
          rw [show sp_one (I 4 a) (I 4 b) = nI 0 from by simp [sp_one, c46]]
          simp only [va_up, if_true, if_false, Nat.reduceEqDiff, hw6]
        · simp only [List.mem_cons, List.not_mem_nil, or_false, not_or] at hc
          simp only [p_up_n _ _ hc.1, p_up_n _ _ hc.2, up2]
        · simp only [va_up, Nat.reduceEqDiff, if_true, if_false, show k ≠ 9 by omega, show k ≠ 10 by omega, show k ≠ 11 by omega, show k ≠ 12 by omega, show k ≠ 13 by omega]
      · refine px_aload_n (kk := 0) rfl rfl rfl ?_
        refine px_getR (r := 1) rfl gS_6 rfl (gR_6_0 _) ?_
        refine px_getR (r := 4) rfl gS_1 rfl (gR_1_2 _) ?_
        refine px_iload_n (kk := 1) rfl rfl rfl ?_
        refine px_ialde (j := a) (v := I 4 a) rfl gS_4 rfl (by omega) (by simp [va_up]) ?_
        refine px_aload_n (kk := 0) rfl rfl rfl ?_
        refine px_getR (r := 1) rfl gS_6 rfl (gR_6_0 _) ?_
        refine px_getR (r := 4) rfl gS_1 rfl (gR_1_2 _) ?_
        refine px_iload_n (kk := 2) rfl rfl rfl ?_
        refine px_ialde (j := b) (v := I 4 b) rfl gS_4 rfl (by omega) (by simp [va_up]) ?_
        refine px_icmp_ne rfl (fun c57 => ?_) (fun c57 => ?_)
        · refine px_iconst (v := nI 0) rfl k_0 ?_
          refine px_putI rfl gS_6 rfl rfl ?_
          refine px_bipush (v := -20) rfl b_m20 ?_
          refine px_bipush (v := nI 20) rfl b_20 ?_
          refine px_aload_n (kk := 0) rfl rfl rfl ?_
          refine px_callV0 CX3_run [.int _, .int _] [] (vX3_run (tx := tx) ⟨by simpa [va_up] using hT.1, hT.2.1, by simpa [va_up, (gA_ne p.1).2.1] using hT.2.2.1, hT.2.2.2⟩) rfl gS_6 (by decide) rfl rfl rfl (Nat.le_of_ble_eq_true rfl) (by decide) ?_
          rintro _ _ - ⟨rfl, g, rfl⟩
          refine px_mmin rfl (Nat.le_of_ble_eq_true rfl) ?_
          refine px_mmax rfl (Nat.le_of_ble_eq_true rfl) ?_
          refine px_ireturn rfl (.inl rfl) ?_
          refine ⟨?_, _, rfl, fun c hc => ?_, fun k hk => ?_⟩
          · have hne : tx ≠ [] := by
              rintro rfl
              exact c21 (by rw [hT.1]; rfl)
            rw [sp_rise, if_neg hne, fL_fC]
            rw [show sp_one (I 4 a) (I 4 b) = nI 0 from by simp [sp_one, c46, c57]]
            simp only [va_up, if_true, if_false, Nat.reduceEqDiff, hw6]
          · simp only [List.mem_cons, List.not_mem_nil, or_false, not_or] at hc
            simp only [p_up_n _ _ hc.1, p_up_n _ _ hc.2, up2]
          · simp only [va_up, Nat.reduceEqDiff, if_true, if_false, show k ≠ 9 by omega, show k ≠ 10 by omega, show k ≠ 11 by omega, show k ≠ 12 by omega, show k ≠ 13 by omega]
        · refine px_iconst (v := nI 1) rfl k_1 ?_
          refine px_goto rfl ?_
          refine px_putI rfl gS_6 rfl rfl ?_
          refine px_bipush (v := -20) rfl b_m20 ?_
          refine px_bipush (v := nI 20) rfl b_20 ?_
          refine px_aload_n (kk := 0) rfl rfl rfl ?_
          refine px_callV0 CX3_run [.int _, .int _] [] (vX3_run (tx := tx) ⟨by simpa [va_up] using hT.1, hT.2.1, by simpa [va_up, (gA_ne p.1).2.1] using hT.2.2.1, hT.2.2.2⟩) rfl gS_6 (by decide) rfl rfl rfl (Nat.le_of_ble_eq_true rfl) (by decide) ?_
          rintro _ _ - ⟨rfl, g, rfl⟩
          refine px_mmin rfl (Nat.le_of_ble_eq_true rfl) ?_
          refine px_mmax rfl (Nat.le_of_ble_eq_true rfl) ?_
          refine px_ireturn rfl (.inl rfl) ?_
          refine ⟨?_, _, rfl, fun c hc => ?_, fun k hk => ?_⟩
          · have hne : tx ≠ [] := by
              rintro rfl
              exact c21 (by rw [hT.1]; rfl)
            rw [sp_rise, if_neg hne, fL_fC]
            rw [show sp_one (I 4 a) (I 4 b) = nI 1 from by simp only [sp_one]; rw [if_pos ⟨c46, c57⟩]]
            simp only [va_up, if_true, if_false, Nat.reduceEqDiff, hw6]
          · simp only [List.mem_cons, List.not_mem_nil, or_false, not_or] at hc
            simp only [p_up_n _ _ hc.1, p_up_n _ _ hc.2, up2]
          · simp only [va_up, Nat.reduceEqDiff, if_true, if_false, show k ≠ 9 by omega, show k ≠ 10 by omega, show k ≠ 11 by omega, show k ≠ 12 by omega, show k ≠ 13 by omega]
    · refine px_aload_n (kk := 0) rfl rfl rfl ?_
      refine px_getI rfl gS_6 rfl ?_
      refine px_iconst (v := nI 5) rfl k_5 ?_
      refine px_iadd rfl ?_
      refine px_ireturn rfl (.inl rfl) ?_
      refine ⟨?_, _, rfl, fun c hc => ?_, fun k hk => ?_⟩
      · have hne : tx = [] := by
          cases tx with
          | nil => rfl
          | cons q r =>
            have h1 := codeC_pos q r
            have h2 := hT.2.1
            rw [hT.1, n_0, n_eq (by omega) (by omega)] at c21
            omega
        rw [sp_rise, if_pos hne]
        simp [va_up]
      · simp only [List.mem_cons, List.not_mem_nil, or_false, not_or] at hc
        rw [p_up_n _ _ hc.1]
      · simp only [va_up, if_true, show k ≠ 9 by omega, if_false]
  · exact absurd ⟨a, b, ha, hb, hne, rfl, rfl⟩ h
theorem vX3_rise0 {I : Nat → Nat → Int32} {J : Nat → Nat → Int64} {p : Bool × Option Nat} {ro : List (Nat × Nat × (Nat → Int32))} {n : Nat} (hn : I 1 4 = nI n) (hn8 : n ≤ 8) {x y z : Int32} {w : Nat} (h0 : ¬ (∃ a b, a < n ∧ b < n ∧ a ≠ b ∧ x = nI a ∧ y = nI b)) : Pv 2 0 0 CX3_rise [.ref (6), .int (x), .int (y), .int (z), .ref (w)] (gS, I, J, gR p, ro) (qI (nI 0) (gS, I, J, gR p, ro)) := by
  refine ⟨okCX3_rise, Nat.le_of_ble_eq_true rfl, (show Px _ _ _ _ 0 [some (.ref (6)), some (.int (x)), some (.int (y)), some (.int (z)), some (.ref (w))] [] _ _ from ?_)⟩
  refine px_aload_n (kk := 0) rfl rfl rfl ?_
  refine px_getR (r := 1) rfl gS_6 rfl (gR_6_0 _) ?_
  refine px_iload_n (kk := 1) rfl rfl rfl ?_
  refine px_iload_n (kk := 2) rfl rfl rfl ?_
  refine px_callV0 CX9_areTwo [] [.int _, .int _] (vX9_areTwo hn hn8) rfl gS_1 (by decide) rfl rfl rfl (Nat.le_of_ble_eq_true rfl) (by decide) ?_
  rintro _ _ - (⟨h, rfl, rfl⟩ | ⟨h, rfl, rfl⟩)
  · exact absurd h h0
  · refine px_if_ne rfl (fun h => absurd h (by decide)) (fun _ => ?_)
    refine px_iconst (v := nI 0) rfl k_0 ?_
    refine px_ireturn rfl (.inl rfl) ?_
    exact ⟨rfl, rfl⟩
