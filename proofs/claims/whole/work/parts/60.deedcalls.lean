/-! calls in deed -/
theorem w_of {w : Int32} : (∃ k, k < 6 ∧ w = nI k) ∨ (w.toInt < 0 ∨ 5 < w.toInt) := by
  by_cases h : w < 0
  · rw [i_lt, i_0] at h; exact .inr (.inl h)
  · obtain ⟨k, hk, rfl⟩ := n_ofn h
    by_cases h6 : k < 6
    · exact .inl ⟨k, h6, rfl⟩
    · exact .inr (.inr (by rw [nI_toInt hk]; omega))
theorem nI_w {k : Nat} (h : k < 6) : ¬ ((nI k).toInt < 0 ∨ 5 < (nI k).toInt) := by rw [nI_toInt (by omega)]; omega
theorem vX9_isNumberG {I : Nat → Nat → Int32} {J : Nat → Nat → Int64} {p : Bool × Option Nat} {ro : List (Nat × Nat × (Nat → Int32))} {n : Nat} (hn : I 1 4 = nI n) (hn8 : n ≤ 8) {x w : Int32} : Pv 3 0 0 CX9_isNumber [.ref 1, .int x, .int w] (gS, I, J, gR p, ro) (qB (∃ k, k < 6 ∧ w = nI k ∧ sp_num n k x) (gS, I, J, gR p, ro)) := by
  rcases w_of (w := w) with ⟨k, hk, rfl⟩ | h
  · have key : ∀ k, k < 6 → Pv 3 0 0 CX9_isNumber [.ref 1, .int x, .int (nI k)] (gS, I, J, gR p, ro) (qB (sp_num n k x) (gS, I, J, gR p, ro)) := by
      intro k hk
      rcases (by omega : k = 0 ∨ k = 1 ∨ k = 2 ∨ k = 3 ∨ k = 4 ∨ k = 5) with rfl | rfl | rfl | rfl | rfl | rfl
      · exact vX9_isNumber_0 hn hn8
      · exact vX9_isNumber_1 hn hn8
      · exact vX9_isNumber_2 hn hn8
      · exact vX9_isNumber_3 hn hn8
      · exact vX9_isNumber_4 hn hn8
      · exact vX9_isNumber_5 hn hn8
    refine pv_post (key k hk) (fun r S hr => ?_)
    rcases hr with ⟨h1, h2⟩ | ⟨h1, h2⟩
    · exact .inl ⟨⟨k, hk, rfl, h1⟩, h2⟩
    · exact .inr ⟨fun ⟨k2, hk2, e, h3⟩ => h1 (by rw [n_eq (by omega) (by omega)] at e; rw [e]; exact h3), h2⟩
  · refine pv_post (vX9_isNumber_o h) (fun r S hr => ?_)
    exact .inr ⟨fun ⟨k, hk, e, _⟩ => nI_w hk (e ▸ h), hr⟩
theorem vX9_mayBeG {I : Nat → Nat → Int32} {J : Nat → Nat → Int64} {p : Bool × Option Nat} {ro : List (Nat × Nat × (Nat → Int32))} {k : Nat} (hk : k < 6) {v : Int32} : Pv 0 0 0 CX9_mayBe [.ref 1, .int (nI k), .int v] (gS, I, J, gR p, ro) (qB (sp_may k v) (gS, I, J, gR p, ro)) := by
  rcases (by omega : k = 0 ∨ k = 1 ∨ k = 2 ∨ k = 3 ∨ k = 4 ∨ k = 5) with rfl | rfl | rfl | rfl | rfl | rfl
  · exact vX9_mayBe_0
  · exact vX9_mayBe_1
  · exact vX9_mayBe_2
  · exact vX9_mayBe_3
  · exact vX9_mayBe_4
  · exact vX9_mayBe_5
theorem vX11_mend {I : Nat → Nat → Int32} {J : Nat → Nat → Int64} {p : Bool × Option Nat} {ro : List (Nat × Nat × (Nat → Int32))} {n : Nat} (hn : I 1 4 = nI n) (hn8 : n ≤ 8) {dn : Nat} (hdn : I 44 5 = nI dn) (hd40 : dn ≤ 40) {x w v : Int32} : Pv 5 0 0 CX11_mend [.ref (0), .int (x), .int (w), .int (v)] (gS, I, J, gR p, ro) (fun r S' => (∃ k a b, okN n k a b ∧ w = nI k ∧ x = nI (nmb k a b) ∧ sp_may k v ∧ r = some (.int (I (sl k a b).1 (sl k a b).2)) ∧ ((I (sl k a b).1 (sl k a b).2 = v ∧ S' = (gS, I, J, gR p, ro)) ∨ (I (sl k a b).1 (sl k a b).2 ≠ v ∧ S' = (gS, (sp_noteM (va_up I (sl k a b).1 (va_up (I (sl k a b).1) (sl k a b).2 v)) dn x w (I (sl k a b).1 (sl k a b).2) v), J, gR p, ro)))) ∨ (¬ (∃ k, k < 6 ∧ w = nI k ∧ sp_num n k x ∧ sp_may k v) ∧ r = some (.int (-2000000000)) ∧ S' = (gS, I, J, gR p, ro))) := by
  refine ⟨okCX11_mend, Nat.le_of_ble_eq_true rfl, (show Px _ _ _ _ 0 [some (.ref (0)), some (.int (x)), some (.int (w)), some (.int (v)), none] [] _ _ from ?_)⟩
  refine px_aload_n (kk := 0) rfl rfl rfl ?_
  refine px_getR (r := 1) rfl gS_0 rfl (gR_0_0 _) ?_
  refine px_iload_n (kk := 1) rfl rfl rfl ?_
  refine px_iload_n (kk := 2) rfl rfl rfl ?_
  refine px_callV0 CX9_isNumber [] [.int _, .int _] (vX9_isNumberG hn hn8) rfl gS_1 (by decide) rfl rfl rfl (Nat.le_of_ble_eq_true rfl) (by decide) ?_
  rintro _ _ - (⟨⟨k, hk, rfl, hnum⟩, rfl, rfl⟩ | ⟨hno, rfl, rfl⟩)
  · refine px_if_eq rfl (fun h => absurd h (by decide)) (fun _ => ?_)
    refine px_aload_n (kk := 0) rfl rfl rfl ?_
    refine px_getR (r := 1) rfl gS_0 rfl (gR_0_0 _) ?_
    refine px_iload_n (kk := 2) rfl rfl rfl ?_
    refine px_iload_n (kk := 3) rfl rfl rfl ?_
    refine px_callV0 CX9_mayBe [] [.int _, .int _] (vX9_mayBeG hk) rfl gS_1 (by decide) rfl rfl rfl (Nat.le_of_ble_eq_true rfl) (by decide) ?_
    rintro _ _ - (⟨hmay, rfl, rfl⟩ | ⟨hmay, rfl, rfl⟩)
    · obtain ⟨a, b, ho, rfl⟩ := sp_num_ok hk hnum
      refine px_if_ne rfl (fun _ => ?_) (fun h => absurd h (by decide))
      refine px_aload_n (kk := 0) rfl rfl rfl ?_
      refine px_getR (r := 1) rfl gS_0 rfl (gR_0_0 _) ?_
      refine px_iload_n (kk := 1) rfl rfl rfl ?_
      refine px_iload_n (kk := 2) rfl rfl rfl ?_
      refine px_callV0 CX9_told [] [.int _, .int _] (vX9_toldG hn hn8 ho) rfl gS_1 (by decide) rfl rfl rfl (Nat.le_of_ble_eq_true rfl) (by decide) ?_
      rintro _ _ - ⟨rfl, rfl⟩
      refine px_ist4 rfl rfl (by decide) ?_
      refine px_iload rfl rfl ?_
      refine px_iload_n (kk := 3) rfl rfl rfl ?_
      refine px_icmp_eq rfl (fun c22 => ?_) (fun c22 => ?_)
      · refine px_iload rfl rfl ?_
        refine px_ireturn rfl (.inl rfl) ?_
        exact .inl ⟨k, a, b, ho, rfl, rfl, hmay, rfl, .inl ⟨by first | exact c22 | exact Classical.byContradiction c22, rfl⟩⟩
      · refine px_aload_n (kk := 0) rfl rfl rfl ?_
        refine px_getR (r := 1) rfl gS_0 rfl (gR_0_0 _) ?_
        refine px_iload_n (kk := 1) rfl rfl rfl ?_
        refine px_iload_n (kk := 2) rfl rfl rfl ?_
        refine px_iload_n (kk := 3) rfl rfl rfl ?_
        refine px_callV0 CX9_tell [] [.int _, .int _, .int _] (vX9_tellG hn hn8 ho) rfl gS_1 (by decide) rfl rfl rfl (Nat.le_of_ble_eq_true rfl) (by decide) ?_
        rintro _ _ - ⟨rfl, rfl⟩
        refine px_aload_n (kk := 0) rfl rfl rfl ?_
        refine px_getR (r := 44) rfl gS_0 rfl (gR_0_7 _) ?_
        refine px_iload_n (kk := 1) rfl rfl rfl ?_
        refine px_iload_n (kk := 2) rfl rfl rfl ?_
        refine px_iload rfl rfl ?_
        refine px_iload_n (kk := 3) rfl rfl rfl ?_
        refine px_callV0 CX1_note [] [.int _, .int _, .int _, .int _] (vX1_note ((congrFun (p_up_n _ _ (sl_ne ho (by omega)).symm) 5).trans hdn) hd40) rfl gS_44 (by decide) rfl rfl rfl (Nat.le_of_ble_eq_true rfl) (by decide) ?_
        rintro _ _ - ⟨rfl, rfl⟩
        refine px_iload rfl rfl ?_
        refine px_ireturn rfl (.inl rfl) ?_
        exact .inl ⟨k, a, b, ho, rfl, rfl, hmay, rfl, .inr ⟨c22, rfl⟩⟩
    · refine px_if_ne rfl (fun h => absurd h (by decide)) (fun _ => ?_)
      refine px_ldc (v := -2000000000) rfl (by decide) ?_
      refine px_ireturn rfl (.inl rfl) ?_
      exact .inr ⟨fun ⟨k2, hk2, e, _, h3⟩ => by rw [n_eq (by omega) (by omega)] at e; subst e; exact hmay h3, rfl, rfl⟩
  · refine px_if_eq rfl (fun _ => ?_) (fun h => absurd h (by decide))
    refine px_ldc (v := -2000000000) rfl (by decide) ?_
    refine px_ireturn rfl (.inl rfl) ?_
    exact .inr ⟨fun ⟨k2, hk2, e, h2, _⟩ => hno ⟨k2, hk2, e, h2⟩, rfl, rfl⟩
theorem vX11_of {I : Nat → Nat → Int32} {J : Nat → Nat → Int64} {p : Bool × Option Nat} {ro : List (Nat × Nat × (Nat → Int32))} {n : Nat} (hn : I 1 4 = nI n) (hn8 : n ≤ 8) {x w : Int32} : Pv 5 0 0 CX11_of [.ref (0), .int (x), .int (w)] (gS, I, J, gR p, ro) (fun r S' => S' = (gS, I, J, gR p, ro) ∧ ∃ v, r = some (.int v) ∧ ((∃ a, a < n ∧ x = nI a ∧ w = nI 6 ∧ v = if I 36 a = -1 then -2 else I 36 a) ∨ (∃ a, a < n ∧ x = nI a ∧ w = nI 7 ∧ v = I 37 a) ∨ (∃ k a b, okN n k a b ∧ w = nI k ∧ x = nI (nmb k a b) ∧ v = I (sl k a b).1 (sl k a b).2) ∨ (¬ ((∃ a, a < n ∧ x = nI a) ∧ (w = nI 6 ∨ w = nI 7)) ∧ ¬ (∃ k, k < 6 ∧ w = nI k ∧ sp_num n k x) ∧ v = -2000000000))) := by
  refine ⟨okCX11_of, Nat.le_of_ble_eq_true rfl, (show Px _ _ _ _ 0 [some (.ref (0)), some (.int (x)), some (.int (w))] [] _ _ from ?_)⟩
  refine px_iload_n (kk := 2) rfl rfl rfl ?_
  refine px_bipush (v := nI 6) rfl b_6 ?_
  refine px_icmp_ne rfl (fun c2 => ?_) (fun c2 => ?_)
  · refine px_iload_n (kk := 2) rfl rfl rfl ?_
    refine px_bipush (v := nI 7) rfl b_7 ?_
    refine px_icmp_ne rfl (fun c17 => ?_) (fun c17 => ?_)
    · refine px_aload_n (kk := 0) rfl rfl rfl ?_
      refine px_getR (r := 1) rfl gS_0 rfl (gR_0_0 _) ?_
      refine px_iload_n (kk := 1) rfl rfl rfl ?_
      refine px_iload_n (kk := 2) rfl rfl rfl ?_
      refine px_callV0 CX9_isNumber [] [.int _, .int _] (vX9_isNumberG hn hn8) rfl gS_1 (by decide) rfl rfl rfl (Nat.le_of_ble_eq_true rfl) (by decide) ?_
      rintro _ _ - (⟨⟨k, hk, rfl, hnum⟩, rfl, rfl⟩ | ⟨hno, rfl, rfl⟩)
      · obtain ⟨a, b, ho, rfl⟩ := sp_num_ok hk hnum
        refine px_if_eq rfl (fun h => absurd h (by decide)) (fun _ => ?_)
        refine px_aload_n (kk := 0) rfl rfl rfl ?_
        refine px_getR (r := 1) rfl gS_0 rfl (gR_0_0 _) ?_
        refine px_iload_n (kk := 1) rfl rfl rfl ?_
        refine px_iload_n (kk := 2) rfl rfl rfl ?_
        refine px_callV0 CX9_told [] [.int _, .int _] (vX9_toldG hn hn8 ho) rfl gS_1 (by decide) rfl rfl rfl (Nat.le_of_ble_eq_true rfl) (by decide) ?_
        rintro _ _ - ⟨rfl, rfl⟩
        refine px_goto rfl ?_
        refine px_ireturn rfl (.inl rfl) ?_
        exact ⟨rfl, _, rfl, .inr (.inr (.inl ⟨k, a, b, ho, rfl, rfl, rfl⟩))⟩
      · refine px_if_eq rfl (fun _ => ?_) (fun h => absurd h (by decide))
        refine px_ldc (v := -2000000000) rfl (by decide) ?_
        refine px_ireturn rfl (.inl rfl) ?_
        exact ⟨rfl, _, rfl, .inr (.inr (.inr ⟨fun h => h.2.elim c2 c17, hno, rfl⟩))⟩
    · refine px_aload_n (kk := 0) rfl rfl rfl ?_
      refine px_getR (r := 1) rfl gS_0 rfl (gR_0_0 _) ?_
      refine px_iload_n (kk := 1) rfl rfl rfl ?_
      refine px_callV0 CX9_isLine [] [.int _] (vX9_isLine hn hn8) rfl gS_1 (by decide) rfl rfl rfl (Nat.le_of_ble_eq_true rfl) (by decide) ?_
      rintro _ _ - (⟨⟨a, ha, rfl⟩, rfl, rfl⟩ | ⟨ha, rfl, rfl⟩)
      · refine px_if_eq rfl (fun h => absurd h (by decide)) (fun _ => ?_)
        refine px_aload_n (kk := 0) rfl rfl rfl ?_
        refine px_getR (r := 34) rfl gS_0 rfl (gR_0_6 _) ?_
        refine px_getR (r := 35) rfl gS_34 rfl (gR_34_2 _) ?_
        refine px_getR (r := 37) rfl gS_35 rfl (gR_35_1 _) ?_
        refine px_iload_n (kk := 1) rfl rfl rfl ?_
        refine px_iald (j := a) rfl gS_37 rfl (by omega) ?_
        refine px_goto rfl ?_
        refine px_ireturn rfl (.inl rfl) ?_
        exact ⟨rfl, _, rfl, .inr (.inl ⟨a, ha, rfl, by first | exact c17 | exact Classical.byContradiction c17, rfl⟩)⟩
      · refine px_if_eq rfl (fun _ => ?_) (fun h => absurd h (by decide))
        refine px_ldc (v := -2000000000) rfl (by decide) ?_
        refine px_ireturn rfl (.inl rfl) ?_
        exact ⟨rfl, _, rfl, .inr (.inr (.inr ⟨fun h => ha h.1, fun ⟨k, hk, e, _⟩ => by first | (rw [e, n_eq (by omega) (by omega)] at c2; omega) | (rw [e, n_eq (by omega) (by omega)] at c17; omega), rfl⟩))⟩
  · refine px_aload_n (kk := 0) rfl rfl rfl ?_
    refine px_getR (r := 1) rfl gS_0 rfl (gR_0_0 _) ?_
    refine px_iload_n (kk := 1) rfl rfl rfl ?_
    refine px_callV0 CX9_isLine [] [.int _] (vX9_isLine hn hn8) rfl gS_1 (by decide) rfl rfl rfl (Nat.le_of_ble_eq_true rfl) (by decide) ?_
    rintro _ _ - (⟨⟨a, ha, rfl⟩, rfl, rfl⟩ | ⟨ha, rfl, rfl⟩)
    · refine px_if_eq rfl (fun h => absurd h (by decide)) (fun _ => ?_)
      refine px_aload_n (kk := 0) rfl rfl rfl ?_
      refine px_getR (r := 34) rfl gS_0 rfl (gR_0_6 _) ?_
      refine px_iload_n (kk := 1) rfl rfl rfl ?_
      refine px_callV0 CX2_partner [] [.int _] (vX2_partner (a := a) (by omega)) rfl gS_34 (by decide) rfl rfl rfl (Nat.le_of_ble_eq_true rfl) (by decide) ?_
      rintro _ _ - ⟨rfl, rfl⟩
      refine px_goto rfl ?_
      refine px_ireturn rfl (.inl rfl) ?_
      exact ⟨rfl, _, rfl, .inl ⟨a, ha, rfl, by first | exact c2 | exact Classical.byContradiction c2, rfl⟩⟩
    · refine px_if_eq rfl (fun _ => ?_) (fun h => absurd h (by decide))
      refine px_ldc (v := -2000000000) rfl (by decide) ?_
      refine px_ireturn rfl (.inl rfl) ?_
      exact ⟨rfl, _, rfl, .inr (.inr (.inr ⟨fun h => ha h.1, fun ⟨k, hk, e, _⟩ => by first | (rw [e, n_eq (by omega) (by omega)] at c2; omega) | (rw [e, n_eq (by omega) (by omega)] at c17; omega), rfl⟩))⟩
theorem vX11_line {I : Nat → Nat → Int32} {J : Nat → Nat → Int64} {p : Bool × Option Nat} {ro : List (Nat × Nat × (Nat → Int32))} {n : Nat} (hn : I 1 4 = nI n) (hn8 : n ≤ 8) {x : Int32} : Pv 2 0 0 CX11_line [.ref (0), .int (x)] (gS, I, J, gR p, ro) (fun r S' => (n < 8 ∧ sp_may 0 x ∧ r = some (.int (nI n)) ∧ S' = (gS, (sp_jM I n x (nI 30) (nI 0)), J, gR p, ro)) ∨ (¬ sp_may 0 x ∧ r = some (.int (-1)) ∧ S' = (gS, I, J, gR p, ro)) ∨ (n = 8 ∧ sp_may 0 x ∧ r = some (.int (-3)) ∧ S' = (gS, I, J, gR p, ro))) := by
  refine ⟨okCX11_line, Nat.le_of_ble_eq_true rfl, (show Px _ _ _ _ 0 [some (.ref (0)), some (.int (x))] [] _ _ from ?_)⟩
  refine px_aload_n (kk := 0) rfl rfl rfl ?_
  refine px_getR (r := 1) rfl gS_0 rfl (gR_0_0 _) ?_
  refine px_iconst (v := nI 0) rfl k_0 ?_
  refine px_iload_n (kk := 1) rfl rfl rfl ?_
  refine px_callV0 CX9_mayBe [] [.int _, .int _] (vX9_mayBe_0) rfl gS_1 (by decide) rfl rfl rfl (Nat.le_of_ble_eq_true rfl) (by decide) ?_
  rintro _ _ - (⟨hm, rfl, rfl⟩ | ⟨hm, rfl, rfl⟩)
  · refine px_if_ne rfl (fun _ => ?_) (fun h => absurd h (by decide))
    refine px_aload_n (kk := 0) rfl rfl rfl ?_
    refine px_getR (r := 1) rfl gS_0 rfl (gR_0_0 _) ?_
    refine px_iload_n (kk := 1) rfl rfl rfl ?_
    refine px_bipush (v := nI 30) rfl b_30 ?_
    refine px_iconst (v := nI 0) rfl k_0 ?_
    refine px_callV0 CX9_join [] [.int _, .int _, .int _] (vX9_join hn hn8) rfl gS_1 (by decide) rfl rfl rfl (Nat.le_of_ble_eq_true rfl) (by decide) ?_
    rintro _ _ - (⟨⟨h8, _, _, _⟩, rfl, rfl⟩ | ⟨h8, rfl, rfl⟩)
    · refine px_if_ne rfl (fun _ => ?_) (fun h => absurd h (by decide))
      refine px_aload_n (kk := 0) rfl rfl rfl ?_
      refine px_getR (r := 1) rfl gS_0 rfl (gR_0_0 _) ?_
      refine px_getIe (v := nI (n + 1)) rfl gS_1 rfl (by unfold sp_jM; rw [p_up_s, p_up_s]) ?_
      refine px_iconst (v := nI 1) rfl k_1 ?_
      refine px_isub rfl ?_
      refine px_ieq (nI_pred n) ?_
      refine px_ireturn rfl (.inl rfl) ?_
      exact .inl ⟨h8, hm, rfl, rfl⟩
    · refine px_if_ne rfl (fun h => absurd h (by decide)) (fun _ => ?_)
      refine px_bipush (v := -3) rfl b_m3 ?_
      refine px_ireturn rfl (.inl rfl) ?_
      exact .inr (.inr ⟨Classical.byContradiction (fun z => h8 ⟨by omega, hm, (show 0 ≤ (nI 30).toInt ∧ (nI 30).toInt ≤ 99 from by decide +kernel), (show 0 ≤ (nI 0).toInt ∧ (nI 0).toInt ≤ 3 from by decide +kernel)⟩), hm, rfl, rfl⟩)
  · refine px_if_ne rfl (fun h => absurd h (by decide)) (fun _ => ?_)
    refine px_iconst (v := -1) rfl k_m1 ?_
    refine px_ireturn rfl (.inl rfl) ?_
    exact .inr (.inl ⟨hm, rfl, rfl⟩)
theorem vX11_putIn {I : Nat → Nat → Int32} {J : Nat → Nat → Int64} {p : Bool × Option Nat} {ro : List (Nat × Nat × (Nat → Int32))} {n : Nat} (hn : I 1 4 = nI n) (hn8 : n ≤ 8) {w : Int32} : Pv 4 0 0 CX11_putIn [.ref (0), .int (w)] (gS, I, J, gR p, ro) (fun r S' => (¬ (∃ a b, a < n ∧ b < n ∧ a ≠ b ∧ w = nI (10 * a + b)) ∧ r = some (.int (-1)) ∧ S' = (gS, I, J, gR p, ro)) ∨ ∃ a b, a < n ∧ b < n ∧ a ≠ b ∧ w = nI (10 * a + b) ∧ (((I 36 a = -1 ∧ I 36 b = -1 ∧ I 35 2 < I 1 5) ∧ r = some (.int (I 35 2 + nI 1)) ∧ S' = (gS, (sp_joinM I a b), J, gR p, ro)) ∨ (¬ (I 36 a = -1 ∧ I 36 b = -1 ∧ I 35 2 < I 1 5) ∧ r = some (.int (-5)) ∧ S' = (gS, I, J, gR p, ro)))) := by
  refine ⟨okCX11_putIn, Nat.le_of_ble_eq_true rfl, (show Px _ _ _ _ 0 [some (.ref (0)), some (.int (w))] [] _ _ from ?_)⟩
  refine px_aload_n (kk := 0) rfl rfl rfl ?_
  refine px_getR (r := 1) rfl gS_0 rfl (gR_0_0 _) ?_
  refine px_iload_n (kk := 1) rfl rfl rfl ?_
  refine px_callV0 CX9_isPair [] [.int _] (vX9_isPair hn hn8) rfl gS_1 (by decide) rfl rfl rfl (Nat.le_of_ble_eq_true rfl) (by decide) ?_
  rintro _ _ - (⟨⟨a, b, ha, hb, hne, rfl⟩, rfl, rfl⟩ | ⟨hp, rfl, rfl⟩)
  · have ea : (10 * a + b) / 10 = a := by omega
    have eb : (10 * a + b) % 10 = b := by omega
    refine px_if_ne rfl (fun _ => ?_) (fun h => absurd h (by decide))
    refine px_aload_n (kk := 0) rfl rfl rfl ?_
    refine px_getR (r := 34) rfl gS_0 rfl (gR_0_6 _) ?_
    
    refine px_iload_n (kk := 1) rfl rfl rfl ?_
    refine px_bipush (v := nI 10) rfl b_10 ?_
    refine px_idivN rfl (by decide) (by decide) (by omega) ?_
    refine px_iload_n (kk := 1) rfl rfl rfl ?_
    refine px_bipush (v := nI 10) rfl b_10 ?_
    refine px_iremN rfl (by decide) (by decide) (by omega) ?_
    rw [ea, eb]
    refine px_callV0 CX2_join [] [.int _, .int _] (vX2_join hn hn8 ha hb hne) rfl gS_34 (by decide) rfl rfl rfl (Nat.le_of_ble_eq_true rfl) (by decide) ?_
    rintro _ _ - (⟨hj, rfl, rfl⟩ | ⟨hj, rfl, rfl⟩)
    · refine px_if_eq rfl (fun h => absurd h (by decide)) (fun _ => ?_)
      refine px_aload_n (kk := 0) rfl rfl rfl ?_
      refine px_getR (r := 34) rfl gS_0 rfl (gR_0_6 _) ?_
      refine px_getR (r := 35) rfl gS_34 rfl (gR_34_2 _) ?_
      refine px_getIe (v := I 35 2 + nI 1) rfl gS_35 rfl (by unfold sp_joinM; simp only [p_up_n _ _ (show (35 : Nat) ≠ 38 by decide), p_up_s]) ?_
      refine px_goto rfl ?_
      refine px_ireturn rfl (.inl rfl) ?_
      exact .inr ⟨a, b, ha, hb, hne, rfl, .inl ⟨hj, rfl, rfl⟩⟩
    · refine px_if_eq rfl (fun _ => ?_) (fun h => absurd h (by decide))
      refine px_bipush (v := -5) rfl b_m5 ?_
      refine px_ireturn rfl (.inl rfl) ?_
      exact .inr ⟨a, b, ha, hb, hne, rfl, .inr ⟨hj, rfl, rfl⟩⟩
  · refine px_if_ne rfl (fun h => absurd h (by decide)) (fun _ => ?_)
    refine px_iconst (v := -1) rfl k_m1 ?_
    refine px_ireturn rfl (.inl rfl) ?_
    exact .inl ⟨hp, rfl, rfl⟩
theorem vX2_part {I : Nat → Nat → Int32} {J : Nat → Nat → Int64} {p : Bool × Option Nat} {ro : List (Nat × Nat × (Nat → Int32))} {a b : Nat} (ha : a < 8) (hb : b < 8) : Pv 1 0 0 CX2_part [.ref 34, .int (nI a), .int (nI b)] (gS, I, J, gR p, ro) (fun r S' => (I 36 a = nI b ∧ r = some (.int (I 37 a)) ∧ S' = (gS, (sp_partM I a b), J, gR p, ro)) ∨ (I 36 a ≠ nI b ∧ r = some (.int (-5)) ∧ S' = (gS, I, J, gR p, ro))) := by
  by_cases h : I 36 a = nI b
  · exact pv_post (vX2_part_t ha hb h) (fun r S hr => .inl ⟨h, hr⟩)
  · exact pv_post (vX2_part_f ha hb h) (fun r S hr => .inr ⟨h, hr⟩)
theorem vX11_pull {I : Nat → Nat → Int32} {J : Nat → Nat → Int64} {p : Bool × Option Nat} {ro : List (Nat × Nat × (Nat → Int32))} {n : Nat} (hn : I 1 4 = nI n) (hn8 : n ≤ 8) {w : Int32} : Pv 3 0 0 CX11_pull [.ref (0), .int (w)] (gS, I, J, gR p, ro) (fun r S' => (¬ (∃ a b, a < n ∧ b < n ∧ a ≠ b ∧ w = nI (10 * a + b)) ∧ r = some (.int (-1)) ∧ S' = (gS, I, J, gR p, ro)) ∨ ∃ a b, a < n ∧ b < n ∧ a ≠ b ∧ w = nI (10 * a + b) ∧ ((I 36 a = nI b ∧ r = some (.int (I 37 a)) ∧ S' = (gS, (sp_partM I a b), J, gR p, ro)) ∨ (I 36 a ≠ nI b ∧ r = some (.int (-5)) ∧ S' = (gS, I, J, gR p, ro)))) := by
  refine ⟨okCX11_pull, Nat.le_of_ble_eq_true rfl, (show Px _ _ _ _ 0 [some (.ref (0)), some (.int (w))] [] _ _ from ?_)⟩
  refine px_aload_n (kk := 0) rfl rfl rfl ?_
  refine px_getR (r := 1) rfl gS_0 rfl (gR_0_0 _) ?_
  refine px_iload_n (kk := 1) rfl rfl rfl ?_
  refine px_callV0 CX9_isPair [] [.int _] (vX9_isPair hn hn8) rfl gS_1 (by decide) rfl rfl rfl (Nat.le_of_ble_eq_true rfl) (by decide) ?_
  rintro _ _ - (⟨⟨a, b, ha, hb, hne, rfl⟩, rfl, rfl⟩ | ⟨hp, rfl, rfl⟩)
  · have ea : (10 * a + b) / 10 = a := by omega
    have eb : (10 * a + b) % 10 = b := by omega
    refine px_if_ne rfl (fun _ => ?_) (fun h => absurd h (by decide))
    refine px_aload_n (kk := 0) rfl rfl rfl ?_
    refine px_getR (r := 34) rfl gS_0 rfl (gR_0_6 _) ?_
    
    refine px_iload_n (kk := 1) rfl rfl rfl ?_
    refine px_bipush (v := nI 10) rfl b_10 ?_
    refine px_idivN rfl (by decide) (by decide) (by omega) ?_
    refine px_iload_n (kk := 1) rfl rfl rfl ?_
    refine px_bipush (v := nI 10) rfl b_10 ?_
    refine px_iremN rfl (by decide) (by decide) (by omega) ?_
    rw [ea, eb]
    refine px_callV0 CX2_part [] [.int _, .int _] (vX2_part (a := a) (b := b) (by omega) (by omega)) rfl gS_34 (by decide) rfl rfl rfl (Nat.le_of_ble_eq_true rfl) (by decide) ?_
    rintro _ _ - (⟨hj, rfl, rfl⟩ | ⟨hj, rfl, rfl⟩)
    · refine px_ireturn rfl (.inl rfl) ?_
      exact .inr ⟨a, b, ha, hb, hne, rfl, .inl ⟨hj, rfl, rfl⟩⟩
    · refine px_ireturn rfl (.inl rfl) ?_
      exact .inr ⟨a, b, ha, hb, hne, rfl, .inr ⟨hj, rfl, rfl⟩⟩
  · refine px_if_ne rfl (fun h => absurd h (by decide)) (fun _ => ?_)
    refine px_iconst (v := -1) rfl k_m1 ?_
    refine px_ireturn rfl (.inl rfl) ?_
    exact .inl ⟨hp, rfl, rfl⟩
theorem vX11_hour {I : Nat → Nat → Int32} {J : Nat → Nat → Int64} {p : Bool × Option Nat} {ro : List (Nat × Nat × (Nat → Int32))} {tx : List Ln} (hT : LawC tx p I) {n : Nat} (hn : I 1 4 = nI n) (hn8 : n ≤ 8) (hMT : MT n (I 36)) (hP : PA n (I 4)) : Pv 5 0 0 CX11_hour [.ref (0)] (gS, I, J, gR p, ro) (fun r S' => r = some (.int (sp_bits (fun l => decide (I 3 l ≤ (sp_nx tx n (I 5) (I 4) (I 1 6) (I 2) (I 36) (I 37)) l)) n)) ∧ ∃ I', S' = (gS, I', J, gR p, ro) ∧ Fr [6, 8, 12, 13, 2, 37, 38] I I' ∧ K6 I I' ∧ I' 2 = (fun j => if j < n then (sp_nx tx n (I 5) (I 4) (I 1 6) (I 2) (I 36) (I 37)) j else I 2 j) ∧ I' 37 = (fun j => if j < 8 ∧ I 36 j ≠ -1 then I 37 j + nI 1 else I 37 j) ∧ I' 38 = (va_up (va_up (I 38) 3 (I 38 3 + sp_grow (sp_nx tx n (I 5) (I 4) (I 1 6) (I 2) (I 36) (I 37)) (I 2) n)) 0 (I 38 0 + nI 1))) := by
  refine ⟨okCX11_hour, Nat.le_of_ble_eq_true rfl, (show Px _ _ _ _ 0 [some (.ref (0))] [] _ _ from ?_)⟩
  refine px_aload_n (kk := 0) rfl rfl rfl ?_
  refine px_getR (r := 34) rfl gS_0 rfl (gR_0_6 _) ?_
  refine px_callV0 CX2_live [] [] (vX2_live hT hn hn8 hMT hP) rfl gS_34 (by decide) rfl rfl rfl (Nat.le_of_ble_eq_true rfl) (by decide) ?_
  rintro _ _ - ⟨rfl, I2, rfl, hF, h6, h2, h37, h38⟩
  refine px_aload_n (kk := 0) rfl rfl rfl ?_
  refine px_getR (r := 1) rfl gS_0 rfl (gR_0_0 _) ?_
  refine px_aload_n (kk := 0) rfl rfl rfl ?_
  refine px_getR (r := 1) rfl gS_0 rfl (gR_0_0 _) ?_
  refine px_getR (r := 2) rfl gS_1 rfl (gR_1_0 _) ?_
  refine px_callV0 CX9_content [] [.ref 2] (vX9_content ((congrFun (hF 1 (by decide)) 4).trans hn) hn8 2 rfl) rfl gS_1 (by decide) rfl rfl rfl (Nat.le_of_ble_eq_true rfl) (by decide) ?_
  rintro _ _ - ⟨rfl, rfl⟩
  refine px_ireturn rfl (.inl rfl) ?_
  refine ⟨?_, I2, rfl, hF, h6, h2, h37, h38⟩
  congr 2
  exact sp_bits_congr (fun l hl => by rw [hF 3 (by decide), h2]; simp only [if_pos hl])
theorem vX11_image {I : Nat → Nat → Int32} {J : Nat → Nat → Int64} {p : Bool × Option Nat} {ro : List (Nat × Nat × (Nat → Int32))}  : Pv 2 0 0 CX11_image [.ref (0)] (gS, I, J, gR p, ro) (qI (I 38 0) (gS, (sp_picM I), J, gR p, ro)) := by
  refine ⟨okCX11_image, Nat.le_of_ble_eq_true rfl, (show Px _ _ _ _ 0 [some (.ref (0))] [] _ _ from ?_)⟩
  refine px_aload_n (kk := 0) rfl rfl rfl ?_
  refine px_getR (r := 34) rfl gS_0 rfl (gR_0_6 _) ?_
  refine px_callV0 CX2_picture [] [] (vX2_picture) rfl gS_34 (by decide) rfl rfl rfl (Nat.le_of_ble_eq_true rfl) (by decide) ?_
  rintro _ _ - ⟨rfl, rfl⟩
  refine px_aload_n (kk := 0) rfl rfl rfl ?_
  refine px_getR (r := 34) rfl gS_0 rfl (gR_0_6 _) ?_
  refine px_getR (r := 38) rfl gS_34 rfl (gR_34_3 _) ?_
  refine px_iconst (v := nI 0) rfl k_0 ?_
  refine px_iald (j := 0) rfl gS_38 rfl (by decide) ?_
  refine px_ireturn rfl (.inl rfl) ?_
  exact ⟨by unfold sp_picM; simp only [p_up_n _ _ (show (38 : Nat) ≠ 34 by decide), p_up_n _ _ (show (38 : Nat) ≠ 43 by decide), p_up_n _ _ (show (38 : Nat) ≠ 42 by decide), p_up_n _ _ (show (38 : Nat) ≠ 39 by decide), p_up_n _ _ (show (38 : Nat) ≠ 40 by decide), p_up_n _ _ (show (38 : Nat) ≠ 41 by decide)], rfl⟩
theorem vX11_back_f {I : Nat → Nat → Int32} {J : Nat → Nat → Int64} {p : Bool × Option Nat} {ro : List (Nat × Nat × (Nat → Int32))} (h : I 34 8 = nI 0) : Pv 2 0 0 CX11_back [.ref (0)] (gS, I, J, gR p, ro) (qI (-5) (gS, I, J, gR p, ro)) := by
  refine ⟨okCX11_back, Nat.le_of_ble_eq_true rfl, (show Px _ _ _ _ 0 [some (.ref (0))] [] _ _ from ?_)⟩
  refine px_aload_n (kk := 0) rfl rfl rfl ?_
  refine px_getR (r := 34) rfl gS_0 rfl (gR_0_6 _) ?_
  refine px_callV0 CX2_layBack [] [] (vX2_layBack_f h) rfl gS_34 (by decide) rfl rfl rfl (Nat.le_of_ble_eq_true rfl) (by decide) ?_
  rintro _ _ - ⟨rfl, rfl⟩
  refine px_if_eq rfl (fun _ => ?_) (fun h => absurd h (by decide))
  refine px_bipush (v := -5) rfl b_m5 ?_
  refine px_ireturn rfl (.inl rfl) ?_
  exact ⟨rfl, rfl⟩
theorem vX11_back_t {I : Nat → Nat → Int32} {J : Nat → Nat → Int64} {p : Bool × Option Nat} {ro : List (Nat × Nat × (Nat → Int32))} {z : Nat} (h : I 34 8 = nI 1) (hz : I 34 7 = nI z) (hz8 : z ≤ 8) : Pv 2 0 0 CX11_back [.ref (0)] (gS, I, J, gR p, ro) (qI (I 42 0) (gS, (sp_lbM I z), J, gR p, ro)) := by
  refine ⟨okCX11_back, Nat.le_of_ble_eq_true rfl, (show Px _ _ _ _ 0 [some (.ref (0))] [] _ _ from ?_)⟩
  refine px_aload_n (kk := 0) rfl rfl rfl ?_
  refine px_getR (r := 34) rfl gS_0 rfl (gR_0_6 _) ?_
  refine px_callV0 CX2_layBack [] [] (vX2_layBack_t h hz hz8) rfl gS_34 (by decide) rfl rfl rfl (Nat.le_of_ble_eq_true rfl) (by decide) ?_
  rintro _ _ - ⟨rfl, rfl⟩
  refine px_if_eq rfl (fun h => absurd h (by decide)) (fun _ => ?_)
  refine px_aload_n (kk := 0) rfl rfl rfl ?_
  refine px_getR (r := 34) rfl gS_0 rfl (gR_0_6 _) ?_
  refine px_getR (r := 38) rfl gS_34 rfl (gR_34_3 _) ?_
  refine px_iconst (v := nI 0) rfl k_0 ?_
  refine px_iald (j := 0) rfl gS_38 rfl (by decide) ?_
  refine px_goto rfl ?_
  refine px_ireturn rfl (.inl rfl) ?_
  refine ⟨?_, rfl⟩
  unfold sp_lbM
  rw [p_up_n _ _ (show (38 : Nat) ≠ 2 by decide), p_up_s]
  rfl
theorem vX11_led_4 {I : Nat → Nat → Int32} {J : Nat → Nat → Int64} {p : Bool × Option Nat} {ro : List (Nat × Nat × (Nat → Int32))}  : Pv 1 0 0 CX11_led [.ref (0), .int (nI 4)] (gS, I, J, gR p, ro) (qI (sp_bits (fun l => decide (I 36 l ≠ -1)) 8) (gS, I, J, gR p, ro)) := by
  refine ⟨okCX11_led, Nat.le_of_ble_eq_true rfl, (show Px _ _ _ _ 0 [some (.ref (0)), some (.int (nI 4))] [] _ _ from ?_)⟩
  refine px_iload_n (kk := 1) rfl rfl rfl ?_
  refine px_iconst (v := nI 4) rfl k_4 ?_
  refine px_icmp_ne rfl (fun h => absurd h (by decide)) (fun _ => ?_)
  refine px_aload_n (kk := 0) rfl rfl rfl ?_
  refine px_getR (r := 34) rfl gS_0 rfl (gR_0_6 _) ?_
  refine px_getR (r := 35) rfl gS_34 rfl (gR_34_2 _) ?_
  refine px_callV0 CX6_bits [] [] (vX6_bits PG_de) rfl gS_35 (by decide) rfl rfl rfl (Nat.le_of_ble_eq_true rfl) (by decide) ?_
  rintro _ _ - ⟨rfl, rfl⟩
  refine px_ireturn rfl (.inl rfl) ?_
  exact ⟨rfl, rfl⟩
theorem vX11_led_k {I : Nat → Nat → Int32} {J : Nat → Nat → Int64} {p : Bool × Option Nat} {ro : List (Nat × Nat × (Nat → Int32))} {w : Int32} (h4 : w ≠ nI 4) : Pv 2 0 0 CX11_led [.ref (0), .int (w)] (gS, I, J, gR p, ro) (fun r S' => S' = (gS, I, J, gR p, ro) ∧ ((∃ k, k < 4 ∧ w = nI k ∧ r = some (.int (I 38 k))) ∨ (¬ (∃ k, k < 4 ∧ w = nI k) ∧ r = some (.int (-1))))) := by
  refine ⟨okCX11_led, Nat.le_of_ble_eq_true rfl, (show Px _ _ _ _ 0 [some (.ref (0)), some (.int (w))] [] _ _ from ?_)⟩
  refine px_iload_n (kk := 1) rfl rfl rfl ?_
  refine px_iconst (v := nI 4) rfl k_4 ?_
  refine px_icmp_ne rfl (fun c2 => ?_) (fun h => absurd h h4)
  refine px_iload_n (kk := 1) rfl rfl rfl ?_
  refine px_if_lt rfl (fun c9 => ?_) (fun c9 => ?_)
  · refine px_iconst (v := -1) rfl k_m1 ?_
    refine px_ireturn rfl (.inl rfl) ?_
    exact ⟨rfl, .inr ⟨fun ⟨k, hk, e⟩ => n_nneg (by omega) (e ▸ c9), rfl⟩⟩
  · refine px_iload_n (kk := 1) rfl rfl rfl ?_
    refine px_iconst (v := nI 4) rfl k_4 ?_
    refine px_icmp_ge rfl (fun c12 => ?_) (fun c12 => ?_)
    · refine px_iconst (v := -1) rfl k_m1 ?_
      refine px_ireturn rfl (.inl rfl) ?_
      exact ⟨rfl, .inr ⟨fun ⟨k, hk, e⟩ => by subst e; rw [n_le (by omega) (by omega)] at c12; omega, rfl⟩⟩
    · obtain ⟨k, hk, rfl⟩ := n_ofn c9
      rw [n_le (by omega) hk] at c12
      refine px_aload_n (kk := 0) rfl rfl rfl ?_
      refine px_getR (r := 34) rfl gS_0 rfl (gR_0_6 _) ?_
      refine px_getR (r := 38) rfl gS_34 rfl (gR_34_3 _) ?_
      refine px_iload_n (kk := 1) rfl rfl rfl ?_
      refine px_iald (j := k) rfl gS_38 rfl (by omega) ?_
      refine px_goto rfl ?_
      refine px_ireturn rfl (.inl rfl) ?_
      exact ⟨rfl, .inl ⟨k, by omega, rfl, rfl⟩⟩
theorem vX11_undo_0 {I : Nat → Nat → Int32} {J : Nat → Nat → Int64} {p : Bool × Option Nat} {ro : List (Nat × Nat × (Nat → Int32))} (hc : I 44 5 = nI 0) : Pv 6 0 0 CX11_undo [.ref (0)] (gS, I, J, gR p, ro) (qI (-5) (gS, I, J, gR p, ro)) := by
  refine ⟨okCX11_undo, Nat.le_of_ble_eq_true rfl, (show Px _ _ _ _ 0 [some (.ref (0))] [] _ _ from ?_)⟩
  refine px_aload_n (kk := 0) rfl rfl rfl ?_
  refine px_getR (r := 44) rfl gS_0 rfl (gR_0_7 _) ?_
  refine px_callV0 CX1_takeBack [] [] (vX1_takeBack_0 hc) rfl gS_44 (by decide) rfl rfl rfl (Nat.le_of_ble_eq_true rfl) (by decide) ?_
  rintro _ _ - ⟨rfl, rfl⟩
  refine px_if_eq rfl (fun _ => ?_) (fun h => absurd h (by decide))
  refine px_bipush (v := -5) rfl b_m5 ?_
  refine px_ireturn rfl (.inl rfl) ?_
  exact ⟨rfl, rfl⟩
theorem vX11_undo_s {I : Nat → Nat → Int32} {J : Nat → Nat → Int64} {p : Bool × Option Nat} {ro : List (Nat × Nat × (Nat → Int32))} {n : Nat} (hn : I 1 4 = nI n) (hn8 : n ≤ 8) {c : Nat} (hc : I 44 5 = nI (c + 1)) (hc40 : c < 40) {w a b : Nat} (ho : okN n w a b) (hx : I 45 c = nI (nmb w a b)) (hw : I 46 c = nI w) : Pv 6 0 0 CX11_undo [.ref (0)] (gS, I, J, gR p, ro) (qI (nI c) (gS, (sp_tbM I c (sl w a b).1 (sl w a b).2 (I 47 c)), J, gR p, ro)) := by
  refine ⟨okCX11_undo, Nat.le_of_ble_eq_true rfl, (show Px _ _ _ _ 0 [some (.ref (0))] [] _ _ from ?_)⟩
  refine px_aload_n (kk := 0) rfl rfl rfl ?_
  refine px_getR (r := 44) rfl gS_0 rfl (gR_0_7 _) ?_
  refine px_callV0 CX1_takeBack [] [] (vX1_takeBack_s hn hn8 hc hc40 ho hx hw) rfl gS_44 (by decide) rfl rfl rfl (Nat.le_of_ble_eq_true rfl) (by decide) ?_
  rintro _ _ - ⟨rfl, rfl⟩
  refine px_if_eq rfl (fun h => absurd h (by decide)) (fun _ => ?_)
  refine px_aload_n (kk := 0) rfl rfl rfl ?_
  refine px_getR (r := 44) rfl gS_0 rfl (gR_0_7 _) ?_
  refine px_getIe (v := nI c) rfl gS_44 rfl (by unfold sp_tbM; rw [p_up_n _ _ (sl_ne ho (by omega)).symm, p_up_s]; rw [p_up_s]) ?_
  refine px_goto rfl ?_
  refine px_ireturn rfl (.inl rfl) ?_
  exact ⟨rfl, rfl⟩
theorem vX11_redo_0 {I : Nat → Nat → Int32} {J : Nat → Nat → Int64} {p : Bool × Option Nat} {ro : List (Nat × Nat × (Nat → Int32))} {c : Nat} (hc : I 44 5 = nI c) (hc40 : c ≤ 40) (ha : I 44 6 = nI c) : Pv 6 0 0 CX11_redo [.ref (0)] (gS, I, J, gR p, ro) (qI (-5) (gS, I, J, gR p, ro)) := by
  refine ⟨okCX11_redo, Nat.le_of_ble_eq_true rfl, (show Px _ _ _ _ 0 [some (.ref (0))] [] _ _ from ?_)⟩
  refine px_aload_n (kk := 0) rfl rfl rfl ?_
  refine px_getR (r := 44) rfl gS_0 rfl (gR_0_7 _) ?_
  refine px_callV0 CX1_doAgain [] [] (vX1_doAgain_0 hc hc40 ha) rfl gS_44 (by decide) rfl rfl rfl (Nat.le_of_ble_eq_true rfl) (by decide) ?_
  rintro _ _ - ⟨rfl, rfl⟩
  refine px_if_eq rfl (fun _ => ?_) (fun h => absurd h (by decide))
  refine px_bipush (v := -5) rfl b_m5 ?_
  refine px_ireturn rfl (.inl rfl) ?_
  exact ⟨rfl, rfl⟩
theorem vX11_redo_s {I : Nat → Nat → Int32} {J : Nat → Nat → Int64} {p : Bool × Option Nat} {ro : List (Nat × Nat × (Nat → Int32))} {n : Nat} (hn : I 1 4 = nI n) (hn8 : n ≤ 8) {c al : Nat} (hc : I 44 5 = nI c) (hal : I 44 6 = nI al) (hca : c < al) (hal40 : al ≤ 40) {w a b : Nat} (ho : okN n w a b) (hx : I 45 c = nI (nmb w a b)) (hw : I 46 c = nI w) : Pv 6 0 0 CX11_redo [.ref (0)] (gS, I, J, gR p, ro) (qI (nI (al - (c + 1))) (gS, (sp_tbM I (c + 1) (sl w a b).1 (sl w a b).2 (I 48 c)), J, gR p, ro)) := by
  refine ⟨okCX11_redo, Nat.le_of_ble_eq_true rfl, (show Px _ _ _ _ 0 [some (.ref (0))] [] _ _ from ?_)⟩
  refine px_aload_n (kk := 0) rfl rfl rfl ?_
  refine px_getR (r := 44) rfl gS_0 rfl (gR_0_7 _) ?_
  refine px_callV0 CX1_doAgain [] [] (vX1_doAgain_s hn hn8 hc hal hca hal40 ho hx hw) rfl gS_44 (by decide) rfl rfl rfl (Nat.le_of_ble_eq_true rfl) (by decide) ?_
  rintro _ _ - ⟨rfl, rfl⟩
  refine px_if_eq rfl (fun h => absurd h (by decide)) (fun _ => ?_)
  refine px_aload_n (kk := 0) rfl rfl rfl ?_
  refine px_getR (r := 44) rfl gS_0 rfl (gR_0_7 _) ?_
  refine px_getIe (v := nI al) rfl gS_44 rfl (by unfold sp_tbM; rw [p_up_n _ _ (sl_ne ho (by omega)).symm, p_up_s]; rw [p_up_n _ _ (by decide)]; exact hal) ?_
  refine px_aload_n (kk := 0) rfl rfl rfl ?_
  refine px_getR (r := 44) rfl gS_0 rfl (gR_0_7 _) ?_
  refine px_getIe (v := nI (c + 1)) rfl gS_44 rfl (by unfold sp_tbM; rw [p_up_n _ _ (sl_ne ho (by omega)).symm, p_up_s]; rw [p_up_s]) ?_
  refine px_isub rfl ?_
  refine px_ieq (y := nI (al - (c + 1))) (n_sub (by omega)) ?_
  refine px_goto rfl ?_
  refine px_ireturn rfl (.inl rfl) ?_
  exact ⟨rfl, rfl⟩
theorem vX0_isKind {I : Nat → Nat → Int32} {J : Nat → Nat → Int64} {p : Bool × Option Nat} {ro : List (Nat × Nat × (Nat → Int32))} {x : Int32} : Pv 0 0 0 CX0_isKind [.int (x)] (gS, I, J, gR p, ro) (qB (∃ k, k < 8 ∧ x = nI k) (gS, I, J, gR p, ro)) := by
  refine ⟨okCX0_isKind, Nat.le_of_ble_eq_true rfl, (show Px _ _ _ _ 0 [some (.int (x))] [] _ _ from ?_)⟩
  refine px_iload_n (kk := 0) rfl rfl rfl ?_
  refine px_if_lt rfl (fun c1 => ?_) (fun c1 => ?_)
  · refine px_iconst (v := nI 0) rfl k_0 ?_
    refine px_ireturn rfl (.inr ⟨rfl, by decide⟩) ?_
    exact qB_f (fun ⟨a, ha, e⟩ => n_nneg (by omega) (e ▸ c1))
  · refine px_iload_n (kk := 0) rfl rfl rfl ?_
    refine px_bipush (v := nI 8) rfl b_8 ?_
    refine px_icmp_ge rfl (fun c4 => ?_) (fun c4 => ?_)
    · refine px_iconst (v := nI 0) rfl k_0 ?_
      refine px_ireturn rfl (.inr ⟨rfl, by decide⟩) ?_
      exact qB_f (fun ⟨a, ha, e⟩ => by subst e; rw [n_le (by omega) (by omega)] at c4; omega)
    · refine px_iconst (v := nI 1) rfl k_1 ?_
      refine px_goto rfl ?_
      refine px_ireturn rfl (.inr ⟨rfl, by decide⟩) ?_
      obtain ⟨a, ha, rfl⟩ := n_ofn c1
      rw [n_le (by omega) ha] at c4
      exact qB_t ⟨a, by omega, rfl⟩
theorem vX0_add {I : Nat → Nat → Int32} {J : Nat → Nat → Int64} {p : Bool × Option Nat} {ro : List (Nat × Nat × (Nat → Int32))} {z : Nat} (hz : I 49 2 = nI z) (hz50 : z ≤ 50) {x : Int32} : Pv 0 0 0 CX0_add [.ref (49), .int (x)] (gS, I, J, gR p, ro) (fun r S' => (z < 50 ∧ r = some (.int (nI 1)) ∧ S' = (gS, (va_up (va_up I 50 (va_up (I 50) z x)) 49 (va_up (I 49) 2 (nI (z + 1)))), J, gR p, ro)) ∨ (z = 50 ∧ r = some (.int (nI 0)) ∧ S' = (gS, I, J, gR p, ro))) := by
  refine ⟨okCX0_add, Nat.le_of_ble_eq_true rfl, (show Px _ _ _ _ 0 [some (.ref (49)), some (.int (x))] [] _ _ from ?_)⟩
  refine px_aload_n (kk := 0) rfl rfl rfl ?_
  refine px_getIe (v := nI z) rfl gS_49 rfl hz ?_
  refine px_bipush (v := nI 50) rfl b_50 ?_
  refine px_icmp_lt rfl (fun c3 => ?_) (fun c3 => ?_)
  · refine px_aload_n (kk := 0) rfl rfl rfl ?_
    refine px_getR (r := 50) rfl gS_49 rfl (gR_49_0 _) ?_
    refine px_aload_n (kk := 0) rfl rfl rfl ?_
    refine px_getIe (v := nI z) rfl gS_49 rfl hz ?_
    refine px_iload_n (kk := 1) rfl rfl rfl ?_
    refine px_iast (j := z) rfl gS_50 rfl (by rw [n_lt (by omega) (by omega)] at c3; exact c3) ?_
    refine px_aload_n (kk := 0) rfl rfl rfl ?_
    refine px_dup rfl rfl ?_
    refine px_getIe (v := nI z) rfl gS_49 rfl ((congrFun (p_up_n _ _ (by decide)) 2).trans hz) ?_
    refine px_iconst (v := nI 1) rfl k_1 ?_
    refine px_iaddN rfl ?_
    refine px_putI rfl gS_49 rfl rfl ?_
    refine px_iconst (v := nI 1) rfl k_1 ?_
    refine px_ireturn rfl (.inr ⟨rfl, by decide⟩) ?_
    rw [n_lt (by omega) (by omega)] at c3
    exact .inl ⟨c3, rfl, by rw [p_up_n _ _ (show (49 : Nat) ≠ 50 by decide)]⟩
  · refine px_iconst (v := nI 0) rfl k_0 ?_
    refine px_ireturn rfl (.inr ⟨rfl, by decide⟩) ?_
    rw [n_lt (by omega) (by omega)] at c3
    exact .inr ⟨by omega, rfl, rfl⟩
theorem vX11_body {I : Nat → Nat → Int32} {J : Nat → Nat → Int64} {p : Bool × Option Nat} {ro : List (Nat × Nat × (Nat → Int32))} {z : Nat} (hz : I 49 2 = nI z) (hz50 : z ≤ 50) {x : Int32} : Pv 1 0 0 CX11_body [.ref (0), .int (x)] (gS, I, J, gR p, ro) (fun r S' => (¬ (∃ k, k < 8 ∧ x = nI k) ∧ r = some (.int (-1)) ∧ S' = (gS, I, J, gR p, ro)) ∨ (∃ k, k < 8 ∧ x = nI k ∧ ((z < 50 ∧ r = some (.int (nI z)) ∧ S' = (gS, (va_up (va_up I 50 (va_up (I 50) z x)) 49 (va_up (I 49) 2 (nI (z + 1)))), J, gR p, ro)) ∨ (z = 50 ∧ r = some (.int (-3)) ∧ S' = (gS, I, J, gR p, ro))))) := by
  refine ⟨okCX11_body, Nat.le_of_ble_eq_true rfl, (show Px _ _ _ _ 0 [some (.ref (0)), some (.int (x))] [] _ _ from ?_)⟩
  refine px_iload_n (kk := 1) rfl rfl rfl ?_
  refine px_callS0 CX0_isKind [] [.int _] (vX0_isKind) rfl rfl rfl (Nat.le_of_ble_eq_true rfl) (by decide) ?_
  rintro _ _ - (⟨⟨k, hk, rfl⟩, rfl, rfl⟩ | ⟨hk, rfl, rfl⟩)
  · refine px_if_ne rfl (fun _ => ?_) (fun h => absurd h (by decide))
    refine px_aload_n (kk := 0) rfl rfl rfl ?_
    refine px_getR (r := 49) rfl gS_0 rfl (gR_0_8 _) ?_
    refine px_iload_n (kk := 1) rfl rfl rfl ?_
    refine px_callV0 CX0_add [] [.int _] (vX0_add hz hz50) rfl gS_49 (by decide) rfl rfl rfl (Nat.le_of_ble_eq_true rfl) (by decide) ?_
    rintro _ _ - (⟨h5, rfl, rfl⟩ | ⟨h5, rfl, rfl⟩)
    · refine px_if_eq rfl (fun h => absurd h (by decide)) (fun _ => ?_)
      refine px_aload_n (kk := 0) rfl rfl rfl ?_
      refine px_getR (r := 49) rfl gS_0 rfl (gR_0_8 _) ?_
      refine px_getIe (v := nI (z + 1)) rfl gS_49 rfl (by rw [p_up_s, p_up_s]) ?_
      refine px_iconst (v := nI 1) rfl k_1 ?_
      refine px_isub rfl ?_
      refine px_goto rfl ?_
      first | refine px_ieq (nI_pred z) ?_ | skip
      refine px_ireturn rfl (.inl rfl) ?_
      exact .inr ⟨k, hk, rfl, .inl ⟨h5, rfl, rfl⟩⟩
    · refine px_if_eq rfl (fun _ => ?_) (fun h => absurd h (by decide))
      refine px_bipush (v := -3) rfl b_m3 ?_
      first | refine px_ieq (nI_pred z) ?_ | skip
      refine px_ireturn rfl (.inl rfl) ?_
      exact .inr ⟨k, hk, rfl, .inr ⟨h5, rfl, rfl⟩⟩
  · refine px_if_ne rfl (fun h => absurd h (by decide)) (fun _ => ?_)
    refine px_iconst (v := -1) rfl k_m1 ?_
    refine px_ireturn rfl (.inl rfl) ?_
    exact .inl ⟨hk, rfl, rfl⟩
theorem vX0_perf {I : Nat → Nat → Int32} {J : Nat → Nat → Int64} {p : Bool × Option Nat} {ro : List (Nat × Nat × (Nat → Int32))} {z : Nat} (hz : I 49 2 = nI z) (hz50 : z ≤ 50) (hks : ∀ b, b < z → ∃ K, K < 8 ∧ I 50 b = nI K) (hro : RO ro) {x y v : Int32} : Pv 14 0 0 CX0_perform [.ref 49, .int x, .int y, .int v] (gS, I, J, gR p, ro) (fun r S' => (∃ b K w, b < z ∧ K < 8 ∧ w < 4 ∧ x = nI b ∧ I 50 b = nI K ∧ y = nI w ∧ r = some (.int (sp_act K w (nI b) v)) ∧ ∃ I', S' = (gS, I', J, gR p, ro) ∧ Fr [49, 51] I I' ∧ I' 49 2 = I 49 2 ∧ I' 49 3 = nI (sp_nts (I 51, 0) (sp_atr K w)).2 ∧ I' 51 = (sp_nts (I 51, 0) (sp_atr K w)).1) ∨ (¬ ((∃ b, b < z ∧ x = nI b) ∧ ∃ w, w < 4 ∧ y = nI w) ∧ r = some (.int (nI 0)) ∧ S' = (gS, (va_up I 49 (va_up (I 49) 3 (nI 0))), J, gR p, ro))) := by
  by_cases h : (∃ b, b < z ∧ x = nI b) ∧ ∃ w, w < 4 ∧ y = nI w
  · obtain ⟨⟨b, hb, rfl⟩, w, hw, rfl⟩ := h
    obtain ⟨K, hK, hk⟩ := hks b hb
    have key : Pv 14 0 0 CX0_perform [.ref 49, .int (nI b), .int (nI w), .int v] (gS, I, J, gR p, ro) (fun r S' => r = some (.int (sp_act K w (nI b) v)) ∧ ∃ I', S' = (gS, I', J, gR p, ro) ∧ Fr [49, 51] I I' ∧ I' 49 2 = I 49 2 ∧ I' 49 3 = nI (sp_nts (I 51, 0) (sp_atr K w)).2 ∧ I' 51 = (sp_nts (I 51, 0) (sp_atr K w)).1) := by
      rcases (by omega : K = 0 ∨ K = 1 ∨ K = 2 ∨ K = 3 ∨ K = 4 ∨ K = 5 ∨ K = 6 ∨ K = 7) with rfl | rfl | rfl | rfl | rfl | rfl | rfl | rfl
      · rcases (by omega : w = 0 ∨ w = 1 ∨ w = 2 ∨ w = 3) with rfl | rfl | rfl | rfl
        · exact vX0_perf_0_0 hz hz50 hb hk hro
        · exact vX0_perf_0_1 hz hz50 hb hk hro
        · exact vX0_perf_0_2 hz hz50 hb hk hro
        · exact vX0_perf_0_3 hz hz50 hb hk hro
      · rcases (by omega : w = 0 ∨ w = 1 ∨ w = 2 ∨ w = 3) with rfl | rfl | rfl | rfl
        · exact vX0_perf_1_0 hz hz50 hb hk hro
        · exact vX0_perf_1_1 hz hz50 hb hk hro
        · exact vX0_perf_1_2 hz hz50 hb hk hro
        · exact vX0_perf_1_3 hz hz50 hb hk hro
      · rcases (by omega : w = 0 ∨ w = 1 ∨ w = 2 ∨ w = 3) with rfl | rfl | rfl | rfl
        · exact vX0_perf_2_0 hz hz50 hb hk hro
        · exact vX0_perf_2_1 hz hz50 hb hk hro
        · exact vX0_perf_2_2 hz hz50 hb hk hro
        · exact vX0_perf_2_3 hz hz50 hb hk hro
      · rcases (by omega : w = 0 ∨ w = 1 ∨ w = 2 ∨ w = 3) with rfl | rfl | rfl | rfl
        · exact vX0_perf_3_0 hz hz50 hb hk hro
        · exact vX0_perf_3_1 hz hz50 hb hk hro
        · exact vX0_perf_3_2 hz hz50 hb hk hro
        · exact vX0_perf_3_3 hz hz50 hb hk hro
      · rcases (by omega : w = 0 ∨ w = 1 ∨ w = 2 ∨ w = 3) with rfl | rfl | rfl | rfl
        · exact vX0_perf_4_0 hz hz50 hb hk hro
        · exact vX0_perf_4_1 hz hz50 hb hk hro
        · exact vX0_perf_4_2 hz hz50 hb hk hro
        · exact vX0_perf_4_3 hz hz50 hb hk hro
      · rcases (by omega : w = 0 ∨ w = 1 ∨ w = 2 ∨ w = 3) with rfl | rfl | rfl | rfl
        · exact vX0_perf_5_0 hz hz50 hb hk hro
        · exact vX0_perf_5_1 hz hz50 hb hk hro
        · exact vX0_perf_5_2 hz hz50 hb hk hro
        · exact vX0_perf_5_3 hz hz50 hb hk hro
      · rcases (by omega : w = 0 ∨ w = 1 ∨ w = 2 ∨ w = 3) with rfl | rfl | rfl | rfl
        · exact vX0_perf_6_0 hz hz50 hb hk hro
        · exact vX0_perf_6_1 hz hz50 hb hk hro
        · exact vX0_perf_6_2 hz hz50 hb hk hro
        · exact vX0_perf_6_3 hz hz50 hb hk hro
      · rcases (by omega : w = 0 ∨ w = 1 ∨ w = 2 ∨ w = 3) with rfl | rfl | rfl | rfl
        · exact vX0_perf_7_0 hz hz50 hb hk hro
        · exact vX0_perf_7_1 hz hz50 hb hk hro
        · exact vX0_perf_7_2 hz hz50 hb hk hro
        · exact vX0_perf_7_3 hz hz50 hb hk hro
    exact pv_post key (fun r S hr => .inl ⟨b, K, w, hb, hK, hw, rfl, hk, rfl, hr⟩)
  · exact pv_post (vX0_perf_n hz hz50 h) (fun r S hr => .inr ⟨h, hr⟩)
theorem vX11_act {I : Nat → Nat → Int32} {J : Nat → Nat → Int64} {p : Bool × Option Nat} {ro : List (Nat × Nat × (Nat → Int32))} {z : Nat} (hz : I 49 2 = nI z) (hz50 : z ≤ 50) (hks : ∀ b, b < z → ∃ K, K < 8 ∧ I 50 b = nI K) (hro : RO ro) {x y v : Int32} : Pv 16 0 0 CX11_act [.ref (0), .int (x), .int (y), .int (v)] (gS, I, J, gR p, ro) (fun r S' => (∃ b K w, b < z ∧ K < 8 ∧ w < 4 ∧ x = nI b ∧ I 50 b = nI K ∧ y = nI w ∧ r = some (.int (sp_act K w (nI b) v)) ∧ ∃ I', S' = (gS, I', J, gR p, ro) ∧ Fr [49, 51] I I' ∧ I' 49 2 = I 49 2 ∧ I' 49 3 = nI (sp_nts (I 51, 0) (sp_atr K w)).2 ∧ I' 51 = (sp_nts (I 51, 0) (sp_atr K w)).1) ∨ (¬ ((∃ b, b < z ∧ x = nI b) ∧ ∃ w, w < 4 ∧ y = nI w) ∧ r = some (.int (nI 0)) ∧ S' = (gS, (va_up I 49 (va_up (I 49) 3 (nI 0))), J, gR p, ro))) := by
  refine ⟨okCX11_act, Nat.le_of_ble_eq_true rfl, (show Px _ _ _ _ 0 [some (.ref (0)), some (.int (x)), some (.int (y)), some (.int (v))] [] _ _ from ?_)⟩
  refine px_aload_n (kk := 0) rfl rfl rfl ?_
  refine px_getR (r := 49) rfl gS_0 rfl (gR_0_8 _) ?_
  refine px_iload_n (kk := 1) rfl rfl rfl ?_
  refine px_iload_n (kk := 2) rfl rfl rfl ?_
  refine px_iload_n (kk := 3) rfl rfl rfl ?_
  refine px_callV0 CX0_perform [] [.int _, .int _, .int _] (vX0_perf hz hz50 hks hro) rfl gS_49 (by decide) rfl rfl rfl (Nat.le_of_ble_eq_true rfl) (by decide) ?_
  rintro _ _ - (⟨b, K, w, hb, hK, hw, rfl, hk, rfl, rfl, hI⟩ | ⟨hno, rfl, rfl⟩)
  · refine px_ireturn rfl (.inl rfl) ?_
    exact .inl ⟨b, K, w, hb, hK, hw, rfl, hk, rfl, rfl, hI⟩
  · refine px_ireturn rfl (.inl rfl) ?_
    exact .inr ⟨hno, rfl, rfl⟩
theorem vX11_trace {I : Nat → Nat → Int32} {J : Nat → Nat → Int64} {p : Bool × Option Nat} {ro : List (Nat × Nat × (Nat → Int32))} {q : Nat} (hr : I 49 3 = nI q) (hr2 : q < 2 ^ 31) {x : Int32} : Pv 3 0 0 CX11_trace [.ref (0), .int (x)] (gS, I, J, gR p, ro) (fun r S' => S' = (gS, I, J, gR p, ro) ∧ ((∃ k, k < q ∧ k < 24 ∧ x = nI k ∧ r = some (.int (I 51 k))) ∨ (¬ (∃ k, k < q ∧ k < 24 ∧ x = nI k) ∧ r = some (.int (-1))))) := by
  refine ⟨okCX11_trace, Nat.le_of_ble_eq_true rfl, (show Px _ _ _ _ 0 [some (.ref (0)), some (.int (x))] [] _ _ from ?_)⟩
  refine px_iload_n (kk := 1) rfl rfl rfl ?_
  refine px_if_lt rfl (fun c1 => ?_) (fun c1 => ?_)
  · refine px_iconst (v := -1) rfl k_m1 ?_
    refine px_ireturn rfl (.inl rfl) ?_
    exact ⟨rfl, .inr ⟨fun ⟨k, _, hk, e⟩ => n_nneg (by omega) (e ▸ c1), rfl⟩⟩
  · obtain ⟨k, hk, rfl⟩ := n_ofn c1
    have hq24 : (if q < 24 then q else 24) < 2 ^ 31 := by split <;> omega
    refine px_iload_n (kk := 1) rfl rfl rfl ?_
    refine px_aload_n (kk := 0) rfl rfl rfl ?_
    refine px_getR (r := 49) rfl gS_0 rfl (gR_0_8 _) ?_
    refine px_callV0 CX0_kept [.int _] [] (vX0_kept hr hr2) rfl gS_49 (by decide) rfl rfl rfl (Nat.le_of_ble_eq_true rfl) (by decide) ?_
    rintro _ _ - ⟨rfl, rfl⟩
    refine px_icmp_ge rfl (fun c6 => ?_) (fun c6 => ?_)
    · refine px_iconst (v := -1) rfl k_m1 ?_
      refine px_ireturn rfl (.inl rfl) ?_
      exact ⟨rfl, .inr ⟨fun ⟨k2, h1, h2, e⟩ => by rw [n_eq hk (by omega)] at e; subst e; rw [n_le hq24 hk] at c6; split at c6 <;> omega, rfl⟩⟩
    · have hkk : k < q ∧ k < 24 := by
        rw [n_le hq24 hk] at c6
        split at c6 <;> omega
      refine px_aload_n (kk := 0) rfl rfl rfl ?_
      refine px_getR (r := 49) rfl gS_0 rfl (gR_0_8 _) ?_
      refine px_getR (r := 51) rfl gS_49 rfl (gR_49_1 _) ?_
      refine px_iload_n (kk := 1) rfl rfl rfl ?_
      refine px_iald (j := k) rfl gS_51 rfl hkk.2 ?_
      refine px_goto rfl ?_
      refine px_ireturn rfl (.inl rfl) ?_
      exact ⟨rfl, .inl ⟨k, hkk.1, hkk.2, rfl, rfl⟩⟩
theorem vX11_count_0 {I : Nat → Nat → Int32} {J : Nat → Nat → Int64} {p : Bool × Option Nat} {ro : List (Nat × Nat × (Nat → Int32))}  : Pv 0 0 0 CX11_count [.ref (0), .int (nI 0)] (gS, I, J, gR p, ro) (qI (I 1 4) (gS, I, J, gR p, ro)) := by
  refine ⟨okCX11_count, Nat.le_of_ble_eq_true rfl, (show Px _ _ _ _ 0 [some (.ref (0)), some (.int (nI 0))] [] _ _ from ?_)⟩
  refine px_iload_n (kk := 1) rfl rfl rfl ?_
  refine px_tableIn rfl 0 (by decide) (by decide) rfl ?_
  refine px_aload_n (kk := 0) rfl rfl rfl ?_
  refine px_getR (r := 1) rfl gS_0 rfl (gR_0_0 _) ?_
  refine px_getI rfl gS_1 rfl ?_
  refine px_ireturn rfl (.inl rfl) ?_
  exact ⟨rfl, rfl⟩
theorem vX11_count_1 {I : Nat → Nat → Int32} {J : Nat → Nat → Int64} {p : Bool × Option Nat} {ro : List (Nat × Nat × (Nat → Int32))}  : Pv 0 0 0 CX11_count [.ref (0), .int (nI 1)] (gS, I, J, gR p, ro) (qI (I 35 2) (gS, I, J, gR p, ro)) := by
  refine ⟨okCX11_count, Nat.le_of_ble_eq_true rfl, (show Px _ _ _ _ 0 [some (.ref (0)), some (.int (nI 1))] [] _ _ from ?_)⟩
  refine px_iload_n (kk := 1) rfl rfl rfl ?_
  refine px_tableIn rfl 1 (by decide) (by decide) rfl ?_
  refine px_aload_n (kk := 0) rfl rfl rfl ?_
  refine px_getR (r := 34) rfl gS_0 rfl (gR_0_6 _) ?_
  refine px_getR (r := 35) rfl gS_34 rfl (gR_34_2 _) ?_
  refine px_getI rfl gS_35 rfl ?_
  refine px_ireturn rfl (.inl rfl) ?_
  exact ⟨rfl, rfl⟩
theorem vX11_count_2 {I : Nat → Nat → Int32} {J : Nat → Nat → Int64} {p : Bool × Option Nat} {ro : List (Nat × Nat × (Nat → Int32))}  : Pv 0 0 0 CX11_count [.ref (0), .int (nI 2)] (gS, I, J, gR p, ro) (qI (I 6 5) (gS, I, J, gR p, ro)) := by
  refine ⟨okCX11_count, Nat.le_of_ble_eq_true rfl, (show Px _ _ _ _ 0 [some (.ref (0)), some (.int (nI 2))] [] _ _ from ?_)⟩
  refine px_iload_n (kk := 1) rfl rfl rfl ?_
  refine px_tableIn rfl 2 (by decide) (by decide) rfl ?_
  refine px_aload_n (kk := 0) rfl rfl rfl ?_
  refine px_getR (r := 6) rfl gS_0 rfl (gR_0_1 _) ?_
  refine px_getI rfl gS_6 rfl ?_
  refine px_ireturn rfl (.inl rfl) ?_
  exact ⟨rfl, rfl⟩
theorem vX11_count_3 {I : Nat → Nat → Int32} {J : Nat → Nat → Int64} {p : Bool × Option Nat} {ro : List (Nat × Nat × (Nat → Int32))}  : Pv 0 0 0 CX11_count [.ref (0), .int (nI 3)] (gS, I, J, gR p, ro) (qI (I 44 5) (gS, I, J, gR p, ro)) := by
  refine ⟨okCX11_count, Nat.le_of_ble_eq_true rfl, (show Px _ _ _ _ 0 [some (.ref (0)), some (.int (nI 3))] [] _ _ from ?_)⟩
  refine px_iload_n (kk := 1) rfl rfl rfl ?_
  refine px_tableIn rfl 3 (by decide) (by decide) rfl ?_
  refine px_aload_n (kk := 0) rfl rfl rfl ?_
  refine px_getR (r := 44) rfl gS_0 rfl (gR_0_7 _) ?_
  refine px_getI rfl gS_44 rfl ?_
  refine px_ireturn rfl (.inl rfl) ?_
  exact ⟨rfl, rfl⟩
theorem vX11_count_4 {I : Nat → Nat → Int32} {J : Nat → Nat → Int64} {p : Bool × Option Nat} {ro : List (Nat × Nat × (Nat → Int32))}  : Pv 0 0 0 CX11_count [.ref (0), .int (nI 4)] (gS, I, J, gR p, ro) (qI (I 49 2) (gS, I, J, gR p, ro)) := by
  refine ⟨okCX11_count, Nat.le_of_ble_eq_true rfl, (show Px _ _ _ _ 0 [some (.ref (0)), some (.int (nI 4))] [] _ _ from ?_)⟩
  refine px_iload_n (kk := 1) rfl rfl rfl ?_
  refine px_tableIn rfl 4 (by decide) (by decide) rfl ?_
  refine px_aload_n (kk := 0) rfl rfl rfl ?_
  refine px_getR (r := 49) rfl gS_0 rfl (gR_0_8 _) ?_
  refine px_getI rfl gS_49 rfl ?_
  refine px_ireturn rfl (.inl rfl) ?_
  exact ⟨rfl, rfl⟩
theorem vX11_count_5 {I : Nat → Nat → Int32} {J : Nat → Nat → Int64} {p : Bool × Option Nat} {ro : List (Nat × Nat × (Nat → Int32))}  : Pv 0 0 0 CX11_count [.ref (0), .int (nI 5)] (gS, I, J, gR p, ro) (qI (I 49 3) (gS, I, J, gR p, ro)) := by
  refine ⟨okCX11_count, Nat.le_of_ble_eq_true rfl, (show Px _ _ _ _ 0 [some (.ref (0)), some (.int (nI 5))] [] _ _ from ?_)⟩
  refine px_iload_n (kk := 1) rfl rfl rfl ?_
  refine px_tableIn rfl 5 (by decide) (by decide) rfl ?_
  refine px_aload_n (kk := 0) rfl rfl rfl ?_
  refine px_getR (r := 49) rfl gS_0 rfl (gR_0_8 _) ?_
  refine px_getI rfl gS_49 rfl ?_
  refine px_ireturn rfl (.inl rfl) ?_
  exact ⟨rfl, rfl⟩
theorem vX11_count_o {I : Nat → Nat → Int32} {J : Nat → Nat → Int64} {p : Bool × Option Nat} {ro : List (Nat × Nat × (Nat → Int32))} {w : Int32} (hw : w.toInt < 0 ∨ 5 < w.toInt) : Pv 0 0 0 CX11_count [.ref (0), .int w] (gS, I, J, gR p, ro) (qI (-1) (gS, I, J, gR p, ro)) := by
  refine ⟨okCX11_count, Nat.le_of_ble_eq_true rfl, (show Px _ _ _ _ 0 [some (.ref (0)), some (.int w)] [] _ _ from ?_)⟩
  refine px_iload_n (kk := 1) rfl rfl rfl ?_
  refine px_tableOut rfl hw ?_
  refine px_iconst (v := -1) rfl k_m1 ?_
  refine px_ireturn rfl (.inl rfl) ?_
  exact ⟨rfl, rfl⟩
theorem vX11_keep {I : Nat → Nat → Int32} {J : Nat → Nat → Int64} {p : Bool × Option Nat} {ro : List (Nat × Nat × (Nat → Int32))} {z : Nat} (hz : I 49 2 = nI z) (hz50 : z ≤ 50) {x y : Int32} : Pv 1 0 0 CX11_keep [.ref (0), .int (x), .int (y)] (gS, I, J, gR p, ro) (fun r S' => (¬ ((∃ s, s < 6 ∧ x = nI s) ∧ (y = -1 ∨ ∃ b, b < z ∧ y = nI b)) ∧ r = some (.int (-1)) ∧ S' = (gS, I, J, gR p, ro)) ∨ (∃ s, s < 6 ∧ x = nI s ∧ r = some (.int (nI 1)) ∧ ((y = -1 ∧ S' = (gS, (va_up I (53 + 2 * s) (va_up (va_up (va_up (I (53 + 2 * s)) 1 (nI 0)) 2 (-1)) 4 (nI 0))), J, gR p, ro)) ∨ (∃ b, b < z ∧ y = nI b ∧ S' = (gS, (va_up I (53 + 2 * s) (va_up (va_up (va_up (I (53 + 2 * s)) 1 (nI 1)) 2 (nI b)) 4 (nI 0))), J, gR p, ro))))) := by
  refine ⟨okCX11_keep, Nat.le_of_ble_eq_true rfl, (show Px _ _ _ _ 0 [some (.ref (0)), some (.int (x)), some (.int (y))] [] _ _ from ?_)⟩
  refine px_iload_n (kk := 1) rfl rfl rfl ?_
  refine px_callS0 CX11_isShelf [] [.int _] (vX11_isShelf) rfl rfl rfl (Nat.le_of_ble_eq_true rfl) (by decide) ?_
  rintro _ _ - (⟨⟨s, hs, rfl⟩, rfl, rfl⟩ | ⟨hs, rfl, rfl⟩)
  · refine px_if_eq rfl (fun h => absurd h (by decide)) (fun _ => ?_)
    refine px_iload_n (kk := 2) rfl rfl rfl ?_
    refine px_iconst (v := -1) rfl k_m1 ?_
    refine px_icmp_eq rfl (fun c5 => ?_) (fun c5 => ?_)
    · refine px_aload_n (kk := 0) rfl rfl rfl ?_
      refine px_getR (r := 52) rfl gS_0 rfl (gR_0_9 _) ?_
      refine px_iload_n (kk := 1) rfl rfl rfl ?_
      refine px_aald (j := s) (r := 53 + 2 * s) rfl gS_52 rfl hs (gR_52v hs _) ?_
      refine px_iload_n (kk := 2) rfl rfl rfl ?_
      refine px_callV0 CX7_holdBody [] [.int _] ((c5 ▸ vX7_holdNone hs)) rfl (gS_sh s hs) (by decide) rfl rfl rfl (Nat.le_of_ble_eq_true rfl) (by decide) ?_
      rintro _ _ - ⟨rfl, rfl⟩
      refine px_iconst (v := nI 1) rfl k_1 ?_
      refine px_ireturn rfl (.inl rfl) ?_
      exact .inr ⟨s, hs, rfl, rfl, .inl ⟨c5, by rw [c5]⟩⟩
    · refine px_aload_n (kk := 0) rfl rfl rfl ?_
      refine px_getR (r := 49) rfl gS_0 rfl (gR_0_8 _) ?_
      refine px_iload_n (kk := 2) rfl rfl rfl ?_
      refine px_callV0 CX0_isBody [] [.int _] (vX0_isBody hz hz50) rfl gS_49 (by decide) rfl rfl rfl (Nat.le_of_ble_eq_true rfl) (by decide) ?_
      rintro _ _ - (⟨⟨b, hb, rfl⟩, rfl, rfl⟩ | ⟨hb, rfl, rfl⟩)
      · refine px_if_ne rfl (fun _ => ?_) (fun h => absurd h (by decide))
        refine px_aload_n (kk := 0) rfl rfl rfl ?_
        refine px_getR (r := 52) rfl gS_0 rfl (gR_0_9 _) ?_
        refine px_iload_n (kk := 1) rfl rfl rfl ?_
        refine px_aald (j := s) (r := 53 + 2 * s) rfl gS_52 rfl hs (gR_52v hs _) ?_
        refine px_iload_n (kk := 2) rfl rfl rfl ?_
        refine px_callV0 CX7_holdBody [] [.int _] (vX7_holdBody hs (b := b) (by omega)) rfl (gS_sh s hs) (by decide) rfl rfl rfl (Nat.le_of_ble_eq_true rfl) (by decide) ?_
        rintro _ _ - ⟨rfl, rfl⟩
        refine px_iconst (v := nI 1) rfl k_1 ?_
        refine px_ireturn rfl (.inl rfl) ?_
        exact .inr ⟨s, hs, rfl, rfl, .inr ⟨b, hb, rfl, rfl⟩⟩
      · refine px_if_ne rfl (fun h => absurd h (by decide)) (fun _ => ?_)
        refine px_iconst (v := -1) rfl k_m1 ?_
        refine px_ireturn rfl (.inl rfl) ?_
        exact .inl ⟨fun h => h.2.elim c5 hb, rfl, rfl⟩
  · refine px_if_eq rfl (fun _ => ?_) (fun h => absurd h (by decide))
    refine px_iconst (v := -1) rfl k_m1 ?_
    refine px_ireturn rfl (.inl rfl) ?_
    exact .inl ⟨fun h => hs h.1, rfl, rfl⟩
theorem vX11_row {I : Nat → Nat → Int32} {J : Nat → Nat → Int64} {p : Bool × Option Nat} {ro : List (Nat × Nat × (Nat → Int32))} {x y w : Int32} : Pv 2 0 0 CX11_row [.ref (0), .int (x), .int (y), .int (w)] (gS, I, J, gR p, ro) (fun r S' => (¬ ((∃ s, s < 6 ∧ x = nI s) ∧ (∃ t, t < 5 ∧ y = nI t) ∧ ¬ nI 60 < w) ∧ r = some (.int (-1)) ∧ S' = (gS, I, J, gR p, ro)) ∨ ((∃ s, s < 6 ∧ x = nI s) ∧ (∃ t, t < 5 ∧ y = nI t) ∧ w < 0 ∧ r = some (.int (-14)) ∧ S' = (gS, I, J, gR p, ro)) ∨ (∃ s t m, s < 6 ∧ x = nI s ∧ t < 5 ∧ y = nI t ∧ m ≤ 60 ∧ w = nI m ∧ r = some (.int (nI 1)) ∧ S' = (gS, va_up I (53 + 2 * s) (va_up (va_up (va_up (va_up (I (53 + 2 * s)) 1 (nI 2)) 2 (-1)) 3 (nI t)) 4 (nI m)), va_up J (54 + 2 * s) (fun j => if j < 60 then 0 else J (54 + 2 * s) j), gR p, ro))) := by
  refine ⟨okCX11_row, Nat.le_of_ble_eq_true rfl, (show Px _ _ _ _ 0 [some (.ref (0)), some (.int (x)), some (.int (y)), some (.int (w))] [] _ _ from ?_)⟩
  refine px_iload_n (kk := 1) rfl rfl rfl ?_
  refine px_callS0 CX11_isShelf [] [.int _] (vX11_isShelf) rfl rfl rfl (Nat.le_of_ble_eq_true rfl) (by decide) ?_
  rintro _ _ - (⟨⟨s, hs, rfl⟩, rfl, rfl⟩ | ⟨hs, rfl, rfl⟩)
  · refine px_if_eq rfl (fun h => absurd h (by decide)) (fun _ => ?_)
    refine px_iload_n (kk := 2) rfl rfl rfl ?_
    refine px_callS0 CX7_isSort [] [.int _] (vX7_isSort) rfl rfl rfl (Nat.le_of_ble_eq_true rfl) (by decide) ?_
    rintro _ _ - (⟨⟨t, ht, rfl⟩, rfl, rfl⟩ | ⟨ht, rfl, rfl⟩)
    · refine px_if_eq rfl (fun h => absurd h (by decide)) (fun _ => ?_)
      refine px_iload_n (kk := 3) rfl rfl rfl ?_
      refine px_bipush (v := nI 60) rfl b_60 ?_
      refine px_icmp_le rfl (fun c8 => ?_) (fun c8 => ?_)
      · refine px_iload_n (kk := 3) rfl rfl rfl ?_
        refine px_if_ge rfl (fun c12 => ?_) (fun c12 => ?_)
        · have c12n : ¬ w < 0 := fun e => by rw [i_lt] at e; rw [i_le] at c12; omega
          obtain ⟨m, hm, rfl⟩ := n_ofn c12n
          have hm60 : m ≤ 60 := by rw [n_le hm (by omega)] at c8; exact c8
          refine px_aload_n (kk := 0) rfl rfl rfl ?_
          refine px_getR (r := 52) rfl gS_0 rfl (gR_0_9 _) ?_
          refine px_iload_n (kk := 1) rfl rfl rfl ?_
          refine px_aald (j := s) (r := 53 + 2 * s) rfl gS_52 rfl hs (gR_52v hs _) ?_
          refine px_iload_n (kk := 2) rfl rfl rfl ?_
          refine px_iload_n (kk := 3) rfl rfl rfl ?_
          refine px_callV0 CX7_holdRow [] [.int _, .int _] (vX7_holdRow hs) rfl (gS_sh s hs) (by decide) rfl rfl rfl (Nat.le_of_ble_eq_true rfl) (by decide) ?_
          rintro _ _ - ⟨rfl, rfl⟩
          refine px_iconst (v := nI 1) rfl k_1 ?_
          refine px_ireturn rfl (.inl rfl) ?_
          exact .inr (.inr ⟨s, t, m, hs, rfl, ht, rfl, hm60, rfl, rfl, rfl⟩)
        · refine px_bipush (v := -14) rfl b_m14 ?_
          refine px_ireturn rfl (.inl rfl) ?_
          exact .inr (.inl ⟨⟨s, hs, rfl⟩, ⟨t, ht, rfl⟩, by rw [i_lt]; rw [i_le] at c12; omega, rfl, rfl⟩)
      · refine px_iconst (v := -1) rfl k_m1 ?_
        refine px_ireturn rfl (.inl rfl) ?_
        exact .inl ⟨fun h => h.2.2 (by rw [i_lt]; rw [i_le] at c8; omega), rfl, rfl⟩
    · refine px_if_eq rfl (fun _ => ?_) (fun h => absurd h (by decide))
      refine px_iconst (v := -1) rfl k_m1 ?_
      refine px_ireturn rfl (.inl rfl) ?_
      exact .inl ⟨fun h => ht h.2.1, rfl, rfl⟩
  · refine px_if_eq rfl (fun _ => ?_) (fun h => absurd h (by decide))
    refine px_iconst (v := -1) rfl k_m1 ?_
    refine px_ireturn rfl (.inl rfl) ?_
    exact .inl ⟨fun h => hs h.1, rfl, rfl⟩
theorem vX11_rp {I : Nat → Nat → Int32} {J : Nat → Nat → Int64} {p : Bool × Option Nat} {ro : List (Nat × Nat × (Nat → Int32))} (hSH : ∀ s, s < 6 → ∃ z, z ≤ 60 ∧ I (53 + 2 * s) 4 = nI z) {x y : Int32} : Pv 1 0 0 CX11_refusalOfPlace [.ref (0), .int (x), .int (y)] (gS, I, J, gR p, ro) (fun r S' => (¬ (∃ s, s < 6 ∧ x = nI s) ∧ r = some (.int (-1)) ∧ S' = (gS, I, J, gR p, ro)) ∨ (∃ s, s < 6 ∧ x = nI s ∧ (I (53 + 2 * s) 1 = nI 0) ∧ r = some (.int (-11)) ∧ S' = (gS, I, J, gR p, ro)) ∨ (∃ s, s < 6 ∧ x = nI s ∧ ¬ (I (53 + 2 * s) 1 = nI 0) ∧ ¬ (I (53 + 2 * s) 1 = nI 2) ∧ r = some (.int (-12)) ∧ S' = (gS, I, J, gR p, ro)) ∨ (∃ s, s < 6 ∧ x = nI s ∧ (I (53 + 2 * s) 1 = nI 2) ∧ (∃ a, y = nI a ∧ a + 1 ≤ mN (I (53 + 2 * s) 4)) ∧ r = some (.int (nI 0)) ∧ S' = (gS, I, J, gR p, ro)) ∨ (∃ s, s < 6 ∧ x = nI s ∧ (I (53 + 2 * s) 1 = nI 2) ∧ ¬ (∃ a, y = nI a ∧ a + 1 ≤ mN (I (53 + 2 * s) 4)) ∧ r = some (.int (-13)) ∧ S' = (gS, I, J, gR p, ro))) := by
  refine ⟨okCX11_refusalOfPlace, Nat.le_of_ble_eq_true rfl, (show Px _ _ _ _ 0 [some (.ref (0)), some (.int (x)), some (.int (y))] [] _ _ from ?_)⟩
  refine px_iload_n (kk := 1) rfl rfl rfl ?_
  refine px_callS0 CX11_isShelf [] [.int _] (vX11_isShelf) rfl rfl rfl (Nat.le_of_ble_eq_true rfl) (by decide) ?_
  rintro _ _ - (⟨⟨s, hs, rfl⟩, rfl, rfl⟩ | ⟨hs, rfl, rfl⟩)
  · refine px_if_ne rfl (fun _ => ?_) (fun h => absurd h (by decide))
    refine px_aload_n (kk := 0) rfl rfl rfl ?_
    refine px_getR (r := 52) rfl gS_0 rfl (gR_0_9 _) ?_
    refine px_iload_n (kk := 1) rfl rfl rfl ?_
    refine px_aald (j := s) (r := 53 + 2 * s) rfl gS_52 rfl hs (gR_52v hs _) ?_
    refine px_callV0 CX7_isEmpty [] [] (vX7_isEmpty hs) rfl (gS_sh s hs) (by decide) rfl rfl rfl (Nat.le_of_ble_eq_true rfl) (by decide) ?_
    rintro _ _ - (⟨he, rfl, rfl⟩ | ⟨he, rfl, rfl⟩)
    · refine px_if_eq rfl (fun h => absurd h (by decide)) (fun _ => ?_)
      refine px_bipush (v := -11) rfl b_m11 ?_
      refine px_ireturn rfl (.inl rfl) ?_
      exact .inr (.inl ⟨s, hs, rfl, he, rfl, rfl⟩)
    · refine px_if_eq rfl (fun _ => ?_) (fun h => absurd h (by decide))
      refine px_aload_n (kk := 0) rfl rfl rfl ?_
      refine px_getR (r := 52) rfl gS_0 rfl (gR_0_9 _) ?_
      refine px_iload_n (kk := 1) rfl rfl rfl ?_
      refine px_aald (j := s) (r := 53 + 2 * s) rfl gS_52 rfl hs (gR_52v hs _) ?_
      refine px_callV0 CX7_isRow [] [] (vX7_isRow hs) rfl (gS_sh s hs) (by decide) rfl rfl rfl (Nat.le_of_ble_eq_true rfl) (by decide) ?_
      rintro _ _ - (⟨hw, rfl, rfl⟩ | ⟨hw, rfl, rfl⟩)
      · obtain ⟨z, hz60, hz⟩ := hSH s hs
        have hmz : mN (I (53 + 2 * s) 4) = z := by rw [hz, mN_n (by omega)]
        refine px_if_ne rfl (fun _ => ?_) (fun h => absurd h (by decide))
        refine px_aload_n (kk := 0) rfl rfl rfl ?_
        refine px_getR (r := 52) rfl gS_0 rfl (gR_0_9 _) ?_
        refine px_iload_n (kk := 1) rfl rfl rfl ?_
        refine px_aald (j := s) (r := 53 + 2 * s) rfl gS_52 rfl hs (gR_52v hs _) ?_
        refine px_iload_n (kk := 2) rfl rfl rfl ?_
        refine px_iconst (v := nI 1) rfl k_1 ?_
        refine px_callV0 CX7_hasRun [] [.int _, .int _] (vX7_hasRun hs hz hz60) rfl (gS_sh s hs) (by decide) rfl rfl rfl (Nat.le_of_ble_eq_true rfl) (by decide) ?_
        rintro _ _ - (⟨⟨a, b, rfl, hb, hab⟩, rfl, rfl⟩ | ⟨hab, rfl, rfl⟩)
        · refine px_if_eq rfl (fun h => absurd h (by decide)) (fun _ => ?_)
          refine px_iconst (v := nI 0) rfl k_0 ?_
          refine px_goto rfl ?_
          refine px_ireturn rfl (.inl rfl) ?_
          rw [n_eq (by omega) (by omega)] at hb
          subst hb
          exact .inr (.inr (.inr (.inl ⟨s, hs, rfl, hw, ⟨a, rfl, by omega⟩, rfl, rfl⟩)))
        · refine px_if_eq rfl (fun _ => ?_) (fun h => absurd h (by decide))
          refine px_bipush (v := -13) rfl b_m13 ?_
          refine px_ireturn rfl (.inl rfl) ?_
          exact .inr (.inr (.inr (.inr ⟨s, hs, rfl, hw, fun ⟨a, e, h⟩ => hab ⟨a, 1, e, rfl, by omega⟩, rfl, rfl⟩)))
      · refine px_if_ne rfl (fun h => absurd h (by decide)) (fun _ => ?_)
        refine px_bipush (v := -12) rfl b_m12 ?_
        refine px_ireturn rfl (.inl rfl) ?_
        exact .inr (.inr (.inl ⟨s, hs, rfl, he, hw, rfl, rfl⟩))
  · refine px_if_ne rfl (fun h => absurd h (by decide)) (fun _ => ?_)
    refine px_iconst (v := -1) rfl k_m1 ?_
    refine px_ireturn rfl (.inl rfl) ?_
    exact .inl ⟨hs, rfl, rfl⟩
theorem vX7_becomeG {I : Nat → Nat → Int32} {J : Nat → Nat → Int64} {p : Bool × Option Nat} {ro : List (Nat × Nat × (Nat → Int32))} {s : Nat} (hs : s < 6) {t : Nat} (ht5 : t < 5) (ht : I (53 + 2 * s) 3 = nI t) {z : Nat} (hz : I (53 + 2 * s) 4 = nI z) (hz60 : z ≤ 60) {a : Nat} (ha : a < z) {v : Int64} : Pv 1 0 0 CX7_become [.ref (53 + 2 * s), .int (nI a), .long (v)] (gS, I, J, gR p, ro) (qV (gS, I, (va_up J (54 + 2 * s) (va_up (J (54 + 2 * s)) a (sp_low t v))), gR p, ro)) := by
  rcases (by omega : t = 0 ∨ t = 1 ∨ t = 2 ∨ t = 3 ∨ t = 4) with rfl | rfl | rfl | rfl | rfl
  · exact vX7_become_0 hs ht hz hz60 ha
  · exact vX7_become_1 hs ht hz hz60 ha
  · exact vX7_become_2 hs ht hz hz60 ha
  · exact vX7_become_3 hs ht hz hz60 ha
  · exact vX7_become_4 hs ht hz hz60 ha
theorem vX11_put {I : Nat → Nat → Int32} {J : Nat → Nat → Int64} {p : Bool × Option Nat} {ro : List (Nat × Nat × (Nat → Int32))} (hSH : ∀ s, s < 6 → ∃ z, z ≤ 60 ∧ I (53 + 2 * s) 4 = nI z) (hST : ∀ s, s < 6 → I (53 + 2 * s) 1 = nI 2 → ∃ t, t < 5 ∧ I (53 + 2 * s) 3 = nI t) {x y : Int32} {v : Int64} : Pv 2 0 0 CX11_put [.ref (0), .int (x), .int (y), .long (v)] (gS, I, J, gR p, ro) (fun r S' => (¬ (∃ s, s < 6 ∧ x = nI s) ∧ r = some (.int (-1)) ∧ S' = (gS, I, J, gR p, ro)) ∨ (∃ s, s < 6 ∧ x = nI s ∧ (I (53 + 2 * s) 1 = nI 0) ∧ r = some (.int (-11)) ∧ S' = (gS, I, J, gR p, ro)) ∨ (∃ s, s < 6 ∧ x = nI s ∧ ¬ (I (53 + 2 * s) 1 = nI 0) ∧ ¬ (I (53 + 2 * s) 1 = nI 2) ∧ r = some (.int (-12)) ∧ S' = (gS, I, J, gR p, ro)) ∨ (∃ s a t, s < 6 ∧ x = nI s ∧ (I (53 + 2 * s) 1 = nI 2) ∧ y = nI a ∧ a < mN (I (53 + 2 * s) 4) ∧ t < 5 ∧ I (53 + 2 * s) 3 = nI t ∧ r = some (.int (nI 1)) ∧ S' = (gS, I, (va_up J (54 + 2 * s) (va_up (J (54 + 2 * s)) a (sp_low t v))), gR p, ro)) ∨ (∃ s, s < 6 ∧ x = nI s ∧ (I (53 + 2 * s) 1 = nI 2) ∧ ¬ (∃ a, y = nI a ∧ a + 1 ≤ mN (I (53 + 2 * s) 4)) ∧ r = some (.int (-13)) ∧ S' = (gS, I, J, gR p, ro))) := by
  refine ⟨okCX11_put, Nat.le_of_ble_eq_true rfl, (show Px _ _ _ _ 0 [some (.ref (0)), some (.int (x)), some (.int (y)), some (.long (v)), none, none] [] _ _ from ?_)⟩
  refine px_aload_n (kk := 0) rfl rfl rfl ?_
  refine px_iload_n (kk := 1) rfl rfl rfl ?_
  refine px_iload_n (kk := 2) rfl rfl rfl ?_
  refine px_callV0 CX11_refusalOfPlace [] [.int _, .int _] (vX11_rp hSH) rfl gS_0 (by decide) rfl rfl rfl (Nat.le_of_ble_eq_true rfl) (by decide) ?_
  rintro _ _ - (⟨hno, rfl, rfl⟩ | ⟨s, hs, rfl, he, rfl, rfl⟩ | ⟨s, hs, rfl, he, hw, rfl, rfl⟩ | ⟨s, hs, rfl, hw, ⟨a, rfl, ha⟩, rfl, rfl⟩ | ⟨s, hs, rfl, hw, ha, rfl, rfl⟩)
  · refine px_ist5 rfl rfl (by decide) ?_
    refine px_iload rfl rfl ?_
    refine px_if_eq rfl (fun h => absurd h (by decide)) (fun _ => ?_)
    refine px_iload rfl rfl ?_
    refine px_ireturn rfl (.inl rfl) ?_
    exact .inl ⟨hno, rfl, rfl⟩
  · refine px_ist5 rfl rfl (by decide) ?_
    refine px_iload rfl rfl ?_
    refine px_if_eq rfl (fun h => absurd h (by decide)) (fun _ => ?_)
    refine px_iload rfl rfl ?_
    refine px_ireturn rfl (.inl rfl) ?_
    exact .inr (.inl ⟨s, hs, rfl, he, rfl, rfl⟩)
  · refine px_ist5 rfl rfl (by decide) ?_
    refine px_iload rfl rfl ?_
    refine px_if_eq rfl (fun h => absurd h (by decide)) (fun _ => ?_)
    refine px_iload rfl rfl ?_
    refine px_ireturn rfl (.inl rfl) ?_
    exact .inr (.inr (.inl ⟨s, hs, rfl, he, hw, rfl, rfl⟩))
  · obtain ⟨z, hz60, hz⟩ := hSH s hs
    have hmz : mN (I (53 + 2 * s) 4) = z := by rw [hz, mN_n (by omega)]
    rw [hmz] at ha
    have ha60 : a < 60 := by omega
    refine px_ist5 rfl rfl (by decide) ?_
    refine px_iload rfl rfl ?_
    refine px_if_eq rfl (fun _ => ?_) (fun h => absurd h (by decide))
    obtain ⟨t, ht5, ht⟩ := hST s hs hw
    refine px_aload_n (kk := 0) rfl rfl rfl ?_
    refine px_getR (r := 52) rfl gS_0 rfl (gR_0_9 _) ?_
    refine px_iload_n (kk := 1) rfl rfl rfl ?_
    refine px_aald (j := s) (r := 53 + 2 * s) rfl gS_52 rfl hs (gR_52v hs _) ?_
    refine px_iload_n (kk := 2) rfl rfl rfl ?_
    refine px_lload_n (kk := 3) rfl rfl rfl ?_
    refine px_callV0 CX7_become [] [.int _, .long _] (vX7_becomeG hs ht5 ht hz hz60 (a := a) (by omega)) rfl (gS_sh s hs) (by decide) rfl rfl rfl (Nat.le_of_ble_eq_true rfl) (by decide) ?_
    rintro _ _ - ⟨rfl, rfl⟩
    refine px_iconst (v := nI 1) rfl k_1 ?_
    refine px_ireturn rfl (.inl rfl) ?_
    exact .inr (.inr (.inr (.inl ⟨s, a, t, hs, rfl, hw, rfl, by omega, ht5, ht, rfl, rfl⟩)))
  · refine px_ist5 rfl rfl (by decide) ?_
    refine px_iload rfl rfl ?_
    refine px_if_eq rfl (fun h => absurd h (by decide)) (fun _ => ?_)
    refine px_iload rfl rfl ?_
    refine px_ireturn rfl (.inl rfl) ?_
    exact .inr (.inr (.inr (.inr ⟨s, hs, rfl, hw, ha, rfl, rfl⟩)))
theorem vX11_element {I : Nat → Nat → Int32} {J : Nat → Nat → Int64} {p : Bool × Option Nat} {ro : List (Nat × Nat × (Nat → Int32))} (hSH : ∀ s, s < 6 → ∃ z, z ≤ 60 ∧ I (53 + 2 * s) 4 = nI z) {x y : Int32} : Pv 2 0 0 CX11_element [.ref (0), .int (x), .int (y)] (gS, I, J, gR p, ro) (fun r S' => S' = (gS, I, J, gR p, ro) ∧ ((∃ s a, s < 6 ∧ x = nI s ∧ (I (53 + 2 * s) 1 = nI 2) ∧ y = nI a ∧ a < mN (I (53 + 2 * s) 4) ∧ r = some (.long (J (54 + 2 * s) a))) ∨ (¬ (∃ s a, s < 6 ∧ x = nI s ∧ (I (53 + 2 * s) 1 = nI 2) ∧ y = nI a ∧ a < mN (I (53 + 2 * s) 4)) ∧ r = some (.long (-9223372036854775808))))) := by
  refine ⟨okCX11_element, Nat.le_of_ble_eq_true rfl, (show Px _ _ _ _ 0 [some (.ref (0)), some (.int (x)), some (.int (y))] [] _ _ from ?_)⟩
  refine px_aload_n (kk := 0) rfl rfl rfl ?_
  refine px_iload_n (kk := 1) rfl rfl rfl ?_
  refine px_iload_n (kk := 2) rfl rfl rfl ?_
  refine px_callV0 CX11_refusalOfPlace [] [.int _, .int _] (vX11_rp hSH) rfl gS_0 (by decide) rfl rfl rfl (Nat.le_of_ble_eq_true rfl) (by decide) ?_
  rintro _ _ - (⟨hno, rfl, rfl⟩ | ⟨s, hs, rfl, he, rfl, rfl⟩ | ⟨s, hs, rfl, he, hw, rfl, rfl⟩ | ⟨s, hs, rfl, hw, ⟨a, rfl, ha⟩, rfl, rfl⟩ | ⟨s, hs, rfl, hw, ha, rfl, rfl⟩)
  · refine px_if_ne rfl (fun _ => ?_) (fun h => absurd h (by decide))
    refine px_ldc2_w (v := -9223372036854775808) rfl (by decide) ?_
    refine px_lreturn rfl rfl ?_
    exact ⟨rfl, .inr ⟨fun ⟨s, a, h1, h2, _⟩ => hno ⟨s, h1, h2⟩, rfl⟩⟩
  · refine px_if_ne rfl (fun _ => ?_) (fun h => absurd h (by decide))
    refine px_ldc2_w (v := -9223372036854775808) rfl (by decide) ?_
    refine px_lreturn rfl rfl ?_
    exact ⟨rfl, .inr ⟨fun ⟨s2, a, h1, h2, h3, _⟩ => by rw [n_eq (by omega) (by omega)] at h2; subst h2; rw [he, n_eq (by omega) (by omega)] at h3; omega, rfl⟩⟩
  · refine px_if_ne rfl (fun _ => ?_) (fun h => absurd h (by decide))
    refine px_ldc2_w (v := -9223372036854775808) rfl (by decide) ?_
    refine px_lreturn rfl rfl ?_
    exact ⟨rfl, .inr ⟨fun ⟨s2, a, h1, h2, h3, _⟩ => by rw [n_eq (by omega) (by omega)] at h2; subst h2; exact hw h3, rfl⟩⟩
  · obtain ⟨z, hz60, hz⟩ := hSH s hs
    have hmz : mN (I (53 + 2 * s) 4) = z := by rw [hz, mN_n (by omega)]
    rw [hmz] at ha
    have ha60 : a < 60 := by omega
    refine px_if_ne rfl (fun h => absurd h (by decide)) (fun _ => ?_)
    refine px_aload_n (kk := 0) rfl rfl rfl ?_
    refine px_getR (r := 52) rfl gS_0 rfl (gR_0_9 _) ?_
    refine px_iload_n (kk := 1) rfl rfl rfl ?_
    refine px_aald (j := s) (r := 53 + 2 * s) rfl gS_52 rfl hs (gR_52v hs _) ?_
    refine px_getR (r := 54 + 2 * s) rfl (gS_sh s hs) rfl (gR_sh _ s hs) ?_
    refine px_iload_n (kk := 2) rfl rfl rfl ?_
    refine px_lald (j := a) rfl (gS_ce s hs) rfl ha60 ?_
    refine px_goto rfl ?_
    refine px_lreturn rfl rfl ?_
    exact ⟨rfl, .inl ⟨s, a, hs, rfl, hw, rfl, by omega, rfl⟩⟩
  · refine px_if_ne rfl (fun _ => ?_) (fun h => absurd h (by decide))
    refine px_ldc2_w (v := -9223372036854775808) rfl (by decide) ?_
    refine px_lreturn rfl rfl ?_
    exact ⟨rfl, .inr ⟨fun ⟨s2, a, h1, h2, h3, h4, h5⟩ => by rw [n_eq (by omega) (by omega)] at h2; subst h2; exact ha ⟨a, h4, by omega⟩, rfl⟩⟩
theorem vX0_isUnderG {I : Nat → Nat → Int32} {J : Nat → Nat → Int64} {p : Bool × Option Nat} {ro : List (Nat × Nat × (Nat → Int32))} {z : Nat} (hz : I 49 2 = nI z) (hz50 : z ≤ 50) {b : Nat} (hb : b < z) {K : Nat} (hK : K < 8) (hk : I 50 b = nI K) (hro : RO ro) {y : Int32} : Pv 1 0 0 CX0_isUnder [.ref 49, .int (nI b), .int y] (gS, I, J, gR p, ro) (qB (y ∈ sp_und K) (gS, I, J, gR p, ro)) := by
  rcases (by omega : K = 0 ∨ K = 1 ∨ K = 2 ∨ K = 3 ∨ K = 4 ∨ K = 5 ∨ K = 6 ∨ K = 7) with rfl | rfl | rfl | rfl | rfl | rfl | rfl | rfl
  · exact vX0_isUnder_0 hz hz50 hb hk hro
  · exact vX0_isUnder_1 hz hz50 hb hk hro
  · exact vX0_isUnder_2 hz hz50 hb hk hro
  · exact vX0_isUnder_3 hz hz50 hb hk hro
  · exact vX0_isUnder_4 hz hz50 hb hk hro
  · exact vX0_isUnder_5 hz hz50 hb hk hro
  · exact vX0_isUnder_6 hz hz50 hb hk hro
  · exact vX0_isUnder_7 hz hz50 hb hk hro
theorem vX11_taken {I : Nat → Nat → Int32} {J : Nat → Nat → Int64} {p : Bool × Option Nat} {ro : List (Nat × Nat × (Nat → Int32))} {z : Nat} (hz : I 49 2 = nI z) (hz50 : z ≤ 50) (hks : ∀ b, b < z → ∃ K, K < 8 ∧ I 50 b = nI K) (hro : RO ro) (hBD : ∀ s, s < 6 → I (53 + 2 * s) 1 ≠ nI 0 → I (53 + 2 * s) 1 ≠ nI 2 → ∃ b, b < z ∧ I (53 + 2 * s) 2 = nI b) {x y : Int32} : Pv 6 0 0 CX11_taken [.ref (0), .int (x), .int (y)] (gS, I, J, gR p, ro) (fun r S' => S' = (gS, I, J, gR p, ro) ∧ ((¬ ((∃ s, s < 6 ∧ x = nI s) ∧ (∃ k, k < 8 ∧ y = nI k)) ∧ r = some (.int (-1))) ∨ (∃ s, s < 6 ∧ x = nI s ∧ (∃ k, k < 8 ∧ y = nI k) ∧ (((I (53 + 2 * s) 1 = nI 0) ∧ r = some (.int (-11))) ∨ (¬ (I (53 + 2 * s) 1 = nI 0) ∧ ¬ (I (53 + 2 * s) 1 ≠ nI 2 ∧ (∃ b K, b < z ∧ I (53 + 2 * s) 2 = nI b ∧ K < 8 ∧ I 50 b = nI K ∧ y ∈ sp_und K)) ∧ r = some (.int (-12))) ∨ (¬ (I (53 + 2 * s) 1 = nI 0) ∧ I (53 + 2 * s) 1 ≠ nI 2 ∧ ∃ b K, b < z ∧ I (53 + 2 * s) 2 = nI b ∧ K < 8 ∧ I 50 b = nI K ∧ y ∈ sp_und K ∧ r = some (.int (nI K))))))) := by
  refine ⟨okCX11_taken, Nat.le_of_ble_eq_true rfl, (show Px _ _ _ _ 0 [some (.ref (0)), some (.int (x)), some (.int (y)), none] [] _ _ from ?_)⟩
  refine px_iload_n (kk := 1) rfl rfl rfl ?_
  refine px_callS0 CX11_isShelf [] [.int _] (vX11_isShelf) rfl rfl rfl (Nat.le_of_ble_eq_true rfl) (by decide) ?_
  rintro _ _ - (⟨⟨s, hs, rfl⟩, rfl, rfl⟩ | ⟨hs, rfl, rfl⟩)
  · refine px_if_eq rfl (fun h => absurd h (by decide)) (fun _ => ?_)
    refine px_iload_n (kk := 2) rfl rfl rfl ?_
    refine px_callS0 CX0_isKind [] [.int _] (vX0_isKind) rfl rfl rfl (Nat.le_of_ble_eq_true rfl) (by decide) ?_
    rintro _ _ - (⟨hky, rfl, rfl⟩ | ⟨hky, rfl, rfl⟩)
    · refine px_if_ne rfl (fun _ => ?_) (fun h => absurd h (by decide))
      refine px_aload_n (kk := 0) rfl rfl rfl ?_
      refine px_getR (r := 52) rfl gS_0 rfl (gR_0_9 _) ?_
      refine px_iload_n (kk := 1) rfl rfl rfl ?_
      refine px_aald (j := s) (r := 53 + 2 * s) rfl gS_52 rfl hs (gR_52v hs _) ?_
      refine px_ast3 rfl rfl (by decide) ?_
      refine px_aload_n (kk := 3) rfl rfl rfl ?_
      refine px_callV0 CX7_isEmpty [] [] (vX7_isEmpty hs) rfl (gS_sh s hs) (by decide) rfl rfl rfl (Nat.le_of_ble_eq_true rfl) (by decide) ?_
      rintro _ _ - (⟨he, rfl, rfl⟩ | ⟨he, rfl, rfl⟩)
      · refine px_if_eq rfl (fun h => absurd h (by decide)) (fun _ => ?_)
        refine px_bipush (v := -11) rfl b_m11 ?_
        refine px_ireturn rfl (.inl rfl) ?_
        exact ⟨rfl, .inr ⟨s, hs, rfl, hky, .inl ⟨he, rfl⟩⟩⟩
      · refine px_if_eq rfl (fun _ => ?_) (fun h => absurd h (by decide))
        refine px_aload_n (kk := 3) rfl rfl rfl ?_
        refine px_callV0 CX7_isRow [] [] (vX7_isRow hs) rfl (gS_sh s hs) (by decide) rfl rfl rfl (Nat.le_of_ble_eq_true rfl) (by decide) ?_
        rintro _ _ - (⟨hw, rfl, rfl⟩ | ⟨hw, rfl, rfl⟩)
        · refine px_if_ne rfl (fun _ => ?_) (fun h => absurd h (by decide))
          refine px_bipush (v := -12) rfl b_m12 ?_
          refine px_ireturn rfl (.inl rfl) ?_
          exact ⟨rfl, .inr ⟨s, hs, rfl, hky, .inr (.inl ⟨he, fun h => h.1 hw, rfl⟩)⟩⟩
        · refine px_if_ne rfl (fun h => absurd h (by decide)) (fun _ => ?_)
          obtain ⟨b, hb, hbe⟩ := hBD s hs he hw
          obtain ⟨K, hK, hk⟩ := hks b hb
          refine px_aload_n (kk := 0) rfl rfl rfl ?_
          refine px_getR (r := 49) rfl gS_0 rfl (gR_0_8 _) ?_
          refine px_aload_n (kk := 3) rfl rfl rfl ?_
          
          refine px_getIe (v := nI b) rfl (gS_sh s hs) rfl hbe ?_
          refine px_iload_n (kk := 2) rfl rfl rfl ?_
          refine px_callV0 CX0_isUnder [] [.int _, .int _] (vX0_isUnderG hz hz50 hb hK hk hro) rfl gS_49 (by decide) rfl rfl rfl (Nat.le_of_ble_eq_true rfl) (by decide) ?_
          rintro _ _ - (⟨hu, rfl, rfl⟩ | ⟨hu, rfl, rfl⟩)
          · refine px_if_ne rfl (fun _ => ?_) (fun h => absurd h (by decide))
            refine px_aload_n (kk := 0) rfl rfl rfl ?_
            refine px_getR (r := 49) rfl gS_0 rfl (gR_0_8 _) ?_
            refine px_getR (r := 50) rfl gS_49 rfl (gR_49_0 _) ?_
            refine px_aload_n (kk := 3) rfl rfl rfl ?_
            refine px_getIe (v := nI b) rfl (gS_sh s hs) rfl hbe ?_
            refine px_ialde (j := b) (v := nI K) rfl gS_50 rfl (by omega) hk ?_
            refine px_ireturn rfl (.inl rfl) ?_
            exact ⟨rfl, .inr ⟨s, hs, rfl, hky, .inr (.inr ⟨he, hw, b, K, hb, hbe, hK, hk, hu, rfl⟩)⟩⟩
          · refine px_if_ne rfl (fun h => absurd h (by decide)) (fun _ => ?_)
            refine px_bipush (v := -12) rfl b_m12 ?_
            refine px_ireturn rfl (.inl rfl) ?_
            exact ⟨rfl, .inr ⟨s, hs, rfl, hky, .inr (.inl ⟨he, fun ⟨_, b2, K2, h1, h2, h3, h4, h5⟩ => by rw [hbe, n_eq (by omega) (by omega)] at h2; subst h2; rw [hk, n_eq (by omega) (by omega)] at h4; subst h4; exact hu h5, rfl⟩)⟩⟩
    · refine px_if_ne rfl (fun h => absurd h (by decide)) (fun _ => ?_)
      refine px_iconst (v := -1) rfl k_m1 ?_
      refine px_ireturn rfl (.inl rfl) ?_
      exact ⟨rfl, .inl ⟨fun h => hky h.2, rfl⟩⟩
  · refine px_if_eq rfl (fun _ => ?_) (fun h => absurd h (by decide))
    refine px_iconst (v := -1) rfl k_m1 ?_
    refine px_ireturn rfl (.inl rfl) ?_
    exact ⟨rfl, .inl ⟨fun h => hs h.1, rfl⟩⟩
theorem vX11_shift {I : Nat → Nat → Int32} {J : Nat → Nat → Int64} {p : Bool × Option Nat} {ro : List (Nat × Nat × (Nat → Int32))} (hSH : ∀ s, s < 6 → ∃ z, z ≤ 60 ∧ I (53 + 2 * s) 4 = nI z) {x y v w u : Int32} : Pv 1 0 0 CX11_shift [.ref (0), .int (x), .int (y), .int (v), .int (w), .int (u)] (gS, I, J, gR p, ro) (fun r S' => (¬ ((∃ s, s < 6 ∧ x = nI s) ∧ ∃ s, s < 6 ∧ v = nI s) ∧ r = some (.int (-1)) ∧ S' = (gS, I, J, gR p, ro)) ∨ ∃ s s2, s < 6 ∧ s2 < 6 ∧ x = nI s ∧ v = nI s2 ∧ (((I (53 + 2 * s) 1 = nI 0 ∨ I (53 + 2 * s2) 1 = nI 0) ∧ r = some (.int (-11)) ∧ S' = (gS, I, J, gR p, ro)) ∨ (¬ (I (53 + 2 * s) 1 = nI 0 ∨ I (53 + 2 * s2) 1 = nI 0) ∧ ((¬ (I (53 + 2 * s) 1 = nI 2 ∧ I (53 + 2 * s2) 1 = nI 2 ∧ I (53 + 2 * s) 3 = I (53 + 2 * s2) 3) ∧ r = some (.int (-12)) ∧ S' = (gS, I, J, gR p, ro)) ∨ ((I (53 + 2 * s) 1 = nI 2 ∧ I (53 + 2 * s2) 1 = nI 2 ∧ I (53 + 2 * s) 3 = I (53 + 2 * s2) 3) ∧ ((¬ (∃ a b m, y = nI a ∧ w = nI b ∧ u = nI m ∧ a + m ≤ mN (I (53 + 2 * s) 4) ∧ b + m ≤ mN (I (53 + 2 * s2) 4)) ∧ r = some (.int (-13)) ∧ S' = (gS, I, J, gR p, ro)) ∨ (∃ a b m, y = nI a ∧ w = nI b ∧ u = nI m ∧ a + m ≤ mN (I (53 + 2 * s) 4) ∧ b + m ≤ mN (I (53 + 2 * s2) 4) ∧ r = some (.int (nI m)) ∧ S' = (gS, I, (va_up J (54 + 2 * s2) (va_cpy (J (54 + 2 * s)) (J (54 + 2 * s2)) a b m)), gR p, ro)))))))) := by
  refine ⟨okCX11_shift, Nat.le_of_ble_eq_true rfl, (show Px _ _ _ _ 0 [some (.ref (0)), some (.int (x)), some (.int (y)), some (.int (v)), some (.int (w)), some (.int (u)), none, none] [] _ _ from ?_)⟩
  refine px_iload_n (kk := 1) rfl rfl rfl ?_
  refine px_callS0 CX11_isShelf [] [.int _] (vX11_isShelf) rfl rfl rfl (Nat.le_of_ble_eq_true rfl) (by decide) ?_
  rintro _ _ - (⟨⟨s, hs, rfl⟩, rfl, rfl⟩ | ⟨hs, rfl, rfl⟩)
  · refine px_if_eq rfl (fun h => absurd h (by decide)) (fun _ => ?_)
    refine px_iload_n (kk := 3) rfl rfl rfl ?_
    refine px_callS0 CX11_isShelf [] [.int _] (vX11_isShelf) rfl rfl rfl (Nat.le_of_ble_eq_true rfl) (by decide) ?_
    rintro _ _ - (⟨⟨s2, hs2, rfl⟩, rfl, rfl⟩ | ⟨hs2, rfl, rfl⟩)
    · refine px_if_ne rfl (fun _ => ?_) (fun h => absurd h (by decide))
      refine px_aload_n (kk := 0) rfl rfl rfl ?_
      refine px_getR (r := 52) rfl gS_0 rfl (gR_0_9 _) ?_
      refine px_iload_n (kk := 1) rfl rfl rfl ?_
      refine px_aald (j := s) (r := 53 + 2 * s) rfl gS_52 rfl hs (gR_52v hs _) ?_
      refine px_ast6 rfl rfl (by decide) ?_
      refine px_aload_n (kk := 0) rfl rfl rfl ?_
      refine px_getR (r := 52) rfl gS_0 rfl (gR_0_9 _) ?_
      refine px_iload_n (kk := 3) rfl rfl rfl ?_
      refine px_aald (j := s2) (r := 53 + 2 * s2) rfl gS_52 rfl hs2 (gR_52v hs2 _) ?_
      refine px_ast7 rfl rfl (by decide) ?_
      refine px_aload rfl rfl ?_
      refine px_callV0 CX7_isEmpty [] [] (vX7_isEmpty hs) rfl (gS_sh s hs) (by decide) rfl rfl rfl (Nat.le_of_ble_eq_true rfl) (by decide) ?_
      rintro _ _ - (⟨he, rfl, rfl⟩ | ⟨he, rfl, rfl⟩)
      · refine px_if_ne rfl (fun _ => ?_) (fun h => absurd h (by decide))
        refine px_bipush (v := -11) rfl b_m11 ?_
        refine px_ireturn rfl (.inl rfl) ?_
        exact .inr ⟨s, s2, hs, hs2, rfl, rfl, .inl ⟨.inl he, rfl, rfl⟩⟩
      · refine px_if_ne rfl (fun h => absurd h (by decide)) (fun _ => ?_)
        refine px_aload rfl rfl ?_
        refine px_callV0 CX7_isEmpty [] [] (vX7_isEmpty hs2) rfl (gS_sh s2 hs2) (by decide) rfl rfl rfl (Nat.le_of_ble_eq_true rfl) (by decide) ?_
        rintro _ _ - (⟨he2, rfl, rfl⟩ | ⟨he2, rfl, rfl⟩)
        · refine px_if_eq rfl (fun h => absurd h (by decide)) (fun _ => ?_)
          refine px_bipush (v := -11) rfl b_m11 ?_
          refine px_ireturn rfl (.inl rfl) ?_
          exact .inr ⟨s, s2, hs, hs2, rfl, rfl, .inl ⟨.inr he2, rfl, rfl⟩⟩
        · refine px_if_eq rfl (fun _ => ?_) (fun h => absurd h (by decide))
          refine px_aload rfl rfl ?_
          refine px_callV0 CX7_isRow [] [] (vX7_isRow hs) rfl (gS_sh s hs) (by decide) rfl rfl rfl (Nat.le_of_ble_eq_true rfl) (by decide) ?_
          rintro _ _ - (⟨hw, rfl, rfl⟩ | ⟨hw, rfl, rfl⟩)
          · refine px_if_eq rfl (fun h => absurd h (by decide)) (fun _ => ?_)
            refine px_aload rfl rfl ?_
            refine px_callV0 CX7_isRow [] [] (vX7_isRow hs2) rfl (gS_sh s2 hs2) (by decide) rfl rfl rfl (Nat.le_of_ble_eq_true rfl) (by decide) ?_
            rintro _ _ - (⟨hw2, rfl, rfl⟩ | ⟨hw2, rfl, rfl⟩)
            · refine px_if_eq rfl (fun h => absurd h (by decide)) (fun _ => ?_)
              refine px_aload rfl rfl ?_
              refine px_getI rfl (gS_sh s hs) rfl ?_
              refine px_aload rfl rfl ?_
              refine px_getI rfl (gS_sh s2 hs2) rfl ?_
              refine px_icmp_eq rfl (fun c36 => ?_) (fun c36 => ?_)
              · obtain ⟨z, hz60, hz⟩ := hSH s hs
                obtain ⟨y2, hy60, hy⟩ := hSH s2 hs2
                have hmz : mN (I (53 + 2 * s) 4) = z := by rw [hz, mN_n (by omega)]
                have hmy : mN (I (53 + 2 * s2) 4) = y2 := by rw [hy, mN_n (by omega)]
                refine px_aload rfl rfl ?_
                refine px_iload_n (kk := 2) rfl rfl rfl ?_
                refine px_iload rfl rfl ?_
                refine px_callV0 CX7_hasRun [] [.int _, .int _] (vX7_hasRun hs hz hz60) rfl (gS_sh s hs) (by decide) rfl rfl rfl (Nat.le_of_ble_eq_true rfl) (by decide) ?_
                rintro _ _ - (⟨⟨a, m, rfl, rfl, ham⟩, rfl, rfl⟩ | ⟨ham, rfl, rfl⟩)
                · refine px_if_eq rfl (fun h => absurd h (by decide)) (fun _ => ?_)
                  refine px_aload rfl rfl ?_
                  refine px_iload rfl rfl ?_
                  refine px_iload rfl rfl ?_
                  refine px_callV0 CX7_hasRun [] [.int _, .int _] (vX7_hasRun hs2 hy hy60) rfl (gS_sh s2 hs2) (by decide) rfl rfl rfl (Nat.le_of_ble_eq_true rfl) (by decide) ?_
                  rintro _ _ - (⟨⟨b, m2, rfl, hm2, hbm⟩, rfl, rfl⟩ | ⟨hbm, rfl, rfl⟩)
                  · rw [n_eq (by omega) (by omega)] at hm2
                    subst hm2
                    refine px_if_ne rfl (fun _ => ?_) (fun h => absurd h (by decide))
                    refine px_aload rfl rfl ?_
                    refine px_getR (r := 54 + 2 * s) rfl (gS_sh s hs) rfl (gR_sh _ s hs) ?_
                    refine px_iload_n (kk := 2) rfl rfl rfl ?_
                    refine px_aload rfl rfl ?_
                    refine px_getR (r := 54 + 2 * s2) rfl (gS_sh s2 hs2) rfl (gR_sh _ s2 hs2) ?_
                    refine px_iload rfl rfl ?_
                    refine px_iload rfl rfl ?_
                    refine px_copyL (a) (b) (m) rfl (Nat.le_of_ble_eq_true rfl) (gS_ce s hs) (gS_ce s2 hs2) rfl rfl rfl (by omega) (by omega) ?_
                    refine px_iload rfl rfl ?_
                    refine px_ireturn rfl (.inl rfl) ?_
                    exact .inr ⟨s, s2, hs, hs2, rfl, rfl, .inr ⟨fun h => h.elim he he2, .inr ⟨⟨hw, hw2, c36⟩, .inr ⟨a, b, m, rfl, rfl, rfl, by omega, by omega, rfl, rfl⟩⟩⟩⟩
                  · refine px_if_ne rfl (fun h => absurd h (by decide)) (fun _ => ?_)
                    refine px_bipush (v := -13) rfl b_m13 ?_
                    refine px_ireturn rfl (.inl rfl) ?_
                    exact .inr ⟨s, s2, hs, hs2, rfl, rfl, .inr ⟨fun h => h.elim he he2, .inr ⟨⟨hw, hw2, c36⟩, .inl ⟨fun ⟨a2, b2, m2, h1, h2, h3, h4, h5⟩ => hbm ⟨b2, m2, h2, h3, by omega⟩, rfl, rfl⟩⟩⟩⟩
                · refine px_if_eq rfl (fun _ => ?_) (fun h => absurd h (by decide))
                  refine px_bipush (v := -13) rfl b_m13 ?_
                  refine px_ireturn rfl (.inl rfl) ?_
                  exact .inr ⟨s, s2, hs, hs2, rfl, rfl, .inr ⟨fun h => h.elim he he2, .inr ⟨⟨hw, hw2, c36⟩, .inl ⟨fun ⟨a2, b2, m2, h1, h2, h3, h4, h5⟩ => ham ⟨a2, m2, h1, h3, by omega⟩, rfl, rfl⟩⟩⟩⟩
              · refine px_bipush (v := -12) rfl b_m12 ?_
                refine px_ireturn rfl (.inl rfl) ?_
                exact .inr ⟨s, s2, hs, hs2, rfl, rfl, .inr ⟨fun h => h.elim he he2, .inl ⟨fun h => c36 h.2.2, rfl, rfl⟩⟩⟩
            · refine px_if_eq rfl (fun _ => ?_) (fun h => absurd h (by decide))
              refine px_bipush (v := -12) rfl b_m12 ?_
              refine px_ireturn rfl (.inl rfl) ?_
              exact .inr ⟨s, s2, hs, hs2, rfl, rfl, .inr ⟨fun h => h.elim he he2, .inl ⟨fun h => hw2 h.2.1, rfl, rfl⟩⟩⟩
          · refine px_if_eq rfl (fun _ => ?_) (fun h => absurd h (by decide))
            refine px_bipush (v := -12) rfl b_m12 ?_
            refine px_ireturn rfl (.inl rfl) ?_
            exact .inr ⟨s, s2, hs, hs2, rfl, rfl, .inr ⟨fun h => h.elim he he2, .inl ⟨fun h => hw h.1, rfl, rfl⟩⟩⟩
    · refine px_if_ne rfl (fun h => absurd h (by decide)) (fun _ => ?_)
      refine px_iconst (v := -1) rfl k_m1 ?_
      refine px_ireturn rfl (.inl rfl) ?_
      exact .inl ⟨fun h => hs2 h.2, rfl, rfl⟩
  · refine px_if_eq rfl (fun _ => ?_) (fun h => absurd h (by decide))
    refine px_iconst (v := -1) rfl k_m1 ?_
    refine px_ireturn rfl (.inl rfl) ?_
    exact .inl ⟨fun h => hs h.1, rfl, rfl⟩
theorem n_inc3 (q : Nat) : nI q + Int32.ofInt 3 = nI (q + 3) := by rw [show Int32.ofInt 3 = nI 3 from by decide +kernel, nI_add]
/-- the town as a row of it is read: warm, needs, party, how many -/
abbrev LnS : Type := (Nat → Int32) × (Nat → Int32) × (Nat → Int32) × Nat
def sp_j3 (E : Nat → Int32) (q : Nat) (t : LnS) : Prop := t.2.2.2 < 8 ∧ sp_may 0 (E q) ∧ sp_may 1 (E (q + 1)) ∧ sp_may 2 (E (q + 2))
noncomputable def sp_li (E : Nat → Int32) (z : Nat) : Nat → Nat → Nat → LnS → LnS × Nat
  | 0, _, c, t => (t, c)
  | m + 1, q, c, t => @ite _ (q + 3 ≤ z ∧ sp_j3 E q t) (Classical.propDecidable _) (sp_li E z m (q + 3) (c + 1) (va_up t.1 t.2.2.2 (E q), va_up t.2.1 t.2.2.2 (E (q + 1)), va_up t.2.2.1 t.2.2.2 (E (q + 2)), t.2.2.2 + 1)) (t, c)
def LM (I : Nat → Nat → Int32) (t : LnS) (I1 : Nat → Nat → Int32) : Prop := Fr [1, 2, 3, 4] I I1 ∧ (∀ k, k ≠ 4 → I1 1 k = I 1 k) ∧ I1 1 4 = nI t.2.2.2 ∧ I1 2 = t.1 ∧ I1 3 = t.2.1 ∧ I1 4 = t.2.2.1
theorem LM_j {I I1 : Nat → Nat → Int32} {t : LnS} (h : LM I t I1) (x y v : Int32) : LM I (va_up t.1 t.2.2.2 x, va_up t.2.1 t.2.2.2 y, va_up t.2.2.1 t.2.2.2 v, t.2.2.2 + 1) (sp_jM I1 t.2.2.2 x y v) := by
  obtain ⟨h1, h2, h3, h4, h5, h6⟩ := h
  refine ⟨Fr_up (Fr_up (Fr_up (Fr_up h1 (by decide) _) (by decide) _) (by decide) _) (by decide) _, fun k hk => ?_, ?_, ?_, ?_, ?_⟩
  · simp only [sp_jM, p_up_s, p_up_n _ _ hk]; exact h2 k hk
  · simp only [sp_jM, p_up_s]
  · simp only [sp_jM, p_up_s, p_up_n _ _ (show (2 : Nat) ≠ 1 by decide), p_up_n _ _ (show (2 : Nat) ≠ 3 by decide), p_up_n _ _ (show (2 : Nat) ≠ 4 by decide), h4]
  · simp only [sp_jM, p_up_s, p_up_n _ _ (show (3 : Nat) ≠ 1 by decide), p_up_n _ _ (show (3 : Nat) ≠ 4 by decide), h5]
  · simp only [sp_jM, p_up_s, p_up_n _ _ (show (4 : Nat) ≠ 1 by decide), h6]
theorem lX11_lines {I : Nat → Nat → Int32} {J : Nat → Nat → Int64} {p : Bool × Option Nat} {ro : List (Nat × Nat × (Nat → Int32))} {s z : Nat} (hs : s < 6) (hz : I (53 + 2 * s) 4 = nI z) (hz60 : z ≤ 60) {N : Nat} (hN : N ≤ 8) {k q : Nat} (hk : k ≤ N) (hq : q < 2 ^ 30) {t : LnS} (ht8 : t.2.2.2 ≤ 8) {I1 : Nat → Nat → Int32} (hL : LM I t I1) {o : Option Value} : Px 2 0 0 CX11_linesFrom 4 [some (.ref (0)), some (.ref (53 + 2 * s)), o, some (.int (nI N)), some (.int (nI q)), some (.int (nI k))] [] (gS, I1, J, gR p, ro) (fun r S' => r = some (.int (nI (sp_li (fun j => (J (54 + 2 * s) j).toInt32) z (N - k) q k t).2)) ∧ ∃ I', S' = (gS, I', J, gR p, ro) ∧ LM I (sp_li (fun j => (J (54 + 2 * s) j).toInt32) z (N - k) q k t).1 I') := by
  refine px_iload rfl rfl ?_
  refine px_iload_n (kk := 3) rfl rfl rfl ?_
  refine px_icmp_ge rfl (fun c6 => ?_) (fun c6 => ?_)
  · refine px_iload_n (kk := 3) rfl rfl rfl ?_
    refine px_ireturn rfl (.inl rfl) ?_
    rw [n_le (by omega) (by omega)] at c6
    obtain rfl : k = N := by omega
    rw [Nat.sub_self]
    exact ⟨rfl, I1, rfl, hL⟩
  · rw [n_le (by omega) (by omega)] at c6
    refine px_aload_n (kk := 1) rfl rfl rfl ?_
    refine px_iload rfl rfl ?_
    refine px_callV0 CX7_hasThree [] [.int _] (vX7_hasThree hs ((congrFun (hL.1 (53 + 2 * s) (by simp only [List.mem_cons, List.not_mem_nil, or_false]; omega)) 4).trans hz) hz60) rfl (gS_sh s hs) (by decide) rfl rfl rfl (Nat.le_of_ble_eq_true rfl) (by decide) ?_
    rintro _ _ - (⟨⟨a, e, h3⟩, rfl, rfl⟩ | ⟨h3, rfl, rfl⟩)
    · rw [n_eq (by omega) (by omega)] at e
      subst e
      refine px_if_ne rfl (fun _ => ?_) (fun h => absurd h (by decide))
      refine px_aload_n (kk := 0) rfl rfl rfl ?_
      refine px_getR (r := 1) rfl gS_0 rfl (gR_0_0 _) ?_
      refine px_aload_n (kk := 1) rfl rfl rfl ?_
      refine px_iload rfl rfl ?_
      refine px_callV0 CX7_byteAt [.ref 1] [.int _] (vX7_byteAt hs ((congrFun (hL.1 (53 + 2 * s) (by simp only [List.mem_cons, List.not_mem_nil, or_false]; omega)) 4).trans hz) hz60 (a := q) (by omega)) rfl (gS_sh s hs) (by decide) rfl rfl rfl (Nat.le_of_ble_eq_true rfl) (by decide) ?_
      rintro _ _ - ⟨rfl, rfl⟩
      refine px_aload_n (kk := 1) rfl rfl rfl ?_
      refine px_iload rfl rfl ?_
      refine px_iconst (v := nI 1) rfl k_1 ?_
      refine px_iaddN rfl ?_
      refine px_callV0 CX7_byteAt [.int _, .ref 1] [.int _] (vX7_byteAt hs ((congrFun (hL.1 (53 + 2 * s) (by simp only [List.mem_cons, List.not_mem_nil, or_false]; omega)) 4).trans hz) hz60 (a := q + 1) (by omega)) rfl (gS_sh s hs) (by decide) rfl rfl rfl (Nat.le_of_ble_eq_true rfl) (by decide) ?_
      rintro _ _ - ⟨rfl, rfl⟩
      refine px_aload_n (kk := 1) rfl rfl rfl ?_
      refine px_iload rfl rfl ?_
      refine px_iconst (v := nI 2) rfl k_2 ?_
      refine px_iaddN rfl ?_
      refine px_callV0 CX7_byteAt [.int _, .int _, .ref 1] [.int _] (vX7_byteAt hs ((congrFun (hL.1 (53 + 2 * s) (by simp only [List.mem_cons, List.not_mem_nil, or_false]; omega)) 4).trans hz) hz60 (a := q + 2) (by omega)) rfl (gS_sh s hs) (by decide) rfl rfl rfl (Nat.le_of_ble_eq_true rfl) (by decide) ?_
      rintro _ _ - ⟨rfl, rfl⟩
      refine px_callV0 CX9_join [] [.int _, .int _, .int _] (vX9_join hL.2.2.1 ht8) rfl gS_1 (by decide) rfl rfl rfl (Nat.le_of_ble_eq_true rfl) (by decide) ?_
      rintro _ _ - (⟨hj, rfl, rfl⟩ | ⟨hj, rfl, rfl⟩)
      · refine px_if_ne rfl (fun _ => ?_) (fun h => absurd h (by decide))
        refine px_iinc4 (v := nI (q + 3)) rfl (n_inc3 q) rfl (by decide) ?_
        refine px_iinc5 (v := nI (k + 1)) rfl (n_inc k) rfl (by decide) ?_
        refine px_goto rfl ?_
        rw [show N - k = (N - (k + 1)) + 1 by omega]
        unfold sp_li
        rw [if_pos ⟨h3, hj⟩]
        exact lX11_lines hs hz hz60 hN (k := k + 1) (q := q + 3) (by omega) (by omega) (t := (_, _, _, _)) hj.1 (LM_j hL _ _ _)
      · refine px_if_ne rfl (fun h => absurd h (by decide)) (fun _ => ?_)
        refine px_iload rfl rfl ?_
        refine px_ireturn rfl (.inl rfl) ?_
        rw [show N - k = (N - (k + 1)) + 1 by omega]
        unfold sp_li
        rw [if_neg (fun h => hj h.2)]
        exact ⟨rfl, I1, rfl, hL⟩
    · refine px_if_ne rfl (fun h => absurd h (by decide)) (fun _ => ?_)
      refine px_iload rfl rfl ?_
      refine px_ireturn rfl (.inl rfl) ?_
      rw [show N - k = (N - (k + 1)) + 1 by omega]
      unfold sp_li
      rw [if_neg (fun h => h3 ⟨q, rfl, h.1⟩)]
      exact ⟨rfl, I1, rfl, hL⟩
termination_by N - k
decreasing_by all_goals (have h := ‹¬ nI N ≤ nI k›; rw [n_le (by omega) (by omega)] at h; omega)
theorem sp_li_big {E : Nat → Int32} {z : Nat} (hz : z ≤ 60) {q : Nat} (hq : 60 ≤ q) : ∀ m c t, sp_li E z m q c t = (t, c)
  | 0, _, _ => rfl
  | m + 1, c, t => by unfold sp_li; rw [if_neg (fun h => by omega)]
theorem lX11_big {I : Nat → Nat → Int32} {J : Nat → Nat → Int64} {p : Bool × Option Nat} {ro : List (Nat × Nat × (Nat → Int32))} {s z : Nat} (hs : s < 6) (hz : I (53 + 2 * s) 4 = nI z) (hz60 : z ≤ 60) {N : Nat} (hN : N ≤ 8) (hN1 : 1 ≤ N) {q : Nat} (hq : q < 2 ^ 31) (hq6 : 60 ≤ q) {o : Option Value} : Px 2 0 0 CX11_linesFrom 4 [some (.ref (0)), some (.ref (53 + 2 * s)), o, some (.int (nI N)), some (.int (nI q)), some (.int (nI 0))] [] (gS, I, J, gR p, ro) (qI (nI 0) (gS, I, J, gR p, ro)) := by
  refine px_iload rfl rfl ?_
  refine px_iload_n (kk := 3) rfl rfl rfl ?_
  refine px_icmp_ge rfl (fun h => absurd h (fun h => by rw [n_le (by omega) (by omega)] at h; omega)) (fun c6 => ?_)
  refine px_aload_n (kk := 1) rfl rfl rfl ?_
  refine px_iload rfl rfl ?_
  refine px_callV0 CX7_hasThree [] [.int _] (vX7_hasThree hs hz hz60) rfl (gS_sh s hs) (by decide) rfl rfl rfl (Nat.le_of_ble_eq_true rfl) (by decide) ?_
  rintro _ _ - (⟨⟨a, e, h3⟩, rfl, rfl⟩ | ⟨h3, rfl, rfl⟩)
  · rw [n_eq hq (by omega)] at e
    subst e
    exact absurd h3 (by omega)
  · refine px_if_ne rfl (fun h => absurd h (by decide)) (fun _ => ?_)
    refine px_iload rfl rfl ?_
    refine px_ireturn rfl (.inl rfl) ?_
    exact ⟨rfl, rfl⟩
theorem vX11_linesFrom {I : Nat → Nat → Int32} {J : Nat → Nat → Int64} {p : Bool × Option Nat} {ro : List (Nat × Nat × (Nat → Int32))} {n : Nat} (hn : I 1 4 = nI n) (hn8 : n ≤ 8) {s z : Nat} (hs : s < 6) (hz : I (53 + 2 * s) 4 = nI z) (hz60 : z ≤ 60) {N : Nat} (hN : N ≤ 8) (hN1 : 1 ≤ N) {q : Nat} (hq : q < 2 ^ 31) : Pv 2 0 0 CX11_linesFrom [.ref (0), .ref (53 + 2 * s), .int (nI q), .int (nI N)] (gS, I, J, gR p, ro) (fun r S' => r = some (.int (nI (sp_li (fun j => (J (54 + 2 * s) j).toInt32) z N q 0 (I 2, I 3, I 4, n)).2)) ∧ ∃ I', S' = (gS, I', J, gR p, ro) ∧ LM I (sp_li (fun j => (J (54 + 2 * s) j).toInt32) z N q 0 (I 2, I 3, I 4, n)).1 I') := by
  refine ⟨okCX11_linesFrom, Nat.le_of_ble_eq_true rfl, (show Px _ _ _ _ 0 [some (.ref (0)), some (.ref (53 + 2 * s)), some (.int (nI q)), some (.int (nI N)), none, none] [] _ _ from ?_)⟩
  refine px_iload_n (kk := 2) rfl rfl rfl ?_
  refine px_ist4 rfl rfl (by decide) ?_
  refine px_iconst (v := nI 0) rfl k_0 ?_
  refine px_ist5 rfl rfl (by decide) ?_
  by_cases hb : 60 ≤ q
  · refine pxv_post (lX11_big hs hz hz60 hN hN1 hq hb) (fun r S hr => ?_)
    obtain ⟨rfl, rfl⟩ := hr
    rw [sp_li_big hz60 hb]
    exact ⟨rfl, I, rfl, Fr_rf, fun _ _ => rfl, hn, rfl, rfl, rfl⟩
  · exact lX11_lines hs hz hz60 hN (k := 0) (q := q) (by omega) (by omega) (t := (I 2, I 3, I 4, n)) hn8 ⟨Fr_rf, fun _ _ => rfl, hn, rfl, rfl, rfl⟩
theorem vX11_lines {I : Nat → Nat → Int32} {J : Nat → Nat → Int64} {p : Bool × Option Nat} {ro : List (Nat × Nat × (Nat → Int32))} {n : Nat} (hn : I 1 4 = nI n) (hn8 : n ≤ 8) (hSH : ∀ s, s < 6 → ∃ z, z ≤ 60 ∧ I (53 + 2 * s) 4 = nI z) {x y w : Int32} : Pv 3 0 0 CX11_lines [.ref (0), .int (x), .int (y), .int (w)] (gS, I, J, gR p, ro) (fun r S' => (¬ ((∃ s, s < 6 ∧ x = nI s) ∧ ∃ m, 1 ≤ m ∧ m ≤ 8 ∧ w = nI m) ∧ r = some (.int (-1)) ∧ S' = (gS, I, J, gR p, ro)) ∨ ∃ s m, s < 6 ∧ x = nI s ∧ 1 ≤ m ∧ m ≤ 8 ∧ w = nI m ∧ (((I (53 + 2 * s) 1 = nI 0) ∧ r = some (.int (nI 0)) ∧ S' = (gS, I, J, gR p, ro)) ∨ (¬ (I (53 + 2 * s) 1 = nI 0) ∧ ¬ (I (53 + 2 * s) 1 = nI 2 ∧ I (53 + 2 * s) 3 = nI 0) ∧ r = some (.int (-12)) ∧ S' = (gS, I, J, gR p, ro)) ∨ (¬ (I (53 + 2 * s) 1 = nI 0) ∧ (I (53 + 2 * s) 1 = nI 2 ∧ I (53 + 2 * s) 3 = nI 0) ∧ ((y < 0 ∧ r = some (.int (nI 0)) ∧ S' = (gS, I, J, gR p, ro)) ∨ ∃ q, q < 2 ^ 31 ∧ y = nI q ∧ r = some (.int (nI (sp_li (fun j => (J (54 + 2 * s) j).toInt32) (mN (I (53 + 2 * s) 4)) m q 0 (I 2, I 3, I 4, n)).2)) ∧ ∃ I', S' = (gS, I', J, gR p, ro) ∧ LM I (sp_li (fun j => (J (54 + 2 * s) j).toInt32) (mN (I (53 + 2 * s) 4)) m q 0 (I 2, I 3, I 4, n)).1 I')))) := by
  refine ⟨okCX11_lines, Nat.le_of_ble_eq_true rfl, (show Px _ _ _ _ 0 [some (.ref (0)), some (.int (x)), some (.int (y)), some (.int (w)), none] [] _ _ from ?_)⟩
  refine px_iload_n (kk := 1) rfl rfl rfl ?_
  refine px_callS0 CX11_isShelf [] [.int _] (vX11_isShelf) rfl rfl rfl (Nat.le_of_ble_eq_true rfl) (by decide) ?_
  rintro _ _ - (⟨⟨s, hs, rfl⟩, rfl, rfl⟩ | ⟨hs, rfl, rfl⟩)
  · refine px_if_eq rfl (fun h => absurd h (by decide)) (fun _ => ?_)
    refine px_iload_n (kk := 3) rfl rfl rfl ?_
    refine px_iconst (v := nI 1) rfl k_1 ?_
    refine px_icmp_lt rfl (fun c5 => ?_) (fun c5 => ?_)
    · refine px_iconst (v := -1) rfl k_m1 ?_
      refine px_ireturn rfl (.inl rfl) ?_
      exact .inl ⟨fun ⟨_, m, h1, h2, e⟩ => by subst e; rw [n_lt (by omega) (by omega)] at c5; omega, rfl, rfl⟩
    · refine px_iload_n (kk := 3) rfl rfl rfl ?_
      refine px_bipush (v := nI 8) rfl b_8 ?_
      refine px_icmp_le rfl (fun c8 => ?_) (fun c8 => ?_)
      · obtain ⟨m, hm, rfl⟩ : ∃ m, m < 2 ^ 31 ∧ w = nI m := n_ofn (fun e => by rw [i_lt, i_0] at e; rw [i_lt, nI_toInt (by decide)] at c5; omega)
        rw [n_lt hm (by omega)] at c5
        replace c5 : 1 ≤ m := by omega
        rw [n_le hm (by omega)] at c8
        refine px_aload_n (kk := 0) rfl rfl rfl ?_
        refine px_getR (r := 52) rfl gS_0 rfl (gR_0_9 _) ?_
        refine px_iload_n (kk := 1) rfl rfl rfl ?_
        refine px_aald (j := s) (r := 53 + 2 * s) rfl gS_52 rfl hs (gR_52v hs _) ?_
        refine px_ast4 rfl rfl (by decide) ?_
        refine px_aload rfl rfl ?_
        refine px_callV0 CX7_isEmpty [] [] (vX7_isEmpty hs) rfl (gS_sh s hs) (by decide) rfl rfl rfl (Nat.le_of_ble_eq_true rfl) (by decide) ?_
        rintro _ _ - (⟨he, rfl, rfl⟩ | ⟨he, rfl, rfl⟩)
        · refine px_if_eq rfl (fun h => absurd h (by decide)) (fun _ => ?_)
          refine px_iconst (v := nI 0) rfl k_0 ?_
          refine px_ireturn rfl (.inl rfl) ?_
          exact .inr ⟨s, m, hs, rfl, c5, c8, rfl, .inl ⟨he, rfl, rfl⟩⟩
        · refine px_if_eq rfl (fun _ => ?_) (fun h => absurd h (by decide))
          refine px_aload rfl rfl ?_
          refine px_callV0 CX7_isBytes [] [] (vX7_isBytes hs) rfl (gS_sh s hs) (by decide) rfl rfl rfl (Nat.le_of_ble_eq_true rfl) (by decide) ?_
          rintro _ _ - (⟨hb, rfl, rfl⟩ | ⟨hb, rfl, rfl⟩)
          · refine px_if_ne rfl (fun _ => ?_) (fun h => absurd h (by decide))
            refine px_iload_n (kk := 2) rfl rfl rfl ?_
            refine px_if_ge rfl (fun c27 => ?_) (fun c27 => ?_)
            · have c27n : ¬ y < 0 := fun e => by rw [i_lt] at e; rw [i_le] at c27; omega
              obtain ⟨q, hq, rfl⟩ := n_ofn c27n
              obtain ⟨z, hz60, hz⟩ := hSH s hs
              refine px_aload_n (kk := 0) rfl rfl rfl ?_
              refine px_aload rfl rfl ?_
              refine px_iload_n (kk := 2) rfl rfl rfl ?_
              refine px_iload_n (kk := 3) rfl rfl rfl ?_
              refine px_callV0 CX11_linesFrom [] [.ref _, .int _, .int _] (vX11_linesFrom hn hn8 hs hz hz60 c8 c5 hq) rfl gS_0 (by decide) rfl rfl rfl (Nat.le_of_ble_eq_true rfl) (by decide) ?_
              rintro _ _ - ⟨rfl, I2, rfl, hL⟩
              refine px_ireturn rfl (.inl rfl) ?_
              exact .inr ⟨s, m, hs, rfl, c5, c8, rfl, .inr (.inr ⟨he, hb, .inr ⟨q, hq, rfl, by rw [hz, mN_n (by omega)], I2, rfl, by rw [hz, mN_n (by omega)]; exact hL⟩⟩)⟩
            · refine px_iconst (v := nI 0) rfl k_0 ?_
              refine px_goto rfl ?_
              refine px_ireturn rfl (.inl rfl) ?_
              exact .inr ⟨s, m, hs, rfl, c5, c8, rfl, .inr (.inr ⟨he, hb, .inl ⟨by rw [i_lt]; rw [i_le] at c27; omega, rfl, rfl⟩⟩)⟩
          · refine px_if_ne rfl (fun h => absurd h (by decide)) (fun _ => ?_)
            refine px_bipush (v := -12) rfl b_m12 ?_
            refine px_ireturn rfl (.inl rfl) ?_
            exact .inr ⟨s, m, hs, rfl, c5, c8, rfl, .inr (.inl ⟨he, hb, rfl, rfl⟩)⟩
      · refine px_iconst (v := -1) rfl k_m1 ?_
        refine px_ireturn rfl (.inl rfl) ?_
        exact .inl ⟨fun ⟨_, m, h1, h2, e⟩ => by subst e; rw [n_le (by omega) (by omega)] at c8; omega, rfl, rfl⟩
  · refine px_if_eq rfl (fun _ => ?_) (fun h => absurd h (by decide))
    refine px_iconst (v := -1) rfl k_m1 ?_
    refine px_ireturn rfl (.inl rfl) ?_
    exact .inl ⟨fun h => hs h.1, rfl, rfl⟩
