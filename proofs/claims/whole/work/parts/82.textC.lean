/-! the class reads lines, and becomes a law -/
theorem HC_set {f : Nat → Int32} {a b : List Int32} {x y : Int32} (h : HC f 0 (a ++ x :: b)) : HC (va_up f a.length y) 0 (a ++ y :: b) := by
  obtain ⟨h1, h2, h3⟩ := HC_app.mp h
  refine HC_app.mpr ⟨HC_congr (fun j _ hj => p_up_n _ _ (by omega)) h1, ?_, HC_congr (fun j hj _ => p_up_n _ _ (by omega)) h3⟩
  rw [Nat.zero_add, p_up_s]
theorem LSc_set {b : Bool} {I I1 : Nat → Nat → Int32} {a : Nat} {m w : List Int32} {x y : Int32} (h : LSc b I a (m ++ x :: w) I1) : LSc b I a (m ++ y :: w) (va_up I1 (gB b) (va_up (I1 (gB b)) m.length y)) := by
  obtain ⟨⟨h1, h2, h3⟩, h4, h5⟩ := h
  refine ⟨⟨Fr_up h1 (List.mem_cons_of_mem _ List.mem_cons_self) _, fun k z1 z2 => ?_, ?_⟩, ?_, ?_⟩
  · rw [p_up_n _ _ (gB_x b).1.symm]; exact h2 k z1 z2
  · rw [p_up_n _ _ (gB_x b).1.symm]; exact h3
  · rw [p_up_n _ _ (gB_x b).1.symm, h4]; simp only [List.length_append, List.length_cons]
  · rw [p_up_s]; exact HC_set h5
theorem m59 : (-59 : Int32) = -(nI 59) := by decide +kernel
theorem m63 : (-63 : Int32) = -(nI 63) := by decide +kernel
theorem sp_ln_g {c : Nat → Nat} {T : Nat} (hT : TP c T) {a : Nat} (ha : a ≤ T) : (∀ q ln, sp_ln c a = (q, some ln) → a < q ∧ q ≤ T ∧ ln.1.length + ln.2.length + a ≤ q ∧ lnOK ln ∧ ∀ k, (codeL k ln).length ≤ 2 * (q - a)) ∧ ∀ q, sp_ln c a = (q, none) → a ≤ q ∧ q ≤ T := by
  unfold sp_ln
  have hG := sp_E_g hT ha
  have hD := fun q t (e : sp_E c a = (q, some t)) => sp_E_d e
  generalize sp_E c a = R at hG hD ⊢
  obtain ⟨q, _ | t⟩ := R
  · exact ⟨fun q l e => (by cases e), fun q e => by cases e; exact hG.2 q rfl⟩
  · have h1 := hG.1 q t rfl
    by_cases h : c q = 63
    · simp only [if_pos h]
      have hqT : q < T := TP_lt hT (by rw [h]; decide)
      have hG2 := sp_E_g hT (p := q + 1) hqT
      have hD2 := fun q2 t (e : sp_E c (q + 1) = (q2, some t)) => sp_E_d e
      generalize sp_E c (q + 1) = R at hG2 hD2 ⊢
      obtain ⟨w, _ | u⟩ := R
      · exact ⟨fun q l e => (by cases e), fun q2 e => by cases e; have := hG2.2 w rfl; exact ⟨by omega, this.2⟩⟩
      · have h2 := hG2.1 w u rfl
        refine ⟨fun q2 l e => ?_, fun q e => (by cases e)⟩
        cases e
        have ht : t ≠ [] := fun e => by rw [e] at h1; simp at h1
        refine ⟨by omega, h2.2.1, by show t.length + u.length + a ≤ w; omega, ⟨fun _ => hD q t rfl, hD2 w u rfl⟩, fun k => ?_⟩
        rw [codeL_len, if_neg ht]
        show t.length + u.length + 3 ≤ _
        omega
    · simp only [if_neg h]
      refine ⟨fun q2 l e => ?_, fun q e => (by cases e)⟩
      cases e
      refine ⟨h1.1, h1.2.1, by show 0 + t.length + a ≤ q; omega, ⟨fun z => absurd rfl z, hD q t rfl⟩, fun k => ?_⟩
      rw [codeL_len, if_pos rfl]
      show t.length + 1 ≤ _
      omega
theorem vX3_readLine {I : Nat → Nat → Int32} {J : Nat → Nat → Int64} {p : Bool × Option Nat} {ro : List (Nat × Nat × (Nat → Int32))} {c : Nat → Nat} {T : Nat} (hT : TP c T) (hLT : LTc c T I) {a : Nat} (ha : a ≤ T) {l : List Int32} {I1 : Nat → Nat → Int32} (hS : LSc p.1 I a l I1) (hb : l.length + 2 * (T - a) ≤ 250) : Pv 57 0 0 CX3_readLine [.ref (6)] (gS, I1, J, gR p, ro) (fun rr S' => (∃ q ln I', sp_ln c a = (q, some ln) ∧ rr = some (.int (nI 1)) ∧ S' = (gS, I', J, gR p, ro) ∧ LSc p.1 I q (l ++ codeL l.length ln) I') ∨ (∃ q I', sp_ln c a = (q, none) ∧ rr = some (.int (nI 0)) ∧ S' = (gS, I', J, gR p, ro) ∧ LFc p.1 I q I')) := by
  refine ⟨okCX3_readLine, Nat.le_of_ble_eq_true rfl, (show Px _ _ _ _ 0 [some (.ref (6)), none] [] _ _ from ?_)⟩
  refine px_aload_n (kk := 0) rfl rfl rfl ?_
  refine px_iconst (v := nI 0) rfl k_0 ?_
  refine px_iconst (v := nI 0) rfl k_0 ?_
  refine px_callV0 CX3_readLevel [] [.int _, .int _] (vX3_E hT hLT ha hS hb) rfl gS_6 (by decide) rfl rfl rfl (Nat.le_of_ble_eq_true rfl) (by decide) ?_
  rintro _ _ - (⟨q, t, I2, hRq, rfl, rfl, hSq⟩ | ⟨q, I2, hRq, rfl, rfl, hFq⟩)
  · have hg := (sp_E_g hT ha).1 q t hRq
    have hl2 : (l ++ t.map cT).length = l.length + t.length := by rw [List.length_append, List.length_map]
    refine px_if_ne rfl (fun _ => ?_) (fun h => absurd h (by decide))
    refine px_aload_n (kk := 0) rfl rfl rfl ?_
    refine px_callV0 CX3_sign [] [] (vX3_sg hT hLT hg.2.1 hSq.1) rfl gS_6 (by decide) rfl rfl rfl (Nat.le_of_ble_eq_true rfl) (by decide) ?_
    rintro _ _ - ⟨rfl, rfl⟩
    refine px_bipush (v := nI 63) rfl b_63 ?_
    refine px_icmp_eq rfl (fun c10 => ?_) (fun c10 => ?_)
    · have e63 : c q = 63 := (sV_eq (TP_b hT q) (by decide)).mp (by first | exact c10 | exact Classical.byContradiction c10)
      have hqT : q < T := TP_lt hT (by omega)
      refine px_aload_n (kk := 0) rfl rfl rfl ?_
      refine px_dup rfl rfl ?_
      refine px_getIe (v := nI q) rfl gS_6 rfl hSq.1.2.2 ?_
      refine px_iconst (v := nI 1) rfl k_1 ?_
      refine px_iaddN rfl ?_
      refine px_putI rfl gS_6 rfl rfl ?_
      refine px_aload_n (kk := 0) rfl rfl rfl ?_
      refine px_bipush (v := -63) rfl b_m63 ?_
      refine px_callV0 CX3_write [] [.int _] (vX3_wr (LSc_at hSq (q + 1)) (by omega)) rfl gS_6 (by decide) rfl rfl rfl (Nat.le_of_ble_eq_true rfl) (by decide) ?_
      rintro _ _ - ⟨rfl, I3, rfl, hS3⟩
      have hl3 : (l ++ t.map cT ++ [-63]).length = l.length + t.length + 1 := by simp only [List.length_append, List.length_map, List.length_cons, List.length_nil]
      refine px_aload_n (kk := 0) rfl rfl rfl ?_
      refine px_getIe (v := nI (l ++ t.map cT ++ [-63]).length) rfl gS_6 rfl hS3.2.1 ?_
      refine px_ist1 rfl rfl (by decide) ?_
      refine px_aload_n (kk := 0) rfl rfl rfl ?_
      refine px_iconst (v := nI 0) rfl k_0 ?_
      refine px_callV0 CX3_write [] [.int _] (vX3_wr hS3 (by rw [hl3]; omega)) rfl gS_6 (by decide) rfl rfl rfl (Nat.le_of_ble_eq_true rfl) (by decide) ?_
      rintro _ _ - ⟨rfl, I4, rfl, hS4⟩
      have hl4 : (l ++ t.map cT ++ [-63] ++ [nI 0]).length = l.length + t.length + 2 := by simp only [List.length_append, List.length_map, List.length_cons, List.length_nil]
      refine px_aload_n (kk := 0) rfl rfl rfl ?_
      refine px_iconst (v := nI 0) rfl k_0 ?_
      refine px_iconst (v := nI 0) rfl k_0 ?_
      refine px_callV0 CX3_readLevel [] [.int _, .int _] (vX3_E hT hLT (a := q + 1) (by omega) hS4 (by rw [hl4]; omega)) rfl gS_6 (by decide) rfl rfl rfl (Nat.le_of_ble_eq_true rfl) (by decide) ?_
      rintro _ _ - (⟨w, u, I5, hRw, rfl, rfl, hSw⟩ | ⟨w, I5, hRw, rfl, rfl, hFw⟩)
      · have hg2 := (sp_E_g hT (p := q + 1) (by omega)).1 w u hRw
        have hl5 : (l ++ t.map cT ++ [-63] ++ [nI 0] ++ u.map cT).length = l.length + t.length + 2 + u.length := by rw [List.length_append, hl4, List.length_map]
        refine px_if_ne rfl (fun _ => ?_) (fun h => absurd h (by decide))
        refine px_aload_n (kk := 0) rfl rfl rfl ?_
        refine px_bipush (v := -59) rfl b_m59 ?_
        refine px_callV0 CX3_write [] [.int _] (vX3_wr hSw (by rw [hl5]; omega)) rfl gS_6 (by decide) rfl rfl rfl (Nat.le_of_ble_eq_true rfl) (by decide) ?_
        rintro _ _ - ⟨rfl, I6, rfl, hS6⟩
        have hl6 : (l ++ t.map cT ++ [-63] ++ [nI 0] ++ u.map cT ++ [-59]).length = l.length + t.length + u.length + 3 := by rw [List.length_append, hl5, List.length_cons, List.length_nil]; omega
        refine px_iload_n (kk := 1) rfl rfl rfl ?_
        refine px_sipush (v := nI 256) rfl s_256 ?_
        refine px_icmp_ge rfl (fun h => absurd h (by rw [hl3, n_le (by omega) (by omega)]; omega)) (fun c43 => ?_)
        refine px_aload_n (kk := 0) rfl rfl rfl ?_
        refine px_getR (r := (gB p.1)) rfl gS_6 rfl (gR_6_4 _) ?_
        refine px_iload_n (kk := 1) rfl rfl rfl ?_
        refine px_aload_n (kk := 0) rfl rfl rfl ?_
        refine px_getIe (v := nI (l ++ t.map cT ++ [-63] ++ [nI 0] ++ u.map cT ++ [-59]).length) rfl gS_6 rfl hS6.2.1 ?_
        refine px_iast (j := (l ++ t.map cT ++ [-63]).length) rfl (gS_B _) rfl (by rw [hl3]; omega) ?_
        refine px_iconst (v := nI 1) rfl k_1 ?_
        refine px_ireturn rfl (.inr ⟨rfl, by decide⟩) ?_
        refine .inl ⟨w, (t, u), _, ?_, rfl, rfl, ?_⟩
        · unfold sp_ln
          rw [hRq]
          simp only [if_pos e63, hRw]
        · have ht : t ≠ [] := fun e => by rw [e] at hg; simp at hg
          rw [List.append_assoc (l ++ t.map cT ++ [-63] ++ [nI 0]), List.append_assoc (l ++ t.map cT ++ [-63])] at hS6
          have h7 := LSc_set (y := nI (l ++ t.map cT ++ [-63] ++ [nI 0] ++ u.map cT ++ [-59]).length) (show LSc p.1 I w ((l ++ t.map cT ++ [-63]) ++ nI 0 :: (u.map cT ++ [-59])) I6 from hS6)
          rw [hl6, m59, m63] at h7
          have e : l ++ codeL l.length (t, u) = (l ++ t.map cT ++ [-(nI 63)]) ++ nI (l.length + t.length + u.length + 3) :: (u.map cT ++ [-(nI 59)]) := by
            rw [codeL, if_neg ht]
            simp only [List.append_assoc, List.cons_append, List.nil_append]
          rw [e, hl6, m63]
          exact h7
      · refine px_if_ne rfl (fun h => absurd h (by decide)) (fun _ => ?_)
        refine px_iconst (v := nI 0) rfl k_0 ?_
        refine px_ireturn rfl (.inr ⟨rfl, by decide⟩) ?_
        refine .inr ⟨w, I5, ?_, rfl, rfl, hFw⟩
        unfold sp_ln
        rw [hRq]
        simp only [if_pos e63, hRw]
    · refine px_aload_n (kk := 0) rfl rfl rfl ?_
      refine px_bipush (v := -59) rfl b_m59 ?_
      refine px_callV0 CX3_write [] [.int _] (vX3_wr hSq (by omega)) rfl gS_6 (by decide) rfl rfl rfl (Nat.le_of_ble_eq_true rfl) (by decide) ?_
      rintro _ _ - ⟨rfl, I3, rfl, hS3⟩
      refine px_iconst (v := nI 1) rfl k_1 ?_
      refine px_ireturn rfl (.inr ⟨rfl, by decide⟩) ?_
      refine .inl ⟨q, ([], t), I3, ?_, rfl, rfl, ?_⟩
      · unfold sp_ln
        rw [hRq]
        simp only [if_neg (fun e => c10 ((sV_eq (TP_b hT q) (by decide)).mpr e))]
      · rw [m59, List.append_assoc] at hS3
        exact hS3
  · refine px_if_ne rfl (fun h => absurd h (by decide)) (fun _ => ?_)
    refine px_iconst (v := nI 0) rfl k_0 ?_
    refine px_ireturn rfl (.inr ⟨rfl, by decide⟩) ?_
    refine .inr ⟨q, I2, ?_, rfl, rfl, hFq⟩
    unfold sp_ln
    rw [hRq]
theorem codeC_snoc : ∀ {a : List Ln} {q : Ln} {k : Nat}, codeC k (a ++ [q]) = codeC k a ++ codeL (k + (codeC k a).length) q
  | [], q, k => by simp [codeC]
  | x :: a, q, k => by
    simp only [List.cons_append, codeC, List.length_append, List.append_assoc]
    rw [codeC_snoc, Nat.add_assoc]
theorem lX3_text {I : Nat → Nat → Int32} {J : Nat → Nat → Int64} {p : Bool × Option Nat} {ro : List (Nat × Nat × (Nat → Int32))} {c : Nat → Nat} {T : Nat} (hT : TP c T) (hLT : LTc c T I) {a : Nat} (ha : a ≤ T) {acc : List Ln} (hok : ∀ x ∈ acc, lnOK x) {I1 : Nat → Nat → Int32} (hS : LSc p.1 I a (codeC 0 acc) I1) (hb : (codeC 0 acc).length + 2 * (T - a) ≤ 250) {n k : Nat} (hk : k ≤ a) (hnk : n + k = 121) : Px 58 0 0 CX3_readText 2 [some (.ref (6)), some (.int (nI k))] [] (gS, I1, J, gR p, ro) (fun rr S' => (∃ q tx I', sp_tx c n a acc = (q, some tx) ∧ q = T ∧ tx ≠ [] ∧ (∀ x ∈ tx, lnOK x) ∧ (codeC 0 tx).length ≤ 250 ∧ rr = some (.int (nI 1)) ∧ S' = (gS, I', J, gR p, ro) ∧ LSc p.1 I q (codeC 0 tx) I') ∨ (∃ q I', sp_tx c n a acc = (q, none) ∧ rr = some (.int (nI 0)) ∧ S' = (gS, I', J, gR p, ro) ∧ LFc p.1 I q I' ∧ q ≤ 120)) := by
  refine px_iload_n (kk := 1) rfl rfl rfl ?_
  refine px_bipush (v := nI 120) rfl b_120 ?_
  refine px_icmp_gt rfl (fun h => absurd h (by have := hT.1; rw [n_lt (by omega) (by omega)]; omega)) (fun c4 => ?_)
  have hTT := hT.1
  obtain ⟨n, rfl⟩ : ∃ m, n = m + 1 := ⟨n - 1, by omega⟩
  refine px_aload_n (kk := 0) rfl rfl rfl ?_
  refine px_callV0 CX3_readLine [] [] (vX3_readLine hT hLT ha hS hb) rfl gS_6 (by decide) rfl rfl rfl (Nat.le_of_ble_eq_true rfl) (by decide) ?_
  rintro _ _ - (⟨q, ln, I3, hRq, rfl, rfl, hSq⟩ | ⟨q, I3, hRq, rfl, rfl, hFq⟩)
  · have hg := (sp_ln_g hT ha).1 q ln hRq
    have hcl := hg.2.2.2.2 (codeC 0 acc).length
    have hsn : codeC 0 (acc ++ [ln]) = codeC 0 acc ++ codeL (codeC 0 acc).length ln := by rw [codeC_snoc, Nat.zero_add]
    rw [← hsn] at hSq
    have hln : (codeC 0 (acc ++ [ln])).length = (codeC 0 acc).length + (codeL (codeC 0 acc).length ln).length := by rw [hsn, List.length_append]
    have hok2 : ∀ x ∈ acc ++ [ln], lnOK x := fun x hx => (List.mem_append.mp hx).elim (hok x) (fun e => by rw [List.mem_singleton.mp e]; exact hg.2.2.2.1)
    refine px_if_ne rfl (fun _ => ?_) (fun h => absurd h (by decide))
    refine px_aload_n (kk := 0) rfl rfl rfl ?_
    refine px_getIe (v := nI q) rfl gS_6 rfl hSq.1.2.2 ?_
    refine px_aload_n (kk := 0) rfl rfl rfl ?_
    refine px_getIe (v := nI T) rfl gS_6 rfl ((hSq.1.2.1 5 (by decide) (by decide)).trans hLT.1) ?_
    refine px_icmp_lt rfl (fun c14 => ?_) (fun c14 => ?_)
    · refine px_aload_n (kk := 0) rfl rfl rfl ?_
      refine px_callV0 CX3_sign [] [] (vX3_sg hT hLT hg.2.1 hSq.1) rfl gS_6 (by decide) rfl rfl rfl (Nat.le_of_ble_eq_true rfl) (by decide) ?_
      rintro _ _ - ⟨rfl, rfl⟩
      refine px_bipush (v := nI 59) rfl b_59 ?_
      refine px_icmp_eq rfl (fun c20 => ?_) (fun c20 => ?_)
      · refine px_aload_n (kk := 0) rfl rfl rfl ?_
        refine px_dup rfl rfl ?_
        refine px_getIe (v := nI q) rfl gS_6 rfl hSq.1.2.2 ?_
        refine px_iconst (v := nI 1) rfl k_1 ?_
        refine px_iaddN rfl ?_
        refine px_putI rfl gS_6 rfl rfl ?_
        refine px_iinc1 (v := nI (k + 1)) rfl (n_inc k) rfl (by decide) ?_
        refine px_goto rfl ?_
        have e59 : c q = 59 := (sV_eq (TP_b hT q) (by decide)).mp (by first | exact c20 | exact Classical.byContradiction c20)
        have hqT : q < T := TP_lt hT (by omega)
        have hu : sp_tx c (n + 1) a acc = sp_tx c n (q + 1) (acc ++ [ln]) := by
          conv => lhs; unfold sp_tx
          rw [hRq]
          simp only [if_neg (show ¬ c q = 256 by omega), if_pos e59]
        rw [hu]
        exact lX3_text hT hLT (a := q + 1) (by omega) hok2 (LSc_at hSq (q + 1)) (by omega) (n := n) (k := k + 1) (by omega) (by omega)
      · refine px_iconst (v := nI 0) rfl k_0 ?_
        refine px_ireturn rfl (.inr ⟨rfl, by decide⟩) ?_
        rw [n_lt (by omega) (by omega)] at c14
        have hn6 : ¬ c q = 256 := fun e => by have := hT.2.1 q c14; omega
        refine .inr ⟨q, I3, ?_, rfl, rfl, hSq.1, by omega⟩
        unfold sp_tx
        rw [hRq]
        simp only [if_neg hn6, if_neg (fun e => c20 ((sV_eq (TP_b hT q) (by decide)).mpr e))]
    · refine px_iconst (v := nI 1) rfl k_1 ?_
      refine px_ireturn rfl (.inr ⟨rfl, by decide⟩) ?_
      rw [n_lt (by omega) (by omega)] at c14
      refine .inl ⟨q, acc ++ [ln], I3, ?_, by omega, by simp, hok2, by omega, rfl, rfl, hSq⟩
      unfold sp_tx
      rw [hRq]
      simp only [if_pos (hT.2.2 q (by omega))]
  · have hgn := (sp_ln_g hT ha).2 q hRq
    refine px_if_ne rfl (fun h => absurd h (by decide)) (fun _ => ?_)
    refine px_iconst (v := nI 0) rfl k_0 ?_
    refine px_ireturn rfl (.inr ⟨rfl, by decide⟩) ?_
    refine .inr ⟨q, I3, ?_, rfl, rfl, hFq, by omega⟩
    unfold sp_tx
    rw [hRq]
termination_by n
decreasing_by all_goals omega
theorem vX3_readText {I : Nat → Nat → Int32} {J : Nat → Nat → Int64} {p : Bool × Option Nat} {ro : List (Nat × Nat × (Nat → Int32))} {c : Nat → Nat} {T : Nat} (hT : TP c T) (hLT : LTc c T I) {I1 : Nat → Nat → Int32} (hS : LSc p.1 I 0 [] I1) : Pv 58 0 0 CX3_readText [.ref (6)] (gS, I1, J, gR p, ro) (fun rr S' => (∃ q tx I', sp_tx c 121 0 [] = (q, some tx) ∧ q = T ∧ tx ≠ [] ∧ (∀ x ∈ tx, lnOK x) ∧ (codeC 0 tx).length ≤ 250 ∧ rr = some (.int (nI 1)) ∧ S' = (gS, I', J, gR p, ro) ∧ LSc p.1 I q (codeC 0 tx) I') ∨ (∃ q I', sp_tx c 121 0 [] = (q, none) ∧ rr = some (.int (nI 0)) ∧ S' = (gS, I', J, gR p, ro) ∧ LFc p.1 I q I' ∧ q ≤ 120)) := by
  refine ⟨okCX3_readText, Nat.le_of_ble_eq_true rfl, (show Px _ _ _ _ 0 [some (.ref (6)), none] [] _ _ from ?_)⟩
  refine px_iconst (v := nI 0) rfl k_0 ?_
  refine px_ist1 rfl rfl (by decide) ?_
  have hTT := hT.1
  exact lX3_text hT hLT (a := 0) (by omega) (acc := []) (fun x h => absurd h List.not_mem_nil) hS (by show 0 + 2 * (T - 0) ≤ 250; omega) (n := 121) (k := 0) (by omega) (by omega)
theorem gR_swap (p : Bool × Option Nat) : va_up (va_up (gR p) 6 (va_up (gR p 6) 3 (some (gB p.1)))) 6 (va_up (va_up (gR p) 6 (va_up (gR p 6) 3 (some (gB p.1))) 6) 4 (some (gA p.1))) = gR (!p.1, p.2) := by
  funext c k
  by_cases hc : c = 6
  · subst hc
    rw [p_up_s, p_up_s]
    by_cases h4 : k = 4
    · subst h4
      rw [p_up_s]
      obtain ⟨b, x⟩ := p
      cases b <;> rfl
    · rw [p_up_n _ _ h4]
      by_cases h3 : k = 3
      · subst h3
        rw [p_up_s]
        obtain ⟨b, x⟩ := p
        cases b <;> rfl
      · rw [p_up_n _ _ h3]
        simp [gR, h3, h4]
  · rw [p_up_n _ _ hc, p_up_n _ _ hc]
    simp [gR, hc]
theorem vX3_become {I : Nat → Nat → Int32} {J : Nat → Nat → Int64} {p : Bool × Option Nat} {ro : List (Nat × Nat × (Nat → Int32))} {c : Nat → Nat} {T : Nat} (hT : TP c T) (hLT : LTc c T I) : Pv 59 0 0 CX3_become [.ref (6)] (gS, I, J, gR p, ro) (fun rr S' => (∃ q I', sp_tx c 121 0 [] = (q, none) ∧ q ≤ 120 ∧ rr = some (.int (nI q)) ∧ S' = (gS, I', J, gR p, ro) ∧ Fr [6, gB p.1] I I' ∧ I' 6 5 = nI 0 ∧ (∀ k, k ≠ 5 → k ≠ 7 → k ≠ 8 → I' 6 k = I 6 k)) ∨ (∃ q tx I', sp_tx c 121 0 [] = (q, some tx) ∧ rr = some (.int (-1)) ∧ S' = (gS, I', J, gR (!p.1, p.2), ro) ∧ Fr [6, gB p.1] I I' ∧ I' 6 5 = nI 0 ∧ (∀ k, k ≠ 5 → k ≠ 6 → k ≠ 7 → k ≠ 8 → I' 6 k = I 6 k) ∧ tx ≠ [] ∧ LawC tx (!p.1, p.2) I')) := by
  refine ⟨okCX3_become, Nat.le_of_ble_eq_true rfl, (show Px _ _ _ _ 0 [some (.ref (6)), none, none, none] [] _ _ from ?_)⟩
  refine px_aload_n (kk := 0) rfl rfl rfl ?_
  refine px_iconst (v := nI 0) rfl k_0 ?_
  refine px_putI rfl gS_6 rfl rfl ?_
  refine px_aload_n (kk := 0) rfl rfl rfl ?_
  refine px_iconst (v := nI 0) rfl k_0 ?_
  refine px_putI rfl gS_6 rfl rfl ?_
  refine px_aload_n (kk := 0) rfl rfl rfl ?_
  refine px_callV0 CX3_readText [] [] (vX3_readText hT hLT (show LSc p.1 I 0 [] (va_up (va_up I 6 (va_up (I 6) 8 (nI 0))) 6 (va_up (va_up I 6 (va_up (I 6) 8 (nI 0)) 6) 7 (nI 0))) from ⟨⟨Fr_up (Fr_up Fr_rf List.mem_cons_self _) List.mem_cons_self _, fun k h1 h2 => by rw [p_up_s, p_up_n _ _ h1, p_up_s, p_up_n _ _ h2], by rw [p_up_s, p_up_n _ _ (by decide), p_up_s, p_up_s]⟩, by rw [p_up_s, p_up_s]; rfl, trivial⟩)) rfl gS_6 (by decide) rfl rfl rfl (Nat.le_of_ble_eq_true rfl) (by decide) ?_
  rintro _ _ - (⟨q, tx, I3, hR, hqT, hne, hok, hlen, rfl, rfl, hS3⟩ | ⟨q, I3, hR, rfl, rfl, hF3, hq120⟩)
  · refine px_ist1 rfl rfl (by decide) ?_
    refine px_aload_n (kk := 0) rfl rfl rfl ?_
    refine px_getIe (v := nI q) rfl gS_6 rfl (by first | exact hS3.1.2.2 | exact hF3.2.2) ?_
    refine px_ist2 rfl rfl (by decide) ?_
    refine px_aload_n (kk := 0) rfl rfl rfl ?_
    refine px_iconst (v := nI 0) rfl k_0 ?_
    refine px_putI rfl gS_6 rfl rfl ?_
    refine px_iload_n (kk := 1) rfl rfl rfl ?_
    refine px_if_ne rfl (fun _ => ?_) (fun h => absurd h (by decide))
    refine px_aload_n (kk := 0) rfl rfl rfl ?_
    refine px_getR (r := (gA p.1)) rfl gS_6 rfl (gR_6_3 _) ?_
    refine px_ast3 rfl rfl (by decide) ?_
    refine px_aload_n (kk := 0) rfl rfl rfl ?_
    refine px_aload_n (kk := 0) rfl rfl rfl ?_
    refine px_getR (r := (gB p.1)) rfl gS_6 rfl (gR_6_4 _) ?_
    refine px_putR rfl gS_6 rfl rfl ?_
    refine px_aload_n (kk := 0) rfl rfl rfl ?_
    refine px_aload_n (kk := 3) rfl rfl rfl ?_
    refine px_putR rfl gS_6 rfl rfl ?_
    refine px_aload_n (kk := 0) rfl rfl rfl ?_
    refine px_aload_n (kk := 0) rfl rfl rfl ?_
    refine px_getI rfl gS_6 rfl ?_
    refine px_putI rfl gS_6 rfl rfl ?_
    refine px_iconst (v := -1) rfl k_m1 ?_
    refine px_ireturn rfl (.inl rfl) ?_
    rw [gR_swap]
    refine .inr ⟨q, tx, _, hR, rfl, rfl, Fr_up (Fr_up hS3.1.1 List.mem_cons_self _) List.mem_cons_self _, ?_, fun k h1 h2 h3 h4 => ?_, hne, ?_, by omega, ?_, hok⟩
    · rw [p_up_s, p_up_n _ _ (by decide), p_up_s, p_up_s]
    · rw [p_up_s, p_up_n _ _ h2, p_up_s, p_up_n _ _ h1]; exact hS3.1.2.1 k h3 h4
    · rw [p_up_s, p_up_s, p_up_s, p_up_n _ _ (by decide)]; exact hS3.2.1
    · rw [show gA (!p.1) = gB p.1 from by cases p.1 <;> rfl, p_up_n _ _ (gB_x p.1).1, p_up_n _ _ (gB_x p.1).1]; exact hS3.2.2
  · refine px_ist1 rfl rfl (by decide) ?_
    refine px_aload_n (kk := 0) rfl rfl rfl ?_
    refine px_getIe (v := nI q) rfl gS_6 rfl (by first | exact hS3.1.2.2 | exact hF3.2.2) ?_
    refine px_ist2 rfl rfl (by decide) ?_
    refine px_aload_n (kk := 0) rfl rfl rfl ?_
    refine px_iconst (v := nI 0) rfl k_0 ?_
    refine px_putI rfl gS_6 rfl rfl ?_
    refine px_iload_n (kk := 1) rfl rfl rfl ?_
    refine px_if_ne rfl (fun h => absurd h (by decide)) (fun _ => ?_)
    refine px_iload_n (kk := 2) rfl rfl rfl ?_
    refine px_ireturn rfl (.inl rfl) ?_
    refine .inl ⟨q, _, hR, hq120, rfl, rfl, Fr_up hF3.1 List.mem_cons_self _, by rw [p_up_s, p_up_s], fun k h1 h2 h3 => ?_⟩
    rw [p_up_s, p_up_n _ _ h1]; exact hF3.2.1 k h2 h3
theorem vX11_law {I : Nat → Nat → Int32} {J : Nat → Nat → Int64} {p : Bool × Option Nat} {ro : List (Nat × Nat × (Nat → Int32))} {c : Nat → Nat} {T : Nat} (hT : TP c T) (hLT : LTc c T I) : Pv 60 0 0 CX11_law [.ref (0)] (gS, I, J, gR p, ro) (fun rr S' => (∃ q I', sp_tx c 121 0 [] = (q, none) ∧ rr = some (.int (-100 - nI q)) ∧ S' = (gS, I', J, gR p, ro) ∧ Fr [6, gB p.1] I I' ∧ I' 6 5 = nI 0 ∧ (∀ k, k ≠ 5 → k ≠ 7 → k ≠ 8 → I' 6 k = I 6 k)) ∨ (∃ q tx I', sp_tx c 121 0 [] = (q, some tx) ∧ rr = some (.int (nI 1)) ∧ S' = (gS, I', J, gR (!p.1, p.2), ro) ∧ Fr [6, gB p.1] I I' ∧ I' 6 5 = nI 0 ∧ (∀ k, k ≠ 5 → k ≠ 6 → k ≠ 7 → k ≠ 8 → I' 6 k = I 6 k) ∧ tx ≠ [] ∧ LawC tx (!p.1, p.2) I')) := by
  refine ⟨okCX11_law, Nat.le_of_ble_eq_true rfl, (show Px _ _ _ _ 0 [some (.ref (0)), none] [] _ _ from ?_)⟩
  refine px_aload_n (kk := 0) rfl rfl rfl ?_
  refine px_getR (r := 6) rfl gS_0 rfl (gR_0_1 _) ?_
  refine px_callV0 CX3_become [] [] (vX3_become hT hLT) rfl gS_6 (by decide) rfl rfl rfl (Nat.le_of_ble_eq_true rfl) (by decide) ?_
  rintro _ _ - (⟨q, I3, hR, hq120, rfl, rfl, hF, h5, hk⟩ | ⟨q, tx, I3, hR, rfl, rfl, hF, h5, hk, hne, hL⟩)
  · refine px_ist1 rfl rfl (by decide) ?_
    refine px_iload_n (kk := 1) rfl rfl rfl ?_
    refine px_if_ge rfl (fun c5 => ?_) (fun h => absurd (nn_ge (by omega)) h)
    refine px_bipush (v := -100) rfl b_m100 ?_
    refine px_iload_n (kk := 1) rfl rfl rfl ?_
    refine px_isub rfl ?_
    refine px_ireturn rfl (.inl rfl) ?_
    exact .inl ⟨q, I3, hR, rfl, rfl, hF, h5, hk⟩
  · refine px_ist1 rfl rfl (by decide) ?_
    refine px_iload_n (kk := 1) rfl rfl rfl ?_
    refine px_if_ge rfl (fun h => absurd h (by decide)) (fun _ => ?_)
    refine px_iconst (v := nI 1) rfl k_1 ?_
    refine px_goto rfl ?_
    refine px_ireturn rfl (.inl rfl) ?_
    exact .inr ⟨q, tx, I3, hR, rfl, rfl, hF, h5, hk, hne, hL⟩
