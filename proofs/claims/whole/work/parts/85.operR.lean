/-! the reference's operand, expression, line, text, law -/
theorem sp_op_nm {c : Nat → Nat} {a : Nat} (hb : c a < 257) (h : nmN (c a) < 6) : ∀ r, sp_op c r a = (a + 1, some [(1, nmN (c a))])
  | 0 => by rw [sp_op, if_neg (by rw [nm_dg _ hb h]; decide), if_pos h]
  | r + 1 => by rw [sp_op, if_neg (by rw [nm_dg _ hb h]; decide), if_pos h]
theorem sp_op_fig {c : Nat → Nat} {a : Nat} (h : ¬ nmN (c a) < 6) (h0 : c a ≠ 40) (h1 : c a ≠ 33) (h2 : c a ≠ 45) : ∀ r, sp_op c r a = figR c a
  | 0 => by
    by_cases hd : dg (c a) = true
    · rw [sp_op, if_pos hd, figR, if_pos hd]
    · rw [sp_op, if_neg hd, if_neg h, figR, if_neg hd]
  | r + 1 => by
    by_cases hd : dg (c a) = true
    · rw [sp_op, if_pos hd, figR, if_pos hd]
    · rw [sp_op, if_neg hd, if_neg h, if_neg h0, if_neg (by omega), figR, if_neg hd]
theorem dg_no {b : Nat} (h : b = 40 ∨ b = 33 ∨ b = 45) : ¬ dg b = true ∧ ¬ nmN b < 6 := by rcases h with rfl | rfl | rfl <;> decide
theorem sp_op_0 {c : Nat → Nat} {a : Nat} (h : c a = 40 ∨ c a = 33 ∨ c a = 45) : sp_op c 0 a = (a, none) := by rw [sp_op, if_neg (dg_no h).1, if_neg (dg_no h).2]
theorem sp_op_par {c : Nat → Nat} {a r : Nat} (h : c a = 40) : sp_op c (r + 1) a = (match sp_lv c (sp_op c r) 5 (a + 1) with
      | (q, none) => ((q, none) : PR0)
      | (q, some t) => if c q = 41 then (q + 1, some t) else (q, none)) := by rw [sp_op, if_neg (dg_no (.inl h)).1, if_neg (dg_no (.inl h)).2, if_pos h]; rfl
theorem sp_op_sg {c : Nat → Nat} {a r : Nat} (h : c a = 33 ∨ c a = 45) : sp_op c (r + 1) a = (match sp_op c r (a + 1) with
      | (q, none) => ((q, none) : PR0)
      | (q, some t) => (q, some (t ++ [(2, if c a = 33 then 0 else 1)]))) := by rw [sp_op, if_neg (dg_no (.inr h)).1, if_neg (dg_no (.inr h)).2, if_neg (by omega), if_pos h]; rfl
theorem FT_par {c : Nat → Nat} {a r q : Nat} (h : c a = 40) (hF : FT c (sp_lv c (sp_op c r) 5 (a + 1)) q) : FT c (sp_op c (r + 1) a) q := by
  rw [sp_op_par h]
  rcases hF with e | ⟨t, e, hd⟩
  · rw [e]; exact .inl rfl
  · rw [e]
    simp only []
    rw [if_neg (fun z => by rw [z] at hd; exact absurd hd (by decide))]
    exact .inl rfl
theorem FT_sg {c : Nat → Nat} {a r q : Nat} (h : c a = 33 ∨ c a = 45) (hF : FT c (sp_op c r (a + 1)) q) : FT c (sp_op c (r + 1) a) q := by
  rw [sp_op_sg h]
  rcases hF with e | ⟨t, e, hd⟩
  · rw [e]; exact .inl rfl
  · rw [e]; exact .inr ⟨_, rfl, hd⟩
theorem vX12_Eof {I : Nat → Nat → Int32} {J : Nat → Nat → Int64} {p : Bool × Option Nat} {ro : List (Nat × Nat × (Nat → Int32))} {c : Nat → Nat} {T : Nat} (hT : TP c T) (hLT : LTr c T I) {op : Nat → PR0} {o D : Nat} (hG : ∀ a, a ≤ T → PGr (op a) a T) (hOp : (∀ (a : Nat) (ts : List Tk) (I1 : Nat → Nat → Int32), a ≤ T → ts.length ≤ a → RSt I o a ts I1 → Pv D 0 0 CX12_operand [.ref 65] (gS, I1, J, gR p, ro) (POr p I J ro c T a o ts (op a)))) : ∀ (a : Nat) (ts : List Tk) (I1 : Nat → Nat → Int32), a ≤ T → ts.length ≤ a → RSt I o a ts I1 → Pv (D + 5) 0 0 CX12_either [.ref 65] (gS, I1, J, gR p, ro) (POr p I J ro c T a o ts (sp_lv c op 5 a)) := by
  intro a ts I1 ha hl hS
  have G := fun k (hk : k ≤ 5) => sp_lv_g hT hG k hk
  refine vX12_either hT hLT (g := sp_lv c op 4) (G 4 (by decide)) (fun a ts I1 ha hl hS => ?_) ha hl hS
  refine vX12_both hT hLT (g := sp_lv c op 3) (G 3 (by decide)) (fun a ts I1 ha hl hS => ?_) ha hl hS
  refine vX12_compared hT hLT (g := sp_lv c op 2) (G 2 (by decide)) (fun a ts I1 ha hl hS => ?_) ha hl hS
  refine vX12_sum hT hLT (g := sp_lv c op 1) (G 1 (by decide)) (fun a ts I1 ha hl hS => ?_) ha hl hS
  exact vX12_product hT hLT (g := op) hG hOp ha hl hS
theorem lX12_op {I : Nat → Nat → Int32} {J : Nat → Nat → Int64} {p : Bool × Option Nat} {ro : List (Nat × Nat × (Nat → Int32))} {c : Nat → Nat} {T : Nat} (hT : TP c T) (hLT : LTr c T I) : ∀ r o, o + r = 6 → ∀ (a : Nat) (ts : List Tk) (I1 : Nat → Nat → Int32), a ≤ T → ts.length ≤ a → RSt I o a ts I1 → Pv (6 * r + 2) 0 0 CX12_operand [.ref 65] (gS, I1, J, gR p, ro) (POr p I J ro c T a o ts (sp_op c r a))
  | 0, o, ho, a, ts, I1, ha, hl, hS => by
    obtain rfl : o = 6 := by omega
    refine ⟨okCX12_operand, Nat.le_of_ble_eq_true rfl, (show Px (1 + 1) _ _ _ 0 [some (.ref (65)), none] [] _ _ from ?_)⟩
    refine px_aload_n (kk := 0) rfl rfl rfl ?_
    refine px_callV0 CX12_look [] [] (pv_mono (e := 1) (Nat.zero_le _) (vX12_look hT hLT (a := a) ha hS.1 hS.2.1)) rfl gS_65 (by decide) rfl rfl rfl (Nat.le_of_ble_eq_true rfl) (Nat.le_refl _) ?_
    rintro _ _ - ⟨rfl, rfl⟩
    refine px_ist1 rfl rfl (by decide) ?_
    refine px_iload_n (kk := 1) rfl rfl rfl ?_
    refine px_callS0 CX12_nameOf [] [.int _] (pv_mono (e := 1) (Nat.zero_le _) (vX12_nameOf (TP_b hT a))) rfl rfl rfl (Nat.le_of_ble_eq_true rfl) (Nat.le_refl _) ?_
    rintro _ _ - (⟨hn, rfl, rfl⟩ | ⟨hn, rfl, rfl⟩)
    · have haT : a < T := TP_lt hT (fun e => by rw [e, nmN_9] at hn; omega)
      refine px_if_lt rfl (fun h => absurd h (n_nneg (by omega))) (fun c5 => ?_)
      refine px_aload_n (kk := 0) rfl rfl rfl ?_
      refine px_iconst (v := nI 2) rfl k_2 ?_
      refine px_iload_n (kk := 1) rfl rfl rfl ?_
      refine px_callS0 CX12_nameOf [.int _, .ref 65] [.int _] (pv_mono (e := 1) (Nat.zero_le _) (vX12_nameOf (TP_b hT a))) rfl rfl rfl (Nat.le_of_ble_eq_true rfl) (Nat.le_refl _) ?_
      rintro _ _ - (⟨_, rfl, rfl⟩ | ⟨hn2, _, _⟩)
      · refine px_callV0 CX12_addStep [] [.int _, .int _] (pv_mono (e := 1) (Nat.zero_le _) (vX12_step (t := (1, nmN (c a))) hS (by have := hT.1; omega) rfl rfl (.inl (show 1 ≤ 2 by decide)))) rfl gS_65 (by decide) rfl rfl rfl (Nat.le_of_ble_eq_true rfl) (Nat.le_refl _) ?_
        rintro _ _ - ⟨rfl, I3, rfl, hS3⟩
        refine px_aload_n (kk := 0) rfl rfl rfl ?_
        refine px_dup rfl rfl ?_
        refine px_getIe (v := nI a) rfl gS_65 rfl hS3.2.1 ?_
        refine px_iconst (v := nI 1) rfl k_1 ?_
        refine px_iaddN rfl ?_
        refine px_putI rfl gS_65 rfl rfl ?_
        refine px_goto rfl ?_
        refine px_return rfl rfl ?_
        first
        | exact .inl ⟨a + 1, [(1, nmN (c a))], _, sp_op_nm (TP_b hT a) hn _, rfl, rfl, RSt_at hS3 (a + 1)⟩
        | exact .inl ⟨q, t, I3, by rw [sp_op_fig hn (fun e => c48 ((sR_eq (TP_b hT a) (by decide)).mpr e)) (fun e => c20 ((sR_eq (TP_b hT a) (by decide)).mpr e)) (fun e => c23 ((sR_eq (TP_b hT a) (by decide)).mpr e))]; exact hR, rfl, rfl, hS3⟩
        | exact .inr ⟨q, L, I3, by rw [sp_op_fig hn (fun e => c48 ((sR_eq (TP_b hT a) (by decide)).mpr e)) (fun e => c20 ((sR_eq (TP_b hT a) (by decide)).mpr e)) (fun e => c23 ((sR_eq (TP_b hT a) (by decide)).mpr e))]; exact hR, hw1, hw2, hL, rfl, rfl, hF3⟩
        | exact .inr ⟨a, ts.length, I3, .inl (sp_op_0 (by omega)), Nat.le_refl _, ha, by omega, rfl, rfl, hF3⟩
      · exact absurd hn hn2
    · refine px_if_lt rfl (fun _ => ?_) (fun h => absurd h (by decide))
      refine px_iload_n (kk := 1) rfl rfl rfl ?_
      refine px_bipush (v := nI 33) rfl b_33 ?_
      refine px_icmp_eq rfl (fun c20 => ?_) (fun c20 => ?_)
      · have hsg : c a = 33 ∨ c a = 45 := by
          first
          | exact .inl ((sR_eq (TP_b hT a) (by decide)).mp (by first | exact c20 | exact Classical.byContradiction c20))
          | exact .inr ((sR_eq (TP_b hT a) (by decide)).mp (by first | exact c23 | exact Classical.byContradiction c23))
        have haT : a < T := TP_lt hT (by omega)
        refine px_aload_n (kk := 0) rfl rfl rfl ?_
        refine px_callV0 CX12_opens [] [] (pv_mono (e := 1) (by omega) (vX12_opens_0 hS)) rfl gS_65 (by decide) rfl rfl rfl (Nat.le_of_ble_eq_true rfl) (Nat.le_refl _) ?_
        rintro _ _ - ⟨rfl, I3, rfl, hF3⟩
        refine px_if_ne rfl (fun h => absurd h (by decide)) (fun _ => ?_)
        refine px_return rfl rfl ?_
        first
        | exact .inl ⟨a + 1, [(1, nmN (c a))], _, sp_op_nm (TP_b hT a) hn _, rfl, rfl, RSt_at hS3 (a + 1)⟩
        | exact .inl ⟨q, t, I3, by rw [sp_op_fig hn (fun e => c48 ((sR_eq (TP_b hT a) (by decide)).mpr e)) (fun e => c20 ((sR_eq (TP_b hT a) (by decide)).mpr e)) (fun e => c23 ((sR_eq (TP_b hT a) (by decide)).mpr e))]; exact hR, rfl, rfl, hS3⟩
        | exact .inr ⟨q, L, I3, by rw [sp_op_fig hn (fun e => c48 ((sR_eq (TP_b hT a) (by decide)).mpr e)) (fun e => c20 ((sR_eq (TP_b hT a) (by decide)).mpr e)) (fun e => c23 ((sR_eq (TP_b hT a) (by decide)).mpr e))]; exact hR, hw1, hw2, hL, rfl, rfl, hF3⟩
        | exact .inr ⟨a, ts.length, I3, .inl (sp_op_0 (by omega)), Nat.le_refl _, ha, by omega, rfl, rfl, hF3⟩
      · refine px_iload_n (kk := 1) rfl rfl rfl ?_
        refine px_bipush (v := nI 45) rfl b_45 ?_
        refine px_icmp_ne rfl (fun c23 => ?_) (fun c23 => ?_)
        · refine px_iload_n (kk := 1) rfl rfl rfl ?_
          refine px_bipush (v := nI 40) rfl b_40 ?_
          refine px_icmp_ne rfl (fun c48 => ?_) (fun c48 => ?_)
          · refine px_aload_n (kk := 0) rfl rfl rfl ?_
            refine px_callV0 CX12_figure [] [] (pv_mono (e := 1) (by omega) (vX12_figure hT hLT hl ha hS)) rfl gS_65 (by decide) rfl rfl rfl (Nat.le_of_ble_eq_true rfl) (Nat.le_refl _) ?_
            rintro _ _ - (⟨q, t, I3, hR, rfl, rfl, hS3⟩ | ⟨q, L, I3, hR, hw1, hw2, hL, rfl, rfl, hF3⟩)
            · refine px_return rfl rfl ?_
              first
              | exact .inl ⟨a + 1, [(1, nmN (c a))], _, sp_op_nm (TP_b hT a) hn _, rfl, rfl, RSt_at hS3 (a + 1)⟩
              | exact .inl ⟨q, t, I3, by rw [sp_op_fig hn (fun e => c48 ((sR_eq (TP_b hT a) (by decide)).mpr e)) (fun e => c20 ((sR_eq (TP_b hT a) (by decide)).mpr e)) (fun e => c23 ((sR_eq (TP_b hT a) (by decide)).mpr e))]; exact hR, rfl, rfl, hS3⟩
              | exact .inr ⟨q, L, I3, by rw [sp_op_fig hn (fun e => c48 ((sR_eq (TP_b hT a) (by decide)).mpr e)) (fun e => c20 ((sR_eq (TP_b hT a) (by decide)).mpr e)) (fun e => c23 ((sR_eq (TP_b hT a) (by decide)).mpr e))]; exact hR, hw1, hw2, hL, rfl, rfl, hF3⟩
              | exact .inr ⟨a, ts.length, I3, .inl (sp_op_0 (by omega)), Nat.le_refl _, ha, by omega, rfl, rfl, hF3⟩
            · refine px_return rfl rfl ?_
              first
              | exact .inl ⟨a + 1, [(1, nmN (c a))], _, sp_op_nm (TP_b hT a) hn _, rfl, rfl, RSt_at hS3 (a + 1)⟩
              | exact .inl ⟨q, t, I3, by rw [sp_op_fig hn (fun e => c48 ((sR_eq (TP_b hT a) (by decide)).mpr e)) (fun e => c20 ((sR_eq (TP_b hT a) (by decide)).mpr e)) (fun e => c23 ((sR_eq (TP_b hT a) (by decide)).mpr e))]; exact hR, rfl, rfl, hS3⟩
              | exact .inr ⟨q, L, I3, by rw [sp_op_fig hn (fun e => c48 ((sR_eq (TP_b hT a) (by decide)).mpr e)) (fun e => c20 ((sR_eq (TP_b hT a) (by decide)).mpr e)) (fun e => c23 ((sR_eq (TP_b hT a) (by decide)).mpr e))]; exact hR, hw1, hw2, hL, rfl, rfl, hF3⟩
              | exact .inr ⟨a, ts.length, I3, .inl (sp_op_0 (by omega)), Nat.le_refl _, ha, by omega, rfl, rfl, hF3⟩
          · have hpa : c a = 40 := ((sR_eq (TP_b hT a) (by decide)).mp (by first | exact c48 | exact Classical.byContradiction c48))
            have haT : a < T := TP_lt hT (by omega)
            refine px_aload_n (kk := 0) rfl rfl rfl ?_
            refine px_callV0 CX12_opens [] [] (pv_mono (e := 1) (by omega) (vX12_opens_0 hS)) rfl gS_65 (by decide) rfl rfl rfl (Nat.le_of_ble_eq_true rfl) (Nat.le_refl _) ?_
            rintro _ _ - ⟨rfl, I3, rfl, hF3⟩
            refine px_if_ne rfl (fun h => absurd h (by decide)) (fun _ => ?_)
            refine px_return rfl rfl ?_
            first
            | exact .inl ⟨a + 1, [(1, nmN (c a))], _, sp_op_nm (TP_b hT a) hn _, rfl, rfl, RSt_at hS3 (a + 1)⟩
            | exact .inl ⟨q, t, I3, by rw [sp_op_fig hn (fun e => c48 ((sR_eq (TP_b hT a) (by decide)).mpr e)) (fun e => c20 ((sR_eq (TP_b hT a) (by decide)).mpr e)) (fun e => c23 ((sR_eq (TP_b hT a) (by decide)).mpr e))]; exact hR, rfl, rfl, hS3⟩
            | exact .inr ⟨q, L, I3, by rw [sp_op_fig hn (fun e => c48 ((sR_eq (TP_b hT a) (by decide)).mpr e)) (fun e => c20 ((sR_eq (TP_b hT a) (by decide)).mpr e)) (fun e => c23 ((sR_eq (TP_b hT a) (by decide)).mpr e))]; exact hR, hw1, hw2, hL, rfl, rfl, hF3⟩
            | exact .inr ⟨a, ts.length, I3, .inl (sp_op_0 (by omega)), Nat.le_refl _, ha, by omega, rfl, rfl, hF3⟩
        · have hsg : c a = 33 ∨ c a = 45 := by
            first
            | exact .inl ((sR_eq (TP_b hT a) (by decide)).mp (by first | exact c20 | exact Classical.byContradiction c20))
            | exact .inr ((sR_eq (TP_b hT a) (by decide)).mp (by first | exact c23 | exact Classical.byContradiction c23))
          have haT : a < T := TP_lt hT (by omega)
          refine px_aload_n (kk := 0) rfl rfl rfl ?_
          refine px_callV0 CX12_opens [] [] (pv_mono (e := 1) (by omega) (vX12_opens_0 hS)) rfl gS_65 (by decide) rfl rfl rfl (Nat.le_of_ble_eq_true rfl) (Nat.le_refl _) ?_
          rintro _ _ - ⟨rfl, I3, rfl, hF3⟩
          refine px_if_ne rfl (fun h => absurd h (by decide)) (fun _ => ?_)
          refine px_return rfl rfl ?_
          first
          | exact .inl ⟨a + 1, [(1, nmN (c a))], _, sp_op_nm (TP_b hT a) hn _, rfl, rfl, RSt_at hS3 (a + 1)⟩
          | exact .inl ⟨q, t, I3, by rw [sp_op_fig hn (fun e => c48 ((sR_eq (TP_b hT a) (by decide)).mpr e)) (fun e => c20 ((sR_eq (TP_b hT a) (by decide)).mpr e)) (fun e => c23 ((sR_eq (TP_b hT a) (by decide)).mpr e))]; exact hR, rfl, rfl, hS3⟩
          | exact .inr ⟨q, L, I3, by rw [sp_op_fig hn (fun e => c48 ((sR_eq (TP_b hT a) (by decide)).mpr e)) (fun e => c20 ((sR_eq (TP_b hT a) (by decide)).mpr e)) (fun e => c23 ((sR_eq (TP_b hT a) (by decide)).mpr e))]; exact hR, hw1, hw2, hL, rfl, rfl, hF3⟩
          | exact .inr ⟨a, ts.length, I3, .inl (sp_op_0 (by omega)), Nat.le_refl _, ha, by omega, rfl, rfl, hF3⟩
  | r + 1, o, ho, a, ts, I1, ha, hl, hS => by
    refine ⟨okCX12_operand, Nat.le_of_ble_eq_true rfl, (show Px (6 * r + 7 + 1) _ _ _ 0 [some (.ref (65)), none] [] _ _ from ?_)⟩
    refine px_aload_n (kk := 0) rfl rfl rfl ?_
    refine px_callV0 CX12_look [] [] (pv_mono (e := 6 * r + 7) (Nat.zero_le _) (vX12_look hT hLT (a := a) ha hS.1 hS.2.1)) rfl gS_65 (by decide) rfl rfl rfl (Nat.le_of_ble_eq_true rfl) (Nat.le_refl _) ?_
    rintro _ _ - ⟨rfl, rfl⟩
    refine px_ist1 rfl rfl (by decide) ?_
    refine px_iload_n (kk := 1) rfl rfl rfl ?_
    refine px_callS0 CX12_nameOf [] [.int _] (pv_mono (e := 6 * r + 7) (Nat.zero_le _) (vX12_nameOf (TP_b hT a))) rfl rfl rfl (Nat.le_of_ble_eq_true rfl) (Nat.le_refl _) ?_
    rintro _ _ - (⟨hn, rfl, rfl⟩ | ⟨hn, rfl, rfl⟩)
    · have haT : a < T := TP_lt hT (fun e => by rw [e, nmN_9] at hn; omega)
      refine px_if_lt rfl (fun h => absurd h (n_nneg (by omega))) (fun c5 => ?_)
      refine px_aload_n (kk := 0) rfl rfl rfl ?_
      refine px_iconst (v := nI 2) rfl k_2 ?_
      refine px_iload_n (kk := 1) rfl rfl rfl ?_
      refine px_callS0 CX12_nameOf [.int _, .ref 65] [.int _] (pv_mono (e := 6 * r + 7) (Nat.zero_le _) (vX12_nameOf (TP_b hT a))) rfl rfl rfl (Nat.le_of_ble_eq_true rfl) (Nat.le_refl _) ?_
      rintro _ _ - (⟨_, rfl, rfl⟩ | ⟨hn2, _, _⟩)
      · refine px_callV0 CX12_addStep [] [.int _, .int _] (pv_mono (e := 6 * r + 7) (Nat.zero_le _) (vX12_step (t := (1, nmN (c a))) hS (by have := hT.1; omega) rfl rfl (.inl (show 1 ≤ 2 by decide)))) rfl gS_65 (by decide) rfl rfl rfl (Nat.le_of_ble_eq_true rfl) (Nat.le_refl _) ?_
        rintro _ _ - ⟨rfl, I3, rfl, hS3⟩
        refine px_aload_n (kk := 0) rfl rfl rfl ?_
        refine px_dup rfl rfl ?_
        refine px_getIe (v := nI a) rfl gS_65 rfl hS3.2.1 ?_
        refine px_iconst (v := nI 1) rfl k_1 ?_
        refine px_iaddN rfl ?_
        refine px_putI rfl gS_65 rfl rfl ?_
        refine px_goto rfl ?_
        refine px_return rfl rfl ?_
        first
        | exact .inl ⟨a + 1, [(1, nmN (c a))], _, sp_op_nm (TP_b hT a) hn _, rfl, rfl, RSt_at hS3 (a + 1)⟩
        | exact .inl ⟨q, t, I3, by rw [sp_op_fig hn (fun e => c48 ((sR_eq (TP_b hT a) (by decide)).mpr e)) (fun e => c20 ((sR_eq (TP_b hT a) (by decide)).mpr e)) (fun e => c23 ((sR_eq (TP_b hT a) (by decide)).mpr e))]; exact hR, rfl, rfl, hS3⟩
        | exact .inr ⟨q, L, I3, by rw [sp_op_fig hn (fun e => c48 ((sR_eq (TP_b hT a) (by decide)).mpr e)) (fun e => c20 ((sR_eq (TP_b hT a) (by decide)).mpr e)) (fun e => c23 ((sR_eq (TP_b hT a) (by decide)).mpr e))]; exact hR, hw1, hw2, hL, rfl, rfl, hF3⟩
        | exact .inl ⟨q, u ++ [(2, if c a = 33 then 0 else 1)], I4, by rw [sp_op_sg hsg, hR], rfl, rfl, hS4⟩
        | exact .inr ⟨q, L + 1, I4, FT_sg hsg hR, by omega, hw2, by omega, rfl, rfl, hF4⟩
        | exact .inr ⟨q, L, I3, FT_par hpa hR, by omega, hw2, by omega, rfl, rfl, hF3⟩
        | exact .inl ⟨q + 1, u, _, by rw [sp_op_par hpa, hR]; simp only [if_pos (show c q = 41 from (sR_eq (TP_b hT q) (by decide)).mp (by first | exact c62 | exact Classical.byContradiction c62))], rfl, rfl, RSt_op (RSt_at hS3 (q + 1)) o⟩
        | exact .inr ⟨q, (ts ++ u).length, I4, .inl (by rw [sp_op_par hpa, hR]; simp only [if_neg (fun e => c62 ((sR_eq (TP_b hT q) (by decide)).mpr e))]), by omega, hgu.2.1, by omega, rfl, rfl, hF4⟩
      · exact absurd hn hn2
    · refine px_if_lt rfl (fun _ => ?_) (fun h => absurd h (by decide))
      refine px_iload_n (kk := 1) rfl rfl rfl ?_
      refine px_bipush (v := nI 33) rfl b_33 ?_
      refine px_icmp_eq rfl (fun c20 => ?_) (fun c20 => ?_)
      · have hsg : c a = 33 ∨ c a = 45 := by
          first
          | exact .inl ((sR_eq (TP_b hT a) (by decide)).mp (by first | exact c20 | exact Classical.byContradiction c20))
          | exact .inr ((sR_eq (TP_b hT a) (by decide)).mp (by first | exact c23 | exact Classical.byContradiction c23))
        have haT : a < T := TP_lt hT (by omega)
        refine px_aload_n (kk := 0) rfl rfl rfl ?_
        refine px_callV0 CX12_opens [] [] (pv_mono (e := 6 * r + 7) (by omega) (vX12_opens_1 hS (by omega))) rfl gS_65 (by decide) rfl rfl rfl (Nat.le_of_ble_eq_true rfl) (Nat.le_refl _) ?_
        rintro _ _ - ⟨rfl, I2, rfl, hS2⟩
        refine px_if_ne rfl (fun _ => ?_) (fun h => absurd h (by decide))
        refine px_aload_n (kk := 0) rfl rfl rfl ?_
        refine px_callV0 CX12_operand [] [] (pv_mono (e := 6 * r + 7) (by omega) (lX12_op hT hLT r (o + 1) (by omega) (a + 1) ts I2 (by omega) (by omega) hS2)) rfl gS_65 (by decide) rfl rfl rfl (Nat.le_of_ble_eq_true rfl) (Nat.le_refl _) ?_
        rintro _ _ - (⟨q, u, I3, hR, rfl, rfl, hS3⟩ | ⟨q, L, I3, hR, hw1, hw2, hL, rfl, rfl, hF3⟩)
        · have hgu := (sp_op_g hT r (a + 1) (by omega)).1 q u hR
          have hlu : (ts ++ u).length = ts.length + u.length := List.length_append
          refine px_aload_n (kk := 0) rfl rfl rfl ?_
          refine px_dup rfl rfl ?_
          refine px_getIe (v := nI (o + 1)) rfl gS_65 rfl hS3.2.2.2.1 ?_
          refine px_iconst (v := nI 1) rfl k_1 ?_
          refine px_isub rfl ?_
          refine px_ieq (nI_pred o) ?_
          refine px_putI rfl gS_65 rfl rfl ?_
          refine px_aload_n (kk := 0) rfl rfl rfl ?_
          refine px_iload_n (kk := 1) rfl rfl rfl ?_
          refine px_bipush (v := nI 33) rfl b_33 ?_
          refine px_icmp_ne rfl (fun c39 => ?_) (fun c39 => ?_)
          · refine px_iconst (v := nI 4) rfl k_4 ?_
            refine px_iconst (v := nI 0) rfl k_0 ?_
            refine px_callV0 CX12_addStep [] [.int _, .int _] (pv_mono (e := 6 * r + 7) (Nat.zero_le _) (vX12_step (t := (2, if c a = 33 then 0 else 1)) (RSt_op hS3 o) (by have := hT.1; omega) (show nI 4 = aT (2, if c a = 33 then 0 else 1) from by first | (rw [if_pos ((sR_eq (TP_b hT a) (by decide)).mp (by first | exact c39 | exact Classical.byContradiction c39))]; rfl) | (rw [if_neg (fun e => c39 ((sR_eq (TP_b hT a) (by decide)).mpr e))]; rfl)) rfl (.inl (show 2 ≤ 2 by decide)))) rfl gS_65 (by decide) rfl rfl rfl (Nat.le_of_ble_eq_true rfl) (Nat.le_refl _) ?_
            rintro _ _ - ⟨rfl, I4, rfl, hS4⟩
            rw [List.append_assoc] at hS4
            refine px_goto rfl ?_
            refine px_return rfl rfl ?_
            first
            | exact .inl ⟨a + 1, [(1, nmN (c a))], _, sp_op_nm (TP_b hT a) hn _, rfl, rfl, RSt_at hS3 (a + 1)⟩
            | exact .inl ⟨q, t, I3, by rw [sp_op_fig hn (fun e => c48 ((sR_eq (TP_b hT a) (by decide)).mpr e)) (fun e => c20 ((sR_eq (TP_b hT a) (by decide)).mpr e)) (fun e => c23 ((sR_eq (TP_b hT a) (by decide)).mpr e))]; exact hR, rfl, rfl, hS3⟩
            | exact .inr ⟨q, L, I3, by rw [sp_op_fig hn (fun e => c48 ((sR_eq (TP_b hT a) (by decide)).mpr e)) (fun e => c20 ((sR_eq (TP_b hT a) (by decide)).mpr e)) (fun e => c23 ((sR_eq (TP_b hT a) (by decide)).mpr e))]; exact hR, hw1, hw2, hL, rfl, rfl, hF3⟩
            | exact .inl ⟨q, u ++ [(2, if c a = 33 then 0 else 1)], I4, by rw [sp_op_sg hsg, hR], rfl, rfl, hS4⟩
            | exact .inr ⟨q, L + 1, I4, FT_sg hsg hR, by omega, hw2, by omega, rfl, rfl, hF4⟩
            | exact .inr ⟨q, L, I3, FT_par hpa hR, by omega, hw2, by omega, rfl, rfl, hF3⟩
            | exact .inl ⟨q + 1, u, _, by rw [sp_op_par hpa, hR]; simp only [if_pos (show c q = 41 from (sR_eq (TP_b hT q) (by decide)).mp (by first | exact c62 | exact Classical.byContradiction c62))], rfl, rfl, RSt_op (RSt_at hS3 (q + 1)) o⟩
            | exact .inr ⟨q, (ts ++ u).length, I4, .inl (by rw [sp_op_par hpa, hR]; simp only [if_neg (fun e => c62 ((sR_eq (TP_b hT q) (by decide)).mpr e))]), by omega, hgu.2.1, by omega, rfl, rfl, hF4⟩
          · refine px_iconst (v := nI 3) rfl k_3 ?_
            refine px_goto rfl ?_
            refine px_iconst (v := nI 0) rfl k_0 ?_
            refine px_callV0 CX12_addStep [] [.int _, .int _] (pv_mono (e := 6 * r + 7) (Nat.zero_le _) (vX12_step (t := (2, if c a = 33 then 0 else 1)) (RSt_op hS3 o) (by have := hT.1; omega) (show nI 3 = aT (2, if c a = 33 then 0 else 1) from by first | (rw [if_pos ((sR_eq (TP_b hT a) (by decide)).mp (by first | exact c39 | exact Classical.byContradiction c39))]; rfl) | (rw [if_neg (fun e => c39 ((sR_eq (TP_b hT a) (by decide)).mpr e))]; rfl)) rfl (.inl (show 2 ≤ 2 by decide)))) rfl gS_65 (by decide) rfl rfl rfl (Nat.le_of_ble_eq_true rfl) (Nat.le_refl _) ?_
            rintro _ _ - ⟨rfl, I4, rfl, hS4⟩
            rw [List.append_assoc] at hS4
            refine px_goto rfl ?_
            refine px_return rfl rfl ?_
            first
            | exact .inl ⟨a + 1, [(1, nmN (c a))], _, sp_op_nm (TP_b hT a) hn _, rfl, rfl, RSt_at hS3 (a + 1)⟩
            | exact .inl ⟨q, t, I3, by rw [sp_op_fig hn (fun e => c48 ((sR_eq (TP_b hT a) (by decide)).mpr e)) (fun e => c20 ((sR_eq (TP_b hT a) (by decide)).mpr e)) (fun e => c23 ((sR_eq (TP_b hT a) (by decide)).mpr e))]; exact hR, rfl, rfl, hS3⟩
            | exact .inr ⟨q, L, I3, by rw [sp_op_fig hn (fun e => c48 ((sR_eq (TP_b hT a) (by decide)).mpr e)) (fun e => c20 ((sR_eq (TP_b hT a) (by decide)).mpr e)) (fun e => c23 ((sR_eq (TP_b hT a) (by decide)).mpr e))]; exact hR, hw1, hw2, hL, rfl, rfl, hF3⟩
            | exact .inl ⟨q, u ++ [(2, if c a = 33 then 0 else 1)], I4, by rw [sp_op_sg hsg, hR], rfl, rfl, hS4⟩
            | exact .inr ⟨q, L + 1, I4, FT_sg hsg hR, by omega, hw2, by omega, rfl, rfl, hF4⟩
            | exact .inr ⟨q, L, I3, FT_par hpa hR, by omega, hw2, by omega, rfl, rfl, hF3⟩
            | exact .inl ⟨q + 1, u, _, by rw [sp_op_par hpa, hR]; simp only [if_pos (show c q = 41 from (sR_eq (TP_b hT q) (by decide)).mp (by first | exact c62 | exact Classical.byContradiction c62))], rfl, rfl, RSt_op (RSt_at hS3 (q + 1)) o⟩
            | exact .inr ⟨q, (ts ++ u).length, I4, .inl (by rw [sp_op_par hpa, hR]; simp only [if_neg (fun e => c62 ((sR_eq (TP_b hT q) (by decide)).mpr e))]), by omega, hgu.2.1, by omega, rfl, rfl, hF4⟩
        · refine px_aload_n (kk := 0) rfl rfl rfl ?_
          refine px_dup rfl rfl ?_
          refine px_getI rfl gS_65 rfl ?_
          refine px_iconst (v := nI 1) rfl k_1 ?_
          refine px_isub rfl ?_
          refine px_putI rfl gS_65 rfl rfl ?_
          refine px_aload_n (kk := 0) rfl rfl rfl ?_
          refine px_iload_n (kk := 1) rfl rfl rfl ?_
          refine px_bipush (v := nI 33) rfl b_33 ?_
          refine px_icmp_ne rfl (fun c39 => ?_) (fun c39 => ?_)
          · refine px_iconst (v := nI 4) rfl k_4 ?_
            refine px_iconst (v := nI 0) rfl k_0 ?_
            refine px_callV0 CX12_addStep [] [.int _, .int _] (pv_mono (e := 6 * r + 7) (Nat.zero_le _) (vX12_stepF (RFt_op hF3 _) (by have := hT.1; omega))) rfl gS_65 (by decide) rfl rfl rfl (Nat.le_of_ble_eq_true rfl) (Nat.le_refl _) ?_
            rintro _ _ - ⟨rfl, I4, rfl, hF4⟩
            refine px_goto rfl ?_
            refine px_return rfl rfl ?_
            first
            | exact .inl ⟨a + 1, [(1, nmN (c a))], _, sp_op_nm (TP_b hT a) hn _, rfl, rfl, RSt_at hS3 (a + 1)⟩
            | exact .inl ⟨q, t, I3, by rw [sp_op_fig hn (fun e => c48 ((sR_eq (TP_b hT a) (by decide)).mpr e)) (fun e => c20 ((sR_eq (TP_b hT a) (by decide)).mpr e)) (fun e => c23 ((sR_eq (TP_b hT a) (by decide)).mpr e))]; exact hR, rfl, rfl, hS3⟩
            | exact .inr ⟨q, L, I3, by rw [sp_op_fig hn (fun e => c48 ((sR_eq (TP_b hT a) (by decide)).mpr e)) (fun e => c20 ((sR_eq (TP_b hT a) (by decide)).mpr e)) (fun e => c23 ((sR_eq (TP_b hT a) (by decide)).mpr e))]; exact hR, hw1, hw2, hL, rfl, rfl, hF3⟩
            | exact .inl ⟨q, u ++ [(2, if c a = 33 then 0 else 1)], I4, by rw [sp_op_sg hsg, hR], rfl, rfl, hS4⟩
            | exact .inr ⟨q, L + 1, I4, FT_sg hsg hR, by omega, hw2, by omega, rfl, rfl, hF4⟩
            | exact .inr ⟨q, L, I3, FT_par hpa hR, by omega, hw2, by omega, rfl, rfl, hF3⟩
            | exact .inl ⟨q + 1, u, _, by rw [sp_op_par hpa, hR]; simp only [if_pos (show c q = 41 from (sR_eq (TP_b hT q) (by decide)).mp (by first | exact c62 | exact Classical.byContradiction c62))], rfl, rfl, RSt_op (RSt_at hS3 (q + 1)) o⟩
            | exact .inr ⟨q, (ts ++ u).length, I4, .inl (by rw [sp_op_par hpa, hR]; simp only [if_neg (fun e => c62 ((sR_eq (TP_b hT q) (by decide)).mpr e))]), by omega, hgu.2.1, by omega, rfl, rfl, hF4⟩
          · refine px_iconst (v := nI 3) rfl k_3 ?_
            refine px_goto rfl ?_
            refine px_iconst (v := nI 0) rfl k_0 ?_
            refine px_callV0 CX12_addStep [] [.int _, .int _] (pv_mono (e := 6 * r + 7) (Nat.zero_le _) (vX12_stepF (RFt_op hF3 _) (by have := hT.1; omega))) rfl gS_65 (by decide) rfl rfl rfl (Nat.le_of_ble_eq_true rfl) (Nat.le_refl _) ?_
            rintro _ _ - ⟨rfl, I4, rfl, hF4⟩
            refine px_goto rfl ?_
            refine px_return rfl rfl ?_
            first
            | exact .inl ⟨a + 1, [(1, nmN (c a))], _, sp_op_nm (TP_b hT a) hn _, rfl, rfl, RSt_at hS3 (a + 1)⟩
            | exact .inl ⟨q, t, I3, by rw [sp_op_fig hn (fun e => c48 ((sR_eq (TP_b hT a) (by decide)).mpr e)) (fun e => c20 ((sR_eq (TP_b hT a) (by decide)).mpr e)) (fun e => c23 ((sR_eq (TP_b hT a) (by decide)).mpr e))]; exact hR, rfl, rfl, hS3⟩
            | exact .inr ⟨q, L, I3, by rw [sp_op_fig hn (fun e => c48 ((sR_eq (TP_b hT a) (by decide)).mpr e)) (fun e => c20 ((sR_eq (TP_b hT a) (by decide)).mpr e)) (fun e => c23 ((sR_eq (TP_b hT a) (by decide)).mpr e))]; exact hR, hw1, hw2, hL, rfl, rfl, hF3⟩
            | exact .inl ⟨q, u ++ [(2, if c a = 33 then 0 else 1)], I4, by rw [sp_op_sg hsg, hR], rfl, rfl, hS4⟩
            | exact .inr ⟨q, L + 1, I4, FT_sg hsg hR, by omega, hw2, by omega, rfl, rfl, hF4⟩
            | exact .inr ⟨q, L, I3, FT_par hpa hR, by omega, hw2, by omega, rfl, rfl, hF3⟩
            | exact .inl ⟨q + 1, u, _, by rw [sp_op_par hpa, hR]; simp only [if_pos (show c q = 41 from (sR_eq (TP_b hT q) (by decide)).mp (by first | exact c62 | exact Classical.byContradiction c62))], rfl, rfl, RSt_op (RSt_at hS3 (q + 1)) o⟩
            | exact .inr ⟨q, (ts ++ u).length, I4, .inl (by rw [sp_op_par hpa, hR]; simp only [if_neg (fun e => c62 ((sR_eq (TP_b hT q) (by decide)).mpr e))]), by omega, hgu.2.1, by omega, rfl, rfl, hF4⟩
      · refine px_iload_n (kk := 1) rfl rfl rfl ?_
        refine px_bipush (v := nI 45) rfl b_45 ?_
        refine px_icmp_ne rfl (fun c23 => ?_) (fun c23 => ?_)
        · refine px_iload_n (kk := 1) rfl rfl rfl ?_
          refine px_bipush (v := nI 40) rfl b_40 ?_
          refine px_icmp_ne rfl (fun c48 => ?_) (fun c48 => ?_)
          · refine px_aload_n (kk := 0) rfl rfl rfl ?_
            refine px_callV0 CX12_figure [] [] (pv_mono (e := 6 * r + 7) (by omega) (vX12_figure hT hLT hl ha hS)) rfl gS_65 (by decide) rfl rfl rfl (Nat.le_of_ble_eq_true rfl) (Nat.le_refl _) ?_
            rintro _ _ - (⟨q, t, I3, hR, rfl, rfl, hS3⟩ | ⟨q, L, I3, hR, hw1, hw2, hL, rfl, rfl, hF3⟩)
            · refine px_return rfl rfl ?_
              first
              | exact .inl ⟨a + 1, [(1, nmN (c a))], _, sp_op_nm (TP_b hT a) hn _, rfl, rfl, RSt_at hS3 (a + 1)⟩
              | exact .inl ⟨q, t, I3, by rw [sp_op_fig hn (fun e => c48 ((sR_eq (TP_b hT a) (by decide)).mpr e)) (fun e => c20 ((sR_eq (TP_b hT a) (by decide)).mpr e)) (fun e => c23 ((sR_eq (TP_b hT a) (by decide)).mpr e))]; exact hR, rfl, rfl, hS3⟩
              | exact .inr ⟨q, L, I3, by rw [sp_op_fig hn (fun e => c48 ((sR_eq (TP_b hT a) (by decide)).mpr e)) (fun e => c20 ((sR_eq (TP_b hT a) (by decide)).mpr e)) (fun e => c23 ((sR_eq (TP_b hT a) (by decide)).mpr e))]; exact hR, hw1, hw2, hL, rfl, rfl, hF3⟩
              | exact .inl ⟨q, u ++ [(2, if c a = 33 then 0 else 1)], I4, by rw [sp_op_sg hsg, hR], rfl, rfl, hS4⟩
              | exact .inr ⟨q, L + 1, I4, FT_sg hsg hR, by omega, hw2, by omega, rfl, rfl, hF4⟩
              | exact .inr ⟨q, L, I3, FT_par hpa hR, by omega, hw2, by omega, rfl, rfl, hF3⟩
              | exact .inl ⟨q + 1, u, _, by rw [sp_op_par hpa, hR]; simp only [if_pos (show c q = 41 from (sR_eq (TP_b hT q) (by decide)).mp (by first | exact c62 | exact Classical.byContradiction c62))], rfl, rfl, RSt_op (RSt_at hS3 (q + 1)) o⟩
              | exact .inr ⟨q, (ts ++ u).length, I4, .inl (by rw [sp_op_par hpa, hR]; simp only [if_neg (fun e => c62 ((sR_eq (TP_b hT q) (by decide)).mpr e))]), by omega, hgu.2.1, by omega, rfl, rfl, hF4⟩
            · refine px_return rfl rfl ?_
              first
              | exact .inl ⟨a + 1, [(1, nmN (c a))], _, sp_op_nm (TP_b hT a) hn _, rfl, rfl, RSt_at hS3 (a + 1)⟩
              | exact .inl ⟨q, t, I3, by rw [sp_op_fig hn (fun e => c48 ((sR_eq (TP_b hT a) (by decide)).mpr e)) (fun e => c20 ((sR_eq (TP_b hT a) (by decide)).mpr e)) (fun e => c23 ((sR_eq (TP_b hT a) (by decide)).mpr e))]; exact hR, rfl, rfl, hS3⟩
              | exact .inr ⟨q, L, I3, by rw [sp_op_fig hn (fun e => c48 ((sR_eq (TP_b hT a) (by decide)).mpr e)) (fun e => c20 ((sR_eq (TP_b hT a) (by decide)).mpr e)) (fun e => c23 ((sR_eq (TP_b hT a) (by decide)).mpr e))]; exact hR, hw1, hw2, hL, rfl, rfl, hF3⟩
              | exact .inl ⟨q, u ++ [(2, if c a = 33 then 0 else 1)], I4, by rw [sp_op_sg hsg, hR], rfl, rfl, hS4⟩
              | exact .inr ⟨q, L + 1, I4, FT_sg hsg hR, by omega, hw2, by omega, rfl, rfl, hF4⟩
              | exact .inr ⟨q, L, I3, FT_par hpa hR, by omega, hw2, by omega, rfl, rfl, hF3⟩
              | exact .inl ⟨q + 1, u, _, by rw [sp_op_par hpa, hR]; simp only [if_pos (show c q = 41 from (sR_eq (TP_b hT q) (by decide)).mp (by first | exact c62 | exact Classical.byContradiction c62))], rfl, rfl, RSt_op (RSt_at hS3 (q + 1)) o⟩
              | exact .inr ⟨q, (ts ++ u).length, I4, .inl (by rw [sp_op_par hpa, hR]; simp only [if_neg (fun e => c62 ((sR_eq (TP_b hT q) (by decide)).mpr e))]), by omega, hgu.2.1, by omega, rfl, rfl, hF4⟩
          · have hpa : c a = 40 := ((sR_eq (TP_b hT a) (by decide)).mp (by first | exact c48 | exact Classical.byContradiction c48))
            have haT : a < T := TP_lt hT (by omega)
            refine px_aload_n (kk := 0) rfl rfl rfl ?_
            refine px_callV0 CX12_opens [] [] (pv_mono (e := 6 * r + 7) (by omega) (vX12_opens_1 hS (by omega))) rfl gS_65 (by decide) rfl rfl rfl (Nat.le_of_ble_eq_true rfl) (Nat.le_refl _) ?_
            rintro _ _ - ⟨rfl, I2, rfl, hS2⟩
            refine px_if_ne rfl (fun _ => ?_) (fun h => absurd h (by decide))
            refine px_aload_n (kk := 0) rfl rfl rfl ?_
            refine px_callV0 CX12_either [] [] (vX12_Eof (op := sp_op c r) (D := 6 * r + 2) hT hLT (sp_op_g hT r) (lX12_op hT hLT r (o + 1) (by omega)) (a + 1) ts I2 (by omega) (by omega) hS2) rfl gS_65 (by decide) rfl rfl rfl (Nat.le_of_ble_eq_true rfl) (Nat.le_refl _) ?_
            rintro _ _ - (⟨q, u, I3, hR, rfl, rfl, hS3⟩ | ⟨q, L, I3, hR, hw1, hw2, hL, rfl, rfl, hF3⟩)
            · have hgu := (sp_lv_g hT (sp_op_g hT r) 5 (by decide) (a + 1) (by omega)).1 q u hR
              have hlu : (ts ++ u).length = ts.length + u.length := List.length_append
              refine px_aload_n (kk := 0) rfl rfl rfl ?_
              refine px_getIe (v := -1) rfl gS_65 rfl hS3.2.2.1 ?_
              refine px_if_lt rfl (fun _ => ?_) (fun h => absurd h (by decide))
              refine px_aload_n (kk := 0) rfl rfl rfl ?_
              refine px_callV0 CX12_look [] [] (pv_mono (e := 6 * r + 7) (Nat.zero_le _) (vX12_look hT hLT (a := q) hgu.2.1 hS3.1 hS3.2.1)) rfl gS_65 (by decide) rfl rfl rfl (Nat.le_of_ble_eq_true rfl) (Nat.le_refl _) ?_
              rintro _ _ - ⟨rfl, rfl⟩
              refine px_bipush (v := nI 41) rfl b_41 ?_
              refine px_icmp_eq rfl (fun c62 => ?_) (fun c62 => ?_)
              · refine px_aload_n (kk := 0) rfl rfl rfl ?_
                refine px_dup rfl rfl ?_
                refine px_getIe (v := nI q) rfl gS_65 rfl hS3.2.1 ?_
                refine px_iconst (v := nI 1) rfl k_1 ?_
                refine px_iaddN rfl ?_
                refine px_putI rfl gS_65 rfl rfl ?_
                refine px_aload_n (kk := 0) rfl rfl rfl ?_
                refine px_dup rfl rfl ?_
                refine px_getIe (v := nI (o + 1)) rfl gS_65 rfl (by rw [p_up_s, p_up_n _ _ (by decide)]; exact hS3.2.2.2.1) ?_
                refine px_iconst (v := nI 1) rfl k_1 ?_
                refine px_isub rfl ?_
                refine px_ieq (nI_pred o) ?_
                refine px_putI rfl gS_65 rfl rfl ?_
                refine px_goto rfl ?_
                refine px_return rfl rfl ?_
                first
                | exact .inl ⟨a + 1, [(1, nmN (c a))], _, sp_op_nm (TP_b hT a) hn _, rfl, rfl, RSt_at hS3 (a + 1)⟩
                | exact .inl ⟨q, t, I3, by rw [sp_op_fig hn (fun e => c48 ((sR_eq (TP_b hT a) (by decide)).mpr e)) (fun e => c20 ((sR_eq (TP_b hT a) (by decide)).mpr e)) (fun e => c23 ((sR_eq (TP_b hT a) (by decide)).mpr e))]; exact hR, rfl, rfl, hS3⟩
                | exact .inr ⟨q, L, I3, by rw [sp_op_fig hn (fun e => c48 ((sR_eq (TP_b hT a) (by decide)).mpr e)) (fun e => c20 ((sR_eq (TP_b hT a) (by decide)).mpr e)) (fun e => c23 ((sR_eq (TP_b hT a) (by decide)).mpr e))]; exact hR, hw1, hw2, hL, rfl, rfl, hF3⟩
                | exact .inl ⟨q, u ++ [(2, if c a = 33 then 0 else 1)], I4, by rw [sp_op_sg hsg, hR], rfl, rfl, hS4⟩
                | exact .inr ⟨q, L + 1, I4, FT_sg hsg hR, by omega, hw2, by omega, rfl, rfl, hF4⟩
                | exact .inr ⟨q, L, I3, FT_par hpa hR, by omega, hw2, by omega, rfl, rfl, hF3⟩
                | exact .inl ⟨q + 1, u, _, by rw [sp_op_par hpa, hR]; simp only [if_pos (show c q = 41 from (sR_eq (TP_b hT q) (by decide)).mp (by first | exact c62 | exact Classical.byContradiction c62))], rfl, rfl, RSt_op (RSt_at hS3 (q + 1)) o⟩
                | exact .inr ⟨q, (ts ++ u).length, I4, .inl (by rw [sp_op_par hpa, hR]; simp only [if_neg (fun e => c62 ((sR_eq (TP_b hT q) (by decide)).mpr e))]), by omega, hgu.2.1, by omega, rfl, rfl, hF4⟩
              · refine px_aload_n (kk := 0) rfl rfl rfl ?_
                refine px_callV0 CX12_wrong [] [] (pv_mono (e := 6 * r + 7) (Nat.zero_le _) (vX12_wrong hS3)) rfl gS_65 (by decide) rfl rfl rfl (Nat.le_of_ble_eq_true rfl) (Nat.le_refl _) ?_
                rintro _ _ - ⟨rfl, I4, rfl, hF4⟩
                refine px_return rfl rfl ?_
                first
                | exact .inl ⟨a + 1, [(1, nmN (c a))], _, sp_op_nm (TP_b hT a) hn _, rfl, rfl, RSt_at hS3 (a + 1)⟩
                | exact .inl ⟨q, t, I3, by rw [sp_op_fig hn (fun e => c48 ((sR_eq (TP_b hT a) (by decide)).mpr e)) (fun e => c20 ((sR_eq (TP_b hT a) (by decide)).mpr e)) (fun e => c23 ((sR_eq (TP_b hT a) (by decide)).mpr e))]; exact hR, rfl, rfl, hS3⟩
                | exact .inr ⟨q, L, I3, by rw [sp_op_fig hn (fun e => c48 ((sR_eq (TP_b hT a) (by decide)).mpr e)) (fun e => c20 ((sR_eq (TP_b hT a) (by decide)).mpr e)) (fun e => c23 ((sR_eq (TP_b hT a) (by decide)).mpr e))]; exact hR, hw1, hw2, hL, rfl, rfl, hF3⟩
                | exact .inl ⟨q, u ++ [(2, if c a = 33 then 0 else 1)], I4, by rw [sp_op_sg hsg, hR], rfl, rfl, hS4⟩
                | exact .inr ⟨q, L + 1, I4, FT_sg hsg hR, by omega, hw2, by omega, rfl, rfl, hF4⟩
                | exact .inr ⟨q, L, I3, FT_par hpa hR, by omega, hw2, by omega, rfl, rfl, hF3⟩
                | exact .inl ⟨q + 1, u, _, by rw [sp_op_par hpa, hR]; simp only [if_pos (show c q = 41 from (sR_eq (TP_b hT q) (by decide)).mp (by first | exact c62 | exact Classical.byContradiction c62))], rfl, rfl, RSt_op (RSt_at hS3 (q + 1)) o⟩
                | exact .inr ⟨q, (ts ++ u).length, I4, .inl (by rw [sp_op_par hpa, hR]; simp only [if_neg (fun e => c62 ((sR_eq (TP_b hT q) (by decide)).mpr e))]), by omega, hgu.2.1, by omega, rfl, rfl, hF4⟩
            · refine px_aload_n (kk := 0) rfl rfl rfl ?_
              refine px_getIe (v := nI q) rfl gS_65 rfl hF3.2.2.1 ?_
              refine px_if_lt rfl (fun h => absurd h (n_nneg (by have := hT.1; omega))) (fun c57 => ?_)
              refine px_return rfl rfl ?_
              first
              | exact .inl ⟨a + 1, [(1, nmN (c a))], _, sp_op_nm (TP_b hT a) hn _, rfl, rfl, RSt_at hS3 (a + 1)⟩
              | exact .inl ⟨q, t, I3, by rw [sp_op_fig hn (fun e => c48 ((sR_eq (TP_b hT a) (by decide)).mpr e)) (fun e => c20 ((sR_eq (TP_b hT a) (by decide)).mpr e)) (fun e => c23 ((sR_eq (TP_b hT a) (by decide)).mpr e))]; exact hR, rfl, rfl, hS3⟩
              | exact .inr ⟨q, L, I3, by rw [sp_op_fig hn (fun e => c48 ((sR_eq (TP_b hT a) (by decide)).mpr e)) (fun e => c20 ((sR_eq (TP_b hT a) (by decide)).mpr e)) (fun e => c23 ((sR_eq (TP_b hT a) (by decide)).mpr e))]; exact hR, hw1, hw2, hL, rfl, rfl, hF3⟩
              | exact .inl ⟨q, u ++ [(2, if c a = 33 then 0 else 1)], I4, by rw [sp_op_sg hsg, hR], rfl, rfl, hS4⟩
              | exact .inr ⟨q, L + 1, I4, FT_sg hsg hR, by omega, hw2, by omega, rfl, rfl, hF4⟩
              | exact .inr ⟨q, L, I3, FT_par hpa hR, by omega, hw2, by omega, rfl, rfl, hF3⟩
              | exact .inl ⟨q + 1, u, _, by rw [sp_op_par hpa, hR]; simp only [if_pos (show c q = 41 from (sR_eq (TP_b hT q) (by decide)).mp (by first | exact c62 | exact Classical.byContradiction c62))], rfl, rfl, RSt_op (RSt_at hS3 (q + 1)) o⟩
              | exact .inr ⟨q, (ts ++ u).length, I4, .inl (by rw [sp_op_par hpa, hR]; simp only [if_neg (fun e => c62 ((sR_eq (TP_b hT q) (by decide)).mpr e))]), by omega, hgu.2.1, by omega, rfl, rfl, hF4⟩
        · have hsg : c a = 33 ∨ c a = 45 := by
            first
            | exact .inl ((sR_eq (TP_b hT a) (by decide)).mp (by first | exact c20 | exact Classical.byContradiction c20))
            | exact .inr ((sR_eq (TP_b hT a) (by decide)).mp (by first | exact c23 | exact Classical.byContradiction c23))
          have haT : a < T := TP_lt hT (by omega)
          refine px_aload_n (kk := 0) rfl rfl rfl ?_
          refine px_callV0 CX12_opens [] [] (pv_mono (e := 6 * r + 7) (by omega) (vX12_opens_1 hS (by omega))) rfl gS_65 (by decide) rfl rfl rfl (Nat.le_of_ble_eq_true rfl) (Nat.le_refl _) ?_
          rintro _ _ - ⟨rfl, I2, rfl, hS2⟩
          refine px_if_ne rfl (fun _ => ?_) (fun h => absurd h (by decide))
          refine px_aload_n (kk := 0) rfl rfl rfl ?_
          refine px_callV0 CX12_operand [] [] (pv_mono (e := 6 * r + 7) (by omega) (lX12_op hT hLT r (o + 1) (by omega) (a + 1) ts I2 (by omega) (by omega) hS2)) rfl gS_65 (by decide) rfl rfl rfl (Nat.le_of_ble_eq_true rfl) (Nat.le_refl _) ?_
          rintro _ _ - (⟨q, u, I3, hR, rfl, rfl, hS3⟩ | ⟨q, L, I3, hR, hw1, hw2, hL, rfl, rfl, hF3⟩)
          · have hgu := (sp_op_g hT r (a + 1) (by omega)).1 q u hR
            have hlu : (ts ++ u).length = ts.length + u.length := List.length_append
            refine px_aload_n (kk := 0) rfl rfl rfl ?_
            refine px_dup rfl rfl ?_
            refine px_getIe (v := nI (o + 1)) rfl gS_65 rfl hS3.2.2.2.1 ?_
            refine px_iconst (v := nI 1) rfl k_1 ?_
            refine px_isub rfl ?_
            refine px_ieq (nI_pred o) ?_
            refine px_putI rfl gS_65 rfl rfl ?_
            refine px_aload_n (kk := 0) rfl rfl rfl ?_
            refine px_iload_n (kk := 1) rfl rfl rfl ?_
            refine px_bipush (v := nI 33) rfl b_33 ?_
            refine px_icmp_ne rfl (fun c39 => ?_) (fun c39 => ?_)
            · refine px_iconst (v := nI 4) rfl k_4 ?_
              refine px_iconst (v := nI 0) rfl k_0 ?_
              refine px_callV0 CX12_addStep [] [.int _, .int _] (pv_mono (e := 6 * r + 7) (Nat.zero_le _) (vX12_step (t := (2, if c a = 33 then 0 else 1)) (RSt_op hS3 o) (by have := hT.1; omega) (show nI 4 = aT (2, if c a = 33 then 0 else 1) from by first | (rw [if_pos ((sR_eq (TP_b hT a) (by decide)).mp (by first | exact c39 | exact Classical.byContradiction c39))]; rfl) | (rw [if_neg (fun e => c39 ((sR_eq (TP_b hT a) (by decide)).mpr e))]; rfl)) rfl (.inl (show 2 ≤ 2 by decide)))) rfl gS_65 (by decide) rfl rfl rfl (Nat.le_of_ble_eq_true rfl) (Nat.le_refl _) ?_
              rintro _ _ - ⟨rfl, I4, rfl, hS4⟩
              rw [List.append_assoc] at hS4
              refine px_goto rfl ?_
              refine px_return rfl rfl ?_
              first
              | exact .inl ⟨a + 1, [(1, nmN (c a))], _, sp_op_nm (TP_b hT a) hn _, rfl, rfl, RSt_at hS3 (a + 1)⟩
              | exact .inl ⟨q, t, I3, by rw [sp_op_fig hn (fun e => c48 ((sR_eq (TP_b hT a) (by decide)).mpr e)) (fun e => c20 ((sR_eq (TP_b hT a) (by decide)).mpr e)) (fun e => c23 ((sR_eq (TP_b hT a) (by decide)).mpr e))]; exact hR, rfl, rfl, hS3⟩
              | exact .inr ⟨q, L, I3, by rw [sp_op_fig hn (fun e => c48 ((sR_eq (TP_b hT a) (by decide)).mpr e)) (fun e => c20 ((sR_eq (TP_b hT a) (by decide)).mpr e)) (fun e => c23 ((sR_eq (TP_b hT a) (by decide)).mpr e))]; exact hR, hw1, hw2, hL, rfl, rfl, hF3⟩
              | exact .inl ⟨q, u ++ [(2, if c a = 33 then 0 else 1)], I4, by rw [sp_op_sg hsg, hR], rfl, rfl, hS4⟩
              | exact .inr ⟨q, L + 1, I4, FT_sg hsg hR, by omega, hw2, by omega, rfl, rfl, hF4⟩
              | exact .inr ⟨q, L, I3, FT_par hpa hR, by omega, hw2, by omega, rfl, rfl, hF3⟩
              | exact .inl ⟨q + 1, u, _, by rw [sp_op_par hpa, hR]; simp only [if_pos (show c q = 41 from (sR_eq (TP_b hT q) (by decide)).mp (by first | exact c62 | exact Classical.byContradiction c62))], rfl, rfl, RSt_op (RSt_at hS3 (q + 1)) o⟩
              | exact .inr ⟨q, (ts ++ u).length, I4, .inl (by rw [sp_op_par hpa, hR]; simp only [if_neg (fun e => c62 ((sR_eq (TP_b hT q) (by decide)).mpr e))]), by omega, hgu.2.1, by omega, rfl, rfl, hF4⟩
            · refine px_iconst (v := nI 3) rfl k_3 ?_
              refine px_goto rfl ?_
              refine px_iconst (v := nI 0) rfl k_0 ?_
              refine px_callV0 CX12_addStep [] [.int _, .int _] (pv_mono (e := 6 * r + 7) (Nat.zero_le _) (vX12_step (t := (2, if c a = 33 then 0 else 1)) (RSt_op hS3 o) (by have := hT.1; omega) (show nI 3 = aT (2, if c a = 33 then 0 else 1) from by first | (rw [if_pos ((sR_eq (TP_b hT a) (by decide)).mp (by first | exact c39 | exact Classical.byContradiction c39))]; rfl) | (rw [if_neg (fun e => c39 ((sR_eq (TP_b hT a) (by decide)).mpr e))]; rfl)) rfl (.inl (show 2 ≤ 2 by decide)))) rfl gS_65 (by decide) rfl rfl rfl (Nat.le_of_ble_eq_true rfl) (Nat.le_refl _) ?_
              rintro _ _ - ⟨rfl, I4, rfl, hS4⟩
              rw [List.append_assoc] at hS4
              refine px_goto rfl ?_
              refine px_return rfl rfl ?_
              first
              | exact .inl ⟨a + 1, [(1, nmN (c a))], _, sp_op_nm (TP_b hT a) hn _, rfl, rfl, RSt_at hS3 (a + 1)⟩
              | exact .inl ⟨q, t, I3, by rw [sp_op_fig hn (fun e => c48 ((sR_eq (TP_b hT a) (by decide)).mpr e)) (fun e => c20 ((sR_eq (TP_b hT a) (by decide)).mpr e)) (fun e => c23 ((sR_eq (TP_b hT a) (by decide)).mpr e))]; exact hR, rfl, rfl, hS3⟩
              | exact .inr ⟨q, L, I3, by rw [sp_op_fig hn (fun e => c48 ((sR_eq (TP_b hT a) (by decide)).mpr e)) (fun e => c20 ((sR_eq (TP_b hT a) (by decide)).mpr e)) (fun e => c23 ((sR_eq (TP_b hT a) (by decide)).mpr e))]; exact hR, hw1, hw2, hL, rfl, rfl, hF3⟩
              | exact .inl ⟨q, u ++ [(2, if c a = 33 then 0 else 1)], I4, by rw [sp_op_sg hsg, hR], rfl, rfl, hS4⟩
              | exact .inr ⟨q, L + 1, I4, FT_sg hsg hR, by omega, hw2, by omega, rfl, rfl, hF4⟩
              | exact .inr ⟨q, L, I3, FT_par hpa hR, by omega, hw2, by omega, rfl, rfl, hF3⟩
              | exact .inl ⟨q + 1, u, _, by rw [sp_op_par hpa, hR]; simp only [if_pos (show c q = 41 from (sR_eq (TP_b hT q) (by decide)).mp (by first | exact c62 | exact Classical.byContradiction c62))], rfl, rfl, RSt_op (RSt_at hS3 (q + 1)) o⟩
              | exact .inr ⟨q, (ts ++ u).length, I4, .inl (by rw [sp_op_par hpa, hR]; simp only [if_neg (fun e => c62 ((sR_eq (TP_b hT q) (by decide)).mpr e))]), by omega, hgu.2.1, by omega, rfl, rfl, hF4⟩
          · refine px_aload_n (kk := 0) rfl rfl rfl ?_
            refine px_dup rfl rfl ?_
            refine px_getI rfl gS_65 rfl ?_
            refine px_iconst (v := nI 1) rfl k_1 ?_
            refine px_isub rfl ?_
            refine px_putI rfl gS_65 rfl rfl ?_
            refine px_aload_n (kk := 0) rfl rfl rfl ?_
            refine px_iload_n (kk := 1) rfl rfl rfl ?_
            refine px_bipush (v := nI 33) rfl b_33 ?_
            refine px_icmp_ne rfl (fun c39 => ?_) (fun c39 => ?_)
            · refine px_iconst (v := nI 4) rfl k_4 ?_
              refine px_iconst (v := nI 0) rfl k_0 ?_
              refine px_callV0 CX12_addStep [] [.int _, .int _] (pv_mono (e := 6 * r + 7) (Nat.zero_le _) (vX12_stepF (RFt_op hF3 _) (by have := hT.1; omega))) rfl gS_65 (by decide) rfl rfl rfl (Nat.le_of_ble_eq_true rfl) (Nat.le_refl _) ?_
              rintro _ _ - ⟨rfl, I4, rfl, hF4⟩
              refine px_goto rfl ?_
              refine px_return rfl rfl ?_
              first
              | exact .inl ⟨a + 1, [(1, nmN (c a))], _, sp_op_nm (TP_b hT a) hn _, rfl, rfl, RSt_at hS3 (a + 1)⟩
              | exact .inl ⟨q, t, I3, by rw [sp_op_fig hn (fun e => c48 ((sR_eq (TP_b hT a) (by decide)).mpr e)) (fun e => c20 ((sR_eq (TP_b hT a) (by decide)).mpr e)) (fun e => c23 ((sR_eq (TP_b hT a) (by decide)).mpr e))]; exact hR, rfl, rfl, hS3⟩
              | exact .inr ⟨q, L, I3, by rw [sp_op_fig hn (fun e => c48 ((sR_eq (TP_b hT a) (by decide)).mpr e)) (fun e => c20 ((sR_eq (TP_b hT a) (by decide)).mpr e)) (fun e => c23 ((sR_eq (TP_b hT a) (by decide)).mpr e))]; exact hR, hw1, hw2, hL, rfl, rfl, hF3⟩
              | exact .inl ⟨q, u ++ [(2, if c a = 33 then 0 else 1)], I4, by rw [sp_op_sg hsg, hR], rfl, rfl, hS4⟩
              | exact .inr ⟨q, L + 1, I4, FT_sg hsg hR, by omega, hw2, by omega, rfl, rfl, hF4⟩
              | exact .inr ⟨q, L, I3, FT_par hpa hR, by omega, hw2, by omega, rfl, rfl, hF3⟩
              | exact .inl ⟨q + 1, u, _, by rw [sp_op_par hpa, hR]; simp only [if_pos (show c q = 41 from (sR_eq (TP_b hT q) (by decide)).mp (by first | exact c62 | exact Classical.byContradiction c62))], rfl, rfl, RSt_op (RSt_at hS3 (q + 1)) o⟩
              | exact .inr ⟨q, (ts ++ u).length, I4, .inl (by rw [sp_op_par hpa, hR]; simp only [if_neg (fun e => c62 ((sR_eq (TP_b hT q) (by decide)).mpr e))]), by omega, hgu.2.1, by omega, rfl, rfl, hF4⟩
            · refine px_iconst (v := nI 3) rfl k_3 ?_
              refine px_goto rfl ?_
              refine px_iconst (v := nI 0) rfl k_0 ?_
              refine px_callV0 CX12_addStep [] [.int _, .int _] (pv_mono (e := 6 * r + 7) (Nat.zero_le _) (vX12_stepF (RFt_op hF3 _) (by have := hT.1; omega))) rfl gS_65 (by decide) rfl rfl rfl (Nat.le_of_ble_eq_true rfl) (Nat.le_refl _) ?_
              rintro _ _ - ⟨rfl, I4, rfl, hF4⟩
              refine px_goto rfl ?_
              refine px_return rfl rfl ?_
              first
              | exact .inl ⟨a + 1, [(1, nmN (c a))], _, sp_op_nm (TP_b hT a) hn _, rfl, rfl, RSt_at hS3 (a + 1)⟩
              | exact .inl ⟨q, t, I3, by rw [sp_op_fig hn (fun e => c48 ((sR_eq (TP_b hT a) (by decide)).mpr e)) (fun e => c20 ((sR_eq (TP_b hT a) (by decide)).mpr e)) (fun e => c23 ((sR_eq (TP_b hT a) (by decide)).mpr e))]; exact hR, rfl, rfl, hS3⟩
              | exact .inr ⟨q, L, I3, by rw [sp_op_fig hn (fun e => c48 ((sR_eq (TP_b hT a) (by decide)).mpr e)) (fun e => c20 ((sR_eq (TP_b hT a) (by decide)).mpr e)) (fun e => c23 ((sR_eq (TP_b hT a) (by decide)).mpr e))]; exact hR, hw1, hw2, hL, rfl, rfl, hF3⟩
              | exact .inl ⟨q, u ++ [(2, if c a = 33 then 0 else 1)], I4, by rw [sp_op_sg hsg, hR], rfl, rfl, hS4⟩
              | exact .inr ⟨q, L + 1, I4, FT_sg hsg hR, by omega, hw2, by omega, rfl, rfl, hF4⟩
              | exact .inr ⟨q, L, I3, FT_par hpa hR, by omega, hw2, by omega, rfl, rfl, hF3⟩
              | exact .inl ⟨q + 1, u, _, by rw [sp_op_par hpa, hR]; simp only [if_pos (show c q = 41 from (sR_eq (TP_b hT q) (by decide)).mp (by first | exact c62 | exact Classical.byContradiction c62))], rfl, rfl, RSt_op (RSt_at hS3 (q + 1)) o⟩
              | exact .inr ⟨q, (ts ++ u).length, I4, .inl (by rw [sp_op_par hpa, hR]; simp only [if_neg (fun e => c62 ((sR_eq (TP_b hT q) (by decide)).mpr e))]), by omega, hgu.2.1, by omega, rfl, rfl, hF4⟩
theorem vX12_E {I : Nat → Nat → Int32} {J : Nat → Nat → Int64} {p : Bool × Option Nat} {ro : List (Nat × Nat × (Nat → Int32))} {c : Nat → Nat} {T : Nat} (hT : TP c T) (hLT : LTr c T I) {a : Nat} {ts : List Tk} {I1 : Nat → Nat → Int32} (ha : a ≤ T) (hl : ts.length ≤ a) (hS : RSt I 0 a ts I1) : Pv 43 0 0 CX12_either [.ref 65] (gS, I1, J, gR p, ro) (POr p I J ro c T a 0 ts (sp_E c a)) :=
  vX12_Eof hT hLT (op := sp_op c 6) (o := 0) (D := 38) (sp_op_g hT 6) (lX12_op hT hLT 6 0 (by decide)) a ts I1 ha hl hS
