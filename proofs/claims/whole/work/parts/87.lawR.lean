/-! the reference reads the text, and becomes a law -/
def sp_txr (c : Nat → Nat) (n q : Nat) (acc : List Ln) : Nat × Option (List Ln) := if c q = 256 then (q, some acc) else if c q = 59 then sp_tx c n (q + 1) acc else (q, none)
theorem sp_tx_step {c : Nat → Nat} {n p q : Nat} {l : Ln} (h : sp_ln c p = (q, some l)) (acc : List Ln) : sp_tx c (n + 1) p acc = sp_txr c n q (acc ++ [l]) := by
  conv => lhs; unfold sp_tx
  rw [h]; rfl
theorem sp_tx_none {c : Nat → Nat} {n p q : Nat} (h : FTL c (sp_ln c p) q) (acc : List Ln) : sp_tx c (n + 1) p acc = (q, none) := by
  unfold sp_tx
  rcases h with e | ⟨t, e, hd⟩
  · rw [e]
  · rw [e]
    have h1 := dg_b hd
    simp only [if_neg (show ¬ c q = 256 by omega), if_neg (show ¬ c q = 59 by omega)]
def LKr (I I1 : Nat → Nat → Int32) : Prop := Fr [65, 77, 78, 79, 80, 81] I I1 ∧ (∀ k, k ≠ 17 → k ≠ 18 → k ≠ 19 → k ≠ 20 → k ≠ 21 → I1 65 k = I 65 k) ∧ I1 65 17 = nI 0 ∧ (∀ j, j < 130 → I1 77 j = I 77 j ∧ I1 78 j = I 78 j) ∧ (∀ j, j < 61 → I1 80 j = I 80 j ∧ I1 81 j = I 81 j) ∧ I1 79 0 = I 79 0
def LawS (tx : List Ln) (I : Nat → Nat → Int32) : Prop := I 79 0 = nI tx.length ∧ tx.length ≤ 61 ∧ lensL tx ≤ 130 ∧ RLn I 0 0 tx ∧ ∀ q ∈ tx, lnOK q
def RTP (p : Bool × Option Nat) (I : Nat → Nat → Int32) (J : Nat → Nat → Int64) (ro : List (Nat × Nat × (Nat → Int32))) (c : Nat → Nat) : Option Value → pm_M → Prop := fun rr S' => (∃ q I', sp_tx c 121 0 [] = (q, none) ∧ q ≤ 120 ∧ rr = some (.int (nI q)) ∧ S' = (gS, I', J, gR p, ro) ∧ LKr I I') ∨ (∃ q tx I', sp_tx c 121 0 [] = (q, some tx) ∧ rr = some (.int (-1)) ∧ S' = (gS, I', J, gR p, ro) ∧ Fr [65, 77, 78, 79, 80, 81] I I' ∧ (∀ k, k ≠ 17 → k ≠ 18 → k ≠ 19 → k ≠ 20 → k ≠ 21 → I' 65 k = I 65 k) ∧ I' 65 17 = nI 0 ∧ tx ≠ [] ∧ LawS tx I')
theorem RL_congrB {I I' : Nat → Nat → Int32} (h0 : ∀ j, j < 61 → I' 80 j = I 80 j ∧ I' 81 j = I 81 j) (h2 : ∀ j, j < 130 → I' 77 j = I 77 j ∧ I' 78 j = I 78 j) : ∀ (r : List Ln) (l f : Nat), l + r.length ≤ 61 → f + lensL r ≤ 130 → RLn I l f r → RLn I' l f r
  | [], _, _, _, _, _ => trivial
  | q :: r, l, f, hl, hf, h => by
    rw [List.length_cons] at hl
    rw [lensL] at hf
    refine ⟨(h0 l (by omega)).1.trans h.1, (h0 l (by omega)).2.trans h.2.1, HC_congr (fun j _ hj => ?_) h.2.2.1, HC_congr (fun j _ hj => ?_) h.2.2.2.1, RL_congrB h0 h2 r _ _ (by omega) (by omega) h.2.2.2.2⟩
    · rw [List.length_map, List.length_append] at hj; exact (h2 j (by omega)).1
    · rw [List.length_map, List.length_append] at hj; exact (h2 j (by omega)).2
theorem LawR_LK {I I' : Nat → Nat → Int32} {tx : List Ln} (hL : LawR tx I) (h : LKr I I') : LawR tx I' := ⟨(h.2.1 29 (by decide) (by decide) (by decide) (by decide) (by decide)).trans hL.1, h.2.2.2.2.2.trans hL.2.1, hL.2.2.1, hL.2.2.2.1, RL_congrB h.2.2.2.2.1 h.2.2.2.1 tx 0 0 (by have := hL.2.2.1; omega) (by have := hL.2.2.2.1; omega) hL.2.2.2.2.1, hL.2.2.2.2.2⟩
def CPa (Ib : Nat → Nat → Int32) (j : Nat) (I1 : Nat → Nat → Int32) : Prop := (∀ c, c ≠ 77 → c ≠ 78 → I1 c = Ib c) ∧ (∀ i, i < j → I1 77 i = (Ib 77 (130 + i)).toInt8.toInt32 ∧ I1 78 i = Ib 78 (130 + i)) ∧ ∀ i, 130 ≤ i → I1 77 i = Ib 77 i ∧ I1 78 i = Ib 78 i
def CPb (Ib : Nat → Nat → Int32) (j : Nat) (I1 : Nat → Nat → Int32) : Prop := (∀ c, c ≠ 80 → c ≠ 81 → I1 c = Ib c) ∧ (∀ i, i < j → I1 80 i = (Ib 80 (61 + i)).toInt16.toInt32 ∧ I1 81 i = (Ib 81 (61 + i)).toInt16.toInt32) ∧ ∀ i, 61 ≤ i → I1 80 i = Ib 80 i ∧ I1 81 i = Ib 81 i
theorem CPa_st {Ib I1 : Nat → Nat → Int32} {j : Nat} (h : CPa Ib j I1) (hj : j < 130) {x w : Int32} (hx : x = (Ib 77 (130 + j)).toInt8.toInt32) (hw : w = Ib 78 (130 + j)) : CPa Ib (j + 1) (va_up (va_up I1 77 (va_up (I1 77) j x)) 78 (va_up (I1 78) j w)) := by
  refine ⟨fun c h1 h2 => by rw [p_up_n _ _ h2, p_up_n _ _ h1]; exact h.1 c h1 h2, fun i hi => ?_, fun i hi => ?_⟩
  · rw [p_up_n _ _ (by decide), p_up_s, p_up_s]
    rcases Nat.lt_or_ge i j with a | a
    · rw [p_up_n _ _ (by omega), p_up_n _ _ (by omega)]; exact h.2.1 i a
    · obtain rfl : i = j := by omega
      rw [p_up_s, p_up_s]; exact ⟨hx, hw⟩
  · rw [p_up_n _ _ (by decide), p_up_s, p_up_s, p_up_n _ _ (by omega), p_up_n _ _ (by omega)]; exact h.2.2 i hi
theorem CPb_st {Ib I1 : Nat → Nat → Int32} {j : Nat} (h : CPb Ib j I1) (hj : j < 61) {x w : Int32} (hx : x = (Ib 80 (61 + j)).toInt16.toInt32) (hw : w = (Ib 81 (61 + j)).toInt16.toInt32) : CPb Ib (j + 1) (va_up (va_up I1 80 (va_up (I1 80) j x)) 81 (va_up (I1 81) j w)) := by
  refine ⟨fun c h1 h2 => by rw [p_up_n _ _ h2, p_up_n _ _ h1]; exact h.1 c h1 h2, fun i hi => ?_, fun i hi => ?_⟩
  · rw [p_up_n _ _ (by decide), p_up_s, p_up_s]
    rcases Nat.lt_or_ge i j with a | a
    · rw [p_up_n _ _ (by omega), p_up_n _ _ (by omega)]; exact h.2.1 i a
    · obtain rfl : i = j := by omega
      rw [p_up_s, p_up_s]; exact ⟨hx, hw⟩
  · rw [p_up_n _ _ (by decide), p_up_s, p_up_s, p_up_n _ _ (by omega), p_up_n _ _ (by omega)]; exact h.2.2 i hi
theorem RBT_rf (I : Nat → Nat → Int32) : RBT I I := ⟨Fr_rf, fun _ _ _ _ _ => rfl, fun _ _ => ⟨rfl, rfl⟩, fun _ _ => ⟨rfl, rfl⟩, rfl⟩
theorem LK_of {I I1 : Nat → Nat → Int32} (h : RBT I I1) : LKr I (va_up I1 65 (va_up (I1 65) 17 (nI 0))) := ⟨Fr_up h.1 List.mem_cons_self _, fun k a b c d e => by rw [p_up_s, p_up_n _ _ a]; exact h.2.1 k b c d e, by rw [p_up_s, p_up_s], by rw [p_up_n _ _ (by decide), p_up_n _ _ (by decide)]; exact h.2.2.1, by rw [p_up_n _ _ (by decide), p_up_n _ _ (by decide)]; exact h.2.2.2.1, by rw [p_up_n _ _ (by decide)]; exact h.2.2.2.2⟩
theorem lX12_cp1 {I : Nat → Nat → Int32} {J : Nat → Nat → Int64} {p : Bool × Option Nat} {ro : List (Nat × Nat × (Nat → Int32))} {Ib I1 : Nat → Nat → Int32} {L j : Nat} (hL : Ib 65 21 = nI L) (h130 : L ≤ 130) (hj : j ≤ L) (h : CPa Ib j I1) {Q : Option Value → pm_M → Prop} (kont : ∀ I2, CPa Ib L I2 → Px 45 0 0 CX12_readText 90 [some (.ref (65)), some (.int (nI 0)), some (.int (nI L))] [] (gS, I2, J, gR p, ro) Q) : Px 45 0 0 CX12_readText 56 [some (.ref (65)), some (.int (nI 0)), some (.int (nI j))] [] (gS, I1, J, gR p, ro) (Q) := by
  refine px_iload_n (kk := 2) rfl rfl rfl ?_
  refine px_aload_n (kk := 0) rfl rfl rfl ?_
  refine px_getIe (v := nI L) rfl gS_65 rfl ((congrFun (h.1 65 (by decide) (by decide)) 21).trans hL) ?_
  refine px_icmp_ge rfl (fun c59 => ?_) (fun c59 => ?_)
  · rw [n_le (by omega) (by omega)] at c59
    obtain rfl : j = L := by omega
    exact kont I1 h
  · rw [n_le (by omega) (by omega)] at c59
    refine px_aload_n (kk := 0) rfl rfl rfl ?_
    refine px_getR (r := 77) rfl gS_65 rfl (gR_65_22 _) ?_
    refine px_sipush (v := nI 130) rfl s_130 ?_
    refine px_iload_n (kk := 1) rfl rfl rfl ?_
    refine px_imulN rfl ?_
    refine px_iload_n (kk := 2) rfl rfl rfl ?_
    refine px_iaddN rfl ?_
    refine px_aload_n (kk := 0) rfl rfl rfl ?_
    refine px_getR (r := 77) rfl gS_65 rfl (gR_65_22 _) ?_
    refine px_sipush (v := nI 130) rfl s_130 ?_
    refine px_iload_n (kk := 2) rfl rfl rfl ?_
    refine px_iaddN rfl ?_
    refine px_bald (j := (130 + j)) rfl gS_77 rfl (by omega) ?_
    refine px_bast (j := j) rfl gS_77 (by congr 1; omega) (by omega) ?_
    refine px_aload_n (kk := 0) rfl rfl rfl ?_
    refine px_getR (r := 78) rfl gS_65 rfl (gR_65_23 _) ?_
    refine px_sipush (v := nI 130) rfl s_130 ?_
    refine px_iload_n (kk := 1) rfl rfl rfl ?_
    refine px_imulN rfl ?_
    refine px_iload_n (kk := 2) rfl rfl rfl ?_
    refine px_iaddN rfl ?_
    refine px_aload_n (kk := 0) rfl rfl rfl ?_
    refine px_getR (r := 78) rfl gS_65 rfl (gR_65_23 _) ?_
    refine px_sipush (v := nI 130) rfl s_130 ?_
    refine px_iload_n (kk := 2) rfl rfl rfl ?_
    refine px_iaddN rfl ?_
    refine px_iald (j := (130 + j)) rfl gS_78 rfl (by omega) ?_
    refine px_iast (j := j) rfl gS_78 (by congr 1; omega) (by omega) ?_
    refine px_iinc2 (v := nI (j + 1)) rfl (n_inc j) rfl (by decide) ?_
    refine px_goto rfl ?_
    refine lX12_cp1 (I := I) hL h130 (j := j + 1) (by omega) (CPa_st h (by omega) (by rw [(h.2.2 (130 + j) (by omega)).1]) (by rw [p_up_n _ _ (by decide)]; exact (h.2.2 (130 + j) (by omega)).2)) kont
termination_by L - j
decreasing_by all_goals (have h := ‹¬ nI L ≤ nI j›; rw [n_le (by omega) (by omega)] at h; omega)
theorem lX12_cp2 {I : Nat → Nat → Int32} {J : Nat → Nat → Int64} {p : Bool × Option Nat} {ro : List (Nat × Nat × (Nat → Int32))} {Ib I1 : Nat → Nat → Int32} {L j : Nat} (hL : Ib 79 0 = nI L) (h61 : L ≤ 61) (hj : j ≤ L) (h : CPb Ib j I1) {Q : Option Value → pm_M → Prop} (kont : ∀ I2, CPb Ib L I2 → Px 45 0 0 CX12_readText 136 [some (.ref (65)), some (.int (nI 0)), some (.int (nI L))] [] (gS, I2, J, gR p, ro) Q) : Px 45 0 0 CX12_readText 100 [some (.ref (65)), some (.int (nI 0)), some (.int (nI j))] [] (gS, I1, J, gR p, ro) (Q) := by
  refine px_iload_n (kk := 2) rfl rfl rfl ?_
  refine px_aload_n (kk := 0) rfl rfl rfl ?_
  refine px_getR (r := 79) rfl gS_65 rfl (gR_65_24 _) ?_
  refine px_iload_n (kk := 1) rfl rfl rfl ?_
  refine px_ialde (j := 0) (v := nI L) rfl gS_79 rfl (by decide) ((congrFun (h.1 79 (by decide) (by decide)) 0).trans hL) ?_
  refine px_icmp_ge rfl (fun c105 => ?_) (fun c105 => ?_)
  · rw [n_le (by omega) (by omega)] at c105
    obtain rfl : j = L := by omega
    exact kont I1 h
  · rw [n_le (by omega) (by omega)] at c105
    refine px_aload_n (kk := 0) rfl rfl rfl ?_
    refine px_getR (r := 80) rfl gS_65 rfl (gR_65_25 _) ?_
    refine px_bipush (v := nI 61) rfl b_61 ?_
    refine px_iload_n (kk := 1) rfl rfl rfl ?_
    refine px_imulN rfl ?_
    refine px_iload_n (kk := 2) rfl rfl rfl ?_
    refine px_iaddN rfl ?_
    refine px_aload_n (kk := 0) rfl rfl rfl ?_
    refine px_getR (r := 80) rfl gS_65 rfl (gR_65_25 _) ?_
    refine px_bipush (v := nI 61) rfl b_61 ?_
    refine px_iload_n (kk := 2) rfl rfl rfl ?_
    refine px_iaddN rfl ?_
    refine px_sald (j := (61 + j)) rfl gS_80 rfl (by omega) ?_
    refine px_sast (j := j) rfl gS_80 (by congr 1; omega) (by omega) ?_
    refine px_aload_n (kk := 0) rfl rfl rfl ?_
    refine px_getR (r := 81) rfl gS_65 rfl (gR_65_26 _) ?_
    refine px_bipush (v := nI 61) rfl b_61 ?_
    refine px_iload_n (kk := 1) rfl rfl rfl ?_
    refine px_imulN rfl ?_
    refine px_iload_n (kk := 2) rfl rfl rfl ?_
    refine px_iaddN rfl ?_
    refine px_aload_n (kk := 0) rfl rfl rfl ?_
    refine px_getR (r := 81) rfl gS_65 rfl (gR_65_26 _) ?_
    refine px_bipush (v := nI 61) rfl b_61 ?_
    refine px_iload_n (kk := 2) rfl rfl rfl ?_
    refine px_iaddN rfl ?_
    refine px_sald (j := (61 + j)) rfl gS_81 rfl (by omega) ?_
    refine px_sast (j := j) rfl gS_81 (by congr 1; omega) (by omega) ?_
    refine px_iinc2 (v := nI (j + 1)) rfl (n_inc j) rfl (by decide) ?_
    refine px_goto rfl ?_
    refine lX12_cp2 (I := I) hL h61 (j := j + 1) (by omega) (CPb_st h (by omega) (by rw [(h.2.2 (61 + j) (by omega)).1]) (by rw [p_up_n _ _ (by decide), (h.2.2 (61 + j) (by omega)).2])) kont
termination_by L - j
decreasing_by all_goals (have h := ‹¬ nI L ≤ nI j›; rw [n_le (by omega) (by omega)] at h; omega)
theorem LS_of {Ib I2 I3 : Nat → Nat → Int32} {tx : List Ln} (hHC : HC (Ib 77) 130 ((toks tx).map aT)) (hHW : HC (Ib 78) 130 ((toks tx).map wT)) (hLE : LEn Ib 61 0 0 tx) (hN : tx.length ≤ 61) (hL : lensL tx ≤ 130) (hok : ∀ x ∈ tx, lnOK x) (h2 : CPa Ib (toks tx).length I2) (h3 : CPb (va_up I2 79 (va_up (I2 79) 0 (nI tx.length))) tx.length I3) : LawS tx I3 := by
  refine ⟨?_, hN, hL, RLn_of (LEn_congr (I := Ib) (b := 61) (fun j _ hj => ?_) hLE) ?_ ?_, hok⟩
  · rw [h3.1 79 (by decide) (by decide), p_up_s, p_up_s]
  · obtain ⟨x, y, hx, hy, e1, e2⟩ := LEn_at hLE j (Nat.zero_le _) hj
    have h := h3.2.1 j (by omega)
    rw [p_up_n _ _ (by decide), p_up_n _ _ (by decide), h2.1 80 (by decide) (by decide), h2.1 81 (by decide) (by decide), e1, e2, n_s16 (by omega), n_s16 (by omega)] at h
    rw [Nat.zero_add, h.1, h.2, e1, e2]
    exact ⟨rfl, rfl⟩
  · rw [h3.1 77 (by decide) (by decide), p_up_n _ _ (by decide)]
    refine HC_cp (b := 130) (h := fun x => x.toInt8.toInt32) hHC (fun x hx => ?_) (fun j _ hj => (h2.2.1 j (by rw [List.length_map] at hj; omega)).1)
    obtain ⟨t, ht, rfl⟩ := List.mem_map.mp hx
    exact aT_b (toks_tk hok t ht)
  · rw [h3.1 78 (by decide) (by decide), p_up_n _ _ (by decide)]
    exact HC_cp (b := 130) (h := fun x => x) hHW (fun x hx => rfl) (fun j _ hj => (h2.2.1 j (by rw [List.length_map] at hj; omega)).2)
theorem lX12_copy {I : Nat → Nat → Int32} {J : Nat → Nat → Int64} {p : Bool × Option Nat} {ro : List (Nat × Nat × (Nat → Int32))} {c : Nat → Nat} {T : Nat} (hT : TP c T) (hLT : LTr c T I) {a : Nat} {tx : List Ln} {I1 : Nat → Nat → Int32} (hS : RT I a tx I1) (ha : a ≤ T) (hl : (toks tx).length ≤ a) (hn : 2 * tx.length ≤ a + 1) (hne : tx ≠ []) (hok : ∀ x ∈ tx, lnOK x) (hsp : sp_tx c 121 0 [] = (a, some tx)) {o2 : Option Value} : Px 45 0 0 CX12_readText 54 [some (.ref (65)), some (.int (nI 0)), o2] [] (gS, (va_up I1 65 (va_up (I1 65) 17 (nI 0))), J, gR p, ro) (RTP p I J ro c) := by
  have hTT := hT.1
  have htl := toks_len tx
  refine px_iconst (v := nI 0) rfl k_0 ?_
  refine px_ist2 rfl rfl (by decide) ?_
  refine lX12_cp1 (I := I) (Ib := (va_up I1 65 (va_up (I1 65) 17 (nI 0)))) (L := (toks tx).length) (by rw [p_up_s, p_up_n _ _ (by decide)]; exact hS.2.1.2.2.2.2.1) (by omega) (Nat.zero_le _) ⟨fun _ _ _ => rfl, fun i hi => absurd hi (by omega), fun _ _ => ⟨rfl, rfl⟩⟩ (fun I2 h2 => ?_)
  refine px_aload_n (kk := 0) rfl rfl rfl ?_
  refine px_getR (r := 79) rfl gS_65 rfl (gR_65_24 _) ?_
  refine px_iload_n (kk := 1) rfl rfl rfl ?_
  refine px_aload_n (kk := 0) rfl rfl rfl ?_
  refine px_getR (r := 79) rfl gS_65 rfl (gR_65_24 _) ?_
  refine px_iconst (v := nI 1) rfl k_1 ?_
  refine px_ialde (j := 1) (v := nI tx.length) rfl gS_79 rfl (by decide) ((congrFun (h2.1 79 (by decide) (by decide)) 1).trans (by rw [p_up_n _ _ (by decide)]; exact hS.2.2.1)) ?_
  refine px_iast (j := 0) rfl gS_79 rfl (by decide) ?_
  refine px_iconst (v := nI 0) rfl k_0 ?_
  refine px_ist2 rfl rfl (by decide) ?_
  refine lX12_cp2 (I := I) (L := tx.length) (by rw [p_up_s, p_up_s]) (by omega) (Nat.zero_le _) ⟨fun _ _ _ => rfl, fun i hi => absurd hi (by omega), fun _ _ => ⟨rfl, rfl⟩⟩ (fun I3 h3 => ?_)
  refine px_iconst (v := -1) rfl k_m1 ?_
  refine px_ireturn rfl (.inl rfl) ?_
  have hk := LK_of hS.1
  have hLS := LS_of (tx := tx) (by rw [p_up_n _ _ (by decide)]; exact hS.2.1.2.2.2.2.2.1) (by rw [p_up_n _ _ (by decide)]; exact hS.2.1.2.2.2.2.2.2) (LEn_congr (fun j _ _ => by rw [p_up_n _ _ (by decide), p_up_n _ _ (by decide)]; exact ⟨rfl, rfl⟩) hS.2.2.2) (by omega) (by omega) hok h2 h3
  have e65 : I3 65 = (va_up I1 65 (va_up (I1 65) 17 (nI 0))) 65 := by rw [h3.1 65 (by decide) (by decide), p_up_n _ _ (by decide)]; exact h2.1 65 (by decide) (by decide)
  refine .inr ⟨a, tx, I3, hsp, rfl, rfl, fun c hc => ?_, by rw [e65]; exact hk.2.1, by rw [e65]; exact hk.2.2.1, hne, hLS⟩
  have := hc
  simp only [List.mem_cons, List.not_mem_nil, or_false, not_or] at this
  rw [h3.1 c (by omega) (by omega), p_up_n _ _ (by omega), h2.1 c (by omega) (by omega)]
  exact hk.1 c hc
theorem lX12_endF {I : Nat → Nat → Int32} {J : Nat → Nat → Int64} {p : Bool × Option Nat} {ro : List (Nat × Nat × (Nat → Int32))} {c : Nat → Nat} {q : Nat} {I1 : Nat → Nat → Int32} (hF : RTF I q I1) (hq : q ≤ 120) (hsp : sp_tx c 121 0 [] = (q, none)) {o2 : Option Value} : Px 45 0 0 CX12_readText 35 [some (.ref (65)), some (.int (nI 0)), o2] [] (gS, I1, J, gR p, ro) (RTP p I J ro c) := by
  refine px_aload_n (kk := 0) rfl rfl rfl ?_
  refine px_getIe (v := nI q) rfl gS_65 rfl hF.2.2 ?_
  refine px_if_ge rfl (fun c37 => ?_) (fun h => absurd (nn_ge (by omega)) h)
  refine px_aload_n (kk := 0) rfl rfl rfl ?_
  refine px_iconst (v := nI 0) rfl k_0 ?_
  refine px_putI rfl gS_65 rfl rfl ?_
  refine px_aload_n (kk := 0) rfl rfl rfl ?_
  refine px_getIe (v := nI q) rfl gS_65 rfl (by rw [p_up_s, p_up_n _ _ (by decide)]; exact hF.2.2) ?_
  refine px_if_lt rfl (fun h => absurd h (n_nneg (by omega))) (fun c50 => ?_)
  refine px_aload_n (kk := 0) rfl rfl rfl ?_
  refine px_getIe (v := nI q) rfl gS_65 rfl (by rw [p_up_s, p_up_n _ _ (by decide)]; exact hF.2.2) ?_
  refine px_ireturn rfl (.inl rfl) ?_
  exact .inl ⟨q, _, hsp, hq, rfl, rfl, LK_of hF.1⟩
theorem lX12_end {I : Nat → Nat → Int32} {J : Nat → Nat → Int64} {p : Bool × Option Nat} {ro : List (Nat × Nat × (Nat → Int32))} {c : Nat → Nat} {T : Nat} (hT : TP c T) (hLT : LTr c T I) {a : Nat} {tx : List Ln} {I1 : Nat → Nat → Int32} (hS : RT I a tx I1) (ha : a ≤ T) (hl : (toks tx).length ≤ a) (hn : 2 * tx.length ≤ a + 1) (hne : tx ≠ []) (hok : ∀ x ∈ tx, lnOK x) {n : Nat} (hsp : sp_tx c 121 0 [] = sp_txr c n a tx) (h59 : ¬ c a = 59) {o2 : Option Value} : Px 45 0 0 CX12_readText 35 [some (.ref (65)), some (.int (nI 0)), o2] [] (gS, I1, J, gR p, ro) (RTP p I J ro c) := by
  have hTT := hT.1
  refine px_aload_n (kk := 0) rfl rfl rfl ?_
  refine px_getIe (v := -1) rfl gS_65 rfl hS.2.1.2.2.1 ?_
  refine px_if_ge rfl (fun h => absurd h (by decide)) (fun _ => ?_)
  refine px_aload_n (kk := 0) rfl rfl rfl ?_
  refine px_getIe (v := nI a) rfl gS_65 rfl hS.2.1.2.1 ?_
  refine px_aload_n (kk := 0) rfl rfl rfl ?_
  refine px_getIe (v := nI T) rfl gS_65 rfl (LTr_T hLT hS.1).1 ?_
  refine px_icmp_ge rfl (fun c42 => ?_) (fun c42 => ?_)
  · rw [n_le (by omega) (by omega)] at c42
    have e256 : c a = 256 := hT.2.2 a (by omega)
    refine px_aload_n (kk := 0) rfl rfl rfl ?_
    refine px_iconst (v := nI 0) rfl k_0 ?_
    refine px_putI rfl gS_65 rfl rfl ?_
    refine px_aload_n (kk := 0) rfl rfl rfl ?_
    refine px_getIe (v := -1) rfl gS_65 rfl (by rw [p_up_s, p_up_n _ _ (by decide)]; exact hS.2.1.2.2.1) ?_
    refine px_if_lt rfl (fun _ => ?_) (fun h => absurd h (by decide))
    exact lX12_copy hT hLT hS ha hl hn hne hok (by rw [hsp, sp_txr, if_pos e256])
  · refine px_aload_n (kk := 0) rfl rfl rfl ?_
    refine px_callV0 CX12_wrong [] [] (vX12_wrong hS.2.1) rfl gS_65 (by decide) rfl rfl rfl (Nat.le_of_ble_eq_true rfl) (by decide) ?_
    rintro _ _ - ⟨rfl, I2, rfl, hF⟩
    rw [n_le (by omega) (by omega)] at c42
    have hb := hT.2.1 a (by omega)
    refine px_aload_n (kk := 0) rfl rfl rfl ?_
    refine px_iconst (v := nI 0) rfl k_0 ?_
    refine px_putI rfl gS_65 rfl rfl ?_
    refine px_aload_n (kk := 0) rfl rfl rfl ?_
    refine px_getIe (v := nI a) rfl gS_65 rfl (by rw [p_up_s, p_up_n _ _ (by decide)]; exact hF.2.2.1) ?_
    refine px_if_lt rfl (fun h => absurd h (n_nneg (by omega))) (fun c50 => ?_)
    refine px_aload_n (kk := 0) rfl rfl rfl ?_
    refine px_getIe (v := nI a) rfl gS_65 rfl (by rw [p_up_s, p_up_n _ _ (by decide)]; exact hF.2.2.1) ?_
    refine px_ireturn rfl (.inl rfl) ?_
    exact .inl ⟨a, _, by rw [hsp, sp_txr, if_neg (by omega), if_neg h59], by omega, rfl, rfl, LK_of (RBT_RB hS.1 hF.1)⟩
theorem lX12_tx {I : Nat → Nat → Int32} {J : Nat → Nat → Int64} {p : Bool × Option Nat} {ro : List (Nat × Nat × (Nat → Int32))} {c : Nat → Nat} {T : Nat} (hT : TP c T) (hLT : LTr c T I) {a : Nat} {tx : List Ln} {I1 : Nat → Nat → Int32} (hS : RT I a tx I1) (ha : a ≤ T) (hl : (toks tx).length ≤ a) (hn : 2 * tx.length ≤ a + 1) (hne : tx ≠ []) (hok : ∀ x ∈ tx, lnOK x) {n : Nat} (hTn : T - a < n) (hsp : sp_tx c 121 0 [] = sp_txr c n a tx) {o2 : Option Value} : Px 45 0 0 CX12_readText 19 [some (.ref (65)), some (.int (nI 0)), o2] [] (gS, I1, J, gR p, ro) (RTP p I J ro c) := by
  have hTT := hT.1
  refine px_aload_n (kk := 0) rfl rfl rfl ?_
  refine px_getIe (v := -1) rfl gS_65 rfl hS.2.1.2.2.1 ?_
  refine px_if_ge rfl (fun h => absurd h (by decide)) (fun _ => ?_)
  refine px_aload_n (kk := 0) rfl rfl rfl ?_
  refine px_callV0 CX12_look [] [] (vX12_look hT (LTr_T hLT hS.1) (a := a) ha hS.2.1.1 hS.2.1.2.1) rfl gS_65 (by decide) rfl rfl rfl (Nat.le_of_ble_eq_true rfl) (by decide) ?_
  rintro _ _ - ⟨rfl, rfl⟩
  refine px_bipush (v := nI 59) rfl b_59 ?_
  refine px_icmp_ne rfl (fun c25 => ?_) (fun c25 => ?_)
  · exact lX12_end hT hLT hS ha hl hn hne hok hsp (fun e => c25 ((sR_eq (TP_b hT a) (by decide)).mpr e))
  · have e59 : c a = 59 := (sR_eq (TP_b hT a) (by decide)).mp (by first | exact c25 | exact Classical.byContradiction c25)
    have haT : a < T := TP_lt hT (by omega)
    obtain ⟨n, rfl⟩ : ∃ m, n = m + 1 := ⟨n - 1, by omega⟩
    rw [sp_txr, if_neg (show ¬ c a = 256 by omega), if_pos e59] at hsp
    refine px_aload_n (kk := 0) rfl rfl rfl ?_
    refine px_dup rfl rfl ?_
    refine px_getIe (v := nI a) rfl gS_65 rfl hS.2.1.2.1 ?_
    refine px_iconst (v := nI 1) rfl k_1 ?_
    refine px_iaddN rfl ?_
    refine px_putI rfl gS_65 rfl rfl ?_
    refine px_aload_n (kk := 0) rfl rfl rfl ?_
    refine px_callV0 CX12_oneLine [] [] (vX12_oneLine hT hLT (a := a + 1) (by omega) (by omega) (by omega) (RT_at hS (a + 1))) rfl gS_65 (by decide) rfl rfl rfl (Nat.le_of_ble_eq_true rfl) (by decide) ?_
    rintro _ _ - (⟨q, ln, I3, hR, rfl, rfl, hS3⟩ | ⟨q, I3, hR, hw1, hw2, rfl, rfl, hF⟩)
    · have hg := (sp_ln_g hT (a := a + 1) (by omega)).1 q ln hR
      have hln : (toks (tx ++ [ln])).length = (toks tx).length + ln.1.length + ln.2.length := by rw [toks_snoc, List.length_append, List.length_append]
      have hlx : (tx ++ [ln]).length = tx.length + 1 := by rw [List.length_append]; rfl
      refine px_goto rfl ?_
      rw [sp_tx_step hR tx] at hsp
      exact lX12_tx hT hLT hS3 hg.2.1 (by omega) (by omega) (by simp) (fun x hx => (List.mem_append.mp hx).elim (hok x) (fun e => by rw [List.mem_singleton.mp e]; exact hg.2.2.2.1)) (n := n) (by omega) hsp
    · refine px_goto rfl ?_
      refine px_aload_n (kk := 0) rfl rfl rfl ?_
      refine px_getIe (v := nI q) rfl gS_65 rfl hF.2.2 ?_
      refine px_if_ge rfl (fun c21 => ?_) (fun h => absurd (nn_ge (by omega)) h)
      exact lX12_endF hF (by omega) (hsp.trans (sp_tx_none hR tx))
termination_by n
decreasing_by all_goals omega
theorem vX12_readText {I : Nat → Nat → Int32} {J : Nat → Nat → Int64} {p : Bool × Option Nat} {ro : List (Nat × Nat × (Nat → Int32))} {c : Nat → Nat} {T : Nat} (hT : TP c T) (hLT : LTr c T I) : Pv 45 0 0 CX12_readText [.ref (65), .int (nI 0)] (gS, I, J, gR p, ro) (RTP p I J ro c) := by
  refine ⟨okCX12_readText, Nat.le_of_ble_eq_true rfl, (show Px _ _ _ _ 0 [some (.ref (65)), some (.int (nI 0)), none] [] _ _ from ?_)⟩
  refine px_aload_n (kk := 0) rfl rfl rfl ?_
  refine px_iconst (v := nI 0) rfl k_0 ?_
  refine px_putI rfl gS_65 rfl rfl ?_
  refine px_aload_n (kk := 0) rfl rfl rfl ?_
  refine px_iconst (v := -1) rfl k_m1 ?_
  refine px_putI rfl gS_65 rfl rfl ?_
  refine px_aload_n (kk := 0) rfl rfl rfl ?_
  refine px_iconst (v := nI 0) rfl k_0 ?_
  refine px_putI rfl gS_65 rfl rfl ?_
  refine px_aload_n (kk := 0) rfl rfl rfl ?_
  refine px_iconst (v := nI 0) rfl k_0 ?_
  refine px_putI rfl gS_65 rfl rfl ?_
  refine px_aload_n (kk := 0) rfl rfl rfl ?_
  refine px_getR (r := 79) rfl gS_65 rfl (gR_65_24 _) ?_
  refine px_iconst (v := nI 1) rfl k_1 ?_
  refine px_iconst (v := nI 0) rfl k_0 ?_
  refine px_iast (j := 1) rfl gS_79 rfl (by decide) ?_
  have h1 := RB_f (RB_rf I) (k := 18) (.inl rfl) (nI 0)
  have h2 := RB_f h1 (k := 19) (.inr (.inl rfl)) (-1)
  have h3 := RB_f h2 (k := 20) (.inr (.inr (.inl rfl))) (nI 0)
  have h4 := RB_f h3 (k := 21) (.inr (.inr (.inr rfl))) (nI 0)
  have h5 := RBT_79 (RBT_RB (RBT_rf I) h4) (nI 0)
  have hS := (show RT I 0 [] _ from ⟨h5, ⟨RB_rf _, by rw [p_up_n _ _ (by decide), p_up_s, p_up_n _ _ (by decide), p_up_s, p_up_n _ _ (by decide), p_up_s, p_up_n _ _ (by decide), p_up_s, p_up_s], by rw [p_up_n _ _ (by decide), p_up_s, p_up_n _ _ (by decide), p_up_s, p_up_n _ _ (by decide), p_up_s, p_up_s], by rw [p_up_n _ _ (by decide), p_up_s, p_up_n _ _ (by decide), p_up_s, p_up_s], by rw [p_up_n _ _ (by decide), p_up_s, p_up_s]; rfl, trivial, trivial⟩, by rw [p_up_s, p_up_s]; rfl, trivial⟩)
  have hTT := hT.1
  refine px_aload_n (kk := 0) rfl rfl rfl ?_
  refine px_callV0 CX12_oneLine [] [] (vX12_oneLine hT hLT (a := 0) (Nat.zero_le _) (Nat.le_refl _) (Nat.le_refl _) hS) rfl gS_65 (by decide) rfl rfl rfl (Nat.le_of_ble_eq_true rfl) (by decide) ?_
  rintro _ _ - (⟨q, ln, I3, hR, rfl, rfl, hS3⟩ | ⟨q, I3, hR, hw1, hw2, rfl, rfl, hF⟩)
  · have hg := (sp_ln_g hT (a := 0) (by omega)).1 q ln hR
    have hln : (toks ([] ++ [ln])).length = ln.1.length + ln.2.length := by rw [toks_snoc, List.length_append, List.length_append]; exact congrArg (· + ln.2.length) (Nat.zero_add _)
    exact lX12_tx hT hLT hS3 hg.2.1 (by omega) (by show 2 * 1 ≤ _; omega) (by simp) (fun x hx => by rw [List.nil_append] at hx; rw [List.mem_singleton.mp hx]; exact hg.2.2.2.1) (n := 120) (by omega) (sp_tx_step hR [])
  · refine px_aload_n (kk := 0) rfl rfl rfl ?_
    refine px_getIe (v := nI q) rfl gS_65 rfl hF.2.2 ?_
    refine px_if_ge rfl (fun c21 => ?_) (fun h => absurd (nn_ge (by omega)) h)
    exact lX12_endF hF (by omega) (sp_tx_none hR [])
theorem vX12_law {I : Nat → Nat → Int32} {J : Nat → Nat → Int64} {p : Bool × Option Nat} {ro : List (Nat × Nat × (Nat → Int32))} {c : Nat → Nat} {T : Nat} (hT : TP c T) (hLT : LTr c T I) : Pv 46 0 0 CX12_law [.ref (65)] (gS, I, J, gR p, ro) (fun rr S' => (∃ q I', sp_tx c 121 0 [] = (q, none) ∧ rr = some (.int (-100 - nI q)) ∧ S' = (gS, I', J, gR p, ro) ∧ LKr I I') ∨ (∃ q tx I', sp_tx c 121 0 [] = (q, some tx) ∧ rr = some (.int (nI 1)) ∧ S' = (gS, I', J, gR p, ro) ∧ Fr [65, 77, 78, 79, 80, 81] I I' ∧ (∀ k, k ≠ 29 → k ≠ 17 → k ≠ 18 → k ≠ 19 → k ≠ 20 → k ≠ 21 → I' 65 k = I 65 k) ∧ I' 65 17 = nI 0 ∧ tx ≠ [] ∧ LawR tx I')) := by
  refine ⟨okCX12_law, Nat.le_of_ble_eq_true rfl, (show Px _ _ _ _ 0 [some (.ref (65)), none] [] _ _ from ?_)⟩
  refine px_aload_n (kk := 0) rfl rfl rfl ?_
  refine px_iconst (v := nI 0) rfl k_0 ?_
  refine px_callV0 CX12_readText [] [.int _] (vX12_readText hT hLT) rfl gS_65 (by decide) rfl rfl rfl (Nat.le_of_ble_eq_true rfl) (by decide) ?_
  rintro _ _ - (⟨q, I3, hR, hq120, rfl, rfl, hK⟩ | ⟨q, tx, I3, hR, rfl, rfl, hF, hk, h17, hne, hL⟩)
  · refine px_ist1 rfl rfl (by decide) ?_
    refine px_iload_n (kk := 1) rfl rfl rfl ?_
    refine px_if_lt rfl (fun h => absurd h (n_nneg (by omega))) (fun c5 => ?_)
    refine px_bipush (v := -100) rfl b_m100 ?_
    refine px_iload_n (kk := 1) rfl rfl rfl ?_
    refine px_isub rfl ?_
    refine px_ireturn rfl (.inl rfl) ?_
    exact .inl ⟨q, I3, hR, rfl, rfl, hK⟩
  · refine px_ist1 rfl rfl (by decide) ?_
    refine px_iload_n (kk := 1) rfl rfl rfl ?_
    refine px_if_lt rfl (fun _ => ?_) (fun h => absurd h (by decide))
    refine px_aload_n (kk := 0) rfl rfl rfl ?_
    refine px_iconst (v := nI 1) rfl k_1 ?_
    refine px_putZ rfl gS_65 rfl (by decide) rfl ?_
    refine px_iconst (v := nI 1) rfl k_1 ?_
    refine px_ireturn rfl (.inl rfl) ?_
    refine .inr ⟨q, tx, _, hR, rfl, rfl, Fr_up hF List.mem_cons_self _, fun k h1 h2 h3 h4 h5 h6 => by rw [p_up_s, p_up_n _ _ h1]; exact hk k h2 h3 h4 h5 h6, by rw [p_up_s, p_up_n _ _ (by decide)]; exact h17, hne, by rw [p_up_s, p_up_s, if_neg hne], by rw [p_up_n _ _ (by decide)]; exact hL.1, hL.2.1, hL.2.2.1, ?_, hL.2.2.2.2⟩
    exact RL_congr (by rw [p_up_n _ _ (by decide)]) (by rw [p_up_n _ _ (by decide)]) (by rw [p_up_n _ _ (by decide)]) (by rw [p_up_n _ _ (by decide)]) tx 0 0 hL.2.2.2.1
