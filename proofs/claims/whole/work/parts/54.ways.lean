/-! ALL WAYS OF PLUGS -/
/-- the first way's plugs, who was through in how many, how many ways, the most -/
abbrev VS : Type := (Nat → Int32) × (Nat → Int32) × Nat × Int32
def sp_take (M : Nat → Int32) (v : VS) : VS := (if v.2.2.1 = 0 then M else v.1, fun l => if M l ≠ -1 then v.2.1 l + nI 1 else v.2.1 l, v.2.2.1 + 1, v.2.2.2)
def sp_lk (L M : Nat → Int32) (l : Nat) : Int32 := if M l = -1 then nI 0 else L (8 * l + mN (M l))
def ST (n : Nat) (L M : Nat → Int32) : Prop := (∀ l, l < n → 0 ≤ sp_lk L M l) ∧ ∀ a b, a < b → b < n → ¬ (sp_lk L M a < L (8 * a + b) ∧ sp_lk L M b < L (8 * b + a))
def TD (n z : Nat) (E N : Nat → Int32) : Prop := ∀ l, l < n → l < z → N l = E l
noncomputable def sp_vis (aim n : Nat) (L N : Nat → Int32) (z : Nat) (E : Nat → Int32) (nx : (Nat → Int32) → Nat → Int32) (M : Nat → Int32) (v : VS) : VS := match aim with
  | 0 => if v.2.2.2 < sp_sum (nx M) n then (M, v.2.1, v.2.2.1, sp_sum (nx M) n) else v
  | 1 => if v.2.2.2 < sp_pop (sp_bits (fun l => decide (N l ≤ nx M l)) n) then (M, v.2.1, v.2.2.1, sp_pop (sp_bits (fun l => decide (N l ≤ nx M l)) n)) else v
  | 2 => @ite _ (ST n L M) (Classical.propDecidable _) (sp_take M v) v
  | _ => @ite _ (TD n z E (nx M)) (Classical.propDecidable _) (sp_take M v) v
def sp_loop (f : Nat → VS → VS) : Nat → Nat → VS → VS
  | 0, _, v => v
  | c + 1, e, v => sp_loop f c (e + 1) (f e v)
def sp_go (n : Nat) (V : (Nat → Int32) → VS → VS) : Nat → Nat → (Nat → Int32) → VS → VS
  | 0, _, M, v => V M v
  | m + 1, c, M, v => if M (n - (m + 1)) ≠ -1 ∨ c = 0 then sp_go n V m c M v else sp_loop (fun e v => if M e ≠ -1 then v else sp_go n V m (c - 1) (va_up (va_up M (n - (m + 1)) (nI e)) e (nI (n - (m + 1)))) v) m (n - m) (sp_go n V m c M v)
theorem sp_vis0 {n : Nat} {L N : Nat → Int32} {z : Nat} {E : Nat → Int32} {nx : (Nat → Int32) → Nat → Int32} {M : Nat → Int32} {v : VS} : sp_vis 0 n L N z E nx M v = if v.2.2.2 < sp_sum (nx M) n then (M, v.2.1, v.2.2.1, sp_sum (nx M) n) else v := rfl
theorem sp_vis1 {n : Nat} {L N : Nat → Int32} {z : Nat} {E : Nat → Int32} {nx : (Nat → Int32) → Nat → Int32} {M : Nat → Int32} {v : VS} : sp_vis 1 n L N z E nx M v = if v.2.2.2 < sp_pop (sp_bits (fun l => decide (N l ≤ nx M l)) n) then (M, v.2.1, v.2.2.1, sp_pop (sp_bits (fun l => decide (N l ≤ nx M l)) n)) else v := rfl
theorem sp_vis2 {n : Nat} {L N : Nat → Int32} {z : Nat} {E : Nat → Int32} {nx : (Nat → Int32) → Nat → Int32} {M : Nat → Int32} {v : VS} : sp_vis 2 n L N z E nx M v = @ite _ (ST n L M) (Classical.propDecidable _) (sp_take M v) v := rfl
theorem sp_vis3 {n : Nat} {L N : Nat → Int32} {z : Nat} {E : Nat → Int32} {nx : (Nat → Int32) → Nat → Int32} {M : Nat → Int32} {v : VS} : sp_vis 3 n L N z E nx M v = @ite _ (TD n z E (nx M)) (Classical.propDecidable _) (sp_take M v) v := rfl
theorem sp_vis_f {aim n : Nat} {L N : Nat → Int32} {z : Nat} {E : Nat → Int32} {nx : (Nat → Int32) → Nat → Int32} (M : Nat → Int32) (v : VS) : (sp_vis aim n L N z E nx M v).2.2.1 ≤ v.2.2.1 + 1 := by
  unfold sp_vis
  split
  · split <;> simp
  · split <;> simp
  · by_cases h : ST n L M
    · rw [if_pos h]; simp [sp_take]
    · rw [if_neg h]; omega
  · by_cases h : TD n z E (nx M)
    · rw [if_pos h]; simp [sp_take]
    · rw [if_neg h]; omega
theorem sp_loop_f {f : Nat → VS → VS} {b : Nat} (h : ∀ e v, (f e v).2.2.1 ≤ v.2.2.1 + b) : ∀ (c e : Nat) (v : VS), (sp_loop f c e v).2.2.1 ≤ v.2.2.1 + c * b
  | 0, e, v => by simp [sp_loop]
  | c + 1, e, v => by
    have h1 := sp_loop_f h c (e + 1) (f e v)
    have h2 := h e v
    rw [Nat.add_mul, Nat.one_mul]
    show (sp_loop f c (e + 1) (f e v)).2.2.1 ≤ _
    omega
theorem sp_go_f {n : Nat} {V : (Nat → Int32) → VS → VS} (hn : n ≤ 8) (h : ∀ M v, (V M v).2.2.1 ≤ v.2.2.1 + 1) : ∀ (m c : Nat) (M : Nat → Int32) (v : VS), m ≤ n → (sp_go n V m c M v).2.2.1 ≤ v.2.2.1 + 8 ^ m
  | 0, c, M, v, _ => by simpa [sp_go] using h M v
  | m + 1, c, M, v, hm => by
    have h0 := sp_go_f hn h m c M v (by omega)
    have hp : 8 ^ m + m * 8 ^ m ≤ 8 ^ (m + 1) := by
      rw [Nat.pow_succ, Nat.mul_comm (8 ^ m) 8]
      have : (1 + m) * 8 ^ m ≤ 8 * 8 ^ m := Nat.mul_le_mul_right _ (by omega)
      rw [Nat.add_mul, Nat.one_mul] at this
      exact this
    unfold sp_go
    split
    · have : 0 ≤ m * 8 ^ m := Nat.zero_le _
      omega
    · have h1 := sp_loop_f (f := fun e v => if M e ≠ -1 then v else sp_go n V m (c - 1) (va_up (va_up M (n - (m + 1)) (nI e)) e (nI (n - (m + 1)))) v) (b := 8 ^ m) (fun e v => by
        split
        · omega
        · exact sp_go_f hn h m (c - 1) _ v (by omega)) m (n - m) (sp_go n V m c M v)
      omega
/-- the class's rows as ways are gone through -/
def WC (n aim : Nat) (M : Nat → Int32) (v : VS) (I : Nat → Nat → Int32) : Prop := (∀ l, l < n → I 25 l = M l) ∧ (∀ l, l < n → I 26 l = v.1 l) ∧ (∀ l, l < n → I 27 l = v.2.1 l) ∧ I 24 8 = nI v.2.2.1 ∧ I 24 9 = v.2.2.2 ∧ I 24 6 = nI aim
abbrev cw : List Nat := [12, 13, 24, 25, 26, 27, 28]
theorem WC_fr {n aim : Nat} {M : Nat → Int32} {v : VS} {I I' : Nat → Nat → Int32} {cs : List Nat} (h : WC n aim M v I) (hF : Fr cs I I') (hc : 25 ∉ cs ∧ 26 ∉ cs ∧ 27 ∉ cs ∧ 24 ∉ cs) : WC n aim M v I' := ⟨fun l hl => by rw [hF 25 hc.1]; exact h.1 l hl, fun l hl => by rw [hF 26 hc.2.1]; exact h.2.1 l hl, fun l hl => by rw [hF 27 hc.2.2.1]; exact h.2.2.1 l hl, by rw [hF 24 hc.2.2.2]; exact h.2.2.2.1, by rw [hF 24 hc.2.2.2]; exact h.2.2.2.2.1, by rw [hF 24 hc.2.2.2]; exact h.2.2.2.2.2⟩
theorem lX10_take {I : Nat → Nat → Int32} {J : Nat → Nat → Int64} {p : Bool × Option Nat} {ro : List (Nat × Nat × (Nat → Int32))} {n : Nat} (hn : I 1 4 = nI n) (hn8 : n ≤ 8) {k : Nat} (hk : k ≤ n) : Px 0 0 0 CX10_take 19 [some (.ref (24)), some (.int (nI k))] [] (gS, (va_up I 27 (fun j => if j < k ∧ I 25 j ≠ -1 then I 27 j + nI 1 else I 27 j)), J, gR p, ro) (qV (gS, (va_up I 27 (fun j => if j < n ∧ I 25 j ≠ -1 then I 27 j + nI 1 else I 27 j)), J, gR p, ro)) := by
  refine px_iload_n (kk := 1) rfl rfl rfl ?_
  refine px_aload_n (kk := 0) rfl rfl rfl ?_
  refine px_getR (r := 1) rfl gS_24 rfl (gR_24_0 _) ?_
  refine px_getIe rfl gS_1 rfl ((congrFun (p_up_n _ _ (by decide)) 4).trans hn) ?_
  refine px_icmp_ge rfl (fun c23 => ?_) (fun c23 => ?_)
  · refine px_return rfl rfl ?_
    rw [n_le (by omega) (by omega)] at c23
    obtain rfl : k = n := by omega
    exact ⟨rfl, rfl⟩
  · rw [n_le (by omega) (by omega)] at c23
    refine px_aload_n (kk := 0) rfl rfl rfl ?_
    refine px_getR (r := 25) rfl gS_24 rfl (gR_24_2 _) ?_
    refine px_iload_n (kk := 1) rfl rfl rfl ?_
    refine px_ialde (j := k) (v := I 25 k) rfl gS_25 rfl (by omega) (congrFun (p_up_n _ _ (by decide)) k) ?_
    refine px_iconst (v := -1) rfl k_m1 ?_
    refine px_icmp_eq rfl (fun c29 => ?_) (fun c29 => ?_)
    · refine px_iinc1 (v := nI (k + 1)) rfl (n_inc k) rfl (by decide) ?_
      refine px_goto rfl ?_
      rw [age_n (I 27) (I 25) k c29]
      exact lX10_take hn hn8 (k := k + 1) (by omega)
    · refine px_aload_n (kk := 0) rfl rfl rfl ?_
      refine px_getR (r := 27) rfl gS_24 rfl (gR_24_4 _) ?_
      refine px_iload_n (kk := 1) rfl rfl rfl ?_
      refine px_dup2 rfl rfl rfl ?_
      refine px_iald (j := k) rfl gS_27 rfl (by omega) ?_
      refine px_iconst (v := nI 1) rfl k_1 ?_
      refine px_iadd rfl ?_
      refine px_iast (j := k) rfl gS_27 rfl (by omega) ?_
      refine px_iinc1 (v := nI (k + 1)) rfl (n_inc k) rfl (by decide) ?_
      refine px_goto rfl ?_
      refine px_mem (show _ = (va_up I 27 (fun j => if j < (k + 1) ∧ I 25 j ≠ -1 then I 27 j + nI 1 else I 27 j)) from ?_) (lX10_take hn hn8 (k := k + 1) (by omega))
      rw [up2, p_up_s, if_neg (by omega), age_s (I 27) (I 25) k c29]
termination_by n - k
decreasing_by all_goals (have h := ‹¬ nI n ≤ nI k›; rw [n_le (by omega) (by omega)] at h; omega)
theorem pxv_post {d mc ms : Nat} {cd : pm_C} {i : Nat} {ls : List (Option Value)} {st : List Value} {S : pm_M} {Q Q' : Option Value → pm_M → Prop} (h : Px d mc ms cd i ls st S Q) (hq : ∀ r S', Q r S' → Q' r S') : Px d mc ms cd i ls st S Q' := px_post h hq
theorem vX10_take {I : Nat → Nat → Int32} {J : Nat → Nat → Int64} {p : Bool × Option Nat} {ro : List (Nat × Nat × (Nat → Int32))} {n : Nat} (hn : I 1 4 = nI n) (hn8 : n ≤ 8) {M : Nat → Int32} {v : VS} {aim : Nat} (hWC : WC n aim M v I) (hf : v.2.2.1 < 2 ^ 31) : Pv 0 0 0 CX10_take [.ref (24)] (gS, I, J, gR p, ro) (fun r S' => r = none ∧ ∃ I', S' = (gS, I', J, gR p, ro) ∧ Fr [24, 26, 27] I I' ∧ WC n aim M (sp_take M v) I') := by
  refine ⟨okCX10_take, Nat.le_of_ble_eq_true rfl, (show Px _ _ _ _ 0 [some (.ref (24)), none] [] _ _ from ?_)⟩
  refine px_aload_n (kk := 0) rfl rfl rfl ?_
  refine px_getI rfl gS_24 rfl ?_
  refine px_if_ne rfl (fun c2 => ?_) (fun c2 => ?_)
  · refine px_aload_n (kk := 0) rfl rfl rfl ?_
    refine px_dup rfl rfl ?_
    refine px_getI rfl gS_24 rfl ?_
    refine px_iconst (v := nI 1) rfl k_1 ?_
    refine px_iadd rfl ?_
    refine px_putI rfl gS_24 rfl rfl ?_
    refine px_iconst (v := nI 0) rfl k_0 ?_
    refine px_ist1 rfl rfl (by decide) ?_
    refine px_mem (age_0 _ 27 25) ?_
    refine pxv_post (lX10_take (I := va_up I 24 (va_up (I 24) 8 (I 24 8 + nI 1))) (by rw [p_up_n _ _ (by decide)]; exact hn) hn8 (k := 0) (by omega)) ?_
    rintro r S' ⟨rfl, rfl⟩
    refine ⟨rfl, _, rfl, Fr_up (Fr_up Fr_rf (by decide) _) (by decide) _, ?_⟩
    obtain ⟨w1, w2, w3, w4, w5, w6⟩ := hWC
    have hne0 : ¬ v.2.2.1 = 0 := fun e => c2 (by rw [w4, e]; rfl)
    refine ⟨fun l hl => ?_, fun l hl => ?_, fun l hl => ?_, ?_, ?_, ?_⟩
    · simp only [va_up, Nat.reduceEqDiff, if_true, if_false]; exact w1 l hl
    · simp only [va_up, Nat.reduceEqDiff, if_true, if_false, sp_take, hne0]; exact w2 l hl
    · simp only [va_up, Nat.reduceEqDiff, if_true, if_false, hl, true_and, w1 l hl, w3 l hl]; rfl
    · simp only [va_up, Nat.reduceEqDiff, if_true, if_false, w4, nI_add]; rfl
    · simp only [va_up, Nat.reduceEqDiff, if_true, if_false]; exact w5
    · simp only [va_up, Nat.reduceEqDiff, if_true, if_false]; exact w6
  · refine px_aload_n (kk := 0) rfl rfl rfl ?_
    refine px_getR (r := 25) rfl gS_24 rfl (gR_24_2 _) ?_
    refine px_iconst (v := nI 0) rfl k_0 ?_
    refine px_aload_n (kk := 0) rfl rfl rfl ?_
    refine px_getR (r := 26) rfl gS_24 rfl (gR_24_3 _) ?_
    refine px_iconst (v := nI 0) rfl k_0 ?_
    refine px_bipush (v := nI 8) rfl b_8 ?_
    refine px_copyI (0) (0) (8) rfl (Nat.le_of_ble_eq_true rfl) gS_25 gS_26 rfl rfl rfl (by decide) (by decide) ?_
    refine px_aload_n (kk := 0) rfl rfl rfl ?_
    refine px_dup rfl rfl ?_
    refine px_getI rfl gS_24 rfl ?_
    refine px_iconst (v := nI 1) rfl k_1 ?_
    refine px_iadd rfl ?_
    refine px_putI rfl gS_24 rfl rfl ?_
    refine px_iconst (v := nI 0) rfl k_0 ?_
    refine px_ist1 rfl rfl (by decide) ?_
    refine px_mem (age_0 _ 27 25) ?_
    refine pxv_post (lX10_take (I := va_up (va_up I 26 (va_cpy (I 25) (I 26) 0 0 8)) 24 (va_up (va_up I 26 (va_cpy (I 25) (I 26) 0 0 8) 24) 8 (va_up I 26 (va_cpy (I 25) (I 26) 0 0 8) 24 8 + nI 1))) (by rw [p_up_n _ _ (by decide), p_up_n _ _ (by decide)]; exact hn) hn8 (k := 0) (by omega)) ?_
    rintro r S' ⟨rfl, rfl⟩
    refine ⟨rfl, _, rfl, Fr_up (Fr_up (Fr_up Fr_rf (by decide) _) (by decide) _) (by decide) _, ?_⟩
    obtain ⟨w1, w2, w3, w4, w5, w6⟩ := hWC
    have h0 : v.2.2.1 = 0 := by rw [w4, n_0, n_eq hf (by omega)] at c2; exact c2
    refine ⟨fun l hl => ?_, fun l hl => ?_, fun l hl => ?_, ?_, ?_, ?_⟩
    · simp only [va_up, Nat.reduceEqDiff, if_true, if_false]; exact w1 l hl
    · simp only [va_up, Nat.reduceEqDiff, if_true, if_false, cpy_8, cp8, show l < 8 by omega, sp_take, h0]; exact w1 l hl
    · simp only [va_up, Nat.reduceEqDiff, if_true, if_false, hl, true_and, w1 l hl, w3 l hl]; rfl
    · simp only [va_up, Nat.reduceEqDiff, if_true, if_false, w4, nI_add]; rfl
    · simp only [va_up, Nat.reduceEqDiff, if_true, if_false]; exact w5
    · simp only [va_up, Nat.reduceEqDiff, if_true, if_false]; exact w6
theorem vX10_rather {I : Nat → Nat → Int32} {J : Nat → Nat → Int64} {p : Bool × Option Nat} {ro : List (Nat × Nat × (Nat → Int32))} {a b : Nat} (ha : a < 8) (hb : b < 8) : Pv 0 0 0 CX10_wouldRather [.ref (24), .int (nI a), .int (nI b)] (gS, I, J, gR p, ro) (qB (I 28 a < I 5 (8 * a + b)) (gS, I, J, gR p, ro)) := by
  refine ⟨okCX10_wouldRather, Nat.le_of_ble_eq_true rfl, (show Px _ _ _ _ 0 [some (.ref (24)), some (.int (nI a)), some (.int (nI b))] [] _ _ from ?_)⟩
  refine px_aload_n (kk := 0) rfl rfl rfl ?_
  refine px_getR (r := 1) rfl gS_24 rfl (gR_24_0 _) ?_
  refine px_getR (r := 5) rfl gS_1 rfl (gR_1_3 _) ?_
  refine px_iload_n (kk := 1) rfl rfl rfl ?_
  refine px_bipush (v := nI 8) rfl b_8 ?_
  refine px_imulN rfl ?_
  refine px_iload_n (kk := 2) rfl rfl rfl ?_
  refine px_iaddN rfl ?_
  refine px_iald (j := (8 * a + b)) rfl gS_5 (by congr 1; omega) (by omega) ?_
  refine px_aload_n (kk := 0) rfl rfl rfl ?_
  refine px_getR (r := 28) rfl gS_24 rfl (gR_24_5 _) ?_
  refine px_iload_n (kk := 1) rfl rfl rfl ?_
  refine px_iald (j := a) rfl gS_28 rfl (by omega) ?_
  refine px_icmp_le rfl (fun c13 => ?_) (fun c13 => ?_)
  · refine px_iconst (v := nI 0) rfl k_0 ?_
    refine px_ireturn rfl (.inr ⟨rfl, by decide⟩) ?_
    exact qB_f (fun h => by rw [i_lt] at h; rw [i_le] at c13; omega)
  · refine px_iconst (v := nI 1) rfl k_1 ?_
    refine px_goto rfl ?_
    refine px_ireturn rfl (.inr ⟨rfl, by decide⟩) ?_
    exact qB_t (by rw [i_lt]; rw [i_le] at c13; omega)
theorem lX10_st1 {I : Nat → Nat → Int32} {J : Nat → Nat → Int64} {p : Bool × Option Nat} {ro : List (Nat × Nat × (Nat → Int32))} {n : Nat} (hn : I 1 4 = nI n) (hn8 : n ≤ 8) (hMT : MT n (I 25)) {k : Nat} (hk : k ≤ n) (hh : ∀ l, l < k → 0 ≤ sp_lk (I 5) (I 25) l) {o : Option Value} (kont : ∀ o, (∀ l, l < n → 0 ≤ sp_lk (I 5) (I 25) l) → Px 3 0 0 CX10_isStable 38 [some (.ref 24), some (.int (nI 0)), o] [] (gS, (va_up I 28 (fun j => if j < n then sp_lk (I 5) (I 25) j else I 28 j)), J, gR p, ro) (fun r S' => ∃ I', S' = (gS, I', J, gR p, ro) ∧ Fr [28] I I' ∧ (ST n (I 5) (I 25) ∧ r = some (.int (nI 1)) ∨ ¬ ST n (I 5) (I 25) ∧ r = some (.int (nI 0))))) : Px 3 0 0 CX10_isStable 2 [some (.ref (24)), some (.int (nI k)), o] [] (gS, (va_up I 28 (fun j => if j < k then sp_lk (I 5) (I 25) j else I 28 j)), J, gR p, ro) ((fun r S' => ∃ I', S' = (gS, I', J, gR p, ro) ∧ Fr [28] I I' ∧ (ST n (I 5) (I 25) ∧ r = some (.int (nI 1)) ∨ ¬ ST n (I 5) (I 25) ∧ r = some (.int (nI 0))))) := by
  refine px_iload_n (kk := 1) rfl rfl rfl ?_
  refine px_aload_n (kk := 0) rfl rfl rfl ?_
  refine px_getR (r := 1) rfl gS_24 rfl (gR_24_0 _) ?_
  refine px_getIe rfl gS_1 rfl ((congrFun (p_up_n _ _ (by decide)) 4).trans hn) ?_
  refine px_icmp_ge rfl (fun c6 => ?_) (fun c6 => ?_)
  · refine px_iconst (v := nI 0) rfl k_0 ?_
    refine px_ist1 rfl rfl (by decide) ?_
    rw [n_le (by omega) (by omega)] at c6
    obtain rfl : k = n := by omega
    exact kont _ hh
  · rw [n_le (by omega) (by omega)] at c6
    rcases hMT k (by omega) with hm | ⟨j0, hj0, hjk, hm, -⟩
    · have hlk : sp_lk (I 5) (I 25) k = nI 0 := by rw [sp_lk, if_pos hm]
      refine px_aload_n (kk := 0) rfl rfl rfl ?_
      refine px_getR (r := 28) rfl gS_24 rfl (gR_24_5 _) ?_
      refine px_iload_n (kk := 1) rfl rfl rfl ?_
      refine px_aload_n (kk := 0) rfl rfl rfl ?_
      refine px_getR (r := 25) rfl gS_24 rfl (gR_24_2 _) ?_
      refine px_iload_n (kk := 1) rfl rfl rfl ?_
      refine px_ialde (j := k) (v := -1) rfl gS_25 rfl (by omega) ((congrFun (p_up_n _ _ (by decide)) k).trans hm) ?_
      refine px_iconst (v := -1) rfl k_m1 ?_
      refine px_icmp_ne rfl (fun h => absurd h (by decide)) (fun _ => ?_)
      refine px_iconst (v := nI 0) rfl k_0 ?_
      refine px_goto rfl ?_
      refine px_iast (j := k) rfl gS_28 rfl (by omega) ?_
      refine px_aload_n (kk := 0) rfl rfl rfl ?_
      refine px_getR (r := 28) rfl gS_24 rfl (gR_24_5 _) ?_
      refine px_iload_n (kk := 1) rfl rfl rfl ?_
      refine px_ialde (j := k) (v := sp_lk (I 5) (I 25) k) rfl gS_28 rfl (by omega) (by rw [p_up_s, p_up_s, hlk]) ?_
      refine px_if_ge rfl (fun c31 => ?_) (fun c31 => ?_)
      · refine px_iinc1 (v := nI (k + 1)) rfl (n_inc k) rfl (by decide) ?_
        refine px_goto rfl ?_
        refine px_mem (show _ = (va_up I 28 (fun j => if j < (k + 1) then sp_lk (I 5) (I 25) j else I 28 j)) from ?_) (lX10_st1 hn hn8 hMT (k := k + 1) (by omega) (fun l hl => ?_) kont)
        · rw [p_up_s, ← hlk]
          exact fillf_next I 28 k (sp_lk (I 5) (I 25))
        · by_cases e : l = k
          · subst e; exact c31
          · exact hh l (by omega)
      · refine px_iconst (v := nI 0) rfl k_0 ?_
        refine px_ireturn rfl (.inr ⟨rfl, by decide⟩) ?_
        exact ⟨_, rfl, Fr_up (Fr_up Fr_rf (by decide) _) (by decide) _, Or.inr ⟨fun z => c31 (z.1 k (by omega)), rfl⟩⟩
    · have hlk : sp_lk (I 5) (I 25) k = I 5 (8 * k + j0) := by rw [sp_lk, if_neg (by rw [hm]; exact nI_nm (by omega)), hm, mN_n (by omega)]
      refine px_aload_n (kk := 0) rfl rfl rfl ?_
      refine px_getR (r := 28) rfl gS_24 rfl (gR_24_5 _) ?_
      refine px_iload_n (kk := 1) rfl rfl rfl ?_
      refine px_aload_n (kk := 0) rfl rfl rfl ?_
      refine px_getR (r := 25) rfl gS_24 rfl (gR_24_2 _) ?_
      refine px_iload_n (kk := 1) rfl rfl rfl ?_
      refine px_ialde (j := k) (v := nI j0) rfl gS_25 rfl (by omega) ((congrFun (p_up_n _ _ (by decide)) k).trans hm) ?_
      refine px_iconst (v := -1) rfl k_m1 ?_
      refine px_icmp_ne rfl (fun c15 => ?_) (fun h => absurd h (nI_nm (by omega)))
      refine px_aload_n (kk := 0) rfl rfl rfl ?_
      refine px_getR (r := 1) rfl gS_24 rfl (gR_24_0 _) ?_
      refine px_iload_n (kk := 1) rfl rfl rfl ?_
      refine px_aload_n (kk := 0) rfl rfl rfl ?_
      refine px_getR (r := 25) rfl gS_24 rfl (gR_24_2 _) ?_
      refine px_iload_n (kk := 1) rfl rfl rfl ?_
      refine px_ialde (j := k) (v := nI j0) rfl gS_25 rfl (by omega) ((congrFun (p_up_n _ _ (by decide)) k).trans hm) ?_
      refine px_callV0 CX9_liking [.int _, .ref 28] [.int _, .int _] (vX9_liking ((congrFun (p_up_n _ _ (by decide)) 4).trans hn) hn8 (a := k) (b := j0) (by omega) hj0 (fun e => hjk e.symm)) rfl gS_1 (by decide) rfl rfl rfl (Nat.le_of_ble_eq_true rfl) (by decide) ?_
      rintro _ _ - ⟨rfl, rfl⟩
      rw [p_up_n _ _ (by decide)]
      refine px_iast (j := k) rfl gS_28 rfl (by omega) ?_
      refine px_aload_n (kk := 0) rfl rfl rfl ?_
      refine px_getR (r := 28) rfl gS_24 rfl (gR_24_5 _) ?_
      refine px_iload_n (kk := 1) rfl rfl rfl ?_
      refine px_ialde (j := k) (v := sp_lk (I 5) (I 25) k) rfl gS_28 rfl (by omega) (by rw [p_up_s, p_up_s, hlk]) ?_
      refine px_if_ge rfl (fun c31 => ?_) (fun c31 => ?_)
      · refine px_iinc1 (v := nI (k + 1)) rfl (n_inc k) rfl (by decide) ?_
        refine px_goto rfl ?_
        refine px_mem (show _ = (va_up I 28 (fun j => if j < (k + 1) then sp_lk (I 5) (I 25) j else I 28 j)) from ?_) (lX10_st1 hn hn8 hMT (k := k + 1) (by omega) (fun l hl => ?_) kont)
        · rw [p_up_s, ← hlk]
          exact fillf_next I 28 k (sp_lk (I 5) (I 25))
        · by_cases e : l = k
          · subst e; exact c31
          · exact hh l (by omega)
      · refine px_iconst (v := nI 0) rfl k_0 ?_
        refine px_ireturn rfl (.inr ⟨rfl, by decide⟩) ?_
        exact ⟨_, rfl, Fr_up (Fr_up Fr_rf (by decide) _) (by decide) _, Or.inr ⟨fun z => c31 (z.1 k (by omega)), rfl⟩⟩
termination_by n - k
decreasing_by all_goals (have h := ‹¬ nI n ≤ nI k›; rw [n_le (by omega) (by omega)] at h; omega)
theorem lk_at {I : Nat → Nat → Int32} {n a : Nat} (h : a < n) : (va_up I 28 (fun j => if j < n then sp_lk (I 5) (I 25) j else I 28 j)) 28 a = sp_lk (I 5) (I 25) a := by
  rw [p_up_s, if_pos h]
theorem lX10_st3 {I : Nat → Nat → Int32} {J : Nat → Nat → Int64} {p : Bool × Option Nat} {ro : List (Nat × Nat × (Nat → Int32))} {n : Nat} (hn : I 1 4 = nI n) (hn8 : n ≤ 8) {a b : Nat} (ha : a < n) (hab : a < b) (hb : b ≤ n) (hp : ∀ x y, x < y → y < n → (x < a ∨ x = a ∧ y < b) → ¬ (sp_lk (I 5) (I 25) x < I 5 (8 * x + y) ∧ sp_lk (I 5) (I 25) y < I 5 (8 * y + x))) (kont : ∀ o, (∀ x y, x < y → y < n → x < a + 1 → ¬ (sp_lk (I 5) (I 25) x < I 5 (8 * x + y) ∧ sp_lk (I 5) (I 25) y < I 5 (8 * y + x))) → Px 3 0 0 CX10_isStable 38 [some (.ref 24), some (.int (nI (a + 1))), o] [] (gS, (va_up I 28 (fun j => if j < n then sp_lk (I 5) (I 25) j else I 28 j)), J, gR p, ro) (fun r S' => ∃ I', S' = (gS, I', J, gR p, ro) ∧ Fr [28] I I' ∧ (ST n (I 5) (I 25) ∧ r = some (.int (nI 1)) ∨ ¬ ST n (I 5) (I 25) ∧ r = some (.int (nI 0))))) : Px 3 0 0 CX10_isStable 47 [some (.ref (24)), some (.int (nI a)), some (.int (nI b))] [] (gS, (va_up I 28 (fun j => if j < n then sp_lk (I 5) (I 25) j else I 28 j)), J, gR p, ro) ((fun r S' => ∃ I', S' = (gS, I', J, gR p, ro) ∧ Fr [28] I I' ∧ (ST n (I 5) (I 25) ∧ r = some (.int (nI 1)) ∨ ¬ ST n (I 5) (I 25) ∧ r = some (.int (nI 0))))) := by
  refine px_iload_n (kk := 2) rfl rfl rfl ?_
  refine px_aload_n (kk := 0) rfl rfl rfl ?_
  refine px_getR (r := 1) rfl gS_24 rfl (gR_24_0 _) ?_
  refine px_getIe rfl gS_1 rfl ((congrFun (p_up_n _ _ (by decide)) 4).trans hn) ?_
  refine px_icmp_ge rfl (fun c51 => ?_) (fun c51 => ?_)
  · refine px_iinc1 (v := nI (a + 1)) rfl (n_inc a) rfl (by decide) ?_
    refine px_goto rfl ?_
    rw [n_le (by omega) (by omega)] at c51
    exact kont _ (fun x y h1 h2 h3 => hp x y h1 h2 (by omega))
  · rw [n_le (by omega) (by omega)] at c51
    refine px_aload_n (kk := 0) rfl rfl rfl ?_
    refine px_iload_n (kk := 1) rfl rfl rfl ?_
    refine px_iload_n (kk := 2) rfl rfl rfl ?_
    refine px_callV0 CX10_wouldRather [] [.int _, .int _] (vX10_rather (a := a) (b := b) (by omega) (by omega)) rfl gS_24 (by decide) rfl rfl rfl (Nat.le_of_ble_eq_true rfl) (by decide) ?_
    rintro _ _ - (⟨r1, rfl, rfl⟩ | ⟨r1, rfl, rfl⟩)
    · rw [lk_at (by omega), p_up_n _ _ (by decide)] at r1
      refine px_if_eq rfl (fun h => absurd h (by decide)) (fun _ => ?_)
      refine px_aload_n (kk := 0) rfl rfl rfl ?_
      refine px_iload_n (kk := 2) rfl rfl rfl ?_
      refine px_iload_n (kk := 1) rfl rfl rfl ?_
      refine px_callV0 CX10_wouldRather [] [.int _, .int _] (vX10_rather (a := b) (b := a) (by omega) (by omega)) rfl gS_24 (by decide) rfl rfl rfl (Nat.le_of_ble_eq_true rfl) (by decide) ?_
      rintro _ _ - (⟨r2, rfl, rfl⟩ | ⟨r2, rfl, rfl⟩)
      · rw [lk_at (by omega), p_up_n _ _ (by decide)] at r2
        refine px_if_eq rfl (fun h => absurd h (by decide)) (fun _ => ?_)
        refine px_iconst (v := nI 0) rfl k_0 ?_
        refine px_ireturn rfl (.inr ⟨rfl, by decide⟩) ?_
        exact ⟨_, rfl, Fr_up Fr_rf (by decide) _, Or.inr ⟨fun z => z.2 a b hab (by omega) ⟨r1, r2⟩, rfl⟩⟩
      · rw [lk_at (by omega), p_up_n _ _ (by decide)] at r2
        refine px_if_eq rfl (fun _ => ?_) (fun h => absurd h (by decide))
        refine px_iinc2 (v := nI (b + 1)) rfl (n_inc b) rfl (by decide) ?_
        refine px_goto rfl ?_
        refine lX10_st3 hn hn8 ha (b := b + 1) (by omega) (by omega) (fun x y h1 h2 h3 => ?_) kont
        by_cases e : x = a ∧ y = b
        · obtain ⟨rfl, rfl⟩ := e; exact fun z => r2 z.2
        · exact hp x y h1 h2 (by omega)
    · rw [lk_at (by omega), p_up_n _ _ (by decide)] at r1
      refine px_if_eq rfl (fun _ => ?_) (fun h => absurd h (by decide))
      refine px_iinc2 (v := nI (b + 1)) rfl (n_inc b) rfl (by decide) ?_
      refine px_goto rfl ?_
      refine lX10_st3 hn hn8 ha (b := b + 1) (by omega) (by omega) (fun x y h1 h2 h3 => ?_) kont
      by_cases e : x = a ∧ y = b
      · obtain ⟨rfl, rfl⟩ := e; exact fun z => r1 z.1
      · exact hp x y h1 h2 (by omega)
termination_by n - b
decreasing_by all_goals (have h := ‹¬ nI n ≤ nI b›; rw [n_le (by omega) (by omega)] at h; omega)
theorem lX10_st2 {I : Nat → Nat → Int32} {J : Nat → Nat → Int64} {p : Bool × Option Nat} {ro : List (Nat × Nat × (Nat → Int32))} {n : Nat} (hn : I 1 4 = nI n) (hn8 : n ≤ 8) (hh : ∀ l, l < n → 0 ≤ sp_lk (I 5) (I 25) l) {a : Nat} (ha : a ≤ n) {o : Option Value} (hp : ∀ x y, x < y → y < n → x < a → ¬ (sp_lk (I 5) (I 25) x < I 5 (8 * x + y) ∧ sp_lk (I 5) (I 25) y < I 5 (8 * y + x))) : Px 3 0 0 CX10_isStable 38 [some (.ref (24)), some (.int (nI a)), o] [] (gS, (va_up I 28 (fun j => if j < n then sp_lk (I 5) (I 25) j else I 28 j)), J, gR p, ro) ((fun r S' => ∃ I', S' = (gS, I', J, gR p, ro) ∧ Fr [28] I I' ∧ (ST n (I 5) (I 25) ∧ r = some (.int (nI 1)) ∨ ¬ ST n (I 5) (I 25) ∧ r = some (.int (nI 0))))) := by
  refine px_iload_n (kk := 1) rfl rfl rfl ?_
  refine px_aload_n (kk := 0) rfl rfl rfl ?_
  refine px_getR (r := 1) rfl gS_24 rfl (gR_24_0 _) ?_
  refine px_getIe rfl gS_1 rfl ((congrFun (p_up_n _ _ (by decide)) 4).trans hn) ?_
  refine px_icmp_ge rfl (fun c42 => ?_) (fun c42 => ?_)
  · refine px_iconst (v := nI 1) rfl k_1 ?_
    refine px_ireturn rfl (.inr ⟨rfl, by decide⟩) ?_
    rw [n_le (by omega) (by omega)] at c42
    obtain rfl : a = n := by omega
    exact ⟨_, rfl, Fr_up Fr_rf (by decide) _, Or.inl ⟨⟨hh, fun x y h1 h2 => hp x y h1 h2 (by omega)⟩, rfl⟩⟩
  · rw [n_le (by omega) (by omega)] at c42
    refine px_iload_n (kk := 1) rfl rfl rfl ?_
    refine px_iconst (v := nI 1) rfl k_1 ?_
    refine px_iaddN rfl ?_
    refine px_ist2 rfl rfl (by decide) ?_
    exact lX10_st3 hn hn8 (a := a) (b := a + 1) (by omega) (by omega) (by omega) (fun x y h1 h2 h3 => hp x y h1 h2 (by omega)) (fun o hp2 => lX10_st2 hn hn8 hh (a := a + 1) (by omega) hp2)
termination_by n - a
decreasing_by all_goals (have h := ‹¬ nI n ≤ nI a›; rw [n_le (by omega) (by omega)] at h; omega)
theorem vX10_stable {I : Nat → Nat → Int32} {J : Nat → Nat → Int64} {p : Bool × Option Nat} {ro : List (Nat × Nat × (Nat → Int32))} {n : Nat} (hn : I 1 4 = nI n) (hn8 : n ≤ 8) (hMT : MT n (I 25)) : Pv 3 0 0 CX10_isStable [.ref (24)] (gS, I, J, gR p, ro) ((fun r S' => ∃ I', S' = (gS, I', J, gR p, ro) ∧ Fr [28] I I' ∧ (ST n (I 5) (I 25) ∧ r = some (.int (nI 1)) ∨ ¬ ST n (I 5) (I 25) ∧ r = some (.int (nI 0))))) := by
  refine ⟨okCX10_isStable, Nat.le_of_ble_eq_true rfl, (show Px _ _ _ _ 0 [some (.ref (24)), none, none] [] _ _ from ?_)⟩
  refine px_iconst (v := nI 0) rfl k_0 ?_
  refine px_ist1 rfl rfl (by decide) ?_
  refine px_mem (fill_0f I 28 (sp_lk (I 5) (I 25))) ?_
  exact lX10_st1 hn hn8 hMT (k := 0) (by omega) (fun l hl => absurd hl (by omega)) (fun o hh => lX10_st2 hn hn8 hh (a := 0) (by omega) (fun x y _ _ h => absurd h (by omega)))
theorem lX10_told {I : Nat → Nat → Int32} {J : Nat → Nat → Int64} {p : Bool × Option Nat} {ro : List (Nat × Nat × (Nat → Int32))} {n : Nat} (hn : I 1 4 = nI n) (hn8 : n ≤ 8) {s z : Nat} (hs : s < 6) (hz : I (53 + 2 * s) 4 = nI z) (hz60 : z ≤ 60) (hp2 : p.2 = some (53 + 2 * s)) {k : Nat} (hk : k ≤ n) (hkz : k ≤ z) (hh : ∀ l, l < k → I 13 l = (J (54 + 2 * s) l).toInt32) : Px 2 0 0 CX10_isAsTold 7 [some (.ref (24)), some (.int (nI k))] [] (gS, I, J, gR p, ro) (qB (TD n z (fun j => (J (54 + 2 * s) j).toInt32) (I 13)) (gS, I, J, gR p, ro)) := by
  refine px_iload_n (kk := 1) rfl rfl rfl ?_
  refine px_aload_n (kk := 0) rfl rfl rfl ?_
  refine px_getR (r := 1) rfl gS_24 rfl (gR_24_0 _) ?_
  refine px_getIe rfl gS_1 rfl hn ?_
  refine px_icmp_ge rfl (fun c11 => ?_) (fun c11 => ?_)
  · refine px_iconst (v := nI 1) rfl k_1 ?_
    refine px_ireturn rfl (.inr ⟨rfl, by decide⟩) ?_
    rw [n_le (by omega) (by omega)] at c11
    exact qB_t (fun l h1 h2 => hh l (by omega))
  · rw [n_le (by omega) (by omega)] at c11
    refine px_iload_n (kk := 1) rfl rfl rfl ?_
    refine px_aload_n (kk := 0) rfl rfl rfl ?_
    refine px_getR (r := 53 + 2 * s) rfl gS_24 rfl ((gR_24_7 _).trans hp2) ?_
    refine px_getIe rfl (gS_sh s hs) rfl hz ?_
    refine px_icmp_ge rfl (fun c16 => ?_) (fun c16 => ?_)
    · refine px_iconst (v := nI 1) rfl k_1 ?_
      refine px_ireturn rfl (.inr ⟨rfl, by decide⟩) ?_
      rw [n_le (by omega) (by omega)] at c16
      exact qB_t (fun l h1 h2 => hh l (by omega))
    · rw [n_le (by omega) (by omega)] at c16
      refine px_aload_n (kk := 0) rfl rfl rfl ?_
      refine px_getR (r := 11) rfl gS_24 rfl (gR_24_1 _) ?_
      refine px_getR (r := 13) rfl gS_11 rfl (gR_11_3 _) ?_
      refine px_iload_n (kk := 1) rfl rfl rfl ?_
      refine px_iald (j := k) rfl gS_13 rfl (by omega) ?_
      refine px_aload_n (kk := 0) rfl rfl rfl ?_
      refine px_getR (r := 53 + 2 * s) rfl gS_24 rfl ((gR_24_7 _).trans hp2) ?_
      refine px_iload_n (kk := 1) rfl rfl rfl ?_
      refine px_callV0 CX7_byteAt [.int _] [.int _] (vX7_byteAt hs hz hz60 (a := k) (by omega)) rfl (gS_sh s hs) (by decide) rfl rfl rfl (Nat.le_of_ble_eq_true rfl) (by decide) ?_
      rintro _ _ - ⟨rfl, rfl⟩
      refine px_icmp_eq rfl (fun c26 => ?_) (fun c26 => ?_)
      · refine px_iinc1 (v := nI (k + 1)) rfl (n_inc k) rfl (by decide) ?_
        refine px_goto rfl ?_
        exact lX10_told hn hn8 hs hz hz60 hp2 (k := k + 1) (by omega) (by omega) (fun l hl => by
          by_cases e : l = k
          · subst e; exact c26
          · exact hh l (by omega))
      · refine px_iconst (v := nI 0) rfl k_0 ?_
        refine px_ireturn rfl (.inr ⟨rfl, by decide⟩) ?_
        exact qB_f (fun h => c26 (h k (by omega) (by omega)))
termination_by n - k
decreasing_by all_goals (have h := ‹¬ nI n ≤ nI k›; rw [n_le (by omega) (by omega)] at h; omega)
theorem vX10_told {I : Nat → Nat → Int32} {J : Nat → Nat → Int64} {p : Bool × Option Nat} {ro : List (Nat × Nat × (Nat → Int32))} {n : Nat} (hn : I 1 4 = nI n) (hn8 : n ≤ 8) {s z : Nat} (hs : s < 6) (hz : I (53 + 2 * s) 4 = nI z) (hz60 : z ≤ 60) (hp2 : p.2 = some (53 + 2 * s)) : Pv 2 0 0 CX10_isAsTold [.ref (24)] (gS, I, J, gR p, ro) (qB (TD n z (fun j => (J (54 + 2 * s) j).toInt32) (I 13)) (gS, I, J, gR p, ro)) := by
  refine ⟨okCX10_isAsTold, Nat.le_of_ble_eq_true rfl, (show Px _ _ _ _ 0 [some (.ref (24)), none] [] _ _ from ?_)⟩
  refine px_aload_n (kk := 0) rfl rfl rfl ?_
  refine px_getR (r := 53 + 2 * s) rfl gS_24 rfl ((gR_24_7 _).trans hp2) ?_
  refine px_ifnonnull rfl ?_
  refine px_iconst (v := nI 0) rfl k_0 ?_
  refine px_ist1 rfl rfl (by decide) ?_
  exact lX10_told hn hn8 hs hz hz60 hp2 (k := 0) (by omega) (by omega) (fun l h => absurd h (by omega))
theorem ST_congr {n : Nat} {L L' M M' : Nat → Int32} (hn : n ≤ 8) (hM : MT n M) (hL : L' = L) (h : ∀ l, l < n → M' l = M l) : ST n L' M' ↔ ST n L M := by
  subst hL
  have hk : ∀ l, l < n → sp_lk L' M' l = sp_lk L' M l := fun l hl => by unfold sp_lk; rw [h l hl]
  unfold ST
  constructor
  · rintro ⟨a, b⟩
    exact ⟨fun l hl => by rw [← hk l hl]; exact a l hl, fun x y h1 h2 => by rw [← hk x (by omega), ← hk y h2]; exact b x y h1 h2⟩
  · rintro ⟨a, b⟩
    exact ⟨fun l hl => by rw [hk l hl]; exact a l hl, fun x y h1 h2 => by rw [hk x (by omega), hk y h2]; exact b x y h1 h2⟩
theorem sp_sum_congr {f g : Nat → Int32} : ∀ {n : Nat}, (∀ l, l < n → f l = g l) → sp_sum f n = sp_sum g n
  | 0, _ => rfl
  | n + 1, h => by simp only [sp_sum]; rw [sp_sum_congr (fun l hl => h l (by omega)), h n (by omega)]
theorem vX10_judge2 {I : Nat → Nat → Int32} {J : Nat → Nat → Int64} {p : Bool × Option Nat} {ro : List (Nat × Nat × (Nat → Int32))} {tx : List Ln} {n : Nat} (hW : TW tx n p I) {z : Nat} {E : Nat → Int32} {M : Nat → Int32} {v : VS} {I1 : Nat → Nat → Int32} (hF : Fr cw I I1) (hM : MT n M) (hf : v.2.2.1 < 2 ^ 31) (hWC : WC n 2 M v I1) : Pv 4 0 0 CX10_judge [.ref (24)] (gS, I1, J, gR p, ro) (fun r S' => r = none ∧ ∃ I', S' = (gS, I', J, gR p, ro) ∧ Fr cw I1 I' ∧ WC n 2 M (sp_vis 2 n (I 5) (I 3) z E (fun M => sp_nx tx n (I 5) (I 4) (I 1 6) (I 2) M (fun _ => nI 0)) M v) I') := by
  refine ⟨okCX10_judge, Nat.le_of_ble_eq_true rfl, (show Px _ _ _ _ 0 [some (.ref (24)), none] [] _ _ from ?_)⟩
  have hn8 := hW.2.2.1
  have hW1 := TW_mv hW hF (K6_fr hF (by decide)) (by decide)
  have hM1 : MT n (I1 25) := fun l hl => by
    rcases hM l hl with e | ⟨j, hj, h1, h2, h3⟩
    · exact Or.inl (by rw [hWC.1 l hl]; exact e)
    · exact Or.inr ⟨j, hj, h1, by rw [hWC.1 l hl]; exact h2, by rw [hWC.1 j hj]; exact h3⟩
  refine px_aload_n (kk := 0) rfl rfl rfl ?_
  refine px_getIe rfl gS_24 rfl hWC.2.2.2.2.2 ?_
  refine px_iconst (v := nI 2) rfl k_2 ?_
  refine px_icmp_ne rfl (fun h => absurd h (by decide)) (fun _ => ?_)
  refine px_aload_n (kk := 0) rfl rfl rfl ?_
  refine px_callV0 CX10_isStable [] [] (vX10_stable hW1.2.1 hn8 hM1) rfl gS_24 (by decide) rfl rfl rfl (Nat.le_of_ble_eq_true rfl) (by decide) ?_
  rintro _ _ - ⟨I2, rfl, hF2, (⟨hs, rfl⟩ | ⟨hs, rfl⟩)⟩
  · refine px_if_eq rfl (fun h => absurd h (by decide)) (fun _ => ?_)
    refine px_aload_n (kk := 0) rfl rfl rfl ?_
    refine px_callV0 CX10_take [] [] (vX10_take (by rw [hF2 1 (by decide)]; exact hW1.2.1) hn8 (WC_fr hWC hF2 (by decide)) hf) rfl gS_24 (by decide) rfl rfl rfl (Nat.le_of_ble_eq_true rfl) (by decide) ?_
    rintro _ _ - ⟨rfl, I3, rfl, hF3, hW3⟩
    refine px_return rfl rfl ?_
    rw [ST_congr hn8 hM (hF 5 (by decide)) hWC.1] at hs
    exact ⟨rfl, I3, rfl, Fr_tr (Fr_mo hF2 (by decide)) (Fr_mo hF3 (by decide)), by rw [sp_vis2, if_pos hs]; exact hW3⟩
  · refine px_if_eq rfl (fun _ => ?_) (fun h => absurd h (by decide))
    refine px_return rfl rfl ?_
    rw [ST_congr hn8 hM (hF 5 (by decide)) hWC.1] at hs
    exact ⟨rfl, I2, rfl, Fr_mo hF2 (by decide), by rw [sp_vis2, if_neg hs]; exact WC_fr hWC hF2 (by decide)⟩
theorem vX10_judge3 {I : Nat → Nat → Int32} {J : Nat → Nat → Int64} {p : Bool × Option Nat} {ro : List (Nat × Nat × (Nat → Int32))} {tx : List Ln} {n : Nat} (hW : TW tx n p I) {s z : Nat} (hs : s < 6) (hz : I (53 + 2 * s) 4 = nI z) (hz60 : z ≤ 60) (hp2 : p.2 = some (53 + 2 * s)) {M : Nat → Int32} {v : VS} {I1 : Nat → Nat → Int32} (hF : Fr cw I I1) (hM : MT n M) (hf : v.2.2.1 < 2 ^ 31) (hWC : WC n 3 M v I1) (hNR : ∀ x y, x < n → y < n → NR tx n I I x y) : Pv 4 0 0 CX10_judge [.ref (24)] (gS, I1, J, gR p, ro) (fun r S' => r = none ∧ ∃ I', S' = (gS, I', J, gR p, ro) ∧ Fr cw I1 I' ∧ WC n 3 M (sp_vis 3 n (I 5) (I 3) z (fun j => (J (54 + 2 * s) j).toInt32) (fun M => sp_nx tx n (I 5) (I 4) (I 1 6) (I 2) M (fun _ => nI 0)) M v) I') := by
  refine ⟨okCX10_judge, Nat.le_of_ble_eq_true rfl, (show Px _ _ _ _ 0 [some (.ref (24)), none] [] _ _ from ?_)⟩
  have hn8 := hW.2.2.1
  have hW1 := TW_mv hW hF (K6_fr hF (by decide)) (by decide)
  have hM1 : MT n (I1 25) := fun l hl => by
    rcases hM l hl with e | ⟨j, hj, h1, h2, h3⟩
    · exact Or.inl (by rw [hWC.1 l hl]; exact e)
    · exact Or.inr ⟨j, hj, h1, by rw [hWC.1 l hl]; exact h2, by rw [hWC.1 j hj]; exact h3⟩
  have hNR1 : ∀ x y, x < n → y < n → NR tx n I1 I1 x y := fun x y hx hy hxy => by
    rw [hF 14 (by decide), hF 5 (by decide), hF 4 (by decide), hF 1 (by decide), hF 2 (by decide)]
    exact hNR x y hx hy hxy
  refine px_aload_n (kk := 0) rfl rfl rfl ?_
  refine px_getIe rfl gS_24 rfl (by first | exact hWC.2.2.2.2.2 | exact ((congrFun (hF2 24 (by decide)) 6).trans hWC.2.2.2.2.2)) ?_
  refine px_iconst (v := nI 2) rfl k_2 ?_
  refine px_icmp_ne rfl (fun _ => ?_) (fun h => absurd h (by decide))
  refine px_aload_n (kk := 0) rfl rfl rfl ?_
  refine px_getR (r := 11) rfl gS_24 rfl (gR_24_1 _) ?_
  refine px_aload_n (kk := 0) rfl rfl rfl ?_
  refine px_getR (r := 25) rfl gS_24 rfl (gR_24_2 _) ?_
  refine px_callV0 CX5_tryWay [] [.ref 25] (vX5_tryWay (tx := tx) hW1.2.1 hn8 (t := 25) rfl (by decide) (by decide) hM1 hW1.2.2.2.1 hNR1) rfl gS_11 (by decide) rfl rfl rfl (Nat.le_of_ble_eq_true rfl) (by decide) ?_
  rintro _ _ - ⟨rfl, I2, rfl, hF2, hN2⟩
  have hnx : ∀ j, j < n → I2 13 j = (fun M => sp_nx tx n (I 5) (I 4) (I 1 6) (I 2) M (fun _ => nI 0)) M j := fun j hj => by
    rw [hN2 j hj, hF 5 (by decide), hF 4 (by decide), hF 1 (by decide), hF 2 (by decide)]
    exact sp_nx_congr hn8 hM (fun _ _ => rfl) hWC.1 (fun _ _ => rfl) hj
  refine px_aload_n (kk := 0) rfl rfl rfl ?_
  refine px_getIe rfl gS_24 rfl (by first | exact hWC.2.2.2.2.2 | exact ((congrFun (hF2 24 (by decide)) 6).trans hWC.2.2.2.2.2)) ?_
  refine px_iconst (v := nI 3) rfl k_3 ?_
  refine px_icmp_ne rfl (fun h => absurd h (by decide)) (fun _ => ?_)
  refine px_aload_n (kk := 0) rfl rfl rfl ?_
  refine px_callV0 CX10_isAsTold [] [] (vX10_told (by rw [hF2 1 (by decide)]; exact hW1.2.1) hn8 hs (by rw [hF2 (53 + 2 * s) (by simp; omega), hF (53 + 2 * s) (by simp; omega)]; exact hz) hz60 hp2) rfl gS_24 (by decide) rfl rfl rfl (Nat.le_of_ble_eq_true rfl) (by decide) ?_
  rintro _ _ - (⟨ht, rfl, rfl⟩ | ⟨ht, rfl, rfl⟩)
  · refine px_if_eq rfl (fun h => absurd h (by decide)) (fun _ => ?_)
    refine px_aload_n (kk := 0) rfl rfl rfl ?_
    refine px_callV0 CX10_take [] [] (vX10_take (by rw [hF2 1 (by decide)]; exact hW1.2.1) hn8 (WC_fr hWC hF2 (by decide)) hf) rfl gS_24 (by decide) rfl rfl rfl (Nat.le_of_ble_eq_true rfl) (by decide) ?_
    rintro _ _ - ⟨rfl, I3, rfl, hF3, hW3⟩
    refine px_return rfl rfl ?_
    have ht2 : TD n z (fun j => (J (54 + 2 * s) j).toInt32) ((fun M => sp_nx tx n (I 5) (I 4) (I 1 6) (I 2) M (fun _ => nI 0)) M) := fun l h1 h2 => by rw [← hnx l h1]; exact ht l h1 h2
    exact ⟨rfl, I3, rfl, Fr_tr (Fr_mo hF2 (by decide)) (Fr_mo hF3 (by decide)), by rw [sp_vis3, if_pos ht2]; exact hW3⟩
  · refine px_if_eq rfl (fun _ => ?_) (fun h => absurd h (by decide))
    refine px_return rfl rfl ?_
    have ht2 : ¬ TD n z (fun j => (J (54 + 2 * s) j).toInt32) ((fun M => sp_nx tx n (I 5) (I 4) (I 1 6) (I 2) M (fun _ => nI 0)) M) := fun w => ht (fun l h1 h2 => by rw [hnx l h1]; exact w l h1 h2)
    exact ⟨rfl, I2, rfl, Fr_mo hF2 (by decide), by rw [sp_vis3, if_neg ht2]; exact WC_fr hWC hF2 (by decide)⟩
theorem vX10_judge0 {I : Nat → Nat → Int32} {J : Nat → Nat → Int64} {p : Bool × Option Nat} {ro : List (Nat × Nat × (Nat → Int32))} {tx : List Ln} {n : Nat} (hW : TW tx n p I) {z : Nat} {E : Nat → Int32} {M : Nat → Int32} {v : VS} {I1 : Nat → Nat → Int32} (hF : Fr cw I I1) (hM : MT n M) (hf : v.2.2.1 < 2 ^ 31) (hWC : WC n 0 M v I1) (hNR : ∀ x y, x < n → y < n → NR tx n I I x y) : Pv 4 0 0 CX10_judge [.ref (24)] (gS, I1, J, gR p, ro) (fun r S' => r = none ∧ ∃ I', S' = (gS, I', J, gR p, ro) ∧ Fr cw I1 I' ∧ WC n 0 M (sp_vis 0 n (I 5) (I 3) z E (fun M => sp_nx tx n (I 5) (I 4) (I 1 6) (I 2) M (fun _ => nI 0)) M v) I') := by
  refine ⟨okCX10_judge, Nat.le_of_ble_eq_true rfl, (show Px _ _ _ _ 0 [some (.ref (24)), none] [] _ _ from ?_)⟩
  have hn8 := hW.2.2.1
  have hW1 := TW_mv hW hF (K6_fr hF (by decide)) (by decide)
  have hM1 : MT n (I1 25) := fun l hl => by
    rcases hM l hl with e | ⟨j, hj, h1, h2, h3⟩
    · exact Or.inl (by rw [hWC.1 l hl]; exact e)
    · exact Or.inr ⟨j, hj, h1, by rw [hWC.1 l hl]; exact h2, by rw [hWC.1 j hj]; exact h3⟩
  have hNR1 : ∀ x y, x < n → y < n → NR tx n I1 I1 x y := fun x y hx hy hxy => by
    rw [hF 14 (by decide), hF 5 (by decide), hF 4 (by decide), hF 1 (by decide), hF 2 (by decide)]
    exact hNR x y hx hy hxy
  refine px_aload_n (kk := 0) rfl rfl rfl ?_
  refine px_getIe rfl gS_24 rfl (by first | exact hWC.2.2.2.2.2 | exact ((congrFun (hF2 24 (by decide)) 6).trans hWC.2.2.2.2.2)) ?_
  refine px_iconst (v := nI 2) rfl k_2 ?_
  refine px_icmp_ne rfl (fun _ => ?_) (fun h => absurd h (by decide))
  refine px_aload_n (kk := 0) rfl rfl rfl ?_
  refine px_getR (r := 11) rfl gS_24 rfl (gR_24_1 _) ?_
  refine px_aload_n (kk := 0) rfl rfl rfl ?_
  refine px_getR (r := 25) rfl gS_24 rfl (gR_24_2 _) ?_
  refine px_callV0 CX5_tryWay [] [.ref 25] (vX5_tryWay (tx := tx) hW1.2.1 hn8 (t := 25) rfl (by decide) (by decide) hM1 hW1.2.2.2.1 hNR1) rfl gS_11 (by decide) rfl rfl rfl (Nat.le_of_ble_eq_true rfl) (by decide) ?_
  rintro _ _ - ⟨rfl, I2, rfl, hF2, hN2⟩
  have hnx : ∀ j, j < n → I2 13 j = (fun M => sp_nx tx n (I 5) (I 4) (I 1 6) (I 2) M (fun _ => nI 0)) M j := fun j hj => by
    rw [hN2 j hj, hF 5 (by decide), hF 4 (by decide), hF 1 (by decide), hF 2 (by decide)]
    exact sp_nx_congr hn8 hM (fun _ _ => rfl) hWC.1 (fun _ _ => rfl) hj
  refine px_aload_n (kk := 0) rfl rfl rfl ?_
  refine px_getIe rfl gS_24 rfl (by first | exact hWC.2.2.2.2.2 | exact ((congrFun (hF2 24 (by decide)) 6).trans hWC.2.2.2.2.2)) ?_
  refine px_iconst (v := nI 3) rfl k_3 ?_
  refine px_icmp_ne rfl (fun _ => ?_) (fun h => absurd h (by decide))
  refine px_aload_n (kk := 0) rfl rfl rfl ?_
  refine px_getIe rfl gS_24 rfl (by first | exact hWC.2.2.2.2.2 | exact ((congrFun (hF2 24 (by decide)) 6).trans hWC.2.2.2.2.2)) ?_
  refine px_if_ne rfl (fun h => absurd h (by decide)) (fun _ => ?_)
  refine px_aload_n (kk := 0) rfl rfl rfl ?_
  refine px_getR (r := 1) rfl gS_24 rfl (gR_24_0 _) ?_
  refine px_aload_n (kk := 0) rfl rfl rfl ?_
  refine px_getR (r := 11) rfl gS_24 rfl (gR_24_1 _) ?_
  refine px_getR (r := 13) rfl gS_11 rfl (gR_11_3 _) ?_
  refine px_callV0 CX9_sum [] [.ref 13] (vX9_sum (by rw [hF2 1 (by decide)]; exact hW1.2.1) hn8 13 rfl) rfl gS_1 (by decide) rfl rfl rfl (Nat.le_of_ble_eq_true rfl) (by decide) ?_
  rintro _ _ - ⟨rfl, rfl⟩
  rw [sp_sum_congr hnx]
  refine px_goto rfl ?_
  refine px_ist1 rfl rfl (by decide) ?_
  refine px_iload_n (kk := 1) rfl rfl rfl ?_
  refine px_aload_n (kk := 0) rfl rfl rfl ?_
  refine px_getIe rfl gS_24 rfl ((congrFun (hF2 24 (by decide)) 9).trans hWC.2.2.2.2.1) ?_
  refine px_icmp_le rfl (fun c46 => ?_) (fun c46 => ?_)
  · refine px_return rfl rfl ?_
    exact ⟨rfl, I2, rfl, Fr_mo hF2 (by decide), by dsimp only at c46; rw [sp_vis0, if_neg (fun h => by rw [i_lt] at h; rw [i_le] at c46; omega)]; exact WC_fr hWC hF2 (by decide)⟩
  · refine px_aload_n (kk := 0) rfl rfl rfl ?_
    refine px_iload_n (kk := 1) rfl rfl rfl ?_
    refine px_putI rfl gS_24 rfl rfl ?_
    refine px_aload_n (kk := 0) rfl rfl rfl ?_
    refine px_getR (r := 25) rfl gS_24 rfl (gR_24_2 _) ?_
    refine px_iconst (v := nI 0) rfl k_0 ?_
    refine px_aload_n (kk := 0) rfl rfl rfl ?_
    refine px_getR (r := 26) rfl gS_24 rfl (gR_24_3 _) ?_
    refine px_iconst (v := nI 0) rfl k_0 ?_
    refine px_bipush (v := nI 8) rfl b_8 ?_
    refine px_copyI (0) (0) (8) rfl (Nat.le_of_ble_eq_true rfl) gS_25 gS_26 rfl rfl rfl (by decide) (by decide) ?_
    refine px_return rfl rfl ?_
    refine ⟨rfl, _, rfl, Fr_up (Fr_up (Fr_mo hF2 (by decide)) (by decide) _) (by decide) _, ?_⟩
    dsimp only at c46
    rw [sp_vis0, if_pos (by rw [i_lt]; rw [i_le] at c46; omega)]
    obtain ⟨w1, w2, w3, w4, w5, w6⟩ := WC_fr hWC hF2 (by decide)
    refine ⟨fun l hl => ?_, fun l hl => ?_, fun l hl => ?_, ?_, ?_, ?_⟩
    · simp only [va_up, Nat.reduceEqDiff, if_true, if_false]; exact w1 l hl
    · simp only [va_up, Nat.reduceEqDiff, if_true, if_false, cpy_8, cp8, show l < 8 by omega]; exact w1 l hl
    · simp only [va_up, Nat.reduceEqDiff, if_true, if_false]; exact w3 l hl
    · simp only [va_up, Nat.reduceEqDiff, if_true, if_false]; exact w4
    · simp only [va_up, Nat.reduceEqDiff, if_true, if_false]
    · simp only [va_up, Nat.reduceEqDiff, if_true, if_false]; exact w6
theorem vX10_judge1 {I : Nat → Nat → Int32} {J : Nat → Nat → Int64} {p : Bool × Option Nat} {ro : List (Nat × Nat × (Nat → Int32))} {tx : List Ln} {n : Nat} (hW : TW tx n p I) {z : Nat} {E : Nat → Int32} {M : Nat → Int32} {v : VS} {I1 : Nat → Nat → Int32} (hF : Fr cw I I1) (hM : MT n M) (hf : v.2.2.1 < 2 ^ 31) (hWC : WC n 1 M v I1) (hNR : ∀ x y, x < n → y < n → NR tx n I I x y) : Pv 4 0 0 CX10_judge [.ref (24)] (gS, I1, J, gR p, ro) (fun r S' => r = none ∧ ∃ I', S' = (gS, I', J, gR p, ro) ∧ Fr cw I1 I' ∧ WC n 1 M (sp_vis 1 n (I 5) (I 3) z E (fun M => sp_nx tx n (I 5) (I 4) (I 1 6) (I 2) M (fun _ => nI 0)) M v) I') := by
  refine ⟨okCX10_judge, Nat.le_of_ble_eq_true rfl, (show Px _ _ _ _ 0 [some (.ref (24)), none] [] _ _ from ?_)⟩
  have hn8 := hW.2.2.1
  have hW1 := TW_mv hW hF (K6_fr hF (by decide)) (by decide)
  have hM1 : MT n (I1 25) := fun l hl => by
    rcases hM l hl with e | ⟨j, hj, h1, h2, h3⟩
    · exact Or.inl (by rw [hWC.1 l hl]; exact e)
    · exact Or.inr ⟨j, hj, h1, by rw [hWC.1 l hl]; exact h2, by rw [hWC.1 j hj]; exact h3⟩
  have hNR1 : ∀ x y, x < n → y < n → NR tx n I1 I1 x y := fun x y hx hy hxy => by
    rw [hF 14 (by decide), hF 5 (by decide), hF 4 (by decide), hF 1 (by decide), hF 2 (by decide)]
    exact hNR x y hx hy hxy
  refine px_aload_n (kk := 0) rfl rfl rfl ?_
  refine px_getIe rfl gS_24 rfl (by first | exact hWC.2.2.2.2.2 | exact ((congrFun (hF2 24 (by decide)) 6).trans hWC.2.2.2.2.2)) ?_
  refine px_iconst (v := nI 2) rfl k_2 ?_
  refine px_icmp_ne rfl (fun _ => ?_) (fun h => absurd h (by decide))
  refine px_aload_n (kk := 0) rfl rfl rfl ?_
  refine px_getR (r := 11) rfl gS_24 rfl (gR_24_1 _) ?_
  refine px_aload_n (kk := 0) rfl rfl rfl ?_
  refine px_getR (r := 25) rfl gS_24 rfl (gR_24_2 _) ?_
  refine px_callV0 CX5_tryWay [] [.ref 25] (vX5_tryWay (tx := tx) hW1.2.1 hn8 (t := 25) rfl (by decide) (by decide) hM1 hW1.2.2.2.1 hNR1) rfl gS_11 (by decide) rfl rfl rfl (Nat.le_of_ble_eq_true rfl) (by decide) ?_
  rintro _ _ - ⟨rfl, I2, rfl, hF2, hN2⟩
  have hnx : ∀ j, j < n → I2 13 j = (fun M => sp_nx tx n (I 5) (I 4) (I 1 6) (I 2) M (fun _ => nI 0)) M j := fun j hj => by
    rw [hN2 j hj, hF 5 (by decide), hF 4 (by decide), hF 1 (by decide), hF 2 (by decide)]
    exact sp_nx_congr hn8 hM (fun _ _ => rfl) hWC.1 (fun _ _ => rfl) hj
  refine px_aload_n (kk := 0) rfl rfl rfl ?_
  refine px_getIe rfl gS_24 rfl (by first | exact hWC.2.2.2.2.2 | exact ((congrFun (hF2 24 (by decide)) 6).trans hWC.2.2.2.2.2)) ?_
  refine px_iconst (v := nI 3) rfl k_3 ?_
  refine px_icmp_ne rfl (fun _ => ?_) (fun h => absurd h (by decide))
  refine px_aload_n (kk := 0) rfl rfl rfl ?_
  refine px_getIe rfl gS_24 rfl (by first | exact hWC.2.2.2.2.2 | exact ((congrFun (hF2 24 (by decide)) 6).trans hWC.2.2.2.2.2)) ?_
  refine px_if_ne rfl (fun _ => ?_) (fun h => absurd h (by decide))
  refine px_aload_n (kk := 0) rfl rfl rfl ?_
  refine px_getR (r := 1) rfl gS_24 rfl (gR_24_0 _) ?_
  refine px_aload_n (kk := 0) rfl rfl rfl ?_
  refine px_getR (r := 11) rfl gS_24 rfl (gR_24_1 _) ?_
  refine px_getR (r := 13) rfl gS_11 rfl (gR_11_3 _) ?_
  refine px_callV0 CX9_content [] [.ref 13] (vX9_content (by rw [hF2 1 (by decide)]; exact hW1.2.1) hn8 13 rfl) rfl gS_1 (by decide) rfl rfl rfl (Nat.le_of_ble_eq_true rfl) (by decide) ?_
  rintro _ _ - ⟨rfl, rfl⟩
  rw [sp_bits_congr (r := fun l => decide (I 3 l ≤ (fun M => sp_nx tx n (I 5) (I 4) (I 1 6) (I 2) M (fun _ => nI 0)) M l)) (fun l hl => by rw [hF2 3 (by decide), hF 3 (by decide), hnx l hl])]
  refine px_callS0 CJ6_bitCount_0f7a4 [] [.int _] (vJ_pop) rfl rfl rfl (Nat.le_of_ble_eq_true rfl) (by decide) ?_
  rintro _ _ - ⟨rfl, rfl⟩
  refine px_ist1 rfl rfl (by decide) ?_
  refine px_iload_n (kk := 1) rfl rfl rfl ?_
  refine px_aload_n (kk := 0) rfl rfl rfl ?_
  refine px_getIe rfl gS_24 rfl ((congrFun (hF2 24 (by decide)) 9).trans hWC.2.2.2.2.1) ?_
  refine px_icmp_le rfl (fun c46 => ?_) (fun c46 => ?_)
  · refine px_return rfl rfl ?_
    exact ⟨rfl, I2, rfl, Fr_mo hF2 (by decide), by dsimp only at c46; rw [sp_vis1, if_neg (fun h => by rw [i_lt] at h; rw [i_le] at c46; omega)]; exact WC_fr hWC hF2 (by decide)⟩
  · refine px_aload_n (kk := 0) rfl rfl rfl ?_
    refine px_iload_n (kk := 1) rfl rfl rfl ?_
    refine px_putI rfl gS_24 rfl rfl ?_
    refine px_aload_n (kk := 0) rfl rfl rfl ?_
    refine px_getR (r := 25) rfl gS_24 rfl (gR_24_2 _) ?_
    refine px_iconst (v := nI 0) rfl k_0 ?_
    refine px_aload_n (kk := 0) rfl rfl rfl ?_
    refine px_getR (r := 26) rfl gS_24 rfl (gR_24_3 _) ?_
    refine px_iconst (v := nI 0) rfl k_0 ?_
    refine px_bipush (v := nI 8) rfl b_8 ?_
    refine px_copyI (0) (0) (8) rfl (Nat.le_of_ble_eq_true rfl) gS_25 gS_26 rfl rfl rfl (by decide) (by decide) ?_
    refine px_return rfl rfl ?_
    refine ⟨rfl, _, rfl, Fr_up (Fr_up (Fr_mo hF2 (by decide)) (by decide) _) (by decide) _, ?_⟩
    dsimp only at c46
    rw [sp_vis1, if_pos (by rw [i_lt]; rw [i_le] at c46; omega)]
    obtain ⟨w1, w2, w3, w4, w5, w6⟩ := WC_fr hWC hF2 (by decide)
    refine ⟨fun l hl => ?_, fun l hl => ?_, fun l hl => ?_, ?_, ?_, ?_⟩
    · simp only [va_up, Nat.reduceEqDiff, if_true, if_false]; exact w1 l hl
    · simp only [va_up, Nat.reduceEqDiff, if_true, if_false, cpy_8, cp8, show l < 8 by omega]; exact w1 l hl
    · simp only [va_up, Nat.reduceEqDiff, if_true, if_false]; exact w3 l hl
    · simp only [va_up, Nat.reduceEqDiff, if_true, if_false]; exact w4
    · simp only [va_up, Nat.reduceEqDiff, if_true, if_false]
    · simp only [va_up, Nat.reduceEqDiff, if_true, if_false]; exact w6
theorem WC_tie {n aim : Nat} {M : Nat → Int32} {v : VS} {I : Nat → Nat → Int32} (h : WC n aim M v I) (k e : Nat) (hke : k ≠ e) : WC n aim (va_up (va_up M k (nI e)) e (nI k)) v (va_up (va_up I 25 (va_up (I 25) k (nI e))) 25 (va_up (va_up I 25 (va_up (I 25) k (nI e)) 25) e (nI k))) := by
  obtain ⟨w1, w2, w3, w4, w5, w6⟩ := h
  refine ⟨fun l hl => ?_, fun l hl => ?_, fun l hl => ?_, ?_, ?_, ?_⟩
  · rw [p_up_s, p_up_s]
    by_cases h1 : l = e
    · subst h1; rw [p_up_s, p_up_s]
    · rw [p_up_n _ _ h1, p_up_n _ _ h1]
      by_cases h2 : l = k
      · subst h2; rw [p_up_s, p_up_s]
      · rw [p_up_n _ _ h2, p_up_n _ _ h2]; exact w1 l hl
  · simp only [va_up, Nat.reduceEqDiff, if_false]; exact w2 l hl
  · simp only [va_up, Nat.reduceEqDiff, if_false]; exact w3 l hl
  · simp only [va_up, Nat.reduceEqDiff, if_false]; exact w4
  · simp only [va_up, Nat.reduceEqDiff, if_false]; exact w5
  · simp only [va_up, Nat.reduceEqDiff, if_false]; exact w6
theorem WC_untie {n aim : Nat} {M : Nat → Int32} {v : VS} {I : Nat → Nat → Int32} {k e : Nat} (h : WC n aim (va_up (va_up M k (nI e)) e (nI k)) v I) (h1 : M k = -1) (h2 : M e = -1) (hk : k < n) (he : e < n) : WC n aim M v (va_up (va_up I 25 (va_up (I 25) k (-1))) 25 (va_up (va_up I 25 (va_up (I 25) k (-1)) 25) e (-1))) := by
  obtain ⟨w1, w2, w3, w4, w5, w6⟩ := h
  refine ⟨fun l hl => ?_, fun l hl => ?_, fun l hl => ?_, ?_, ?_, ?_⟩
  · rw [p_up_s, p_up_s]
    by_cases h3 : l = e
    · subst h3; rw [p_up_s, h2]
    · rw [p_up_n _ _ h3]
      by_cases h4 : l = k
      · subst h4; rw [p_up_s, h1]
      · rw [p_up_n _ _ h4, w1 l hl, p_up_n _ _ h3, p_up_n _ _ h4]
  · simp only [va_up, Nat.reduceEqDiff, if_false]; exact w2 l hl
  · simp only [va_up, Nat.reduceEqDiff, if_false]; exact w3 l hl
  · simp only [va_up, Nat.reduceEqDiff, if_false]; exact w4
  · simp only [va_up, Nat.reduceEqDiff, if_false]; exact w5
  · simp only [va_up, Nat.reduceEqDiff, if_false]; exact w6
theorem lX10_go {I : Nat → Nat → Int32} {J : Nat → Nat → Int64} {p : Bool × Option Nat} {ro : List (Nat × Nat × (Nat → Int32))} {n : Nat} (hn : I 1 4 = nI n) (hn8 : n ≤ 8) {aim : Nat} {V : (Nat → Int32) → VS → VS} (hV : ∀ M v, (V M v).2.2.1 ≤ v.2.2.1 + 1) {m k c : Nat} (hk : k + (m + 1) = n) (hc : 0 < c) (hc4 : c ≤ 4) (hGo : ∀ (c : Nat) (M : Nat → Int32) (v : VS) (I1 : Nat → Nat → Int32), c ≤ 4 → Fr cw I I1 → MT n M → (∀ l, n ≤ l → M l = -1) → v.2.2.1 + 8 ^ m < 2 ^ 31 → WC n aim M v I1 → Pv (5 + m) 0 0 CX10_go [.ref 24, .int (nI (k + 1)), .int (nI c)] (gS, I1, J, gR p, ro) (fun r S' => r = none ∧ ∃ I', S' = (gS, I', J, gR p, ro) ∧ Fr cw I I' ∧ WC n aim M (sp_go n V m c M v) I')) {M : Nat → Int32} (hM : MT n M) (hMo : ∀ l, n ≤ l → M l = -1) (hMk : M k = -1) {e : Nat} (hke : k < e) (he : e ≤ n) {v : VS} (hf : v.2.2.1 + (n - e) * 8 ^ m < 2 ^ 31) {I1 : Nat → Nat → Int32} (hF : Fr cw I I1) (hWC : WC n aim M v I1) : Px (5 + m + 1) 0 0 CX10_go 27 [some (.ref (24)), some (.int (nI k)), some (.int (nI c)), some (.int (nI e))] [] (gS, I1, J, gR p, ro) (fun r S' => r = none ∧ ∃ I', S' = (gS, I', J, gR p, ro) ∧ Fr cw I I' ∧ WC n aim M (sp_loop (fun e v => if M e ≠ -1 then v else sp_go n V m (c - 1) (va_up (va_up M k (nI e)) e (nI k)) v) (n - e) e v) I') := by
  refine px_iload_n (kk := 3) rfl rfl rfl ?_
  refine px_aload_n (kk := 0) rfl rfl rfl ?_
  refine px_getR (r := 1) rfl gS_24 rfl (gR_24_0 _) ?_
  refine px_getIe rfl gS_1 rfl ((congrFun (hF 1 (by decide)) 4).trans hn) ?_
  refine px_icmp_ge rfl (fun c31 => ?_) (fun c31 => ?_)
  · refine px_return rfl rfl ?_
    rw [n_le (by omega) (by omega)] at c31
    obtain rfl : e = n := by omega
    rw [Nat.sub_self]
    exact ⟨rfl, I1, rfl, hF, hWC⟩
  · rw [n_le (by omega) (by omega)] at c31
    have hu : sp_loop (fun e v => if M e ≠ -1 then v else sp_go n V m (c - 1) (va_up (va_up M k (nI e)) e (nI k)) v) (n - e) e v = sp_loop (fun e v => if M e ≠ -1 then v else sp_go n V m (c - 1) (va_up (va_up M k (nI e)) e (nI k)) v) (n - (e + 1)) (e + 1) (if M e ≠ -1 then v else sp_go n V m (c - 1) (va_up (va_up M k (nI e)) e (nI k)) v) := by
      conv => lhs; rw [show n - e = (n - (e + 1)) + 1 by omega]; unfold sp_loop
    rw [hu]
    have hpe : (n - e) * 8 ^ m = (n - (e + 1)) * 8 ^ m + 8 ^ m := by
      rw [show n - e = (n - (e + 1)) + 1 by omega, Nat.add_mul, Nat.one_mul]
    refine px_aload_n (kk := 0) rfl rfl rfl ?_
    refine px_getR (r := 25) rfl gS_24 rfl (gR_24_2 _) ?_
    refine px_iload_n (kk := 3) rfl rfl rfl ?_
    refine px_ialde (j := e) (v := M e) rfl gS_25 rfl (by omega) (hWC.1 e (by omega)) ?_
    refine px_iconst (v := -1) rfl k_m1 ?_
    refine px_icmp_ne rfl (fun c37 => ?_) (fun c37 => ?_)
    · refine px_iinc3 (v := nI (e + 1)) rfl (n_inc e) rfl (by decide) ?_
      refine px_goto rfl ?_
      rw [if_pos c37]
      exact lX10_go hn hn8 hV hk hc hc4 hGo hM hMo hMk (e := e + 1) (by omega) (by omega) (by have : 0 ≤ 8 ^ m := Nat.zero_le _; omega) hF hWC
    · refine px_aload_n (kk := 0) rfl rfl rfl ?_
      refine px_getR (r := 25) rfl gS_24 rfl (gR_24_2 _) ?_
      refine px_iload_n (kk := 1) rfl rfl rfl ?_
      refine px_iload_n (kk := 3) rfl rfl rfl ?_
      refine px_iast (j := k) rfl gS_25 rfl (by omega) ?_
      refine px_aload_n (kk := 0) rfl rfl rfl ?_
      refine px_getR (r := 25) rfl gS_24 rfl (gR_24_2 _) ?_
      refine px_iload_n (kk := 3) rfl rfl rfl ?_
      refine px_iload_n (kk := 1) rfl rfl rfl ?_
      refine px_iast (j := e) rfl gS_25 rfl (by omega) ?_
      refine px_aload_n (kk := 0) rfl rfl rfl ?_
      refine px_iload_n (kk := 1) rfl rfl rfl ?_
      refine px_iconst (v := nI 1) rfl k_1 ?_
      refine px_iaddN rfl ?_
      refine px_iload_n (kk := 2) rfl rfl rfl ?_
      refine px_iconst (v := nI 1) rfl k_1 ?_
      refine px_isubN rfl (by omega) ?_
      refine px_callV0 CX10_go [] [.int _, .int _] (hGo (c - 1) (va_up (va_up M k (nI e)) e (nI k)) v _ (by omega) (Fr_up (Fr_up hF (by decide) _) (by decide) _) (MT_tie hM (by omega) (by omega) (by omega) hMk c37 hn8) (fun l hl => by rw [p_up_n _ _ (by omega), p_up_n _ _ (by omega)]; exact hMo l hl) (by have : 0 ≤ (n - (e + 1)) * 8 ^ m := Nat.zero_le _; omega) (WC_tie hWC k e (by omega))) rfl gS_24 (by decide) rfl rfl rfl (Nat.le_of_ble_eq_true rfl) (by omega) ?_
      rintro _ _ - ⟨rfl, I2, rfl, hF2, hW2⟩
      refine px_aload_n (kk := 0) rfl rfl rfl ?_
      refine px_getR (r := 25) rfl gS_24 rfl (gR_24_2 _) ?_
      refine px_iload_n (kk := 1) rfl rfl rfl ?_
      refine px_iconst (v := -1) rfl k_m1 ?_
      refine px_iast (j := k) rfl gS_25 rfl (by omega) ?_
      refine px_aload_n (kk := 0) rfl rfl rfl ?_
      refine px_getR (r := 25) rfl gS_24 rfl (gR_24_2 _) ?_
      refine px_iload_n (kk := 3) rfl rfl rfl ?_
      refine px_iconst (v := -1) rfl k_m1 ?_
      refine px_iast (j := e) rfl gS_25 rfl (by omega) ?_
      refine px_iinc3 (v := nI (e + 1)) rfl (n_inc e) rfl (by decide) ?_
      refine px_goto rfl ?_
      rw [if_neg (by rw [c37]; exact fun h => h rfl)]
      refine lX10_go hn hn8 hV hk hc hc4 hGo hM hMo hMk (e := e + 1) (by omega) (by omega) ?_ (Fr_up (Fr_up hF2 (by decide) _) (by decide) _) (WC_untie hW2 hMk c37 (by omega) (by omega))
      have := sp_go_f hn8 hV m (c - 1) (va_up (va_up M k (nI e)) e (nI k)) v (by omega)
      omega
termination_by n - e
decreasing_by all_goals (have h9 := ‹¬ nI n ≤ nI e›; rw [n_le (by omega) (by omega)] at h9; omega)
theorem lX10_rec {I : Nat → Nat → Int32} {J : Nat → Nat → Int64} {p : Bool × Option Nat} {ro : List (Nat × Nat × (Nat → Int32))} {n : Nat} (hn : I 1 4 = nI n) (hn8 : n ≤ 8) {aim : Nat} {V : (Nat → Int32) → VS → VS} (hJ : ∀ (M : Nat → Int32) (v : VS) (I1 : Nat → Nat → Int32), Fr cw I I1 → MT n M → v.2.2.1 < 2 ^ 31 → WC n aim M v I1 → Pv 4 0 0 CX10_judge [.ref 24] (gS, I1, J, gR p, ro) (fun r S' => r = none ∧ ∃ I', S' = (gS, I', J, gR p, ro) ∧ Fr cw I1 I' ∧ WC n aim M (V M v) I')) (hV : ∀ M v, (V M v).2.2.1 ≤ v.2.2.1 + 1) : ∀ (m k c : Nat) (M : Nat → Int32) (v : VS) (I1 : Nat → Nat → Int32), k + m = n → c ≤ 4 → Fr cw I I1 → MT n M → (∀ l, n ≤ l → M l = -1) → v.2.2.1 + 8 ^ m < 2 ^ 31 → WC n aim M v I1 → Pv (5 + m) 0 0 CX10_go [.ref 24, .int (nI k), .int (nI c)] (gS, I1, J, gR p, ro) (fun r S' => r = none ∧ ∃ I', S' = (gS, I', J, gR p, ro) ∧ Fr cw I I' ∧ WC n aim M (sp_go n V m c M v) I')
  | 0, k, c, M, v, I1, hk, hc, hF, hM, hMo, hf, hWC => by
    have hk : k = n := by omega
    subst hk
    refine ⟨okCX10_go, Nat.le_of_ble_eq_true rfl, (show Px (4 + 1) _ _ _ 0 [some (.ref (24)), some (.int (nI k)), some (.int (nI c)), none] [] _ _ from ?_)⟩
    refine px_iload_n (kk := 1) rfl rfl rfl ?_
    refine px_aload_n (kk := 0) rfl rfl rfl ?_
    refine px_getR (r := 1) rfl gS_24 rfl (gR_24_0 _) ?_
    refine px_getIe rfl gS_1 rfl ((congrFun (hF 1 (by decide)) 4).trans hn) ?_
    refine px_icmp_lt rfl (fun h => absurd h (Int32.lt_irrefl)) (fun c4 => ?_)
    refine px_aload_n (kk := 0) rfl rfl rfl ?_
    refine px_callV0 CX10_judge [] [] (hJ M v I1 hF hM (by simp only [Nat.pow_zero] at hf; omega) hWC) rfl gS_24 (by decide) rfl rfl rfl (Nat.le_of_ble_eq_true rfl) (by decide) ?_
    rintro _ _ - ⟨rfl, I2, rfl, hF2, hW2⟩
    refine px_return rfl rfl ?_
    exact ⟨rfl, I2, rfl, Fr_tr hF hF2, hW2⟩
  | m + 1, k, c, M, v, I1, hk, hc, hF, hM, hMo, hf, hWC => by
    have hpw : 8 ^ m + m * 8 ^ m ≤ 8 ^ (m + 1) := by
      rw [Nat.pow_succ, Nat.mul_comm (8 ^ m) 8]
      have : (1 + m) * 8 ^ m ≤ 8 * 8 ^ m := Nat.mul_le_mul_right _ (by omega)
      rw [Nat.add_mul, Nat.one_mul] at this
      exact this
    have hkm : n - (m + 1) = k := by omega
    have hnm : n - m = k + 1 := by omega
    refine ⟨okCX10_go, Nat.le_of_ble_eq_true rfl, (show Px (5 + m + 1) _ _ _ 0 [some (.ref (24)), some (.int (nI k)), some (.int (nI c)), none] [] _ _ from ?_)⟩
    unfold sp_go
    rw [hkm, hnm]
    refine px_iload_n (kk := 1) rfl rfl rfl ?_
    refine px_aload_n (kk := 0) rfl rfl rfl ?_
    refine px_getR (r := 1) rfl gS_24 rfl (gR_24_0 _) ?_
    refine px_getIe rfl gS_1 rfl ((congrFun (hF 1 (by decide)) 4).trans hn) ?_
    refine px_icmp_lt rfl (fun c4 => ?_) (fun h => absurd (nI_lt (by omega) (by omega)) h)
    refine px_aload_n (kk := 0) rfl rfl rfl ?_
    refine px_iload_n (kk := 1) rfl rfl rfl ?_
    refine px_iconst (v := nI 1) rfl k_1 ?_
    refine px_iaddN rfl ?_
    refine px_iload_n (kk := 2) rfl rfl rfl ?_
    refine px_callV0 CX10_go [] [.int _, .int _] (lX10_rec hn hn8 hJ hV m (k + 1) c M v I1 (by omega) hc hF hM hMo (by omega) hWC) rfl gS_24 (by decide) rfl rfl rfl (Nat.le_of_ble_eq_true rfl) (Nat.le_refl _) ?_
    rintro _ _ - ⟨rfl, I2, rfl, hF2, hW2⟩
    refine px_aload_n (kk := 0) rfl rfl rfl ?_
    refine px_getR (r := 25) rfl gS_24 rfl (gR_24_2 _) ?_
    refine px_iload_n (kk := 1) rfl rfl rfl ?_
    refine px_ialde (j := k) (v := M k) rfl gS_25 rfl (by omega) (hW2.1 k (by omega)) ?_
    refine px_iconst (v := -1) rfl k_m1 ?_
    refine px_icmp_ne rfl (fun c19 => ?_) (fun c19 => ?_)
    · refine px_return rfl rfl ?_
      rw [if_pos (Or.inl c19)]
      exact ⟨rfl, I2, rfl, hF2, hW2⟩
    · refine px_iload_n (kk := 2) rfl rfl rfl ?_
      refine px_if_gt rfl (fun c21 => ?_) (fun c21 => ?_)
      · refine px_iload_n (kk := 1) rfl rfl rfl ?_
        refine px_iconst (v := nI 1) rfl k_1 ?_
        refine px_iaddN rfl ?_
        refine px_ist3 rfl rfl (by decide) ?_
        rw [n_0, n_lt (by omega) (by omega)] at c21
        rw [if_neg (fun z => z.elim (fun y => y c19) (fun y => by omega))]
        refine pxv_post (lX10_go (I := I) hn hn8 hV (m := m) (k := k) (c := c) (by omega) (by omega) hc (fun c M v I1 hc hF hM hMo hf hWC => lX10_rec hn hn8 hJ hV m (k + 1) c M v I1 (by omega) hc hF hM hMo hf hWC) hM hMo c19 (e := k + 1) (by omega) (by omega) ?_ hF2 hW2) ?_
        · have h3 := sp_go_f hn8 hV m c M v (by omega)
          rw [show n - (k + 1) = m by omega]
          omega
        · rintro r S' ⟨rfl, I3, rfl, hF3, hW3⟩
          rw [show n - (k + 1) = m by omega] at hW3
          exact ⟨rfl, I3, rfl, hF3, hW3⟩
      · refine px_return rfl rfl ?_
        rw [n_0, n_lt (by omega) (by omega)] at c21
        rw [if_pos (Or.inr (by omega))]
        exact ⟨rfl, I2, rfl, hF2, hW2⟩
