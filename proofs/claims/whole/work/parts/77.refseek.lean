/-! the reference: what is read off the ways -/
theorem sp_loop_P {P : VS → Prop} {f : Nat → VS → VS} (h : ∀ e v, P v → P (f e v)) : ∀ (c e : Nat) (v : VS), P v → P (sp_loop f c e v)
  | 0, _, _, hv => hv
  | c + 1, e, v, hv => sp_loop_P h c (e + 1) (f e v) (h e v hv)
theorem sp_go_I {n : Nat} {V : (Nat → Int32) → VS → VS} {P : VS → Prop} (h : ∀ M v, P v → P (V M v)) : ∀ (m c : Nat) (M : Nat → Int32) (v : VS), P v → P (sp_go n V m c M v)
  | 0, c, M, v, hv => h M v hv
  | m + 1, c, M, v, hv => by
    unfold sp_go
    split
    · exact sp_go_I h m c M v hv
    · refine sp_loop_P (fun e w hw => ?_) _ _ _ (sp_go_I h m c M v hv)
      show P (if M e ≠ -1 then w else _)
      split
      · exact hw
      · exact sp_go_I h m (c - 1) _ w hw
theorem sp_go_A {n : Nat} {V : (Nat → Int32) → VS → VS} {P : VS → Prop} (h : ∀ M v, P (V M v)) : ∀ (m c : Nat) (M : Nat → Int32) (v : VS), P (sp_go n V m c M v)
  | 0, c, M, v => h M v
  | m + 1, c, M, v => by
    unfold sp_go
    split
    · exact sp_go_A h m c M v
    · refine sp_loop_P (fun e w hw => ?_) _ _ _ (sp_go_A h m c M v)
      show P (if M e ≠ -1 then w else _)
      split
      · exact hw
      · exact sp_go_A h m (c - 1) _ w
theorem sum_nn {f : Nat → Int32} (h : ∀ l, 0 ≤ (f l).toInt ∧ (f l).toInt ≤ 99) : ∀ k, k ≤ 8 → 0 ≤ (sp_sum f k).toInt ∧ (sp_sum f k).toInt ≤ 99 * (k : Int)
  | 0, _ => by rw [sp_sum, t_0]; omega
  | k + 1, hk => by
    have ih := sum_nn h k (by omega)
    have hf := h k
    rw [sp_sum, Int32.toInt_add, Int.bmod_eq_of_le (by omega) (by omega)]
    omega
theorem pop_nn (q : Nat → Bool) : ∀ k, k ≤ 8 → 0 ≤ (sp_pop (sp_bits q k)).toInt ∧ (sp_pop (sp_bits q k)).toInt ≤ (k : Int)
  | 0, _ => by rw [sp_bits, bits_0, t_0]; omega
  | k + 1, hk => by
    have ih := pop_nn q k (by omega)
    rw [sp_pop_s q (by omega)]
    by_cases h : q k = true
    · rw [if_pos h, Int32.toInt_add, nI_toInt (by decide), Int.bmod_eq_of_le (by omega) (by omega)]; omega
    · rw [if_neg h, Int32.toInt_add, nI_toInt (by decide), Int.bmod_eq_of_le (by omega) (by omega)]; omega
theorem nx_r {tx : List Ln} {n : Nat} {L P W M H : Nat → Int32} {co : Int32} (l : Nat) : 0 ≤ (sp_nx tx n L P co W M H l).toInt ∧ (sp_nx tx n L P co W M H l).toInt ≤ 99 := sp_cl_r _
theorem vis_nn {n : Nat} (hn : n ≤ 8) {tx : List Ln} {L P N W : Nat → Int32} {cold : Int32} {z : Nat} {E : Nat → Int32} {a : Nat} (ha : a = 0 ∨ a = 1) (M : Nat → Int32) (v : VS) : 0 ≤ (sp_vis a n L N z E (fun M => sp_nx tx n L P cold W M (fun _ => nI 0)) M v).2.2.2.toInt := by
  rcases ha with rfl | rfl
  · have h := (sum_nn (fun l => nx_r (tx := tx) (n := n) (L := L) (P := P) (W := W) (M := M) (H := fun _ => nI 0) (co := cold) l) n hn).1
    rw [sp_vis0]
    split
    · exact h
    · rename_i c; rw [i_lt] at c; omega
  · have h := (pop_nn (fun l => decide (N l ≤ sp_nx tx n L P cold W M (fun _ => nI 0) l)) n hn).1
    rw [sp_vis1]
    split
    · exact h
    · rename_i c; rw [i_lt] at c; omega
theorem seek_set {n : Nat} (hn : n ≤ 8) {tx : List Ln} {L P N W : Nat → Int32} {cold : Int32} {z : Nat} {E : Nat → Int32} {a c : Nat} (ha : a = 0 ∨ a = 1) : SETv (sp_seek a n tx L P N W cold z E c) := by
  refine .inr (fun e => ?_)
  have h := sp_go_A (n := n) (P := fun v => 0 ≤ v.2.2.2.toInt) (fun M v => vis_nn hn (tx := tx) (L := L) (P := P) (N := N) (W := W) (cold := cold) (z := z) (E := E) ha M v) n c n1 v0
  have e2 : (sp_seek a n tx L P N W cold z E c).2.2.2.toInt = -1 := by rw [e]; decide +kernel
  have h2 : 0 ≤ (sp_seek a n tx L P N W cold z E c).2.2.2.toInt := h
  omega
theorem take_I {M : Nat → Int32} {v : VS} : ((sp_take M v).2.2.1 = 0 → (sp_take M v).1 = n1) := fun h => absurd h (by simp [sp_take])
theorem seek_n1 {n : Nat} {tx : List Ln} {L P N W : Nat → Int32} {cold : Int32} {z : Nat} {E : Nat → Int32} {a c : Nat} (ha : a = 2 ∨ a = 3) (h0 : (sp_seek a n tx L P N W cold z E c).2.2.1 = 0) : (sp_seek a n tx L P N W cold z E c).1 = n1 := by
  refine sp_go_I (n := n) (P := fun v => v.2.2.1 = 0 → v.1 = n1) (fun M v hv => ?_) n c n1 v0 (fun _ => rfl) h0
  rcases ha with rfl | rfl
  · rw [sp_vis2]
    by_cases h : ST n L M
    · rw [if_pos h]; exact take_I
    · rw [if_neg h]; exact hv
  · rw [sp_vis3]
    by_cases h : TD n z E (sp_nx tx n L P cold W M (fun _ => nI 0))
    · rw [if_pos h]; exact take_I
    · rw [if_neg h]; exact hv
theorem pair_n1 (k : Int32) : ∀ (m l c : Nat), l + m < 1000 → sp_pair n1 k m l c = -2
  | 0, _, _, _ => rfl
  | m + 1, l, c, h => by
    rw [sp_pair, if_neg (fun e => by rw [i_lt, nI_toInt (by omega), show (n1 l).toInt = -1 from t_m1] at e; omega)]
    exact pair_n1 k m (l + 1) c (by omega)
def PRJ (Q : Int32 → Prop) (I : Nat → Nat → Int32) (J : Nat → Nat → Int64) (p : Bool × Option Nat) (ro : List (Nat × Nat × (Nat → Int32))) : Option Value → pm_M → Prop := fun r S' => ∃ v, r = some (.int v) ∧ Q v ∧ ∃ I' J', S' = (gS, I', J', gR p, ro) ∧ Fr crt I I' ∧ K65 I I' ∧ ∀ c, c ≠ 65 → J' c = J c
theorem PRJ_id {Q : Int32 → Prop} {I : Nat → Nat → Int32} {J : Nat → Nat → Int64} {p : Bool × Option Nat} {ro : List (Nat × Nat × (Nat → Int32))} {v : Int32} (h : Q v) : PRJ Q I J p ro (some (.int v)) (gS, I, J, gR p, ro) := ⟨v, rfl, h, I, J, rfl, Fr_rf, fun _ _ => rfl, fun _ _ => rfl⟩
theorem lX12_pair {I : Nat → Nat → Int32} {J : Nat → Nat → Int64} {p : Bool × Option Nat} {ro : List (Nat × Nat × (Nat → Int32))} {n : Nat} (hn : I 65 1 = nI n) (hn8 : n ≤ 8) {k : Int32} {c l : Nat} (hl : l ≤ n) : Px 0 0 0 CX12_pairAt 4 [some (.ref (65)), some (.int (k)), some (.int (nI c)), some (.int (nI l))] [] (gS, I, J, gR p, ro) (qI (sp_pair (I 89) k (n - l) l c) (gS, I, J, gR p, ro)) := by
  refine px_iload_n (kk := 3) rfl rfl rfl ?_
  refine px_aload_n (kk := 0) rfl rfl rfl ?_
  refine px_getIe (v := nI n) rfl gS_65 rfl hn ?_
  refine px_icmp_ge rfl (fun c7 => ?_) (fun c7 => ?_)
  · refine px_bipush (v := -2) rfl b_m2 ?_
    refine px_ireturn rfl (.inl rfl) ?_
    rw [n_le (by omega) (by omega)] at c7
    obtain rfl : l = n := by omega
    rw [Nat.sub_self]
    exact ⟨rfl, rfl⟩
  · rw [n_le (by omega) (by omega)] at c7
    refine px_aload_n (kk := 0) rfl rfl rfl ?_
    refine px_getR (r := 89) rfl gS_65 rfl (gR_65_42 _) ?_
    refine px_iload_n (kk := 3) rfl rfl rfl ?_
    refine px_iald (j := l) rfl gS_89 rfl (by omega) ?_
    refine px_iload_n (kk := 3) rfl rfl rfl ?_
    refine px_icmp_gt rfl (fun c13 => ?_) (fun c13 => ?_)
    · refine px_iload_n (kk := 2) rfl rfl rfl ?_
      refine px_iload_n (kk := 1) rfl rfl rfl ?_
      refine px_icmp_ne rfl (fun c17 => ?_) (fun c17 => ?_)
      · refine px_iinc2 (v := nI (c + 1)) rfl (n_inc c) rfl (by decide) ?_
        refine px_iinc3 (v := nI (l + 1)) rfl (n_inc l) rfl (by decide) ?_
        refine px_goto rfl ?_
        have hu : (sp_pair (I 89) k (n - l) l c) = sp_pair (I 89) k (n - (l + 1)) (l + 1) (c + 1) := by
          conv => lhs; rw [show n - l = (n - (l + 1)) + 1 by omega]; unfold sp_pair
          rw [if_pos (by rw [i_lt]; rw [i_lt] at c13; exact c13), if_neg c17]
        rw [hu]
        exact lX12_pair hn hn8 (by omega)
      · refine px_bipush (v := nI 10) rfl b_10 ?_
        refine px_iload_n (kk := 3) rfl rfl rfl ?_
        refine px_imulN rfl ?_
        refine px_aload_n (kk := 0) rfl rfl rfl ?_
        refine px_getR (r := 89) rfl gS_65 rfl (gR_65_42 _) ?_
        refine px_iload_n (kk := 3) rfl rfl rfl ?_
        refine px_iald (j := l) rfl gS_89 rfl (by omega) ?_
        refine px_iadd rfl ?_
        refine px_ireturn rfl (.inl rfl) ?_
        have hu : (sp_pair (I 89) k (n - l) l c) = nI (10 * l) + I 89 l := by
          conv => lhs; rw [show n - l = (n - (l + 1)) + 1 by omega]; unfold sp_pair
          rw [if_pos c13, if_pos (by first | exact c17 | exact Classical.byContradiction c17)]
        rw [hu]
        exact ⟨rfl, rfl⟩
    · refine px_goto rfl ?_
      refine px_iinc3 (v := nI (l + 1)) rfl (n_inc l) rfl (by decide) ?_
      refine px_goto rfl ?_
      have hu : (sp_pair (I 89) k (n - l) l c) = sp_pair (I 89) k (n - (l + 1)) (l + 1) c := by
        conv => lhs; rw [show n - l = (n - (l + 1)) + 1 by omega]; unfold sp_pair
        rw [if_neg (fun h => c13 h)]
      rw [hu]
      exact lX12_pair hn hn8 (by omega)
termination_by n - l
decreasing_by all_goals (have h9 := ‹¬ nI n ≤ nI l›; rw [n_le (by omega) (by omega)] at h9; omega)
theorem vX12_pair {I : Nat → Nat → Int32} {J : Nat → Nat → Int64} {p : Bool × Option Nat} {ro : List (Nat × Nat × (Nat → Int32))} {n : Nat} (hn : I 65 1 = nI n) (hn8 : n ≤ 8) {k : Int32} : Pv 0 0 0 CX12_pairAt [.ref (65), .int (k)] (gS, I, J, gR p, ro) (qI (sp_pair (I 89) k n 0 0) (gS, I, J, gR p, ro)) := by
  refine ⟨okCX12_pairAt, Nat.le_of_ble_eq_true rfl, (show Px _ _ _ _ 0 [some (.ref (65)), some (.int (k)), none, none] [] _ _ from ?_)⟩
  refine px_iconst (v := nI 0) rfl k_0 ?_
  refine px_ist2 rfl rfl (by decide) ?_
  refine px_iconst (v := nI 0) rfl k_0 ?_
  refine px_ist3 rfl rfl (by decide) ?_
  exact lX12_pair hn hn8 (l := 0) (by omega)
theorem lX12_find {I : Nat → Nat → Int32} {J : Nat → Nat → Int64} {p : Bool × Option Nat} {ro : List (Nat × Nat × (Nat → Int32))} {n : Nat} (hn : I 65 1 = nI n) (hn8 : n ≤ 8) {x y : Int32} {k : Nat} (hk : k ≤ n) {Q : Option Value → pm_M → Prop} (kont : Px 16 0 0 CX12_findWays 26 [some (.ref 65), some (.int x), some (.int y), some (.int (nI n))] [] (gS, (va_up I 90 (fun j => if j < n then nI 0 else I 90 j)), J, gR p, ro) Q) : Px 16 0 0 CX12_findWays 15 [some (.ref (65)), some (.int (x)), some (.int (y)), some (.int (nI k))] [] (gS, (va_up I 90 (fun j => if j < k then nI 0 else I 90 j)), J, gR p, ro) (Q) := by
  refine px_iload_n (kk := 3) rfl rfl rfl ?_
  refine px_aload_n (kk := 0) rfl rfl rfl ?_
  refine px_getIe (v := nI n) rfl gS_65 rfl ((congrFun (p_up_n _ _ (by decide)) 1).trans hn) ?_
  refine px_icmp_ge rfl (fun c18 => ?_) (fun c18 => ?_)
  · rw [n_le (by omega) (by omega)] at c18
    obtain rfl : k = n := by omega
    exact kont
  · rw [n_le (by omega) (by omega)] at c18
    refine px_aload_n (kk := 0) rfl rfl rfl ?_
    refine px_getR (r := 90) rfl gS_65 rfl (gR_65_43 _) ?_
    refine px_iload_n (kk := 3) rfl rfl rfl ?_
    refine px_iconst (v := nI 0) rfl k_0 ?_
    refine px_iast (j := k) rfl gS_90 rfl (by omega) ?_
    refine px_iinc3 (v := nI (k + 1)) rfl (n_inc k) rfl (by decide) ?_
    refine px_goto rfl ?_
    refine px_mem ?_ (lX12_find hn hn8 (k := k + 1) (by omega) kont)
    rw [p_up_s]
    exact fillf_next I 90 k (fun _ => nI 0)
termination_by n - k
decreasing_by all_goals (have h := ‹¬ nI n ≤ nI k›; rw [n_le (by omega) (by omega)] at h; omega)
theorem vX12_find0 {I : Nat → Nat → Int32} {J : Nat → Nat → Int64} {p : Bool × Option Nat} {ro : List (Nat × Nat × (Nat → Int32))} {tx : List Ln} (hT : LawR tx I) {n : Nat} (hn : I 65 1 = nI n) (hn8 : n ≤ 8) (hL : LK n (I 69)) {z : Nat} {E : Nat → Int32} {c : Nat} (hc : c ≤ 8) : Pv 16 0 0 CX12_findWays [.ref (65), .int (nI 0), .int (nI c)] (gS, I, J, gR p, ro) (fun r S' => r = none ∧ ∃ I' J', S' = (gS, I', J', gR p, ro) ∧ Fr crt I I' ∧ K65 I I' ∧ (∀ c, c ≠ 65 → J' c = J c) ∧ WR n 0 n1 (sp_seek 0 n tx (I 69) (I 68) (I 67) (I 66) (I 65 7) z E c) I' J') := by
  refine ⟨okCX12_findWays, Nat.le_of_ble_eq_true rfl, (show Px _ _ _ _ 0 [some (.ref (65)), some (.int (nI 0)), some (.int (nI c)), none] [] _ _ from ?_)⟩
  refine px_aload_n (kk := 0) rfl rfl rfl ?_
  refine px_iload_n (kk := 1) rfl rfl rfl ?_
  refine px_putI rfl gS_65 rfl rfl ?_
  refine px_aload_n (kk := 0) rfl rfl rfl ?_
  refine px_iconst (v := -1) rfl k_m1 ?_
  refine px_putI rfl gS_65 rfl rfl ?_
  refine px_aload_n (kk := 0) rfl rfl rfl ?_
  refine px_lconst (v := 0) rfl (by decide) ?_
  refine px_putJ rfl gS_65 rfl rfl ?_
  refine px_aload_n (kk := 0) rfl rfl rfl ?_
  refine px_callV0 CX12_layWarm [] [] (vX12_layWarm (n := n) (by rw [p_up_s, p_up_n _ _ (by decide), p_up_s, p_up_n _ _ (by decide)]; exact hn) hn8) rfl gS_65 (by decide) rfl rfl rfl (Nat.le_of_ble_eq_true rfl) (by decide) ?_
  rintro _ _ - ⟨rfl, rfl⟩
  refine px_aload_n (kk := 0) rfl rfl rfl ?_
  refine px_callV0 CX12_layNobody [] [] (vX12_layNobody (n := n) (by rw [p_up_n _ _ (by decide), p_up_s, p_up_n _ _ (by decide), p_up_s, p_up_n _ _ (by decide)]; exact hn) hn8) rfl gS_65 (by decide) rfl rfl rfl (Nat.le_of_ble_eq_true rfl) (by decide) ?_
  rintro _ _ - ⟨rfl, rfl⟩
  refine px_iconst (v := nI 0) rfl k_0 ?_
  refine px_ist3 rfl rfl (by decide) ?_
  refine px_mem (fill_0f _ 90 (fun _ => nI 0)) (lX12_find (n := n) ?_ hn8 (k := 0) (by omega) ?_)
  · simp only [va_up, Nat.reduceEqDiff, if_true, if_false]; exact hn
  obtain ⟨I0, h0⟩ : ∃ I0, I0 = (va_up (va_up (va_up (va_up (va_up (va_up I 65 (va_up (I 65) 39 (nI 0))) 65 (va_up ((va_up I 65 (va_up (I 65) 39 (nI 0))) 65) 40 (-1))) 84 (fun j => if j < n then (va_up (va_up I 65 (va_up (I 65) 39 (nI 0))) 65 (va_up ((va_up I 65 (va_up (I 65) 39 (nI 0))) 65) 40 (-1))) 66 j else (va_up (va_up I 65 (va_up (I 65) 39 (nI 0))) 65 (va_up ((va_up I 65 (va_up (I 65) 39 (nI 0))) 65) 40 (-1))) 84 j)) 85 (fun j => if j < n then -1 else (va_up (va_up (va_up I 65 (va_up (I 65) 39 (nI 0))) 65 (va_up ((va_up I 65 (va_up (I 65) 39 (nI 0))) 65) 40 (-1))) 84 (fun j => if j < n then (va_up (va_up I 65 (va_up (I 65) 39 (nI 0))) 65 (va_up ((va_up I 65 (va_up (I 65) 39 (nI 0))) 65) 40 (-1))) 66 j else (va_up (va_up I 65 (va_up (I 65) 39 (nI 0))) 65 (va_up ((va_up I 65 (va_up (I 65) 39 (nI 0))) 65) 40 (-1))) 84 j)) 85 j)) 86 (fun j => if j < n then nI 0 else (va_up (va_up (va_up I 65 (va_up (I 65) 39 (nI 0))) 65 (va_up ((va_up I 65 (va_up (I 65) 39 (nI 0))) 65) 40 (-1))) 84 (fun j => if j < n then (va_up (va_up I 65 (va_up (I 65) 39 (nI 0))) 65 (va_up ((va_up I 65 (va_up (I 65) 39 (nI 0))) 65) 40 (-1))) 66 j else (va_up (va_up I 65 (va_up (I 65) 39 (nI 0))) 65 (va_up ((va_up I 65 (va_up (I 65) 39 (nI 0))) 65) 40 (-1))) 84 j)) 86 j)) 90 (fun j => if j < n then nI 0 else (va_up (va_up (va_up (va_up (va_up I 65 (va_up (I 65) 39 (nI 0))) 65 (va_up ((va_up I 65 (va_up (I 65) 39 (nI 0))) 65) 40 (-1))) 84 (fun j => if j < n then (va_up (va_up I 65 (va_up (I 65) 39 (nI 0))) 65 (va_up ((va_up I 65 (va_up (I 65) 39 (nI 0))) 65) 40 (-1))) 66 j else (va_up (va_up I 65 (va_up (I 65) 39 (nI 0))) 65 (va_up ((va_up I 65 (va_up (I 65) 39 (nI 0))) 65) 40 (-1))) 84 j)) 85 (fun j => if j < n then -1 else (va_up (va_up (va_up I 65 (va_up (I 65) 39 (nI 0))) 65 (va_up ((va_up I 65 (va_up (I 65) 39 (nI 0))) 65) 40 (-1))) 84 (fun j => if j < n then (va_up (va_up I 65 (va_up (I 65) 39 (nI 0))) 65 (va_up ((va_up I 65 (va_up (I 65) 39 (nI 0))) 65) 40 (-1))) 66 j else (va_up (va_up I 65 (va_up (I 65) 39 (nI 0))) 65 (va_up ((va_up I 65 (va_up (I 65) 39 (nI 0))) 65) 40 (-1))) 84 j)) 85 j)) 86 (fun j => if j < n then nI 0 else (va_up (va_up (va_up I 65 (va_up (I 65) 39 (nI 0))) 65 (va_up ((va_up I 65 (va_up (I 65) 39 (nI 0))) 65) 40 (-1))) 84 (fun j => if j < n then (va_up (va_up I 65 (va_up (I 65) 39 (nI 0))) 65 (va_up ((va_up I 65 (va_up (I 65) 39 (nI 0))) 65) 40 (-1))) 66 j else (va_up (va_up I 65 (va_up (I 65) 39 (nI 0))) 65 (va_up ((va_up I 65 (va_up (I 65) 39 (nI 0))) 65) 40 (-1))) 84 j)) 86 j)) 90 j)) := ⟨_, rfl⟩
  refine px_mem h0.symm ?_
  obtain ⟨J0, hJ0⟩ : ∃ J0, J0 = (va_up J 65 (va_up (J 65) 41 0)) := ⟨_, rfl⟩
  refine px_memJ hJ0.symm ?_
  have f0 : Fr [65, 84, 85, 86, 90] I I0 := by
    rw [h0]
    exact Fr_up (Fr_up (Fr_up (Fr_up (Fr_up (Fr_up Fr_rf (by decide) _) (by decide) _) (by decide) _) (by decide) _) (by decide) _) (by decide) _
  have k0 : ∀ k, k ≠ 39 → k ≠ 40 → I0 65 k = I 65 k := fun k h1 h2 => by
    rw [h0]; simp only [va_up, Nat.reduceEqDiff, if_true, if_false, if_neg h1, if_neg h2]
  have g84 : ∀ l, l < n → I0 84 l = I0 66 l := fun l hl => by
    rw [h0]; simp only [va_up, Nat.reduceEqDiff, if_true, if_false, if_pos hl]
  have g85 : ∀ l, l < n → I0 85 l = n1 l := fun l hl => by
    rw [h0]; simp only [va_up, Nat.reduceEqDiff, if_true, if_false, if_pos hl, n1]
  have g86 : ∀ l, l < n → I0 86 l = nI 0 := fun l hl => by
    rw [h0]; simp only [va_up, Nat.reduceEqDiff, if_true, if_false, if_pos hl]
  have g90 : ∀ l, l < n → I0 90 l = nI 0 := fun l hl => by
    rw [h0]; simp only [va_up, Nat.reduceEqDiff, if_true, if_false, if_pos hl]
  have g39 : I0 65 39 = nI 0 := by rw [h0]; simp only [va_up, Nat.reduceEqDiff, if_true, if_false]
  have g40 : I0 65 40 = -1 := by rw [h0]; simp only [va_up, Nat.reduceEqDiff, if_true, if_false]
  have gJ : J0 65 41 = lN 0 := by rw [hJ0]; simp only [va_up, if_true]; exact l_0
  have gJc : ∀ c, c ≠ 65 → J0 c = J c := fun c hc => by rw [hJ0, p_up_n _ _ hc]
  have hn0 : I0 65 1 = nI n := (k0 1 (by decide) (by decide)).trans hn
  have hT0 : LawR tx I0 := LawR_mv hT (k0 29 (by decide) (by decide)) (fun c hc => f0 c (fun e => by simp only [List.mem_cons, List.not_mem_nil, or_false] at e hc; omega))
  have hL0 : LK n (I0 69) := by rw [f0 69 (by decide)]; exact hL
  have hJ : ∀ (M : Nat → Int32) (v : VS) (I1 : Nat → Nat → Int32) (J1 : Nat → Nat → Int64), WF I0 J0 I1 J1 → MT n M → v.2.2.1 < 2 ^ 31 → WR n 0 M v I1 J1 → Pv 6 0 0 CX12_visitWay [.ref 65] (gS, I1, J1, gR p, ro) (fun r S' => r = none ∧ ∃ I' J', S' = (gS, I', J', gR p, ro) ∧ WF I1 J1 I' J' ∧ WR n 0 M ((sp_vis 0 n (I0 69) (I0 67) z E (fun M => sp_nx tx n (I0 69) (I0 68) (I0 65 7) (I0 66) M (fun _ => nI 0))) M v) I' J') := fun M v I1 J1 hF hM hf hWR => vX12_visit0 hT0 hn0 hn8 hL0 g84 g86 (z := z) (E := E) hF hM hWR
  refine px_aload_n (kk := 0) rfl rfl rfl ?_
  refine px_iconst (v := nI 0) rfl k_0 ?_
  refine px_iload_n (kk := 2) rfl rfl rfl ?_
  refine px_callV0 CX12_goWays [] [.int _, .int _] (lX12_rec (I := I0) (J := J0) (aim := 0) (V := (sp_vis 0 n (I0 69) (I0 67) z E (fun M => sp_nx tx n (I0 69) (I0 68) (I0 65 7) (I0 66) M (fun _ => nI 0)))) hn0 hn8 hJ (fun M v => sp_vis_f M v) n 0 c n1 v0 I0 J0 (by omega) hc WF_rf MT_n1 (fun _ _ => rfl) (pow8 n hn8) ⟨g85, fun z => absurd z (fun z => z.elim (fun z => z rfl) (fun z => z rfl)), g90, gJ, g40, g39⟩) rfl gS_65 (by decide) rfl rfl rfl (Nat.le_of_ble_eq_true rfl) (by omega) ?_
  rintro _ _ - ⟨rfl, I3, J3, rfl, hF, hW⟩
  refine px_return rfl rfl ?_
  refine ⟨rfl, I3, J3, rfl, Fr_tr (Fr_mo f0 (by decide)) (Fr_mo hF.1 (by decide)), fun k hk => (hF.2.1 k (by omega)).trans (k0 k (by omega) (by omega)), fun c hc => (hF.2.2 c hc).trans (gJc c hc), ?_⟩
  have e : (sp_seek 0 n tx (I 69) (I 68) (I 67) (I 66) (I 65 7) z E c) = sp_go n (sp_vis 0 n (I0 69) (I0 67) z E (fun M => sp_nx tx n (I0 69) (I0 68) (I0 65 7) (I0 66) M (fun _ => nI 0))) n c n1 v0 := by
    rw [sp_seek, f0 69 (by decide), f0 68 (by decide), f0 67 (by decide), f0 66 (by decide), k0 7 (by decide) (by decide)]
  rw [e]
  exact hW
theorem vX12_find1 {I : Nat → Nat → Int32} {J : Nat → Nat → Int64} {p : Bool × Option Nat} {ro : List (Nat × Nat × (Nat → Int32))} {tx : List Ln} (hT : LawR tx I) {n : Nat} (hn : I 65 1 = nI n) (hn8 : n ≤ 8) (hL : LK n (I 69)) {z : Nat} {E : Nat → Int32} {c : Nat} (hc : c ≤ 8) : Pv 16 0 0 CX12_findWays [.ref (65), .int (nI 1), .int (nI c)] (gS, I, J, gR p, ro) (fun r S' => r = none ∧ ∃ I' J', S' = (gS, I', J', gR p, ro) ∧ Fr crt I I' ∧ K65 I I' ∧ (∀ c, c ≠ 65 → J' c = J c) ∧ WR n 1 n1 (sp_seek 1 n tx (I 69) (I 68) (I 67) (I 66) (I 65 7) z E c) I' J') := by
  refine ⟨okCX12_findWays, Nat.le_of_ble_eq_true rfl, (show Px _ _ _ _ 0 [some (.ref (65)), some (.int (nI 1)), some (.int (nI c)), none] [] _ _ from ?_)⟩
  refine px_aload_n (kk := 0) rfl rfl rfl ?_
  refine px_iload_n (kk := 1) rfl rfl rfl ?_
  refine px_putI rfl gS_65 rfl rfl ?_
  refine px_aload_n (kk := 0) rfl rfl rfl ?_
  refine px_iconst (v := -1) rfl k_m1 ?_
  refine px_putI rfl gS_65 rfl rfl ?_
  refine px_aload_n (kk := 0) rfl rfl rfl ?_
  refine px_lconst (v := 0) rfl (by decide) ?_
  refine px_putJ rfl gS_65 rfl rfl ?_
  refine px_aload_n (kk := 0) rfl rfl rfl ?_
  refine px_callV0 CX12_layWarm [] [] (vX12_layWarm (n := n) (by rw [p_up_s, p_up_n _ _ (by decide), p_up_s, p_up_n _ _ (by decide)]; exact hn) hn8) rfl gS_65 (by decide) rfl rfl rfl (Nat.le_of_ble_eq_true rfl) (by decide) ?_
  rintro _ _ - ⟨rfl, rfl⟩
  refine px_aload_n (kk := 0) rfl rfl rfl ?_
  refine px_callV0 CX12_layNobody [] [] (vX12_layNobody (n := n) (by rw [p_up_n _ _ (by decide), p_up_s, p_up_n _ _ (by decide), p_up_s, p_up_n _ _ (by decide)]; exact hn) hn8) rfl gS_65 (by decide) rfl rfl rfl (Nat.le_of_ble_eq_true rfl) (by decide) ?_
  rintro _ _ - ⟨rfl, rfl⟩
  refine px_iconst (v := nI 0) rfl k_0 ?_
  refine px_ist3 rfl rfl (by decide) ?_
  refine px_mem (fill_0f _ 90 (fun _ => nI 0)) (lX12_find (n := n) ?_ hn8 (k := 0) (by omega) ?_)
  · simp only [va_up, Nat.reduceEqDiff, if_true, if_false]; exact hn
  obtain ⟨I0, h0⟩ : ∃ I0, I0 = (va_up (va_up (va_up (va_up (va_up (va_up I 65 (va_up (I 65) 39 (nI 1))) 65 (va_up ((va_up I 65 (va_up (I 65) 39 (nI 1))) 65) 40 (-1))) 84 (fun j => if j < n then (va_up (va_up I 65 (va_up (I 65) 39 (nI 1))) 65 (va_up ((va_up I 65 (va_up (I 65) 39 (nI 1))) 65) 40 (-1))) 66 j else (va_up (va_up I 65 (va_up (I 65) 39 (nI 1))) 65 (va_up ((va_up I 65 (va_up (I 65) 39 (nI 1))) 65) 40 (-1))) 84 j)) 85 (fun j => if j < n then -1 else (va_up (va_up (va_up I 65 (va_up (I 65) 39 (nI 1))) 65 (va_up ((va_up I 65 (va_up (I 65) 39 (nI 1))) 65) 40 (-1))) 84 (fun j => if j < n then (va_up (va_up I 65 (va_up (I 65) 39 (nI 1))) 65 (va_up ((va_up I 65 (va_up (I 65) 39 (nI 1))) 65) 40 (-1))) 66 j else (va_up (va_up I 65 (va_up (I 65) 39 (nI 1))) 65 (va_up ((va_up I 65 (va_up (I 65) 39 (nI 1))) 65) 40 (-1))) 84 j)) 85 j)) 86 (fun j => if j < n then nI 0 else (va_up (va_up (va_up I 65 (va_up (I 65) 39 (nI 1))) 65 (va_up ((va_up I 65 (va_up (I 65) 39 (nI 1))) 65) 40 (-1))) 84 (fun j => if j < n then (va_up (va_up I 65 (va_up (I 65) 39 (nI 1))) 65 (va_up ((va_up I 65 (va_up (I 65) 39 (nI 1))) 65) 40 (-1))) 66 j else (va_up (va_up I 65 (va_up (I 65) 39 (nI 1))) 65 (va_up ((va_up I 65 (va_up (I 65) 39 (nI 1))) 65) 40 (-1))) 84 j)) 86 j)) 90 (fun j => if j < n then nI 0 else (va_up (va_up (va_up (va_up (va_up I 65 (va_up (I 65) 39 (nI 1))) 65 (va_up ((va_up I 65 (va_up (I 65) 39 (nI 1))) 65) 40 (-1))) 84 (fun j => if j < n then (va_up (va_up I 65 (va_up (I 65) 39 (nI 1))) 65 (va_up ((va_up I 65 (va_up (I 65) 39 (nI 1))) 65) 40 (-1))) 66 j else (va_up (va_up I 65 (va_up (I 65) 39 (nI 1))) 65 (va_up ((va_up I 65 (va_up (I 65) 39 (nI 1))) 65) 40 (-1))) 84 j)) 85 (fun j => if j < n then -1 else (va_up (va_up (va_up I 65 (va_up (I 65) 39 (nI 1))) 65 (va_up ((va_up I 65 (va_up (I 65) 39 (nI 1))) 65) 40 (-1))) 84 (fun j => if j < n then (va_up (va_up I 65 (va_up (I 65) 39 (nI 1))) 65 (va_up ((va_up I 65 (va_up (I 65) 39 (nI 1))) 65) 40 (-1))) 66 j else (va_up (va_up I 65 (va_up (I 65) 39 (nI 1))) 65 (va_up ((va_up I 65 (va_up (I 65) 39 (nI 1))) 65) 40 (-1))) 84 j)) 85 j)) 86 (fun j => if j < n then nI 0 else (va_up (va_up (va_up I 65 (va_up (I 65) 39 (nI 1))) 65 (va_up ((va_up I 65 (va_up (I 65) 39 (nI 1))) 65) 40 (-1))) 84 (fun j => if j < n then (va_up (va_up I 65 (va_up (I 65) 39 (nI 1))) 65 (va_up ((va_up I 65 (va_up (I 65) 39 (nI 1))) 65) 40 (-1))) 66 j else (va_up (va_up I 65 (va_up (I 65) 39 (nI 1))) 65 (va_up ((va_up I 65 (va_up (I 65) 39 (nI 1))) 65) 40 (-1))) 84 j)) 86 j)) 90 j)) := ⟨_, rfl⟩
  refine px_mem h0.symm ?_
  obtain ⟨J0, hJ0⟩ : ∃ J0, J0 = (va_up J 65 (va_up (J 65) 41 0)) := ⟨_, rfl⟩
  refine px_memJ hJ0.symm ?_
  have f0 : Fr [65, 84, 85, 86, 90] I I0 := by
    rw [h0]
    exact Fr_up (Fr_up (Fr_up (Fr_up (Fr_up (Fr_up Fr_rf (by decide) _) (by decide) _) (by decide) _) (by decide) _) (by decide) _) (by decide) _
  have k0 : ∀ k, k ≠ 39 → k ≠ 40 → I0 65 k = I 65 k := fun k h1 h2 => by
    rw [h0]; simp only [va_up, Nat.reduceEqDiff, if_true, if_false, if_neg h1, if_neg h2]
  have g84 : ∀ l, l < n → I0 84 l = I0 66 l := fun l hl => by
    rw [h0]; simp only [va_up, Nat.reduceEqDiff, if_true, if_false, if_pos hl]
  have g85 : ∀ l, l < n → I0 85 l = n1 l := fun l hl => by
    rw [h0]; simp only [va_up, Nat.reduceEqDiff, if_true, if_false, if_pos hl, n1]
  have g86 : ∀ l, l < n → I0 86 l = nI 0 := fun l hl => by
    rw [h0]; simp only [va_up, Nat.reduceEqDiff, if_true, if_false, if_pos hl]
  have g90 : ∀ l, l < n → I0 90 l = nI 0 := fun l hl => by
    rw [h0]; simp only [va_up, Nat.reduceEqDiff, if_true, if_false, if_pos hl]
  have g39 : I0 65 39 = nI 1 := by rw [h0]; simp only [va_up, Nat.reduceEqDiff, if_true, if_false]
  have g40 : I0 65 40 = -1 := by rw [h0]; simp only [va_up, Nat.reduceEqDiff, if_true, if_false]
  have gJ : J0 65 41 = lN 0 := by rw [hJ0]; simp only [va_up, if_true]; exact l_0
  have gJc : ∀ c, c ≠ 65 → J0 c = J c := fun c hc => by rw [hJ0, p_up_n _ _ hc]
  have hn0 : I0 65 1 = nI n := (k0 1 (by decide) (by decide)).trans hn
  have hT0 : LawR tx I0 := LawR_mv hT (k0 29 (by decide) (by decide)) (fun c hc => f0 c (fun e => by simp only [List.mem_cons, List.not_mem_nil, or_false] at e hc; omega))
  have hL0 : LK n (I0 69) := by rw [f0 69 (by decide)]; exact hL
  have hJ : ∀ (M : Nat → Int32) (v : VS) (I1 : Nat → Nat → Int32) (J1 : Nat → Nat → Int64), WF I0 J0 I1 J1 → MT n M → v.2.2.1 < 2 ^ 31 → WR n 1 M v I1 J1 → Pv 6 0 0 CX12_visitWay [.ref 65] (gS, I1, J1, gR p, ro) (fun r S' => r = none ∧ ∃ I' J', S' = (gS, I', J', gR p, ro) ∧ WF I1 J1 I' J' ∧ WR n 1 M ((sp_vis 1 n (I0 69) (I0 67) z E (fun M => sp_nx tx n (I0 69) (I0 68) (I0 65 7) (I0 66) M (fun _ => nI 0))) M v) I' J') := fun M v I1 J1 hF hM hf hWR => vX12_visit1 hT0 hn0 hn8 hL0 g84 g86 (z := z) (E := E) hF hM hWR
  refine px_aload_n (kk := 0) rfl rfl rfl ?_
  refine px_iconst (v := nI 0) rfl k_0 ?_
  refine px_iload_n (kk := 2) rfl rfl rfl ?_
  refine px_callV0 CX12_goWays [] [.int _, .int _] (lX12_rec (I := I0) (J := J0) (aim := 1) (V := (sp_vis 1 n (I0 69) (I0 67) z E (fun M => sp_nx tx n (I0 69) (I0 68) (I0 65 7) (I0 66) M (fun _ => nI 0)))) hn0 hn8 hJ (fun M v => sp_vis_f M v) n 0 c n1 v0 I0 J0 (by omega) hc WF_rf MT_n1 (fun _ _ => rfl) (pow8 n hn8) ⟨g85, fun z => absurd z (fun z => z.elim (fun z => z rfl) (fun z => z rfl)), g90, gJ, g40, g39⟩) rfl gS_65 (by decide) rfl rfl rfl (Nat.le_of_ble_eq_true rfl) (by omega) ?_
  rintro _ _ - ⟨rfl, I3, J3, rfl, hF, hW⟩
  refine px_return rfl rfl ?_
  refine ⟨rfl, I3, J3, rfl, Fr_tr (Fr_mo f0 (by decide)) (Fr_mo hF.1 (by decide)), fun k hk => (hF.2.1 k (by omega)).trans (k0 k (by omega) (by omega)), fun c hc => (hF.2.2 c hc).trans (gJc c hc), ?_⟩
  have e : (sp_seek 1 n tx (I 69) (I 68) (I 67) (I 66) (I 65 7) z E c) = sp_go n (sp_vis 1 n (I0 69) (I0 67) z E (fun M => sp_nx tx n (I0 69) (I0 68) (I0 65 7) (I0 66) M (fun _ => nI 0))) n c n1 v0 := by
    rw [sp_seek, f0 69 (by decide), f0 68 (by decide), f0 67 (by decide), f0 66 (by decide), k0 7 (by decide) (by decide)]
  rw [e]
  exact hW
theorem vX12_find2 {I : Nat → Nat → Int32} {J : Nat → Nat → Int64} {p : Bool × Option Nat} {ro : List (Nat × Nat × (Nat → Int32))} {tx : List Ln} (hT : LawR tx I) {n : Nat} (hn : I 65 1 = nI n) (hn8 : n ≤ 8) (hL : LK n (I 69)) {z : Nat} {E : Nat → Int32} {c : Nat} (hc : c ≤ 8) : Pv 16 0 0 CX12_findWays [.ref (65), .int (nI 2), .int (nI c)] (gS, I, J, gR p, ro) (fun r S' => r = none ∧ ∃ I' J', S' = (gS, I', J', gR p, ro) ∧ Fr crt I I' ∧ K65 I I' ∧ (∀ c, c ≠ 65 → J' c = J c) ∧ WR n 2 n1 (sp_seek 2 n tx (I 69) (I 68) (I 67) (I 66) (I 65 7) z E c) I' J') := by
  refine ⟨okCX12_findWays, Nat.le_of_ble_eq_true rfl, (show Px _ _ _ _ 0 [some (.ref (65)), some (.int (nI 2)), some (.int (nI c)), none] [] _ _ from ?_)⟩
  refine px_aload_n (kk := 0) rfl rfl rfl ?_
  refine px_iload_n (kk := 1) rfl rfl rfl ?_
  refine px_putI rfl gS_65 rfl rfl ?_
  refine px_aload_n (kk := 0) rfl rfl rfl ?_
  refine px_iconst (v := -1) rfl k_m1 ?_
  refine px_putI rfl gS_65 rfl rfl ?_
  refine px_aload_n (kk := 0) rfl rfl rfl ?_
  refine px_lconst (v := 0) rfl (by decide) ?_
  refine px_putJ rfl gS_65 rfl rfl ?_
  refine px_aload_n (kk := 0) rfl rfl rfl ?_
  refine px_callV0 CX12_layWarm [] [] (vX12_layWarm (n := n) (by rw [p_up_s, p_up_n _ _ (by decide), p_up_s, p_up_n _ _ (by decide)]; exact hn) hn8) rfl gS_65 (by decide) rfl rfl rfl (Nat.le_of_ble_eq_true rfl) (by decide) ?_
  rintro _ _ - ⟨rfl, rfl⟩
  refine px_aload_n (kk := 0) rfl rfl rfl ?_
  refine px_callV0 CX12_layNobody [] [] (vX12_layNobody (n := n) (by rw [p_up_n _ _ (by decide), p_up_s, p_up_n _ _ (by decide), p_up_s, p_up_n _ _ (by decide)]; exact hn) hn8) rfl gS_65 (by decide) rfl rfl rfl (Nat.le_of_ble_eq_true rfl) (by decide) ?_
  rintro _ _ - ⟨rfl, rfl⟩
  refine px_iconst (v := nI 0) rfl k_0 ?_
  refine px_ist3 rfl rfl (by decide) ?_
  refine px_mem (fill_0f _ 90 (fun _ => nI 0)) (lX12_find (n := n) ?_ hn8 (k := 0) (by omega) ?_)
  · simp only [va_up, Nat.reduceEqDiff, if_true, if_false]; exact hn
  obtain ⟨I0, h0⟩ : ∃ I0, I0 = (va_up (va_up (va_up (va_up (va_up (va_up I 65 (va_up (I 65) 39 (nI 2))) 65 (va_up ((va_up I 65 (va_up (I 65) 39 (nI 2))) 65) 40 (-1))) 84 (fun j => if j < n then (va_up (va_up I 65 (va_up (I 65) 39 (nI 2))) 65 (va_up ((va_up I 65 (va_up (I 65) 39 (nI 2))) 65) 40 (-1))) 66 j else (va_up (va_up I 65 (va_up (I 65) 39 (nI 2))) 65 (va_up ((va_up I 65 (va_up (I 65) 39 (nI 2))) 65) 40 (-1))) 84 j)) 85 (fun j => if j < n then -1 else (va_up (va_up (va_up I 65 (va_up (I 65) 39 (nI 2))) 65 (va_up ((va_up I 65 (va_up (I 65) 39 (nI 2))) 65) 40 (-1))) 84 (fun j => if j < n then (va_up (va_up I 65 (va_up (I 65) 39 (nI 2))) 65 (va_up ((va_up I 65 (va_up (I 65) 39 (nI 2))) 65) 40 (-1))) 66 j else (va_up (va_up I 65 (va_up (I 65) 39 (nI 2))) 65 (va_up ((va_up I 65 (va_up (I 65) 39 (nI 2))) 65) 40 (-1))) 84 j)) 85 j)) 86 (fun j => if j < n then nI 0 else (va_up (va_up (va_up I 65 (va_up (I 65) 39 (nI 2))) 65 (va_up ((va_up I 65 (va_up (I 65) 39 (nI 2))) 65) 40 (-1))) 84 (fun j => if j < n then (va_up (va_up I 65 (va_up (I 65) 39 (nI 2))) 65 (va_up ((va_up I 65 (va_up (I 65) 39 (nI 2))) 65) 40 (-1))) 66 j else (va_up (va_up I 65 (va_up (I 65) 39 (nI 2))) 65 (va_up ((va_up I 65 (va_up (I 65) 39 (nI 2))) 65) 40 (-1))) 84 j)) 86 j)) 90 (fun j => if j < n then nI 0 else (va_up (va_up (va_up (va_up (va_up I 65 (va_up (I 65) 39 (nI 2))) 65 (va_up ((va_up I 65 (va_up (I 65) 39 (nI 2))) 65) 40 (-1))) 84 (fun j => if j < n then (va_up (va_up I 65 (va_up (I 65) 39 (nI 2))) 65 (va_up ((va_up I 65 (va_up (I 65) 39 (nI 2))) 65) 40 (-1))) 66 j else (va_up (va_up I 65 (va_up (I 65) 39 (nI 2))) 65 (va_up ((va_up I 65 (va_up (I 65) 39 (nI 2))) 65) 40 (-1))) 84 j)) 85 (fun j => if j < n then -1 else (va_up (va_up (va_up I 65 (va_up (I 65) 39 (nI 2))) 65 (va_up ((va_up I 65 (va_up (I 65) 39 (nI 2))) 65) 40 (-1))) 84 (fun j => if j < n then (va_up (va_up I 65 (va_up (I 65) 39 (nI 2))) 65 (va_up ((va_up I 65 (va_up (I 65) 39 (nI 2))) 65) 40 (-1))) 66 j else (va_up (va_up I 65 (va_up (I 65) 39 (nI 2))) 65 (va_up ((va_up I 65 (va_up (I 65) 39 (nI 2))) 65) 40 (-1))) 84 j)) 85 j)) 86 (fun j => if j < n then nI 0 else (va_up (va_up (va_up I 65 (va_up (I 65) 39 (nI 2))) 65 (va_up ((va_up I 65 (va_up (I 65) 39 (nI 2))) 65) 40 (-1))) 84 (fun j => if j < n then (va_up (va_up I 65 (va_up (I 65) 39 (nI 2))) 65 (va_up ((va_up I 65 (va_up (I 65) 39 (nI 2))) 65) 40 (-1))) 66 j else (va_up (va_up I 65 (va_up (I 65) 39 (nI 2))) 65 (va_up ((va_up I 65 (va_up (I 65) 39 (nI 2))) 65) 40 (-1))) 84 j)) 86 j)) 90 j)) := ⟨_, rfl⟩
  refine px_mem h0.symm ?_
  obtain ⟨J0, hJ0⟩ : ∃ J0, J0 = (va_up J 65 (va_up (J 65) 41 0)) := ⟨_, rfl⟩
  refine px_memJ hJ0.symm ?_
  have f0 : Fr [65, 84, 85, 86, 90] I I0 := by
    rw [h0]
    exact Fr_up (Fr_up (Fr_up (Fr_up (Fr_up (Fr_up Fr_rf (by decide) _) (by decide) _) (by decide) _) (by decide) _) (by decide) _) (by decide) _
  have k0 : ∀ k, k ≠ 39 → k ≠ 40 → I0 65 k = I 65 k := fun k h1 h2 => by
    rw [h0]; simp only [va_up, Nat.reduceEqDiff, if_true, if_false, if_neg h1, if_neg h2]
  have g84 : ∀ l, l < n → I0 84 l = I0 66 l := fun l hl => by
    rw [h0]; simp only [va_up, Nat.reduceEqDiff, if_true, if_false, if_pos hl]
  have g85 : ∀ l, l < n → I0 85 l = n1 l := fun l hl => by
    rw [h0]; simp only [va_up, Nat.reduceEqDiff, if_true, if_false, if_pos hl, n1]
  have g86 : ∀ l, l < n → I0 86 l = nI 0 := fun l hl => by
    rw [h0]; simp only [va_up, Nat.reduceEqDiff, if_true, if_false, if_pos hl]
  have g90 : ∀ l, l < n → I0 90 l = nI 0 := fun l hl => by
    rw [h0]; simp only [va_up, Nat.reduceEqDiff, if_true, if_false, if_pos hl]
  have g39 : I0 65 39 = nI 2 := by rw [h0]; simp only [va_up, Nat.reduceEqDiff, if_true, if_false]
  have g40 : I0 65 40 = -1 := by rw [h0]; simp only [va_up, Nat.reduceEqDiff, if_true, if_false]
  have gJ : J0 65 41 = lN 0 := by rw [hJ0]; simp only [va_up, if_true]; exact l_0
  have gJc : ∀ c, c ≠ 65 → J0 c = J c := fun c hc => by rw [hJ0, p_up_n _ _ hc]
  have hn0 : I0 65 1 = nI n := (k0 1 (by decide) (by decide)).trans hn
  have hT0 : LawR tx I0 := LawR_mv hT (k0 29 (by decide) (by decide)) (fun c hc => f0 c (fun e => by simp only [List.mem_cons, List.not_mem_nil, or_false] at e hc; omega))
  have hL0 : LK n (I0 69) := by rw [f0 69 (by decide)]; exact hL
  have hJ : ∀ (M : Nat → Int32) (v : VS) (I1 : Nat → Nat → Int32) (J1 : Nat → Nat → Int64), WF I0 J0 I1 J1 → MT n M → v.2.2.1 < 2 ^ 31 → WR n 2 M v I1 J1 → Pv 6 0 0 CX12_visitWay [.ref 65] (gS, I1, J1, gR p, ro) (fun r S' => r = none ∧ ∃ I' J', S' = (gS, I', J', gR p, ro) ∧ WF I1 J1 I' J' ∧ WR n 2 M ((sp_vis 2 n (I0 69) (I0 67) z E (fun M => sp_nx tx n (I0 69) (I0 68) (I0 65 7) (I0 66) M (fun _ => nI 0))) M v) I' J') := fun M v I1 J1 hF hM hf hWR => vX12_visit2 hT0 hn0 hn8 hL0 g84 g86 (z := z) (E := E) hF hM hWR hf
  refine px_aload_n (kk := 0) rfl rfl rfl ?_
  refine px_iconst (v := nI 0) rfl k_0 ?_
  refine px_iload_n (kk := 2) rfl rfl rfl ?_
  refine px_callV0 CX12_goWays [] [.int _, .int _] (lX12_rec (I := I0) (J := J0) (aim := 2) (V := (sp_vis 2 n (I0 69) (I0 67) z E (fun M => sp_nx tx n (I0 69) (I0 68) (I0 65 7) (I0 66) M (fun _ => nI 0)))) hn0 hn8 hJ (fun M v => sp_vis_f M v) n 0 c n1 v0 I0 J0 (by omega) hc WF_rf MT_n1 (fun _ _ => rfl) (pow8 n hn8) ⟨g85, fun z => absurd z (fun z => z.elim (fun z => z rfl) (fun z => z rfl)), g90, gJ, g40, g39⟩) rfl gS_65 (by decide) rfl rfl rfl (Nat.le_of_ble_eq_true rfl) (by omega) ?_
  rintro _ _ - ⟨rfl, I3, J3, rfl, hF, hW⟩
  refine px_return rfl rfl ?_
  refine ⟨rfl, I3, J3, rfl, Fr_tr (Fr_mo f0 (by decide)) (Fr_mo hF.1 (by decide)), fun k hk => (hF.2.1 k (by omega)).trans (k0 k (by omega) (by omega)), fun c hc => (hF.2.2 c hc).trans (gJc c hc), ?_⟩
  have e : (sp_seek 2 n tx (I 69) (I 68) (I 67) (I 66) (I 65 7) z E c) = sp_go n (sp_vis 2 n (I0 69) (I0 67) z E (fun M => sp_nx tx n (I0 69) (I0 68) (I0 65 7) (I0 66) M (fun _ => nI 0))) n c n1 v0 := by
    rw [sp_seek, f0 69 (by decide), f0 68 (by decide), f0 67 (by decide), f0 66 (by decide), k0 7 (by decide) (by decide)]
  rw [e]
  exact hW
theorem vX12_find3 {I : Nat → Nat → Int32} {J : Nat → Nat → Int64} {p : Bool × Option Nat} {ro : List (Nat × Nat × (Nat → Int32))} {tx : List Ln} (hT : LawR tx I) {n : Nat} (hn : I 65 1 = nI n) (hn8 : n ≤ 8) (hL : LK n (I 69)) {s z : Nat} (hs : s < 6) (hz : I 99 s = nI z) (hz60 : z ≤ 60) (h44 : I 65 44 = nI s) {c : Nat} (hc : c ≤ 8) : Pv 16 0 0 CX12_findWays [.ref (65), .int (nI 3), .int (nI c)] (gS, I, J, gR p, ro) (fun r S' => r = none ∧ ∃ I' J', S' = (gS, I', J', gR p, ro) ∧ Fr crt I I' ∧ K65 I I' ∧ (∀ c, c ≠ 65 → J' c = J c) ∧ WR n 3 n1 (sp_seek 3 n tx (I 69) (I 68) (I 67) (I 66) (I 65 7) z (fun j => (J 100 (60 * s + j)).toInt32) c) I' J') := by
  refine ⟨okCX12_findWays, Nat.le_of_ble_eq_true rfl, (show Px _ _ _ _ 0 [some (.ref (65)), some (.int (nI 3)), some (.int (nI c)), none] [] _ _ from ?_)⟩
  refine px_aload_n (kk := 0) rfl rfl rfl ?_
  refine px_iload_n (kk := 1) rfl rfl rfl ?_
  refine px_putI rfl gS_65 rfl rfl ?_
  refine px_aload_n (kk := 0) rfl rfl rfl ?_
  refine px_iconst (v := -1) rfl k_m1 ?_
  refine px_putI rfl gS_65 rfl rfl ?_
  refine px_aload_n (kk := 0) rfl rfl rfl ?_
  refine px_lconst (v := 0) rfl (by decide) ?_
  refine px_putJ rfl gS_65 rfl rfl ?_
  refine px_aload_n (kk := 0) rfl rfl rfl ?_
  refine px_callV0 CX12_layWarm [] [] (vX12_layWarm (n := n) (by rw [p_up_s, p_up_n _ _ (by decide), p_up_s, p_up_n _ _ (by decide)]; exact hn) hn8) rfl gS_65 (by decide) rfl rfl rfl (Nat.le_of_ble_eq_true rfl) (by decide) ?_
  rintro _ _ - ⟨rfl, rfl⟩
  refine px_aload_n (kk := 0) rfl rfl rfl ?_
  refine px_callV0 CX12_layNobody [] [] (vX12_layNobody (n := n) (by rw [p_up_n _ _ (by decide), p_up_s, p_up_n _ _ (by decide), p_up_s, p_up_n _ _ (by decide)]; exact hn) hn8) rfl gS_65 (by decide) rfl rfl rfl (Nat.le_of_ble_eq_true rfl) (by decide) ?_
  rintro _ _ - ⟨rfl, rfl⟩
  refine px_iconst (v := nI 0) rfl k_0 ?_
  refine px_ist3 rfl rfl (by decide) ?_
  refine px_mem (fill_0f _ 90 (fun _ => nI 0)) (lX12_find (n := n) ?_ hn8 (k := 0) (by omega) ?_)
  · simp only [va_up, Nat.reduceEqDiff, if_true, if_false]; exact hn
  obtain ⟨I0, h0⟩ : ∃ I0, I0 = (va_up (va_up (va_up (va_up (va_up (va_up I 65 (va_up (I 65) 39 (nI 3))) 65 (va_up ((va_up I 65 (va_up (I 65) 39 (nI 3))) 65) 40 (-1))) 84 (fun j => if j < n then (va_up (va_up I 65 (va_up (I 65) 39 (nI 3))) 65 (va_up ((va_up I 65 (va_up (I 65) 39 (nI 3))) 65) 40 (-1))) 66 j else (va_up (va_up I 65 (va_up (I 65) 39 (nI 3))) 65 (va_up ((va_up I 65 (va_up (I 65) 39 (nI 3))) 65) 40 (-1))) 84 j)) 85 (fun j => if j < n then -1 else (va_up (va_up (va_up I 65 (va_up (I 65) 39 (nI 3))) 65 (va_up ((va_up I 65 (va_up (I 65) 39 (nI 3))) 65) 40 (-1))) 84 (fun j => if j < n then (va_up (va_up I 65 (va_up (I 65) 39 (nI 3))) 65 (va_up ((va_up I 65 (va_up (I 65) 39 (nI 3))) 65) 40 (-1))) 66 j else (va_up (va_up I 65 (va_up (I 65) 39 (nI 3))) 65 (va_up ((va_up I 65 (va_up (I 65) 39 (nI 3))) 65) 40 (-1))) 84 j)) 85 j)) 86 (fun j => if j < n then nI 0 else (va_up (va_up (va_up I 65 (va_up (I 65) 39 (nI 3))) 65 (va_up ((va_up I 65 (va_up (I 65) 39 (nI 3))) 65) 40 (-1))) 84 (fun j => if j < n then (va_up (va_up I 65 (va_up (I 65) 39 (nI 3))) 65 (va_up ((va_up I 65 (va_up (I 65) 39 (nI 3))) 65) 40 (-1))) 66 j else (va_up (va_up I 65 (va_up (I 65) 39 (nI 3))) 65 (va_up ((va_up I 65 (va_up (I 65) 39 (nI 3))) 65) 40 (-1))) 84 j)) 86 j)) 90 (fun j => if j < n then nI 0 else (va_up (va_up (va_up (va_up (va_up I 65 (va_up (I 65) 39 (nI 3))) 65 (va_up ((va_up I 65 (va_up (I 65) 39 (nI 3))) 65) 40 (-1))) 84 (fun j => if j < n then (va_up (va_up I 65 (va_up (I 65) 39 (nI 3))) 65 (va_up ((va_up I 65 (va_up (I 65) 39 (nI 3))) 65) 40 (-1))) 66 j else (va_up (va_up I 65 (va_up (I 65) 39 (nI 3))) 65 (va_up ((va_up I 65 (va_up (I 65) 39 (nI 3))) 65) 40 (-1))) 84 j)) 85 (fun j => if j < n then -1 else (va_up (va_up (va_up I 65 (va_up (I 65) 39 (nI 3))) 65 (va_up ((va_up I 65 (va_up (I 65) 39 (nI 3))) 65) 40 (-1))) 84 (fun j => if j < n then (va_up (va_up I 65 (va_up (I 65) 39 (nI 3))) 65 (va_up ((va_up I 65 (va_up (I 65) 39 (nI 3))) 65) 40 (-1))) 66 j else (va_up (va_up I 65 (va_up (I 65) 39 (nI 3))) 65 (va_up ((va_up I 65 (va_up (I 65) 39 (nI 3))) 65) 40 (-1))) 84 j)) 85 j)) 86 (fun j => if j < n then nI 0 else (va_up (va_up (va_up I 65 (va_up (I 65) 39 (nI 3))) 65 (va_up ((va_up I 65 (va_up (I 65) 39 (nI 3))) 65) 40 (-1))) 84 (fun j => if j < n then (va_up (va_up I 65 (va_up (I 65) 39 (nI 3))) 65 (va_up ((va_up I 65 (va_up (I 65) 39 (nI 3))) 65) 40 (-1))) 66 j else (va_up (va_up I 65 (va_up (I 65) 39 (nI 3))) 65 (va_up ((va_up I 65 (va_up (I 65) 39 (nI 3))) 65) 40 (-1))) 84 j)) 86 j)) 90 j)) := ⟨_, rfl⟩
  refine px_mem h0.symm ?_
  obtain ⟨J0, hJ0⟩ : ∃ J0, J0 = (va_up J 65 (va_up (J 65) 41 0)) := ⟨_, rfl⟩
  refine px_memJ hJ0.symm ?_
  have f0 : Fr [65, 84, 85, 86, 90] I I0 := by
    rw [h0]
    exact Fr_up (Fr_up (Fr_up (Fr_up (Fr_up (Fr_up Fr_rf (by decide) _) (by decide) _) (by decide) _) (by decide) _) (by decide) _) (by decide) _
  have k0 : ∀ k, k ≠ 39 → k ≠ 40 → I0 65 k = I 65 k := fun k h1 h2 => by
    rw [h0]; simp only [va_up, Nat.reduceEqDiff, if_true, if_false, if_neg h1, if_neg h2]
  have g84 : ∀ l, l < n → I0 84 l = I0 66 l := fun l hl => by
    rw [h0]; simp only [va_up, Nat.reduceEqDiff, if_true, if_false, if_pos hl]
  have g85 : ∀ l, l < n → I0 85 l = n1 l := fun l hl => by
    rw [h0]; simp only [va_up, Nat.reduceEqDiff, if_true, if_false, if_pos hl, n1]
  have g86 : ∀ l, l < n → I0 86 l = nI 0 := fun l hl => by
    rw [h0]; simp only [va_up, Nat.reduceEqDiff, if_true, if_false, if_pos hl]
  have g90 : ∀ l, l < n → I0 90 l = nI 0 := fun l hl => by
    rw [h0]; simp only [va_up, Nat.reduceEqDiff, if_true, if_false, if_pos hl]
  have g39 : I0 65 39 = nI 3 := by rw [h0]; simp only [va_up, Nat.reduceEqDiff, if_true, if_false]
  have g40 : I0 65 40 = -1 := by rw [h0]; simp only [va_up, Nat.reduceEqDiff, if_true, if_false]
  have gJ : J0 65 41 = lN 0 := by rw [hJ0]; simp only [va_up, if_true]; exact l_0
  have gJc : ∀ c, c ≠ 65 → J0 c = J c := fun c hc => by rw [hJ0, p_up_n _ _ hc]
  have hn0 : I0 65 1 = nI n := (k0 1 (by decide) (by decide)).trans hn
  have hT0 : LawR tx I0 := LawR_mv hT (k0 29 (by decide) (by decide)) (fun c hc => f0 c (fun e => by simp only [List.mem_cons, List.not_mem_nil, or_false] at e hc; omega))
  have hL0 : LK n (I0 69) := by rw [f0 69 (by decide)]; exact hL
  have hJ : ∀ (M : Nat → Int32) (v : VS) (I1 : Nat → Nat → Int32) (J1 : Nat → Nat → Int64), WF I0 J0 I1 J1 → MT n M → v.2.2.1 < 2 ^ 31 → WR n 3 M v I1 J1 → Pv 6 0 0 CX12_visitWay [.ref 65] (gS, I1, J1, gR p, ro) (fun r S' => r = none ∧ ∃ I' J', S' = (gS, I', J', gR p, ro) ∧ WF I1 J1 I' J' ∧ WR n 3 M ((sp_vis 3 n (I0 69) (I0 67) z (fun j => (J0 100 (60 * s + j)).toInt32) (fun M => sp_nx tx n (I0 69) (I0 68) (I0 65 7) (I0 66) M (fun _ => nI 0))) M v) I' J') := fun M v I1 J1 hF hM hf hWR => vX12_visit3 hT0 hn0 hn8 hL0 g84 g86 hs (z := z) (by rw [f0 99 (by decide)]; exact hz) hz60 ((k0 44 (by decide) (by decide)).trans h44) hF hM hWR hf
  refine px_aload_n (kk := 0) rfl rfl rfl ?_
  refine px_iconst (v := nI 0) rfl k_0 ?_
  refine px_iload_n (kk := 2) rfl rfl rfl ?_
  refine px_callV0 CX12_goWays [] [.int _, .int _] (lX12_rec (I := I0) (J := J0) (aim := 3) (V := (sp_vis 3 n (I0 69) (I0 67) z (fun j => (J0 100 (60 * s + j)).toInt32) (fun M => sp_nx tx n (I0 69) (I0 68) (I0 65 7) (I0 66) M (fun _ => nI 0)))) hn0 hn8 hJ (fun M v => sp_vis_f M v) n 0 c n1 v0 I0 J0 (by omega) hc WF_rf MT_n1 (fun _ _ => rfl) (pow8 n hn8) ⟨g85, fun z => absurd z (fun z => z.elim (fun z => z rfl) (fun z => z rfl)), g90, gJ, g40, g39⟩) rfl gS_65 (by decide) rfl rfl rfl (Nat.le_of_ble_eq_true rfl) (by omega) ?_
  rintro _ _ - ⟨rfl, I3, J3, rfl, hF, hW⟩
  refine px_return rfl rfl ?_
  refine ⟨rfl, I3, J3, rfl, Fr_tr (Fr_mo f0 (by decide)) (Fr_mo hF.1 (by decide)), fun k hk => (hF.2.1 k (by omega)).trans (k0 k (by omega) (by omega)), fun c hc => (hF.2.2 c hc).trans (gJc c hc), ?_⟩
  have e : (sp_seek 3 n tx (I 69) (I 68) (I 67) (I 66) (I 65 7) z (fun j => (J 100 (60 * s + j)).toInt32) c) = sp_go n (sp_vis 3 n (I0 69) (I0 67) z (fun j => (J0 100 (60 * s + j)).toInt32) (fun M => sp_nx tx n (I0 69) (I0 68) (I0 65 7) (I0 66) M (fun _ => nI 0))) n c n1 v0 := by
    rw [sp_seek, f0 69 (by decide), f0 68 (by decide), f0 67 (by decide), f0 66 (by decide), k0 7 (by decide) (by decide), gJc 100 (by decide)]
  rw [e]
  exact hW
theorem m1_of {y : Int32} (h1 : -1 ≤ y) (h2 : y < 0) : y = -1 := by
  refine Int32.toInt_inj.mp ?_
  rw [i_le, t_m1] at h1
  rw [i_lt, i_0] at h2
  rw [t_m1]; omega
theorem m1_ne {y : Int32} (h2 : ¬ y < 0) : ¬ y = -1 := fun e => h2 (by rw [e]; decide)
theorem lt_ge {x y : Int32} (h : x ≤ y) : ¬ y < x := fun e => by rw [i_lt] at e; rw [i_le] at h; omega
theorem ge_lt {x y : Int32} (h : ¬ x ≤ y) : y < x := by rw [i_lt]; rw [i_le] at h; omega
theorem vX12_best {I : Nat → Nat → Int32} {J : Nat → Nat → Int64} {p : Bool × Option Nat} {ro : List (Nat × Nat × (Nat → Int32))} {tx : List Ln} (hT : LawR tx I) {n : Nat} (hn : I 65 1 = nI n) (hn8 : n ≤ 8) (hL : LK n (I 69)) {cd : Nat} (hcd : I 65 6 = nI cd) (hcd4 : cd ≤ 4) {w y : Int32} : Pv 17 0 0 CX12_best [.ref (65), .int (w), .int (y)] (gS, I, J, gR p, ro) (PRJ (ASK (-1) ((w = nI 0 ∨ w = nI 1) ∧ ¬ y < -1) (if y = -1 then (if w = nI 0 then (sp_seek 0 n tx (I 69) (I 68) (I 67) (I 66) (I 65 7) 0 (fun _ => nI 0) (mN (I 65 6))) else (sp_seek 1 n tx (I 69) (I 68) (I 67) (I 66) (I 65 7) 0 (fun _ => nI 0) (mN (I 65 6)))).2.2.2 else sp_pair (if w = nI 0 then (sp_seek 0 n tx (I 69) (I 68) (I 67) (I 66) (I 65 7) 0 (fun _ => nI 0) (mN (I 65 6))) else (sp_seek 1 n tx (I 69) (I 68) (I 67) (I 66) (I 65 7) 0 (fun _ => nI 0) (mN (I 65 6)))).1 y n 0 0)) I J p ro) := by
  refine ⟨okCX12_best, Nat.le_of_ble_eq_true rfl, (show Px _ _ _ _ 0 [some (.ref (65)), some (.int (w)), some (.int (y))] [] _ _ from ?_)⟩
  refine px_iload_n (kk := 1) rfl rfl rfl ?_
  refine px_iconst (v := nI 0) rfl k_0 ?_
  refine px_iconst (v := nI 1) rfl k_1 ?_
  refine px_callS0 CX12_in [] [.int _, .int _, .int _] (vX12_in) rfl rfl rfl (Nat.le_of_ble_eq_true rfl) (by decide) ?_
  rintro _ _ - (⟨h01, rfl, rfl⟩ | ⟨h01, rfl, rfl⟩)
  · have hei : w = nI 0 ∨ w = nI 1 := by
      obtain ⟨e, _, he, rfl⟩ := (in_nn (by decide) (by decide)).mp h01
      rcases (by omega : e = 0 ∨ e = 1) with rfl | rfl
      · exact .inl rfl
      · exact .inr rfl
    refine px_if_eq rfl (fun h => absurd h (by decide)) (fun _ => ?_)
    refine px_iload_n (kk := 2) rfl rfl rfl ?_
    refine px_iconst (v := -1) rfl k_m1 ?_
    refine px_icmp_ge rfl (fun c7 => ?_) (fun c7 => ?_)
    · rcases hei with rfl | rfl
      · have hei : nI 0 = nI 0 ∨ nI 0 = nI 1 := .inl rfl
        refine px_aload_n (kk := 0) rfl rfl rfl ?_
        refine px_iload_n (kk := 1) rfl rfl rfl ?_
        refine px_aload_n (kk := 0) rfl rfl rfl ?_
        refine px_getIe (v := nI cd) rfl gS_65 rfl hcd ?_
        refine px_callV0 CX12_findWays [] [.int _, .int _] (vX12_find0 hT hn hn8 hL (z := 0) (E := fun _ => nI 0) (c := cd) (by omega)) rfl gS_65 (by decide) rfl rfl rfl (Nat.le_of_ble_eq_true rfl) (by decide) ?_
        rintro _ _ - ⟨rfl, I2, J2, rfl, hF2, hK2, hJ2, hW⟩
        obtain ⟨v, hv⟩ : ∃ v, v = (sp_seek 0 n tx (I 69) (I 68) (I 67) (I 66) (I 65 7) 0 (fun _ => nI 0) cd) := ⟨_, rfl⟩
        rw [← hv] at hW
        have hf31 : v.2.2.1 < 2 ^ 31 := by rw [hv]; exact sp_seek_f hn8
        have hn2 : I2 65 1 = nI n := (hK2 1 (by decide)).trans hn
        refine px_iload_n (kk := 2) rfl rfl rfl ?_
        refine px_if_ge rfl (fun c16 => ?_) (fun c16 => ?_)
        · refine px_aload_n (kk := 0) rfl rfl rfl ?_
          refine px_iload_n (kk := 2) rfl rfl rfl ?_
          refine px_callV0 CX12_pairAt [] [.int _] (vX12_pair hn2 hn8) rfl gS_65 (by decide) rfl rfl rfl (Nat.le_of_ble_eq_true rfl) (by decide) ?_
          rintro _ _ - ⟨rfl, rfl⟩
          refine px_ireturn rfl (.inl rfl) ?_
          exact ⟨_, rfl, .inr ⟨⟨hei, lt_ge c7⟩, by rw [hcd, mN_n (by omega), if_neg (m1_ne (lt_ge c16)), if_pos rfl, ← hv]; exact sp_pair_congr (hW.2.1 (by rw [hv]; exact seek_set hn8 (by decide))) n 0 0 (by omega)⟩, I2, J2, rfl, hF2, hK2, hJ2⟩
        · refine px_aload_n (kk := 0) rfl rfl rfl ?_
          refine px_getI rfl gS_65 rfl ?_
          refine px_goto rfl ?_
          refine px_ireturn rfl (.inl rfl) ?_
          exact ⟨_, rfl, .inr ⟨⟨hei, lt_ge c7⟩, by rw [hcd, mN_n (by omega), if_pos (m1_of c7 (ge_lt c16)), if_pos rfl, ← hv]; exact hW.2.2.2.2.1⟩, I2, J2, rfl, hF2, hK2, hJ2⟩
      · have hei : nI 1 = nI 0 ∨ nI 1 = nI 1 := .inr rfl
        refine px_aload_n (kk := 0) rfl rfl rfl ?_
        refine px_iload_n (kk := 1) rfl rfl rfl ?_
        refine px_aload_n (kk := 0) rfl rfl rfl ?_
        refine px_getIe (v := nI cd) rfl gS_65 rfl hcd ?_
        refine px_callV0 CX12_findWays [] [.int _, .int _] (vX12_find1 hT hn hn8 hL (z := 0) (E := fun _ => nI 0) (c := cd) (by omega)) rfl gS_65 (by decide) rfl rfl rfl (Nat.le_of_ble_eq_true rfl) (by decide) ?_
        rintro _ _ - ⟨rfl, I2, J2, rfl, hF2, hK2, hJ2, hW⟩
        obtain ⟨v, hv⟩ : ∃ v, v = (sp_seek 1 n tx (I 69) (I 68) (I 67) (I 66) (I 65 7) 0 (fun _ => nI 0) cd) := ⟨_, rfl⟩
        rw [← hv] at hW
        have hf31 : v.2.2.1 < 2 ^ 31 := by rw [hv]; exact sp_seek_f hn8
        have hn2 : I2 65 1 = nI n := (hK2 1 (by decide)).trans hn
        refine px_iload_n (kk := 2) rfl rfl rfl ?_
        refine px_if_ge rfl (fun c16 => ?_) (fun c16 => ?_)
        · refine px_aload_n (kk := 0) rfl rfl rfl ?_
          refine px_iload_n (kk := 2) rfl rfl rfl ?_
          refine px_callV0 CX12_pairAt [] [.int _] (vX12_pair hn2 hn8) rfl gS_65 (by decide) rfl rfl rfl (Nat.le_of_ble_eq_true rfl) (by decide) ?_
          rintro _ _ - ⟨rfl, rfl⟩
          refine px_ireturn rfl (.inl rfl) ?_
          exact ⟨_, rfl, .inr ⟨⟨hei, lt_ge c7⟩, by rw [hcd, mN_n (by omega), if_neg (m1_ne (lt_ge c16)), if_neg (fun e => absurd e (by decide +kernel)), ← hv]; exact sp_pair_congr (hW.2.1 (by rw [hv]; exact seek_set hn8 (by decide))) n 0 0 (by omega)⟩, I2, J2, rfl, hF2, hK2, hJ2⟩
        · refine px_aload_n (kk := 0) rfl rfl rfl ?_
          refine px_getI rfl gS_65 rfl ?_
          refine px_goto rfl ?_
          refine px_ireturn rfl (.inl rfl) ?_
          exact ⟨_, rfl, .inr ⟨⟨hei, lt_ge c7⟩, by rw [hcd, mN_n (by omega), if_pos (m1_of c7 (ge_lt c16)), if_neg (fun e => absurd e (by decide +kernel)), ← hv]; exact hW.2.2.2.2.1⟩, I2, J2, rfl, hF2, hK2, hJ2⟩
    · refine px_iconst (v := -1) rfl k_m1 ?_
      refine px_ireturn rfl (.inl rfl) ?_
      exact PRJ_id (.inl ⟨fun h => h.2 (ge_lt c7), rfl⟩)
  · have hei : ¬ (w = nI 0 ∨ w = nI 1) := fun h => h01 ((in_nn (by decide) (by decide)).mpr (h.elim (fun e => ⟨0, by decide, by decide, e⟩) (fun e => ⟨1, by decide, by decide, e⟩)))
    refine px_if_eq rfl (fun _ => ?_) (fun h => absurd h (by decide))
    refine px_iconst (v := -1) rfl k_m1 ?_
    refine px_ireturn rfl (.inl rfl) ?_
    exact PRJ_id (.inl ⟨fun h => hei h.1, rfl⟩)
theorem vX12_stable {I : Nat → Nat → Int32} {J : Nat → Nat → Int64} {p : Bool × Option Nat} {ro : List (Nat × Nat × (Nat → Int32))} {tx : List Ln} (hT : LawR tx I) {n : Nat} (hn : I 65 1 = nI n) (hn8 : n ≤ 8) (hL : LK n (I 69)) {y : Int32} : Pv 17 0 0 CX12_stable [.ref (65), .int (y)] (gS, I, J, gR p, ro) (PRJ (ASK (-1) (¬ y < -1) (if y = -1 then nI (sp_seek 2 n tx (I 69) (I 68) (I 67) (I 66) (I 65 7) 0 (fun _ => nI 0) 8).2.2.1 else sp_pair (sp_seek 2 n tx (I 69) (I 68) (I 67) (I 66) (I 65 7) 0 (fun _ => nI 0) 8).1 y n 0 0)) I J p ro) := by
  refine ⟨okCX12_stable, Nat.le_of_ble_eq_true rfl, (show Px _ _ _ _ 0 [some (.ref (65)), some (.int (y))] [] _ _ from ?_)⟩
  refine px_iload_n (kk := 1) rfl rfl rfl ?_
  refine px_iconst (v := -1) rfl k_m1 ?_
  refine px_icmp_ge rfl (fun c2 => ?_) (fun c2 => ?_)
  · refine px_aload_n (kk := 0) rfl rfl rfl ?_
    refine px_iconst (v := nI 2) rfl k_2 ?_
    refine px_bipush (v := nI 8) rfl b_8 ?_
    refine px_callV0 CX12_findWays [] [.int _, .int _] (vX12_find2 hT hn hn8 hL (z := 0) (E := fun _ => nI 0) (c := 8) (by omega)) rfl gS_65 (by decide) rfl rfl rfl (Nat.le_of_ble_eq_true rfl) (by decide) ?_
    rintro _ _ - ⟨rfl, I2, J2, rfl, hF2, hK2, hJ2, hW⟩
    obtain ⟨v, hv⟩ : ∃ v, v = (sp_seek 2 n tx (I 69) (I 68) (I 67) (I 66) (I 65 7) 0 (fun _ => nI 0) 8) := ⟨_, rfl⟩
    rw [← hv] at hW
    have hf31 : v.2.2.1 < 2 ^ 31 := by rw [hv]; exact sp_seek_f hn8
    have hn2 : I2 65 1 = nI n := (hK2 1 (by decide)).trans hn
    refine px_iload_n (kk := 1) rfl rfl rfl ?_
    refine px_if_ge rfl (fun c10 => ?_) (fun c10 => ?_)
    · refine px_aload_n (kk := 0) rfl rfl rfl ?_
      refine px_getJ rfl gS_65 rfl ?_
      refine px_lconst (v := 0) rfl (by decide) ?_
      refine px_lcmp rfl ?_
      refine px_if_ne rfl (fun c19 => ?_) (fun c19 => ?_)
      · refine px_aload_n (kk := 0) rfl rfl rfl ?_
        refine px_iload_n (kk := 1) rfl rfl rfl ?_
        refine px_callV0 CX12_pairAt [] [.int _] (vX12_pair hn2 hn8) rfl gS_65 (by decide) rfl rfl rfl (Nat.le_of_ble_eq_true rfl) (by decide) ?_
        rintro _ _ - ⟨rfl, rfl⟩
        refine px_ireturn rfl (.inl rfl) ?_
        exact ⟨_, rfl, .inr ⟨lt_ge c2, by skip; rw [if_neg (m1_ne (lt_ge c10)), ← hv]; exact sp_pair_congr (hW.2.1 (.inl (fun e => c19 (by rw [lg_cmp_eq, hW.2.2.2.1, e, l_0])))) n 0 0 (by omega)⟩, I2, J2, rfl, hF2, hK2, hJ2⟩
      · refine px_bipush (v := -2) rfl b_m2 ?_
        refine px_goto rfl ?_
        refine px_ireturn rfl (.inl rfl) ?_
        exact ⟨_, rfl, .inr ⟨lt_ge c2, by skip; rw [if_neg (m1_ne (lt_ge c10)), ← hv]; have h0 : v.2.2.1 = 0 := (by rw [lg_cmp_eq, hW.2.2.2.1, l_0, pk_lEQ (by omega) (by omega)] at c19; exact c19); rw [hv] at h0; rw [hv, seek_n1 (by decide) h0]; exact (pair_n1 _ n 0 0 (by omega)).symm⟩, I2, J2, rfl, hF2, hK2, hJ2⟩
    · refine px_aload_n (kk := 0) rfl rfl rfl ?_
      refine px_getJ rfl gS_65 rfl ?_
      refine px_l2i rfl ?_
      refine px_goto rfl ?_
      refine px_ireturn rfl (.inl rfl) ?_
      exact ⟨_, rfl, .inr ⟨lt_ge c2, by skip; rw [if_pos (m1_of c2 (ge_lt c10)), ← hv, hW.2.2.2.1]; exact j_back hf31⟩, I2, J2, rfl, hF2, hK2, hJ2⟩
  · refine px_iconst (v := -1) rfl k_m1 ?_
    refine px_ireturn rfl (.inl rfl) ?_
    exact PRJ_id (.inl ⟨fun h => h (ge_lt c2), rfl⟩)
theorem vX12_which {I : Nat → Nat → Int32} {J : Nat → Nat → Int64} {p : Bool × Option Nat} {ro : List (Nat × Nat × (Nat → Int32))} {tx : List Ln} (hT : LawR tx I) {n : Nat} (hn : I 65 1 = nI n) (hn8 : n ≤ 8) (hL : LK n (I 69)) {cd : Nat} (hcd : I 65 6 = nI cd) (hcd4 : cd ≤ 4) (hSZ : ∀ s, s < 6 → ∃ z, z ≤ 60 ∧ I 99 s = nI z) {x y : Int32} : Pv 17 0 0 CX12_which [.ref (65), .int (x), .int (y)] (gS, I, J, gR p, ro) (PRJ (DAY (¬ y < -1) x (fun s => I 98 s = -1) (fun s => I 98 s = -2) (fun s => if y = -1 then nI (sp_seek 3 n tx (I 69) (I 68) (I 67) (I 66) (I 65 7) (mN (I 99 s)) (fun j => (J 100 (60 * s + j)).toInt32) (mN (I 65 6))).2.2.1 else sp_pair (sp_seek 3 n tx (I 69) (I 68) (I 67) (I 66) (I 65 7) (mN (I 99 s)) (fun j => (J 100 (60 * s + j)).toInt32) (mN (I 65 6))).1 y n 0 0)) I J p ro) := by
  refine ⟨okCX12_which, Nat.le_of_ble_eq_true rfl, (show Px _ _ _ _ 0 [some (.ref (65)), some (.int (x)), some (.int (y))] [] _ _ from ?_)⟩
  refine px_iload_n (kk := 1) rfl rfl rfl ?_
  refine px_callS0 CX12_isShelf [] [.int _] (vX12_isShelf) rfl rfl rfl (Nat.le_of_ble_eq_true rfl) (by decide) ?_
  rintro _ _ - (⟨⟨s, hs, rfl⟩, rfl, rfl⟩ | ⟨hs, rfl, rfl⟩)
  · refine px_if_eq rfl (fun h => absurd h (by decide)) (fun _ => ?_)
    refine px_iload_n (kk := 2) rfl rfl rfl ?_
    refine px_iconst (v := -1) rfl k_m1 ?_
    refine px_icmp_ge rfl (fun c5 => ?_) (fun c5 => ?_)
    · refine px_aload_n (kk := 0) rfl rfl rfl ?_
      refine px_iload_n (kk := 1) rfl rfl rfl ?_
      refine px_callV0 CX12_rowFault [] [.int _] (vX12_rowFault hs) rfl gS_65 (by decide) rfl rfl rfl (Nat.le_of_ble_eq_true rfl) (by decide) ?_
      rintro _ _ - ⟨rfl, (⟨h98, rfl⟩ | ⟨h98, h2, rfl⟩ | ⟨h98, h2, rfl⟩)⟩
      · refine px_if_ge rfl (fun h => absurd h (by decide)) (fun _ => ?_)
        refine px_aload_n (kk := 0) rfl rfl rfl ?_
        refine px_iload_n (kk := 1) rfl rfl rfl ?_
        refine px_callV0 CX12_rowFault [] [.int _] (vX12_rowFault hs) rfl gS_65 (by decide) rfl rfl rfl (Nat.le_of_ble_eq_true rfl) (by decide) ?_
        rintro _ _ - ⟨rfl, (⟨g98, rfl⟩ | ⟨g98, g2, rfl⟩ | ⟨g98, g2, rfl⟩)⟩
        · refine px_ireturn rfl (.inl rfl) ?_
          first | exact PRJ_id (.inr ⟨s, hs, rfl, (lt_ge c5), .inl ⟨h98, rfl⟩⟩) | exact PRJ_id (.inr ⟨s, hs, rfl, (lt_ge c5), .inr (.inr ⟨h98, h2, rfl⟩)⟩) | exact absurd h98 g98 | exact absurd g98 h98 | exact absurd g2 h2 | exact absurd h2 g2 | exact ⟨_, rfl, .inr ⟨s, hs, rfl, lt_ge c5, .inr (.inl ⟨h98, h2, by dsimp only; rw [hz, hcd, mN_n (by omega), mN_n (by omega)]; rw [if_neg (m1_ne (lt_ge c25)), ← hv]; exact sp_pair_congr (hW.2.1 (.inl (fun e => c34 (by rw [lg_cmp_eq, hW.2.2.2.1, e, l_0])))) n 0 0 (by omega)⟩)⟩, I2, J2, rfl, hF2, hK2, hJ2⟩ | exact ⟨_, rfl, .inr ⟨s, hs, rfl, lt_ge c5, .inr (.inl ⟨h98, h2, by dsimp only; rw [hz, hcd, mN_n (by omega), mN_n (by omega)]; rw [if_neg (m1_ne (lt_ge c25)), ← hv]; have h0 : v.2.2.1 = 0 := (by rw [lg_cmp_eq, hW.2.2.2.1, l_0, pk_lEQ (by omega) (by omega)] at c34; exact c34); rw [hv] at h0; rw [hv, seek_n1 (by decide) h0]; exact (pair_n1 _ n 0 0 (by omega)).symm⟩)⟩, I2, J2, rfl, hF2, hK2, hJ2⟩ | exact ⟨_, rfl, .inr ⟨s, hs, rfl, lt_ge c5, .inr (.inl ⟨h98, h2, by dsimp only; rw [hz, hcd, mN_n (by omega), mN_n (by omega)]; rw [if_pos (m1_of c5 (ge_lt c25)), ← hv, hW.2.2.2.1]; exact j_back hf31⟩)⟩, I2, J2, rfl, hF2, hK2, hJ2⟩ | exact PRJ_id (.inl ⟨fun h => h.1 (ge_lt c5), rfl⟩) | exact PRJ_id (.inl ⟨fun h => hs h.2, rfl⟩)
        · refine px_ireturn rfl (.inl rfl) ?_
          first | exact PRJ_id (.inr ⟨s, hs, rfl, (lt_ge c5), .inl ⟨h98, rfl⟩⟩) | exact PRJ_id (.inr ⟨s, hs, rfl, (lt_ge c5), .inr (.inr ⟨h98, h2, rfl⟩)⟩) | exact absurd h98 g98 | exact absurd g98 h98 | exact absurd g2 h2 | exact absurd h2 g2 | exact ⟨_, rfl, .inr ⟨s, hs, rfl, lt_ge c5, .inr (.inl ⟨h98, h2, by dsimp only; rw [hz, hcd, mN_n (by omega), mN_n (by omega)]; rw [if_neg (m1_ne (lt_ge c25)), ← hv]; exact sp_pair_congr (hW.2.1 (.inl (fun e => c34 (by rw [lg_cmp_eq, hW.2.2.2.1, e, l_0])))) n 0 0 (by omega)⟩)⟩, I2, J2, rfl, hF2, hK2, hJ2⟩ | exact ⟨_, rfl, .inr ⟨s, hs, rfl, lt_ge c5, .inr (.inl ⟨h98, h2, by dsimp only; rw [hz, hcd, mN_n (by omega), mN_n (by omega)]; rw [if_neg (m1_ne (lt_ge c25)), ← hv]; have h0 : v.2.2.1 = 0 := (by rw [lg_cmp_eq, hW.2.2.2.1, l_0, pk_lEQ (by omega) (by omega)] at c34; exact c34); rw [hv] at h0; rw [hv, seek_n1 (by decide) h0]; exact (pair_n1 _ n 0 0 (by omega)).symm⟩)⟩, I2, J2, rfl, hF2, hK2, hJ2⟩ | exact ⟨_, rfl, .inr ⟨s, hs, rfl, lt_ge c5, .inr (.inl ⟨h98, h2, by dsimp only; rw [hz, hcd, mN_n (by omega), mN_n (by omega)]; rw [if_pos (m1_of c5 (ge_lt c25)), ← hv, hW.2.2.2.1]; exact j_back hf31⟩)⟩, I2, J2, rfl, hF2, hK2, hJ2⟩ | exact PRJ_id (.inl ⟨fun h => h.1 (ge_lt c5), rfl⟩) | exact PRJ_id (.inl ⟨fun h => hs h.2, rfl⟩)
        · refine px_ireturn rfl (.inl rfl) ?_
          first | exact PRJ_id (.inr ⟨s, hs, rfl, (lt_ge c5), .inl ⟨h98, rfl⟩⟩) | exact PRJ_id (.inr ⟨s, hs, rfl, (lt_ge c5), .inr (.inr ⟨h98, h2, rfl⟩)⟩) | exact absurd h98 g98 | exact absurd g98 h98 | exact absurd g2 h2 | exact absurd h2 g2 | exact ⟨_, rfl, .inr ⟨s, hs, rfl, lt_ge c5, .inr (.inl ⟨h98, h2, by dsimp only; rw [hz, hcd, mN_n (by omega), mN_n (by omega)]; rw [if_neg (m1_ne (lt_ge c25)), ← hv]; exact sp_pair_congr (hW.2.1 (.inl (fun e => c34 (by rw [lg_cmp_eq, hW.2.2.2.1, e, l_0])))) n 0 0 (by omega)⟩)⟩, I2, J2, rfl, hF2, hK2, hJ2⟩ | exact ⟨_, rfl, .inr ⟨s, hs, rfl, lt_ge c5, .inr (.inl ⟨h98, h2, by dsimp only; rw [hz, hcd, mN_n (by omega), mN_n (by omega)]; rw [if_neg (m1_ne (lt_ge c25)), ← hv]; have h0 : v.2.2.1 = 0 := (by rw [lg_cmp_eq, hW.2.2.2.1, l_0, pk_lEQ (by omega) (by omega)] at c34; exact c34); rw [hv] at h0; rw [hv, seek_n1 (by decide) h0]; exact (pair_n1 _ n 0 0 (by omega)).symm⟩)⟩, I2, J2, rfl, hF2, hK2, hJ2⟩ | exact ⟨_, rfl, .inr ⟨s, hs, rfl, lt_ge c5, .inr (.inl ⟨h98, h2, by dsimp only; rw [hz, hcd, mN_n (by omega), mN_n (by omega)]; rw [if_pos (m1_of c5 (ge_lt c25)), ← hv, hW.2.2.2.1]; exact j_back hf31⟩)⟩, I2, J2, rfl, hF2, hK2, hJ2⟩ | exact PRJ_id (.inl ⟨fun h => h.1 (ge_lt c5), rfl⟩) | exact PRJ_id (.inl ⟨fun h => hs h.2, rfl⟩)
      · obtain ⟨z, hz60, hz⟩ := hSZ s hs
        refine px_if_ge rfl (fun _ => ?_) (fun h => absurd h (by decide))
        refine px_aload_n (kk := 0) rfl rfl rfl ?_
        refine px_iload_n (kk := 1) rfl rfl rfl ?_
        refine px_putI rfl gS_65 rfl rfl ?_
        refine px_aload_n (kk := 0) rfl rfl rfl ?_
        refine px_iconst (v := nI 3) rfl k_3 ?_
        refine px_aload_n (kk := 0) rfl rfl rfl ?_
        refine px_getIe (v := nI cd) rfl gS_65 rfl (by rw [p_up_s, p_up_n _ _ (by decide)]; exact hcd) ?_
        refine px_callV0 CX12_findWays [] [.int _, .int _] (vX12_find3 (I := (va_up I 65 (va_up (I 65) 44 (nI s)))) (tx := tx) (n := n) (LawR_mv hT (by rw [p_up_s, p_up_n _ _ (by decide)]) (fun c hc => p_up_n _ _ (fun e => by subst e; revert hc; decide))) (by rw [p_up_s, p_up_n _ _ (by decide)]; exact hn) hn8 (by rw [p_up_n _ _ (by decide)]; exact hL) hs (z := z) (by rw [p_up_n _ _ (by decide)]; exact hz) hz60 (by rw [p_up_s, p_up_s]) (c := cd) (by omega)) rfl gS_65 (by decide) rfl rfl rfl (Nat.le_of_ble_eq_true rfl) (by decide) ?_
        rintro _ _ - ⟨rfl, I2, J2, rfl, hF2, hK2, hJ2, hW⟩
        obtain ⟨v, hv⟩ : ∃ v, v = (sp_seek 3 n tx (I 69) (I 68) (I 67) (I 66) (I 65 7) z (fun j => (J 100 (60 * s + j)).toInt32) cd) := ⟨_, rfl⟩
        rw [p_up_n _ _ (show (69 : Nat) ≠ 65 by decide), p_up_n _ _ (show (68 : Nat) ≠ 65 by decide), p_up_n _ _ (show (67 : Nat) ≠ 65 by decide), p_up_n _ _ (show (66 : Nat) ≠ 65 by decide), p_up_s, p_up_n _ _ (show (7 : Nat) ≠ 44 by decide), ← hv] at hW
        replace hF2 : Fr crt I I2 := Fr_tr (Fr_up Fr_rf (by decide) _) hF2
        replace hK2 : K65 I I2 := fun k hk => (hK2 k hk).trans (by rw [p_up_s, p_up_n _ _ (by omega)])
        have hf31 : v.2.2.1 < 2 ^ 31 := by rw [hv]; exact sp_seek_f hn8
        have hn2 : I2 65 1 = nI n := (hK2 1 (by decide)).trans hn
        refine px_iload_n (kk := 2) rfl rfl rfl ?_
        refine px_if_ge rfl (fun c25 => ?_) (fun c25 => ?_)
        · refine px_aload_n (kk := 0) rfl rfl rfl ?_
          refine px_getJ rfl gS_65 rfl ?_
          refine px_lconst (v := 0) rfl (by decide) ?_
          refine px_lcmp rfl ?_
          refine px_if_ne rfl (fun c34 => ?_) (fun c34 => ?_)
          · refine px_aload_n (kk := 0) rfl rfl rfl ?_
            refine px_iload_n (kk := 2) rfl rfl rfl ?_
            refine px_callV0 CX12_pairAt [] [.int _] (vX12_pair hn2 hn8) rfl gS_65 (by decide) rfl rfl rfl (Nat.le_of_ble_eq_true rfl) (by decide) ?_
            rintro _ _ - ⟨rfl, rfl⟩
            refine px_ireturn rfl (.inl rfl) ?_
            first | exact PRJ_id (.inr ⟨s, hs, rfl, (lt_ge c5), .inl ⟨h98, rfl⟩⟩) | exact PRJ_id (.inr ⟨s, hs, rfl, (lt_ge c5), .inr (.inr ⟨h98, h2, rfl⟩)⟩) | exact absurd h98 g98 | exact absurd g98 h98 | exact absurd g2 h2 | exact absurd h2 g2 | exact ⟨_, rfl, .inr ⟨s, hs, rfl, lt_ge c5, .inr (.inl ⟨h98, h2, by dsimp only; rw [hz, hcd, mN_n (by omega), mN_n (by omega)]; rw [if_neg (m1_ne (lt_ge c25)), ← hv]; exact sp_pair_congr (hW.2.1 (.inl (fun e => c34 (by rw [lg_cmp_eq, hW.2.2.2.1, e, l_0])))) n 0 0 (by omega)⟩)⟩, I2, J2, rfl, hF2, hK2, hJ2⟩ | exact ⟨_, rfl, .inr ⟨s, hs, rfl, lt_ge c5, .inr (.inl ⟨h98, h2, by dsimp only; rw [hz, hcd, mN_n (by omega), mN_n (by omega)]; rw [if_neg (m1_ne (lt_ge c25)), ← hv]; have h0 : v.2.2.1 = 0 := (by rw [lg_cmp_eq, hW.2.2.2.1, l_0, pk_lEQ (by omega) (by omega)] at c34; exact c34); rw [hv] at h0; rw [hv, seek_n1 (by decide) h0]; exact (pair_n1 _ n 0 0 (by omega)).symm⟩)⟩, I2, J2, rfl, hF2, hK2, hJ2⟩ | exact ⟨_, rfl, .inr ⟨s, hs, rfl, lt_ge c5, .inr (.inl ⟨h98, h2, by dsimp only; rw [hz, hcd, mN_n (by omega), mN_n (by omega)]; rw [if_pos (m1_of c5 (ge_lt c25)), ← hv, hW.2.2.2.1]; exact j_back hf31⟩)⟩, I2, J2, rfl, hF2, hK2, hJ2⟩ | exact PRJ_id (.inl ⟨fun h => h.1 (ge_lt c5), rfl⟩) | exact PRJ_id (.inl ⟨fun h => hs h.2, rfl⟩)
          · refine px_bipush (v := -2) rfl b_m2 ?_
            refine px_goto rfl ?_
            refine px_ireturn rfl (.inl rfl) ?_
            first | exact PRJ_id (.inr ⟨s, hs, rfl, (lt_ge c5), .inl ⟨h98, rfl⟩⟩) | exact PRJ_id (.inr ⟨s, hs, rfl, (lt_ge c5), .inr (.inr ⟨h98, h2, rfl⟩)⟩) | exact absurd h98 g98 | exact absurd g98 h98 | exact absurd g2 h2 | exact absurd h2 g2 | exact ⟨_, rfl, .inr ⟨s, hs, rfl, lt_ge c5, .inr (.inl ⟨h98, h2, by dsimp only; rw [hz, hcd, mN_n (by omega), mN_n (by omega)]; rw [if_neg (m1_ne (lt_ge c25)), ← hv]; exact sp_pair_congr (hW.2.1 (.inl (fun e => c34 (by rw [lg_cmp_eq, hW.2.2.2.1, e, l_0])))) n 0 0 (by omega)⟩)⟩, I2, J2, rfl, hF2, hK2, hJ2⟩ | exact ⟨_, rfl, .inr ⟨s, hs, rfl, lt_ge c5, .inr (.inl ⟨h98, h2, by dsimp only; rw [hz, hcd, mN_n (by omega), mN_n (by omega)]; rw [if_neg (m1_ne (lt_ge c25)), ← hv]; have h0 : v.2.2.1 = 0 := (by rw [lg_cmp_eq, hW.2.2.2.1, l_0, pk_lEQ (by omega) (by omega)] at c34; exact c34); rw [hv] at h0; rw [hv, seek_n1 (by decide) h0]; exact (pair_n1 _ n 0 0 (by omega)).symm⟩)⟩, I2, J2, rfl, hF2, hK2, hJ2⟩ | exact ⟨_, rfl, .inr ⟨s, hs, rfl, lt_ge c5, .inr (.inl ⟨h98, h2, by dsimp only; rw [hz, hcd, mN_n (by omega), mN_n (by omega)]; rw [if_pos (m1_of c5 (ge_lt c25)), ← hv, hW.2.2.2.1]; exact j_back hf31⟩)⟩, I2, J2, rfl, hF2, hK2, hJ2⟩ | exact PRJ_id (.inl ⟨fun h => h.1 (ge_lt c5), rfl⟩) | exact PRJ_id (.inl ⟨fun h => hs h.2, rfl⟩)
        · refine px_aload_n (kk := 0) rfl rfl rfl ?_
          refine px_getJ rfl gS_65 rfl ?_
          refine px_l2i rfl ?_
          refine px_goto rfl ?_
          refine px_ireturn rfl (.inl rfl) ?_
          first | exact PRJ_id (.inr ⟨s, hs, rfl, (lt_ge c5), .inl ⟨h98, rfl⟩⟩) | exact PRJ_id (.inr ⟨s, hs, rfl, (lt_ge c5), .inr (.inr ⟨h98, h2, rfl⟩)⟩) | exact absurd h98 g98 | exact absurd g98 h98 | exact absurd g2 h2 | exact absurd h2 g2 | exact ⟨_, rfl, .inr ⟨s, hs, rfl, lt_ge c5, .inr (.inl ⟨h98, h2, by dsimp only; rw [hz, hcd, mN_n (by omega), mN_n (by omega)]; rw [if_neg (m1_ne (lt_ge c25)), ← hv]; exact sp_pair_congr (hW.2.1 (.inl (fun e => c34 (by rw [lg_cmp_eq, hW.2.2.2.1, e, l_0])))) n 0 0 (by omega)⟩)⟩, I2, J2, rfl, hF2, hK2, hJ2⟩ | exact ⟨_, rfl, .inr ⟨s, hs, rfl, lt_ge c5, .inr (.inl ⟨h98, h2, by dsimp only; rw [hz, hcd, mN_n (by omega), mN_n (by omega)]; rw [if_neg (m1_ne (lt_ge c25)), ← hv]; have h0 : v.2.2.1 = 0 := (by rw [lg_cmp_eq, hW.2.2.2.1, l_0, pk_lEQ (by omega) (by omega)] at c34; exact c34); rw [hv] at h0; rw [hv, seek_n1 (by decide) h0]; exact (pair_n1 _ n 0 0 (by omega)).symm⟩)⟩, I2, J2, rfl, hF2, hK2, hJ2⟩ | exact ⟨_, rfl, .inr ⟨s, hs, rfl, lt_ge c5, .inr (.inl ⟨h98, h2, by dsimp only; rw [hz, hcd, mN_n (by omega), mN_n (by omega)]; rw [if_pos (m1_of c5 (ge_lt c25)), ← hv, hW.2.2.2.1]; exact j_back hf31⟩)⟩, I2, J2, rfl, hF2, hK2, hJ2⟩ | exact PRJ_id (.inl ⟨fun h => h.1 (ge_lt c5), rfl⟩) | exact PRJ_id (.inl ⟨fun h => hs h.2, rfl⟩)
      · refine px_if_ge rfl (fun h => absurd h (by decide)) (fun _ => ?_)
        refine px_aload_n (kk := 0) rfl rfl rfl ?_
        refine px_iload_n (kk := 1) rfl rfl rfl ?_
        refine px_callV0 CX12_rowFault [] [.int _] (vX12_rowFault hs) rfl gS_65 (by decide) rfl rfl rfl (Nat.le_of_ble_eq_true rfl) (by decide) ?_
        rintro _ _ - ⟨rfl, (⟨g98, rfl⟩ | ⟨g98, g2, rfl⟩ | ⟨g98, g2, rfl⟩)⟩
        · refine px_ireturn rfl (.inl rfl) ?_
          first | exact PRJ_id (.inr ⟨s, hs, rfl, (lt_ge c5), .inl ⟨h98, rfl⟩⟩) | exact PRJ_id (.inr ⟨s, hs, rfl, (lt_ge c5), .inr (.inr ⟨h98, h2, rfl⟩)⟩) | exact absurd h98 g98 | exact absurd g98 h98 | exact absurd g2 h2 | exact absurd h2 g2 | exact ⟨_, rfl, .inr ⟨s, hs, rfl, lt_ge c5, .inr (.inl ⟨h98, h2, by dsimp only; rw [hz, hcd, mN_n (by omega), mN_n (by omega)]; rw [if_neg (m1_ne (lt_ge c25)), ← hv]; exact sp_pair_congr (hW.2.1 (.inl (fun e => c34 (by rw [lg_cmp_eq, hW.2.2.2.1, e, l_0])))) n 0 0 (by omega)⟩)⟩, I2, J2, rfl, hF2, hK2, hJ2⟩ | exact ⟨_, rfl, .inr ⟨s, hs, rfl, lt_ge c5, .inr (.inl ⟨h98, h2, by dsimp only; rw [hz, hcd, mN_n (by omega), mN_n (by omega)]; rw [if_neg (m1_ne (lt_ge c25)), ← hv]; have h0 : v.2.2.1 = 0 := (by rw [lg_cmp_eq, hW.2.2.2.1, l_0, pk_lEQ (by omega) (by omega)] at c34; exact c34); rw [hv] at h0; rw [hv, seek_n1 (by decide) h0]; exact (pair_n1 _ n 0 0 (by omega)).symm⟩)⟩, I2, J2, rfl, hF2, hK2, hJ2⟩ | exact ⟨_, rfl, .inr ⟨s, hs, rfl, lt_ge c5, .inr (.inl ⟨h98, h2, by dsimp only; rw [hz, hcd, mN_n (by omega), mN_n (by omega)]; rw [if_pos (m1_of c5 (ge_lt c25)), ← hv, hW.2.2.2.1]; exact j_back hf31⟩)⟩, I2, J2, rfl, hF2, hK2, hJ2⟩ | exact PRJ_id (.inl ⟨fun h => h.1 (ge_lt c5), rfl⟩) | exact PRJ_id (.inl ⟨fun h => hs h.2, rfl⟩)
        · refine px_ireturn rfl (.inl rfl) ?_
          first | exact PRJ_id (.inr ⟨s, hs, rfl, (lt_ge c5), .inl ⟨h98, rfl⟩⟩) | exact PRJ_id (.inr ⟨s, hs, rfl, (lt_ge c5), .inr (.inr ⟨h98, h2, rfl⟩)⟩) | exact absurd h98 g98 | exact absurd g98 h98 | exact absurd g2 h2 | exact absurd h2 g2 | exact ⟨_, rfl, .inr ⟨s, hs, rfl, lt_ge c5, .inr (.inl ⟨h98, h2, by dsimp only; rw [hz, hcd, mN_n (by omega), mN_n (by omega)]; rw [if_neg (m1_ne (lt_ge c25)), ← hv]; exact sp_pair_congr (hW.2.1 (.inl (fun e => c34 (by rw [lg_cmp_eq, hW.2.2.2.1, e, l_0])))) n 0 0 (by omega)⟩)⟩, I2, J2, rfl, hF2, hK2, hJ2⟩ | exact ⟨_, rfl, .inr ⟨s, hs, rfl, lt_ge c5, .inr (.inl ⟨h98, h2, by dsimp only; rw [hz, hcd, mN_n (by omega), mN_n (by omega)]; rw [if_neg (m1_ne (lt_ge c25)), ← hv]; have h0 : v.2.2.1 = 0 := (by rw [lg_cmp_eq, hW.2.2.2.1, l_0, pk_lEQ (by omega) (by omega)] at c34; exact c34); rw [hv] at h0; rw [hv, seek_n1 (by decide) h0]; exact (pair_n1 _ n 0 0 (by omega)).symm⟩)⟩, I2, J2, rfl, hF2, hK2, hJ2⟩ | exact ⟨_, rfl, .inr ⟨s, hs, rfl, lt_ge c5, .inr (.inl ⟨h98, h2, by dsimp only; rw [hz, hcd, mN_n (by omega), mN_n (by omega)]; rw [if_pos (m1_of c5 (ge_lt c25)), ← hv, hW.2.2.2.1]; exact j_back hf31⟩)⟩, I2, J2, rfl, hF2, hK2, hJ2⟩ | exact PRJ_id (.inl ⟨fun h => h.1 (ge_lt c5), rfl⟩) | exact PRJ_id (.inl ⟨fun h => hs h.2, rfl⟩)
        · refine px_ireturn rfl (.inl rfl) ?_
          first | exact PRJ_id (.inr ⟨s, hs, rfl, (lt_ge c5), .inl ⟨h98, rfl⟩⟩) | exact PRJ_id (.inr ⟨s, hs, rfl, (lt_ge c5), .inr (.inr ⟨h98, h2, rfl⟩)⟩) | exact absurd h98 g98 | exact absurd g98 h98 | exact absurd g2 h2 | exact absurd h2 g2 | exact ⟨_, rfl, .inr ⟨s, hs, rfl, lt_ge c5, .inr (.inl ⟨h98, h2, by dsimp only; rw [hz, hcd, mN_n (by omega), mN_n (by omega)]; rw [if_neg (m1_ne (lt_ge c25)), ← hv]; exact sp_pair_congr (hW.2.1 (.inl (fun e => c34 (by rw [lg_cmp_eq, hW.2.2.2.1, e, l_0])))) n 0 0 (by omega)⟩)⟩, I2, J2, rfl, hF2, hK2, hJ2⟩ | exact ⟨_, rfl, .inr ⟨s, hs, rfl, lt_ge c5, .inr (.inl ⟨h98, h2, by dsimp only; rw [hz, hcd, mN_n (by omega), mN_n (by omega)]; rw [if_neg (m1_ne (lt_ge c25)), ← hv]; have h0 : v.2.2.1 = 0 := (by rw [lg_cmp_eq, hW.2.2.2.1, l_0, pk_lEQ (by omega) (by omega)] at c34; exact c34); rw [hv] at h0; rw [hv, seek_n1 (by decide) h0]; exact (pair_n1 _ n 0 0 (by omega)).symm⟩)⟩, I2, J2, rfl, hF2, hK2, hJ2⟩ | exact ⟨_, rfl, .inr ⟨s, hs, rfl, lt_ge c5, .inr (.inl ⟨h98, h2, by dsimp only; rw [hz, hcd, mN_n (by omega), mN_n (by omega)]; rw [if_pos (m1_of c5 (ge_lt c25)), ← hv, hW.2.2.2.1]; exact j_back hf31⟩)⟩, I2, J2, rfl, hF2, hK2, hJ2⟩ | exact PRJ_id (.inl ⟨fun h => h.1 (ge_lt c5), rfl⟩) | exact PRJ_id (.inl ⟨fun h => hs h.2, rfl⟩)
    · refine px_iconst (v := -1) rfl k_m1 ?_
      refine px_ireturn rfl (.inl rfl) ?_
      first | exact PRJ_id (.inr ⟨s, hs, rfl, (lt_ge c5), .inl ⟨h98, rfl⟩⟩) | exact PRJ_id (.inr ⟨s, hs, rfl, (lt_ge c5), .inr (.inr ⟨h98, h2, rfl⟩)⟩) | exact absurd h98 g98 | exact absurd g98 h98 | exact absurd g2 h2 | exact absurd h2 g2 | exact ⟨_, rfl, .inr ⟨s, hs, rfl, lt_ge c5, .inr (.inl ⟨h98, h2, by dsimp only; rw [hz, hcd, mN_n (by omega), mN_n (by omega)]; rw [if_neg (m1_ne (lt_ge c25)), ← hv]; exact sp_pair_congr (hW.2.1 (.inl (fun e => c34 (by rw [lg_cmp_eq, hW.2.2.2.1, e, l_0])))) n 0 0 (by omega)⟩)⟩, I2, J2, rfl, hF2, hK2, hJ2⟩ | exact ⟨_, rfl, .inr ⟨s, hs, rfl, lt_ge c5, .inr (.inl ⟨h98, h2, by dsimp only; rw [hz, hcd, mN_n (by omega), mN_n (by omega)]; rw [if_neg (m1_ne (lt_ge c25)), ← hv]; have h0 : v.2.2.1 = 0 := (by rw [lg_cmp_eq, hW.2.2.2.1, l_0, pk_lEQ (by omega) (by omega)] at c34; exact c34); rw [hv] at h0; rw [hv, seek_n1 (by decide) h0]; exact (pair_n1 _ n 0 0 (by omega)).symm⟩)⟩, I2, J2, rfl, hF2, hK2, hJ2⟩ | exact ⟨_, rfl, .inr ⟨s, hs, rfl, lt_ge c5, .inr (.inl ⟨h98, h2, by dsimp only; rw [hz, hcd, mN_n (by omega), mN_n (by omega)]; rw [if_pos (m1_of c5 (ge_lt c25)), ← hv, hW.2.2.2.1]; exact j_back hf31⟩)⟩, I2, J2, rfl, hF2, hK2, hJ2⟩ | exact PRJ_id (.inl ⟨fun h => h.1 (ge_lt c5), rfl⟩) | exact PRJ_id (.inl ⟨fun h => hs h.2, rfl⟩)
  · refine px_if_eq rfl (fun _ => ?_) (fun h => absurd h (by decide))
    refine px_iconst (v := -1) rfl k_m1 ?_
    refine px_ireturn rfl (.inl rfl) ?_
    first | exact PRJ_id (.inr ⟨s, hs, rfl, (lt_ge c5), .inl ⟨h98, rfl⟩⟩) | exact PRJ_id (.inr ⟨s, hs, rfl, (lt_ge c5), .inr (.inr ⟨h98, h2, rfl⟩)⟩) | exact absurd h98 g98 | exact absurd g98 h98 | exact absurd g2 h2 | exact absurd h2 g2 | exact ⟨_, rfl, .inr ⟨s, hs, rfl, lt_ge c5, .inr (.inl ⟨h98, h2, by dsimp only; rw [hz, hcd, mN_n (by omega), mN_n (by omega)]; rw [if_neg (m1_ne (lt_ge c25)), ← hv]; exact sp_pair_congr (hW.2.1 (.inl (fun e => c34 (by rw [lg_cmp_eq, hW.2.2.2.1, e, l_0])))) n 0 0 (by omega)⟩)⟩, I2, J2, rfl, hF2, hK2, hJ2⟩ | exact ⟨_, rfl, .inr ⟨s, hs, rfl, lt_ge c5, .inr (.inl ⟨h98, h2, by dsimp only; rw [hz, hcd, mN_n (by omega), mN_n (by omega)]; rw [if_neg (m1_ne (lt_ge c25)), ← hv]; have h0 : v.2.2.1 = 0 := (by rw [lg_cmp_eq, hW.2.2.2.1, l_0, pk_lEQ (by omega) (by omega)] at c34; exact c34); rw [hv] at h0; rw [hv, seek_n1 (by decide) h0]; exact (pair_n1 _ n 0 0 (by omega)).symm⟩)⟩, I2, J2, rfl, hF2, hK2, hJ2⟩ | exact ⟨_, rfl, .inr ⟨s, hs, rfl, lt_ge c5, .inr (.inl ⟨h98, h2, by dsimp only; rw [hz, hcd, mN_n (by omega), mN_n (by omega)]; rw [if_pos (m1_of c5 (ge_lt c25)), ← hv, hW.2.2.2.1]; exact j_back hf31⟩)⟩, I2, J2, rfl, hF2, hK2, hJ2⟩ | exact PRJ_id (.inl ⟨fun h => h.1 (ge_lt c5), rfl⟩) | exact PRJ_id (.inl ⟨fun h => hs h.2, rfl⟩)
theorem w_j {w : Int32} {f : Nat} (hf : f < 2 ^ 31) : (w.toInt64 = lN f) ↔ w = nI f := by
  constructor
  · intro e
    have := congrArg Int64.toInt32 e
    rwa [Int32.toInt32_toInt64, j_back hf] at this
  · rintro rfl; exact j_nI hf
theorem lX12_sure {I : Nat → Nat → Int32} {J : Nat → Nat → Int64} {p : Bool × Option Nat} {ro : List (Nat × Nat × (Nat → Int32))} {n : Nat} (hn : I 65 1 = nI n) (hn8 : n ≤ 8) {x : Int32} {v : VS} (hf31 : v.2.2.1 < 2 ^ 31) {aim : Nat} {M : Nat → Int32} (hW : WR n aim M v I J) {k : Nat} (hk : k ≤ n) : Px 9 0 0 CX12_sure 25 [some (.ref (65)), some (.int (x)), some (.int ((sp_bits (fun l => decide (0 < v.2.2.1) && decide (v.2.1 l = nI v.2.2.1)) k))), some (.int (nI k))] [] (gS, I, J, gR p, ro) (qI (sp_bits (fun l => decide (0 < v.2.2.1) && decide (v.2.1 l = nI v.2.2.1)) n) (gS, I, J, gR p, ro)) := by
  refine px_iload_n (kk := 3) rfl rfl rfl ?_
  refine px_aload_n (kk := 0) rfl rfl rfl ?_
  refine px_getIe (v := nI n) rfl gS_65 rfl hn ?_
  refine px_icmp_ge rfl (fun c28 => ?_) (fun c28 => ?_)
  · refine px_iload_n (kk := 2) rfl rfl rfl ?_
    refine px_ireturn rfl (.inl rfl) ?_
    rw [n_le (by omega) (by omega)] at c28
    obtain rfl : k = n := by omega
    exact ⟨rfl, rfl⟩
  · rw [n_le (by omega) (by omega)] at c28
    refine px_aload_n (kk := 0) rfl rfl rfl ?_
    refine px_getJ rfl gS_65 rfl ?_
    refine px_lconst (v := 0) rfl (by decide) ?_
    refine px_lcmp rfl ?_
    refine px_if_le rfl (fun c33 => ?_) (fun c33 => ?_)
    · refine px_iinc3 (v := nI (k + 1)) rfl (n_inc k) rfl (by decide) ?_
      refine px_goto rfl ?_
      rw [lg_cmp_le, hW.2.2.2.1, l_0, pk_lLE (by omega) (by omega)] at c33
      rw [show sp_bits (fun l => decide (0 < v.2.2.1) && decide (v.2.1 l = nI v.2.2.1)) k = sp_bits (fun l => decide (0 < v.2.2.1) && decide (v.2.1 l = nI v.2.2.1)) (k + 1) by simp only [sp_bits]; rw [if_neg (by simp; omega)]]
      exact lX12_sure hn hn8 hf31 hW (k := k + 1) (by omega)
    · refine px_aload_n (kk := 0) rfl rfl rfl ?_
      refine px_getR (r := 90) rfl gS_65 rfl (gR_65_43 _) ?_
      refine px_iload_n (kk := 3) rfl rfl rfl ?_
      refine px_ialde (j := k) (v := v.2.1 k) rfl gS_90 rfl (by omega) (hW.2.2.1 k (by omega)) ?_
      refine px_i2l rfl ?_
      refine px_aload_n (kk := 0) rfl rfl rfl ?_
      refine px_getJ rfl gS_65 rfl ?_
      refine px_lcmp rfl ?_
      refine px_if_ne rfl (fun c42 => ?_) (fun c42 => ?_)
      · refine px_iinc3 (v := nI (k + 1)) rfl (n_inc k) rfl (by decide) ?_
        refine px_goto rfl ?_
        rw [lg_cmp_le, hW.2.2.2.1, l_0, pk_lLE (by omega) (by omega)] at c33
        rw [ne_eq, lg_cmp_eq, hW.2.2.2.1, w_j hf31] at c42
        rw [show sp_bits (fun l => decide (0 < v.2.2.1) && decide (v.2.1 l = nI v.2.2.1)) k = sp_bits (fun l => decide (0 < v.2.2.1) && decide (v.2.1 l = nI v.2.2.1)) (k + 1) by simp only [sp_bits]; rw [if_neg (by simp [c42])]]
        exact lX12_sure hn hn8 hf31 hW (k := k + 1) (by omega)
      · refine px_iload_n (kk := 2) rfl rfl rfl ?_
        refine px_iconst (v := nI 1) rfl k_1 ?_
        refine px_iload_n (kk := 3) rfl rfl rfl ?_
        refine px_ishl rfl ?_
        refine px_ior rfl ?_
        refine px_ist2 rfl rfl (by decide) ?_
        refine px_iinc3 (v := nI (k + 1)) rfl (n_inc k) rfl (by decide) ?_
        refine px_goto rfl ?_
        rw [lg_cmp_le, hW.2.2.2.1, l_0, pk_lLE (by omega) (by omega)] at c33
        rw [lg_cmp_eq, hW.2.2.2.1, w_j hf31] at c42
        rw [show sp_bits (fun l => decide (0 < v.2.2.1) && decide (v.2.1 l = nI v.2.2.1)) k ||| (nI 1 <<< (nI k &&& 31)) = sp_bits (fun l => decide (0 < v.2.2.1) && decide (v.2.1 l = nI v.2.2.1)) (k + 1) by simp only [sp_bits]; rw [if_pos (by simp [c42]; omega)]]
        exact lX12_sure hn hn8 hf31 hW (k := k + 1) (by omega)
termination_by n - k
decreasing_by all_goals (have h := ‹¬ nI n ≤ nI k›; rw [n_le (by omega) (by omega)] at h; omega)
theorem vX12_sure {I : Nat → Nat → Int32} {J : Nat → Nat → Int64} {p : Bool × Option Nat} {ro : List (Nat × Nat × (Nat → Int32))} {tx : List Ln} (hT : LawR tx I) {n : Nat} (hn : I 65 1 = nI n) (hn8 : n ≤ 8) (hL : LK n (I 69)) {cd : Nat} (hcd : I 65 6 = nI cd) (hcd4 : cd ≤ 4) (hSZ : ∀ s, s < 6 → ∃ z, z ≤ 60 ∧ I 99 s = nI z) {x : Int32} : Pv 17 0 0 CX12_sure [.ref (65), .int (x)] (gS, I, J, gR p, ro) (PRJ (DAY (True) x (fun s => I 98 s = -1) (fun s => I 98 s = -2) (fun s => sp_bits (fun l => decide (0 < (sp_seek 3 n tx (I 69) (I 68) (I 67) (I 66) (I 65 7) (mN (I 99 s)) (fun j => (J 100 (60 * s + j)).toInt32) (mN (I 65 6))).2.2.1) && decide ((sp_seek 3 n tx (I 69) (I 68) (I 67) (I 66) (I 65 7) (mN (I 99 s)) (fun j => (J 100 (60 * s + j)).toInt32) (mN (I 65 6))).2.1 l = nI (sp_seek 3 n tx (I 69) (I 68) (I 67) (I 66) (I 65 7) (mN (I 99 s)) (fun j => (J 100 (60 * s + j)).toInt32) (mN (I 65 6))).2.2.1)) n)) I J p ro) := by
  refine ⟨okCX12_sure, Nat.le_of_ble_eq_true rfl, (show Px _ _ _ _ 0 [some (.ref (65)), some (.int (x)), none, none] [] _ _ from ?_)⟩
  refine px_iload_n (kk := 1) rfl rfl rfl ?_
  refine px_callS0 CX12_isShelf [] [.int _] (vX12_isShelf) rfl rfl rfl (Nat.le_of_ble_eq_true rfl) (by decide) ?_
  rintro _ _ - (⟨⟨s, hs, rfl⟩, rfl, rfl⟩ | ⟨hs, rfl, rfl⟩)
  · refine px_if_ne rfl (fun _ => ?_) (fun h => absurd h (by decide))
    refine px_aload_n (kk := 0) rfl rfl rfl ?_
    refine px_iload_n (kk := 1) rfl rfl rfl ?_
    refine px_callV0 CX12_rowFault [] [.int _] (vX12_rowFault hs) rfl gS_65 (by decide) rfl rfl rfl (Nat.le_of_ble_eq_true rfl) (by decide) ?_
    rintro _ _ - ⟨rfl, (⟨h98, rfl⟩ | ⟨h98, h2, rfl⟩ | ⟨h98, h2, rfl⟩)⟩
    · refine px_if_ge rfl (fun h => absurd h (by decide)) (fun _ => ?_)
      refine px_aload_n (kk := 0) rfl rfl rfl ?_
      refine px_iload_n (kk := 1) rfl rfl rfl ?_
      refine px_callV0 CX12_rowFault [] [.int _] (vX12_rowFault hs) rfl gS_65 (by decide) rfl rfl rfl (Nat.le_of_ble_eq_true rfl) (by decide) ?_
      rintro _ _ - ⟨rfl, (⟨g98, rfl⟩ | ⟨g98, g2, rfl⟩ | ⟨g98, g2, rfl⟩)⟩
      · refine px_ireturn rfl (.inl rfl) ?_
        first | exact PRJ_id (.inr ⟨s, hs, rfl, trivial, .inl ⟨h98, rfl⟩⟩) | exact PRJ_id (.inr ⟨s, hs, rfl, trivial, .inr (.inr ⟨h98, h2, rfl⟩)⟩) | exact absurd h98 g98 | exact absurd g98 h98 | exact absurd g2 h2 | exact absurd h2 g2 | exact PRJ_id (.inl ⟨fun h => hs h.2, rfl⟩)
      · refine px_ireturn rfl (.inl rfl) ?_
        first | exact PRJ_id (.inr ⟨s, hs, rfl, trivial, .inl ⟨h98, rfl⟩⟩) | exact PRJ_id (.inr ⟨s, hs, rfl, trivial, .inr (.inr ⟨h98, h2, rfl⟩)⟩) | exact absurd h98 g98 | exact absurd g98 h98 | exact absurd g2 h2 | exact absurd h2 g2 | exact PRJ_id (.inl ⟨fun h => hs h.2, rfl⟩)
      · refine px_ireturn rfl (.inl rfl) ?_
        first | exact PRJ_id (.inr ⟨s, hs, rfl, trivial, .inl ⟨h98, rfl⟩⟩) | exact PRJ_id (.inr ⟨s, hs, rfl, trivial, .inr (.inr ⟨h98, h2, rfl⟩)⟩) | exact absurd h98 g98 | exact absurd g98 h98 | exact absurd g2 h2 | exact absurd h2 g2 | exact PRJ_id (.inl ⟨fun h => hs h.2, rfl⟩)
    · obtain ⟨z, hz60, hz⟩ := hSZ s hs
      refine px_if_ge rfl (fun _ => ?_) (fun h => absurd h (by decide))
      refine px_aload_n (kk := 0) rfl rfl rfl ?_
      refine px_iload_n (kk := 1) rfl rfl rfl ?_
      refine px_putI rfl gS_65 rfl rfl ?_
      refine px_aload_n (kk := 0) rfl rfl rfl ?_
      refine px_iconst (v := nI 3) rfl k_3 ?_
      refine px_aload_n (kk := 0) rfl rfl rfl ?_
      refine px_getIe (v := nI cd) rfl gS_65 rfl (by rw [p_up_s, p_up_n _ _ (by decide)]; exact hcd) ?_
      refine px_callV0 CX12_findWays [] [.int _, .int _] (vX12_find3 (I := (va_up I 65 (va_up (I 65) 44 (nI s)))) (tx := tx) (n := n) (LawR_mv hT (by rw [p_up_s, p_up_n _ _ (by decide)]) (fun c hc => p_up_n _ _ (fun e => by subst e; revert hc; decide))) (by rw [p_up_s, p_up_n _ _ (by decide)]; exact hn) hn8 (by rw [p_up_n _ _ (by decide)]; exact hL) hs (z := z) (by rw [p_up_n _ _ (by decide)]; exact hz) hz60 (by rw [p_up_s, p_up_s]) (c := cd) (by omega)) rfl gS_65 (by decide) rfl rfl rfl (Nat.le_of_ble_eq_true rfl) (by decide) ?_
      rintro _ _ - ⟨rfl, I2, J2, rfl, hF2, hK2, hJ2, hW⟩
      obtain ⟨v, hv⟩ : ∃ v, v = (sp_seek 3 n tx (I 69) (I 68) (I 67) (I 66) (I 65 7) z (fun j => (J 100 (60 * s + j)).toInt32) cd) := ⟨_, rfl⟩
      rw [p_up_n _ _ (show (69 : Nat) ≠ 65 by decide), p_up_n _ _ (show (68 : Nat) ≠ 65 by decide), p_up_n _ _ (show (67 : Nat) ≠ 65 by decide), p_up_n _ _ (show (66 : Nat) ≠ 65 by decide), p_up_s, p_up_n _ _ (show (7 : Nat) ≠ 44 by decide), ← hv] at hW
      replace hF2 : Fr crt I I2 := Fr_tr (Fr_up Fr_rf (by decide) _) hF2
      replace hK2 : K65 I I2 := fun k hk => (hK2 k hk).trans (by rw [p_up_s, p_up_n _ _ (by omega)])
      have hf31 : v.2.2.1 < 2 ^ 31 := by rw [hv]; exact sp_seek_f hn8
      have hn2 : I2 65 1 = nI n := (hK2 1 (by decide)).trans hn
      refine px_iconst (v := nI 0) rfl k_0 ?_
      refine px_ist2 rfl rfl (by decide) ?_
      refine px_iconst (v := nI 0) rfl k_0 ?_
      refine px_ist3 rfl rfl (by decide) ?_
      refine pxv_post (px_monoD (e := 17) (by decide) (lX12_sure hn2 hn8 hf31 hW (k := 0) (by omega))) (fun r S hr => ?_)
      obtain ⟨rfl, rfl⟩ := hr
      exact ⟨_, rfl, .inr ⟨s, hs, rfl, trivial, .inr (.inl ⟨h98, h2, by dsimp only; rw [hz, hcd, mN_n (by omega), mN_n (by omega)]; rw [← hv]⟩)⟩, I2, J2, rfl, hF2, hK2, hJ2⟩
    · refine px_if_ge rfl (fun h => absurd h (by decide)) (fun _ => ?_)
      refine px_aload_n (kk := 0) rfl rfl rfl ?_
      refine px_iload_n (kk := 1) rfl rfl rfl ?_
      refine px_callV0 CX12_rowFault [] [.int _] (vX12_rowFault hs) rfl gS_65 (by decide) rfl rfl rfl (Nat.le_of_ble_eq_true rfl) (by decide) ?_
      rintro _ _ - ⟨rfl, (⟨g98, rfl⟩ | ⟨g98, g2, rfl⟩ | ⟨g98, g2, rfl⟩)⟩
      · refine px_ireturn rfl (.inl rfl) ?_
        first | exact PRJ_id (.inr ⟨s, hs, rfl, trivial, .inl ⟨h98, rfl⟩⟩) | exact PRJ_id (.inr ⟨s, hs, rfl, trivial, .inr (.inr ⟨h98, h2, rfl⟩)⟩) | exact absurd h98 g98 | exact absurd g98 h98 | exact absurd g2 h2 | exact absurd h2 g2 | exact PRJ_id (.inl ⟨fun h => hs h.2, rfl⟩)
      · refine px_ireturn rfl (.inl rfl) ?_
        first | exact PRJ_id (.inr ⟨s, hs, rfl, trivial, .inl ⟨h98, rfl⟩⟩) | exact PRJ_id (.inr ⟨s, hs, rfl, trivial, .inr (.inr ⟨h98, h2, rfl⟩)⟩) | exact absurd h98 g98 | exact absurd g98 h98 | exact absurd g2 h2 | exact absurd h2 g2 | exact PRJ_id (.inl ⟨fun h => hs h.2, rfl⟩)
      · refine px_ireturn rfl (.inl rfl) ?_
        first | exact PRJ_id (.inr ⟨s, hs, rfl, trivial, .inl ⟨h98, rfl⟩⟩) | exact PRJ_id (.inr ⟨s, hs, rfl, trivial, .inr (.inr ⟨h98, h2, rfl⟩)⟩) | exact absurd h98 g98 | exact absurd g98 h98 | exact absurd g2 h2 | exact absurd h2 g2 | exact PRJ_id (.inl ⟨fun h => hs h.2, rfl⟩)
  · refine px_if_ne rfl (fun h => absurd h (by decide)) (fun _ => ?_)
    refine px_iconst (v := -1) rfl k_m1 ?_
    refine px_ireturn rfl (.inl rfl) ?_
    first | exact PRJ_id (.inr ⟨s, hs, rfl, trivial, .inl ⟨h98, rfl⟩⟩) | exact PRJ_id (.inr ⟨s, hs, rfl, trivial, .inr (.inr ⟨h98, h2, rfl⟩)⟩) | exact absurd h98 g98 | exact absurd g98 h98 | exact absurd g2 h2 | exact absurd h2 g2 | exact PRJ_id (.inl ⟨fun h => hs h.2, rfl⟩)
theorem sp_lamp_v {S : Nat → Int32} {f : Nat} : ∀ k, k < 8 → ∃ j, j ≤ k ∧ (sp_lamp S f (k + 1)).1 = nI j
  | 0, _ => ⟨0, Nat.le_refl _, by rw [sp_lamp, sp_lamp, if_pos (.inl rfl)]⟩
  | k + 1, hk => by
    obtain ⟨j, hj, e⟩ := sp_lamp_v (S := S) (f := f) k (by omega)
    rw [sp_lamp]
    by_cases h : (sp_lamp S f (k + 1)).1 = -2 ∨ (if S (k + 1) < nI f - S (k + 1) then nI f - S (k + 1) else S (k + 1)) < (sp_lamp S f (k + 1)).2
    · rw [if_pos h]; exact ⟨k + 1, Nat.le_refl _, rfl⟩
    · rw [if_neg h]; exact ⟨j, by omega, e⟩
theorem lX12_lamp {I : Nat → Nat → Int32} {J : Nat → Nat → Int64} {p : Bool × Option Nat} {ro : List (Nat × Nat × (Nat → Int32))} {n : Nat} (hn : I 65 1 = nI n) (hn8 : n ≤ 8) {x : Int32} {v : VS} (hf31 : v.2.2.1 < 2 ^ 31) (hf0 : 0 < v.2.2.1) (hS : ∀ l, l < n → I 90 l = v.2.1 l) {k : Nat} (hk : k ≤ n) {q : Int32} (hq : k = 0 ∨ q = (sp_lamp v.2.1 v.2.2.1 k).2) {o : Option Value} : Px 9 0 0 CX12_lamp 31 [some (.ref (65)), some (.int (x)), some (.int (nI v.2.2.1)), some (.int ((sp_lamp v.2.1 v.2.2.1 k).1)), some (.int (q)), some (.int (nI k)), o] [] (gS, I, J, gR p, ro) (qI (sp_lamp v.2.1 v.2.2.1 n).1 (gS, I, J, gR p, ro)) := by
  refine px_iload rfl rfl ?_
  refine px_aload_n (kk := 0) rfl rfl rfl ?_
  refine px_getIe (v := nI n) rfl gS_65 rfl hn ?_
  refine px_icmp_ge rfl (fun c34 => ?_) (fun c34 => ?_)
  · refine px_iload_n (kk := 3) rfl rfl rfl ?_
    refine px_ireturn rfl (.inl rfl) ?_
    rw [n_le (by omega) (by omega)] at c34
    obtain rfl : k = n := by omega
    exact ⟨rfl, rfl⟩
  · rw [n_le (by omega) (by omega)] at c34
    refine px_iload_n (kk := 2) rfl rfl rfl ?_
    refine px_if_le rfl (fun h => absurd h (fun z => by rw [n_0, n_le (by omega) (by omega)] at z; omega)) (fun c36 => ?_)
    refine px_aload_n (kk := 0) rfl rfl rfl ?_
    refine px_getR (r := 90) rfl gS_65 rfl (gR_65_43 _) ?_
    refine px_iload rfl rfl ?_
    refine px_ialde (j := k) (v := v.2.1 k) rfl gS_90 rfl (by omega) (hS k (by omega)) ?_
    refine px_iload_n (kk := 2) rfl rfl rfl ?_
    refine px_aload_n (kk := 0) rfl rfl rfl ?_
    refine px_getR (r := 90) rfl gS_65 rfl (gR_65_43 _) ?_
    refine px_iload rfl rfl ?_
    refine px_ialde (j := k) (v := v.2.1 k) rfl gS_90 rfl (by omega) (hS k (by omega)) ?_
    refine px_isub rfl ?_
    refine px_icmp_le rfl (fun c47 => ?_) (fun c47 => ?_)
    · refine px_iload_n (kk := 2) rfl rfl rfl ?_
      refine px_aload_n (kk := 0) rfl rfl rfl ?_
      refine px_getR (r := 90) rfl gS_65 rfl (gR_65_43 _) ?_
      refine px_iload rfl rfl ?_
      refine px_ialde (j := k) (v := v.2.1 k) rfl gS_90 rfl (by omega) (hS k (by omega)) ?_
      refine px_isub rfl ?_
      refine px_ist6 rfl rfl (by decide) ?_
      refine px_iload_n (kk := 3) rfl rfl rfl ?_
      refine px_if_lt rfl (fun c61 => ?_) (fun c61 => ?_)
      · refine px_iload rfl rfl ?_
        refine px_ist3 rfl rfl (by decide) ?_
        refine px_iload rfl rfl ?_
        refine px_ist4 rfl rfl (by decide) ?_
        refine px_iinc5 (v := nI (k + 1)) rfl (n_inc k) rfl (by decide) ?_
        refine px_goto rfl ?_
        have hg : nI v.2.2.1 - v.2.1 k = (if v.2.1 k < nI v.2.2.1 - v.2.1 k then nI v.2.2.1 - v.2.1 k else v.2.1 k) := by
          by_cases z : v.2.1 k < nI v.2.2.1 - v.2.1 k
          · rw [if_pos z]
          · rw [if_neg z]; refine Int32.toInt_inj.mp ?_; rw [i_lt] at z; rw [i_le] at c47; omega
        have hu : (sp_lamp v.2.1 v.2.2.1 (k + 1)) = (nI k, (if v.2.1 k < nI v.2.2.1 - v.2.1 k then nI v.2.2.1 - v.2.1 k else v.2.1 k)) := by
          rw [sp_lamp, if_pos (by
            rcases Nat.eq_zero_or_pos k with e | e
            · subst e; exact .inl rfl
            · obtain ⟨k1, rfl⟩ : ∃ k1, k = k1 + 1 := ⟨k - 1, by omega⟩
              obtain ⟨j, hj, ej⟩ := sp_lamp_v (S := v.2.1) (f := v.2.2.1) k1 (by omega)
              rw [ej] at c61
              exact absurd c61 (n_nneg (by omega)))]
        have h := lX12_lamp (J := J) (p := p) (ro := ro) (x := x) hn hn8 hf31 hf0 hS (k := k + 1) (by omega) (q := nI v.2.2.1 - v.2.1 k) (.inr (by rw [hu]; exact hg)) (o := some (.int (nI v.2.2.1 - v.2.1 k)))
        rw [hu] at h
        exact h
      · refine px_iload rfl rfl ?_
        refine px_iload rfl rfl ?_
        refine px_icmp_lt rfl (fun c64 => ?_) (fun c64 => ?_)
        · refine px_iload rfl rfl ?_
          refine px_ist3 rfl rfl (by decide) ?_
          refine px_iload rfl rfl ?_
          refine px_ist4 rfl rfl (by decide) ?_
          refine px_iinc5 (v := nI (k + 1)) rfl (n_inc k) rfl (by decide) ?_
          refine px_goto rfl ?_
          have hg : nI v.2.2.1 - v.2.1 k = (if v.2.1 k < nI v.2.2.1 - v.2.1 k then nI v.2.2.1 - v.2.1 k else v.2.1 k) := by
            by_cases z : v.2.1 k < nI v.2.2.1 - v.2.1 k
            · rw [if_pos z]
            · rw [if_neg z]; refine Int32.toInt_inj.mp ?_; rw [i_lt] at z; rw [i_le] at c47; omega
          have hu : (sp_lamp v.2.1 v.2.2.1 (k + 1)) = (nI k, (if v.2.1 k < nI v.2.2.1 - v.2.1 k then nI v.2.2.1 - v.2.1 k else v.2.1 k)) := by
            rw [sp_lamp, if_pos (by
              rcases hq with e | e
              · subst e; exact .inl rfl
              · exact .inr (by rw [← hg, ← e]; exact c64))]
          have h := lX12_lamp (J := J) (p := p) (ro := ro) (x := x) hn hn8 hf31 hf0 hS (k := k + 1) (by omega) (q := nI v.2.2.1 - v.2.1 k) (.inr (by rw [hu]; exact hg)) (o := some (.int (nI v.2.2.1 - v.2.1 k)))
          rw [hu] at h
          exact h
        · refine px_goto rfl ?_
          refine px_iinc5 (v := nI (k + 1)) rfl (n_inc k) rfl (by decide) ?_
          refine px_goto rfl ?_
          have hg : nI v.2.2.1 - v.2.1 k = (if v.2.1 k < nI v.2.2.1 - v.2.1 k then nI v.2.2.1 - v.2.1 k else v.2.1 k) := by
            by_cases z : v.2.1 k < nI v.2.2.1 - v.2.1 k
            · rw [if_pos z]
            · rw [if_neg z]; refine Int32.toInt_inj.mp ?_; rw [i_lt] at z; rw [i_le] at c47; omega
          have hk0 : k ≠ 0 := by
            rintro rfl
            exact c61 (show (-2 : Int32) < 0 by decide)
          have hq2 := hq.resolve_left hk0
          have hne : (sp_lamp v.2.1 v.2.2.1 k).1 ≠ -2 := fun e => c61 (by rw [e]; decide)
          have hu : (sp_lamp v.2.1 v.2.2.1 (k + 1)) = (sp_lamp v.2.1 v.2.2.1 k) := by
            rw [sp_lamp, if_neg (fun z => z.elim hne (fun z => by rw [← hg, ← hq2] at z; exact c64 z))]
          have h := lX12_lamp (J := J) (p := p) (ro := ro) (x := x) hn hn8 hf31 hf0 hS (k := k + 1) (by omega) (q := q) (.inr (by rw [hu]; exact hq2)) (o := some (.int (nI v.2.2.1 - v.2.1 k)))
          rw [hu] at h
          exact h
    · refine px_aload_n (kk := 0) rfl rfl rfl ?_
      refine px_getR (r := 90) rfl gS_65 rfl (gR_65_43 _) ?_
      refine px_iload rfl rfl ?_
      refine px_ialde (j := k) (v := v.2.1 k) rfl gS_90 rfl (by omega) (hS k (by omega)) ?_
      refine px_goto rfl ?_
      refine px_ist6 rfl rfl (by decide) ?_
      refine px_iload_n (kk := 3) rfl rfl rfl ?_
      refine px_if_lt rfl (fun c61 => ?_) (fun c61 => ?_)
      · refine px_iload rfl rfl ?_
        refine px_ist3 rfl rfl (by decide) ?_
        refine px_iload rfl rfl ?_
        refine px_ist4 rfl rfl (by decide) ?_
        refine px_iinc5 (v := nI (k + 1)) rfl (n_inc k) rfl (by decide) ?_
        refine px_goto rfl ?_
        have hg : v.2.1 k = (if v.2.1 k < nI v.2.2.1 - v.2.1 k then nI v.2.2.1 - v.2.1 k else v.2.1 k) := by
          rw [if_neg (fun z => by rw [i_lt] at z; rw [i_le] at c47; omega)]
        have hu : (sp_lamp v.2.1 v.2.2.1 (k + 1)) = (nI k, (if v.2.1 k < nI v.2.2.1 - v.2.1 k then nI v.2.2.1 - v.2.1 k else v.2.1 k)) := by
          rw [sp_lamp, if_pos (by
            rcases Nat.eq_zero_or_pos k with e | e
            · subst e; exact .inl rfl
            · obtain ⟨k1, rfl⟩ : ∃ k1, k = k1 + 1 := ⟨k - 1, by omega⟩
              obtain ⟨j, hj, ej⟩ := sp_lamp_v (S := v.2.1) (f := v.2.2.1) k1 (by omega)
              rw [ej] at c61
              exact absurd c61 (n_nneg (by omega)))]
        have h := lX12_lamp (J := J) (p := p) (ro := ro) (x := x) hn hn8 hf31 hf0 hS (k := k + 1) (by omega) (q := v.2.1 k) (.inr (by rw [hu]; exact hg)) (o := some (.int (v.2.1 k)))
        rw [hu] at h
        exact h
      · refine px_iload rfl rfl ?_
        refine px_iload rfl rfl ?_
        refine px_icmp_lt rfl (fun c64 => ?_) (fun c64 => ?_)
        · refine px_iload rfl rfl ?_
          refine px_ist3 rfl rfl (by decide) ?_
          refine px_iload rfl rfl ?_
          refine px_ist4 rfl rfl (by decide) ?_
          refine px_iinc5 (v := nI (k + 1)) rfl (n_inc k) rfl (by decide) ?_
          refine px_goto rfl ?_
          have hg : v.2.1 k = (if v.2.1 k < nI v.2.2.1 - v.2.1 k then nI v.2.2.1 - v.2.1 k else v.2.1 k) := by
            rw [if_neg (fun z => by rw [i_lt] at z; rw [i_le] at c47; omega)]
          have hu : (sp_lamp v.2.1 v.2.2.1 (k + 1)) = (nI k, (if v.2.1 k < nI v.2.2.1 - v.2.1 k then nI v.2.2.1 - v.2.1 k else v.2.1 k)) := by
            rw [sp_lamp, if_pos (by
              rcases hq with e | e
              · subst e; exact .inl rfl
              · exact .inr (by rw [← hg, ← e]; exact c64))]
          have h := lX12_lamp (J := J) (p := p) (ro := ro) (x := x) hn hn8 hf31 hf0 hS (k := k + 1) (by omega) (q := v.2.1 k) (.inr (by rw [hu]; exact hg)) (o := some (.int (v.2.1 k)))
          rw [hu] at h
          exact h
        · refine px_goto rfl ?_
          refine px_iinc5 (v := nI (k + 1)) rfl (n_inc k) rfl (by decide) ?_
          refine px_goto rfl ?_
          have hg : v.2.1 k = (if v.2.1 k < nI v.2.2.1 - v.2.1 k then nI v.2.2.1 - v.2.1 k else v.2.1 k) := by
            rw [if_neg (fun z => by rw [i_lt] at z; rw [i_le] at c47; omega)]
          have hk0 : k ≠ 0 := by
            rintro rfl
            exact c61 (show (-2 : Int32) < 0 by decide)
          have hq2 := hq.resolve_left hk0
          have hne : (sp_lamp v.2.1 v.2.2.1 k).1 ≠ -2 := fun e => c61 (by rw [e]; decide)
          have hu : (sp_lamp v.2.1 v.2.2.1 (k + 1)) = (sp_lamp v.2.1 v.2.2.1 k) := by
            rw [sp_lamp, if_neg (fun z => z.elim hne (fun z => by rw [← hg, ← hq2] at z; exact c64 z))]
          have h := lX12_lamp (J := J) (p := p) (ro := ro) (x := x) hn hn8 hf31 hf0 hS (k := k + 1) (by omega) (q := q) (.inr (by rw [hu]; exact hq2)) (o := some (.int (v.2.1 k)))
          rw [hu] at h
          exact h
termination_by n - k
decreasing_by all_goals (have h := ‹¬ nI n ≤ nI k›; rw [n_le (by omega) (by omega)] at h; omega)
theorem lX12_lamp0 {I : Nat → Nat → Int32} {J : Nat → Nat → Int64} {p : Bool × Option Nat} {ro : List (Nat × Nat × (Nat → Int32))} {n : Nat} (hn : I 65 1 = nI n) (hn8 : n ≤ 8) {x : Int32} : Px 9 0 0 CX12_lamp 31 [some (.ref (65)), some (.int (x)), some (.int (nI 0)), some (.int (-2)), some (.int (nI 0)), some (.int (nI 0)), none] [] (gS, I, J, gR p, ro) (qI (-2) (gS, I, J, gR p, ro)) := by
  refine px_iload rfl rfl ?_
  refine px_aload_n (kk := 0) rfl rfl rfl ?_
  refine px_getIe (v := nI n) rfl gS_65 rfl hn ?_
  refine px_icmp_ge rfl (fun c34 => ?_) (fun c34 => ?_)
  · refine px_iload_n (kk := 3) rfl rfl rfl ?_
    refine px_ireturn rfl (.inl rfl) ?_
    exact ⟨rfl, rfl⟩
  · refine px_iload_n (kk := 2) rfl rfl rfl ?_
    refine px_if_le rfl (fun _ => ?_) (fun h => absurd h (by decide))
    refine px_iload_n (kk := 3) rfl rfl rfl ?_
    refine px_ireturn rfl (.inl rfl) ?_
    exact ⟨rfl, rfl⟩
theorem vX12_lamp {I : Nat → Nat → Int32} {J : Nat → Nat → Int64} {p : Bool × Option Nat} {ro : List (Nat × Nat × (Nat → Int32))} {tx : List Ln} (hT : LawR tx I) {n : Nat} (hn : I 65 1 = nI n) (hn8 : n ≤ 8) (hL : LK n (I 69)) {cd : Nat} (hcd : I 65 6 = nI cd) (hcd4 : cd ≤ 4) (hSZ : ∀ s, s < 6 → ∃ z, z ≤ 60 ∧ I 99 s = nI z) {x : Int32} : Pv 17 0 0 CX12_lamp [.ref (65), .int (x)] (gS, I, J, gR p, ro) (PRJ (DAY (True) x (fun s => I 98 s = -1) (fun s => I 98 s = -2) (fun s => if 0 < (sp_seek 3 n tx (I 69) (I 68) (I 67) (I 66) (I 65 7) (mN (I 99 s)) (fun j => (J 100 (60 * s + j)).toInt32) (mN (I 65 6))).2.2.1 then (sp_lamp (sp_seek 3 n tx (I 69) (I 68) (I 67) (I 66) (I 65 7) (mN (I 99 s)) (fun j => (J 100 (60 * s + j)).toInt32) (mN (I 65 6))).2.1 (sp_seek 3 n tx (I 69) (I 68) (I 67) (I 66) (I 65 7) (mN (I 99 s)) (fun j => (J 100 (60 * s + j)).toInt32) (mN (I 65 6))).2.2.1 n).1 else -2)) I J p ro) := by
  refine ⟨okCX12_lamp, Nat.le_of_ble_eq_true rfl, (show Px _ _ _ _ 0 [some (.ref (65)), some (.int (x)), none, none, none, none, none] [] _ _ from ?_)⟩
  refine px_iload_n (kk := 1) rfl rfl rfl ?_
  refine px_callS0 CX12_isShelf [] [.int _] (vX12_isShelf) rfl rfl rfl (Nat.le_of_ble_eq_true rfl) (by decide) ?_
  rintro _ _ - (⟨⟨s, hs, rfl⟩, rfl, rfl⟩ | ⟨hs, rfl, rfl⟩)
  · refine px_if_ne rfl (fun _ => ?_) (fun h => absurd h (by decide))
    refine px_aload_n (kk := 0) rfl rfl rfl ?_
    refine px_iload_n (kk := 1) rfl rfl rfl ?_
    refine px_callV0 CX12_rowFault [] [.int _] (vX12_rowFault hs) rfl gS_65 (by decide) rfl rfl rfl (Nat.le_of_ble_eq_true rfl) (by decide) ?_
    rintro _ _ - ⟨rfl, (⟨h98, rfl⟩ | ⟨h98, h2, rfl⟩ | ⟨h98, h2, rfl⟩)⟩
    · refine px_if_ge rfl (fun h => absurd h (by decide)) (fun _ => ?_)
      refine px_aload_n (kk := 0) rfl rfl rfl ?_
      refine px_iload_n (kk := 1) rfl rfl rfl ?_
      refine px_callV0 CX12_rowFault [] [.int _] (vX12_rowFault hs) rfl gS_65 (by decide) rfl rfl rfl (Nat.le_of_ble_eq_true rfl) (by decide) ?_
      rintro _ _ - ⟨rfl, (⟨g98, rfl⟩ | ⟨g98, g2, rfl⟩ | ⟨g98, g2, rfl⟩)⟩
      · refine px_ireturn rfl (.inl rfl) ?_
        first | exact PRJ_id (.inr ⟨s, hs, rfl, trivial, .inl ⟨h98, rfl⟩⟩) | exact PRJ_id (.inr ⟨s, hs, rfl, trivial, .inr (.inr ⟨h98, h2, rfl⟩)⟩) | exact absurd h98 g98 | exact absurd g98 h98 | exact absurd g2 h2 | exact absurd h2 g2 | exact PRJ_id (.inl ⟨fun h => hs h.2, rfl⟩)
      · refine px_ireturn rfl (.inl rfl) ?_
        first | exact PRJ_id (.inr ⟨s, hs, rfl, trivial, .inl ⟨h98, rfl⟩⟩) | exact PRJ_id (.inr ⟨s, hs, rfl, trivial, .inr (.inr ⟨h98, h2, rfl⟩)⟩) | exact absurd h98 g98 | exact absurd g98 h98 | exact absurd g2 h2 | exact absurd h2 g2 | exact PRJ_id (.inl ⟨fun h => hs h.2, rfl⟩)
      · refine px_ireturn rfl (.inl rfl) ?_
        first | exact PRJ_id (.inr ⟨s, hs, rfl, trivial, .inl ⟨h98, rfl⟩⟩) | exact PRJ_id (.inr ⟨s, hs, rfl, trivial, .inr (.inr ⟨h98, h2, rfl⟩)⟩) | exact absurd h98 g98 | exact absurd g98 h98 | exact absurd g2 h2 | exact absurd h2 g2 | exact PRJ_id (.inl ⟨fun h => hs h.2, rfl⟩)
    · obtain ⟨z, hz60, hz⟩ := hSZ s hs
      refine px_if_ge rfl (fun _ => ?_) (fun h => absurd h (by decide))
      refine px_aload_n (kk := 0) rfl rfl rfl ?_
      refine px_iload_n (kk := 1) rfl rfl rfl ?_
      refine px_putI rfl gS_65 rfl rfl ?_
      refine px_aload_n (kk := 0) rfl rfl rfl ?_
      refine px_iconst (v := nI 3) rfl k_3 ?_
      refine px_aload_n (kk := 0) rfl rfl rfl ?_
      refine px_getIe (v := nI cd) rfl gS_65 rfl (by rw [p_up_s, p_up_n _ _ (by decide)]; exact hcd) ?_
      refine px_callV0 CX12_findWays [] [.int _, .int _] (vX12_find3 (I := (va_up I 65 (va_up (I 65) 44 (nI s)))) (tx := tx) (n := n) (LawR_mv hT (by rw [p_up_s, p_up_n _ _ (by decide)]) (fun c hc => p_up_n _ _ (fun e => by subst e; revert hc; decide))) (by rw [p_up_s, p_up_n _ _ (by decide)]; exact hn) hn8 (by rw [p_up_n _ _ (by decide)]; exact hL) hs (z := z) (by rw [p_up_n _ _ (by decide)]; exact hz) hz60 (by rw [p_up_s, p_up_s]) (c := cd) (by omega)) rfl gS_65 (by decide) rfl rfl rfl (Nat.le_of_ble_eq_true rfl) (by decide) ?_
      rintro _ _ - ⟨rfl, I2, J2, rfl, hF2, hK2, hJ2, hW⟩
      obtain ⟨v, hv⟩ : ∃ v, v = (sp_seek 3 n tx (I 69) (I 68) (I 67) (I 66) (I 65 7) z (fun j => (J 100 (60 * s + j)).toInt32) cd) := ⟨_, rfl⟩
      rw [p_up_n _ _ (show (69 : Nat) ≠ 65 by decide), p_up_n _ _ (show (68 : Nat) ≠ 65 by decide), p_up_n _ _ (show (67 : Nat) ≠ 65 by decide), p_up_n _ _ (show (66 : Nat) ≠ 65 by decide), p_up_s, p_up_n _ _ (show (7 : Nat) ≠ 44 by decide), ← hv] at hW
      replace hF2 : Fr crt I I2 := Fr_tr (Fr_up Fr_rf (by decide) _) hF2
      replace hK2 : K65 I I2 := fun k hk => (hK2 k hk).trans (by rw [p_up_s, p_up_n _ _ (by omega)])
      have hf31 : v.2.2.1 < 2 ^ 31 := by rw [hv]; exact sp_seek_f hn8
      have hn2 : I2 65 1 = nI n := (hK2 1 (by decide)).trans hn
      refine px_aload_n (kk := 0) rfl rfl rfl ?_
      refine px_getJ rfl gS_65 rfl ?_
      refine px_l2i rfl ?_
      rw [hW.2.2.2.1]
      refine px_ieq (j_back hf31) ?_
      refine px_ist2 rfl rfl (by decide) ?_
      refine px_bipush (v := -2) rfl b_m2 ?_
      refine px_ist3 rfl rfl (by decide) ?_
      refine px_iconst (v := nI 0) rfl k_0 ?_
      refine px_ist4 rfl rfl (by decide) ?_
      refine px_iconst (v := nI 0) rfl k_0 ?_
      refine px_ist5 rfl rfl (by decide) ?_
      by_cases hf0 : 0 < v.2.2.1
      · refine pxv_post (px_monoD (e := 17) (by decide) (lX12_lamp hn2 hn8 hf31 hf0 hW.2.2.1 (k := 0) (by omega) (q := nI 0) (.inl rfl))) (fun r S hr => ?_)
        obtain ⟨rfl, rfl⟩ := hr
        exact ⟨_, rfl, .inr ⟨s, hs, rfl, trivial, .inr (.inl ⟨h98, h2, by dsimp only; rw [hz, hcd, mN_n (by omega), mN_n (by omega)]; rw [← hv, if_pos hf0]⟩)⟩, I2, J2, rfl, hF2, hK2, hJ2⟩
      · have h0 : v.2.2.1 = 0 := by omega
        rw [h0]
        refine pxv_post (px_monoD (e := 17) (by decide) (lX12_lamp0 hn2 hn8)) (fun r S hr => ?_)
        obtain ⟨rfl, rfl⟩ := hr
        exact ⟨_, rfl, .inr ⟨s, hs, rfl, trivial, .inr (.inl ⟨h98, h2, by dsimp only; rw [hz, hcd, mN_n (by omega), mN_n (by omega)]; rw [← hv, if_neg hf0]⟩)⟩, I2, J2, rfl, hF2, hK2, hJ2⟩
    · refine px_if_ge rfl (fun h => absurd h (by decide)) (fun _ => ?_)
      refine px_aload_n (kk := 0) rfl rfl rfl ?_
      refine px_iload_n (kk := 1) rfl rfl rfl ?_
      refine px_callV0 CX12_rowFault [] [.int _] (vX12_rowFault hs) rfl gS_65 (by decide) rfl rfl rfl (Nat.le_of_ble_eq_true rfl) (by decide) ?_
      rintro _ _ - ⟨rfl, (⟨g98, rfl⟩ | ⟨g98, g2, rfl⟩ | ⟨g98, g2, rfl⟩)⟩
      · refine px_ireturn rfl (.inl rfl) ?_
        first | exact PRJ_id (.inr ⟨s, hs, rfl, trivial, .inl ⟨h98, rfl⟩⟩) | exact PRJ_id (.inr ⟨s, hs, rfl, trivial, .inr (.inr ⟨h98, h2, rfl⟩)⟩) | exact absurd h98 g98 | exact absurd g98 h98 | exact absurd g2 h2 | exact absurd h2 g2 | exact PRJ_id (.inl ⟨fun h => hs h.2, rfl⟩)
      · refine px_ireturn rfl (.inl rfl) ?_
        first | exact PRJ_id (.inr ⟨s, hs, rfl, trivial, .inl ⟨h98, rfl⟩⟩) | exact PRJ_id (.inr ⟨s, hs, rfl, trivial, .inr (.inr ⟨h98, h2, rfl⟩)⟩) | exact absurd h98 g98 | exact absurd g98 h98 | exact absurd g2 h2 | exact absurd h2 g2 | exact PRJ_id (.inl ⟨fun h => hs h.2, rfl⟩)
      · refine px_ireturn rfl (.inl rfl) ?_
        first | exact PRJ_id (.inr ⟨s, hs, rfl, trivial, .inl ⟨h98, rfl⟩⟩) | exact PRJ_id (.inr ⟨s, hs, rfl, trivial, .inr (.inr ⟨h98, h2, rfl⟩)⟩) | exact absurd h98 g98 | exact absurd g98 h98 | exact absurd g2 h2 | exact absurd h2 g2 | exact PRJ_id (.inl ⟨fun h => hs h.2, rfl⟩)
  · refine px_if_ne rfl (fun h => absurd h (by decide)) (fun _ => ?_)
    refine px_iconst (v := -1) rfl k_m1 ?_
    refine px_ireturn rfl (.inl rfl) ?_
    first | exact PRJ_id (.inr ⟨s, hs, rfl, trivial, .inl ⟨h98, rfl⟩⟩) | exact PRJ_id (.inr ⟨s, hs, rfl, trivial, .inr (.inr ⟨h98, h2, rfl⟩)⟩) | exact absurd h98 g98 | exact absurd g98 h98 | exact absurd g2 h2 | exact absurd h2 g2 | exact PRJ_id (.inl ⟨fun h => hs h.2, rfl⟩)
