/-! the reference: all ways of plugs -/
abbrev cwr : List Nat := [65, 82, 83, 85, 87, 89, 90]
/-- whether a way was kept -/
def SETv (v : VS) : Prop := v.2.2.1 ≠ 0 ∨ v.2.2.2 ≠ -1
def WR (n aim : Nat) (M : Nat → Int32) (v : VS) (I : Nat → Nat → Int32) (J : Nat → Nat → Int64) : Prop := (∀ l, l < n → I 85 l = M l) ∧ (SETv v → ∀ l, l < n → I 89 l = v.1 l) ∧ (∀ l, l < n → I 90 l = v.2.1 l) ∧ J 65 41 = lN v.2.2.1 ∧ I 65 40 = v.2.2.2 ∧ I 65 39 = nI aim
def WF (I : Nat → Nat → Int32) (J : Nat → Nat → Int64) (I1 : Nat → Nat → Int32) (J1 : Nat → Nat → Int64) : Prop := Fr cwr I I1 ∧ (∀ k, k ≠ 40 → I1 65 k = I 65 k) ∧ ∀ c, c ≠ 65 → J1 c = J c
theorem WF_tr {I I1 I2 : Nat → Nat → Int32} {J J1 J2 : Nat → Nat → Int64} (h : WF I J I1 J1) (g : WF I1 J1 I2 J2) : WF I J I2 J2 := ⟨Fr_tr h.1 g.1, fun k hk => (g.2.1 k hk).trans (h.2.1 k hk), fun c hc => (g.2.2 c hc).trans (h.2.2 c hc)⟩
theorem WF_rf {I : Nat → Nat → Int32} {J : Nat → Nat → Int64} : WF I J I J := ⟨Fr_rf, fun _ _ => rfl, fun _ _ => rfl⟩
theorem WF_up {I I1 : Nat → Nat → Int32} {J J1 : Nat → Nat → Int64} (h : WF I J I1 J1) {a : Nat} (ha : a ∈ cwr) (h65 : a ≠ 65) (f : Nat → Int32) : WF I J (va_up I1 a f) J1 := ⟨Fr_up h.1 ha f, fun k hk => by rw [p_up_n _ _ (fun e => h65 e.symm)]; exact h.2.1 k hk, h.2.2⟩
theorem WF_fr {I I1 I2 : Nat → Nat → Int32} {J J1 : Nat → Nat → Int64} {cs : List Nat} (h : WF I J I1 J1) (hF : Fr cs I1 I2) (hc : ∀ c ∈ cs, c ∈ cwr) (h65 : 65 ∉ cs) : WF I J I2 J1 := ⟨Fr_tr h.1 (Fr_mo hF hc), fun k hk => by rw [hF 65 h65]; exact h.2.1 k hk, h.2.2⟩
theorem WR_fr {n aim : Nat} {M : Nat → Int32} {v : VS} {I I' : Nat → Nat → Int32} {J : Nat → Nat → Int64} {cs : List Nat} (h : WR n aim M v I J) (hF : Fr cs I I') (hc : 85 ∉ cs ∧ 89 ∉ cs ∧ 90 ∉ cs ∧ 65 ∉ cs) : WR n aim M v I' J := ⟨fun l hl => by rw [hF 85 hc.1]; exact h.1 l hl, fun z l hl => by rw [hF 89 hc.2.1]; exact h.2.1 z l hl, fun l hl => by rw [hF 90 hc.2.2.1]; exact h.2.2.1 l hl, h.2.2.2.1, by rw [hF 65 hc.2.2.2]; exact h.2.2.2.2.1, by rw [hF 65 hc.2.2.2]; exact h.2.2.2.2.2⟩
theorem MT_of {n : Nat} {M N : Nat → Int32} (h : ∀ l, l < n → N l = M l) (hM : MT n M) : MT n N := fun l hl => by
  rw [h l hl]
  rcases hM l hl with e | ⟨k, hk, hne, e1, e2⟩
  · exact .inl e
  · exact .inr ⟨k, hk, hne, e1, by rw [h k hk]; exact e2⟩
theorem bits_up : ∀ k, k < 8 → ∀ v, v < 256 → v < 2 ^ k → sp_pop (nI v ||| (nI 1 <<< (nI k &&& 31))) = sp_pop (nI v) + nI 1 := by decide +kernel
theorem sp_bits_v2 (q : Nat → Bool) : ∀ k, k ≤ 8 → ∃ v, v < 2 ^ k ∧ sp_bits q k = nI v
  | 0, _ => ⟨0, by decide, rfl⟩
  | k + 1, hk => by
    obtain ⟨v, hv, e⟩ := sp_bits_v2 q k (by omega)
    have hp : 2 ^ k ≤ 2 ^ 8 := Nat.pow_le_pow_right (by decide) (by omega)
    simp only [sp_bits]
    by_cases h : q k = true
    · rw [if_pos h, e, (bit_or v (by omega) k (by omega)).1]
      refine ⟨_, ?_, rfl⟩
      exact Nat.or_lt_two_pow (by rw [Nat.pow_succ]; omega) (by rw [Nat.pow_succ]; have := Nat.two_pow_pos k; omega)
    · rw [if_neg h]; exact ⟨v, by rw [Nat.pow_succ]; omega, e⟩
theorem sp_pop_s (q : Nat → Bool) {k : Nat} (hk : k < 8) : sp_pop (sp_bits q (k + 1)) = sp_pop (sp_bits q k) + (if q k = true then nI 1 else nI 0) := by
  obtain ⟨v, hv, e⟩ := sp_bits_v2 q k (by omega)
  have hp : 2 ^ k ≤ 2 ^ 8 := Nat.pow_le_pow_right (by decide) (by omega)
  simp only [sp_bits]
  by_cases h : q k = true
  · rw [if_pos h, if_pos h, e]; exact bits_up k hk v (by omega) hv
  · rw [if_neg h, if_neg h, show sp_pop (sp_bits q k) + nI 0 = sp_pop (sp_bits q k) from by rw [← n_0, Int32.add_zero]]
theorem ST_cg {n : Nat} {L M N : Nat → Int32} (h : ∀ l, l < n → N l = M l) : ST n L N ↔ ST n L M := by
  have e : ∀ l, l < n → sp_lk L N l = sp_lk L M l := fun l hl => by unfold sp_lk; rw [h l hl]
  unfold ST
  constructor
  · rintro ⟨a, b⟩
    exact ⟨fun l hl => by rw [← e l hl]; exact a l hl, fun x y h1 h2 => by rw [← e x (by omega), ← e y h2]; exact b x y h1 h2⟩
  · rintro ⟨a, b⟩
    exact ⟨fun l hl => by rw [e l hl]; exact a l hl, fun x y h1 h2 => by rw [e x (by omega), e y h2]; exact b x y h1 h2⟩
theorem lX12_keepWay {I : Nat → Nat → Int32} {J : Nat → Nat → Int64} {p : Bool × Option Nat} {ro : List (Nat × Nat × (Nat → Int32))} {n : Nat} (hn : I 65 1 = nI n) (hn8 : n ≤ 8) {k : Nat} (hk : k ≤ n) : Px 0 0 0 CX12_keepWay 2 [some (.ref (65)), some (.int (nI k))] [] (gS, (va_up I 89 (fun j => if j < k then I 85 j else I 89 j)), J, gR p, ro) (qV (gS, (va_up I 89 (fun j => if j < n then I 85 j else I 89 j)), J, gR p, ro)) := by
  refine px_iload_n (kk := 1) rfl rfl rfl ?_
  refine px_aload_n (kk := 0) rfl rfl rfl ?_
  refine px_getIe (v := nI n) rfl gS_65 rfl ((congrFun (p_up_n _ _ (by decide)) 1).trans hn) ?_
  refine px_icmp_ge rfl (fun c5 => ?_) (fun c5 => ?_)
  · refine px_return rfl rfl ?_
    rw [n_le (by omega) (by omega)] at c5
    obtain rfl : k = n := by omega
    exact ⟨rfl, rfl⟩
  · rw [n_le (by omega) (by omega)] at c5
    refine px_aload_n (kk := 0) rfl rfl rfl ?_
    refine px_getR (r := 89) rfl gS_65 rfl (gR_65_42 _) ?_
    refine px_iload_n (kk := 1) rfl rfl rfl ?_
    refine px_aload_n (kk := 0) rfl rfl rfl ?_
    refine px_getR (r := 85) rfl gS_65 rfl (gR_65_31 _) ?_
    refine px_iload_n (kk := 1) rfl rfl rfl ?_
    refine px_ialde (j := k) (v := I 85 k) rfl gS_85 rfl (by omega) (congrFun (p_up_n _ _ (by decide)) k) ?_
    refine px_iast (j := k) rfl gS_89 rfl (by omega) ?_
    refine px_iinc1 (v := nI (k + 1)) rfl (n_inc k) rfl (by decide) ?_
    refine px_goto rfl ?_
    refine px_mem ?_ (lX12_keepWay hn hn8 (k := k + 1) (by omega))
    rw [p_up_s]
    exact fillf_next I 89 k (I 85)
termination_by n - k
decreasing_by all_goals (have h := ‹¬ nI n ≤ nI k›; rw [n_le (by omega) (by omega)] at h; omega)
theorem vX12_keepWay {I : Nat → Nat → Int32} {J : Nat → Nat → Int64} {p : Bool × Option Nat} {ro : List (Nat × Nat × (Nat → Int32))} {n : Nat} (hn : I 65 1 = nI n) (hn8 : n ≤ 8) : Pv 0 0 0 CX12_keepWay [.ref (65)] (gS, I, J, gR p, ro) (qV (gS, (va_up I 89 (fun j => if j < n then I 85 j else I 89 j)), J, gR p, ro)) := by
  refine ⟨okCX12_keepWay, Nat.le_of_ble_eq_true rfl, (show Px _ _ _ _ 0 [some (.ref (65)), none] [] _ _ from ?_)⟩
  refine px_iconst (v := nI 0) rfl k_0 ?_
  refine px_ist1 rfl rfl (by decide) ?_
  refine px_mem (fill_0f I 89 (I 85)) ?_
  exact lX12_keepWay hn hn8 (k := 0) (by omega)
theorem vX12_likesHas {I : Nat → Nat → Int32} {J : Nat → Nat → Int64} {p : Bool × Option Nat} {ro : List (Nat × Nat × (Nat → Int32))} {n : Nat} (hn8 : n ≤ 8) (hM : MT n (I 85)) {l : Nat} (hl : l < n) : Pv 0 0 0 CX12_likesHas [.ref (65), .int (nI l)] (gS, I, J, gR p, ro) (qI (sp_lk (I 69) (I 85) l) (gS, I, J, gR p, ro)) := by
  refine ⟨okCX12_likesHas, Nat.le_of_ble_eq_true rfl, (show Px _ _ _ _ 0 [some (.ref (65)), some (.int (nI l))] [] _ _ from ?_)⟩
  rcases hM l hl with hm | ⟨j0, hj0, hjk, hm, -⟩
  · skip
    refine px_aload_n (kk := 0) rfl rfl rfl ?_
    refine px_getR (r := 85) rfl gS_65 rfl (gR_65_31 _) ?_
    refine px_iload_n (kk := 1) rfl rfl rfl ?_
    refine px_ialde (j := l) (v := -1) rfl gS_85 rfl (by omega) hm ?_
    refine px_if_ge rfl (fun h => absurd h (by decide)) (fun _ => ?_)
    refine px_iconst (v := nI 0) rfl k_0 ?_
    refine px_goto rfl ?_
    refine px_ireturn rfl (.inl rfl) ?_
    exact ⟨by rw [sp_lk, if_pos hm], rfl⟩
  · skip
    refine px_aload_n (kk := 0) rfl rfl rfl ?_
    refine px_getR (r := 85) rfl gS_65 rfl (gR_65_31 _) ?_
    refine px_iload_n (kk := 1) rfl rfl rfl ?_
    refine px_ialde (j := l) (v := nI j0) rfl gS_85 rfl (by omega) hm ?_
    refine px_if_ge rfl (fun c4 => ?_) (fun h => absurd (nn_ge (by omega)) h)
    refine px_aload_n (kk := 0) rfl rfl rfl ?_
    refine px_getR (r := 69) rfl gS_65 rfl (gR_65_5 _) ?_
    refine px_bipush (v := nI 8) rfl b_8 ?_
    refine px_iload_n (kk := 1) rfl rfl rfl ?_
    refine px_imulN rfl ?_
    refine px_aload_n (kk := 0) rfl rfl rfl ?_
    refine px_getR (r := 85) rfl gS_65 rfl (gR_65_31 _) ?_
    refine px_iload_n (kk := 1) rfl rfl rfl ?_
    refine px_ialde (j := l) (v := nI j0) rfl gS_85 rfl (by omega) hm ?_
    refine px_iaddN rfl ?_
    refine px_iald (j := 8 * l + j0) rfl gS_69 rfl (by omega) ?_
    refine px_ireturn rfl (.inl rfl) ?_
    exact ⟨by rw [sp_lk, if_neg (by rw [hm]; exact nI_nm (by omega)), hm, mN_n (by omega)], rfl⟩
theorem lX12_st2 {I : Nat → Nat → Int32} {J : Nat → Nat → Int64} {p : Bool × Option Nat} {ro : List (Nat × Nat × (Nat → Int32))} {n : Nat} (hn : I 65 1 = nI n) (hn8 : n ≤ 8) (hM : MT n (I 85)) {a b : Nat} (ha : a < n) (hab : a < b) (hb : b ≤ n) (hno : ∀ y, a < y → y < b → ¬ (sp_lk (I 69) (I 85) a < I 69 (8 * a + y) ∧ sp_lk (I 69) (I 85) y < I 69 (8 * y + a))) (kont : (∀ y, a < y → y < n → ¬ (sp_lk (I 69) (I 85) a < I 69 (8 * a + y) ∧ sp_lk (I 69) (I 85) y < I 69 (8 * y + a))) → Px 1 0 0 CX12_isStable 54 [some (.ref 65), some (.int (nI a)), some (.int (nI n))] [] (gS, I, J, gR p, ro) (qB (ST n (I 69) (I 85)) (gS, I, J, gR p, ro))) : Px 1 0 0 CX12_isStable 16 [some (.ref (65)), some (.int (nI a)), some (.int (nI b))] [] (gS, I, J, gR p, ro) (qB (ST n (I 69) (I 85)) (gS, I, J, gR p, ro)) := by
  refine px_iload_n (kk := 2) rfl rfl rfl ?_
  refine px_aload_n (kk := 0) rfl rfl rfl ?_
  refine px_getIe (v := nI n) rfl gS_65 rfl hn ?_
  refine px_icmp_ge rfl (fun c19 => ?_) (fun c19 => ?_)
  · rw [n_le (by omega) (by omega)] at c19
    obtain rfl : b = n := by omega
    exact kont hno
  · rw [n_le (by omega) (by omega)] at c19
    refine px_aload_n (kk := 0) rfl rfl rfl ?_
    refine px_getR (r := 85) rfl gS_65 rfl (gR_65_31 _) ?_
    refine px_iload_n (kk := 1) rfl rfl rfl ?_
    refine px_iald (j := a) rfl gS_85 rfl (by omega) ?_
    refine px_iload_n (kk := 2) rfl rfl rfl ?_
    refine px_icmp_eq rfl (fun c25 => ?_) (fun c25 => ?_)
    · refine px_iinc2 (v := nI (b + 1)) rfl (n_inc b) rfl (by decide) ?_
      refine px_goto rfl ?_
      exact lX12_st2 hn hn8 hM ha (b := b + 1) (by omega) (by omega) (fun y h1 h2 => by
        by_cases e : y = b
        · subst e; exact fun z => (by have h5 := z.1; rw [sp_lk, if_neg (by rw [(show I 85 a = nI y from by first | exact c25 | exact Classical.byContradiction c25)]; exact nI_nm (by omega)), (show I 85 a = nI y from by first | exact c25 | exact Classical.byContradiction c25), mN_n (by omega), i_lt] at h5; omega)
        · exact hno y h1 (by omega)) kont
    · refine px_aload_n (kk := 0) rfl rfl rfl ?_
      refine px_getR (r := 69) rfl gS_65 rfl (gR_65_5 _) ?_
      refine px_bipush (v := nI 8) rfl b_8 ?_
      refine px_iload_n (kk := 1) rfl rfl rfl ?_
      refine px_imulN rfl ?_
      refine px_iload_n (kk := 2) rfl rfl rfl ?_
      refine px_iaddN rfl ?_
      refine px_iald (j := 8 * a + b) rfl gS_69 rfl (by omega) ?_
      refine px_aload_n (kk := 0) rfl rfl rfl ?_
      refine px_iload_n (kk := 1) rfl rfl rfl ?_
      refine px_callV0 CX12_likesHas [.int _] [.int _] (vX12_likesHas hn8 hM (l := a) (by omega)) rfl gS_65 (by decide) rfl rfl rfl (Nat.le_of_ble_eq_true rfl) (by decide) ?_
      rintro _ _ - ⟨rfl, rfl⟩
      refine px_icmp_le rfl (fun c37 => ?_) (fun c37 => ?_)
      · refine px_iinc2 (v := nI (b + 1)) rfl (n_inc b) rfl (by decide) ?_
        refine px_goto rfl ?_
        exact lX12_st2 hn hn8 hM ha (b := b + 1) (by omega) (by omega) (fun y h1 h2 => by
          by_cases e : y = b
          · subst e; exact fun z => (by have h5 := z.1; rw [i_lt] at h5; rw [i_le] at c37; omega)
          · exact hno y h1 (by omega)) kont
      · refine px_aload_n (kk := 0) rfl rfl rfl ?_
        refine px_getR (r := 69) rfl gS_65 rfl (gR_65_5 _) ?_
        refine px_bipush (v := nI 8) rfl b_8 ?_
        refine px_iload_n (kk := 2) rfl rfl rfl ?_
        refine px_imulN rfl ?_
        refine px_iload_n (kk := 1) rfl rfl rfl ?_
        refine px_iaddN rfl ?_
        refine px_iald (j := 8 * b + a) rfl gS_69 rfl (by omega) ?_
        refine px_aload_n (kk := 0) rfl rfl rfl ?_
        refine px_iload_n (kk := 2) rfl rfl rfl ?_
        refine px_callV0 CX12_likesHas [.int _] [.int _] (vX12_likesHas hn8 hM (l := b) (by omega)) rfl gS_65 (by decide) rfl rfl rfl (Nat.le_of_ble_eq_true rfl) (by decide) ?_
        rintro _ _ - ⟨rfl, rfl⟩
        refine px_icmp_le rfl (fun c49 => ?_) (fun c49 => ?_)
        · refine px_iinc2 (v := nI (b + 1)) rfl (n_inc b) rfl (by decide) ?_
          refine px_goto rfl ?_
          exact lX12_st2 hn hn8 hM ha (b := b + 1) (by omega) (by omega) (fun y h1 h2 => by
            by_cases e : y = b
            · subst e; exact fun z => (by have h5 := z.2; rw [i_lt] at h5; rw [i_le] at c49; omega)
            · exact hno y h1 (by omega)) kont
        · refine px_iconst (v := nI 0) rfl k_0 ?_
          refine px_ireturn rfl (.inr ⟨rfl, by decide⟩) ?_
          exact qB_f (fun z => z.2 a b hab (by omega) ⟨by rw [i_lt]; rw [i_le] at c37; omega, by rw [i_lt]; rw [i_le] at c49; omega⟩)
termination_by n - b
decreasing_by all_goals (have h := ‹¬ nI n ≤ nI b›; rw [n_le (by omega) (by omega)] at h; omega)
theorem lX12_st1 {I : Nat → Nat → Int32} {J : Nat → Nat → Int64} {p : Bool × Option Nat} {ro : List (Nat × Nat × (Nat → Int32))} {n : Nat} (hn : I 65 1 = nI n) (hn8 : n ≤ 8) (hM : MT n (I 85)) {a : Nat} (ha : a ≤ n) (h0 : ∀ l, l < a → 0 ≤ (sp_lk (I 69) (I 85) l)) (hno : ∀ x y, x < a → x < y → y < n → ¬ (sp_lk (I 69) (I 85) x < I 69 (8 * x + y) ∧ sp_lk (I 69) (I 85) y < I 69 (8 * y + x))) {o : Option Value} : Px 1 0 0 CX12_isStable 2 [some (.ref (65)), some (.int (nI a)), o] [] (gS, I, J, gR p, ro) (qB (ST n (I 69) (I 85)) (gS, I, J, gR p, ro)) := by
  refine px_iload_n (kk := 1) rfl rfl rfl ?_
  refine px_aload_n (kk := 0) rfl rfl rfl ?_
  refine px_getIe (v := nI n) rfl gS_65 rfl hn ?_
  refine px_icmp_ge rfl (fun c5 => ?_) (fun c5 => ?_)
  · refine px_iconst (v := nI 1) rfl k_1 ?_
    refine px_ireturn rfl (.inr ⟨rfl, by decide⟩) ?_
    rw [n_le (by omega) (by omega)] at c5
    obtain rfl : a = n := by omega
    exact qB_t ⟨h0, fun x y h1 h2 => hno x y (by omega) h1 h2⟩
  · rw [n_le (by omega) (by omega)] at c5
    refine px_aload_n (kk := 0) rfl rfl rfl ?_
    refine px_iload_n (kk := 1) rfl rfl rfl ?_
    refine px_callV0 CX12_likesHas [] [.int _] (vX12_likesHas hn8 hM (l := a) (by omega)) rfl gS_65 (by decide) rfl rfl rfl (Nat.le_of_ble_eq_true rfl) (by decide) ?_
    rintro _ _ - ⟨rfl, rfl⟩
    refine px_if_ge rfl (fun c9 => ?_) (fun c9 => ?_)
    · refine px_iload_n (kk := 1) rfl rfl rfl ?_
      refine px_iconst (v := nI 1) rfl k_1 ?_
      refine px_iaddN rfl ?_
      refine px_ist2 rfl rfl (by decide) ?_
      refine lX12_st2 hn hn8 hM (a := a) (b := a + 1) (by omega) (by omega) (by omega) (fun y h1 h2 => absurd h2 (by omega)) (fun hall => ?_)
      refine px_iinc1 (v := nI (a + 1)) rfl (n_inc a) rfl (by decide) ?_
      refine px_goto rfl ?_
      refine lX12_st1 hn hn8 hM (a := a + 1) (by omega) (fun l hl => ?_) (fun x y h1 h2 h3 => ?_)
      · by_cases e : l = a
        · subst e; exact c9
        · exact h0 l (by omega)
      · by_cases e : x = a
        · subst e; exact hall y h2 h3
        · exact hno x y (by omega) h2 h3
    · refine px_iconst (v := nI 0) rfl k_0 ?_
      refine px_ireturn rfl (.inr ⟨rfl, by decide⟩) ?_
      exact qB_f (fun z => by have h5 := z.1 a (by omega); rw [i_le] at h5 c9; omega)
termination_by n - a
decreasing_by all_goals (have h := ‹¬ nI n ≤ nI a›; rw [n_le (by omega) (by omega)] at h; omega)
theorem vX12_isStable {I : Nat → Nat → Int32} {J : Nat → Nat → Int64} {p : Bool × Option Nat} {ro : List (Nat × Nat × (Nat → Int32))} {n : Nat} (hn : I 65 1 = nI n) (hn8 : n ≤ 8) (hM : MT n (I 85)) : Pv 1 0 0 CX12_isStable [.ref (65)] (gS, I, J, gR p, ro) (qB (ST n (I 69) (I 85)) (gS, I, J, gR p, ro)) := by
  refine ⟨okCX12_isStable, Nat.le_of_ble_eq_true rfl, (show Px _ _ _ _ 0 [some (.ref (65)), none, none] [] _ _ from ?_)⟩
  refine px_iconst (v := nI 0) rfl k_0 ?_
  refine px_ist1 rfl rfl (by decide) ?_
  exact lX12_st1 hn hn8 hM (a := 0) (by omega) (fun l hl => absurd hl (by omega)) (fun x y h1 => absurd h1 (by omega))
theorem lX12_worth0 {I : Nat → Nat → Int32} {J : Nat → Nat → Int64} {p : Bool × Option Nat} {ro : List (Nat × Nat × (Nat → Int32))} {n : Nat} (hn : I 65 1 = nI n) (hn8 : n ≤ 8) (h39 : I 65 39 = nI 0) {k : Nat} (hk : k ≤ n) : Px 5 0 0 CX12_worthNow 6 [some (.ref (65)), some (.int ((sp_sum (I 87) k))), some (.int (nI k))] [] (gS, I, J, gR p, ro) (qI (sp_sum (I 87) n) (gS, I, J, gR p, ro)) := by
  refine px_iload_n (kk := 2) rfl rfl rfl ?_
  refine px_aload_n (kk := 0) rfl rfl rfl ?_
  refine px_getIe (v := nI n) rfl gS_65 rfl hn ?_
  refine px_icmp_ge rfl (fun c9 => ?_) (fun c9 => ?_)
  · refine px_iload_n (kk := 1) rfl rfl rfl ?_
    refine px_ireturn rfl (.inl rfl) ?_
    rw [n_le (by omega) (by omega)] at c9
    obtain rfl : k = n := by omega
    exact ⟨rfl, rfl⟩
  · rw [n_le (by omega) (by omega)] at c9
    refine px_iload_n (kk := 1) rfl rfl rfl ?_
    refine px_aload_n (kk := 0) rfl rfl rfl ?_
    refine px_getIe (v := nI 0) rfl gS_65 rfl h39 ?_
    refine px_if_ne rfl (fun h => absurd h (by decide)) (fun _ => ?_)
    refine px_aload_n (kk := 0) rfl rfl rfl ?_
    refine px_getR (r := 87) rfl gS_65 rfl (gR_65_33 _) ?_
    refine px_iload_n (kk := 2) rfl rfl rfl ?_
    refine px_iald (j := k) rfl gS_87 rfl (by omega) ?_
    refine px_goto rfl ?_
    refine px_iadd rfl ?_
    refine px_ist1 rfl rfl (by decide) ?_
    refine px_iinc2 (v := nI (k + 1)) rfl (n_inc k) rfl (by decide) ?_
    refine px_goto rfl ?_
    rw [show (sp_sum (I 87) k) + I 87 k = (sp_sum (I 87) (k + 1)) from rfl]
    exact lX12_worth0 hn hn8 h39 (k := k + 1) (by omega)
termination_by n - k
decreasing_by all_goals (have h := ‹¬ nI n ≤ nI k›; rw [n_le (by omega) (by omega)] at h; omega)
theorem vX12_worth0 {I : Nat → Nat → Int32} {J : Nat → Nat → Int64} {p : Bool × Option Nat} {ro : List (Nat × Nat × (Nat → Int32))} {tx : List Ln} (hT : LawR tx I) {n : Nat} (hn : I 65 1 = nI n) (hn8 : n ≤ 8) (hL : LK n (I 69)) (h84 : ∀ l, l < n → I 84 l = I 66 l) (h86 : ∀ l, l < n → I 86 l = nI 0) {M : Nat → Int32} {v : VS} {I1 : Nat → Nat → Int32} {J1 : Nat → Nat → Int64} (hF : WF I J I1 J1) (hM : MT n M) (hWR : WR n 0 M v I1 J1) : Pv 5 0 0 CX12_worthNow [.ref (65)] (gS, I1, J1, gR p, ro) (fun r S' => r = some (.int (sp_sum (sp_nx tx n (I 69) (I 68) (I 65 7) (I 66) M (fun _ => nI 0)) n)) ∧ ∃ I', S' = (gS, I', J1, gR p, ro) ∧ Fr [82, 83, 87] I1 I') := by
  refine ⟨okCX12_worthNow, Nat.le_of_ble_eq_true rfl, (show Px _ _ _ _ 0 [some (.ref (65)), none, none] [] _ _ from ?_)⟩
  refine px_aload_n (kk := 0) rfl rfl rfl ?_
  refine px_callV0 CX12_layThen [] [] (vX12_layThen (I := I1) (tx := tx) ((hF.2.1 1 (by decide)).trans hn) hn8 (MT_of hWR.1 hM) (LawR_mv hT (hF.2.1 29 (by decide)) (fun c hc => hF.1 c (fun e => by simp only [List.mem_cons, List.not_mem_nil, or_false] at e hc; omega))) (by rw [hF.1 69 (by decide)]; exact hL)) rfl gS_65 (by decide) rfl rfl rfl (Nat.le_of_ble_eq_true rfl) (by decide) ?_
  rintro _ _ - ⟨rfl, I2, rfl, f2, h87⟩
  have hnx : ∀ l, l < n → I2 87 l = (sp_nx tx n (I 69) (I 68) (I 65 7) (I 66) M (fun _ => nI 0)) l := fun l hl => by
    rw [h87 l hl, hF.1 69 (by decide), hF.1 68 (by decide), hF.2.1 7 (by decide)]
    exact sp_nx_congr hn8 hM (fun j hj => by rw [hF.1 84 (by decide)]; exact h84 j hj) hWR.1 (fun j hj => by rw [hF.1 86 (by decide)]; exact h86 j hj) hl
  have hn2 : I2 65 1 = nI n := by rw [f2 65 (by decide)]; exact (hF.2.1 1 (by decide)).trans hn
  refine px_iconst (v := nI 0) rfl k_0 ?_
  refine px_ist1 rfl rfl (by decide) ?_
  refine px_iconst (v := nI 0) rfl k_0 ?_
  refine px_ist2 rfl rfl (by decide) ?_
  refine pxv_post (lX12_worth0 (I := I2) hn2 hn8 ((congrFun (f2 65 (by decide)) 39).trans hWR.2.2.2.2.2) (k := 0) (by omega)) (fun r S hr => ?_)
  obtain ⟨rfl, rfl⟩ := hr
  exact ⟨by rw [sp_sum_congr hnx], I2, rfl, f2⟩
theorem lX12_worth1 {I : Nat → Nat → Int32} {J : Nat → Nat → Int64} {p : Bool × Option Nat} {ro : List (Nat × Nat × (Nat → Int32))} {n : Nat} (hn : I 65 1 = nI n) (hn8 : n ≤ 8) (h39 : I 65 39 = nI 1) {k : Nat} (hk : k ≤ n) : Px 5 0 0 CX12_worthNow 6 [some (.ref (65)), some (.int ((sp_pop (sp_bits (fun l => decide (I 67 l ≤ I 87 l)) k)))), some (.int (nI k))] [] (gS, I, J, gR p, ro) (qI (sp_pop (sp_bits (fun l => decide (I 67 l ≤ I 87 l)) n)) (gS, I, J, gR p, ro)) := by
  refine px_iload_n (kk := 2) rfl rfl rfl ?_
  refine px_aload_n (kk := 0) rfl rfl rfl ?_
  refine px_getIe (v := nI n) rfl gS_65 rfl hn ?_
  refine px_icmp_ge rfl (fun c9 => ?_) (fun c9 => ?_)
  · refine px_iload_n (kk := 1) rfl rfl rfl ?_
    refine px_ireturn rfl (.inl rfl) ?_
    rw [n_le (by omega) (by omega)] at c9
    obtain rfl : k = n := by omega
    exact ⟨rfl, rfl⟩
  · rw [n_le (by omega) (by omega)] at c9
    refine px_iload_n (kk := 1) rfl rfl rfl ?_
    refine px_aload_n (kk := 0) rfl rfl rfl ?_
    refine px_getIe (v := nI 1) rfl gS_65 rfl h39 ?_
    refine px_if_ne rfl (fun _ => ?_) (fun h => absurd h (by decide))
    refine px_aload_n (kk := 0) rfl rfl rfl ?_
    refine px_getR (r := 87) rfl gS_65 rfl (gR_65_33 _) ?_
    refine px_iload_n (kk := 2) rfl rfl rfl ?_
    refine px_iald (j := k) rfl gS_87 rfl (by omega) ?_
    refine px_aload_n (kk := 0) rfl rfl rfl ?_
    refine px_getR (r := 67) rfl gS_65 rfl (gR_65_3 _) ?_
    refine px_iload_n (kk := 2) rfl rfl rfl ?_
    refine px_iald (j := k) rfl gS_67 rfl (by omega) ?_
    refine px_icmp_lt rfl (fun c27 => ?_) (fun c27 => ?_)
    · refine px_iconst (v := nI 0) rfl k_0 ?_
      refine px_iadd rfl ?_
      refine px_ist1 rfl rfl (by decide) ?_
      refine px_iinc2 (v := nI (k + 1)) rfl (n_inc k) rfl (by decide) ?_
      refine px_goto rfl ?_
      refine px_l1 (y := (sp_pop (sp_bits (fun l => decide (I 67 l ≤ I 87 l)) (k + 1)))) (by rw [sp_pop_s _ (by omega), if_neg (by simp only [decide_eq_true_eq]; rw [i_le]; rw [i_lt] at c27; omega)]) (lX12_worth1 hn hn8 h39 (k := k + 1) (by omega))
    · refine px_iconst (v := nI 1) rfl k_1 ?_
      refine px_goto rfl ?_
      refine px_iadd rfl ?_
      refine px_ist1 rfl rfl (by decide) ?_
      refine px_iinc2 (v := nI (k + 1)) rfl (n_inc k) rfl (by decide) ?_
      refine px_goto rfl ?_
      refine px_l1 (y := (sp_pop (sp_bits (fun l => decide (I 67 l ≤ I 87 l)) (k + 1)))) (by rw [sp_pop_s _ (by omega), if_pos (by simp only [decide_eq_true_eq]; rw [i_le]; rw [i_lt] at c27; omega)]) (lX12_worth1 hn hn8 h39 (k := k + 1) (by omega))
termination_by n - k
decreasing_by all_goals (have h := ‹¬ nI n ≤ nI k›; rw [n_le (by omega) (by omega)] at h; omega)
theorem vX12_worth1 {I : Nat → Nat → Int32} {J : Nat → Nat → Int64} {p : Bool × Option Nat} {ro : List (Nat × Nat × (Nat → Int32))} {tx : List Ln} (hT : LawR tx I) {n : Nat} (hn : I 65 1 = nI n) (hn8 : n ≤ 8) (hL : LK n (I 69)) (h84 : ∀ l, l < n → I 84 l = I 66 l) (h86 : ∀ l, l < n → I 86 l = nI 0) {M : Nat → Int32} {v : VS} {I1 : Nat → Nat → Int32} {J1 : Nat → Nat → Int64} (hF : WF I J I1 J1) (hM : MT n M) (hWR : WR n 1 M v I1 J1) : Pv 5 0 0 CX12_worthNow [.ref (65)] (gS, I1, J1, gR p, ro) (fun r S' => r = some (.int (sp_pop (sp_bits (fun l => decide (I 67 l ≤ (sp_nx tx n (I 69) (I 68) (I 65 7) (I 66) M (fun _ => nI 0)) l)) n))) ∧ ∃ I', S' = (gS, I', J1, gR p, ro) ∧ Fr [82, 83, 87] I1 I') := by
  refine ⟨okCX12_worthNow, Nat.le_of_ble_eq_true rfl, (show Px _ _ _ _ 0 [some (.ref (65)), none, none] [] _ _ from ?_)⟩
  refine px_aload_n (kk := 0) rfl rfl rfl ?_
  refine px_callV0 CX12_layThen [] [] (vX12_layThen (I := I1) (tx := tx) ((hF.2.1 1 (by decide)).trans hn) hn8 (MT_of hWR.1 hM) (LawR_mv hT (hF.2.1 29 (by decide)) (fun c hc => hF.1 c (fun e => by simp only [List.mem_cons, List.not_mem_nil, or_false] at e hc; omega))) (by rw [hF.1 69 (by decide)]; exact hL)) rfl gS_65 (by decide) rfl rfl rfl (Nat.le_of_ble_eq_true rfl) (by decide) ?_
  rintro _ _ - ⟨rfl, I2, rfl, f2, h87⟩
  have hnx : ∀ l, l < n → I2 87 l = (sp_nx tx n (I 69) (I 68) (I 65 7) (I 66) M (fun _ => nI 0)) l := fun l hl => by
    rw [h87 l hl, hF.1 69 (by decide), hF.1 68 (by decide), hF.2.1 7 (by decide)]
    exact sp_nx_congr hn8 hM (fun j hj => by rw [hF.1 84 (by decide)]; exact h84 j hj) hWR.1 (fun j hj => by rw [hF.1 86 (by decide)]; exact h86 j hj) hl
  have hn2 : I2 65 1 = nI n := by rw [f2 65 (by decide)]; exact (hF.2.1 1 (by decide)).trans hn
  refine px_iconst (v := nI 0) rfl k_0 ?_
  refine px_ist1 rfl rfl (by decide) ?_
  refine px_iconst (v := nI 0) rfl k_0 ?_
  refine px_ist2 rfl rfl (by decide) ?_
  refine px_l1 (y := sp_pop (sp_bits (fun l => decide (I2 67 l ≤ I2 87 l)) 0)) (by rw [sp_bits, bits_0]) ?_
  refine pxv_post (lX12_worth1 (I := I2) hn2 hn8 ((congrFun (f2 65 (by decide)) 39).trans hWR.2.2.2.2.2) (k := 0) (by omega)) (fun r S hr => ?_)
  obtain ⟨rfl, rfl⟩ := hr
  exact ⟨by rw [sp_bits_congr (r := fun l => decide (I 67 l ≤ (sp_nx tx n (I 69) (I 68) (I 65 7) (I 66) M (fun _ => nI 0)) l)) (fun l hl => by rw [f2 67 (by decide), hF.1 67 (by decide), hnx l hl])], I2, rfl, f2⟩
theorem lX12_told {I : Nat → Nat → Int32} {J : Nat → Nat → Int64} {p : Bool × Option Nat} {ro : List (Nat × Nat × (Nat → Int32))} {n : Nat} (hn : I 65 1 = nI n) (hn8 : n ≤ 8) {s z : Nat} (hs : s < 6) (hz : I 99 s = nI z) (hz60 : z ≤ 60) (h44 : I 65 44 = nI s) {k : Nat} (hk : k ≤ n) (hno : ∀ l, l < k → l < z → I 87 l = (fun j => (J 100 (60 * s + j)).toInt32) l) : Px 5 0 0 CX12_isTold 4 [some (.ref (65)), some (.int (nI k))] [] (gS, I, J, gR p, ro) (qB (TD n z (fun j => (J 100 (60 * s + j)).toInt32) (I 87)) (gS, I, J, gR p, ro)) := by
  refine px_iload_n (kk := 1) rfl rfl rfl ?_
  refine px_aload_n (kk := 0) rfl rfl rfl ?_
  refine px_getIe (v := nI n) rfl gS_65 rfl hn ?_
  refine px_icmp_ge rfl (fun c7 => ?_) (fun c7 => ?_)
  · refine px_iconst (v := nI 1) rfl k_1 ?_
    refine px_ireturn rfl (.inr ⟨rfl, by decide⟩) ?_
    rw [n_le (by omega) (by omega)] at c7
    obtain rfl : k = n := by omega
    exact qB_t (fun l h1 h2 => hno l h1 h2)
  · rw [n_le (by omega) (by omega)] at c7
    refine px_iload_n (kk := 1) rfl rfl rfl ?_
    refine px_aload_n (kk := 0) rfl rfl rfl ?_
    refine px_getR (r := 99) rfl gS_65 rfl (gR_65_60 _) ?_
    refine px_aload_n (kk := 0) rfl rfl rfl ?_
    refine px_getIe (v := nI s) rfl gS_65 rfl h44 ?_
    refine px_ialde (j := s) (v := nI z) rfl gS_99 rfl hs hz ?_
    refine px_icmp_ge rfl (fun c14 => ?_) (fun c14 => ?_)
    · refine px_iconst (v := nI 1) rfl k_1 ?_
      refine px_ireturn rfl (.inr ⟨rfl, by decide⟩) ?_
      rw [n_le (by omega) (by omega)] at c14
      exact qB_t (fun l h1 h2 => hno l (by omega) h2)
    · rw [n_le (by omega) (by omega)] at c14
      refine px_aload_n (kk := 0) rfl rfl rfl ?_
      refine px_getR (r := 87) rfl gS_65 rfl (gR_65_33 _) ?_
      refine px_iload_n (kk := 1) rfl rfl rfl ?_
      refine px_iald (j := k) rfl gS_87 rfl (by omega) ?_
      refine px_aload_n (kk := 0) rfl rfl rfl ?_
      refine px_aload_n (kk := 0) rfl rfl rfl ?_
      refine px_getIe (v := nI s) rfl gS_65 rfl h44 ?_
      refine px_iload_n (kk := 1) rfl rfl rfl ?_
      refine px_callV0 CX12_at [.int _] [.int _, .int _] (vX12_at hs (k := k) (by omega)) rfl gS_65 (by decide) rfl rfl rfl (Nat.le_of_ble_eq_true rfl) (by decide) ?_
      rintro _ _ - ⟨rfl, rfl⟩
      refine px_icmp_eq rfl (fun c24 => ?_) (fun c24 => ?_)
      · refine px_iinc1 (v := nI (k + 1)) rfl (n_inc k) rfl (by decide) ?_
        refine px_goto rfl ?_
        exact lX12_told hn hn8 hs hz hz60 h44 (k := k + 1) (by omega) (fun l h1 h2 => by
          by_cases e : l = k
          · subst e; first | exact c24 | exact Classical.byContradiction c24
          · exact hno l (by omega) h2)
      · refine px_iconst (v := nI 0) rfl k_0 ?_
        refine px_ireturn rfl (.inr ⟨rfl, by decide⟩) ?_
        exact qB_f (fun t => c24 (t k (by omega) (by omega)))
termination_by n - k
decreasing_by all_goals (have h := ‹¬ nI n ≤ nI k›; rw [n_le (by omega) (by omega)] at h; omega)
theorem vX12_isTold {I : Nat → Nat → Int32} {J : Nat → Nat → Int64} {p : Bool × Option Nat} {ro : List (Nat × Nat × (Nat → Int32))} {tx : List Ln} (hT : LawR tx I) {n : Nat} (hn : I 65 1 = nI n) (hn8 : n ≤ 8) (hL : LK n (I 69)) (h84 : ∀ l, l < n → I 84 l = I 66 l) (h86 : ∀ l, l < n → I 86 l = nI 0) {s z : Nat} (hs : s < 6) (hz : I 99 s = nI z) (hz60 : z ≤ 60) (h44 : I 65 44 = nI s) {M : Nat → Int32} {v : VS} {I1 : Nat → Nat → Int32} {J1 : Nat → Nat → Int64} (hF : WF I J I1 J1) (hM : MT n M) (hWR : WR n 3 M v I1 J1) : Pv 5 0 0 CX12_isTold [.ref (65)] (gS, I1, J1, gR p, ro) (fun r S' => ∃ I', S' = (gS, I', J1, gR p, ro) ∧ Fr [82, 83, 87] I1 I' ∧ ((TD n z (fun j => (J 100 (60 * s + j)).toInt32) (sp_nx tx n (I 69) (I 68) (I 65 7) (I 66) M (fun _ => nI 0)) ∧ r = some (.int (nI 1))) ∨ (¬ TD n z (fun j => (J 100 (60 * s + j)).toInt32) (sp_nx tx n (I 69) (I 68) (I 65 7) (I 66) M (fun _ => nI 0)) ∧ r = some (.int (nI 0))))) := by
  refine ⟨okCX12_isTold, Nat.le_of_ble_eq_true rfl, (show Px _ _ _ _ 0 [some (.ref (65)), none] [] _ _ from ?_)⟩
  refine px_aload_n (kk := 0) rfl rfl rfl ?_
  refine px_callV0 CX12_layThen [] [] (vX12_layThen (I := I1) (tx := tx) ((hF.2.1 1 (by decide)).trans hn) hn8 (MT_of hWR.1 hM) (LawR_mv hT (hF.2.1 29 (by decide)) (fun c hc => hF.1 c (fun e => by simp only [List.mem_cons, List.not_mem_nil, or_false] at e hc; omega))) (by rw [hF.1 69 (by decide)]; exact hL)) rfl gS_65 (by decide) rfl rfl rfl (Nat.le_of_ble_eq_true rfl) (by decide) ?_
  rintro _ _ - ⟨rfl, I2, rfl, f2, h87⟩
  have hnx : ∀ l, l < n → I2 87 l = (sp_nx tx n (I 69) (I 68) (I 65 7) (I 66) M (fun _ => nI 0)) l := fun l hl => by
    rw [h87 l hl, hF.1 69 (by decide), hF.1 68 (by decide), hF.2.1 7 (by decide)]
    exact sp_nx_congr hn8 hM (fun j hj => by rw [hF.1 84 (by decide)]; exact h84 j hj) hWR.1 (fun j hj => by rw [hF.1 86 (by decide)]; exact h86 j hj) hl
  have hn2 : I2 65 1 = nI n := by rw [f2 65 (by decide)]; exact (hF.2.1 1 (by decide)).trans hn
  refine px_iconst (v := nI 0) rfl k_0 ?_
  refine px_ist1 rfl rfl (by decide) ?_
  refine pxv_post (lX12_told (I := I2) (J := J1) hn2 hn8 hs (z := z) (by rw [f2 99 (by decide), hF.1 99 (by decide)]; exact hz) hz60 (by rw [f2 65 (by decide)]; exact (hF.2.1 44 (by decide)).trans h44) (k := 0) (by omega) (fun l h => absurd h (by omega))) (fun r S hr => ?_)
  rw [hF.2.2 100 (by decide)] at hr
  rcases hr with ⟨h, rfl, rfl⟩ | ⟨h, rfl, rfl⟩
  · exact ⟨I2, rfl, f2, .inl ⟨fun l h1 h2 => by rw [← hnx l h1]; exact h l h1 h2, rfl⟩⟩
  · exact ⟨I2, rfl, f2, .inr ⟨fun w => h (fun l h1 h2 => by rw [hnx l h1]; exact w l h1 h2), rfl⟩⟩
theorem vX12_visit0 {I : Nat → Nat → Int32} {J : Nat → Nat → Int64} {p : Bool × Option Nat} {ro : List (Nat × Nat × (Nat → Int32))} {tx : List Ln} (hT : LawR tx I) {n : Nat} (hn : I 65 1 = nI n) (hn8 : n ≤ 8) (hL : LK n (I 69)) (h84 : ∀ l, l < n → I 84 l = I 66 l) (h86 : ∀ l, l < n → I 86 l = nI 0) {z : Nat} {E : Nat → Int32} {M : Nat → Int32} {v : VS} {I1 : Nat → Nat → Int32} {J1 : Nat → Nat → Int64} (hF : WF I J I1 J1) (hM : MT n M) (hWR : WR n 0 M v I1 J1) : Pv 6 0 0 CX12_visitWay [.ref (65)] (gS, I1, J1, gR p, ro) (fun r S' => r = none ∧ ∃ I' J', S' = (gS, I', J', gR p, ro) ∧ WF I1 J1 I' J' ∧ WR n 0 M (sp_vis 0 n (I 69) (I 67) z E (fun M => (sp_nx tx n (I 69) (I 68) (I 65 7) (I 66) M (fun _ => nI 0))) M v) I' J') := by
  refine ⟨okCX12_visitWay, Nat.le_of_ble_eq_true rfl, (show Px _ _ _ _ 0 [some (.ref (65)), none] [] _ _ from ?_)⟩
  refine px_aload_n (kk := 0) rfl rfl rfl ?_
  refine px_getIe (v := nI 0) rfl gS_65 rfl hWR.2.2.2.2.2 ?_
  refine px_iconst (v := nI 2) rfl k_2 ?_
  refine px_icmp_ge rfl (fun h => absurd h (by decide)) (fun _ => ?_)
  refine px_aload_n (kk := 0) rfl rfl rfl ?_
  refine px_callV0 CX12_worthNow [] [] (vX12_worth0 hT hn hn8 hL h84 h86 hF hM hWR) rfl gS_65 (by decide) rfl rfl rfl (Nat.le_of_ble_eq_true rfl) (by decide) ?_
  rintro _ _ - ⟨rfl, I2, rfl, f2⟩
  refine px_ist1 rfl rfl (by decide) ?_
  refine px_iload_n (kk := 1) rfl rfl rfl ?_
  refine px_aload_n (kk := 0) rfl rfl rfl ?_
  refine px_getIe (v := v.2.2.2) rfl gS_65 rfl ((congrFun (f2 65 (by decide)) 40).trans hWR.2.2.2.2.1) ?_
  refine px_icmp_gt rfl (fun c10 => ?_) (fun c10 => ?_)
  · refine px_aload_n (kk := 0) rfl rfl rfl ?_
    refine px_iload_n (kk := 1) rfl rfl rfl ?_
    refine px_putI rfl gS_65 rfl rfl ?_
    refine px_aload_n (kk := 0) rfl rfl rfl ?_
    refine px_callV0 CX12_keepWay [] [] (vX12_keepWay (n := n) (by rw [p_up_s, p_up_n _ _ (by decide), f2 65 (by decide)]; exact (hF.2.1 1 (by decide)).trans hn) hn8) rfl gS_65 (by decide) rfl rfl rfl (Nat.le_of_ble_eq_true rfl) (by decide) ?_
    rintro _ _ - ⟨rfl, rfl⟩
    refine px_return rfl rfl ?_
    refine ⟨rfl, _, J1, rfl, ⟨Fr_up (Fr_up (Fr_mo f2 (by decide)) (by decide) _) (by decide) _, fun k hk => ?_, fun _ _ => rfl⟩, ?_⟩
    · rw [p_up_n _ _ (by decide), p_up_s, p_up_n _ _ hk, f2 65 (by decide)]
    · rw [sp_vis0, if_pos (by rw [i_lt]; rw [i_lt] at c10; exact c10)]
      obtain ⟨w1, w2, w3, w4, w5, w6⟩ := WR_fr hWR f2 (by decide)
      refine ⟨fun l hl => ?_, fun _ l hl => ?_, fun l hl => ?_, w4, ?_, ?_⟩
      · simp only [va_up, Nat.reduceEqDiff, if_true, if_false]; exact w1 l hl
      · simp only [va_up, Nat.reduceEqDiff, if_true, if_false, if_pos hl]; exact w1 l hl
      · simp only [va_up, Nat.reduceEqDiff, if_true, if_false]; exact w3 l hl
      · simp only [va_up, Nat.reduceEqDiff, if_true, if_false]
      · simp only [va_up, Nat.reduceEqDiff, if_true, if_false]; exact w6
  · refine px_return rfl rfl ?_
    refine ⟨rfl, I2, J1, rfl, WF_fr WF_rf f2 (by decide) (by decide), ?_⟩
    rw [sp_vis0, if_neg (fun h => c10 h)]
    exact WR_fr hWR f2 (by decide)
theorem vX12_visit1 {I : Nat → Nat → Int32} {J : Nat → Nat → Int64} {p : Bool × Option Nat} {ro : List (Nat × Nat × (Nat → Int32))} {tx : List Ln} (hT : LawR tx I) {n : Nat} (hn : I 65 1 = nI n) (hn8 : n ≤ 8) (hL : LK n (I 69)) (h84 : ∀ l, l < n → I 84 l = I 66 l) (h86 : ∀ l, l < n → I 86 l = nI 0) {z : Nat} {E : Nat → Int32} {M : Nat → Int32} {v : VS} {I1 : Nat → Nat → Int32} {J1 : Nat → Nat → Int64} (hF : WF I J I1 J1) (hM : MT n M) (hWR : WR n 1 M v I1 J1) : Pv 6 0 0 CX12_visitWay [.ref (65)] (gS, I1, J1, gR p, ro) (fun r S' => r = none ∧ ∃ I' J', S' = (gS, I', J', gR p, ro) ∧ WF I1 J1 I' J' ∧ WR n 1 M (sp_vis 1 n (I 69) (I 67) z E (fun M => (sp_nx tx n (I 69) (I 68) (I 65 7) (I 66) M (fun _ => nI 0))) M v) I' J') := by
  refine ⟨okCX12_visitWay, Nat.le_of_ble_eq_true rfl, (show Px _ _ _ _ 0 [some (.ref (65)), none] [] _ _ from ?_)⟩
  refine px_aload_n (kk := 0) rfl rfl rfl ?_
  refine px_getIe (v := nI 1) rfl gS_65 rfl hWR.2.2.2.2.2 ?_
  refine px_iconst (v := nI 2) rfl k_2 ?_
  refine px_icmp_ge rfl (fun h => absurd h (by decide)) (fun _ => ?_)
  refine px_aload_n (kk := 0) rfl rfl rfl ?_
  refine px_callV0 CX12_worthNow [] [] (vX12_worth1 hT hn hn8 hL h84 h86 hF hM hWR) rfl gS_65 (by decide) rfl rfl rfl (Nat.le_of_ble_eq_true rfl) (by decide) ?_
  rintro _ _ - ⟨rfl, I2, rfl, f2⟩
  refine px_ist1 rfl rfl (by decide) ?_
  refine px_iload_n (kk := 1) rfl rfl rfl ?_
  refine px_aload_n (kk := 0) rfl rfl rfl ?_
  refine px_getIe (v := v.2.2.2) rfl gS_65 rfl ((congrFun (f2 65 (by decide)) 40).trans hWR.2.2.2.2.1) ?_
  refine px_icmp_gt rfl (fun c10 => ?_) (fun c10 => ?_)
  · refine px_aload_n (kk := 0) rfl rfl rfl ?_
    refine px_iload_n (kk := 1) rfl rfl rfl ?_
    refine px_putI rfl gS_65 rfl rfl ?_
    refine px_aload_n (kk := 0) rfl rfl rfl ?_
    refine px_callV0 CX12_keepWay [] [] (vX12_keepWay (n := n) (by rw [p_up_s, p_up_n _ _ (by decide), f2 65 (by decide)]; exact (hF.2.1 1 (by decide)).trans hn) hn8) rfl gS_65 (by decide) rfl rfl rfl (Nat.le_of_ble_eq_true rfl) (by decide) ?_
    rintro _ _ - ⟨rfl, rfl⟩
    refine px_return rfl rfl ?_
    refine ⟨rfl, _, J1, rfl, ⟨Fr_up (Fr_up (Fr_mo f2 (by decide)) (by decide) _) (by decide) _, fun k hk => ?_, fun _ _ => rfl⟩, ?_⟩
    · rw [p_up_n _ _ (by decide), p_up_s, p_up_n _ _ hk, f2 65 (by decide)]
    · rw [sp_vis1, if_pos (by rw [i_lt]; rw [i_lt] at c10; exact c10)]
      obtain ⟨w1, w2, w3, w4, w5, w6⟩ := WR_fr hWR f2 (by decide)
      refine ⟨fun l hl => ?_, fun _ l hl => ?_, fun l hl => ?_, w4, ?_, ?_⟩
      · simp only [va_up, Nat.reduceEqDiff, if_true, if_false]; exact w1 l hl
      · simp only [va_up, Nat.reduceEqDiff, if_true, if_false, if_pos hl]; exact w1 l hl
      · simp only [va_up, Nat.reduceEqDiff, if_true, if_false]; exact w3 l hl
      · simp only [va_up, Nat.reduceEqDiff, if_true, if_false]
      · simp only [va_up, Nat.reduceEqDiff, if_true, if_false]; exact w6
  · refine px_return rfl rfl ?_
    refine ⟨rfl, I2, J1, rfl, WF_fr WF_rf f2 (by decide) (by decide), ?_⟩
    rw [sp_vis1, if_neg (fun h => c10 h)]
    exact WR_fr hWR f2 (by decide)
theorem lX12_take {I : Nat → Nat → Int32} {J : Nat → Nat → Int64} {p : Bool × Option Nat} {ro : List (Nat × Nat × (Nat → Int32))} {n : Nat} (hn : I 65 1 = nI n) (hn8 : n ≤ 8) (hM : MT n (I 85)) {k : Nat} (hk : k ≤ n) : Px 6 0 0 CX12_visitWay 45 [some (.ref (65)), some (.int (nI k))] [] (gS, (va_up I 90 (fun j => if j < k then (if I 85 j ≠ -1 then I 90 j + nI 1 else I 90 j) else I 90 j)), J, gR p, ro) (qV (gS, (va_up I 90 (fun j => if j < n then (if I 85 j ≠ -1 then I 90 j + nI 1 else I 90 j) else I 90 j)), J, gR p, ro)) := by
  refine px_iload_n (kk := 1) rfl rfl rfl ?_
  refine px_aload_n (kk := 0) rfl rfl rfl ?_
  refine px_getIe (v := nI n) rfl gS_65 rfl ((congrFun (p_up_n _ _ (by decide)) 1).trans hn) ?_
  refine px_icmp_ge rfl (fun c48 => ?_) (fun c48 => ?_)
  · refine px_return rfl rfl ?_
    rw [n_le (by omega) (by omega)] at c48
    obtain rfl : k = n := by omega
    exact ⟨rfl, rfl⟩
  · rw [n_le (by omega) (by omega)] at c48
    refine px_aload_n (kk := 0) rfl rfl rfl ?_
    refine px_getR (r := 85) rfl gS_65 rfl (gR_65_31 _) ?_
    refine px_iload_n (kk := 1) rfl rfl rfl ?_
    refine px_ialde (j := k) (v := I 85 k) rfl gS_85 rfl (by omega) (congrFun (p_up_n _ _ (by decide)) k) ?_
    refine px_if_lt rfl (fun c53 => ?_) (fun c53 => ?_)
    · refine px_iinc1 (v := nI (k + 1)) rfl (n_inc k) rfl (by decide) ?_
      refine px_goto rfl ?_
      refine px_mem ?_ (lX12_take hn hn8 hM (k := k + 1) (by omega))
      refine Eq.trans ?_ (fillf_next I 90 k (fun j => if I 85 j ≠ -1 then I 90 j + nI 1 else I 90 j))
      rw [up2]
      congr 1
      funext j
      by_cases e : j = k
      · subst e
        rw [p_up_s, if_neg (Nat.lt_irrefl _)]
        exact (if_neg (fun z => z ((MT_ge hM (by omega) hn8).mp (by first | exact c53 | (rw [i_lt]; rw [i_le] at c53; omega)))) : (if I 85 j ≠ -1 then I 90 j + nI 1 else I 90 j) = I 90 j).symm
      · rw [p_up_n _ _ e]
    · refine px_aload_n (kk := 0) rfl rfl rfl ?_
      refine px_getR (r := 90) rfl gS_65 rfl (gR_65_43 _) ?_
      refine px_iload_n (kk := 1) rfl rfl rfl ?_
      refine px_dup2 rfl rfl rfl ?_
      refine px_ialde (j := k) (v := I 90 k) rfl gS_90 rfl (by omega) (by rw [p_up_s, if_neg (by omega)]) ?_
      refine px_iconst (v := nI 1) rfl k_1 ?_
      refine px_iadd rfl ?_
      refine px_iast (j := k) rfl gS_90 rfl (by omega) ?_
      refine px_iinc1 (v := nI (k + 1)) rfl (n_inc k) rfl (by decide) ?_
      refine px_goto rfl ?_
      refine px_mem ?_ (lX12_take hn hn8 hM (k := k + 1) (by omega))
      rw [p_up_s]
      refine Eq.trans ?_ (fillf_next I 90 k (fun j => if I 85 j ≠ -1 then I 90 j + nI 1 else I 90 j))
      rw [show (if I 85 k ≠ -1 then I 90 k + nI 1 else I 90 k) = I 90 k + nI 1 from if_pos (fun e => (by first | exact c53 | (intro z; rw [i_lt] at z; rw [i_le] at c53; omega) : ¬ I 85 k < 0) ((MT_ge hM (by omega) hn8).mpr e))]
termination_by n - k
decreasing_by all_goals (have h := ‹¬ nI n ≤ nI k›; rw [n_le (by omega) (by omega)] at h; omega)
theorem WR_take {n aim : Nat} (hn8 : n ≤ 8) {M : Nat → Int32} {v : VS} {I1 I2 I3 : Nat → Nat → Int32} {J1 J2 : Nat → Nat → Int64} (h : WR n aim M v I1 J1) (hf : v.2.2.1 < 2 ^ 31) (f2 : Fr [89] I1 I2) (h89 : ∀ l, l < n → I2 89 l = (if v.2.2.1 = 0 then M l else I1 89 l)) (hJ : J2 65 41 = J1 65 41 + 1) (h3 : I3 = va_up I2 90 (fun j => if j < n then (if I2 85 j ≠ -1 then I2 90 j + nI 1 else I2 90 j) else I2 90 j)) : WR n aim M (sp_take M v) I3 J2 := by
  obtain ⟨w1, w2, w3, w4, w5, w6⟩ := h
  have e85 := f2 85 (by decide)
  have e90 := f2 90 (by decide)
  have e65 := f2 65 (by decide)
  refine ⟨fun l hl => ?_, fun _ l hl => ?_, fun l hl => ?_, ?_, ?_, ?_⟩
  · rw [h3, p_up_n _ _ (by decide), e85]; exact w1 l hl
  · rw [h3, p_up_n _ _ (by decide), h89 l hl]
    show _ = (if v.2.2.1 = 0 then M else v.1) l
    by_cases c : v.2.2.1 = 0
    · rw [if_pos c, if_pos c]
    · rw [if_neg c, if_neg c]; exact w2 (.inl c) l hl
  · rw [h3, p_up_s, if_pos hl, e85, e90, w1 l hl, w3 l hl]; rfl
  · rw [hJ, w4, l_1, j_add (by omega) (by omega)]; rfl
  · rw [h3, p_up_n _ _ (by decide), e65]; exact w5
  · rw [h3, p_up_n _ _ (by decide), e65]; exact w6
theorem lX12_cnt {I : Nat → Nat → Int32} {J : Nat → Nat → Int64} {p : Bool × Option Nat} {ro : List (Nat × Nat × (Nat → Int32))} {I1 : Nat → Nat → Int32} {J1 : Nat → Nat → Int64} {n : Nat} (hn : I1 65 1 = nI n) (hn8 : n ≤ 8) {M : Nat → Int32} {v : VS} (hM : MT n M) {aim : Nat} (hWR : WR n aim M v I1 J1) (hf : v.2.2.1 < 2 ^ 31) {o : Option Value} : Px 6 0 0 CX12_visitWay 30 [some (.ref (65)), o] [] (gS, I1, J1, gR p, ro) (fun r S' => r = none ∧ ∃ I' J', S' = (gS, I', J', gR p, ro) ∧ WF I1 J1 I' J' ∧ WR n aim M (sp_take M v) I' J') := by
  refine px_aload_n (kk := 0) rfl rfl rfl ?_
  refine px_getJ rfl gS_65 rfl ?_
  refine px_lconst (v := 0) rfl (by decide) ?_
  refine px_lcmp rfl ?_
  refine px_if_ne rfl (fun c34 => ?_) (fun c34 => ?_)
  · refine px_aload_n (kk := 0) rfl rfl rfl ?_
    refine px_dup rfl rfl ?_
    refine px_getJ rfl gS_65 rfl ?_
    refine px_lconst (v := 1) rfl (by decide) ?_
    refine px_ladd rfl ?_
    refine px_putJ rfl gS_65 rfl rfl ?_
    refine px_iconst (v := nI 0) rfl k_0 ?_
    refine px_ist1 rfl rfl (by decide) ?_
    rw [ne_eq, lg_cmp_eq, hWR.2.2.2.1, l_0, pk_lEQ (by omega) (by omega)] at c34
    refine px_mem (fill_0f I1 90 (fun j => if I1 85 j ≠ -1 then I1 90 j + nI 1 else I1 90 j)) ?_
    refine pxv_post (lX12_take (I := I1) (n := n) (hn) hn8 (MT_of hWR.1 hM) (k := 0) (by omega)) (fun r S hr => ?_)
    obtain ⟨rfl, rfl⟩ := hr
    refine ⟨rfl, _, (va_up J1 65 (va_up (J1 65) 41 (J1 65 41 + 1))), rfl, ⟨Fr_up Fr_rf (by decide) _, fun k hk => ?_, fun c hc => p_up_n _ _ hc⟩, WR_take hn8 hWR hf Fr_rf (fun l hl => by rw [if_neg c34]) (by rw [p_up_s, p_up_s]) rfl⟩
    rw [p_up_n _ _ (by decide)]
  · refine px_aload_n (kk := 0) rfl rfl rfl ?_
    refine px_callV0 CX12_keepWay [] [] (vX12_keepWay hn hn8) rfl gS_65 (by decide) rfl rfl rfl (Nat.le_of_ble_eq_true rfl) (by decide) ?_
    rintro _ _ - ⟨rfl, rfl⟩
    refine px_aload_n (kk := 0) rfl rfl rfl ?_
    refine px_dup rfl rfl ?_
    refine px_getJ rfl gS_65 rfl ?_
    refine px_lconst (v := 1) rfl (by decide) ?_
    refine px_ladd rfl ?_
    refine px_putJ rfl gS_65 rfl rfl ?_
    refine px_iconst (v := nI 0) rfl k_0 ?_
    refine px_ist1 rfl rfl (by decide) ?_
    rw [lg_cmp_eq, hWR.2.2.2.1, l_0, pk_lEQ (by omega) (by omega)] at c34
    refine px_mem (fill_0f (va_up I1 89 (fun j => if j < n then I1 85 j else I1 89 j)) 90 (fun j => if (va_up I1 89 (fun j => if j < n then I1 85 j else I1 89 j)) 85 j ≠ -1 then (va_up I1 89 (fun j => if j < n then I1 85 j else I1 89 j)) 90 j + nI 1 else (va_up I1 89 (fun j => if j < n then I1 85 j else I1 89 j)) 90 j)) ?_
    refine pxv_post (lX12_take (I := (va_up I1 89 (fun j => if j < n then I1 85 j else I1 89 j))) (n := n) (by rw [p_up_n _ _ (by decide)]; exact hn) hn8 (by rw [p_up_n _ _ (by decide)]; exact MT_of hWR.1 hM) (k := 0) (by omega)) (fun r S hr => ?_)
    obtain ⟨rfl, rfl⟩ := hr
    refine ⟨rfl, _, (va_up J1 65 (va_up (J1 65) 41 (J1 65 41 + 1))), rfl, ⟨Fr_up (Fr_up Fr_rf (by decide) _) (by decide) _, fun k hk => ?_, fun c hc => p_up_n _ _ hc⟩, WR_take hn8 hWR hf (Fr_up Fr_rf (by decide) _) (fun l hl => by rw [p_up_s, if_pos hl, if_pos c34]; exact hWR.1 l hl) (by rw [p_up_s, p_up_s]) rfl⟩
    rw [p_up_n _ _ (by decide), p_up_n _ _ (by decide)]
theorem vX12_visit2 {I : Nat → Nat → Int32} {J : Nat → Nat → Int64} {p : Bool × Option Nat} {ro : List (Nat × Nat × (Nat → Int32))} {tx : List Ln} (hT : LawR tx I) {n : Nat} (hn : I 65 1 = nI n) (hn8 : n ≤ 8) (hL : LK n (I 69)) (h84 : ∀ l, l < n → I 84 l = I 66 l) (h86 : ∀ l, l < n → I 86 l = nI 0) {z : Nat} {E : Nat → Int32} {M : Nat → Int32} {v : VS} {I1 : Nat → Nat → Int32} {J1 : Nat → Nat → Int64} (hF : WF I J I1 J1) (hM : MT n M) (hWR : WR n 2 M v I1 J1) (hf : v.2.2.1 < 2 ^ 31) : Pv 6 0 0 CX12_visitWay [.ref (65)] (gS, I1, J1, gR p, ro) (fun r S' => r = none ∧ ∃ I' J', S' = (gS, I', J', gR p, ro) ∧ WF I1 J1 I' J' ∧ WR n 2 M (sp_vis 2 n (I 69) (I 67) z E (fun M => (sp_nx tx n (I 69) (I 68) (I 65 7) (I 66) M (fun _ => nI 0))) M v) I' J') := by
  refine ⟨okCX12_visitWay, Nat.le_of_ble_eq_true rfl, (show Px _ _ _ _ 0 [some (.ref (65)), none] [] _ _ from ?_)⟩
  refine px_aload_n (kk := 0) rfl rfl rfl ?_
  refine px_getIe (v := nI 2) rfl gS_65 rfl hWR.2.2.2.2.2 ?_
  refine px_iconst (v := nI 2) rfl k_2 ?_
  refine px_icmp_ge rfl (fun _ => ?_) (fun h => absurd h (by decide))
  refine px_aload_n (kk := 0) rfl rfl rfl ?_
  refine px_getIe (v := nI 2) rfl gS_65 rfl hWR.2.2.2.2.2 ?_
  refine px_iconst (v := nI 2) rfl k_2 ?_
  refine px_icmp_ne rfl (fun h => absurd h (by decide)) (fun _ => ?_)
  refine px_aload_n (kk := 0) rfl rfl rfl ?_
  refine px_callV0 CX12_isStable [] [] (vX12_isStable (I := I1) ((hF.2.1 1 (by decide)).trans hn) hn8 (MT_of hWR.1 hM)) rfl gS_65 (by decide) rfl rfl rfl (Nat.le_of_ble_eq_true rfl) (by decide) ?_
  rintro _ _ - (⟨ht, rfl, rfl⟩ | ⟨ht, rfl, rfl⟩)
  · rw [hF.1 69 (by decide), ST_cg hWR.1] at ht
    refine px_if_ne rfl (fun _ => ?_) (fun h => absurd h (by decide))
    rw [sp_vis2, if_pos ht]
    exact lX12_cnt (I := I) (J := J) ((hF.2.1 1 (by decide)).trans hn) hn8 hM hWR hf
  · rw [hF.1 69 (by decide), ST_cg hWR.1] at ht
    refine px_if_ne rfl (fun h => absurd h (by decide)) (fun _ => ?_)
    refine px_goto rfl ?_
    refine px_return rfl rfl ?_
    exact ⟨rfl, I1, J1, rfl, WF_rf, by rw [sp_vis2, if_neg ht]; exact hWR⟩
theorem vX12_visit3 {I : Nat → Nat → Int32} {J : Nat → Nat → Int64} {p : Bool × Option Nat} {ro : List (Nat × Nat × (Nat → Int32))} {tx : List Ln} (hT : LawR tx I) {n : Nat} (hn : I 65 1 = nI n) (hn8 : n ≤ 8) (hL : LK n (I 69)) (h84 : ∀ l, l < n → I 84 l = I 66 l) (h86 : ∀ l, l < n → I 86 l = nI 0) {s z : Nat} (hs : s < 6) (hz : I 99 s = nI z) (hz60 : z ≤ 60) (h44 : I 65 44 = nI s) {M : Nat → Int32} {v : VS} {I1 : Nat → Nat → Int32} {J1 : Nat → Nat → Int64} (hF : WF I J I1 J1) (hM : MT n M) (hWR : WR n 3 M v I1 J1) (hf : v.2.2.1 < 2 ^ 31) : Pv 6 0 0 CX12_visitWay [.ref (65)] (gS, I1, J1, gR p, ro) (fun r S' => r = none ∧ ∃ I' J', S' = (gS, I', J', gR p, ro) ∧ WF I1 J1 I' J' ∧ WR n 3 M (sp_vis 3 n (I 69) (I 67) z (fun j => (J 100 (60 * s + j)).toInt32) (fun M => (sp_nx tx n (I 69) (I 68) (I 65 7) (I 66) M (fun _ => nI 0))) M v) I' J') := by
  refine ⟨okCX12_visitWay, Nat.le_of_ble_eq_true rfl, (show Px _ _ _ _ 0 [some (.ref (65)), none] [] _ _ from ?_)⟩
  refine px_aload_n (kk := 0) rfl rfl rfl ?_
  refine px_getIe (v := nI 3) rfl gS_65 rfl hWR.2.2.2.2.2 ?_
  refine px_iconst (v := nI 2) rfl k_2 ?_
  refine px_icmp_ge rfl (fun _ => ?_) (fun h => absurd h (by decide))
  refine px_aload_n (kk := 0) rfl rfl rfl ?_
  refine px_getIe (v := nI 3) rfl gS_65 rfl hWR.2.2.2.2.2 ?_
  refine px_iconst (v := nI 2) rfl k_2 ?_
  refine px_icmp_ne rfl (fun _ => ?_) (fun h => absurd h (by decide))
  refine px_aload_n (kk := 0) rfl rfl rfl ?_
  refine px_callV0 CX12_isTold [] [] (vX12_isTold hT hn hn8 hL h84 h86 hs hz hz60 h44 hF hM hWR) rfl gS_65 (by decide) rfl rfl rfl (Nat.le_of_ble_eq_true rfl) (by decide) ?_
  rintro _ _ - ⟨I2, rfl, f2, (⟨ht, rfl⟩ | ⟨ht, rfl⟩)⟩
  · refine px_if_ne rfl (fun _ => ?_) (fun h => absurd h (by decide))
    rw [sp_vis3, if_pos ht]
    refine pxv_post (lX12_cnt (I := I) (J := J) (by rw [f2 65 (by decide)]; exact ((hF.2.1 1 (by decide)).trans hn)) hn8 hM (WR_fr hWR f2 (by decide)) hf) (fun r S hr => ?_)
    obtain ⟨rfl, I3, J3, rfl, hF3, hW3⟩ := hr
    exact ⟨rfl, I3, J3, rfl, WF_tr (WF_fr WF_rf f2 (by decide) (by decide)) hF3, hW3⟩
  · refine px_if_ne rfl (fun h => absurd h (by decide)) (fun _ => ?_)
    refine px_return rfl rfl ?_
    exact ⟨rfl, I2, J1, rfl, WF_fr WF_rf f2 (by decide) (by decide), by rw [sp_vis3, if_neg ht]; exact WR_fr hWR f2 (by decide)⟩
theorem WR_tie {n aim : Nat} {M : Nat → Int32} {v : VS} {I : Nat → Nat → Int32} {J : Nat → Nat → Int64} (h : WR n aim M v I J) (k e : Nat) : WR n aim (va_up (va_up M k (nI e)) e (nI k)) v (va_up I 85 (va_up (va_up (I 85) k (nI e)) e (nI k))) J := by
  obtain ⟨w1, w2, w3, w4, w5, w6⟩ := h
  refine ⟨fun l hl => ?_, fun z l hl => ?_, fun l hl => ?_, w4, ?_, ?_⟩
  · rw [p_up_s]
    by_cases h1 : l = e
    · subst h1; rw [p_up_s, p_up_s]
    · rw [p_up_n _ _ h1, p_up_n _ _ h1]
      by_cases h2 : l = k
      · subst h2; rw [p_up_s, p_up_s]
      · rw [p_up_n _ _ h2, p_up_n _ _ h2]; exact w1 l hl
  · simp only [va_up, Nat.reduceEqDiff, if_false]; exact w2 z l hl
  · simp only [va_up, Nat.reduceEqDiff, if_false]; exact w3 l hl
  · simp only [va_up, Nat.reduceEqDiff, if_false]; exact w5
  · simp only [va_up, Nat.reduceEqDiff, if_false]; exact w6
theorem WR_untie {n aim : Nat} {M : Nat → Int32} {v : VS} {I : Nat → Nat → Int32} {J : Nat → Nat → Int64} {k e : Nat} (h : WR n aim (va_up (va_up M k (nI e)) e (nI k)) v I J) (h1 : M k = -1) (h2 : M e = -1) : WR n aim M v (va_up (va_up I 85 (va_up (I 85) k (-1))) 85 (va_up (va_up I 85 (va_up (I 85) k (-1)) 85) e (-1))) J := by
  obtain ⟨w1, w2, w3, w4, w5, w6⟩ := h
  refine ⟨fun l hl => ?_, fun z l hl => ?_, fun l hl => ?_, w4, ?_, ?_⟩
  · rw [p_up_s, p_up_s]
    by_cases h3 : l = e
    · subst h3; rw [p_up_s, h2]
    · rw [p_up_n _ _ h3]
      by_cases h4 : l = k
      · subst h4; rw [p_up_s, h1]
      · rw [p_up_n _ _ h4, w1 l hl, p_up_n _ _ h3, p_up_n _ _ h4]
  · simp only [va_up, Nat.reduceEqDiff, if_false]; exact w2 z l hl
  · simp only [va_up, Nat.reduceEqDiff, if_false]; exact w3 l hl
  · simp only [va_up, Nat.reduceEqDiff, if_false]; exact w5
  · simp only [va_up, Nat.reduceEqDiff, if_false]; exact w6
theorem lX12_go {I : Nat → Nat → Int32} {J : Nat → Nat → Int64} {p : Bool × Option Nat} {ro : List (Nat × Nat × (Nat → Int32))} {n : Nat} (hn : I 65 1 = nI n) (hn8 : n ≤ 8) {aim : Nat} {V : (Nat → Int32) → VS → VS} (hV : ∀ M v, (V M v).2.2.1 ≤ v.2.2.1 + 1) {m k c : Nat} (hk : k + (m + 1) = n) (hc : 0 < c) (hc4 : c ≤ 8) (hGo : ∀ (c : Nat) (M : Nat → Int32) (v : VS) (I1 : Nat → Nat → Int32) (J1 : Nat → Nat → Int64), c ≤ 8 → WF I J I1 J1 → MT n M → (∀ l, n ≤ l → M l = -1) → v.2.2.1 + 8 ^ m < 2 ^ 31 → WR n aim M v I1 J1 → Pv (7 + m) 0 0 CX12_goWays [.ref 65, .int (nI (k + 1)), .int (nI c)] (gS, I1, J1, gR p, ro) (fun r S' => r = none ∧ ∃ I' J', S' = (gS, I', J', gR p, ro) ∧ WF I J I' J' ∧ WR n aim M (sp_go n V m c M v) I' J')) {M : Nat → Int32} (hM : MT n M) (hMo : ∀ l, n ≤ l → M l = -1) (hMk : M k = -1) {e : Nat} (hke : k < e) (he : e ≤ n) {v : VS} (hf : v.2.2.1 + (n - e) * 8 ^ m < 2 ^ 31) {I1 : Nat → Nat → Int32} {J1 : Nat → Nat → Int64} (hF : WF I J I1 J1) (hWR : WR n aim M v I1 J1) : Px (7 + m + 1) 0 0 CX12_goWays 25 [some (.ref (65)), some (.int (nI k)), some (.int (nI c)), some (.int (nI e))] [] (gS, I1, J1, gR p, ro) (fun r S' => r = none ∧ ∃ I' J', S' = (gS, I', J', gR p, ro) ∧ WF I J I' J' ∧ WR n aim M (sp_loop (fun e v => if M e ≠ -1 then v else sp_go n V m (c - 1) (va_up (va_up M k (nI e)) e (nI k)) v) (n - e) e v) I' J') := by
  refine px_iload_n (kk := 3) rfl rfl rfl ?_
  refine px_aload_n (kk := 0) rfl rfl rfl ?_
  refine px_getIe (v := nI n) rfl gS_65 rfl ((hF.2.1 1 (by decide)).trans hn) ?_
  refine px_icmp_ge rfl (fun c28 => ?_) (fun c28 => ?_)
  · refine px_return rfl rfl ?_
    rw [n_le (by omega) (by omega)] at c28
    obtain rfl : e = n := by omega
    rw [Nat.sub_self]
    exact ⟨rfl, I1, J1, rfl, hF, hWR⟩
  · rw [n_le (by omega) (by omega)] at c28
    have hu : sp_loop (fun e v => if M e ≠ -1 then v else sp_go n V m (c - 1) (va_up (va_up M k (nI e)) e (nI k)) v) (n - e) e v = sp_loop (fun e v => if M e ≠ -1 then v else sp_go n V m (c - 1) (va_up (va_up M k (nI e)) e (nI k)) v) (n - (e + 1)) (e + 1) (if M e ≠ -1 then v else sp_go n V m (c - 1) (va_up (va_up M k (nI e)) e (nI k)) v) := by
      conv => lhs; rw [show n - e = (n - (e + 1)) + 1 by omega]; unfold sp_loop
    rw [hu]
    have hpe : (n - e) * 8 ^ m = (n - (e + 1)) * 8 ^ m + 8 ^ m := by
      rw [show n - e = (n - (e + 1)) + 1 by omega, Nat.add_mul, Nat.one_mul]
    refine px_aload_n (kk := 0) rfl rfl rfl ?_
    refine px_getR (r := 85) rfl gS_65 rfl (gR_65_31 _) ?_
    refine px_iload_n (kk := 3) rfl rfl rfl ?_
    refine px_ialde (j := e) (v := M e) rfl gS_85 rfl (by omega) (hWR.1 e (by omega)) ?_
    refine px_if_lt rfl (fun c33 => ?_) (fun c33 => ?_)
    · have hMe : M e = -1 := (MT_ge hM (by omega) hn8).mp (by first | exact c33 | (rw [i_lt]; rw [i_le] at c33; omega) : M e < 0)
      refine px_aload_n (kk := 0) rfl rfl rfl ?_
      refine px_iload_n (kk := 1) rfl rfl rfl ?_
      refine px_iload_n (kk := 3) rfl rfl rfl ?_
      refine px_callV0 CX12_plugs [] [.int _, .int _] (pv_mono (e := 7 + m) (by omega) (vX12_plugs (a := k) (b := e) (by omega) (by omega))) rfl gS_65 (by decide) rfl rfl rfl (Nat.le_of_ble_eq_true rfl) (by omega) ?_
      rintro _ _ - ⟨rfl, rfl⟩
      refine px_aload_n (kk := 0) rfl rfl rfl ?_
      refine px_iload_n (kk := 1) rfl rfl rfl ?_
      refine px_iconst (v := nI 1) rfl k_1 ?_
      refine px_iaddN rfl ?_
      refine px_iload_n (kk := 2) rfl rfl rfl ?_
      refine px_iconst (v := nI 1) rfl k_1 ?_
      refine px_isubN rfl (by omega) ?_
      refine px_callV0 CX12_goWays [] [.int _, .int _] (hGo (c - 1) (va_up (va_up M k (nI e)) e (nI k)) v _ _ (by omega) (WF_up hF (by decide) (by decide) _) (MT_tie hM (by omega) (by omega) (by omega) hMk hMe hn8) (fun l hl => by rw [p_up_n _ _ (by omega), p_up_n _ _ (by omega)]; exact hMo l hl) (by have : 0 ≤ (n - (e + 1)) * 8 ^ m := Nat.zero_le _; omega) (WR_tie hWR k e)) rfl gS_65 (by decide) rfl rfl rfl (Nat.le_of_ble_eq_true rfl) (by omega) ?_
      rintro _ _ - ⟨rfl, I2, J2, rfl, hF2, hW2⟩
      refine px_aload_n (kk := 0) rfl rfl rfl ?_
      refine px_getR (r := 85) rfl gS_65 rfl (gR_65_31 _) ?_
      refine px_iload_n (kk := 1) rfl rfl rfl ?_
      refine px_iconst (v := -1) rfl k_m1 ?_
      refine px_iast (j := k) rfl gS_85 rfl (by omega) ?_
      refine px_aload_n (kk := 0) rfl rfl rfl ?_
      refine px_getR (r := 85) rfl gS_65 rfl (gR_65_31 _) ?_
      refine px_iload_n (kk := 3) rfl rfl rfl ?_
      refine px_iconst (v := -1) rfl k_m1 ?_
      refine px_iast (j := e) rfl gS_85 rfl (by omega) ?_
      refine px_iinc3 (v := nI (e + 1)) rfl (n_inc e) rfl (by decide) ?_
      refine px_goto rfl ?_
      rw [if_neg (fun z => z hMe)]
      refine lX12_go hn hn8 hV hk hc hc4 hGo hM hMo hMk (e := e + 1) (by omega) (by omega) ?_ (WF_up (WF_up hF2 (by decide) (by decide) _) (by decide) (by decide) _) (WR_untie hW2 hMk hMe)
      have := sp_go_f hn8 hV m (c - 1) (va_up (va_up M k (nI e)) e (nI k)) v (by omega)
      omega
    · refine px_goto rfl ?_
      refine px_iinc3 (v := nI (e + 1)) rfl (n_inc e) rfl (by decide) ?_
      refine px_goto rfl ?_
      rw [if_pos (fun z => (by first | exact c33 | (intro z; rw [i_lt] at z; rw [i_le] at c33; omega) : ¬ M e < 0) ((MT_ge hM (by omega) hn8).mpr z))]
      exact lX12_go hn hn8 hV hk hc hc4 hGo hM hMo hMk (e := e + 1) (by omega) (by omega) (by have : 0 ≤ 8 ^ m := Nat.zero_le _; omega) hF hWR
termination_by n - e
decreasing_by all_goals (have h9 := ‹¬ nI n ≤ nI e›; rw [n_le (by omega) (by omega)] at h9; omega)
theorem lX12_rec {I : Nat → Nat → Int32} {J : Nat → Nat → Int64} {p : Bool × Option Nat} {ro : List (Nat × Nat × (Nat → Int32))} {n : Nat} (hn : I 65 1 = nI n) (hn8 : n ≤ 8) {aim : Nat} {V : (Nat → Int32) → VS → VS} (hJ : ∀ (M : Nat → Int32) (v : VS) (I1 : Nat → Nat → Int32) (J1 : Nat → Nat → Int64), WF I J I1 J1 → MT n M → v.2.2.1 < 2 ^ 31 → WR n aim M v I1 J1 → Pv 6 0 0 CX12_visitWay [.ref 65] (gS, I1, J1, gR p, ro) (fun r S' => r = none ∧ ∃ I' J', S' = (gS, I', J', gR p, ro) ∧ WF I1 J1 I' J' ∧ WR n aim M (V M v) I' J')) (hV : ∀ M v, (V M v).2.2.1 ≤ v.2.2.1 + 1) : ∀ (m k c : Nat) (M : Nat → Int32) (v : VS) (I1 : Nat → Nat → Int32) (J1 : Nat → Nat → Int64), k + m = n → c ≤ 8 → WF I J I1 J1 → MT n M → (∀ l, n ≤ l → M l = -1) → v.2.2.1 + 8 ^ m < 2 ^ 31 → WR n aim M v I1 J1 → Pv (7 + m) 0 0 CX12_goWays [.ref 65, .int (nI k), .int (nI c)] (gS, I1, J1, gR p, ro) (fun r S' => r = none ∧ ∃ I' J', S' = (gS, I', J', gR p, ro) ∧ WF I J I' J' ∧ WR n aim M (sp_go n V m c M v) I' J')
  | 0, k, c, M, v, I1, J1, hk, hc, hF, hM, hMo, hf, hWR => by
    have hk : k = n := by omega
    subst hk
    refine ⟨okCX12_goWays, Nat.le_of_ble_eq_true rfl, (show Px (6 + 1) _ _ _ 0 [some (.ref (65)), some (.int (nI k)), some (.int (nI c)), none] [] _ _ from ?_)⟩
    refine px_iload_n (kk := 1) rfl rfl rfl ?_
    refine px_aload_n (kk := 0) rfl rfl rfl ?_
    refine px_getIe (v := nI k) rfl gS_65 rfl ((hF.2.1 1 (by decide)).trans hn) ?_
    refine px_icmp_ne rfl (fun h => absurd rfl h) (fun c3 => ?_)
    refine px_aload_n (kk := 0) rfl rfl rfl ?_
    refine px_callV0 CX12_visitWay [] [] (hJ M v I1 J1 hF hM (by simp only [Nat.pow_zero] at hf; omega) hWR) rfl gS_65 (by decide) rfl rfl rfl (Nat.le_of_ble_eq_true rfl) (by decide) ?_
    rintro _ _ - ⟨rfl, I2, J2, rfl, hF2, hW2⟩
    refine px_return rfl rfl ?_
    exact ⟨rfl, I2, J2, rfl, WF_tr hF hF2, hW2⟩
  | m + 1, k, c, M, v, I1, J1, hk, hc, hF, hM, hMo, hf, hWR => by
    have hpw : 8 ^ m + m * 8 ^ m ≤ 8 ^ (m + 1) := by
      rw [Nat.pow_succ, Nat.mul_comm (8 ^ m) 8]
      have : (1 + m) * 8 ^ m ≤ 8 * 8 ^ m := Nat.mul_le_mul_right _ (by omega)
      rw [Nat.add_mul, Nat.one_mul] at this
      exact this
    have hkm : n - (m + 1) = k := by omega
    have hnm : n - m = k + 1 := by omega
    refine ⟨okCX12_goWays, Nat.le_of_ble_eq_true rfl, (show Px (7 + m + 1) _ _ _ 0 [some (.ref (65)), some (.int (nI k)), some (.int (nI c)), none] [] _ _ from ?_)⟩
    unfold sp_go
    rw [hkm, hnm]
    refine px_iload_n (kk := 1) rfl rfl rfl ?_
    refine px_aload_n (kk := 0) rfl rfl rfl ?_
    refine px_getIe (v := nI n) rfl gS_65 rfl ((hF.2.1 1 (by decide)).trans hn) ?_
    refine px_icmp_ne rfl (fun c3 => ?_) (fun h => absurd h (fun e => by rw [n_eq (by omega) (by omega)] at e; omega))
    refine px_aload_n (kk := 0) rfl rfl rfl ?_
    refine px_iload_n (kk := 1) rfl rfl rfl ?_
    refine px_iconst (v := nI 1) rfl k_1 ?_
    refine px_iaddN rfl ?_
    refine px_iload_n (kk := 2) rfl rfl rfl ?_
    refine px_callV0 CX12_goWays [] [.int _, .int _] (lX12_rec hn hn8 hJ hV m (k + 1) c M v I1 J1 (by omega) hc hF hM hMo (by omega) hWR) rfl gS_65 (by decide) rfl rfl rfl (Nat.le_of_ble_eq_true rfl) (Nat.le_refl _) ?_
    rintro _ _ - ⟨rfl, I2, J2, rfl, hF2, hW2⟩
    refine px_aload_n (kk := 0) rfl rfl rfl ?_
    refine px_getR (r := 85) rfl gS_65 rfl (gR_65_31 _) ?_
    refine px_iload_n (kk := 1) rfl rfl rfl ?_
    refine px_ialde (j := k) (v := M k) rfl gS_85 rfl (by omega) (hW2.1 k (by omega)) ?_
    refine px_if_ge rfl (fun c17 => ?_) (fun c17 => ?_)
    · refine px_return rfl rfl ?_
      rw [if_pos (Or.inl (fun e => by rw [e] at c17; exact absurd c17 (by decide)))]
      exact ⟨rfl, I2, J2, rfl, hF2, hW2⟩
    · refine px_iload_n (kk := 2) rfl rfl rfl ?_
      refine px_if_ne rfl (fun c19 => ?_) (fun c19 => ?_)
      · refine px_iload_n (kk := 1) rfl rfl rfl ?_
        refine px_iconst (v := nI 1) rfl k_1 ?_
        refine px_iaddN rfl ?_
        refine px_ist3 rfl rfl (by decide) ?_
        have hMk : M k = -1 := (MT_ge hM (by omega) hn8).mp (by rw [i_lt]; rw [i_le] at c17; omega)
        have hc0 : 0 < c := by rcases Nat.eq_zero_or_pos c with e | e; subst e; exact absurd rfl c19; exact e
        rw [if_neg (fun z => z.elim (fun y => y hMk) (fun y => by omega))]
        refine pxv_post (lX12_go (I := I) hn hn8 hV (m := m) (k := k) (c := c) (by omega) (by omega) hc (fun c M v I1 J1 hc hF hM hMo hf hWR => lX12_rec hn hn8 hJ hV m (k + 1) c M v I1 J1 (by omega) hc hF hM hMo hf hWR) hM hMo hMk (e := k + 1) (by omega) (by omega) ?_ hF2 hW2) ?_
        · have h3 := sp_go_f hn8 hV m c M v (by omega)
          rw [show n - (k + 1) = m by omega]
          omega
        · rintro r S' ⟨rfl, I3, J3, rfl, hF3, hW3⟩
          rw [show n - (k + 1) = m by omega] at hW3
          exact ⟨rfl, I3, J3, rfl, hF3, hW3⟩
      · refine px_return rfl rfl ?_
        have hc0 : c = 0 := by rw [n_0, n_eq (by omega) (by omega)] at c19; exact c19
        rw [if_pos (Or.inr hc0)]
        exact ⟨rfl, I2, J2, rfl, hF2, hW2⟩
