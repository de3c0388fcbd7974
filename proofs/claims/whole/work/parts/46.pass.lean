/-! HOW AN HOUR PASSES -/
theorem Fr_rf {cs : List Nat} {I : Nat → Nat → Int32} : Fr cs I I := fun _ _ => rfl
theorem Fr_tr {cs : List Nat} {I I1 I2 : Nat → Nat → Int32} (h : Fr cs I I1) (h2 : Fr cs I1 I2) : Fr cs I I2 := fun c hc => (h2 c hc).trans (h c hc)
theorem Fr_mo {cs ds : List Nat} {I I1 : Nat → Nat → Int32} (h : Fr cs I I1) (hs : ∀ c, c ∈ cs → c ∈ ds) : Fr ds I I1 := fun c hc => h c (fun z => hc (hs c z))
theorem Fr_up {cs : List Nat} {I I1 : Nat → Nat → Int32} (h : Fr cs I I1) {a : Nat} (ha : a ∈ cs) (f : Nat → Int32) : Fr cs I (va_up I1 a f) := fun c hc => by
  rw [p_up_n _ _ (fun e => hc (by rw [e]; exact ha))]
  exact h c hc
/-- the first nine fields of the law's object stay -/
def K6 (I I' : Nat → Nat → Int32) : Prop := ∀ k, k < 9 → I' 6 k = I 6 k
theorem K6_tr {I I1 I2 : Nat → Nat → Int32} (h : K6 I I1) (h2 : K6 I1 I2) : K6 I I2 := fun k hk => (h2 k hk).trans (h k hk)
theorem K6_up {I I1 : Nat → Nat → Int32} (h : K6 I I1) {a : Nat} (ha : a ≠ 6) (f : Nat → Int32) : K6 I (va_up I1 a f) := fun k hk => by
  rw [p_up_n _ _ (fun e => ha e.symm)]
  exact h k hk
theorem K6_fr {cs : List Nat} {I I1 : Nat → Nat → Int32} (h : Fr cs I I1) (h6 : 6 ∉ cs) : K6 I I1 := fun k _ => by rw [h 6 h6]
theorem LawC_mv {tx : List Ln} {p : Bool × Option Nat} {I I' : Nat → Nat → Int32} (h : LawC tx p I) (h6 : K6 I I') (h9 : I' 9 = I 9) (h10 : I' 10 = I 10) : LawC tx p I' := by
  refine ⟨(h6 6 (by decide)).trans h.1, h.2.1, ?_, h.2.2.2⟩
  have : I' (gA p.1) = I (gA p.1) := by
    unfold gA
    split
    · exact h10
    · exact h9
  rw [this]
  exact h.2.2.1
/-- who is through: with whom, both ways -/
def MT (n : Nat) (M : Nat → Int32) : Prop := ∀ l, l < n → M l = -1 ∨ ∃ k, k < n ∧ k ≠ l ∧ M l = nI k ∧ M k = nI l
theorem nI_nm {k : Nat} (h : k < 2 ^ 31) : nI k ≠ -1 := fun e => by
  have := congrArg Int32.toInt e
  rw [nI_toInt h, show (-1 : Int32).toInt = -1 from by decide +kernel] at this
  omega
def mN (x : Int32) : Nat := x.toNatClampNeg
theorem mN_n {k : Nat} (h : k < 2 ^ 31) : mN (nI k) = k := nI_clamp h
def sp_cl (v : Int32) : Int32 := if v < 0 then nI 0 else if nI 99 < v then nI 99 else v
theorem sp_cl_c (v : Int32) : (if nI 0 < (if v < nI 99 then v else nI 99) then (if v < nI 99 then v else nI 99) else nI 0) = sp_cl v := by
  unfold sp_cl
  have e0 : (nI 0 : Int32).toInt = 0 := by decide +kernel
  by_cases h1 : v < nI 99
  · rw [if_pos h1]
    by_cases h2 : nI 0 < v
    · rw [if_pos h2, if_neg (by rw [i_lt] at h2 ⊢; rw [i_0]; omega), if_neg (by rw [i_lt] at h1 ⊢; omega)]
    · rw [if_neg h2]
      by_cases h3 : v < 0
      · rw [if_pos h3]
      · rw [if_neg h3, if_neg (by rw [i_lt] at h1 ⊢; omega)]
        rw [i_eq, e0]
        rw [i_lt] at h2 h3
        rw [i_0] at h3
        omega
  · rw [if_neg h1, if_pos (by decide +kernel), if_neg (by rw [i_lt] at h1 ⊢; rw [i_0]; rw [t_99] at h1; omega)]
    by_cases h3 : nI 99 < v
    · rw [if_pos h3]
    · rw [if_neg h3]
      rw [i_eq]
      rw [i_lt] at h1 h3
      omega
def sp_hp (n : Nat) (P M : Nat → Int32) (l : Nat) : Bool := decide (P l ≠ nI 0) && (List.range n).any (fun e => decide (M e ≠ -1) && decide (P e = P l))
theorem sp_hp_iff {n : Nat} {P M : Nat → Int32} {l : Nat} : sp_hp n P M l = true ↔ P l ≠ nI 0 ∧ ∃ e, e < n ∧ M e ≠ -1 ∧ P e = P l := by
  simp [sp_hp]
def sp_par (P M : Nat → Int32) : Nat → Int32
  | 0 => nI 0
  | k + 1 => if M k ≠ -1 then sp_par P M k ||| (nI 1 <<< (P k &&& 31)) else sp_par P M k
theorem par_or : ∀ v, v < 16 → ∀ q, q < 4 → nI v ||| (nI 1 <<< (nI q &&& 31)) = nI (v ||| 2 ^ q) ∧ v ||| 2 ^ q < 16 := by decide +kernel
theorem par_tb : ∀ v, v < 16 → ∀ q, q < 4 → ∀ r, r < 4 → ((v ||| 2 ^ q).testBit r = true ↔ v.testBit r = true ∨ r = q) := by decide +kernel
theorem par_at : ∀ v, v < 16 → ∀ q, q < 4 → (((nI v &&& (-2)) >>> (nI q &&& 31)) &&& nI 1 ≠ 0 ↔ q ≠ 0 ∧ v.testBit q = true) := by decide +kernel
def PA (n : Nat) (P : Nat → Int32) : Prop := ∀ l, l < n → ∃ q, q < 4 ∧ P l = nI q
theorem sp_par_v {n : Nat} {P M : Nat → Int32} (hP : PA n P) : ∀ k, k ≤ n → ∃ v, v < 16 ∧ sp_par P M k = nI v ∧ ∀ q, q < 4 → (v.testBit q = true ↔ ∃ e, e < k ∧ M e ≠ -1 ∧ P e = nI q)
  | 0, _ => ⟨0, by decide, rfl, fun q _ => by simp⟩
  | k + 1, hk => by
    obtain ⟨v, hv, e, hb⟩ := sp_par_v (M := M) hP k (by omega)
    obtain ⟨q0, hq0, eq0⟩ := hP k (by omega)
    by_cases hm : M k = -1
    · refine ⟨v, hv, by simp only [sp_par, hm, ne_eq, not_true_eq_false, if_false, e], fun q hq => ?_⟩
      rw [hb q hq]
      constructor
      · rintro ⟨e, h1, h2⟩; exact ⟨e, by omega, h2⟩
      · rintro ⟨e, h1, h2, h3⟩
        refine ⟨e, ?_, h2, h3⟩
        by_cases h : e = k
        · subst h; exact absurd hm h2
        · omega
    · have h1 := par_or v hv q0 hq0
      refine ⟨v ||| 2 ^ q0, h1.2, by simp only [sp_par, ne_eq, hm, not_false_eq_true, if_true, e, eq0, h1.1], fun q hq => ?_⟩
      rw [par_tb v hv q0 hq0 q hq, hb q hq]
      constructor
      · rintro (⟨e, h1, h2⟩ | rfl)
        · exact ⟨e, by omega, h2⟩
        · exact ⟨k, by omega, hm, eq0⟩
      · rintro ⟨e, h1, h2, h3⟩
        by_cases h : e = k
        · subst h
          rw [eq0, n_eq (by omega) (by omega)] at h3
          exact Or.inr h3.symm
        · exact Or.inl ⟨e, by omega, h2, h3⟩
theorem sp_par_hp {n : Nat} {P M : Nat → Int32} (hP : PA n P) {l : Nat} (hl : l < n) : (((sp_par P M n &&& (-2)) >>> (P l &&& 31)) &&& nI 1 ≠ 0) ↔ sp_hp n P M l = true := by
  obtain ⟨v, hv, e, hb⟩ := sp_par_v (M := M) hP n (Nat.le_refl _)
  obtain ⟨q, hq, eq⟩ := hP l hl
  rw [sp_hp_iff, e, eq, par_at v hv q hq, hb q hq]
  constructor
  · rintro ⟨h1, e, h2, h3, h4⟩
    exact ⟨fun z => h1 ((n_eq (by omega) (by omega)).mp z), e, h2, h3, h4⟩
  · rintro ⟨h1, h2⟩
    exact ⟨fun z => h1 (by rw [z]), h2⟩
/-- how warm one is behind an hour in which it grows by r, if it is through -/
def sp_set (n : Nat) (W M P Rz : Nat → Int32) (co : Int32) (l : Nat) : Int32 := sp_cl (W l + (if M l ≠ -1 then Rz l else if sp_hp n P M l = true then nI 1 else -co))
def sp_up (tx : List Ln) (L P : Nat → Int32) (co : Int32) (W M H : Nat → Int32) (l : Nat) : Int32 := sp_rise tx (L (8 * l + mN (M l))) (W l) (W (mN (M l))) (H l) co (sp_one (P l) (P (mN (M l))))
def sp_nx (tx : List Ln) (n : Nat) (L P : Nat → Int32) (co : Int32) (W M H : Nat → Int32) (l : Nat) : Int32 := sp_set n W M P (sp_up tx L P co W M H) co l
theorem sp_set_congr {n : Nat} {W W' M M' P P' Rz Rz' : Nat → Int32} {co : Int32} {l : Nat} (hl : l < n) (hW : W' l = W l) (hM : ∀ j, j < n → M' j = M j) (hP : ∀ j, j < n → P' j = P j) (hR : M l ≠ -1 → Rz' l = Rz l) : sp_set n W' M' P' Rz' co l = sp_set n W M P Rz co l := by
  have hh : sp_hp n P' M' l = sp_hp n P M l := by
    have : (sp_hp n P' M' l = true) ↔ (sp_hp n P M l = true) := by
      rw [sp_hp_iff, sp_hp_iff, hP l hl]
      constructor
      · rintro ⟨h1, e, h2, h3, h4⟩; exact ⟨h1, e, h2, by rw [← hM e h2]; exact h3, by rw [← hP e h2]; exact h4⟩
      · rintro ⟨h1, e, h2, h3, h4⟩; exact ⟨h1, e, h2, by rw [hM e h2]; exact h3, by rw [hP e h2]; exact h4⟩
    exact Bool.eq_iff_iff.mpr this
  unfold sp_set
  rw [hh, hW, hM l hl]
  by_cases h : M l = -1
  · simp only [h, ne_eq, not_true_eq_false, if_false]
  · simp only [ne_eq, h, not_false_eq_true, if_true, hR h]
theorem lX5_par {I : Nat → Nat → Int32} {J : Nat → Nat → Int64} {p : Bool × Option Nat} {ro : List (Nat × Nat × (Nat → Int32))} {n : Nat} (hn : I 1 4 = nI n) (hn8 : n ≤ 8) {t : Nat} (ht : gS[t]? = some (100, 8)) {k : Nat} (hk : k ≤ n) : Px 0 0 0 CX5_partiesOf 4 [some (.ref (11)), some (.ref (t)), some (.int ((sp_par (I 4) (I t) k))), some (.int (nI k))] [] (gS, I, J, gR p, ro) (qI (sp_par (I 4) (I t) n &&& (-2)) (gS, I, J, gR p, ro)) := by
  refine px_iload_n (kk := 3) rfl rfl rfl ?_
  refine px_aload_n (kk := 0) rfl rfl rfl ?_
  refine px_getR (r := 1) rfl gS_11 rfl (gR_11_0 _) ?_
  refine px_getIe rfl gS_1 rfl hn ?_
  refine px_icmp_ge rfl (fun c8 => ?_) (fun c8 => ?_)
  · refine px_iload_n (kk := 2) rfl rfl rfl ?_
    refine px_bipush (v := -2) rfl b_m2 ?_
    refine px_iand rfl ?_
    refine px_ireturn rfl (.inl rfl) ?_
    rw [n_le (by omega) (by omega)] at c8
    obtain rfl : k = n := by omega
    exact ⟨rfl, rfl⟩
  · rw [n_le (by omega) (by omega)] at c8
    refine px_aload_n (kk := 1) rfl rfl rfl ?_
    refine px_iload_n (kk := 3) rfl rfl rfl ?_
    refine px_iald (j := k) rfl ht rfl (by omega) ?_
    refine px_iconst (v := -1) rfl k_m1 ?_
    refine px_icmp_eq rfl (fun c13 => ?_) (fun c13 => ?_)
    · refine px_iinc3 (v := nI (k + 1)) rfl (n_inc k) rfl (by decide) ?_
      refine px_goto rfl ?_
      rw [show sp_par (I 4) (I t) k = sp_par (I 4) (I t) (k + 1) by simp only [sp_par, c13, ne_eq, not_true_eq_false, if_false]]
      exact lX5_par hn hn8 ht (k := k + 1) (by omega)
    · refine px_iload_n (kk := 2) rfl rfl rfl ?_
      refine px_iconst (v := nI 1) rfl k_1 ?_
      refine px_aload_n (kk := 0) rfl rfl rfl ?_
      refine px_getR (r := 1) rfl gS_11 rfl (gR_11_0 _) ?_
      refine px_getR (r := 4) rfl gS_1 rfl (gR_1_2 _) ?_
      refine px_iload_n (kk := 3) rfl rfl rfl ?_
      refine px_iald (j := k) rfl gS_4 rfl (by omega) ?_
      refine px_ishl rfl ?_
      refine px_ior rfl ?_
      refine px_ist2 rfl rfl (by decide) ?_
      refine px_iinc3 (v := nI (k + 1)) rfl (n_inc k) rfl (by decide) ?_
      refine px_goto rfl ?_
      rw [show sp_par (I 4) (I t) k ||| (nI 1 <<< (I 4 k &&& 31)) = sp_par (I 4) (I t) (k + 1) by simp only [sp_par, c13, ne_eq, not_false_eq_true, if_true]]
      exact lX5_par hn hn8 ht (k := k + 1) (by omega)
termination_by n - k
decreasing_by all_goals (have h := ‹¬ nI n ≤ nI k›; rw [n_le (by omega) (by omega)] at h; omega)
theorem vX5_par {I : Nat → Nat → Int32} {J : Nat → Nat → Int64} {p : Bool × Option Nat} {ro : List (Nat × Nat × (Nat → Int32))} {n : Nat} (hn : I 1 4 = nI n) (hn8 : n ≤ 8) {t : Nat} (ht : gS[t]? = some (100, 8)) : Pv 0 0 0 CX5_partiesOf [.ref (11), .ref (t)] (gS, I, J, gR p, ro) (qI (sp_par (I 4) (I t) n &&& (-2)) (gS, I, J, gR p, ro)) := by
  refine ⟨okCX5_partiesOf, Nat.le_of_ble_eq_true rfl, (show Px _ _ _ _ 0 [some (.ref (11)), some (.ref (t)), none, none] [] _ _ from ?_)⟩
  refine px_iconst (v := nI 0) rfl k_0 ?_
  refine px_ist2 rfl rfl (by decide) ?_
  refine px_iconst (v := nI 0) rfl k_0 ?_
  refine px_ist3 rfl rfl (by decide) ?_
  exact lX5_par hn hn8 ht (k := 0) (by omega)
theorem lX5_settle {I : Nat → Nat → Int32} {J : Nat → Nat → Int64} {p : Bool × Option Nat} {ro : List (Nat × Nat × (Nat → Int32))} {n : Nat} (hn : I 1 4 = nI n) (hn8 : n ≤ 8) {t : Nat} (ht : gS[t]? = some (100, 8)) (t13 : t ≠ 13) {w : Nat} (hw : gS[w]? = some (100, 8)) (w13 : w ≠ 13) (hP : PA n (I 4)) {k : Nat} (hk : k ≤ n) {o : Option Value} : Px 1 0 0 CX5_settle 6 [some (.ref (11)), some (.ref (w)), some (.ref (t)), some (.int ((sp_par (I 4) (I t) n &&& (-2)))), some (.int (nI k)), o] [] (gS, (va_up I 13 (fun j => if j < k then sp_set n (I w) (I t) (I 4) (I 12) (I 1 6) j else I 13 j)), J, gR p, ro) (qV (gS, (va_up I 13 (fun j => if j < n then sp_set n (I w) (I t) (I 4) (I 12) (I 1 6) j else I 13 j)), J, gR p, ro)) := by
  refine px_iload rfl rfl ?_
  refine px_aload_n (kk := 0) rfl rfl rfl ?_
  refine px_getR (r := 1) rfl gS_11 rfl (gR_11_0 _) ?_
  refine px_getIe rfl gS_1 rfl ((congrFun (p_up_n _ _ (by decide)) 4).trans hn) ?_
  refine px_icmp_ge rfl (fun c10 => ?_) (fun c10 => ?_)
  · refine px_return rfl rfl ?_
    rw [n_le (by omega) (by omega)] at c10
    obtain rfl : k = n := by omega
    exact ⟨rfl, rfl⟩
  · rw [n_le (by omega) (by omega)] at c10
    refine px_aload_n (kk := 0) rfl rfl rfl ?_
    refine px_getR (r := 1) rfl gS_11 rfl (gR_11_0 _) ?_
    refine px_getIe rfl gS_1 rfl (congrFun (p_up_n _ _ (by decide)) 6) ?_
    refine px_ineg rfl ?_
    refine px_ist5 rfl rfl (by decide) ?_
    refine px_aload_n (kk := 2) rfl rfl rfl ?_
    refine px_iload rfl rfl ?_
    refine px_ialde (j := k) (v := I t k) rfl ht rfl (by omega) (congrFun (p_up_n _ _ t13) k) ?_
    refine px_iconst (v := -1) rfl k_m1 ?_
    refine px_icmp_eq rfl (fun c20 => ?_) (fun c20 => ?_)
    · refine px_iload_n (kk := 3) rfl rfl rfl ?_
      refine px_aload_n (kk := 0) rfl rfl rfl ?_
      refine px_getR (r := 1) rfl gS_11 rfl (gR_11_0 _) ?_
      refine px_getR (r := 4) rfl gS_1 rfl (gR_1_2 _) ?_
      refine px_iload rfl rfl ?_
      refine px_ialde (j := k) (v := I 4 k) rfl gS_4 rfl (by omega) (congrFun (p_up_n _ _ (by decide)) k) ?_
      refine px_ishr rfl ?_
      refine px_iconst (v := nI 1) rfl k_1 ?_
      refine px_iand rfl ?_
      refine px_if_eq rfl (fun c36 => ?_) (fun c36 => ?_)
      · refine px_aload_n (kk := 0) rfl rfl rfl ?_
        refine px_getR (r := 13) rfl gS_11 rfl (gR_11_3 _) ?_
        refine px_iload rfl rfl ?_
        refine px_iconst (v := nI 0) rfl k_0 ?_
        refine px_bipush (v := nI 99) rfl b_99 ?_
        refine px_aload_n (kk := 1) rfl rfl rfl ?_
        refine px_iload rfl rfl ?_
        refine px_ialde (j := k) (v := I w k) rfl hw rfl (by omega) (congrFun (p_up_n _ _ w13) k) ?_
        refine px_iload rfl rfl ?_
        refine px_iadd rfl ?_
        refine px_mmin rfl (Nat.le_of_ble_eq_true rfl) ?_
        refine px_mmax rfl (Nat.le_of_ble_eq_true rfl) ?_
        refine px_iast (j := k) rfl gS_13 rfl (by omega) ?_
        refine px_iinc4 (v := nI (k + 1)) rfl (n_inc k) rfl (by decide) ?_
        refine px_goto rfl ?_
        have hh : ¬ sp_hp n (I 4) (I t) k = true := fun z => (sp_par_hp hP (by omega)).mpr z c36
        refine px_mem (show _ = va_up I 13 (fun j => if j < k + 1 then sp_set n (I w) (I t) (I 4) (I 12) (I 1 6) j else I 13 j) from ?_) (lX5_settle hn hn8 ht t13 hw w13 hP (k := k + 1) (by omega))
        rw [up2, p_up_s]
        congr 1
        funext j
        by_cases hj : j = k
        · subst hj
          rw [p_up_s, sp_cl_c, if_pos (by omega)]
          simp only [sp_set, c20, hh, ne_eq, not_true_eq_false, if_false, Bool.false_eq_true]
        · rw [p_up_n _ _ hj]
          by_cases h2 : j < k
          · rw [if_pos h2, if_pos (by omega)]
          · rw [if_neg h2, if_neg (by omega)]
      · refine px_iconst (v := nI 1) rfl k_1 ?_
        refine px_ist5 rfl rfl (by decide) ?_
        refine px_aload_n (kk := 0) rfl rfl rfl ?_
        refine px_getR (r := 13) rfl gS_11 rfl (gR_11_3 _) ?_
        refine px_iload rfl rfl ?_
        refine px_iconst (v := nI 0) rfl k_0 ?_
        refine px_bipush (v := nI 99) rfl b_99 ?_
        refine px_aload_n (kk := 1) rfl rfl rfl ?_
        refine px_iload rfl rfl ?_
        refine px_ialde (j := k) (v := I w k) rfl hw rfl (by omega) (congrFun (p_up_n _ _ w13) k) ?_
        refine px_iload rfl rfl ?_
        refine px_iadd rfl ?_
        refine px_mmin rfl (Nat.le_of_ble_eq_true rfl) ?_
        refine px_mmax rfl (Nat.le_of_ble_eq_true rfl) ?_
        refine px_iast (j := k) rfl gS_13 rfl (by omega) ?_
        refine px_iinc4 (v := nI (k + 1)) rfl (n_inc k) rfl (by decide) ?_
        refine px_goto rfl ?_
        have hh : sp_hp n (I 4) (I t) k = true := (sp_par_hp hP (by omega)).mp c36
        refine px_mem (show _ = va_up I 13 (fun j => if j < k + 1 then sp_set n (I w) (I t) (I 4) (I 12) (I 1 6) j else I 13 j) from ?_) (lX5_settle hn hn8 ht t13 hw w13 hP (k := k + 1) (by omega))
        rw [up2, p_up_s]
        congr 1
        funext j
        by_cases hj : j = k
        · subst hj
          rw [p_up_s, sp_cl_c, if_pos (by omega)]
          simp only [sp_set, c20, hh, ne_eq, not_true_eq_false, if_false, if_true]
        · rw [p_up_n _ _ hj]
          by_cases h2 : j < k
          · rw [if_pos h2, if_pos (by omega)]
          · rw [if_neg h2, if_neg (by omega)]
    · refine px_aload_n (kk := 0) rfl rfl rfl ?_
      refine px_getR (r := 12) rfl gS_11 rfl (gR_11_2 _) ?_
      refine px_iload rfl rfl ?_
      refine px_ialde (j := k) (v := I 12 k) rfl gS_12 rfl (by omega) (congrFun (p_up_n _ _ (by decide)) k) ?_
      refine px_ist5 rfl rfl (by decide) ?_
      refine px_goto rfl ?_
      refine px_aload_n (kk := 0) rfl rfl rfl ?_
      refine px_getR (r := 13) rfl gS_11 rfl (gR_11_3 _) ?_
      refine px_iload rfl rfl ?_
      refine px_iconst (v := nI 0) rfl k_0 ?_
      refine px_bipush (v := nI 99) rfl b_99 ?_
      refine px_aload_n (kk := 1) rfl rfl rfl ?_
      refine px_iload rfl rfl ?_
      refine px_ialde (j := k) (v := I w k) rfl hw rfl (by omega) (congrFun (p_up_n _ _ w13) k) ?_
      refine px_iload rfl rfl ?_
      refine px_iadd rfl ?_
      refine px_mmin rfl (Nat.le_of_ble_eq_true rfl) ?_
      refine px_mmax rfl (Nat.le_of_ble_eq_true rfl) ?_
      refine px_iast (j := k) rfl gS_13 rfl (by omega) ?_
      refine px_iinc4 (v := nI (k + 1)) rfl (n_inc k) rfl (by decide) ?_
      refine px_goto rfl ?_
      refine px_mem (show _ = va_up I 13 (fun j => if j < k + 1 then sp_set n (I w) (I t) (I 4) (I 12) (I 1 6) j else I 13 j) from ?_) (lX5_settle hn hn8 ht t13 hw w13 hP (k := k + 1) (by omega))
      rw [up2, p_up_s]
      congr 1
      funext j
      by_cases hj : j = k
      · subst hj
        rw [p_up_s, sp_cl_c, if_pos (by omega)]
        simp only [sp_set, c20, ne_eq, not_false_eq_true, if_true]
      · rw [p_up_n _ _ hj]
        by_cases h2 : j < k
        · rw [if_pos h2, if_pos (by omega)]
        · rw [if_neg h2, if_neg (by omega)]
termination_by n - k
decreasing_by all_goals (have h := ‹¬ nI n ≤ nI k›; rw [n_le (by omega) (by omega)] at h; omega)
theorem fill_0f (I : Nat → Nat → Int32) (a : Nat) (f : Nat → Int32) : I = va_up I a (fun j => if j < 0 then f j else I a j) := by
  funext c
  by_cases h : c = a
  · subst h; rw [p_up_s]; funext j; rw [if_neg (by omega)]
  · rw [p_up_n _ _ h]
theorem vX5_settle {I : Nat → Nat → Int32} {J : Nat → Nat → Int64} {p : Bool × Option Nat} {ro : List (Nat × Nat × (Nat → Int32))} {n : Nat} (hn : I 1 4 = nI n) (hn8 : n ≤ 8) {t : Nat} (ht : gS[t]? = some (100, 8)) (t13 : t ≠ 13) {w : Nat} (hw : gS[w]? = some (100, 8)) (w13 : w ≠ 13) (hP : PA n (I 4)) : Pv 1 0 0 CX5_settle [.ref (11), .ref (w), .ref (t)] (gS, I, J, gR p, ro) (qV (gS, (va_up I 13 (fun j => if j < n then sp_set n (I w) (I t) (I 4) (I 12) (I 1 6) j else I 13 j)), J, gR p, ro)) := by
  refine ⟨okCX5_settle, Nat.le_of_ble_eq_true rfl, (show Px _ _ _ _ 0 [some (.ref (11)), some (.ref (w)), some (.ref (t)), none, none, none] [] _ _ from ?_)⟩
  refine px_aload_n (kk := 0) rfl rfl rfl ?_
  refine px_aload_n (kk := 2) rfl rfl rfl ?_
  refine px_callV0 CX5_partiesOf [] [.ref _] (vX5_par hn hn8 ht) rfl gS_11 (by decide) rfl rfl rfl (Nat.le_of_ble_eq_true rfl) (by decide) ?_
  rintro _ _ - ⟨rfl, rfl⟩
  refine px_ist3 rfl rfl (by decide) ?_
  refine px_iconst (v := nI 0) rfl k_0 ?_
  refine px_ist4 rfl rfl (by decide) ?_
  refine px_mem (fill_0f I 13 (sp_set n (I w) (I t) (I 4) (I 12) (I 1 6))) ?_
  exact lX5_settle hn hn8 ht t13 hw w13 hP (k := 0) (by omega)
theorem lX5_rises {I : Nat → Nat → Int32} {J : Nat → Nat → Int64} {p : Bool × Option Nat} {ro : List (Nat × Nat × (Nat → Int32))} {tx : List Ln} (hT : LawC tx p I) {n : Nat} (hn : I 1 4 = nI n) (hn8 : n ≤ 8) {q m h : Nat} (hq : PG q m h) {w : Nat} (hw : gS[w]? = some (100, 8)) (hMT : MT n (I m)) (mf : m ∉ [6, 8, 12]) (hf : h ∉ [6, 8, 12]) (wf : w ∉ [6, 8, 12]) {k : Nat} (hk : k ≤ n) {I1 : Nat → Nat → Int32} (hF : Fr [6, 8, 12] I I1) (h6 : K6 I I1) (hR : ∀ j, j < k → I1 12 j = (if I m j = -1 then nI 0 else sp_up tx (I 5) (I 4) (I 1 6) (I w) (I m) (I h) j)) {o : Option Value} {Q : Option Value → pm_M → Prop} (kont : ∀ I2, Fr [6, 8, 12] I I2 → K6 I I2 → (∀ j, j < n → I2 12 j = (if I m j = -1 then nI 0 else sp_up tx (I 5) (I 4) (I 1 6) (I w) (I m) (I h) j)) → Px 3 0 0 CX5_live 26 [some (.ref 11), some (.ref w), some (.ref q), some (.int (nI n)), o] [] (gS, I2, J, gR p, ro) Q) : Px 3 0 0 CX5_live 2 [some (.ref (11)), some (.ref (w)), some (.ref (q)), some (.int (nI k)), o] [] (gS, I1, J, gR p, ro) (Q) := by
  refine px_iload_n (kk := 3) rfl rfl rfl ?_
  refine px_aload_n (kk := 0) rfl rfl rfl ?_
  refine px_getR (r := 1) rfl gS_11 rfl (gR_11_0 _) ?_
  refine px_getIe rfl gS_1 rfl ((congrFun (hF 1 (by decide)) 4).trans hn) ?_
  refine px_icmp_ge rfl (fun c6 => ?_) (fun c6 => ?_)
  · rw [n_le (by omega) (by omega)] at c6
    obtain rfl : k = n := by omega
    exact kont I1 hF h6 hR
  · rw [n_le (by omega) (by omega)] at c6
    rcases hMT k (by omega) with hm | ⟨j0, hj0, hjk, hm, -⟩
    · skip
      refine px_aload_n (kk := 0) rfl rfl rfl ?_
      refine px_getR (r := 12) rfl gS_11 rfl (gR_11_2 _) ?_
      refine px_iload_n (kk := 3) rfl rfl rfl ?_
      refine px_aload_n (kk := 0) rfl rfl rfl ?_
      refine px_getR (r := 6) rfl gS_11 rfl (gR_11_1 _) ?_
      refine px_iload_n (kk := 3) rfl rfl rfl ?_
      refine px_aload_n (kk := 2) rfl rfl rfl ?_
      refine px_getR (r := m) rfl hq.1 rfl (hq.2.2.2.1 _) ?_
      refine px_iload_n (kk := 3) rfl rfl rfl ?_
      refine px_ialde (j := k) (v := -1) rfl hq.2.1 rfl (by omega) ((congrFun (hF m mf) k).trans hm) ?_
      refine px_aload_n (kk := 2) rfl rfl rfl ?_
      refine px_getR (r := h) rfl hq.1 rfl (hq.2.2.2.2.1 _) ?_
      refine px_iload_n (kk := 3) rfl rfl rfl ?_
      refine px_ialde (j := k) (v := I h k) rfl hq.2.2.1 rfl (by omega) (congrFun (hF h hf) k) ?_
      refine px_aload_n (kk := 1) rfl rfl rfl ?_
      refine px_callV0 CX3_rise [.int _, .ref 12] [.int _, .int _, .int _, .ref _] (vX3_rise0 ((congrFun (hF 1 (by decide)) 4).trans hn) hn8 (fun ⟨_, b, _, hb, _, _, e⟩ => nI_nm (by omega) e.symm)) rfl gS_6 (by decide) rfl rfl rfl (Nat.le_of_ble_eq_true rfl) (by decide) ?_
      rintro _ _ - ⟨rfl, rfl⟩
      refine px_iast (j := k) rfl gS_12 rfl (by omega) ?_
      refine px_iinc3 (v := nI (k + 1)) rfl (n_inc k) rfl (by decide) ?_
      refine px_goto rfl ?_
      exact lX5_rises hT hn hn8 hq hw hMT mf hf wf (k := k + 1) (by omega) (I1 := _) (Fr_up hF (by decide) _) (K6_up h6 (by decide) _) (fun j hj => by
        rw [p_up_s]
        by_cases e : j = k
        · subst e; rw [p_up_s, if_pos hm]
        · rw [p_up_n _ _ e]; exact hR j (by omega)) kont
    · skip
      refine px_aload_n (kk := 0) rfl rfl rfl ?_
      refine px_getR (r := 12) rfl gS_11 rfl (gR_11_2 _) ?_
      refine px_iload_n (kk := 3) rfl rfl rfl ?_
      refine px_aload_n (kk := 0) rfl rfl rfl ?_
      refine px_getR (r := 6) rfl gS_11 rfl (gR_11_1 _) ?_
      refine px_iload_n (kk := 3) rfl rfl rfl ?_
      refine px_aload_n (kk := 2) rfl rfl rfl ?_
      refine px_getR (r := m) rfl hq.1 rfl (hq.2.2.2.1 _) ?_
      refine px_iload_n (kk := 3) rfl rfl rfl ?_
      refine px_ialde (j := k) (v := nI j0) rfl hq.2.1 rfl (by omega) ((congrFun (hF m mf) k).trans hm) ?_
      refine px_aload_n (kk := 2) rfl rfl rfl ?_
      refine px_getR (r := h) rfl hq.1 rfl (hq.2.2.2.2.1 _) ?_
      refine px_iload_n (kk := 3) rfl rfl rfl ?_
      refine px_ialde (j := k) (v := I h k) rfl hq.2.2.1 rfl (by omega) (congrFun (hF h hf) k) ?_
      refine px_aload_n (kk := 1) rfl rfl rfl ?_
      refine px_callV0 CX3_rise [.int _, .ref 12] [.int _, .int _, .int _, .ref _] (vX3_rise (LawC_mv hT h6 (hF 9 (by decide)) (hF 10 (by decide))) ((congrFun (hF 1 (by decide)) 4).trans hn) hn8 (a := k) (b := j0) (by omega) hj0 (fun e => hjk e.symm) hw (fun e => wf (by rw [e]; decide))) rfl gS_6 (by decide) rfl rfl rfl (Nat.le_of_ble_eq_true rfl) (by decide) ?_
      rintro _ _ - ⟨rfl, I2, rfl, hF2, h62⟩
      refine px_iast (j := k) rfl gS_12 rfl (by omega) ?_
      refine px_iinc3 (v := nI (k + 1)) rfl (n_inc k) rfl (by decide) ?_
      refine px_goto rfl ?_
      exact lX5_rises hT hn hn8 hq hw hMT mf hf wf (k := k + 1) (by omega) (I1 := _) (Fr_up (Fr_tr hF (Fr_mo hF2 (by decide))) (by decide) _) (K6_up (K6_tr h6 h62) (by decide) _) (fun j hj => by
        rw [p_up_s]
        by_cases e : j = k
        · subst e
          rw [p_up_s, if_neg (by rw [hm]; exact nI_nm (by omega)), sp_up, hm, mN_n (by omega), hF 5 (by decide), hF 4 (by decide), hF 1 (by decide), hF w wf]
        · rw [p_up_n _ _ e, hF2 12 (by decide)]; exact hR j (by omega)) kont
termination_by n - k
decreasing_by all_goals (have h := ‹¬ nI n ≤ nI k›; rw [n_le (by omega) (by omega)] at h; omega)
def sp_grow (N W : Nat → Int32) : Nat → Int32
  | 0 => nI 0
  | k + 1 => sp_grow N W k + (if nI 0 < N k - W k then N k - W k else nI 0)
theorem fillf_next (I : Nat → Nat → Int32) (a k : Nat) (f : Nat → Int32) : va_up (va_up I a (fun j => if j < k then f j else I a j)) a (va_up (fun j => if j < k then f j else I a j) k (f k)) = va_up I a (fun j => if j < k + 1 then f j else I a j) := by
  rw [up2]
  congr 1
  funext j
  by_cases h : j = k
  · subst h; rw [p_up_s, if_pos (by omega)]
  · rw [p_up_n _ _ h]
    by_cases h2 : j < k
    · rw [if_pos h2, if_pos (by omega)]
    · rw [if_neg h2, if_neg (by omega)]
theorem lX5_move {I : Nat → Nat → Int32} {J : Nat → Nat → Int64} {p : Bool × Option Nat} {ro : List (Nat × Nat × (Nat → Int32))} {n : Nat} (hn : I 1 4 = nI n) (hn8 : n ≤ 8) {q m h : Nat} (hq : PG q m h) {w : Nat} (hw : gS[w]? = some (100, 8)) (w13 : w ≠ 13) (w1 : w ≠ 1) {k : Nat} (hk : k ≤ n) {Q : Option Value → pm_M → Prop} (kont : Px 3 0 0 CX5_live 62 [some (.ref 11), some (.ref w), some (.ref q), some (.int (sp_grow (I 13) (I w) n)), some (.int (nI n))] [] (gS, (va_up I w (fun j => if j < n then I 13 j else I w j)), J, gR p, ro) Q) : Px 3 0 0 CX5_live 35 [some (.ref (11)), some (.ref (w)), some (.ref (q)), some (.int ((sp_grow (I 13) (I w) k))), some (.int (nI k))] [] (gS, (va_up I w (fun j => if j < k then I 13 j else I w j)), J, gR p, ro) (Q) := by
  refine px_iload rfl rfl ?_
  refine px_aload_n (kk := 0) rfl rfl rfl ?_
  refine px_getR (r := 1) rfl gS_11 rfl (gR_11_0 _) ?_
  refine px_getIe rfl gS_1 rfl ((congrFun (p_up_n _ _ w1.symm) 4).trans hn) ?_
  refine px_icmp_ge rfl (fun c39 => ?_) (fun c39 => ?_)
  · rw [n_le (by omega) (by omega)] at c39
    obtain rfl : k = n := by omega
    exact kont
  · rw [n_le (by omega) (by omega)] at c39
    refine px_iload_n (kk := 3) rfl rfl rfl ?_
    refine px_iconst (v := nI 0) rfl k_0 ?_
    refine px_aload_n (kk := 0) rfl rfl rfl ?_
    refine px_getR (r := 13) rfl gS_11 rfl (gR_11_3 _) ?_
    refine px_iload rfl rfl ?_
    refine px_ialde (j := k) (v := I 13 k) rfl gS_13 rfl (by omega) (congrFun (p_up_n _ _ w13.symm) k) ?_
    refine px_aload_n (kk := 1) rfl rfl rfl ?_
    refine px_iload rfl rfl ?_
    refine px_ialde (j := k) (v := I w k) rfl hw rfl (by omega) (by rw [p_up_s, if_neg (by omega)]) ?_
    refine px_isub rfl ?_
    refine px_mmax rfl (Nat.le_of_ble_eq_true rfl) ?_
    refine px_iadd rfl ?_
    refine px_ist3 rfl rfl (by decide) ?_
    refine px_aload_n (kk := 1) rfl rfl rfl ?_
    refine px_iload rfl rfl ?_
    refine px_aload_n (kk := 0) rfl rfl rfl ?_
    refine px_getR (r := 13) rfl gS_11 rfl (gR_11_3 _) ?_
    refine px_iload rfl rfl ?_
    refine px_ialde (j := k) (v := I 13 k) rfl gS_13 rfl (by omega) (congrFun (p_up_n _ _ w13.symm) k) ?_
    refine px_iast (j := k) rfl hw rfl (by omega) ?_
    refine px_iinc4 (v := nI (k + 1)) rfl (n_inc k) rfl (by decide) ?_
    refine px_goto rfl ?_
    refine px_mem (show _ = va_up I w (fun j => if j < k + 1 then I 13 j else I w j) from ?_) (lX5_move hn hn8 hq hw w13 w1 (k := k + 1) (by omega) kont)
    rw [p_up_s]
    exact fillf_next I w k (I 13)
termination_by n - k
decreasing_by all_goals (have h := ‹¬ nI n ≤ nI k›; rw [n_le (by omega) (by omega)] at h; omega)
theorem sp_grow_congr {N N' W W' : Nat → Int32} : ∀ {n : Nat}, (∀ j, j < n → N' j = N j) → (∀ j, j < n → W' j = W j) → sp_grow N' W' n = sp_grow N W n
  | 0, _, _ => rfl
  | n + 1, h1, h2 => by
    simp only [sp_grow]
    rw [sp_grow_congr (fun j hj => h1 j (by omega)) (fun j hj => h2 j (by omega)), h1 n (by omega), h2 n (by omega)]
theorem vX5_live {I : Nat → Nat → Int32} {J : Nat → Nat → Int64} {p : Bool × Option Nat} {ro : List (Nat × Nat × (Nat → Int32))} {tx : List Ln} (hT : LawC tx p I) {n : Nat} (hn : I 1 4 = nI n) (hn8 : n ≤ 8) {q m h : Nat} (hq : PG q m h) {w : Nat} (hw : gS[w]? = some (100, 8)) (hMT : MT n (I m)) (mf : m ∉ [6, 8, 12]) (hf : h ∉ [6, 8, 12]) (wf : w ∉ [6, 8, 12]) (hP : PA n (I 4)) (m13 : m ≠ 13) (h13 : h ≠ 13) (w13 : w ≠ 13) (w1 : w ≠ 1) (hwm : w ≠ m) (hwh : w ≠ h) : Pv 3 0 0 CX5_live [.ref (11), .ref (w), .ref (q)] (gS, I, J, gR p, ro) (fun v S' => v = some (.int (sp_grow (sp_nx tx n (I 5) (I 4) (I 1 6) (I w) (I m) (I h)) (I w) n)) ∧ ∃ I', S' = (gS, I', J, gR p, ro) ∧ Fr [6, 8, 12, 13, w, h] I I' ∧ K6 I I' ∧ I' w = (fun j => if j < n then (sp_nx tx n (I 5) (I 4) (I 1 6) (I w) (I m) (I h)) j else I w j) ∧ I' h = (fun j => if j < 8 ∧ I m j ≠ -1 then I h j + nI 1 else I h j)) := by
  refine ⟨okCX5_live, Nat.le_of_ble_eq_true rfl, (show Px _ _ _ _ 0 [some (.ref (11)), some (.ref (w)), some (.ref (q)), none, none] [] _ _ from ?_)⟩
  refine px_iconst (v := nI 0) rfl k_0 ?_
  refine px_ist3 rfl rfl (by decide) ?_
  refine lX5_rises hT hn hn8 hq hw hMT mf hf wf (k := 0) (by omega) (I1 := I) Fr_rf (fun _ _ => rfl) (fun j hj => by omega) (fun I2 hF2 h62 hR2 => ?_)
  refine px_aload_n (kk := 0) rfl rfl rfl ?_
  refine px_aload_n (kk := 1) rfl rfl rfl ?_
  refine px_aload_n (kk := 2) rfl rfl rfl ?_
  refine px_getR (r := m) rfl hq.1 rfl (hq.2.2.2.1 _) ?_
  refine px_callV0 CX5_settle [] [.ref _, .ref _] (vX5_settle ((congrFun (hF2 1 (by decide)) 4).trans hn) hn8 hq.2.1 m13 hw w13 (by rw [hF2 4 (by decide)]; exact hP)) rfl gS_11 (by decide) rfl rfl rfl (Nat.le_of_ble_eq_true rfl) (by decide) ?_
  rintro _ _ - ⟨rfl, rfl⟩
  refine px_iconst (v := nI 0) rfl k_0 ?_
  refine px_ist3 rfl rfl (by decide) ?_
  refine px_iconst (v := nI 0) rfl k_0 ?_
  refine px_ist4 rfl rfl (by decide) ?_
  refine px_mem (fill_0f _ w ((va_up I2 13 (fun j => if j < n then sp_set n (I2 w) (I2 m) (I2 4) (I2 12) (I2 1 6) j else I2 13 j)) 13)) ?_
  refine lX5_move (I := va_up I2 13 _) ((congrFun (p_up_n _ _ (by decide)) 4).trans ((congrFun (hF2 1 (by decide)) 4).trans hn)) hn8 hq hw w13 w1 (k := 0) (by omega) ?_
  refine px_aload_n (kk := 2) rfl rfl rfl ?_
  refine px_callV0 CX6_age [] [] (vX6_age hq) rfl hq.1 (by decide) rfl rfl rfl (Nat.le_of_ble_eq_true rfl) (by decide) ?_
  rintro _ _ - ⟨rfl, rfl⟩
  refine px_iload_n (kk := 3) rfl rfl rfl ?_
  refine px_ireturn rfl (.inl rfl) ?_
  obtain ⟨-, -, -, -, -, d1, d2, d3, d4, d5, d6, d7, d8, d9⟩ := id hq
  have hN : ∀ j, j < n → sp_set n (I2 w) (I2 m) (I2 4) (I2 12) (I2 1 6) j = (sp_nx tx n (I 5) (I 4) (I 1 6) (I w) (I m) (I h)) j := fun j hj => by
    refine (sp_set_congr hj (by rw [hF2 w wf]) (fun i _ => by rw [hF2 m mf]) (fun i _ => by rw [hF2 4 (by decide)]) (fun hne => ?_)).trans (by rw [hF2 1 (by decide)]; rfl)
    rw [hR2 j hj, if_neg hne]
  refine ⟨?_, _, rfl, ?_, ?_, ?_, ?_⟩
  · congr 2
    refine sp_grow_congr (fun j hj => ?_) (fun j hj => ?_)
    · rw [p_up_s, if_pos hj]; exact hN j hj
    · rw [p_up_n _ _ w13, hF2 w wf]
  · refine Fr_up (Fr_up (Fr_up (Fr_mo hF2 ?_) (by simp) _) (by simp) _) (by simp) _
    intro c hc
    simp only [List.mem_cons, List.not_mem_nil, or_false] at hc ⊢
    omega
  · exact K6_up (K6_up (K6_up h62 (by decide) _) (fun e => wf (by rw [e]; decide)) _) (fun e => hf (by rw [e]; decide)) _
  · rw [p_up_n _ _ hwh, p_up_s]
    funext j
    by_cases hj : j < n
    · rw [if_pos hj, if_pos hj, p_up_s, if_pos hj]; exact hN j hj
    · rw [if_neg hj, if_neg hj, p_up_n _ _ w13, hF2 w wf]
  · rw [p_up_s]
    funext j
    rw [p_up_n _ _ hwm.symm, p_up_n _ _ hwh.symm, p_up_n _ _ m13, p_up_n _ _ h13, hF2 m mf, hF2 h hf]
