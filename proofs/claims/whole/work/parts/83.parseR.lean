/-! the reference reads the text -/
def sR (b : Nat) : Int32 := if b = 256 then -1 else (nI b).toInt8.toInt32
theorem sR_all : ∀ b, b < 257 → ∀ k, k < 128 → (sR b = nI k ↔ b = k) := by decide +kernel
theorem sR_eq {b k : Nat} (hb : b < 257) (hk : k < 128) : sR b = nI k ↔ b = k := sR_all b hb k hk
theorem dg_sR : ∀ b, b < 257 → ((nI 48 ≤ sR b ∧ sR b ≤ nI 57) ↔ dg b = true) := by decide +kernel
theorem lvr_4 : ∀ b, b < 257 → (sR b = nI 42 ∨ sR b = nI 47 ∨ sR b = nI 37) → lvN b = 4 := by decide +kernel
theorem lvr_3 : ∀ b, b < 257 → (sR b = nI 43 ∨ sR b = nI 45) → lvN b = 3 := by decide +kernel
theorem lvr_2 : ∀ b, b < 257 → (sR b = nI 60 ∨ sR b = nI 61 ∨ sR b = nI 62) → lvN b = 2 := by decide +kernel
theorem lvr_1 : ∀ b, b < 257 → sR b = nI 38 → lvN b = 1 := by decide +kernel
theorem lvr_0 : ∀ b, b < 257 → sR b = nI 124 → lvN b = 0 := by decide +kernel
theorem lvl_4 : ∀ b, b < 257 → lvN b = 4 → (sR b = nI 42 ∨ sR b = nI 47 ∨ sR b = nI 37) := by decide +kernel
theorem lvl_3 : ∀ b, b < 257 → lvN b = 3 → (sR b = nI 43 ∨ sR b = nI 45) := by decide +kernel
theorem lvl_2 : ∀ b, b < 257 → lvN b = 2 → (sR b = nI 60 ∨ sR b = nI 61 ∨ sR b = nI 62) := by decide +kernel
theorem lvl_1 : ∀ b, b < 257 → lvN b = 1 → sR b = nI 38 := by decide +kernel
theorem lvl_0 : ∀ b, b < 257 → lvN b = 0 → sR b = nI 124 := by decide +kernel
theorem bn_aT : ∀ b, b < 257 → lvN b ≠ 9 → sR b = aT (3, bnN b) := by decide +kernel
theorem bnC_b : ∀ k, k < 10 → (bnC k).toInt8.toInt32 = bnC k := by decide +kernel
theorem aT_b : ∀ {t : Tk}, (t.1 ≤ 2 ∨ t.2 < 10) → (aT t).toInt8.toInt32 = aT t := by
  rintro ⟨a, x⟩ h
  match a, h with
  | 0, _ => show (nI 1).toInt8.toInt32 = nI 1; decide +kernel
  | 1, _ => show (nI 2).toInt8.toInt32 = nI 2; decide +kernel
  | 2, _ =>
    by_cases h : x = 0
    · simp only [aT, if_pos h]; decide +kernel
    · simp only [aT, if_neg h]; decide +kernel
  | n + 3, h => exact bnC_b x (by simpa using h)
theorem nm_lo : ∀ b, b < 257 → nmN b < 6 → (b = 108 ∨ b = 119 ∨ b = 111 ∨ b = 104 ∨ b = 99 ∨ b = 112) := by decide +kernel
theorem nm_dg : ∀ b, b < 257 → nmN b < 6 → dg b = false := by decide +kernel
theorem dg_lv : ∀ b, b < 257 → dg b = true → lvN b = 9 := by decide +kernel
def LTr (c : Nat → Nat) (T : Nat) (I : Nat → Nat → Int32) : Prop := I 65 17 = nI T ∧ ∀ j, j < T → I 76 j = (nI (c j)).toInt8.toInt32
def RB (I I1 : Nat → Nat → Int32) : Prop := Fr [65, 77, 78] I I1 ∧ (∀ k, k ≠ 18 → k ≠ 19 → k ≠ 20 → k ≠ 21 → I1 65 k = I 65 k) ∧ ∀ j, j < 130 → I1 77 j = I 77 j ∧ I1 78 j = I 78 j
def RSt (I : Nat → Nat → Int32) (o a : Nat) (ts : List Tk) (I1 : Nat → Nat → Int32) : Prop := RB I I1 ∧ I1 65 18 = nI a ∧ I1 65 19 = -1 ∧ I1 65 20 = nI o ∧ I1 65 21 = nI ts.length ∧ HC (I1 77) 130 (ts.map aT) ∧ HC (I1 78) 130 (ts.map wT)
def RFt (I : Nat → Nat → Int32) (q L : Nat) (I1 : Nat → Nat → Int32) : Prop := RB I I1 ∧ I1 65 18 = nI q ∧ I1 65 19 = nI q ∧ I1 65 21 = nI L
theorem RB_f {I I1 : Nat → Nat → Int32} (h : RB I I1) {k : Nat} (hk : k = 18 ∨ k = 19 ∨ k = 20 ∨ k = 21) (v : Int32) : RB I (va_up I1 65 (va_up (I1 65) k v)) := ⟨Fr_up h.1 List.mem_cons_self _, fun j h1 h2 h3 h4 => by rw [p_up_s, p_up_n _ _ (by omega)]; exact h.2.1 j h1 h2 h3 h4, fun j hj => by rw [p_up_n _ _ (by decide), p_up_n _ _ (by decide)]; exact h.2.2 j hj⟩
theorem RSt_at {I I1 : Nat → Nat → Int32} {o a : Nat} {ts : List Tk} (h : RSt I o a ts I1) (b : Nat) : RSt I o b ts (va_up I1 65 (va_up (I1 65) 18 (nI b))) := by
  refine ⟨RB_f h.1 (.inl rfl) _, ?_, ?_, ?_, ?_, ?_, ?_⟩
  · rw [p_up_s, p_up_s]
  · rw [p_up_s, p_up_n _ _ (by decide)]; exact h.2.2.1
  · rw [p_up_s, p_up_n _ _ (by decide)]; exact h.2.2.2.1
  · rw [p_up_s, p_up_n _ _ (by decide)]; exact h.2.2.2.2.1
  · rw [p_up_n _ _ (by decide)]; exact h.2.2.2.2.2.1
  · rw [p_up_n _ _ (by decide)]; exact h.2.2.2.2.2.2
theorem RSt_op {I I1 : Nat → Nat → Int32} {o a : Nat} {ts : List Tk} (h : RSt I o a ts I1) (b : Nat) : RSt I b a ts (va_up I1 65 (va_up (I1 65) 20 (nI b))) := by
  refine ⟨RB_f h.1 (.inr (.inr (.inl rfl))) _, ?_, ?_, ?_, ?_, ?_, ?_⟩
  · rw [p_up_s, p_up_n _ _ (by decide)]; exact h.2.1
  · rw [p_up_s, p_up_n _ _ (by decide)]; exact h.2.2.1
  · rw [p_up_s, p_up_s]
  · rw [p_up_s, p_up_n _ _ (by decide)]; exact h.2.2.2.2.1
  · rw [p_up_n _ _ (by decide)]; exact h.2.2.2.2.2.1
  · rw [p_up_n _ _ (by decide)]; exact h.2.2.2.2.2.2
theorem RSt_wr {I I1 : Nat → Nat → Int32} {o a : Nat} {ts : List Tk} (h : RSt I o a ts I1) : RFt I a ts.length (va_up I1 65 (va_up (I1 65) 19 (nI a))) := by
  refine ⟨RB_f h.1 (.inr (.inl rfl)) _, ?_, ?_, ?_⟩
  · rw [p_up_s, p_up_n _ _ (by decide)]; exact h.2.1
  · rw [p_up_s, p_up_s]
  · rw [p_up_s, p_up_n _ _ (by decide)]; exact h.2.2.2.2.1
theorem RFt_op {I I1 : Nat → Nat → Int32} {q L : Nat} (h : RFt I q L I1) (v : Int32) : RFt I q L (va_up I1 65 (va_up (I1 65) 20 v)) := by
  refine ⟨RB_f h.1 (.inr (.inr (.inl rfl))) _, ?_, ?_, ?_⟩
  · rw [p_up_s, p_up_n _ _ (by decide)]; exact h.2.1
  · rw [p_up_s, p_up_n _ _ (by decide)]; exact h.2.2.1
  · rw [p_up_s, p_up_n _ _ (by decide)]; exact h.2.2.2
def rf_st (I1 : Nat → Nat → Int32) (L : Nat) (x w : Int32) : Nat → Nat → Int32 := va_up (va_up (va_up I1 77 (va_up (I1 77) (130 + L) x)) 78 (va_up (I1 78) (130 + L) w)) 65 (va_up (I1 65) 21 (nI (L + 1)))
theorem rf_st_o {I1 : Nat → Nat → Int32} {L : Nat} {x w : Int32} {c : Nat} (h7 : c ≠ 77) (h8 : c ≠ 78) (h5 : c ≠ 65) : rf_st I1 L x w c = I1 c := by
  unfold rf_st
  rw [p_up_n _ _ h5, p_up_n _ _ h8, p_up_n _ _ h7]
theorem rf_st_65 {I1 : Nat → Nat → Int32} {L : Nat} {x w : Int32} : rf_st I1 L x w 65 = va_up (I1 65) 21 (nI (L + 1)) := by
  unfold rf_st
  rw [p_up_s]
theorem rf_st_77 {I1 : Nat → Nat → Int32} {L : Nat} {x w : Int32} : rf_st I1 L x w 77 = va_up (I1 77) (130 + L) x := by
  unfold rf_st
  rw [p_up_n _ _ (by decide), p_up_n _ _ (by decide), p_up_s]
theorem rf_st_78 {I1 : Nat → Nat → Int32} {L : Nat} {x w : Int32} : rf_st I1 L x w 78 = va_up (I1 78) (130 + L) w := by
  unfold rf_st
  rw [p_up_n _ _ (by decide), p_up_s]
theorem RB_st {I I1 : Nat → Nat → Int32} (h : RB I I1) (L : Nat) (x w : Int32) : RB I (rf_st I1 L x w) := by
  refine ⟨fun c hc => ?_, fun k h1 h2 h3 h4 => ?_, fun j hj => ?_⟩
  · have := hc
    simp only [List.mem_cons, List.not_mem_nil, or_false, not_or] at this
    rw [rf_st_o this.2.1 this.2.2 this.1]; exact h.1 c hc
  · rw [rf_st_65, p_up_n _ _ h4]; exact h.2.1 k h1 h2 h3 h4
  · rw [rf_st_77, rf_st_78, p_up_n _ _ (by omega), p_up_n _ _ (by omega)]; exact h.2.2 j hj
theorem RSt_add {I I1 : Nat → Nat → Int32} {o a : Nat} {ts : List Tk} (h : RSt I o a ts I1) (t : Tk) : RSt I o a (ts ++ [t]) (rf_st I1 ts.length (aT t) (wT t)) := by
  refine ⟨RB_st h.1 _ _ _, ?_, ?_, ?_, ?_, ?_, ?_⟩
  · rw [rf_st_65, p_up_n _ _ (by decide)]; exact h.2.1
  · rw [rf_st_65, p_up_n _ _ (by decide)]; exact h.2.2.1
  · rw [rf_st_65, p_up_n _ _ (by decide)]; exact h.2.2.2.1
  · rw [rf_st_65, p_up_s, List.length_append]; rfl
  · rw [rf_st_77, List.map_append]
    refine HC_app.mpr ⟨HC_congr (fun j _ hj => p_up_n _ _ (by rw [List.length_map] at hj; omega)) h.2.2.2.2.2.1, ?_, trivial⟩
    rw [List.length_map, p_up_s]
  · rw [rf_st_78, List.map_append]
    refine HC_app.mpr ⟨HC_congr (fun j _ hj => p_up_n _ _ (by rw [List.length_map] at hj; omega)) h.2.2.2.2.2.2, ?_, trivial⟩
    rw [List.length_map, p_up_s]
theorem RFt_add {I I1 : Nat → Nat → Int32} {q L : Nat} (h : RFt I q L I1) (x w : Int32) : RFt I q (L + 1) (rf_st I1 L x w) := by
  refine ⟨RB_st h.1 _ _ _, ?_, ?_, ?_⟩
  · rw [rf_st_65, p_up_n _ _ (by decide)]; exact h.2.1
  · rw [rf_st_65, p_up_n _ _ (by decide)]; exact h.2.2.1
  · rw [rf_st_65, p_up_s]
/-- it ends there in a fault, or at a digit that nothing takes -/
def FT (c : Nat → Nat) (R : PR0) (q : Nat) : Prop := R = (q, none) ∨ ∃ t, R = (q, some t) ∧ dg (c q) = true
theorem sp_lp_stuck {c : Nat → Nat} {lev : Nat} (hl : lev < 9) {g : Nat → PR0} {n q : Nat} {t : List Tk} (h : lvN (c q) ≠ lev) : sp_lp c lev g n q t = (q, some t) := by
  cases n with
  | zero => rfl
  | succ n => unfold sp_lp; rw [if_neg h]
theorem FT_lp {c : Nat → Nat} {lev : Nat} (hl : lev < 5) {g : Nat → PR0} {n q p : Nat} {t : List Tk} (hlev : lvN (c p) = lev) (hb : ∀ j, c j < 257) (h : FT c (g (p + 1)) q) : FT c (sp_lp c lev g (n + 1) p t) q := by
  unfold sp_lp
  rw [if_pos hlev]
  rcases h with h | ⟨u, h, hd⟩
  · rw [h]; exact .inl rfl
  · rw [h]
    by_cases h2 : lev = 2
    · simp only [if_pos h2]; exact .inr ⟨_, rfl, hd⟩
    · simp only [if_neg h2]
      rw [sp_lp_stuck (by omega) (by rw [dg_lv _ (hb q) hd]; omega)]
      exact .inr ⟨_, rfl, hd⟩
/-- a level over the ones below -/
def sp_uq (c : Nat → Nat) (lev : Nat) (g : Nat → PR0) (a : Nat) : PR0 := match g a with
    | (q, none) => (q, none)
    | (q, some t) => sp_lp c lev g 121 q t
theorem FT_up {c : Nat → Nat} {lev : Nat} (hl : lev < 5) {g : Nat → PR0} {q a : Nat} (hb : ∀ j, c j < 257) (h : FT c (g a) q) : FT c (sp_uq c lev g a) q := by
  unfold sp_uq
  rcases h with h | ⟨u, h, hd⟩
  · rw [h]; exact .inl rfl
  · rw [h]
    simp only []
    rw [sp_lp_stuck (by omega) (by rw [dg_lv _ (hb q) hd]; omega)]
    exact .inr ⟨_, rfl, hd⟩
theorem sp_lv_up (c : Nat → Nat) (op : Nat → PR0) (k : Nat) : sp_lv c op (k + 1) = sp_uq c (4 - k) (sp_lv c op k) := by
  funext a
  rfl
def POr (p : Bool × Option Nat) (I : Nat → Nat → Int32) (J : Nat → Nat → Int64) (ro : List (Nat × Nat × (Nat → Int32))) (c : Nat → Nat) (T a o : Nat) (ts : List Tk) (R : PR0) : Option Value → pm_M → Prop := fun rr S' => (∃ q t I', R = (q, some t) ∧ rr = none ∧ S' = (gS, I', J, gR p, ro) ∧ RSt I o q (ts ++ t) I') ∨ (∃ q L I', FT c R q ∧ a ≤ q ∧ q ≤ T ∧ L ≤ ts.length + (q - a) + 1 ∧ rr = none ∧ S' = (gS, I', J, gR p, ro) ∧ RFt I q L I')
theorem vX12_look {I : Nat → Nat → Int32} {J : Nat → Nat → Int64} {p : Bool × Option Nat} {ro : List (Nat × Nat × (Nat → Int32))} {c : Nat → Nat} {T : Nat} (hT : TP c T) (hLT : LTr c T I) {a : Nat} (ha : a ≤ T) {I1 : Nat → Nat → Int32} (hB : RB I I1) (h18 : I1 65 18 = nI a) : Pv 0 0 0 CX12_look [.ref (65)] (gS, I1, J, gR p, ro) (qI (sR (c a)) (gS, I1, J, gR p, ro)) := by
  refine ⟨okCX12_look, Nat.le_of_ble_eq_true rfl, (show Px _ _ _ _ 0 [some (.ref (65))] [] _ _ from ?_)⟩
  refine px_aload_n (kk := 0) rfl rfl rfl ?_
  refine px_getIe (v := nI a) rfl gS_65 rfl h18 ?_
  refine px_aload_n (kk := 0) rfl rfl rfl ?_
  refine px_getIe (v := nI T) rfl gS_65 rfl ((hB.2.1 17 (by decide) (by decide) (by decide) (by decide)).trans hLT.1) ?_
  refine px_icmp_ge rfl (fun c4 => ?_) (fun c4 => ?_)
  · refine px_iconst (v := -1) rfl k_m1 ?_
    refine px_ireturn rfl (.inl rfl) ?_
    have := hT.1
    rw [n_le (by omega) (by omega)] at c4
    exact ⟨by rw [sR, if_pos (hT.2.2 a (by omega))], rfl⟩
  · have := hT.1
    rw [n_le (by omega) (by omega)] at c4
    refine px_aload_n (kk := 0) rfl rfl rfl ?_
    refine px_getR (r := 76) rfl gS_65 rfl (gR_65_16 _) ?_
    refine px_aload_n (kk := 0) rfl rfl rfl ?_
    refine px_getIe (v := nI a) rfl gS_65 rfl h18 ?_
    refine px_balde (j := a) (v := (nI (c a)).toInt8.toInt32) rfl gS_76 rfl (by omega) (by rw [hB.1 76 (by decide)]; exact hLT.2 a (by omega)) ?_
    refine px_goto rfl ?_
    refine px_ireturn rfl (.inl rfl) ?_
    exact ⟨by rw [sR, if_neg (fun e => by have := hT.2.1 a (by omega); omega)], rfl⟩
theorem vX12_nm_108 {I : Nat → Nat → Int32} {J : Nat → Nat → Int64} {p : Bool × Option Nat} {ro : List (Nat × Nat × (Nat → Int32))}  : Pv 0 0 0 CX12_nameOf [.int (nI 108)] (gS, I, J, gR p, ro) (qI (nI 0) (gS, I, J, gR p, ro)) := by
  refine ⟨okCX12_nameOf, Nat.le_of_ble_eq_true rfl, (show Px _ _ _ _ 0 [some (.int (nI 108))] [] _ _ from ?_)⟩
  refine px_iload_n (kk := 0) rfl rfl rfl ?_
  refine px_lookup rfl (.inl ⟨2, by decide, by decide, rfl⟩) ?_
  refine px_iconst (v := nI 0) rfl k_0 ?_
  refine px_ireturn rfl (.inl rfl) ?_
  exact ⟨rfl, rfl⟩
theorem vX12_nm_119 {I : Nat → Nat → Int32} {J : Nat → Nat → Int64} {p : Bool × Option Nat} {ro : List (Nat × Nat × (Nat → Int32))}  : Pv 0 0 0 CX12_nameOf [.int (nI 119)] (gS, I, J, gR p, ro) (qI (nI 1) (gS, I, J, gR p, ro)) := by
  refine ⟨okCX12_nameOf, Nat.le_of_ble_eq_true rfl, (show Px _ _ _ _ 0 [some (.int (nI 119))] [] _ _ from ?_)⟩
  refine px_iload_n (kk := 0) rfl rfl rfl ?_
  refine px_lookup rfl (.inl ⟨5, by decide, by decide, rfl⟩) ?_
  refine px_iconst (v := nI 1) rfl k_1 ?_
  refine px_ireturn rfl (.inl rfl) ?_
  exact ⟨rfl, rfl⟩
theorem vX12_nm_111 {I : Nat → Nat → Int32} {J : Nat → Nat → Int64} {p : Bool × Option Nat} {ro : List (Nat × Nat × (Nat → Int32))}  : Pv 0 0 0 CX12_nameOf [.int (nI 111)] (gS, I, J, gR p, ro) (qI (nI 2) (gS, I, J, gR p, ro)) := by
  refine ⟨okCX12_nameOf, Nat.le_of_ble_eq_true rfl, (show Px _ _ _ _ 0 [some (.int (nI 111))] [] _ _ from ?_)⟩
  refine px_iload_n (kk := 0) rfl rfl rfl ?_
  refine px_lookup rfl (.inl ⟨3, by decide, by decide, rfl⟩) ?_
  refine px_iconst (v := nI 2) rfl k_2 ?_
  refine px_ireturn rfl (.inl rfl) ?_
  exact ⟨rfl, rfl⟩
theorem vX12_nm_104 {I : Nat → Nat → Int32} {J : Nat → Nat → Int64} {p : Bool × Option Nat} {ro : List (Nat × Nat × (Nat → Int32))}  : Pv 0 0 0 CX12_nameOf [.int (nI 104)] (gS, I, J, gR p, ro) (qI (nI 3) (gS, I, J, gR p, ro)) := by
  refine ⟨okCX12_nameOf, Nat.le_of_ble_eq_true rfl, (show Px _ _ _ _ 0 [some (.int (nI 104))] [] _ _ from ?_)⟩
  refine px_iload_n (kk := 0) rfl rfl rfl ?_
  refine px_lookup rfl (.inl ⟨1, by decide, by decide, rfl⟩) ?_
  refine px_iconst (v := nI 3) rfl k_3 ?_
  refine px_ireturn rfl (.inl rfl) ?_
  exact ⟨rfl, rfl⟩
theorem vX12_nm_99 {I : Nat → Nat → Int32} {J : Nat → Nat → Int64} {p : Bool × Option Nat} {ro : List (Nat × Nat × (Nat → Int32))}  : Pv 0 0 0 CX12_nameOf [.int (nI 99)] (gS, I, J, gR p, ro) (qI (nI 4) (gS, I, J, gR p, ro)) := by
  refine ⟨okCX12_nameOf, Nat.le_of_ble_eq_true rfl, (show Px _ _ _ _ 0 [some (.int (nI 99))] [] _ _ from ?_)⟩
  refine px_iload_n (kk := 0) rfl rfl rfl ?_
  refine px_lookup rfl (.inl ⟨0, by decide, by decide, rfl⟩) ?_
  refine px_iconst (v := nI 4) rfl k_4 ?_
  refine px_ireturn rfl (.inl rfl) ?_
  exact ⟨rfl, rfl⟩
theorem vX12_nm_112 {I : Nat → Nat → Int32} {J : Nat → Nat → Int64} {p : Bool × Option Nat} {ro : List (Nat × Nat × (Nat → Int32))}  : Pv 0 0 0 CX12_nameOf [.int (nI 112)] (gS, I, J, gR p, ro) (qI (nI 5) (gS, I, J, gR p, ro)) := by
  refine ⟨okCX12_nameOf, Nat.le_of_ble_eq_true rfl, (show Px _ _ _ _ 0 [some (.int (nI 112))] [] _ _ from ?_)⟩
  refine px_iload_n (kk := 0) rfl rfl rfl ?_
  refine px_lookup rfl (.inl ⟨4, by decide, by decide, rfl⟩) ?_
  refine px_iconst (v := nI 5) rfl k_5 ?_
  refine px_ireturn rfl (.inl rfl) ?_
  exact ⟨rfl, rfl⟩
theorem vX12_nm_o {I : Nat → Nat → Int32} {J : Nat → Nat → Int64} {p : Bool × Option Nat} {ro : List (Nat × Nat × (Nat → Int32))} {b : Nat} (hb : b < 257) (h9 : ¬ nmN b < 6) : Pv 0 0 0 CX12_nameOf [.int (sR b)] (gS, I, J, gR p, ro) (qI (-1) (gS, I, J, gR p, ro)) := by
  refine ⟨okCX12_nameOf, Nat.le_of_ble_eq_true rfl, (show Px _ _ _ _ 0 [some (.int (sR b))] [] _ _ from ?_)⟩
  refine px_iload_n (kk := 0) rfl rfl rfl ?_
  refine px_lookup rfl (.inr ⟨by revert h9; revert hb; revert b; decide +kernel, rfl⟩) ?_
  refine px_iconst (v := -1) rfl k_m1 ?_
  refine px_ireturn rfl (.inl rfl) ?_
  exact ⟨rfl, rfl⟩
theorem vX12_nameOf {I : Nat → Nat → Int32} {J : Nat → Nat → Int64} {p : Bool × Option Nat} {ro : List (Nat × Nat × (Nat → Int32))} {b : Nat} (hb : b < 257) : Pv 0 0 0 CX12_nameOf [.int (sR b)] (gS, I, J, gR p, ro) (fun r S' => (nmN b < 6 ∧ r = some (.int (nI (nmN b))) ∧ S' = (gS, I, J, gR p, ro)) ∨ (¬ nmN b < 6 ∧ r = some (.int (-1)) ∧ S' = (gS, I, J, gR p, ro))) := by
  by_cases h : nmN b < 6
  · have key : Pv 0 0 0 CX12_nameOf [.int (sR b)] (gS, I, J, gR p, ro) (qI (nI (nmN b)) (gS, I, J, gR p, ro)) := by
      rcases nm_lo b hb h with rfl | rfl | rfl | rfl | rfl | rfl
      · rw [show sR 108 = nI 108 from by decide +kernel, show nmN 108 = 0 from by decide +kernel]; exact vX12_nm_108
      · rw [show sR 119 = nI 119 from by decide +kernel, show nmN 119 = 1 from by decide +kernel]; exact vX12_nm_119
      · rw [show sR 111 = nI 111 from by decide +kernel, show nmN 111 = 2 from by decide +kernel]; exact vX12_nm_111
      · rw [show sR 104 = nI 104 from by decide +kernel, show nmN 104 = 3 from by decide +kernel]; exact vX12_nm_104
      · rw [show sR 99 = nI 99 from by decide +kernel, show nmN 99 = 4 from by decide +kernel]; exact vX12_nm_99
      · rw [show sR 112 = nI 112 from by decide +kernel, show nmN 112 = 5 from by decide +kernel]; exact vX12_nm_112
    exact pv_post key (fun r S' z => .inl ⟨h, z.1, z.2⟩)
  · exact pv_post (vX12_nm_o hb h) (fun r S' z => .inr ⟨h, z.1, z.2⟩)
theorem vX12_wrong {I : Nat → Nat → Int32} {J : Nat → Nat → Int64} {p : Bool × Option Nat} {ro : List (Nat × Nat × (Nat → Int32))} {o a : Nat} {ts : List Tk} {I1 : Nat → Nat → Int32} (hS : RSt I o a ts I1) : Pv 0 0 0 CX12_wrong [.ref (65)] (gS, I1, J, gR p, ro) (fun r S' => r = none ∧ ∃ I', S' = (gS, I', J, gR p, ro) ∧ RFt I a ts.length I') := by
  refine ⟨okCX12_wrong, Nat.le_of_ble_eq_true rfl, (show Px _ _ _ _ 0 [some (.ref (65))] [] _ _ from ?_)⟩
  refine px_aload_n (kk := 0) rfl rfl rfl ?_
  refine px_getIe (v := -1) rfl gS_65 rfl hS.2.2.1 ?_
  refine px_if_ge rfl (fun h => absurd h (by decide)) (fun _ => ?_)
  refine px_aload_n (kk := 0) rfl rfl rfl ?_
  refine px_aload_n (kk := 0) rfl rfl rfl ?_
  refine px_getIe (v := nI a) rfl gS_65 rfl hS.2.1 ?_
  refine px_putI rfl gS_65 rfl rfl ?_
  refine px_return rfl rfl ?_
  exact ⟨rfl, _, rfl, RSt_wr hS⟩
theorem vX12_opens_0 {I : Nat → Nat → Int32} {J : Nat → Nat → Int64} {p : Bool × Option Nat} {ro : List (Nat × Nat × (Nat → Int32))} {a : Nat} {ts : List Tk} {I1 : Nat → Nat → Int32} (hS : RSt I 6 a ts I1) : Pv 1 0 0 CX12_opens [.ref (65)] (gS, I1, J, gR p, ro) (fun r S' => r = some (.int (nI 0)) ∧ ∃ I', S' = (gS, I', J, gR p, ro) ∧ RFt I a ts.length I') := by
  refine ⟨okCX12_opens, Nat.le_of_ble_eq_true rfl, (show Px _ _ _ _ 0 [some (.ref (65))] [] _ _ from ?_)⟩
  refine px_aload_n (kk := 0) rfl rfl rfl ?_
  refine px_getIe (v := nI 6) rfl gS_65 rfl hS.2.2.2.1 ?_
  refine px_bipush (v := nI 6) rfl b_6 ?_
  refine px_icmp_ne rfl (fun h => absurd h (by decide)) (fun _ => ?_)
  refine px_aload_n (kk := 0) rfl rfl rfl ?_
  refine px_callV0 CX12_wrong [] [] (vX12_wrong hS) rfl gS_65 (by decide) rfl rfl rfl (Nat.le_of_ble_eq_true rfl) (by decide) ?_
  rintro _ _ - ⟨rfl, I2, rfl, hF⟩
  refine px_iconst (v := nI 0) rfl k_0 ?_
  refine px_ireturn rfl (.inr ⟨rfl, by decide⟩) ?_
  exact ⟨rfl, I2, rfl, hF⟩
theorem vX12_opens_1 {I : Nat → Nat → Int32} {J : Nat → Nat → Int64} {p : Bool × Option Nat} {ro : List (Nat × Nat × (Nat → Int32))} {o a : Nat} {ts : List Tk} {I1 : Nat → Nat → Int32} (hS : RSt I o a ts I1) (ho : o < 6) : Pv 1 0 0 CX12_opens [.ref (65)] (gS, I1, J, gR p, ro) (fun r S' => r = some (.int (nI 1)) ∧ ∃ I', S' = (gS, I', J, gR p, ro) ∧ RSt I (o + 1) (a + 1) ts I') := by
  refine ⟨okCX12_opens, Nat.le_of_ble_eq_true rfl, (show Px _ _ _ _ 0 [some (.ref (65))] [] _ _ from ?_)⟩
  refine px_aload_n (kk := 0) rfl rfl rfl ?_
  refine px_getIe (v := nI o) rfl gS_65 rfl hS.2.2.2.1 ?_
  refine px_bipush (v := nI 6) rfl b_6 ?_
  refine px_icmp_ne rfl (fun c3 => ?_) (fun h => absurd h (by rw [n_eq (by omega) (by omega)]; omega))
  refine px_aload_n (kk := 0) rfl rfl rfl ?_
  refine px_dup rfl rfl ?_
  refine px_getIe (v := nI o) rfl gS_65 rfl hS.2.2.2.1 ?_
  refine px_iconst (v := nI 1) rfl k_1 ?_
  refine px_iaddN rfl ?_
  refine px_putI rfl gS_65 rfl rfl ?_
  refine px_aload_n (kk := 0) rfl rfl rfl ?_
  refine px_dup rfl rfl ?_
  refine px_getIe (v := nI a) rfl gS_65 rfl (by rw [p_up_s, p_up_n _ _ (by decide)]; exact hS.2.1) ?_
  refine px_iconst (v := nI 1) rfl k_1 ?_
  refine px_iaddN rfl ?_
  refine px_putI rfl gS_65 rfl rfl ?_
  refine px_iconst (v := nI 1) rfl k_1 ?_
  refine px_ireturn rfl (.inr ⟨rfl, by decide⟩) ?_
  exact ⟨rfl, _, rfl, RSt_at (RSt_op hS (o + 1)) (a + 1)⟩
theorem vX12_step {I : Nat → Nat → Int32} {J : Nat → Nat → Int64} {p : Bool × Option Nat} {ro : List (Nat × Nat × (Nat → Int32))} {o a : Nat} {ts : List Tk} {t : Tk} {I1 : Nat → Nat → Int32} (hS : RSt I o a ts I1) (hl : ts.length < 130) {x w : Int32} (hx : x = aT t) (hw : w = wT t) (ht : t.1 ≤ 2 ∨ t.2 < 10) : Pv 0 0 0 CX12_addStep [.ref (65), .int (x), .int (w)] (gS, I1, J, gR p, ro) (fun r S' => r = none ∧ ∃ I', S' = (gS, I', J, gR p, ro) ∧ RSt I o a (ts ++ [t]) I') := by
  refine ⟨okCX12_addStep, Nat.le_of_ble_eq_true rfl, (show Px _ _ _ _ 0 [some (.ref (65)), some (.int (x)), some (.int (w))] [] _ _ from ?_)⟩
  refine px_aload_n (kk := 0) rfl rfl rfl ?_
  refine px_getR (r := 77) rfl gS_65 rfl (gR_65_22 _) ?_
  refine px_sipush (v := nI 130) rfl s_130 ?_
  refine px_aload_n (kk := 0) rfl rfl rfl ?_
  refine px_getIe (v := nI ts.length) rfl gS_65 rfl hS.2.2.2.2.1 ?_
  refine px_iaddN rfl ?_
  refine px_iload_n (kk := 1) rfl rfl rfl ?_
  refine px_i2b rfl ?_
  refine px_bast (j := (130 + ts.length)) rfl gS_77 rfl (by omega) ?_
  refine px_aload_n (kk := 0) rfl rfl rfl ?_
  refine px_getR (r := 78) rfl gS_65 rfl (gR_65_23 _) ?_
  refine px_sipush (v := nI 130) rfl s_130 ?_
  refine px_aload_n (kk := 0) rfl rfl rfl ?_
  refine px_getIe (v := nI ts.length) rfl gS_65 rfl ((congrFun (p_up_n _ _ (by decide)) 21).trans hS.2.2.2.2.1) ?_
  refine px_iaddN rfl ?_
  refine px_iload_n (kk := 2) rfl rfl rfl ?_
  refine px_iast (j := (130 + ts.length)) rfl gS_78 rfl (by omega) ?_
  refine px_aload_n (kk := 0) rfl rfl rfl ?_
  refine px_dup rfl rfl ?_
  refine px_getIe (v := nI ts.length) rfl gS_65 rfl (by rw [p_up_n _ _ (by decide), p_up_n _ _ (by decide)]; exact hS.2.2.2.2.1) ?_
  refine px_iconst (v := nI 1) rfl k_1 ?_
  refine px_iaddN rfl ?_
  refine px_putI rfl gS_65 rfl rfl ?_
  refine px_return rfl rfl ?_
  subst hx
  subst hw
  refine ⟨rfl, rf_st I1 ts.length (aT t) (wT t), ?_, RSt_add hS t⟩
  rw [aT_b ht, aT_b ht]
  simp only [rf_st, p_up_n _ _ (show (78 : Nat) ≠ 77 by decide), p_up_n _ _ (show (65 : Nat) ≠ 77 by decide), p_up_n _ _ (show (65 : Nat) ≠ 78 by decide)]
theorem vX12_stepF {I : Nat → Nat → Int32} {J : Nat → Nat → Int64} {p : Bool × Option Nat} {ro : List (Nat × Nat × (Nat → Int32))} {q L : Nat} {I1 : Nat → Nat → Int32} (hF : RFt I q L I1) (hl : L < 130) {x w : Int32} : Pv 0 0 0 CX12_addStep [.ref (65), .int (x), .int (w)] (gS, I1, J, gR p, ro) (fun r S' => r = none ∧ ∃ I', S' = (gS, I', J, gR p, ro) ∧ RFt I q (L + 1) I') := by
  refine ⟨okCX12_addStep, Nat.le_of_ble_eq_true rfl, (show Px _ _ _ _ 0 [some (.ref (65)), some (.int (x)), some (.int (w))] [] _ _ from ?_)⟩
  refine px_aload_n (kk := 0) rfl rfl rfl ?_
  refine px_getR (r := 77) rfl gS_65 rfl (gR_65_22 _) ?_
  refine px_sipush (v := nI 130) rfl s_130 ?_
  refine px_aload_n (kk := 0) rfl rfl rfl ?_
  refine px_getIe (v := nI L) rfl gS_65 rfl hF.2.2.2 ?_
  refine px_iaddN rfl ?_
  refine px_iload_n (kk := 1) rfl rfl rfl ?_
  refine px_i2b rfl ?_
  refine px_bast (j := (130 + L)) rfl gS_77 rfl (by omega) ?_
  refine px_aload_n (kk := 0) rfl rfl rfl ?_
  refine px_getR (r := 78) rfl gS_65 rfl (gR_65_23 _) ?_
  refine px_sipush (v := nI 130) rfl s_130 ?_
  refine px_aload_n (kk := 0) rfl rfl rfl ?_
  refine px_getIe (v := nI L) rfl gS_65 rfl ((congrFun (p_up_n _ _ (by decide)) 21).trans hF.2.2.2) ?_
  refine px_iaddN rfl ?_
  refine px_iload_n (kk := 2) rfl rfl rfl ?_
  refine px_iast (j := (130 + L)) rfl gS_78 rfl (by omega) ?_
  refine px_aload_n (kk := 0) rfl rfl rfl ?_
  refine px_dup rfl rfl ?_
  refine px_getIe (v := nI L) rfl gS_65 rfl (by rw [p_up_n _ _ (by decide), p_up_n _ _ (by decide)]; exact hF.2.2.2) ?_
  refine px_iconst (v := nI 1) rfl k_1 ?_
  refine px_iaddN rfl ?_
  refine px_putI rfl gS_65 rfl rfl ?_
  refine px_return rfl rfl ?_
  refine ⟨rfl, rf_st I1 L x.toInt8.toInt32.toInt8.toInt32 w, ?_, RFt_add hF _ _⟩
  simp only [rf_st, p_up_n _ _ (show (78 : Nat) ≠ 77 by decide), p_up_n _ _ (show (65 : Nat) ≠ 77 by decide), p_up_n _ _ (show (65 : Nat) ≠ 78 by decide)]
