/-! the reference: an hour -/
theorem fL_fR (I : Nat → Nat → Int32) : fR I = fL (I 82 0) (I 82 1) (I 82 2) (I 82 3) (I 82 4) (I 82 5) := by
  funext k
  match k with
  | 0 => rfl
  | 1 => rfl
  | 2 => rfl
  | 3 => rfl
  | 4 => rfl
  | k + 5 => rfl
theorem LawR_mv {tx : List Ln} {I I' : Nat → Nat → Int32} (h : LawR tx I) (h65 : I' 65 29 = I 65 29) (h7 : ∀ c, c ∈ [77, 78, 79, 80, 81] → I' c = I c) : LawR tx I' := ⟨by rw [h65]; exact h.1, by rw [h7 79 (by decide)]; exact h.2.1, h.2.2.1, h.2.2.2.1, RL_congr (h7 80 (by decide)) (h7 81 (by decide)) (h7 77 (by decide)) (h7 78 (by decide)) _ _ _ h.2.2.2.2.1, h.2.2.2.2.2⟩
theorem like5 {l : Int32} (h : -9 ≤ l.toInt ∧ l.toInt ≤ 9) : (l + nI 5).toInt = l.toInt + 5 := by
  rw [Int32.toInt_add, nI_toInt (by decide), Int.bmod_eq_of_le (by omega) (by omega)]
  rfl
theorem clamp20 (e : Int32) : (if e < -20 then -20 else if nI 20 < e then nI 20 else e) = (if -20 < (if e < nI 20 then e else nI 20) then (if e < nI 20 then e else nI 20) else -20) := by
  have t20 : (nI 20).toInt = 20 := by decide +kernel
  have t20m : (-20 : Int32).toInt = -20 := by decide +kernel
  have q : ∀ x y : Int32, x.toInt = y.toInt → x = y := fun x y h => Int32.toInt_inj.mp h
  simp only [i_lt, t20, t20m]
  split
  · split <;> split <;> first | rfl | (exfalso; simp only [t20] at *; omega)
  · split
    · split <;> split <;> first | rfl | (exfalso; simp only [t20] at *; omega)
    · split <;> split <;> first | rfl | (apply q; simp only [t20, t20m] at *; omega)
theorem vX12_onOne {I : Nat → Nat → Int32} {J : Nat → Nat → Int64} {p : Bool × Option Nat} {ro : List (Nat × Nat × (Nat → Int32))} {a b : Nat} (ha : a < 8) (hb : b < 8) : Pv 0 0 0 CX12_onOne [.ref (65), .int (nI a), .int (nI b)] (gS, I, J, gR p, ro) (qB (I 68 a ≠ 0 ∧ I 68 a = I 68 b) (gS, I, J, gR p, ro)) := by
  refine ⟨okCX12_onOne, Nat.le_of_ble_eq_true rfl, (show Px _ _ _ _ 0 [some (.ref (65)), some (.int (nI a)), some (.int (nI b))] [] _ _ from ?_)⟩
  refine px_aload_n (kk := 0) rfl rfl rfl ?_
  refine px_getR (r := 68) rfl gS_65 rfl (gR_65_4 _) ?_
  refine px_iload_n (kk := 1) rfl rfl rfl ?_
  refine px_iald (j := a) rfl gS_68 rfl (by omega) ?_
  refine px_if_eq rfl (fun c4 => ?_) (fun c4 => ?_)
  · refine px_iconst (v := nI 0) rfl k_0 ?_
    refine px_ireturn rfl (.inr ⟨rfl, by decide⟩) ?_
    exact qB_f (fun h => h.1 c4)
  · refine px_aload_n (kk := 0) rfl rfl rfl ?_
    refine px_getR (r := 68) rfl gS_65 rfl (gR_65_4 _) ?_
    refine px_iload_n (kk := 1) rfl rfl rfl ?_
    refine px_iald (j := a) rfl gS_68 rfl (by omega) ?_
    refine px_aload_n (kk := 0) rfl rfl rfl ?_
    refine px_getR (r := 68) rfl gS_65 rfl (gR_65_4 _) ?_
    refine px_iload_n (kk := 2) rfl rfl rfl ?_
    refine px_iald (j := b) rfl gS_68 rfl (by omega) ?_
    refine px_icmp_ne rfl (fun c13 => ?_) (fun c13 => ?_)
    · refine px_iconst (v := nI 0) rfl k_0 ?_
      refine px_ireturn rfl (.inr ⟨rfl, by decide⟩) ?_
      exact qB_f (fun h => c13 h.2)
    · refine px_iconst (v := nI 1) rfl k_1 ?_
      refine px_goto rfl ?_
      refine px_ireturn rfl (.inr ⟨rfl, by decide⟩) ?_
      exact qB_t ⟨c4, by first | exact c13 | exact Classical.byContradiction c13⟩
theorem vX12_warmerBy {I : Nat → Nat → Int32} {J : Nat → Nat → Int64} {p : Bool × Option Nat} {ro : List (Nat × Nat × (Nat → Int32))} {tx : List Ln} (hT : LawR tx I) {n : Nat} (hn : I 65 1 = nI n) (hn8 : n ≤ 8) {a b : Nat} (ha : a < n) (hb : b < n) {x y h : Int32} (hL : -9 ≤ (I 69 (8 * a + b)).toInt ∧ (I 69 (8 * a + b)).toInt ≤ 9) : Pv 3 0 0 CX12_warmerBy [.ref (65), .int (nI a), .int (nI b), .int (x), .int (y), .int (h)] (gS, I, J, gR p, ro) (fun v S' => v = some (.int (sp_rise tx (I 69 (8 * a + b)) x y h (I 65 7) (sp_one (I 68 a) (I 68 b)))) ∧ ∃ I', S' = (gS, I', J, gR p, ro) ∧ Fr [82, 83] I I') := by
  refine ⟨okCX12_warmerBy, Nat.le_of_ble_eq_true rfl, (show Px _ _ _ _ 0 [some (.ref (65)), some (.int (nI a)), some (.int (nI b)), some (.int (x)), some (.int (y)), some (.int (h)), none] [] _ _ from ?_)⟩
  refine px_aload_n (kk := 0) rfl rfl rfl ?_
  refine px_getR (r := 69) rfl gS_65 rfl (gR_65_5 _) ?_
  refine px_bipush (v := nI 8) rfl b_8 ?_
  refine px_iload_n (kk := 1) rfl rfl rfl ?_
  refine px_imulN rfl ?_
  refine px_iload_n (kk := 2) rfl rfl rfl ?_
  refine px_iaddN rfl ?_
  refine px_iald (j := 8 * a + b) rfl gS_69 rfl (by omega) ?_
  refine px_iconst (v := nI 5) rfl k_5 ?_
  refine px_iadd rfl ?_
  refine px_ist6 rfl rfl (by decide) ?_
  refine px_aload_n (kk := 0) rfl rfl rfl ?_
  refine px_getI rfl gS_65 rfl ?_
  refine px_if_eq rfl (fun c13 => ?_) (fun c13 => ?_)
  · refine px_iload rfl rfl ?_
    refine px_bipush (v := -20) rfl b_m20 ?_
    refine px_icmp_ge rfl (fun c65 => ?_) (fun c65 => ?_)
    · refine px_iload rfl rfl ?_
      refine px_bipush (v := nI 20) rfl b_20 ?_
      refine px_icmp_le rfl (fun c70 => ?_) (fun c70 => ?_)
      · refine px_iload rfl rfl ?_
        refine px_ireturn rfl (.inl rfl) ?_
        have htx : tx = [] := Classical.byContradiction (fun e => by have := hT.1; rw [if_neg e] at this; rw [this] at c13; exact absurd c13 (by decide +kernel))
        exact ⟨by rw [sp_rise, if_pos htx], I, rfl, Fr_rf⟩
      · refine px_bipush (v := nI 20) rfl b_20 ?_
        refine px_goto rfl ?_
        refine px_ireturn rfl (.inl rfl) ?_
        exfalso
        rw [i_le, like5 hL, nI_toInt (by decide)] at c70
        omega
    · refine px_bipush (v := -20) rfl b_m20 ?_
      refine px_goto rfl ?_
      refine px_ireturn rfl (.inl rfl) ?_
      exfalso
      rw [i_le, like5 hL, show (-20 : Int32).toInt = -20 from by decide +kernel] at c65
      omega
  · have htx : tx ≠ [] := fun e => by have := hT.1; rw [if_pos e] at this; exact c13 (by rw [this, n_0])
    refine px_aload_n (kk := 0) rfl rfl rfl ?_
    refine px_getR (r := 82) rfl gS_65 rfl (gR_65_27 _) ?_
    refine px_iconst (v := nI 0) rfl k_0 ?_
    refine px_aload_n (kk := 0) rfl rfl rfl ?_
    refine px_getR (r := 69) rfl gS_65 rfl (gR_65_5 _) ?_
    refine px_bipush (v := nI 8) rfl b_8 ?_
    refine px_iload_n (kk := 1) rfl rfl rfl ?_
    refine px_imulN rfl ?_
    refine px_iload_n (kk := 2) rfl rfl rfl ?_
    refine px_iaddN rfl ?_
    refine px_iald (j := 8 * a + b) rfl gS_69 rfl (by omega) ?_
    refine px_iast (j := 0) rfl gS_82 rfl (by decide) ?_
    refine px_aload_n (kk := 0) rfl rfl rfl ?_
    refine px_getR (r := 82) rfl gS_65 rfl (gR_65_27 _) ?_
    refine px_iconst (v := nI 1) rfl k_1 ?_
    refine px_iload_n (kk := 3) rfl rfl rfl ?_
    refine px_iast (j := 1) rfl gS_82 rfl (by decide) ?_
    refine px_aload_n (kk := 0) rfl rfl rfl ?_
    refine px_getR (r := 82) rfl gS_65 rfl (gR_65_27 _) ?_
    refine px_iconst (v := nI 2) rfl k_2 ?_
    refine px_iload rfl rfl ?_
    refine px_iast (j := 2) rfl gS_82 rfl (by decide) ?_
    refine px_aload_n (kk := 0) rfl rfl rfl ?_
    refine px_getR (r := 82) rfl gS_65 rfl (gR_65_27 _) ?_
    refine px_iconst (v := nI 3) rfl k_3 ?_
    refine px_iload rfl rfl ?_
    refine px_iast (j := 3) rfl gS_82 rfl (by decide) ?_
    refine px_aload_n (kk := 0) rfl rfl rfl ?_
    refine px_getR (r := 82) rfl gS_65 rfl (gR_65_27 _) ?_
    refine px_iconst (v := nI 4) rfl k_4 ?_
    refine px_aload_n (kk := 0) rfl rfl rfl ?_
    refine px_getI rfl gS_65 rfl ?_
    refine px_iast (j := 4) rfl gS_82 rfl (by decide) ?_
    refine px_aload_n (kk := 0) rfl rfl rfl ?_
    refine px_getR (r := 82) rfl gS_65 rfl (gR_65_27 _) ?_
    refine px_iconst (v := nI 5) rfl k_5 ?_
    refine px_aload_n (kk := 0) rfl rfl rfl ?_
    refine px_iload_n (kk := 1) rfl rfl rfl ?_
    refine px_iload_n (kk := 2) rfl rfl rfl ?_
    refine px_callV0 CX12_onOne [.int _, .ref 82] [.int _, .int _] (vX12_onOne (a := a) (b := b) (by omega) (by omega)) rfl gS_65 (by decide) rfl rfl rfl (Nat.le_of_ble_eq_true rfl) (by decide) ?_
    rintro _ _ - (⟨ho, rfl, rfl⟩ | ⟨ho, rfl, rfl⟩)
    · simp only [p_up_n _ _ (show (68 : Nat) ≠ 82 by decide)] at ho
      refine px_if_eq rfl (fun h => absurd h (by decide)) (fun _ => ?_)
      refine px_iconst (v := nI 1) rfl k_1 ?_
      refine px_goto rfl ?_
      refine px_iast (j := 5) rfl gS_82 rfl (by decide) ?_
      refine px_aload_n (kk := 0) rfl rfl rfl ?_
      refine px_iconst (v := nI 0) rfl k_0 ?_
      refine px_callV0 CX12_gives [] [.int _] (vX12_gives (I := (va_up I 82 (va_up (va_up (va_up (va_up (va_up (va_up (I 82) 0 (I 69 (8 * a + b))) 1 x) 2 y) 3 h) 4 (I 65 7)) 5 (nI 1)))) (tx := tx) (LawR_mv hT (by rw [p_up_n _ _ (by decide)]) (fun c hc => p_up_n _ _ (fun e => by subst e; revert hc; decide)))) rfl gS_65 (by decide) rfl rfl rfl (Nat.le_of_ble_eq_true rfl) (by decide) ?_
      rintro _ _ - ⟨rfl, g, rfl⟩
      have h1 : sp_one (I 68 a) (I 68 b) = nI 1 := by rw [sp_one, if_pos ho]
      obtain ⟨ev, hev⟩ : ∃ ev, ev = evL (fR (va_up I 82 (va_up (va_up (va_up (va_up (va_up (va_up (I 82) 0 (I 69 (8 * a + b))) 1 x) 2 y) 3 h) 4 (I 65 7)) 5 (nI 1)))) tx := ⟨_, rfl⟩
      have hev2 : evL (fL (I 69 (8 * a + b)) x y h (I 65 7) (sp_one (I 68 a) (I 68 b))) tx = ev := by
        rw [hev, fL_fR, h1]
        simp only [p_up_s, up2, p_up_n _ _ (show (0 : Nat) ≠ 1 by decide), p_up_n _ _ (show (0 : Nat) ≠ 2 by decide), p_up_n _ _ (show (0 : Nat) ≠ 3 by decide), p_up_n _ _ (show (0 : Nat) ≠ 4 by decide), p_up_n _ _ (show (0 : Nat) ≠ 5 by decide), p_up_n _ _ (show (1 : Nat) ≠ 0 by decide), p_up_n _ _ (show (1 : Nat) ≠ 2 by decide), p_up_n _ _ (show (1 : Nat) ≠ 3 by decide), p_up_n _ _ (show (1 : Nat) ≠ 4 by decide), p_up_n _ _ (show (1 : Nat) ≠ 5 by decide), p_up_n _ _ (show (2 : Nat) ≠ 0 by decide), p_up_n _ _ (show (2 : Nat) ≠ 1 by decide), p_up_n _ _ (show (2 : Nat) ≠ 3 by decide), p_up_n _ _ (show (2 : Nat) ≠ 4 by decide), p_up_n _ _ (show (2 : Nat) ≠ 5 by decide), p_up_n _ _ (show (3 : Nat) ≠ 0 by decide), p_up_n _ _ (show (3 : Nat) ≠ 1 by decide), p_up_n _ _ (show (3 : Nat) ≠ 2 by decide), p_up_n _ _ (show (3 : Nat) ≠ 4 by decide), p_up_n _ _ (show (3 : Nat) ≠ 5 by decide), p_up_n _ _ (show (4 : Nat) ≠ 0 by decide), p_up_n _ _ (show (4 : Nat) ≠ 1 by decide), p_up_n _ _ (show (4 : Nat) ≠ 2 by decide), p_up_n _ _ (show (4 : Nat) ≠ 3 by decide), p_up_n _ _ (show (4 : Nat) ≠ 5 by decide), p_up_n _ _ (show (5 : Nat) ≠ 0 by decide), p_up_n _ _ (show (5 : Nat) ≠ 1 by decide), p_up_n _ _ (show (5 : Nat) ≠ 2 by decide), p_up_n _ _ (show (5 : Nat) ≠ 3 by decide), p_up_n _ _ (show (5 : Nat) ≠ 4 by decide)]
      refine px_ieq hev.symm ?_
      refine px_ist6 rfl rfl (by decide) ?_
      refine px_iload rfl rfl ?_
      refine px_bipush (v := -20) rfl b_m20 ?_
      refine px_icmp_ge rfl (fun c65 => ?_) (fun c65 => ?_)
      · refine px_iload rfl rfl ?_
        refine px_bipush (v := nI 20) rfl b_20 ?_
        refine px_icmp_le rfl (fun c70 => ?_) (fun c70 => ?_)
        · refine px_iload rfl rfl ?_
          refine px_ireturn rfl (.inl rfl) ?_
          refine ⟨?_, _, rfl, fun c hc => ?_⟩
          · rw [sp_rise, if_neg htx, hev2, ← clamp20]
            rw [if_neg (fun z => by rw [i_lt] at z; rw [i_le] at c65; omega), if_neg (fun z => by rw [i_lt] at z; rw [i_le] at c70; omega)]
          · rw [p_up_n _ _ (fun e => hc (by rw [e]; decide)), p_up_n _ _ (fun e => hc (by rw [e]; decide))]
        · refine px_bipush (v := nI 20) rfl b_20 ?_
          refine px_goto rfl ?_
          refine px_ireturn rfl (.inl rfl) ?_
          refine ⟨?_, _, rfl, fun c hc => ?_⟩
          · rw [sp_rise, if_neg htx, hev2, ← clamp20]
            rw [if_neg (fun z => by rw [i_lt] at z; rw [i_le] at c65; omega), if_pos (by rw [i_lt]; rw [i_le] at c70; omega)]
          · rw [p_up_n _ _ (fun e => hc (by rw [e]; decide)), p_up_n _ _ (fun e => hc (by rw [e]; decide))]
      · refine px_bipush (v := -20) rfl b_m20 ?_
        refine px_goto rfl ?_
        refine px_ireturn rfl (.inl rfl) ?_
        refine ⟨?_, _, rfl, fun c hc => ?_⟩
        · rw [sp_rise, if_neg htx, hev2, ← clamp20]
          rw [if_pos (show ev < -20 from by rw [i_lt]; rw [i_le] at c65; omega)]
        · rw [p_up_n _ _ (fun e => hc (by rw [e]; decide)), p_up_n _ _ (fun e => hc (by rw [e]; decide))]
    · simp only [p_up_n _ _ (show (68 : Nat) ≠ 82 by decide)] at ho
      refine px_if_eq rfl (fun _ => ?_) (fun h => absurd h (by decide))
      refine px_iconst (v := nI 0) rfl k_0 ?_
      refine px_iast (j := 5) rfl gS_82 rfl (by decide) ?_
      refine px_aload_n (kk := 0) rfl rfl rfl ?_
      refine px_iconst (v := nI 0) rfl k_0 ?_
      refine px_callV0 CX12_gives [] [.int _] (vX12_gives (I := (va_up I 82 (va_up (va_up (va_up (va_up (va_up (va_up (I 82) 0 (I 69 (8 * a + b))) 1 x) 2 y) 3 h) 4 (I 65 7)) 5 (nI 0)))) (tx := tx) (LawR_mv hT (by rw [p_up_n _ _ (by decide)]) (fun c hc => p_up_n _ _ (fun e => by subst e; revert hc; decide)))) rfl gS_65 (by decide) rfl rfl rfl (Nat.le_of_ble_eq_true rfl) (by decide) ?_
      rintro _ _ - ⟨rfl, g, rfl⟩
      have h1 : sp_one (I 68 a) (I 68 b) = nI 0 := by rw [sp_one, if_neg ho]
      obtain ⟨ev, hev⟩ : ∃ ev, ev = evL (fR (va_up I 82 (va_up (va_up (va_up (va_up (va_up (va_up (I 82) 0 (I 69 (8 * a + b))) 1 x) 2 y) 3 h) 4 (I 65 7)) 5 (nI 0)))) tx := ⟨_, rfl⟩
      have hev2 : evL (fL (I 69 (8 * a + b)) x y h (I 65 7) (sp_one (I 68 a) (I 68 b))) tx = ev := by
        rw [hev, fL_fR, h1]
        simp only [p_up_s, up2, p_up_n _ _ (show (0 : Nat) ≠ 1 by decide), p_up_n _ _ (show (0 : Nat) ≠ 2 by decide), p_up_n _ _ (show (0 : Nat) ≠ 3 by decide), p_up_n _ _ (show (0 : Nat) ≠ 4 by decide), p_up_n _ _ (show (0 : Nat) ≠ 5 by decide), p_up_n _ _ (show (1 : Nat) ≠ 0 by decide), p_up_n _ _ (show (1 : Nat) ≠ 2 by decide), p_up_n _ _ (show (1 : Nat) ≠ 3 by decide), p_up_n _ _ (show (1 : Nat) ≠ 4 by decide), p_up_n _ _ (show (1 : Nat) ≠ 5 by decide), p_up_n _ _ (show (2 : Nat) ≠ 0 by decide), p_up_n _ _ (show (2 : Nat) ≠ 1 by decide), p_up_n _ _ (show (2 : Nat) ≠ 3 by decide), p_up_n _ _ (show (2 : Nat) ≠ 4 by decide), p_up_n _ _ (show (2 : Nat) ≠ 5 by decide), p_up_n _ _ (show (3 : Nat) ≠ 0 by decide), p_up_n _ _ (show (3 : Nat) ≠ 1 by decide), p_up_n _ _ (show (3 : Nat) ≠ 2 by decide), p_up_n _ _ (show (3 : Nat) ≠ 4 by decide), p_up_n _ _ (show (3 : Nat) ≠ 5 by decide), p_up_n _ _ (show (4 : Nat) ≠ 0 by decide), p_up_n _ _ (show (4 : Nat) ≠ 1 by decide), p_up_n _ _ (show (4 : Nat) ≠ 2 by decide), p_up_n _ _ (show (4 : Nat) ≠ 3 by decide), p_up_n _ _ (show (4 : Nat) ≠ 5 by decide), p_up_n _ _ (show (5 : Nat) ≠ 0 by decide), p_up_n _ _ (show (5 : Nat) ≠ 1 by decide), p_up_n _ _ (show (5 : Nat) ≠ 2 by decide), p_up_n _ _ (show (5 : Nat) ≠ 3 by decide), p_up_n _ _ (show (5 : Nat) ≠ 4 by decide)]
      refine px_ieq hev.symm ?_
      refine px_ist6 rfl rfl (by decide) ?_
      refine px_iload rfl rfl ?_
      refine px_bipush (v := -20) rfl b_m20 ?_
      refine px_icmp_ge rfl (fun c65 => ?_) (fun c65 => ?_)
      · refine px_iload rfl rfl ?_
        refine px_bipush (v := nI 20) rfl b_20 ?_
        refine px_icmp_le rfl (fun c70 => ?_) (fun c70 => ?_)
        · refine px_iload rfl rfl ?_
          refine px_ireturn rfl (.inl rfl) ?_
          refine ⟨?_, _, rfl, fun c hc => ?_⟩
          · rw [sp_rise, if_neg htx, hev2, ← clamp20]
            rw [if_neg (fun z => by rw [i_lt] at z; rw [i_le] at c65; omega), if_neg (fun z => by rw [i_lt] at z; rw [i_le] at c70; omega)]
          · rw [p_up_n _ _ (fun e => hc (by rw [e]; decide)), p_up_n _ _ (fun e => hc (by rw [e]; decide))]
        · refine px_bipush (v := nI 20) rfl b_20 ?_
          refine px_goto rfl ?_
          refine px_ireturn rfl (.inl rfl) ?_
          refine ⟨?_, _, rfl, fun c hc => ?_⟩
          · rw [sp_rise, if_neg htx, hev2, ← clamp20]
            rw [if_neg (fun z => by rw [i_lt] at z; rw [i_le] at c65; omega), if_pos (by rw [i_lt]; rw [i_le] at c70; omega)]
          · rw [p_up_n _ _ (fun e => hc (by rw [e]; decide)), p_up_n _ _ (fun e => hc (by rw [e]; decide))]
      · refine px_bipush (v := -20) rfl b_m20 ?_
        refine px_goto rfl ?_
        refine px_ireturn rfl (.inl rfl) ?_
        refine ⟨?_, _, rfl, fun c hc => ?_⟩
        · rw [sp_rise, if_neg htx, hev2, ← clamp20]
          rw [if_pos (show ev < -20 from by rw [i_lt]; rw [i_le] at c65; omega)]
        · rw [p_up_n _ _ (fun e => hc (by rw [e]; decide)), p_up_n _ _ (fun e => hc (by rw [e]; decide))]
def LK (n : Nat) (L : Nat → Int32) : Prop := ∀ a b, a < n → b < n → -9 ≤ (L (8 * a + b)).toInt ∧ (L (8 * a + b)).toInt ≤ 9
theorem vX12_heldTo {I : Nat → Nat → Int32} {J : Nat → Nat → Int64} {p : Bool × Option Nat} {ro : List (Nat × Nat × (Nat → Int32))} {v : Int32} : Pv 0 0 0 CX12_heldTo [.int (v)] (gS, I, J, gR p, ro) (qI (sp_cl v) (gS, I, J, gR p, ro)) := by
  refine ⟨okCX12_heldTo, Nat.le_of_ble_eq_true rfl, (show Px _ _ _ _ 0 [some (.int (v))] [] _ _ from ?_)⟩
  refine px_iload_n (kk := 0) rfl rfl rfl ?_
  refine px_if_ge rfl (fun c1 => ?_) (fun c1 => ?_)
  · refine px_iload_n (kk := 0) rfl rfl rfl ?_
    refine px_bipush (v := nI 99) rfl b_99 ?_
    refine px_icmp_le rfl (fun c6 => ?_) (fun c6 => ?_)
    · refine px_iload_n (kk := 0) rfl rfl rfl ?_
      refine px_ireturn rfl (.inl rfl) ?_
      exact ⟨by rw [sp_cl, if_neg (fun z => by rw [i_lt] at z; rw [i_le] at c1; omega), if_neg (fun z => by rw [i_lt] at z; rw [i_le] at c6; omega)], rfl⟩
    · refine px_bipush (v := nI 99) rfl b_99 ?_
      refine px_goto rfl ?_
      refine px_ireturn rfl (.inl rfl) ?_
      exact ⟨by rw [sp_cl, if_neg (fun z => by rw [i_lt] at z; rw [i_le] at c1; omega), if_pos (by rw [i_lt]; rw [i_le] at c6; omega)], rfl⟩
  · refine px_iconst (v := nI 0) rfl k_0 ?_
    refine px_goto rfl ?_
    refine px_ireturn rfl (.inl rfl) ?_
    exact ⟨by rw [sp_cl, if_pos (by rw [i_lt]; rw [i_le] at c1; omega)], rfl⟩
theorem lX12_layWarm {I : Nat → Nat → Int32} {J : Nat → Nat → Int64} {p : Bool × Option Nat} {ro : List (Nat × Nat × (Nat → Int32))} {n : Nat} (hn : I 65 1 = nI n) (hn8 : n ≤ 8) {k : Nat} (hk : k ≤ n) : Px 0 0 0 CX12_layWarm 2 [some (.ref (65)), some (.int (nI k))] [] (gS, (va_up I 84 (fun j => if j < k then I 66 j else I 84 j)), J, gR p, ro) (qV (gS, (va_up I 84 (fun j => if j < n then I 66 j else I 84 j)), J, gR p, ro)) := by
  refine px_iload_n (kk := 1) rfl rfl rfl ?_
  refine px_aload_n (kk := 0) rfl rfl rfl ?_
  refine px_getIe (v := nI n) rfl gS_65 rfl ((congrFun (p_up_n _ _ (by decide)) 1).trans hn) ?_
  refine px_icmp_ge rfl (fun c5 => ?_) (fun c5 => ?_)
  · refine px_return rfl rfl ?_
    rw [n_le (by omega) (by omega)] at c5
    obtain rfl : k = n := by omega
    exact ⟨rfl, rfl⟩
  · rw [n_le (by omega) (by omega)] at c5
    refine px_aload_n (kk := 0) rfl rfl rfl ?_
    refine px_getR (r := 84) rfl gS_65 rfl (gR_65_30 _) ?_
    refine px_iload_n (kk := 1) rfl rfl rfl ?_
    refine px_aload_n (kk := 0) rfl rfl rfl ?_
    refine px_getR (r := 66) rfl gS_65 rfl (gR_65_2 _) ?_
    refine px_iload_n (kk := 1) rfl rfl rfl ?_
    refine px_ialde (j := k) (v := I 66 k) rfl gS_66 rfl (by omega) (congrFun (p_up_n _ _ (by decide)) k) ?_
    refine px_iast (j := k) rfl gS_84 rfl (by omega) ?_
    refine px_iinc1 (v := nI (k + 1)) rfl (n_inc k) rfl (by decide) ?_
    refine px_goto rfl ?_
    refine px_mem ?_ (lX12_layWarm hn hn8 (k := k + 1) (by omega))
    rw [p_up_s]
    exact fillf_next I 84 k (I 66)
termination_by n - k
decreasing_by all_goals (have h := ‹¬ nI n ≤ nI k›; rw [n_le (by omega) (by omega)] at h; omega)
theorem vX12_layWarm {I : Nat → Nat → Int32} {J : Nat → Nat → Int64} {p : Bool × Option Nat} {ro : List (Nat × Nat × (Nat → Int32))} {n : Nat} (hn : I 65 1 = nI n) (hn8 : n ≤ 8) : Pv 0 0 0 CX12_layWarm [.ref (65)] (gS, I, J, gR p, ro) (qV (gS, (va_up I 84 (fun j => if j < n then I 66 j else I 84 j)), J, gR p, ro)) := by
  refine ⟨okCX12_layWarm, Nat.le_of_ble_eq_true rfl, (show Px _ _ _ _ 0 [some (.ref (65)), none] [] _ _ from ?_)⟩
  refine px_iconst (v := nI 0) rfl k_0 ?_
  refine px_ist1 rfl rfl (by decide) ?_
  refine px_mem (fill_0f I 84 (I 66)) ?_
  exact lX12_layWarm hn hn8 (k := 0) (by omega)
theorem lX12_layNobody {I : Nat → Nat → Int32} {J : Nat → Nat → Int64} {p : Bool × Option Nat} {ro : List (Nat × Nat × (Nat → Int32))} {n : Nat} (hn : I 65 1 = nI n) (hn8 : n ≤ 8) {k : Nat} (hk : k ≤ n) : Px 0 0 0 CX12_layNobody 2 [some (.ref (65)), some (.int (nI k))] [] (gS, (va_up (va_up I 85 (fun j => if j < k then -1 else I 85 j)) 86 (fun j => if j < k then nI 0 else I 86 j)), J, gR p, ro) (qV (gS, (va_up (va_up I 85 (fun j => if j < n then -1 else I 85 j)) 86 (fun j => if j < n then nI 0 else I 86 j)), J, gR p, ro)) := by
  refine px_iload_n (kk := 1) rfl rfl rfl ?_
  refine px_aload_n (kk := 0) rfl rfl rfl ?_
  refine px_getIe (v := nI n) rfl gS_65 rfl ((congrFun (p_up_n _ _ (by decide)) 1).trans ((congrFun (p_up_n _ _ (by decide)) 1).trans hn)) ?_
  refine px_icmp_ge rfl (fun c5 => ?_) (fun c5 => ?_)
  · refine px_return rfl rfl ?_
    rw [n_le (by omega) (by omega)] at c5
    obtain rfl : k = n := by omega
    exact ⟨rfl, rfl⟩
  · rw [n_le (by omega) (by omega)] at c5
    refine px_aload_n (kk := 0) rfl rfl rfl ?_
    refine px_getR (r := 85) rfl gS_65 rfl (gR_65_31 _) ?_
    refine px_iload_n (kk := 1) rfl rfl rfl ?_
    refine px_iconst (v := -1) rfl k_m1 ?_
    refine px_iast (j := k) rfl gS_85 rfl (by omega) ?_
    refine px_aload_n (kk := 0) rfl rfl rfl ?_
    refine px_getR (r := 86) rfl gS_65 rfl (gR_65_32 _) ?_
    refine px_iload_n (kk := 1) rfl rfl rfl ?_
    refine px_iconst (v := nI 0) rfl k_0 ?_
    refine px_iast (j := k) rfl gS_86 rfl (by omega) ?_
    refine px_iinc1 (v := nI (k + 1)) rfl (n_inc k) rfl (by decide) ?_
    refine px_goto rfl ?_
    refine px_mem ?_ (lX12_layNobody hn hn8 (k := k + 1) (by omega))
    simp only [p_up_n _ _ (show (85 : Nat) ≠ 86 by decide), p_up_n _ _ (show (86 : Nat) ≠ 85 by decide), p_up_s, up2]
    rw [fill_step, fill_step, up_c _ (show (86 : Nat) ≠ 85 by decide), up2, up2]
termination_by n - k
decreasing_by all_goals (have h := ‹¬ nI n ≤ nI k›; rw [n_le (by omega) (by omega)] at h; omega)
theorem vX12_layNobody {I : Nat → Nat → Int32} {J : Nat → Nat → Int64} {p : Bool × Option Nat} {ro : List (Nat × Nat × (Nat → Int32))} {n : Nat} (hn : I 65 1 = nI n) (hn8 : n ≤ 8) : Pv 0 0 0 CX12_layNobody [.ref (65)] (gS, I, J, gR p, ro) (qV (gS, (va_up (va_up I 85 (fun j => if j < n then -1 else I 85 j)) 86 (fun j => if j < n then nI 0 else I 86 j)), J, gR p, ro)) := by
  refine ⟨okCX12_layNobody, Nat.le_of_ble_eq_true rfl, (show Px _ _ _ _ 0 [some (.ref (65)), none] [] _ _ from ?_)⟩
  refine px_iconst (v := nI 0) rfl k_0 ?_
  refine px_ist1 rfl rfl (by decide) ?_
  refine px_mem (show I = (va_up (va_up I 85 (fun j => if j < 0 then -1 else I 85 j)) 86 (fun j => if j < 0 then nI 0 else I 86 j)) from ?_) (lX12_layNobody hn hn8 (k := 0) (by omega))
  rw [← fill_0f I 85 (fun _ => -1), ← fill_0f I 86 (fun _ => nI 0)]
theorem MT_ge {n : Nat} {M : Nat → Int32} (h : MT n M) {l : Nat} (hl : l < n) (hn : n ≤ 8) : M l < 0 ↔ M l = -1 := by
  rcases h l hl with e | ⟨k, hk, _, e, _⟩
  · rw [e]; exact ⟨fun _ => rfl, fun _ => by decide⟩
  · rw [e]
    exact ⟨fun z => absurd z (n_nneg (by omega)), fun z => absurd z (nI_nm (by omega))⟩
theorem lX12_hasParty {I : Nat → Nat → Int32} {J : Nat → Nat → Int64} {p : Bool × Option Nat} {ro : List (Nat × Nat × (Nat → Int32))} {n : Nat} (hn : I 65 1 = nI n) (hn8 : n ≤ 8) (hM : MT n (I 85)) {l : Nat} (hl : l < n) (h0 : I 68 l ≠ nI 0) {k : Nat} (hk : k ≤ n) (hno : ∀ e, e < k → ¬ (I 85 e ≠ -1 ∧ I 68 e = I 68 l)) : Px 0 0 0 CX12_hasParty 9 [some (.ref (65)), some (.int (nI l)), some (.int (nI k))] [] (gS, I, J, gR p, ro) (qB (sp_hp n (I 68) (I 85) l = true) (gS, I, J, gR p, ro)) := by
  refine px_iload_n (kk := 2) rfl rfl rfl ?_
  refine px_aload_n (kk := 0) rfl rfl rfl ?_
  refine px_getIe (v := nI n) rfl gS_65 rfl hn ?_
  refine px_icmp_ge rfl (fun c12 => ?_) (fun c12 => ?_)
  · rw [n_le (by omega) (by omega)] at c12
    obtain rfl : k = n := by omega
    refine px_iconst (v := nI 0) rfl k_0 ?_
    refine px_ireturn rfl (.inr ⟨rfl, by decide⟩) ?_
    exact qB_f (fun z => by obtain ⟨_, e, he, h1, h2⟩ := sp_hp_iff.mp z; exact hno e he ⟨h1, h2⟩)
  · rw [n_le (by omega) (by omega)] at c12
    refine px_aload_n (kk := 0) rfl rfl rfl ?_
    refine px_getR (r := 68) rfl gS_65 rfl (gR_65_4 _) ?_
    refine px_iload_n (kk := 2) rfl rfl rfl ?_
    refine px_iald (j := k) rfl gS_68 rfl (by omega) ?_
    refine px_aload_n (kk := 0) rfl rfl rfl ?_
    refine px_getR (r := 68) rfl gS_65 rfl (gR_65_4 _) ?_
    refine px_iload_n (kk := 1) rfl rfl rfl ?_
    refine px_iald (j := l) rfl gS_68 rfl (by omega) ?_
    refine px_icmp_ne rfl (fun c21 => ?_) (fun c21 => ?_)
    · refine px_iinc2 (v := nI (k + 1)) rfl (n_inc k) rfl (by decide) ?_
      refine px_goto rfl ?_
      exact lX12_hasParty hn hn8 hM hl h0 (k := k + 1) (by omega) (fun e he => by
        by_cases h : e = k
        · subst h; exact fun z => c21 z.2
        · exact hno e (by omega))
    · refine px_aload_n (kk := 0) rfl rfl rfl ?_
      refine px_getR (r := 85) rfl gS_65 rfl (gR_65_31 _) ?_
      refine px_iload_n (kk := 2) rfl rfl rfl ?_
      refine px_iald (j := k) rfl gS_85 rfl (by omega) ?_
      refine px_if_lt rfl (fun c26 => ?_) (fun c26 => ?_)
      · refine px_iinc2 (v := nI (k + 1)) rfl (n_inc k) rfl (by decide) ?_
        refine px_goto rfl ?_
        exact lX12_hasParty hn hn8 hM hl h0 (k := k + 1) (by omega) (fun e he => by
          by_cases h : e = k
          · subst h; exact fun z => z.1 ((MT_ge hM (by omega) hn8).mp (by first | exact c26 | (rw [i_lt]; rw [i_le] at c26; omega)))
          · exact hno e (by omega))
      · refine px_iconst (v := nI 1) rfl k_1 ?_
        refine px_ireturn rfl (.inr ⟨rfl, by decide⟩) ?_
        exact qB_t (sp_hp_iff.mpr ⟨h0, k, by omega, fun z => (by first | exact c26 | (intro w; rw [i_lt] at w; rw [i_le] at c26; omega) : ¬ I 85 k < 0) ((MT_ge hM (by omega) hn8).mpr z), by first | exact c21 | exact Classical.byContradiction c21⟩)
termination_by n - k
decreasing_by all_goals (have h := ‹¬ nI n ≤ nI k›; rw [n_le (by omega) (by omega)] at h; omega)
theorem vX12_hasParty {I : Nat → Nat → Int32} {J : Nat → Nat → Int64} {p : Bool × Option Nat} {ro : List (Nat × Nat × (Nat → Int32))} {n : Nat} (hn : I 65 1 = nI n) (hn8 : n ≤ 8) (hM : MT n (I 85)) {l : Nat} (hl : l < n) : Pv 0 0 0 CX12_hasParty [.ref (65), .int (nI l)] (gS, I, J, gR p, ro) (qB (sp_hp n (I 68) (I 85) l = true) (gS, I, J, gR p, ro)) := by
  refine ⟨okCX12_hasParty, Nat.le_of_ble_eq_true rfl, (show Px _ _ _ _ 0 [some (.ref (65)), some (.int (nI l)), none] [] _ _ from ?_)⟩
  refine px_aload_n (kk := 0) rfl rfl rfl ?_
  refine px_getR (r := 68) rfl gS_65 rfl (gR_65_4 _) ?_
  refine px_iload_n (kk := 1) rfl rfl rfl ?_
  refine px_iald (j := l) rfl gS_68 rfl (by omega) ?_
  refine px_if_ne rfl (fun c4 => ?_) (fun c4 => ?_)
  · refine px_iconst (v := nI 0) rfl k_0 ?_
    refine px_ist2 rfl rfl (by decide) ?_
    exact lX12_hasParty hn hn8 hM hl (fun e => c4 (by rw [e, n_0])) (k := 0) (by omega) (fun e he => by omega)
  · refine px_iconst (v := nI 0) rfl k_0 ?_
    refine px_ireturn rfl (.inr ⟨rfl, by decide⟩) ?_
    exact qB_f (fun z => (sp_hp_iff.mp z).1 (by rw [← n_0]; first | exact c4 | exact Classical.byContradiction c4))
theorem lX12_layThen {I : Nat → Nat → Int32} {J : Nat → Nat → Int64} {p : Bool × Option Nat} {ro : List (Nat × Nat × (Nat → Int32))} {n : Nat} (hn : I 65 1 = nI n) (hn8 : n ≤ 8) (hM : MT n (I 85)) {tx : List Ln} (hT : LawR tx I) (hL : LK n (I 69)) {k : Nat} (hk : k ≤ n) {I1 : Nat → Nat → Int32} (hF : Fr [82, 83, 87] I I1) (hR : ∀ j, j < k → I1 87 j = (sp_nx tx n (I 69) (I 68) (I 65 7) (I 84) (I 85) (I 86) j)) {o : Option Value} : Px 4 0 0 CX12_layThen 2 [some (.ref (65)), some (.int (nI k)), o] [] (gS, I1, J, gR p, ro) (fun r S' => r = none ∧ ∃ I', S' = (gS, I', J, gR p, ro) ∧ Fr [82, 83, 87] I I' ∧ ∀ j, j < n → I' 87 j = (sp_nx tx n (I 69) (I 68) (I 65 7) (I 84) (I 85) (I 86) j)) := by
  refine px_iload_n (kk := 1) rfl rfl rfl ?_
  refine px_aload_n (kk := 0) rfl rfl rfl ?_
  refine px_getIe (v := nI n) rfl gS_65 rfl ((congrFun (hF 65 (by decide)) 1).trans hn) ?_
  refine px_icmp_ge rfl (fun c5 => ?_) (fun c5 => ?_)
  · refine px_return rfl rfl ?_
    rw [n_le (by omega) (by omega)] at c5
    obtain rfl : k = n := by omega
    exact ⟨rfl, I1, rfl, hF, hR⟩
  · rw [n_le (by omega) (by omega)] at c5
    refine px_aload_n (kk := 0) rfl rfl rfl ?_
    refine px_iload_n (kk := 1) rfl rfl rfl ?_
    refine px_callV0 CX12_hasParty [] [.int _] (vX12_hasParty ((congrFun (hF 65 (by decide)) 1).trans hn) hn8 (by rw [hF 85 (by decide)]; exact hM) (l := k) (by omega)) rfl gS_65 (by decide) rfl rfl rfl (Nat.le_of_ble_eq_true rfl) (by decide) ?_
    rintro _ _ - (⟨hp, rfl, rfl⟩ | ⟨hp, rfl, rfl⟩)
    · rw [hF 68 (by decide), hF 85 (by decide)] at hp
      refine px_if_eq rfl (fun h => absurd h (by decide)) (fun _ => ?_)
      refine px_iconst (v := nI 1) rfl k_1 ?_
      refine px_goto rfl ?_
      refine px_ist2 rfl rfl (by decide) ?_
      rcases hM k (by omega) with hm | ⟨j0, hj0, hjk, hm, -⟩
      · have hm1 : I1 85 k = -1 := (congrFun (hF 85 (by decide)) k).trans hm
        refine px_aload_n (kk := 0) rfl rfl rfl ?_
        refine px_getR (r := 85) rfl gS_65 rfl (gR_65_31 _) ?_
        refine px_iload_n (kk := 1) rfl rfl rfl ?_
        refine px_ialde (j := k) (v := -1) rfl gS_85 rfl (by omega) hm1 ?_
        refine px_if_lt rfl (fun _ => ?_) (fun h => absurd h (by decide))
        refine px_aload_n (kk := 0) rfl rfl rfl ?_
        refine px_getR (r := 87) rfl gS_65 rfl (gR_65_33 _) ?_
        refine px_iload_n (kk := 1) rfl rfl rfl ?_
        refine px_aload_n (kk := 0) rfl rfl rfl ?_
        refine px_getR (r := 84) rfl gS_65 rfl (gR_65_30 _) ?_
        refine px_iload_n (kk := 1) rfl rfl rfl ?_
        refine px_ialde (j := k) (v := I 84 k) rfl gS_84 rfl (by omega) (by first | exact congrFun (hF 84 (by decide)) k | exact (congrFun (hF2 84 (by decide)) k).trans (congrFun (hF 84 (by decide)) k)) ?_
        refine px_iload_n (kk := 2) rfl rfl rfl ?_
        refine px_iadd rfl ?_
        refine px_callS0 CX12_heldTo [.int _, .ref 87] [.int _] (vX12_heldTo) rfl rfl rfl (Nat.le_of_ble_eq_true rfl) (by decide) ?_
        rintro _ _ - ⟨rfl, rfl⟩
        refine px_iast (j := k) rfl gS_87 rfl (by omega) ?_
        refine px_iinc1 (v := nI (k + 1)) rfl (n_inc k) rfl (by decide) ?_
        refine px_goto rfl ?_
        refine lX12_layThen hn hn8 hM hT hL (k := k + 1) (by omega) (I1 := _) (Fr_up hF (by decide) _) (fun j hj => ?_)
        rw [p_up_s]
        by_cases e : j = k
        · subst e
          rw [p_up_s, sp_nx, sp_set, if_neg (fun z => z hm), if_pos hp]
        · rw [p_up_n _ _ e]; exact hR j (by omega)
      · have hm1 : I1 85 k = nI j0 := (congrFun (hF 85 (by decide)) k).trans hm
        refine px_aload_n (kk := 0) rfl rfl rfl ?_
        refine px_getR (r := 85) rfl gS_65 rfl (gR_65_31 _) ?_
        refine px_iload_n (kk := 1) rfl rfl rfl ?_
        refine px_ialde (j := k) (v := nI j0) rfl gS_85 rfl (by omega) hm1 ?_
        refine px_if_lt rfl (fun h => absurd h (n_nneg (by omega))) (fun c20 => ?_)
        refine px_aload_n (kk := 0) rfl rfl rfl ?_
        refine px_iload_n (kk := 1) rfl rfl rfl ?_
        refine px_aload_n (kk := 0) rfl rfl rfl ?_
        refine px_getR (r := 85) rfl gS_65 rfl (gR_65_31 _) ?_
        refine px_iload_n (kk := 1) rfl rfl rfl ?_
        refine px_ialde (j := k) (v := nI j0) rfl gS_85 rfl (by omega) hm1 ?_
        refine px_aload_n (kk := 0) rfl rfl rfl ?_
        refine px_getR (r := 84) rfl gS_65 rfl (gR_65_30 _) ?_
        refine px_iload_n (kk := 1) rfl rfl rfl ?_
        refine px_ialde (j := k) (v := I 84 k) rfl gS_84 rfl (by omega) (congrFun (hF 84 (by decide)) k) ?_
        refine px_aload_n (kk := 0) rfl rfl rfl ?_
        refine px_getR (r := 84) rfl gS_65 rfl (gR_65_30 _) ?_
        refine px_aload_n (kk := 0) rfl rfl rfl ?_
        refine px_getR (r := 85) rfl gS_65 rfl (gR_65_31 _) ?_
        refine px_iload_n (kk := 1) rfl rfl rfl ?_
        refine px_ialde (j := k) (v := nI j0) rfl gS_85 rfl (by omega) hm1 ?_
        refine px_ialde (j := j0) (v := I 84 j0) rfl gS_84 rfl (by omega) (congrFun (hF 84 (by decide)) j0) ?_
        refine px_aload_n (kk := 0) rfl rfl rfl ?_
        refine px_getR (r := 86) rfl gS_65 rfl (gR_65_32 _) ?_
        refine px_iload_n (kk := 1) rfl rfl rfl ?_
        refine px_ialde (j := k) (v := I 86 k) rfl gS_86 rfl (by omega) (congrFun (hF 86 (by decide)) k) ?_
        refine px_callV0 CX12_warmerBy [] [.int _, .int _, .int _, .int _, .int _] (vX12_warmerBy (tx := tx) (LawR_mv hT (by rw [hF 65 (by decide)]) (fun c hc => hF c (fun e => by simp only [List.mem_cons, List.not_mem_nil, or_false] at e hc; omega))) ((congrFun (hF 65 (by decide)) 1).trans hn) hn8 (a := k) (b := j0) (by omega) hj0 (by rw [hF 69 (by decide)]; exact hL k j0 (by omega) hj0)) rfl gS_65 (by decide) rfl rfl rfl (Nat.le_of_ble_eq_true rfl) (by decide) ?_
        rintro _ _ - ⟨rfl, I2, rfl, hF2⟩
        refine px_ist2 rfl rfl (by decide) ?_
        refine px_aload_n (kk := 0) rfl rfl rfl ?_
        refine px_getR (r := 87) rfl gS_65 rfl (gR_65_33 _) ?_
        refine px_iload_n (kk := 1) rfl rfl rfl ?_
        refine px_aload_n (kk := 0) rfl rfl rfl ?_
        refine px_getR (r := 84) rfl gS_65 rfl (gR_65_30 _) ?_
        refine px_iload_n (kk := 1) rfl rfl rfl ?_
        refine px_ialde (j := k) (v := I 84 k) rfl gS_84 rfl (by omega) (by first | exact congrFun (hF 84 (by decide)) k | exact (congrFun (hF2 84 (by decide)) k).trans (congrFun (hF 84 (by decide)) k)) ?_
        refine px_iload_n (kk := 2) rfl rfl rfl ?_
        refine px_iadd rfl ?_
        refine px_callS0 CX12_heldTo [.int _, .ref 87] [.int _] (vX12_heldTo) rfl rfl rfl (Nat.le_of_ble_eq_true rfl) (by decide) ?_
        rintro _ _ - ⟨rfl, rfl⟩
        refine px_iast (j := k) rfl gS_87 rfl (by omega) ?_
        refine px_iinc1 (v := nI (k + 1)) rfl (n_inc k) rfl (by decide) ?_
        refine px_goto rfl ?_
        refine lX12_layThen hn hn8 hM hT hL (k := k + 1) (by omega) (I1 := _) (Fr_up (Fr_tr hF (Fr_mo hF2 (by decide))) (by decide) _) (fun j hj => ?_)
        rw [p_up_s]
        by_cases e : j = k
        · subst e
          rw [p_up_s, sp_nx, sp_set, if_pos (by rw [hm]; exact nI_nm (by omega)), sp_up, hm, mN_n (by omega), hF 69 (by decide), hF 65 (by decide), hF 68 (by decide)]
        · rw [p_up_n _ _ e, hF2 87 (by decide)]; exact hR j (by omega)
    · rw [hF 68 (by decide), hF 85 (by decide)] at hp
      refine px_if_eq rfl (fun _ => ?_) (fun h => absurd h (by decide))
      refine px_aload_n (kk := 0) rfl rfl rfl ?_
      refine px_getIe (v := I 65 7) rfl gS_65 rfl (congrFun (hF 65 (by decide)) 7) ?_
      refine px_ineg rfl ?_
      refine px_ist2 rfl rfl (by decide) ?_
      rcases hM k (by omega) with hm | ⟨j0, hj0, hjk, hm, -⟩
      · have hm1 : I1 85 k = -1 := (congrFun (hF 85 (by decide)) k).trans hm
        refine px_aload_n (kk := 0) rfl rfl rfl ?_
        refine px_getR (r := 85) rfl gS_65 rfl (gR_65_31 _) ?_
        refine px_iload_n (kk := 1) rfl rfl rfl ?_
        refine px_ialde (j := k) (v := -1) rfl gS_85 rfl (by omega) hm1 ?_
        refine px_if_lt rfl (fun _ => ?_) (fun h => absurd h (by decide))
        refine px_aload_n (kk := 0) rfl rfl rfl ?_
        refine px_getR (r := 87) rfl gS_65 rfl (gR_65_33 _) ?_
        refine px_iload_n (kk := 1) rfl rfl rfl ?_
        refine px_aload_n (kk := 0) rfl rfl rfl ?_
        refine px_getR (r := 84) rfl gS_65 rfl (gR_65_30 _) ?_
        refine px_iload_n (kk := 1) rfl rfl rfl ?_
        refine px_ialde (j := k) (v := I 84 k) rfl gS_84 rfl (by omega) (by first | exact congrFun (hF 84 (by decide)) k | exact (congrFun (hF2 84 (by decide)) k).trans (congrFun (hF 84 (by decide)) k)) ?_
        refine px_iload_n (kk := 2) rfl rfl rfl ?_
        refine px_iadd rfl ?_
        refine px_callS0 CX12_heldTo [.int _, .ref 87] [.int _] (vX12_heldTo) rfl rfl rfl (Nat.le_of_ble_eq_true rfl) (by decide) ?_
        rintro _ _ - ⟨rfl, rfl⟩
        refine px_iast (j := k) rfl gS_87 rfl (by omega) ?_
        refine px_iinc1 (v := nI (k + 1)) rfl (n_inc k) rfl (by decide) ?_
        refine px_goto rfl ?_
        refine lX12_layThen hn hn8 hM hT hL (k := k + 1) (by omega) (I1 := _) (Fr_up hF (by decide) _) (fun j hj => ?_)
        rw [p_up_s]
        by_cases e : j = k
        · subst e
          rw [p_up_s, sp_nx, sp_set, if_neg (fun z => z hm), if_neg hp]
        · rw [p_up_n _ _ e]; exact hR j (by omega)
      · have hm1 : I1 85 k = nI j0 := (congrFun (hF 85 (by decide)) k).trans hm
        refine px_aload_n (kk := 0) rfl rfl rfl ?_
        refine px_getR (r := 85) rfl gS_65 rfl (gR_65_31 _) ?_
        refine px_iload_n (kk := 1) rfl rfl rfl ?_
        refine px_ialde (j := k) (v := nI j0) rfl gS_85 rfl (by omega) hm1 ?_
        refine px_if_lt rfl (fun h => absurd h (n_nneg (by omega))) (fun c20 => ?_)
        refine px_aload_n (kk := 0) rfl rfl rfl ?_
        refine px_iload_n (kk := 1) rfl rfl rfl ?_
        refine px_aload_n (kk := 0) rfl rfl rfl ?_
        refine px_getR (r := 85) rfl gS_65 rfl (gR_65_31 _) ?_
        refine px_iload_n (kk := 1) rfl rfl rfl ?_
        refine px_ialde (j := k) (v := nI j0) rfl gS_85 rfl (by omega) hm1 ?_
        refine px_aload_n (kk := 0) rfl rfl rfl ?_
        refine px_getR (r := 84) rfl gS_65 rfl (gR_65_30 _) ?_
        refine px_iload_n (kk := 1) rfl rfl rfl ?_
        refine px_ialde (j := k) (v := I 84 k) rfl gS_84 rfl (by omega) (congrFun (hF 84 (by decide)) k) ?_
        refine px_aload_n (kk := 0) rfl rfl rfl ?_
        refine px_getR (r := 84) rfl gS_65 rfl (gR_65_30 _) ?_
        refine px_aload_n (kk := 0) rfl rfl rfl ?_
        refine px_getR (r := 85) rfl gS_65 rfl (gR_65_31 _) ?_
        refine px_iload_n (kk := 1) rfl rfl rfl ?_
        refine px_ialde (j := k) (v := nI j0) rfl gS_85 rfl (by omega) hm1 ?_
        refine px_ialde (j := j0) (v := I 84 j0) rfl gS_84 rfl (by omega) (congrFun (hF 84 (by decide)) j0) ?_
        refine px_aload_n (kk := 0) rfl rfl rfl ?_
        refine px_getR (r := 86) rfl gS_65 rfl (gR_65_32 _) ?_
        refine px_iload_n (kk := 1) rfl rfl rfl ?_
        refine px_ialde (j := k) (v := I 86 k) rfl gS_86 rfl (by omega) (congrFun (hF 86 (by decide)) k) ?_
        refine px_callV0 CX12_warmerBy [] [.int _, .int _, .int _, .int _, .int _] (vX12_warmerBy (tx := tx) (LawR_mv hT (by rw [hF 65 (by decide)]) (fun c hc => hF c (fun e => by simp only [List.mem_cons, List.not_mem_nil, or_false] at e hc; omega))) ((congrFun (hF 65 (by decide)) 1).trans hn) hn8 (a := k) (b := j0) (by omega) hj0 (by rw [hF 69 (by decide)]; exact hL k j0 (by omega) hj0)) rfl gS_65 (by decide) rfl rfl rfl (Nat.le_of_ble_eq_true rfl) (by decide) ?_
        rintro _ _ - ⟨rfl, I2, rfl, hF2⟩
        refine px_ist2 rfl rfl (by decide) ?_
        refine px_aload_n (kk := 0) rfl rfl rfl ?_
        refine px_getR (r := 87) rfl gS_65 rfl (gR_65_33 _) ?_
        refine px_iload_n (kk := 1) rfl rfl rfl ?_
        refine px_aload_n (kk := 0) rfl rfl rfl ?_
        refine px_getR (r := 84) rfl gS_65 rfl (gR_65_30 _) ?_
        refine px_iload_n (kk := 1) rfl rfl rfl ?_
        refine px_ialde (j := k) (v := I 84 k) rfl gS_84 rfl (by omega) (by first | exact congrFun (hF 84 (by decide)) k | exact (congrFun (hF2 84 (by decide)) k).trans (congrFun (hF 84 (by decide)) k)) ?_
        refine px_iload_n (kk := 2) rfl rfl rfl ?_
        refine px_iadd rfl ?_
        refine px_callS0 CX12_heldTo [.int _, .ref 87] [.int _] (vX12_heldTo) rfl rfl rfl (Nat.le_of_ble_eq_true rfl) (by decide) ?_
        rintro _ _ - ⟨rfl, rfl⟩
        refine px_iast (j := k) rfl gS_87 rfl (by omega) ?_
        refine px_iinc1 (v := nI (k + 1)) rfl (n_inc k) rfl (by decide) ?_
        refine px_goto rfl ?_
        refine lX12_layThen hn hn8 hM hT hL (k := k + 1) (by omega) (I1 := _) (Fr_up (Fr_tr hF (Fr_mo hF2 (by decide))) (by decide) _) (fun j hj => ?_)
        rw [p_up_s]
        by_cases e : j = k
        · subst e
          rw [p_up_s, sp_nx, sp_set, if_pos (by rw [hm]; exact nI_nm (by omega)), sp_up, hm, mN_n (by omega), hF 69 (by decide), hF 65 (by decide), hF 68 (by decide)]
        · rw [p_up_n _ _ e, hF2 87 (by decide)]; exact hR j (by omega)
termination_by n - k
decreasing_by all_goals (have h := ‹¬ nI n ≤ nI k›; rw [n_le (by omega) (by omega)] at h; omega)
theorem vX12_layThen {I : Nat → Nat → Int32} {J : Nat → Nat → Int64} {p : Bool × Option Nat} {ro : List (Nat × Nat × (Nat → Int32))} {n : Nat} (hn : I 65 1 = nI n) (hn8 : n ≤ 8) (hM : MT n (I 85)) {tx : List Ln} (hT : LawR tx I) (hL : LK n (I 69)) : Pv 4 0 0 CX12_layThen [.ref (65)] (gS, I, J, gR p, ro) (fun r S' => r = none ∧ ∃ I', S' = (gS, I', J, gR p, ro) ∧ Fr [82, 83, 87] I I' ∧ ∀ j, j < n → I' 87 j = (sp_nx tx n (I 69) (I 68) (I 65 7) (I 84) (I 85) (I 86) j)) := by
  refine ⟨okCX12_layThen, Nat.le_of_ble_eq_true rfl, (show Px _ _ _ _ 0 [some (.ref (65)), none, none] [] _ _ from ?_)⟩
  refine px_iconst (v := nI 0) rfl k_0 ?_
  refine px_ist1 rfl rfl (by decide) ?_
  exact lX12_layThen hn hn8 hM hT hL (k := 0) (by omega) Fr_rf (fun j hj => by omega)
theorem lX12_goHour {I : Nat → Nat → Int32} {J : Nat → Nat → Int64} {p : Bool × Option Nat} {ro : List (Nat × Nat × (Nat → Int32))} {n : Nat} (hn : I 65 1 = nI n) (hn8 : n ≤ 8) {k : Nat} (hk : k ≤ n) : Px 5 0 0 CX12_goHour 4 [some (.ref (65)), some (.int (nI k))] [] (gS, (va_up I 84 (fun j => if j < k then I 87 j else I 84 j)), J, gR p, ro) (qV (gS, (va_up I 84 (fun j => if j < n then I 87 j else I 84 j)), J, gR p, ro)) := by
  refine px_iload_n (kk := 1) rfl rfl rfl ?_
  refine px_aload_n (kk := 0) rfl rfl rfl ?_
  refine px_getIe (v := nI n) rfl gS_65 rfl ((congrFun (p_up_n _ _ (by decide)) 1).trans hn) ?_
  refine px_icmp_ge rfl (fun c7 => ?_) (fun c7 => ?_)
  · refine px_return rfl rfl ?_
    rw [n_le (by omega) (by omega)] at c7
    obtain rfl : k = n := by omega
    exact ⟨rfl, rfl⟩
  · rw [n_le (by omega) (by omega)] at c7
    refine px_aload_n (kk := 0) rfl rfl rfl ?_
    refine px_getR (r := 84) rfl gS_65 rfl (gR_65_30 _) ?_
    refine px_iload_n (kk := 1) rfl rfl rfl ?_
    refine px_aload_n (kk := 0) rfl rfl rfl ?_
    refine px_getR (r := 87) rfl gS_65 rfl (gR_65_33 _) ?_
    refine px_iload_n (kk := 1) rfl rfl rfl ?_
    refine px_ialde (j := k) (v := I 87 k) rfl gS_87 rfl (by omega) (congrFun (p_up_n _ _ (by decide)) k) ?_
    refine px_iast (j := k) rfl gS_84 rfl (by omega) ?_
    refine px_iinc1 (v := nI (k + 1)) rfl (n_inc k) rfl (by decide) ?_
    refine px_goto rfl ?_
    refine px_mem ?_ (lX12_goHour hn hn8 (k := k + 1) (by omega))
    rw [p_up_s]
    exact fillf_next I 84 k (I 87)
termination_by n - k
decreasing_by all_goals (have h := ‹¬ nI n ≤ nI k›; rw [n_le (by omega) (by omega)] at h; omega)
theorem vX12_goHour {I : Nat → Nat → Int32} {J : Nat → Nat → Int64} {p : Bool × Option Nat} {ro : List (Nat × Nat × (Nat → Int32))} {n : Nat} (hn : I 65 1 = nI n) (hn8 : n ≤ 8) (hM : MT n (I 85)) {tx : List Ln} (hT : LawR tx I) (hL : LK n (I 69)) : Pv 5 0 0 CX12_goHour [.ref (65)] (gS, I, J, gR p, ro) (fun r S' => r = none ∧ ∃ I', S' = (gS, I', J, gR p, ro) ∧ Fr [82, 83, 84, 87] I I' ∧ I' 84 = fun j => if j < n then (sp_nx tx n (I 69) (I 68) (I 65 7) (I 84) (I 85) (I 86) j) else I 84 j) := by
  refine ⟨okCX12_goHour, Nat.le_of_ble_eq_true rfl, (show Px _ _ _ _ 0 [some (.ref (65)), none] [] _ _ from ?_)⟩
  refine px_aload_n (kk := 0) rfl rfl rfl ?_
  refine px_callV0 CX12_layThen [] [] (vX12_layThen hn hn8 hM hT hL) rfl gS_65 (by decide) rfl rfl rfl (Nat.le_of_ble_eq_true rfl) (by decide) ?_
  rintro _ _ - ⟨rfl, I2, rfl, hF2, h87⟩
  refine px_iconst (v := nI 0) rfl k_0 ?_
  refine px_ist1 rfl rfl (by decide) ?_
  refine px_mem (fill_0f I2 84 (I2 87)) (pxv_post (lX12_goHour (I := I2) ((congrFun (hF2 65 (by decide)) 1).trans hn) hn8 (k := 0) (by omega)) (fun r S hr => ?_))
  obtain ⟨rfl, rfl⟩ := hr
  refine ⟨rfl, _, rfl, Fr_up (Fr_mo hF2 (by decide)) (by decide) _, ?_⟩
  rw [p_up_s]
  funext j
  by_cases hj : j < n
  · rw [if_pos hj, if_pos hj, h87 j hj]
  · rw [if_neg hj, if_neg hj, hF2 84 (by decide)]
theorem lX12_haveNeeds {I : Nat → Nat → Int32} {J : Nat → Nat → Int64} {p : Bool × Option Nat} {ro : List (Nat × Nat × (Nat → Int32))} {n : Nat} (hn : I 65 1 = nI n) (hn8 : n ≤ 8) {k : Nat} (hk : k ≤ n) : Px 0 0 0 CX12_haveNeeds 4 [some (.ref (65)), some (.int ((sp_bits (fun l => decide (I 67 l ≤ I 84 l)) k))), some (.int (nI k))] [] (gS, I, J, gR p, ro) (qI (sp_bits (fun l => decide (I 67 l ≤ I 84 l)) n) (gS, I, J, gR p, ro)) := by
  refine px_iload_n (kk := 2) rfl rfl rfl ?_
  refine px_aload_n (kk := 0) rfl rfl rfl ?_
  refine px_getIe (v := nI n) rfl gS_65 rfl hn ?_
  refine px_icmp_ge rfl (fun c7 => ?_) (fun c7 => ?_)
  · refine px_iload_n (kk := 1) rfl rfl rfl ?_
    refine px_ireturn rfl (.inl rfl) ?_
    rw [n_le (by omega) (by omega)] at c7
    obtain rfl : k = n := by omega
    exact ⟨rfl, rfl⟩
  · rw [n_le (by omega) (by omega)] at c7
    refine px_aload_n (kk := 0) rfl rfl rfl ?_
    refine px_getR (r := 84) rfl gS_65 rfl (gR_65_30 _) ?_
    refine px_iload_n (kk := 2) rfl rfl rfl ?_
    refine px_iald (j := k) rfl gS_84 rfl (by omega) ?_
    refine px_aload_n (kk := 0) rfl rfl rfl ?_
    refine px_getR (r := 67) rfl gS_65 rfl (gR_65_3 _) ?_
    refine px_iload_n (kk := 2) rfl rfl rfl ?_
    refine px_iald (j := k) rfl gS_67 rfl (by omega) ?_
    refine px_icmp_lt rfl (fun c16 => ?_) (fun c16 => ?_)
    · refine px_iinc2 (v := nI (k + 1)) rfl (n_inc k) rfl (by decide) ?_
      refine px_goto rfl ?_
      rw [show (sp_bits (fun l => decide (I 67 l ≤ I 84 l)) k) = sp_bits (fun l => decide (I 67 l ≤ I 84 l)) (k + 1) by simp only [sp_bits]; rw [if_neg (by simpa using c16)]]
      exact lX12_haveNeeds hn hn8 (k := k + 1) (by omega)
    · refine px_iload_n (kk := 1) rfl rfl rfl ?_
      refine px_iconst (v := nI 1) rfl k_1 ?_
      refine px_iload_n (kk := 2) rfl rfl rfl ?_
      refine px_ishl rfl ?_
      refine px_ior rfl ?_
      refine px_ist1 rfl rfl (by decide) ?_
      refine px_iinc2 (v := nI (k + 1)) rfl (n_inc k) rfl (by decide) ?_
      refine px_goto rfl ?_
      rw [show (sp_bits (fun l => decide (I 67 l ≤ I 84 l)) k) ||| (nI 1 <<< (nI k &&& 31)) = sp_bits (fun l => decide (I 67 l ≤ I 84 l)) (k + 1) by simp only [sp_bits]; rw [if_pos (by simpa using c16)]]
      exact lX12_haveNeeds hn hn8 (k := k + 1) (by omega)
termination_by n - k
decreasing_by all_goals (have h := ‹¬ nI n ≤ nI k›; rw [n_le (by omega) (by omega)] at h; omega)
theorem vX12_haveNeeds {I : Nat → Nat → Int32} {J : Nat → Nat → Int64} {p : Bool × Option Nat} {ro : List (Nat × Nat × (Nat → Int32))} {n : Nat} (hn : I 65 1 = nI n) (hn8 : n ≤ 8) : Pv 0 0 0 CX12_haveNeeds [.ref (65)] (gS, I, J, gR p, ro) (qI (sp_bits (fun l => decide (I 67 l ≤ I 84 l)) n) (gS, I, J, gR p, ro)) := by
  refine ⟨okCX12_haveNeeds, Nat.le_of_ble_eq_true rfl, (show Px _ _ _ _ 0 [some (.ref (65)), none, none] [] _ _ from ?_)⟩
  refine px_iconst (v := nI 0) rfl k_0 ?_
  refine px_ist1 rfl rfl (by decide) ?_
  refine px_iconst (v := nI 0) rfl k_0 ?_
  refine px_ist2 rfl rfl (by decide) ?_
  exact lX12_haveNeeds hn hn8 (k := 0) (by omega)
