def wiC (g v : Int32) : Prop := g ≠ -1 ∧ (v / nI 10 = g ∨ v - v / nI 10 * nI 10 = g)
theorem vX8_isWith {I : Nat → Nat → Int32} {J : Nat → Nat → Int64} {p : Bool × Option Nat} {ro : List (Nat × Nat × (Nat → Int32))} {v g : Int32} : Pv 0 0 0 CX8_isWith [.int (v), .int (g)] (gS, I, J, gR p, ro) (qB (wiC g v) (gS, I, J, gR p, ro)) := by
  refine ⟨okCX8_isWith, Nat.le_of_ble_eq_true rfl, (show Px _ _ _ _ 0 [some (.int (v)), some (.int (g))] [] _ _ from ?_)⟩
  refine px_iload_n (kk := 1) rfl rfl rfl ?_
  refine px_iconst (v := -1) rfl k_m1 ?_
  refine px_icmp_eq rfl (fun c2 => ?_) (fun c2 => ?_)
  · refine px_iconst (v := nI 0) rfl k_0 ?_
    refine px_ireturn rfl (.inr ⟨rfl, by decide⟩) ?_
    exact qB_f (fun h => h.1 c2)
  · refine px_iload_n (kk := 0) rfl rfl rfl ?_
    refine px_bipush (v := nI 10) rfl b_10 ?_
    refine px_idiv rfl (by decide) ?_
    refine px_iload_n (kk := 1) rfl rfl rfl ?_
    refine px_icmp_eq rfl (fun c7 => ?_) (fun c7 => ?_)
    · refine px_iconst (v := nI 1) rfl k_1 ?_
      refine px_goto rfl ?_
      refine px_ireturn rfl (.inr ⟨rfl, by decide⟩) ?_
      exact qB_t ⟨c2, Or.inl c7⟩
    · refine px_iload_n (kk := 0) rfl rfl rfl ?_
      refine px_bipush (v := nI 10) rfl b_10 ?_
      refine px_irem rfl (by decide) ?_
      refine px_iload_n (kk := 1) rfl rfl rfl ?_
      refine px_icmp_ne rfl (fun c12 => ?_) (fun c12 => ?_)
      · refine px_iconst (v := nI 0) rfl k_0 ?_
        refine px_ireturn rfl (.inr ⟨rfl, by decide⟩) ?_
        exact qB_f (fun h => h.2.elim c7 c12)
      · refine px_iconst (v := nI 1) rfl k_1 ?_
        refine px_goto rfl ?_
        refine px_ireturn rfl (.inr ⟨rfl, by decide⟩) ?_
        exact qB_t ⟨c2, Or.inr c12⟩
/-- the class's rows between two hours -/
def DC (n : Nat) (W M A : Nat → Int32) (u : Int32) (pl : Nat) (I : Nat → Nat → Int32) : Prop := (∀ l, l < n → I 22 l = W l) ∧ (∀ l, l < n → I 17 l = M l) ∧ (∀ l, n ≤ l → l < 8 → I 17 l = -1) ∧ (∀ l, l < n → I 18 l = A l) ∧ I 15 6 = u ∧ I 15 7 = nI pl
theorem TC_15 {n : Nat} {BM BA : Nat → Int32} {s : DT} {I : Nat → Nat → Int32} {v : Int32} (h : TC n BM BA s I) : TC n BM BA s (va_up I 15 (va_up (I 15) 7 v)) := by
  obtain ⟨t1, t2, t3, t4, t5, t6, t7⟩ := h
  exact ⟨fun l hl => by rw [p_up_n _ _ (by decide)]; exact t1 l hl, by rw [p_up_n _ _ (by decide)]; exact t2, by rw [p_up_s, p_up_n _ _ (by decide), t3], fun l hl => by rw [p_up_n _ _ (by decide)]; exact t4 l hl, fun l hl => by rw [p_up_n _ _ (by decide)]; exact t5 l hl, fun l hl => by rw [p_up_n _ _ (by decide)]; exact t6 l hl, fun l h1 h2 => by rw [p_up_n _ _ (by decide)]; exact t7 l h1 h2⟩
def n1 : Nat → Int32 := fun _ => -1
theorem MT_n1 {n : Nat} : MT n n1 := fun _ _ => Or.inl rfl
theorem TI_0 {n : Nat} {u : Int32} : TI n (n1, 0, u) := ⟨MT_n1, Nat.zero_le _⟩
theorem vX8_clear {I : Nat → Nat → Int32} {J : Nat → Nat → Int64} {p : Bool × Option Nat} {ro : List (Nat × Nat × (Nat → Int32))} {n : Nat} (hn8 : n ≤ 8) {W M A : Nat → Int32} {u : Int32} {pl : Nat} (hD : DC n W M A u pl I) : Pv 2 0 0 CX8_clearForHour [.ref (15)] (gS, I, J, gR p, ro) (fun v S' => v = none ∧ ∃ I', S' = (gS, I', J, gR p, ro) ∧ Fr [16, 17, 18, 19, 20, 21] I I' ∧ TC n M A (n1, 0, u) I') := by
  refine ⟨okCX8_clearForHour, Nat.le_of_ble_eq_true rfl, (show Px _ _ _ _ 0 [some (.ref (15))] [] _ _ from ?_)⟩
  refine px_aload_n (kk := 0) rfl rfl rfl ?_
  refine px_getR (r := 19) rfl gS_15 rfl (gR_15_3 _) ?_
  refine px_aload_n (kk := 0) rfl rfl rfl ?_
  refine px_getR (r := 16) rfl gS_15 rfl (gR_15_2 _) ?_
  refine px_callV0 CX6_copy [] [.ref 16] (vX6_copy PG_be PG_th (by decide) (by decide) (by decide)) rfl gS_19 (by decide) rfl rfl rfl (Nat.le_of_ble_eq_true rfl) (by decide) ?_
  rintro _ _ - ⟨rfl, rfl⟩
  refine px_aload_n (kk := 0) rfl rfl rfl ?_
  refine px_getR (r := 16) rfl gS_15 rfl (gR_15_2 _) ?_
  refine px_callV0 CX6_clear [] [] (vX6_clear PG_th) rfl gS_16 (by decide) rfl rfl rfl (Nat.le_of_ble_eq_true rfl) (by decide) ?_
  rintro _ _ - ⟨rfl, rfl⟩
  refine px_return rfl rfl ?_
  refine ⟨rfl, _, rfl, ?_, ?_⟩
  · exact Fr_up (Fr_up (Fr_up (Fr_up (Fr_up (Fr_up Fr_rf (by decide) _) (by decide) _) (by decide) _) (by decide) _) (by decide) _) (by decide) _
  · obtain ⟨d1, d2, d3, d4, d5, d6⟩ := hD
    refine ⟨fun l hl => ?_, ?_, ?_, fun l hl => ?_, fun l hl => ?_, fun l hl => ?_, fun l h1 h2 => ?_⟩
    · simp only [va_up, Nat.reduceEqDiff, if_true, if_false, show l < 8 by omega]; rfl
    · simp only [va_up, Nat.reduceEqDiff, if_true, if_false]
    · simp only [va_up, Nat.reduceEqDiff, if_true, if_false]; exact d5
    · simp only [va_up, Nat.reduceEqDiff, if_true, if_false, show l < 8 by omega]; rfl
    · simp only [va_up, Nat.reduceEqDiff, if_true, if_false, cp8, show l < 8 by omega]; exact d2 l hl
    · simp only [va_up, Nat.reduceEqDiff, if_true, if_false, cp8, show l < 8 by omega]; exact d4 l hl
    · simp only [va_up, Nat.reduceEqDiff, if_true, if_false, h2]
theorem lX8_tell {I : Nat → Nat → Int32} {J : Nat → Nat → Int64} {p : Bool × Option Nat} {ro : List (Nat × Nat × (Nat → Int32))} {n : Nat} (hn : I 1 4 = nI n) (hn8 : n ≤ 8) {s z : Nat} (hs : s < 6) (hz : I (53 + 2 * s) 4 = nI z) (hz60 : z ≤ 60) {BM BA : Nat → Int32} (hBM : MT n BM) (hHS : HS n BM BA) {g : Int32} {pl : Nat} {st : DT} {I1 : Nat → Nat → Int32} (hF : Fr [15, 16, 17, 18] I I1) (hTC : TC n BM BA st I1) (hp : I1 15 7 = nI pl) (hp60 : pl ≤ 60) {o : Option Value} {Q : Option Value → pm_M → Prop} (hq : ∀ I2, Fr [15, 16, 17, 18] I I2 → TC n BM BA (sp_tell n (I 1 5) (fun j => (J (54 + 2 * s) j).toInt32) (wiC g) (z - pl) pl st).1 I2 → I2 15 7 = nI (sp_tell n (I 1 5) (fun j => (J (54 + 2 * s) j).toInt32) (wiC g) (z - pl) pl st).2 → Q none (gS, I2, J, gR p, ro)) : Px 4 0 0 CX8_tellHour 2 [some (.ref (15)), some (.ref (53 + 2 * s)), some (.int (g)), o] [] (gS, I1, J, gR p, ro) (Q) := by
  refine px_aload_n (kk := 0) rfl rfl rfl ?_
  refine px_getIe rfl gS_15 rfl hp ?_
  refine px_aload_n (kk := 1) rfl rfl rfl ?_
  refine px_getIe rfl (gS_sh s hs) rfl ((congrFun (hF (53 + 2 * s) (by simp; omega)) 4).trans hz) ?_
  refine px_icmp_ge rfl (fun c6 => ?_) (fun c6 => ?_)
  · refine px_return rfl rfl ?_
    rw [n_le (by omega) (by omega)] at c6
    rw [show z - pl = 0 by omega] at hq
    exact hq I1 hF hTC hp
  · rw [n_le (by omega) (by omega)] at c6
    refine px_aload_n (kk := 1) rfl rfl rfl ?_
    refine px_aload_n (kk := 0) rfl rfl rfl ?_
    refine px_getIe rfl gS_15 rfl hp ?_
    refine px_callV0 CX7_byteAt [] [.int _] (vX7_byteAt hs ((congrFun (hF (53 + 2 * s) (by simp; omega)) 4).trans hz) hz60 (a := pl) (by omega)) rfl (gS_sh s hs) (by decide) rfl rfl rfl (Nat.le_of_ble_eq_true rfl) (by decide) ?_
    rintro _ _ - ⟨rfl, rfl⟩
    refine px_ist3 rfl rfl (by decide) ?_
    refine px_aload_n (kk := 0) rfl rfl rfl ?_
    refine px_dup rfl rfl ?_
    refine px_getIe rfl gS_15 rfl hp ?_
    refine px_iconst (v := nI 1) rfl k_1 ?_
    refine px_iaddN rfl ?_
    refine px_putI rfl gS_15 rfl rfl ?_
    refine px_iload_n (kk := 3) rfl rfl rfl ?_
    refine px_iconst (v := -1) rfl k_m1 ?_
    refine px_icmp_ne rfl (fun c20 => ?_) (fun c20 => ?_)
    · refine px_iload_n (kk := 3) rfl rfl rfl ?_
      refine px_iload_n (kk := 2) rfl rfl rfl ?_
      refine px_callS0 CX8_isWith [] [.int _, .int _] (vX8_isWith) rfl rfl rfl (Nat.le_of_ble_eq_true rfl) (by decide) ?_
      rintro _ _ - (⟨hw, rfl, rfl⟩ | ⟨hw, rfl, rfl⟩)
      · refine px_if_ne rfl (fun _ => ?_) (fun h => absurd h (by decide))
        refine px_goto rfl ?_
        have hu : (sp_tell n (I 1 5) (fun j => (J (54 + 2 * s) j).toInt32) (wiC g) (z - pl) pl st) = (sp_tell n (I 1 5) (fun j => (J (54 + 2 * s) j).toInt32) (wiC g) (z - (pl + 1)) (pl + 1) st) := by
          conv => lhs; rw [show z - pl = (z - (pl + 1)) + 1 by omega]; unfold sp_tell
          rw [if_neg c20, if_pos hw]
        rw [hu] at hq
        exact lX8_tell hn hn8 hs hz hz60 hBM hHS (Fr_up hF (by decide) _) (TC_15 hTC) (by rw [p_up_s, p_up_s]) (by omega) hq
      · refine px_if_ne rfl (fun h => absurd h (by decide)) (fun _ => ?_)
        refine px_aload_n (kk := 0) rfl rfl rfl ?_
        refine px_iload_n (kk := 3) rfl rfl rfl ?_
        refine px_bipush (v := nI 10) rfl b_10 ?_
        refine px_idiv rfl (by decide) ?_
        refine px_iload_n (kk := 3) rfl rfl rfl ?_
        refine px_bipush (v := nI 10) rfl b_10 ?_
        refine px_irem rfl (by decide) ?_
        refine px_callV0 CX8_ask [] [.int _, .int _] (vX8_ask ((congrFun (p_up_n _ _ (by decide)) 4).trans ((congrFun (hF 1 (by decide)) 4).trans hn)) hn8 (TC_15 hTC) hBM hHS) rfl gS_15 (by decide) rfl rfl rfl (Nat.le_of_ble_eq_true rfl) (by decide) ?_
        rintro _ _ - ⟨rfl, I2, rfl, hF2, hp2, hTC2⟩
        refine px_goto rfl ?_
        have hu : (sp_tell n (I 1 5) (fun j => (J (54 + 2 * s) j).toInt32) (wiC g) (z - pl) pl st) = (sp_tell n (I 1 5) (fun j => (J (54 + 2 * s) j).toInt32) (wiC g) (z - (pl + 1)) (pl + 1) (sp_ask n (I 1 5) st ((J (54 + 2 * s) pl).toInt32 / nI 10) ((J (54 + 2 * s) pl).toInt32 - (J (54 + 2 * s) pl).toInt32 / nI 10 * nI 10))) := by
          conv => lhs; rw [show z - pl = (z - (pl + 1)) + 1 by omega]; unfold sp_tell
          rw [if_neg c20, if_neg hw]
        rw [hu] at hq
        rw [show va_up I1 15 (va_up (I1 15) 7 (nI (pl + 1))) 1 5 = I 1 5 from by rw [p_up_n _ _ (by decide), hF 1 (by decide)]] at hTC2
        exact lX8_tell hn hn8 hs hz hz60 hBM hHS (Fr_tr (Fr_up hF (by decide) _) hF2) hTC2 (by rw [hp2, p_up_s, p_up_s]) (by omega) hq
    · refine px_goto rfl ?_
      refine px_return rfl rfl ?_
      have hu : (sp_tell n (I 1 5) (fun j => (J (54 + 2 * s) j).toInt32) (wiC g) (z - pl) pl st) = (st, pl + 1) := by
        conv => lhs; rw [show z - pl = (z - (pl + 1)) + 1 by omega]; unfold sp_tell
        rw [if_pos c20]
      rw [hu] at hq
      exact hq _ (Fr_up hF (by decide) _) (TC_15 hTC) (by rw [p_up_s, p_up_s])
termination_by z - pl
decreasing_by all_goals (have h := ‹¬ nI z ≤ nI pl›; rw [n_le (by omega) (by omega)] at h; omega)
theorem vX8_tell {I : Nat → Nat → Int32} {J : Nat → Nat → Int64} {p : Bool × Option Nat} {ro : List (Nat × Nat × (Nat → Int32))} {n : Nat} (hn : I 1 4 = nI n) (hn8 : n ≤ 8) {s z : Nat} (hs : s < 6) (hz : I (53 + 2 * s) 4 = nI z) (hz60 : z ≤ 60) {W M A : Nat → Int32} {u : Int32} {pl : Nat} (hD : DC n W M A u pl I) (hM : MT n M) (hA : HS n M A) {g : Int32} (hp60 : pl ≤ 60) : Pv 4 0 0 CX8_tellHour [.ref (15), .ref (53 + 2 * s), .int (g)] (gS, I, J, gR p, ro) (fun v S' => v = none ∧ ∃ I', S' = (gS, I', J, gR p, ro) ∧ Fr [15, 16, 17, 18, 19, 20, 21] I I' ∧ TC n M A (sp_tell n (I 1 5) (fun j => (J (54 + 2 * s) j).toInt32) (wiC g) (z - pl) pl (n1, 0, u)).1 I' ∧ I' 15 7 = nI (sp_tell n (I 1 5) (fun j => (J (54 + 2 * s) j).toInt32) (wiC g) (z - pl) pl (n1, 0, u)).2) := by
  refine ⟨okCX8_tellHour, Nat.le_of_ble_eq_true rfl, (show Px _ _ _ _ 0 [some (.ref (15)), some (.ref (53 + 2 * s)), some (.int (g)), none] [] _ _ from ?_)⟩
  refine px_aload_n (kk := 0) rfl rfl rfl ?_
  refine px_callV0 CX8_clearForHour [] [] (vX8_clear hn8 hD) rfl gS_15 (by decide) rfl rfl rfl (Nat.le_of_ble_eq_true rfl) (by decide) ?_
  rintro _ _ - ⟨rfl, I1, rfl, hF, hTC⟩
  refine lX8_tell (I := I1) ((congrFun (hF 1 (by decide)) 4).trans hn) hn8 hs ((congrFun (hF (53 + 2 * s) (by simp; omega)) 4).trans hz) hz60 hM hA Fr_rf hTC ((congrFun (hF 15 (by decide)) 7).trans hD.2.2.2.2.2) hp60 (fun I2 hF2 hTC2 hp2 => ?_)
  rw [hF 1 (by decide)] at hTC2 hp2
  exact ⟨rfl, I2, rfl, Fr_tr (Fr_mo hF (by decide)) (Fr_mo hF2 (by decide)), hTC2, hp2⟩
theorem vX8_begin {I : Nat → Nat → Int32} {J : Nat → Nat → Int64} {p : Bool × Option Nat} {ro : List (Nat × Nat × (Nat → Int32))} {n : Nat} (hn8 : n ≤ 8) : Pv 2 0 0 CX8_begin [.ref (15)] (gS, I, J, gR p, ro) (fun v S' => v = none ∧ ∃ I', S' = (gS, I', J, gR p, ro) ∧ Fr [15, 16, 17, 18, 22, 23] I I' ∧ DC n (I 2) n1 (fun _ => nI 0) (nI 0) 0 I' ∧ ∀ l, l < 8 → I' 23 l = nI 0) := by
  refine ⟨okCX8_begin, Nat.le_of_ble_eq_true rfl, (show Px _ _ _ _ 0 [some (.ref (15))] [] _ _ from ?_)⟩
  refine px_aload_n (kk := 0) rfl rfl rfl ?_
  refine px_getR (r := 1) rfl gS_15 rfl (gR_15_0 _) ?_
  refine px_getR (r := 2) rfl gS_1 rfl (gR_1_0 _) ?_
  refine px_iconst (v := nI 0) rfl k_0 ?_
  refine px_aload_n (kk := 0) rfl rfl rfl ?_
  refine px_getR (r := 22) rfl gS_15 rfl (gR_15_4 _) ?_
  refine px_iconst (v := nI 0) rfl k_0 ?_
  refine px_bipush (v := nI 8) rfl b_8 ?_
  refine px_copyI (0) (0) (8) rfl (Nat.le_of_ble_eq_true rfl) gS_2 gS_22 rfl rfl rfl (by decide) (by decide) ?_
  refine px_aload_n (kk := 0) rfl rfl rfl ?_
  refine px_getR (r := 23) rfl gS_15 rfl (gR_15_5 _) ?_
  refine px_iconst (v := nI 0) rfl k_0 ?_
  refine px_callS0 CJ7_fill_53178 [] [.ref 23, .int _] (vJ_fillI gS_23 (by decide) (nI 0)) rfl rfl rfl (Nat.le_of_ble_eq_true rfl) (by decide) ?_
  rintro _ _ - ⟨rfl, rfl⟩
  refine px_aload_n (kk := 0) rfl rfl rfl ?_
  refine px_getR (r := 16) rfl gS_15 rfl (gR_15_2 _) ?_
  refine px_callV0 CX6_clear [] [] (vX6_clear PG_th) rfl gS_16 (by decide) rfl rfl rfl (Nat.le_of_ble_eq_true rfl) (by decide) ?_
  rintro _ _ - ⟨rfl, rfl⟩
  refine px_aload_n (kk := 0) rfl rfl rfl ?_
  refine px_iconst (v := nI 0) rfl k_0 ?_
  refine px_putI rfl gS_15 rfl rfl ?_
  refine px_aload_n (kk := 0) rfl rfl rfl ?_
  refine px_iconst (v := nI 0) rfl k_0 ?_
  refine px_putI rfl gS_15 rfl rfl ?_
  refine px_return rfl rfl ?_
  refine ⟨rfl, _, rfl, ?_, ?_, fun l hl => ?_⟩
  · exact Fr_up (Fr_up (Fr_up (Fr_up (Fr_up (Fr_up (Fr_up Fr_rf (by decide) _) (by decide) _) (by decide) _) (by decide) _) (by decide) _) (by decide) _) (by decide) _
  · refine ⟨fun l hl => ?_, fun l hl => ?_, fun l h1 h2 => ?_, fun l hl => ?_, ?_, ?_⟩
    · simp only [va_up, Nat.reduceEqDiff, if_true, if_false, cpy_8, cp8, show l < 8 by omega]
    · simp only [va_up, Nat.reduceEqDiff, if_true, if_false, show l < 8 by omega]; rfl
    · simp only [va_up, Nat.reduceEqDiff, if_true, if_false, h2]
    · simp only [va_up, Nat.reduceEqDiff, if_true, if_false, show l < 8 by omega]
    · simp only [va_up, Nat.reduceEqDiff, if_true, if_false]
    · simp only [va_up, Nat.reduceEqDiff, if_true, if_false]
  · simp only [va_up, Nat.reduceEqDiff, if_true, if_false, hl]
theorem cw_0 (I : Nat → Nat → Int32) (h m : Nat) : I = va_up I h (fun j => if j < 0 ∧ I m j = -1 then I h j + nI 1 else I h j) := by
  funext c
  by_cases hc : c = h
  · subst hc; rw [p_up_s]; funext j; rw [if_neg (by omega)]
  · rw [p_up_n _ _ hc]
theorem cw_s (f g : Nat → Int32) (k : Nat) (hk : g k = -1) : va_up (fun j => if j < k ∧ g j = -1 then f j + nI 1 else f j) k (f k + nI 1) = fun j => if j < k + 1 ∧ g j = -1 then f j + nI 1 else f j := by
  funext j
  by_cases h : j = k
  · subst h; rw [p_up_s, if_pos ⟨by omega, hk⟩]
  · rw [p_up_n _ _ h]
    by_cases h2 : j < k
    · simp only [h2, show j < k + 1 by omega]
    · simp only [h2, show ¬ j < k + 1 by omega]
theorem cw_n (f g : Nat → Int32) (k : Nat) (hk : g k ≠ -1) : (fun j => if j < k ∧ g j = -1 then f j + nI 1 else f j) = fun j => if j < k + 1 ∧ g j = -1 then f j + nI 1 else f j := by
  funext j
  by_cases h : j = k
  · subst h; rw [if_neg (fun z => hk z.2), if_neg (fun z => hk z.2)]
  · by_cases h2 : j < k
    · simp only [h2, show j < k + 1 by omega]
    · simp only [h2, show ¬ j < k + 1 by omega]
theorem lX8_cw {I : Nat → Nat → Int32} {J : Nat → Nat → Int64} {p : Bool × Option Nat} {ro : List (Nat × Nat × (Nat → Int32))} {n : Nat} (hn : I 1 4 = nI n) (hn8 : n ≤ 8) {k : Nat} (hk : k ≤ n) : Px 0 0 0 CX8_countWaits 2 [some (.ref (15)), some (.int (nI k))] [] (gS, (va_up I 23 (fun j => if j < k ∧ I 17 j = -1 then I 23 j + nI 1 else I 23 j)), J, gR p, ro) (qV (gS, (va_up I 23 (fun j => if j < n ∧ I 17 j = -1 then I 23 j + nI 1 else I 23 j)), J, gR p, ro)) := by
  refine px_iload_n (kk := 1) rfl rfl rfl ?_
  refine px_aload_n (kk := 0) rfl rfl rfl ?_
  refine px_getR (r := 1) rfl gS_15 rfl (gR_15_0 _) ?_
  refine px_getIe rfl gS_1 rfl ((congrFun (p_up_n _ _ (by decide)) 4).trans hn) ?_
  refine px_icmp_ge rfl (fun c6 => ?_) (fun c6 => ?_)
  · refine px_return rfl rfl ?_
    rw [n_le (by omega) (by omega)] at c6
    obtain rfl : k = n := by omega
    exact ⟨rfl, rfl⟩
  · rw [n_le (by omega) (by omega)] at c6
    refine px_aload_n (kk := 0) rfl rfl rfl ?_
    refine px_getR (r := 16) rfl gS_15 rfl (gR_15_2 _) ?_
    refine px_getR (r := 17) rfl gS_16 rfl (gR_16_0 _) ?_
    refine px_iload_n (kk := 1) rfl rfl rfl ?_
    refine px_ialde (j := k) (v := I 17 k) rfl gS_17 rfl (by omega) (congrFun (p_up_n _ _ (by decide)) k) ?_
    refine px_iconst (v := -1) rfl k_m1 ?_
    refine px_icmp_ne rfl (fun c13 => ?_) (fun c13 => ?_)
    · refine px_iinc1 (v := nI (k + 1)) rfl (n_inc k) rfl (by decide) ?_
      refine px_goto rfl ?_
      rw [cw_n (I 23) (I 17) k c13]
      exact lX8_cw hn hn8 (k := k + 1) (by omega)
    · refine px_aload_n (kk := 0) rfl rfl rfl ?_
      refine px_getR (r := 23) rfl gS_15 rfl (gR_15_5 _) ?_
      refine px_iload_n (kk := 1) rfl rfl rfl ?_
      refine px_dup2 rfl rfl rfl ?_
      refine px_iald (j := k) rfl gS_23 rfl (by omega) ?_
      refine px_iconst (v := nI 1) rfl k_1 ?_
      refine px_iadd rfl ?_
      refine px_iast (j := k) rfl gS_23 rfl (by omega) ?_
      refine px_iinc1 (v := nI (k + 1)) rfl (n_inc k) rfl (by decide) ?_
      refine px_goto rfl ?_
      refine px_mem (show _ = (va_up I 23 (fun j => if j < (k + 1) ∧ I 17 j = -1 then I 23 j + nI 1 else I 23 j)) from ?_) (lX8_cw hn hn8 (k := k + 1) (by omega))
      rw [up2, p_up_s, if_neg (by omega), cw_s (I 23) (I 17) k c13]
termination_by n - k
decreasing_by all_goals (have h := ‹¬ nI n ≤ nI k›; rw [n_le (by omega) (by omega)] at h; omega)
theorem vX8_cw {I : Nat → Nat → Int32} {J : Nat → Nat → Int64} {p : Bool × Option Nat} {ro : List (Nat × Nat × (Nat → Int32))} {n : Nat} (hn : I 1 4 = nI n) (hn8 : n ≤ 8) : Pv 0 0 0 CX8_countWaits [.ref (15)] (gS, I, J, gR p, ro) (qV (gS, (va_up I 23 (fun j => if j < n ∧ I 17 j = -1 then I 23 j + nI 1 else I 23 j)), J, gR p, ro)) := by
  refine ⟨okCX8_countWaits, Nat.le_of_ble_eq_true rfl, (show Px _ _ _ _ 0 [some (.ref (15)), none] [] _ _ from ?_)⟩
  refine px_iconst (v := nI 0) rfl k_0 ?_
  refine px_ist1 rfl rfl (by decide) ?_
  refine px_mem (cw_0 I 23 17) ?_
  exact lX8_cw hn hn8 (k := 0) (by omega)
