/-! SOON, DRAWN -/
theorem sp_bits_v (q : Nat → Bool) : ∀ k, k ≤ 8 → ∃ v, v < 256 ∧ sp_bits q k = nI v ∧ ∀ l, l < 8 → (v.testBit l = true ↔ l < k ∧ q l = true)
  | 0, _ => ⟨0, Nat.succ_pos 255, rfl, fun l _ => by simp⟩
  | k + 1, hk => by
    obtain ⟨v, h1, h2, h3⟩ := sp_bits_v q k (by omega)
    by_cases hq : q k = true
    · refine ⟨v ||| 2 ^ k, (bit_or v h1 k (by omega)).2, by simp only [sp_bits, hq, if_true, h2, (bit_or v h1 k (by omega)).1], fun l hl => ?_⟩
      rw [bit_tb v h1 k (by omega) l hl, h3 l hl]
      constructor
      · rintro (⟨a, b⟩ | rfl)
        · exact ⟨by omega, b⟩
        · exact ⟨by omega, hq⟩
      · rintro ⟨a, b⟩
        by_cases e : l = k
        · exact Or.inr e
        · exact Or.inl ⟨by omega, b⟩
    · refine ⟨v, h1, by simp only [sp_bits, hq, if_false, h2, Bool.false_eq_true], fun l hl => ?_⟩
      rw [h3 l hl]
      constructor
      · rintro ⟨a, b⟩; exact ⟨by omega, b⟩
      · rintro ⟨a, b⟩
        refine ⟨?_, b⟩
        by_cases e : l = k
        · subst e; exact absurd b hq
        · omega
theorem bit_both : ∀ v, v < 256 → ∀ a, a < 8 → ∀ b, b < 8 → (nI v &&& ((nI 1 <<< (nI a &&& 31)) ||| (nI 1 <<< (nI b &&& 31))) = ((nI 1 <<< (nI a &&& 31)) ||| (nI 1 <<< (nI b &&& 31))) ↔ v.testBit a = true ∧ v.testBit b = true) := by decide +kernel
def sp_s1 (tx : List Ln) (L P : Nat → Int32) (co : Int32) (a b : Nat) (wa wb h : Int32) : Int32 := sp_cl (wa + sp_rise tx (L (8 * a + b)) wa wb h co (sp_one (P a) (P b)))
def sp_soon (tx : List Ln) (L P N : Nat → Int32) (co : Int32) (a b : Nat) : Nat → Nat → Int32 → Int32 → Int32
  | 0, _, _, _ => -2
  | f + 1, k, wa, wb => if N a ≤ wa ∧ N b ≤ wb then nI k else sp_soon tx L P N co a b f (k + 1) (sp_s1 tx L P co a b wa wb (nI k)) (sp_s1 tx L P co b a wb wa (nI k))
theorem lX8_soon {I : Nat → Nat → Int32} {J : Nat → Nat → Int64} {p : Bool × Option Nat} {ro : List (Nat × Nat × (Nat → Int32))} {tx : List Ln} {n : Nat} (hW : TW tx n p I) {a b : Nat} (ha : a < n) (hb : b < n) (hne : a ≠ b) {wa wb : Int32} {k : Nat} (hk : k ≤ 61) {I1 : Nat → Nat → Int32} (hF : Fr c8 I I1) (h6 : K6 I I1) (hwa : I1 22 a = wa) (hwb : I1 22 b = wb) (ha0 : I1 18 a = nI k) (hb0 : I1 18 b = nI k) (hM : ∀ l, l < n → I1 17 l = va_up (va_up n1 a (nI b)) b (nI a) l) : Px 4 0 0 CX8_soonBoth 18 [some (.ref (15)), some (.int (nI a)), some (.int (nI b)), some (.int (((nI 1 <<< (nI a &&& 31)) ||| (nI 1 <<< (nI b &&& 31))))), some (.int (nI k))] [] (gS, I1, J, gR p, ro) (fun v S' => v = some (.int (sp_soon tx (I 5) (I 4) (I 3) (I 1 6) a b (61 - k) k wa wb)) ∧ ∃ I', S' = (gS, I', J, gR p, ro) ∧ Fr c8 I I' ∧ K6 I I') := by
  refine px_iload rfl rfl ?_
  refine px_bipush (v := nI 60) rfl b_60 ?_
  refine px_icmp_gt rfl (fun c20 => ?_) (fun c20 => ?_)
  · refine px_bipush (v := -2) rfl b_m2 ?_
    refine px_ireturn rfl (.inl rfl) ?_
    rw [n_lt (by omega) (by omega)] at c20
    obtain rfl : k = 61 := by omega
    exact ⟨rfl, I1, rfl, hF, h6⟩
  · have hW1 := TW_mv hW hF h6 (by decide)
    have hn8 := hW.2.2.1
    obtain ⟨v, hv, hv1, hv2⟩ := sp_bits_v (fun l => decide (I1 3 l ≤ I1 22 l)) n hn8
    rw [n_lt (by omega) (by omega)] at c20
    have hM2 : MT n (I1 17) := fun l hl => by
      have h0 := MT_tie (MT_n1 (n := n)) ha hb hne rfl rfl hn8 l hl
      rw [hM l hl]
      rcases h0 with e | ⟨j, hj, h1, h2, h3⟩
      · exact Or.inl e
      · exact Or.inr ⟨j, hj, h1, h2, by rw [hM j hj]; exact h3⟩
    refine px_aload_n (kk := 0) rfl rfl rfl ?_
    refine px_getR (r := 1) rfl gS_15 rfl (gR_15_0 _) ?_
    refine px_aload_n (kk := 0) rfl rfl rfl ?_
    refine px_getR (r := 22) rfl gS_15 rfl (gR_15_4 _) ?_
    refine px_callV0 CX9_content [] [.ref 22] (vX9_content hW1.2.1 hW1.2.2.1 22 rfl) rfl gS_1 (by decide) rfl rfl rfl (Nat.le_of_ble_eq_true rfl) (by decide) ?_
    rintro _ _ - ⟨rfl, rfl⟩
    rw [hv1]
    refine px_iload_n (kk := 3) rfl rfl rfl ?_
    refine px_iand rfl ?_
    refine px_iload_n (kk := 3) rfl rfl rfl ?_
    refine px_icmp_ne rfl (fun c29 => ?_) (fun c29 => ?_)
    · refine px_aload_n (kk := 0) rfl rfl rfl ?_
      refine px_getR (r := 11) rfl gS_15 rfl (gR_15_1 _) ?_
      refine px_aload_n (kk := 0) rfl rfl rfl ?_
      refine px_getR (r := 22) rfl gS_15 rfl (gR_15_4 _) ?_
      refine px_aload_n (kk := 0) rfl rfl rfl ?_
      refine px_getR (r := 16) rfl gS_15 rfl (gR_15_2 _) ?_
      refine px_callV0 CX5_live [] [.ref 22, .ref 16] (vX5_live hW1.1 hW1.2.1 hW1.2.2.1 PG_th (w := 22) rfl hM2 (by decide) (by decide) (by decide) hW1.2.2.2.1 (by decide) (by decide) (by decide) (by decide) (by decide) (by decide)) rfl gS_11 (by decide) rfl rfl rfl (Nat.le_of_ble_eq_true rfl) (by decide) ?_
      rintro _ _ - ⟨rfl, I4, rfl, hF4, h64, hw4, hh4⟩
      refine px_pop rfl rfl ?_
      refine px_iinc4 (v := nI (k + 1)) rfl (n_inc k) rfl (by decide) ?_
      refine px_goto rfl ?_
      have hu : (sp_soon tx (I 5) (I 4) (I 3) (I 1 6) a b (61 - k) k wa wb) = sp_soon tx (I 5) (I 4) (I 3) (I 1 6) a b (61 - (k + 1)) (k + 1) (sp_s1 tx (I 5) (I 4) (I 1 6) a b wa wb (nI k)) (sp_s1 tx (I 5) (I 4) (I 1 6) b a wb wa (nI k)) := by
        conv => lhs; rw [show 61 - k = (61 - (k + 1)) + 1 by omega]; unfold sp_soon
        rw [if_neg (fun z => c29 ((bit_both v hv a (by omega) b (by omega)).mpr ⟨(hv2 a (by omega)).mpr ⟨ha, by rw [hF 3 (by decide), hwa]; exact decide_eq_true z.1⟩, (hv2 b (by omega)).mpr ⟨hb, by rw [hF 3 (by decide), hwb]; exact decide_eq_true z.2⟩⟩))]
      rw [hu]
      have ma : I1 17 a = nI b := by rw [hM a ha, p_up_n _ _ hne, p_up_s]
      have mb : I1 17 b = nI a := by rw [hM b hb, p_up_s]
      refine lX8_soon hW ha hb hne (k := k + 1) (by omega) (Fr_tr hF (Fr_mo hF4 (by decide))) (K6_tr h6 h64) ?_ ?_ ?_ ?_ (fun l hl => by rw [hF4 17 (by decide)]; exact hM l hl)
      · rw [hw4]
        simp only [ha, if_true]
        rw [sp_nx, sp_set, ma, if_pos (nI_nm (by omega)), sp_up, ma, mN_n (by omega), hwa, hwb, ha0, hF 5 (by decide), hF 4 (by decide), hF 1 (by decide)]
        rfl
      · rw [hw4]
        simp only [hb, if_true]
        rw [sp_nx, sp_set, mb, if_pos (nI_nm (by omega)), sp_up, mb, mN_n (by omega), hwa, hwb, hb0, hF 5 (by decide), hF 4 (by decide), hF 1 (by decide)]
        rfl
      · rw [hh4]
        simp only [ma, ha0]
        rw [if_pos ⟨by omega, nI_nm (by omega)⟩, nI_add]
      · rw [hh4]
        simp only [mb, hb0]
        rw [if_pos ⟨by omega, nI_nm (by omega)⟩, nI_add]
    · refine px_iload rfl rfl ?_
      refine px_ireturn rfl (.inl rfl) ?_
      have hu : (sp_soon tx (I 5) (I 4) (I 3) (I 1 6) a b (61 - k) k wa wb) = nI k := by
        conv => lhs; rw [show 61 - k = (61 - (k + 1)) + 1 by omega]; unfold sp_soon
        have hb2 := (bit_both v hv a (by omega) b (by omega)).mp c29
        have q1 := of_decide_eq_true ((hv2 a (by omega)).mp hb2.1).2
        have q2 := of_decide_eq_true ((hv2 b (by omega)).mp hb2.2).2
        rw [hF 3 (by decide), hwa] at q1
        rw [hF 3 (by decide), hwb] at q2
        rw [if_pos ⟨q1, q2⟩]
      rw [hu]
      exact ⟨rfl, I1, rfl, hF, h6⟩
termination_by 61 - k
decreasing_by all_goals (have h := ‹¬ nI 60 < nI k›; rw [n_lt (by omega) (by omega)] at h; omega)
theorem vX8_soon {I : Nat → Nat → Int32} {J : Nat → Nat → Int64} {p : Bool × Option Nat} {ro : List (Nat × Nat × (Nat → Int32))} {tx : List Ln} {n : Nat} (hW : TW tx n p I) {a b : Nat} (ha : a < n) (hb : b < n) (hne : a ≠ b) : Pv 4 0 0 CX8_soonBoth [.ref (15), .int (nI a), .int (nI b)] (gS, I, J, gR p, ro) (fun v S' => v = some (.int (sp_soon tx (I 5) (I 4) (I 3) (I 1 6) a b 61 0 (I 2 a) (I 2 b))) ∧ ∃ I', S' = (gS, I', J, gR p, ro) ∧ Fr c8 I I' ∧ K6 I I') := by
  refine ⟨okCX8_soonBoth, Nat.le_of_ble_eq_true rfl, (show Px _ _ _ _ 0 [some (.ref (15)), some (.int (nI a)), some (.int (nI b)), none, none] [] _ _ from ?_)⟩
  have hn8 := hW.2.2.1
  refine px_aload_n (kk := 0) rfl rfl rfl ?_
  refine px_callV0 CX8_begin [] [] (vX8_begin hW.2.2.1) rfl gS_15 (by decide) rfl rfl rfl (Nat.le_of_ble_eq_true rfl) (by decide) ?_
  rintro _ _ - ⟨rfl, I1, rfl, hF, hD, hX⟩
  refine px_aload_n (kk := 0) rfl rfl rfl ?_
  refine px_getR (r := 16) rfl gS_15 rfl (gR_15_2 _) ?_
  refine px_iload_n (kk := 1) rfl rfl rfl ?_
  refine px_iload_n (kk := 2) rfl rfl rfl ?_
  refine px_iconst (v := nI 0) rfl k_0 ?_
  refine px_callV0 CX6_tie [] [.int _, .int _, .int _] (vX6_tie PG_th (a := a) (b := b) (by omega) (by omega)) rfl gS_16 (by decide) rfl rfl rfl (Nat.le_of_ble_eq_true rfl) (by decide) ?_
  rintro _ _ - ⟨rfl, rfl⟩
  refine px_iconst (v := nI 1) rfl k_1 ?_
  refine px_iload_n (kk := 1) rfl rfl rfl ?_
  refine px_ishl rfl ?_
  refine px_iconst (v := nI 1) rfl k_1 ?_
  refine px_iload_n (kk := 2) rfl rfl rfl ?_
  refine px_ishl rfl ?_
  refine px_ior rfl ?_
  refine px_ist3 rfl rfl (by decide) ?_
  refine px_iconst (v := nI 0) rfl k_0 ?_
  refine px_ist4 rfl rfl (by decide) ?_
  obtain ⟨d1, d2, d3, d4, d5, d6⟩ := hD
  refine lX8_soon hW ha hb hne (k := 0) (by omega) (Fr_up (Fr_up (Fr_up (Fr_mo hF (by decide)) (by decide) _) (by decide) _) (by decide) _) (K6_up (K6_up (K6_up (K6_fr hF (by decide)) (by decide) _) (by decide) _) (by decide) _) ?_ ?_ ?_ ?_ (fun l hl => ?_)
  · simp only [va_up, Nat.reduceEqDiff, if_true, if_false]; exact d1 a ha
  · simp only [va_up, Nat.reduceEqDiff, if_true, if_false]; exact d1 b hb
  · simp only [va_up, Nat.reduceEqDiff, if_true, if_false, hne]
  · simp only [va_up, Nat.reduceEqDiff, if_true, if_false]
  · simp only [va_up, Nat.reduceEqDiff, if_true, if_false, d2 l hl]
def dr0 (z : Int32) : Int32 := z * 1103515245 + nI 12345
def dr1 (z : Int32) : Int32 := (z.toUInt32 >>> ((nI 6).toUInt32 &&& Int32.toUInt32 31)).toInt32 - (z.toUInt32 >>> ((nI 6).toUInt32 &&& Int32.toUInt32 31)).toInt32 / nI 8 * nI 8
def dr2 (z : Int32) : Int32 := (z.toUInt32 >>> ((nI 14).toUInt32 &&& Int32.toUInt32 31)).toInt32 - (z.toUInt32 >>> ((nI 14).toUInt32 &&& Int32.toUInt32 31)).toInt32 / nI 8 * nI 8
abbrev DF : Type := (Int32 → Int32) × (Int32 → Int32) × (Int32 → Int32)
noncomputable def sp_drF (F : DF) (n : Nat) (co : Int32) : Nat → DT → Int32 → DT × Int32
  | 0, s, z => (s, z)
  | k + 1, s, z => sp_drF F n co k (sp_ask n co s (F.2.1 (F.1 z)) (F.2.2 (F.1 z))) (F.1 z)
def drF : DF := (dr0, dr1, dr2)
noncomputable abbrev sp_dr (n : Nat) (co : Int32) (k : Nat) (s : DT) (z : Int32) : DT × Int32 := sp_drF drF n co k s z
theorem sp_dr_TI {F : DF} {n : Nat} {co : Int32} (hc : C4 co) (hn : n ≤ 8) : ∀ (k : Nat) (s : DT) (z : Int32), TI n s → TI n (sp_drF F n co k s z).1
  | 0, _, _, h => h
  | k + 1, s, z, h => sp_dr_TI hc hn k _ _ (sp_ask_TI h hc hn)
/-- an hour of a winter: who is warm how much, through to whom, how long, what was unlawful; and the seed -/
abbrev WS : Type := (Nat → Int32) × (Nat → Int32) × (Nat → Int32) × Int32
noncomputable def sp_wh (tx : List Ln) (n : Nat) (L P : Nat → Int32) (cold co : Int32) (cd : Nat) (D : WS × Int32) : WS × Int32 :=
  ((sp_nx tx n L P cold D.1.1 (sp_dr n co cd (n1, 0, D.1.2.2.2) D.2).1.1 (hA D.1.2.1 D.1.2.2.1 (sp_dr n co cd (n1, 0, D.1.2.2.2) D.2).1.1),
    (sp_dr n co cd (n1, 0, D.1.2.2.2) D.2).1.1,
    (fun j => if (sp_dr n co cd (n1, 0, D.1.2.2.2) D.2).1.1 j ≠ -1 then hA D.1.2.1 D.1.2.2.1 (sp_dr n co cd (n1, 0, D.1.2.2.2) D.2).1.1 j + nI 1 else hA D.1.2.1 D.1.2.2.1 (sp_dr n co cd (n1, 0, D.1.2.2.2) D.2).1.1 j),
    (sp_dr n co cd (n1, 0, D.1.2.2.2) D.2).1.2.2), (sp_dr n co cd (n1, 0, D.1.2.2.2) D.2).2)
noncomputable def sp_whs (tx : List Ln) (n : Nat) (L P : Nat → Int32) (cold co : Int32) (cd : Nat) (D : WS × Int32) : Nat → WS × Int32
  | 0 => D
  | k + 1 => sp_wh tx n L P cold co cd (sp_whs tx n L P cold co cd D k)
def WI (n : Nat) (D : WS) : Prop := MT n D.2.1 ∧ HS n D.2.1 D.2.2.1
theorem sp_wh_WI {tx : List Ln} {n : Nat} {L P : Nat → Int32} {cold co : Int32} {cd : Nat} {D : WS × Int32} (hn : n ≤ 8) (hc : C4 co) (h : WI n D.1) : WI n (sp_wh tx n L P cold co cd D).1 := by
  have hT := sp_dr_TI (F := drF) hc hn cd (n1, 0, D.1.2.2.2) D.2 TI_0
  refine ⟨hT.1, fun l k hl hk e => ?_⟩
  have hs := hA_sym hn h.1 h.2 hT.1 l k hl hk e
  show (if _ then _ else _) = (if _ then _ else _)
  have ek : (sp_dr n co cd (n1, 0, D.1.2.2.2) D.2).1.1 l ≠ -1 := by
    rw [show (sp_dr n co cd (n1, 0, D.1.2.2.2) D.2).1.1 l = nI k from e]; exact nI_nm (by omega)
  have el : (sp_dr n co cd (n1, 0, D.1.2.2.2) D.2).1.1 k ≠ -1 := by
    rcases hT.1 l hl with q | ⟨j, hj, -, q1, q2⟩
    · exact absurd q ek
    · have e' : (sp_dr n co cd (n1, 0, D.1.2.2.2) D.2).1.1 l = nI k := e
      rw [q1, n_eq (by omega) (by omega)] at e'
      subst e'
      rw [q2]; exact nI_nm (by omega)
  rw [if_pos ek, if_pos el, hs]
theorem sp_whs_WI {tx : List Ln} {n : Nat} {L P : Nat → Int32} {cold co : Int32} {cd : Nat} {D : WS × Int32} (hn : n ≤ 8) (hc : C4 co) (h : WI n D.1) : ∀ k, WI n (sp_whs tx n L P cold co cd D k).1
  | 0 => h
  | k + 1 => sp_wh_WI hn hc (sp_whs_WI hn hc h k)
def W0 (W : Nat → Int32) (z : Int32) : WS × Int32 := ((W, n1, fun _ => nI 0, nI 0), z)
/-- winters: how many have what they need, what was unlawful, the seed -/
noncomputable def sp_ws (tx : List Ln) (n : Nat) (L P N W : Nat → Int32) (cold co : Int32) (cd hh : Nat) (z : Int32) : Nat → Int32 × Int32 × Int32
  | 0 => (nI 0, nI 0, z)
  | k + 1 => ((sp_ws tx n L P N W cold co cd hh z k).1 + sp_pop (sp_bits (fun l => decide (N l ≤ (sp_whs tx n L P cold co cd (W0 W (sp_ws tx n L P N W cold co cd hh z k).2.2) hh).1.1 l)) n), (sp_ws tx n L P N W cold co cd hh z k).2.1 + (sp_whs tx n L P cold co cd (W0 W (sp_ws tx n L P N W cold co cd hh z k).2.2) hh).1.2.2.2, (sp_whs tx n L P cold co cd (W0 W (sp_ws tx n L P N W cold co cd hh z k).2.2) hh).2)
theorem sp_bits_congr {q r : Nat → Bool} : ∀ {n : Nat}, (∀ l, l < n → q l = r l) → sp_bits q n = sp_bits r n
  | 0, _ => rfl
  | n + 1, h => by simp only [sp_bits]; rw [sp_bits_congr (fun l hl => h l (by omega)), h n (by omega)]
def DCW (n : Nat) (D : WS) (I : Nat → Nat → Int32) : Prop := DC n D.1 D.2.1 D.2.2.1 D.2.2.2 0 I
theorem lX8_dc {I : Nat → Nat → Int32} {J : Nat → Nat → Int64} {p : Bool × Option Nat} {ro : List (Nat × Nat × (Nat → Int32))} {tx : List Ln} {n : Nat} (hW : TW tx n p I) {seed c0 l0 : Int32} {WN HH w h : Nat} {cd : Nat} (hcd : I 1 5 = nI cd) (hcd4 : cd ≤ 4) {BM BA : Nat → Int32} (hBM : MT n BM) (hHS : HS n BM BA) {k : Nat} (hk : k ≤ cd) {z : Int32} {st : DT} {I1 : Nat → Nat → Int32} (hF : Fr [15, 16, 17, 18] I I1) (hTC : TC n BM BA st I1) (hp : I1 15 7 = nI 0) {Q : Option Value → pm_M → Prop} (kont : ∀ I2, Fr [15, 16, 17, 18] I I2 → TC n BM BA (sp_dr n (I 1 5) (cd - k) st z).1 I2 → I2 15 7 = nI 0 → Px 4 0 0 CX8_draw 47 [some (.ref 15), some (.int seed), some (.int (nI WN)), some (.int (nI HH)), some (.int (sp_dr n (I 1 5) (cd - k) st z).2), some (.int c0), some (.int l0), some (.int (nI w)), some (.int (nI h)), some (.int (nI cd))] [] (gS, I2, J, gR p, ro) Q) : Px 4 0 0 CX8_draw 22 [some (.ref (15)), some (.int (seed)), some (.int (nI WN)), some (.int (nI HH)), some (.int (z)), some (.int (c0)), some (.int (l0)), some (.int (nI w)), some (.int (nI h)), some (.int (nI k))] [] (gS, I1, J, gR p, ro) (Q) := by
  have hn8 := hW.2.2.1
  refine px_iload rfl rfl ?_
  refine px_aload_n (kk := 0) rfl rfl rfl ?_
  refine px_getR (r := 1) rfl gS_15 rfl (gR_15_0 _) ?_
  refine px_getIe rfl gS_1 rfl ((congrFun (hF 1 (by decide)) 5).trans hcd) ?_
  refine px_icmp_ge rfl (fun c26 => ?_) (fun c26 => ?_)
  · rw [n_le (by omega) (by omega)] at c26
    obtain rfl : k = cd := by omega
    rw [Nat.sub_self] at kont
    exact kont I1 hF hTC hp
  · rw [n_le (by omega) (by omega)] at c26
    refine px_iload rfl rfl ?_
    refine px_ldc (v := 1103515245) rfl (by decide) ?_
    refine px_imul rfl ?_
    refine px_sipush (v := nI 12345) rfl s_12345 ?_
    refine px_iadd rfl ?_
    refine px_ist4 rfl rfl (by decide) ?_
    refine px_aload_n (kk := 0) rfl rfl rfl ?_
    refine px_iload rfl rfl ?_
    refine px_bipush (v := nI 6) rfl b_6 ?_
    refine px_iushr rfl ?_
    refine px_bipush (v := nI 8) rfl b_8 ?_
    refine px_irem rfl (by decide) ?_
    refine px_iload rfl rfl ?_
    refine px_bipush (v := nI 14) rfl b_14 ?_
    refine px_iushr rfl ?_
    refine px_bipush (v := nI 8) rfl b_8 ?_
    refine px_irem rfl (by decide) ?_
    refine px_callV0 CX8_ask [] [.int (dr1 (dr0 z)), .int (dr2 (dr0 z))] (vX8_ask (BM := BM) (BA := BA) (s := st) ((congrFun (hF 1 (by decide)) 4).trans hW.2.1) hn8 hTC hBM hHS (x := dr1 (dr0 z)) (y := dr2 (dr0 z))) rfl gS_15 (by decide) rfl rfl rfl (Nat.le_of_ble_eq_true rfl) (by decide) ?_
    rintro _ _ - ⟨rfl, I2, rfl, hF2, hp2, hTC2⟩
    refine px_iinc9 (v := nI (k + 1)) rfl (n_inc k) rfl (by decide) ?_
    refine px_goto rfl ?_
    rw [hF 1 (by decide)] at hTC2
    have hu : sp_dr n (I 1 5) (cd - k) st z = sp_dr n (I 1 5) (cd - (k + 1)) (sp_ask n (I 1 5) st (drF.2.1 (drF.1 z)) (drF.2.2 (drF.1 z))) (drF.1 z) := by
      conv => lhs; rw [show cd - k = (cd - (k + 1)) + 1 by omega]; unfold sp_drF
    rw [hu] at kont
    exact lX8_dc hW hcd hcd4 hBM hHS (k := k + 1) (by omega) (Fr_tr hF hF2) hTC2 (hp2.trans hp) kont
termination_by cd - k
decreasing_by all_goals (have h := ‹¬ nI cd ≤ nI k›; rw [n_le (by omega) (by omega)] at h; omega)
theorem lX8_dh {I : Nat → Nat → Int32} {J : Nat → Nat → Int64} {p : Bool × Option Nat} {ro : List (Nat × Nat × (Nat → Int32))} {tx : List Ln} {n : Nat} (hW : TW tx n p I) {seed c0 l0 : Int32} {WN HH w h : Nat} {cd : Nat} (hcd : I 1 5 = nI cd) (hcd4 : cd ≤ 4) {z0 : Int32} (hh : h ≤ HH) (hH : HH ≤ 60) {I1 : Nat → Nat → Int32} (hF : Fr c8 I I1) (h6 : K6 I I1) (hD : DCW n (sp_whs tx n (I 5) (I 4) (I 1 6) (I 1 5) cd (W0 (I 2) z0) h).1 I1) {o : Option Value} {Q : Option Value → pm_M → Prop} (kont : ∀ I2 o, Fr c8 I I2 → K6 I I2 → DCW n (sp_whs tx n (I 5) (I 4) (I 1 6) (I 1 5) cd (W0 (I 2) z0) HH).1 I2 → Px 4 0 0 CX8_draw 57 [some (.ref 15), some (.int seed), some (.int (nI WN)), some (.int (nI HH)), some (.int (sp_whs tx n (I 5) (I 4) (I 1 6) (I 1 5) cd (W0 (I 2) z0) HH).2), some (.int c0), some (.int l0), some (.int (nI w)), some (.int (nI HH)), o] [] (gS, I2, J, gR p, ro) Q) : Px 4 0 0 CX8_draw 15 [some (.ref (15)), some (.int (seed)), some (.int (nI WN)), some (.int (nI HH)), some (.int ((sp_whs tx n (I 5) (I 4) (I 1 6) (I 1 5) cd (W0 (I 2) z0) h).2)), some (.int (c0)), some (.int (l0)), some (.int (nI w)), some (.int (nI h)), o] [] (gS, I1, J, gR p, ro) (Q) := by
  refine px_iload rfl rfl ?_
  refine px_iload_n (kk := 3) rfl rfl rfl ?_
  refine px_icmp_ge rfl (fun c17 => ?_) (fun c17 => ?_)
  · rw [n_le (by omega) (by omega)] at c17
    obtain rfl : h = HH := by omega
    exact kont I1 _ hF h6 hD
  · rw [n_le (by omega) (by omega)] at c17
    have hn8 := hW.2.2.1
    have hW1 := TW_mv hW hF h6 (by decide)
    have hWI := sp_whs_WI (tx := tx) (n := n) (L := I 5) (P := I 4) (cold := I 1 6) (co := I 1 5) (cd := cd) (D := W0 (I 2) z0) hn8 hW.2.2.2.2 ⟨MT_n1, fun _ _ _ _ _ => rfl⟩ h
    refine px_aload_n (kk := 0) rfl rfl rfl ?_
    refine px_callV0 CX8_clearForHour [] [] (vX8_clear hn8 hD) rfl gS_15 (by decide) rfl rfl rfl (Nat.le_of_ble_eq_true rfl) (by decide) ?_
    rintro _ _ - ⟨rfl, I2, rfl, hF2, hTC2⟩
    refine px_iconst (v := nI 0) rfl k_0 ?_
    refine px_ist9 rfl rfl (by decide) ?_
    have hW2 := TW_mv hW1 hF2 (K6_fr hF2 (by decide)) (by decide)
    refine lX8_dc (I := I2) hW2 ((congrFun (hF2 1 (by decide)) 5).trans ((congrFun (hF 1 (by decide)) 5).trans hcd)) hcd4 hWI.1 hWI.2 (k := 0) (by omega) Fr_rf hTC2 (by rw [hF2 15 (by decide)]; exact hD.2.2.2.2.2) (fun I3 hF3 hTC3 hp3 => ?_)
    rw [Nat.sub_zero, hF2 1 (by decide), hF 1 (by decide)] at hTC3
    rw [Nat.sub_zero, hF2 1 (by decide), hF 1 (by decide)]
    have hs3 := sp_dr_TI (F := drF) (n := n) hW.2.2.2.2 hn8 cd (n1, 0, (sp_whs tx n (I 5) (I 4) (I 1 6) (I 1 5) cd (W0 (I 2) z0) h).1.2.2.2) (sp_whs tx n (I 5) (I 4) (I 1 6) (I 1 5) cd (W0 (I 2) z0) h).2 TI_0
    have hM3 : MT n (I3 17) := fun l hl => by
      rcases hs3.1 l hl with e | ⟨j, hj, h1, h2, h3⟩
      · exact Or.inl (by rw [hTC3.1 l hl]; exact e)
      · exact Or.inr ⟨j, hj, h1, by rw [hTC3.1 l hl]; exact h2, by rw [hTC3.1 j hj]; exact h3⟩
    have hW3 := TW_mv hW2 hF3 (K6_fr hF3 (by decide)) (by decide)
    refine px_aload_n (kk := 0) rfl rfl rfl ?_
    refine px_getR (r := 11) rfl gS_15 rfl (gR_15_1 _) ?_
    refine px_aload_n (kk := 0) rfl rfl rfl ?_
    refine px_getR (r := 22) rfl gS_15 rfl (gR_15_4 _) ?_
    refine px_aload_n (kk := 0) rfl rfl rfl ?_
    refine px_getR (r := 16) rfl gS_15 rfl (gR_15_2 _) ?_
    refine px_callV0 CX5_live [] [.ref 22, .ref 16] (vX5_live hW3.1 hW3.2.1 hW3.2.2.1 PG_th (w := 22) rfl hM3 (by decide) (by decide) (by decide) hW3.2.2.2.1 (by decide) (by decide) (by decide) (by decide) (by decide) (by decide)) rfl gS_11 (by decide) rfl rfl rfl (Nat.le_of_ble_eq_true rfl) (by decide) ?_
    rintro _ _ - ⟨rfl, I4, rfl, hF4, h64, hw4, hh4⟩
    refine px_pop rfl rfl ?_
    refine px_iinc8 (v := nI (h + 1)) rfl (n_inc h) rfl (by decide) ?_
    refine px_goto rfl ?_
    refine lX8_dh hW (h := h + 1) hcd hcd4 (by omega) hH (Fr_tr (Fr_tr (Fr_tr hF (Fr_mo hF2 (by decide))) (Fr_mo hF3 (by decide))) (Fr_mo hF4 (by decide))) (K6_tr (K6_tr (K6_tr h6 (K6_fr hF2 (by decide))) (K6_fr hF3 (by decide))) h64) ?_ kont
    have := live_DC (p := p) (W := (sp_whs tx n (I 5) (I 4) (I 1 6) (I 1 5) cd (W0 (I 2) z0) h).1.1) hn8 hs3.1 hTC3 hp3 (fun l hl => (by rw [hF3 22 (by decide), hF2 22 (by decide)]; exact hD.1 l hl)) hF4 hw4 hh4
    simp only [hF3 5 (by decide), hF3 4 (by decide), hF3 1 (by decide), hF2 5 (by decide), hF2 4 (by decide), hF2 1 (by decide), hF 5 (by decide), hF 4 (by decide), hF 1 (by decide)] at this
    exact this
termination_by HH - h
decreasing_by all_goals (have h9 := ‹¬ nI HH ≤ nI h›; rw [n_le (by omega) (by omega)] at h9; omega)
theorem lX8_dw {I : Nat → Nat → Int32} {J : Nat → Nat → Int64} {p : Bool × Option Nat} {ro : List (Nat × Nat × (Nat → Int32))} {tx : List Ln} {n : Nat} (hW : TW tx n p I) {seed : Int32} {WN HH w : Nat} {cd : Nat} (hcd : I 1 5 = nI cd) (hcd4 : cd ≤ 4) (hw : w ≤ WN) (hWN : WN ≤ 20) (hH : HH ≤ 60) {I1 : Nat → Nat → Int32} (hF : Fr c8 I I1) (h6 : K6 I I1) {o8 o9 : Option Value} : Px 4 0 0 CX8_draw 8 [some (.ref (15)), some (.int (seed)), some (.int (nI WN)), some (.int (nI HH)), some (.int ((sp_ws tx n (I 5) (I 4) (I 3) (I 2) (I 1 6) (I 1 5) cd HH seed w).2.2)), some (.int ((sp_ws tx n (I 5) (I 4) (I 3) (I 2) (I 1 6) (I 1 5) cd HH seed w).1)), some (.int ((sp_ws tx n (I 5) (I 4) (I 3) (I 2) (I 1 6) (I 1 5) cd HH seed w).2.1)), some (.int (nI w)), o8, o9] [] (gS, I1, J, gR p, ro) (fun v S' => v = some (.int (sp_ws tx n (I 5) (I 4) (I 3) (I 2) (I 1 6) (I 1 5) cd HH seed WN).1) ∧ ∃ I', S' = (gS, I', J, gR p, ro) ∧ Fr c8 I I' ∧ K6 I I' ∧ I' 15 6 = (sp_ws tx n (I 5) (I 4) (I 3) (I 2) (I 1 6) (I 1 5) cd HH seed WN).2.1) := by
  refine px_iload rfl rfl ?_
  refine px_iload_n (kk := 2) rfl rfl rfl ?_
  refine px_icmp_ge rfl (fun c10 => ?_) (fun c10 => ?_)
  · refine px_aload_n (kk := 0) rfl rfl rfl ?_
    refine px_iload rfl rfl ?_
    refine px_putI rfl gS_15 rfl rfl ?_
    refine px_iload rfl rfl ?_
    refine px_ireturn rfl (.inl rfl) ?_
    rw [n_le (by omega) (by omega)] at c10
    obtain rfl : w = WN := by omega
    exact ⟨rfl, _, rfl, Fr_up hF (by decide) _, K6_up h6 (by decide) _, by rw [p_up_s, p_up_s]⟩
  · rw [n_le (by omega) (by omega)] at c10
    refine px_aload_n (kk := 0) rfl rfl rfl ?_
    refine px_callV0 CX8_begin [] [] (vX8_begin (n := n) hW.2.2.1) rfl gS_15 (by decide) rfl rfl rfl (Nat.le_of_ble_eq_true rfl) (by decide) ?_
    rintro _ _ - ⟨rfl, I2, rfl, hF2, hD2, hX2⟩
    refine px_iconst (v := nI 0) rfl k_0 ?_
    refine px_ist8 rfl rfl (by decide) ?_
    refine lX8_dh hW (z0 := (sp_ws tx n (I 5) (I 4) (I 3) (I 2) (I 1 6) (I 1 5) cd HH seed w).2.2) (h := 0) hcd hcd4 (by omega) hH (Fr_tr hF (Fr_mo hF2 (by decide))) (K6_tr h6 (K6_fr hF2 (by decide))) (by rw [hF 2 (by decide)] at hD2; exact hD2) (fun I3 o hF3 h63 hD3 => ?_)
    have hW3 := TW_mv hW hF3 h63 (by decide)
    refine px_iload rfl rfl ?_
    refine px_aload_n (kk := 0) rfl rfl rfl ?_
    refine px_getR (r := 1) rfl gS_15 rfl (gR_15_0 _) ?_
    refine px_aload_n (kk := 0) rfl rfl rfl ?_
    refine px_getR (r := 22) rfl gS_15 rfl (gR_15_4 _) ?_
    refine px_callV0 CX9_content [.int _] [.ref 22] (vX9_content hW3.2.1 hW3.2.2.1 22 rfl) rfl gS_1 (by decide) rfl rfl rfl (Nat.le_of_ble_eq_true rfl) (by decide) ?_
    rintro _ _ - ⟨rfl, rfl⟩
    refine px_callS0 CJ6_bitCount_0f7a4 [.int _] [.int _] (vJ_pop) rfl rfl rfl (Nat.le_of_ble_eq_true rfl) (by decide) ?_
    rintro _ _ - ⟨rfl, rfl⟩
    refine px_iadd rfl ?_
    refine px_ist5 rfl rfl (by decide) ?_
    refine px_iload rfl rfl ?_
    refine px_aload_n (kk := 0) rfl rfl rfl ?_
    refine px_getIe rfl gS_15 rfl hD3.2.2.2.2.1 ?_
    refine px_iadd rfl ?_
    refine px_ist6 rfl rfl (by decide) ?_
    refine px_iinc7 (v := nI (w + 1)) rfl (n_inc w) rfl (by decide) ?_
    refine px_goto rfl ?_
    rw [sp_bits_congr (r := fun l => decide (I 3 l ≤ (sp_whs tx n (I 5) (I 4) (I 1 6) (I 1 5) cd (W0 (I 2) (sp_ws tx n (I 5) (I 4) (I 3) (I 2) (I 1 6) (I 1 5) cd HH seed w).2.2) HH).1.1 l)) (fun l hl => by rw [hF3 3 (by decide), hD3.1 l hl])]
    exact lX8_dw hW (w := w + 1) hcd hcd4 (by omega) hWN hH hF3 h63
termination_by WN - w
decreasing_by all_goals (have h9 := ‹¬ nI WN ≤ nI w›; rw [n_le (by omega) (by omega)] at h9; omega)
theorem vX8_draw {I : Nat → Nat → Int32} {J : Nat → Nat → Int64} {p : Bool × Option Nat} {ro : List (Nat × Nat × (Nat → Int32))} {tx : List Ln} {n : Nat} (hW : TW tx n p I) {seed : Int32} {WN HH : Nat} {cd : Nat} (hcd : I 1 5 = nI cd) (hcd4 : cd ≤ 4) (hWN : WN ≤ 20) (hH : HH ≤ 60) : Pv 4 0 0 CX8_draw [.ref (15), .int (seed), .int (nI WN), .int (nI HH)] (gS, I, J, gR p, ro) (fun v S' => v = some (.int (sp_ws tx n (I 5) (I 4) (I 3) (I 2) (I 1 6) (I 1 5) cd HH seed WN).1) ∧ ∃ I', S' = (gS, I', J, gR p, ro) ∧ Fr c8 I I' ∧ K6 I I' ∧ I' 15 6 = (sp_ws tx n (I 5) (I 4) (I 3) (I 2) (I 1 6) (I 1 5) cd HH seed WN).2.1) := by
  refine ⟨okCX8_draw, Nat.le_of_ble_eq_true rfl, (show Px _ _ _ _ 0 [some (.ref (15)), some (.int (seed)), some (.int (nI WN)), some (.int (nI HH)), none, none, none, none, none, none] [] _ _ from ?_)⟩
  refine px_iload_n (kk := 1) rfl rfl rfl ?_
  refine px_ist4 rfl rfl (by decide) ?_
  refine px_iconst (v := nI 0) rfl k_0 ?_
  refine px_ist5 rfl rfl (by decide) ?_
  refine px_iconst (v := nI 0) rfl k_0 ?_
  refine px_ist6 rfl rfl (by decide) ?_
  refine px_iconst (v := nI 0) rfl k_0 ?_
  refine px_ist7 rfl rfl (by decide) ?_
  exact lX8_dw hW (w := 0) hcd hcd4 (by omega) hWN hH Fr_rf (fun _ _ => rfl)
