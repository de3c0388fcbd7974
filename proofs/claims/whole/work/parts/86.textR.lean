/-! the reference reads lines, and becomes a law -/
theorem n_s16 {n : Nat} (h : n < 32768) : (nI n).toInt16.toInt32 = nI n := by
  apply Int32.toInt_inj.mp
  rw [Int16.toInt_toInt32, Int32.toInt_toInt16, nI_toInt (by omega), Int.bmod_def]
  omega
theorem n_s162 {n : Nat} (h : n < 32768) : (nI n).toInt16.toInt32.toInt16.toInt32 = nI n := by rw [n_s16 h, n_s16 h]
def toks : List Ln → List Tk
  | [] => []
  | q :: r => q.1 ++ q.2 ++ toks r
def LEn (I : Nat → Nat → Int32) (b : Nat) : Nat → Nat → List Ln → Prop
  | _, _, [] => True
  | l, f, q :: r => I 80 (b + l) = nI (f + q.1.length) ∧ I 81 (b + l) = nI (f + q.1.length + q.2.length) ∧ LEn I b (l + 1) (f + q.1.length + q.2.length) r
theorem toks_len : ∀ tx : List Ln, (toks tx).length = lensL tx
  | [] => rfl
  | q :: r => by simp only [toks, lensL, List.length_append, toks_len r]
theorem toks_snoc : ∀ (tx : List Ln) (q : Ln), toks (tx ++ [q]) = toks tx ++ q.1 ++ q.2
  | [], q => by simp [toks]
  | x :: r, q => by simp only [List.cons_append, toks, toks_snoc r q, List.append_assoc]
theorem LEn_snoc {I : Nat → Nat → Int32} {b : Nat} {q : Ln} : ∀ {tx : List Ln} {l f : Nat}, LEn I b l f tx → I 80 (b + l + tx.length) = nI (f + lensL tx + q.1.length) → I 81 (b + l + tx.length) = nI (f + lensL tx + q.1.length + q.2.length) → LEn I b l f (tx ++ [q])
  | [], l, f, _, h1, h2 => ⟨h1, h2, trivial⟩
  | x :: r, l, f, h, h1, h2 => by
    refine ⟨h.1, h.2.1, LEn_snoc h.2.2 ?_ ?_⟩
    · rw [show b + (l + 1) + r.length = b + l + (x :: r).length by rw [List.length_cons]; omega, h1, lensL]
      congr 1; omega
    · rw [show b + (l + 1) + r.length = b + l + (x :: r).length by rw [List.length_cons]; omega, h2, lensL]
      congr 1; omega
theorem LEn_congr {I I' : Nat → Nat → Int32} {b b' : Nat} : ∀ {tx : List Ln} {l f : Nat}, (∀ j, l ≤ j → j < l + tx.length → I' 80 (b' + j) = I 80 (b + j) ∧ I' 81 (b' + j) = I 81 (b + j)) → LEn I b l f tx → LEn I' b' l f tx
  | [], _, _, _, _ => trivial
  | x :: r, l, f, h, hL => by
    have h0 := h l (Nat.le_refl _) (by rw [List.length_cons]; omega)
    exact ⟨h0.1.trans hL.1, h0.2.trans hL.2.1, LEn_congr (fun j h1 h2 => h j (by omega) (by rw [List.length_cons]; omega)) hL.2.2⟩
theorem LEn_at {I : Nat → Nat → Int32} {b : Nat} : ∀ {tx : List Ln} {l f : Nat}, LEn I b l f tx → ∀ j, l ≤ j → j < l + tx.length → ∃ x y, x ≤ f + lensL tx ∧ y ≤ f + lensL tx ∧ I 80 (b + j) = nI x ∧ I 81 (b + j) = nI y
  | [], l, f, _, j, h1, h2 => absurd h2 (by simp; omega)
  | q :: r, l, f, h, j, h1, h2 => by
    rcases Nat.eq_or_lt_of_le h1 with e | e
    · subst e
      exact ⟨_, _, by rw [lensL]; omega, by rw [lensL]; omega, h.1, h.2.1⟩
    · obtain ⟨x, y, hx, hy, e1, e2⟩ := LEn_at h.2.2 j e (by rw [List.length_cons] at h2; omega)
      exact ⟨x, y, by rw [lensL]; omega, by rw [lensL]; omega, e1, e2⟩
theorem RLn_of {I : Nat → Nat → Int32} : ∀ {tx : List Ln} {l f : Nat}, LEn I 0 l f tx → HC (I 77) f ((toks tx).map aT) → HC (I 78) f ((toks tx).map wT) → RLn I l f tx
  | [], _, _, _, _, _ => trivial
  | q :: r, l, f, h, h1, h2 => by
    rw [toks, List.map_append] at h1 h2
    have a := HC_app.mp h1
    have b := HC_app.mp h2
    rw [List.length_map, List.length_append, ← Nat.add_assoc] at a b
    refine ⟨?_, ?_, a.1, b.1, RLn_of h.2.2 a.2 b.2⟩
    · have := h.1; rwa [Nat.zero_add] at this
    · have := h.2.1; rwa [Nat.zero_add] at this
theorem dpt_tk : ∀ {e : List Tk} {d f : Nat}, dpt e d f → ∀ t ∈ e, t.1 ≤ 2 ∨ t.2 < 10
  | [], _, _, _, t, ht => absurd ht List.not_mem_nil
  | x :: e, d, f, h, t, ht => by
    rcases List.mem_cons.mp ht with rfl | ht
    · have h1 := h.1
      obtain ⟨a, y⟩ := t
      match a, h1 with
      | 0, _ => exact .inl (by show 0 ≤ 2; decide)
      | 1, _ => exact .inl (by show 1 ≤ 2; decide)
      | 2, _ => exact .inl (by show 2 ≤ 2; decide)
      | 3, h1 => exact .inr h1
    · rcases h.2 with ⟨_, _, h3⟩ | ⟨_, _, h3⟩ | ⟨_, _, h3⟩ <;> exact dpt_tk h3 t ht
theorem toks_tk : ∀ {tx : List Ln}, (∀ q ∈ tx, lnOK q) → ∀ t ∈ toks tx, t.1 ≤ 2 ∨ t.2 < 10
  | [], _, t, ht => absurd ht List.not_mem_nil
  | q :: r, h, t, ht => by
    rw [toks] at ht
    have hq := h q List.mem_cons_self
    rcases List.mem_append.mp ht with ht | ht
    · rcases List.mem_append.mp ht with ht | ht
      · exact dpt_tk (hq.1 (fun e => by rw [e] at ht; exact absurd ht List.not_mem_nil)) t ht
      · exact dpt_tk hq.2 t ht
    · exact toks_tk (fun x hx => h x (List.mem_cons_of_mem _ hx)) t ht
theorem HC_cp {g f : Nat → Int32} {h : Int32 → Int32} : ∀ {ts : List Int32} {k b : Nat}, HC f (b + k) ts → (∀ x ∈ ts, h x = x) → (∀ j, k ≤ j → j < k + ts.length → g j = h (f (b + j))) → HC g k ts
  | [], _, _, _, _, _ => trivial
  | x :: ts, k, b, hf, hh, hg => ⟨by rw [hg k (Nat.le_refl _) (by rw [List.length_cons]; omega), hf.1]; exact hh x List.mem_cons_self, HC_cp (b := b) hf.2 (fun y hy => hh y (List.mem_cons_of_mem _ hy)) (fun j h1 h2 => hg j (by omega) (by rw [List.length_cons]; omega))⟩
def RBT (I I1 : Nat → Nat → Int32) : Prop := Fr [65, 77, 78, 79, 80, 81] I I1 ∧ (∀ k, k ≠ 18 → k ≠ 19 → k ≠ 20 → k ≠ 21 → I1 65 k = I 65 k) ∧ (∀ j, j < 130 → I1 77 j = I 77 j ∧ I1 78 j = I 78 j) ∧ (∀ j, j < 61 → I1 80 j = I 80 j ∧ I1 81 j = I 81 j) ∧ I1 79 0 = I 79 0
def RT (I : Nat → Nat → Int32) (a : Nat) (tx : List Ln) (I1 : Nat → Nat → Int32) : Prop := RBT I I1 ∧ RSt I1 0 a (toks tx) I1 ∧ I1 79 1 = nI tx.length ∧ LEn I1 61 0 0 tx
def RTF (I : Nat → Nat → Int32) (q : Nat) (I1 : Nat → Nat → Int32) : Prop := RBT I I1 ∧ I1 65 18 = nI q ∧ I1 65 19 = nI q
def FTL (c : Nat → Nat) (R : Nat × Option Ln) (q : Nat) : Prop := R = (q, none) ∨ ∃ t, R = (q, some t) ∧ dg (c q) = true
theorem RB_rf (I : Nat → Nat → Int32) : RB I I := ⟨Fr_rf, fun _ _ _ _ _ => rfl, fun _ _ => ⟨rfl, rfl⟩⟩
theorem RSt_re {I I1 I2 : Nat → Nat → Int32} {o a : Nat} {ts : List Tk} (h : RSt I o a ts I1) (h5 : I2 65 = I1 65) (h7 : I2 77 = I1 77) (h8 : I2 78 = I1 78) : RSt I2 o a ts I2 := ⟨RB_rf I2, by rw [h5]; exact h.2.1, by rw [h5]; exact h.2.2.1, by rw [h5]; exact h.2.2.2.1, by rw [h5]; exact h.2.2.2.2.1, by rw [h7]; exact h.2.2.2.2.2.1, by rw [h8]; exact h.2.2.2.2.2.2⟩
theorem RBT_RB {I I1 I2 : Nat → Nat → Int32} (h : RBT I I1) (h2 : RB I1 I2) : RBT I I2 := by
  refine ⟨fun c hc => ?_, fun k a b c d => (h2.2.1 k a b c d).trans (h.2.1 k a b c d), fun j hj => ⟨(h2.2.2 j hj).1.trans (h.2.2.1 j hj).1, (h2.2.2 j hj).2.trans (h.2.2.1 j hj).2⟩, ?_, ?_⟩
  · refine (h2.1 c (fun z => hc ?_)).trans (h.1 c hc)
    simp only [List.mem_cons, List.not_mem_nil, or_false] at z ⊢
    omega
  · rw [h2.1 80 (by decide), h2.1 81 (by decide)]; exact h.2.2.2.1
  · rw [h2.1 79 (by decide)]; exact h.2.2.2.2
theorem RBT_80 {I I1 : Nat → Nat → Int32} (h : RBT I I1) {c : Nat} (hc : c = 80 ∨ c = 81) (j : Nat) (hj : 61 ≤ j) (v : Int32) : RBT I (va_up I1 c (va_up (I1 c) j v)) := by
  refine ⟨Fr_up h.1 (by rcases hc with rfl | rfl <;> decide) _, ?_, ?_, fun i hi => ?_, ?_⟩
  · rw [p_up_n _ _ (by omega)]; exact h.2.1
  · rw [p_up_n _ _ (by omega), p_up_n _ _ (by omega)]; exact h.2.2.1
  · rcases hc with rfl | rfl
    · rw [p_up_s, p_up_n _ _ (show i ≠ j by omega), p_up_n _ _ (by decide)]; exact h.2.2.2.1 i hi
    · rw [p_up_s, p_up_n _ _ (show i ≠ j by omega), p_up_n _ _ (by decide)]; exact h.2.2.2.1 i hi
  · rw [p_up_n _ _ (by omega)]; exact h.2.2.2.2
theorem RBT_79 {I I1 : Nat → Nat → Int32} (h : RBT I I1) (v : Int32) : RBT I (va_up I1 79 (va_up (I1 79) 1 v)) := by
  refine ⟨Fr_up h.1 (by decide) _, ?_, ?_, ?_, ?_⟩
  · rw [p_up_n _ _ (by decide)]; exact h.2.1
  · rw [p_up_n _ _ (by decide), p_up_n _ _ (by decide)]; exact h.2.2.1
  · rw [p_up_n _ _ (by decide), p_up_n _ _ (by decide)]; exact h.2.2.2.1
  · rw [p_up_s, p_up_n _ _ (by decide)]; exact h.2.2.2.2
theorem LTr_T {c : Nat → Nat} {T : Nat} {I I1 : Nat → Nat → Int32} (h : LTr c T I) (hR : RBT I I1) : LTr c T I1 := ⟨(hR.2.1 17 (by decide) (by decide) (by decide) (by decide)).trans h.1, fun j hj => by rw [hR.1 76 (by decide)]; exact h.2 j hj⟩
theorem LTr_re {c : Nat → Nat} {T : Nat} {I I1 : Nat → Nat → Int32} (h : LTr c T I) (h5 : I1 65 17 = I 65 17) (h6 : I1 76 = I 76) : LTr c T I1 := ⟨h5.trans h.1, fun j hj => by rw [h6]; exact h.2 j hj⟩
theorem RT_fin {I Ib I3 : Nat → Nat → Int32} {q : Nat} {tx : List Ln} {t u : List Tk} (hB : RBT I Ib) (h3 : RSt Ib 0 q (toks tx ++ t ++ u) I3) (hL : LEn Ib 61 0 0 tx) (h80 : Ib 80 (61 + tx.length) = nI (lensL tx + t.length)) (x : Int32) (hx : x = nI (lensL tx + t.length + u.length)) : RT I q (tx ++ [(t, u)]) (va_up (va_up I3 81 (va_up (I3 81) (61 + tx.length) x)) 79 (va_up (I3 79) 1 (nI (tx.length + 1)))) := by
  refine ⟨?_, ?_, ?_, ?_⟩
  · have h1 := RBT_80 (RBT_RB hB h3.1) (.inr rfl) (61 + tx.length) (by omega) x
    have h2 := RBT_79 h1 (nI (tx.length + 1))
    rwa [p_up_n _ _ (show (79 : Nat) ≠ 81 by decide)] at h2
  · rw [toks_snoc]
    exact RSt_re h3 (by rw [p_up_n _ _ (by decide), p_up_n _ _ (by decide)]) (by rw [p_up_n _ _ (by decide), p_up_n _ _ (by decide)]) (by rw [p_up_n _ _ (by decide), p_up_n _ _ (by decide)])
  · rw [p_up_s, p_up_s, List.length_append]; rfl
  · refine LEn_snoc (LEn_congr (b := 61) (fun j _ hj => ?_) hL) ?_ ?_
    · rw [p_up_n _ _ (by decide), p_up_n _ _ (by decide), p_up_n _ _ (show (81 : Nat) ≠ 79 by decide), p_up_s, p_up_n _ _ (by omega), h3.1.1 80 (by decide), h3.1.1 81 (by decide)]
      exact ⟨rfl, rfl⟩
    · rw [p_up_n _ _ (by decide), p_up_n _ _ (by decide), h3.1.1 80 (by decide), Nat.add_zero, h80, Nat.zero_add]
    · rw [p_up_n _ _ (by decide), p_up_s, Nat.add_zero, p_up_s, Nat.zero_add, hx]
theorem RT_at {I I1 : Nat → Nat → Int32} {a : Nat} {tx : List Ln} (h : RT I a tx I1) (b : Nat) : RT I b tx (va_up I1 65 (va_up (I1 65) 18 (nI b))) := by
  refine ⟨RBT_RB h.1 (RB_f (RB_rf I1) (.inl rfl) _), ?_, ?_, ?_⟩
  · exact RSt_re (RSt_at h.2.1 b) rfl rfl rfl
  · rw [p_up_n _ _ (by decide)]; exact h.2.2.1
  · exact LEn_congr (fun j _ _ => by rw [p_up_n _ _ (by decide), p_up_n _ _ (by decide)]; exact ⟨rfl, rfl⟩) h.2.2.2
theorem vX12_oneLine {I : Nat → Nat → Int32} {J : Nat → Nat → Int64} {p : Bool × Option Nat} {ro : List (Nat × Nat × (Nat → Int32))} {c : Nat → Nat} {T : Nat} (hT : TP c T) (hLT : LTr c T I) {a : Nat} {tx : List Ln} {I1 : Nat → Nat → Int32} (ha : a ≤ T) (hl : (toks tx).length ≤ a) (hn : 2 * tx.length ≤ a) (hS : RT I a tx I1) : Pv 44 0 0 CX12_oneLine [.ref (65)] (gS, I1, J, gR p, ro) (fun rr S' => (∃ q ln I', sp_ln c a = (q, some ln) ∧ rr = none ∧ S' = (gS, I', J, gR p, ro) ∧ RT I q (tx ++ [ln]) I') ∨ (∃ q I', FTL c (sp_ln c a) q ∧ a ≤ q ∧ q ≤ T ∧ rr = none ∧ S' = (gS, I', J, gR p, ro) ∧ RTF I q I')) := by
  refine ⟨okCX12_oneLine, Nat.le_of_ble_eq_true rfl, (show Px _ _ _ _ 0 [some (.ref (65)), none] [] _ _ from ?_)⟩
  have hTT := hT.1
  refine px_bipush (v := nI 61) rfl b_61 ?_
  refine px_aload_n (kk := 0) rfl rfl rfl ?_
  refine px_getR (r := 79) rfl gS_65 rfl (gR_65_24 _) ?_
  refine px_iconst (v := nI 1) rfl k_1 ?_
  refine px_ialde (j := 1) (v := nI tx.length) rfl gS_79 rfl (by decide) hS.2.2.1 ?_
  refine px_iaddN rfl ?_
  refine px_ist1 rfl rfl (by decide) ?_
  refine px_aload_n (kk := 0) rfl rfl rfl ?_
  refine px_getR (r := 80) rfl gS_65 rfl (gR_65_25 _) ?_
  refine px_iload_n (kk := 1) rfl rfl rfl ?_
  refine px_aload_n (kk := 0) rfl rfl rfl ?_
  refine px_getIe (v := nI (toks tx).length) rfl gS_65 rfl hS.2.1.2.2.2.2.1 ?_
  refine px_i2s rfl ?_
  refine px_ieq (n_s16 (by have := hT.1; omega)) ?_
  refine px_sast (j := (61 + tx.length)) rfl gS_80 rfl (by omega) ?_
  rw [n_s16 (show (toks tx).length < 32768 by omega)]
  have hS2 : RSt (va_up I1 80 (va_up (I1 80) (61 + tx.length) (nI (toks tx).length))) 0 a (toks tx) (va_up I1 80 (va_up (I1 80) (61 + tx.length) (nI (toks tx).length))) := RSt_re hS.2.1 (by rw [p_up_n _ _ (by decide)]) (by rw [p_up_n _ _ (by decide)]) (by rw [p_up_n _ _ (by decide)])
  have hB2 : RBT I (va_up I1 80 (va_up (I1 80) (61 + tx.length) (nI (toks tx).length))) := RBT_80 hS.1 (.inl rfl) _ (by omega) _
  have hL2 : LEn (va_up I1 80 (va_up (I1 80) (61 + tx.length) (nI (toks tx).length))) 61 0 0 tx := LEn_congr (fun j _ hj => by rw [p_up_s, p_up_n _ _ (by omega), p_up_n _ _ (show (81 : Nat) ≠ 80 by decide)]; exact ⟨rfl, rfl⟩) hS.2.2.2
  refine px_aload_n (kk := 0) rfl rfl rfl ?_
  refine px_callV0 CX12_either [] [] (vX12_E hT (LTr_T hLT hB2) ha hl hS2) rfl gS_65 (by decide) rfl rfl rfl (Nat.le_of_ble_eq_true rfl) (by decide) ?_
  rintro _ _ - (⟨q, t, I3, hR, rfl, rfl, hS3⟩ | ⟨q, L, I3, hR, hw1, hw2, hL, rfl, rfl, hF3⟩)
  · have hgt := (sp_E_g hT ha).1 q t hR
    have hlt : (toks tx ++ t).length = (toks tx).length + t.length := List.length_append
    have hTT := hT.1
    refine px_aload_n (kk := 0) rfl rfl rfl ?_
    refine px_getIe (v := -1) rfl gS_65 rfl hS3.2.2.1 ?_
    refine px_if_ge rfl (fun h => absurd h (by decide)) (fun _ => ?_)
    refine px_aload_n (kk := 0) rfl rfl rfl ?_
    refine px_callV0 CX12_look [] [] (vX12_look hT (LTr_T hLT hB2) (a := q) hgt.2.1 hS3.1 hS3.2.1) rfl gS_65 (by decide) rfl rfl rfl (Nat.le_of_ble_eq_true rfl) (by decide) ?_
    rintro _ _ - ⟨rfl, rfl⟩
    refine px_bipush (v := nI 63) rfl b_63 ?_
    refine px_icmp_ne rfl (fun c22 => ?_) (fun c22 => ?_)
    · refine px_aload_n (kk := 0) rfl rfl rfl ?_
      refine px_getR (r := 81) rfl gS_65 rfl (gR_65_26 _) ?_
      refine px_iload_n (kk := 1) rfl rfl rfl ?_
      refine px_aload_n (kk := 0) rfl rfl rfl ?_
      refine px_getIe (v := nI (toks tx ++ t).length) rfl gS_65 rfl hS3.2.2.2.2.1 ?_
      refine px_i2s rfl ?_
      refine px_sast (j := (61 + tx.length)) rfl gS_81 rfl (by omega) ?_
      refine px_aload_n (kk := 0) rfl rfl rfl ?_
      refine px_getR (r := 79) rfl gS_65 rfl (gR_65_24 _) ?_
      refine px_iconst (v := nI 1) rfl k_1 ?_
      refine px_dup2 rfl rfl rfl ?_
      refine px_ialde (j := 1) (v := nI tx.length) rfl gS_79 rfl (by decide) ((congrFun (p_up_n _ _ (by decide)) 1).trans ((congrFun (hS3.1.1 79 (by decide)) 1).trans (by rw [p_up_n _ _ (by decide)]; exact hS.2.2.1))) ?_
      refine px_iconst (v := nI 1) rfl k_1 ?_
      refine px_iaddN rfl ?_
      refine px_iast (j := 1) rfl gS_79 rfl (by decide) ?_
      refine px_return rfl rfl ?_
      rw [p_up_n _ _ (show (79 : Nat) ≠ 81 by decide)]
      refine .inl ⟨q, ([], t), _, ?_, rfl, rfl, RT_fin (t := []) (u := t) hB2 (by rw [List.append_nil]; exact hS3) hL2 (by rw [p_up_s, p_up_s, toks_len]; rfl) _ (by rw [n_s162 (by omega), hlt, toks_len]; rfl)⟩
      unfold sp_ln
      rw [hR]
      simp only [if_neg (fun e => c22 ((sR_eq (TP_b hT q) (by decide)).mpr e))]
    · have e63 : c q = 63 := (sR_eq (TP_b hT q) (by decide)).mp (by first | exact c22 | exact Classical.byContradiction c22)
      have hqT : q < T := TP_lt hT (by omega)
      refine px_aload_n (kk := 0) rfl rfl rfl ?_
      refine px_dup rfl rfl ?_
      refine px_getIe (v := nI q) rfl gS_65 rfl hS3.2.1 ?_
      refine px_iconst (v := nI 1) rfl k_1 ?_
      refine px_iaddN rfl ?_
      refine px_putI rfl gS_65 rfl rfl ?_
      refine px_aload_n (kk := 0) rfl rfl rfl ?_
      refine px_getR (r := 80) rfl gS_65 rfl (gR_65_25 _) ?_
      refine px_iload_n (kk := 1) rfl rfl rfl ?_
      refine px_aload_n (kk := 0) rfl rfl rfl ?_
      refine px_getIe (v := nI (toks tx ++ t).length) rfl gS_65 rfl (by rw [p_up_s, p_up_n _ _ (by decide)]; exact hS3.2.2.2.2.1) ?_
      refine px_i2s rfl ?_
      refine px_ieq (n_s16 (by have := hT.1; omega)) ?_
      refine px_sast (j := (61 + tx.length)) rfl gS_80 rfl (by omega) ?_
      rw [n_s16 (show (toks tx ++ t).length < 32768 by omega)]
      have hB3 := RBT_RB hB2 hS3.1
      have hS4 := RSt_at hS3 (q + 1)
      have hS5 : RSt (va_up (va_up I3 65 (va_up (I3 65) 18 (nI (q + 1)))) 80 (va_up (va_up I3 65 (va_up (I3 65) 18 (nI (q + 1))) 80) (61 + tx.length) (nI (toks tx ++ t).length))) 0 (q + 1) (toks tx ++ t) (va_up (va_up I3 65 (va_up (I3 65) 18 (nI (q + 1)))) 80 (va_up (va_up I3 65 (va_up (I3 65) 18 (nI (q + 1))) 80) (61 + tx.length) (nI (toks tx ++ t).length))) := RSt_re hS4 (by rw [p_up_n _ _ (by decide)]) (by rw [p_up_n _ _ (by decide)]) (by rw [p_up_n _ _ (by decide)])
      have hB5 : RBT I (va_up (va_up I3 65 (va_up (I3 65) 18 (nI (q + 1)))) 80 (va_up (va_up I3 65 (va_up (I3 65) 18 (nI (q + 1))) 80) (61 + tx.length) (nI (toks tx ++ t).length))) := RBT_80 (RBT_RB hB2 hS4.1) (.inl rfl) _ (by omega) _
      have hL5 : LEn (va_up (va_up I3 65 (va_up (I3 65) 18 (nI (q + 1)))) 80 (va_up (va_up I3 65 (va_up (I3 65) 18 (nI (q + 1))) 80) (61 + tx.length) (nI (toks tx ++ t).length))) 61 0 0 tx := LEn_congr (fun j _ hj => by rw [p_up_s, p_up_n _ _ (by omega), p_up_n _ _ (show (81 : Nat) ≠ 80 by decide), hS4.1.1 80 (by decide), hS4.1.1 81 (by decide)]; exact ⟨rfl, rfl⟩) hL2
      have h79 : (va_up (va_up I3 65 (va_up (I3 65) 18 (nI (q + 1)))) 80 (va_up (va_up I3 65 (va_up (I3 65) 18 (nI (q + 1))) 80) (61 + tx.length) (nI (toks tx ++ t).length))) 79 1 = nI tx.length := by rw [p_up_n _ _ (by decide), hS4.1.1 79 (by decide), p_up_n _ _ (by decide)]; exact hS.2.2.1
      have hc5 : (va_up (va_up I3 65 (va_up (I3 65) 18 (nI (q + 1)))) 80 (va_up (va_up I3 65 (va_up (I3 65) 18 (nI (q + 1))) 80) (61 + tx.length) (nI (toks tx ++ t).length))) 80 (61 + tx.length) = nI (lensL tx + t.length) := by rw [p_up_s, p_up_s, List.length_append, toks_len]
      refine px_aload_n (kk := 0) rfl rfl rfl ?_
      refine px_callV0 CX12_either [] [] (vX12_E hT (LTr_T hLT hB5) (a := q + 1) (by omega) (by rw [hlt]; omega) hS5) rfl gS_65 (by decide) rfl rfl rfl (Nat.le_of_ble_eq_true rfl) (by decide) ?_
      rintro _ _ - (⟨w, u, I6, hR6, rfl, rfl, hS6⟩ | ⟨w, L, I6, hR6, hw1, hw2, hL, rfl, rfl, hF6⟩)
      · have hgu := (sp_E_g hT (p := q + 1) (by omega)).1 w u hR6
        have hlu : (toks tx ++ t ++ u).length = (toks tx).length + t.length + u.length := by rw [List.length_append, hlt]
        refine px_aload_n (kk := 0) rfl rfl rfl ?_
        refine px_getR (r := 81) rfl gS_65 rfl (gR_65_26 _) ?_
        refine px_iload_n (kk := 1) rfl rfl rfl ?_
        refine px_aload_n (kk := 0) rfl rfl rfl ?_
        refine px_getIe (v := nI (toks tx ++ t ++ u).length) rfl gS_65 rfl hS6.2.2.2.2.1 ?_
        refine px_i2s rfl ?_
        refine px_sast (j := (61 + tx.length)) rfl gS_81 rfl (by omega) ?_
        refine px_aload_n (kk := 0) rfl rfl rfl ?_
        refine px_getR (r := 79) rfl gS_65 rfl (gR_65_24 _) ?_
        refine px_iconst (v := nI 1) rfl k_1 ?_
        refine px_dup2 rfl rfl rfl ?_
        refine px_ialde (j := 1) (v := nI tx.length) rfl gS_79 rfl (by decide) ((congrFun (p_up_n _ _ (by decide)) 1).trans ((congrFun (hS6.1.1 79 (by decide)) 1).trans h79)) ?_
        refine px_iconst (v := nI 1) rfl k_1 ?_
        refine px_iaddN rfl ?_
        refine px_iast (j := 1) rfl gS_79 rfl (by decide) ?_
        refine px_return rfl rfl ?_
        rw [p_up_n _ _ (show (79 : Nat) ≠ 81 by decide)]
        refine .inl ⟨w, (t, u), _, ?_, rfl, rfl, RT_fin hB5 hS6 hL5 hc5 _ (by rw [n_s162 (by omega), hlu, toks_len])⟩
        unfold sp_ln
        rw [hR]
        simp only [if_pos e63, hR6]
      · rw [hlt] at hL
        refine px_aload_n (kk := 0) rfl rfl rfl ?_
        refine px_getR (r := 81) rfl gS_65 rfl (gR_65_26 _) ?_
        refine px_iload_n (kk := 1) rfl rfl rfl ?_
        refine px_aload_n (kk := 0) rfl rfl rfl ?_
        refine px_getIe (v := nI L) rfl gS_65 rfl hF6.2.2.2 ?_
        refine px_i2s rfl ?_
        refine px_sast (j := (61 + tx.length)) rfl gS_81 rfl (by omega) ?_
        refine px_aload_n (kk := 0) rfl rfl rfl ?_
        refine px_getR (r := 79) rfl gS_65 rfl (gR_65_24 _) ?_
        refine px_iconst (v := nI 1) rfl k_1 ?_
        refine px_dup2 rfl rfl rfl ?_
        refine px_ialde (j := 1) (v := nI tx.length) rfl gS_79 rfl (by decide) ((congrFun (p_up_n _ _ (by decide)) 1).trans ((congrFun (hF6.1.1 79 (by decide)) 1).trans h79)) ?_
        refine px_iconst (v := nI 1) rfl k_1 ?_
        refine px_iaddN rfl ?_
        refine px_iast (j := 1) rfl gS_79 rfl (by decide) ?_
        refine px_return rfl rfl ?_
        refine .inr ⟨w, _, ?_, by omega, hw2, rfl, rfl, RBT_79 (RBT_80 (RBT_RB hB5 hF6.1) (.inr rfl) _ (by omega) _) _, by rw [p_up_n _ _ (by decide), p_up_n _ _ (by decide)]; exact hF6.2.1, by rw [p_up_n _ _ (by decide), p_up_n _ _ (by decide)]; exact hF6.2.2.1⟩
        unfold sp_ln
        rw [hR]
        simp only [if_pos e63]
        rcases hR6 with e | ⟨u, e, hd⟩
        · rw [e]; exact .inl rfl
        · rw [e]; exact .inr ⟨_, rfl, hd⟩
  · have hTT := hT.1
    refine px_aload_n (kk := 0) rfl rfl rfl ?_
    refine px_getIe (v := nI q) rfl gS_65 rfl hF3.2.2.1 ?_
    refine px_if_ge rfl (fun c18 => ?_) (fun h => absurd (nn_ge (by omega)) h)
    refine px_aload_n (kk := 0) rfl rfl rfl ?_
    refine px_getR (r := 81) rfl gS_65 rfl (gR_65_26 _) ?_
    refine px_iload_n (kk := 1) rfl rfl rfl ?_
    refine px_aload_n (kk := 0) rfl rfl rfl ?_
    refine px_getIe (v := nI L) rfl gS_65 rfl hF3.2.2.2 ?_
    refine px_i2s rfl ?_
    refine px_sast (j := (61 + tx.length)) rfl gS_81 rfl (by omega) ?_
    refine px_aload_n (kk := 0) rfl rfl rfl ?_
    refine px_getR (r := 79) rfl gS_65 rfl (gR_65_24 _) ?_
    refine px_iconst (v := nI 1) rfl k_1 ?_
    refine px_dup2 rfl rfl rfl ?_
    refine px_ialde (j := 1) (v := nI tx.length) rfl gS_79 rfl (by decide) ((congrFun (p_up_n _ _ (by decide)) 1).trans ((congrFun (hF3.1.1 79 (by decide)) 1).trans (by rw [p_up_n _ _ (by decide)]; exact hS.2.2.1))) ?_
    refine px_iconst (v := nI 1) rfl k_1 ?_
    refine px_iaddN rfl ?_
    refine px_iast (j := 1) rfl gS_79 rfl (by decide) ?_
    refine px_return rfl rfl ?_
    refine .inr ⟨q, _, ?_, hw1, hw2, rfl, rfl, RBT_79 (RBT_80 (RBT_RB hB2 hF3.1) (.inr rfl) _ (by omega) _) _, by rw [p_up_n _ _ (by decide), p_up_n _ _ (by decide)]; exact hF3.2.1, by rw [p_up_n _ _ (by decide), p_up_n _ _ (by decide)]; exact hF3.2.2.1⟩
    unfold sp_ln
    rcases hR with e | ⟨u, e, hd⟩
    · rw [e]; exact .inl rfl
    · rw [e]
      simp only [if_neg (fun z : c q = 63 => absurd hd (by rw [z]; decide))]
      exact .inr ⟨_, rfl, hd⟩
