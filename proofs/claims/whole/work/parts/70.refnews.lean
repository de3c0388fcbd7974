/-! the reference: news -/
theorem bit_at1 {v l : Nat} (hv : v < 256) (hl : l < 8) : ((nI v >>> (nI l &&& 31)) &&& nI 1) = nI 1 ↔ v.testBit l = true := by
  rw [bit_at v hv l hl]
  by_cases h : v.testBit l = true
  · rw [if_pos h]; exact ⟨fun _ => h, fun _ => rfl⟩
  · rw [if_neg h]; exact ⟨fun e => absurd e (by decide +kernel), fun e => absurd e h⟩
theorem nn_ge {b : Nat} (h : b < 2 ^ 31) : (0 : Int32) ≤ nI b := by rw [i_le, i_0, nI_toInt h]; omega
theorem in_mn {n : Nat} (hn : n ≤ 8) {u : Int32} : (-1 ≤ u ∧ u ≤ nI n - nI 1) ↔ (u = -1 ∨ ∃ a, a < n ∧ u = nI a) := by
  have e : (nI n - nI 1).toInt = (n : Int) - 1 := by
    rcases Nat.eq_zero_or_pos n with rfl | h
    · decide +kernel
    · rw [n_sub (by omega), nI_toInt (by omega)]; omega
  constructor
  · rintro ⟨h1, h2⟩
    by_cases h : u < 0
    · left
      refine Int32.toInt_inj.mp ?_
      rw [i_le, t_m1] at h1
      rw [i_lt, i_0] at h
      rw [t_m1]; omega
    · obtain ⟨a, ha, rfl⟩ := n_ofn h
      rw [i_le, e, nI_toInt ha] at h2
      exact .inr ⟨a, by omega, rfl⟩
  · rintro (rfl | ⟨a, ha, rfl⟩)
    · rw [i_le, i_le, e, t_m1]; omega
    · rw [i_le, i_le, e, t_m1, nI_toInt (by omega)]; omega
theorem vX12_isTelling {I : Nat → Nat → Int32} {J : Nat → Nat → Int64} {p : Bool × Option Nat} {ro : List (Nat × Nat × (Nat → Int32))} {n : Nat} (hn8 : n ≤ 8) (hM : MT n (I 85)) {l : Nat} (hl : l < n) {v : Nat} (hv : v < 256) : Pv 0 0 0 CX12_isTelling [.ref (65), .int (nI l), .int (nI v)] (gS, I, J, gR p, ro) (qB (TL (I 85) v l) (gS, I, J, gR p, ro)) := by
  refine ⟨okCX12_isTelling, Nat.le_of_ble_eq_true rfl, (show Px _ _ _ _ 0 [some (.ref (65)), some (.int (nI l)), some (.int (nI v))] [] _ _ from ?_)⟩
  refine px_aload_n (kk := 0) rfl rfl rfl ?_
  refine px_getR (r := 85) rfl gS_65 rfl (gR_65_31 _) ?_
  refine px_iload_n (kk := 1) rfl rfl rfl ?_
  refine px_iald (j := l) rfl gS_85 rfl (by omega) ?_
  refine px_if_lt rfl (fun c4 => ?_) (fun c4 => ?_)
  · refine px_iconst (v := nI 0) rfl k_0 ?_
    refine px_ireturn rfl (.inr ⟨rfl, by decide⟩) ?_
    exact qB_f (fun h => h.1 ((MT_ge hM hl hn8).mp c4))
  · obtain ⟨j0, hj0, hm⟩ : ∃ j, j < n ∧ I 85 l = nI j := by
      rcases hM l hl with e | ⟨j, hj, _, e, _⟩
      · exact absurd ((MT_ge hM hl hn8).mpr e) c4
      · exact ⟨j, hj, e⟩
    refine px_iload_n (kk := 2) rfl rfl rfl ?_
    refine px_iload_n (kk := 1) rfl rfl rfl ?_
    refine px_ishr rfl ?_
    refine px_iconst (v := nI 1) rfl k_1 ?_
    refine px_iand rfl ?_
    refine px_iconst (v := nI 1) rfl k_1 ?_
    refine px_icmp_eq rfl (fun c11 => ?_) (fun c11 => ?_)
    · refine px_iconst (v := nI 1) rfl k_1 ?_
      refine px_goto rfl ?_
      refine px_ireturn rfl (.inr ⟨rfl, by decide⟩) ?_
      exact qB_t ⟨fun e => c4 ((MT_ge hM hl hn8).mpr e), .inl ((bit_at1 hv (by omega)).mp c11)⟩
    · refine px_iload_n (kk := 2) rfl rfl rfl ?_
      refine px_aload_n (kk := 0) rfl rfl rfl ?_
      refine px_getR (r := 85) rfl gS_65 rfl (gR_65_31 _) ?_
      refine px_iload_n (kk := 1) rfl rfl rfl ?_
      refine px_ialde (j := l) (v := nI j0) rfl gS_85 rfl (by omega) hm ?_
      refine px_ishr rfl ?_
      refine px_iconst (v := nI 1) rfl k_1 ?_
      refine px_iand rfl ?_
      refine px_iconst (v := nI 1) rfl k_1 ?_
      refine px_icmp_ne rfl (fun c21 => ?_) (fun c21 => ?_)
      · refine px_iconst (v := nI 0) rfl k_0 ?_
        refine px_ireturn rfl (.inr ⟨rfl, by decide⟩) ?_
        exact qB_f (fun h => h.2.elim (fun e => c11 ((bit_at1 hv (by omega)).mpr e)) (fun e => c21 ((bit_at1 hv (by omega)).mpr (by rw [hm, mN_n (by omega)] at e; exact e))))
      · refine px_iconst (v := nI 1) rfl k_1 ?_
        refine px_goto rfl ?_
        refine px_ireturn rfl (.inr ⟨rfl, by decide⟩) ?_
        exact qB_t ⟨fun e => c4 ((MT_ge hM hl hn8).mpr e), .inr (by rw [hm, mN_n (by omega)]; exact (bit_at1 hv (by omega)).mp (by first | exact c21 | exact Classical.byContradiction c21))⟩
theorem lX12_nb2 {I : Nat → Nat → Int32} {J : Nat → Nat → Int64} {p : Bool × Option Nat} {ro : List (Nat × Nat × (Nat → Int32))} {n : Nat} (hn : I 65 1 = nI n) (hn8 : n ≤ 8) {v l : Nat} (hl : l < n) {G : Nat → Prop} {w k : Nat} (hk : k ≤ n) (hw : w < 256) (hb : ∀ r, r < 8 → (w.testBit r = true ↔ G r ∨ (r < k ∧ I 68 l ≠ 0 ∧ I 68 l = I 68 r))) {Q : Option Value → pm_M → Prop} (kont : ∀ w2, w2 < 256 → (∀ r, r < 8 → (w2.testBit r = true ↔ G r ∨ (r < n ∧ I 68 l ≠ 0 ∧ I 68 l = I 68 r))) → Px 1 0 0 CX12_newsBehind 39 [some (.ref 65), some (.int (nI v)), some (.int (nI w2)), some (.int (nI l)), some (.int (nI n))] [] (gS, I, J, gR p, ro) Q) : Px 1 0 0 CX12_newsBehind 22 [some (.ref (65)), some (.int (nI v)), some (.int (nI w)), some (.int (nI l)), some (.int (nI k))] [] (gS, I, J, gR p, ro) (Q) := by
  refine px_iload rfl rfl ?_
  refine px_aload_n (kk := 0) rfl rfl rfl ?_
  refine px_getIe (v := nI n) rfl gS_65 rfl hn ?_
  refine px_icmp_ge rfl (fun c25 => ?_) (fun c25 => ?_)
  · rw [n_le (by omega) (by omega)] at c25
    obtain rfl : k = n := by omega
    exact kont w hw hb
  · rw [n_le (by omega) (by omega)] at c25
    refine px_aload_n (kk := 0) rfl rfl rfl ?_
    refine px_iload_n (kk := 3) rfl rfl rfl ?_
    refine px_iload rfl rfl ?_
    refine px_callV0 CX12_onOne [] [.int _, .int _] (vX12_onOne (a := l) (b := k) (by omega) (by omega)) rfl gS_65 (by decide) rfl rfl rfl (Nat.le_of_ble_eq_true rfl) (by decide) ?_
    rintro _ _ - (⟨ho, rfl, rfl⟩ | ⟨ho, rfl, rfl⟩)
    · refine px_if_eq rfl (fun h => absurd h (by decide)) (fun _ => ?_)
      refine px_iload_n (kk := 2) rfl rfl rfl ?_
      refine px_iconst (v := nI 1) rfl k_1 ?_
      refine px_iload rfl rfl ?_
      refine px_ishl rfl ?_
      refine px_ior rfl ?_
      refine px_ist2 rfl rfl (by decide) ?_
      refine px_iinc4 (v := nI (k + 1)) rfl (n_inc k) rfl (by decide) ?_
      refine px_goto rfl ?_
      rw [(bit_or w hw k (by omega)).1]
      refine lX12_nb2 hn hn8 hl (k := k + 1) (by omega) (bit_or w hw k (by omega)).2 (fun r hr => ?_) kont
      rw [bit_tb w hw k (by omega) r hr, hb r hr]
      constructor
      · rintro ((h | ⟨h1, h2⟩) | rfl)
        · exact .inl h
        · exact .inr ⟨by omega, h2⟩
        · exact .inr ⟨by omega, ho⟩
      · rintro (h | ⟨h1, h2⟩)
        · exact .inl (.inl h)
        · by_cases e : r = k
          · exact .inr e
          · exact .inl (.inr ⟨by omega, h2⟩)
    · refine px_if_eq rfl (fun _ => ?_) (fun h => absurd h (by decide))
      refine px_iinc4 (v := nI (k + 1)) rfl (n_inc k) rfl (by decide) ?_
      refine px_goto rfl ?_
      refine lX12_nb2 hn hn8 hl (k := k + 1) (by omega) hw (fun r hr => ?_) kont
      rw [hb r hr]
      constructor
      · rintro (h | ⟨h1, h2⟩)
        · exact .inl h
        · exact .inr ⟨by omega, h2⟩
      · rintro (h | ⟨h1, h2⟩)
        · exact .inl h
        · by_cases e : r = k
          · subst e; exact absurd h2 ho
          · exact .inr ⟨by omega, h2⟩
termination_by n - k
decreasing_by all_goals (have h := ‹¬ nI n ≤ nI k›; rw [n_le (by omega) (by omega)] at h; omega)
theorem lX12_nb {I : Nat → Nat → Int32} {J : Nat → Nat → Int64} {p : Bool × Option Nat} {ro : List (Nat × Nat × (Nat → Int32))} {n : Nat} (hn : I 65 1 = nI n) (hn8 : n ≤ 8) (hM : MT n (I 85)) {v : Nat} (hv : v < 256) {w k : Nat} (hk : k ≤ n) (hw : w < 256) (hb : ∀ r, r < 8 → (w.testBit r = true ↔ (v.testBit r = true ∨ ∃ l, l < k ∧ TL (I 85) v l ∧ (r = l ∨ (r < n ∧ I 68 l ≠ 0 ∧ I 68 l = I 68 r))))) {o : Option Value} : Px 1 0 0 CX12_newsBehind 4 [some (.ref (65)), some (.int (nI v)), some (.int (nI w)), some (.int (nI k)), o] [] (gS, I, J, gR p, ro) (qI (nI (sp_kn n (I 68) (I 85) v)) (gS, I, J, gR p, ro)) := by
  refine px_iload_n (kk := 3) rfl rfl rfl ?_
  refine px_aload_n (kk := 0) rfl rfl rfl ?_
  refine px_getIe (v := nI n) rfl gS_65 rfl hn ?_
  refine px_icmp_ge rfl (fun c7 => ?_) (fun c7 => ?_)
  · refine px_iload_n (kk := 2) rfl rfl rfl ?_
    refine px_ireturn rfl (.inl rfl) ?_
    rw [n_le (by omega) (by omega)] at c7
    obtain rfl : k = n := by omega
    refine ⟨?_, rfl⟩
    congr 3
    refine mask_ext hw sp_kn_v (fun r hr => ?_)
    rw [hb r hr, sp_kn_tb hr]
    constructor
    · rintro (h | ⟨l, h1, h2, h3 | ⟨h3, h4, h5⟩⟩)
      · exact .inl h
      · subst h3; exact .inr ⟨h1, .inl h2⟩
      · exact .inr ⟨h3, .inr ⟨by rw [← h5, ← n_0]; exact h4, l, h1, h2, h5⟩⟩
    · rintro (h | ⟨h1, h | ⟨h2, l, h3, h4, h5⟩⟩)
      · exact .inl h
      · exact .inr ⟨r, h1, h, .inl rfl⟩
      · exact .inr ⟨l, h3, h4, .inr ⟨h1, by rw [h5, n_0]; exact h2, h5⟩⟩
  · rw [n_le (by omega) (by omega)] at c7
    refine px_aload_n (kk := 0) rfl rfl rfl ?_
    refine px_iload_n (kk := 3) rfl rfl rfl ?_
    refine px_iload_n (kk := 1) rfl rfl rfl ?_
    refine px_callV0 CX12_isTelling [] [.int _, .int _] (vX12_isTelling hn8 hM (l := k) (by omega) hv) rfl gS_65 (by decide) rfl rfl rfl (Nat.le_of_ble_eq_true rfl) (by decide) ?_
    rintro _ _ - (⟨ht, rfl, rfl⟩ | ⟨ht, rfl, rfl⟩)
    · refine px_if_ne rfl (fun _ => ?_) (fun h => absurd h (by decide))
      refine px_iload_n (kk := 2) rfl rfl rfl ?_
      refine px_iconst (v := nI 1) rfl k_1 ?_
      refine px_iload_n (kk := 3) rfl rfl rfl ?_
      refine px_ishl rfl ?_
      refine px_ior rfl ?_
      refine px_ist2 rfl rfl (by decide) ?_
      refine px_iconst (v := nI 0) rfl k_0 ?_
      refine px_ist4 rfl rfl (by decide) ?_
      rw [(bit_or w hw k (by omega)).1]
      refine lX12_nb2 hn hn8 (l := k) (by omega) (G := fun r => w.testBit r = true ∨ r = k) (k := 0) (by omega) (bit_or w hw k (by omega)).2 (fun r hr => ?_) (fun w2 hw2 hb2 => ?_)
      · rw [bit_tb w hw k (by omega) r hr]
        exact ⟨.inl, fun h => h.elim id (fun z => absurd z.1 (by omega))⟩
      refine px_iinc3 (v := nI (k + 1)) rfl (n_inc k) rfl (by decide) ?_
      refine px_goto rfl ?_
      refine lX12_nb hn hn8 hM hv (k := k + 1) (by omega) hw2 (fun r hr => ?_)
      rw [hb2 r hr, hb r hr]
      constructor
      · rintro (((h | ⟨l, h1, h2⟩) | h) | h)
        · exact .inl h
        · exact .inr ⟨l, by omega, h2⟩
        · exact .inr ⟨k, by omega, ht, .inl h⟩
        · exact .inr ⟨k, by omega, ht, .inr h⟩
      · rintro (h | ⟨l, h1, h2, h3⟩)
        · exact .inl (.inl (.inl h))
        · by_cases e : l = k
          · subst e
            exact h3.elim (fun z => .inl (.inr z)) .inr
          · exact .inl (.inl (.inr ⟨l, by omega, h2, h3⟩))
    · refine px_if_ne rfl (fun h => absurd h (by decide)) (fun _ => ?_)
      refine px_goto rfl ?_
      refine px_iinc3 (v := nI (k + 1)) rfl (n_inc k) rfl (by decide) ?_
      refine px_goto rfl ?_
      refine lX12_nb hn hn8 hM hv (k := k + 1) (by omega) hw (fun r hr => ?_)
      rw [hb r hr]
      constructor
      · rintro (h | ⟨l, h1, h2⟩)
        · exact .inl h
        · exact .inr ⟨l, by omega, h2⟩
      · rintro (h | ⟨l, h1, h2, h3⟩)
        · exact .inl h
        · by_cases e : l = k
          · subst e; exact absurd h2 ht
          · exact .inr ⟨l, by omega, h2, h3⟩
termination_by n - k
decreasing_by all_goals (have h := ‹¬ nI n ≤ nI k›; rw [n_le (by omega) (by omega)] at h; omega)
theorem vX12_newsBehind {I : Nat → Nat → Int32} {J : Nat → Nat → Int64} {p : Bool × Option Nat} {ro : List (Nat × Nat × (Nat → Int32))} {n : Nat} (hn : I 65 1 = nI n) (hn8 : n ≤ 8) (hM : MT n (I 85)) {v : Nat} (hv : v < 256) : Pv 1 0 0 CX12_newsBehind [.ref (65), .int (nI v)] (gS, I, J, gR p, ro) (qI (nI (sp_kn n (I 68) (I 85) v)) (gS, I, J, gR p, ro)) := by
  refine ⟨okCX12_newsBehind, Nat.le_of_ble_eq_true rfl, (show Px _ _ _ _ 0 [some (.ref (65)), some (.int (nI v)), none, none, none] [] _ _ from ?_)⟩
  refine px_iload_n (kk := 1) rfl rfl rfl ?_
  refine px_ist2 rfl rfl (by decide) ?_
  refine px_iconst (v := nI 0) rfl k_0 ?_
  refine px_ist3 rfl rfl (by decide) ?_
  exact lX12_nb hn hn8 hM hv (w := v) (k := 0) (by omega) hv (fun r hr => ⟨.inl, fun h => h.elim id (fun ⟨l, z, _⟩ => absurd z (by omega))⟩)
/-- the first hour behind which it is known -/
def sp_fh (w : Nat → Nat) (u : Int32) : Nat → Int32
  | 0 => -2
  | k + 1 => if sp_fh w u k < 0 ∧ 0 ≤ u ∧ (w (k + 1)).testBit (mN u) = true then nI k else sp_fh w u k
theorem sp_fh_m {w : Nat → Nat} {k : Nat} : sp_fh w (-1) k = -2 := by
  induction k with
  | zero => rfl
  | succ k ih => rw [sp_fh, if_neg (fun h => absurd h.2.1 (by decide)), ih]
theorem sp_fh_p {w : Nat → Nat} {u : Int32} {k : Nat} (h : ¬ sp_fh w u k < 0) (f : Nat) : sp_fh w u (k + f) = sp_fh w u k := by
  induction f with
  | zero => rfl
  | succ f ih => rw [← Nat.add_assoc, sp_fh, if_neg (fun z => h (by rw [← ih]; exact z.1)), ih]
theorem sp_fh_h {w : Nat → Nat} {b : Nat} (hb : b < 8) : ∀ (f k : Nat), k + f < 1000 → sp_fh w (nI b) k = -2 → sp_hear w b f k = sp_fh w (nI b) (k + f)
  | 0, k, _, h => by rw [sp_hear]; exact h.symm
  | f + 1, k, hk, h => by
    have e : sp_fh w (nI b) (k + 1) = if (w (k + 1)).testBit b = true then nI k else -2 := by
      rw [sp_fh, h, mN_n (by omega)]
      by_cases q : (w (k + 1)).testBit b = true
      · rw [if_pos ⟨by decide, nn_ge (by omega), q⟩, if_pos q]
      · rw [if_neg (fun z => q z.2.2), if_neg q]
    rw [sp_hear]
    by_cases q : (w (k + 1)).testBit b = true
    · rw [if_pos q] at e ⊢
      rw [show k + (f + 1) = k + 1 + f by omega, sp_fh_p (by rw [e]; exact n_nneg (by omega)), e]
    · rw [if_neg q] at e ⊢
      rw [sp_fh_h hb f (k + 1) (by omega) e, show k + (f + 1) = k + 1 + f by omega]
def GN (I I1 : Nat → Nat → Int32) : Prop := Fr [65, 85, 86, 88] I I1 ∧ ∀ k, k ≠ 34 → k ≠ 35 → k ≠ 38 → I1 65 k = I 65 k
theorem lX12_newsOf {I : Nat → Nat → Int32} {J : Nat → Nat → Int64} {p : Bool × Option Nat} {ro : List (Nat × Nat × (Nat → Int32))} {n : Nat} (hn8 : n ≤ 8) (hn : I 65 1 = nI n) {s z : Nat} (hs : s < 6) (hz : I 99 s = nI z) (hz60 : z ≤ 60) {one : Nat} (hone : one < 8) {N : Nat} (hN : N ≤ 60) {u : Int32} (hu : u = -1 ∨ ∃ b, b < 8 ∧ u = nI b) {k : Nat} (hk : k ≤ N) {I1 : Nat → Nat → Int32} (hG : GN I I1) (hK : RK n z (I 65 6) (fun j => (J 100 (60 * s + j)).toInt32) (wiR (I 65 36)) k I1) (h38 : I1 65 38 = (sp_fh (fun k => sp_news n (I 68) (I 65 6) (fun j => (J 100 (60 * s + j)).toInt32) z (wiR (I 65 36)) one k) u k)) : Px 4 0 0 CX12_newsOf 9 [some (.ref (65)), some (.int (nI s)), some (.int (nI N)), some (.int (nI one)), some (.int (u)), some (.int (nI (sp_news n (I 68) (I 65 6) (fun j => (J 100 (60 * s + j)).toInt32) z (wiR (I 65 36)) one k))), some (.int (nI k))] [] (gS, I1, J, gR p, ro) (fun r S' => r = some (.int (nI (sp_news n (I 68) (I 65 6) (fun j => (J 100 (60 * s + j)).toInt32) z (wiR (I 65 36)) one N))) ∧ ∃ I', S' = (gS, I', J, gR p, ro) ∧ GN I I' ∧ I' 65 38 = (sp_fh (fun k => sp_news n (I 68) (I 65 6) (fun j => (J 100 (60 * s + j)).toInt32) z (wiR (I 65 36)) one k) u N)) := by
  refine px_iload rfl rfl ?_
  refine px_iload_n (kk := 2) rfl rfl rfl ?_
  refine px_icmp_ge rfl (fun c11 => ?_) (fun c11 => ?_)
  · refine px_iload rfl rfl ?_
    refine px_ireturn rfl (.inl rfl) ?_
    rw [n_le (by omega) (by omega)] at c11
    obtain rfl : k = N := by omega
    exact ⟨rfl, I1, rfl, hG, h38⟩
  · rw [n_le (by omega) (by omega)] at c11
    refine px_aload_n (kk := 0) rfl rfl rfl ?_
    refine px_iload_n (kk := 1) rfl rfl rfl ?_
    refine px_callV0 CX12_plugHour [] [.int _] (vX12_plugK hn8 ((hG.2 1 (by decide) (by decide) (by decide)).trans hn) hs ((congrFun (hG.1 99 (by decide)) s).trans hz) hz60 (k := k) (by omega) (by rw [(hG.2 6 (by decide) (by decide) (by decide)), (hG.2 36 (by decide) (by decide) (by decide))]; exact hK)) rfl gS_65 (by decide) rfl rfl rfl (Nat.le_of_ble_eq_true rfl) (by decide) ?_
    rintro _ _ - ⟨rfl, I2, rfl, f2, k2, p85, pM, pK⟩
    rw [(hG.2 6 (by decide) (by decide) (by decide)), (hG.2 36 (by decide) (by decide) (by decide))] at p85 pM pK
    have hM2 : MT n (I2 85) := fun l hl => by
      rw [p85 l hl]
      rcases pM l hl with e | ⟨j, hj, hne, e1, e2⟩
      · exact .inl e
      · exact .inr ⟨j, hj, hne, e1, by rw [p85 j hj]; exact e2⟩
    have hv : (sp_news n (I 68) (I 65 6) (fun j => (J 100 (60 * s + j)).toInt32) z (wiR (I 65 36)) one k) < 256 := sp_news_v hone k
    have e38 : I2 65 38 = (sp_fh (fun k => sp_news n (I 68) (I 65 6) (fun j => (J 100 (60 * s + j)).toInt32) z (wiR (I 65 36)) one k) u k) := (k2 38 (by decide) (by decide)).trans h38
    have hv1 : (sp_news n (I 68) (I 65 6) (fun j => (J 100 (60 * s + j)).toInt32) z (wiR (I 65 36)) one (k + 1)) < 256 := sp_news_v hone (k + 1)
    refine px_aload_n (kk := 0) rfl rfl rfl ?_
    refine px_iload rfl rfl ?_
    refine px_callV0 CX12_newsBehind [] [.int _] (vX12_newsBehind ((k2 1 (by decide) (by decide)).trans ((hG.2 1 (by decide) (by decide) (by decide)).trans hn)) hn8 hM2 hv) rfl gS_65 (by decide) rfl rfl rfl (Nat.le_of_ble_eq_true rfl) (by decide) ?_
    rintro _ _ - ⟨rfl, rfl⟩
    have hkn : nI (sp_kn n (I2 68) (I2 85) (sp_news n (I 68) (I 65 6) (fun j => (J 100 (60 * s + j)).toInt32) z (wiR (I 65 36)) one k)) = nI (sp_news n (I 68) (I 65 6) (fun j => (J 100 (60 * s + j)).toInt32) z (wiR (I 65 36)) one (k + 1)) := by
      rw [sp_news, sp_kn_congr (fun l hl => p85 l hl), f2 68 (by decide), hG.1 68 (by decide)]
    refine px_ieq hkn ?_
    refine px_ist5 rfl rfl (by decide) ?_
    refine px_aload_n (kk := 0) rfl rfl rfl ?_
    refine px_getIe (v := (sp_fh (fun k => sp_news n (I 68) (I 65 6) (fun j => (J 100 (60 * s + j)).toInt32) z (wiR (I 65 36)) one k) u k)) rfl gS_65 rfl e38 ?_
    refine px_if_ge rfl (fun c21 => ?_) (fun c21 => ?_)
    · refine px_iinc6 (v := nI (k + 1)) rfl (n_inc k) rfl (by decide) ?_
      refine px_goto rfl ?_
      refine lX12_newsOf hn8 hn hs hz hz60 hone hN hu (k := k + 1) (by omega) (I1 := I2) ⟨Fr_tr hG.1 (Fr_mo f2 (by decide)), fun j h1 h2 h3 => (k2 j h1 h2).trans (hG.2 j h1 h2 h3)⟩ pK ?_
      rw [e38, sp_fh, if_neg (fun h => by have := h.1; rw [i_lt, i_0] at this; rw [i_le, i_0] at c21; omega)]
    · refine px_iload rfl rfl ?_
      refine px_if_lt rfl (fun c23 => ?_) (fun c23 => ?_)
      · refine px_iinc6 (v := nI (k + 1)) rfl (n_inc k) rfl (by decide) ?_
        refine px_goto rfl ?_
        refine lX12_newsOf hn8 hn hs hz hz60 hone hN hu (k := k + 1) (by omega) (I1 := I2) ⟨Fr_tr hG.1 (Fr_mo f2 (by decide)), fun j h1 h2 h3 => (k2 j h1 h2).trans (hG.2 j h1 h2 h3)⟩ pK ?_
        rw [e38, sp_fh, if_neg (fun h => by have := h.2.1; rw [i_le] at this; rw [i_lt] at c23; omega)]
      · obtain ⟨b, hb, rfl⟩ : ∃ b, b < 8 ∧ u = nI b := hu.resolve_left (fun e => by rw [e] at c23; exact c23 (by decide))
        refine px_iload rfl rfl ?_
        refine px_iload rfl rfl ?_
        refine px_ishr rfl ?_
        refine px_iconst (v := nI 1) rfl k_1 ?_
        refine px_iand rfl ?_
        refine px_iconst (v := nI 1) rfl k_1 ?_
        refine px_icmp_ne rfl (fun c30 => ?_) (fun c30 => ?_)
        · refine px_iinc6 (v := nI (k + 1)) rfl (n_inc k) rfl (by decide) ?_
          refine px_goto rfl ?_
          refine lX12_newsOf hn8 hn hs hz hz60 hone hN hu (k := k + 1) (by omega) (I1 := I2) ⟨Fr_tr hG.1 (Fr_mo f2 (by decide)), fun j h1 h2 h3 => (k2 j h1 h2).trans (hG.2 j h1 h2 h3)⟩ pK ?_
          rw [e38, sp_fh, if_neg (fun h => c30 ((bit_at1 hv1 hb).mpr (by have := h.2.2; rw [mN_n (by omega)] at this; exact this)))]
        · refine px_aload_n (kk := 0) rfl rfl rfl ?_
          refine px_iload rfl rfl ?_
          refine px_putI rfl gS_65 rfl rfl ?_
          refine px_iinc6 (v := nI (k + 1)) rfl (n_inc k) rfl (by decide) ?_
          refine px_goto rfl ?_
          obtain ⟨q, q1, q2, q3⟩ := pK
          refine lX12_newsOf hn8 hn hs hz hz60 hone hN hu (k := k + 1) (by omega) (I1 := (va_up I2 65 (va_up (I2 65) 38 (nI k)))) ⟨Fr_up (Fr_tr hG.1 (Fr_mo f2 (by decide))) (by decide) _, fun j h1 h2 h3 => by rw [p_up_s, p_up_n _ _ h3]; exact (k2 j h1 h2).trans (hG.2 j h1 h2 h3)⟩ ⟨q, q1, by rw [p_up_s, p_up_n _ _ (by decide)]; exact q2, q3⟩ ?_
          rw [p_up_s, p_up_s, sp_fh, if_pos ⟨by rw [i_lt]; rw [i_le] at c21; omega, nn_ge (by omega), by rw [mN_n (by omega)]; exact (bit_at1 hv1 hb).mp (by first | exact c30 | exact Classical.byContradiction c30)⟩]
termination_by N - k
decreasing_by all_goals (have h := ‹¬ nI N ≤ nI k›; rw [n_le (by omega) (by omega)] at h; omega)
theorem vX12_newsOf {I : Nat → Nat → Int32} {J : Nat → Nat → Int64} {p : Bool × Option Nat} {ro : List (Nat × Nat × (Nat → Int32))} {n : Nat} (hn8 : n ≤ 8) (hn : I 65 1 = nI n) {s z : Nat} (hs : s < 6) (hz : I 99 s = nI z) (hz60 : z ≤ 60) {one : Nat} (hone : one < 8) {N : Nat} (hN : N ≤ 60) {u : Int32} (hu : u = -1 ∨ ∃ b, b < 8 ∧ u = nI b) (hK : RK n z (I 65 6) (fun j => (J 100 (60 * s + j)).toInt32) (wiR (I 65 36)) 0 I) : Pv 4 0 0 CX12_newsOf [.ref (65), .int (nI s), .int (nI N), .int (nI one), .int (u)] (gS, I, J, gR p, ro) (fun r S' => r = some (.int (nI (sp_news n (I 68) (I 65 6) (fun j => (J 100 (60 * s + j)).toInt32) z (wiR (I 65 36)) one N))) ∧ ∃ I', S' = (gS, I', J, gR p, ro) ∧ GN I I' ∧ I' 65 38 = (sp_fh (fun k => sp_news n (I 68) (I 65 6) (fun j => (J 100 (60 * s + j)).toInt32) z (wiR (I 65 36)) one k) u N)) := by
  refine ⟨okCX12_newsOf, Nat.le_of_ble_eq_true rfl, (show Px _ _ _ _ 0 [some (.ref (65)), some (.int (nI s)), some (.int (nI N)), some (.int (nI one)), some (.int (u)), none, none] [] _ _ from ?_)⟩
  refine px_iconst (v := nI 1) rfl k_1 ?_
  refine px_iload_n (kk := 3) rfl rfl rfl ?_
  refine px_ishl rfl ?_
  refine px_ist5 rfl rfl (by decide) ?_
  refine px_aload_n (kk := 0) rfl rfl rfl ?_
  refine px_bipush (v := -2) rfl b_m2 ?_
  refine px_putI rfl gS_65 rfl rfl ?_
  refine px_iconst (v := nI 0) rfl k_0 ?_
  refine px_ist6 rfl rfl (by decide) ?_
  rw [(bit_1 one hone).1]
  obtain ⟨q, q1, q2, q3⟩ := hK
  exact lX12_newsOf hn8 hn hs hz hz60 hone hN hu (k := 0) (by omega) (I1 := va_up I 65 (va_up (I 65) 38 (-2))) ⟨Fr_up Fr_rf (by decide) _, fun j h1 h2 h3 => by rw [p_up_s, p_up_n _ _ h3]⟩ ⟨q, q1, by rw [p_up_s, p_up_n _ _ (by decide)]; exact q2, q3⟩ (by rw [p_up_s, p_up_s]; rfl)
