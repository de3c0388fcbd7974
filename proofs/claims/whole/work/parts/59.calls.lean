/-! what is asked of all: the calls -/
theorem gR_52v {s : Nat} (hs : s < 6) (p : Bool × Option Nat) : gR p 52 s = some (53 + 2 * s) := by
  rcases (by omega : s = 0 ∨ s = 1 ∨ s = 2 ∨ s = 3 ∨ s = 4 ∨ s = 5) with rfl | rfl | rfl | rfl | rfl | rfl <;> rfl
abbrev cth : List Nat := [6, 8, 12, 13, 14, 15, 16, 17, 18, 19, 20, 21, 22, 23, 24, 25, 26, 27, 28, 29, 30, 31, 32, 33]
def PT (Q : Int32 → Prop) (I : Nat → Nat → Int32) (J : Nat → Nat → Int64) (p : Bool × Option Nat) (ro : List (Nat × Nat × (Nat → Int32))) : Option Value → pm_M → Prop := fun r S' => ∃ v, r = some (.int v) ∧ Q v ∧ ∃ I' J' b, S' = (gS, I', J', gR (p.1, b), ro) ∧ Fr cth I I' ∧ K6 I I' ∧ ∀ c, c ≠ 29 → J' c = J c
theorem PT_id {Q : Int32 → Prop} {I : Nat → Nat → Int32} {J : Nat → Nat → Int64} {p : Bool × Option Nat} {ro : List (Nat × Nat × (Nat → Int32))} {v : Int32} (h : Q v) : PT Q I J p ro (some (.int v)) (gS, I, J, gR p, ro) := ⟨v, rfl, h, I, J, p.2, rfl, Fr_rf, fun _ _ => rfl, fun _ _ => rfl⟩
theorem PT_mk {Q : Int32 → Prop} {I : Nat → Nat → Int32} {J : Nat → Nat → Int64} {p : Bool × Option Nat} {ro : List (Nat × Nat × (Nat → Int32))} {v : Int32} {I' : Nat → Nat → Int32} {b : Option Nat} {cs : List Nat} (h : Q v) (hF : Fr cs I I') (hK : K6 I I') (hc : ∀ c ∈ cs, c ∈ cth) : PT Q I J p ro (some (.int v)) (gS, I', J, gR (p.1, b), ro) := ⟨v, rfl, h, I', J, b, rfl, Fr_mo hF hc, hK, fun _ _ => rfl⟩
/-- what is answered to a question about a day told on a shelf -/
def DAY (P : Prop) (x : Int32) (E B : Nat → Prop) (V : Nat → Int32) (r : Int32) : Prop := (¬ (P ∧ ∃ s, s < 6 ∧ x = nI s) ∧ r = -1) ∨ ∃ s, s < 6 ∧ x = nI s ∧ P ∧ ((E s ∧ r = -11) ∨ (¬ E s ∧ B s ∧ r = V s) ∨ (¬ E s ∧ ¬ B s ∧ r = -12))
theorem DAY_fn {P P' : Prop} {x : Int32} {E B E' B' : Nat → Prop} {V V' : Nat → Int32} {r r' : Int32} (h : DAY P x E B V r) (h' : DAY P' x E' B' V' r') (hP : P ↔ P') (hE : ∀ s, s < 6 → (E s ↔ E' s)) (hB : ∀ s, s < 6 → ¬ E s → (B s ↔ B' s)) (hV : ∀ s, s < 6 → P → ¬ E s → B s → V s = V' s) : r = r' := by
  rcases h with ⟨h1, rfl⟩ | ⟨s, hs, e, p1, h1⟩
  · rcases h' with ⟨h2, rfl⟩ | ⟨s, hs, e, p1, h2⟩
    · rfl
    · exact absurd ⟨hP.mpr p1, s, hs, e⟩ h1
  · rcases h' with ⟨h2, rfl⟩ | ⟨s2, hs2, e2, p2, h2⟩
    · exact absurd ⟨hP.mp p1, s, hs, e⟩ h2
    · rw [e, n_eq (by omega) (by omega)] at e2
      subst e2
      rcases h1 with ⟨a1, rfl⟩ | ⟨a1, b1, rfl⟩ | ⟨a1, b1, rfl⟩
      · rcases h2 with ⟨a2, rfl⟩ | ⟨a2, b2, rfl⟩ | ⟨a2, b2, rfl⟩
        · rfl
        · exact absurd ((hE s hs).mp a1) a2
        · exact absurd ((hE s hs).mp a1) a2
      · rcases h2 with ⟨a2, rfl⟩ | ⟨a2, b2, rfl⟩ | ⟨a2, b2, rfl⟩
        · exact absurd ((hE s hs).mpr a2) a1
        · exact hV s hs p1 a1 b1
        · exact absurd ((hB s hs a1).mp b1) b2
      · rcases h2 with ⟨a2, rfl⟩ | ⟨a2, b2, rfl⟩ | ⟨a2, b2, rfl⟩
        · exact absurd ((hE s hs).mpr a2) a1
        · exact absurd ((hB s hs a1).mpr b2) b1
        · rfl
theorem vX11_isHours {I : Nat → Nat → Int32} {J : Nat → Nat → Int64} {p : Bool × Option Nat} {ro : List (Nat × Nat × (Nat → Int32))} {x : Int32} : Pv 0 0 0 CX11_isHours [.int (x)] (gS, I, J, gR p, ro) (qB (∃ N, N ≤ 60 ∧ x = nI N) (gS, I, J, gR p, ro)) := by
  refine ⟨okCX11_isHours, Nat.le_of_ble_eq_true rfl, (show Px _ _ _ _ 0 [some (.int (x))] [] _ _ from ?_)⟩
  refine px_iload_n (kk := 0) rfl rfl rfl ?_
  refine px_if_lt rfl (fun c1 => ?_) (fun c1 => ?_)
  · refine px_iconst (v := nI 0) rfl k_0 ?_
    refine px_ireturn rfl (.inr ⟨rfl, by decide⟩) ?_
    exact qB_f (fun ⟨a, ha, e⟩ => n_nneg (by omega) (e ▸ c1))
  · refine px_iload_n (kk := 0) rfl rfl rfl ?_
    refine px_bipush (v := nI 60) rfl b_60 ?_
    refine px_icmp_gt rfl (fun c4 => ?_) (fun c4 => ?_)
    · refine px_iconst (v := nI 0) rfl k_0 ?_
      refine px_ireturn rfl (.inr ⟨rfl, by decide⟩) ?_
      exact qB_f (fun ⟨a, ha, e⟩ => by subst e; rw [n_lt (by omega) (by omega)] at c4; omega)
    · refine px_iconst (v := nI 1) rfl k_1 ?_
      refine px_goto rfl ?_
      refine px_ireturn rfl (.inr ⟨rfl, by decide⟩) ?_
      obtain ⟨a, ha, rfl⟩ := n_ofn c1
      rw [n_lt (by omega) ha] at c4
      exact qB_t ⟨a, by omega, rfl⟩
theorem vX11_isEither {I : Nat → Nat → Int32} {J : Nat → Nat → Int64} {p : Bool × Option Nat} {ro : List (Nat × Nat × (Nat → Int32))} {x : Int32} : Pv 0 0 0 CX11_isEither [.int (x)] (gS, I, J, gR p, ro) (qB (x = nI 0 ∨ x = nI 1) (gS, I, J, gR p, ro)) := by
  refine ⟨okCX11_isEither, Nat.le_of_ble_eq_true rfl, (show Px _ _ _ _ 0 [some (.int (x))] [] _ _ from ?_)⟩
  refine px_iload_n (kk := 0) rfl rfl rfl ?_
  refine px_if_eq rfl (fun c1 => ?_) (fun c1 => ?_)
  · refine px_iconst (v := nI 1) rfl k_1 ?_
    refine px_goto rfl ?_
    refine px_ireturn rfl (.inr ⟨rfl, by decide⟩) ?_
    exact qB_t (.inl (by rw [← n_0]; exact c1))
  · refine px_iload_n (kk := 0) rfl rfl rfl ?_
    refine px_iconst (v := nI 1) rfl k_1 ?_
    refine px_icmp_ne rfl (fun c4 => ?_) (fun c4 => ?_)
    · refine px_iconst (v := nI 0) rfl k_0 ?_
      refine px_ireturn rfl (.inr ⟨rfl, by decide⟩) ?_
      exact qB_f (fun h => h.elim (fun e => c1 (by rw [n_0]; exact e)) c4)
    · refine px_iconst (v := nI 1) rfl k_1 ?_
      refine px_goto rfl ?_
      refine px_ireturn rfl (.inr ⟨rfl, by decide⟩) ?_
      exact qB_t (.inr (by first | exact c4 | exact Classical.byContradiction c4))
theorem vX11_isShelf {I : Nat → Nat → Int32} {J : Nat → Nat → Int64} {p : Bool × Option Nat} {ro : List (Nat × Nat × (Nat → Int32))} {x : Int32} : Pv 0 0 0 CX11_isShelf [.int (x)] (gS, I, J, gR p, ro) (qB (∃ s, s < 6 ∧ x = nI s) (gS, I, J, gR p, ro)) := by
  refine ⟨okCX11_isShelf, Nat.le_of_ble_eq_true rfl, (show Px _ _ _ _ 0 [some (.int (x))] [] _ _ from ?_)⟩
  refine px_iload_n (kk := 0) rfl rfl rfl ?_
  refine px_if_lt rfl (fun c1 => ?_) (fun c1 => ?_)
  · refine px_iconst (v := nI 0) rfl k_0 ?_
    refine px_ireturn rfl (.inr ⟨rfl, by decide⟩) ?_
    exact qB_f (fun ⟨a, ha, e⟩ => n_nneg (by omega) (e ▸ c1))
  · refine px_iload_n (kk := 0) rfl rfl rfl ?_
    refine px_bipush (v := nI 6) rfl b_6 ?_
    refine px_icmp_ge rfl (fun c4 => ?_) (fun c4 => ?_)
    · refine px_iconst (v := nI 0) rfl k_0 ?_
      refine px_ireturn rfl (.inr ⟨rfl, by decide⟩) ?_
      exact qB_f (fun ⟨a, ha, e⟩ => by subst e; rw [n_le (by omega) (by omega)] at c4; omega)
    · refine px_iconst (v := nI 1) rfl k_1 ?_
      refine px_goto rfl ?_
      refine px_ireturn rfl (.inr ⟨rfl, by decide⟩) ?_
      obtain ⟨a, ha, rfl⟩ := n_ofn c1
      rw [n_le (by omega) ha] at c4
      exact qB_t ⟨a, by omega, rfl⟩
theorem vX11_rd_0 {I : Nat → Nat → Int32} {J : Nat → Nat → Int64} {p : Bool × Option Nat} {ro : List (Nat × Nat × (Nat → Int32))} {x : Int32} : Pv 1 0 0 CX11_refusalOfDay [.ref (0), .int (x), .int (nI 0)] (gS, I, J, gR p, ro) (qI (-1) (gS, I, J, gR p, ro)) := by
  refine ⟨okCX11_refusalOfDay, Nat.le_of_ble_eq_true rfl, (show Px _ _ _ _ 0 [some (.ref (0)), some (.int (x)), some (.int (nI 0))] [] _ _ from ?_)⟩
  refine px_iload_n (kk := 2) rfl rfl rfl ?_
  refine px_if_eq rfl (fun _ => ?_) (fun h => absurd h (by decide))
  refine px_iconst (v := -1) rfl k_m1 ?_
  refine px_ireturn rfl (.inl rfl) ?_
  exact ⟨rfl, rfl⟩
theorem vX11_rd_1 {I : Nat → Nat → Int32} {J : Nat → Nat → Int64} {p : Bool × Option Nat} {ro : List (Nat × Nat × (Nat → Int32))} {x : Int32} : Pv 1 0 0 CX11_refusalOfDay [.ref (0), .int (x), .int (nI 1)] (gS, I, J, gR p, ro) (fun r S' => (¬ (∃ s, s < 6 ∧ x = nI s) ∧ r = some (.int (-1)) ∧ S' = (gS, I, J, gR p, ro)) ∨ (∃ s, s < 6 ∧ x = nI s ∧ (I (53 + 2 * s) 1 = nI 0) ∧ r = some (.int (-11)) ∧ S' = (gS, I, J, gR p, ro)) ∨ (∃ s, s < 6 ∧ x = nI s ∧ ¬ (I (53 + 2 * s) 1 = nI 0) ∧ (I (53 + 2 * s) 1 = nI 2 ∧ I (53 + 2 * s) 3 = nI 0) ∧ r = some (.int (nI 0)) ∧ S' = (gS, I, J, gR p, ro)) ∨ (∃ s, s < 6 ∧ x = nI s ∧ ¬ (I (53 + 2 * s) 1 = nI 0) ∧ ¬ (I (53 + 2 * s) 1 = nI 2 ∧ I (53 + 2 * s) 3 = nI 0) ∧ r = some (.int (-12)) ∧ S' = (gS, I, J, gR p, ro))) := by
  refine ⟨okCX11_refusalOfDay, Nat.le_of_ble_eq_true rfl, (show Px _ _ _ _ 0 [some (.ref (0)), some (.int (x)), some (.int (nI 1))] [] _ _ from ?_)⟩
  refine px_iload_n (kk := 2) rfl rfl rfl ?_
  refine px_if_eq rfl (fun h => absurd h (by decide)) (fun _ => ?_)
  refine px_iload_n (kk := 1) rfl rfl rfl ?_
  refine px_callS0 CX11_isShelf [] [.int _] (vX11_isShelf) rfl rfl rfl (Nat.le_of_ble_eq_true rfl) (by decide) ?_
  rintro _ _ - (⟨⟨s, hs, rfl⟩, rfl, rfl⟩ | ⟨hs, rfl, rfl⟩)
  · refine px_if_ne rfl (fun _ => ?_) (fun h => absurd h (by decide))
    refine px_aload_n (kk := 0) rfl rfl rfl ?_
    refine px_getR (r := 52) rfl gS_0 rfl (gR_0_9 _) ?_
    refine px_iload_n (kk := 1) rfl rfl rfl ?_
    refine px_aald (j := s) (r := 53 + 2 * s) rfl gS_52 rfl hs (gR_52v hs _) ?_
    refine px_callV0 CX7_isEmpty [] [] (vX7_isEmpty hs) rfl (gS_sh s hs) (by decide) rfl rfl rfl (Nat.le_of_ble_eq_true rfl) (by decide) ?_
    rintro _ _ - (⟨he, rfl, rfl⟩ | ⟨he, rfl, rfl⟩)
    · refine px_if_eq rfl (fun h => absurd h (by decide)) (fun _ => ?_)
      refine px_bipush (v := -11) rfl b_m11 ?_
      refine px_ireturn rfl (.inl rfl) ?_
      exact .inr (.inl ⟨s, hs, rfl, he, rfl, rfl⟩)
    · refine px_if_eq rfl (fun _ => ?_) (fun h => absurd h (by decide))
      refine px_aload_n (kk := 0) rfl rfl rfl ?_
      refine px_getR (r := 52) rfl gS_0 rfl (gR_0_9 _) ?_
      refine px_iload_n (kk := 1) rfl rfl rfl ?_
      refine px_aald (j := s) (r := 53 + 2 * s) rfl gS_52 rfl hs (gR_52v hs _) ?_
      refine px_callV0 CX7_isBytes [] [] (vX7_isBytes hs) rfl (gS_sh s hs) (by decide) rfl rfl rfl (Nat.le_of_ble_eq_true rfl) (by decide) ?_
      rintro _ _ - (⟨hb, rfl, rfl⟩ | ⟨hb, rfl, rfl⟩)
      · refine px_if_eq rfl (fun h => absurd h (by decide)) (fun _ => ?_)
        refine px_iconst (v := nI 0) rfl k_0 ?_
        refine px_goto rfl ?_
        refine px_ireturn rfl (.inl rfl) ?_
        exact .inr (.inr (.inl ⟨s, hs, rfl, he, hb, rfl, rfl⟩))
      · refine px_if_eq rfl (fun _ => ?_) (fun h => absurd h (by decide))
        refine px_bipush (v := -12) rfl b_m12 ?_
        refine px_ireturn rfl (.inl rfl) ?_
        exact .inr (.inr (.inr ⟨s, hs, rfl, he, hb, rfl, rfl⟩))
  · refine px_if_ne rfl (fun h => absurd h (by decide)) (fun _ => ?_)
    refine px_iconst (v := -1) rfl k_m1 ?_
    refine px_ireturn rfl (.inl rfl) ?_
    exact .inl ⟨hs, rfl, rfl⟩
theorem vX11_later {I : Nat → Nat → Int32} {J : Nat → Nat → Int64} {p : Bool × Option Nat} {ro : List (Nat × Nat × (Nat → Int32))} {tx : List Ln} {n : Nat} (hW : TW tx n p I) (hSH : ∀ s, s < 6 → ∃ z, z ≤ 60 ∧ I (53 + 2 * s) 4 = nI z) {x y w : Int32} : Pv 6 0 0 CX11_later [.ref (0), .int (x), .int (y), .int (w)] (gS, I, J, gR p, ro) (PT (DAY ((∃ N, N ≤ 60 ∧ y = nI N) ∧ ∃ a, a < n ∧ w = nI a) x (fun s => I (53 + 2 * s) 1 = nI 0) (fun s => I (53 + 2 * s) 1 = nI 2 ∧ I (53 + 2 * s) 3 = nI 0) (fun s => (sp_days tx n (I 5) (I 4) (I 1 6) (I 1 5) (fun j => (J (54 + 2 * s) j).toInt32) (mN (I (53 + 2 * s) 4)) (wiC (-1)) (mN y) (D0 (I 2))).1 (mN w))) I J p ro) := by
  refine ⟨okCX11_later, Nat.le_of_ble_eq_true rfl, (show Px _ _ _ _ 0 [some (.ref (0)), some (.int (x)), some (.int (y)), some (.int (w)), none] [] _ _ from ?_)⟩
  refine px_aload_n (kk := 0) rfl rfl rfl ?_
  refine px_iload_n (kk := 1) rfl rfl rfl ?_
  refine px_iload_n (kk := 2) rfl rfl rfl ?_
  refine px_callS0 CX11_isHours [.int _, .ref 0] [.int _] (vX11_isHours) rfl rfl rfl (Nat.le_of_ble_eq_true rfl) (by decide) ?_
  rintro _ _ - (⟨⟨N, hN, rfl⟩, rfl, rfl⟩ | ⟨hN, rfl, rfl⟩)
  · refine px_if_eq rfl (fun h => absurd h (by decide)) (fun _ => ?_)
    refine px_aload_n (kk := 0) rfl rfl rfl ?_
    refine px_getR (r := 1) rfl gS_0 rfl (gR_0_0 _) ?_
    refine px_iload_n (kk := 3) rfl rfl rfl ?_
    refine px_callV0 CX9_isLine [.int _, .ref 0] [.int _] (vX9_isLine hW.2.1 hW.2.2.1) rfl gS_1 (by decide) rfl rfl rfl (Nat.le_of_ble_eq_true rfl) (by decide) ?_
    rintro _ _ - (⟨⟨a, ha, rfl⟩, rfl, rfl⟩ | ⟨ha, rfl, rfl⟩)
    · refine px_if_eq rfl (fun h => absurd h (by decide)) (fun _ => ?_)
      refine px_iconst (v := nI 1) rfl k_1 ?_
      refine px_goto rfl ?_
      refine px_callV0 CX11_refusalOfDay [] [.int _, .int _] (vX11_rd_1) rfl gS_0 (by decide) rfl rfl rfl (Nat.le_of_ble_eq_true rfl) (by decide) ?_
      rintro _ _ - (⟨hn6, rfl, rfl⟩ | ⟨s, hs, rfl, he, rfl, rfl⟩ | ⟨s, hs, rfl, he, hb, rfl, rfl⟩ | ⟨s, hs, rfl, he, hb, rfl, rfl⟩)
      · refine px_ist4 rfl rfl (by decide) ?_
        refine px_iload rfl rfl ?_
        refine px_if_eq rfl (fun h => absurd h (by decide)) (fun _ => ?_)
        refine px_iload rfl rfl ?_
        refine px_ireturn rfl (.inl rfl) ?_
        exact PT_id (.inl ⟨fun h => hn6 h.2, rfl⟩)
      · refine px_ist4 rfl rfl (by decide) ?_
        refine px_iload rfl rfl ?_
        refine px_if_eq rfl (fun h => absurd h (by decide)) (fun _ => ?_)
        refine px_iload rfl rfl ?_
        refine px_ireturn rfl (.inl rfl) ?_
        exact PT_id (.inr ⟨s, hs, rfl, ⟨⟨N, hN, rfl⟩, a, ha, rfl⟩, .inl ⟨he, rfl⟩⟩)
      · obtain ⟨z, hz60, hz⟩ := hSH s hs
        refine px_ist4 rfl rfl (by decide) ?_
        refine px_iload rfl rfl ?_
        refine px_if_eq rfl (fun _ => ?_) (fun h => absurd h (by decide))
        refine px_aload_n (kk := 0) rfl rfl rfl ?_
        refine px_getR (r := 15) rfl gS_0 rfl (gR_0_3 _) ?_
        refine px_aload_n (kk := 0) rfl rfl rfl ?_
        refine px_getR (r := 52) rfl gS_0 rfl (gR_0_9 _) ?_
        refine px_iload_n (kk := 1) rfl rfl rfl ?_
        refine px_aald (j := s) (r := 53 + 2 * s) rfl gS_52 rfl hs (gR_52v hs _) ?_
        refine px_iload_n (kk := 2) rfl rfl rfl ?_
        refine px_callV0 CX8_spend [] [.ref _, .int _] (vX8_spend hW hs hz hz60 hN) rfl gS_15 (by decide) rfl rfl rfl (Nat.le_of_ble_eq_true rfl) (by decide) ?_
        rintro _ _ - ⟨rfl, I2, rfl, hF2, hK2, hD, hWt⟩
        have hn8 := hW.2.2.1
        refine px_aload_n (kk := 0) rfl rfl rfl ?_
        refine px_getR (r := 15) rfl gS_0 rfl (gR_0_3 _) ?_
        refine px_getR (r := 22) rfl gS_15 rfl (gR_15_4 _) ?_
        refine px_iload_n (kk := 3) rfl rfl rfl ?_
        refine px_iald (j := a) rfl gS_22 rfl (by omega) ?_
        refine px_ireturn rfl (.inl rfl) ?_
        exact PT_mk (cs := c8) (.inr ⟨s, hs, rfl, ⟨⟨N, hN, rfl⟩, a, ha, rfl⟩, .inr (.inl ⟨he, hb, by dsimp only; rw [mN_n (by omega), mN_n (by omega), hz, mN_n (by omega)]; exact hD.1 a ha⟩)⟩) hF2 hK2 (by decide)
      · refine px_ist4 rfl rfl (by decide) ?_
        refine px_iload rfl rfl ?_
        refine px_if_eq rfl (fun h => absurd h (by decide)) (fun _ => ?_)
        refine px_iload rfl rfl ?_
        refine px_ireturn rfl (.inl rfl) ?_
        exact PT_id (.inr ⟨s, hs, rfl, ⟨⟨N, hN, rfl⟩, a, ha, rfl⟩, .inr (.inr ⟨he, hb, rfl⟩)⟩)
    · refine px_if_eq rfl (fun _ => ?_) (fun h => absurd h (by decide))
      refine px_iconst (v := nI 0) rfl k_0 ?_
      refine px_callV0 CX11_refusalOfDay [] [.int _, .int _] (vX11_rd_0) rfl gS_0 (by decide) rfl rfl rfl (Nat.le_of_ble_eq_true rfl) (by decide) ?_
      rintro _ _ - ⟨rfl, rfl⟩
      refine px_ist4 rfl rfl (by decide) ?_
      refine px_iload rfl rfl ?_
      refine px_if_eq rfl (fun h => absurd h (by decide)) (fun _ => ?_)
      refine px_iload rfl rfl ?_
      refine px_ireturn rfl (.inl rfl) ?_
      exact PT_id (.inl ⟨fun h => ha h.1.2, rfl⟩)
  · refine px_if_eq rfl (fun _ => ?_) (fun h => absurd h (by decide))
    refine px_iconst (v := nI 0) rfl k_0 ?_
    refine px_callV0 CX11_refusalOfDay [] [.int _, .int _] (vX11_rd_0) rfl gS_0 (by decide) rfl rfl rfl (Nat.le_of_ble_eq_true rfl) (by decide) ?_
    rintro _ _ - ⟨rfl, rfl⟩
    refine px_ist4 rfl rfl (by decide) ?_
    refine px_iload rfl rfl ?_
    refine px_if_eq rfl (fun h => absurd h (by decide)) (fun _ => ?_)
    refine px_iload rfl rfl ?_
    refine px_ireturn rfl (.inl rfl) ?_
    exact PT_id (.inl ⟨fun h => hN h.1.1, rfl⟩)
theorem vX11_idle {I : Nat → Nat → Int32} {J : Nat → Nat → Int64} {p : Bool × Option Nat} {ro : List (Nat × Nat × (Nat → Int32))} {tx : List Ln} {n : Nat} (hW : TW tx n p I) (hSH : ∀ s, s < 6 → ∃ z, z ≤ 60 ∧ I (53 + 2 * s) 4 = nI z) {x y w : Int32} : Pv 6 0 0 CX11_idle [.ref (0), .int (x), .int (y), .int (w)] (gS, I, J, gR p, ro) (PT (DAY ((∃ N, N ≤ 60 ∧ y = nI N) ∧ ∃ a, a < n ∧ w = nI a) x (fun s => I (53 + 2 * s) 1 = nI 0) (fun s => I (53 + 2 * s) 1 = nI 2 ∧ I (53 + 2 * s) 3 = nI 0) (fun s => sp_wait tx n (I 5) (I 4) (I 1 6) (I 1 5) (fun j => (J (54 + 2 * s) j).toInt32) (mN (I (53 + 2 * s) 4)) (wiC (-1)) (D0 (I 2)) (mN w) (mN y))) I J p ro) := by
  refine ⟨okCX11_idle, Nat.le_of_ble_eq_true rfl, (show Px _ _ _ _ 0 [some (.ref (0)), some (.int (x)), some (.int (y)), some (.int (w)), none] [] _ _ from ?_)⟩
  refine px_aload_n (kk := 0) rfl rfl rfl ?_
  refine px_iload_n (kk := 1) rfl rfl rfl ?_
  refine px_iload_n (kk := 2) rfl rfl rfl ?_
  refine px_callS0 CX11_isHours [.int _, .ref 0] [.int _] (vX11_isHours) rfl rfl rfl (Nat.le_of_ble_eq_true rfl) (by decide) ?_
  rintro _ _ - (⟨⟨N, hN, rfl⟩, rfl, rfl⟩ | ⟨hN, rfl, rfl⟩)
  · refine px_if_eq rfl (fun h => absurd h (by decide)) (fun _ => ?_)
    refine px_aload_n (kk := 0) rfl rfl rfl ?_
    refine px_getR (r := 1) rfl gS_0 rfl (gR_0_0 _) ?_
    refine px_iload_n (kk := 3) rfl rfl rfl ?_
    refine px_callV0 CX9_isLine [.int _, .ref 0] [.int _] (vX9_isLine hW.2.1 hW.2.2.1) rfl gS_1 (by decide) rfl rfl rfl (Nat.le_of_ble_eq_true rfl) (by decide) ?_
    rintro _ _ - (⟨⟨a, ha, rfl⟩, rfl, rfl⟩ | ⟨ha, rfl, rfl⟩)
    · refine px_if_eq rfl (fun h => absurd h (by decide)) (fun _ => ?_)
      refine px_iconst (v := nI 1) rfl k_1 ?_
      refine px_goto rfl ?_
      refine px_callV0 CX11_refusalOfDay [] [.int _, .int _] (vX11_rd_1) rfl gS_0 (by decide) rfl rfl rfl (Nat.le_of_ble_eq_true rfl) (by decide) ?_
      rintro _ _ - (⟨hn6, rfl, rfl⟩ | ⟨s, hs, rfl, he, rfl, rfl⟩ | ⟨s, hs, rfl, he, hb, rfl, rfl⟩ | ⟨s, hs, rfl, he, hb, rfl, rfl⟩)
      · refine px_ist4 rfl rfl (by decide) ?_
        refine px_iload rfl rfl ?_
        refine px_if_eq rfl (fun h => absurd h (by decide)) (fun _ => ?_)
        refine px_iload rfl rfl ?_
        refine px_ireturn rfl (.inl rfl) ?_
        exact PT_id (.inl ⟨fun h => hn6 h.2, rfl⟩)
      · refine px_ist4 rfl rfl (by decide) ?_
        refine px_iload rfl rfl ?_
        refine px_if_eq rfl (fun h => absurd h (by decide)) (fun _ => ?_)
        refine px_iload rfl rfl ?_
        refine px_ireturn rfl (.inl rfl) ?_
        exact PT_id (.inr ⟨s, hs, rfl, ⟨⟨N, hN, rfl⟩, a, ha, rfl⟩, .inl ⟨he, rfl⟩⟩)
      · obtain ⟨z, hz60, hz⟩ := hSH s hs
        refine px_ist4 rfl rfl (by decide) ?_
        refine px_iload rfl rfl ?_
        refine px_if_eq rfl (fun _ => ?_) (fun h => absurd h (by decide))
        refine px_aload_n (kk := 0) rfl rfl rfl ?_
        refine px_getR (r := 15) rfl gS_0 rfl (gR_0_3 _) ?_
        refine px_aload_n (kk := 0) rfl rfl rfl ?_
        refine px_getR (r := 52) rfl gS_0 rfl (gR_0_9 _) ?_
        refine px_iload_n (kk := 1) rfl rfl rfl ?_
        refine px_aald (j := s) (r := 53 + 2 * s) rfl gS_52 rfl hs (gR_52v hs _) ?_
        refine px_iload_n (kk := 2) rfl rfl rfl ?_
        refine px_callV0 CX8_spend [] [.ref _, .int _] (vX8_spend hW hs hz hz60 hN) rfl gS_15 (by decide) rfl rfl rfl (Nat.le_of_ble_eq_true rfl) (by decide) ?_
        rintro _ _ - ⟨rfl, I2, rfl, hF2, hK2, hD, hWt⟩
        have hn8 := hW.2.2.1
        refine px_aload_n (kk := 0) rfl rfl rfl ?_
        refine px_getR (r := 15) rfl gS_0 rfl (gR_0_3 _) ?_
        refine px_getR (r := 23) rfl gS_15 rfl (gR_15_5 _) ?_
        refine px_iload_n (kk := 3) rfl rfl rfl ?_
        refine px_iald (j := a) rfl gS_23 rfl (by omega) ?_
        refine px_ireturn rfl (.inl rfl) ?_
        exact PT_mk (cs := c8) (.inr ⟨s, hs, rfl, ⟨⟨N, hN, rfl⟩, a, ha, rfl⟩, .inr (.inl ⟨he, hb, by dsimp only; rw [mN_n (by omega), mN_n (by omega), hz, mN_n (by omega)]; exact hWt a ha⟩)⟩) hF2 hK2 (by decide)
      · refine px_ist4 rfl rfl (by decide) ?_
        refine px_iload rfl rfl ?_
        refine px_if_eq rfl (fun h => absurd h (by decide)) (fun _ => ?_)
        refine px_iload rfl rfl ?_
        refine px_ireturn rfl (.inl rfl) ?_
        exact PT_id (.inr ⟨s, hs, rfl, ⟨⟨N, hN, rfl⟩, a, ha, rfl⟩, .inr (.inr ⟨he, hb, rfl⟩)⟩)
    · refine px_if_eq rfl (fun _ => ?_) (fun h => absurd h (by decide))
      refine px_iconst (v := nI 0) rfl k_0 ?_
      refine px_callV0 CX11_refusalOfDay [] [.int _, .int _] (vX11_rd_0) rfl gS_0 (by decide) rfl rfl rfl (Nat.le_of_ble_eq_true rfl) (by decide) ?_
      rintro _ _ - ⟨rfl, rfl⟩
      refine px_ist4 rfl rfl (by decide) ?_
      refine px_iload rfl rfl ?_
      refine px_if_eq rfl (fun h => absurd h (by decide)) (fun _ => ?_)
      refine px_iload rfl rfl ?_
      refine px_ireturn rfl (.inl rfl) ?_
      exact PT_id (.inl ⟨fun h => ha h.1.2, rfl⟩)
  · refine px_if_eq rfl (fun _ => ?_) (fun h => absurd h (by decide))
    refine px_iconst (v := nI 0) rfl k_0 ?_
    refine px_callV0 CX11_refusalOfDay [] [.int _, .int _] (vX11_rd_0) rfl gS_0 (by decide) rfl rfl rfl (Nat.le_of_ble_eq_true rfl) (by decide) ?_
    rintro _ _ - ⟨rfl, rfl⟩
    refine px_ist4 rfl rfl (by decide) ?_
    refine px_iload rfl rfl ?_
    refine px_if_eq rfl (fun h => absurd h (by decide)) (fun _ => ?_)
    refine px_iload rfl rfl ?_
    refine px_ireturn rfl (.inl rfl) ?_
    exact PT_id (.inl ⟨fun h => hN h.1.1, rfl⟩)
theorem vX11_have {I : Nat → Nat → Int32} {J : Nat → Nat → Int64} {p : Bool × Option Nat} {ro : List (Nat × Nat × (Nat → Int32))} {tx : List Ln} {n : Nat} (hW : TW tx n p I) (hSH : ∀ s, s < 6 → ∃ z, z ≤ 60 ∧ I (53 + 2 * s) 4 = nI z) {x y w : Int32} : Pv 6 0 0 CX11_have [.ref (0), .int (x), .int (y), .int (w)] (gS, I, J, gR p, ro) (PT (DAY ((∃ N, N ≤ 60 ∧ y = nI N) ∧ (w = nI 0 ∨ w = nI 1)) x (fun s => I (53 + 2 * s) 1 = nI 0) (fun s => I (53 + 2 * s) 1 = nI 2 ∧ I (53 + 2 * s) 3 = nI 0) (fun s => if w = nI 0 then sp_bits (fun l => decide (I 3 l ≤ (sp_days tx n (I 5) (I 4) (I 1 6) (I 1 5) (fun j => (J (54 + 2 * s) j).toInt32) (mN (I (53 + 2 * s) 4)) (wiC (-1)) (mN y) (D0 (I 2))).1 l)) n else (sp_days tx n (I 5) (I 4) (I 1 6) (I 1 5) (fun j => (J (54 + 2 * s) j).toInt32) (mN (I (53 + 2 * s) 4)) (wiC (-1)) (mN y) (D0 (I 2))).2.2.2.1)) I J p ro) := by
  refine ⟨okCX11_have, Nat.le_of_ble_eq_true rfl, (show Px _ _ _ _ 0 [some (.ref (0)), some (.int (x)), some (.int (y)), some (.int (w)), none] [] _ _ from ?_)⟩
  refine px_aload_n (kk := 0) rfl rfl rfl ?_
  refine px_iload_n (kk := 1) rfl rfl rfl ?_
  refine px_iload_n (kk := 2) rfl rfl rfl ?_
  refine px_callS0 CX11_isHours [.int _, .ref 0] [.int _] (vX11_isHours) rfl rfl rfl (Nat.le_of_ble_eq_true rfl) (by decide) ?_
  rintro _ _ - (⟨⟨N, hN, rfl⟩, rfl, rfl⟩ | ⟨hN, rfl, rfl⟩)
  · refine px_if_eq rfl (fun h => absurd h (by decide)) (fun _ => ?_)
    refine px_iload_n (kk := 3) rfl rfl rfl ?_
    refine px_callS0 CX11_isEither [.int _, .ref 0] [.int _] (vX11_isEither) rfl rfl rfl (Nat.le_of_ble_eq_true rfl) (by decide) ?_
    rintro _ _ - (⟨hei, rfl, rfl⟩ | ⟨hei, rfl, rfl⟩)
    · refine px_if_eq rfl (fun h => absurd h (by decide)) (fun _ => ?_)
      refine px_iconst (v := nI 1) rfl k_1 ?_
      refine px_goto rfl ?_
      refine px_callV0 CX11_refusalOfDay [] [.int _, .int _] (vX11_rd_1) rfl gS_0 (by decide) rfl rfl rfl (Nat.le_of_ble_eq_true rfl) (by decide) ?_
      rintro _ _ - (⟨hn6, rfl, rfl⟩ | ⟨s, hs, rfl, he, rfl, rfl⟩ | ⟨s, hs, rfl, he, hb, rfl, rfl⟩ | ⟨s, hs, rfl, he, hb, rfl, rfl⟩)
      · refine px_ist4 rfl rfl (by decide) ?_
        refine px_iload rfl rfl ?_
        refine px_if_eq rfl (fun h => absurd h (by decide)) (fun _ => ?_)
        refine px_iload rfl rfl ?_
        refine px_ireturn rfl (.inl rfl) ?_
        exact PT_id (.inl ⟨fun h => hn6 h.2, rfl⟩)
      · refine px_ist4 rfl rfl (by decide) ?_
        refine px_iload rfl rfl ?_
        refine px_if_eq rfl (fun h => absurd h (by decide)) (fun _ => ?_)
        refine px_iload rfl rfl ?_
        refine px_ireturn rfl (.inl rfl) ?_
        exact PT_id (.inr ⟨s, hs, rfl, ⟨⟨N, hN, rfl⟩, hei⟩, .inl ⟨he, rfl⟩⟩)
      · obtain ⟨z, hz60, hz⟩ := hSH s hs
        refine px_ist4 rfl rfl (by decide) ?_
        refine px_iload rfl rfl ?_
        refine px_if_eq rfl (fun _ => ?_) (fun h => absurd h (by decide))
        refine px_aload_n (kk := 0) rfl rfl rfl ?_
        refine px_getR (r := 15) rfl gS_0 rfl (gR_0_3 _) ?_
        refine px_aload_n (kk := 0) rfl rfl rfl ?_
        refine px_getR (r := 52) rfl gS_0 rfl (gR_0_9 _) ?_
        refine px_iload_n (kk := 1) rfl rfl rfl ?_
        refine px_aald (j := s) (r := 53 + 2 * s) rfl gS_52 rfl hs (gR_52v hs _) ?_
        refine px_iload_n (kk := 2) rfl rfl rfl ?_
        refine px_callV0 CX8_spend [] [.ref _, .int _] (vX8_spend hW hs hz hz60 hN) rfl gS_15 (by decide) rfl rfl rfl (Nat.le_of_ble_eq_true rfl) (by decide) ?_
        rintro _ _ - ⟨rfl, I2, rfl, hF2, hK2, hD, hWt⟩
        have hn8 := hW.2.2.1
        refine px_iload_n (kk := 3) rfl rfl rfl ?_
        refine px_if_ne rfl (fun c26 => ?_) (fun c26 => ?_)
        · refine px_aload_n (kk := 0) rfl rfl rfl ?_
          refine px_getR (r := 15) rfl gS_0 rfl (gR_0_3 _) ?_
          refine px_getI rfl gS_15 rfl ?_
          refine px_ireturn rfl (.inl rfl) ?_
          exact PT_mk (cs := c8) (.inr ⟨s, hs, rfl, ⟨⟨N, hN, rfl⟩, hei⟩, .inr (.inl ⟨he, hb, by dsimp only; rw [if_neg (fun e => c26 (by rw [n_0]; exact e)), mN_n (by omega), hz, mN_n (by omega)]; exact hD.2.2.2.2.1⟩)⟩) hF2 hK2 (by decide)
        · refine px_aload_n (kk := 0) rfl rfl rfl ?_
          refine px_getR (r := 1) rfl gS_0 rfl (gR_0_0 _) ?_
          refine px_aload_n (kk := 0) rfl rfl rfl ?_
          refine px_getR (r := 15) rfl gS_0 rfl (gR_0_3 _) ?_
          refine px_getR (r := 22) rfl gS_15 rfl (gR_15_4 _) ?_
          refine px_callV0 CX9_content [] [.ref 22] (vX9_content ((congrFun (hF2 1 (by decide)) 4).trans hW.2.1) hn8 22 rfl) rfl gS_1 (by decide) rfl rfl rfl (Nat.le_of_ble_eq_true rfl) (by decide) ?_
          rintro _ _ - ⟨rfl, rfl⟩
          refine px_goto rfl ?_
          refine px_ireturn rfl (.inl rfl) ?_
          exact PT_mk (cs := c8) (.inr ⟨s, hs, rfl, ⟨⟨N, hN, rfl⟩, hei⟩, .inr (.inl ⟨he, hb, by dsimp only; rw [if_pos (show w = nI 0 by rw [← n_0]; first | exact c26 | exact Classical.byContradiction c26), mN_n (by omega), hz, mN_n (by omega), hF2 3 (by decide)]; exact sp_bits_congr (fun l hl => by rw [hD.1 l hl])⟩)⟩) hF2 hK2 (by decide)
      · refine px_ist4 rfl rfl (by decide) ?_
        refine px_iload rfl rfl ?_
        refine px_if_eq rfl (fun h => absurd h (by decide)) (fun _ => ?_)
        refine px_iload rfl rfl ?_
        refine px_ireturn rfl (.inl rfl) ?_
        exact PT_id (.inr ⟨s, hs, rfl, ⟨⟨N, hN, rfl⟩, hei⟩, .inr (.inr ⟨he, hb, rfl⟩)⟩)
    · refine px_if_eq rfl (fun _ => ?_) (fun h => absurd h (by decide))
      refine px_iconst (v := nI 0) rfl k_0 ?_
      refine px_callV0 CX11_refusalOfDay [] [.int _, .int _] (vX11_rd_0) rfl gS_0 (by decide) rfl rfl rfl (Nat.le_of_ble_eq_true rfl) (by decide) ?_
      rintro _ _ - ⟨rfl, rfl⟩
      refine px_ist4 rfl rfl (by decide) ?_
      refine px_iload rfl rfl ?_
      refine px_if_eq rfl (fun h => absurd h (by decide)) (fun _ => ?_)
      refine px_iload rfl rfl ?_
      refine px_ireturn rfl (.inl rfl) ?_
      exact PT_id (.inl ⟨fun h => hei h.1.2, rfl⟩)
  · refine px_if_eq rfl (fun _ => ?_) (fun h => absurd h (by decide))
    refine px_iconst (v := nI 0) rfl k_0 ?_
    refine px_callV0 CX11_refusalOfDay [] [.int _, .int _] (vX11_rd_0) rfl gS_0 (by decide) rfl rfl rfl (Nat.le_of_ble_eq_true rfl) (by decide) ?_
    rintro _ _ - ⟨rfl, rfl⟩
    refine px_ist4 rfl rfl (by decide) ?_
    refine px_iload rfl rfl ?_
    refine px_if_eq rfl (fun h => absurd h (by decide)) (fun _ => ?_)
    refine px_iload rfl rfl ?_
    refine px_ireturn rfl (.inl rfl) ?_
    exact PT_id (.inl ⟨fun h => hN h.1.1, rfl⟩)
theorem vX11_through {I : Nat → Nat → Int32} {J : Nat → Nat → Int64} {p : Bool × Option Nat} {ro : List (Nat × Nat × (Nat → Int32))} {tx : List Ln} {n : Nat} (hW : TW tx n p I) (hSH : ∀ s, s < 6 → ∃ z, z ≤ 60 ∧ I (53 + 2 * s) 4 = nI z) {x y w : Int32} : Pv 6 0 0 CX11_through [.ref (0), .int (x), .int (y), .int (w)] (gS, I, J, gR p, ro) (PT (DAY ((∃ N, N ≤ 60 ∧ y = nI N) ∧ ∃ a b, a < n ∧ b < n ∧ a ≠ b ∧ w = nI (10 * a + b)) x (fun s => I (53 + 2 * s) 1 = nI 0) (fun s => I (53 + 2 * s) 1 = nI 2 ∧ I (53 + 2 * s) 3 = nI 0) (fun s => if (sp_days tx n (I 5) (I 4) (I 1 6) (I 1 5) (fun j => (J (54 + 2 * s) j).toInt32) (mN (I (53 + 2 * s) 4)) (wiC (-1)) (mN y) (D0 (I 2))).2.1 (mN w / 10) = nI (mN w % 10) then (sp_days tx n (I 5) (I 4) (I 1 6) (I 1 5) (fun j => (J (54 + 2 * s) j).toInt32) (mN (I (53 + 2 * s) 4)) (wiC (-1)) (mN y) (D0 (I 2))).2.2.1 (mN w / 10) else nI 0)) I J p ro) := by
  refine ⟨okCX11_through, Nat.le_of_ble_eq_true rfl, (show Px _ _ _ _ 0 [some (.ref (0)), some (.int (x)), some (.int (y)), some (.int (w)), none] [] _ _ from ?_)⟩
  refine px_aload_n (kk := 0) rfl rfl rfl ?_
  refine px_iload_n (kk := 1) rfl rfl rfl ?_
  refine px_iload_n (kk := 2) rfl rfl rfl ?_
  refine px_callS0 CX11_isHours [.int _, .ref 0] [.int _] (vX11_isHours) rfl rfl rfl (Nat.le_of_ble_eq_true rfl) (by decide) ?_
  rintro _ _ - (⟨⟨N, hN, rfl⟩, rfl, rfl⟩ | ⟨hN, rfl, rfl⟩)
  · refine px_if_eq rfl (fun h => absurd h (by decide)) (fun _ => ?_)
    refine px_aload_n (kk := 0) rfl rfl rfl ?_
    refine px_getR (r := 1) rfl gS_0 rfl (gR_0_0 _) ?_
    refine px_iload_n (kk := 3) rfl rfl rfl ?_
    refine px_callV0 CX9_isPair [.int _, .ref 0] [.int _] (vX9_isPair hW.2.1 hW.2.2.1) rfl gS_1 (by decide) rfl rfl rfl (Nat.le_of_ble_eq_true rfl) (by decide) ?_
    rintro _ _ - (⟨⟨a, b, ha, hbn, hne, rfl⟩, rfl, rfl⟩ | ⟨ha, rfl, rfl⟩)
    · refine px_if_eq rfl (fun h => absurd h (by decide)) (fun _ => ?_)
      refine px_iconst (v := nI 1) rfl k_1 ?_
      refine px_goto rfl ?_
      refine px_callV0 CX11_refusalOfDay [] [.int _, .int _] (vX11_rd_1) rfl gS_0 (by decide) rfl rfl rfl (Nat.le_of_ble_eq_true rfl) (by decide) ?_
      rintro _ _ - (⟨hn6, rfl, rfl⟩ | ⟨s, hs, rfl, he, rfl, rfl⟩ | ⟨s, hs, rfl, he, hb, rfl, rfl⟩ | ⟨s, hs, rfl, he, hb, rfl, rfl⟩)
      · refine px_ist4 rfl rfl (by decide) ?_
        refine px_iload rfl rfl ?_
        refine px_if_eq rfl (fun h => absurd h (by decide)) (fun _ => ?_)
        refine px_iload rfl rfl ?_
        refine px_ireturn rfl (.inl rfl) ?_
        exact PT_id (.inl ⟨fun h => hn6 h.2, rfl⟩)
      · refine px_ist4 rfl rfl (by decide) ?_
        refine px_iload rfl rfl ?_
        refine px_if_eq rfl (fun h => absurd h (by decide)) (fun _ => ?_)
        refine px_iload rfl rfl ?_
        refine px_ireturn rfl (.inl rfl) ?_
        exact PT_id (.inr ⟨s, hs, rfl, ⟨⟨N, hN, rfl⟩, a, b, ha, hbn, hne, rfl⟩, .inl ⟨he, rfl⟩⟩)
      · obtain ⟨z, hz60, hz⟩ := hSH s hs
        refine px_ist4 rfl rfl (by decide) ?_
        refine px_iload rfl rfl ?_
        refine px_if_eq rfl (fun _ => ?_) (fun h => absurd h (by decide))
        refine px_aload_n (kk := 0) rfl rfl rfl ?_
        refine px_getR (r := 15) rfl gS_0 rfl (gR_0_3 _) ?_
        refine px_aload_n (kk := 0) rfl rfl rfl ?_
        refine px_getR (r := 52) rfl gS_0 rfl (gR_0_9 _) ?_
        refine px_iload_n (kk := 1) rfl rfl rfl ?_
        refine px_aald (j := s) (r := 53 + 2 * s) rfl gS_52 rfl hs (gR_52v hs _) ?_
        refine px_iload_n (kk := 2) rfl rfl rfl ?_
        refine px_callV0 CX8_spend [] [.ref _, .int _] (vX8_spend hW hs hz hz60 hN) rfl gS_15 (by decide) rfl rfl rfl (Nat.le_of_ble_eq_true rfl) (by decide) ?_
        rintro _ _ - ⟨rfl, I2, rfl, hF2, hK2, hD, hWt⟩
        have hn8 := hW.2.2.1
        refine px_aload_n (kk := 0) rfl rfl rfl ?_
        refine px_getR (r := 15) rfl gS_0 rfl (gR_0_3 _) ?_
        refine px_getR (r := 16) rfl gS_15 rfl (gR_15_2 _) ?_
        
        refine px_iload_n (kk := 3) rfl rfl rfl ?_
        refine px_bipush (v := nI 10) rfl b_10 ?_
        refine px_idivN rfl (by decide) (by decide) (by omega) ?_
        refine px_iload_n (kk := 3) rfl rfl rfl ?_
        refine px_bipush (v := nI 10) rfl b_10 ?_
        refine px_iremN rfl (by decide) (by decide) (by omega) ?_
        refine px_callV0 CX6_hoursOf [] [.int _, .int _] (vX6_hoursOf PG_th (a := (10 * a + b) / 10) (by omega)) rfl gS_16 (by decide) rfl rfl rfl (Nat.le_of_ble_eq_true rfl) (by decide) ?_
        rintro _ _ - ⟨rfl, rfl⟩
        refine px_ireturn rfl (.inl rfl) ?_
        exact PT_mk (cs := c8) (.inr ⟨s, hs, rfl, ⟨⟨N, hN, rfl⟩, a, b, ha, hbn, hne, rfl⟩, .inr (.inl ⟨he, hb, by dsimp only; rw [mN_n (by omega), mN_n (by omega), hz, mN_n (by omega), hD.2.1 _ (by omega), hD.2.2.2.1 _ (by omega)]⟩)⟩) hF2 hK2 (by decide)
      · refine px_ist4 rfl rfl (by decide) ?_
        refine px_iload rfl rfl ?_
        refine px_if_eq rfl (fun h => absurd h (by decide)) (fun _ => ?_)
        refine px_iload rfl rfl ?_
        refine px_ireturn rfl (.inl rfl) ?_
        exact PT_id (.inr ⟨s, hs, rfl, ⟨⟨N, hN, rfl⟩, a, b, ha, hbn, hne, rfl⟩, .inr (.inr ⟨he, hb, rfl⟩)⟩)
    · refine px_if_eq rfl (fun _ => ?_) (fun h => absurd h (by decide))
      refine px_iconst (v := nI 0) rfl k_0 ?_
      refine px_callV0 CX11_refusalOfDay [] [.int _, .int _] (vX11_rd_0) rfl gS_0 (by decide) rfl rfl rfl (Nat.le_of_ble_eq_true rfl) (by decide) ?_
      rintro _ _ - ⟨rfl, rfl⟩
      refine px_ist4 rfl rfl (by decide) ?_
      refine px_iload rfl rfl ?_
      refine px_if_eq rfl (fun h => absurd h (by decide)) (fun _ => ?_)
      refine px_iload rfl rfl ?_
      refine px_ireturn rfl (.inl rfl) ?_
      exact PT_id (.inl ⟨fun h => ha h.1.2, rfl⟩)
  · refine px_if_eq rfl (fun _ => ?_) (fun h => absurd h (by decide))
    refine px_iconst (v := nI 0) rfl k_0 ?_
    refine px_callV0 CX11_refusalOfDay [] [.int _, .int _] (vX11_rd_0) rfl gS_0 (by decide) rfl rfl rfl (Nat.le_of_ble_eq_true rfl) (by decide) ?_
    rintro _ _ - ⟨rfl, rfl⟩
    refine px_ist4 rfl rfl (by decide) ?_
    refine px_iload rfl rfl ?_
    refine px_if_eq rfl (fun h => absurd h (by decide)) (fun _ => ?_)
    refine px_iload rfl rfl ?_
    refine px_ireturn rfl (.inl rfl) ?_
    exact PT_id (.inl ⟨fun h => hN h.1.1, rfl⟩)
theorem sp_seek_f {aim n : Nat} {tx : List Ln} {L P N W : Nat → Int32} {co : Int32} {z : Nat} {E : Nat → Int32} {c : Nat} (hn : n ≤ 8) : (sp_seek aim n tx L P N W co z E c).2.2.1 < 2 ^ 31 := by
  have h := sp_go_f (V := sp_vis aim n L N z E (fun M => sp_nx tx n L P co W M (fun _ => nI 0))) hn (fun M v => sp_vis_f M v) n c n1 v0 (Nat.le_refl n)
  exact Nat.lt_of_le_of_lt h (pow8 n hn)
/-- what is answered where the question is as said, and where it is not -/
def ASK (b : Int32) (P : Prop) (V r : Int32) : Prop := (¬ P ∧ r = b) ∨ (P ∧ r = V)
theorem ASK_fn {b : Int32} {P P' : Prop} {V V' r r' : Int32} (h : ASK b P V r) (h' : ASK b P' V' r') (hP : P ↔ P') (hV : P → V = V') : r = r' := by
  rcases h with ⟨h1, rfl⟩ | ⟨h1, rfl⟩
  · rcases h' with ⟨h2, rfl⟩ | ⟨h2, rfl⟩
    · rfl
    · exact absurd (hP.mpr h2) h1
  · rcases h' with ⟨h2, rfl⟩ | ⟨h2, rfl⟩
    · exact absurd (hP.mp h1) h2
    · exact hV h1
/-- who lacks most -/
def sp_first (N W : Nat → Int32) : Nat → Int32 × Int32
  | 0 => (-2, nI 0)
  | k + 1 => if (sp_first N W k).2 < N k - W k then (nI k, N k - W k) else sp_first N W k
theorem div_neg {x : Int32} (h : x < 0) : x / nI 100 < nI 1 := by
  have h1 : x.toInt < 0 := by rw [i_lt, i_0] at h; exact h
  rw [i_lt, Int32.toInt_div, nI_toInt (by decide), nI_toInt (by decide)]
  have h2 := Int32.le_toInt x
  have h3 : x.toInt.tdiv 100 ≤ 0 := by
    have := Int.tdiv_eq_ediv (a := x.toInt) (b := 100)
    rw [this]
    split
    · omega
    · simp only [Int.sign]; omega
  have h4 : -2 ^ 31 ≤ x.toInt.tdiv 100 := by
    have := Int.tdiv_eq_ediv (a := x.toInt) (b := 100)
    rw [this]
    split
    · omega
    · simp only [Int.sign]; omega
  have e : ((100 : Nat) : Int) = 100 := rfl
  rw [e, Int.bmod_eq_of_le (by omega) (by omega)]
  omega
theorem vX11_news {I : Nat → Nat → Int32} {J : Nat → Nat → Int64} {p : Bool × Option Nat} {ro : List (Nat × Nat × (Nat → Int32))} {tx : List Ln} {n : Nat} (hW : TW tx n p I) (hSH : ∀ s, s < 6 → ∃ z, z ≤ 60 ∧ I (53 + 2 * s) 4 = nI z) {x y w u : Int32} : Pv 6 0 0 CX11_news [.ref (0), .int (x), .int (y), .int (w), .int (u)] (gS, I, J, gR p, ro) (PT (DAY ((∃ N, N ≤ 60 ∧ y = nI N) ∧ (∃ a, a < n ∧ w = nI a) ∧ (u = -1 ∨ ∃ a, a < n ∧ u = nI a)) x (fun s => I (53 + 2 * s) 1 = nI 0) (fun s => I (53 + 2 * s) 1 = nI 2 ∧ I (53 + 2 * s) 3 = nI 0) (fun s => if u = -1 then nI (sp_news n (fun l => if nI l = -1 then nI 0 else I 4 l) (I 1 5) (fun j => (J (54 + 2 * s) j).toInt32) (mN (I (53 + 2 * s) 4)) (wiC (-1)) (mN w) (mN y)) else sp_hear (fun k => (sp_news n (fun l => if nI l = -1 then nI 0 else I 4 l) (I 1 5) (fun j => (J (54 + 2 * s) j).toInt32) (mN (I (53 + 2 * s) 4)) (wiC (-1)) (mN w) k)) (mN u) 60 0)) I J p ro) := by
  refine ⟨okCX11_news, Nat.le_of_ble_eq_true rfl, (show Px _ _ _ _ 0 [some (.ref (0)), some (.int (x)), some (.int (y)), some (.int (w)), some (.int (u)), none, none] [] _ _ from ?_)⟩
  refine px_iload_n (kk := 2) rfl rfl rfl ?_
  refine px_callS0 CX11_isHours [] [.int _] (vX11_isHours) rfl rfl rfl (Nat.le_of_ble_eq_true rfl) (by decide) ?_
  rintro _ _ - (⟨⟨N, hN, rfl⟩, rfl, rfl⟩ | ⟨hN, rfl, rfl⟩)
  · refine px_if_eq rfl (fun h => absurd h (by decide)) (fun _ => ?_)
    refine px_aload_n (kk := 0) rfl rfl rfl ?_
    refine px_getR (r := 1) rfl gS_0 rfl (gR_0_0 _) ?_
    refine px_iload_n (kk := 3) rfl rfl rfl ?_
    refine px_callV0 CX9_isLine [] [.int _] (vX9_isLine hW.2.1 hW.2.2.1) rfl gS_1 (by decide) rfl rfl rfl (Nat.le_of_ble_eq_true rfl) (by decide) ?_
    rintro _ _ - (⟨⟨a, ha, rfl⟩, rfl, rfl⟩ | ⟨ha, rfl, rfl⟩)
    · refine px_if_eq rfl (fun h => absurd h (by decide)) (fun _ => ?_)
      refine px_iload rfl rfl ?_
      refine px_iconst (v := -1) rfl k_m1 ?_
      refine px_icmp_eq rfl (fun c10 => ?_) (fun c10 => ?_)
      · refine px_iconst (v := nI 1) rfl k_1 ?_
        refine px_goto rfl ?_
        refine px_ist5 rfl rfl (by decide) ?_
        refine px_aload_n (kk := 0) rfl rfl rfl ?_
        refine px_iload_n (kk := 1) rfl rfl rfl ?_
        refine px_iload rfl rfl ?_
        refine px_callV0 CX11_refusalOfDay [] [.int _, .int _] (vX11_rd_1) rfl gS_0 (by decide) rfl rfl rfl (Nat.le_of_ble_eq_true rfl) (by decide) ?_
        rintro _ _ - (⟨hn6, rfl, rfl⟩ | ⟨s, hs, rfl, he, rfl, rfl⟩ | ⟨s, hs, rfl, he, hb, rfl, rfl⟩ | ⟨s, hs, rfl, he, hb, rfl, rfl⟩)
        · refine px_ist6 rfl rfl (by decide) ?_
          refine px_iload rfl rfl ?_
          refine px_if_eq rfl (fun h => absurd h (by decide)) (fun _ => ?_)
          refine px_iload rfl rfl ?_
          refine px_ireturn rfl (.inl rfl) ?_
          exact PT_id (.inl ⟨fun h => hn6 h.2, rfl⟩)
        · refine px_ist6 rfl rfl (by decide) ?_
          refine px_iload rfl rfl ?_
          refine px_if_eq rfl (fun h => absurd h (by decide)) (fun _ => ?_)
          refine px_iload rfl rfl ?_
          refine px_ireturn rfl (.inl rfl) ?_
          exact PT_id (.inr ⟨s, hs, rfl, ⟨⟨N, hN, rfl⟩, ⟨a, ha, rfl⟩, .inl c10⟩, .inl ⟨he, rfl⟩⟩)
        · obtain ⟨z, hz60, hz⟩ := hSH s hs
          refine px_ist6 rfl rfl (by decide) ?_
          refine px_iload rfl rfl ?_
          refine px_if_eq rfl (fun _ => ?_) (fun h => absurd h (by decide))
          refine px_iload rfl rfl ?_
          refine px_iconst (v := -1) rfl k_m1 ?_
          refine px_icmp_ne rfl (fun c31 => ?_) (fun c31 => ?_)
          · exact absurd c10 c31
          · refine px_aload_n (kk := 0) rfl rfl rfl ?_
            refine px_getR (r := 15) rfl gS_0 rfl (gR_0_3 _) ?_
            refine px_aload_n (kk := 0) rfl rfl rfl ?_
            refine px_getR (r := 52) rfl gS_0 rfl (gR_0_9 _) ?_
            refine px_iload_n (kk := 1) rfl rfl rfl ?_
            refine px_aald (j := s) (r := 53 + 2 * s) rfl gS_52 rfl hs (gR_52v hs _) ?_
            refine px_iload_n (kk := 2) rfl rfl rfl ?_
            refine px_iload_n (kk := 3) rfl rfl rfl ?_
            refine px_iconst (v := -1) rfl k_m1 ?_
            refine px_callV0 CX8_knowers [] [.ref _, .int _, .int _, .int _] (vX8_know hW.2.1 hW.2.2.1 hW.2.2.2.1 hW.2.2.2.2 hs hz hz60 (.inl rfl) ha hN) rfl gS_15 (by decide) rfl rfl rfl (Nat.le_of_ble_eq_true rfl) (by decide) ?_
            rintro _ _ - ⟨rfl, I2, rfl, hF2⟩
            have hn8 := hW.2.2.1
            refine px_ireturn rfl (.inl rfl) ?_
            exact PT_mk (cs := c9) (.inr ⟨s, hs, rfl, ⟨⟨N, hN, rfl⟩, ⟨a, ha, rfl⟩, .inl c10⟩, .inr (.inl ⟨he, hb, by dsimp only; rw [if_pos c10, mN_n (by omega), mN_n (by omega), hz, mN_n (by omega)]⟩)⟩) hF2 (K6_fr hF2 (by decide)) (by decide)
        · refine px_ist6 rfl rfl (by decide) ?_
          refine px_iload rfl rfl ?_
          refine px_if_eq rfl (fun h => absurd h (by decide)) (fun _ => ?_)
          refine px_iload rfl rfl ?_
          refine px_ireturn rfl (.inl rfl) ?_
          exact PT_id (.inr ⟨s, hs, rfl, ⟨⟨N, hN, rfl⟩, ⟨a, ha, rfl⟩, .inl c10⟩, .inr (.inr ⟨he, hb, rfl⟩)⟩)
      · refine px_aload_n (kk := 0) rfl rfl rfl ?_
        refine px_getR (r := 1) rfl gS_0 rfl (gR_0_0 _) ?_
        refine px_iload rfl rfl ?_
        refine px_callV0 CX9_isLine [] [.int _] (vX9_isLine hW.2.1 hW.2.2.1) rfl gS_1 (by decide) rfl rfl rfl (Nat.le_of_ble_eq_true rfl) (by decide) ?_
        rintro _ _ - (⟨⟨b, hb2, rfl⟩, rfl, rfl⟩ | ⟨hb2, rfl, rfl⟩)
        · refine px_if_eq rfl (fun h => absurd h (by decide)) (fun _ => ?_)
          refine px_iconst (v := nI 1) rfl k_1 ?_
          refine px_goto rfl ?_
          refine px_ist5 rfl rfl (by decide) ?_
          refine px_aload_n (kk := 0) rfl rfl rfl ?_
          refine px_iload_n (kk := 1) rfl rfl rfl ?_
          refine px_iload rfl rfl ?_
          refine px_callV0 CX11_refusalOfDay [] [.int _, .int _] (vX11_rd_1) rfl gS_0 (by decide) rfl rfl rfl (Nat.le_of_ble_eq_true rfl) (by decide) ?_
          rintro _ _ - (⟨hn6, rfl, rfl⟩ | ⟨s, hs, rfl, he, rfl, rfl⟩ | ⟨s, hs, rfl, he, hb, rfl, rfl⟩ | ⟨s, hs, rfl, he, hb, rfl, rfl⟩)
          · refine px_ist6 rfl rfl (by decide) ?_
            refine px_iload rfl rfl ?_
            refine px_if_eq rfl (fun h => absurd h (by decide)) (fun _ => ?_)
            refine px_iload rfl rfl ?_
            refine px_ireturn rfl (.inl rfl) ?_
            exact PT_id (.inl ⟨fun h => hn6 h.2, rfl⟩)
          · refine px_ist6 rfl rfl (by decide) ?_
            refine px_iload rfl rfl ?_
            refine px_if_eq rfl (fun h => absurd h (by decide)) (fun _ => ?_)
            refine px_iload rfl rfl ?_
            refine px_ireturn rfl (.inl rfl) ?_
            exact PT_id (.inr ⟨s, hs, rfl, ⟨⟨N, hN, rfl⟩, ⟨a, ha, rfl⟩, .inr ⟨b, hb2, rfl⟩⟩, .inl ⟨he, rfl⟩⟩)
          · obtain ⟨z, hz60, hz⟩ := hSH s hs
            refine px_ist6 rfl rfl (by decide) ?_
            refine px_iload rfl rfl ?_
            refine px_if_eq rfl (fun _ => ?_) (fun h => absurd h (by decide))
            refine px_iload rfl rfl ?_
            refine px_iconst (v := -1) rfl k_m1 ?_
            refine px_icmp_ne rfl (fun c31 => ?_) (fun c31 => ?_)
            · refine px_aload_n (kk := 0) rfl rfl rfl ?_
              refine px_getR (r := 15) rfl gS_0 rfl (gR_0_3 _) ?_
              refine px_aload_n (kk := 0) rfl rfl rfl ?_
              refine px_getR (r := 52) rfl gS_0 rfl (gR_0_9 _) ?_
              refine px_iload_n (kk := 1) rfl rfl rfl ?_
              refine px_aald (j := s) (r := 53 + 2 * s) rfl gS_52 rfl hs (gR_52v hs _) ?_
              refine px_iload_n (kk := 3) rfl rfl rfl ?_
              refine px_iload rfl rfl ?_
              refine px_callV0 CX8_hearsIn [] [.ref _, .int _, .int _] (vX8_hear hW.2.1 hW.2.2.1 hW.2.2.2.1 hW.2.2.2.2 hs hz hz60 ha hb2) rfl gS_15 (by decide) rfl rfl rfl (Nat.le_of_ble_eq_true rfl) (by decide) ?_
              rintro _ _ - ⟨rfl, I2, rfl, hF2⟩
              have hn8 := hW.2.2.1
              refine px_ireturn rfl (.inl rfl) ?_
              exact PT_mk (cs := c9) (.inr ⟨s, hs, rfl, ⟨⟨N, hN, rfl⟩, ⟨a, ha, rfl⟩, .inr ⟨b, hb2, rfl⟩⟩, .inr (.inl ⟨he, hb, by dsimp only; rw [if_neg c10, mN_n (by omega), mN_n (by omega), hz, mN_n (by omega)]⟩)⟩) hF2 (K6_fr hF2 (by decide)) (by decide)
            · exact absurd c31 c10
          · refine px_ist6 rfl rfl (by decide) ?_
            refine px_iload rfl rfl ?_
            refine px_if_eq rfl (fun h => absurd h (by decide)) (fun _ => ?_)
            refine px_iload rfl rfl ?_
            refine px_ireturn rfl (.inl rfl) ?_
            exact PT_id (.inr ⟨s, hs, rfl, ⟨⟨N, hN, rfl⟩, ⟨a, ha, rfl⟩, .inr ⟨b, hb2, rfl⟩⟩, .inr (.inr ⟨he, hb, rfl⟩)⟩)
        · refine px_if_eq rfl (fun _ => ?_) (fun h => absurd h (by decide))
          refine px_iconst (v := nI 0) rfl k_0 ?_
          refine px_ist5 rfl rfl (by decide) ?_
          refine px_aload_n (kk := 0) rfl rfl rfl ?_
          refine px_iload_n (kk := 1) rfl rfl rfl ?_
          refine px_iload rfl rfl ?_
          refine px_callV0 CX11_refusalOfDay [] [.int _, .int _] (vX11_rd_0) rfl gS_0 (by decide) rfl rfl rfl (Nat.le_of_ble_eq_true rfl) (by decide) ?_
          rintro _ _ - ⟨rfl, rfl⟩
          refine px_ist6 rfl rfl (by decide) ?_
          refine px_iload rfl rfl ?_
          refine px_if_eq rfl (fun h => absurd h (by decide)) (fun _ => ?_)
          refine px_iload rfl rfl ?_
          refine px_ireturn rfl (.inl rfl) ?_
          exact PT_id (.inl ⟨fun h => h.1.2.2.elim c10 hb2, rfl⟩)
    · refine px_if_eq rfl (fun _ => ?_) (fun h => absurd h (by decide))
      refine px_iconst (v := nI 0) rfl k_0 ?_
      refine px_ist5 rfl rfl (by decide) ?_
      refine px_aload_n (kk := 0) rfl rfl rfl ?_
      refine px_iload_n (kk := 1) rfl rfl rfl ?_
      refine px_iload rfl rfl ?_
      refine px_callV0 CX11_refusalOfDay [] [.int _, .int _] (vX11_rd_0) rfl gS_0 (by decide) rfl rfl rfl (Nat.le_of_ble_eq_true rfl) (by decide) ?_
      rintro _ _ - ⟨rfl, rfl⟩
      refine px_ist6 rfl rfl (by decide) ?_
      refine px_iload rfl rfl ?_
      refine px_if_eq rfl (fun h => absurd h (by decide)) (fun _ => ?_)
      refine px_iload rfl rfl ?_
      refine px_ireturn rfl (.inl rfl) ?_
      exact PT_id (.inl ⟨fun h => ha h.1.2.1, rfl⟩)
  · refine px_if_eq rfl (fun _ => ?_) (fun h => absurd h (by decide))
    refine px_iconst (v := nI 0) rfl k_0 ?_
    refine px_ist5 rfl rfl (by decide) ?_
    refine px_aload_n (kk := 0) rfl rfl rfl ?_
    refine px_iload_n (kk := 1) rfl rfl rfl ?_
    refine px_iload rfl rfl ?_
    refine px_callV0 CX11_refusalOfDay [] [.int _, .int _] (vX11_rd_0) rfl gS_0 (by decide) rfl rfl rfl (Nat.le_of_ble_eq_true rfl) (by decide) ?_
    rintro _ _ - ⟨rfl, rfl⟩
    refine px_ist6 rfl rfl (by decide) ?_
    refine px_iload rfl rfl ?_
    refine px_if_eq rfl (fun h => absurd h (by decide)) (fun _ => ?_)
    refine px_iload rfl rfl ?_
    refine px_ireturn rfl (.inl rfl) ?_
    exact PT_id (.inl ⟨fun h => hN h.1.1, rfl⟩)
theorem vX11_cut {I : Nat → Nat → Int32} {J : Nat → Nat → Int64} {p : Bool × Option Nat} {ro : List (Nat × Nat × (Nat → Int32))} {tx : List Ln} {n : Nat} (hW : TW tx n p I) (hSH : ∀ s, s < 6 → ∃ z, z ≤ 60 ∧ I (53 + 2 * s) 4 = nI z) {x y w : Int32} : Pv 7 0 0 CX11_cut [.ref (0), .int (x), .int (y), .int (w)] (gS, I, J, gR p, ro) (PT (DAY ((∃ N, N ≤ 60 ∧ y = nI N) ∧ ∃ a b, a < n ∧ b < n ∧ a ≠ b ∧ w = nI (10 * a + b)) x (fun s => I (53 + 2 * s) 1 = nI 0) (fun s => I (53 + 2 * s) 1 = nI 2 ∧ I (53 + 2 * s) 3 = nI 0) (fun s => if (sp_news n (fun l => if nI l = (-1) then nI 0 else I 4 l) (I 1 5) (fun j => (J (54 + 2 * s) j).toInt32) (mN (I (53 + 2 * s) 4)) (wiC (-1)) (mN w / 10) (mN y)).testBit (mN w % 10) = true then sp_bits (fun gg => decide (gg ≠ mN w / 10) && (decide (gg ≠ mN w % 10) && !((sp_news n (fun l => if nI l = (nI gg) then nI 0 else I 4 l) (I 1 5) (fun j => (J (54 + 2 * s) j).toInt32) (mN (I (53 + 2 * s) 4)) (wiC (nI gg)) (mN w / 10) (mN y)).testBit (mN w % 10)))) n else nI 0)) I J p ro) := by
  refine ⟨okCX11_cut, Nat.le_of_ble_eq_true rfl, (show Px _ _ _ _ 0 [some (.ref (0)), some (.int (x)), some (.int (y)), some (.int (w)), none] [] _ _ from ?_)⟩
  refine px_aload_n (kk := 0) rfl rfl rfl ?_
  refine px_iload_n (kk := 1) rfl rfl rfl ?_
  refine px_iload_n (kk := 2) rfl rfl rfl ?_
  refine px_callS0 CX11_isHours [.int _, .ref 0] [.int _] (vX11_isHours) rfl rfl rfl (Nat.le_of_ble_eq_true rfl) (by decide) ?_
  rintro _ _ - (⟨⟨N, hN, rfl⟩, rfl, rfl⟩ | ⟨hN, rfl, rfl⟩)
  · refine px_if_eq rfl (fun h => absurd h (by decide)) (fun _ => ?_)
    refine px_aload_n (kk := 0) rfl rfl rfl ?_
    refine px_getR (r := 1) rfl gS_0 rfl (gR_0_0 _) ?_
    refine px_iload_n (kk := 3) rfl rfl rfl ?_
    refine px_callV0 CX9_isPair [.int _, .ref 0] [.int _] (vX9_isPair hW.2.1 hW.2.2.1) rfl gS_1 (by decide) rfl rfl rfl (Nat.le_of_ble_eq_true rfl) (by decide) ?_
    rintro _ _ - (⟨⟨a, b, ha, hbn, hne, rfl⟩, rfl, rfl⟩ | ⟨ha, rfl, rfl⟩)
    · refine px_if_eq rfl (fun h => absurd h (by decide)) (fun _ => ?_)
      refine px_iconst (v := nI 1) rfl k_1 ?_
      refine px_goto rfl ?_
      refine px_callV0 CX11_refusalOfDay [] [.int _, .int _] (vX11_rd_1) rfl gS_0 (by decide) rfl rfl rfl (Nat.le_of_ble_eq_true rfl) (by decide) ?_
      rintro _ _ - (⟨hn6, rfl, rfl⟩ | ⟨s, hs, rfl, he, rfl, rfl⟩ | ⟨s, hs, rfl, he, hb, rfl, rfl⟩ | ⟨s, hs, rfl, he, hb, rfl, rfl⟩)
      · refine px_ist4 rfl rfl (by decide) ?_
        refine px_iload rfl rfl ?_
        refine px_if_eq rfl (fun h => absurd h (by decide)) (fun _ => ?_)
        refine px_iload rfl rfl ?_
        refine px_ireturn rfl (.inl rfl) ?_
        exact PT_id (.inl ⟨fun h => hn6 h.2, rfl⟩)
      · refine px_ist4 rfl rfl (by decide) ?_
        refine px_iload rfl rfl ?_
        refine px_if_eq rfl (fun h => absurd h (by decide)) (fun _ => ?_)
        refine px_iload rfl rfl ?_
        refine px_ireturn rfl (.inl rfl) ?_
        exact PT_id (.inr ⟨s, hs, rfl, ⟨⟨N, hN, rfl⟩, a, b, ha, hbn, hne, rfl⟩, .inl ⟨he, rfl⟩⟩)
      · obtain ⟨z, hz60, hz⟩ := hSH s hs
        refine px_ist4 rfl rfl (by decide) ?_
        refine px_iload rfl rfl ?_
        refine px_if_eq rfl (fun _ => ?_) (fun h => absurd h (by decide))
        refine px_aload_n (kk := 0) rfl rfl rfl ?_
        refine px_getR (r := 15) rfl gS_0 rfl (gR_0_3 _) ?_
        refine px_aload_n (kk := 0) rfl rfl rfl ?_
        refine px_getR (r := 52) rfl gS_0 rfl (gR_0_9 _) ?_
        refine px_iload_n (kk := 1) rfl rfl rfl ?_
        refine px_aald (j := s) (r := 53 + 2 * s) rfl gS_52 rfl hs (gR_52v hs _) ?_
        refine px_iload_n (kk := 2) rfl rfl rfl ?_
        have hn8 := hW.2.2.1
        refine px_iload_n (kk := 3) rfl rfl rfl ?_
        refine px_bipush (v := nI 10) rfl b_10 ?_
        refine px_idivN rfl (by decide) (by decide) (by omega) ?_
        refine px_iload_n (kk := 3) rfl rfl rfl ?_
        refine px_bipush (v := nI 10) rfl b_10 ?_
        refine px_iremN rfl (by decide) (by decide) (by omega) ?_
        refine px_callV0 CX8_keepers [] [.ref _, .int _, .int _, .int _] (vX8_keep hW.2.1 hW.2.2.1 hW.2.2.2.1 hW.2.2.2.2 hs hz hz60 (one := (10 * a + b) / 10) (other := (10 * a + b) % 10) (by omega) (by omega) hN) rfl gS_15 (by decide) rfl rfl rfl (Nat.le_of_ble_eq_true rfl) (by decide) ?_
        rintro _ _ - ⟨rfl, I2, rfl, hF2⟩
        refine px_ireturn rfl (.inl rfl) ?_
        exact PT_mk (cs := c9) (.inr ⟨s, hs, rfl, ⟨⟨N, hN, rfl⟩, a, b, ha, hbn, hne, rfl⟩, .inr (.inl ⟨he, hb, by dsimp only; rw [mN_n (by omega), mN_n (by omega), hz, mN_n (by omega)]⟩)⟩) hF2 (K6_fr hF2 (by decide)) (by decide)
      · refine px_ist4 rfl rfl (by decide) ?_
        refine px_iload rfl rfl ?_
        refine px_if_eq rfl (fun h => absurd h (by decide)) (fun _ => ?_)
        refine px_iload rfl rfl ?_
        refine px_ireturn rfl (.inl rfl) ?_
        exact PT_id (.inr ⟨s, hs, rfl, ⟨⟨N, hN, rfl⟩, a, b, ha, hbn, hne, rfl⟩, .inr (.inr ⟨he, hb, rfl⟩)⟩)
    · refine px_if_eq rfl (fun _ => ?_) (fun h => absurd h (by decide))
      refine px_iconst (v := nI 0) rfl k_0 ?_
      refine px_callV0 CX11_refusalOfDay [] [.int _, .int _] (vX11_rd_0) rfl gS_0 (by decide) rfl rfl rfl (Nat.le_of_ble_eq_true rfl) (by decide) ?_
      rintro _ _ - ⟨rfl, rfl⟩
      refine px_ist4 rfl rfl (by decide) ?_
      refine px_iload rfl rfl ?_
      refine px_if_eq rfl (fun h => absurd h (by decide)) (fun _ => ?_)
      refine px_iload rfl rfl ?_
      refine px_ireturn rfl (.inl rfl) ?_
      exact PT_id (.inl ⟨fun h => ha h.1.2, rfl⟩)
  · refine px_if_eq rfl (fun _ => ?_) (fun h => absurd h (by decide))
    refine px_iconst (v := nI 0) rfl k_0 ?_
    refine px_callV0 CX11_refusalOfDay [] [.int _, .int _] (vX11_rd_0) rfl gS_0 (by decide) rfl rfl rfl (Nat.le_of_ble_eq_true rfl) (by decide) ?_
    rintro _ _ - ⟨rfl, rfl⟩
    refine px_ist4 rfl rfl (by decide) ?_
    refine px_iload rfl rfl ?_
    refine px_if_eq rfl (fun h => absurd h (by decide)) (fun _ => ?_)
    refine px_iload rfl rfl ?_
    refine px_ireturn rfl (.inl rfl) ?_
    exact PT_id (.inl ⟨fun h => hN h.1.1, rfl⟩)
theorem vX11_which {I : Nat → Nat → Int32} {J : Nat → Nat → Int64} {p : Bool × Option Nat} {ro : List (Nat × Nat × (Nat → Int32))} {tx : List Ln} {n : Nat} (hW : TW tx n p I) (hSH : ∀ s, s < 6 → ∃ z, z ≤ 60 ∧ I (53 + 2 * s) 4 = nI z) {x y : Int32} : Pv 16 0 0 CX11_which [.ref (0), .int (x), .int (y)] (gS, I, J, gR p, ro) (PT (DAY (¬ y < -1) x (fun s => I (53 + 2 * s) 1 = nI 0) (fun s => I (53 + 2 * s) 1 = nI 2 ∧ I (53 + 2 * s) 3 = nI 0) (fun s => if y = -1 then nI (sp_seek 3 n tx (I 5) (I 4) (I 3) (I 2) (I 1 6) (mN (I (53 + 2 * s) 4)) (fun j => (J (54 + 2 * s) j).toInt32) (mN (I 1 5))).2.2.1 else sp_pair (sp_seek 3 n tx (I 5) (I 4) (I 3) (I 2) (I 1 6) (mN (I (53 + 2 * s) 4)) (fun j => (J (54 + 2 * s) j).toInt32) (mN (I 1 5))).1 y n 0 0)) I J p ro) := by
  refine ⟨okCX11_which, Nat.le_of_ble_eq_true rfl, (show Px _ _ _ _ 0 [some (.ref (0)), some (.int (x)), some (.int (y)), none] [] _ _ from ?_)⟩
  refine px_aload_n (kk := 0) rfl rfl rfl ?_
  refine px_iload_n (kk := 1) rfl rfl rfl ?_
  refine px_iload_n (kk := 2) rfl rfl rfl ?_
  refine px_iconst (v := -1) rfl k_m1 ?_
  refine px_icmp_lt rfl (fun c4 => ?_) (fun c4 => ?_)
  · refine px_iconst (v := nI 0) rfl k_0 ?_
    refine px_callV0 CX11_refusalOfDay [] [.int _, .int _] (vX11_rd_0) rfl gS_0 (by decide) rfl rfl rfl (Nat.le_of_ble_eq_true rfl) (by decide) ?_
    rintro _ _ - ⟨rfl, rfl⟩
    refine px_ist3 rfl rfl (by decide) ?_
    refine px_iload_n (kk := 3) rfl rfl rfl ?_
    refine px_if_eq rfl (fun h => absurd h (by decide)) (fun _ => ?_)
    refine px_iload_n (kk := 3) rfl rfl rfl ?_
    refine px_ireturn rfl (.inl rfl) ?_
    exact PT_id (.inl ⟨fun h => h.1 c4, rfl⟩)
  · refine px_iconst (v := nI 1) rfl k_1 ?_
    refine px_goto rfl ?_
    refine px_callV0 CX11_refusalOfDay [] [.int _, .int _] (vX11_rd_1) rfl gS_0 (by decide) rfl rfl rfl (Nat.le_of_ble_eq_true rfl) (by decide) ?_
    rintro _ _ - (⟨hn6, rfl, rfl⟩ | ⟨s, hs, rfl, he, rfl, rfl⟩ | ⟨s, hs, rfl, he, hb, rfl, rfl⟩ | ⟨s, hs, rfl, he, hb, rfl, rfl⟩)
    · refine px_ist3 rfl rfl (by decide) ?_
      refine px_iload_n (kk := 3) rfl rfl rfl ?_
      refine px_if_eq rfl (fun h => absurd h (by decide)) (fun _ => ?_)
      refine px_iload_n (kk := 3) rfl rfl rfl ?_
      refine px_ireturn rfl (.inl rfl) ?_
      exact PT_id (.inl ⟨fun h => hn6 h.2, rfl⟩)
    · refine px_ist3 rfl rfl (by decide) ?_
      refine px_iload_n (kk := 3) rfl rfl rfl ?_
      refine px_if_eq rfl (fun h => absurd h (by decide)) (fun _ => ?_)
      refine px_iload_n (kk := 3) rfl rfl rfl ?_
      refine px_ireturn rfl (.inl rfl) ?_
      exact PT_id (.inr ⟨s, hs, rfl, c4, .inl ⟨he, rfl⟩⟩)
    · obtain ⟨z, hz60, hz⟩ := hSH s hs
      obtain ⟨cd, hcd4, hcd⟩ := hW.2.2.2.2
      have hn8 := hW.2.2.1
      refine px_ist3 rfl rfl (by decide) ?_
      refine px_iload_n (kk := 3) rfl rfl rfl ?_
      refine px_if_eq rfl (fun _ => ?_) (fun h => absurd h (by decide))
      refine px_aload_n (kk := 0) rfl rfl rfl ?_
      refine px_getR (r := 24) rfl gS_0 rfl (gR_0_4 _) ?_
      refine px_iconst (v := nI 3) rfl k_3 ?_
      refine px_aload_n (kk := 0) rfl rfl rfl ?_
      refine px_getR (r := 52) rfl gS_0 rfl (gR_0_9 _) ?_
      refine px_iload_n (kk := 1) rfl rfl rfl ?_
      refine px_aald (j := s) (r := 53 + 2 * s) rfl gS_52 rfl hs (gR_52v hs _) ?_
      refine px_callV0 CX10_seek [] [.int _, .ref _] (vX10_seek3 hW hs hz hz60 hcd hcd4) rfl gS_24 (by decide) rfl rfl rfl (Nat.le_of_ble_eq_true rfl) (by decide) ?_
      rintro _ _ - ⟨rfl, I2, rfl, hF2, hK2, hWC⟩
      obtain ⟨v, hv⟩ : ∃ v, v = (sp_seek 3 n tx (I 5) (I 4) (I 3) (I 2) (I 1 6) z (fun j => (J (54 + 2 * s) j).toInt32) cd) := ⟨_, rfl⟩
      rw [← hv] at hWC
      have hf31 : v.2.2.1 < 2 ^ 31 := by rw [hv]; exact sp_seek_f hn8
      have hn2 := (congrFun (hF2 1 (by decide)) 4).trans hW.2.1
      refine px_iload_n (kk := 2) rfl rfl rfl ?_
      refine px_iconst (v := -1) rfl k_m1 ?_
      refine px_icmp_ne rfl (fun c24 => ?_) (fun c24 => ?_)
      · refine px_aload_n (kk := 0) rfl rfl rfl ?_
        refine px_getR (r := 24) rfl gS_0 rfl (gR_0_4 _) ?_
        refine px_iload_n (kk := 2) rfl rfl rfl ?_
        refine px_callV0 CX10_pairOfFirst [] [.int _] (vX10_pair hn2 hn8) rfl gS_24 (by decide) rfl rfl rfl (Nat.le_of_ble_eq_true rfl) (by decide) ?_
        rintro _ _ - ⟨rfl, rfl⟩
        refine px_ireturn rfl (.inl rfl) ?_
        exact PT_mk (cs := csk) (.inr ⟨s, hs, rfl, c4, .inr (.inl ⟨he, hb, by dsimp only; rw [hz, hcd, mN_n (by omega), mN_n (by omega), ← hv]; rw [if_neg c24]; exact sp_pair_congr hWC.2.1 n 0 0 (by omega)⟩)⟩) hF2 hK2 (by decide)
      · refine px_aload_n (kk := 0) rfl rfl rfl ?_
        refine px_getR (r := 24) rfl gS_0 rfl (gR_0_4 _) ?_
        refine px_getI rfl gS_24 rfl ?_
        refine px_goto rfl ?_
        refine px_ireturn rfl (.inl rfl) ?_
        exact PT_mk (cs := csk) (.inr ⟨s, hs, rfl, c4, .inr (.inl ⟨he, hb, by dsimp only; rw [hz, hcd, mN_n (by omega), mN_n (by omega), ← hv]; rw [if_pos (by first | exact c24 | exact Classical.byContradiction c24)]; exact hWC.2.2.2.1⟩)⟩) hF2 hK2 (by decide)
    · refine px_ist3 rfl rfl (by decide) ?_
      refine px_iload_n (kk := 3) rfl rfl rfl ?_
      refine px_if_eq rfl (fun h => absurd h (by decide)) (fun _ => ?_)
      refine px_iload_n (kk := 3) rfl rfl rfl ?_
      refine px_ireturn rfl (.inl rfl) ?_
      exact PT_id (.inr ⟨s, hs, rfl, c4, .inr (.inr ⟨he, hb, rfl⟩)⟩)
theorem vX11_sure {I : Nat → Nat → Int32} {J : Nat → Nat → Int64} {p : Bool × Option Nat} {ro : List (Nat × Nat × (Nat → Int32))} {tx : List Ln} {n : Nat} (hW : TW tx n p I) (hSH : ∀ s, s < 6 → ∃ z, z ≤ 60 ∧ I (53 + 2 * s) 4 = nI z) {x : Int32} : Pv 16 0 0 CX11_sure [.ref (0), .int (x)] (gS, I, J, gR p, ro) (PT (DAY (True) x (fun s => I (53 + 2 * s) 1 = nI 0) (fun s => I (53 + 2 * s) 1 = nI 2 ∧ I (53 + 2 * s) 3 = nI 0) (fun s => sp_bits (fun l => decide (0 < (sp_seek 3 n tx (I 5) (I 4) (I 3) (I 2) (I 1 6) (mN (I (53 + 2 * s) 4)) (fun j => (J (54 + 2 * s) j).toInt32) (mN (I 1 5))).2.2.1) && decide ((sp_seek 3 n tx (I 5) (I 4) (I 3) (I 2) (I 1 6) (mN (I (53 + 2 * s) 4)) (fun j => (J (54 + 2 * s) j).toInt32) (mN (I 1 5))).2.1 l = nI (sp_seek 3 n tx (I 5) (I 4) (I 3) (I 2) (I 1 6) (mN (I (53 + 2 * s) 4)) (fun j => (J (54 + 2 * s) j).toInt32) (mN (I 1 5))).2.2.1)) n)) I J p ro) := by
  refine ⟨okCX11_sure, Nat.le_of_ble_eq_true rfl, (show Px _ _ _ _ 0 [some (.ref (0)), some (.int (x)), none] [] _ _ from ?_)⟩
  refine px_aload_n (kk := 0) rfl rfl rfl ?_
  refine px_iload_n (kk := 1) rfl rfl rfl ?_
  refine px_iconst (v := nI 1) rfl k_1 ?_
  refine px_callV0 CX11_refusalOfDay [] [.int _, .int _] (vX11_rd_1) rfl gS_0 (by decide) rfl rfl rfl (Nat.le_of_ble_eq_true rfl) (by decide) ?_
  rintro _ _ - (⟨hn6, rfl, rfl⟩ | ⟨s, hs, rfl, he, rfl, rfl⟩ | ⟨s, hs, rfl, he, hb, rfl, rfl⟩ | ⟨s, hs, rfl, he, hb, rfl, rfl⟩)
  · refine px_ist2 rfl rfl (by decide) ?_
    refine px_iload_n (kk := 2) rfl rfl rfl ?_
    refine px_if_eq rfl (fun h => absurd h (by decide)) (fun _ => ?_)
    refine px_iload_n (kk := 2) rfl rfl rfl ?_
    refine px_ireturn rfl (.inl rfl) ?_
    exact PT_id (.inl ⟨fun h => hn6 h.2, rfl⟩)
  · refine px_ist2 rfl rfl (by decide) ?_
    refine px_iload_n (kk := 2) rfl rfl rfl ?_
    refine px_if_eq rfl (fun h => absurd h (by decide)) (fun _ => ?_)
    refine px_iload_n (kk := 2) rfl rfl rfl ?_
    refine px_ireturn rfl (.inl rfl) ?_
    exact PT_id (.inr ⟨s, hs, rfl, trivial, .inl ⟨he, rfl⟩⟩)
  · obtain ⟨z, hz60, hz⟩ := hSH s hs
    obtain ⟨cd, hcd4, hcd⟩ := hW.2.2.2.2
    have hn8 := hW.2.2.1
    refine px_ist2 rfl rfl (by decide) ?_
    refine px_iload_n (kk := 2) rfl rfl rfl ?_
    refine px_if_eq rfl (fun _ => ?_) (fun h => absurd h (by decide))
    refine px_aload_n (kk := 0) rfl rfl rfl ?_
    refine px_getR (r := 24) rfl gS_0 rfl (gR_0_4 _) ?_
    refine px_iconst (v := nI 3) rfl k_3 ?_
    refine px_aload_n (kk := 0) rfl rfl rfl ?_
    refine px_getR (r := 52) rfl gS_0 rfl (gR_0_9 _) ?_
    refine px_iload_n (kk := 1) rfl rfl rfl ?_
    refine px_aald (j := s) (r := 53 + 2 * s) rfl gS_52 rfl hs (gR_52v hs _) ?_
    refine px_callV0 CX10_seek [] [.int _, .ref _] (vX10_seek3 hW hs hz hz60 hcd hcd4) rfl gS_24 (by decide) rfl rfl rfl (Nat.le_of_ble_eq_true rfl) (by decide) ?_
    rintro _ _ - ⟨rfl, I2, rfl, hF2, hK2, hWC⟩
    obtain ⟨v, hv⟩ : ∃ v, v = (sp_seek 3 n tx (I 5) (I 4) (I 3) (I 2) (I 1 6) z (fun j => (J (54 + 2 * s) j).toInt32) cd) := ⟨_, rfl⟩
    rw [← hv] at hWC
    have hf31 : v.2.2.1 < 2 ^ 31 := by rw [hv]; exact sp_seek_f hn8
    have hn2 := (congrFun (hF2 1 (by decide)) 4).trans hW.2.1
    refine px_aload_n (kk := 0) rfl rfl rfl ?_
    refine px_getR (r := 24) rfl gS_0 rfl (gR_0_4 _) ?_
    refine px_callV0 CX10_alwaysThrough [] [] (vX10_sure hn2 hn8 hWC.2.2.2.1 hf31) rfl gS_24 (by decide) rfl rfl rfl (Nat.le_of_ble_eq_true rfl) (by decide) ?_
    rintro _ _ - ⟨rfl, rfl⟩
    refine px_ireturn rfl (.inl rfl) ?_
    exact PT_mk (cs := csk) (.inr ⟨s, hs, rfl, trivial, .inr (.inl ⟨he, hb, by dsimp only; rw [hz, hcd, mN_n (by omega), mN_n (by omega), ← hv]; exact sp_bits_congr (fun l hl => by rw [hWC.2.2.1 l hl])⟩)⟩) hF2 hK2 (by decide)
  · refine px_ist2 rfl rfl (by decide) ?_
    refine px_iload_n (kk := 2) rfl rfl rfl ?_
    refine px_if_eq rfl (fun h => absurd h (by decide)) (fun _ => ?_)
    refine px_iload_n (kk := 2) rfl rfl rfl ?_
    refine px_ireturn rfl (.inl rfl) ?_
    exact PT_id (.inr ⟨s, hs, rfl, trivial, .inr (.inr ⟨he, hb, rfl⟩)⟩)
theorem vX11_lamp {I : Nat → Nat → Int32} {J : Nat → Nat → Int64} {p : Bool × Option Nat} {ro : List (Nat × Nat × (Nat → Int32))} {tx : List Ln} {n : Nat} (hW : TW tx n p I) (hSH : ∀ s, s < 6 → ∃ z, z ≤ 60 ∧ I (53 + 2 * s) 4 = nI z) {x : Int32} : Pv 16 0 0 CX11_lamp [.ref (0), .int (x)] (gS, I, J, gR p, ro) (PT (DAY (True) x (fun s => I (53 + 2 * s) 1 = nI 0) (fun s => I (53 + 2 * s) 1 = nI 2 ∧ I (53 + 2 * s) 3 = nI 0) (fun s => if 0 < (sp_seek 3 n tx (I 5) (I 4) (I 3) (I 2) (I 1 6) (mN (I (53 + 2 * s) 4)) (fun j => (J (54 + 2 * s) j).toInt32) (mN (I 1 5))).2.2.1 then (sp_lamp (sp_seek 3 n tx (I 5) (I 4) (I 3) (I 2) (I 1 6) (mN (I (53 + 2 * s) 4)) (fun j => (J (54 + 2 * s) j).toInt32) (mN (I 1 5))).2.1 (sp_seek 3 n tx (I 5) (I 4) (I 3) (I 2) (I 1 6) (mN (I (53 + 2 * s) 4)) (fun j => (J (54 + 2 * s) j).toInt32) (mN (I 1 5))).2.2.1 n).1 else -2)) I J p ro) := by
  refine ⟨okCX11_lamp, Nat.le_of_ble_eq_true rfl, (show Px _ _ _ _ 0 [some (.ref (0)), some (.int (x)), none] [] _ _ from ?_)⟩
  refine px_aload_n (kk := 0) rfl rfl rfl ?_
  refine px_iload_n (kk := 1) rfl rfl rfl ?_
  refine px_iconst (v := nI 1) rfl k_1 ?_
  refine px_callV0 CX11_refusalOfDay [] [.int _, .int _] (vX11_rd_1) rfl gS_0 (by decide) rfl rfl rfl (Nat.le_of_ble_eq_true rfl) (by decide) ?_
  rintro _ _ - (⟨hn6, rfl, rfl⟩ | ⟨s, hs, rfl, he, rfl, rfl⟩ | ⟨s, hs, rfl, he, hb, rfl, rfl⟩ | ⟨s, hs, rfl, he, hb, rfl, rfl⟩)
  · refine px_ist2 rfl rfl (by decide) ?_
    refine px_iload_n (kk := 2) rfl rfl rfl ?_
    refine px_if_eq rfl (fun h => absurd h (by decide)) (fun _ => ?_)
    refine px_iload_n (kk := 2) rfl rfl rfl ?_
    refine px_ireturn rfl (.inl rfl) ?_
    exact PT_id (.inl ⟨fun h => hn6 h.2, rfl⟩)
  · refine px_ist2 rfl rfl (by decide) ?_
    refine px_iload_n (kk := 2) rfl rfl rfl ?_
    refine px_if_eq rfl (fun h => absurd h (by decide)) (fun _ => ?_)
    refine px_iload_n (kk := 2) rfl rfl rfl ?_
    refine px_ireturn rfl (.inl rfl) ?_
    exact PT_id (.inr ⟨s, hs, rfl, trivial, .inl ⟨he, rfl⟩⟩)
  · obtain ⟨z, hz60, hz⟩ := hSH s hs
    obtain ⟨cd, hcd4, hcd⟩ := hW.2.2.2.2
    have hn8 := hW.2.2.1
    refine px_ist2 rfl rfl (by decide) ?_
    refine px_iload_n (kk := 2) rfl rfl rfl ?_
    refine px_if_eq rfl (fun _ => ?_) (fun h => absurd h (by decide))
    refine px_aload_n (kk := 0) rfl rfl rfl ?_
    refine px_getR (r := 24) rfl gS_0 rfl (gR_0_4 _) ?_
    refine px_iconst (v := nI 3) rfl k_3 ?_
    refine px_aload_n (kk := 0) rfl rfl rfl ?_
    refine px_getR (r := 52) rfl gS_0 rfl (gR_0_9 _) ?_
    refine px_iload_n (kk := 1) rfl rfl rfl ?_
    refine px_aald (j := s) (r := 53 + 2 * s) rfl gS_52 rfl hs (gR_52v hs _) ?_
    refine px_callV0 CX10_seek [] [.int _, .ref _] (vX10_seek3 hW hs hz hz60 hcd hcd4) rfl gS_24 (by decide) rfl rfl rfl (Nat.le_of_ble_eq_true rfl) (by decide) ?_
    rintro _ _ - ⟨rfl, I2, rfl, hF2, hK2, hWC⟩
    obtain ⟨v, hv⟩ : ∃ v, v = (sp_seek 3 n tx (I 5) (I 4) (I 3) (I 2) (I 1 6) z (fun j => (J (54 + 2 * s) j).toInt32) cd) := ⟨_, rfl⟩
    rw [← hv] at hWC
    have hf31 : v.2.2.1 < 2 ^ 31 := by rw [hv]; exact sp_seek_f hn8
    have hn2 := (congrFun (hF2 1 (by decide)) 4).trans hW.2.1
    refine px_aload_n (kk := 0) rfl rfl rfl ?_
    refine px_getR (r := 24) rfl gS_0 rfl (gR_0_4 _) ?_
    refine px_callV0 CX10_partsBest [] [] (vX10_lamp hn2 hn8 hWC.2.2.2.1 hf31) rfl gS_24 (by decide) rfl rfl rfl (Nat.le_of_ble_eq_true rfl) (by decide) ?_
    rintro _ _ - ⟨rfl, rfl⟩
    refine px_ireturn rfl (.inl rfl) ?_
    exact PT_mk (cs := csk) (.inr ⟨s, hs, rfl, trivial, .inr (.inl ⟨he, hb, by dsimp only; rw [hz, hcd, mN_n (by omega), mN_n (by omega), ← hv]; rw [sp_lamp_congr hWC.2.2.1]⟩)⟩) hF2 hK2 (by decide)
  · refine px_ist2 rfl rfl (by decide) ?_
    refine px_iload_n (kk := 2) rfl rfl rfl ?_
    refine px_if_eq rfl (fun h => absurd h (by decide)) (fun _ => ?_)
    refine px_iload_n (kk := 2) rfl rfl rfl ?_
    refine px_ireturn rfl (.inl rfl) ?_
    exact PT_id (.inr ⟨s, hs, rfl, trivial, .inr (.inr ⟨he, hb, rfl⟩)⟩)
theorem vX11_best {I : Nat → Nat → Int32} {J : Nat → Nat → Int64} {p : Bool × Option Nat} {ro : List (Nat × Nat × (Nat → Int32))} {tx : List Ln} {n : Nat} (hW : TW tx n p I) {w y : Int32} : Pv 16 0 0 CX11_best [.ref (0), .int (w), .int (y)] (gS, I, J, gR p, ro) (PT (ASK (-1) ((w = nI 0 ∨ w = nI 1) ∧ ¬ y < -1) (if y = -1 then (if w = nI 0 then (sp_seek 0 n tx (I 5) (I 4) (I 3) (I 2) (I 1 6) 0 (fun _ => nI 0) (mN (I 1 5))) else (sp_seek 1 n tx (I 5) (I 4) (I 3) (I 2) (I 1 6) 0 (fun _ => nI 0) (mN (I 1 5)))).2.2.2 else sp_pair (if w = nI 0 then (sp_seek 0 n tx (I 5) (I 4) (I 3) (I 2) (I 1 6) 0 (fun _ => nI 0) (mN (I 1 5))) else (sp_seek 1 n tx (I 5) (I 4) (I 3) (I 2) (I 1 6) 0 (fun _ => nI 0) (mN (I 1 5)))).1 y n 0 0)) I J p ro) := by
  refine ⟨okCX11_best, Nat.le_of_ble_eq_true rfl, (show Px _ _ _ _ 0 [some (.ref (0)), some (.int (w)), some (.int (y))] [] _ _ from ?_)⟩
  obtain ⟨cd, hcd4, hcd⟩ := hW.2.2.2.2
  have hn8 := hW.2.2.1
  refine px_iload_n (kk := 1) rfl rfl rfl ?_
  refine px_callS0 CX11_isEither [] [.int _] (vX11_isEither) rfl rfl rfl (Nat.le_of_ble_eq_true rfl) (by decide) ?_
  rintro _ _ - (⟨hei, rfl, rfl⟩ | ⟨hei, rfl, rfl⟩)
  · refine px_if_eq rfl (fun h => absurd h (by decide)) (fun _ => ?_)
    refine px_iload_n (kk := 2) rfl rfl rfl ?_
    refine px_iconst (v := -1) rfl k_m1 ?_
    refine px_icmp_ge rfl (fun c5 => ?_) (fun c5 => ?_)
    · refine px_aload_n (kk := 0) rfl rfl rfl ?_
      refine px_getR (r := 24) rfl gS_0 rfl (gR_0_4 _) ?_
      refine px_iload_n (kk := 1) rfl rfl rfl ?_
      refine px_if_ne rfl (fun c11 => ?_) (fun c11 => ?_)
      · refine px_iconst (v := nI 1) rfl k_1 ?_
        refine px_aconst_null rfl ?_
        refine px_callV0 CX10_seek [] [.int _, .null] (vX10_seek1 (z := 0) (E := fun _ => nI 0) hW hcd hcd4) rfl gS_24 (by decide) rfl rfl rfl (Nat.le_of_ble_eq_true rfl) (by decide) ?_
        rintro _ _ - ⟨rfl, I2, rfl, hF2, hK2, hWC⟩
        obtain ⟨v, hv⟩ : ∃ v, v = (sp_seek 1 n tx (I 5) (I 4) (I 3) (I 2) (I 1 6) 0 (fun _ => nI 0) cd) := ⟨_, rfl⟩
        rw [← hv] at hWC
        have hf31 : v.2.2.1 < 2 ^ 31 := by rw [hv]; exact sp_seek_f hn8
        have hn2 := (congrFun (hF2 1 (by decide)) 4).trans hW.2.1
        refine px_iload_n (kk := 2) rfl rfl rfl ?_
        refine px_iconst (v := -1) rfl k_m1 ?_
        refine px_icmp_ne rfl (fun c19 => ?_) (fun c19 => ?_)
        · refine px_aload_n (kk := 0) rfl rfl rfl ?_
          refine px_getR (r := 24) rfl gS_0 rfl (gR_0_4 _) ?_
          refine px_iload_n (kk := 2) rfl rfl rfl ?_
          refine px_callV0 CX10_pairOfFirst [] [.int _] (vX10_pair hn2 hn8) rfl gS_24 (by decide) rfl rfl rfl (Nat.le_of_ble_eq_true rfl) (by decide) ?_
          rintro _ _ - ⟨rfl, rfl⟩
          refine px_ireturn rfl (.inl rfl) ?_
          exact PT_mk (cs := csk) (.inr ⟨⟨hei, by rw [i_lt]; rw [i_le] at c5; omega⟩, by rw [hcd, mN_n (by omega), if_neg c19, if_neg (fun e => c11 (by rw [n_0]; exact e)), ← hv]; exact sp_pair_congr hWC.2.1 n 0 0 (by omega)⟩) hF2 hK2 (by decide)
        · refine px_aload_n (kk := 0) rfl rfl rfl ?_
          refine px_getR (r := 24) rfl gS_0 rfl (gR_0_4 _) ?_
          refine px_getI rfl gS_24 rfl ?_
          refine px_goto rfl ?_
          refine px_ireturn rfl (.inl rfl) ?_
          exact PT_mk (cs := csk) (.inr ⟨⟨hei, by rw [i_lt]; rw [i_le] at c5; omega⟩, by rw [hcd, mN_n (by omega), if_pos (by first | exact c19 | exact Classical.byContradiction c19), if_neg (fun e => c11 (by rw [n_0]; exact e)), ← hv]; exact hWC.2.2.2.2.1⟩) hF2 hK2 (by decide)
      · refine px_iconst (v := nI 0) rfl k_0 ?_
        refine px_goto rfl ?_
        refine px_aconst_null rfl ?_
        refine px_callV0 CX10_seek [] [.int _, .null] (vX10_seek0 (z := 0) (E := fun _ => nI 0) hW hcd hcd4) rfl gS_24 (by decide) rfl rfl rfl (Nat.le_of_ble_eq_true rfl) (by decide) ?_
        rintro _ _ - ⟨rfl, I2, rfl, hF2, hK2, hWC⟩
        obtain ⟨v, hv⟩ : ∃ v, v = (sp_seek 0 n tx (I 5) (I 4) (I 3) (I 2) (I 1 6) 0 (fun _ => nI 0) cd) := ⟨_, rfl⟩
        rw [← hv] at hWC
        have hf31 : v.2.2.1 < 2 ^ 31 := by rw [hv]; exact sp_seek_f hn8
        have hn2 := (congrFun (hF2 1 (by decide)) 4).trans hW.2.1
        refine px_iload_n (kk := 2) rfl rfl rfl ?_
        refine px_iconst (v := -1) rfl k_m1 ?_
        refine px_icmp_ne rfl (fun c19 => ?_) (fun c19 => ?_)
        · refine px_aload_n (kk := 0) rfl rfl rfl ?_
          refine px_getR (r := 24) rfl gS_0 rfl (gR_0_4 _) ?_
          refine px_iload_n (kk := 2) rfl rfl rfl ?_
          refine px_callV0 CX10_pairOfFirst [] [.int _] (vX10_pair hn2 hn8) rfl gS_24 (by decide) rfl rfl rfl (Nat.le_of_ble_eq_true rfl) (by decide) ?_
          rintro _ _ - ⟨rfl, rfl⟩
          refine px_ireturn rfl (.inl rfl) ?_
          exact PT_mk (cs := csk) (.inr ⟨⟨hei, by rw [i_lt]; rw [i_le] at c5; omega⟩, by rw [hcd, mN_n (by omega), if_neg c19, if_pos (show w = nI 0 by rw [← n_0]; first | exact c11 | exact Classical.byContradiction c11), ← hv]; exact sp_pair_congr hWC.2.1 n 0 0 (by omega)⟩) hF2 hK2 (by decide)
        · refine px_aload_n (kk := 0) rfl rfl rfl ?_
          refine px_getR (r := 24) rfl gS_0 rfl (gR_0_4 _) ?_
          refine px_getI rfl gS_24 rfl ?_
          refine px_goto rfl ?_
          refine px_ireturn rfl (.inl rfl) ?_
          exact PT_mk (cs := csk) (.inr ⟨⟨hei, by rw [i_lt]; rw [i_le] at c5; omega⟩, by rw [hcd, mN_n (by omega), if_pos (by first | exact c19 | exact Classical.byContradiction c19), if_pos (show w = nI 0 by rw [← n_0]; first | exact c11 | exact Classical.byContradiction c11), ← hv]; exact hWC.2.2.2.2.1⟩) hF2 hK2 (by decide)
    · refine px_iconst (v := -1) rfl k_m1 ?_
      refine px_ireturn rfl (.inl rfl) ?_
      exact PT_id (.inl ⟨fun h => h.2 (by rw [i_lt]; rw [i_le] at c5; omega), rfl⟩)
  · refine px_if_eq rfl (fun _ => ?_) (fun h => absurd h (by decide))
    refine px_iconst (v := -1) rfl k_m1 ?_
    refine px_ireturn rfl (.inl rfl) ?_
    exact PT_id (.inl ⟨fun h => hei h.1, rfl⟩)
theorem vX11_stable {I : Nat → Nat → Int32} {J : Nat → Nat → Int64} {p : Bool × Option Nat} {ro : List (Nat × Nat × (Nat → Int32))} {tx : List Ln} {n : Nat} (hW : TW tx n p I) {y : Int32} : Pv 16 0 0 CX11_stable [.ref (0), .int (y)] (gS, I, J, gR p, ro) (PT (ASK (-1) (¬ y < -1) (if y = -1 then nI (sp_seek 2 n tx (I 5) (I 4) (I 3) (I 2) (I 1 6) 0 (fun _ => nI 0) 4).2.2.1 else sp_pair (sp_seek 2 n tx (I 5) (I 4) (I 3) (I 2) (I 1 6) 0 (fun _ => nI 0) 4).1 y n 0 0)) I J p ro) := by
  refine ⟨okCX11_stable, Nat.le_of_ble_eq_true rfl, (show Px _ _ _ _ 0 [some (.ref (0)), some (.int (y))] [] _ _ from ?_)⟩
  have hn8 := hW.2.2.1
  refine px_iload_n (kk := 1) rfl rfl rfl ?_
  refine px_iconst (v := -1) rfl k_m1 ?_
  refine px_icmp_ge rfl (fun c2 => ?_) (fun c2 => ?_)
  · refine px_aload_n (kk := 0) rfl rfl rfl ?_
    refine px_getR (r := 24) rfl gS_0 rfl (gR_0_4 _) ?_
    refine px_iconst (v := nI 2) rfl k_2 ?_
    refine px_aconst_null rfl ?_
    refine px_callV0 CX10_seek [] [.int _, .null] (vX10_seek2 (z := 0) (E := fun _ => nI 0) hW) rfl gS_24 (by decide) rfl rfl rfl (Nat.le_of_ble_eq_true rfl) (by decide) ?_
    rintro _ _ - ⟨rfl, I2, rfl, hF2, hK2, hWC⟩
    obtain ⟨v, hv⟩ : ∃ v, v = (sp_seek 2 n tx (I 5) (I 4) (I 3) (I 2) (I 1 6) 0 (fun _ => nI 0) 4) := ⟨_, rfl⟩
    rw [← hv] at hWC
    have hf31 : v.2.2.1 < 2 ^ 31 := by rw [hv]; exact sp_seek_f hn8
    have hn2 := (congrFun (hF2 1 (by decide)) 4).trans hW.2.1
    refine px_iload_n (kk := 1) rfl rfl rfl ?_
    refine px_iconst (v := -1) rfl k_m1 ?_
    refine px_icmp_ne rfl (fun c12 => ?_) (fun c12 => ?_)
    · refine px_aload_n (kk := 0) rfl rfl rfl ?_
      refine px_getR (r := 24) rfl gS_0 rfl (gR_0_4 _) ?_
      refine px_iload_n (kk := 1) rfl rfl rfl ?_
      refine px_callV0 CX10_pairOfFirst [] [.int _] (vX10_pair hn2 hn8) rfl gS_24 (by decide) rfl rfl rfl (Nat.le_of_ble_eq_true rfl) (by decide) ?_
      rintro _ _ - ⟨rfl, rfl⟩
      refine px_ireturn rfl (.inl rfl) ?_
      exact PT_mk (cs := csk) (.inr ⟨by rw [i_lt]; rw [i_le] at c2; omega, by rw [if_neg c12, ← hv]; exact sp_pair_congr hWC.2.1 n 0 0 (by omega)⟩) hF2 hK2 (by decide)
    · refine px_aload_n (kk := 0) rfl rfl rfl ?_
      refine px_getR (r := 24) rfl gS_0 rfl (gR_0_4 _) ?_
      refine px_getI rfl gS_24 rfl ?_
      refine px_goto rfl ?_
      refine px_ireturn rfl (.inl rfl) ?_
      exact PT_mk (cs := csk) (.inr ⟨by rw [i_lt]; rw [i_le] at c2; omega, by rw [if_pos (by first | exact c12 | exact Classical.byContradiction c12), ← hv]; exact hWC.2.2.2.1⟩) hF2 hK2 (by decide)
  · refine px_iconst (v := -1) rfl k_m1 ?_
    refine px_ireturn rfl (.inl rfl) ?_
    exact PT_id (.inl ⟨fun h => h (by rw [i_lt]; rw [i_le] at c2; omega), rfl⟩)
theorem vX11_soon {I : Nat → Nat → Int32} {J : Nat → Nat → Int64} {p : Bool × Option Nat} {ro : List (Nat × Nat × (Nat → Int32))} {tx : List Ln} {n : Nat} (hW : TW tx n p I) {w : Int32} : Pv 5 0 0 CX11_soon [.ref (0), .int (w)] (gS, I, J, gR p, ro) (PT (ASK (-1) (∃ a b, a < n ∧ b < n ∧ a ≠ b ∧ w = nI (10 * a + b)) (sp_soon tx (I 5) (I 4) (I 3) (I 1 6) (mN w / 10) (mN w % 10) 61 0 (I 2 (mN w / 10)) (I 2 (mN w % 10)))) I J p ro) := by
  refine ⟨okCX11_soon, Nat.le_of_ble_eq_true rfl, (show Px _ _ _ _ 0 [some (.ref (0)), some (.int (w))] [] _ _ from ?_)⟩
  have hn8 := hW.2.2.1
  refine px_aload_n (kk := 0) rfl rfl rfl ?_
  refine px_getR (r := 1) rfl gS_0 rfl (gR_0_0 _) ?_
  refine px_iload_n (kk := 1) rfl rfl rfl ?_
  refine px_callV0 CX9_isPair [] [.int _] (vX9_isPair hW.2.1 hW.2.2.1) rfl gS_1 (by decide) rfl rfl rfl (Nat.le_of_ble_eq_true rfl) (by decide) ?_
  rintro _ _ - (⟨⟨a, b, ha, hbn, hne, rfl⟩, rfl, rfl⟩ | ⟨ha, rfl, rfl⟩)
  · refine px_if_eq rfl (fun h => absurd h (by decide)) (fun _ => ?_)
    refine px_aload_n (kk := 0) rfl rfl rfl ?_
    refine px_getR (r := 15) rfl gS_0 rfl (gR_0_3 _) ?_
    
    refine px_iload_n (kk := 1) rfl rfl rfl ?_
    refine px_bipush (v := nI 10) rfl b_10 ?_
    refine px_idivN rfl (by decide) (by decide) (by omega) ?_
    refine px_iload_n (kk := 1) rfl rfl rfl ?_
    refine px_bipush (v := nI 10) rfl b_10 ?_
    refine px_iremN rfl (by decide) (by decide) (by omega) ?_
    refine px_callV0 CX8_soonBoth [] [.int _, .int _] (vX8_soon hW (a := (10 * a + b) / 10) (b := (10 * a + b) % 10) (by omega) (by omega) (by omega)) rfl gS_15 (by decide) rfl rfl rfl (Nat.le_of_ble_eq_true rfl) (by decide) ?_
    rintro _ _ - ⟨rfl, I2, rfl, hF2, hK2⟩
    refine px_goto rfl ?_
    refine px_ireturn rfl (.inl rfl) ?_
    exact PT_mk (cs := c8) (.inr ⟨⟨a, b, ha, hbn, hne, rfl⟩, by rw [mN_n (by omega)]⟩) hF2 hK2 (by decide)
  · refine px_if_eq rfl (fun _ => ?_) (fun h => absurd h (by decide))
    refine px_iconst (v := -1) rfl k_m1 ?_
    refine px_ireturn rfl (.inl rfl) ?_
    exact PT_id (.inl ⟨ha, rfl⟩)
theorem vX11_instead {I : Nat → Nat → Int32} {J : Nat → Nat → Int64} {p : Bool × Option Nat} {ro : List (Nat × Nat × (Nat → Int32))} {tx : List Ln} {n : Nat} (hW : TW tx n p I) {w : Int32} : Pv 4 0 0 CX11_instead [.ref (0), .int (w)] (gS, I, J, gR p, ro) (PT (ASK (-1) (∃ a b, a < n ∧ b < n ∧ a ≠ b ∧ w = nI (10 * a + b)) (sp_lm (I 5) (mN w / 10) (nI (mN w % 10)) n)) I J p ro) := by
  refine ⟨okCX11_instead, Nat.le_of_ble_eq_true rfl, (show Px _ _ _ _ 0 [some (.ref (0)), some (.int (w))] [] _ _ from ?_)⟩
  have hn8 := hW.2.2.1
  refine px_aload_n (kk := 0) rfl rfl rfl ?_
  refine px_getR (r := 1) rfl gS_0 rfl (gR_0_0 _) ?_
  refine px_iload_n (kk := 1) rfl rfl rfl ?_
  refine px_callV0 CX9_isPair [] [.int _] (vX9_isPair hW.2.1 hW.2.2.1) rfl gS_1 (by decide) rfl rfl rfl (Nat.le_of_ble_eq_true rfl) (by decide) ?_
  rintro _ _ - (⟨⟨a, b, ha, hbn, hne, rfl⟩, rfl, rfl⟩ | ⟨ha, rfl, rfl⟩)
  · refine px_if_eq rfl (fun h => absurd h (by decide)) (fun _ => ?_)
    refine px_aload_n (kk := 0) rfl rfl rfl ?_
    refine px_getR (r := 1) rfl gS_0 rfl (gR_0_0 _) ?_
    
    refine px_iload_n (kk := 1) rfl rfl rfl ?_
    refine px_bipush (v := nI 10) rfl b_10 ?_
    refine px_idivN rfl (by decide) (by decide) (by omega) ?_
    refine px_iload_n (kk := 1) rfl rfl rfl ?_
    refine px_bipush (v := nI 10) rfl b_10 ?_
    refine px_iremN rfl (by decide) (by decide) (by omega) ?_
    refine px_callV0 CX9_likedMost [] [.int _, .int _] (vX9_likedMost hW.2.1 hn8 (a := (10 * a + b) / 10) (by omega)) rfl gS_1 (by decide) rfl rfl rfl (Nat.le_of_ble_eq_true rfl) (by decide) ?_
    rintro _ _ - ⟨rfl, rfl⟩
    refine px_goto rfl ?_
    refine px_ireturn rfl (.inl rfl) ?_
    exact PT_id (.inr ⟨⟨a, b, ha, hbn, hne, rfl⟩, by rw [mN_n (by omega)]⟩)
  · refine px_if_eq rfl (fun _ => ?_) (fun h => absurd h (by decide))
    refine px_iconst (v := -1) rfl k_m1 ?_
    refine px_ireturn rfl (.inl rfl) ?_
    exact PT_id (.inl ⟨ha, rfl⟩)
theorem vX11_warmer {I : Nat → Nat → Int32} {J : Nat → Nat → Int64} {p : Bool × Option Nat} {ro : List (Nat × Nat × (Nat → Int32))} {tx : List Ln} {n : Nat} (hW : TW tx n p I) {w y : Int32} : Pv 3 0 0 CX11_warmer [.ref (0), .int (w), .int (y)] (gS, I, J, gR p, ro) (PT (ASK (-2000000000) ((∃ a b, a < n ∧ b < n ∧ a ≠ b ∧ w = nI (10 * a + b)) ∧ ∃ h, h ≤ 99 ∧ y = nI h) (sp_rise tx (I 5 (8 * (mN w / 10) + (mN w % 10))) (I 2 (mN w / 10)) (I 2 (mN w % 10)) y (I 1 6) (sp_one (I 4 (mN w / 10)) (I 4 (mN w % 10))))) I J p ro) := by
  refine ⟨okCX11_warmer, Nat.le_of_ble_eq_true rfl, (show Px _ _ _ _ 0 [some (.ref (0)), some (.int (w)), some (.int (y))] [] _ _ from ?_)⟩
  have hn8 := hW.2.2.1
  refine px_aload_n (kk := 0) rfl rfl rfl ?_
  refine px_getR (r := 1) rfl gS_0 rfl (gR_0_0 _) ?_
  refine px_iload_n (kk := 1) rfl rfl rfl ?_
  refine px_callV0 CX9_isPair [] [.int _] (vX9_isPair hW.2.1 hW.2.2.1) rfl gS_1 (by decide) rfl rfl rfl (Nat.le_of_ble_eq_true rfl) (by decide) ?_
  rintro _ _ - (⟨⟨a, b, ha, hbn, hne, rfl⟩, rfl, rfl⟩ | ⟨ha, rfl, rfl⟩)
  · refine px_if_eq rfl (fun h => absurd h (by decide)) (fun _ => ?_)
    refine px_iload_n (kk := 2) rfl rfl rfl ?_
    refine px_if_lt rfl (fun c6 => ?_) (fun c6 => ?_)
    · refine px_ldc (v := -2000000000) rfl (by decide) ?_
      refine px_ireturn rfl (.inl rfl) ?_
      exact PT_id (.inl ⟨fun ⟨_, h, hh, e⟩ => n_nneg (by omega) (e ▸ c6), rfl⟩)
    · refine px_iload_n (kk := 2) rfl rfl rfl ?_
      refine px_bipush (v := nI 99) rfl b_99 ?_
      refine px_icmp_le rfl (fun c9 => ?_) (fun c9 => ?_)
      · refine px_aload_n (kk := 0) rfl rfl rfl ?_
        refine px_getR (r := 6) rfl gS_0 rfl (gR_0_1 _) ?_
        obtain ⟨h, hh, rfl⟩ := n_ofn c6
        refine px_iload_n (kk := 1) rfl rfl rfl ?_
        refine px_bipush (v := nI 10) rfl b_10 ?_
        refine px_idivN rfl (by decide) (by decide) (by omega) ?_
        refine px_iload_n (kk := 1) rfl rfl rfl ?_
        refine px_bipush (v := nI 10) rfl b_10 ?_
        refine px_iremN rfl (by decide) (by decide) (by omega) ?_
        refine px_iload_n (kk := 2) rfl rfl rfl ?_
        refine px_aload_n (kk := 0) rfl rfl rfl ?_
        refine px_getR (r := 1) rfl gS_0 rfl (gR_0_0 _) ?_
        refine px_getR (r := 2) rfl gS_1 rfl (gR_1_0 _) ?_
        refine px_callV0 CX3_rise [] [.int _, .int _, .int _, .ref 2] (vX3_rise hW.1 hW.2.1 hn8 (a := (10 * a + b) / 10) (b := (10 * a + b) % 10) (by omega) (by omega) (by omega) (w := 2) rfl (by decide)) rfl gS_6 (by decide) rfl rfl rfl (Nat.le_of_ble_eq_true rfl) (by decide) ?_
        rintro _ _ - ⟨rfl, I2, rfl, hF2, hK2⟩
        refine px_ireturn rfl (.inl rfl) ?_
        exact PT_mk (cs := [6, 8]) (.inr ⟨⟨⟨a, b, ha, hbn, hne, rfl⟩, h, by rw [n_le hh (by omega)] at c9; exact c9, rfl⟩, by rw [mN_n (by omega)]⟩) hF2 hK2 (by decide)
      · refine px_ldc (v := -2000000000) rfl (by decide) ?_
        refine px_ireturn rfl (.inl rfl) ?_
        exact PT_id (.inl ⟨fun ⟨_, h, hh, e⟩ => by subst e; rw [n_le (by omega) (by omega)] at c9; omega, rfl⟩)
  · refine px_if_eq rfl (fun _ => ?_) (fun h => absurd h (by decide))
    refine px_ldc (v := -2000000000) rfl (by decide) ?_
    refine px_ireturn rfl (.inl rfl) ?_
    exact PT_id (.inl ⟨fun h => ha h.1, rfl⟩)
theorem lX11_first {I : Nat → Nat → Int32} {J : Nat → Nat → Int64} {p : Bool × Option Nat} {ro : List (Nat × Nat × (Nat → Int32))} {n : Nat} (hn : I 1 4 = nI n) (hn8 : n ≤ 8) {k : Nat} (hk : k ≤ n) {o : Option Value} : Px 0 0 0 CX11_first 6 [some (.ref (0)), some (.int ((sp_first (I 3) (I 2) k).1)), some (.int ((sp_first (I 3) (I 2) k).2)), some (.int (nI k)), o] [] (gS, I, J, gR p, ro) (qI (sp_first (I 3) (I 2) n).1 (gS, I, J, gR p, ro)) := by
  refine px_iload_n (kk := 3) rfl rfl rfl ?_
  refine px_aload_n (kk := 0) rfl rfl rfl ?_
  refine px_getR (r := 1) rfl gS_0 rfl (gR_0_0 _) ?_
  refine px_getIe (v := nI n) rfl gS_1 rfl hn ?_
  refine px_icmp_ge rfl (fun c10 => ?_) (fun c10 => ?_)
  · refine px_iload_n (kk := 1) rfl rfl rfl ?_
    refine px_ireturn rfl (.inl rfl) ?_
    rw [n_le (by omega) (by omega)] at c10
    obtain rfl : k = n := by omega
    exact ⟨rfl, rfl⟩
  · rw [n_le (by omega) (by omega)] at c10
    refine px_aload_n (kk := 0) rfl rfl rfl ?_
    refine px_getR (r := 1) rfl gS_0 rfl (gR_0_0 _) ?_
    refine px_getR (r := 3) rfl gS_1 rfl (gR_1_1 _) ?_
    refine px_iload_n (kk := 3) rfl rfl rfl ?_
    refine px_iald (j := k) rfl gS_3 rfl (by omega) ?_
    refine px_aload_n (kk := 0) rfl rfl rfl ?_
    refine px_getR (r := 1) rfl gS_0 rfl (gR_0_0 _) ?_
    refine px_getR (r := 2) rfl gS_1 rfl (gR_1_0 _) ?_
    refine px_iload_n (kk := 3) rfl rfl rfl ?_
    refine px_iald (j := k) rfl gS_2 rfl (by omega) ?_
    refine px_isub rfl ?_
    refine px_ist4 rfl rfl (by decide) ?_
    refine px_iload rfl rfl ?_
    refine px_iload_n (kk := 2) rfl rfl rfl ?_
    refine px_icmp_le rfl (fun c25 => ?_) (fun c25 => ?_)
    · refine px_iinc3 (v := nI (k + 1)) rfl (n_inc k) rfl (by decide) ?_
      refine px_goto rfl ?_
      rw [show (sp_first (I 3) (I 2) k) = (sp_first (I 3) (I 2) (k + 1)) from (if_neg (by rw [i_lt]; rw [i_le] at c25; omega)).symm]
      exact lX11_first hn hn8 (k := k + 1) (by omega)
    · refine px_iload rfl rfl ?_
      refine px_ist2 rfl rfl (by decide) ?_
      refine px_iload_n (kk := 3) rfl rfl rfl ?_
      refine px_ist1 rfl rfl (by decide) ?_
      refine px_iinc3 (v := nI (k + 1)) rfl (n_inc k) rfl (by decide) ?_
      refine px_goto rfl ?_
      have e : (sp_first (I 3) (I 2) (k + 1)) = (nI k, I 3 k - I 2 k) := if_pos (by rw [i_lt]; rw [i_le] at c25; omega)
      have h := lX11_first (J := J) (p := p) (ro := ro) hn hn8 (k := k + 1) (by omega) (o := some (.int (I 3 k - I 2 k)))
      rw [e] at h
      exact h
termination_by n - k
decreasing_by all_goals (have h := ‹¬ nI n ≤ nI k›; rw [n_le (by omega) (by omega)] at h; omega)
theorem vX11_first {I : Nat → Nat → Int32} {J : Nat → Nat → Int64} {p : Bool × Option Nat} {ro : List (Nat × Nat × (Nat → Int32))} {n : Nat} (hn : I 1 4 = nI n) (hn8 : n ≤ 8) : Pv 0 0 0 CX11_first [.ref (0)] (gS, I, J, gR p, ro) (qI (sp_first (I 3) (I 2) n).1 (gS, I, J, gR p, ro)) := by
  refine ⟨okCX11_first, Nat.le_of_ble_eq_true rfl, (show Px _ _ _ _ 0 [some (.ref (0)), none, none, none, none] [] _ _ from ?_)⟩
  refine px_bipush (v := -2) rfl b_m2 ?_
  refine px_ist1 rfl rfl (by decide) ?_
  refine px_iconst (v := nI 0) rfl k_0 ?_
  refine px_ist2 rfl rfl (by decide) ?_
  refine px_iconst (v := nI 0) rfl k_0 ?_
  refine px_ist3 rfl rfl (by decide) ?_
  exact lX11_first hn hn8 (k := 0) (by omega)
theorem vX11_drawn_p {I : Nat → Nat → Int32} {J : Nat → Nat → Int64} {p : Bool × Option Nat} {ro : List (Nat × Nat × (Nat → Int32))} {tx : List Ln} {n : Nat} (hW : TW tx n p I) {sd w : Int32} {m : Nat} (hm : m < 2 ^ 31) : Pv 5 0 0 CX11_drawn [.ref (0), .int (sd), .int (nI m), .int (w)] (gS, I, J, gR p, ro) (PT (ASK (-1) ((w = nI 0 ∨ w = nI 1) ∧ ∃ q, q < 2 ^ 31 ∧ (nI m) = nI q ∧ 1 ≤ q / 100 ∧ q / 100 ≤ 20 ∧ 1 ≤ q % 100 ∧ q % 100 ≤ 60) (if w = nI 0 then (sp_ws tx n (I 5) (I 4) (I 3) (I 2) (I 1 6) (I 1 5) (mN (I 1 5)) (mN (nI m) % 100) sd (mN (nI m) / 100)).1 else (sp_ws tx n (I 5) (I 4) (I 3) (I 2) (I 1 6) (I 1 5) (mN (I 1 5)) (mN (nI m) % 100) sd (mN (nI m) / 100)).2.1)) I J p ro) := by
  refine ⟨okCX11_drawn, Nat.le_of_ble_eq_true rfl, (show Px _ _ _ _ 0 [some (.ref (0)), some (.int (sd)), some (.int (nI m)), some (.int (w)), none, none, none] [] _ _ from ?_)⟩
  obtain ⟨cd, hcd4, hcd⟩ := hW.2.2.2.2
  have hn8 := hW.2.2.1
  refine px_iload_n (kk := 2) rfl rfl rfl ?_
  refine px_bipush (v := nI 100) rfl b_100 ?_
  refine px_idivN rfl (by decide) (by decide) (by omega) ?_
  refine px_ist4 rfl rfl (by decide) ?_
  refine px_iload_n (kk := 2) rfl rfl rfl ?_
  refine px_bipush (v := nI 100) rfl b_100 ?_
  refine px_iremN rfl (by decide) (by decide) (by omega) ?_
  refine px_ist5 rfl rfl (by decide) ?_
  refine px_iload_n (kk := 3) rfl rfl rfl ?_
  refine px_callS0 CX11_isEither [] [.int _] (vX11_isEither) rfl rfl rfl (Nat.le_of_ble_eq_true rfl) (by decide) ?_
  rintro _ _ - (⟨hei, rfl, rfl⟩ | ⟨hei, rfl, rfl⟩)
  · refine px_if_eq rfl (fun h => absurd h (by decide)) (fun _ => ?_)
    refine px_iload rfl rfl ?_
    refine px_iconst (v := nI 1) rfl k_1 ?_
    refine px_icmp_lt rfl (fun c13 => ?_) (fun c13 => ?_)
    · refine px_iconst (v := -1) rfl k_m1 ?_
      refine px_ireturn rfl (.inl rfl) ?_
      exact PT_id (.inl ⟨fun ⟨_, q, hq, e, h1, h2, h3, h4⟩ => by rw [n_eq (by omega) (by omega)] at e; subst e; rw [n_lt (by omega) (by omega)] at c13; omega, rfl⟩)
    · refine px_iload rfl rfl ?_
      refine px_bipush (v := nI 20) rfl b_20 ?_
      refine px_icmp_gt rfl (fun c16 => ?_) (fun c16 => ?_)
      · refine px_iconst (v := -1) rfl k_m1 ?_
        refine px_ireturn rfl (.inl rfl) ?_
        exact PT_id (.inl ⟨fun ⟨_, q, hq, e, h1, h2, h3, h4⟩ => by rw [n_eq (by omega) (by omega)] at e; subst e; rw [n_lt (by omega) (by omega)] at c16; omega, rfl⟩)
      · refine px_iload rfl rfl ?_
        refine px_iconst (v := nI 1) rfl k_1 ?_
        refine px_icmp_lt rfl (fun c19 => ?_) (fun c19 => ?_)
        · refine px_iconst (v := -1) rfl k_m1 ?_
          refine px_ireturn rfl (.inl rfl) ?_
          exact PT_id (.inl ⟨fun ⟨_, q, hq, e, h1, h2, h3, h4⟩ => by rw [n_eq (by omega) (by omega)] at e; subst e; rw [n_lt (by omega) (by omega)] at c19; omega, rfl⟩)
        · refine px_iload rfl rfl ?_
          refine px_bipush (v := nI 60) rfl b_60 ?_
          refine px_icmp_le rfl (fun c22 => ?_) (fun c22 => ?_)
          · refine px_aload_n (kk := 0) rfl rfl rfl ?_
            rw [n_lt (by omega) (by omega)] at c13 c16 c19
            rw [n_le (by omega) (by omega)] at c22
            refine px_getR (r := 15) rfl gS_0 rfl (gR_0_3 _) ?_
            refine px_iload_n (kk := 1) rfl rfl rfl ?_
            refine px_iload rfl rfl ?_
            refine px_iload rfl rfl ?_
            refine px_callV0 CX8_draw [] [.int _, .int _, .int _] (vX8_draw hW hcd hcd4 (WN := m / 100) (HH := m % 100) (by omega) (by omega)) rfl gS_15 (by decide) rfl rfl rfl (Nat.le_of_ble_eq_true rfl) (by decide) ?_
            rintro _ _ - ⟨rfl, I2, rfl, hF2, hK2, hU⟩
            refine px_ist6 rfl rfl (by decide) ?_
            refine px_iload_n (kk := 3) rfl rfl rfl ?_
            refine px_if_ne rfl (fun c33 => ?_) (fun c33 => ?_)
            · refine px_aload_n (kk := 0) rfl rfl rfl ?_
              refine px_getR (r := 15) rfl gS_0 rfl (gR_0_3 _) ?_
              refine px_getI rfl gS_15 rfl ?_
              refine px_ireturn rfl (.inl rfl) ?_
              exact PT_mk (cs := c8) (.inr ⟨⟨hei, m, hm, rfl, by omega, by omega, by omega, by omega⟩, by rw [show mN (I 1 5) = cd from by rw [hcd, mN_n (by omega)], mN_n hm, if_neg (fun e => c33 (by rw [n_0]; exact e))]; exact hU⟩) hF2 hK2 (by decide)
            · refine px_iload rfl rfl ?_
              refine px_goto rfl ?_
              refine px_ireturn rfl (.inl rfl) ?_
              exact PT_mk (cs := c8) (.inr ⟨⟨hei, m, hm, rfl, by omega, by omega, by omega, by omega⟩, by rw [show mN (I 1 5) = cd from by rw [hcd, mN_n (by omega)], mN_n hm, if_pos (show w = nI 0 by rw [← n_0]; first | exact c33 | exact Classical.byContradiction c33)]⟩) hF2 hK2 (by decide)
          · refine px_iconst (v := -1) rfl k_m1 ?_
            refine px_ireturn rfl (.inl rfl) ?_
            exact PT_id (.inl ⟨fun ⟨_, q, hq, e, h1, h2, h3, h4⟩ => by rw [n_eq (by omega) (by omega)] at e; subst e; rw [n_le (by omega) (by omega)] at c22; omega, rfl⟩)
  · refine px_if_eq rfl (fun _ => ?_) (fun h => absurd h (by decide))
    refine px_iconst (v := -1) rfl k_m1 ?_
    refine px_ireturn rfl (.inl rfl) ?_
    exact PT_id (.inl ⟨fun h => hei h.1, rfl⟩)
theorem vX11_drawn_n {I : Nat → Nat → Int32} {J : Nat → Nat → Int64} {p : Bool × Option Nat} {ro : List (Nat × Nat × (Nat → Int32))}  {sd w nm : Int32} (hm : nm < 0) : Pv 5 0 0 CX11_drawn [.ref (0), .int (sd), .int (nm), .int (w)] (gS, I, J, gR p, ro) (PT (fun r => r = -1) I J p ro) := by
  refine ⟨okCX11_drawn, Nat.le_of_ble_eq_true rfl, (show Px _ _ _ _ 0 [some (.ref (0)), some (.int (sd)), some (.int (nm)), some (.int (w)), none, none, none] [] _ _ from ?_)⟩
  refine px_iload_n (kk := 2) rfl rfl rfl ?_
  refine px_bipush (v := nI 100) rfl b_100 ?_
  refine px_idiv rfl (by decide) ?_
  refine px_ist4 rfl rfl (by decide) ?_
  refine px_iload_n (kk := 2) rfl rfl rfl ?_
  refine px_bipush (v := nI 100) rfl b_100 ?_
  refine px_irem rfl (by decide) ?_
  refine px_ist5 rfl rfl (by decide) ?_
  refine px_iload_n (kk := 3) rfl rfl rfl ?_
  refine px_callS0 CX11_isEither [] [.int _] (vX11_isEither) rfl rfl rfl (Nat.le_of_ble_eq_true rfl) (by decide) ?_
  rintro _ _ - (⟨hei, rfl, rfl⟩ | ⟨hei, rfl, rfl⟩)
  · refine px_if_eq rfl (fun h => absurd h (by decide)) (fun _ => ?_)
    refine px_iload rfl rfl ?_
    refine px_iconst (v := nI 1) rfl k_1 ?_
    refine px_icmp_lt rfl (fun c13 => ?_) (fun h => absurd (div_neg hm) h)
    refine px_iconst (v := -1) rfl k_m1 ?_
    refine px_ireturn rfl (.inl rfl) ?_
    exact PT_id rfl
  · refine px_if_eq rfl (fun _ => ?_) (fun h => absurd h (by decide))
    refine px_iconst (v := -1) rfl k_m1 ?_
    refine px_ireturn rfl (.inl rfl) ?_
    exact PT_id rfl
theorem vX11_drawn {I : Nat → Nat → Int32} {J : Nat → Nat → Int64} {p : Bool × Option Nat} {ro : List (Nat × Nat × (Nat → Int32))} {tx : List Ln} {n : Nat} (hW : TW tx n p I) {sd nm w : Int32} : Pv 5 0 0 CX11_drawn [.ref 0, .int sd, .int nm, .int w] (gS, I, J, gR p, ro) (PT (ASK (-1) ((w = nI 0 ∨ w = nI 1) ∧ ∃ m, m < 2 ^ 31 ∧ nm = nI m ∧ 1 ≤ m / 100 ∧ m / 100 ≤ 20 ∧ 1 ≤ m % 100 ∧ m % 100 ≤ 60) (if w = nI 0 then (sp_ws tx n (I 5) (I 4) (I 3) (I 2) (I 1 6) (I 1 5) (mN (I 1 5)) (mN nm % 100) sd (mN nm / 100)).1 else (sp_ws tx n (I 5) (I 4) (I 3) (I 2) (I 1 6) (I 1 5) (mN (I 1 5)) (mN nm % 100) sd (mN nm / 100)).2.1)) I J p ro) := by
  by_cases h : nm < 0
  · refine pv_post (vX11_drawn_n h) (fun r S hr => ?_)
    obtain ⟨v, h1, h2, h3⟩ := hr
    exact ⟨v, h1, .inl ⟨fun ⟨_, q, hq, e, _⟩ => n_nneg hq (e ▸ h), h2⟩, h3⟩
  · obtain ⟨m, hm, rfl⟩ := n_ofn h
    exact vX11_drawn_p hW hm
def PJ (Q : Int64 → Prop) (I : Nat → Nat → Int32) (J : Nat → Nat → Int64) (p : Bool × Option Nat) (ro : List (Nat × Nat × (Nat → Int32))) : Option Value → pm_M → Prop := fun r S' => ∃ v, r = some (.long v) ∧ Q v ∧ ∃ I' J' b, S' = (gS, I', J', gR (p.1, b), ro) ∧ Fr cth I I' ∧ K6 I I' ∧ ∀ c, c ≠ 29 → J' c = J c
theorem PJ_id {Q : Int64 → Prop} {I : Nat → Nat → Int32} {J : Nat → Nat → Int64} {p : Bool × Option Nat} {ro : List (Nat × Nat × (Nat → Int32))} {v : Int64} (h : Q v) : PJ Q I J p ro (some (.long v)) (gS, I, J, gR p, ro) := ⟨v, rfl, h, I, J, p.2, rfl, Fr_rf, fun _ _ => rfl, fun _ _ => rfl⟩
def ASKJ (b : Int64) (P : Prop) (V r : Int64) : Prop := (¬ P ∧ r = b) ∨ (P ∧ r = V)
theorem ASKJ_fn {b : Int64} {P P' : Prop} {V V' r r' : Int64} (h : ASKJ b P V r) (h' : ASKJ b P' V' r') (hP : P ↔ P') (hV : P → V = V') : r = r' := by
  rcases h with ⟨h1, rfl⟩ | ⟨h1, rfl⟩
  · rcases h' with ⟨h2, rfl⟩ | ⟨h2, rfl⟩
    · rfl
    · exact absurd (hP.mpr h2) h1
  · rcases h' with ⟨h2, rfl⟩ | ⟨h2, rfl⟩
    · exact absurd (hP.mp h1) h2
    · exact hV h1
theorem vX11_nieces {I : Nat → Nat → Int32} {J : Nat → Nat → Int64} {p : Bool × Option Nat} {ro : List (Nat × Nat × (Nat → Int32))} {tx : List Ln} {n : Nat} (hW : TW tx n p I) (hSH : ∀ s, s < 6 → ∃ z, z ≤ 60 ∧ I (53 + 2 * s) 4 = nI z) {x y w u : Int32} : Pv 42 0 0 CX11_nieces [.ref (0), .int (x), .int (y), .int (w), .int (u)] (gS, I, J, gR p, ro) (PJ (ASKJ (-9223372036854775808) (((∃ k, k ≤ 12 ∧ y = nI k) ∧ (u = nI 0 ∨ u = nI 1)) ∧ ∃ s, s < 6 ∧ x = nI s ∧ ¬ (I (53 + 2 * s) 1 = nI 0) ∧ (I (53 + 2 * s) 1 = nI 2 ∧ I (53 + 2 * s) 3 = nI 0)) (if u = nI 0 then lN ((sp_ni n (I 1 5) (fun j => (J (54 + 2 * (mN x)) j).toInt32) (fun M => sp_nx tx n (I 5) (I 4) (I 1 6) (I 2) M (fun _ => nI 0)) (mN y) w (sp_nn (fun j => (J (54 + 2 * (mN x)) j).toInt32) (mN (I (53 + 2 * mN x) 4)) 6 0) 0 (n1, 0, nI 0)) / Nat.gcd (12 ^ (sp_nn (fun j => (J (54 + 2 * (mN x)) j).toInt32) (mN (I (53 + 2 * mN x) 4)) 6 0)) (sp_ni n (I 1 5) (fun j => (J (54 + 2 * (mN x)) j).toInt32) (fun M => sp_nx tx n (I 5) (I 4) (I 1 6) (I 2) M (fun _ => nI 0)) (mN y) w (sp_nn (fun j => (J (54 + 2 * (mN x)) j).toInt32) (mN (I (53 + 2 * mN x) 4)) 6 0) 0 (n1, 0, nI 0))) else lN ((12 ^ (sp_nn (fun j => (J (54 + 2 * (mN x)) j).toInt32) (mN (I (53 + 2 * mN x) 4)) 6 0)) / Nat.gcd (12 ^ (sp_nn (fun j => (J (54 + 2 * (mN x)) j).toInt32) (mN (I (53 + 2 * mN x) 4)) 6 0)) (sp_ni n (I 1 5) (fun j => (J (54 + 2 * (mN x)) j).toInt32) (fun M => sp_nx tx n (I 5) (I 4) (I 1 6) (I 2) M (fun _ => nI 0)) (mN y) w (sp_nn (fun j => (J (54 + 2 * (mN x)) j).toInt32) (mN (I (53 + 2 * mN x) 4)) 6 0) 0 (n1, 0, nI 0))))) I J p ro) := by
  refine ⟨okCX11_nieces, Nat.le_of_ble_eq_true rfl, (show Px _ _ _ _ 0 [some (.ref (0)), some (.int (x)), some (.int (y)), some (.int (w)), some (.int (u)), none] [] _ _ from ?_)⟩
  refine px_iload_n (kk := 2) rfl rfl rfl ?_
  refine px_if_lt rfl (fun c1 => ?_) (fun c1 => ?_)
  · refine px_iconst (v := nI 0) rfl k_0 ?_
    refine px_ist5 rfl rfl (by decide) ?_
    refine px_aload_n (kk := 0) rfl rfl rfl ?_
    refine px_iload_n (kk := 1) rfl rfl rfl ?_
    refine px_iload rfl rfl ?_
    refine px_callV0 CX11_refusalOfDay [] [.int _, .int _] (vX11_rd_0) rfl gS_0 (by decide) rfl rfl rfl (Nat.le_of_ble_eq_true rfl) (by decide) ?_
    rintro _ _ - ⟨rfl, rfl⟩
    refine px_if_eq rfl (fun h => absurd h (by decide)) (fun _ => ?_)
    refine px_ldc2_w (v := -9223372036854775808) rfl (by decide) ?_
    refine px_lreturn rfl rfl ?_
    exact PJ_id (.inl ⟨fun ⟨⟨⟨k, hk, e⟩, _⟩, _⟩ => n_nneg (by omega) (e ▸ c1), rfl⟩)
  · refine px_iload_n (kk := 2) rfl rfl rfl ?_
    refine px_bipush (v := nI 12) rfl b_12 ?_
    refine px_icmp_gt rfl (fun c4 => ?_) (fun c4 => ?_)
    · refine px_iconst (v := nI 0) rfl k_0 ?_
      refine px_ist5 rfl rfl (by decide) ?_
      refine px_aload_n (kk := 0) rfl rfl rfl ?_
      refine px_iload_n (kk := 1) rfl rfl rfl ?_
      refine px_iload rfl rfl ?_
      refine px_callV0 CX11_refusalOfDay [] [.int _, .int _] (vX11_rd_0) rfl gS_0 (by decide) rfl rfl rfl (Nat.le_of_ble_eq_true rfl) (by decide) ?_
      rintro _ _ - ⟨rfl, rfl⟩
      refine px_if_eq rfl (fun h => absurd h (by decide)) (fun _ => ?_)
      refine px_ldc2_w (v := -9223372036854775808) rfl (by decide) ?_
      refine px_lreturn rfl rfl ?_
      exact PJ_id (.inl ⟨fun ⟨⟨⟨k, hk, e⟩, _⟩, _⟩ => by subst e; rw [n_lt (by omega) (by omega)] at c4; omega, rfl⟩)
    · obtain ⟨q, hq, rfl⟩ := n_ofn c1
      rw [n_lt (by omega) hq] at c4
      refine px_iload rfl rfl ?_
      refine px_callS0 CX11_isEither [] [.int _] (vX11_isEither) rfl rfl rfl (Nat.le_of_ble_eq_true rfl) (by decide) ?_
      rintro _ _ - (⟨hei, rfl, rfl⟩ | ⟨hei, rfl, rfl⟩)
      · refine px_if_eq rfl (fun h => absurd h (by decide)) (fun _ => ?_)
        refine px_iconst (v := nI 1) rfl k_1 ?_
        refine px_goto rfl ?_
        refine px_ist5 rfl rfl (by decide) ?_
        refine px_aload_n (kk := 0) rfl rfl rfl ?_
        refine px_iload_n (kk := 1) rfl rfl rfl ?_
        refine px_iload rfl rfl ?_
        refine px_callV0 CX11_refusalOfDay [] [.int _, .int _] (vX11_rd_1) rfl gS_0 (by decide) rfl rfl rfl (Nat.le_of_ble_eq_true rfl) (by decide) ?_
        rintro _ _ - (⟨hn6, rfl, rfl⟩ | ⟨s, hs, rfl, he, rfl, rfl⟩ | ⟨s, hs, rfl, he, hb, rfl, rfl⟩ | ⟨s, hs, rfl, he, hb, rfl, rfl⟩)
        · refine px_if_eq rfl (fun h => absurd h (by decide)) (fun _ => ?_)
          refine px_ldc2_w (v := -9223372036854775808) rfl (by decide) ?_
          refine px_lreturn rfl rfl ?_
          exact PJ_id (.inl ⟨fun ⟨_, s, hs, e, _⟩ => hn6 ⟨s, hs, e⟩, rfl⟩)
        · refine px_if_eq rfl (fun h => absurd h (by decide)) (fun _ => ?_)
          refine px_ldc2_w (v := -9223372036854775808) rfl (by decide) ?_
          refine px_lreturn rfl rfl ?_
          exact PJ_id (.inl ⟨fun ⟨_, s2, hs2, e, h1, _⟩ => by rw [n_eq (by omega) (by omega)] at e; subst e; exact h1 he, rfl⟩)
        · obtain ⟨z, hz60, hz⟩ := hSH s hs
          refine px_if_eq rfl (fun _ => ?_) (fun h => absurd h (by decide))
          refine px_aload_n (kk := 0) rfl rfl rfl ?_
          refine px_getR (r := 29) rfl gS_0 rfl (gR_0_5 _) ?_
          refine px_aload_n (kk := 0) rfl rfl rfl ?_
          refine px_getR (r := 52) rfl gS_0 rfl (gR_0_9 _) ?_
          refine px_iload_n (kk := 1) rfl rfl rfl ?_
          refine px_aald (j := s) (r := 53 + 2 * s) rfl gS_52 rfl hs (gR_52v hs _) ?_
          refine px_iload_n (kk := 2) rfl rfl rfl ?_
          refine px_iload_n (kk := 3) rfl rfl rfl ?_
          refine px_callV0 CX4_weigh [] [.ref _, .int _, .int _] (vX4_weigh hW hs hz hz60 (sk := q) (by omega)) rfl gS_29 (by decide) rfl rfl rfl (Nat.le_of_ble_eq_true rfl) (by decide) ?_
          rintro _ _ - ⟨rfl, I2, J2, rfl, hF2, hK2, hJ2, h7, h8⟩
          refine px_iload rfl rfl ?_
          refine px_if_ne rfl (fun c29 => ?_) (fun c29 => ?_)
          · refine px_aload_n (kk := 0) rfl rfl rfl ?_
            refine px_getR (r := 29) rfl gS_0 rfl (gR_0_5 _) ?_
            refine px_getJ rfl gS_29 rfl ?_
            refine px_lreturn rfl rfl ?_
            exact ⟨_, rfl, .inr ⟨⟨⟨⟨q, by omega, rfl⟩, hei⟩, s, hs, rfl, he, hb⟩, by rw [mN_n (show s < 2 ^ 31 by omega), mN_n hq, hz, mN_n (show z < 2 ^ 31 by omega), if_neg (fun e => c29 (by rw [n_0]; exact e))]; exact h8⟩, I2, J2, p.2, rfl, Fr_mo hF2 (by decide), hK2, hJ2⟩
          · refine px_aload_n (kk := 0) rfl rfl rfl ?_
            refine px_getR (r := 29) rfl gS_0 rfl (gR_0_5 _) ?_
            refine px_getJ rfl gS_29 rfl ?_
            refine px_goto rfl ?_
            refine px_lreturn rfl rfl ?_
            exact ⟨_, rfl, .inr ⟨⟨⟨⟨q, by omega, rfl⟩, hei⟩, s, hs, rfl, he, hb⟩, by rw [mN_n (show s < 2 ^ 31 by omega), mN_n hq, hz, mN_n (show z < 2 ^ 31 by omega), if_pos (show u = nI 0 by rw [← n_0]; first | exact c29 | exact Classical.byContradiction c29)]; exact h7⟩, I2, J2, p.2, rfl, Fr_mo hF2 (by decide), hK2, hJ2⟩
        · refine px_if_eq rfl (fun h => absurd h (by decide)) (fun _ => ?_)
          refine px_ldc2_w (v := -9223372036854775808) rfl (by decide) ?_
          refine px_lreturn rfl rfl ?_
          exact PJ_id (.inl ⟨fun ⟨_, s2, hs2, e, _, h1⟩ => by rw [n_eq (by omega) (by omega)] at e; subst e; exact hb h1, rfl⟩)
      · refine px_if_eq rfl (fun _ => ?_) (fun h => absurd h (by decide))
        refine px_iconst (v := nI 0) rfl k_0 ?_
        refine px_ist5 rfl rfl (by decide) ?_
        refine px_aload_n (kk := 0) rfl rfl rfl ?_
        refine px_iload_n (kk := 1) rfl rfl rfl ?_
        refine px_iload rfl rfl ?_
        refine px_callV0 CX11_refusalOfDay [] [.int _, .int _] (vX11_rd_0) rfl gS_0 (by decide) rfl rfl rfl (Nat.le_of_ble_eq_true rfl) (by decide) ?_
        rintro _ _ - ⟨rfl, rfl⟩
        refine px_if_eq rfl (fun h => absurd h (by decide)) (fun _ => ?_)
        refine px_ldc2_w (v := -9223372036854775808) rfl (by decide) ?_
        refine px_lreturn rfl rfl ?_
        exact PJ_id (.inl ⟨fun ⟨⟨_, h⟩, _⟩ => hei h, rfl⟩)
