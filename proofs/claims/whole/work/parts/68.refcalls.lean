/-! the reference: what is asked about a day -/
abbrev crt : List Nat := [65, 82, 83, 84, 85, 86, 87, 88, 89, 90]
def K65 (I I1 : Nat → Nat → Int32) : Prop := ∀ k, k < 34 ∨ 48 ≤ k → I1 65 k = I 65 k
def PR (Q : Int32 → Prop) (I : Nat → Nat → Int32) (J : Nat → Nat → Int64) (p : Bool × Option Nat) (ro : List (Nat × Nat × (Nat → Int32))) : Option Value → pm_M → Prop := fun r S' => ∃ v, r = some (.int v) ∧ Q v ∧ ∃ I', S' = (gS, I', J, gR p, ro) ∧ Fr crt I I' ∧ K65 I I'
theorem PR_id {Q : Int32 → Prop} {I : Nat → Nat → Int32} {J : Nat → Nat → Int64} {p : Bool × Option Nat} {ro : List (Nat × Nat × (Nat → Int32))} {v : Int32} (h : Q v) : PR Q I J p ro (some (.int v)) (gS, I, J, gR p, ro) := ⟨v, rfl, h, I, rfl, Fr_rf, fun _ _ => rfl⟩
theorem PR_go {Q : Int32 → Prop} {I : Nat → Nat → Int32} {J : Nat → Nat → Int64} {p : Bool × Option Nat} {ro : List (Nat × Nat × (Nat → Int32))} {v : Int32} {I' : Nat → Nat → Int32} (h : Q v) (hG : GD I I') : PR Q I J p ro (some (.int v)) (gS, I', J, gR p, ro) := ⟨v, rfl, h, I', rfl, Fr_mo hG.1 (by decide), fun k hk => hG.2.1 k (by omega) (by omega) (by omega)⟩
theorem vX12_later {I : Nat → Nat → Int32} {J : Nat → Nat → Int64} {p : Bool × Option Nat} {ro : List (Nat × Nat × (Nat → Int32))} {tx : List Ln} (hT : LawR tx I) {n : Nat} (hn : I 65 1 = nI n) (hn8 : n ≤ 8) (hL : LK n (I 69)) (hSZ : ∀ s, s < 6 → ∃ z, z ≤ 60 ∧ I 99 s = nI z) {x y w : Int32} : Pv 7 0 0 CX12_later [.ref (65), .int (x), .int (y), .int (w)] (gS, I, J, gR p, ro) (PR (DAY ((∃ N, N ≤ 60 ∧ y = nI N) ∧ ∃ a, a < n ∧ w = nI a) x (fun s => I 98 s = -1) (fun s => I 98 s = -2) (fun s => (sp_days tx n (I 69) (I 68) (I 65 7) (I 65 6) (fun j => (J 100 (60 * s + j)).toInt32) (mN (I 99 s)) (wiC (-1)) (mN y) (D0 (I 66))).1 (mN w))) I J p ro) := by
  refine ⟨okCX12_later, Nat.le_of_ble_eq_true rfl, (show Px _ _ _ _ 0 [some (.ref (65)), some (.int (x)), some (.int (y)), some (.int (w))] [] _ _ from ?_)⟩
  refine px_iload_n (kk := 1) rfl rfl rfl ?_
  refine px_callS0 CX12_isShelf [] [.int _] (vX12_isShelf) rfl rfl rfl (Nat.le_of_ble_eq_true rfl) (by decide) ?_
  rintro _ _ - (⟨⟨s, hs, rfl⟩, rfl, rfl⟩ | ⟨hs, rfl, rfl⟩)
  · refine px_if_eq rfl (fun h => absurd h (by decide)) (fun _ => ?_)
    refine px_iload_n (kk := 2) rfl rfl rfl ?_
    refine px_callS0 CX12_areHours [] [.int _] (vX12_areHours) rfl rfl rfl (Nat.le_of_ble_eq_true rfl) (by decide) ?_
    rintro _ _ - (⟨⟨N, hN, rfl⟩, rfl, rfl⟩ | ⟨hN, rfl, rfl⟩)
    · refine px_if_eq rfl (fun h => absurd h (by decide)) (fun _ => ?_)
      refine px_aload_n (kk := 0) rfl rfl rfl ?_
      refine px_iload_n (kk := 3) rfl rfl rfl ?_
      refine px_callV0 CX12_isLine [] [.int _] (vX12_isLine hn hn8) rfl gS_65 (by decide) rfl rfl rfl (Nat.le_of_ble_eq_true rfl) (by decide) ?_
      rintro _ _ - (⟨⟨a, ha, rfl⟩, rfl, rfl⟩ | ⟨ha, rfl, rfl⟩)
      · refine px_if_ne rfl (fun _ => ?_) (fun h => absurd h (by decide))
        refine px_aload_n (kk := 0) rfl rfl rfl ?_
        refine px_iload_n (kk := 1) rfl rfl rfl ?_
        refine px_callV0 CX12_rowFault [] [.int _] (vX12_rowFault hs) rfl gS_65 (by decide) rfl rfl rfl (Nat.le_of_ble_eq_true rfl) (by decide) ?_
        rintro _ _ - ⟨rfl, (⟨h98, rfl⟩ | ⟨h98, h2, rfl⟩ | ⟨h98, h2, rfl⟩)⟩
        · refine px_if_ge rfl (fun h => absurd h (by decide)) (fun _ => ?_)
          refine px_aload_n (kk := 0) rfl rfl rfl ?_
          refine px_iload_n (kk := 1) rfl rfl rfl ?_
          refine px_callV0 CX12_rowFault [] [.int _] (vX12_rowFault hs) rfl gS_65 (by decide) rfl rfl rfl (Nat.le_of_ble_eq_true rfl) (by decide) ?_
          rintro _ _ - ⟨rfl, (⟨g98, rfl⟩ | ⟨g98, g2, rfl⟩ | ⟨g98, g2, rfl⟩)⟩
          · refine px_ireturn rfl (.inl rfl) ?_
            first | exact PR_id (.inr ⟨s, hs, rfl, ⟨⟨N, hN, rfl⟩, a, ha, rfl⟩, .inl ⟨h98, rfl⟩⟩) | exact PR_id (.inr ⟨s, hs, rfl, ⟨⟨N, hN, rfl⟩, a, ha, rfl⟩, .inr (.inr ⟨h98, h2, rfl⟩)⟩) | exact absurd h98 g98 | exact absurd g98 h98 | exact absurd g2 h2 | exact absurd h2 g2 | exact PR_go (.inr ⟨s, hs, rfl, ⟨⟨N, hN, rfl⟩, a, ha, rfl⟩, .inr (.inl ⟨h98, h2, by dsimp only; rw [mN_n (by omega), mN_n (by omega), hz, mN_n (by omega)]; exact hR.1 a ha⟩)⟩) hG | exact PR_id (.inl ⟨fun h => ha h.1.2, rfl⟩) | exact PR_id (.inl ⟨fun h => hN h.1.1, rfl⟩) | exact PR_id (.inl ⟨fun h => hs h.2, rfl⟩)
          · refine px_ireturn rfl (.inl rfl) ?_
            first | exact PR_id (.inr ⟨s, hs, rfl, ⟨⟨N, hN, rfl⟩, a, ha, rfl⟩, .inl ⟨h98, rfl⟩⟩) | exact PR_id (.inr ⟨s, hs, rfl, ⟨⟨N, hN, rfl⟩, a, ha, rfl⟩, .inr (.inr ⟨h98, h2, rfl⟩)⟩) | exact absurd h98 g98 | exact absurd g98 h98 | exact absurd g2 h2 | exact absurd h2 g2 | exact PR_go (.inr ⟨s, hs, rfl, ⟨⟨N, hN, rfl⟩, a, ha, rfl⟩, .inr (.inl ⟨h98, h2, by dsimp only; rw [mN_n (by omega), mN_n (by omega), hz, mN_n (by omega)]; exact hR.1 a ha⟩)⟩) hG | exact PR_id (.inl ⟨fun h => ha h.1.2, rfl⟩) | exact PR_id (.inl ⟨fun h => hN h.1.1, rfl⟩) | exact PR_id (.inl ⟨fun h => hs h.2, rfl⟩)
          · refine px_ireturn rfl (.inl rfl) ?_
            first | exact PR_id (.inr ⟨s, hs, rfl, ⟨⟨N, hN, rfl⟩, a, ha, rfl⟩, .inl ⟨h98, rfl⟩⟩) | exact PR_id (.inr ⟨s, hs, rfl, ⟨⟨N, hN, rfl⟩, a, ha, rfl⟩, .inr (.inr ⟨h98, h2, rfl⟩)⟩) | exact absurd h98 g98 | exact absurd g98 h98 | exact absurd g2 h2 | exact absurd h2 g2 | exact PR_go (.inr ⟨s, hs, rfl, ⟨⟨N, hN, rfl⟩, a, ha, rfl⟩, .inr (.inl ⟨h98, h2, by dsimp only; rw [mN_n (by omega), mN_n (by omega), hz, mN_n (by omega)]; exact hR.1 a ha⟩)⟩) hG | exact PR_id (.inl ⟨fun h => ha h.1.2, rfl⟩) | exact PR_id (.inl ⟨fun h => hN h.1.1, rfl⟩) | exact PR_id (.inl ⟨fun h => hs h.2, rfl⟩)
        · obtain ⟨z, hz60, hz⟩ := hSZ s hs
          refine px_if_ge rfl (fun _ => ?_) (fun h => absurd h (by decide))
          refine px_aload_n (kk := 0) rfl rfl rfl ?_
          refine px_iload_n (kk := 1) rfl rfl rfl ?_
          refine px_iload_n (kk := 2) rfl rfl rfl ?_
          refine px_callV0 CX12_goDay [] [.int _, .int _] (vX12_goDay hT hL hn8 hn hs hz hz60 hN) rfl gS_65 (by decide) rfl rfl rfl (Nat.le_of_ble_eq_true rfl) (by decide) ?_
          rintro _ _ - ⟨rfl, I2, rfl, hG, hR⟩
          refine px_aload_n (kk := 0) rfl rfl rfl ?_
          refine px_getR (r := 84) rfl gS_65 rfl (gR_65_30 _) ?_
          refine px_iload_n (kk := 3) rfl rfl rfl ?_
          refine px_iald (j := a) rfl gS_84 rfl (by omega) ?_
          refine px_ireturn rfl (.inl rfl) ?_
          first | exact PR_id (.inr ⟨s, hs, rfl, ⟨⟨N, hN, rfl⟩, a, ha, rfl⟩, .inl ⟨h98, rfl⟩⟩) | exact PR_id (.inr ⟨s, hs, rfl, ⟨⟨N, hN, rfl⟩, a, ha, rfl⟩, .inr (.inr ⟨h98, h2, rfl⟩)⟩) | exact absurd h98 g98 | exact absurd g98 h98 | exact absurd g2 h2 | exact absurd h2 g2 | exact PR_go (.inr ⟨s, hs, rfl, ⟨⟨N, hN, rfl⟩, a, ha, rfl⟩, .inr (.inl ⟨h98, h2, by dsimp only; rw [mN_n (by omega), mN_n (by omega), hz, mN_n (by omega)]; exact hR.1 a ha⟩)⟩) hG | exact PR_id (.inl ⟨fun h => ha h.1.2, rfl⟩) | exact PR_id (.inl ⟨fun h => hN h.1.1, rfl⟩) | exact PR_id (.inl ⟨fun h => hs h.2, rfl⟩)
        · refine px_if_ge rfl (fun h => absurd h (by decide)) (fun _ => ?_)
          refine px_aload_n (kk := 0) rfl rfl rfl ?_
          refine px_iload_n (kk := 1) rfl rfl rfl ?_
          refine px_callV0 CX12_rowFault [] [.int _] (vX12_rowFault hs) rfl gS_65 (by decide) rfl rfl rfl (Nat.le_of_ble_eq_true rfl) (by decide) ?_
          rintro _ _ - ⟨rfl, (⟨g98, rfl⟩ | ⟨g98, g2, rfl⟩ | ⟨g98, g2, rfl⟩)⟩
          · refine px_ireturn rfl (.inl rfl) ?_
            first | exact PR_id (.inr ⟨s, hs, rfl, ⟨⟨N, hN, rfl⟩, a, ha, rfl⟩, .inl ⟨h98, rfl⟩⟩) | exact PR_id (.inr ⟨s, hs, rfl, ⟨⟨N, hN, rfl⟩, a, ha, rfl⟩, .inr (.inr ⟨h98, h2, rfl⟩)⟩) | exact absurd h98 g98 | exact absurd g98 h98 | exact absurd g2 h2 | exact absurd h2 g2 | exact PR_go (.inr ⟨s, hs, rfl, ⟨⟨N, hN, rfl⟩, a, ha, rfl⟩, .inr (.inl ⟨h98, h2, by dsimp only; rw [mN_n (by omega), mN_n (by omega), hz, mN_n (by omega)]; exact hR.1 a ha⟩)⟩) hG | exact PR_id (.inl ⟨fun h => ha h.1.2, rfl⟩) | exact PR_id (.inl ⟨fun h => hN h.1.1, rfl⟩) | exact PR_id (.inl ⟨fun h => hs h.2, rfl⟩)
          · refine px_ireturn rfl (.inl rfl) ?_
            first | exact PR_id (.inr ⟨s, hs, rfl, ⟨⟨N, hN, rfl⟩, a, ha, rfl⟩, .inl ⟨h98, rfl⟩⟩) | exact PR_id (.inr ⟨s, hs, rfl, ⟨⟨N, hN, rfl⟩, a, ha, rfl⟩, .inr (.inr ⟨h98, h2, rfl⟩)⟩) | exact absurd h98 g98 | exact absurd g98 h98 | exact absurd g2 h2 | exact absurd h2 g2 | exact PR_go (.inr ⟨s, hs, rfl, ⟨⟨N, hN, rfl⟩, a, ha, rfl⟩, .inr (.inl ⟨h98, h2, by dsimp only; rw [mN_n (by omega), mN_n (by omega), hz, mN_n (by omega)]; exact hR.1 a ha⟩)⟩) hG | exact PR_id (.inl ⟨fun h => ha h.1.2, rfl⟩) | exact PR_id (.inl ⟨fun h => hN h.1.1, rfl⟩) | exact PR_id (.inl ⟨fun h => hs h.2, rfl⟩)
          · refine px_ireturn rfl (.inl rfl) ?_
            first | exact PR_id (.inr ⟨s, hs, rfl, ⟨⟨N, hN, rfl⟩, a, ha, rfl⟩, .inl ⟨h98, rfl⟩⟩) | exact PR_id (.inr ⟨s, hs, rfl, ⟨⟨N, hN, rfl⟩, a, ha, rfl⟩, .inr (.inr ⟨h98, h2, rfl⟩)⟩) | exact absurd h98 g98 | exact absurd g98 h98 | exact absurd g2 h2 | exact absurd h2 g2 | exact PR_go (.inr ⟨s, hs, rfl, ⟨⟨N, hN, rfl⟩, a, ha, rfl⟩, .inr (.inl ⟨h98, h2, by dsimp only; rw [mN_n (by omega), mN_n (by omega), hz, mN_n (by omega)]; exact hR.1 a ha⟩)⟩) hG | exact PR_id (.inl ⟨fun h => ha h.1.2, rfl⟩) | exact PR_id (.inl ⟨fun h => hN h.1.1, rfl⟩) | exact PR_id (.inl ⟨fun h => hs h.2, rfl⟩)
      · refine px_if_ne rfl (fun h => absurd h (by decide)) (fun _ => ?_)
        refine px_iconst (v := -1) rfl k_m1 ?_
        refine px_ireturn rfl (.inl rfl) ?_
        first | exact PR_id (.inr ⟨s, hs, rfl, ⟨⟨N, hN, rfl⟩, a, ha, rfl⟩, .inl ⟨h98, rfl⟩⟩) | exact PR_id (.inr ⟨s, hs, rfl, ⟨⟨N, hN, rfl⟩, a, ha, rfl⟩, .inr (.inr ⟨h98, h2, rfl⟩)⟩) | exact absurd h98 g98 | exact absurd g98 h98 | exact absurd g2 h2 | exact absurd h2 g2 | exact PR_go (.inr ⟨s, hs, rfl, ⟨⟨N, hN, rfl⟩, a, ha, rfl⟩, .inr (.inl ⟨h98, h2, by dsimp only; rw [mN_n (by omega), mN_n (by omega), hz, mN_n (by omega)]; exact hR.1 a ha⟩)⟩) hG | exact PR_id (.inl ⟨fun h => ha h.1.2, rfl⟩) | exact PR_id (.inl ⟨fun h => hN h.1.1, rfl⟩) | exact PR_id (.inl ⟨fun h => hs h.2, rfl⟩)
    · refine px_if_eq rfl (fun _ => ?_) (fun h => absurd h (by decide))
      refine px_iconst (v := -1) rfl k_m1 ?_
      refine px_ireturn rfl (.inl rfl) ?_
      first | exact PR_id (.inr ⟨s, hs, rfl, ⟨⟨N, hN, rfl⟩, a, ha, rfl⟩, .inl ⟨h98, rfl⟩⟩) | exact PR_id (.inr ⟨s, hs, rfl, ⟨⟨N, hN, rfl⟩, a, ha, rfl⟩, .inr (.inr ⟨h98, h2, rfl⟩)⟩) | exact absurd h98 g98 | exact absurd g98 h98 | exact absurd g2 h2 | exact absurd h2 g2 | exact PR_go (.inr ⟨s, hs, rfl, ⟨⟨N, hN, rfl⟩, a, ha, rfl⟩, .inr (.inl ⟨h98, h2, by dsimp only; rw [mN_n (by omega), mN_n (by omega), hz, mN_n (by omega)]; exact hR.1 a ha⟩)⟩) hG | exact PR_id (.inl ⟨fun h => ha h.1.2, rfl⟩) | exact PR_id (.inl ⟨fun h => hN h.1.1, rfl⟩) | exact PR_id (.inl ⟨fun h => hs h.2, rfl⟩)
  · refine px_if_eq rfl (fun _ => ?_) (fun h => absurd h (by decide))
    refine px_iconst (v := -1) rfl k_m1 ?_
    refine px_ireturn rfl (.inl rfl) ?_
    first | exact PR_id (.inr ⟨s, hs, rfl, ⟨⟨N, hN, rfl⟩, a, ha, rfl⟩, .inl ⟨h98, rfl⟩⟩) | exact PR_id (.inr ⟨s, hs, rfl, ⟨⟨N, hN, rfl⟩, a, ha, rfl⟩, .inr (.inr ⟨h98, h2, rfl⟩)⟩) | exact absurd h98 g98 | exact absurd g98 h98 | exact absurd g2 h2 | exact absurd h2 g2 | exact PR_go (.inr ⟨s, hs, rfl, ⟨⟨N, hN, rfl⟩, a, ha, rfl⟩, .inr (.inl ⟨h98, h2, by dsimp only; rw [mN_n (by omega), mN_n (by omega), hz, mN_n (by omega)]; exact hR.1 a ha⟩)⟩) hG | exact PR_id (.inl ⟨fun h => ha h.1.2, rfl⟩) | exact PR_id (.inl ⟨fun h => hN h.1.1, rfl⟩) | exact PR_id (.inl ⟨fun h => hs h.2, rfl⟩)
theorem vX12_have {I : Nat → Nat → Int32} {J : Nat → Nat → Int64} {p : Bool × Option Nat} {ro : List (Nat × Nat × (Nat → Int32))} {tx : List Ln} (hT : LawR tx I) {n : Nat} (hn : I 65 1 = nI n) (hn8 : n ≤ 8) (hL : LK n (I 69)) (hSZ : ∀ s, s < 6 → ∃ z, z ≤ 60 ∧ I 99 s = nI z) {x y w : Int32} : Pv 7 0 0 CX12_have [.ref (65), .int (x), .int (y), .int (w)] (gS, I, J, gR p, ro) (PR (DAY ((∃ N, N ≤ 60 ∧ y = nI N) ∧ (w = nI 0 ∨ w = nI 1)) x (fun s => I 98 s = -1) (fun s => I 98 s = -2) (fun s => if w = nI 0 then sp_bits (fun l => decide (I 67 l ≤ (sp_days tx n (I 69) (I 68) (I 65 7) (I 65 6) (fun j => (J 100 (60 * s + j)).toInt32) (mN (I 99 s)) (wiC (-1)) (mN y) (D0 (I 66))).1 l)) n else (sp_days tx n (I 69) (I 68) (I 65 7) (I 65 6) (fun j => (J 100 (60 * s + j)).toInt32) (mN (I 99 s)) (wiC (-1)) (mN y) (D0 (I 66))).2.2.2.1)) I J p ro) := by
  refine ⟨okCX12_have, Nat.le_of_ble_eq_true rfl, (show Px _ _ _ _ 0 [some (.ref (65)), some (.int (x)), some (.int (y)), some (.int (w))] [] _ _ from ?_)⟩
  refine px_iload_n (kk := 1) rfl rfl rfl ?_
  refine px_callS0 CX12_isShelf [] [.int _] (vX12_isShelf) rfl rfl rfl (Nat.le_of_ble_eq_true rfl) (by decide) ?_
  rintro _ _ - (⟨⟨s, hs, rfl⟩, rfl, rfl⟩ | ⟨hs, rfl, rfl⟩)
  · refine px_if_eq rfl (fun h => absurd h (by decide)) (fun _ => ?_)
    refine px_iload_n (kk := 2) rfl rfl rfl ?_
    refine px_callS0 CX12_areHours [] [.int _] (vX12_areHours) rfl rfl rfl (Nat.le_of_ble_eq_true rfl) (by decide) ?_
    rintro _ _ - (⟨⟨N, hN, rfl⟩, rfl, rfl⟩ | ⟨hN, rfl, rfl⟩)
    · refine px_if_eq rfl (fun h => absurd h (by decide)) (fun _ => ?_)
      refine px_iload_n (kk := 3) rfl rfl rfl ?_
      refine px_iconst (v := nI 0) rfl k_0 ?_
      refine px_iconst (v := nI 1) rfl k_1 ?_
      refine px_callS0 CX12_in [] [.int _, .int _, .int _] (vX12_in) rfl rfl rfl (Nat.le_of_ble_eq_true rfl) (by decide) ?_
      rintro _ _ - (⟨h01, rfl, rfl⟩ | ⟨h01, rfl, rfl⟩)
      · have hei : w = nI 0 ∨ w = nI 1 := by
          obtain ⟨e, _, he, rfl⟩ := (in_nn (by decide) (by decide)).mp h01
          rcases (by omega : e = 0 ∨ e = 1) with rfl | rfl
          · exact .inl rfl
          · exact .inr rfl
        refine px_if_ne rfl (fun _ => ?_) (fun h => absurd h (by decide))
        refine px_aload_n (kk := 0) rfl rfl rfl ?_
        refine px_iload_n (kk := 1) rfl rfl rfl ?_
        refine px_callV0 CX12_rowFault [] [.int _] (vX12_rowFault hs) rfl gS_65 (by decide) rfl rfl rfl (Nat.le_of_ble_eq_true rfl) (by decide) ?_
        rintro _ _ - ⟨rfl, (⟨h98, rfl⟩ | ⟨h98, h2, rfl⟩ | ⟨h98, h2, rfl⟩)⟩
        · refine px_if_ge rfl (fun h => absurd h (by decide)) (fun _ => ?_)
          refine px_aload_n (kk := 0) rfl rfl rfl ?_
          refine px_iload_n (kk := 1) rfl rfl rfl ?_
          refine px_callV0 CX12_rowFault [] [.int _] (vX12_rowFault hs) rfl gS_65 (by decide) rfl rfl rfl (Nat.le_of_ble_eq_true rfl) (by decide) ?_
          rintro _ _ - ⟨rfl, (⟨g98, rfl⟩ | ⟨g98, g2, rfl⟩ | ⟨g98, g2, rfl⟩)⟩
          · refine px_ireturn rfl (.inl rfl) ?_
            first | exact PR_id (.inr ⟨s, hs, rfl, ⟨⟨N, hN, rfl⟩, hei⟩, .inl ⟨h98, rfl⟩⟩) | exact PR_id (.inr ⟨s, hs, rfl, ⟨⟨N, hN, rfl⟩, hei⟩, .inr (.inr ⟨h98, h2, rfl⟩)⟩) | exact absurd h98 g98 | exact absurd g98 h98 | exact absurd g2 h2 | exact absurd h2 g2 | exact PR_go (.inr ⟨s, hs, rfl, ⟨⟨N, hN, rfl⟩, hei⟩, .inr (.inl ⟨h98, h2, by dsimp only; rw [if_neg (fun e => c26 (by rw [n_0]; exact e)), mN_n (by omega), hz, mN_n (by omega)]; exact hR.2.2.2.1⟩)⟩) hG | exact PR_go (.inr ⟨s, hs, rfl, ⟨⟨N, hN, rfl⟩, hei⟩, .inr (.inl ⟨h98, h2, by dsimp only; rw [if_pos (show w = nI 0 by rw [← n_0]; first | exact c26 | exact Classical.byContradiction c26), mN_n (by omega), hz, mN_n (by omega)]; rw [hG.1 67 (by decide)]; exact sp_bits_congr (fun l hl => by rw [hR.1 l hl])⟩)⟩) hG | exact PR_id (.inl ⟨fun h => hei h.1.2, rfl⟩) | exact PR_id (.inl ⟨fun h => hN h.1.1, rfl⟩) | exact PR_id (.inl ⟨fun h => hs h.2, rfl⟩)
          · refine px_ireturn rfl (.inl rfl) ?_
            first | exact PR_id (.inr ⟨s, hs, rfl, ⟨⟨N, hN, rfl⟩, hei⟩, .inl ⟨h98, rfl⟩⟩) | exact PR_id (.inr ⟨s, hs, rfl, ⟨⟨N, hN, rfl⟩, hei⟩, .inr (.inr ⟨h98, h2, rfl⟩)⟩) | exact absurd h98 g98 | exact absurd g98 h98 | exact absurd g2 h2 | exact absurd h2 g2 | exact PR_go (.inr ⟨s, hs, rfl, ⟨⟨N, hN, rfl⟩, hei⟩, .inr (.inl ⟨h98, h2, by dsimp only; rw [if_neg (fun e => c26 (by rw [n_0]; exact e)), mN_n (by omega), hz, mN_n (by omega)]; exact hR.2.2.2.1⟩)⟩) hG | exact PR_go (.inr ⟨s, hs, rfl, ⟨⟨N, hN, rfl⟩, hei⟩, .inr (.inl ⟨h98, h2, by dsimp only; rw [if_pos (show w = nI 0 by rw [← n_0]; first | exact c26 | exact Classical.byContradiction c26), mN_n (by omega), hz, mN_n (by omega)]; rw [hG.1 67 (by decide)]; exact sp_bits_congr (fun l hl => by rw [hR.1 l hl])⟩)⟩) hG | exact PR_id (.inl ⟨fun h => hei h.1.2, rfl⟩) | exact PR_id (.inl ⟨fun h => hN h.1.1, rfl⟩) | exact PR_id (.inl ⟨fun h => hs h.2, rfl⟩)
          · refine px_ireturn rfl (.inl rfl) ?_
            first | exact PR_id (.inr ⟨s, hs, rfl, ⟨⟨N, hN, rfl⟩, hei⟩, .inl ⟨h98, rfl⟩⟩) | exact PR_id (.inr ⟨s, hs, rfl, ⟨⟨N, hN, rfl⟩, hei⟩, .inr (.inr ⟨h98, h2, rfl⟩)⟩) | exact absurd h98 g98 | exact absurd g98 h98 | exact absurd g2 h2 | exact absurd h2 g2 | exact PR_go (.inr ⟨s, hs, rfl, ⟨⟨N, hN, rfl⟩, hei⟩, .inr (.inl ⟨h98, h2, by dsimp only; rw [if_neg (fun e => c26 (by rw [n_0]; exact e)), mN_n (by omega), hz, mN_n (by omega)]; exact hR.2.2.2.1⟩)⟩) hG | exact PR_go (.inr ⟨s, hs, rfl, ⟨⟨N, hN, rfl⟩, hei⟩, .inr (.inl ⟨h98, h2, by dsimp only; rw [if_pos (show w = nI 0 by rw [← n_0]; first | exact c26 | exact Classical.byContradiction c26), mN_n (by omega), hz, mN_n (by omega)]; rw [hG.1 67 (by decide)]; exact sp_bits_congr (fun l hl => by rw [hR.1 l hl])⟩)⟩) hG | exact PR_id (.inl ⟨fun h => hei h.1.2, rfl⟩) | exact PR_id (.inl ⟨fun h => hN h.1.1, rfl⟩) | exact PR_id (.inl ⟨fun h => hs h.2, rfl⟩)
        · obtain ⟨z, hz60, hz⟩ := hSZ s hs
          refine px_if_ge rfl (fun _ => ?_) (fun h => absurd h (by decide))
          refine px_aload_n (kk := 0) rfl rfl rfl ?_
          refine px_iload_n (kk := 1) rfl rfl rfl ?_
          refine px_iload_n (kk := 2) rfl rfl rfl ?_
          refine px_callV0 CX12_goDay [] [.int _, .int _] (vX12_goDay hT hL hn8 hn hs hz hz60 hN) rfl gS_65 (by decide) rfl rfl rfl (Nat.le_of_ble_eq_true rfl) (by decide) ?_
          rintro _ _ - ⟨rfl, I2, rfl, hG, hR⟩
          refine px_iload_n (kk := 3) rfl rfl rfl ?_
          refine px_if_ne rfl (fun c26 => ?_) (fun c26 => ?_)
          · refine px_aload_n (kk := 0) rfl rfl rfl ?_
            refine px_getI rfl gS_65 rfl ?_
            refine px_ireturn rfl (.inl rfl) ?_
            first | exact PR_id (.inr ⟨s, hs, rfl, ⟨⟨N, hN, rfl⟩, hei⟩, .inl ⟨h98, rfl⟩⟩) | exact PR_id (.inr ⟨s, hs, rfl, ⟨⟨N, hN, rfl⟩, hei⟩, .inr (.inr ⟨h98, h2, rfl⟩)⟩) | exact absurd h98 g98 | exact absurd g98 h98 | exact absurd g2 h2 | exact absurd h2 g2 | exact PR_go (.inr ⟨s, hs, rfl, ⟨⟨N, hN, rfl⟩, hei⟩, .inr (.inl ⟨h98, h2, by dsimp only; rw [if_neg (fun e => c26 (by rw [n_0]; exact e)), mN_n (by omega), hz, mN_n (by omega)]; exact hR.2.2.2.1⟩)⟩) hG | exact PR_go (.inr ⟨s, hs, rfl, ⟨⟨N, hN, rfl⟩, hei⟩, .inr (.inl ⟨h98, h2, by dsimp only; rw [if_pos (show w = nI 0 by rw [← n_0]; first | exact c26 | exact Classical.byContradiction c26), mN_n (by omega), hz, mN_n (by omega)]; rw [hG.1 67 (by decide)]; exact sp_bits_congr (fun l hl => by rw [hR.1 l hl])⟩)⟩) hG | exact PR_id (.inl ⟨fun h => hei h.1.2, rfl⟩) | exact PR_id (.inl ⟨fun h => hN h.1.1, rfl⟩) | exact PR_id (.inl ⟨fun h => hs h.2, rfl⟩)
          · refine px_aload_n (kk := 0) rfl rfl rfl ?_
            refine px_callV0 CX12_haveNeeds [] [] (vX12_haveNeeds ((hG.2.1 1 (by decide) (by decide) (by decide)).trans hn) hn8) rfl gS_65 (by decide) rfl rfl rfl (Nat.le_of_ble_eq_true rfl) (by decide) ?_
            rintro _ _ - ⟨rfl, rfl⟩
            refine px_goto rfl ?_
            refine px_ireturn rfl (.inl rfl) ?_
            first | exact PR_id (.inr ⟨s, hs, rfl, ⟨⟨N, hN, rfl⟩, hei⟩, .inl ⟨h98, rfl⟩⟩) | exact PR_id (.inr ⟨s, hs, rfl, ⟨⟨N, hN, rfl⟩, hei⟩, .inr (.inr ⟨h98, h2, rfl⟩)⟩) | exact absurd h98 g98 | exact absurd g98 h98 | exact absurd g2 h2 | exact absurd h2 g2 | exact PR_go (.inr ⟨s, hs, rfl, ⟨⟨N, hN, rfl⟩, hei⟩, .inr (.inl ⟨h98, h2, by dsimp only; rw [if_neg (fun e => c26 (by rw [n_0]; exact e)), mN_n (by omega), hz, mN_n (by omega)]; exact hR.2.2.2.1⟩)⟩) hG | exact PR_go (.inr ⟨s, hs, rfl, ⟨⟨N, hN, rfl⟩, hei⟩, .inr (.inl ⟨h98, h2, by dsimp only; rw [if_pos (show w = nI 0 by rw [← n_0]; first | exact c26 | exact Classical.byContradiction c26), mN_n (by omega), hz, mN_n (by omega)]; rw [hG.1 67 (by decide)]; exact sp_bits_congr (fun l hl => by rw [hR.1 l hl])⟩)⟩) hG | exact PR_id (.inl ⟨fun h => hei h.1.2, rfl⟩) | exact PR_id (.inl ⟨fun h => hN h.1.1, rfl⟩) | exact PR_id (.inl ⟨fun h => hs h.2, rfl⟩)
        · refine px_if_ge rfl (fun h => absurd h (by decide)) (fun _ => ?_)
          refine px_aload_n (kk := 0) rfl rfl rfl ?_
          refine px_iload_n (kk := 1) rfl rfl rfl ?_
          refine px_callV0 CX12_rowFault [] [.int _] (vX12_rowFault hs) rfl gS_65 (by decide) rfl rfl rfl (Nat.le_of_ble_eq_true rfl) (by decide) ?_
          rintro _ _ - ⟨rfl, (⟨g98, rfl⟩ | ⟨g98, g2, rfl⟩ | ⟨g98, g2, rfl⟩)⟩
          · refine px_ireturn rfl (.inl rfl) ?_
            first | exact PR_id (.inr ⟨s, hs, rfl, ⟨⟨N, hN, rfl⟩, hei⟩, .inl ⟨h98, rfl⟩⟩) | exact PR_id (.inr ⟨s, hs, rfl, ⟨⟨N, hN, rfl⟩, hei⟩, .inr (.inr ⟨h98, h2, rfl⟩)⟩) | exact absurd h98 g98 | exact absurd g98 h98 | exact absurd g2 h2 | exact absurd h2 g2 | exact PR_go (.inr ⟨s, hs, rfl, ⟨⟨N, hN, rfl⟩, hei⟩, .inr (.inl ⟨h98, h2, by dsimp only; rw [if_neg (fun e => c26 (by rw [n_0]; exact e)), mN_n (by omega), hz, mN_n (by omega)]; exact hR.2.2.2.1⟩)⟩) hG | exact PR_go (.inr ⟨s, hs, rfl, ⟨⟨N, hN, rfl⟩, hei⟩, .inr (.inl ⟨h98, h2, by dsimp only; rw [if_pos (show w = nI 0 by rw [← n_0]; first | exact c26 | exact Classical.byContradiction c26), mN_n (by omega), hz, mN_n (by omega)]; rw [hG.1 67 (by decide)]; exact sp_bits_congr (fun l hl => by rw [hR.1 l hl])⟩)⟩) hG | exact PR_id (.inl ⟨fun h => hei h.1.2, rfl⟩) | exact PR_id (.inl ⟨fun h => hN h.1.1, rfl⟩) | exact PR_id (.inl ⟨fun h => hs h.2, rfl⟩)
          · refine px_ireturn rfl (.inl rfl) ?_
            first | exact PR_id (.inr ⟨s, hs, rfl, ⟨⟨N, hN, rfl⟩, hei⟩, .inl ⟨h98, rfl⟩⟩) | exact PR_id (.inr ⟨s, hs, rfl, ⟨⟨N, hN, rfl⟩, hei⟩, .inr (.inr ⟨h98, h2, rfl⟩)⟩) | exact absurd h98 g98 | exact absurd g98 h98 | exact absurd g2 h2 | exact absurd h2 g2 | exact PR_go (.inr ⟨s, hs, rfl, ⟨⟨N, hN, rfl⟩, hei⟩, .inr (.inl ⟨h98, h2, by dsimp only; rw [if_neg (fun e => c26 (by rw [n_0]; exact e)), mN_n (by omega), hz, mN_n (by omega)]; exact hR.2.2.2.1⟩)⟩) hG | exact PR_go (.inr ⟨s, hs, rfl, ⟨⟨N, hN, rfl⟩, hei⟩, .inr (.inl ⟨h98, h2, by dsimp only; rw [if_pos (show w = nI 0 by rw [← n_0]; first | exact c26 | exact Classical.byContradiction c26), mN_n (by omega), hz, mN_n (by omega)]; rw [hG.1 67 (by decide)]; exact sp_bits_congr (fun l hl => by rw [hR.1 l hl])⟩)⟩) hG | exact PR_id (.inl ⟨fun h => hei h.1.2, rfl⟩) | exact PR_id (.inl ⟨fun h => hN h.1.1, rfl⟩) | exact PR_id (.inl ⟨fun h => hs h.2, rfl⟩)
          · refine px_ireturn rfl (.inl rfl) ?_
            first | exact PR_id (.inr ⟨s, hs, rfl, ⟨⟨N, hN, rfl⟩, hei⟩, .inl ⟨h98, rfl⟩⟩) | exact PR_id (.inr ⟨s, hs, rfl, ⟨⟨N, hN, rfl⟩, hei⟩, .inr (.inr ⟨h98, h2, rfl⟩)⟩) | exact absurd h98 g98 | exact absurd g98 h98 | exact absurd g2 h2 | exact absurd h2 g2 | exact PR_go (.inr ⟨s, hs, rfl, ⟨⟨N, hN, rfl⟩, hei⟩, .inr (.inl ⟨h98, h2, by dsimp only; rw [if_neg (fun e => c26 (by rw [n_0]; exact e)), mN_n (by omega), hz, mN_n (by omega)]; exact hR.2.2.2.1⟩)⟩) hG | exact PR_go (.inr ⟨s, hs, rfl, ⟨⟨N, hN, rfl⟩, hei⟩, .inr (.inl ⟨h98, h2, by dsimp only; rw [if_pos (show w = nI 0 by rw [← n_0]; first | exact c26 | exact Classical.byContradiction c26), mN_n (by omega), hz, mN_n (by omega)]; rw [hG.1 67 (by decide)]; exact sp_bits_congr (fun l hl => by rw [hR.1 l hl])⟩)⟩) hG | exact PR_id (.inl ⟨fun h => hei h.1.2, rfl⟩) | exact PR_id (.inl ⟨fun h => hN h.1.1, rfl⟩) | exact PR_id (.inl ⟨fun h => hs h.2, rfl⟩)
      · have hei : ¬ (w = nI 0 ∨ w = nI 1) := fun h => h01 ((in_nn (by decide) (by decide)).mpr (h.elim (fun e => ⟨0, by decide, by decide, e⟩) (fun e => ⟨1, by decide, by decide, e⟩)))
        refine px_if_ne rfl (fun h => absurd h (by decide)) (fun _ => ?_)
        refine px_iconst (v := -1) rfl k_m1 ?_
        refine px_ireturn rfl (.inl rfl) ?_
        first | exact PR_id (.inr ⟨s, hs, rfl, ⟨⟨N, hN, rfl⟩, hei⟩, .inl ⟨h98, rfl⟩⟩) | exact PR_id (.inr ⟨s, hs, rfl, ⟨⟨N, hN, rfl⟩, hei⟩, .inr (.inr ⟨h98, h2, rfl⟩)⟩) | exact absurd h98 g98 | exact absurd g98 h98 | exact absurd g2 h2 | exact absurd h2 g2 | exact PR_go (.inr ⟨s, hs, rfl, ⟨⟨N, hN, rfl⟩, hei⟩, .inr (.inl ⟨h98, h2, by dsimp only; rw [if_neg (fun e => c26 (by rw [n_0]; exact e)), mN_n (by omega), hz, mN_n (by omega)]; exact hR.2.2.2.1⟩)⟩) hG | exact PR_go (.inr ⟨s, hs, rfl, ⟨⟨N, hN, rfl⟩, hei⟩, .inr (.inl ⟨h98, h2, by dsimp only; rw [if_pos (show w = nI 0 by rw [← n_0]; first | exact c26 | exact Classical.byContradiction c26), mN_n (by omega), hz, mN_n (by omega)]; rw [hG.1 67 (by decide)]; exact sp_bits_congr (fun l hl => by rw [hR.1 l hl])⟩)⟩) hG | exact PR_id (.inl ⟨fun h => hei h.1.2, rfl⟩) | exact PR_id (.inl ⟨fun h => hN h.1.1, rfl⟩) | exact PR_id (.inl ⟨fun h => hs h.2, rfl⟩)
    · refine px_if_eq rfl (fun _ => ?_) (fun h => absurd h (by decide))
      refine px_iconst (v := -1) rfl k_m1 ?_
      refine px_ireturn rfl (.inl rfl) ?_
      first | exact PR_id (.inr ⟨s, hs, rfl, ⟨⟨N, hN, rfl⟩, hei⟩, .inl ⟨h98, rfl⟩⟩) | exact PR_id (.inr ⟨s, hs, rfl, ⟨⟨N, hN, rfl⟩, hei⟩, .inr (.inr ⟨h98, h2, rfl⟩)⟩) | exact absurd h98 g98 | exact absurd g98 h98 | exact absurd g2 h2 | exact absurd h2 g2 | exact PR_go (.inr ⟨s, hs, rfl, ⟨⟨N, hN, rfl⟩, hei⟩, .inr (.inl ⟨h98, h2, by dsimp only; rw [if_neg (fun e => c26 (by rw [n_0]; exact e)), mN_n (by omega), hz, mN_n (by omega)]; exact hR.2.2.2.1⟩)⟩) hG | exact PR_go (.inr ⟨s, hs, rfl, ⟨⟨N, hN, rfl⟩, hei⟩, .inr (.inl ⟨h98, h2, by dsimp only; rw [if_pos (show w = nI 0 by rw [← n_0]; first | exact c26 | exact Classical.byContradiction c26), mN_n (by omega), hz, mN_n (by omega)]; rw [hG.1 67 (by decide)]; exact sp_bits_congr (fun l hl => by rw [hR.1 l hl])⟩)⟩) hG | exact PR_id (.inl ⟨fun h => hei h.1.2, rfl⟩) | exact PR_id (.inl ⟨fun h => hN h.1.1, rfl⟩) | exact PR_id (.inl ⟨fun h => hs h.2, rfl⟩)
  · refine px_if_eq rfl (fun _ => ?_) (fun h => absurd h (by decide))
    refine px_iconst (v := -1) rfl k_m1 ?_
    refine px_ireturn rfl (.inl rfl) ?_
    first | exact PR_id (.inr ⟨s, hs, rfl, ⟨⟨N, hN, rfl⟩, hei⟩, .inl ⟨h98, rfl⟩⟩) | exact PR_id (.inr ⟨s, hs, rfl, ⟨⟨N, hN, rfl⟩, hei⟩, .inr (.inr ⟨h98, h2, rfl⟩)⟩) | exact absurd h98 g98 | exact absurd g98 h98 | exact absurd g2 h2 | exact absurd h2 g2 | exact PR_go (.inr ⟨s, hs, rfl, ⟨⟨N, hN, rfl⟩, hei⟩, .inr (.inl ⟨h98, h2, by dsimp only; rw [if_neg (fun e => c26 (by rw [n_0]; exact e)), mN_n (by omega), hz, mN_n (by omega)]; exact hR.2.2.2.1⟩)⟩) hG | exact PR_go (.inr ⟨s, hs, rfl, ⟨⟨N, hN, rfl⟩, hei⟩, .inr (.inl ⟨h98, h2, by dsimp only; rw [if_pos (show w = nI 0 by rw [← n_0]; first | exact c26 | exact Classical.byContradiction c26), mN_n (by omega), hz, mN_n (by omega)]; rw [hG.1 67 (by decide)]; exact sp_bits_congr (fun l hl => by rw [hR.1 l hl])⟩)⟩) hG | exact PR_id (.inl ⟨fun h => hei h.1.2, rfl⟩) | exact PR_id (.inl ⟨fun h => hN h.1.1, rfl⟩) | exact PR_id (.inl ⟨fun h => hs h.2, rfl⟩)
theorem vX12_through {I : Nat → Nat → Int32} {J : Nat → Nat → Int64} {p : Bool × Option Nat} {ro : List (Nat × Nat × (Nat → Int32))} {tx : List Ln} (hT : LawR tx I) {n : Nat} (hn : I 65 1 = nI n) (hn8 : n ≤ 8) (hL : LK n (I 69)) (hSZ : ∀ s, s < 6 → ∃ z, z ≤ 60 ∧ I 99 s = nI z) {x y w : Int32} : Pv 7 0 0 CX12_through [.ref (65), .int (x), .int (y), .int (w)] (gS, I, J, gR p, ro) (PR (DAY ((∃ N, N ≤ 60 ∧ y = nI N) ∧ ∃ a b, a < n ∧ b < n ∧ a ≠ b ∧ w = nI (10 * a + b)) x (fun s => I 98 s = -1) (fun s => I 98 s = -2) (fun s => if (sp_days tx n (I 69) (I 68) (I 65 7) (I 65 6) (fun j => (J 100 (60 * s + j)).toInt32) (mN (I 99 s)) (wiC (-1)) (mN y) (D0 (I 66))).2.1 (mN w / 10) = nI (mN w % 10) then (sp_days tx n (I 69) (I 68) (I 65 7) (I 65 6) (fun j => (J 100 (60 * s + j)).toInt32) (mN (I 99 s)) (wiC (-1)) (mN y) (D0 (I 66))).2.2.1 (mN w / 10) else nI 0)) I J p ro) := by
  refine ⟨okCX12_through, Nat.le_of_ble_eq_true rfl, (show Px _ _ _ _ 0 [some (.ref (65)), some (.int (x)), some (.int (y)), some (.int (w))] [] _ _ from ?_)⟩
  refine px_iload_n (kk := 1) rfl rfl rfl ?_
  refine px_callS0 CX12_isShelf [] [.int _] (vX12_isShelf) rfl rfl rfl (Nat.le_of_ble_eq_true rfl) (by decide) ?_
  rintro _ _ - (⟨⟨s, hs, rfl⟩, rfl, rfl⟩ | ⟨hs, rfl, rfl⟩)
  · refine px_if_eq rfl (fun h => absurd h (by decide)) (fun _ => ?_)
    refine px_iload_n (kk := 2) rfl rfl rfl ?_
    refine px_callS0 CX12_areHours [] [.int _] (vX12_areHours) rfl rfl rfl (Nat.le_of_ble_eq_true rfl) (by decide) ?_
    rintro _ _ - (⟨⟨N, hN, rfl⟩, rfl, rfl⟩ | ⟨hN, rfl, rfl⟩)
    · refine px_if_eq rfl (fun h => absurd h (by decide)) (fun _ => ?_)
      refine px_aload_n (kk := 0) rfl rfl rfl ?_
      refine px_iload_n (kk := 3) rfl rfl rfl ?_
      refine px_callV0 CX12_areTwo [] [.int _] (vX12_areTwo hn hn8) rfl gS_65 (by decide) rfl rfl rfl (Nat.le_of_ble_eq_true rfl) (by decide) ?_
      rintro _ _ - (⟨⟨a, b, ha, hbn, hne, rfl⟩, rfl, rfl⟩ | ⟨ha, rfl, rfl⟩)
      · refine px_if_ne rfl (fun _ => ?_) (fun h => absurd h (by decide))
        refine px_aload_n (kk := 0) rfl rfl rfl ?_
        refine px_iload_n (kk := 1) rfl rfl rfl ?_
        refine px_callV0 CX12_rowFault [] [.int _] (vX12_rowFault hs) rfl gS_65 (by decide) rfl rfl rfl (Nat.le_of_ble_eq_true rfl) (by decide) ?_
        rintro _ _ - ⟨rfl, (⟨h98, rfl⟩ | ⟨h98, h2, rfl⟩ | ⟨h98, h2, rfl⟩)⟩
        · refine px_if_ge rfl (fun h => absurd h (by decide)) (fun _ => ?_)
          refine px_aload_n (kk := 0) rfl rfl rfl ?_
          refine px_iload_n (kk := 1) rfl rfl rfl ?_
          refine px_callV0 CX12_rowFault [] [.int _] (vX12_rowFault hs) rfl gS_65 (by decide) rfl rfl rfl (Nat.le_of_ble_eq_true rfl) (by decide) ?_
          rintro _ _ - ⟨rfl, (⟨g98, rfl⟩ | ⟨g98, g2, rfl⟩ | ⟨g98, g2, rfl⟩)⟩
          · refine px_ireturn rfl (.inl rfl) ?_
            first | exact PR_id (.inr ⟨s, hs, rfl, ⟨⟨N, hN, rfl⟩, a, b, ha, hbn, hne, rfl⟩, .inl ⟨h98, rfl⟩⟩) | exact PR_id (.inr ⟨s, hs, rfl, ⟨⟨N, hN, rfl⟩, a, b, ha, hbn, hne, rfl⟩, .inr (.inr ⟨h98, h2, rfl⟩)⟩) | exact absurd h98 g98 | exact absurd g98 h98 | exact absurd g2 h2 | exact absurd h2 g2 | exact PR_go (.inr ⟨s, hs, rfl, ⟨⟨N, hN, rfl⟩, a, b, ha, hbn, hne, rfl⟩, .inr (.inl ⟨h98, h2, by dsimp only; rw [mN_n (by omega), mN_n (by omega), hz, mN_n (by omega), if_neg (by rw [← hR.2.1 _ (by omega)]; exact c33)]⟩)⟩) hG | exact PR_go (.inr ⟨s, hs, rfl, ⟨⟨N, hN, rfl⟩, a, b, ha, hbn, hne, rfl⟩, .inr (.inl ⟨h98, h2, by dsimp only; rw [mN_n (by omega), mN_n (by omega), hz, mN_n (by omega), if_pos (by rw [← hR.2.1 _ (by omega)]; first | exact c33 | exact Classical.byContradiction c33)]; exact hR.2.2.1 _ (by omega) (by rw [← hR.2.1 _ (by omega), (show I2 85 ((10 * a + b) / 10) = nI ((10 * a + b) % 10) from by first | exact c33 | exact Classical.byContradiction c33)]; exact nI_nm (by omega))⟩)⟩) hG | exact PR_id (.inl ⟨fun h => ha h.1.2, rfl⟩) | exact PR_id (.inl ⟨fun h => hN h.1.1, rfl⟩) | exact PR_id (.inl ⟨fun h => hs h.2, rfl⟩)
          · refine px_ireturn rfl (.inl rfl) ?_
            first | exact PR_id (.inr ⟨s, hs, rfl, ⟨⟨N, hN, rfl⟩, a, b, ha, hbn, hne, rfl⟩, .inl ⟨h98, rfl⟩⟩) | exact PR_id (.inr ⟨s, hs, rfl, ⟨⟨N, hN, rfl⟩, a, b, ha, hbn, hne, rfl⟩, .inr (.inr ⟨h98, h2, rfl⟩)⟩) | exact absurd h98 g98 | exact absurd g98 h98 | exact absurd g2 h2 | exact absurd h2 g2 | exact PR_go (.inr ⟨s, hs, rfl, ⟨⟨N, hN, rfl⟩, a, b, ha, hbn, hne, rfl⟩, .inr (.inl ⟨h98, h2, by dsimp only; rw [mN_n (by omega), mN_n (by omega), hz, mN_n (by omega), if_neg (by rw [← hR.2.1 _ (by omega)]; exact c33)]⟩)⟩) hG | exact PR_go (.inr ⟨s, hs, rfl, ⟨⟨N, hN, rfl⟩, a, b, ha, hbn, hne, rfl⟩, .inr (.inl ⟨h98, h2, by dsimp only; rw [mN_n (by omega), mN_n (by omega), hz, mN_n (by omega), if_pos (by rw [← hR.2.1 _ (by omega)]; first | exact c33 | exact Classical.byContradiction c33)]; exact hR.2.2.1 _ (by omega) (by rw [← hR.2.1 _ (by omega), (show I2 85 ((10 * a + b) / 10) = nI ((10 * a + b) % 10) from by first | exact c33 | exact Classical.byContradiction c33)]; exact nI_nm (by omega))⟩)⟩) hG | exact PR_id (.inl ⟨fun h => ha h.1.2, rfl⟩) | exact PR_id (.inl ⟨fun h => hN h.1.1, rfl⟩) | exact PR_id (.inl ⟨fun h => hs h.2, rfl⟩)
          · refine px_ireturn rfl (.inl rfl) ?_
            first | exact PR_id (.inr ⟨s, hs, rfl, ⟨⟨N, hN, rfl⟩, a, b, ha, hbn, hne, rfl⟩, .inl ⟨h98, rfl⟩⟩) | exact PR_id (.inr ⟨s, hs, rfl, ⟨⟨N, hN, rfl⟩, a, b, ha, hbn, hne, rfl⟩, .inr (.inr ⟨h98, h2, rfl⟩)⟩) | exact absurd h98 g98 | exact absurd g98 h98 | exact absurd g2 h2 | exact absurd h2 g2 | exact PR_go (.inr ⟨s, hs, rfl, ⟨⟨N, hN, rfl⟩, a, b, ha, hbn, hne, rfl⟩, .inr (.inl ⟨h98, h2, by dsimp only; rw [mN_n (by omega), mN_n (by omega), hz, mN_n (by omega), if_neg (by rw [← hR.2.1 _ (by omega)]; exact c33)]⟩)⟩) hG | exact PR_go (.inr ⟨s, hs, rfl, ⟨⟨N, hN, rfl⟩, a, b, ha, hbn, hne, rfl⟩, .inr (.inl ⟨h98, h2, by dsimp only; rw [mN_n (by omega), mN_n (by omega), hz, mN_n (by omega), if_pos (by rw [← hR.2.1 _ (by omega)]; first | exact c33 | exact Classical.byContradiction c33)]; exact hR.2.2.1 _ (by omega) (by rw [← hR.2.1 _ (by omega), (show I2 85 ((10 * a + b) / 10) = nI ((10 * a + b) % 10) from by first | exact c33 | exact Classical.byContradiction c33)]; exact nI_nm (by omega))⟩)⟩) hG | exact PR_id (.inl ⟨fun h => ha h.1.2, rfl⟩) | exact PR_id (.inl ⟨fun h => hN h.1.1, rfl⟩) | exact PR_id (.inl ⟨fun h => hs h.2, rfl⟩)
        · obtain ⟨z, hz60, hz⟩ := hSZ s hs
          refine px_if_ge rfl (fun _ => ?_) (fun h => absurd h (by decide))
          refine px_aload_n (kk := 0) rfl rfl rfl ?_
          refine px_iload_n (kk := 1) rfl rfl rfl ?_
          refine px_iload_n (kk := 2) rfl rfl rfl ?_
          refine px_callV0 CX12_goDay [] [.int _, .int _] (vX12_goDay hT hL hn8 hn hs hz hz60 hN) rfl gS_65 (by decide) rfl rfl rfl (Nat.le_of_ble_eq_true rfl) (by decide) ?_
          rintro _ _ - ⟨rfl, I2, rfl, hG, hR⟩
          refine px_aload_n (kk := 0) rfl rfl rfl ?_
          refine px_getR (r := 85) rfl gS_65 rfl (gR_65_31 _) ?_
          
          refine px_iload_n (kk := 3) rfl rfl rfl ?_
          refine px_bipush (v := nI 10) rfl b_10 ?_
          refine px_idivN rfl (by decide) (by decide) (by omega) ?_
          refine px_iald (j := ((10 * a + b) / 10)) rfl gS_85 rfl (by omega) ?_
          refine px_iload_n (kk := 3) rfl rfl rfl ?_
          refine px_bipush (v := nI 10) rfl b_10 ?_
          refine px_iremN rfl (by decide) (by decide) (by omega) ?_
          refine px_icmp_ne rfl (fun c33 => ?_) (fun c33 => ?_)
          · refine px_iconst (v := nI 0) rfl k_0 ?_
            refine px_ireturn rfl (.inl rfl) ?_
            first | exact PR_id (.inr ⟨s, hs, rfl, ⟨⟨N, hN, rfl⟩, a, b, ha, hbn, hne, rfl⟩, .inl ⟨h98, rfl⟩⟩) | exact PR_id (.inr ⟨s, hs, rfl, ⟨⟨N, hN, rfl⟩, a, b, ha, hbn, hne, rfl⟩, .inr (.inr ⟨h98, h2, rfl⟩)⟩) | exact absurd h98 g98 | exact absurd g98 h98 | exact absurd g2 h2 | exact absurd h2 g2 | exact PR_go (.inr ⟨s, hs, rfl, ⟨⟨N, hN, rfl⟩, a, b, ha, hbn, hne, rfl⟩, .inr (.inl ⟨h98, h2, by dsimp only; rw [mN_n (by omega), mN_n (by omega), hz, mN_n (by omega), if_neg (by rw [← hR.2.1 _ (by omega)]; exact c33)]⟩)⟩) hG | exact PR_go (.inr ⟨s, hs, rfl, ⟨⟨N, hN, rfl⟩, a, b, ha, hbn, hne, rfl⟩, .inr (.inl ⟨h98, h2, by dsimp only; rw [mN_n (by omega), mN_n (by omega), hz, mN_n (by omega), if_pos (by rw [← hR.2.1 _ (by omega)]; first | exact c33 | exact Classical.byContradiction c33)]; exact hR.2.2.1 _ (by omega) (by rw [← hR.2.1 _ (by omega), (show I2 85 ((10 * a + b) / 10) = nI ((10 * a + b) % 10) from by first | exact c33 | exact Classical.byContradiction c33)]; exact nI_nm (by omega))⟩)⟩) hG | exact PR_id (.inl ⟨fun h => ha h.1.2, rfl⟩) | exact PR_id (.inl ⟨fun h => hN h.1.1, rfl⟩) | exact PR_id (.inl ⟨fun h => hs h.2, rfl⟩)
          · refine px_aload_n (kk := 0) rfl rfl rfl ?_
            refine px_getR (r := 86) rfl gS_65 rfl (gR_65_32 _) ?_
            refine px_iload_n (kk := 3) rfl rfl rfl ?_
            refine px_bipush (v := nI 10) rfl b_10 ?_
            refine px_idivN rfl (by decide) (by decide) (by omega) ?_
            refine px_iald (j := ((10 * a + b) / 10)) rfl gS_86 rfl (by omega) ?_
            refine px_iconst (v := nI 1) rfl k_1 ?_
            refine px_iadd rfl ?_
            refine px_goto rfl ?_
            refine px_ireturn rfl (.inl rfl) ?_
            first | exact PR_id (.inr ⟨s, hs, rfl, ⟨⟨N, hN, rfl⟩, a, b, ha, hbn, hne, rfl⟩, .inl ⟨h98, rfl⟩⟩) | exact PR_id (.inr ⟨s, hs, rfl, ⟨⟨N, hN, rfl⟩, a, b, ha, hbn, hne, rfl⟩, .inr (.inr ⟨h98, h2, rfl⟩)⟩) | exact absurd h98 g98 | exact absurd g98 h98 | exact absurd g2 h2 | exact absurd h2 g2 | exact PR_go (.inr ⟨s, hs, rfl, ⟨⟨N, hN, rfl⟩, a, b, ha, hbn, hne, rfl⟩, .inr (.inl ⟨h98, h2, by dsimp only; rw [mN_n (by omega), mN_n (by omega), hz, mN_n (by omega), if_neg (by rw [← hR.2.1 _ (by omega)]; exact c33)]⟩)⟩) hG | exact PR_go (.inr ⟨s, hs, rfl, ⟨⟨N, hN, rfl⟩, a, b, ha, hbn, hne, rfl⟩, .inr (.inl ⟨h98, h2, by dsimp only; rw [mN_n (by omega), mN_n (by omega), hz, mN_n (by omega), if_pos (by rw [← hR.2.1 _ (by omega)]; first | exact c33 | exact Classical.byContradiction c33)]; exact hR.2.2.1 _ (by omega) (by rw [← hR.2.1 _ (by omega), (show I2 85 ((10 * a + b) / 10) = nI ((10 * a + b) % 10) from by first | exact c33 | exact Classical.byContradiction c33)]; exact nI_nm (by omega))⟩)⟩) hG | exact PR_id (.inl ⟨fun h => ha h.1.2, rfl⟩) | exact PR_id (.inl ⟨fun h => hN h.1.1, rfl⟩) | exact PR_id (.inl ⟨fun h => hs h.2, rfl⟩)
        · refine px_if_ge rfl (fun h => absurd h (by decide)) (fun _ => ?_)
          refine px_aload_n (kk := 0) rfl rfl rfl ?_
          refine px_iload_n (kk := 1) rfl rfl rfl ?_
          refine px_callV0 CX12_rowFault [] [.int _] (vX12_rowFault hs) rfl gS_65 (by decide) rfl rfl rfl (Nat.le_of_ble_eq_true rfl) (by decide) ?_
          rintro _ _ - ⟨rfl, (⟨g98, rfl⟩ | ⟨g98, g2, rfl⟩ | ⟨g98, g2, rfl⟩)⟩
          · refine px_ireturn rfl (.inl rfl) ?_
            first | exact PR_id (.inr ⟨s, hs, rfl, ⟨⟨N, hN, rfl⟩, a, b, ha, hbn, hne, rfl⟩, .inl ⟨h98, rfl⟩⟩) | exact PR_id (.inr ⟨s, hs, rfl, ⟨⟨N, hN, rfl⟩, a, b, ha, hbn, hne, rfl⟩, .inr (.inr ⟨h98, h2, rfl⟩)⟩) | exact absurd h98 g98 | exact absurd g98 h98 | exact absurd g2 h2 | exact absurd h2 g2 | exact PR_go (.inr ⟨s, hs, rfl, ⟨⟨N, hN, rfl⟩, a, b, ha, hbn, hne, rfl⟩, .inr (.inl ⟨h98, h2, by dsimp only; rw [mN_n (by omega), mN_n (by omega), hz, mN_n (by omega), if_neg (by rw [← hR.2.1 _ (by omega)]; exact c33)]⟩)⟩) hG | exact PR_go (.inr ⟨s, hs, rfl, ⟨⟨N, hN, rfl⟩, a, b, ha, hbn, hne, rfl⟩, .inr (.inl ⟨h98, h2, by dsimp only; rw [mN_n (by omega), mN_n (by omega), hz, mN_n (by omega), if_pos (by rw [← hR.2.1 _ (by omega)]; first | exact c33 | exact Classical.byContradiction c33)]; exact hR.2.2.1 _ (by omega) (by rw [← hR.2.1 _ (by omega), (show I2 85 ((10 * a + b) / 10) = nI ((10 * a + b) % 10) from by first | exact c33 | exact Classical.byContradiction c33)]; exact nI_nm (by omega))⟩)⟩) hG | exact PR_id (.inl ⟨fun h => ha h.1.2, rfl⟩) | exact PR_id (.inl ⟨fun h => hN h.1.1, rfl⟩) | exact PR_id (.inl ⟨fun h => hs h.2, rfl⟩)
          · refine px_ireturn rfl (.inl rfl) ?_
            first | exact PR_id (.inr ⟨s, hs, rfl, ⟨⟨N, hN, rfl⟩, a, b, ha, hbn, hne, rfl⟩, .inl ⟨h98, rfl⟩⟩) | exact PR_id (.inr ⟨s, hs, rfl, ⟨⟨N, hN, rfl⟩, a, b, ha, hbn, hne, rfl⟩, .inr (.inr ⟨h98, h2, rfl⟩)⟩) | exact absurd h98 g98 | exact absurd g98 h98 | exact absurd g2 h2 | exact absurd h2 g2 | exact PR_go (.inr ⟨s, hs, rfl, ⟨⟨N, hN, rfl⟩, a, b, ha, hbn, hne, rfl⟩, .inr (.inl ⟨h98, h2, by dsimp only; rw [mN_n (by omega), mN_n (by omega), hz, mN_n (by omega), if_neg (by rw [← hR.2.1 _ (by omega)]; exact c33)]⟩)⟩) hG | exact PR_go (.inr ⟨s, hs, rfl, ⟨⟨N, hN, rfl⟩, a, b, ha, hbn, hne, rfl⟩, .inr (.inl ⟨h98, h2, by dsimp only; rw [mN_n (by omega), mN_n (by omega), hz, mN_n (by omega), if_pos (by rw [← hR.2.1 _ (by omega)]; first | exact c33 | exact Classical.byContradiction c33)]; exact hR.2.2.1 _ (by omega) (by rw [← hR.2.1 _ (by omega), (show I2 85 ((10 * a + b) / 10) = nI ((10 * a + b) % 10) from by first | exact c33 | exact Classical.byContradiction c33)]; exact nI_nm (by omega))⟩)⟩) hG | exact PR_id (.inl ⟨fun h => ha h.1.2, rfl⟩) | exact PR_id (.inl ⟨fun h => hN h.1.1, rfl⟩) | exact PR_id (.inl ⟨fun h => hs h.2, rfl⟩)
          · refine px_ireturn rfl (.inl rfl) ?_
            first | exact PR_id (.inr ⟨s, hs, rfl, ⟨⟨N, hN, rfl⟩, a, b, ha, hbn, hne, rfl⟩, .inl ⟨h98, rfl⟩⟩) | exact PR_id (.inr ⟨s, hs, rfl, ⟨⟨N, hN, rfl⟩, a, b, ha, hbn, hne, rfl⟩, .inr (.inr ⟨h98, h2, rfl⟩)⟩) | exact absurd h98 g98 | exact absurd g98 h98 | exact absurd g2 h2 | exact absurd h2 g2 | exact PR_go (.inr ⟨s, hs, rfl, ⟨⟨N, hN, rfl⟩, a, b, ha, hbn, hne, rfl⟩, .inr (.inl ⟨h98, h2, by dsimp only; rw [mN_n (by omega), mN_n (by omega), hz, mN_n (by omega), if_neg (by rw [← hR.2.1 _ (by omega)]; exact c33)]⟩)⟩) hG | exact PR_go (.inr ⟨s, hs, rfl, ⟨⟨N, hN, rfl⟩, a, b, ha, hbn, hne, rfl⟩, .inr (.inl ⟨h98, h2, by dsimp only; rw [mN_n (by omega), mN_n (by omega), hz, mN_n (by omega), if_pos (by rw [← hR.2.1 _ (by omega)]; first | exact c33 | exact Classical.byContradiction c33)]; exact hR.2.2.1 _ (by omega) (by rw [← hR.2.1 _ (by omega), (show I2 85 ((10 * a + b) / 10) = nI ((10 * a + b) % 10) from by first | exact c33 | exact Classical.byContradiction c33)]; exact nI_nm (by omega))⟩)⟩) hG | exact PR_id (.inl ⟨fun h => ha h.1.2, rfl⟩) | exact PR_id (.inl ⟨fun h => hN h.1.1, rfl⟩) | exact PR_id (.inl ⟨fun h => hs h.2, rfl⟩)
      · refine px_if_ne rfl (fun h => absurd h (by decide)) (fun _ => ?_)
        refine px_iconst (v := -1) rfl k_m1 ?_
        refine px_ireturn rfl (.inl rfl) ?_
        first | exact PR_id (.inr ⟨s, hs, rfl, ⟨⟨N, hN, rfl⟩, a, b, ha, hbn, hne, rfl⟩, .inl ⟨h98, rfl⟩⟩) | exact PR_id (.inr ⟨s, hs, rfl, ⟨⟨N, hN, rfl⟩, a, b, ha, hbn, hne, rfl⟩, .inr (.inr ⟨h98, h2, rfl⟩)⟩) | exact absurd h98 g98 | exact absurd g98 h98 | exact absurd g2 h2 | exact absurd h2 g2 | exact PR_go (.inr ⟨s, hs, rfl, ⟨⟨N, hN, rfl⟩, a, b, ha, hbn, hne, rfl⟩, .inr (.inl ⟨h98, h2, by dsimp only; rw [mN_n (by omega), mN_n (by omega), hz, mN_n (by omega), if_neg (by rw [← hR.2.1 _ (by omega)]; exact c33)]⟩)⟩) hG | exact PR_go (.inr ⟨s, hs, rfl, ⟨⟨N, hN, rfl⟩, a, b, ha, hbn, hne, rfl⟩, .inr (.inl ⟨h98, h2, by dsimp only; rw [mN_n (by omega), mN_n (by omega), hz, mN_n (by omega), if_pos (by rw [← hR.2.1 _ (by omega)]; first | exact c33 | exact Classical.byContradiction c33)]; exact hR.2.2.1 _ (by omega) (by rw [← hR.2.1 _ (by omega), (show I2 85 ((10 * a + b) / 10) = nI ((10 * a + b) % 10) from by first | exact c33 | exact Classical.byContradiction c33)]; exact nI_nm (by omega))⟩)⟩) hG | exact PR_id (.inl ⟨fun h => ha h.1.2, rfl⟩) | exact PR_id (.inl ⟨fun h => hN h.1.1, rfl⟩) | exact PR_id (.inl ⟨fun h => hs h.2, rfl⟩)
    · refine px_if_eq rfl (fun _ => ?_) (fun h => absurd h (by decide))
      refine px_iconst (v := -1) rfl k_m1 ?_
      refine px_ireturn rfl (.inl rfl) ?_
      first | exact PR_id (.inr ⟨s, hs, rfl, ⟨⟨N, hN, rfl⟩, a, b, ha, hbn, hne, rfl⟩, .inl ⟨h98, rfl⟩⟩) | exact PR_id (.inr ⟨s, hs, rfl, ⟨⟨N, hN, rfl⟩, a, b, ha, hbn, hne, rfl⟩, .inr (.inr ⟨h98, h2, rfl⟩)⟩) | exact absurd h98 g98 | exact absurd g98 h98 | exact absurd g2 h2 | exact absurd h2 g2 | exact PR_go (.inr ⟨s, hs, rfl, ⟨⟨N, hN, rfl⟩, a, b, ha, hbn, hne, rfl⟩, .inr (.inl ⟨h98, h2, by dsimp only; rw [mN_n (by omega), mN_n (by omega), hz, mN_n (by omega), if_neg (by rw [← hR.2.1 _ (by omega)]; exact c33)]⟩)⟩) hG | exact PR_go (.inr ⟨s, hs, rfl, ⟨⟨N, hN, rfl⟩, a, b, ha, hbn, hne, rfl⟩, .inr (.inl ⟨h98, h2, by dsimp only; rw [mN_n (by omega), mN_n (by omega), hz, mN_n (by omega), if_pos (by rw [← hR.2.1 _ (by omega)]; first | exact c33 | exact Classical.byContradiction c33)]; exact hR.2.2.1 _ (by omega) (by rw [← hR.2.1 _ (by omega), (show I2 85 ((10 * a + b) / 10) = nI ((10 * a + b) % 10) from by first | exact c33 | exact Classical.byContradiction c33)]; exact nI_nm (by omega))⟩)⟩) hG | exact PR_id (.inl ⟨fun h => ha h.1.2, rfl⟩) | exact PR_id (.inl ⟨fun h => hN h.1.1, rfl⟩) | exact PR_id (.inl ⟨fun h => hs h.2, rfl⟩)
  · refine px_if_eq rfl (fun _ => ?_) (fun h => absurd h (by decide))
    refine px_iconst (v := -1) rfl k_m1 ?_
    refine px_ireturn rfl (.inl rfl) ?_
    first | exact PR_id (.inr ⟨s, hs, rfl, ⟨⟨N, hN, rfl⟩, a, b, ha, hbn, hne, rfl⟩, .inl ⟨h98, rfl⟩⟩) | exact PR_id (.inr ⟨s, hs, rfl, ⟨⟨N, hN, rfl⟩, a, b, ha, hbn, hne, rfl⟩, .inr (.inr ⟨h98, h2, rfl⟩)⟩) | exact absurd h98 g98 | exact absurd g98 h98 | exact absurd g2 h2 | exact absurd h2 g2 | exact PR_go (.inr ⟨s, hs, rfl, ⟨⟨N, hN, rfl⟩, a, b, ha, hbn, hne, rfl⟩, .inr (.inl ⟨h98, h2, by dsimp only; rw [mN_n (by omega), mN_n (by omega), hz, mN_n (by omega), if_neg (by rw [← hR.2.1 _ (by omega)]; exact c33)]⟩)⟩) hG | exact PR_go (.inr ⟨s, hs, rfl, ⟨⟨N, hN, rfl⟩, a, b, ha, hbn, hne, rfl⟩, .inr (.inl ⟨h98, h2, by dsimp only; rw [mN_n (by omega), mN_n (by omega), hz, mN_n (by omega), if_pos (by rw [← hR.2.1 _ (by omega)]; first | exact c33 | exact Classical.byContradiction c33)]; exact hR.2.2.1 _ (by omega) (by rw [← hR.2.1 _ (by omega), (show I2 85 ((10 * a + b) / 10) = nI ((10 * a + b) % 10) from by first | exact c33 | exact Classical.byContradiction c33)]; exact nI_nm (by omega))⟩)⟩) hG | exact PR_id (.inl ⟨fun h => ha h.1.2, rfl⟩) | exact PR_id (.inl ⟨fun h => hN h.1.1, rfl⟩) | exact PR_id (.inl ⟨fun h => hs h.2, rfl⟩)
theorem may_99 {y : Int32} : sp_may 0 y ↔ ∃ h, h ≤ 99 ∧ y = nI h := by
  rw [← in_99, in_nn (by decide) (by decide)]
  exact ⟨fun ⟨a, _, h, e⟩ => ⟨a, h, e⟩, fun ⟨a, h, e⟩ => ⟨a, Nat.zero_le _, h, e⟩⟩
theorem vX12_warmer {I : Nat → Nat → Int32} {J : Nat → Nat → Int64} {p : Bool × Option Nat} {ro : List (Nat × Nat × (Nat → Int32))} {tx : List Ln} (hT : LawR tx I) {n : Nat} (hn : I 65 1 = nI n) (hn8 : n ≤ 8) (hL : LK n (I 69)) {w y : Int32} : Pv 4 0 0 CX12_warmer [.ref (65), .int (w), .int (y)] (gS, I, J, gR p, ro) (PR (ASK (-2000000000) ((∃ a b, a < n ∧ b < n ∧ a ≠ b ∧ w = nI (10 * a + b)) ∧ ∃ h, h ≤ 99 ∧ y = nI h) (sp_rise tx (I 69 (8 * (mN w / 10) + (mN w % 10))) (I 66 (mN w / 10)) (I 66 (mN w % 10)) y (I 65 7) (sp_one (I 68 (mN w / 10)) (I 68 (mN w % 10))))) I J p ro) := by
  refine ⟨okCX12_warmer, Nat.le_of_ble_eq_true rfl, (show Px _ _ _ _ 0 [some (.ref (65)), some (.int (w)), some (.int (y))] [] _ _ from ?_)⟩
  refine px_aload_n (kk := 0) rfl rfl rfl ?_
  refine px_iload_n (kk := 1) rfl rfl rfl ?_
  refine px_callV0 CX12_areTwo [] [.int _] (vX12_areTwo hn hn8) rfl gS_65 (by decide) rfl rfl rfl (Nat.le_of_ble_eq_true rfl) (by decide) ?_
  rintro _ _ - (⟨⟨a, b, ha, hbn, hne, rfl⟩, rfl, rfl⟩ | ⟨ha, rfl, rfl⟩)
  · refine px_if_eq rfl (fun h => absurd h (by decide)) (fun _ => ?_)
    refine px_iload_n (kk := 2) rfl rfl rfl ?_
    refine px_callS0 CX12_isWarm [] [.int _] (vX12_isWarm) rfl rfl rfl (Nat.le_of_ble_eq_true rfl) (by decide) ?_
    rintro _ _ - (⟨hm, rfl, rfl⟩ | ⟨hm, rfl, rfl⟩)
    · refine px_if_eq rfl (fun h => absurd h (by decide)) (fun _ => ?_)
      refine px_aload_n (kk := 0) rfl rfl rfl ?_
      
      refine px_iload_n (kk := 1) rfl rfl rfl ?_
      refine px_bipush (v := nI 10) rfl b_10 ?_
      refine px_idivN rfl (by decide) (by decide) (by omega) ?_
      refine px_iload_n (kk := 1) rfl rfl rfl ?_
      refine px_bipush (v := nI 10) rfl b_10 ?_
      refine px_iremN rfl (by decide) (by decide) (by omega) ?_
      refine px_aload_n (kk := 0) rfl rfl rfl ?_
      refine px_getR (r := 66) rfl gS_65 rfl (gR_65_2 _) ?_
      refine px_iload_n (kk := 1) rfl rfl rfl ?_
      refine px_bipush (v := nI 10) rfl b_10 ?_
      refine px_idivN rfl (by decide) (by decide) (by omega) ?_
      refine px_iald (j := ((10 * a + b) / 10)) rfl gS_66 rfl (by omega) ?_
      refine px_aload_n (kk := 0) rfl rfl rfl ?_
      refine px_getR (r := 66) rfl gS_65 rfl (gR_65_2 _) ?_
      refine px_iload_n (kk := 1) rfl rfl rfl ?_
      refine px_bipush (v := nI 10) rfl b_10 ?_
      refine px_iremN rfl (by decide) (by decide) (by omega) ?_
      refine px_iald (j := ((10 * a + b) % 10)) rfl gS_66 rfl (by omega) ?_
      refine px_iload_n (kk := 2) rfl rfl rfl ?_
      refine px_callV0 CX12_warmerBy [] [.int _, .int _, .int _, .int _, .int _] (vX12_warmerBy hT hn hn8 (a := (10 * a + b) / 10) (b := (10 * a + b) % 10) (by omega) (by omega) (hL _ _ (by omega) (by omega))) rfl gS_65 (by decide) rfl rfl rfl (Nat.le_of_ble_eq_true rfl) (by decide) ?_
      rintro _ _ - ⟨rfl, I2, rfl, hF2⟩
      refine px_goto rfl ?_
      refine px_ireturn rfl (.inl rfl) ?_
      exact ⟨_, rfl, .inr ⟨⟨⟨a, b, ha, hbn, hne, rfl⟩, may_99.mp hm⟩, by rw [mN_n (by omega)]⟩, I2, rfl, Fr_mo hF2 (by decide), fun k _ => by rw [hF2 65 (by decide)]⟩
    · refine px_if_eq rfl (fun _ => ?_) (fun h => absurd h (by decide))
      refine px_ldc (v := -2000000000) rfl (by decide) ?_
      refine px_ireturn rfl (.inl rfl) ?_
      exact PR_id (.inl ⟨fun h => hm (may_99.mpr h.2), rfl⟩)
  · refine px_if_eq rfl (fun _ => ?_) (fun h => absurd h (by decide))
    refine px_ldc (v := -2000000000) rfl (by decide) ?_
    refine px_ireturn rfl (.inl rfl) ?_
    exact PR_id (.inl ⟨fun h => ha h.1, rfl⟩)
theorem lX12_first {I : Nat → Nat → Int32} {J : Nat → Nat → Int64} {p : Bool × Option Nat} {ro : List (Nat × Nat × (Nat → Int32))} {n : Nat} (hn : I 65 1 = nI n) (hn8 : n ≤ 8) {k : Nat} (hk : k ≤ n) : Px 0 0 0 CX12_first 6 [some (.ref (65)), some (.int ((sp_first (I 67) (I 66) k).1)), some (.int ((sp_first (I 67) (I 66) k).2)), some (.int (nI k))] [] (gS, I, J, gR p, ro) (qI (sp_first (I 67) (I 66) n).1 (gS, I, J, gR p, ro)) := by
  refine px_iload_n (kk := 3) rfl rfl rfl ?_
  refine px_aload_n (kk := 0) rfl rfl rfl ?_
  refine px_getIe (v := nI n) rfl gS_65 rfl hn ?_
  refine px_icmp_ge rfl (fun c9 => ?_) (fun c9 => ?_)
  · refine px_iload_n (kk := 1) rfl rfl rfl ?_
    refine px_ireturn rfl (.inl rfl) ?_
    rw [n_le (by omega) (by omega)] at c9
    obtain rfl : k = n := by omega
    exact ⟨rfl, rfl⟩
  · rw [n_le (by omega) (by omega)] at c9
    refine px_aload_n (kk := 0) rfl rfl rfl ?_
    refine px_getR (r := 67) rfl gS_65 rfl (gR_65_3 _) ?_
    refine px_iload_n (kk := 3) rfl rfl rfl ?_
    refine px_iald (j := k) rfl gS_67 rfl (by omega) ?_
    refine px_aload_n (kk := 0) rfl rfl rfl ?_
    refine px_getR (r := 66) rfl gS_65 rfl (gR_65_2 _) ?_
    refine px_iload_n (kk := 3) rfl rfl rfl ?_
    refine px_iald (j := k) rfl gS_66 rfl (by omega) ?_
    refine px_isub rfl ?_
    refine px_iload_n (kk := 2) rfl rfl rfl ?_
    refine px_icmp_gt rfl (fun c20 => ?_) (fun c20 => ?_)
    · refine px_iload_n (kk := 3) rfl rfl rfl ?_
      refine px_ist1 rfl rfl (by decide) ?_
      refine px_aload_n (kk := 0) rfl rfl rfl ?_
      refine px_getR (r := 67) rfl gS_65 rfl (gR_65_3 _) ?_
      refine px_iload_n (kk := 3) rfl rfl rfl ?_
      refine px_iald (j := k) rfl gS_67 rfl (by omega) ?_
      refine px_aload_n (kk := 0) rfl rfl rfl ?_
      refine px_getR (r := 66) rfl gS_65 rfl (gR_65_2 _) ?_
      refine px_iload_n (kk := 3) rfl rfl rfl ?_
      refine px_iald (j := k) rfl gS_66 rfl (by omega) ?_
      refine px_isub rfl ?_
      refine px_ist2 rfl rfl (by decide) ?_
      refine px_iinc3 (v := nI (k + 1)) rfl (n_inc k) rfl (by decide) ?_
      refine px_goto rfl ?_
      have e : (sp_first (I 67) (I 66) (k + 1)) = (nI k, I 67 k - I 66 k) := if_pos (by first | exact c20 | (rw [i_lt]; rw [i_le] at c20; omega))
      have h := lX12_first (J := J) (p := p) (ro := ro) hn hn8 (k := k + 1) (by omega)
      rw [e] at h
      exact h
    · refine px_goto rfl ?_
      refine px_iinc3 (v := nI (k + 1)) rfl (n_inc k) rfl (by decide) ?_
      refine px_goto rfl ?_
      rw [show (sp_first (I 67) (I 66) k) = (sp_first (I 67) (I 66) (k + 1)) from (if_neg (by first | exact c20 | (rw [i_lt]; rw [i_le] at c20; omega))).symm]
      exact lX12_first hn hn8 (k := k + 1) (by omega)
termination_by n - k
decreasing_by all_goals (have h := ‹¬ nI n ≤ nI k›; rw [n_le (by omega) (by omega)] at h; omega)
theorem vX12_first {I : Nat → Nat → Int32} {J : Nat → Nat → Int64} {p : Bool × Option Nat} {ro : List (Nat × Nat × (Nat → Int32))} {n : Nat} (hn : I 65 1 = nI n) (hn8 : n ≤ 8) : Pv 0 0 0 CX12_first [.ref (65)] (gS, I, J, gR p, ro) (qI (sp_first (I 67) (I 66) n).1 (gS, I, J, gR p, ro)) := by
  refine ⟨okCX12_first, Nat.le_of_ble_eq_true rfl, (show Px _ _ _ _ 0 [some (.ref (65)), none, none, none] [] _ _ from ?_)⟩
  refine px_bipush (v := -2) rfl b_m2 ?_
  refine px_ist1 rfl rfl (by decide) ?_
  refine px_iconst (v := nI 0) rfl k_0 ?_
  refine px_ist2 rfl rfl (by decide) ?_
  refine px_iconst (v := nI 0) rfl k_0 ?_
  refine px_ist3 rfl rfl (by decide) ?_
  exact lX12_first hn hn8 (k := 0) (by omega)
