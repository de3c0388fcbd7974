/-! the reference: hours told of which only the plugs matter -/
def RK (n z : Nat) (co : Int32) (E : Nat → Int32) (wi : Int32 → Prop) (k : Nat) (I1 : Nat → Nat → Int32) : Prop := ∃ q, q ≤ 60 + k ∧ I1 65 34 = nI q ∧ (q = sp_plk n co E z wi k ∨ (z ≤ sp_plk n co E z wi k ∧ z ≤ q))
theorem days_plk {tx : List Ln} {n : Nat} {L P : Nat → Int32} {cold co : Int32} {E : Nat → Int32} {z : Nat} {wi : Int32 → Prop} {D : DS} (h0 : D.2.2.2.2 = 0) : ∀ k, (sp_days tx n L P cold co E z wi k D).2.2.2.2 = sp_plk n co E z wi k
  | 0 => h0
  | k + 1 => by
    have ih := days_plk (tx := tx) (n := n) (L := L) (P := P) (cold := cold) (co := co) (E := E) (z := z) (wi := wi) h0 k
    have h := (sp_tell_u (n := n) (co := co) (E := E) (wi := wi) (wj := wi) (fun v => .inl Iff.rfl) (z - sp_plk n co E z wi k) (sp_plk n co E z wi k) (n1, 0, (sp_days tx n L P cold co E z wi k D).2.2.2.1) (n1, 0, nI 0) rfl rfl).2.2
    simp only [sp_days, sp_hour, sp_plk, ih]
    exact h
theorem days_M {tx : List Ln} {n : Nat} {L P : Nat → Int32} {cold co : Int32} {E : Nat → Int32} {z : Nat} {wi : Int32 → Prop} {D : DS} (h0 : D.2.2.2.2 = 0) (k : Nat) : (sp_days tx n L P cold co E z wi (k + 1) D).2.1 = sp_Mk n co E z wi k := by
  have ih := days_plk (tx := tx) (n := n) (L := L) (P := P) (cold := cold) (co := co) (E := E) (z := z) (wi := wi) h0 k
  have h := (sp_tell_u (n := n) (co := co) (E := E) (wi := wi) (wj := wi) (fun v => .inl Iff.rfl) (z - sp_plk n co E z wi k) (sp_plk n co E z wi k) (n1, 0, (sp_days tx n L P cold co E z wi k D).2.2.2.1) (n1, 0, nI 0) rfl rfl).1
  simp only [sp_days, sp_hour, sp_Mk, ih]
  exact h
theorem vX12_plugK {I : Nat → Nat → Int32} {J : Nat → Nat → Int64} {p : Bool × Option Nat} {ro : List (Nat × Nat × (Nat → Int32))} {n : Nat} (hn8 : n ≤ 8) (hn : I 65 1 = nI n) {s z : Nat} (hs : s < 6) (hz : I 99 s = nI z) (hz60 : z ≤ 60) {k : Nat} (hk : k ≤ 100) (hK : RK n z (I 65 6) (fun j => (J 100 (60 * s + j)).toInt32) (wiR (I 65 36)) k I) : Pv 3 0 0 CX12_plugHour [.ref 65, .int (nI s)] (gS, I, J, gR p, ro) (fun r S' => r = none ∧ ∃ I', S' = (gS, I', J, gR p, ro) ∧ Fr [65, 85, 86, 88] I I' ∧ (∀ k, k ≠ 34 → k ≠ 35 → I' 65 k = I 65 k) ∧ (∀ l, l < n → I' 85 l = (sp_Mk n (I 65 6) (fun j => (J 100 (60 * s + j)).toInt32) z (wiR (I 65 36)) k) l) ∧ MT n (sp_Mk n (I 65 6) (fun j => (J 100 (60 * s + j)).toInt32) z (wiR (I 65 36)) k) ∧ RK n z (I 65 6) (fun j => (J 100 (60 * s + j)).toInt32) (wiR (I 65 36)) (k + 1) I') := by
  obtain ⟨q, hq, h34, hqr⟩ := hK
  refine pv_post (vX12_plugHour hn8 hn hs hz hz60 (pl := q) (by omega) h34) (fun r S hr => ?_)
  obtain ⟨rfl, I2, rfl, f2, k2, p85, pM, -, ⟨w, e1, e2⟩, -⟩ := hr
  obtain ⟨t1, t2⟩ := tell_two (n := n) (co := I 65 6) (E := (fun j => (J 100 (60 * s + j)).toInt32)) (wi := (wiR (I 65 36))) hqr (n1, 0, I 65 35)
  have tl := tell_le (n := n) (co := I 65 6) (E := (fun j => (J 100 (60 * s + j)).toInt32)) (wi := (wiR (I 65 36))) (z - q) q (n1, 0, I 65 35)
  obtain ⟨u1, -, u2⟩ := sp_tell_u (n := n) (co := I 65 6) (E := (fun j => (J 100 (60 * s + j)).toInt32)) (wi := (wiR (I 65 36))) (wj := (wiR (I 65 36))) (fun v => .inl Iff.rfl) (z - sp_plk n (I 65 6) (fun j => (J 100 (60 * s + j)).toInt32) z (wiR (I 65 36)) k) (sp_plk n (I 65 6) (fun j => (J 100 (60 * s + j)).toInt32) z (wiR (I 65 36)) k) (n1, 0, I 65 35) (n1, 0, nI 0) rfl rfl
  rw [t1] at p85 pM
  rw [u1] at p85 pM
  rw [u2] at t2
  refine ⟨rfl, I2, rfl, f2, k2, p85, pM, w, by rcases e2 with e2 | e2 <;> omega, e1, ?_⟩
  show w = (sp_tell n (I 65 6) (fun j => (J 100 (60 * s + j)).toInt32) (wiR (I 65 36)) (z - sp_plk n (I 65 6) (fun j => (J 100 (60 * s + j)).toInt32) z (wiR (I 65 36)) k) (sp_plk n (I 65 6) (fun j => (J 100 (60 * s + j)).toInt32) z (wiR (I 65 36)) k) (n1, 0, nI 0)).2 ∨ (z ≤ (sp_tell n (I 65 6) (fun j => (J 100 (60 * s + j)).toInt32) (wiR (I 65 36)) (z - sp_plk n (I 65 6) (fun j => (J 100 (60 * s + j)).toInt32) z (wiR (I 65 36)) k) (sp_plk n (I 65 6) (fun j => (J 100 (60 * s + j)).toInt32) z (wiR (I 65 36)) k) (n1, 0, nI 0)).2 ∧ z ≤ w)
  rcases e2 with e2 | ⟨e2, e3⟩
  · rcases t2 with t2 | ⟨t2, t3⟩
    · exact .inl (by omega)
    · exact .inr ⟨t2, by omega⟩
  · rcases t2 with t2 | ⟨t2, t3⟩
    · exact .inr ⟨by omega, by omega⟩
    · exact .inr ⟨t2, by omega⟩
theorem lX12_idle {I : Nat → Nat → Int32} {J : Nat → Nat → Int64} {p : Bool × Option Nat} {ro : List (Nat × Nat × (Nat → Int32))} {tx : List Ln} {n : Nat} (hn8 : n ≤ 8) (hn : I 65 1 = nI n) {s z : Nat} (hs : s < 6) (hz : I 99 s = nI z) (hz60 : z ≤ 60) {a : Nat} (ha : a < n) {N : Nat} (hN : N ≤ 60) {k : Nat} (hk : k ≤ N) {I1 : Nat → Nat → Int32} (hG : GD I I1) (hK : RK n z (I1 65 6) (fun j => (J 100 (60 * s + j)).toInt32) (wiR (I1 65 36)) k I1) : Px 4 0 0 CX12_idle 26 [some (.ref (65)), some (.int (nI s)), some (.int (nI N)), some (.int (nI a)), some (.int ((sp_wait tx n (I 69) (I 68) (I 65 7) (I 65 6) (fun j => (J 100 (60 * s + j)).toInt32) z (wiC (-1)) (D0 (I 66)) a k))), some (.int (nI k))] [] (gS, I1, J, gR p, ro) (fun r S' => r = some (.int (sp_wait tx n (I 69) (I 68) (I 65 7) (I 65 6) (fun j => (J 100 (60 * s + j)).toInt32) z (wiC (-1)) (D0 (I 66)) a N)) ∧ ∃ I', S' = (gS, I', J, gR p, ro) ∧ GD I I') := by
  refine px_iload rfl rfl ?_
  refine px_iload_n (kk := 2) rfl rfl rfl ?_
  refine px_icmp_ge rfl (fun c28 => ?_) (fun c28 => ?_)
  · refine px_iload rfl rfl ?_
    refine px_ireturn rfl (.inl rfl) ?_
    rw [n_le (by omega) (by omega)] at c28
    obtain rfl : k = N := by omega
    exact ⟨rfl, I1, rfl, hG⟩
  · rw [n_le (by omega) (by omega)] at c28
    refine px_aload_n (kk := 0) rfl rfl rfl ?_
    refine px_iload_n (kk := 1) rfl rfl rfl ?_
    refine px_callV0 CX12_plugHour [] [.int _] (vX12_plugK hn8 ((hG.2.1 1 (by decide) (by decide) (by decide)).trans hn) hs ((congrFun (hG.1 99 (by decide)) s).trans hz) hz60 (k := k) (by omega) hK) rfl gS_65 (by decide) rfl rfl rfl (Nat.le_of_ble_eq_true rfl) (by decide) ?_
    rintro _ _ - ⟨rfl, I2, rfl, f2, k2, p85, pM, pK⟩
    rw [hG.2.1 6 (by decide) (by decide) (by decide), hG.2.2, wi_m1] at p85 pM pK
    refine px_aload_n (kk := 0) rfl rfl rfl ?_
    refine px_getR (r := 85) rfl gS_65 rfl (gR_65_31 _) ?_
    refine px_iload_n (kk := 3) rfl rfl rfl ?_
    refine px_ialde (j := a) (v := (sp_Mk n (I 65 6) (fun j => (J 100 (60 * s + j)).toInt32) z (wiC (-1)) k a)) rfl gS_85 rfl (by omega) (p85 a ha) ?_
    refine px_if_ge rfl (fun c36 => ?_) (fun c36 => ?_)
    · refine px_iinc5 (v := nI (k + 1)) rfl (n_inc k) rfl (by decide) ?_
      refine px_goto rfl ?_
      have hw : (sp_wait tx n (I 69) (I 68) (I 65 7) (I 65 6) (fun j => (J 100 (60 * s + j)).toInt32) z (wiC (-1)) (D0 (I 66)) a (k + 1)) = (sp_wait tx n (I 69) (I 68) (I 65 7) (I 65 6) (fun j => (J 100 (60 * s + j)).toInt32) z (wiC (-1)) (D0 (I 66)) a k) := by
        rw [sp_wait, days_M rfl, if_neg (fun e => by rw [e] at c36; exact absurd c36 (by decide))]
      rw [← hw]
      refine lX12_idle hn8 hn hs hz hz60 ha hN (k := k + 1) (by omega) (I1 := I2) ⟨Fr_tr hG.1 (Fr_mo f2 (by decide)), fun j h1 h2 h3 => (k2 j h1 h2).trans (hG.2.1 j h1 h2 h3), (k2 36 (by decide) (by decide)).trans hG.2.2⟩ ?_
      rw [k2 6 (by decide) (by decide), k2 36 (by decide) (by decide)]
      rw [hG.2.1 6 (by decide) (by decide) (by decide), hG.2.2, wi_m1]
      exact pK
    · refine px_iinc4 rfl rfl rfl (by decide) ?_
      refine px_iinc5 (v := nI (k + 1)) rfl (n_inc k) rfl (by decide) ?_
      refine px_goto rfl ?_
      refine px_l4 (y := (sp_wait tx n (I 69) (I 68) (I 65 7) (I 65 6) (fun j => (J 100 (60 * s + j)).toInt32) z (wiC (-1)) (D0 (I 66)) a k) + nI 1) rfl ?_
      have hw : (sp_wait tx n (I 69) (I 68) (I 65 7) (I 65 6) (fun j => (J 100 (60 * s + j)).toInt32) z (wiC (-1)) (D0 (I 66)) a (k + 1)) = (sp_wait tx n (I 69) (I 68) (I 65 7) (I 65 6) (fun j => (J 100 (60 * s + j)).toInt32) z (wiC (-1)) (D0 (I 66)) a k) + nI 1 := by
        rw [sp_wait, days_M rfl, if_pos ((MT_ge pM (by omega) hn8).mp (by first | exact c36 | (rw [i_lt]; rw [i_le] at c36; omega)))]
      rw [← hw]
      refine lX12_idle hn8 hn hs hz hz60 ha hN (k := k + 1) (by omega) (I1 := I2) ⟨Fr_tr hG.1 (Fr_mo f2 (by decide)), fun j h1 h2 h3 => (k2 j h1 h2).trans (hG.2.1 j h1 h2 h3), (k2 36 (by decide) (by decide)).trans hG.2.2⟩ ?_
      rw [k2 6 (by decide) (by decide), k2 36 (by decide) (by decide)]
      rw [hG.2.1 6 (by decide) (by decide) (by decide), hG.2.2, wi_m1]
      exact pK
termination_by N - k
decreasing_by all_goals (have h := ‹¬ nI N ≤ nI k›; rw [n_le (by omega) (by omega)] at h; omega)
theorem vX12_idle {I : Nat → Nat → Int32} {J : Nat → Nat → Int64} {p : Bool × Option Nat} {ro : List (Nat × Nat × (Nat → Int32))} {tx : List Ln} {n : Nat} (hn : I 65 1 = nI n) (hn8 : n ≤ 8) (hSZ : ∀ s, s < 6 → ∃ z, z ≤ 60 ∧ I 99 s = nI z) {x y w : Int32} : Pv 4 0 0 CX12_idle [.ref (65), .int (x), .int (y), .int (w)] (gS, I, J, gR p, ro) (PR (DAY ((∃ N, N ≤ 60 ∧ y = nI N) ∧ ∃ a, a < n ∧ w = nI a) x (fun s => I 98 s = -1) (fun s => I 98 s = -2) (fun s => (sp_wait tx n (I 69) (I 68) (I 65 7) (I 65 6) (fun j => (J 100 (60 * s + j)).toInt32) (mN (I 99 s)) (wiC (-1)) (D0 (I 66)) (mN w) (mN y)))) I J p ro) := by
  refine ⟨okCX12_idle, Nat.le_of_ble_eq_true rfl, (show Px _ _ _ _ 0 [some (.ref (65)), some (.int (x)), some (.int (y)), some (.int (w)), none, none] [] _ _ from ?_)⟩
  refine px_iload_n (kk := 1) rfl rfl rfl ?_
  refine px_callS0 CX12_isShelf [] [.int _] (vX12_isShelf) rfl rfl rfl (Nat.le_of_ble_eq_true rfl) (by decide) ?_
  rintro _ _ - (⟨⟨s, hs, rfl⟩, rfl, rfl⟩ | ⟨hs, rfl, rfl⟩)
  · refine px_if_eq rfl (fun h => absurd h (by decide)) (fun _ => ?_)
    refine px_iload_n (kk := 2) rfl rfl rfl ?_
    refine px_callS0 CX12_areHours [] [.int _] (vX12_areHours) rfl rfl rfl (Nat.le_of_ble_eq_true rfl) (by decide) ?_
    rintro _ _ - (⟨⟨N, hN, rfl⟩, rfl, rfl⟩ | ⟨hN, rfl, rfl⟩)
    · refine px_if_eq rfl (fun h => absurd h (by decide)) (fun _ => ?_)
      refine px_aload_n (kk := 0) rfl rfl rfl ?_
      refine px_iload_n (kk := 3) rfl rfl rfl ?_
      refine px_callV0 CX12_isLine [] [.int _] (vX12_isLine hn hn8) rfl gS_65 (by decide) rfl rfl rfl (Nat.le_of_ble_eq_true rfl) (by decide) ?_
      rintro _ _ - (⟨⟨a, ha, rfl⟩, rfl, rfl⟩ | ⟨ha, rfl, rfl⟩)
      · refine px_if_ne rfl (fun _ => ?_) (fun h => absurd h (by decide))
        refine px_aload_n (kk := 0) rfl rfl rfl ?_
        refine px_iload_n (kk := 1) rfl rfl rfl ?_
        refine px_callV0 CX12_rowFault [] [.int _] (vX12_rowFault hs) rfl gS_65 (by decide) rfl rfl rfl (Nat.le_of_ble_eq_true rfl) (by decide) ?_
        rintro _ _ - ⟨rfl, (⟨h98, rfl⟩ | ⟨h98, h2, rfl⟩ | ⟨h98, h2, rfl⟩)⟩
        · refine px_if_ge rfl (fun h => absurd h (by decide)) (fun _ => ?_)
          refine px_aload_n (kk := 0) rfl rfl rfl ?_
          refine px_iload_n (kk := 1) rfl rfl rfl ?_
          refine px_callV0 CX12_rowFault [] [.int _] (vX12_rowFault hs) rfl gS_65 (by decide) rfl rfl rfl (Nat.le_of_ble_eq_true rfl) (by decide) ?_
          rintro _ _ - ⟨rfl, (⟨g98, rfl⟩ | ⟨g98, g2, rfl⟩ | ⟨g98, g2, rfl⟩)⟩
          · refine px_ireturn rfl (.inl rfl) ?_
            first | exact PR_id (.inr ⟨s, hs, rfl, ⟨⟨N, hN, rfl⟩, a, ha, rfl⟩, .inl ⟨h98, rfl⟩⟩) | exact PR_id (.inr ⟨s, hs, rfl, ⟨⟨N, hN, rfl⟩, a, ha, rfl⟩, .inr (.inr ⟨h98, h2, rfl⟩)⟩) | exact absurd h98 g98 | exact absurd g98 h98 | exact absurd g2 h2 | exact absurd h2 g2 | exact PR_id (.inl ⟨fun h => ha h.1.2, rfl⟩) | exact PR_id (.inl ⟨fun h => hN h.1.1, rfl⟩) | exact PR_id (.inl ⟨fun h => hs h.2, rfl⟩)
          · refine px_ireturn rfl (.inl rfl) ?_
            first | exact PR_id (.inr ⟨s, hs, rfl, ⟨⟨N, hN, rfl⟩, a, ha, rfl⟩, .inl ⟨h98, rfl⟩⟩) | exact PR_id (.inr ⟨s, hs, rfl, ⟨⟨N, hN, rfl⟩, a, ha, rfl⟩, .inr (.inr ⟨h98, h2, rfl⟩)⟩) | exact absurd h98 g98 | exact absurd g98 h98 | exact absurd g2 h2 | exact absurd h2 g2 | exact PR_id (.inl ⟨fun h => ha h.1.2, rfl⟩) | exact PR_id (.inl ⟨fun h => hN h.1.1, rfl⟩) | exact PR_id (.inl ⟨fun h => hs h.2, rfl⟩)
          · refine px_ireturn rfl (.inl rfl) ?_
            first | exact PR_id (.inr ⟨s, hs, rfl, ⟨⟨N, hN, rfl⟩, a, ha, rfl⟩, .inl ⟨h98, rfl⟩⟩) | exact PR_id (.inr ⟨s, hs, rfl, ⟨⟨N, hN, rfl⟩, a, ha, rfl⟩, .inr (.inr ⟨h98, h2, rfl⟩)⟩) | exact absurd h98 g98 | exact absurd g98 h98 | exact absurd g2 h2 | exact absurd h2 g2 | exact PR_id (.inl ⟨fun h => ha h.1.2, rfl⟩) | exact PR_id (.inl ⟨fun h => hN h.1.1, rfl⟩) | exact PR_id (.inl ⟨fun h => hs h.2, rfl⟩)
        · obtain ⟨z, hz60, hz⟩ := hSZ s hs
          refine px_if_ge rfl (fun _ => ?_) (fun h => absurd h (by decide))
          refine px_aload_n (kk := 0) rfl rfl rfl ?_
          refine px_callV0 CX12_beginDay [] [] (vX12_beginDay hn hn8) rfl gS_65 (by decide) rfl rfl rfl (Nat.le_of_ble_eq_true rfl) (by decide) ?_
          rintro _ _ - ⟨rfl, I2, rfl, f2, k2, b34, b35, b36, b84, b85, b86⟩
          refine px_iconst (v := nI 0) rfl k_0 ?_
          refine px_ist4 rfl rfl (by decide) ?_
          refine px_iconst (v := nI 0) rfl k_0 ?_
          refine px_ist5 rfl rfl (by decide) ?_
          refine pxv_post (lX12_idle (tx := tx) hn8 hn hs hz hz60 ha hN (k := 0) (by omega) (I1 := I2) ⟨Fr_mo f2 (by decide), k2, b36⟩ ⟨0, by omega, b34, .inl rfl⟩) (fun r S hr => ?_)
          obtain ⟨rfl, I3, rfl, hG⟩ := hr
          exact PR_go (.inr ⟨s, hs, rfl, ⟨⟨N, hN, rfl⟩, a, ha, rfl⟩, .inr (.inl ⟨h98, h2, by dsimp only; rw [mN_n (by omega), mN_n (by omega), hz, mN_n (by omega)]⟩)⟩) hG
        · refine px_if_ge rfl (fun h => absurd h (by decide)) (fun _ => ?_)
          refine px_aload_n (kk := 0) rfl rfl rfl ?_
          refine px_iload_n (kk := 1) rfl rfl rfl ?_
          refine px_callV0 CX12_rowFault [] [.int _] (vX12_rowFault hs) rfl gS_65 (by decide) rfl rfl rfl (Nat.le_of_ble_eq_true rfl) (by decide) ?_
          rintro _ _ - ⟨rfl, (⟨g98, rfl⟩ | ⟨g98, g2, rfl⟩ | ⟨g98, g2, rfl⟩)⟩
          · refine px_ireturn rfl (.inl rfl) ?_
            first | exact PR_id (.inr ⟨s, hs, rfl, ⟨⟨N, hN, rfl⟩, a, ha, rfl⟩, .inl ⟨h98, rfl⟩⟩) | exact PR_id (.inr ⟨s, hs, rfl, ⟨⟨N, hN, rfl⟩, a, ha, rfl⟩, .inr (.inr ⟨h98, h2, rfl⟩)⟩) | exact absurd h98 g98 | exact absurd g98 h98 | exact absurd g2 h2 | exact absurd h2 g2 | exact PR_id (.inl ⟨fun h => ha h.1.2, rfl⟩) | exact PR_id (.inl ⟨fun h => hN h.1.1, rfl⟩) | exact PR_id (.inl ⟨fun h => hs h.2, rfl⟩)
          · refine px_ireturn rfl (.inl rfl) ?_
            first | exact PR_id (.inr ⟨s, hs, rfl, ⟨⟨N, hN, rfl⟩, a, ha, rfl⟩, .inl ⟨h98, rfl⟩⟩) | exact PR_id (.inr ⟨s, hs, rfl, ⟨⟨N, hN, rfl⟩, a, ha, rfl⟩, .inr (.inr ⟨h98, h2, rfl⟩)⟩) | exact absurd h98 g98 | exact absurd g98 h98 | exact absurd g2 h2 | exact absurd h2 g2 | exact PR_id (.inl ⟨fun h => ha h.1.2, rfl⟩) | exact PR_id (.inl ⟨fun h => hN h.1.1, rfl⟩) | exact PR_id (.inl ⟨fun h => hs h.2, rfl⟩)
          · refine px_ireturn rfl (.inl rfl) ?_
            first | exact PR_id (.inr ⟨s, hs, rfl, ⟨⟨N, hN, rfl⟩, a, ha, rfl⟩, .inl ⟨h98, rfl⟩⟩) | exact PR_id (.inr ⟨s, hs, rfl, ⟨⟨N, hN, rfl⟩, a, ha, rfl⟩, .inr (.inr ⟨h98, h2, rfl⟩)⟩) | exact absurd h98 g98 | exact absurd g98 h98 | exact absurd g2 h2 | exact absurd h2 g2 | exact PR_id (.inl ⟨fun h => ha h.1.2, rfl⟩) | exact PR_id (.inl ⟨fun h => hN h.1.1, rfl⟩) | exact PR_id (.inl ⟨fun h => hs h.2, rfl⟩)
      · refine px_if_ne rfl (fun h => absurd h (by decide)) (fun _ => ?_)
        refine px_iconst (v := -1) rfl k_m1 ?_
        refine px_ireturn rfl (.inl rfl) ?_
        first | exact PR_id (.inr ⟨s, hs, rfl, ⟨⟨N, hN, rfl⟩, a, ha, rfl⟩, .inl ⟨h98, rfl⟩⟩) | exact PR_id (.inr ⟨s, hs, rfl, ⟨⟨N, hN, rfl⟩, a, ha, rfl⟩, .inr (.inr ⟨h98, h2, rfl⟩)⟩) | exact absurd h98 g98 | exact absurd g98 h98 | exact absurd g2 h2 | exact absurd h2 g2 | exact PR_id (.inl ⟨fun h => ha h.1.2, rfl⟩) | exact PR_id (.inl ⟨fun h => hN h.1.1, rfl⟩) | exact PR_id (.inl ⟨fun h => hs h.2, rfl⟩)
    · refine px_if_eq rfl (fun _ => ?_) (fun h => absurd h (by decide))
      refine px_iconst (v := -1) rfl k_m1 ?_
      refine px_ireturn rfl (.inl rfl) ?_
      first | exact PR_id (.inr ⟨s, hs, rfl, ⟨⟨N, hN, rfl⟩, a, ha, rfl⟩, .inl ⟨h98, rfl⟩⟩) | exact PR_id (.inr ⟨s, hs, rfl, ⟨⟨N, hN, rfl⟩, a, ha, rfl⟩, .inr (.inr ⟨h98, h2, rfl⟩)⟩) | exact absurd h98 g98 | exact absurd g98 h98 | exact absurd g2 h2 | exact absurd h2 g2 | exact PR_id (.inl ⟨fun h => ha h.1.2, rfl⟩) | exact PR_id (.inl ⟨fun h => hN h.1.1, rfl⟩) | exact PR_id (.inl ⟨fun h => hs h.2, rfl⟩)
  · refine px_if_eq rfl (fun _ => ?_) (fun h => absurd h (by decide))
    refine px_iconst (v := -1) rfl k_m1 ?_
    refine px_ireturn rfl (.inl rfl) ?_
    first | exact PR_id (.inr ⟨s, hs, rfl, ⟨⟨N, hN, rfl⟩, a, ha, rfl⟩, .inl ⟨h98, rfl⟩⟩) | exact PR_id (.inr ⟨s, hs, rfl, ⟨⟨N, hN, rfl⟩, a, ha, rfl⟩, .inr (.inr ⟨h98, h2, rfl⟩)⟩) | exact absurd h98 g98 | exact absurd g98 h98 | exact absurd g2 h2 | exact absurd h2 g2 | exact PR_id (.inl ⟨fun h => ha h.1.2, rfl⟩) | exact PR_id (.inl ⟨fun h => hN h.1.1, rfl⟩) | exact PR_id (.inl ⟨fun h => hs h.2, rfl⟩)
