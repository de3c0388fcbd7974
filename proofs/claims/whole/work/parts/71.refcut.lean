/-! the reference: news asked for, and who keeps it -/
theorem plk_u {n : Nat} {co : Int32} {E : Nat → Int32} {z : Nat} {wi wj : Int32 → Prop} (hw : ∀ v, (wi v ↔ wj v) ∨ ∀ s, ¬ TK n co s (v / nI 10) (v - v / nI 10 * nI 10)) : ∀ k, sp_plk n co E z wi k = sp_plk n co E z wj k
  | 0 => rfl
  | k + 1 => by
    simp only [sp_plk]
    rw [plk_u hw k]
    exact (sp_tell_u hw _ _ (n1, 0, nI 0) (n1, 0, nI 0) rfl rfl).2.2
theorem Mk_u {n : Nat} {co : Int32} {E : Nat → Int32} {z : Nat} {wi wj : Int32 → Prop} (hw : ∀ v, (wi v ↔ wj v) ∨ ∀ s, ¬ TK n co s (v / nI 10) (v - v / nI 10 * nI 10)) (k : Nat) : sp_Mk n co E z wi k = sp_Mk n co E z wj k := by
  simp only [sp_Mk]
  rw [plk_u hw k]
  exact (sp_tell_u hw _ _ (n1, 0, nI 0) (n1, 0, nI 0) rfl rfl).1
theorem sp_kn_P {n : Nat} {P P' M : Nat → Int32} {v : Nat} (h : ∀ l, l < n → P' l = P l) : sp_kn n P' M v = sp_kn n P M v := by
  refine mask_ext sp_kn_v sp_kn_v (fun l hl => ?_)
  rw [sp_kn_tb hl, sp_kn_tb hl]
  constructor
  · rintro (a | ⟨a, b | ⟨c, e, d, f, g⟩⟩)
    · exact Or.inl a
    · exact Or.inr ⟨a, Or.inl b⟩
    · exact Or.inr ⟨a, Or.inr ⟨by rw [← h l a]; exact c, e, d, f, by rw [← h l a, ← h e d]; exact g⟩⟩
  · rintro (a | ⟨a, b | ⟨c, e, d, f, g⟩⟩)
    · exact Or.inl a
    · exact Or.inr ⟨a, Or.inl b⟩
    · exact Or.inr ⟨a, Or.inr ⟨by rw [h l a]; exact c, e, d, f, by rw [h l a, h e d]; exact g⟩⟩
theorem news_u {n : Nat} {P P' : Nat → Int32} {co : Int32} {E : Nat → Int32} {z : Nat} {wi wj : Int32 → Prop} (hw : ∀ v, (wi v ↔ wj v) ∨ ∀ s, ¬ TK n co s (v / nI 10) (v - v / nI 10 * nI 10)) (h : ∀ l, l < n → P' l = P l) {one : Nat} : ∀ k, sp_news n P' co E z wi one k = sp_news n P co E z wj one k
  | 0 => rfl
  | k + 1 => by
    simp only [sp_news]
    rw [news_u hw h k, Mk_u hw k, sp_kn_P h]
theorem wi_l {n : Nat} (hn : n ≤ 8) {co : Int32} {l : Nat} (hl : l < 8) (v : Int32) : (wiR (nI l) v ↔ wiC (nI l) v) ∨ ∀ s, ¬ TK n co s (v / nI 10) (v - v / nI 10 * nI 10) := by
  by_cases h : v < 0
  · exact .inr (fun s => TK_neg hn h)
  · exact .inl ⟨fun z => ⟨nI_nm (by omega), z.2.2⟩, fun z => ⟨nn_ge (by omega), by rw [i_le]; rw [i_lt] at h; omega, z.2⟩⟩
theorem nm_l {l : Nat} (h : l < 8) : ¬ nI l = (-1 : Int32) := nI_nm (by omega)
theorem vX12_news {I : Nat → Nat → Int32} {J : Nat → Nat → Int64} {p : Bool × Option Nat} {ro : List (Nat × Nat × (Nat → Int32))} {tx : List Ln} {n : Nat} (hn : I 65 1 = nI n) (hn8 : n ≤ 8) (hSZ : ∀ s, s < 6 → ∃ z, z ≤ 60 ∧ I 99 s = nI z) {x y w u : Int32} : Pv 5 0 0 CX12_news [.ref (65), .int (x), .int (y), .int (w), .int (u)] (gS, I, J, gR p, ro) (PR (DAY ((∃ N, N ≤ 60 ∧ y = nI N) ∧ (∃ a, a < n ∧ w = nI a) ∧ (u = -1 ∨ ∃ a, a < n ∧ u = nI a)) x (fun s => I 98 s = -1) (fun s => I 98 s = -2) (fun s => if u = -1 then nI (sp_news n (fun lq => if nI lq = -1 then nI 0 else I 68 lq) (I 65 6) (fun j => (J 100 (60 * s + j)).toInt32) (mN (I 99 s)) (wiC (-1)) (mN w) (mN y)) else sp_hear (fun k => (sp_news n (fun lq => if nI lq = -1 then nI 0 else I 68 lq) (I 65 6) (fun j => (J 100 (60 * s + j)).toInt32) (mN (I 99 s)) (wiC (-1)) (mN w) k)) (mN u) 60 0)) I J p ro) := by
  refine ⟨okCX12_news, Nat.le_of_ble_eq_true rfl, (show Px _ _ _ _ 0 [some (.ref (65)), some (.int (x)), some (.int (y)), some (.int (w)), some (.int (u)), none] [] _ _ from ?_)⟩
  refine px_iload_n (kk := 1) rfl rfl rfl ?_
  refine px_callS0 CX12_isShelf [] [.int _] (vX12_isShelf) rfl rfl rfl (Nat.le_of_ble_eq_true rfl) (by decide) ?_
  rintro _ _ - (⟨⟨s, hs, rfl⟩, rfl, rfl⟩ | ⟨hs, rfl, rfl⟩)
  · refine px_if_eq rfl (fun h => absurd h (by decide)) (fun _ => ?_)
    refine px_iload_n (kk := 2) rfl rfl rfl ?_
    refine px_callS0 CX12_areHours [] [.int _] (vX12_areHours) rfl rfl rfl (Nat.le_of_ble_eq_true rfl) (by decide) ?_
    rintro _ _ - (⟨⟨N, hN, rfl⟩, rfl, rfl⟩ | ⟨hN, rfl, rfl⟩)
    · refine px_if_eq rfl (fun h => absurd h (by decide)) (fun _ => ?_)
      refine px_aload_n (kk := 0) rfl rfl rfl ?_
      refine px_iload_n (kk := 3) rfl rfl rfl ?_
      refine px_callV0 CX12_isLine [] [.int _] (vX12_isLine hn hn8) rfl gS_65 (by decide) rfl rfl rfl (Nat.le_of_ble_eq_true rfl) (by decide) ?_
      rintro _ _ - (⟨⟨a, ha, rfl⟩, rfl, rfl⟩ | ⟨ha, rfl, rfl⟩)
      · refine px_if_eq rfl (fun h => absurd h (by decide)) (fun _ => ?_)
        refine px_iload rfl rfl ?_
        refine px_iconst (v := -1) rfl k_m1 ?_
        refine px_aload_n (kk := 0) rfl rfl rfl ?_
        refine px_getIe (v := nI n) rfl gS_65 rfl hn ?_
        refine px_iconst (v := nI 1) rfl k_1 ?_
        refine px_isub rfl ?_
        refine px_callS0 CX12_in [] [.int _, .int _, .int _] (vX12_in) rfl rfl rfl (Nat.le_of_ble_eq_true rfl) (by decide) ?_
        rintro _ _ - (⟨hu, rfl, rfl⟩ | ⟨hu, rfl, rfl⟩)
        · replace hu := (in_mn hn8).mp hu
          refine px_if_ne rfl (fun _ => ?_) (fun h => absurd h (by decide))
          rcases hu with rfl | ⟨b, hb, rfl⟩
          · skip
            refine px_aload_n (kk := 0) rfl rfl rfl ?_
            refine px_iload_n (kk := 1) rfl rfl rfl ?_
            refine px_callV0 CX12_rowFault [] [.int _] (vX12_rowFault hs) rfl gS_65 (by decide) rfl rfl rfl (Nat.le_of_ble_eq_true rfl) (by decide) ?_
            rintro _ _ - ⟨rfl, (⟨h98, rfl⟩ | ⟨h98, h2, rfl⟩ | ⟨h98, h2, rfl⟩)⟩
            · refine px_if_ge rfl (fun h => absurd h (by decide)) (fun _ => ?_)
              refine px_aload_n (kk := 0) rfl rfl rfl ?_
              refine px_iload_n (kk := 1) rfl rfl rfl ?_
              refine px_callV0 CX12_rowFault [] [.int _] (vX12_rowFault hs) rfl gS_65 (by decide) rfl rfl rfl (Nat.le_of_ble_eq_true rfl) (by decide) ?_
              rintro _ _ - ⟨rfl, (⟨g98, rfl⟩ | ⟨g98, g2, rfl⟩ | ⟨g98, g2, rfl⟩)⟩
              · refine px_ireturn rfl (.inl rfl) ?_
                first | exact PR_id (.inr ⟨s, hs, rfl, ⟨⟨N, hN, rfl⟩, ⟨a, ha, rfl⟩, .inl rfl⟩, .inl ⟨h98, rfl⟩⟩) | exact PR_id (.inr ⟨s, hs, rfl, ⟨⟨N, hN, rfl⟩, ⟨a, ha, rfl⟩, .inl rfl⟩, .inr (.inr ⟨h98, h2, rfl⟩)⟩) | exact PR_id (.inr ⟨s, hs, rfl, ⟨⟨N, hN, rfl⟩, ⟨a, ha, rfl⟩, .inr ⟨b, hb, rfl⟩⟩, .inl ⟨h98, rfl⟩⟩) | exact PR_id (.inr ⟨s, hs, rfl, ⟨⟨N, hN, rfl⟩, ⟨a, ha, rfl⟩, .inr ⟨b, hb, rfl⟩⟩, .inr (.inr ⟨h98, h2, rfl⟩)⟩) | exact absurd h98 g98 | exact absurd g98 h98 | exact absurd g2 h2 | exact absurd h2 g2 | (exact ⟨_, rfl, .inr ⟨s, hs, rfl, ⟨⟨N, hN, rfl⟩, ⟨a, ha, rfl⟩, .inl rfl⟩, .inr (.inl ⟨h98, h2, by dsimp only; rw [f2 68 (by decide), k2 6 (by decide) (by decide) (by decide), b36, wi_m1]; rw [if_pos rfl, mN_n (show N < 2 ^ 31 by omega), mN_n (show a < 2 ^ 31 by omega), hz, mN_n (show z < 2 ^ 31 by omega)]; congr 1; exact (news_u (fun v => .inl Iff.rfl) (fun l hl => (if_neg (nm_l (by omega))).symm) _)⟩)⟩, I3, rfl, (Fr_tr (Fr_mo f2 (by decide)) (Fr_mo hG.1 (by decide))), (fun k hk => (hG.2 k (by omega) (by omega) (by omega)).trans (k2 k (by omega) (by omega) (by omega)))⟩) | (exact ⟨_, rfl, .inr ⟨s, hs, rfl, ⟨⟨N, hN, rfl⟩, ⟨a, ha, rfl⟩, .inr ⟨b, hb, rfl⟩⟩, .inr (.inl ⟨h98, h2, by dsimp only; rw [if_neg (nm_l (by omega)), mN_n (show a < 2 ^ 31 by omega), hz, mN_n (show z < 2 ^ 31 by omega), mN_n (show b < 2 ^ 31 by omega)]; rw [h38, f2 68 (by decide), k2 6 (by decide) (by decide) (by decide), b36, wi_m1]; rw [← sp_fh_h (by omega) 60 0 (by omega) rfl]; congr 1; funext k; exact (news_u (fun v => .inl Iff.rfl) (fun l hl => (if_neg (nm_l (by omega))).symm) _)⟩)⟩, I3, rfl, (Fr_tr (Fr_mo f2 (by decide)) (Fr_mo hG.1 (by decide))), (fun k hk => (hG.2 k (by omega) (by omega) (by omega)).trans (k2 k (by omega) (by omega) (by omega)))⟩) | exact PR_id (.inl ⟨fun h => hu2 h.1.2.2, rfl⟩) | exact PR_id (.inl ⟨fun h => ha h.1.2.1, rfl⟩) | exact PR_id (.inl ⟨fun h => hN h.1.1, rfl⟩) | exact PR_id (.inl ⟨fun h => hs h.2, rfl⟩)
              · refine px_ireturn rfl (.inl rfl) ?_
                first | exact PR_id (.inr ⟨s, hs, rfl, ⟨⟨N, hN, rfl⟩, ⟨a, ha, rfl⟩, .inl rfl⟩, .inl ⟨h98, rfl⟩⟩) | exact PR_id (.inr ⟨s, hs, rfl, ⟨⟨N, hN, rfl⟩, ⟨a, ha, rfl⟩, .inl rfl⟩, .inr (.inr ⟨h98, h2, rfl⟩)⟩) | exact PR_id (.inr ⟨s, hs, rfl, ⟨⟨N, hN, rfl⟩, ⟨a, ha, rfl⟩, .inr ⟨b, hb, rfl⟩⟩, .inl ⟨h98, rfl⟩⟩) | exact PR_id (.inr ⟨s, hs, rfl, ⟨⟨N, hN, rfl⟩, ⟨a, ha, rfl⟩, .inr ⟨b, hb, rfl⟩⟩, .inr (.inr ⟨h98, h2, rfl⟩)⟩) | exact absurd h98 g98 | exact absurd g98 h98 | exact absurd g2 h2 | exact absurd h2 g2 | (exact ⟨_, rfl, .inr ⟨s, hs, rfl, ⟨⟨N, hN, rfl⟩, ⟨a, ha, rfl⟩, .inl rfl⟩, .inr (.inl ⟨h98, h2, by dsimp only; rw [f2 68 (by decide), k2 6 (by decide) (by decide) (by decide), b36, wi_m1]; rw [if_pos rfl, mN_n (show N < 2 ^ 31 by omega), mN_n (show a < 2 ^ 31 by omega), hz, mN_n (show z < 2 ^ 31 by omega)]; congr 1; exact (news_u (fun v => .inl Iff.rfl) (fun l hl => (if_neg (nm_l (by omega))).symm) _)⟩)⟩, I3, rfl, (Fr_tr (Fr_mo f2 (by decide)) (Fr_mo hG.1 (by decide))), (fun k hk => (hG.2 k (by omega) (by omega) (by omega)).trans (k2 k (by omega) (by omega) (by omega)))⟩) | (exact ⟨_, rfl, .inr ⟨s, hs, rfl, ⟨⟨N, hN, rfl⟩, ⟨a, ha, rfl⟩, .inr ⟨b, hb, rfl⟩⟩, .inr (.inl ⟨h98, h2, by dsimp only; rw [if_neg (nm_l (by omega)), mN_n (show a < 2 ^ 31 by omega), hz, mN_n (show z < 2 ^ 31 by omega), mN_n (show b < 2 ^ 31 by omega)]; rw [h38, f2 68 (by decide), k2 6 (by decide) (by decide) (by decide), b36, wi_m1]; rw [← sp_fh_h (by omega) 60 0 (by omega) rfl]; congr 1; funext k; exact (news_u (fun v => .inl Iff.rfl) (fun l hl => (if_neg (nm_l (by omega))).symm) _)⟩)⟩, I3, rfl, (Fr_tr (Fr_mo f2 (by decide)) (Fr_mo hG.1 (by decide))), (fun k hk => (hG.2 k (by omega) (by omega) (by omega)).trans (k2 k (by omega) (by omega) (by omega)))⟩) | exact PR_id (.inl ⟨fun h => hu2 h.1.2.2, rfl⟩) | exact PR_id (.inl ⟨fun h => ha h.1.2.1, rfl⟩) | exact PR_id (.inl ⟨fun h => hN h.1.1, rfl⟩) | exact PR_id (.inl ⟨fun h => hs h.2, rfl⟩)
              · refine px_ireturn rfl (.inl rfl) ?_
                first | exact PR_id (.inr ⟨s, hs, rfl, ⟨⟨N, hN, rfl⟩, ⟨a, ha, rfl⟩, .inl rfl⟩, .inl ⟨h98, rfl⟩⟩) | exact PR_id (.inr ⟨s, hs, rfl, ⟨⟨N, hN, rfl⟩, ⟨a, ha, rfl⟩, .inl rfl⟩, .inr (.inr ⟨h98, h2, rfl⟩)⟩) | exact PR_id (.inr ⟨s, hs, rfl, ⟨⟨N, hN, rfl⟩, ⟨a, ha, rfl⟩, .inr ⟨b, hb, rfl⟩⟩, .inl ⟨h98, rfl⟩⟩) | exact PR_id (.inr ⟨s, hs, rfl, ⟨⟨N, hN, rfl⟩, ⟨a, ha, rfl⟩, .inr ⟨b, hb, rfl⟩⟩, .inr (.inr ⟨h98, h2, rfl⟩)⟩) | exact absurd h98 g98 | exact absurd g98 h98 | exact absurd g2 h2 | exact absurd h2 g2 | (exact ⟨_, rfl, .inr ⟨s, hs, rfl, ⟨⟨N, hN, rfl⟩, ⟨a, ha, rfl⟩, .inl rfl⟩, .inr (.inl ⟨h98, h2, by dsimp only; rw [f2 68 (by decide), k2 6 (by decide) (by decide) (by decide), b36, wi_m1]; rw [if_pos rfl, mN_n (show N < 2 ^ 31 by omega), mN_n (show a < 2 ^ 31 by omega), hz, mN_n (show z < 2 ^ 31 by omega)]; congr 1; exact (news_u (fun v => .inl Iff.rfl) (fun l hl => (if_neg (nm_l (by omega))).symm) _)⟩)⟩, I3, rfl, (Fr_tr (Fr_mo f2 (by decide)) (Fr_mo hG.1 (by decide))), (fun k hk => (hG.2 k (by omega) (by omega) (by omega)).trans (k2 k (by omega) (by omega) (by omega)))⟩) | (exact ⟨_, rfl, .inr ⟨s, hs, rfl, ⟨⟨N, hN, rfl⟩, ⟨a, ha, rfl⟩, .inr ⟨b, hb, rfl⟩⟩, .inr (.inl ⟨h98, h2, by dsimp only; rw [if_neg (nm_l (by omega)), mN_n (show a < 2 ^ 31 by omega), hz, mN_n (show z < 2 ^ 31 by omega), mN_n (show b < 2 ^ 31 by omega)]; rw [h38, f2 68 (by decide), k2 6 (by decide) (by decide) (by decide), b36, wi_m1]; rw [← sp_fh_h (by omega) 60 0 (by omega) rfl]; congr 1; funext k; exact (news_u (fun v => .inl Iff.rfl) (fun l hl => (if_neg (nm_l (by omega))).symm) _)⟩)⟩, I3, rfl, (Fr_tr (Fr_mo f2 (by decide)) (Fr_mo hG.1 (by decide))), (fun k hk => (hG.2 k (by omega) (by omega) (by omega)).trans (k2 k (by omega) (by omega) (by omega)))⟩) | exact PR_id (.inl ⟨fun h => hu2 h.1.2.2, rfl⟩) | exact PR_id (.inl ⟨fun h => ha h.1.2.1, rfl⟩) | exact PR_id (.inl ⟨fun h => hN h.1.1, rfl⟩) | exact PR_id (.inl ⟨fun h => hs h.2, rfl⟩)
            · obtain ⟨z, hz60, hz⟩ := hSZ s hs
              refine px_if_ge rfl (fun _ => ?_) (fun h => absurd h (by decide))
              
              refine px_aload_n (kk := 0) rfl rfl rfl ?_
              refine px_callV0 CX12_beginDay [] [] (vX12_beginDay hn hn8) rfl gS_65 (by decide) rfl rfl rfl (Nat.le_of_ble_eq_true rfl) (by decide) ?_
              rintro _ _ - ⟨rfl, I2, rfl, f2, k2, b34, b35, b36, b84, b85, b86⟩
              refine px_aload_n (kk := 0) rfl rfl rfl ?_
              refine px_iload_n (kk := 1) rfl rfl rfl ?_
              refine px_iload rfl rfl ?_
              refine px_if_ge rfl (fun h => absurd h (by decide)) (fun _ => ?_)
              refine px_iload_n (kk := 2) rfl rfl rfl ?_
              refine px_goto rfl ?_
              refine px_iload_n (kk := 3) rfl rfl rfl ?_
              refine px_iload rfl rfl ?_
              refine px_callV0 CX12_newsOf [] [.int _, .int _, .int _, .int _] (vX12_newsOf (I := I2) hn8 ((k2 1 (by decide) (by decide) (by decide)).trans hn) hs ((congrFun (f2 99 (by decide)) s).trans hz) hz60 (one := a) (by omega) (N := N) hN (u := -1) (.inl rfl) ⟨0, by omega, b34, .inl rfl⟩) rfl gS_65 (by decide) rfl rfl rfl (Nat.le_of_ble_eq_true rfl) (by decide) ?_
              rintro _ _ - ⟨rfl, I3, rfl, hG, h38⟩
              refine px_ist5 rfl rfl (by decide) ?_
              refine px_iload rfl rfl ?_
              refine px_if_ge rfl (fun h => absurd h (by decide)) (fun _ => ?_)
              refine px_iload rfl rfl ?_
              refine px_goto rfl ?_
              refine px_ireturn rfl (.inl rfl) ?_
              first | exact PR_id (.inr ⟨s, hs, rfl, ⟨⟨N, hN, rfl⟩, ⟨a, ha, rfl⟩, .inl rfl⟩, .inl ⟨h98, rfl⟩⟩) | exact PR_id (.inr ⟨s, hs, rfl, ⟨⟨N, hN, rfl⟩, ⟨a, ha, rfl⟩, .inl rfl⟩, .inr (.inr ⟨h98, h2, rfl⟩)⟩) | exact PR_id (.inr ⟨s, hs, rfl, ⟨⟨N, hN, rfl⟩, ⟨a, ha, rfl⟩, .inr ⟨b, hb, rfl⟩⟩, .inl ⟨h98, rfl⟩⟩) | exact PR_id (.inr ⟨s, hs, rfl, ⟨⟨N, hN, rfl⟩, ⟨a, ha, rfl⟩, .inr ⟨b, hb, rfl⟩⟩, .inr (.inr ⟨h98, h2, rfl⟩)⟩) | exact absurd h98 g98 | exact absurd g98 h98 | exact absurd g2 h2 | exact absurd h2 g2 | (exact ⟨_, rfl, .inr ⟨s, hs, rfl, ⟨⟨N, hN, rfl⟩, ⟨a, ha, rfl⟩, .inl rfl⟩, .inr (.inl ⟨h98, h2, by dsimp only; rw [f2 68 (by decide), k2 6 (by decide) (by decide) (by decide), b36, wi_m1]; rw [if_pos rfl, mN_n (show N < 2 ^ 31 by omega), mN_n (show a < 2 ^ 31 by omega), hz, mN_n (show z < 2 ^ 31 by omega)]; congr 1; exact (news_u (fun v => .inl Iff.rfl) (fun l hl => (if_neg (nm_l (by omega))).symm) _)⟩)⟩, I3, rfl, (Fr_tr (Fr_mo f2 (by decide)) (Fr_mo hG.1 (by decide))), (fun k hk => (hG.2 k (by omega) (by omega) (by omega)).trans (k2 k (by omega) (by omega) (by omega)))⟩) | (exact ⟨_, rfl, .inr ⟨s, hs, rfl, ⟨⟨N, hN, rfl⟩, ⟨a, ha, rfl⟩, .inr ⟨b, hb, rfl⟩⟩, .inr (.inl ⟨h98, h2, by dsimp only; rw [if_neg (nm_l (by omega)), mN_n (show a < 2 ^ 31 by omega), hz, mN_n (show z < 2 ^ 31 by omega), mN_n (show b < 2 ^ 31 by omega)]; rw [h38, f2 68 (by decide), k2 6 (by decide) (by decide) (by decide), b36, wi_m1]; rw [← sp_fh_h (by omega) 60 0 (by omega) rfl]; congr 1; funext k; exact (news_u (fun v => .inl Iff.rfl) (fun l hl => (if_neg (nm_l (by omega))).symm) _)⟩)⟩, I3, rfl, (Fr_tr (Fr_mo f2 (by decide)) (Fr_mo hG.1 (by decide))), (fun k hk => (hG.2 k (by omega) (by omega) (by omega)).trans (k2 k (by omega) (by omega) (by omega)))⟩) | exact PR_id (.inl ⟨fun h => hu2 h.1.2.2, rfl⟩) | exact PR_id (.inl ⟨fun h => ha h.1.2.1, rfl⟩) | exact PR_id (.inl ⟨fun h => hN h.1.1, rfl⟩) | exact PR_id (.inl ⟨fun h => hs h.2, rfl⟩)
            · refine px_if_ge rfl (fun h => absurd h (by decide)) (fun _ => ?_)
              refine px_aload_n (kk := 0) rfl rfl rfl ?_
              refine px_iload_n (kk := 1) rfl rfl rfl ?_
              refine px_callV0 CX12_rowFault [] [.int _] (vX12_rowFault hs) rfl gS_65 (by decide) rfl rfl rfl (Nat.le_of_ble_eq_true rfl) (by decide) ?_
              rintro _ _ - ⟨rfl, (⟨g98, rfl⟩ | ⟨g98, g2, rfl⟩ | ⟨g98, g2, rfl⟩)⟩
              · refine px_ireturn rfl (.inl rfl) ?_
                first | exact PR_id (.inr ⟨s, hs, rfl, ⟨⟨N, hN, rfl⟩, ⟨a, ha, rfl⟩, .inl rfl⟩, .inl ⟨h98, rfl⟩⟩) | exact PR_id (.inr ⟨s, hs, rfl, ⟨⟨N, hN, rfl⟩, ⟨a, ha, rfl⟩, .inl rfl⟩, .inr (.inr ⟨h98, h2, rfl⟩)⟩) | exact PR_id (.inr ⟨s, hs, rfl, ⟨⟨N, hN, rfl⟩, ⟨a, ha, rfl⟩, .inr ⟨b, hb, rfl⟩⟩, .inl ⟨h98, rfl⟩⟩) | exact PR_id (.inr ⟨s, hs, rfl, ⟨⟨N, hN, rfl⟩, ⟨a, ha, rfl⟩, .inr ⟨b, hb, rfl⟩⟩, .inr (.inr ⟨h98, h2, rfl⟩)⟩) | exact absurd h98 g98 | exact absurd g98 h98 | exact absurd g2 h2 | exact absurd h2 g2 | (exact ⟨_, rfl, .inr ⟨s, hs, rfl, ⟨⟨N, hN, rfl⟩, ⟨a, ha, rfl⟩, .inl rfl⟩, .inr (.inl ⟨h98, h2, by dsimp only; rw [f2 68 (by decide), k2 6 (by decide) (by decide) (by decide), b36, wi_m1]; rw [if_pos rfl, mN_n (show N < 2 ^ 31 by omega), mN_n (show a < 2 ^ 31 by omega), hz, mN_n (show z < 2 ^ 31 by omega)]; congr 1; exact (news_u (fun v => .inl Iff.rfl) (fun l hl => (if_neg (nm_l (by omega))).symm) _)⟩)⟩, I3, rfl, (Fr_tr (Fr_mo f2 (by decide)) (Fr_mo hG.1 (by decide))), (fun k hk => (hG.2 k (by omega) (by omega) (by omega)).trans (k2 k (by omega) (by omega) (by omega)))⟩) | (exact ⟨_, rfl, .inr ⟨s, hs, rfl, ⟨⟨N, hN, rfl⟩, ⟨a, ha, rfl⟩, .inr ⟨b, hb, rfl⟩⟩, .inr (.inl ⟨h98, h2, by dsimp only; rw [if_neg (nm_l (by omega)), mN_n (show a < 2 ^ 31 by omega), hz, mN_n (show z < 2 ^ 31 by omega), mN_n (show b < 2 ^ 31 by omega)]; rw [h38, f2 68 (by decide), k2 6 (by decide) (by decide) (by decide), b36, wi_m1]; rw [← sp_fh_h (by omega) 60 0 (by omega) rfl]; congr 1; funext k; exact (news_u (fun v => .inl Iff.rfl) (fun l hl => (if_neg (nm_l (by omega))).symm) _)⟩)⟩, I3, rfl, (Fr_tr (Fr_mo f2 (by decide)) (Fr_mo hG.1 (by decide))), (fun k hk => (hG.2 k (by omega) (by omega) (by omega)).trans (k2 k (by omega) (by omega) (by omega)))⟩) | exact PR_id (.inl ⟨fun h => hu2 h.1.2.2, rfl⟩) | exact PR_id (.inl ⟨fun h => ha h.1.2.1, rfl⟩) | exact PR_id (.inl ⟨fun h => hN h.1.1, rfl⟩) | exact PR_id (.inl ⟨fun h => hs h.2, rfl⟩)
              · refine px_ireturn rfl (.inl rfl) ?_
                first | exact PR_id (.inr ⟨s, hs, rfl, ⟨⟨N, hN, rfl⟩, ⟨a, ha, rfl⟩, .inl rfl⟩, .inl ⟨h98, rfl⟩⟩) | exact PR_id (.inr ⟨s, hs, rfl, ⟨⟨N, hN, rfl⟩, ⟨a, ha, rfl⟩, .inl rfl⟩, .inr (.inr ⟨h98, h2, rfl⟩)⟩) | exact PR_id (.inr ⟨s, hs, rfl, ⟨⟨N, hN, rfl⟩, ⟨a, ha, rfl⟩, .inr ⟨b, hb, rfl⟩⟩, .inl ⟨h98, rfl⟩⟩) | exact PR_id (.inr ⟨s, hs, rfl, ⟨⟨N, hN, rfl⟩, ⟨a, ha, rfl⟩, .inr ⟨b, hb, rfl⟩⟩, .inr (.inr ⟨h98, h2, rfl⟩)⟩) | exact absurd h98 g98 | exact absurd g98 h98 | exact absurd g2 h2 | exact absurd h2 g2 | (exact ⟨_, rfl, .inr ⟨s, hs, rfl, ⟨⟨N, hN, rfl⟩, ⟨a, ha, rfl⟩, .inl rfl⟩, .inr (.inl ⟨h98, h2, by dsimp only; rw [f2 68 (by decide), k2 6 (by decide) (by decide) (by decide), b36, wi_m1]; rw [if_pos rfl, mN_n (show N < 2 ^ 31 by omega), mN_n (show a < 2 ^ 31 by omega), hz, mN_n (show z < 2 ^ 31 by omega)]; congr 1; exact (news_u (fun v => .inl Iff.rfl) (fun l hl => (if_neg (nm_l (by omega))).symm) _)⟩)⟩, I3, rfl, (Fr_tr (Fr_mo f2 (by decide)) (Fr_mo hG.1 (by decide))), (fun k hk => (hG.2 k (by omega) (by omega) (by omega)).trans (k2 k (by omega) (by omega) (by omega)))⟩) | (exact ⟨_, rfl, .inr ⟨s, hs, rfl, ⟨⟨N, hN, rfl⟩, ⟨a, ha, rfl⟩, .inr ⟨b, hb, rfl⟩⟩, .inr (.inl ⟨h98, h2, by dsimp only; rw [if_neg (nm_l (by omega)), mN_n (show a < 2 ^ 31 by omega), hz, mN_n (show z < 2 ^ 31 by omega), mN_n (show b < 2 ^ 31 by omega)]; rw [h38, f2 68 (by decide), k2 6 (by decide) (by decide) (by decide), b36, wi_m1]; rw [← sp_fh_h (by omega) 60 0 (by omega) rfl]; congr 1; funext k; exact (news_u (fun v => .inl Iff.rfl) (fun l hl => (if_neg (nm_l (by omega))).symm) _)⟩)⟩, I3, rfl, (Fr_tr (Fr_mo f2 (by decide)) (Fr_mo hG.1 (by decide))), (fun k hk => (hG.2 k (by omega) (by omega) (by omega)).trans (k2 k (by omega) (by omega) (by omega)))⟩) | exact PR_id (.inl ⟨fun h => hu2 h.1.2.2, rfl⟩) | exact PR_id (.inl ⟨fun h => ha h.1.2.1, rfl⟩) | exact PR_id (.inl ⟨fun h => hN h.1.1, rfl⟩) | exact PR_id (.inl ⟨fun h => hs h.2, rfl⟩)
              · refine px_ireturn rfl (.inl rfl) ?_
                first | exact PR_id (.inr ⟨s, hs, rfl, ⟨⟨N, hN, rfl⟩, ⟨a, ha, rfl⟩, .inl rfl⟩, .inl ⟨h98, rfl⟩⟩) | exact PR_id (.inr ⟨s, hs, rfl, ⟨⟨N, hN, rfl⟩, ⟨a, ha, rfl⟩, .inl rfl⟩, .inr (.inr ⟨h98, h2, rfl⟩)⟩) | exact PR_id (.inr ⟨s, hs, rfl, ⟨⟨N, hN, rfl⟩, ⟨a, ha, rfl⟩, .inr ⟨b, hb, rfl⟩⟩, .inl ⟨h98, rfl⟩⟩) | exact PR_id (.inr ⟨s, hs, rfl, ⟨⟨N, hN, rfl⟩, ⟨a, ha, rfl⟩, .inr ⟨b, hb, rfl⟩⟩, .inr (.inr ⟨h98, h2, rfl⟩)⟩) | exact absurd h98 g98 | exact absurd g98 h98 | exact absurd g2 h2 | exact absurd h2 g2 | (exact ⟨_, rfl, .inr ⟨s, hs, rfl, ⟨⟨N, hN, rfl⟩, ⟨a, ha, rfl⟩, .inl rfl⟩, .inr (.inl ⟨h98, h2, by dsimp only; rw [f2 68 (by decide), k2 6 (by decide) (by decide) (by decide), b36, wi_m1]; rw [if_pos rfl, mN_n (show N < 2 ^ 31 by omega), mN_n (show a < 2 ^ 31 by omega), hz, mN_n (show z < 2 ^ 31 by omega)]; congr 1; exact (news_u (fun v => .inl Iff.rfl) (fun l hl => (if_neg (nm_l (by omega))).symm) _)⟩)⟩, I3, rfl, (Fr_tr (Fr_mo f2 (by decide)) (Fr_mo hG.1 (by decide))), (fun k hk => (hG.2 k (by omega) (by omega) (by omega)).trans (k2 k (by omega) (by omega) (by omega)))⟩) | (exact ⟨_, rfl, .inr ⟨s, hs, rfl, ⟨⟨N, hN, rfl⟩, ⟨a, ha, rfl⟩, .inr ⟨b, hb, rfl⟩⟩, .inr (.inl ⟨h98, h2, by dsimp only; rw [if_neg (nm_l (by omega)), mN_n (show a < 2 ^ 31 by omega), hz, mN_n (show z < 2 ^ 31 by omega), mN_n (show b < 2 ^ 31 by omega)]; rw [h38, f2 68 (by decide), k2 6 (by decide) (by decide) (by decide), b36, wi_m1]; rw [← sp_fh_h (by omega) 60 0 (by omega) rfl]; congr 1; funext k; exact (news_u (fun v => .inl Iff.rfl) (fun l hl => (if_neg (nm_l (by omega))).symm) _)⟩)⟩, I3, rfl, (Fr_tr (Fr_mo f2 (by decide)) (Fr_mo hG.1 (by decide))), (fun k hk => (hG.2 k (by omega) (by omega) (by omega)).trans (k2 k (by omega) (by omega) (by omega)))⟩) | exact PR_id (.inl ⟨fun h => hu2 h.1.2.2, rfl⟩) | exact PR_id (.inl ⟨fun h => ha h.1.2.1, rfl⟩) | exact PR_id (.inl ⟨fun h => hN h.1.1, rfl⟩) | exact PR_id (.inl ⟨fun h => hs h.2, rfl⟩)
          · skip
            refine px_aload_n (kk := 0) rfl rfl rfl ?_
            refine px_iload_n (kk := 1) rfl rfl rfl ?_
            refine px_callV0 CX12_rowFault [] [.int _] (vX12_rowFault hs) rfl gS_65 (by decide) rfl rfl rfl (Nat.le_of_ble_eq_true rfl) (by decide) ?_
            rintro _ _ - ⟨rfl, (⟨h98, rfl⟩ | ⟨h98, h2, rfl⟩ | ⟨h98, h2, rfl⟩)⟩
            · refine px_if_ge rfl (fun h => absurd h (by decide)) (fun _ => ?_)
              refine px_aload_n (kk := 0) rfl rfl rfl ?_
              refine px_iload_n (kk := 1) rfl rfl rfl ?_
              refine px_callV0 CX12_rowFault [] [.int _] (vX12_rowFault hs) rfl gS_65 (by decide) rfl rfl rfl (Nat.le_of_ble_eq_true rfl) (by decide) ?_
              rintro _ _ - ⟨rfl, (⟨g98, rfl⟩ | ⟨g98, g2, rfl⟩ | ⟨g98, g2, rfl⟩)⟩
              · refine px_ireturn rfl (.inl rfl) ?_
                first | exact PR_id (.inr ⟨s, hs, rfl, ⟨⟨N, hN, rfl⟩, ⟨a, ha, rfl⟩, .inl rfl⟩, .inl ⟨h98, rfl⟩⟩) | exact PR_id (.inr ⟨s, hs, rfl, ⟨⟨N, hN, rfl⟩, ⟨a, ha, rfl⟩, .inl rfl⟩, .inr (.inr ⟨h98, h2, rfl⟩)⟩) | exact PR_id (.inr ⟨s, hs, rfl, ⟨⟨N, hN, rfl⟩, ⟨a, ha, rfl⟩, .inr ⟨b, hb, rfl⟩⟩, .inl ⟨h98, rfl⟩⟩) | exact PR_id (.inr ⟨s, hs, rfl, ⟨⟨N, hN, rfl⟩, ⟨a, ha, rfl⟩, .inr ⟨b, hb, rfl⟩⟩, .inr (.inr ⟨h98, h2, rfl⟩)⟩) | exact absurd h98 g98 | exact absurd g98 h98 | exact absurd g2 h2 | exact absurd h2 g2 | (exact ⟨_, rfl, .inr ⟨s, hs, rfl, ⟨⟨N, hN, rfl⟩, ⟨a, ha, rfl⟩, .inl rfl⟩, .inr (.inl ⟨h98, h2, by dsimp only; rw [f2 68 (by decide), k2 6 (by decide) (by decide) (by decide), b36, wi_m1]; rw [if_pos rfl, mN_n (show N < 2 ^ 31 by omega), mN_n (show a < 2 ^ 31 by omega), hz, mN_n (show z < 2 ^ 31 by omega)]; congr 1; exact (news_u (fun v => .inl Iff.rfl) (fun l hl => (if_neg (nm_l (by omega))).symm) _)⟩)⟩, I3, rfl, (Fr_tr (Fr_mo f2 (by decide)) (Fr_mo hG.1 (by decide))), (fun k hk => (hG.2 k (by omega) (by omega) (by omega)).trans (k2 k (by omega) (by omega) (by omega)))⟩) | (exact ⟨_, rfl, .inr ⟨s, hs, rfl, ⟨⟨N, hN, rfl⟩, ⟨a, ha, rfl⟩, .inr ⟨b, hb, rfl⟩⟩, .inr (.inl ⟨h98, h2, by dsimp only; rw [if_neg (nm_l (by omega)), mN_n (show a < 2 ^ 31 by omega), hz, mN_n (show z < 2 ^ 31 by omega), mN_n (show b < 2 ^ 31 by omega)]; rw [h38, f2 68 (by decide), k2 6 (by decide) (by decide) (by decide), b36, wi_m1]; rw [← sp_fh_h (by omega) 60 0 (by omega) rfl]; congr 1; funext k; exact (news_u (fun v => .inl Iff.rfl) (fun l hl => (if_neg (nm_l (by omega))).symm) _)⟩)⟩, I3, rfl, (Fr_tr (Fr_mo f2 (by decide)) (Fr_mo hG.1 (by decide))), (fun k hk => (hG.2 k (by omega) (by omega) (by omega)).trans (k2 k (by omega) (by omega) (by omega)))⟩) | exact PR_id (.inl ⟨fun h => hu2 h.1.2.2, rfl⟩) | exact PR_id (.inl ⟨fun h => ha h.1.2.1, rfl⟩) | exact PR_id (.inl ⟨fun h => hN h.1.1, rfl⟩) | exact PR_id (.inl ⟨fun h => hs h.2, rfl⟩)
              · refine px_ireturn rfl (.inl rfl) ?_
                first | exact PR_id (.inr ⟨s, hs, rfl, ⟨⟨N, hN, rfl⟩, ⟨a, ha, rfl⟩, .inl rfl⟩, .inl ⟨h98, rfl⟩⟩) | exact PR_id (.inr ⟨s, hs, rfl, ⟨⟨N, hN, rfl⟩, ⟨a, ha, rfl⟩, .inl rfl⟩, .inr (.inr ⟨h98, h2, rfl⟩)⟩) | exact PR_id (.inr ⟨s, hs, rfl, ⟨⟨N, hN, rfl⟩, ⟨a, ha, rfl⟩, .inr ⟨b, hb, rfl⟩⟩, .inl ⟨h98, rfl⟩⟩) | exact PR_id (.inr ⟨s, hs, rfl, ⟨⟨N, hN, rfl⟩, ⟨a, ha, rfl⟩, .inr ⟨b, hb, rfl⟩⟩, .inr (.inr ⟨h98, h2, rfl⟩)⟩) | exact absurd h98 g98 | exact absurd g98 h98 | exact absurd g2 h2 | exact absurd h2 g2 | (exact ⟨_, rfl, .inr ⟨s, hs, rfl, ⟨⟨N, hN, rfl⟩, ⟨a, ha, rfl⟩, .inl rfl⟩, .inr (.inl ⟨h98, h2, by dsimp only; rw [f2 68 (by decide), k2 6 (by decide) (by decide) (by decide), b36, wi_m1]; rw [if_pos rfl, mN_n (show N < 2 ^ 31 by omega), mN_n (show a < 2 ^ 31 by omega), hz, mN_n (show z < 2 ^ 31 by omega)]; congr 1; exact (news_u (fun v => .inl Iff.rfl) (fun l hl => (if_neg (nm_l (by omega))).symm) _)⟩)⟩, I3, rfl, (Fr_tr (Fr_mo f2 (by decide)) (Fr_mo hG.1 (by decide))), (fun k hk => (hG.2 k (by omega) (by omega) (by omega)).trans (k2 k (by omega) (by omega) (by omega)))⟩) | (exact ⟨_, rfl, .inr ⟨s, hs, rfl, ⟨⟨N, hN, rfl⟩, ⟨a, ha, rfl⟩, .inr ⟨b, hb, rfl⟩⟩, .inr (.inl ⟨h98, h2, by dsimp only; rw [if_neg (nm_l (by omega)), mN_n (show a < 2 ^ 31 by omega), hz, mN_n (show z < 2 ^ 31 by omega), mN_n (show b < 2 ^ 31 by omega)]; rw [h38, f2 68 (by decide), k2 6 (by decide) (by decide) (by decide), b36, wi_m1]; rw [← sp_fh_h (by omega) 60 0 (by omega) rfl]; congr 1; funext k; exact (news_u (fun v => .inl Iff.rfl) (fun l hl => (if_neg (nm_l (by omega))).symm) _)⟩)⟩, I3, rfl, (Fr_tr (Fr_mo f2 (by decide)) (Fr_mo hG.1 (by decide))), (fun k hk => (hG.2 k (by omega) (by omega) (by omega)).trans (k2 k (by omega) (by omega) (by omega)))⟩) | exact PR_id (.inl ⟨fun h => hu2 h.1.2.2, rfl⟩) | exact PR_id (.inl ⟨fun h => ha h.1.2.1, rfl⟩) | exact PR_id (.inl ⟨fun h => hN h.1.1, rfl⟩) | exact PR_id (.inl ⟨fun h => hs h.2, rfl⟩)
              · refine px_ireturn rfl (.inl rfl) ?_
                first | exact PR_id (.inr ⟨s, hs, rfl, ⟨⟨N, hN, rfl⟩, ⟨a, ha, rfl⟩, .inl rfl⟩, .inl ⟨h98, rfl⟩⟩) | exact PR_id (.inr ⟨s, hs, rfl, ⟨⟨N, hN, rfl⟩, ⟨a, ha, rfl⟩, .inl rfl⟩, .inr (.inr ⟨h98, h2, rfl⟩)⟩) | exact PR_id (.inr ⟨s, hs, rfl, ⟨⟨N, hN, rfl⟩, ⟨a, ha, rfl⟩, .inr ⟨b, hb, rfl⟩⟩, .inl ⟨h98, rfl⟩⟩) | exact PR_id (.inr ⟨s, hs, rfl, ⟨⟨N, hN, rfl⟩, ⟨a, ha, rfl⟩, .inr ⟨b, hb, rfl⟩⟩, .inr (.inr ⟨h98, h2, rfl⟩)⟩) | exact absurd h98 g98 | exact absurd g98 h98 | exact absurd g2 h2 | exact absurd h2 g2 | (exact ⟨_, rfl, .inr ⟨s, hs, rfl, ⟨⟨N, hN, rfl⟩, ⟨a, ha, rfl⟩, .inl rfl⟩, .inr (.inl ⟨h98, h2, by dsimp only; rw [f2 68 (by decide), k2 6 (by decide) (by decide) (by decide), b36, wi_m1]; rw [if_pos rfl, mN_n (show N < 2 ^ 31 by omega), mN_n (show a < 2 ^ 31 by omega), hz, mN_n (show z < 2 ^ 31 by omega)]; congr 1; exact (news_u (fun v => .inl Iff.rfl) (fun l hl => (if_neg (nm_l (by omega))).symm) _)⟩)⟩, I3, rfl, (Fr_tr (Fr_mo f2 (by decide)) (Fr_mo hG.1 (by decide))), (fun k hk => (hG.2 k (by omega) (by omega) (by omega)).trans (k2 k (by omega) (by omega) (by omega)))⟩) | (exact ⟨_, rfl, .inr ⟨s, hs, rfl, ⟨⟨N, hN, rfl⟩, ⟨a, ha, rfl⟩, .inr ⟨b, hb, rfl⟩⟩, .inr (.inl ⟨h98, h2, by dsimp only; rw [if_neg (nm_l (by omega)), mN_n (show a < 2 ^ 31 by omega), hz, mN_n (show z < 2 ^ 31 by omega), mN_n (show b < 2 ^ 31 by omega)]; rw [h38, f2 68 (by decide), k2 6 (by decide) (by decide) (by decide), b36, wi_m1]; rw [← sp_fh_h (by omega) 60 0 (by omega) rfl]; congr 1; funext k; exact (news_u (fun v => .inl Iff.rfl) (fun l hl => (if_neg (nm_l (by omega))).symm) _)⟩)⟩, I3, rfl, (Fr_tr (Fr_mo f2 (by decide)) (Fr_mo hG.1 (by decide))), (fun k hk => (hG.2 k (by omega) (by omega) (by omega)).trans (k2 k (by omega) (by omega) (by omega)))⟩) | exact PR_id (.inl ⟨fun h => hu2 h.1.2.2, rfl⟩) | exact PR_id (.inl ⟨fun h => ha h.1.2.1, rfl⟩) | exact PR_id (.inl ⟨fun h => hN h.1.1, rfl⟩) | exact PR_id (.inl ⟨fun h => hs h.2, rfl⟩)
            · obtain ⟨z, hz60, hz⟩ := hSZ s hs
              refine px_if_ge rfl (fun _ => ?_) (fun h => absurd h (by decide))
              
              refine px_aload_n (kk := 0) rfl rfl rfl ?_
              refine px_callV0 CX12_beginDay [] [] (vX12_beginDay hn hn8) rfl gS_65 (by decide) rfl rfl rfl (Nat.le_of_ble_eq_true rfl) (by decide) ?_
              rintro _ _ - ⟨rfl, I2, rfl, f2, k2, b34, b35, b36, b84, b85, b86⟩
              refine px_aload_n (kk := 0) rfl rfl rfl ?_
              refine px_iload_n (kk := 1) rfl rfl rfl ?_
              refine px_iload rfl rfl ?_
              refine px_if_ge rfl (fun c33 => ?_) (fun h => absurd (nn_ge (by omega)) h)
              refine px_bipush (v := nI 60) rfl b_60 ?_
              refine px_iload_n (kk := 3) rfl rfl rfl ?_
              refine px_iload rfl rfl ?_
              refine px_callV0 CX12_newsOf [] [.int _, .int _, .int _, .int _] (vX12_newsOf (I := I2) hn8 ((k2 1 (by decide) (by decide) (by decide)).trans hn) hs ((congrFun (f2 99 (by decide)) s).trans hz) hz60 (one := a) (by omega) (N := 60) (by decide) (u := nI b) (.inr ⟨b, by omega, rfl⟩) ⟨0, by omega, b34, .inl rfl⟩) rfl gS_65 (by decide) rfl rfl rfl (Nat.le_of_ble_eq_true rfl) (by decide) ?_
              rintro _ _ - ⟨rfl, I3, rfl, hG, h38⟩
              refine px_ist5 rfl rfl (by decide) ?_
              refine px_iload rfl rfl ?_
              refine px_if_ge rfl (fun c42 => ?_) (fun h => absurd (nn_ge (by omega)) h)
              refine px_aload_n (kk := 0) rfl rfl rfl ?_
              refine px_getI rfl gS_65 rfl ?_
              refine px_ireturn rfl (.inl rfl) ?_
              first | exact PR_id (.inr ⟨s, hs, rfl, ⟨⟨N, hN, rfl⟩, ⟨a, ha, rfl⟩, .inl rfl⟩, .inl ⟨h98, rfl⟩⟩) | exact PR_id (.inr ⟨s, hs, rfl, ⟨⟨N, hN, rfl⟩, ⟨a, ha, rfl⟩, .inl rfl⟩, .inr (.inr ⟨h98, h2, rfl⟩)⟩) | exact PR_id (.inr ⟨s, hs, rfl, ⟨⟨N, hN, rfl⟩, ⟨a, ha, rfl⟩, .inr ⟨b, hb, rfl⟩⟩, .inl ⟨h98, rfl⟩⟩) | exact PR_id (.inr ⟨s, hs, rfl, ⟨⟨N, hN, rfl⟩, ⟨a, ha, rfl⟩, .inr ⟨b, hb, rfl⟩⟩, .inr (.inr ⟨h98, h2, rfl⟩)⟩) | exact absurd h98 g98 | exact absurd g98 h98 | exact absurd g2 h2 | exact absurd h2 g2 | (exact ⟨_, rfl, .inr ⟨s, hs, rfl, ⟨⟨N, hN, rfl⟩, ⟨a, ha, rfl⟩, .inl rfl⟩, .inr (.inl ⟨h98, h2, by dsimp only; rw [f2 68 (by decide), k2 6 (by decide) (by decide) (by decide), b36, wi_m1]; rw [if_pos rfl, mN_n (show N < 2 ^ 31 by omega), mN_n (show a < 2 ^ 31 by omega), hz, mN_n (show z < 2 ^ 31 by omega)]; congr 1; exact (news_u (fun v => .inl Iff.rfl) (fun l hl => (if_neg (nm_l (by omega))).symm) _)⟩)⟩, I3, rfl, (Fr_tr (Fr_mo f2 (by decide)) (Fr_mo hG.1 (by decide))), (fun k hk => (hG.2 k (by omega) (by omega) (by omega)).trans (k2 k (by omega) (by omega) (by omega)))⟩) | (exact ⟨_, rfl, .inr ⟨s, hs, rfl, ⟨⟨N, hN, rfl⟩, ⟨a, ha, rfl⟩, .inr ⟨b, hb, rfl⟩⟩, .inr (.inl ⟨h98, h2, by dsimp only; rw [if_neg (nm_l (by omega)), mN_n (show a < 2 ^ 31 by omega), hz, mN_n (show z < 2 ^ 31 by omega), mN_n (show b < 2 ^ 31 by omega)]; rw [h38, f2 68 (by decide), k2 6 (by decide) (by decide) (by decide), b36, wi_m1]; rw [← sp_fh_h (by omega) 60 0 (by omega) rfl]; congr 1; funext k; exact (news_u (fun v => .inl Iff.rfl) (fun l hl => (if_neg (nm_l (by omega))).symm) _)⟩)⟩, I3, rfl, (Fr_tr (Fr_mo f2 (by decide)) (Fr_mo hG.1 (by decide))), (fun k hk => (hG.2 k (by omega) (by omega) (by omega)).trans (k2 k (by omega) (by omega) (by omega)))⟩) | exact PR_id (.inl ⟨fun h => hu2 h.1.2.2, rfl⟩) | exact PR_id (.inl ⟨fun h => ha h.1.2.1, rfl⟩) | exact PR_id (.inl ⟨fun h => hN h.1.1, rfl⟩) | exact PR_id (.inl ⟨fun h => hs h.2, rfl⟩)
            · refine px_if_ge rfl (fun h => absurd h (by decide)) (fun _ => ?_)
              refine px_aload_n (kk := 0) rfl rfl rfl ?_
              refine px_iload_n (kk := 1) rfl rfl rfl ?_
              refine px_callV0 CX12_rowFault [] [.int _] (vX12_rowFault hs) rfl gS_65 (by decide) rfl rfl rfl (Nat.le_of_ble_eq_true rfl) (by decide) ?_
              rintro _ _ - ⟨rfl, (⟨g98, rfl⟩ | ⟨g98, g2, rfl⟩ | ⟨g98, g2, rfl⟩)⟩
              · refine px_ireturn rfl (.inl rfl) ?_
                first | exact PR_id (.inr ⟨s, hs, rfl, ⟨⟨N, hN, rfl⟩, ⟨a, ha, rfl⟩, .inl rfl⟩, .inl ⟨h98, rfl⟩⟩) | exact PR_id (.inr ⟨s, hs, rfl, ⟨⟨N, hN, rfl⟩, ⟨a, ha, rfl⟩, .inl rfl⟩, .inr (.inr ⟨h98, h2, rfl⟩)⟩) | exact PR_id (.inr ⟨s, hs, rfl, ⟨⟨N, hN, rfl⟩, ⟨a, ha, rfl⟩, .inr ⟨b, hb, rfl⟩⟩, .inl ⟨h98, rfl⟩⟩) | exact PR_id (.inr ⟨s, hs, rfl, ⟨⟨N, hN, rfl⟩, ⟨a, ha, rfl⟩, .inr ⟨b, hb, rfl⟩⟩, .inr (.inr ⟨h98, h2, rfl⟩)⟩) | exact absurd h98 g98 | exact absurd g98 h98 | exact absurd g2 h2 | exact absurd h2 g2 | (exact ⟨_, rfl, .inr ⟨s, hs, rfl, ⟨⟨N, hN, rfl⟩, ⟨a, ha, rfl⟩, .inl rfl⟩, .inr (.inl ⟨h98, h2, by dsimp only; rw [f2 68 (by decide), k2 6 (by decide) (by decide) (by decide), b36, wi_m1]; rw [if_pos rfl, mN_n (show N < 2 ^ 31 by omega), mN_n (show a < 2 ^ 31 by omega), hz, mN_n (show z < 2 ^ 31 by omega)]; congr 1; exact (news_u (fun v => .inl Iff.rfl) (fun l hl => (if_neg (nm_l (by omega))).symm) _)⟩)⟩, I3, rfl, (Fr_tr (Fr_mo f2 (by decide)) (Fr_mo hG.1 (by decide))), (fun k hk => (hG.2 k (by omega) (by omega) (by omega)).trans (k2 k (by omega) (by omega) (by omega)))⟩) | (exact ⟨_, rfl, .inr ⟨s, hs, rfl, ⟨⟨N, hN, rfl⟩, ⟨a, ha, rfl⟩, .inr ⟨b, hb, rfl⟩⟩, .inr (.inl ⟨h98, h2, by dsimp only; rw [if_neg (nm_l (by omega)), mN_n (show a < 2 ^ 31 by omega), hz, mN_n (show z < 2 ^ 31 by omega), mN_n (show b < 2 ^ 31 by omega)]; rw [h38, f2 68 (by decide), k2 6 (by decide) (by decide) (by decide), b36, wi_m1]; rw [← sp_fh_h (by omega) 60 0 (by omega) rfl]; congr 1; funext k; exact (news_u (fun v => .inl Iff.rfl) (fun l hl => (if_neg (nm_l (by omega))).symm) _)⟩)⟩, I3, rfl, (Fr_tr (Fr_mo f2 (by decide)) (Fr_mo hG.1 (by decide))), (fun k hk => (hG.2 k (by omega) (by omega) (by omega)).trans (k2 k (by omega) (by omega) (by omega)))⟩) | exact PR_id (.inl ⟨fun h => hu2 h.1.2.2, rfl⟩) | exact PR_id (.inl ⟨fun h => ha h.1.2.1, rfl⟩) | exact PR_id (.inl ⟨fun h => hN h.1.1, rfl⟩) | exact PR_id (.inl ⟨fun h => hs h.2, rfl⟩)
              · refine px_ireturn rfl (.inl rfl) ?_
                first | exact PR_id (.inr ⟨s, hs, rfl, ⟨⟨N, hN, rfl⟩, ⟨a, ha, rfl⟩, .inl rfl⟩, .inl ⟨h98, rfl⟩⟩) | exact PR_id (.inr ⟨s, hs, rfl, ⟨⟨N, hN, rfl⟩, ⟨a, ha, rfl⟩, .inl rfl⟩, .inr (.inr ⟨h98, h2, rfl⟩)⟩) | exact PR_id (.inr ⟨s, hs, rfl, ⟨⟨N, hN, rfl⟩, ⟨a, ha, rfl⟩, .inr ⟨b, hb, rfl⟩⟩, .inl ⟨h98, rfl⟩⟩) | exact PR_id (.inr ⟨s, hs, rfl, ⟨⟨N, hN, rfl⟩, ⟨a, ha, rfl⟩, .inr ⟨b, hb, rfl⟩⟩, .inr (.inr ⟨h98, h2, rfl⟩)⟩) | exact absurd h98 g98 | exact absurd g98 h98 | exact absurd g2 h2 | exact absurd h2 g2 | (exact ⟨_, rfl, .inr ⟨s, hs, rfl, ⟨⟨N, hN, rfl⟩, ⟨a, ha, rfl⟩, .inl rfl⟩, .inr (.inl ⟨h98, h2, by dsimp only; rw [f2 68 (by decide), k2 6 (by decide) (by decide) (by decide), b36, wi_m1]; rw [if_pos rfl, mN_n (show N < 2 ^ 31 by omega), mN_n (show a < 2 ^ 31 by omega), hz, mN_n (show z < 2 ^ 31 by omega)]; congr 1; exact (news_u (fun v => .inl Iff.rfl) (fun l hl => (if_neg (nm_l (by omega))).symm) _)⟩)⟩, I3, rfl, (Fr_tr (Fr_mo f2 (by decide)) (Fr_mo hG.1 (by decide))), (fun k hk => (hG.2 k (by omega) (by omega) (by omega)).trans (k2 k (by omega) (by omega) (by omega)))⟩) | (exact ⟨_, rfl, .inr ⟨s, hs, rfl, ⟨⟨N, hN, rfl⟩, ⟨a, ha, rfl⟩, .inr ⟨b, hb, rfl⟩⟩, .inr (.inl ⟨h98, h2, by dsimp only; rw [if_neg (nm_l (by omega)), mN_n (show a < 2 ^ 31 by omega), hz, mN_n (show z < 2 ^ 31 by omega), mN_n (show b < 2 ^ 31 by omega)]; rw [h38, f2 68 (by decide), k2 6 (by decide) (by decide) (by decide), b36, wi_m1]; rw [← sp_fh_h (by omega) 60 0 (by omega) rfl]; congr 1; funext k; exact (news_u (fun v => .inl Iff.rfl) (fun l hl => (if_neg (nm_l (by omega))).symm) _)⟩)⟩, I3, rfl, (Fr_tr (Fr_mo f2 (by decide)) (Fr_mo hG.1 (by decide))), (fun k hk => (hG.2 k (by omega) (by omega) (by omega)).trans (k2 k (by omega) (by omega) (by omega)))⟩) | exact PR_id (.inl ⟨fun h => hu2 h.1.2.2, rfl⟩) | exact PR_id (.inl ⟨fun h => ha h.1.2.1, rfl⟩) | exact PR_id (.inl ⟨fun h => hN h.1.1, rfl⟩) | exact PR_id (.inl ⟨fun h => hs h.2, rfl⟩)
              · refine px_ireturn rfl (.inl rfl) ?_
                first | exact PR_id (.inr ⟨s, hs, rfl, ⟨⟨N, hN, rfl⟩, ⟨a, ha, rfl⟩, .inl rfl⟩, .inl ⟨h98, rfl⟩⟩) | exact PR_id (.inr ⟨s, hs, rfl, ⟨⟨N, hN, rfl⟩, ⟨a, ha, rfl⟩, .inl rfl⟩, .inr (.inr ⟨h98, h2, rfl⟩)⟩) | exact PR_id (.inr ⟨s, hs, rfl, ⟨⟨N, hN, rfl⟩, ⟨a, ha, rfl⟩, .inr ⟨b, hb, rfl⟩⟩, .inl ⟨h98, rfl⟩⟩) | exact PR_id (.inr ⟨s, hs, rfl, ⟨⟨N, hN, rfl⟩, ⟨a, ha, rfl⟩, .inr ⟨b, hb, rfl⟩⟩, .inr (.inr ⟨h98, h2, rfl⟩)⟩) | exact absurd h98 g98 | exact absurd g98 h98 | exact absurd g2 h2 | exact absurd h2 g2 | (exact ⟨_, rfl, .inr ⟨s, hs, rfl, ⟨⟨N, hN, rfl⟩, ⟨a, ha, rfl⟩, .inl rfl⟩, .inr (.inl ⟨h98, h2, by dsimp only; rw [f2 68 (by decide), k2 6 (by decide) (by decide) (by decide), b36, wi_m1]; rw [if_pos rfl, mN_n (show N < 2 ^ 31 by omega), mN_n (show a < 2 ^ 31 by omega), hz, mN_n (show z < 2 ^ 31 by omega)]; congr 1; exact (news_u (fun v => .inl Iff.rfl) (fun l hl => (if_neg (nm_l (by omega))).symm) _)⟩)⟩, I3, rfl, (Fr_tr (Fr_mo f2 (by decide)) (Fr_mo hG.1 (by decide))), (fun k hk => (hG.2 k (by omega) (by omega) (by omega)).trans (k2 k (by omega) (by omega) (by omega)))⟩) | (exact ⟨_, rfl, .inr ⟨s, hs, rfl, ⟨⟨N, hN, rfl⟩, ⟨a, ha, rfl⟩, .inr ⟨b, hb, rfl⟩⟩, .inr (.inl ⟨h98, h2, by dsimp only; rw [if_neg (nm_l (by omega)), mN_n (show a < 2 ^ 31 by omega), hz, mN_n (show z < 2 ^ 31 by omega), mN_n (show b < 2 ^ 31 by omega)]; rw [h38, f2 68 (by decide), k2 6 (by decide) (by decide) (by decide), b36, wi_m1]; rw [← sp_fh_h (by omega) 60 0 (by omega) rfl]; congr 1; funext k; exact (news_u (fun v => .inl Iff.rfl) (fun l hl => (if_neg (nm_l (by omega))).symm) _)⟩)⟩, I3, rfl, (Fr_tr (Fr_mo f2 (by decide)) (Fr_mo hG.1 (by decide))), (fun k hk => (hG.2 k (by omega) (by omega) (by omega)).trans (k2 k (by omega) (by omega) (by omega)))⟩) | exact PR_id (.inl ⟨fun h => hu2 h.1.2.2, rfl⟩) | exact PR_id (.inl ⟨fun h => ha h.1.2.1, rfl⟩) | exact PR_id (.inl ⟨fun h => hN h.1.1, rfl⟩) | exact PR_id (.inl ⟨fun h => hs h.2, rfl⟩)
        · have hu2 := fun z => hu ((in_mn hn8).mpr z)
          refine px_if_ne rfl (fun h => absurd h (by decide)) (fun _ => ?_)
          refine px_iconst (v := -1) rfl k_m1 ?_
          refine px_ireturn rfl (.inl rfl) ?_
          first | exact PR_id (.inr ⟨s, hs, rfl, ⟨⟨N, hN, rfl⟩, ⟨a, ha, rfl⟩, .inl rfl⟩, .inl ⟨h98, rfl⟩⟩) | exact PR_id (.inr ⟨s, hs, rfl, ⟨⟨N, hN, rfl⟩, ⟨a, ha, rfl⟩, .inl rfl⟩, .inr (.inr ⟨h98, h2, rfl⟩)⟩) | exact PR_id (.inr ⟨s, hs, rfl, ⟨⟨N, hN, rfl⟩, ⟨a, ha, rfl⟩, .inr ⟨b, hb, rfl⟩⟩, .inl ⟨h98, rfl⟩⟩) | exact PR_id (.inr ⟨s, hs, rfl, ⟨⟨N, hN, rfl⟩, ⟨a, ha, rfl⟩, .inr ⟨b, hb, rfl⟩⟩, .inr (.inr ⟨h98, h2, rfl⟩)⟩) | exact absurd h98 g98 | exact absurd g98 h98 | exact absurd g2 h2 | exact absurd h2 g2 | (exact ⟨_, rfl, .inr ⟨s, hs, rfl, ⟨⟨N, hN, rfl⟩, ⟨a, ha, rfl⟩, .inl rfl⟩, .inr (.inl ⟨h98, h2, by dsimp only; rw [f2 68 (by decide), k2 6 (by decide) (by decide) (by decide), b36, wi_m1]; rw [if_pos rfl, mN_n (show N < 2 ^ 31 by omega), mN_n (show a < 2 ^ 31 by omega), hz, mN_n (show z < 2 ^ 31 by omega)]; congr 1; exact (news_u (fun v => .inl Iff.rfl) (fun l hl => (if_neg (nm_l (by omega))).symm) _)⟩)⟩, I3, rfl, (Fr_tr (Fr_mo f2 (by decide)) (Fr_mo hG.1 (by decide))), (fun k hk => (hG.2 k (by omega) (by omega) (by omega)).trans (k2 k (by omega) (by omega) (by omega)))⟩) | (exact ⟨_, rfl, .inr ⟨s, hs, rfl, ⟨⟨N, hN, rfl⟩, ⟨a, ha, rfl⟩, .inr ⟨b, hb, rfl⟩⟩, .inr (.inl ⟨h98, h2, by dsimp only; rw [if_neg (nm_l (by omega)), mN_n (show a < 2 ^ 31 by omega), hz, mN_n (show z < 2 ^ 31 by omega), mN_n (show b < 2 ^ 31 by omega)]; rw [h38, f2 68 (by decide), k2 6 (by decide) (by decide) (by decide), b36, wi_m1]; rw [← sp_fh_h (by omega) 60 0 (by omega) rfl]; congr 1; funext k; exact (news_u (fun v => .inl Iff.rfl) (fun l hl => (if_neg (nm_l (by omega))).symm) _)⟩)⟩, I3, rfl, (Fr_tr (Fr_mo f2 (by decide)) (Fr_mo hG.1 (by decide))), (fun k hk => (hG.2 k (by omega) (by omega) (by omega)).trans (k2 k (by omega) (by omega) (by omega)))⟩) | exact PR_id (.inl ⟨fun h => hu2 h.1.2.2, rfl⟩) | exact PR_id (.inl ⟨fun h => ha h.1.2.1, rfl⟩) | exact PR_id (.inl ⟨fun h => hN h.1.1, rfl⟩) | exact PR_id (.inl ⟨fun h => hs h.2, rfl⟩)
      · refine px_if_eq rfl (fun _ => ?_) (fun h => absurd h (by decide))
        refine px_iconst (v := -1) rfl k_m1 ?_
        refine px_ireturn rfl (.inl rfl) ?_
        first | exact PR_id (.inr ⟨s, hs, rfl, ⟨⟨N, hN, rfl⟩, ⟨a, ha, rfl⟩, .inl rfl⟩, .inl ⟨h98, rfl⟩⟩) | exact PR_id (.inr ⟨s, hs, rfl, ⟨⟨N, hN, rfl⟩, ⟨a, ha, rfl⟩, .inl rfl⟩, .inr (.inr ⟨h98, h2, rfl⟩)⟩) | exact PR_id (.inr ⟨s, hs, rfl, ⟨⟨N, hN, rfl⟩, ⟨a, ha, rfl⟩, .inr ⟨b, hb, rfl⟩⟩, .inl ⟨h98, rfl⟩⟩) | exact PR_id (.inr ⟨s, hs, rfl, ⟨⟨N, hN, rfl⟩, ⟨a, ha, rfl⟩, .inr ⟨b, hb, rfl⟩⟩, .inr (.inr ⟨h98, h2, rfl⟩)⟩) | exact absurd h98 g98 | exact absurd g98 h98 | exact absurd g2 h2 | exact absurd h2 g2 | (exact ⟨_, rfl, .inr ⟨s, hs, rfl, ⟨⟨N, hN, rfl⟩, ⟨a, ha, rfl⟩, .inl rfl⟩, .inr (.inl ⟨h98, h2, by dsimp only; rw [f2 68 (by decide), k2 6 (by decide) (by decide) (by decide), b36, wi_m1]; rw [if_pos rfl, mN_n (show N < 2 ^ 31 by omega), mN_n (show a < 2 ^ 31 by omega), hz, mN_n (show z < 2 ^ 31 by omega)]; congr 1; exact (news_u (fun v => .inl Iff.rfl) (fun l hl => (if_neg (nm_l (by omega))).symm) _)⟩)⟩, I3, rfl, (Fr_tr (Fr_mo f2 (by decide)) (Fr_mo hG.1 (by decide))), (fun k hk => (hG.2 k (by omega) (by omega) (by omega)).trans (k2 k (by omega) (by omega) (by omega)))⟩) | (exact ⟨_, rfl, .inr ⟨s, hs, rfl, ⟨⟨N, hN, rfl⟩, ⟨a, ha, rfl⟩, .inr ⟨b, hb, rfl⟩⟩, .inr (.inl ⟨h98, h2, by dsimp only; rw [if_neg (nm_l (by omega)), mN_n (show a < 2 ^ 31 by omega), hz, mN_n (show z < 2 ^ 31 by omega), mN_n (show b < 2 ^ 31 by omega)]; rw [h38, f2 68 (by decide), k2 6 (by decide) (by decide) (by decide), b36, wi_m1]; rw [← sp_fh_h (by omega) 60 0 (by omega) rfl]; congr 1; funext k; exact (news_u (fun v => .inl Iff.rfl) (fun l hl => (if_neg (nm_l (by omega))).symm) _)⟩)⟩, I3, rfl, (Fr_tr (Fr_mo f2 (by decide)) (Fr_mo hG.1 (by decide))), (fun k hk => (hG.2 k (by omega) (by omega) (by omega)).trans (k2 k (by omega) (by omega) (by omega)))⟩) | exact PR_id (.inl ⟨fun h => hu2 h.1.2.2, rfl⟩) | exact PR_id (.inl ⟨fun h => ha h.1.2.1, rfl⟩) | exact PR_id (.inl ⟨fun h => hN h.1.1, rfl⟩) | exact PR_id (.inl ⟨fun h => hs h.2, rfl⟩)
    · refine px_if_eq rfl (fun _ => ?_) (fun h => absurd h (by decide))
      refine px_iconst (v := -1) rfl k_m1 ?_
      refine px_ireturn rfl (.inl rfl) ?_
      first | exact PR_id (.inr ⟨s, hs, rfl, ⟨⟨N, hN, rfl⟩, ⟨a, ha, rfl⟩, .inl rfl⟩, .inl ⟨h98, rfl⟩⟩) | exact PR_id (.inr ⟨s, hs, rfl, ⟨⟨N, hN, rfl⟩, ⟨a, ha, rfl⟩, .inl rfl⟩, .inr (.inr ⟨h98, h2, rfl⟩)⟩) | exact PR_id (.inr ⟨s, hs, rfl, ⟨⟨N, hN, rfl⟩, ⟨a, ha, rfl⟩, .inr ⟨b, hb, rfl⟩⟩, .inl ⟨h98, rfl⟩⟩) | exact PR_id (.inr ⟨s, hs, rfl, ⟨⟨N, hN, rfl⟩, ⟨a, ha, rfl⟩, .inr ⟨b, hb, rfl⟩⟩, .inr (.inr ⟨h98, h2, rfl⟩)⟩) | exact absurd h98 g98 | exact absurd g98 h98 | exact absurd g2 h2 | exact absurd h2 g2 | (exact ⟨_, rfl, .inr ⟨s, hs, rfl, ⟨⟨N, hN, rfl⟩, ⟨a, ha, rfl⟩, .inl rfl⟩, .inr (.inl ⟨h98, h2, by dsimp only; rw [f2 68 (by decide), k2 6 (by decide) (by decide) (by decide), b36, wi_m1]; rw [if_pos rfl, mN_n (show N < 2 ^ 31 by omega), mN_n (show a < 2 ^ 31 by omega), hz, mN_n (show z < 2 ^ 31 by omega)]; congr 1; exact (news_u (fun v => .inl Iff.rfl) (fun l hl => (if_neg (nm_l (by omega))).symm) _)⟩)⟩, I3, rfl, (Fr_tr (Fr_mo f2 (by decide)) (Fr_mo hG.1 (by decide))), (fun k hk => (hG.2 k (by omega) (by omega) (by omega)).trans (k2 k (by omega) (by omega) (by omega)))⟩) | (exact ⟨_, rfl, .inr ⟨s, hs, rfl, ⟨⟨N, hN, rfl⟩, ⟨a, ha, rfl⟩, .inr ⟨b, hb, rfl⟩⟩, .inr (.inl ⟨h98, h2, by dsimp only; rw [if_neg (nm_l (by omega)), mN_n (show a < 2 ^ 31 by omega), hz, mN_n (show z < 2 ^ 31 by omega), mN_n (show b < 2 ^ 31 by omega)]; rw [h38, f2 68 (by decide), k2 6 (by decide) (by decide) (by decide), b36, wi_m1]; rw [← sp_fh_h (by omega) 60 0 (by omega) rfl]; congr 1; funext k; exact (news_u (fun v => .inl Iff.rfl) (fun l hl => (if_neg (nm_l (by omega))).symm) _)⟩)⟩, I3, rfl, (Fr_tr (Fr_mo f2 (by decide)) (Fr_mo hG.1 (by decide))), (fun k hk => (hG.2 k (by omega) (by omega) (by omega)).trans (k2 k (by omega) (by omega) (by omega)))⟩) | exact PR_id (.inl ⟨fun h => hu2 h.1.2.2, rfl⟩) | exact PR_id (.inl ⟨fun h => ha h.1.2.1, rfl⟩) | exact PR_id (.inl ⟨fun h => hN h.1.1, rfl⟩) | exact PR_id (.inl ⟨fun h => hs h.2, rfl⟩)
  · refine px_if_eq rfl (fun _ => ?_) (fun h => absurd h (by decide))
    refine px_iconst (v := -1) rfl k_m1 ?_
    refine px_ireturn rfl (.inl rfl) ?_
    first | exact PR_id (.inr ⟨s, hs, rfl, ⟨⟨N, hN, rfl⟩, ⟨a, ha, rfl⟩, .inl rfl⟩, .inl ⟨h98, rfl⟩⟩) | exact PR_id (.inr ⟨s, hs, rfl, ⟨⟨N, hN, rfl⟩, ⟨a, ha, rfl⟩, .inl rfl⟩, .inr (.inr ⟨h98, h2, rfl⟩)⟩) | exact PR_id (.inr ⟨s, hs, rfl, ⟨⟨N, hN, rfl⟩, ⟨a, ha, rfl⟩, .inr ⟨b, hb, rfl⟩⟩, .inl ⟨h98, rfl⟩⟩) | exact PR_id (.inr ⟨s, hs, rfl, ⟨⟨N, hN, rfl⟩, ⟨a, ha, rfl⟩, .inr ⟨b, hb, rfl⟩⟩, .inr (.inr ⟨h98, h2, rfl⟩)⟩) | exact absurd h98 g98 | exact absurd g98 h98 | exact absurd g2 h2 | exact absurd h2 g2 | (exact ⟨_, rfl, .inr ⟨s, hs, rfl, ⟨⟨N, hN, rfl⟩, ⟨a, ha, rfl⟩, .inl rfl⟩, .inr (.inl ⟨h98, h2, by dsimp only; rw [f2 68 (by decide), k2 6 (by decide) (by decide) (by decide), b36, wi_m1]; rw [if_pos rfl, mN_n (show N < 2 ^ 31 by omega), mN_n (show a < 2 ^ 31 by omega), hz, mN_n (show z < 2 ^ 31 by omega)]; congr 1; exact (news_u (fun v => .inl Iff.rfl) (fun l hl => (if_neg (nm_l (by omega))).symm) _)⟩)⟩, I3, rfl, (Fr_tr (Fr_mo f2 (by decide)) (Fr_mo hG.1 (by decide))), (fun k hk => (hG.2 k (by omega) (by omega) (by omega)).trans (k2 k (by omega) (by omega) (by omega)))⟩) | (exact ⟨_, rfl, .inr ⟨s, hs, rfl, ⟨⟨N, hN, rfl⟩, ⟨a, ha, rfl⟩, .inr ⟨b, hb, rfl⟩⟩, .inr (.inl ⟨h98, h2, by dsimp only; rw [if_neg (nm_l (by omega)), mN_n (show a < 2 ^ 31 by omega), hz, mN_n (show z < 2 ^ 31 by omega), mN_n (show b < 2 ^ 31 by omega)]; rw [h38, f2 68 (by decide), k2 6 (by decide) (by decide) (by decide), b36, wi_m1]; rw [← sp_fh_h (by omega) 60 0 (by omega) rfl]; congr 1; funext k; exact (news_u (fun v => .inl Iff.rfl) (fun l hl => (if_neg (nm_l (by omega))).symm) _)⟩)⟩, I3, rfl, (Fr_tr (Fr_mo f2 (by decide)) (Fr_mo hG.1 (by decide))), (fun k hk => (hG.2 k (by omega) (by omega) (by omega)).trans (k2 k (by omega) (by omega) (by omega)))⟩) | exact PR_id (.inl ⟨fun h => hu2 h.1.2.2, rfl⟩) | exact PR_id (.inl ⟨fun h => ha h.1.2.1, rfl⟩) | exact PR_id (.inl ⟨fun h => hN h.1.1, rfl⟩) | exact PR_id (.inl ⟨fun h => hs h.2, rfl⟩)
theorem vX12_kw_m {I : Nat → Nat → Int32} {J : Nat → Nat → Int64} {p : Bool × Option Nat} {ro : List (Nat × Nat × (Nat → Int32))} {n : Nat} (hn8 : n ≤ 8) (hn : I 65 1 = nI n) {s z : Nat} (hs : s < 6) (hz : I 99 s = nI z) (hz60 : z ≤ 60) {a b : Nat} (ha : a < n) (hb : b < n) {N : Nat} (hN : N ≤ 60) : Pv 5 0 0 CX12_knowsWithout [.ref (65), .int (nI s), .int (nI N), .int (nI (10 * a + b)), .int (-1)] (gS, I, J, gR p, ro) (fun r S' => ((sp_news n (fun lq => if nI lq = (-1) then nI 0 else I 68 lq) (I 65 6) (fun j => (J 100 (60 * s + j)).toInt32) z (wiC (-1)) ((10 * a + b) / 10) N).testBit ((10 * a + b) % 10) = true ∧ r = some (.int (nI 1)) ∧ ∃ I', S' = (gS, I', J, gR p, ro) ∧ Fr crt I I' ∧ K65 I I') ∨ (¬ (sp_news n (fun lq => if nI lq = (-1) then nI 0 else I 68 lq) (I 65 6) (fun j => (J 100 (60 * s + j)).toInt32) z (wiC (-1)) ((10 * a + b) / 10) N).testBit ((10 * a + b) % 10) = true ∧ r = some (.int (nI 0)) ∧ ∃ I', S' = (gS, I', J, gR p, ro) ∧ Fr crt I I' ∧ K65 I I')) := by
  refine ⟨okCX12_knowsWithout, Nat.le_of_ble_eq_true rfl, (show Px _ _ _ _ 0 [some (.ref (65)), some (.int (nI s)), some (.int (nI N)), some (.int (nI (10 * a + b))), some (.int (-1)), none, none] [] _ _ from ?_)⟩
  refine px_aload_n (kk := 0) rfl rfl rfl ?_
  refine px_callV0 CX12_beginDay [] [] (vX12_beginDay hn hn8) rfl gS_65 (by decide) rfl rfl rfl (Nat.le_of_ble_eq_true rfl) (by decide) ?_
  rintro _ _ - ⟨rfl, I2, rfl, f2, k2, b34, b35, b36, b84, b85, b86⟩
  refine px_aload_n (kk := 0) rfl rfl rfl ?_
  refine px_iload rfl rfl ?_
  refine px_putI rfl gS_65 rfl rfl ?_
  refine px_iconst (v := nI 0) rfl k_0 ?_
  refine px_ist5 rfl rfl (by decide) ?_
  refine px_iload rfl rfl ?_
  refine px_if_lt rfl (fun _ => ?_) (fun h => absurd h (by decide))
  refine px_aload_n (kk := 0) rfl rfl rfl ?_
  refine px_iload_n (kk := 1) rfl rfl rfl ?_
  refine px_iload_n (kk := 2) rfl rfl rfl ?_
  refine px_iload_n (kk := 3) rfl rfl rfl ?_
  refine px_bipush (v := nI 10) rfl b_10 ?_
  refine px_idivN rfl (by decide) (by decide) (by omega) ?_
  refine px_iconst (v := -1) rfl k_m1 ?_
  refine px_callV0 CX12_newsOf [] [.int _, .int _, .int _, .int _] (vX12_newsOf (I := (va_up I2 65 (va_up (I2 65) 36 (-1)))) hn8 (by simp only [va_up, Nat.reduceEqDiff, if_true, if_false]; exact (k2 1 (by decide) (by decide) (by decide)).trans hn) hs (by simp only [va_up, Nat.reduceEqDiff, if_false]; exact (congrFun (f2 99 (by decide)) s).trans hz) hz60 (one := ((10 * a + b) / 10)) (by omega) (N := N) hN (u := -1) (.inl rfl) ⟨0, by omega, by simp only [va_up, Nat.reduceEqDiff, if_true, if_false]; exact b34, .inl rfl⟩) rfl gS_65 (by decide) rfl rfl rfl (Nat.le_of_ble_eq_true rfl) (by decide) ?_
  rintro _ _ - ⟨rfl, I3, rfl, hG, -⟩
  have hvv : (sp_news n (fun lq => if nI lq = (-1) then nI 0 else I 68 lq) (I 65 6) (fun j => (J 100 (60 * s + j)).toInt32) z (wiC (-1)) ((10 * a + b) / 10) N) < 256 := sp_news_v (by omega) N
  refine px_ieq (y := nI (sp_news n (fun lq => if nI lq = (-1) then nI 0 else I 68 lq) (I 65 6) (fun j => (J 100 (60 * s + j)).toInt32) z (wiC (-1)) ((10 * a + b) / 10) N)) ?_ ?_
  · simp only [va_up, Nat.reduceEqDiff, if_true, if_false]
    rw [f2 68 (by decide), k2 6 (by decide) (by decide) (by decide), wi_m1]
    congr 1
    exact news_u (fun v => .inl Iff.rfl) (fun l hl => (if_neg (nm_l (by omega))).symm) _
  refine px_ist6 rfl rfl (by decide) ?_
  refine px_iload rfl rfl ?_
  refine px_if_lt rfl (fun _ => ?_) (fun h => absurd h (by decide))
  refine px_aload_n (kk := 0) rfl rfl rfl ?_
  refine px_iconst (v := -1) rfl k_m1 ?_
  refine px_putI rfl gS_65 rfl rfl ?_
  refine px_iload rfl rfl ?_
  refine px_iload_n (kk := 3) rfl rfl rfl ?_
  refine px_bipush (v := nI 10) rfl b_10 ?_
  refine px_iremN rfl (by decide) (by decide) (by omega) ?_
  refine px_ishr rfl ?_
  refine px_iconst (v := nI 1) rfl k_1 ?_
  refine px_iand rfl ?_
  refine px_iconst (v := nI 1) rfl k_1 ?_
  refine px_icmp_ne rfl (fun c46 => ?_) (fun c46 => ?_)
  · refine px_iconst (v := nI 0) rfl k_0 ?_
    refine px_ireturn rfl (.inr ⟨rfl, by decide⟩) ?_
    exact .inr ⟨fun h => c46 ((bit_at1 hvv (by omega)).mpr h), rfl, _, rfl, Fr_up (Fr_tr (Fr_mo f2 (by decide)) (Fr_mo (Fr_tr (Fr_up (cs := [65, 85, 86, 88]) Fr_rf (by decide) _) hG.1) (by decide))) (by decide) _, fun k hk => by
      rw [p_up_s, p_up_n _ _ (by omega), hG.2 k (by omega) (by omega) (by omega), p_up_s, p_up_n _ _ (by omega)]
      exact k2 k (by omega) (by omega) (by omega)⟩
  · refine px_iconst (v := nI 1) rfl k_1 ?_
    refine px_goto rfl ?_
    refine px_ireturn rfl (.inr ⟨rfl, by decide⟩) ?_
    exact .inl ⟨(bit_at1 hvv (by omega)).mp (by first | exact c46 | exact Classical.byContradiction c46), rfl, _, rfl, Fr_up (Fr_tr (Fr_mo f2 (by decide)) (Fr_mo (Fr_tr (Fr_up (cs := [65, 85, 86, 88]) Fr_rf (by decide) _) hG.1) (by decide))) (by decide) _, fun k hk => by
      rw [p_up_s, p_up_n _ _ (by omega), hG.2 k (by omega) (by omega) (by omega), p_up_s, p_up_n _ _ (by omega)]
      exact k2 k (by omega) (by omega) (by omega)⟩
theorem vX12_kw_l {I : Nat → Nat → Int32} {J : Nat → Nat → Int64} {p : Bool × Option Nat} {ro : List (Nat × Nat × (Nat → Int32))} {n : Nat} (hn8 : n ≤ 8) (hn : I 65 1 = nI n) {s z : Nat} (hs : s < 6) (hz : I 99 s = nI z) (hz60 : z ≤ 60) {a b : Nat} (ha : a < n) (hb : b < n) {N : Nat} (hN : N ≤ 60) {l : Nat} (hl : l < n) : Pv 5 0 0 CX12_knowsWithout [.ref (65), .int (nI s), .int (nI N), .int (nI (10 * a + b)), .int (nI l)] (gS, I, J, gR p, ro) (fun r S' => ((sp_news n (fun lq => if nI lq = (nI l) then nI 0 else I 68 lq) (I 65 6) (fun j => (J 100 (60 * s + j)).toInt32) z (wiC (nI l)) ((10 * a + b) / 10) N).testBit ((10 * a + b) % 10) = true ∧ r = some (.int (nI 1)) ∧ ∃ I', S' = (gS, I', J, gR p, ro) ∧ Fr crt I I' ∧ K65 I I') ∨ (¬ (sp_news n (fun lq => if nI lq = (nI l) then nI 0 else I 68 lq) (I 65 6) (fun j => (J 100 (60 * s + j)).toInt32) z (wiC (nI l)) ((10 * a + b) / 10) N).testBit ((10 * a + b) % 10) = true ∧ r = some (.int (nI 0)) ∧ ∃ I', S' = (gS, I', J, gR p, ro) ∧ Fr crt I I' ∧ K65 I I')) := by
  refine ⟨okCX12_knowsWithout, Nat.le_of_ble_eq_true rfl, (show Px _ _ _ _ 0 [some (.ref (65)), some (.int (nI s)), some (.int (nI N)), some (.int (nI (10 * a + b))), some (.int (nI l)), none, none] [] _ _ from ?_)⟩
  refine px_aload_n (kk := 0) rfl rfl rfl ?_
  refine px_callV0 CX12_beginDay [] [] (vX12_beginDay hn hn8) rfl gS_65 (by decide) rfl rfl rfl (Nat.le_of_ble_eq_true rfl) (by decide) ?_
  rintro _ _ - ⟨rfl, I2, rfl, f2, k2, b34, b35, b36, b84, b85, b86⟩
  refine px_aload_n (kk := 0) rfl rfl rfl ?_
  refine px_iload rfl rfl ?_
  refine px_putI rfl gS_65 rfl rfl ?_
  refine px_iconst (v := nI 0) rfl k_0 ?_
  refine px_ist5 rfl rfl (by decide) ?_
  refine px_iload rfl rfl ?_
  refine px_if_lt rfl (fun h => absurd h (n_nneg (by omega))) (fun c8 => ?_)
  refine px_aload_n (kk := 0) rfl rfl rfl ?_
  refine px_getR (r := 68) rfl gS_65 rfl (gR_65_4 _) ?_
  refine px_iload rfl rfl ?_
  refine px_iald (j := l) rfl gS_68 rfl (by omega) ?_
  refine px_ist5 rfl rfl (by decide) ?_
  refine px_aload_n (kk := 0) rfl rfl rfl ?_
  refine px_getR (r := 68) rfl gS_65 rfl (gR_65_4 _) ?_
  refine px_iload rfl rfl ?_
  refine px_iconst (v := nI 0) rfl k_0 ?_
  refine px_iast (j := l) rfl gS_68 rfl (by omega) ?_
  refine px_aload_n (kk := 0) rfl rfl rfl ?_
  refine px_iload_n (kk := 1) rfl rfl rfl ?_
  refine px_iload_n (kk := 2) rfl rfl rfl ?_
  refine px_iload_n (kk := 3) rfl rfl rfl ?_
  refine px_bipush (v := nI 10) rfl b_10 ?_
  refine px_idivN rfl (by decide) (by decide) (by omega) ?_
  refine px_iconst (v := -1) rfl k_m1 ?_
  refine px_callV0 CX12_newsOf [] [.int _, .int _, .int _, .int _] (vX12_newsOf (I := (va_up (va_up I2 65 (va_up (I2 65) 36 (nI l))) 68 (va_up (va_up I2 65 (va_up (I2 65) 36 (nI l)) 68) l (nI 0)))) hn8 (by simp only [va_up, Nat.reduceEqDiff, if_true, if_false]; exact (k2 1 (by decide) (by decide) (by decide)).trans hn) hs (by simp only [va_up, Nat.reduceEqDiff, if_false]; exact (congrFun (f2 99 (by decide)) s).trans hz) hz60 (one := ((10 * a + b) / 10)) (by omega) (N := N) hN (u := -1) (.inl rfl) ⟨0, by omega, by simp only [va_up, Nat.reduceEqDiff, if_true, if_false]; exact b34, .inl rfl⟩) rfl gS_65 (by decide) rfl rfl rfl (Nat.le_of_ble_eq_true rfl) (by decide) ?_
  rintro _ _ - ⟨rfl, I3, rfl, hG, -⟩
  have hvv : (sp_news n (fun lq => if nI lq = (nI l) then nI 0 else I 68 lq) (I 65 6) (fun j => (J 100 (60 * s + j)).toInt32) z (wiC (nI l)) ((10 * a + b) / 10) N) < 256 := sp_news_v (by omega) N
  refine px_ieq (y := nI (sp_news n (fun lq => if nI lq = (nI l) then nI 0 else I 68 lq) (I 65 6) (fun j => (J 100 (60 * s + j)).toInt32) z (wiC (nI l)) ((10 * a + b) / 10) N)) ?_ ?_
  · simp only [va_up, Nat.reduceEqDiff, if_true, if_false]
    rw [f2 68 (by decide), k2 6 (by decide) (by decide) (by decide)]
    congr 1
    exact news_u (wi_l hn8 (by omega)) (fun j hj => by
      by_cases e : j = l
      · subst e; rw [p_up_s, if_pos rfl]
      · rw [p_up_n _ _ e, if_neg (fun q => e ((n_eq (by omega) (by omega)).mp q))]) _
  refine px_ist6 rfl rfl (by decide) ?_
  refine px_iload rfl rfl ?_
  refine px_if_lt rfl (fun h => absurd h (n_nneg (by omega))) (fun c29 => ?_)
  refine px_aload_n (kk := 0) rfl rfl rfl ?_
  refine px_getR (r := 68) rfl gS_65 rfl (gR_65_4 _) ?_
  refine px_iload rfl rfl ?_
  refine px_iload rfl rfl ?_
  refine px_iast (j := l) rfl gS_68 rfl (by omega) ?_
  refine px_aload_n (kk := 0) rfl rfl rfl ?_
  refine px_iconst (v := -1) rfl k_m1 ?_
  refine px_putI rfl gS_65 rfl rfl ?_
  refine px_iload rfl rfl ?_
  refine px_iload_n (kk := 3) rfl rfl rfl ?_
  refine px_bipush (v := nI 10) rfl b_10 ?_
  refine px_iremN rfl (by decide) (by decide) (by omega) ?_
  refine px_ishr rfl ?_
  refine px_iconst (v := nI 1) rfl k_1 ?_
  refine px_iand rfl ?_
  refine px_iconst (v := nI 1) rfl k_1 ?_
  refine px_icmp_ne rfl (fun c46 => ?_) (fun c46 => ?_)
  · refine px_iconst (v := nI 0) rfl k_0 ?_
    refine px_ireturn rfl (.inr ⟨rfl, by decide⟩) ?_
    exact .inr ⟨fun h => c46 ((bit_at1 hvv (by omega)).mpr h), rfl, _, rfl, (fun c hc => by
      by_cases h5 : c = 65
      · subst h5; exact absurd (by decide) hc
      · rw [p_up_n _ _ h5]
        by_cases h8 : c = 68
        · subst h8
          funext j
          rw [p_up_s]
          by_cases e : j = l
          · subst e; rw [p_up_s]; exact congrFun (f2 68 (by decide)) j
          · rw [p_up_n _ _ e, hG.1 68 (by decide), p_up_s, p_up_n _ _ e]; exact congrFun (f2 68 (by decide)) j
        · rw [p_up_n _ _ h8, hG.1 c (fun e => hc (by simp only [List.mem_cons, List.not_mem_nil, or_false] at e ⊢; omega)), p_up_n _ _ h8, p_up_n _ _ h5]
          exact f2 c (fun e => hc (by simp only [List.mem_cons, List.not_mem_nil, or_false] at e ⊢; omega))), fun k hk => by
      rw [p_up_s, p_up_n _ _ (by omega), p_up_n _ _ (by decide), hG.2 k (by omega) (by omega) (by omega), p_up_n _ _ (by decide), p_up_s, p_up_n _ _ (by omega)]
      exact k2 k (by omega) (by omega) (by omega)⟩
  · refine px_iconst (v := nI 1) rfl k_1 ?_
    refine px_goto rfl ?_
    refine px_ireturn rfl (.inr ⟨rfl, by decide⟩) ?_
    exact .inl ⟨(bit_at1 hvv (by omega)).mp (by first | exact c46 | exact Classical.byContradiction c46), rfl, _, rfl, (fun c hc => by
      by_cases h5 : c = 65
      · subst h5; exact absurd (by decide) hc
      · rw [p_up_n _ _ h5]
        by_cases h8 : c = 68
        · subst h8
          funext j
          rw [p_up_s]
          by_cases e : j = l
          · subst e; rw [p_up_s]; exact congrFun (f2 68 (by decide)) j
          · rw [p_up_n _ _ e, hG.1 68 (by decide), p_up_s, p_up_n _ _ e]; exact congrFun (f2 68 (by decide)) j
        · rw [p_up_n _ _ h8, hG.1 c (fun e => hc (by simp only [List.mem_cons, List.not_mem_nil, or_false] at e ⊢; omega)), p_up_n _ _ h8, p_up_n _ _ h5]
          exact f2 c (fun e => hc (by simp only [List.mem_cons, List.not_mem_nil, or_false] at e ⊢; omega))), fun k hk => by
      rw [p_up_s, p_up_n _ _ (by omega), p_up_n _ _ (by decide), hG.2 k (by omega) (by omega) (by omega), p_up_n _ _ (by decide), p_up_s, p_up_n _ _ (by omega)]
      exact k2 k (by omega) (by omega) (by omega)⟩
theorem lX12_cut {I : Nat → Nat → Int32} {J : Nat → Nat → Int64} {p : Bool × Option Nat} {ro : List (Nat × Nat × (Nat → Int32))} {n : Nat} (hn8 : n ≤ 8) (hn : I 65 1 = nI n) {s z : Nat} (hs : s < 6) (hz : I 99 s = nI z) (hz60 : z ≤ 60) {a b : Nat} (ha : a < n) (hb : b < n) {N : Nat} (hN : N ≤ 60) {k : Nat} (hk : k ≤ n) {I1 : Nat → Nat → Int32} (hF : Fr crt I I1) (hK : K65 I I1) : Px 6 0 0 CX12_cut 33 [some (.ref (65)), some (.int (nI s)), some (.int (nI N)), some (.int (nI (10 * a + b))), some (.int ((sp_bits (fun gg => decide (gg ≠ ((10 * a + b) / 10)) && (decide (gg ≠ ((10 * a + b) % 10)) && !((sp_news n (fun lq => if nI lq = (nI gg) then nI 0 else I 68 lq) (I 65 6) (fun j => (J 100 (60 * s + j)).toInt32) z (wiC (nI gg)) ((10 * a + b) / 10) N).testBit ((10 * a + b) % 10)))) k))), some (.int (nI k))] [] (gS, I1, J, gR p, ro) (fun r S' => r = some (.int (sp_bits (fun gg => decide (gg ≠ ((10 * a + b) / 10)) && (decide (gg ≠ ((10 * a + b) % 10)) && !((sp_news n (fun lq => if nI lq = (nI gg) then nI 0 else I 68 lq) (I 65 6) (fun j => (J 100 (60 * s + j)).toInt32) z (wiC (nI gg)) ((10 * a + b) / 10) N).testBit ((10 * a + b) % 10)))) n)) ∧ ∃ I', S' = (gS, I', J, gR p, ro) ∧ Fr crt I I' ∧ K65 I I') := by
  refine px_iload rfl rfl ?_
  refine px_aload_n (kk := 0) rfl rfl rfl ?_
  refine px_getIe (v := nI n) rfl gS_65 rfl ((hK 1 (by decide)).trans hn) ?_
  refine px_icmp_ge rfl (fun c36 => ?_) (fun c36 => ?_)
  · refine px_iload rfl rfl ?_
    refine px_ireturn rfl (.inl rfl) ?_
    rw [n_le (by omega) (by omega)] at c36
    obtain rfl : k = n := by omega
    exact ⟨rfl, I1, rfl, hF, hK⟩
  · rw [n_le (by omega) (by omega)] at c36
    refine px_iload rfl rfl ?_
    refine px_iload_n (kk := 3) rfl rfl rfl ?_
    refine px_bipush (v := nI 10) rfl b_10 ?_
    refine px_idivN rfl (by decide) (by decide) (by omega) ?_
    refine px_icmp_eq rfl (fun c41 => ?_) (fun c41 => ?_)
    · refine px_iinc5 (v := nI (k + 1)) rfl (n_inc k) rfl (by decide) ?_
      refine px_goto rfl ?_
      rw [show (sp_bits (fun gg => decide (gg ≠ ((10 * a + b) / 10)) && (decide (gg ≠ ((10 * a + b) % 10)) && !((sp_news n (fun lq => if nI lq = (nI gg) then nI 0 else I 68 lq) (I 65 6) (fun j => (J 100 (60 * s + j)).toInt32) z (wiC (nI gg)) ((10 * a + b) / 10) N).testBit ((10 * a + b) % 10)))) k) = (sp_bits (fun gg => decide (gg ≠ ((10 * a + b) / 10)) && (decide (gg ≠ ((10 * a + b) % 10)) && !((sp_news n (fun lq => if nI lq = (nI gg) then nI 0 else I 68 lq) (I 65 6) (fun j => (J 100 (60 * s + j)).toInt32) z (wiC (nI gg)) ((10 * a + b) / 10) N).testBit ((10 * a + b) % 10)))) (k + 1)) from (if_neg (by simp only [Bool.and_eq_true, decide_eq_true_eq, Bool.not_eq_true', ne_eq, not_and]; intro e; rw [n_eq (by omega) (by omega)] at c41; exact absurd c41 e)).symm]
      exact lX12_cut hn8 hn hs hz hz60 ha hb hN (k := k + 1) (by omega) (I1 := I1) hF hK
    · refine px_iload rfl rfl ?_
      refine px_iload_n (kk := 3) rfl rfl rfl ?_
      refine px_bipush (v := nI 10) rfl b_10 ?_
      refine px_iremN rfl (by decide) (by decide) (by omega) ?_
      refine px_icmp_eq rfl (fun c46 => ?_) (fun c46 => ?_)
      · refine px_iinc5 (v := nI (k + 1)) rfl (n_inc k) rfl (by decide) ?_
        refine px_goto rfl ?_
        rw [show (sp_bits (fun gg => decide (gg ≠ ((10 * a + b) / 10)) && (decide (gg ≠ ((10 * a + b) % 10)) && !((sp_news n (fun lq => if nI lq = (nI gg) then nI 0 else I 68 lq) (I 65 6) (fun j => (J 100 (60 * s + j)).toInt32) z (wiC (nI gg)) ((10 * a + b) / 10) N).testBit ((10 * a + b) % 10)))) k) = (sp_bits (fun gg => decide (gg ≠ ((10 * a + b) / 10)) && (decide (gg ≠ ((10 * a + b) % 10)) && !((sp_news n (fun lq => if nI lq = (nI gg) then nI 0 else I 68 lq) (I 65 6) (fun j => (J 100 (60 * s + j)).toInt32) z (wiC (nI gg)) ((10 * a + b) / 10) N).testBit ((10 * a + b) % 10)))) (k + 1)) from (if_neg (by simp only [Bool.and_eq_true, decide_eq_true_eq, Bool.not_eq_true', ne_eq, not_and]; intro _ e; rw [n_eq (by omega) (by omega)] at c46; exact absurd c46 e)).symm]
        exact lX12_cut hn8 hn hs hz hz60 ha hb hN (k := k + 1) (by omega) (I1 := I1) hF hK
      · refine px_aload_n (kk := 0) rfl rfl rfl ?_
        refine px_iload_n (kk := 1) rfl rfl rfl ?_
        refine px_iload_n (kk := 2) rfl rfl rfl ?_
        refine px_iload_n (kk := 3) rfl rfl rfl ?_
        refine px_iload rfl rfl ?_
        refine px_callV0 CX12_knowsWithout [] [.int _, .int _, .int _, .int _] (vX12_kw_l (I := I1) hn8 ((hK 1 (by decide)).trans hn) hs ((congrFun (hF 99 (by decide)) s).trans hz) hz60 ha hb hN (l := k) (by omega)) rfl gS_65 (by decide) rfl rfl rfl (Nat.le_of_ble_eq_true rfl) (by decide) ?_
        rintro _ _ - (⟨ht, rfl, I2, rfl, hF2, hK2⟩ | ⟨ht, rfl, I2, rfl, hF2, hK2⟩)
        · rw [hF 68 (by decide), hK 6 (by decide)] at ht
          refine px_if_ne rfl (fun _ => ?_) (fun h => absurd h (by decide))
          refine px_iinc5 (v := nI (k + 1)) rfl (n_inc k) rfl (by decide) ?_
          refine px_goto rfl ?_
          rw [show (sp_bits (fun gg => decide (gg ≠ ((10 * a + b) / 10)) && (decide (gg ≠ ((10 * a + b) % 10)) && !((sp_news n (fun lq => if nI lq = (nI gg) then nI 0 else I 68 lq) (I 65 6) (fun j => (J 100 (60 * s + j)).toInt32) z (wiC (nI gg)) ((10 * a + b) / 10) N).testBit ((10 * a + b) % 10)))) k) = (sp_bits (fun gg => decide (gg ≠ ((10 * a + b) / 10)) && (decide (gg ≠ ((10 * a + b) % 10)) && !((sp_news n (fun lq => if nI lq = (nI gg) then nI 0 else I 68 lq) (I 65 6) (fun j => (J 100 (60 * s + j)).toInt32) z (wiC (nI gg)) ((10 * a + b) / 10) N).testBit ((10 * a + b) % 10)))) (k + 1)) from (if_neg (by simp only [Bool.and_eq_true, decide_eq_true_eq, Bool.not_eq_true', ne_eq, not_and]; intro _ _ e; rw [ht] at e; exact absurd e (by decide))).symm]
          exact lX12_cut hn8 hn hs hz hz60 ha hb hN (k := k + 1) (by omega) (I1 := I2) (Fr_tr hF hF2) (fun j hj => (hK2 j hj).trans (hK j hj))
        · rw [hF 68 (by decide), hK 6 (by decide)] at ht
          refine px_if_ne rfl (fun h => absurd h (by decide)) (fun _ => ?_)
          refine px_iload rfl rfl ?_
          refine px_iconst (v := nI 1) rfl k_1 ?_
          refine px_iload rfl rfl ?_
          refine px_ishl rfl ?_
          refine px_ior rfl ?_
          refine px_ist4 rfl rfl (by decide) ?_
          refine px_iinc5 (v := nI (k + 1)) rfl (n_inc k) rfl (by decide) ?_
          refine px_goto rfl ?_
          rw [show (sp_bits (fun gg => decide (gg ≠ ((10 * a + b) / 10)) && (decide (gg ≠ ((10 * a + b) % 10)) && !((sp_news n (fun lq => if nI lq = (nI gg) then nI 0 else I 68 lq) (I 65 6) (fun j => (J 100 (60 * s + j)).toInt32) z (wiC (nI gg)) ((10 * a + b) / 10) N).testBit ((10 * a + b) % 10)))) k) ||| (nI 1 <<< (nI k &&& 31)) = (sp_bits (fun gg => decide (gg ≠ ((10 * a + b) / 10)) && (decide (gg ≠ ((10 * a + b) % 10)) && !((sp_news n (fun lq => if nI lq = (nI gg) then nI 0 else I 68 lq) (I 65 6) (fun j => (J 100 (60 * s + j)).toInt32) z (wiC (nI gg)) ((10 * a + b) / 10) N).testBit ((10 * a + b) % 10)))) (k + 1)) from (if_pos (by simp only [Bool.and_eq_true, decide_eq_true_eq, Bool.not_eq_true', ne_eq]; exact ⟨fun e => c41 (by rw [e]), fun e => c46 (by rw [e]), by simpa using ht⟩)).symm]
          exact lX12_cut hn8 hn hs hz hz60 ha hb hN (k := k + 1) (by omega) (I1 := I2) (Fr_tr hF hF2) (fun j hj => (hK2 j hj).trans (hK j hj))
termination_by n - k
decreasing_by all_goals (have h := ‹¬ nI n ≤ nI k›; rw [n_le (by omega) (by omega)] at h; omega)
theorem vX12_cut {I : Nat → Nat → Int32} {J : Nat → Nat → Int64} {p : Bool × Option Nat} {ro : List (Nat × Nat × (Nat → Int32))} {tx : List Ln} {n : Nat} (hn : I 65 1 = nI n) (hn8 : n ≤ 8) (hSZ : ∀ s, s < 6 → ∃ z, z ≤ 60 ∧ I 99 s = nI z) {x y w : Int32} : Pv 6 0 0 CX12_cut [.ref (65), .int (x), .int (y), .int (w)] (gS, I, J, gR p, ro) (PR (DAY ((∃ N, N ≤ 60 ∧ y = nI N) ∧ ∃ a b, a < n ∧ b < n ∧ a ≠ b ∧ w = nI (10 * a + b)) x (fun s => I 98 s = -1) (fun s => I 98 s = -2) (fun s => if (sp_news n (fun lq => if nI lq = (-1) then nI 0 else I 68 lq) (I 65 6) (fun j => (J 100 (60 * s + j)).toInt32) (mN (I 99 s)) (wiC (-1)) (mN w / 10) (mN y)).testBit (mN w % 10) = true then sp_bits (fun gg => decide (gg ≠ mN w / 10) && (decide (gg ≠ mN w % 10) && !((sp_news n (fun lq => if nI lq = (nI gg) then nI 0 else I 68 lq) (I 65 6) (fun j => (J 100 (60 * s + j)).toInt32) (mN (I 99 s)) (wiC (nI gg)) (mN w / 10) (mN y)).testBit (mN w % 10)))) n else nI 0)) I J p ro) := by
  refine ⟨okCX12_cut, Nat.le_of_ble_eq_true rfl, (show Px _ _ _ _ 0 [some (.ref (65)), some (.int (x)), some (.int (y)), some (.int (w)), none, none] [] _ _ from ?_)⟩
  refine px_iload_n (kk := 1) rfl rfl rfl ?_
  refine px_callS0 CX12_isShelf [] [.int _] (vX12_isShelf) rfl rfl rfl (Nat.le_of_ble_eq_true rfl) (by decide) ?_
  rintro _ _ - (⟨⟨s, hs, rfl⟩, rfl, rfl⟩ | ⟨hs, rfl, rfl⟩)
  · refine px_if_eq rfl (fun h => absurd h (by decide)) (fun _ => ?_)
    refine px_iload_n (kk := 2) rfl rfl rfl ?_
    refine px_callS0 CX12_areHours [] [.int _] (vX12_areHours) rfl rfl rfl (Nat.le_of_ble_eq_true rfl) (by decide) ?_
    rintro _ _ - (⟨⟨N, hN, rfl⟩, rfl, rfl⟩ | ⟨hN, rfl, rfl⟩)
    · refine px_if_eq rfl (fun h => absurd h (by decide)) (fun _ => ?_)
      refine px_aload_n (kk := 0) rfl rfl rfl ?_
      refine px_iload_n (kk := 3) rfl rfl rfl ?_
      refine px_callV0 CX12_areTwo [] [.int _] (vX12_areTwo hn hn8) rfl gS_65 (by decide) rfl rfl rfl (Nat.le_of_ble_eq_true rfl) (by decide) ?_
      rintro _ _ - (⟨⟨a, b, ha, hbn, hne, rfl⟩, rfl, rfl⟩ | ⟨ha, rfl, rfl⟩)
      · refine px_if_ne rfl (fun _ => ?_) (fun h => absurd h (by decide))
        refine px_aload_n (kk := 0) rfl rfl rfl ?_
        refine px_iload_n (kk := 1) rfl rfl rfl ?_
        refine px_callV0 CX12_rowFault [] [.int _] (vX12_rowFault hs) rfl gS_65 (by decide) rfl rfl rfl (Nat.le_of_ble_eq_true rfl) (by decide) ?_
        rintro _ _ - ⟨rfl, (⟨h98, rfl⟩ | ⟨h98, h2, rfl⟩ | ⟨h98, h2, rfl⟩)⟩
        · refine px_if_ge rfl (fun h => absurd h (by decide)) (fun _ => ?_)
          refine px_aload_n (kk := 0) rfl rfl rfl ?_
          refine px_iload_n (kk := 1) rfl rfl rfl ?_
          refine px_callV0 CX12_rowFault [] [.int _] (vX12_rowFault hs) rfl gS_65 (by decide) rfl rfl rfl (Nat.le_of_ble_eq_true rfl) (by decide) ?_
          rintro _ _ - ⟨rfl, (⟨g98, rfl⟩ | ⟨g98, g2, rfl⟩ | ⟨g98, g2, rfl⟩)⟩
          · refine px_ireturn rfl (.inl rfl) ?_
            first | exact PR_id (.inr ⟨s, hs, rfl, ⟨⟨N, hN, rfl⟩, a, b, ha, hbn, hne, rfl⟩, .inl ⟨h98, rfl⟩⟩) | exact PR_id (.inr ⟨s, hs, rfl, ⟨⟨N, hN, rfl⟩, a, b, ha, hbn, hne, rfl⟩, .inr (.inr ⟨h98, h2, rfl⟩)⟩) | exact absurd h98 g98 | exact absurd g98 h98 | exact absurd g2 h2 | exact absurd h2 g2 | exact ⟨_, rfl, .inr ⟨s, hs, rfl, ⟨⟨N, hN, rfl⟩, a, b, ha, hbn, hne, rfl⟩, .inr (.inl ⟨h98, h2, by dsimp only; rw [mN_n (show N < 2 ^ 31 by omega), mN_n (show 10 * a + b < 2 ^ 31 by omega), hz, mN_n (show z < 2 ^ 31 by omega), if_neg ht]⟩)⟩, I2, rfl, hF2, hK2⟩ | exact PR_id (.inl ⟨fun h => ha h.1.2, rfl⟩) | exact PR_id (.inl ⟨fun h => hN h.1.1, rfl⟩) | exact PR_id (.inl ⟨fun h => hs h.2, rfl⟩)
          · refine px_ireturn rfl (.inl rfl) ?_
            first | exact PR_id (.inr ⟨s, hs, rfl, ⟨⟨N, hN, rfl⟩, a, b, ha, hbn, hne, rfl⟩, .inl ⟨h98, rfl⟩⟩) | exact PR_id (.inr ⟨s, hs, rfl, ⟨⟨N, hN, rfl⟩, a, b, ha, hbn, hne, rfl⟩, .inr (.inr ⟨h98, h2, rfl⟩)⟩) | exact absurd h98 g98 | exact absurd g98 h98 | exact absurd g2 h2 | exact absurd h2 g2 | exact ⟨_, rfl, .inr ⟨s, hs, rfl, ⟨⟨N, hN, rfl⟩, a, b, ha, hbn, hne, rfl⟩, .inr (.inl ⟨h98, h2, by dsimp only; rw [mN_n (show N < 2 ^ 31 by omega), mN_n (show 10 * a + b < 2 ^ 31 by omega), hz, mN_n (show z < 2 ^ 31 by omega), if_neg ht]⟩)⟩, I2, rfl, hF2, hK2⟩ | exact PR_id (.inl ⟨fun h => ha h.1.2, rfl⟩) | exact PR_id (.inl ⟨fun h => hN h.1.1, rfl⟩) | exact PR_id (.inl ⟨fun h => hs h.2, rfl⟩)
          · refine px_ireturn rfl (.inl rfl) ?_
            first | exact PR_id (.inr ⟨s, hs, rfl, ⟨⟨N, hN, rfl⟩, a, b, ha, hbn, hne, rfl⟩, .inl ⟨h98, rfl⟩⟩) | exact PR_id (.inr ⟨s, hs, rfl, ⟨⟨N, hN, rfl⟩, a, b, ha, hbn, hne, rfl⟩, .inr (.inr ⟨h98, h2, rfl⟩)⟩) | exact absurd h98 g98 | exact absurd g98 h98 | exact absurd g2 h2 | exact absurd h2 g2 | exact ⟨_, rfl, .inr ⟨s, hs, rfl, ⟨⟨N, hN, rfl⟩, a, b, ha, hbn, hne, rfl⟩, .inr (.inl ⟨h98, h2, by dsimp only; rw [mN_n (show N < 2 ^ 31 by omega), mN_n (show 10 * a + b < 2 ^ 31 by omega), hz, mN_n (show z < 2 ^ 31 by omega), if_neg ht]⟩)⟩, I2, rfl, hF2, hK2⟩ | exact PR_id (.inl ⟨fun h => ha h.1.2, rfl⟩) | exact PR_id (.inl ⟨fun h => hN h.1.1, rfl⟩) | exact PR_id (.inl ⟨fun h => hs h.2, rfl⟩)
        · obtain ⟨z, hz60, hz⟩ := hSZ s hs
          refine px_if_ge rfl (fun _ => ?_) (fun h => absurd h (by decide))
          skip
          refine px_aload_n (kk := 0) rfl rfl rfl ?_
          refine px_iload_n (kk := 1) rfl rfl rfl ?_
          refine px_iload_n (kk := 2) rfl rfl rfl ?_
          refine px_iload_n (kk := 3) rfl rfl rfl ?_
          refine px_iconst (v := -1) rfl k_m1 ?_
          refine px_callV0 CX12_knowsWithout [] [.int _, .int _, .int _, .int _] (vX12_kw_m hn8 hn hs hz hz60 ha hbn hN) rfl gS_65 (by decide) rfl rfl rfl (Nat.le_of_ble_eq_true rfl) (by decide) ?_
          rintro _ _ - (⟨ht, rfl, I2, rfl, hF2, hK2⟩ | ⟨ht, rfl, I2, rfl, hF2, hK2⟩)
          · refine px_if_ne rfl (fun _ => ?_) (fun h => absurd h (by decide))
            refine px_iconst (v := nI 0) rfl k_0 ?_
            refine px_ist4 rfl rfl (by decide) ?_
            refine px_iconst (v := nI 0) rfl k_0 ?_
            refine px_ist5 rfl rfl (by decide) ?_
            refine pxv_post (lX12_cut hn8 hn hs hz hz60 ha hbn hN (k := 0) (by omega) (I1 := I2) hF2 hK2) (fun r S hr => ?_)
            obtain ⟨rfl, I3, rfl, hF3, hK3⟩ := hr
            exact ⟨_, rfl, .inr ⟨s, hs, rfl, ⟨⟨N, hN, rfl⟩, a, b, ha, hbn, hne, rfl⟩, .inr (.inl ⟨h98, h2, by dsimp only; rw [mN_n (show N < 2 ^ 31 by omega), mN_n (show 10 * a + b < 2 ^ 31 by omega), hz, mN_n (show z < 2 ^ 31 by omega), if_pos ht]⟩)⟩, I3, rfl, hF3, hK3⟩
          · refine px_if_ne rfl (fun h => absurd h (by decide)) (fun _ => ?_)
            refine px_iconst (v := nI 0) rfl k_0 ?_
            refine px_ireturn rfl (.inl rfl) ?_
            first | exact PR_id (.inr ⟨s, hs, rfl, ⟨⟨N, hN, rfl⟩, a, b, ha, hbn, hne, rfl⟩, .inl ⟨h98, rfl⟩⟩) | exact PR_id (.inr ⟨s, hs, rfl, ⟨⟨N, hN, rfl⟩, a, b, ha, hbn, hne, rfl⟩, .inr (.inr ⟨h98, h2, rfl⟩)⟩) | exact absurd h98 g98 | exact absurd g98 h98 | exact absurd g2 h2 | exact absurd h2 g2 | exact ⟨_, rfl, .inr ⟨s, hs, rfl, ⟨⟨N, hN, rfl⟩, a, b, ha, hbn, hne, rfl⟩, .inr (.inl ⟨h98, h2, by dsimp only; rw [mN_n (show N < 2 ^ 31 by omega), mN_n (show 10 * a + b < 2 ^ 31 by omega), hz, mN_n (show z < 2 ^ 31 by omega), if_neg ht]⟩)⟩, I2, rfl, hF2, hK2⟩ | exact PR_id (.inl ⟨fun h => ha h.1.2, rfl⟩) | exact PR_id (.inl ⟨fun h => hN h.1.1, rfl⟩) | exact PR_id (.inl ⟨fun h => hs h.2, rfl⟩)
        · refine px_if_ge rfl (fun h => absurd h (by decide)) (fun _ => ?_)
          refine px_aload_n (kk := 0) rfl rfl rfl ?_
          refine px_iload_n (kk := 1) rfl rfl rfl ?_
          refine px_callV0 CX12_rowFault [] [.int _] (vX12_rowFault hs) rfl gS_65 (by decide) rfl rfl rfl (Nat.le_of_ble_eq_true rfl) (by decide) ?_
          rintro _ _ - ⟨rfl, (⟨g98, rfl⟩ | ⟨g98, g2, rfl⟩ | ⟨g98, g2, rfl⟩)⟩
          · refine px_ireturn rfl (.inl rfl) ?_
            first | exact PR_id (.inr ⟨s, hs, rfl, ⟨⟨N, hN, rfl⟩, a, b, ha, hbn, hne, rfl⟩, .inl ⟨h98, rfl⟩⟩) | exact PR_id (.inr ⟨s, hs, rfl, ⟨⟨N, hN, rfl⟩, a, b, ha, hbn, hne, rfl⟩, .inr (.inr ⟨h98, h2, rfl⟩)⟩) | exact absurd h98 g98 | exact absurd g98 h98 | exact absurd g2 h2 | exact absurd h2 g2 | exact ⟨_, rfl, .inr ⟨s, hs, rfl, ⟨⟨N, hN, rfl⟩, a, b, ha, hbn, hne, rfl⟩, .inr (.inl ⟨h98, h2, by dsimp only; rw [mN_n (show N < 2 ^ 31 by omega), mN_n (show 10 * a + b < 2 ^ 31 by omega), hz, mN_n (show z < 2 ^ 31 by omega), if_neg ht]⟩)⟩, I2, rfl, hF2, hK2⟩ | exact PR_id (.inl ⟨fun h => ha h.1.2, rfl⟩) | exact PR_id (.inl ⟨fun h => hN h.1.1, rfl⟩) | exact PR_id (.inl ⟨fun h => hs h.2, rfl⟩)
          · refine px_ireturn rfl (.inl rfl) ?_
            first | exact PR_id (.inr ⟨s, hs, rfl, ⟨⟨N, hN, rfl⟩, a, b, ha, hbn, hne, rfl⟩, .inl ⟨h98, rfl⟩⟩) | exact PR_id (.inr ⟨s, hs, rfl, ⟨⟨N, hN, rfl⟩, a, b, ha, hbn, hne, rfl⟩, .inr (.inr ⟨h98, h2, rfl⟩)⟩) | exact absurd h98 g98 | exact absurd g98 h98 | exact absurd g2 h2 | exact absurd h2 g2 | exact ⟨_, rfl, .inr ⟨s, hs, rfl, ⟨⟨N, hN, rfl⟩, a, b, ha, hbn, hne, rfl⟩, .inr (.inl ⟨h98, h2, by dsimp only; rw [mN_n (show N < 2 ^ 31 by omega), mN_n (show 10 * a + b < 2 ^ 31 by omega), hz, mN_n (show z < 2 ^ 31 by omega), if_neg ht]⟩)⟩, I2, rfl, hF2, hK2⟩ | exact PR_id (.inl ⟨fun h => ha h.1.2, rfl⟩) | exact PR_id (.inl ⟨fun h => hN h.1.1, rfl⟩) | exact PR_id (.inl ⟨fun h => hs h.2, rfl⟩)
          · refine px_ireturn rfl (.inl rfl) ?_
            first | exact PR_id (.inr ⟨s, hs, rfl, ⟨⟨N, hN, rfl⟩, a, b, ha, hbn, hne, rfl⟩, .inl ⟨h98, rfl⟩⟩) | exact PR_id (.inr ⟨s, hs, rfl, ⟨⟨N, hN, rfl⟩, a, b, ha, hbn, hne, rfl⟩, .inr (.inr ⟨h98, h2, rfl⟩)⟩) | exact absurd h98 g98 | exact absurd g98 h98 | exact absurd g2 h2 | exact absurd h2 g2 | exact ⟨_, rfl, .inr ⟨s, hs, rfl, ⟨⟨N, hN, rfl⟩, a, b, ha, hbn, hne, rfl⟩, .inr (.inl ⟨h98, h2, by dsimp only; rw [mN_n (show N < 2 ^ 31 by omega), mN_n (show 10 * a + b < 2 ^ 31 by omega), hz, mN_n (show z < 2 ^ 31 by omega), if_neg ht]⟩)⟩, I2, rfl, hF2, hK2⟩ | exact PR_id (.inl ⟨fun h => ha h.1.2, rfl⟩) | exact PR_id (.inl ⟨fun h => hN h.1.1, rfl⟩) | exact PR_id (.inl ⟨fun h => hs h.2, rfl⟩)
      · refine px_if_ne rfl (fun h => absurd h (by decide)) (fun _ => ?_)
        refine px_iconst (v := -1) rfl k_m1 ?_
        refine px_ireturn rfl (.inl rfl) ?_
        first | exact PR_id (.inr ⟨s, hs, rfl, ⟨⟨N, hN, rfl⟩, a, b, ha, hbn, hne, rfl⟩, .inl ⟨h98, rfl⟩⟩) | exact PR_id (.inr ⟨s, hs, rfl, ⟨⟨N, hN, rfl⟩, a, b, ha, hbn, hne, rfl⟩, .inr (.inr ⟨h98, h2, rfl⟩)⟩) | exact absurd h98 g98 | exact absurd g98 h98 | exact absurd g2 h2 | exact absurd h2 g2 | exact ⟨_, rfl, .inr ⟨s, hs, rfl, ⟨⟨N, hN, rfl⟩, a, b, ha, hbn, hne, rfl⟩, .inr (.inl ⟨h98, h2, by dsimp only; rw [mN_n (show N < 2 ^ 31 by omega), mN_n (show 10 * a + b < 2 ^ 31 by omega), hz, mN_n (show z < 2 ^ 31 by omega), if_neg ht]⟩)⟩, I2, rfl, hF2, hK2⟩ | exact PR_id (.inl ⟨fun h => ha h.1.2, rfl⟩) | exact PR_id (.inl ⟨fun h => hN h.1.1, rfl⟩) | exact PR_id (.inl ⟨fun h => hs h.2, rfl⟩)
    · refine px_if_eq rfl (fun _ => ?_) (fun h => absurd h (by decide))
      refine px_iconst (v := -1) rfl k_m1 ?_
      refine px_ireturn rfl (.inl rfl) ?_
      first | exact PR_id (.inr ⟨s, hs, rfl, ⟨⟨N, hN, rfl⟩, a, b, ha, hbn, hne, rfl⟩, .inl ⟨h98, rfl⟩⟩) | exact PR_id (.inr ⟨s, hs, rfl, ⟨⟨N, hN, rfl⟩, a, b, ha, hbn, hne, rfl⟩, .inr (.inr ⟨h98, h2, rfl⟩)⟩) | exact absurd h98 g98 | exact absurd g98 h98 | exact absurd g2 h2 | exact absurd h2 g2 | exact ⟨_, rfl, .inr ⟨s, hs, rfl, ⟨⟨N, hN, rfl⟩, a, b, ha, hbn, hne, rfl⟩, .inr (.inl ⟨h98, h2, by dsimp only; rw [mN_n (show N < 2 ^ 31 by omega), mN_n (show 10 * a + b < 2 ^ 31 by omega), hz, mN_n (show z < 2 ^ 31 by omega), if_neg ht]⟩)⟩, I2, rfl, hF2, hK2⟩ | exact PR_id (.inl ⟨fun h => ha h.1.2, rfl⟩) | exact PR_id (.inl ⟨fun h => hN h.1.1, rfl⟩) | exact PR_id (.inl ⟨fun h => hs h.2, rfl⟩)
  · refine px_if_eq rfl (fun _ => ?_) (fun h => absurd h (by decide))
    refine px_iconst (v := -1) rfl k_m1 ?_
    refine px_ireturn rfl (.inl rfl) ?_
    first | exact PR_id (.inr ⟨s, hs, rfl, ⟨⟨N, hN, rfl⟩, a, b, ha, hbn, hne, rfl⟩, .inl ⟨h98, rfl⟩⟩) | exact PR_id (.inr ⟨s, hs, rfl, ⟨⟨N, hN, rfl⟩, a, b, ha, hbn, hne, rfl⟩, .inr (.inr ⟨h98, h2, rfl⟩)⟩) | exact absurd h98 g98 | exact absurd g98 h98 | exact absurd g2 h2 | exact absurd h2 g2 | exact ⟨_, rfl, .inr ⟨s, hs, rfl, ⟨⟨N, hN, rfl⟩, a, b, ha, hbn, hne, rfl⟩, .inr (.inl ⟨h98, h2, by dsimp only; rw [mN_n (show N < 2 ^ 31 by omega), mN_n (show 10 * a + b < 2 ^ 31 by omega), hz, mN_n (show z < 2 ^ 31 by omega), if_neg ht]⟩)⟩, I2, rfl, hF2, hK2⟩ | exact PR_id (.inl ⟨fun h => ha h.1.2, rfl⟩) | exact PR_id (.inl ⟨fun h => hN h.1.1, rfl⟩) | exact PR_id (.inl ⟨fun h => hs h.2, rfl⟩)
