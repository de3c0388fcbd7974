/-! the class reads the text -/
def sV (b : Nat) : Int32 := if b = 256 then -1 else nI b
theorem dg_sV : ∀ b, b < 257 → (dg b = true ↔ ¬ sV b < nI 48 ∧ ¬ nI 57 < sV b) := by decide +kernel
theorem nm_sV : ∀ b, b < 257 → (nmN b < 6 ↔ (sV b = nI 108 ∨ sV b = nI 119 ∨ sV b = nI 111 ∨ sV b = nI 104 ∨ sV b = nI 99 ∨ sV b = nI 112)) := by decide +kernel
theorem nm_cT : ∀ b, b < 257 → nmN b < 6 → -(sV b) = cT (1, nmN b) := by decide +kernel
theorem bn_cT : ∀ b, b < 257 → lvN b ≠ 9 → -(sV b) = cT (3, bnN b) := by decide +kernel
theorem sg_cT : ∀ b, b < 257 → b = 33 → -(sV b) = cT (2, 0) := by decide +kernel
theorem sV_n : ∀ b, b < 257 → b ≠ 256 → sV b = nI b := fun b _ h => by rw [sV, if_neg h]
theorem sV_eq {b k : Nat} (hb : b < 257) (hk : k < 256) : sV b = nI k ↔ b = k := by
  by_cases h : b = 256
  · rw [sV, if_pos h]
    exact ⟨fun e => absurd e.symm (nI_nm (by omega)), fun e => by omega⟩
  · rw [sV, if_neg h, n_eq (by omega) (by omega)]
theorem lv_ops : ∀ b, b < 257 → lvN b ≠ 9 → b = 124 ∨ b = 38 ∨ b = 60 ∨ b = 61 ∨ b = 62 ∨ b = 43 ∨ b = 45 ∨ b = 42 ∨ b = 47 ∨ b = 37 := by decide +kernel
theorem lvN_lt : ∀ b, b < 257 → lvN b < 10 := by decide +kernel
theorem lv_is {b m : Nat} (hb : b < 257) (hm : m < 5) : ((if lvN b = 9 then -1 else nI (lvN b)) = nI m) ↔ lvN b = m := by
  have := lvN_lt b hb
  by_cases h : lvN b = 9
  · rw [if_pos h]
    exact ⟨fun e => absurd e.symm (nI_nm (by omega)), fun e => by omega⟩
  · rw [if_neg h, n_eq (by omega) (by omega)]
def LTc (c : Nat → Nat) (T : Nat) (I : Nat → Nat → Int32) : Prop := I 6 5 = nI T ∧ ∀ j, j < T → I 7 j = nI (c j)
def LFc (b : Bool) (I : Nat → Nat → Int32) (a : Nat) (I1 : Nat → Nat → Int32) : Prop := Fr [6, gB b] I I1 ∧ (∀ k, k ≠ 7 → k ≠ 8 → I1 6 k = I 6 k) ∧ I1 6 8 = nI a
def LSc (b : Bool) (I : Nat → Nat → Int32) (a : Nat) (l : List Int32) (I1 : Nat → Nat → Int32) : Prop := LFc b I a I1 ∧ I1 6 7 = nI l.length ∧ HC (I1 (gB b)) 0 l
theorem gB_x (b : Bool) : gB b ≠ 6 ∧ gB b ≠ 7 := by cases b <;> decide
theorem LFc_at {b : Bool} {I I1 : Nat → Nat → Int32} {a : Nat} (h : LFc b I a I1) (a2 : Nat) : LFc b I a2 (va_up I1 6 (va_up (I1 6) 8 (nI a2))) := ⟨Fr_up h.1 List.mem_cons_self _, fun k h1 h2 => by rw [p_up_s, p_up_n _ _ h2]; exact h.2.1 k h1 h2, by rw [p_up_s, p_up_s]⟩
theorem LSc_at {b : Bool} {I I1 : Nat → Nat → Int32} {a : Nat} {l : List Int32} (h : LSc b I a l I1) (a2 : Nat) : LSc b I a2 l (va_up I1 6 (va_up (I1 6) 8 (nI a2))) := ⟨LFc_at h.1 a2, by rw [p_up_s, p_up_n _ _ (by decide)]; exact h.2.1, by rw [p_up_n _ _ (gB_x b).1]; exact h.2.2⟩
theorem LSc_w {b : Bool} {I I1 : Nat → Nat → Int32} {a : Nat} {l : List Int32} (h : LSc b I a l I1) (v : Int32) : LSc b I a (l ++ [v]) (va_up (va_up I1 (gB b) (va_up (I1 (gB b)) l.length v)) 6 (va_up (I1 6) 7 (nI (l.length + 1)))) := by
  obtain ⟨⟨h1, h2, h3⟩, h4, h5⟩ := h
  refine ⟨⟨Fr_up (Fr_up h1 (List.mem_cons_of_mem _ List.mem_cons_self) _) List.mem_cons_self _, fun k z1 z2 => ?_, ?_⟩, ?_, ?_⟩
  · rw [p_up_s, p_up_n _ _ z1]; exact h2 k z1 z2
  · rw [p_up_s, p_up_n _ _ (by decide)]; exact h3
  · rw [p_up_s, p_up_s, List.length_append]; rfl
  · rw [p_up_n _ _ (gB_x b).1, p_up_s]
    refine HC_app.mpr ⟨HC_congr (fun j _ hj => p_up_n _ _ (by omega)) h5, ?_, trivial⟩
    rw [Nat.zero_add, p_up_s]
def POc (p : Bool × Option Nat) (I : Nat → Nat → Int32) (J : Nat → Nat → Int64) (ro : List (Nat × Nat × (Nat → Int32))) (R : PR0) (l : List Int32) : Option Value → pm_M → Prop := fun rr S' => (∃ q t I', R = (q, some t) ∧ rr = some (.int (nI 1)) ∧ S' = (gS, I', J, gR p, ro) ∧ LSc p.1 I q (l ++ t.map cT) I') ∨ (∃ q I', R = (q, none) ∧ rr = some (.int (nI 0)) ∧ S' = (gS, I', J, gR p, ro) ∧ LFc p.1 I q I')
theorem vX3_sg {I : Nat → Nat → Int32} {J : Nat → Nat → Int64} {p : Bool × Option Nat} {ro : List (Nat × Nat × (Nat → Int32))} {c : Nat → Nat} {T : Nat} (hT : TP c T) (hLT : LTc c T I) {a : Nat} (ha : a ≤ T) {I1 : Nat → Nat → Int32} (hF : LFc p.1 I a I1) : Pv 0 0 0 CX3_sign [.ref (6)] (gS, I1, J, gR p, ro) (qI (sV (c a)) (gS, I1, J, gR p, ro)) := by
  refine ⟨okCX3_sign, Nat.le_of_ble_eq_true rfl, (show Px _ _ _ _ 0 [some (.ref (6))] [] _ _ from ?_)⟩
  refine px_aload_n (kk := 0) rfl rfl rfl ?_
  refine px_getIe (v := nI a) rfl gS_6 rfl hF.2.2 ?_
  refine px_if_lt rfl (fun h => absurd h (n_nneg (by have := hT.1; omega))) (fun c2 => ?_)
  refine px_aload_n (kk := 0) rfl rfl rfl ?_
  refine px_getIe (v := nI a) rfl gS_6 rfl hF.2.2 ?_
  refine px_aload_n (kk := 0) rfl rfl rfl ?_
  refine px_getIe (v := nI T) rfl gS_6 rfl ((hF.2.1 5 (by decide) (by decide)).trans hLT.1) ?_
  refine px_icmp_ge rfl (fun c7 => ?_) (fun c7 => ?_)
  · refine px_iconst (v := -1) rfl k_m1 ?_
    refine px_ireturn rfl (.inl rfl) ?_
    have := hT.1
    rw [n_le (by omega) (by omega)] at c7
    exact ⟨by rw [sV, if_pos (hT.2.2 a (by omega))], rfl⟩
  · have := hT.1
    rw [n_le (by omega) (by omega)] at c7
    refine px_aload_n (kk := 0) rfl rfl rfl ?_
    refine px_getIe (v := nI a) rfl gS_6 rfl hF.2.2 ?_
    refine px_bipush (v := nI 120) rfl b_120 ?_
    refine px_icmp_ge rfl (fun h => absurd h (by have := hT.1; rw [n_le (by omega) (by omega)]; omega)) (fun c11 => ?_)
    refine px_aload_n (kk := 0) rfl rfl rfl ?_
    refine px_getR (r := 7) rfl gS_6 rfl (gR_6_1 _) ?_
    refine px_aload_n (kk := 0) rfl rfl rfl ?_
    refine px_getIe (v := nI a) rfl gS_6 rfl hF.2.2 ?_
    refine px_ialde (j := a) (v := nI (c a)) rfl gS_7 rfl (by omega) (by rw [hF.1 7 (fun e => by simp only [List.mem_cons, List.not_mem_nil, or_false] at e; have := (gB_x p.1).2; omega)]; exact hLT.2 a (by omega)) ?_
    refine px_goto rfl ?_
    refine px_ireturn rfl (.inl rfl) ?_
    exact ⟨by rw [sV_n _ (TP_b hT a) (by have := hT.2.1 a (by omega); omega)], rfl⟩
theorem vX3_wr {I : Nat → Nat → Int32} {J : Nat → Nat → Int64} {p : Bool × Option Nat} {ro : List (Nat × Nat × (Nat → Int32))} {a : Nat} {l : List Int32} {I1 : Nat → Nat → Int32} (hS : LSc p.1 I a l I1) (hl : l.length < 256) {v : Int32} : Pv 0 0 0 CX3_write [.ref (6), .int (v)] (gS, I1, J, gR p, ro) (fun r S' => r = none ∧ ∃ I', S' = (gS, I', J, gR p, ro) ∧ LSc p.1 I a (l ++ [v]) I') := by
  refine ⟨okCX3_write, Nat.le_of_ble_eq_true rfl, (show Px _ _ _ _ 0 [some (.ref (6)), some (.int (v))] [] _ _ from ?_)⟩
  refine px_aload_n (kk := 0) rfl rfl rfl ?_
  refine px_getIe (v := nI l.length) rfl gS_6 rfl hS.2.1 ?_
  refine px_sipush (v := nI 256) rfl s_256 ?_
  refine px_icmp_ge rfl (fun h => absurd h (by rw [n_le (by omega) (by omega)]; omega)) (fun c3 => ?_)
  refine px_aload_n (kk := 0) rfl rfl rfl ?_
  refine px_getR (r := (gB p.1)) rfl gS_6 rfl (gR_6_4 _) ?_
  refine px_aload_n (kk := 0) rfl rfl rfl ?_
  refine px_getIe (v := nI l.length) rfl gS_6 rfl hS.2.1 ?_
  refine px_iload_n (kk := 1) rfl rfl rfl ?_
  refine px_iast (j := l.length) rfl (gS_B _) rfl hl ?_
  refine px_aload_n (kk := 0) rfl rfl rfl ?_
  refine px_dup rfl rfl ?_
  refine px_getIe (v := nI l.length) rfl gS_6 rfl ((congrFun (p_up_n _ _ (gB_x p.1).1.symm) 7).trans hS.2.1) ?_
  refine px_iconst (v := nI 1) rfl k_1 ?_
  refine px_iaddN rfl ?_
  refine px_putI rfl gS_6 rfl rfl ?_
  refine px_return rfl rfl ?_
  refine ⟨rfl, _, rfl, ?_⟩
  rw [p_up_n _ _ (gB_x p.1).1.symm]
  exact LSc_w hS v
theorem vX3_isDigit {I : Nat → Nat → Int32} {J : Nat → Nat → Int64} {p : Bool × Option Nat} {ro : List (Nat × Nat × (Nat → Int32))} {b : Nat} (hb : b < 257) : Pv 0 0 0 CX3_isDigit [.int ((sV b))] (gS, I, J, gR p, ro) (qB (dg b = true) (gS, I, J, gR p, ro)) := by
  refine ⟨okCX3_isDigit, Nat.le_of_ble_eq_true rfl, (show Px _ _ _ _ 0 [some (.int ((sV b)))] [] _ _ from ?_)⟩
  refine px_iload_n (kk := 0) rfl rfl rfl ?_
  refine px_bipush (v := nI 48) rfl b_48 ?_
  refine px_icmp_lt rfl (fun c2 => ?_) (fun c2 => ?_)
  · refine px_iconst (v := nI 0) rfl k_0 ?_
    refine px_ireturn rfl (.inr ⟨rfl, by decide⟩) ?_
    exact qB_f (fun h => ((dg_sV b hb).mp h).1 c2)
  · refine px_iload_n (kk := 0) rfl rfl rfl ?_
    refine px_bipush (v := nI 57) rfl b_57 ?_
    refine px_icmp_gt rfl (fun c5 => ?_) (fun c5 => ?_)
    · refine px_iconst (v := nI 0) rfl k_0 ?_
      refine px_ireturn rfl (.inr ⟨rfl, by decide⟩) ?_
      exact qB_f (fun h => ((dg_sV b hb).mp h).2 c5)
    · refine px_iconst (v := nI 1) rfl k_1 ?_
      refine px_goto rfl ?_
      refine px_ireturn rfl (.inr ⟨rfl, by decide⟩) ?_
      exact qB_t ((dg_sV b hb).mpr ⟨c2, c5⟩)
theorem vX3_isName {I : Nat → Nat → Int32} {J : Nat → Nat → Int64} {p : Bool × Option Nat} {ro : List (Nat × Nat × (Nat → Int32))} {b : Nat} (hb : b < 257) : Pv 0 0 0 CX3_isName [.int ((sV b))] (gS, I, J, gR p, ro) (qB (nmN b < 6) (gS, I, J, gR p, ro)) := by
  refine ⟨okCX3_isName, Nat.le_of_ble_eq_true rfl, (show Px _ _ _ _ 0 [some (.int ((sV b)))] [] _ _ from ?_)⟩
  refine px_iload_n (kk := 0) rfl rfl rfl ?_
  refine px_bipush (v := nI 108) rfl b_108 ?_
  refine px_icmp_eq rfl (fun c2 => ?_) (fun c2 => ?_)
  · refine px_iconst (v := nI 1) rfl k_1 ?_
    refine px_goto rfl ?_
    refine px_ireturn rfl (.inr ⟨rfl, by decide⟩) ?_
    first | exact qB_f (fun h => by rcases (nm_sV b hb).mp h with e | e | e | e | e | e; exact c2 e; exact c5 e; exact c8 e; exact c11 e; exact c14 e; exact c17 e) | exact qB_t ((nm_sV b hb).mpr (.inl c2)) | exact qB_t ((nm_sV b hb).mpr (.inr (.inl c5))) | exact qB_t ((nm_sV b hb).mpr (.inr (.inr (.inl c8)))) | exact qB_t ((nm_sV b hb).mpr (.inr (.inr (.inr (.inl c11))))) | exact qB_t ((nm_sV b hb).mpr (.inr (.inr (.inr (.inr (.inl c14)))))) | exact qB_t ((nm_sV b hb).mpr (.inr (.inr (.inr (.inr (.inr (by first | exact c17 | exact Classical.byContradiction c17)))))))
  · refine px_iload_n (kk := 0) rfl rfl rfl ?_
    refine px_bipush (v := nI 119) rfl b_119 ?_
    refine px_icmp_eq rfl (fun c5 => ?_) (fun c5 => ?_)
    · refine px_iconst (v := nI 1) rfl k_1 ?_
      refine px_goto rfl ?_
      refine px_ireturn rfl (.inr ⟨rfl, by decide⟩) ?_
      first | exact qB_f (fun h => by rcases (nm_sV b hb).mp h with e | e | e | e | e | e; exact c2 e; exact c5 e; exact c8 e; exact c11 e; exact c14 e; exact c17 e) | exact qB_t ((nm_sV b hb).mpr (.inl c2)) | exact qB_t ((nm_sV b hb).mpr (.inr (.inl c5))) | exact qB_t ((nm_sV b hb).mpr (.inr (.inr (.inl c8)))) | exact qB_t ((nm_sV b hb).mpr (.inr (.inr (.inr (.inl c11))))) | exact qB_t ((nm_sV b hb).mpr (.inr (.inr (.inr (.inr (.inl c14)))))) | exact qB_t ((nm_sV b hb).mpr (.inr (.inr (.inr (.inr (.inr (by first | exact c17 | exact Classical.byContradiction c17)))))))
    · refine px_iload_n (kk := 0) rfl rfl rfl ?_
      refine px_bipush (v := nI 111) rfl b_111 ?_
      refine px_icmp_eq rfl (fun c8 => ?_) (fun c8 => ?_)
      · refine px_iconst (v := nI 1) rfl k_1 ?_
        refine px_goto rfl ?_
        refine px_ireturn rfl (.inr ⟨rfl, by decide⟩) ?_
        first | exact qB_f (fun h => by rcases (nm_sV b hb).mp h with e | e | e | e | e | e; exact c2 e; exact c5 e; exact c8 e; exact c11 e; exact c14 e; exact c17 e) | exact qB_t ((nm_sV b hb).mpr (.inl c2)) | exact qB_t ((nm_sV b hb).mpr (.inr (.inl c5))) | exact qB_t ((nm_sV b hb).mpr (.inr (.inr (.inl c8)))) | exact qB_t ((nm_sV b hb).mpr (.inr (.inr (.inr (.inl c11))))) | exact qB_t ((nm_sV b hb).mpr (.inr (.inr (.inr (.inr (.inl c14)))))) | exact qB_t ((nm_sV b hb).mpr (.inr (.inr (.inr (.inr (.inr (by first | exact c17 | exact Classical.byContradiction c17)))))))
      · refine px_iload_n (kk := 0) rfl rfl rfl ?_
        refine px_bipush (v := nI 104) rfl b_104 ?_
        refine px_icmp_eq rfl (fun c11 => ?_) (fun c11 => ?_)
        · refine px_iconst (v := nI 1) rfl k_1 ?_
          refine px_goto rfl ?_
          refine px_ireturn rfl (.inr ⟨rfl, by decide⟩) ?_
          first | exact qB_f (fun h => by rcases (nm_sV b hb).mp h with e | e | e | e | e | e; exact c2 e; exact c5 e; exact c8 e; exact c11 e; exact c14 e; exact c17 e) | exact qB_t ((nm_sV b hb).mpr (.inl c2)) | exact qB_t ((nm_sV b hb).mpr (.inr (.inl c5))) | exact qB_t ((nm_sV b hb).mpr (.inr (.inr (.inl c8)))) | exact qB_t ((nm_sV b hb).mpr (.inr (.inr (.inr (.inl c11))))) | exact qB_t ((nm_sV b hb).mpr (.inr (.inr (.inr (.inr (.inl c14)))))) | exact qB_t ((nm_sV b hb).mpr (.inr (.inr (.inr (.inr (.inr (by first | exact c17 | exact Classical.byContradiction c17)))))))
        · refine px_iload_n (kk := 0) rfl rfl rfl ?_
          refine px_bipush (v := nI 99) rfl b_99 ?_
          refine px_icmp_eq rfl (fun c14 => ?_) (fun c14 => ?_)
          · refine px_iconst (v := nI 1) rfl k_1 ?_
            refine px_goto rfl ?_
            refine px_ireturn rfl (.inr ⟨rfl, by decide⟩) ?_
            first | exact qB_f (fun h => by rcases (nm_sV b hb).mp h with e | e | e | e | e | e; exact c2 e; exact c5 e; exact c8 e; exact c11 e; exact c14 e; exact c17 e) | exact qB_t ((nm_sV b hb).mpr (.inl c2)) | exact qB_t ((nm_sV b hb).mpr (.inr (.inl c5))) | exact qB_t ((nm_sV b hb).mpr (.inr (.inr (.inl c8)))) | exact qB_t ((nm_sV b hb).mpr (.inr (.inr (.inr (.inl c11))))) | exact qB_t ((nm_sV b hb).mpr (.inr (.inr (.inr (.inr (.inl c14)))))) | exact qB_t ((nm_sV b hb).mpr (.inr (.inr (.inr (.inr (.inr (by first | exact c17 | exact Classical.byContradiction c17)))))))
          · refine px_iload_n (kk := 0) rfl rfl rfl ?_
            refine px_bipush (v := nI 112) rfl b_112 ?_
            refine px_icmp_ne rfl (fun c17 => ?_) (fun c17 => ?_)
            · refine px_iconst (v := nI 0) rfl k_0 ?_
              refine px_ireturn rfl (.inr ⟨rfl, by decide⟩) ?_
              first | exact qB_f (fun h => by rcases (nm_sV b hb).mp h with e | e | e | e | e | e; exact c2 e; exact c5 e; exact c8 e; exact c11 e; exact c14 e; exact c17 e) | exact qB_t ((nm_sV b hb).mpr (.inl c2)) | exact qB_t ((nm_sV b hb).mpr (.inr (.inl c5))) | exact qB_t ((nm_sV b hb).mpr (.inr (.inr (.inl c8)))) | exact qB_t ((nm_sV b hb).mpr (.inr (.inr (.inr (.inl c11))))) | exact qB_t ((nm_sV b hb).mpr (.inr (.inr (.inr (.inr (.inl c14)))))) | exact qB_t ((nm_sV b hb).mpr (.inr (.inr (.inr (.inr (.inr (by first | exact c17 | exact Classical.byContradiction c17)))))))
            · refine px_iconst (v := nI 1) rfl k_1 ?_
              refine px_goto rfl ?_
              refine px_ireturn rfl (.inr ⟨rfl, by decide⟩) ?_
              first | exact qB_f (fun h => by rcases (nm_sV b hb).mp h with e | e | e | e | e | e; exact c2 e; exact c5 e; exact c8 e; exact c11 e; exact c14 e; exact c17 e) | exact qB_t ((nm_sV b hb).mpr (.inl c2)) | exact qB_t ((nm_sV b hb).mpr (.inr (.inl c5))) | exact qB_t ((nm_sV b hb).mpr (.inr (.inr (.inl c8)))) | exact qB_t ((nm_sV b hb).mpr (.inr (.inr (.inr (.inl c11))))) | exact qB_t ((nm_sV b hb).mpr (.inr (.inr (.inr (.inr (.inl c14)))))) | exact qB_t ((nm_sV b hb).mpr (.inr (.inr (.inr (.inr (.inr (by first | exact c17 | exact Classical.byContradiction c17)))))))
theorem vX3_lvl_124 {I : Nat → Nat → Int32} {J : Nat → Nat → Int64} {p : Bool × Option Nat} {ro : List (Nat × Nat × (Nat → Int32))}  : Pv 0 0 0 CX3_levelOf [.int (nI 124)] (gS, I, J, gR p, ro) (qI (nI 0) (gS, I, J, gR p, ro)) := by
  refine ⟨okCX3_levelOf, Nat.le_of_ble_eq_true rfl, (show Px _ _ _ _ 0 [some (.int (nI 124))] [] _ _ from ?_)⟩
  refine px_iload_n (kk := 0) rfl rfl rfl ?_
  refine px_lookup rfl (.inl ⟨9, by decide, by decide, rfl⟩) ?_
  refine px_iconst (v := nI 0) rfl k_0 ?_
  refine px_ireturn rfl (.inl rfl) ?_
  exact ⟨rfl, rfl⟩
theorem vX3_lvl_38 {I : Nat → Nat → Int32} {J : Nat → Nat → Int64} {p : Bool × Option Nat} {ro : List (Nat × Nat × (Nat → Int32))}  : Pv 0 0 0 CX3_levelOf [.int (nI 38)] (gS, I, J, gR p, ro) (qI (nI 1) (gS, I, J, gR p, ro)) := by
  refine ⟨okCX3_levelOf, Nat.le_of_ble_eq_true rfl, (show Px _ _ _ _ 0 [some (.int (nI 38))] [] _ _ from ?_)⟩
  refine px_iload_n (kk := 0) rfl rfl rfl ?_
  refine px_lookup rfl (.inl ⟨1, by decide, by decide, rfl⟩) ?_
  refine px_iconst (v := nI 1) rfl k_1 ?_
  refine px_ireturn rfl (.inl rfl) ?_
  exact ⟨rfl, rfl⟩
theorem vX3_lvl_60 {I : Nat → Nat → Int32} {J : Nat → Nat → Int64} {p : Bool × Option Nat} {ro : List (Nat × Nat × (Nat → Int32))}  : Pv 0 0 0 CX3_levelOf [.int (nI 60)] (gS, I, J, gR p, ro) (qI (nI 2) (gS, I, J, gR p, ro)) := by
  refine ⟨okCX3_levelOf, Nat.le_of_ble_eq_true rfl, (show Px _ _ _ _ 0 [some (.int (nI 60))] [] _ _ from ?_)⟩
  refine px_iload_n (kk := 0) rfl rfl rfl ?_
  refine px_lookup rfl (.inl ⟨6, by decide, by decide, rfl⟩) ?_
  refine px_iconst (v := nI 2) rfl k_2 ?_
  refine px_ireturn rfl (.inl rfl) ?_
  exact ⟨rfl, rfl⟩
theorem vX3_lvl_61 {I : Nat → Nat → Int32} {J : Nat → Nat → Int64} {p : Bool × Option Nat} {ro : List (Nat × Nat × (Nat → Int32))}  : Pv 0 0 0 CX3_levelOf [.int (nI 61)] (gS, I, J, gR p, ro) (qI (nI 2) (gS, I, J, gR p, ro)) := by
  refine ⟨okCX3_levelOf, Nat.le_of_ble_eq_true rfl, (show Px _ _ _ _ 0 [some (.int (nI 61))] [] _ _ from ?_)⟩
  refine px_iload_n (kk := 0) rfl rfl rfl ?_
  refine px_lookup rfl (.inl ⟨7, by decide, by decide, rfl⟩) ?_
  refine px_iconst (v := nI 2) rfl k_2 ?_
  refine px_ireturn rfl (.inl rfl) ?_
  exact ⟨rfl, rfl⟩
theorem vX3_lvl_62 {I : Nat → Nat → Int32} {J : Nat → Nat → Int64} {p : Bool × Option Nat} {ro : List (Nat × Nat × (Nat → Int32))}  : Pv 0 0 0 CX3_levelOf [.int (nI 62)] (gS, I, J, gR p, ro) (qI (nI 2) (gS, I, J, gR p, ro)) := by
  refine ⟨okCX3_levelOf, Nat.le_of_ble_eq_true rfl, (show Px _ _ _ _ 0 [some (.int (nI 62))] [] _ _ from ?_)⟩
  refine px_iload_n (kk := 0) rfl rfl rfl ?_
  refine px_lookup rfl (.inl ⟨8, by decide, by decide, rfl⟩) ?_
  refine px_iconst (v := nI 2) rfl k_2 ?_
  refine px_ireturn rfl (.inl rfl) ?_
  exact ⟨rfl, rfl⟩
theorem vX3_lvl_43 {I : Nat → Nat → Int32} {J : Nat → Nat → Int64} {p : Bool × Option Nat} {ro : List (Nat × Nat × (Nat → Int32))}  : Pv 0 0 0 CX3_levelOf [.int (nI 43)] (gS, I, J, gR p, ro) (qI (nI 3) (gS, I, J, gR p, ro)) := by
  refine ⟨okCX3_levelOf, Nat.le_of_ble_eq_true rfl, (show Px _ _ _ _ 0 [some (.int (nI 43))] [] _ _ from ?_)⟩
  refine px_iload_n (kk := 0) rfl rfl rfl ?_
  refine px_lookup rfl (.inl ⟨3, by decide, by decide, rfl⟩) ?_
  refine px_iconst (v := nI 3) rfl k_3 ?_
  refine px_ireturn rfl (.inl rfl) ?_
  exact ⟨rfl, rfl⟩
theorem vX3_lvl_45 {I : Nat → Nat → Int32} {J : Nat → Nat → Int64} {p : Bool × Option Nat} {ro : List (Nat × Nat × (Nat → Int32))}  : Pv 0 0 0 CX3_levelOf [.int (nI 45)] (gS, I, J, gR p, ro) (qI (nI 3) (gS, I, J, gR p, ro)) := by
  refine ⟨okCX3_levelOf, Nat.le_of_ble_eq_true rfl, (show Px _ _ _ _ 0 [some (.int (nI 45))] [] _ _ from ?_)⟩
  refine px_iload_n (kk := 0) rfl rfl rfl ?_
  refine px_lookup rfl (.inl ⟨4, by decide, by decide, rfl⟩) ?_
  refine px_iconst (v := nI 3) rfl k_3 ?_
  refine px_ireturn rfl (.inl rfl) ?_
  exact ⟨rfl, rfl⟩
theorem vX3_lvl_42 {I : Nat → Nat → Int32} {J : Nat → Nat → Int64} {p : Bool × Option Nat} {ro : List (Nat × Nat × (Nat → Int32))}  : Pv 0 0 0 CX3_levelOf [.int (nI 42)] (gS, I, J, gR p, ro) (qI (nI 4) (gS, I, J, gR p, ro)) := by
  refine ⟨okCX3_levelOf, Nat.le_of_ble_eq_true rfl, (show Px _ _ _ _ 0 [some (.int (nI 42))] [] _ _ from ?_)⟩
  refine px_iload_n (kk := 0) rfl rfl rfl ?_
  refine px_lookup rfl (.inl ⟨2, by decide, by decide, rfl⟩) ?_
  refine px_iconst (v := nI 4) rfl k_4 ?_
  refine px_ireturn rfl (.inl rfl) ?_
  exact ⟨rfl, rfl⟩
theorem vX3_lvl_47 {I : Nat → Nat → Int32} {J : Nat → Nat → Int64} {p : Bool × Option Nat} {ro : List (Nat × Nat × (Nat → Int32))}  : Pv 0 0 0 CX3_levelOf [.int (nI 47)] (gS, I, J, gR p, ro) (qI (nI 4) (gS, I, J, gR p, ro)) := by
  refine ⟨okCX3_levelOf, Nat.le_of_ble_eq_true rfl, (show Px _ _ _ _ 0 [some (.int (nI 47))] [] _ _ from ?_)⟩
  refine px_iload_n (kk := 0) rfl rfl rfl ?_
  refine px_lookup rfl (.inl ⟨5, by decide, by decide, rfl⟩) ?_
  refine px_iconst (v := nI 4) rfl k_4 ?_
  refine px_ireturn rfl (.inl rfl) ?_
  exact ⟨rfl, rfl⟩
theorem vX3_lvl_37 {I : Nat → Nat → Int32} {J : Nat → Nat → Int64} {p : Bool × Option Nat} {ro : List (Nat × Nat × (Nat → Int32))}  : Pv 0 0 0 CX3_levelOf [.int (nI 37)] (gS, I, J, gR p, ro) (qI (nI 4) (gS, I, J, gR p, ro)) := by
  refine ⟨okCX3_levelOf, Nat.le_of_ble_eq_true rfl, (show Px _ _ _ _ 0 [some (.int (nI 37))] [] _ _ from ?_)⟩
  refine px_iload_n (kk := 0) rfl rfl rfl ?_
  refine px_lookup rfl (.inl ⟨0, by decide, by decide, rfl⟩) ?_
  refine px_iconst (v := nI 4) rfl k_4 ?_
  refine px_ireturn rfl (.inl rfl) ?_
  exact ⟨rfl, rfl⟩
theorem vX3_lvl_o {I : Nat → Nat → Int32} {J : Nat → Nat → Int64} {p : Bool × Option Nat} {ro : List (Nat × Nat × (Nat → Int32))} {b : Nat} (hb : b < 257) (h9 : lvN b = 9) : Pv 0 0 0 CX3_levelOf [.int (sV b)] (gS, I, J, gR p, ro) (qI (-1) (gS, I, J, gR p, ro)) := by
  refine ⟨okCX3_levelOf, Nat.le_of_ble_eq_true rfl, (show Px _ _ _ _ 0 [some (.int (sV b))] [] _ _ from ?_)⟩
  refine px_iload_n (kk := 0) rfl rfl rfl ?_
  refine px_lookup rfl (.inr ⟨by revert h9; revert hb; revert b; decide +kernel, rfl⟩) ?_
  refine px_iconst (v := -1) rfl k_m1 ?_
  refine px_ireturn rfl (.inl rfl) ?_
  exact ⟨rfl, rfl⟩
theorem vX3_levelOf {I : Nat → Nat → Int32} {J : Nat → Nat → Int64} {p : Bool × Option Nat} {ro : List (Nat × Nat × (Nat → Int32))} {b : Nat} (hb : b < 257) : Pv 0 0 0 CX3_levelOf [.int (sV b)] (gS, I, J, gR p, ro) (qI (if lvN b = 9 then -1 else nI (lvN b)) (gS, I, J, gR p, ro)) := by
  by_cases h : lvN b = 9
  · rw [if_pos h]; exact vX3_lvl_o hb h
  · rw [if_neg h]
    rcases lv_ops b hb h with rfl | rfl | rfl | rfl | rfl | rfl | rfl | rfl | rfl | rfl
    · rw [show sV 124 = nI 124 from by decide +kernel, show lvN 124 = 0 from by decide +kernel]; exact vX3_lvl_124
    · rw [show sV 38 = nI 38 from by decide +kernel, show lvN 38 = 1 from by decide +kernel]; exact vX3_lvl_38
    · rw [show sV 60 = nI 60 from by decide +kernel, show lvN 60 = 2 from by decide +kernel]; exact vX3_lvl_60
    · rw [show sV 61 = nI 61 from by decide +kernel, show lvN 61 = 2 from by decide +kernel]; exact vX3_lvl_61
    · rw [show sV 62 = nI 62 from by decide +kernel, show lvN 62 = 2 from by decide +kernel]; exact vX3_lvl_62
    · rw [show sV 43 = nI 43 from by decide +kernel, show lvN 43 = 3 from by decide +kernel]; exact vX3_lvl_43
    · rw [show sV 45 = nI 45 from by decide +kernel, show lvN 45 = 3 from by decide +kernel]; exact vX3_lvl_45
    · rw [show sV 42 = nI 42 from by decide +kernel, show lvN 42 = 4 from by decide +kernel]; exact vX3_lvl_42
    · rw [show sV 47 = nI 47 from by decide +kernel, show lvN 47 = 4 from by decide +kernel]; exact vX3_lvl_47
    · rw [show sV 37 = nI 37 from by decide +kernel, show lvN 37 = 4 from by decide +kernel]; exact vX3_lvl_37
theorem lX3_dgs {I : Nat → Nat → Int32} {J : Nat → Nat → Int64} {p : Bool × Option Nat} {ro : List (Nat × Nat × (Nat → Int32))} {c : Nat → Nat} {T : Nat} (hT : TP c T) (hLT : LTc c T I) {a : Nat} (ha : a ≤ T) {l : List Int32} (hl : l.length < 256) {v n : Nat} (hn : n ≤ 4) {I1 : Nat → Nat → Int32} (hS : LSc p.1 I a l I1) : Px 1 0 0 CX3_readNumber 4 [some (.ref (6)), some (.int (nI v)), some (.int (nI n))] [] (gS, I1, J, gR p, ro) (fun r S' => r = none ∧ ∃ I', S' = (gS, I', J, gR p, ro) ∧ LSc p.1 I (sp_dgs c (4 - n) a v).1 (l ++ [nI (sp_dgs c (4 - n) a v).2]) I') := by
  refine px_iload_n (kk := 2) rfl rfl rfl ?_
  refine px_iconst (v := nI 4) rfl k_4 ?_
  refine px_icmp_ge rfl (fun c6 => ?_) (fun c6 => ?_)
  · refine px_aload_n (kk := 0) rfl rfl rfl ?_
    refine px_iload_n (kk := 1) rfl rfl rfl ?_
    refine px_callV0 CX3_write [] [.int _] (vX3_wr hS hl) rfl gS_6 (by decide) rfl rfl rfl (Nat.le_of_ble_eq_true rfl) (by decide) ?_
    rintro _ _ - ⟨rfl, I2, rfl, hS2⟩
    refine px_return rfl rfl ?_
    rw [n_le (by omega) (by omega)] at c6
    obtain rfl : n = 4 := by omega
    exact ⟨rfl, I2, rfl, hS2⟩
  · rw [n_le (by omega) (by omega)] at c6
    refine px_aload_n (kk := 0) rfl rfl rfl ?_
    refine px_callV0 CX3_sign [] [] (vX3_sg hT hLT ha hS.1) rfl gS_6 (by decide) rfl rfl rfl (Nat.le_of_ble_eq_true rfl) (by decide) ?_
    rintro _ _ - ⟨rfl, rfl⟩
    refine px_callS0 CX3_isDigit [] [.int _] (vX3_isDigit (TP_b hT a)) rfl rfl rfl (Nat.le_of_ble_eq_true rfl) (by decide) ?_
    rintro _ _ - (⟨hd, rfl, rfl⟩ | ⟨hd, rfl, rfl⟩)
    · refine px_if_eq rfl (fun h => absurd h (by decide)) (fun _ => ?_)
      refine px_iload_n (kk := 1) rfl rfl rfl ?_
      refine px_bipush (v := nI 10) rfl b_10 ?_
      refine px_imulN rfl ?_
      refine px_aload_n (kk := 0) rfl rfl rfl ?_
      refine px_callV0 CX3_sign [.int _] [] (vX3_sg hT hLT ha hS.1) rfl gS_6 (by decide) rfl rfl rfl (Nat.le_of_ble_eq_true rfl) (by decide) ?_
      rintro _ _ - ⟨rfl, rfl⟩
      have hdb := dg_b hd
      have haT : a < T := TP_lt hT (fun e => by omega)
      refine px_ieq (sV_n _ (TP_b hT a) (by omega)) ?_
      refine px_iaddN rfl ?_
      refine px_bipush (v := nI 48) rfl b_48 ?_
      refine px_isubN rfl (by omega) ?_
      refine px_ist1 rfl rfl (by decide) ?_
      refine px_aload_n (kk := 0) rfl rfl rfl ?_
      refine px_dup rfl rfl ?_
      refine px_getIe (v := nI a) rfl gS_6 rfl hS.1.2.2 ?_
      refine px_iconst (v := nI 1) rfl k_1 ?_
      refine px_iaddN rfl ?_
      refine px_putI rfl gS_6 rfl rfl ?_
      refine px_iinc2 (v := nI (n + 1)) rfl (n_inc n) rfl (by decide) ?_
      refine px_goto rfl ?_
      refine px_l1 (y := nI (v * 10 + (c a - 48))) (by congr 1; omega) ?_
      have hu : (sp_dgs c (4 - n) a v) = sp_dgs c (4 - (n + 1)) (a + 1) (v * 10 + (c a - 48)) := by
        conv => lhs; rw [show 4 - n = (4 - (n + 1)) + 1 by omega]; unfold sp_dgs
        rw [if_pos hd]
      rw [hu]
      exact lX3_dgs hT hLT (a := a + 1) (by omega) hl (n := n + 1) (by omega) (LSc_at hS (a + 1))
    · refine px_if_eq rfl (fun _ => ?_) (fun h => absurd h (by decide))
      refine px_aload_n (kk := 0) rfl rfl rfl ?_
      refine px_iload_n (kk := 1) rfl rfl rfl ?_
      refine px_callV0 CX3_write [] [.int _] (vX3_wr hS hl) rfl gS_6 (by decide) rfl rfl rfl (Nat.le_of_ble_eq_true rfl) (by decide) ?_
      rintro _ _ - ⟨rfl, I2, rfl, hS2⟩
      refine px_return rfl rfl ?_
      refine ⟨rfl, I2, rfl, ?_⟩
      have hu : (sp_dgs c (4 - n) a v) = (a, v) := by
        conv => lhs; rw [show 4 - n = (4 - (n + 1)) + 1 by omega]; unfold sp_dgs
        rw [if_neg hd]
      rw [hu]
      exact hS2
termination_by 4 - n
decreasing_by all_goals (have h := ‹¬ nI 4 ≤ nI n›; rw [n_le (by omega) (by omega)] at h; omega)
theorem vX3_readNumber {I : Nat → Nat → Int32} {J : Nat → Nat → Int64} {p : Bool × Option Nat} {ro : List (Nat × Nat × (Nat → Int32))} {c : Nat → Nat} {T : Nat} (hT : TP c T) (hLT : LTc c T I) {a : Nat} (ha : a ≤ T) {l : List Int32} (hl : l.length < 256) {I1 : Nat → Nat → Int32} (hS : LSc p.1 I a l I1) : Pv 1 0 0 CX3_readNumber [.ref (6)] (gS, I1, J, gR p, ro) (fun r S' => r = none ∧ ∃ I', S' = (gS, I', J, gR p, ro) ∧ LSc p.1 I (sp_dgs c 4 a 0).1 (l ++ [nI (sp_dgs c 4 a 0).2]) I') := by
  refine ⟨okCX3_readNumber, Nat.le_of_ble_eq_true rfl, (show Px _ _ _ _ 0 [some (.ref (6)), none, none] [] _ _ from ?_)⟩
  refine px_iconst (v := nI 0) rfl k_0 ?_
  refine px_ist1 rfl rfl (by decide) ?_
  refine px_iconst (v := nI 0) rfl k_0 ?_
  refine px_ist2 rfl rfl (by decide) ?_
  exact lX3_dgs hT hLT ha hl (v := 0) (n := 0) (by omega) hS
theorem px_lk {d mc ms : Nat} {cd : pm_C} {i : Nat} {ls : List (Option Value)} {st : List Value} {S : pm_M} {Q Q' : Option Value → pm_M → Prop} (e : Q' = Q) (h : Px d mc ms cd i ls st S Q') : Px d mc ms cd i ls st S Q := e ▸ h
theorem lX3_lp {I : Nat → Nat → Int32} {J : Nat → Nat → Int64} {p : Bool × Option Nat} {ro : List (Nat × Nat × (Nat → Int32))} {c : Nat → Nat} {T : Nat} (hT : TP c T) (hLT : LTc c T I) {op : Nat → PR0} {o : Nat} (hG : ∀ a, a ≤ T → PGr (op a) a T) {k D : Nat} (hk : k ≤ 4) (hLv : (∀ (a : Nat) (l : List Int32) (I1 : Nat → Nat → Int32), a ≤ T → LSc p.1 I a l I1 → l.length + 2 * (T - a) ≤ 250 → Pv (D) 0 0 CX3_readLevel [.ref 6, .int (nI (5 - k)), .int (nI o)] (gS, I1, J, gR p, ro) (POc p I J ro (sp_lv c op k a) l))) {n a : Nat} {l : List Int32} {t : List Tk} (ha : a ≤ T) (hn : T - a < n) {I1 : Nat → Nat → Int32} (hS : LSc p.1 I a (l ++ t.map cT) I1) (hb : (l ++ t.map cT).length + 2 * (T - a) ≤ 250) {o3 : Option Value} : Px (D + 1) 0 0 CX3_readLevel 16 [some (.ref (6)), some (.int (nI (4 - k))), some (.int (nI o)), o3] [] (gS, I1, J, gR p, ro) (POc p I J ro (sp_lp c (4 - k) (sp_lv c op k) n a t) l) := by
  refine px_aload_n (kk := 0) rfl rfl rfl ?_
  refine px_getIe (v := nI a) rfl gS_6 rfl hS.1.2.2 ?_
  refine px_aload_n (kk := 0) rfl rfl rfl ?_
  refine px_getIe (v := nI T) rfl gS_6 rfl ((hS.1.2.1 5 (by decide) (by decide)).trans hLT.1) ?_
  refine px_icmp_ge rfl (fun c20 => ?_) (fun c20 => ?_)
  · refine px_iconst (v := nI 1) rfl k_1 ?_
    refine px_ireturn rfl (.inr ⟨rfl, by decide⟩) ?_
    have hTT := hT.1
    rw [n_le (by omega) (by omega)] at c20
    have e9 : c a = 256 := hT.2.2 a (by omega)
    refine .inl ⟨a, t, I1, ?_, rfl, rfl, hS⟩
    obtain ⟨n, rfl⟩ : ∃ m, n = m + 1 := ⟨n - 1, by omega⟩
    unfold sp_lp
    rw [if_neg (by rw [e9, lvN_9]; omega)]
  · have hTT := hT.1
    rw [n_le (by omega) (by omega)] at c20
    refine px_aload_n (kk := 0) rfl rfl rfl ?_
    refine px_callV0 CX3_sign [] [] (pv_mono (Nat.zero_le _) (vX3_sg hT hLT ha hS.1)) rfl gS_6 (by decide) rfl rfl rfl (Nat.le_of_ble_eq_true rfl) (Nat.le_refl _) ?_
    rintro _ _ - ⟨rfl, rfl⟩
    refine px_callS0 CX3_levelOf [] [.int _] (pv_mono (Nat.zero_le _) (vX3_levelOf (TP_b hT a))) rfl rfl rfl (Nat.le_of_ble_eq_true rfl) (Nat.le_refl _) ?_
    rintro _ _ - ⟨rfl, rfl⟩
    refine px_iload_n (kk := 1) rfl rfl rfl ?_
    refine px_icmp_ne rfl (fun c25 => ?_) (fun c25 => ?_)
    · refine px_iconst (v := nI 1) rfl k_1 ?_
      refine px_ireturn rfl (.inr ⟨rfl, by decide⟩) ?_
      refine .inl ⟨a, t, I1, ?_, rfl, rfl, hS⟩
      obtain ⟨n, rfl⟩ : ∃ m, n = m + 1 := ⟨n - 1, by omega⟩
      unfold sp_lp
      rw [if_neg (fun z => c25 ((lv_is (TP_b hT a) (by omega)).mpr z))]
    · have hlev : lvN (c a) = 4 - k := (lv_is (TP_b hT a) (by omega)).mp (by first | exact c25 | exact Classical.byContradiction c25)
      refine px_aload_n (kk := 0) rfl rfl rfl ?_
      refine px_callV0 CX3_sign [] [] (pv_mono (Nat.zero_le _) (vX3_sg hT hLT ha hS.1)) rfl gS_6 (by decide) rfl rfl rfl (Nat.le_of_ble_eq_true rfl) (Nat.le_refl _) ?_
      rintro _ _ - ⟨rfl, rfl⟩
      refine px_ist3 rfl rfl (by decide) ?_
      refine px_aload_n (kk := 0) rfl rfl rfl ?_
      refine px_dup rfl rfl ?_
      refine px_getIe (v := nI a) rfl gS_6 rfl hS.1.2.2 ?_
      refine px_iconst (v := nI 1) rfl k_1 ?_
      refine px_iaddN rfl ?_
      refine px_putI rfl gS_6 rfl rfl ?_
      refine px_aload_n (kk := 0) rfl rfl rfl ?_
      refine px_iload_n (kk := 1) rfl rfl rfl ?_
      refine px_iconst (v := nI 1) rfl k_1 ?_
      refine px_iaddN rfl ?_
      refine px_ieq (y := nI (5 - k)) (by congr 1; omega) ?_
      refine px_iload_n (kk := 2) rfl rfl rfl ?_
      refine px_callV0 CX3_readLevel [] [.int _, .int _] (hLv (a + 1) (l ++ t.map cT) _ (by omega) (LSc_at hS (a + 1)) (by omega)) rfl gS_6 (by decide) rfl rfl rfl (Nat.le_of_ble_eq_true rfl) (Nat.le_refl _) ?_
      rintro _ _ - (⟨q, u, I3, hR3, rfl, rfl, hS3⟩ | ⟨q, I3, hR3, rfl, rfl, hF3⟩)
      · have hg3 := (sp_lv_g hT hG k (by omega) (a + 1) (by omega)).1 q u hR3
        have hlu : ((l ++ t.map cT) ++ u.map cT).length = (l ++ t.map cT).length + u.length := by rw [List.length_append, List.length_map]
        refine px_if_ne rfl (fun _ => ?_) (fun h => absurd h (by decide))
        obtain ⟨n, rfl⟩ : ∃ m, n = m + 1 := ⟨n - 1, by omega⟩
        refine px_aload_n (kk := 0) rfl rfl rfl ?_
        refine px_iload_n (kk := 3) rfl rfl rfl ?_
        refine px_ineg rfl ?_
        refine px_callV0 CX3_write [] [.int _] (pv_mono (Nat.zero_le _) (vX3_wr hS3 (by omega))) rfl gS_6 (by decide) rfl rfl rfl (Nat.le_of_ble_eq_true rfl) (Nat.le_refl _) ?_
        rintro _ _ - ⟨rfl, I4, rfl, hS4⟩
        rw [bn_cT _ (TP_b hT a) (by omega)] at hS4
        have hlst : (l ++ t.map cT) ++ u.map cT ++ [cT (3, bnN (c a))] = l ++ (t ++ u ++ [(3, bnN (c a))]).map cT := by simp only [List.map_append, List.map_cons, List.map_nil, List.append_assoc]
        have hlen : (l ++ (t ++ u ++ [(3, bnN (c a))]).map cT).length = (l ++ t.map cT).length + u.length + 1 := by rw [← hlst, List.length_append, hlu]; rfl
        refine px_iload_n (kk := 1) rfl rfl rfl ?_
        refine px_iconst (v := nI 2) rfl k_2 ?_
        refine px_icmp_ne rfl (fun c50 => ?_) (fun c50 => ?_)
        · refine px_goto rfl ?_
          rw [ne_eq, n_eq (by omega) (by omega)] at c50
          have hu : sp_lp c (4 - k) (sp_lv c op k) (n + 1) a t = sp_lp c (4 - k) (sp_lv c op k) n q (t ++ u ++ [(3, bnN (c a))]) := by
            conv => lhs; unfold sp_lp
            rw [if_pos hlev, hR3]
            simp only [if_neg c50]
          rw [hu]
          exact lX3_lp hT hLT hG hk hLv (n := n) (a := q) (l := l) (t := t ++ u ++ [(3, bnN (c a))]) hg3.2.1 (by omega) (by rw [hlst] at hS4; exact hS4) (by rw [hlen]; omega)
        · refine px_goto rfl ?_
          refine px_iconst (v := nI 1) rfl k_1 ?_
          refine px_ireturn rfl (.inr ⟨rfl, by decide⟩) ?_
          rw [n_eq (by omega) (by omega)] at c50
          refine .inl ⟨q, t ++ u ++ [(3, bnN (c a))], I4, ?_, rfl, rfl, by rw [hlst] at hS4; exact hS4⟩
          unfold sp_lp
          rw [if_pos hlev, hR3]
          simp only [if_pos c50]
      · refine px_if_ne rfl (fun h => absurd h (by decide)) (fun _ => ?_)
        refine px_iconst (v := nI 0) rfl k_0 ?_
        refine px_ireturn rfl (.inr ⟨rfl, by decide⟩) ?_
        refine .inr ⟨q, I3, ?_, rfl, rfl, hF3⟩
        obtain ⟨n, rfl⟩ : ∃ m, n = m + 1 := ⟨n - 1, by omega⟩
        unfold sp_lp
        rw [if_pos hlev, hR3]
termination_by n
decreasing_by all_goals omega
theorem lX3_lv {I : Nat → Nat → Int32} {J : Nat → Nat → Int64} {p : Bool × Option Nat} {ro : List (Nat × Nat × (Nat → Int32))} {c : Nat → Nat} {T : Nat} (hT : TP c T) (hLT : LTc c T I) {op : Nat → PR0} {o D : Nat} (hG : ∀ a, a ≤ T → PGr (op a) a T) (hOp : (∀ (a : Nat) (l : List Int32) (I1 : Nat → Nat → Int32), a ≤ T → LSc p.1 I a l I1 → l.length + 2 * (T - a) ≤ 250 → Pv D 0 0 CX3_readOperand [.ref 6, .int (nI o)] (gS, I1, J, gR p, ro) (POc p I J ro (op a) l))) : ∀ k, k ≤ 5 → ∀ (a : Nat) (l : List Int32) (I1 : Nat → Nat → Int32), a ≤ T → LSc p.1 I a l I1 → l.length + 2 * (T - a) ≤ 250 → Pv (D + 1 + k) 0 0 CX3_readLevel [.ref 6, .int (nI (5 - k)), .int (nI o)] (gS, I1, J, gR p, ro) (POc p I J ro (sp_lv c op k a) l)
  | 0, _, a, l, I1, ha, hS, hb => by
    refine ⟨okCX3_readLevel, Nat.le_of_ble_eq_true rfl, (show Px (D + 1) _ _ _ 0 [some (.ref (6)), some (.int (nI 5)), some (.int (nI o)), none] [] _ _ from ?_)⟩
    refine px_iload_n (kk := 1) rfl rfl rfl ?_
    refine px_iconst (v := nI 5) rfl k_5 ?_
    refine px_icmp_lt rfl (fun h => absurd h (by decide)) (fun _ => ?_)
    refine px_aload_n (kk := 0) rfl rfl rfl ?_
    refine px_iload_n (kk := 2) rfl rfl rfl ?_
    refine px_callV0 CX3_readOperand [] [.int _] (hOp a l I1 ha hS hb) rfl gS_6 (by decide) rfl rfl rfl (Nat.le_of_ble_eq_true rfl) (Nat.le_refl _) ?_
    rintro _ _ - (⟨q, u, I3, hR3, rfl, rfl, hS3⟩ | ⟨q, I3, hR3, rfl, rfl, hF3⟩)
    · refine px_ireturn rfl (.inr ⟨rfl, by decide⟩) ?_
      exact .inl ⟨q, u, I3, hR3, rfl, rfl, hS3⟩
    · refine px_ireturn rfl (.inr ⟨rfl, by decide⟩) ?_
      exact .inr ⟨q, I3, hR3, rfl, rfl, hF3⟩
  | k + 1, hk, a, l, I1, ha, hS, hb => by
    rw [show 5 - (k + 1) = 4 - k by omega]
    refine ⟨okCX3_readLevel, Nat.le_of_ble_eq_true rfl, (show Px (D + 1 + k + 1) _ _ _ 0 [some (.ref (6)), some (.int (nI (4 - k))), some (.int (nI o)), none] [] _ _ from ?_)⟩
    refine px_iload_n (kk := 1) rfl rfl rfl ?_
    refine px_iconst (v := nI 5) rfl k_5 ?_
    refine px_icmp_lt rfl (fun c2 => ?_) (fun h => absurd (by rw [n_lt (by omega) (by omega)]; omega) h)
    refine px_aload_n (kk := 0) rfl rfl rfl ?_
    refine px_iload_n (kk := 1) rfl rfl rfl ?_
    refine px_iconst (v := nI 1) rfl k_1 ?_
    refine px_iaddN rfl ?_
    refine px_ieq (y := nI (5 - k)) (by congr 1; omega) ?_
    refine px_iload_n (kk := 2) rfl rfl rfl ?_
    refine px_callV0 CX3_readLevel [] [.int _, .int _] (lX3_lv hT hLT hG hOp k (by omega) a l I1 ha hS hb) rfl gS_6 (by decide) rfl rfl rfl (Nat.le_of_ble_eq_true rfl) (Nat.le_refl _) ?_
    rintro _ _ - (⟨q, u, I3, hR3, rfl, rfl, hS3⟩ | ⟨q, I3, hR3, rfl, rfl, hF3⟩)
    · have hg3 := (sp_lv_g hT hG k (by omega) a ha).1 q u hR3
      refine px_if_ne rfl (fun _ => ?_) (fun h => absurd h (by decide))
      have hTT := hT.1
      have hu : sp_lv c op (k + 1) a = sp_lp c (4 - k) (sp_lv c op k) 121 q u := by
        conv => lhs; unfold sp_lv
        rw [hR3]
      rw [hu]
      exact lX3_lp hT hLT hG (k := k) (by omega) (lX3_lv hT hLT hG hOp k (by omega)) (n := 121) (a := q) (l := l) (t := u) hg3.2.1 (by omega) hS3 (by rw [List.length_append, List.length_map]; omega)
    · refine px_if_ne rfl (fun h => absurd h (by decide)) (fun _ => ?_)
      refine px_iconst (v := nI 0) rfl k_0 ?_
      refine px_ireturn rfl (.inr ⟨rfl, by decide⟩) ?_
      refine .inr ⟨q, I3, ?_, rfl, rfl, hF3⟩
      unfold sp_lv
      rw [hR3]
theorem vX3_inside {I : Nat → Nat → Int32} {J : Nat → Nat → Int64} {p : Bool × Option Nat} {ro : List (Nat × Nat × (Nat → Int32))} {c : Nat → Nat} {T : Nat} (hT : TP c T) (hLT : LTc c T I) {op : Nat → PR0} {o D : Nat} (hG : ∀ a, a ≤ T → PGr (op a) a T) (hOp : (∀ (a : Nat) (l : List Int32) (I1 : Nat → Nat → Int32), a ≤ T → LSc p.1 I a l I1 → l.length + 2 * (T - a) ≤ 250 → Pv D 0 0 CX3_readOperand [.ref 6, .int (nI o)] (gS, I1, J, gR p, ro) (POc p I J ro (op a) l))) {a : Nat} (ha : a ≤ T) {l : List Int32} {I1 : Nat → Nat → Int32} (hS : LSc p.1 I a l I1) (hb : l.length + 2 * (T - a) ≤ 250) : Pv (D + 7) 0 0 CX3_readInside [.ref (6), .int (nI o)] (gS, I1, J, gR p, ro) (POc p I J ro (match sp_lv c op 5 a with
      | (q, none) => ((q, none) : PR0)
      | (q, some t) => if c q = 41 then (q + 1, some t) else (q, none)) l) := by
  refine ⟨okCX3_readInside, Nat.le_of_ble_eq_true rfl, (show Px _ _ _ _ 0 [some (.ref (6)), some (.int (nI o))] [] _ _ from ?_)⟩
  refine px_aload_n (kk := 0) rfl rfl rfl ?_
  refine px_iconst (v := nI 0) rfl k_0 ?_
  refine px_iload_n (kk := 1) rfl rfl rfl ?_
  refine px_callV0 CX3_readLevel [] [.int _, .int _] (lX3_lv hT hLT hG hOp 5 (Nat.le_refl _) a l I1 ha hS hb) rfl gS_6 (by decide) rfl rfl rfl (Nat.le_of_ble_eq_true rfl) (Nat.le_refl _) ?_
  rintro _ _ - (⟨q, u, I3, hR3, rfl, rfl, hS3⟩ | ⟨q, I3, hR3, rfl, rfl, hF3⟩)
  · have hg3 := (sp_lv_g hT hG 5 (by omega) a ha).1 q u hR3
    rw [hR3]
    refine px_if_eq rfl (fun h => absurd h (by decide)) (fun _ => ?_)
    refine px_aload_n (kk := 0) rfl rfl rfl ?_
    refine px_callV0 CX3_sign [] [] (pv_mono (Nat.zero_le _) (vX3_sg hT hLT hg3.2.1 hS3.1)) rfl gS_6 (by decide) rfl rfl rfl (Nat.le_of_ble_eq_true rfl) (Nat.le_refl _) ?_
    rintro _ _ - ⟨rfl, rfl⟩
    refine px_bipush (v := nI 41) rfl b_41 ?_
    refine px_icmp_eq rfl (fun c8 => ?_) (fun c8 => ?_)
    · have e41 : c q = 41 := (sV_eq (TP_b hT q) (by decide)).mp (by first | exact c8 | exact Classical.byContradiction c8)
      refine px_aload_n (kk := 0) rfl rfl rfl ?_
      refine px_dup rfl rfl ?_
      refine px_getIe (v := nI q) rfl gS_6 rfl hS3.1.2.2 ?_
      refine px_iconst (v := nI 1) rfl k_1 ?_
      refine px_iaddN rfl ?_
      refine px_putI rfl gS_6 rfl rfl ?_
      refine px_iconst (v := nI 1) rfl k_1 ?_
      refine px_ireturn rfl (.inr ⟨rfl, by decide⟩) ?_
      exact .inl ⟨q + 1, u, _, by simp only [if_pos e41], rfl, rfl, LSc_at hS3 (q + 1)⟩
    · refine px_iconst (v := nI 0) rfl k_0 ?_
      refine px_ireturn rfl (.inr ⟨rfl, by decide⟩) ?_
      exact .inr ⟨q, I3, by simp only [if_neg (fun e => c8 ((sV_eq (TP_b hT q) (by decide)).mpr e))], rfl, rfl, hS3.1⟩
  · rw [hR3]
    refine px_if_eq rfl (fun _ => ?_) (fun h => absurd h (by decide))
    refine px_iconst (v := nI 0) rfl k_0 ?_
    refine px_ireturn rfl (.inr ⟨rfl, by decide⟩) ?_
    exact .inr ⟨q, I3, rfl, rfl, rfl, hF3⟩
theorem vX3_signed {I : Nat → Nat → Int32} {J : Nat → Nat → Int64} {p : Bool × Option Nat} {ro : List (Nat × Nat × (Nat → Int32))} {c : Nat → Nat} {T : Nat} (hT : TP c T) (hLT : LTc c T I) {b : Nat} (hbb : b = 33 ∨ b = 45) {op : Nat → PR0} {o D : Nat} (hG : ∀ a, a ≤ T → PGr (op a) a T) (hOp : (∀ (a : Nat) (l : List Int32) (I1 : Nat → Nat → Int32), a ≤ T → LSc p.1 I a l I1 → l.length + 2 * (T - a) ≤ 250 → Pv D 0 0 CX3_readOperand [.ref 6, .int (nI o)] (gS, I1, J, gR p, ro) (POc p I J ro (op a) l))) {a : Nat} (ha : a ≤ T) {l : List Int32} {I1 : Nat → Nat → Int32} (hS : LSc p.1 I a l I1) (hb : l.length + 2 * (T - a) ≤ 250) : Pv (D + 1) 0 0 CX3_readSigned [.ref (6), .int (nI b), .int (nI o)] (gS, I1, J, gR p, ro) (POc p I J ro (match op a with
      | (q, none) => ((q, none) : PR0)
      | (q, some t) => (q, some (t ++ [(2, if b = 33 then 0 else 1)]))) l) := by
  refine ⟨okCX3_readSigned, Nat.le_of_ble_eq_true rfl, (show Px _ _ _ _ 0 [some (.ref (6)), some (.int (nI b)), some (.int (nI o))] [] _ _ from ?_)⟩
  refine px_aload_n (kk := 0) rfl rfl rfl ?_
  refine px_iload_n (kk := 2) rfl rfl rfl ?_
  refine px_callV0 CX3_readOperand [] [.int _] (hOp a l I1 ha hS hb) rfl gS_6 (by decide) rfl rfl rfl (Nat.le_of_ble_eq_true rfl) (Nat.le_refl _) ?_
  rintro _ _ - (⟨q, u, I3, hR3, rfl, rfl, hS3⟩ | ⟨q, I3, hR3, rfl, rfl, hF3⟩)
  · have hg3 := (hG a ha).1 q u hR3
    rw [hR3]
    refine px_if_ne rfl (fun _ => ?_) (fun h => absurd h (by decide))
    refine px_aload_n (kk := 0) rfl rfl rfl ?_
    refine px_iload_n (kk := 1) rfl rfl rfl ?_
    refine px_bipush (v := nI 45) rfl b_45 ?_
    refine px_icmp_ne rfl (fun c9 => ?_) (fun c9 => ?_)
    · refine px_iload_n (kk := 1) rfl rfl rfl ?_
      refine px_ineg rfl ?_
      refine px_callV0 CX3_write [] [.int _] (pv_mono (Nat.zero_le _) (vX3_wr hS3 (by rw [List.length_append, List.length_map]; omega))) rfl gS_6 (by decide) rfl rfl rfl (Nat.le_of_ble_eq_true rfl) (Nat.le_refl _) ?_
      rintro _ _ - ⟨rfl, I4, rfl, hS4⟩
      refine px_iconst (v := nI 1) rfl k_1 ?_
      refine px_ireturn rfl (.inr ⟨rfl, by decide⟩) ?_
      refine .inl ⟨q, u ++ [(2, if b = 33 then 0 else 1)], I4, rfl, rfl, rfl, ?_⟩
      rw [List.map_append, ← List.append_assoc]
      have e : cT (2, if b = 33 then 0 else 1) = -(nI b) := by
        have hb33 : b = 33 := by rw [ne_eq, n_eq (by omega) (by omega)] at c9; omega
        subst hb33; decide +kernel
      rw [List.map_cons, List.map_nil, e]
      exact hS4
    · refine px_bipush (v := -126) rfl b_m126 ?_
      refine px_goto rfl ?_
      refine px_callV0 CX3_write [] [.int _] (pv_mono (Nat.zero_le _) (vX3_wr hS3 (by rw [List.length_append, List.length_map]; omega))) rfl gS_6 (by decide) rfl rfl rfl (Nat.le_of_ble_eq_true rfl) (Nat.le_refl _) ?_
      rintro _ _ - ⟨rfl, I4, rfl, hS4⟩
      refine px_iconst (v := nI 1) rfl k_1 ?_
      refine px_ireturn rfl (.inr ⟨rfl, by decide⟩) ?_
      refine .inl ⟨q, u ++ [(2, if b = 33 then 0 else 1)], I4, rfl, rfl, rfl, ?_⟩
      rw [List.map_append, ← List.append_assoc]
      have e : cT (2, if b = 33 then 0 else 1) = -126 := by
        have hb45 : b = 45 := by rw [n_eq (by omega) (by omega)] at c9; omega
        subst hb45; decide +kernel
      rw [List.map_cons, List.map_nil, e]
      exact hS4
  · rw [hR3]
    refine px_if_ne rfl (fun h => absurd h (by decide)) (fun _ => ?_)
    refine px_iconst (v := nI 0) rfl k_0 ?_
    refine px_ireturn rfl (.inr ⟨rfl, by decide⟩) ?_
    exact .inr ⟨q, I3, rfl, rfl, rfl, hF3⟩
theorem lX3_op {I : Nat → Nat → Int32} {J : Nat → Nat → Int64} {p : Bool × Option Nat} {ro : List (Nat × Nat × (Nat → Int32))} {c : Nat → Nat} {T : Nat} (hT : TP c T) (hLT : LTc c T I) : ∀ r o, o + r = 6 → ∀ (a : Nat) (l : List Int32) (I1 : Nat → Nat → Int32), a ≤ T → LSc p.1 I a l I1 → l.length + 2 * (T - a) ≤ 250 → Pv (8 * r + 2) 0 0 CX3_readOperand [.ref 6, .int (nI o)] (gS, I1, J, gR p, ro) (POc p I J ro (sp_op c r a) l)
  | 0, o, ho, a, l, I1, ha, hS, hb => by
    obtain rfl : o = 6 := by omega
    refine ⟨okCX3_readOperand, Nat.le_of_ble_eq_true rfl, (show Px (1 + 1) _ _ _ 0 [some (.ref (6)), some (.int (nI 6)), none] [] _ _ from ?_)⟩
    refine px_aload_n (kk := 0) rfl rfl rfl ?_
    refine px_callV0 CX3_sign [] [] (pv_mono (e := 1) (Nat.zero_le _) (vX3_sg hT hLT ha hS.1)) rfl gS_6 (by decide) rfl rfl rfl (Nat.le_of_ble_eq_true rfl) (Nat.le_refl _) ?_
    rintro _ _ - ⟨rfl, rfl⟩
    refine px_ist2 rfl rfl (by decide) ?_
    refine px_iload_n (kk := 2) rfl rfl rfl ?_
    refine px_callS0 CX3_isDigit [] [.int _] (pv_mono (e := 1) (Nat.zero_le _) (vX3_isDigit (TP_b hT a))) rfl rfl rfl (Nat.le_of_ble_eq_true rfl) (Nat.le_refl _) ?_
    rintro _ _ - (⟨hd, rfl, rfl⟩ | ⟨hd, rfl, rfl⟩)
    · refine px_if_eq rfl (fun h => absurd h (by decide)) (fun _ => ?_)
      refine px_aload_n (kk := 0) rfl rfl rfl ?_
      refine px_callV0 CX3_readNumber [] [] (pv_mono (e := 1) (by omega) (vX3_readNumber hT hLT ha (by omega) hS)) rfl gS_6 (by decide) rfl rfl rfl (Nat.le_of_ble_eq_true rfl) (Nat.le_refl _) ?_
      rintro _ _ - ⟨rfl, I3, rfl, hS3⟩
      refine px_iconst (v := nI 1) rfl k_1 ?_
      refine px_ireturn rfl (.inr ⟨rfl, by decide⟩) ?_
      first | exact .inl ⟨_, [(0, (sp_dgs c 4 a 0).2)], I3, by rw [sp_op, if_pos hd], rfl, rfl, hS3⟩ | exact .inl ⟨a + 1, [(1, nmN (c a))], _, by rw [sp_op, if_neg (fun e => hd e), if_pos hn], rfl, rfl, LSc_at hS3 (a + 1)⟩ | exact .inr ⟨a, I1, by rw [sp_op, if_neg (fun e => hd e), if_neg (fun e => hn e)], rfl, rfl, hS.1⟩
    · refine px_if_eq rfl (fun _ => ?_) (fun h => absurd h (by decide))
      refine px_iload_n (kk := 2) rfl rfl rfl ?_
      refine px_callS0 CX3_isName [] [.int _] (pv_mono (e := 1) (Nat.zero_le _) (vX3_isName (TP_b hT a))) rfl rfl rfl (Nat.le_of_ble_eq_true rfl) (Nat.le_refl _) ?_
      rintro _ _ - (⟨hn, rfl, rfl⟩ | ⟨hn, rfl, rfl⟩)
      · refine px_if_eq rfl (fun h => absurd h (by decide)) (fun _ => ?_)
        refine px_aload_n (kk := 0) rfl rfl rfl ?_
        refine px_iload_n (kk := 2) rfl rfl rfl ?_
        refine px_ineg rfl ?_
        refine px_callV0 CX3_write [] [.int _] (pv_mono (e := 1) (Nat.zero_le _) (vX3_wr hS (by omega))) rfl gS_6 (by decide) rfl rfl rfl (Nat.le_of_ble_eq_true rfl) (Nat.le_refl _) ?_
        rintro _ _ - ⟨rfl, I3, rfl, hS3⟩
        rw [nm_cT _ (TP_b hT a) hn] at hS3
        have haT : a < T := TP_lt hT (fun e => by rw [e, nmN_9] at hn; omega)
        refine px_aload_n (kk := 0) rfl rfl rfl ?_
        refine px_dup rfl rfl ?_
        refine px_getIe (v := nI a) rfl gS_6 rfl hS3.1.2.2 ?_
        refine px_iconst (v := nI 1) rfl k_1 ?_
        refine px_iaddN rfl ?_
        refine px_putI rfl gS_6 rfl rfl ?_
        refine px_iconst (v := nI 1) rfl k_1 ?_
        refine px_ireturn rfl (.inr ⟨rfl, by decide⟩) ?_
        first | exact .inl ⟨_, [(0, (sp_dgs c 4 a 0).2)], I3, by rw [sp_op, if_pos hd], rfl, rfl, hS3⟩ | exact .inl ⟨a + 1, [(1, nmN (c a))], _, by rw [sp_op, if_neg (fun e => hd e), if_pos hn], rfl, rfl, LSc_at hS3 (a + 1)⟩ | exact .inr ⟨a, I1, by rw [sp_op, if_neg (fun e => hd e), if_neg (fun e => hn e)], rfl, rfl, hS.1⟩
      · refine px_if_eq rfl (fun _ => ?_) (fun h => absurd h (by decide))
        refine px_iload_n (kk := 2) rfl rfl rfl ?_
        refine px_bipush (v := nI 40) rfl b_40 ?_
        refine px_icmp_eq rfl (fun c27 => ?_) (fun c27 => ?_)
        · refine px_iload_n (kk := 1) rfl rfl rfl ?_
          refine px_bipush (v := nI 6) rfl b_6 ?_
          refine px_icmp_lt rfl (fun h => absurd h (by decide)) (fun _ => ?_)
          refine px_iconst (v := nI 0) rfl k_0 ?_
          refine px_ireturn rfl (.inr ⟨rfl, by decide⟩) ?_
          first | exact .inl ⟨_, [(0, (sp_dgs c 4 a 0).2)], I3, by rw [sp_op, if_pos hd], rfl, rfl, hS3⟩ | exact .inl ⟨a + 1, [(1, nmN (c a))], _, by rw [sp_op, if_neg (fun e => hd e), if_pos hn], rfl, rfl, LSc_at hS3 (a + 1)⟩ | exact .inr ⟨a, I1, by rw [sp_op, if_neg (fun e => hd e), if_neg (fun e => hn e)], rfl, rfl, hS.1⟩
        · refine px_iload_n (kk := 2) rfl rfl rfl ?_
          refine px_bipush (v := nI 33) rfl b_33 ?_
          refine px_icmp_eq rfl (fun c30 => ?_) (fun c30 => ?_)
          · refine px_iload_n (kk := 1) rfl rfl rfl ?_
            refine px_bipush (v := nI 6) rfl b_6 ?_
            refine px_icmp_lt rfl (fun h => absurd h (by decide)) (fun _ => ?_)
            refine px_iconst (v := nI 0) rfl k_0 ?_
            refine px_ireturn rfl (.inr ⟨rfl, by decide⟩) ?_
            first | exact .inl ⟨_, [(0, (sp_dgs c 4 a 0).2)], I3, by rw [sp_op, if_pos hd], rfl, rfl, hS3⟩ | exact .inl ⟨a + 1, [(1, nmN (c a))], _, by rw [sp_op, if_neg (fun e => hd e), if_pos hn], rfl, rfl, LSc_at hS3 (a + 1)⟩ | exact .inr ⟨a, I1, by rw [sp_op, if_neg (fun e => hd e), if_neg (fun e => hn e)], rfl, rfl, hS.1⟩
          · refine px_iload_n (kk := 2) rfl rfl rfl ?_
            refine px_bipush (v := nI 45) rfl b_45 ?_
            refine px_icmp_ne rfl (fun c33 => ?_) (fun c33 => ?_)
            · refine px_iconst (v := nI 0) rfl k_0 ?_
              refine px_ireturn rfl (.inr ⟨rfl, by decide⟩) ?_
              first | exact .inl ⟨_, [(0, (sp_dgs c 4 a 0).2)], I3, by rw [sp_op, if_pos hd], rfl, rfl, hS3⟩ | exact .inl ⟨a + 1, [(1, nmN (c a))], _, by rw [sp_op, if_neg (fun e => hd e), if_pos hn], rfl, rfl, LSc_at hS3 (a + 1)⟩ | exact .inr ⟨a, I1, by rw [sp_op, if_neg (fun e => hd e), if_neg (fun e => hn e)], rfl, rfl, hS.1⟩
            · refine px_iload_n (kk := 1) rfl rfl rfl ?_
              refine px_bipush (v := nI 6) rfl b_6 ?_
              refine px_icmp_lt rfl (fun h => absurd h (by decide)) (fun _ => ?_)
              refine px_iconst (v := nI 0) rfl k_0 ?_
              refine px_ireturn rfl (.inr ⟨rfl, by decide⟩) ?_
              first | exact .inl ⟨_, [(0, (sp_dgs c 4 a 0).2)], I3, by rw [sp_op, if_pos hd], rfl, rfl, hS3⟩ | exact .inl ⟨a + 1, [(1, nmN (c a))], _, by rw [sp_op, if_neg (fun e => hd e), if_pos hn], rfl, rfl, LSc_at hS3 (a + 1)⟩ | exact .inr ⟨a, I1, by rw [sp_op, if_neg (fun e => hd e), if_neg (fun e => hn e)], rfl, rfl, hS.1⟩
  | r + 1, o, ho, a, l, I1, ha, hS, hb => by
    refine ⟨okCX3_readOperand, Nat.le_of_ble_eq_true rfl, (show Px (8 * r + 9 + 1) _ _ _ 0 [some (.ref (6)), some (.int (nI o)), none] [] _ _ from ?_)⟩
    refine px_aload_n (kk := 0) rfl rfl rfl ?_
    refine px_callV0 CX3_sign [] [] (pv_mono (e := 8 * r + 9) (Nat.zero_le _) (vX3_sg hT hLT ha hS.1)) rfl gS_6 (by decide) rfl rfl rfl (Nat.le_of_ble_eq_true rfl) (Nat.le_refl _) ?_
    rintro _ _ - ⟨rfl, rfl⟩
    refine px_ist2 rfl rfl (by decide) ?_
    refine px_iload_n (kk := 2) rfl rfl rfl ?_
    refine px_callS0 CX3_isDigit [] [.int _] (pv_mono (e := 8 * r + 9) (Nat.zero_le _) (vX3_isDigit (TP_b hT a))) rfl rfl rfl (Nat.le_of_ble_eq_true rfl) (Nat.le_refl _) ?_
    rintro _ _ - (⟨hd, rfl, rfl⟩ | ⟨hd, rfl, rfl⟩)
    · refine px_if_eq rfl (fun h => absurd h (by decide)) (fun _ => ?_)
      refine px_aload_n (kk := 0) rfl rfl rfl ?_
      refine px_callV0 CX3_readNumber [] [] (pv_mono (e := 8 * r + 9) (by omega) (vX3_readNumber hT hLT ha (by omega) hS)) rfl gS_6 (by decide) rfl rfl rfl (Nat.le_of_ble_eq_true rfl) (Nat.le_refl _) ?_
      rintro _ _ - ⟨rfl, I3, rfl, hS3⟩
      refine px_iconst (v := nI 1) rfl k_1 ?_
      refine px_ireturn rfl (.inr ⟨rfl, by decide⟩) ?_
      first | exact .inl ⟨_, [(0, (sp_dgs c 4 a 0).2)], I3, by rw [sp_op, if_pos hd], rfl, rfl, hS3⟩ | exact .inl ⟨a + 1, [(1, nmN (c a))], _, by rw [sp_op, if_neg (fun e => hd e), if_pos hn], rfl, rfl, LSc_at hS3 (a + 1)⟩ | exact .inl ⟨q, u, I3, by rw [sp_op, if_neg (fun e => hd e), if_neg (fun e => hn e), if_pos e40]; exact hR3, rfl, rfl, hS3⟩ | exact .inr ⟨q, I3, by rw [sp_op, if_neg (fun e => hd e), if_neg (fun e => hn e), if_pos e40]; exact hR3, rfl, rfl, hF3⟩ | exact .inl ⟨q, u, I3, by rw [sp_op, if_neg (fun e => hd e), if_neg (fun e => hn e), if_neg h40, if_pos hbb]; exact hR3, rfl, rfl, hS3⟩ | exact .inr ⟨q, I3, by rw [sp_op, if_neg (fun e => hd e), if_neg (fun e => hn e), if_neg h40, if_pos hbb]; exact hR3, rfl, rfl, hF3⟩ | exact .inr ⟨a, I1, by rw [sp_op, if_neg (fun e => hd e), if_neg (fun e => hn e), if_neg (fun e => c27 ((sV_eq (TP_b hT a) (by decide)).mpr e)), if_neg (fun e => e.elim (fun e => c30 ((sV_eq (TP_b hT a) (by decide)).mpr e)) (fun e => c33 ((sV_eq (TP_b hT a) (by decide)).mpr e)))], rfl, rfl, hS.1⟩ | exact .inr ⟨a, I1, by rw [sp_op, if_neg (fun e => hd e), if_neg (fun e => hn e)], rfl, rfl, hS.1⟩
    · refine px_if_eq rfl (fun _ => ?_) (fun h => absurd h (by decide))
      refine px_iload_n (kk := 2) rfl rfl rfl ?_
      refine px_callS0 CX3_isName [] [.int _] (pv_mono (e := 8 * r + 9) (Nat.zero_le _) (vX3_isName (TP_b hT a))) rfl rfl rfl (Nat.le_of_ble_eq_true rfl) (Nat.le_refl _) ?_
      rintro _ _ - (⟨hn, rfl, rfl⟩ | ⟨hn, rfl, rfl⟩)
      · refine px_if_eq rfl (fun h => absurd h (by decide)) (fun _ => ?_)
        refine px_aload_n (kk := 0) rfl rfl rfl ?_
        refine px_iload_n (kk := 2) rfl rfl rfl ?_
        refine px_ineg rfl ?_
        refine px_callV0 CX3_write [] [.int _] (pv_mono (e := 8 * r + 9) (Nat.zero_le _) (vX3_wr hS (by omega))) rfl gS_6 (by decide) rfl rfl rfl (Nat.le_of_ble_eq_true rfl) (Nat.le_refl _) ?_
        rintro _ _ - ⟨rfl, I3, rfl, hS3⟩
        rw [nm_cT _ (TP_b hT a) hn] at hS3
        have haT : a < T := TP_lt hT (fun e => by rw [e, nmN_9] at hn; omega)
        refine px_aload_n (kk := 0) rfl rfl rfl ?_
        refine px_dup rfl rfl ?_
        refine px_getIe (v := nI a) rfl gS_6 rfl hS3.1.2.2 ?_
        refine px_iconst (v := nI 1) rfl k_1 ?_
        refine px_iaddN rfl ?_
        refine px_putI rfl gS_6 rfl rfl ?_
        refine px_iconst (v := nI 1) rfl k_1 ?_
        refine px_ireturn rfl (.inr ⟨rfl, by decide⟩) ?_
        first | exact .inl ⟨_, [(0, (sp_dgs c 4 a 0).2)], I3, by rw [sp_op, if_pos hd], rfl, rfl, hS3⟩ | exact .inl ⟨a + 1, [(1, nmN (c a))], _, by rw [sp_op, if_neg (fun e => hd e), if_pos hn], rfl, rfl, LSc_at hS3 (a + 1)⟩ | exact .inl ⟨q, u, I3, by rw [sp_op, if_neg (fun e => hd e), if_neg (fun e => hn e), if_pos e40]; exact hR3, rfl, rfl, hS3⟩ | exact .inr ⟨q, I3, by rw [sp_op, if_neg (fun e => hd e), if_neg (fun e => hn e), if_pos e40]; exact hR3, rfl, rfl, hF3⟩ | exact .inl ⟨q, u, I3, by rw [sp_op, if_neg (fun e => hd e), if_neg (fun e => hn e), if_neg h40, if_pos hbb]; exact hR3, rfl, rfl, hS3⟩ | exact .inr ⟨q, I3, by rw [sp_op, if_neg (fun e => hd e), if_neg (fun e => hn e), if_neg h40, if_pos hbb]; exact hR3, rfl, rfl, hF3⟩ | exact .inr ⟨a, I1, by rw [sp_op, if_neg (fun e => hd e), if_neg (fun e => hn e), if_neg (fun e => c27 ((sV_eq (TP_b hT a) (by decide)).mpr e)), if_neg (fun e => e.elim (fun e => c30 ((sV_eq (TP_b hT a) (by decide)).mpr e)) (fun e => c33 ((sV_eq (TP_b hT a) (by decide)).mpr e)))], rfl, rfl, hS.1⟩ | exact .inr ⟨a, I1, by rw [sp_op, if_neg (fun e => hd e), if_neg (fun e => hn e)], rfl, rfl, hS.1⟩
      · refine px_if_eq rfl (fun _ => ?_) (fun h => absurd h (by decide))
        refine px_iload_n (kk := 2) rfl rfl rfl ?_
        refine px_bipush (v := nI 40) rfl b_40 ?_
        refine px_icmp_eq rfl (fun c27 => ?_) (fun c27 => ?_)
        · refine px_iload_n (kk := 1) rfl rfl rfl ?_
          refine px_bipush (v := nI 6) rfl b_6 ?_
          refine px_icmp_lt rfl (fun c36 => ?_) (fun h => absurd (by rw [n_lt (by omega) (by omega)]; omega) h)
          refine px_aload_n (kk := 0) rfl rfl rfl ?_
          refine px_dup rfl rfl ?_
          refine px_getIe (v := nI a) rfl gS_6 rfl hS.1.2.2 ?_
          refine px_iconst (v := nI 1) rfl k_1 ?_
          refine px_iaddN rfl ?_
          refine px_putI rfl gS_6 rfl rfl ?_
          refine px_iload_n (kk := 2) rfl rfl rfl ?_
          refine px_bipush (v := nI 40) rfl b_40 ?_
          refine px_icmp_ne rfl (fun c47 => ?_) (fun c47 => ?_)
          · have hbb : c a = 33 ∨ c a = 45 := by
              first
              | exact absurd c27 c47
              | exact .inl ((sV_eq (TP_b hT a) (by decide)).mp (by first | exact c30 | exact Classical.byContradiction c30))
              | exact .inr ((sV_eq (TP_b hT a) (by decide)).mp (by first | exact c33 | exact Classical.byContradiction c33))
            have h40 : ¬ c a = 40 := fun e => c47 ((sV_eq (TP_b hT a) (by decide)).mpr e)
            have haT : a < T := TP_lt hT (by omega)
            refine px_aload_n (kk := 0) rfl rfl rfl ?_
            refine px_iload_n (kk := 2) rfl rfl rfl ?_
            refine px_ieq (sV_n _ (TP_b hT a) (by omega)) ?_
            refine px_iload_n (kk := 1) rfl rfl rfl ?_
            refine px_iconst (v := nI 1) rfl k_1 ?_
            refine px_iaddN rfl ?_
            refine px_callV0 CX3_readSigned [] [.int _, .int _] (pv_mono (e := 8 * r + 9) (by omega) (vX3_signed (b := c a) hT hLT hbb (op := sp_op c r) (o := o + 1) (D := 8 * r + 2) (sp_op_g hT r) (fun a l I1 ha hS hb => lX3_op hT hLT r (o + 1) (by omega) a l I1 ha hS hb) (a := a + 1) (by omega) (LSc_at hS (a + 1)) (by omega))) rfl gS_6 (by decide) rfl rfl rfl (Nat.le_of_ble_eq_true rfl) (Nat.le_refl _) ?_
            rintro _ _ - (⟨q, u, I3, hR3, rfl, rfl, hS3⟩ | ⟨q, I3, hR3, rfl, rfl, hF3⟩)
            · refine px_ireturn rfl (.inr ⟨rfl, by decide⟩) ?_
              first | exact .inl ⟨_, [(0, (sp_dgs c 4 a 0).2)], I3, by rw [sp_op, if_pos hd], rfl, rfl, hS3⟩ | exact .inl ⟨a + 1, [(1, nmN (c a))], _, by rw [sp_op, if_neg (fun e => hd e), if_pos hn], rfl, rfl, LSc_at hS3 (a + 1)⟩ | exact .inl ⟨q, u, I3, by rw [sp_op, if_neg (fun e => hd e), if_neg (fun e => hn e), if_pos e40]; exact hR3, rfl, rfl, hS3⟩ | exact .inr ⟨q, I3, by rw [sp_op, if_neg (fun e => hd e), if_neg (fun e => hn e), if_pos e40]; exact hR3, rfl, rfl, hF3⟩ | exact .inl ⟨q, u, I3, by rw [sp_op, if_neg (fun e => hd e), if_neg (fun e => hn e), if_neg h40, if_pos hbb]; exact hR3, rfl, rfl, hS3⟩ | exact .inr ⟨q, I3, by rw [sp_op, if_neg (fun e => hd e), if_neg (fun e => hn e), if_neg h40, if_pos hbb]; exact hR3, rfl, rfl, hF3⟩ | exact .inr ⟨a, I1, by rw [sp_op, if_neg (fun e => hd e), if_neg (fun e => hn e), if_neg (fun e => c27 ((sV_eq (TP_b hT a) (by decide)).mpr e)), if_neg (fun e => e.elim (fun e => c30 ((sV_eq (TP_b hT a) (by decide)).mpr e)) (fun e => c33 ((sV_eq (TP_b hT a) (by decide)).mpr e)))], rfl, rfl, hS.1⟩ | exact .inr ⟨a, I1, by rw [sp_op, if_neg (fun e => hd e), if_neg (fun e => hn e)], rfl, rfl, hS.1⟩
            · refine px_ireturn rfl (.inr ⟨rfl, by decide⟩) ?_
              first | exact .inl ⟨_, [(0, (sp_dgs c 4 a 0).2)], I3, by rw [sp_op, if_pos hd], rfl, rfl, hS3⟩ | exact .inl ⟨a + 1, [(1, nmN (c a))], _, by rw [sp_op, if_neg (fun e => hd e), if_pos hn], rfl, rfl, LSc_at hS3 (a + 1)⟩ | exact .inl ⟨q, u, I3, by rw [sp_op, if_neg (fun e => hd e), if_neg (fun e => hn e), if_pos e40]; exact hR3, rfl, rfl, hS3⟩ | exact .inr ⟨q, I3, by rw [sp_op, if_neg (fun e => hd e), if_neg (fun e => hn e), if_pos e40]; exact hR3, rfl, rfl, hF3⟩ | exact .inl ⟨q, u, I3, by rw [sp_op, if_neg (fun e => hd e), if_neg (fun e => hn e), if_neg h40, if_pos hbb]; exact hR3, rfl, rfl, hS3⟩ | exact .inr ⟨q, I3, by rw [sp_op, if_neg (fun e => hd e), if_neg (fun e => hn e), if_neg h40, if_pos hbb]; exact hR3, rfl, rfl, hF3⟩ | exact .inr ⟨a, I1, by rw [sp_op, if_neg (fun e => hd e), if_neg (fun e => hn e), if_neg (fun e => c27 ((sV_eq (TP_b hT a) (by decide)).mpr e)), if_neg (fun e => e.elim (fun e => c30 ((sV_eq (TP_b hT a) (by decide)).mpr e)) (fun e => c33 ((sV_eq (TP_b hT a) (by decide)).mpr e)))], rfl, rfl, hS.1⟩ | exact .inr ⟨a, I1, by rw [sp_op, if_neg (fun e => hd e), if_neg (fun e => hn e)], rfl, rfl, hS.1⟩
          · have e40 : c a = 40 := ((sV_eq (TP_b hT a) (by decide)).mp (by first | exact c47 | exact Classical.byContradiction c47))
            have haT : a < T := TP_lt hT (by omega)
            refine px_aload_n (kk := 0) rfl rfl rfl ?_
            refine px_iload_n (kk := 1) rfl rfl rfl ?_
            refine px_iconst (v := nI 1) rfl k_1 ?_
            refine px_iaddN rfl ?_
            refine px_callV0 CX3_readInside [] [.int _] (pv_mono (e := 8 * r + 9) (by omega) (vX3_inside (op := sp_op c r) (o := o + 1) (D := 8 * r + 2) hT hLT (sp_op_g hT r) (fun a l I1 ha hS hb => lX3_op hT hLT r (o + 1) (by omega) a l I1 ha hS hb) (a := a + 1) (by omega) (LSc_at hS (a + 1)) (by omega))) rfl gS_6 (by decide) rfl rfl rfl (Nat.le_of_ble_eq_true rfl) (Nat.le_refl _) ?_
            rintro _ _ - (⟨q, u, I3, hR3, rfl, rfl, hS3⟩ | ⟨q, I3, hR3, rfl, rfl, hF3⟩)
            · refine px_goto rfl ?_
              refine px_ireturn rfl (.inr ⟨rfl, by decide⟩) ?_
              first | exact .inl ⟨_, [(0, (sp_dgs c 4 a 0).2)], I3, by rw [sp_op, if_pos hd], rfl, rfl, hS3⟩ | exact .inl ⟨a + 1, [(1, nmN (c a))], _, by rw [sp_op, if_neg (fun e => hd e), if_pos hn], rfl, rfl, LSc_at hS3 (a + 1)⟩ | exact .inl ⟨q, u, I3, by rw [sp_op, if_neg (fun e => hd e), if_neg (fun e => hn e), if_pos e40]; exact hR3, rfl, rfl, hS3⟩ | exact .inr ⟨q, I3, by rw [sp_op, if_neg (fun e => hd e), if_neg (fun e => hn e), if_pos e40]; exact hR3, rfl, rfl, hF3⟩ | exact .inl ⟨q, u, I3, by rw [sp_op, if_neg (fun e => hd e), if_neg (fun e => hn e), if_neg h40, if_pos hbb]; exact hR3, rfl, rfl, hS3⟩ | exact .inr ⟨q, I3, by rw [sp_op, if_neg (fun e => hd e), if_neg (fun e => hn e), if_neg h40, if_pos hbb]; exact hR3, rfl, rfl, hF3⟩ | exact .inr ⟨a, I1, by rw [sp_op, if_neg (fun e => hd e), if_neg (fun e => hn e), if_neg (fun e => c27 ((sV_eq (TP_b hT a) (by decide)).mpr e)), if_neg (fun e => e.elim (fun e => c30 ((sV_eq (TP_b hT a) (by decide)).mpr e)) (fun e => c33 ((sV_eq (TP_b hT a) (by decide)).mpr e)))], rfl, rfl, hS.1⟩ | exact .inr ⟨a, I1, by rw [sp_op, if_neg (fun e => hd e), if_neg (fun e => hn e)], rfl, rfl, hS.1⟩
            · refine px_goto rfl ?_
              refine px_ireturn rfl (.inr ⟨rfl, by decide⟩) ?_
              first | exact .inl ⟨_, [(0, (sp_dgs c 4 a 0).2)], I3, by rw [sp_op, if_pos hd], rfl, rfl, hS3⟩ | exact .inl ⟨a + 1, [(1, nmN (c a))], _, by rw [sp_op, if_neg (fun e => hd e), if_pos hn], rfl, rfl, LSc_at hS3 (a + 1)⟩ | exact .inl ⟨q, u, I3, by rw [sp_op, if_neg (fun e => hd e), if_neg (fun e => hn e), if_pos e40]; exact hR3, rfl, rfl, hS3⟩ | exact .inr ⟨q, I3, by rw [sp_op, if_neg (fun e => hd e), if_neg (fun e => hn e), if_pos e40]; exact hR3, rfl, rfl, hF3⟩ | exact .inl ⟨q, u, I3, by rw [sp_op, if_neg (fun e => hd e), if_neg (fun e => hn e), if_neg h40, if_pos hbb]; exact hR3, rfl, rfl, hS3⟩ | exact .inr ⟨q, I3, by rw [sp_op, if_neg (fun e => hd e), if_neg (fun e => hn e), if_neg h40, if_pos hbb]; exact hR3, rfl, rfl, hF3⟩ | exact .inr ⟨a, I1, by rw [sp_op, if_neg (fun e => hd e), if_neg (fun e => hn e), if_neg (fun e => c27 ((sV_eq (TP_b hT a) (by decide)).mpr e)), if_neg (fun e => e.elim (fun e => c30 ((sV_eq (TP_b hT a) (by decide)).mpr e)) (fun e => c33 ((sV_eq (TP_b hT a) (by decide)).mpr e)))], rfl, rfl, hS.1⟩ | exact .inr ⟨a, I1, by rw [sp_op, if_neg (fun e => hd e), if_neg (fun e => hn e)], rfl, rfl, hS.1⟩
        · refine px_iload_n (kk := 2) rfl rfl rfl ?_
          refine px_bipush (v := nI 33) rfl b_33 ?_
          refine px_icmp_eq rfl (fun c30 => ?_) (fun c30 => ?_)
          · refine px_iload_n (kk := 1) rfl rfl rfl ?_
            refine px_bipush (v := nI 6) rfl b_6 ?_
            refine px_icmp_lt rfl (fun c36 => ?_) (fun h => absurd (by rw [n_lt (by omega) (by omega)]; omega) h)
            refine px_aload_n (kk := 0) rfl rfl rfl ?_
            refine px_dup rfl rfl ?_
            refine px_getIe (v := nI a) rfl gS_6 rfl hS.1.2.2 ?_
            refine px_iconst (v := nI 1) rfl k_1 ?_
            refine px_iaddN rfl ?_
            refine px_putI rfl gS_6 rfl rfl ?_
            refine px_iload_n (kk := 2) rfl rfl rfl ?_
            refine px_bipush (v := nI 40) rfl b_40 ?_
            refine px_icmp_ne rfl (fun c47 => ?_) (fun c47 => ?_)
            · have hbb : c a = 33 ∨ c a = 45 := by
                first
                | exact absurd c27 c47
                | exact .inl ((sV_eq (TP_b hT a) (by decide)).mp (by first | exact c30 | exact Classical.byContradiction c30))
                | exact .inr ((sV_eq (TP_b hT a) (by decide)).mp (by first | exact c33 | exact Classical.byContradiction c33))
              have h40 : ¬ c a = 40 := fun e => c47 ((sV_eq (TP_b hT a) (by decide)).mpr e)
              have haT : a < T := TP_lt hT (by omega)
              refine px_aload_n (kk := 0) rfl rfl rfl ?_
              refine px_iload_n (kk := 2) rfl rfl rfl ?_
              refine px_ieq (sV_n _ (TP_b hT a) (by omega)) ?_
              refine px_iload_n (kk := 1) rfl rfl rfl ?_
              refine px_iconst (v := nI 1) rfl k_1 ?_
              refine px_iaddN rfl ?_
              refine px_callV0 CX3_readSigned [] [.int _, .int _] (pv_mono (e := 8 * r + 9) (by omega) (vX3_signed (b := c a) hT hLT hbb (op := sp_op c r) (o := o + 1) (D := 8 * r + 2) (sp_op_g hT r) (fun a l I1 ha hS hb => lX3_op hT hLT r (o + 1) (by omega) a l I1 ha hS hb) (a := a + 1) (by omega) (LSc_at hS (a + 1)) (by omega))) rfl gS_6 (by decide) rfl rfl rfl (Nat.le_of_ble_eq_true rfl) (Nat.le_refl _) ?_
              rintro _ _ - (⟨q, u, I3, hR3, rfl, rfl, hS3⟩ | ⟨q, I3, hR3, rfl, rfl, hF3⟩)
              · refine px_ireturn rfl (.inr ⟨rfl, by decide⟩) ?_
                first | exact .inl ⟨_, [(0, (sp_dgs c 4 a 0).2)], I3, by rw [sp_op, if_pos hd], rfl, rfl, hS3⟩ | exact .inl ⟨a + 1, [(1, nmN (c a))], _, by rw [sp_op, if_neg (fun e => hd e), if_pos hn], rfl, rfl, LSc_at hS3 (a + 1)⟩ | exact .inl ⟨q, u, I3, by rw [sp_op, if_neg (fun e => hd e), if_neg (fun e => hn e), if_pos e40]; exact hR3, rfl, rfl, hS3⟩ | exact .inr ⟨q, I3, by rw [sp_op, if_neg (fun e => hd e), if_neg (fun e => hn e), if_pos e40]; exact hR3, rfl, rfl, hF3⟩ | exact .inl ⟨q, u, I3, by rw [sp_op, if_neg (fun e => hd e), if_neg (fun e => hn e), if_neg h40, if_pos hbb]; exact hR3, rfl, rfl, hS3⟩ | exact .inr ⟨q, I3, by rw [sp_op, if_neg (fun e => hd e), if_neg (fun e => hn e), if_neg h40, if_pos hbb]; exact hR3, rfl, rfl, hF3⟩ | exact .inr ⟨a, I1, by rw [sp_op, if_neg (fun e => hd e), if_neg (fun e => hn e), if_neg (fun e => c27 ((sV_eq (TP_b hT a) (by decide)).mpr e)), if_neg (fun e => e.elim (fun e => c30 ((sV_eq (TP_b hT a) (by decide)).mpr e)) (fun e => c33 ((sV_eq (TP_b hT a) (by decide)).mpr e)))], rfl, rfl, hS.1⟩ | exact .inr ⟨a, I1, by rw [sp_op, if_neg (fun e => hd e), if_neg (fun e => hn e)], rfl, rfl, hS.1⟩
              · refine px_ireturn rfl (.inr ⟨rfl, by decide⟩) ?_
                first | exact .inl ⟨_, [(0, (sp_dgs c 4 a 0).2)], I3, by rw [sp_op, if_pos hd], rfl, rfl, hS3⟩ | exact .inl ⟨a + 1, [(1, nmN (c a))], _, by rw [sp_op, if_neg (fun e => hd e), if_pos hn], rfl, rfl, LSc_at hS3 (a + 1)⟩ | exact .inl ⟨q, u, I3, by rw [sp_op, if_neg (fun e => hd e), if_neg (fun e => hn e), if_pos e40]; exact hR3, rfl, rfl, hS3⟩ | exact .inr ⟨q, I3, by rw [sp_op, if_neg (fun e => hd e), if_neg (fun e => hn e), if_pos e40]; exact hR3, rfl, rfl, hF3⟩ | exact .inl ⟨q, u, I3, by rw [sp_op, if_neg (fun e => hd e), if_neg (fun e => hn e), if_neg h40, if_pos hbb]; exact hR3, rfl, rfl, hS3⟩ | exact .inr ⟨q, I3, by rw [sp_op, if_neg (fun e => hd e), if_neg (fun e => hn e), if_neg h40, if_pos hbb]; exact hR3, rfl, rfl, hF3⟩ | exact .inr ⟨a, I1, by rw [sp_op, if_neg (fun e => hd e), if_neg (fun e => hn e), if_neg (fun e => c27 ((sV_eq (TP_b hT a) (by decide)).mpr e)), if_neg (fun e => e.elim (fun e => c30 ((sV_eq (TP_b hT a) (by decide)).mpr e)) (fun e => c33 ((sV_eq (TP_b hT a) (by decide)).mpr e)))], rfl, rfl, hS.1⟩ | exact .inr ⟨a, I1, by rw [sp_op, if_neg (fun e => hd e), if_neg (fun e => hn e)], rfl, rfl, hS.1⟩
            · have e40 : c a = 40 := ((sV_eq (TP_b hT a) (by decide)).mp (by first | exact c47 | exact Classical.byContradiction c47))
              have haT : a < T := TP_lt hT (by omega)
              refine px_aload_n (kk := 0) rfl rfl rfl ?_
              refine px_iload_n (kk := 1) rfl rfl rfl ?_
              refine px_iconst (v := nI 1) rfl k_1 ?_
              refine px_iaddN rfl ?_
              refine px_callV0 CX3_readInside [] [.int _] (pv_mono (e := 8 * r + 9) (by omega) (vX3_inside (op := sp_op c r) (o := o + 1) (D := 8 * r + 2) hT hLT (sp_op_g hT r) (fun a l I1 ha hS hb => lX3_op hT hLT r (o + 1) (by omega) a l I1 ha hS hb) (a := a + 1) (by omega) (LSc_at hS (a + 1)) (by omega))) rfl gS_6 (by decide) rfl rfl rfl (Nat.le_of_ble_eq_true rfl) (Nat.le_refl _) ?_
              rintro _ _ - (⟨q, u, I3, hR3, rfl, rfl, hS3⟩ | ⟨q, I3, hR3, rfl, rfl, hF3⟩)
              · refine px_goto rfl ?_
                refine px_ireturn rfl (.inr ⟨rfl, by decide⟩) ?_
                first | exact .inl ⟨_, [(0, (sp_dgs c 4 a 0).2)], I3, by rw [sp_op, if_pos hd], rfl, rfl, hS3⟩ | exact .inl ⟨a + 1, [(1, nmN (c a))], _, by rw [sp_op, if_neg (fun e => hd e), if_pos hn], rfl, rfl, LSc_at hS3 (a + 1)⟩ | exact .inl ⟨q, u, I3, by rw [sp_op, if_neg (fun e => hd e), if_neg (fun e => hn e), if_pos e40]; exact hR3, rfl, rfl, hS3⟩ | exact .inr ⟨q, I3, by rw [sp_op, if_neg (fun e => hd e), if_neg (fun e => hn e), if_pos e40]; exact hR3, rfl, rfl, hF3⟩ | exact .inl ⟨q, u, I3, by rw [sp_op, if_neg (fun e => hd e), if_neg (fun e => hn e), if_neg h40, if_pos hbb]; exact hR3, rfl, rfl, hS3⟩ | exact .inr ⟨q, I3, by rw [sp_op, if_neg (fun e => hd e), if_neg (fun e => hn e), if_neg h40, if_pos hbb]; exact hR3, rfl, rfl, hF3⟩ | exact .inr ⟨a, I1, by rw [sp_op, if_neg (fun e => hd e), if_neg (fun e => hn e), if_neg (fun e => c27 ((sV_eq (TP_b hT a) (by decide)).mpr e)), if_neg (fun e => e.elim (fun e => c30 ((sV_eq (TP_b hT a) (by decide)).mpr e)) (fun e => c33 ((sV_eq (TP_b hT a) (by decide)).mpr e)))], rfl, rfl, hS.1⟩ | exact .inr ⟨a, I1, by rw [sp_op, if_neg (fun e => hd e), if_neg (fun e => hn e)], rfl, rfl, hS.1⟩
              · refine px_goto rfl ?_
                refine px_ireturn rfl (.inr ⟨rfl, by decide⟩) ?_
                first | exact .inl ⟨_, [(0, (sp_dgs c 4 a 0).2)], I3, by rw [sp_op, if_pos hd], rfl, rfl, hS3⟩ | exact .inl ⟨a + 1, [(1, nmN (c a))], _, by rw [sp_op, if_neg (fun e => hd e), if_pos hn], rfl, rfl, LSc_at hS3 (a + 1)⟩ | exact .inl ⟨q, u, I3, by rw [sp_op, if_neg (fun e => hd e), if_neg (fun e => hn e), if_pos e40]; exact hR3, rfl, rfl, hS3⟩ | exact .inr ⟨q, I3, by rw [sp_op, if_neg (fun e => hd e), if_neg (fun e => hn e), if_pos e40]; exact hR3, rfl, rfl, hF3⟩ | exact .inl ⟨q, u, I3, by rw [sp_op, if_neg (fun e => hd e), if_neg (fun e => hn e), if_neg h40, if_pos hbb]; exact hR3, rfl, rfl, hS3⟩ | exact .inr ⟨q, I3, by rw [sp_op, if_neg (fun e => hd e), if_neg (fun e => hn e), if_neg h40, if_pos hbb]; exact hR3, rfl, rfl, hF3⟩ | exact .inr ⟨a, I1, by rw [sp_op, if_neg (fun e => hd e), if_neg (fun e => hn e), if_neg (fun e => c27 ((sV_eq (TP_b hT a) (by decide)).mpr e)), if_neg (fun e => e.elim (fun e => c30 ((sV_eq (TP_b hT a) (by decide)).mpr e)) (fun e => c33 ((sV_eq (TP_b hT a) (by decide)).mpr e)))], rfl, rfl, hS.1⟩ | exact .inr ⟨a, I1, by rw [sp_op, if_neg (fun e => hd e), if_neg (fun e => hn e)], rfl, rfl, hS.1⟩
          · refine px_iload_n (kk := 2) rfl rfl rfl ?_
            refine px_bipush (v := nI 45) rfl b_45 ?_
            refine px_icmp_ne rfl (fun c33 => ?_) (fun c33 => ?_)
            · refine px_iconst (v := nI 0) rfl k_0 ?_
              refine px_ireturn rfl (.inr ⟨rfl, by decide⟩) ?_
              first | exact .inl ⟨_, [(0, (sp_dgs c 4 a 0).2)], I3, by rw [sp_op, if_pos hd], rfl, rfl, hS3⟩ | exact .inl ⟨a + 1, [(1, nmN (c a))], _, by rw [sp_op, if_neg (fun e => hd e), if_pos hn], rfl, rfl, LSc_at hS3 (a + 1)⟩ | exact .inl ⟨q, u, I3, by rw [sp_op, if_neg (fun e => hd e), if_neg (fun e => hn e), if_pos e40]; exact hR3, rfl, rfl, hS3⟩ | exact .inr ⟨q, I3, by rw [sp_op, if_neg (fun e => hd e), if_neg (fun e => hn e), if_pos e40]; exact hR3, rfl, rfl, hF3⟩ | exact .inl ⟨q, u, I3, by rw [sp_op, if_neg (fun e => hd e), if_neg (fun e => hn e), if_neg h40, if_pos hbb]; exact hR3, rfl, rfl, hS3⟩ | exact .inr ⟨q, I3, by rw [sp_op, if_neg (fun e => hd e), if_neg (fun e => hn e), if_neg h40, if_pos hbb]; exact hR3, rfl, rfl, hF3⟩ | exact .inr ⟨a, I1, by rw [sp_op, if_neg (fun e => hd e), if_neg (fun e => hn e), if_neg (fun e => c27 ((sV_eq (TP_b hT a) (by decide)).mpr e)), if_neg (fun e => e.elim (fun e => c30 ((sV_eq (TP_b hT a) (by decide)).mpr e)) (fun e => c33 ((sV_eq (TP_b hT a) (by decide)).mpr e)))], rfl, rfl, hS.1⟩ | exact .inr ⟨a, I1, by rw [sp_op, if_neg (fun e => hd e), if_neg (fun e => hn e)], rfl, rfl, hS.1⟩
            · refine px_iload_n (kk := 1) rfl rfl rfl ?_
              refine px_bipush (v := nI 6) rfl b_6 ?_
              refine px_icmp_lt rfl (fun c36 => ?_) (fun h => absurd (by rw [n_lt (by omega) (by omega)]; omega) h)
              refine px_aload_n (kk := 0) rfl rfl rfl ?_
              refine px_dup rfl rfl ?_
              refine px_getIe (v := nI a) rfl gS_6 rfl hS.1.2.2 ?_
              refine px_iconst (v := nI 1) rfl k_1 ?_
              refine px_iaddN rfl ?_
              refine px_putI rfl gS_6 rfl rfl ?_
              refine px_iload_n (kk := 2) rfl rfl rfl ?_
              refine px_bipush (v := nI 40) rfl b_40 ?_
              refine px_icmp_ne rfl (fun c47 => ?_) (fun c47 => ?_)
              · have hbb : c a = 33 ∨ c a = 45 := by
                  first
                  | exact absurd c27 c47
                  | exact .inl ((sV_eq (TP_b hT a) (by decide)).mp (by first | exact c30 | exact Classical.byContradiction c30))
                  | exact .inr ((sV_eq (TP_b hT a) (by decide)).mp (by first | exact c33 | exact Classical.byContradiction c33))
                have h40 : ¬ c a = 40 := fun e => c47 ((sV_eq (TP_b hT a) (by decide)).mpr e)
                have haT : a < T := TP_lt hT (by omega)
                refine px_aload_n (kk := 0) rfl rfl rfl ?_
                refine px_iload_n (kk := 2) rfl rfl rfl ?_
                refine px_ieq (sV_n _ (TP_b hT a) (by omega)) ?_
                refine px_iload_n (kk := 1) rfl rfl rfl ?_
                refine px_iconst (v := nI 1) rfl k_1 ?_
                refine px_iaddN rfl ?_
                refine px_callV0 CX3_readSigned [] [.int _, .int _] (pv_mono (e := 8 * r + 9) (by omega) (vX3_signed (b := c a) hT hLT hbb (op := sp_op c r) (o := o + 1) (D := 8 * r + 2) (sp_op_g hT r) (fun a l I1 ha hS hb => lX3_op hT hLT r (o + 1) (by omega) a l I1 ha hS hb) (a := a + 1) (by omega) (LSc_at hS (a + 1)) (by omega))) rfl gS_6 (by decide) rfl rfl rfl (Nat.le_of_ble_eq_true rfl) (Nat.le_refl _) ?_
                rintro _ _ - (⟨q, u, I3, hR3, rfl, rfl, hS3⟩ | ⟨q, I3, hR3, rfl, rfl, hF3⟩)
                · refine px_ireturn rfl (.inr ⟨rfl, by decide⟩) ?_
                  first | exact .inl ⟨_, [(0, (sp_dgs c 4 a 0).2)], I3, by rw [sp_op, if_pos hd], rfl, rfl, hS3⟩ | exact .inl ⟨a + 1, [(1, nmN (c a))], _, by rw [sp_op, if_neg (fun e => hd e), if_pos hn], rfl, rfl, LSc_at hS3 (a + 1)⟩ | exact .inl ⟨q, u, I3, by rw [sp_op, if_neg (fun e => hd e), if_neg (fun e => hn e), if_pos e40]; exact hR3, rfl, rfl, hS3⟩ | exact .inr ⟨q, I3, by rw [sp_op, if_neg (fun e => hd e), if_neg (fun e => hn e), if_pos e40]; exact hR3, rfl, rfl, hF3⟩ | exact .inl ⟨q, u, I3, by rw [sp_op, if_neg (fun e => hd e), if_neg (fun e => hn e), if_neg h40, if_pos hbb]; exact hR3, rfl, rfl, hS3⟩ | exact .inr ⟨q, I3, by rw [sp_op, if_neg (fun e => hd e), if_neg (fun e => hn e), if_neg h40, if_pos hbb]; exact hR3, rfl, rfl, hF3⟩ | exact .inr ⟨a, I1, by rw [sp_op, if_neg (fun e => hd e), if_neg (fun e => hn e), if_neg (fun e => c27 ((sV_eq (TP_b hT a) (by decide)).mpr e)), if_neg (fun e => e.elim (fun e => c30 ((sV_eq (TP_b hT a) (by decide)).mpr e)) (fun e => c33 ((sV_eq (TP_b hT a) (by decide)).mpr e)))], rfl, rfl, hS.1⟩ | exact .inr ⟨a, I1, by rw [sp_op, if_neg (fun e => hd e), if_neg (fun e => hn e)], rfl, rfl, hS.1⟩
                · refine px_ireturn rfl (.inr ⟨rfl, by decide⟩) ?_
                  first | exact .inl ⟨_, [(0, (sp_dgs c 4 a 0).2)], I3, by rw [sp_op, if_pos hd], rfl, rfl, hS3⟩ | exact .inl ⟨a + 1, [(1, nmN (c a))], _, by rw [sp_op, if_neg (fun e => hd e), if_pos hn], rfl, rfl, LSc_at hS3 (a + 1)⟩ | exact .inl ⟨q, u, I3, by rw [sp_op, if_neg (fun e => hd e), if_neg (fun e => hn e), if_pos e40]; exact hR3, rfl, rfl, hS3⟩ | exact .inr ⟨q, I3, by rw [sp_op, if_neg (fun e => hd e), if_neg (fun e => hn e), if_pos e40]; exact hR3, rfl, rfl, hF3⟩ | exact .inl ⟨q, u, I3, by rw [sp_op, if_neg (fun e => hd e), if_neg (fun e => hn e), if_neg h40, if_pos hbb]; exact hR3, rfl, rfl, hS3⟩ | exact .inr ⟨q, I3, by rw [sp_op, if_neg (fun e => hd e), if_neg (fun e => hn e), if_neg h40, if_pos hbb]; exact hR3, rfl, rfl, hF3⟩ | exact .inr ⟨a, I1, by rw [sp_op, if_neg (fun e => hd e), if_neg (fun e => hn e), if_neg (fun e => c27 ((sV_eq (TP_b hT a) (by decide)).mpr e)), if_neg (fun e => e.elim (fun e => c30 ((sV_eq (TP_b hT a) (by decide)).mpr e)) (fun e => c33 ((sV_eq (TP_b hT a) (by decide)).mpr e)))], rfl, rfl, hS.1⟩ | exact .inr ⟨a, I1, by rw [sp_op, if_neg (fun e => hd e), if_neg (fun e => hn e)], rfl, rfl, hS.1⟩
              · have e40 : c a = 40 := ((sV_eq (TP_b hT a) (by decide)).mp (by first | exact c47 | exact Classical.byContradiction c47))
                have haT : a < T := TP_lt hT (by omega)
                refine px_aload_n (kk := 0) rfl rfl rfl ?_
                refine px_iload_n (kk := 1) rfl rfl rfl ?_
                refine px_iconst (v := nI 1) rfl k_1 ?_
                refine px_iaddN rfl ?_
                refine px_callV0 CX3_readInside [] [.int _] (pv_mono (e := 8 * r + 9) (by omega) (vX3_inside (op := sp_op c r) (o := o + 1) (D := 8 * r + 2) hT hLT (sp_op_g hT r) (fun a l I1 ha hS hb => lX3_op hT hLT r (o + 1) (by omega) a l I1 ha hS hb) (a := a + 1) (by omega) (LSc_at hS (a + 1)) (by omega))) rfl gS_6 (by decide) rfl rfl rfl (Nat.le_of_ble_eq_true rfl) (Nat.le_refl _) ?_
                rintro _ _ - (⟨q, u, I3, hR3, rfl, rfl, hS3⟩ | ⟨q, I3, hR3, rfl, rfl, hF3⟩)
                · refine px_goto rfl ?_
                  refine px_ireturn rfl (.inr ⟨rfl, by decide⟩) ?_
                  first | exact .inl ⟨_, [(0, (sp_dgs c 4 a 0).2)], I3, by rw [sp_op, if_pos hd], rfl, rfl, hS3⟩ | exact .inl ⟨a + 1, [(1, nmN (c a))], _, by rw [sp_op, if_neg (fun e => hd e), if_pos hn], rfl, rfl, LSc_at hS3 (a + 1)⟩ | exact .inl ⟨q, u, I3, by rw [sp_op, if_neg (fun e => hd e), if_neg (fun e => hn e), if_pos e40]; exact hR3, rfl, rfl, hS3⟩ | exact .inr ⟨q, I3, by rw [sp_op, if_neg (fun e => hd e), if_neg (fun e => hn e), if_pos e40]; exact hR3, rfl, rfl, hF3⟩ | exact .inl ⟨q, u, I3, by rw [sp_op, if_neg (fun e => hd e), if_neg (fun e => hn e), if_neg h40, if_pos hbb]; exact hR3, rfl, rfl, hS3⟩ | exact .inr ⟨q, I3, by rw [sp_op, if_neg (fun e => hd e), if_neg (fun e => hn e), if_neg h40, if_pos hbb]; exact hR3, rfl, rfl, hF3⟩ | exact .inr ⟨a, I1, by rw [sp_op, if_neg (fun e => hd e), if_neg (fun e => hn e), if_neg (fun e => c27 ((sV_eq (TP_b hT a) (by decide)).mpr e)), if_neg (fun e => e.elim (fun e => c30 ((sV_eq (TP_b hT a) (by decide)).mpr e)) (fun e => c33 ((sV_eq (TP_b hT a) (by decide)).mpr e)))], rfl, rfl, hS.1⟩ | exact .inr ⟨a, I1, by rw [sp_op, if_neg (fun e => hd e), if_neg (fun e => hn e)], rfl, rfl, hS.1⟩
                · refine px_goto rfl ?_
                  refine px_ireturn rfl (.inr ⟨rfl, by decide⟩) ?_
                  first | exact .inl ⟨_, [(0, (sp_dgs c 4 a 0).2)], I3, by rw [sp_op, if_pos hd], rfl, rfl, hS3⟩ | exact .inl ⟨a + 1, [(1, nmN (c a))], _, by rw [sp_op, if_neg (fun e => hd e), if_pos hn], rfl, rfl, LSc_at hS3 (a + 1)⟩ | exact .inl ⟨q, u, I3, by rw [sp_op, if_neg (fun e => hd e), if_neg (fun e => hn e), if_pos e40]; exact hR3, rfl, rfl, hS3⟩ | exact .inr ⟨q, I3, by rw [sp_op, if_neg (fun e => hd e), if_neg (fun e => hn e), if_pos e40]; exact hR3, rfl, rfl, hF3⟩ | exact .inl ⟨q, u, I3, by rw [sp_op, if_neg (fun e => hd e), if_neg (fun e => hn e), if_neg h40, if_pos hbb]; exact hR3, rfl, rfl, hS3⟩ | exact .inr ⟨q, I3, by rw [sp_op, if_neg (fun e => hd e), if_neg (fun e => hn e), if_neg h40, if_pos hbb]; exact hR3, rfl, rfl, hF3⟩ | exact .inr ⟨a, I1, by rw [sp_op, if_neg (fun e => hd e), if_neg (fun e => hn e), if_neg (fun e => c27 ((sV_eq (TP_b hT a) (by decide)).mpr e)), if_neg (fun e => e.elim (fun e => c30 ((sV_eq (TP_b hT a) (by decide)).mpr e)) (fun e => c33 ((sV_eq (TP_b hT a) (by decide)).mpr e)))], rfl, rfl, hS.1⟩ | exact .inr ⟨a, I1, by rw [sp_op, if_neg (fun e => hd e), if_neg (fun e => hn e)], rfl, rfl, hS.1⟩
theorem vX3_E {I : Nat → Nat → Int32} {J : Nat → Nat → Int64} {p : Bool × Option Nat} {ro : List (Nat × Nat × (Nat → Int32))} {c : Nat → Nat} {T : Nat} (hT : TP c T) (hLT : LTc c T I)  {a : Nat} (ha : a ≤ T) {l : List Int32} {I1 : Nat → Nat → Int32} (hS : LSc p.1 I a l I1) (hb : l.length + 2 * (T - a) ≤ 250) : Pv 56 0 0 CX3_readLevel [.ref 6, .int (nI 0), .int (nI 0)] (gS, I1, J, gR p, ro) (POc p I J ro (sp_E c a) l) :=
  lX3_lv hT hLT (sp_op_g hT 6) (o := 0) (D := 50) (fun a l I1 ha hS hb => lX3_op hT hLT 6 0 (by decide) a l I1 ha hS hb) 5 (Nat.le_refl _) a l I1 ha hS hb
