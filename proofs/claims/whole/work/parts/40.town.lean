theorem vX9_isLine {I : Nat → Nat → Int32} {J : Nat → Nat → Int64} {p : Bool × Option Nat} {ro : List (Nat × Nat × (Nat → Int32))} {n : Nat} (hn : I 1 4 = nI n) (hn8 : n ≤ 8) {x : Int32} : Pv 0 0 0 CX9_isLine [.ref (1), .int (x)] (gS, I, J, gR p, ro) (qB (∃ a, a < n ∧ x = nI a) (gS, I, J, gR p, ro)) := by
  refine ⟨okCX9_isLine, Nat.le_of_ble_eq_true rfl, (show Px _ _ _ _ 0 [some (.ref (1)), some (.int (x))] [] _ _ from ?_)⟩
  refine px_iload_n (kk := 1) rfl rfl rfl ?_
  refine px_if_lt rfl (fun c1 => ?_) (fun c1 => ?_)
  · refine px_iconst (v := nI 0) rfl k_0 ?_
    refine px_ireturn rfl (.inr ⟨rfl, by decide⟩) ?_
    exact qB_f (fun ⟨a, ha, e⟩ => n_nneg (by omega) (e ▸ c1))
  · refine px_iload_n (kk := 1) rfl rfl rfl ?_
    refine px_aload_n (kk := 0) rfl rfl rfl ?_
    refine px_getIe rfl gS_1 rfl hn ?_
    refine px_icmp_ge rfl (fun c5 => ?_) (fun c5 => ?_)
    · refine px_iconst (v := nI 0) rfl k_0 ?_
      refine px_ireturn rfl (.inr ⟨rfl, by decide⟩) ?_
      exact qB_f (fun ⟨a, ha, e⟩ => by subst e; rw [n_le (by omega) (by omega)] at c5; omega)
    · refine px_iconst (v := nI 1) rfl k_1 ?_
      refine px_goto rfl ?_
      refine px_ireturn rfl (.inr ⟨rfl, by decide⟩) ?_
      obtain ⟨a, ha, rfl⟩ := n_ofn c1
      rw [n_le (by omega) ha] at c5
      exact qB_t ⟨a, by omega, rfl⟩
theorem vX9_areTwo {I : Nat → Nat → Int32} {J : Nat → Nat → Int64} {p : Bool × Option Nat} {ro : List (Nat × Nat × (Nat → Int32))} {n : Nat} (hn : I 1 4 = nI n) (hn8 : n ≤ 8) {x y : Int32} : Pv 1 0 0 CX9_areTwo [.ref (1), .int (x), .int (y)] (gS, I, J, gR p, ro) (qB (∃ a b, a < n ∧ b < n ∧ a ≠ b ∧ x = nI a ∧ y = nI b) (gS, I, J, gR p, ro)) := by
  refine ⟨okCX9_areTwo, Nat.le_of_ble_eq_true rfl, (show Px _ _ _ _ 0 [some (.ref (1)), some (.int (x)), some (.int (y))] [] _ _ from ?_)⟩
  refine px_aload_n (kk := 0) rfl rfl rfl ?_
  refine px_iload_n (kk := 1) rfl rfl rfl ?_
  refine px_callV0 CX9_isLine [] [.int _] (vX9_isLine hn hn8) rfl gS_1 (by decide) rfl rfl rfl (Nat.le_of_ble_eq_true rfl) (by decide) ?_
  rintro _ _ - (⟨⟨a, ha, rfl⟩, rfl, rfl⟩ | ⟨hf, rfl, rfl⟩)
  · refine px_if_eq rfl (fun h => absurd h (by decide)) (fun _ => ?_)
    refine px_aload_n (kk := 0) rfl rfl rfl ?_
    refine px_iload_n (kk := 2) rfl rfl rfl ?_
    refine px_callV0 CX9_isLine [] [.int _] (vX9_isLine hn hn8) rfl gS_1 (by decide) rfl rfl rfl (Nat.le_of_ble_eq_true rfl) (by decide) ?_
    rintro _ _ - (⟨⟨b, hb, rfl⟩, rfl, rfl⟩ | ⟨hf, rfl, rfl⟩)
    · refine px_if_eq rfl (fun h => absurd h (by decide)) (fun _ => ?_)
      refine px_iload_n (kk := 1) rfl rfl rfl ?_
      refine px_iload_n (kk := 2) rfl rfl rfl ?_
      refine px_icmp_eq rfl (fun c10 => ?_) (fun c10 => ?_)
      · refine px_iconst (v := nI 0) rfl k_0 ?_
        refine px_ireturn rfl (.inr ⟨rfl, by decide⟩) ?_
        exact qB_f (fun ⟨a2, b2, _, _, hne, e1, e2⟩ => by rw [e1, e2, n_eq (by omega) (by omega)] at c10; exact hne c10)
      · refine px_iconst (v := nI 1) rfl k_1 ?_
        refine px_goto rfl ?_
        refine px_ireturn rfl (.inr ⟨rfl, by decide⟩) ?_
        rw [n_eq (by omega) (by omega)] at c10
        exact qB_t ⟨a, b, ha, hb, c10, rfl, rfl⟩
    · refine px_if_eq rfl (fun _ => ?_) (fun h => absurd h (by decide))
      refine px_iconst (v := nI 0) rfl k_0 ?_
      refine px_ireturn rfl (.inr ⟨rfl, by decide⟩) ?_
      exact qB_f (fun ⟨a2, b2, _, hb2, _, _, e⟩ => hf ⟨b2, hb2, e⟩)
  · refine px_if_eq rfl (fun _ => ?_) (fun h => absurd h (by decide))
    refine px_iconst (v := nI 0) rfl k_0 ?_
    refine px_ireturn rfl (.inr ⟨rfl, by decide⟩) ?_
    exact qB_f (fun ⟨a2, b2, ha2, _, _, e, _⟩ => hf ⟨a2, ha2, e⟩)
theorem vX9_isPair {I : Nat → Nat → Int32} {J : Nat → Nat → Int64} {p : Bool × Option Nat} {ro : List (Nat × Nat × (Nat → Int32))} {n : Nat} (hn : I 1 4 = nI n) (hn8 : n ≤ 8) {x : Int32} : Pv 2 0 0 CX9_isPair [.ref (1), .int (x)] (gS, I, J, gR p, ro) (qB (∃ a b, a < n ∧ b < n ∧ a ≠ b ∧ x = nI (10 * a + b)) (gS, I, J, gR p, ro)) := by
  refine ⟨okCX9_isPair, Nat.le_of_ble_eq_true rfl, (show Px _ _ _ _ 0 [some (.ref (1)), some (.int (x))] [] _ _ from ?_)⟩
  refine px_iload_n (kk := 1) rfl rfl rfl ?_
  refine px_if_lt rfl (fun c1 => ?_) (fun c1 => ?_)
  · refine px_iconst (v := nI 0) rfl k_0 ?_
    refine px_ireturn rfl (.inr ⟨rfl, by decide⟩) ?_
    exact qB_f (fun ⟨a, b, ha, hb, _, e⟩ => n_nneg (by omega) (e ▸ c1))
  · obtain ⟨z, hz, rfl⟩ := n_ofn c1
    refine px_aload_n (kk := 0) rfl rfl rfl ?_
    refine px_iload_n (kk := 1) rfl rfl rfl ?_
    refine px_bipush (v := nI 10) rfl b_10 ?_
    refine px_idivN rfl (by decide) (by decide) (by omega) ?_
    refine px_iload_n (kk := 1) rfl rfl rfl ?_
    refine px_bipush (v := nI 10) rfl b_10 ?_
    refine px_iremN rfl (by decide) (by decide) (by omega) ?_
    refine px_callV0 CX9_areTwo [] [.int _, .int _] (vX9_areTwo hn hn8) rfl gS_1 (by decide) rfl rfl rfl (Nat.le_of_ble_eq_true rfl) (by decide) ?_
    rintro _ _ - (⟨⟨a, b, ha, hb, hne, e1, e2⟩, rfl, rfl⟩ | ⟨hf, rfl, rfl⟩)
    · refine px_if_eq rfl (fun h => absurd h (by decide)) (fun _ => ?_)
      refine px_iconst (v := nI 1) rfl k_1 ?_
      refine px_goto rfl ?_
      refine px_ireturn rfl (.inr ⟨rfl, by decide⟩) ?_
      rw [n_eq (by omega) (by omega)] at e1 e2
      exact qB_t ⟨a, b, ha, hb, hne, by congr 1; omega⟩
    · refine px_if_eq rfl (fun _ => ?_) (fun h => absurd h (by decide))
      refine px_iconst (v := nI 0) rfl k_0 ?_
      refine px_ireturn rfl (.inr ⟨rfl, by decide⟩) ?_
      exact qB_f (fun ⟨a, b, ha, hb, hne, e⟩ => hf ⟨a, b, ha, hb, hne, by rw [n_eq (by omega) (by omega)] at e; congr 1; omega, by rw [n_eq (by omega) (by omega)] at e; congr 1; omega⟩)
/-- what a number may become -/
def sp_may (w : Nat) (v : Int32) : Prop := match w with
  | 0 => 0 ≤ v.toInt ∧ v.toInt ≤ 99
  | 1 => 0 ≤ v.toInt ∧ v.toInt ≤ 99
  | 2 => 0 ≤ v.toInt ∧ v.toInt ≤ 3
  | 3 => -9 ≤ v.toInt ∧ v.toInt ≤ 9
  | 4 => 0 ≤ v.toInt ∧ v.toInt ≤ 4
  | 5 => 0 ≤ v.toInt ∧ v.toInt ≤ 9
  | _ => False
theorem vX9_mayBe_0 {I : Nat → Nat → Int32} {J : Nat → Nat → Int64} {p : Bool × Option Nat} {ro : List (Nat × Nat × (Nat → Int32))} {v : Int32} : Pv 0 0 0 CX9_mayBe [.ref (1), .int (nI 0), .int (v)] (gS, I, J, gR p, ro) (qB (sp_may 0 v) (gS, I, J, gR p, ro)) := by
  refine ⟨okCX9_mayBe, Nat.le_of_ble_eq_true rfl, (show Px _ _ _ _ 0 [some (.ref (1)), some (.int (nI 0)), some (.int (v))] [] _ _ from ?_)⟩
  refine px_iload_n (kk := 1) rfl rfl rfl ?_
  refine px_tableIn rfl 0 (by decide) (by decide) rfl ?_
  refine px_iload_n (kk := 2) rfl rfl rfl ?_
  refine px_if_lt rfl (fun c3 => ?_) (fun c3 => ?_)
  · refine px_iconst (v := nI 0) rfl k_0 ?_
    refine px_ireturn rfl (.inr ⟨rfl, by decide⟩) ?_
    exact qB_f (fun ⟨h1, h2⟩ => by simp only [i_lt, i_le, t_0, t_99, i_0] at *; omega)
  · refine px_iload_n (kk := 2) rfl rfl rfl ?_
    refine px_bipush (v := nI 99) rfl b_99 ?_
    refine px_icmp_gt rfl (fun c6 => ?_) (fun c6 => ?_)
    · refine px_iconst (v := nI 0) rfl k_0 ?_
      refine px_ireturn rfl (.inr ⟨rfl, by decide⟩) ?_
      exact qB_f (fun ⟨h1, h2⟩ => by simp only [i_lt, i_le, t_0, t_99, i_0] at *; omega)
    · refine px_iconst (v := nI 1) rfl k_1 ?_
      refine px_goto rfl ?_
      refine px_ireturn rfl (.inr ⟨rfl, by decide⟩) ?_
      exact qB_t (by unfold sp_may; simp only [i_lt, i_le, t_0, t_99, i_0] at *; omega)
theorem vX9_mayBe_1 {I : Nat → Nat → Int32} {J : Nat → Nat → Int64} {p : Bool × Option Nat} {ro : List (Nat × Nat × (Nat → Int32))} {v : Int32} : Pv 0 0 0 CX9_mayBe [.ref (1), .int (nI 1), .int (v)] (gS, I, J, gR p, ro) (qB (sp_may 1 v) (gS, I, J, gR p, ro)) := by
  refine ⟨okCX9_mayBe, Nat.le_of_ble_eq_true rfl, (show Px _ _ _ _ 0 [some (.ref (1)), some (.int (nI 1)), some (.int (v))] [] _ _ from ?_)⟩
  refine px_iload_n (kk := 1) rfl rfl rfl ?_
  refine px_tableIn rfl 1 (by decide) (by decide) rfl ?_
  refine px_iload_n (kk := 2) rfl rfl rfl ?_
  refine px_if_lt rfl (fun c3 => ?_) (fun c3 => ?_)
  · refine px_iconst (v := nI 0) rfl k_0 ?_
    refine px_ireturn rfl (.inr ⟨rfl, by decide⟩) ?_
    exact qB_f (fun ⟨h1, h2⟩ => by simp only [i_lt, i_le, t_0, t_99, i_0] at *; omega)
  · refine px_iload_n (kk := 2) rfl rfl rfl ?_
    refine px_bipush (v := nI 99) rfl b_99 ?_
    refine px_icmp_gt rfl (fun c6 => ?_) (fun c6 => ?_)
    · refine px_iconst (v := nI 0) rfl k_0 ?_
      refine px_ireturn rfl (.inr ⟨rfl, by decide⟩) ?_
      exact qB_f (fun ⟨h1, h2⟩ => by simp only [i_lt, i_le, t_0, t_99, i_0] at *; omega)
    · refine px_iconst (v := nI 1) rfl k_1 ?_
      refine px_goto rfl ?_
      refine px_ireturn rfl (.inr ⟨rfl, by decide⟩) ?_
      exact qB_t (by unfold sp_may; simp only [i_lt, i_le, t_0, t_99, i_0] at *; omega)
theorem vX9_mayBe_2 {I : Nat → Nat → Int32} {J : Nat → Nat → Int64} {p : Bool × Option Nat} {ro : List (Nat × Nat × (Nat → Int32))} {v : Int32} : Pv 0 0 0 CX9_mayBe [.ref (1), .int (nI 2), .int (v)] (gS, I, J, gR p, ro) (qB (sp_may 2 v) (gS, I, J, gR p, ro)) := by
  refine ⟨okCX9_mayBe, Nat.le_of_ble_eq_true rfl, (show Px _ _ _ _ 0 [some (.ref (1)), some (.int (nI 2)), some (.int (v))] [] _ _ from ?_)⟩
  refine px_iload_n (kk := 1) rfl rfl rfl ?_
  refine px_tableIn rfl 2 (by decide) (by decide) rfl ?_
  refine px_iload_n (kk := 2) rfl rfl rfl ?_
  refine px_if_lt rfl (fun c12 => ?_) (fun c12 => ?_)
  · refine px_iconst (v := nI 0) rfl k_0 ?_
    refine px_ireturn rfl (.inr ⟨rfl, by decide⟩) ?_
    exact qB_f (fun ⟨h1, h2⟩ => by simp only [i_lt, i_le, t_0, t_3, i_0] at *; omega)
  · refine px_iload_n (kk := 2) rfl rfl rfl ?_
    refine px_iconst (v := nI 3) rfl k_3 ?_
    refine px_icmp_gt rfl (fun c15 => ?_) (fun c15 => ?_)
    · refine px_iconst (v := nI 0) rfl k_0 ?_
      refine px_ireturn rfl (.inr ⟨rfl, by decide⟩) ?_
      exact qB_f (fun ⟨h1, h2⟩ => by simp only [i_lt, i_le, t_0, t_3, i_0] at *; omega)
    · refine px_iconst (v := nI 1) rfl k_1 ?_
      refine px_goto rfl ?_
      refine px_ireturn rfl (.inr ⟨rfl, by decide⟩) ?_
      exact qB_t (by unfold sp_may; simp only [i_lt, i_le, t_0, t_3, i_0] at *; omega)
theorem vX9_mayBe_3 {I : Nat → Nat → Int32} {J : Nat → Nat → Int64} {p : Bool × Option Nat} {ro : List (Nat × Nat × (Nat → Int32))} {v : Int32} : Pv 0 0 0 CX9_mayBe [.ref (1), .int (nI 3), .int (v)] (gS, I, J, gR p, ro) (qB (sp_may 3 v) (gS, I, J, gR p, ro)) := by
  refine ⟨okCX9_mayBe, Nat.le_of_ble_eq_true rfl, (show Px _ _ _ _ 0 [some (.ref (1)), some (.int (nI 3)), some (.int (v))] [] _ _ from ?_)⟩
  refine px_iload_n (kk := 1) rfl rfl rfl ?_
  refine px_tableIn rfl 3 (by decide) (by decide) rfl ?_
  refine px_iload_n (kk := 2) rfl rfl rfl ?_
  refine px_bipush (v := -9) rfl b_m9 ?_
  refine px_icmp_lt rfl (fun c22 => ?_) (fun c22 => ?_)
  · refine px_iconst (v := nI 0) rfl k_0 ?_
    refine px_ireturn rfl (.inr ⟨rfl, by decide⟩) ?_
    exact qB_f (fun ⟨h1, h2⟩ => by simp only [i_lt, i_le, t_m9, t_9, i_0] at *; omega)
  · refine px_iload_n (kk := 2) rfl rfl rfl ?_
    refine px_bipush (v := nI 9) rfl b_9 ?_
    refine px_icmp_gt rfl (fun c25 => ?_) (fun c25 => ?_)
    · refine px_iconst (v := nI 0) rfl k_0 ?_
      refine px_ireturn rfl (.inr ⟨rfl, by decide⟩) ?_
      exact qB_f (fun ⟨h1, h2⟩ => by simp only [i_lt, i_le, t_m9, t_9, i_0] at *; omega)
    · refine px_iconst (v := nI 1) rfl k_1 ?_
      refine px_goto rfl ?_
      refine px_ireturn rfl (.inr ⟨rfl, by decide⟩) ?_
      exact qB_t (by unfold sp_may; simp only [i_lt, i_le, t_m9, t_9, i_0] at *; omega)
theorem vX9_mayBe_4 {I : Nat → Nat → Int32} {J : Nat → Nat → Int64} {p : Bool × Option Nat} {ro : List (Nat × Nat × (Nat → Int32))} {v : Int32} : Pv 0 0 0 CX9_mayBe [.ref (1), .int (nI 4), .int (v)] (gS, I, J, gR p, ro) (qB (sp_may 4 v) (gS, I, J, gR p, ro)) := by
  refine ⟨okCX9_mayBe, Nat.le_of_ble_eq_true rfl, (show Px _ _ _ _ 0 [some (.ref (1)), some (.int (nI 4)), some (.int (v))] [] _ _ from ?_)⟩
  refine px_iload_n (kk := 1) rfl rfl rfl ?_
  refine px_tableIn rfl 4 (by decide) (by decide) rfl ?_
  refine px_iload_n (kk := 2) rfl rfl rfl ?_
  refine px_if_lt rfl (fun c31 => ?_) (fun c31 => ?_)
  · refine px_iconst (v := nI 0) rfl k_0 ?_
    refine px_ireturn rfl (.inr ⟨rfl, by decide⟩) ?_
    exact qB_f (fun ⟨h1, h2⟩ => by simp only [i_lt, i_le, t_0, t_4, i_0] at *; omega)
  · refine px_iload_n (kk := 2) rfl rfl rfl ?_
    refine px_iconst (v := nI 4) rfl k_4 ?_
    refine px_icmp_gt rfl (fun c34 => ?_) (fun c34 => ?_)
    · refine px_iconst (v := nI 0) rfl k_0 ?_
      refine px_ireturn rfl (.inr ⟨rfl, by decide⟩) ?_
      exact qB_f (fun ⟨h1, h2⟩ => by simp only [i_lt, i_le, t_0, t_4, i_0] at *; omega)
    · refine px_iconst (v := nI 1) rfl k_1 ?_
      refine px_goto rfl ?_
      refine px_ireturn rfl (.inr ⟨rfl, by decide⟩) ?_
      exact qB_t (by unfold sp_may; simp only [i_lt, i_le, t_0, t_4, i_0] at *; omega)
theorem vX9_mayBe_5 {I : Nat → Nat → Int32} {J : Nat → Nat → Int64} {p : Bool × Option Nat} {ro : List (Nat × Nat × (Nat → Int32))} {v : Int32} : Pv 0 0 0 CX9_mayBe [.ref (1), .int (nI 5), .int (v)] (gS, I, J, gR p, ro) (qB (sp_may 5 v) (gS, I, J, gR p, ro)) := by
  refine ⟨okCX9_mayBe, Nat.le_of_ble_eq_true rfl, (show Px _ _ _ _ 0 [some (.ref (1)), some (.int (nI 5)), some (.int (v))] [] _ _ from ?_)⟩
  refine px_iload_n (kk := 1) rfl rfl rfl ?_
  refine px_tableIn rfl 5 (by decide) (by decide) rfl ?_
  refine px_iload_n (kk := 2) rfl rfl rfl ?_
  refine px_if_lt rfl (fun c40 => ?_) (fun c40 => ?_)
  · refine px_iconst (v := nI 0) rfl k_0 ?_
    refine px_ireturn rfl (.inr ⟨rfl, by decide⟩) ?_
    exact qB_f (fun ⟨h1, h2⟩ => by simp only [i_lt, i_le, t_0, t_9, i_0] at *; omega)
  · refine px_iload_n (kk := 2) rfl rfl rfl ?_
    refine px_bipush (v := nI 9) rfl b_9 ?_
    refine px_icmp_gt rfl (fun c43 => ?_) (fun c43 => ?_)
    · refine px_iconst (v := nI 0) rfl k_0 ?_
      refine px_ireturn rfl (.inr ⟨rfl, by decide⟩) ?_
      exact qB_f (fun ⟨h1, h2⟩ => by simp only [i_lt, i_le, t_0, t_9, i_0] at *; omega)
    · refine px_iconst (v := nI 1) rfl k_1 ?_
      refine px_goto rfl ?_
      refine px_ireturn rfl (.inr ⟨rfl, by decide⟩) ?_
      exact qB_t (by unfold sp_may; simp only [i_lt, i_le, t_0, t_9, i_0] at *; omega)
/-- which numbers there are -/
def sp_num (n w : Nat) (x : Int32) : Prop := match w with
  | 0 => ∃ a, a < n ∧ x = nI a
  | 1 => ∃ a, a < n ∧ x = nI a
  | 2 => ∃ a, a < n ∧ x = nI a
  | 3 => ∃ a b, a < n ∧ b < n ∧ a ≠ b ∧ x = nI (10 * a + b)
  | 4 => x = nI 0
  | 5 => x = nI 0
  | _ => False
theorem vX9_isNumber_0 {I : Nat → Nat → Int32} {J : Nat → Nat → Int64} {p : Bool × Option Nat} {ro : List (Nat × Nat × (Nat → Int32))} {n : Nat} (hn : I 1 4 = nI n) (hn8 : n ≤ 8) {x : Int32} : Pv 3 0 0 CX9_isNumber [.ref (1), .int (x), .int (nI 0)] (gS, I, J, gR p, ro) (qB (sp_num n 0 x) (gS, I, J, gR p, ro)) := by
  refine ⟨okCX9_isNumber, Nat.le_of_ble_eq_true rfl, (show Px _ _ _ _ 0 [some (.ref (1)), some (.int (x)), some (.int (nI 0))] [] _ _ from ?_)⟩
  refine px_iload_n (kk := 2) rfl rfl rfl ?_
  refine px_tableIn rfl 0 (by decide) (by decide) rfl ?_
  refine px_aload_n (kk := 0) rfl rfl rfl ?_
  refine px_iload_n (kk := 1) rfl rfl rfl ?_
  refine px_callV0 CX9_isLine [] [.int _] (vX9_isLine hn hn8) rfl gS_1 (by decide) rfl rfl rfl (Nat.le_of_ble_eq_true rfl) (by decide) ?_
  rintro _ _ - (⟨h, rfl, rfl⟩ | ⟨h, rfl, rfl⟩)
  · refine px_ireturn rfl (.inr ⟨rfl, by decide⟩) ?_
    exact qB_t h
  · refine px_ireturn rfl (.inr ⟨rfl, by decide⟩) ?_
    exact qB_f h
theorem vX9_isNumber_1 {I : Nat → Nat → Int32} {J : Nat → Nat → Int64} {p : Bool × Option Nat} {ro : List (Nat × Nat × (Nat → Int32))} {n : Nat} (hn : I 1 4 = nI n) (hn8 : n ≤ 8) {x : Int32} : Pv 3 0 0 CX9_isNumber [.ref (1), .int (x), .int (nI 1)] (gS, I, J, gR p, ro) (qB (sp_num n 1 x) (gS, I, J, gR p, ro)) := by
  refine ⟨okCX9_isNumber, Nat.le_of_ble_eq_true rfl, (show Px _ _ _ _ 0 [some (.ref (1)), some (.int (x)), some (.int (nI 1))] [] _ _ from ?_)⟩
  refine px_iload_n (kk := 2) rfl rfl rfl ?_
  refine px_tableIn rfl 1 (by decide) (by decide) rfl ?_
  refine px_aload_n (kk := 0) rfl rfl rfl ?_
  refine px_iload_n (kk := 1) rfl rfl rfl ?_
  refine px_callV0 CX9_isLine [] [.int _] (vX9_isLine hn hn8) rfl gS_1 (by decide) rfl rfl rfl (Nat.le_of_ble_eq_true rfl) (by decide) ?_
  rintro _ _ - (⟨h, rfl, rfl⟩ | ⟨h, rfl, rfl⟩)
  · refine px_ireturn rfl (.inr ⟨rfl, by decide⟩) ?_
    exact qB_t h
  · refine px_ireturn rfl (.inr ⟨rfl, by decide⟩) ?_
    exact qB_f h
theorem vX9_isNumber_2 {I : Nat → Nat → Int32} {J : Nat → Nat → Int64} {p : Bool × Option Nat} {ro : List (Nat × Nat × (Nat → Int32))} {n : Nat} (hn : I 1 4 = nI n) (hn8 : n ≤ 8) {x : Int32} : Pv 3 0 0 CX9_isNumber [.ref (1), .int (x), .int (nI 2)] (gS, I, J, gR p, ro) (qB (sp_num n 2 x) (gS, I, J, gR p, ro)) := by
  refine ⟨okCX9_isNumber, Nat.le_of_ble_eq_true rfl, (show Px _ _ _ _ 0 [some (.ref (1)), some (.int (x)), some (.int (nI 2))] [] _ _ from ?_)⟩
  refine px_iload_n (kk := 2) rfl rfl rfl ?_
  refine px_tableIn rfl 2 (by decide) (by decide) rfl ?_
  refine px_aload_n (kk := 0) rfl rfl rfl ?_
  refine px_iload_n (kk := 1) rfl rfl rfl ?_
  refine px_callV0 CX9_isLine [] [.int _] (vX9_isLine hn hn8) rfl gS_1 (by decide) rfl rfl rfl (Nat.le_of_ble_eq_true rfl) (by decide) ?_
  rintro _ _ - (⟨h, rfl, rfl⟩ | ⟨h, rfl, rfl⟩)
  · refine px_ireturn rfl (.inr ⟨rfl, by decide⟩) ?_
    exact qB_t h
  · refine px_ireturn rfl (.inr ⟨rfl, by decide⟩) ?_
    exact qB_f h
theorem vX9_isNumber_3 {I : Nat → Nat → Int32} {J : Nat → Nat → Int64} {p : Bool × Option Nat} {ro : List (Nat × Nat × (Nat → Int32))} {n : Nat} (hn : I 1 4 = nI n) (hn8 : n ≤ 8) {x : Int32} : Pv 3 0 0 CX9_isNumber [.ref (1), .int (x), .int (nI 3)] (gS, I, J, gR p, ro) (qB (sp_num n 3 x) (gS, I, J, gR p, ro)) := by
  refine ⟨okCX9_isNumber, Nat.le_of_ble_eq_true rfl, (show Px _ _ _ _ 0 [some (.ref (1)), some (.int (x)), some (.int (nI 3))] [] _ _ from ?_)⟩
  refine px_iload_n (kk := 2) rfl rfl rfl ?_
  refine px_tableIn rfl 3 (by decide) (by decide) rfl ?_
  refine px_aload_n (kk := 0) rfl rfl rfl ?_
  refine px_iload_n (kk := 1) rfl rfl rfl ?_
  refine px_callV0 CX9_isPair [] [.int _] (vX9_isPair hn hn8) rfl gS_1 (by decide) rfl rfl rfl (Nat.le_of_ble_eq_true rfl) (by decide) ?_
  rintro _ _ - (⟨h, rfl, rfl⟩ | ⟨h, rfl, rfl⟩)
  · refine px_ireturn rfl (.inr ⟨rfl, by decide⟩) ?_
    exact qB_t h
  · refine px_ireturn rfl (.inr ⟨rfl, by decide⟩) ?_
    exact qB_f h
theorem vX9_isNumber_4 {I : Nat → Nat → Int32} {J : Nat → Nat → Int64} {p : Bool × Option Nat} {ro : List (Nat × Nat × (Nat → Int32))} {n : Nat} (hn : I 1 4 = nI n) (hn8 : n ≤ 8) {x : Int32} : Pv 3 0 0 CX9_isNumber [.ref (1), .int (x), .int (nI 4)] (gS, I, J, gR p, ro) (qB (sp_num n 4 x) (gS, I, J, gR p, ro)) := by
  refine ⟨okCX9_isNumber, Nat.le_of_ble_eq_true rfl, (show Px _ _ _ _ 0 [some (.ref (1)), some (.int (x)), some (.int (nI 4))] [] _ _ from ?_)⟩
  refine px_iload_n (kk := 2) rfl rfl rfl ?_
  refine px_tableIn rfl 4 (by decide) (by decide) rfl ?_
  refine px_iload_n (kk := 1) rfl rfl rfl ?_
  refine px_if_ne rfl (fun c11 => ?_) (fun c11 => ?_)
  · refine px_iconst (v := nI 0) rfl k_0 ?_
    refine px_ireturn rfl (.inr ⟨rfl, by decide⟩) ?_
    exact qB_f (fun h => c11 (by rw [n_0]; exact h))
  · refine px_iconst (v := nI 1) rfl k_1 ?_
    refine px_goto rfl ?_
    refine px_ireturn rfl (.inr ⟨rfl, by decide⟩) ?_
    exact qB_t (by show x = nI 0; rw [← n_0]; exact c11)
theorem vX9_isNumber_5 {I : Nat → Nat → Int32} {J : Nat → Nat → Int64} {p : Bool × Option Nat} {ro : List (Nat × Nat × (Nat → Int32))} {n : Nat} (hn : I 1 4 = nI n) (hn8 : n ≤ 8) {x : Int32} : Pv 3 0 0 CX9_isNumber [.ref (1), .int (x), .int (nI 5)] (gS, I, J, gR p, ro) (qB (sp_num n 5 x) (gS, I, J, gR p, ro)) := by
  refine ⟨okCX9_isNumber, Nat.le_of_ble_eq_true rfl, (show Px _ _ _ _ 0 [some (.ref (1)), some (.int (x)), some (.int (nI 5))] [] _ _ from ?_)⟩
  refine px_iload_n (kk := 2) rfl rfl rfl ?_
  refine px_tableIn rfl 5 (by decide) (by decide) rfl ?_
  refine px_iload_n (kk := 1) rfl rfl rfl ?_
  refine px_if_ne rfl (fun c11 => ?_) (fun c11 => ?_)
  · refine px_iconst (v := nI 0) rfl k_0 ?_
    refine px_ireturn rfl (.inr ⟨rfl, by decide⟩) ?_
    exact qB_f (fun h => c11 (by rw [n_0]; exact h))
  · refine px_iconst (v := nI 1) rfl k_1 ?_
    refine px_goto rfl ?_
    refine px_ireturn rfl (.inr ⟨rfl, by decide⟩) ?_
    exact qB_t (by show x = nI 0; rw [← n_0]; exact c11)
theorem vX9_isNumber_o {I : Nat → Nat → Int32} {J : Nat → Nat → Int64} {p : Bool × Option Nat} {ro : List (Nat × Nat × (Nat → Int32))} {x w : Int32} (hw : w.toInt < 0 ∨ 5 < w.toInt) : Pv 3 0 0 CX9_isNumber [.ref (1), .int (x), .int w] (gS, I, J, gR p, ro) (qI (nI 0) (gS, I, J, gR p, ro)) := by
  refine ⟨okCX9_isNumber, Nat.le_of_ble_eq_true rfl, (show Px _ _ _ _ 0 [some (.ref (1)), some (.int (x)), some (.int w)] [] _ _ from ?_)⟩
  refine px_iload_n (kk := 2) rfl rfl rfl ?_
  refine px_tableOut rfl hw ?_
  refine px_iconst (v := nI 0) rfl k_0 ?_
  refine px_ireturn rfl (.inr ⟨rfl, by decide⟩) ?_
  exact ⟨rfl, rfl⟩
theorem vX9_liking {I : Nat → Nat → Int32} {J : Nat → Nat → Int64} {p : Bool × Option Nat} {ro : List (Nat × Nat × (Nat → Int32))} {n : Nat} (hn : I 1 4 = nI n) (hn8 : n ≤ 8) {a b : Nat} (ha : a < n) (hb : b < n) (hne : a ≠ b) : Pv 2 0 0 CX9_liking [.ref (1), .int (nI a), .int (nI b)] (gS, I, J, gR p, ro) (qI (I 5 (8 * a + b)) (gS, I, J, gR p, ro)) := by
  refine ⟨okCX9_liking, Nat.le_of_ble_eq_true rfl, (show Px _ _ _ _ 0 [some (.ref (1)), some (.int (nI a)), some (.int (nI b))] [] _ _ from ?_)⟩
  refine px_aload_n (kk := 0) rfl rfl rfl ?_
  refine px_iload_n (kk := 1) rfl rfl rfl ?_
  refine px_iload_n (kk := 2) rfl rfl rfl ?_
  refine px_callV0 CX9_areTwo [] [.int _, .int _] (vX9_areTwo hn hn8) rfl gS_1 (by decide) rfl rfl rfl (Nat.le_of_ble_eq_true rfl) (by decide) ?_
  rintro _ _ - (⟨h, rfl, rfl⟩ | ⟨h, rfl, rfl⟩)
  · refine px_if_eq rfl (fun h => absurd h (by decide)) (fun _ => ?_)
    refine px_aload_n (kk := 0) rfl rfl rfl ?_
    refine px_getR (r := 5) rfl gS_1 rfl (gR_1_3 _) ?_
    refine px_iload_n (kk := 1) rfl rfl rfl ?_
    refine px_bipush (v := nI 8) rfl b_8 ?_
    refine px_imulN rfl ?_
    refine px_iload_n (kk := 2) rfl rfl rfl ?_
    refine px_iaddN rfl ?_
    refine px_iald (j := 8 * a + b) rfl gS_5 (by congr 1; omega) (by omega) ?_
    refine px_goto rfl ?_
    refine px_ireturn rfl (.inl rfl) ?_
    exact ⟨rfl, rfl⟩
  · exact absurd ⟨a, b, ha, hb, hne, rfl, rfl⟩ h
theorem vX9_liking0 {I : Nat → Nat → Int32} {J : Nat → Nat → Int64} {p : Bool × Option Nat} {ro : List (Nat × Nat × (Nat → Int32))} {n : Nat} (hn : I 1 4 = nI n) (hn8 : n ≤ 8) {x y : Int32} (h0 : ¬ (∃ a b, a < n ∧ b < n ∧ a ≠ b ∧ x = nI a ∧ y = nI b)) : Pv 2 0 0 CX9_liking [.ref (1), .int (x), .int (y)] (gS, I, J, gR p, ro) (qI (nI 0) (gS, I, J, gR p, ro)) := by
  refine ⟨okCX9_liking, Nat.le_of_ble_eq_true rfl, (show Px _ _ _ _ 0 [some (.ref (1)), some (.int (x)), some (.int (y))] [] _ _ from ?_)⟩
  refine px_aload_n (kk := 0) rfl rfl rfl ?_
  refine px_iload_n (kk := 1) rfl rfl rfl ?_
  refine px_iload_n (kk := 2) rfl rfl rfl ?_
  refine px_callV0 CX9_areTwo [] [.int _, .int _] (vX9_areTwo hn hn8) rfl gS_1 (by decide) rfl rfl rfl (Nat.le_of_ble_eq_true rfl) (by decide) ?_
  rintro _ _ - (⟨h, rfl, rfl⟩ | ⟨h, rfl, rfl⟩)
  · exact absurd h h0
  · refine px_if_eq rfl (fun _ => ?_) (fun h => absurd h (by decide))
    refine px_iconst (v := nI 0) rfl k_0 ?_
    refine px_ireturn rfl (.inl rfl) ?_
    exact ⟨rfl, rfl⟩
theorem vX9_told_0 {I : Nat → Nat → Int32} {J : Nat → Nat → Int64} {p : Bool × Option Nat} {ro : List (Nat × Nat × (Nat → Int32))} {n : Nat} (hn : I 1 4 = nI n) (hn8 : n ≤ 8) {a : Nat} (ha : a < n) : Pv 4 0 0 CX9_told [.ref (1), .int (nI a), .int (nI 0)] (gS, I, J, gR p, ro) (qI (I 2 a) (gS, I, J, gR p, ro)) := by
  refine ⟨okCX9_told, Nat.le_of_ble_eq_true rfl, (show Px _ _ _ _ 0 [some (.ref (1)), some (.int (nI a)), some (.int (nI 0))] [] _ _ from ?_)⟩
  refine px_aload_n (kk := 0) rfl rfl rfl ?_
  refine px_iload_n (kk := 1) rfl rfl rfl ?_
  refine px_iload_n (kk := 2) rfl rfl rfl ?_
  refine px_callV0 CX9_isNumber [] [.int _, .int _] (vX9_isNumber_0 hn hn8) rfl gS_1 (by decide) rfl rfl rfl (Nat.le_of_ble_eq_true rfl) (by decide) ?_
  rintro _ _ - (⟨h, rfl, rfl⟩ | ⟨h, rfl, rfl⟩)
  · refine px_if_ne rfl (fun _ => ?_) (fun h => absurd h (by decide))
    refine px_iload_n (kk := 2) rfl rfl rfl ?_
    refine px_tableIn rfl 0 (by decide) (by decide) rfl ?_
    refine px_aload_n (kk := 0) rfl rfl rfl ?_
    refine px_getR (r := 2) rfl gS_1 rfl (gR_1_0 _) ?_
    refine px_iload_n (kk := 1) rfl rfl rfl ?_
    refine px_iald (j := a) rfl gS_2 rfl (by omega) ?_
    refine px_ireturn rfl (.inl rfl) ?_
    exact ⟨rfl, rfl⟩
  · exact absurd (show sp_num n 0 _ from ⟨a, ha, rfl⟩) h
theorem vX9_tell_0 {I : Nat → Nat → Int32} {J : Nat → Nat → Int64} {p : Bool × Option Nat} {ro : List (Nat × Nat × (Nat → Int32))} {n : Nat} (hn : I 1 4 = nI n) (hn8 : n ≤ 8) {a : Nat} (ha : a < n) {v : Int32} : Pv 4 0 0 CX9_tell [.ref (1), .int (nI a), .int (nI 0), .int (v)] (gS, I, J, gR p, ro) (qV (gS, va_up I 2 (va_up (I 2) a v), J, gR p, ro)) := by
  refine ⟨okCX9_tell, Nat.le_of_ble_eq_true rfl, (show Px _ _ _ _ 0 [some (.ref (1)), some (.int (nI a)), some (.int (nI 0)), some (.int (v))] [] _ _ from ?_)⟩
  refine px_aload_n (kk := 0) rfl rfl rfl ?_
  refine px_iload_n (kk := 1) rfl rfl rfl ?_
  refine px_iload_n (kk := 2) rfl rfl rfl ?_
  refine px_callV0 CX9_isNumber [] [.int _, .int _] (vX9_isNumber_0 hn hn8) rfl gS_1 (by decide) rfl rfl rfl (Nat.le_of_ble_eq_true rfl) (by decide) ?_
  rintro _ _ - (⟨h, rfl, rfl⟩ | ⟨h, rfl, rfl⟩)
  · refine px_if_ne rfl (fun _ => ?_) (fun h => absurd h (by decide))
    refine px_iload_n (kk := 2) rfl rfl rfl ?_
    refine px_tableIn rfl 0 (by decide) (by decide) rfl ?_
    refine px_aload_n (kk := 0) rfl rfl rfl ?_
    refine px_getR (r := 2) rfl gS_1 rfl (gR_1_0 _) ?_
    refine px_iload_n (kk := 1) rfl rfl rfl ?_
    refine px_iload_n (kk := 3) rfl rfl rfl ?_
    refine px_iast (j := a) rfl gS_2 rfl (by omega) ?_
    refine px_goto rfl ?_
    refine px_return rfl rfl ?_
    exact ⟨rfl, rfl⟩
  · exact absurd (show sp_num n 0 _ from ⟨a, ha, rfl⟩) h
theorem vX9_told_1 {I : Nat → Nat → Int32} {J : Nat → Nat → Int64} {p : Bool × Option Nat} {ro : List (Nat × Nat × (Nat → Int32))} {n : Nat} (hn : I 1 4 = nI n) (hn8 : n ≤ 8) {a : Nat} (ha : a < n) : Pv 4 0 0 CX9_told [.ref (1), .int (nI a), .int (nI 1)] (gS, I, J, gR p, ro) (qI (I 3 a) (gS, I, J, gR p, ro)) := by
  refine ⟨okCX9_told, Nat.le_of_ble_eq_true rfl, (show Px _ _ _ _ 0 [some (.ref (1)), some (.int (nI a)), some (.int (nI 1))] [] _ _ from ?_)⟩
  refine px_aload_n (kk := 0) rfl rfl rfl ?_
  refine px_iload_n (kk := 1) rfl rfl rfl ?_
  refine px_iload_n (kk := 2) rfl rfl rfl ?_
  refine px_callV0 CX9_isNumber [] [.int _, .int _] (vX9_isNumber_1 hn hn8) rfl gS_1 (by decide) rfl rfl rfl (Nat.le_of_ble_eq_true rfl) (by decide) ?_
  rintro _ _ - (⟨h, rfl, rfl⟩ | ⟨h, rfl, rfl⟩)
  · refine px_if_ne rfl (fun _ => ?_) (fun h => absurd h (by decide))
    refine px_iload_n (kk := 2) rfl rfl rfl ?_
    refine px_tableIn rfl 1 (by decide) (by decide) rfl ?_
    refine px_aload_n (kk := 0) rfl rfl rfl ?_
    refine px_getR (r := 3) rfl gS_1 rfl (gR_1_1 _) ?_
    refine px_iload_n (kk := 1) rfl rfl rfl ?_
    refine px_iald (j := a) rfl gS_3 rfl (by omega) ?_
    refine px_ireturn rfl (.inl rfl) ?_
    exact ⟨rfl, rfl⟩
  · exact absurd (show sp_num n 1 _ from ⟨a, ha, rfl⟩) h
theorem vX9_tell_1 {I : Nat → Nat → Int32} {J : Nat → Nat → Int64} {p : Bool × Option Nat} {ro : List (Nat × Nat × (Nat → Int32))} {n : Nat} (hn : I 1 4 = nI n) (hn8 : n ≤ 8) {a : Nat} (ha : a < n) {v : Int32} : Pv 4 0 0 CX9_tell [.ref (1), .int (nI a), .int (nI 1), .int (v)] (gS, I, J, gR p, ro) (qV (gS, va_up I 3 (va_up (I 3) a v), J, gR p, ro)) := by
  refine ⟨okCX9_tell, Nat.le_of_ble_eq_true rfl, (show Px _ _ _ _ 0 [some (.ref (1)), some (.int (nI a)), some (.int (nI 1)), some (.int (v))] [] _ _ from ?_)⟩
  refine px_aload_n (kk := 0) rfl rfl rfl ?_
  refine px_iload_n (kk := 1) rfl rfl rfl ?_
  refine px_iload_n (kk := 2) rfl rfl rfl ?_
  refine px_callV0 CX9_isNumber [] [.int _, .int _] (vX9_isNumber_1 hn hn8) rfl gS_1 (by decide) rfl rfl rfl (Nat.le_of_ble_eq_true rfl) (by decide) ?_
  rintro _ _ - (⟨h, rfl, rfl⟩ | ⟨h, rfl, rfl⟩)
  · refine px_if_ne rfl (fun _ => ?_) (fun h => absurd h (by decide))
    refine px_iload_n (kk := 2) rfl rfl rfl ?_
    refine px_tableIn rfl 1 (by decide) (by decide) rfl ?_
    refine px_aload_n (kk := 0) rfl rfl rfl ?_
    refine px_getR (r := 3) rfl gS_1 rfl (gR_1_1 _) ?_
    refine px_iload_n (kk := 1) rfl rfl rfl ?_
    refine px_iload_n (kk := 3) rfl rfl rfl ?_
    refine px_iast (j := a) rfl gS_3 rfl (by omega) ?_
    refine px_goto rfl ?_
    refine px_return rfl rfl ?_
    exact ⟨rfl, rfl⟩
  · exact absurd (show sp_num n 1 _ from ⟨a, ha, rfl⟩) h
theorem vX9_told_2 {I : Nat → Nat → Int32} {J : Nat → Nat → Int64} {p : Bool × Option Nat} {ro : List (Nat × Nat × (Nat → Int32))} {n : Nat} (hn : I 1 4 = nI n) (hn8 : n ≤ 8) {a : Nat} (ha : a < n) : Pv 4 0 0 CX9_told [.ref (1), .int (nI a), .int (nI 2)] (gS, I, J, gR p, ro) (qI (I 4 a) (gS, I, J, gR p, ro)) := by
  refine ⟨okCX9_told, Nat.le_of_ble_eq_true rfl, (show Px _ _ _ _ 0 [some (.ref (1)), some (.int (nI a)), some (.int (nI 2))] [] _ _ from ?_)⟩
  refine px_aload_n (kk := 0) rfl rfl rfl ?_
  refine px_iload_n (kk := 1) rfl rfl rfl ?_
  refine px_iload_n (kk := 2) rfl rfl rfl ?_
  refine px_callV0 CX9_isNumber [] [.int _, .int _] (vX9_isNumber_2 hn hn8) rfl gS_1 (by decide) rfl rfl rfl (Nat.le_of_ble_eq_true rfl) (by decide) ?_
  rintro _ _ - (⟨h, rfl, rfl⟩ | ⟨h, rfl, rfl⟩)
  · refine px_if_ne rfl (fun _ => ?_) (fun h => absurd h (by decide))
    refine px_iload_n (kk := 2) rfl rfl rfl ?_
    refine px_tableIn rfl 2 (by decide) (by decide) rfl ?_
    refine px_aload_n (kk := 0) rfl rfl rfl ?_
    refine px_getR (r := 4) rfl gS_1 rfl (gR_1_2 _) ?_
    refine px_iload_n (kk := 1) rfl rfl rfl ?_
    refine px_iald (j := a) rfl gS_4 rfl (by omega) ?_
    refine px_ireturn rfl (.inl rfl) ?_
    exact ⟨rfl, rfl⟩
  · exact absurd (show sp_num n 2 _ from ⟨a, ha, rfl⟩) h
theorem vX9_tell_2 {I : Nat → Nat → Int32} {J : Nat → Nat → Int64} {p : Bool × Option Nat} {ro : List (Nat × Nat × (Nat → Int32))} {n : Nat} (hn : I 1 4 = nI n) (hn8 : n ≤ 8) {a : Nat} (ha : a < n) {v : Int32} : Pv 4 0 0 CX9_tell [.ref (1), .int (nI a), .int (nI 2), .int (v)] (gS, I, J, gR p, ro) (qV (gS, va_up I 4 (va_up (I 4) a v), J, gR p, ro)) := by
  refine ⟨okCX9_tell, Nat.le_of_ble_eq_true rfl, (show Px _ _ _ _ 0 [some (.ref (1)), some (.int (nI a)), some (.int (nI 2)), some (.int (v))] [] _ _ from ?_)⟩
  refine px_aload_n (kk := 0) rfl rfl rfl ?_
  refine px_iload_n (kk := 1) rfl rfl rfl ?_
  refine px_iload_n (kk := 2) rfl rfl rfl ?_
  refine px_callV0 CX9_isNumber [] [.int _, .int _] (vX9_isNumber_2 hn hn8) rfl gS_1 (by decide) rfl rfl rfl (Nat.le_of_ble_eq_true rfl) (by decide) ?_
  rintro _ _ - (⟨h, rfl, rfl⟩ | ⟨h, rfl, rfl⟩)
  · refine px_if_ne rfl (fun _ => ?_) (fun h => absurd h (by decide))
    refine px_iload_n (kk := 2) rfl rfl rfl ?_
    refine px_tableIn rfl 2 (by decide) (by decide) rfl ?_
    refine px_aload_n (kk := 0) rfl rfl rfl ?_
    refine px_getR (r := 4) rfl gS_1 rfl (gR_1_2 _) ?_
    refine px_iload_n (kk := 1) rfl rfl rfl ?_
    refine px_iload_n (kk := 3) rfl rfl rfl ?_
    refine px_iast (j := a) rfl gS_4 rfl (by omega) ?_
    refine px_goto rfl ?_
    refine px_return rfl rfl ?_
    exact ⟨rfl, rfl⟩
  · exact absurd (show sp_num n 2 _ from ⟨a, ha, rfl⟩) h
theorem vX9_told_3 {I : Nat → Nat → Int32} {J : Nat → Nat → Int64} {p : Bool × Option Nat} {ro : List (Nat × Nat × (Nat → Int32))} {n : Nat} (hn : I 1 4 = nI n) (hn8 : n ≤ 8) {a b : Nat} (ha : a < n) (hb : b < n) (hne : a ≠ b) : Pv 4 0 0 CX9_told [.ref (1), .int (nI (10 * a + b)), .int (nI 3)] (gS, I, J, gR p, ro) (qI (I 5 (8 * a + b)) (gS, I, J, gR p, ro)) := by
  refine ⟨okCX9_told, Nat.le_of_ble_eq_true rfl, (show Px _ _ _ _ 0 [some (.ref (1)), some (.int (nI (10 * a + b))), some (.int (nI 3))] [] _ _ from ?_)⟩
  refine px_aload_n (kk := 0) rfl rfl rfl ?_
  refine px_iload_n (kk := 1) rfl rfl rfl ?_
  refine px_iload_n (kk := 2) rfl rfl rfl ?_
  refine px_callV0 CX9_isNumber [] [.int _, .int _] (vX9_isNumber_3 hn hn8) rfl gS_1 (by decide) rfl rfl rfl (Nat.le_of_ble_eq_true rfl) (by decide) ?_
  rintro _ _ - (⟨h, rfl, rfl⟩ | ⟨h, rfl, rfl⟩)
  · refine px_if_ne rfl (fun _ => ?_) (fun h => absurd h (by decide))
    refine px_iload_n (kk := 2) rfl rfl rfl ?_
    refine px_tableIn rfl 3 (by decide) (by decide) rfl ?_
    refine px_aload_n (kk := 0) rfl rfl rfl ?_
    refine px_iload_n (kk := 1) rfl rfl rfl ?_
    refine px_bipush (v := nI 10) rfl b_10 ?_
    refine px_idivN rfl (by decide) (by decide) (by omega) ?_
    refine px_iload_n (kk := 1) rfl rfl rfl ?_
    refine px_bipush (v := nI 10) rfl b_10 ?_
    refine px_iremN rfl (by decide) (by decide) (by omega) ?_
    rw [show (10 * a + b) / 10 = a by omega, show (10 * a + b) % 10 = b by omega]
    refine px_callV0 CX9_liking [] [.int _, .int _] (vX9_liking hn hn8 ha hb hne) rfl gS_1 (by decide) rfl rfl rfl (Nat.le_of_ble_eq_true rfl) (by decide) ?_
    rintro _ _ - ⟨rfl, rfl⟩
    refine px_ireturn rfl (.inl rfl) ?_
    exact ⟨rfl, rfl⟩
  · exact absurd (show sp_num n 3 _ from ⟨a, b, ha, hb, hne, rfl⟩) h
theorem vX9_tell_3 {I : Nat → Nat → Int32} {J : Nat → Nat → Int64} {p : Bool × Option Nat} {ro : List (Nat × Nat × (Nat → Int32))} {n : Nat} (hn : I 1 4 = nI n) (hn8 : n ≤ 8) {a b : Nat} (ha : a < n) (hb : b < n) (hne : a ≠ b) {v : Int32} : Pv 4 0 0 CX9_tell [.ref (1), .int (nI (10 * a + b)), .int (nI 3), .int (v)] (gS, I, J, gR p, ro) (qV (gS, va_up I 5 (va_up (I 5) (8 * a + b) v), J, gR p, ro)) := by
  refine ⟨okCX9_tell, Nat.le_of_ble_eq_true rfl, (show Px _ _ _ _ 0 [some (.ref (1)), some (.int (nI (10 * a + b))), some (.int (nI 3)), some (.int (v))] [] _ _ from ?_)⟩
  refine px_aload_n (kk := 0) rfl rfl rfl ?_
  refine px_iload_n (kk := 1) rfl rfl rfl ?_
  refine px_iload_n (kk := 2) rfl rfl rfl ?_
  refine px_callV0 CX9_isNumber [] [.int _, .int _] (vX9_isNumber_3 hn hn8) rfl gS_1 (by decide) rfl rfl rfl (Nat.le_of_ble_eq_true rfl) (by decide) ?_
  rintro _ _ - (⟨h, rfl, rfl⟩ | ⟨h, rfl, rfl⟩)
  · refine px_if_ne rfl (fun _ => ?_) (fun h => absurd h (by decide))
    refine px_iload_n (kk := 2) rfl rfl rfl ?_
    refine px_tableIn rfl 3 (by decide) (by decide) rfl ?_
    refine px_aload_n (kk := 0) rfl rfl rfl ?_
    refine px_getR (r := 5) rfl gS_1 rfl (gR_1_3 _) ?_
    refine px_iload_n (kk := 1) rfl rfl rfl ?_
    refine px_bipush (v := nI 10) rfl b_10 ?_
    refine px_idivN rfl (by decide) (by decide) (by omega) ?_
    refine px_bipush (v := nI 8) rfl b_8 ?_
    refine px_imulN rfl ?_
    refine px_iload_n (kk := 1) rfl rfl rfl ?_
    refine px_bipush (v := nI 10) rfl b_10 ?_
    refine px_iremN rfl (by decide) (by decide) (by omega) ?_
    refine px_iaddN rfl ?_
    refine px_iload_n (kk := 3) rfl rfl rfl ?_
    refine px_iast (j := 8 * a + b) rfl gS_5 (by congr 1; omega) (by omega) ?_
    refine px_goto rfl ?_
    refine px_return rfl rfl ?_
    exact ⟨rfl, rfl⟩
  · exact absurd (show sp_num n 3 _ from ⟨a, b, ha, hb, hne, rfl⟩) h
theorem vX9_told_4 {I : Nat → Nat → Int32} {J : Nat → Nat → Int64} {p : Bool × Option Nat} {ro : List (Nat × Nat × (Nat → Int32))} {n : Nat} (hn : I 1 4 = nI n) (hn8 : n ≤ 8)  : Pv 4 0 0 CX9_told [.ref (1), .int (nI 0), .int (nI 4)] (gS, I, J, gR p, ro) (qI (I 1 5) (gS, I, J, gR p, ro)) := by
  refine ⟨okCX9_told, Nat.le_of_ble_eq_true rfl, (show Px _ _ _ _ 0 [some (.ref (1)), some (.int (nI 0)), some (.int (nI 4))] [] _ _ from ?_)⟩
  refine px_aload_n (kk := 0) rfl rfl rfl ?_
  refine px_iload_n (kk := 1) rfl rfl rfl ?_
  refine px_iload_n (kk := 2) rfl rfl rfl ?_
  refine px_callV0 CX9_isNumber [] [.int _, .int _] (vX9_isNumber_4 hn hn8) rfl gS_1 (by decide) rfl rfl rfl (Nat.le_of_ble_eq_true rfl) (by decide) ?_
  rintro _ _ - (⟨h, rfl, rfl⟩ | ⟨h, rfl, rfl⟩)
  · refine px_if_ne rfl (fun _ => ?_) (fun h => absurd h (by decide))
    refine px_iload_n (kk := 2) rfl rfl rfl ?_
    refine px_tableIn rfl 4 (by decide) (by decide) rfl ?_
    refine px_aload_n (kk := 0) rfl rfl rfl ?_
    refine px_getI rfl gS_1 rfl ?_
    refine px_ireturn rfl (.inl rfl) ?_
    exact ⟨rfl, rfl⟩
  · exact absurd (show sp_num n 4 _ from rfl) h
theorem vX9_tell_4 {I : Nat → Nat → Int32} {J : Nat → Nat → Int64} {p : Bool × Option Nat} {ro : List (Nat × Nat × (Nat → Int32))} {n : Nat} (hn : I 1 4 = nI n) (hn8 : n ≤ 8)  {v : Int32} : Pv 4 0 0 CX9_tell [.ref (1), .int (nI 0), .int (nI 4), .int (v)] (gS, I, J, gR p, ro) (qV (gS, va_up I 1 (va_up (I 1) 5 v), J, gR p, ro)) := by
  refine ⟨okCX9_tell, Nat.le_of_ble_eq_true rfl, (show Px _ _ _ _ 0 [some (.ref (1)), some (.int (nI 0)), some (.int (nI 4)), some (.int (v))] [] _ _ from ?_)⟩
  refine px_aload_n (kk := 0) rfl rfl rfl ?_
  refine px_iload_n (kk := 1) rfl rfl rfl ?_
  refine px_iload_n (kk := 2) rfl rfl rfl ?_
  refine px_callV0 CX9_isNumber [] [.int _, .int _] (vX9_isNumber_4 hn hn8) rfl gS_1 (by decide) rfl rfl rfl (Nat.le_of_ble_eq_true rfl) (by decide) ?_
  rintro _ _ - (⟨h, rfl, rfl⟩ | ⟨h, rfl, rfl⟩)
  · refine px_if_ne rfl (fun _ => ?_) (fun h => absurd h (by decide))
    refine px_iload_n (kk := 2) rfl rfl rfl ?_
    refine px_tableIn rfl 4 (by decide) (by decide) rfl ?_
    refine px_aload_n (kk := 0) rfl rfl rfl ?_
    refine px_iload_n (kk := 3) rfl rfl rfl ?_
    refine px_putI rfl gS_1 rfl rfl ?_
    refine px_goto rfl ?_
    refine px_return rfl rfl ?_
    exact ⟨rfl, rfl⟩
  · exact absurd (show sp_num n 4 _ from rfl) h
theorem vX9_told_5 {I : Nat → Nat → Int32} {J : Nat → Nat → Int64} {p : Bool × Option Nat} {ro : List (Nat × Nat × (Nat → Int32))} {n : Nat} (hn : I 1 4 = nI n) (hn8 : n ≤ 8)  : Pv 4 0 0 CX9_told [.ref (1), .int (nI 0), .int (nI 5)] (gS, I, J, gR p, ro) (qI (I 1 6) (gS, I, J, gR p, ro)) := by
  refine ⟨okCX9_told, Nat.le_of_ble_eq_true rfl, (show Px _ _ _ _ 0 [some (.ref (1)), some (.int (nI 0)), some (.int (nI 5))] [] _ _ from ?_)⟩
  refine px_aload_n (kk := 0) rfl rfl rfl ?_
  refine px_iload_n (kk := 1) rfl rfl rfl ?_
  refine px_iload_n (kk := 2) rfl rfl rfl ?_
  refine px_callV0 CX9_isNumber [] [.int _, .int _] (vX9_isNumber_5 hn hn8) rfl gS_1 (by decide) rfl rfl rfl (Nat.le_of_ble_eq_true rfl) (by decide) ?_
  rintro _ _ - (⟨h, rfl, rfl⟩ | ⟨h, rfl, rfl⟩)
  · refine px_if_ne rfl (fun _ => ?_) (fun h => absurd h (by decide))
    refine px_iload_n (kk := 2) rfl rfl rfl ?_
    refine px_tableOut rfl (by decide) ?_
    refine px_aload_n (kk := 0) rfl rfl rfl ?_
    refine px_getI rfl gS_1 rfl ?_
    refine px_ireturn rfl (.inl rfl) ?_
    exact ⟨rfl, rfl⟩
  · exact absurd (show sp_num n 5 _ from rfl) h
theorem vX9_tell_5 {I : Nat → Nat → Int32} {J : Nat → Nat → Int64} {p : Bool × Option Nat} {ro : List (Nat × Nat × (Nat → Int32))} {n : Nat} (hn : I 1 4 = nI n) (hn8 : n ≤ 8)  {v : Int32} : Pv 4 0 0 CX9_tell [.ref (1), .int (nI 0), .int (nI 5), .int (v)] (gS, I, J, gR p, ro) (qV (gS, va_up I 1 (va_up (I 1) 6 v), J, gR p, ro)) := by
  refine ⟨okCX9_tell, Nat.le_of_ble_eq_true rfl, (show Px _ _ _ _ 0 [some (.ref (1)), some (.int (nI 0)), some (.int (nI 5)), some (.int (v))] [] _ _ from ?_)⟩
  refine px_aload_n (kk := 0) rfl rfl rfl ?_
  refine px_iload_n (kk := 1) rfl rfl rfl ?_
  refine px_iload_n (kk := 2) rfl rfl rfl ?_
  refine px_callV0 CX9_isNumber [] [.int _, .int _] (vX9_isNumber_5 hn hn8) rfl gS_1 (by decide) rfl rfl rfl (Nat.le_of_ble_eq_true rfl) (by decide) ?_
  rintro _ _ - (⟨h, rfl, rfl⟩ | ⟨h, rfl, rfl⟩)
  · refine px_if_ne rfl (fun _ => ?_) (fun h => absurd h (by decide))
    refine px_iload_n (kk := 2) rfl rfl rfl ?_
    refine px_tableOut rfl (by decide) ?_
    refine px_aload_n (kk := 0) rfl rfl rfl ?_
    refine px_iload_n (kk := 3) rfl rfl rfl ?_
    refine px_putI rfl gS_1 rfl rfl ?_
    refine px_return rfl rfl ?_
    exact ⟨rfl, rfl⟩
  · exact absurd (show sp_num n 5 _ from rfl) h
/-- bits of those for whom q says yes, the first k looked at -/
def sp_bits (q : Nat → Bool) : Nat → Int32
  | 0 => nI 0
  | k + 1 => if q k = true then sp_bits q k ||| (nI 1 <<< (nI k &&& 31)) else sp_bits q k
def sp_sum (f : Nat → Int32) : Nat → Int32
  | 0 => nI 0
  | k + 1 => sp_sum f k + f k
theorem lX9_content {I : Nat → Nat → Int32} {J : Nat → Nat → Int64} {p : Bool × Option Nat} {ro : List (Nat × Nat × (Nat → Int32))} {n : Nat} (hn : I 1 4 = nI n) (hn8 : n ≤ 8) (w : Nat) (hw : gS[w]? = some (100, 8)) (k : Nat) (hk : k ≤ n) : Px 0 0 0 CX9_content 4 [some (.ref (1)), some (.ref (w)), some (.int ((sp_bits (fun l => decide (I 3 l ≤ I w l)) k))), some (.int (nI k))] [] (gS, I, J, gR p, ro) (qI (sp_bits (fun l => decide (I 3 l ≤ I w l)) n) (gS, I, J, gR p, ro)) := by
  refine px_iload_n (kk := 3) rfl rfl rfl ?_
  refine px_aload_n (kk := 0) rfl rfl rfl ?_
  refine px_getIe rfl gS_1 rfl hn ?_
  refine px_icmp_ge rfl (fun c7 => ?_) (fun c7 => ?_)
  · refine px_iload_n (kk := 2) rfl rfl rfl ?_
    refine px_ireturn rfl (.inl rfl) ?_
    rw [n_le (by omega) (by omega)] at c7
    obtain rfl : k = n := by omega
    exact ⟨rfl, rfl⟩
  · rw [n_le (by omega) (by omega)] at c7
    refine px_aload_n (kk := 1) rfl rfl rfl ?_
    refine px_iload_n (kk := 3) rfl rfl rfl ?_
    refine px_iald (j := k) rfl hw rfl (by omega) ?_
    refine px_aload_n (kk := 0) rfl rfl rfl ?_
    refine px_getR (r := 3) rfl gS_1 rfl (gR_1_1 _) ?_
    refine px_iload_n (kk := 3) rfl rfl rfl ?_
    refine px_iald (j := k) rfl gS_3 rfl (by omega) ?_
    refine px_icmp_lt rfl (fun c15 => ?_) (fun c15 => ?_)
    · refine px_iinc3 (v := nI (k + 1)) rfl (n_inc k) rfl (by decide) ?_
      refine px_goto rfl ?_
      rw [show (sp_bits (fun l => decide (I 3 l ≤ I w l)) k) = sp_bits (fun l => decide (I 3 l ≤ I w l)) (k + 1) by simp only [sp_bits]; rw [if_neg (by simpa using c15)]]
      exact lX9_content hn hn8 w hw (k + 1) (by omega)
    · refine px_iload_n (kk := 2) rfl rfl rfl ?_
      refine px_iconst (v := nI 1) rfl k_1 ?_
      refine px_iload_n (kk := 3) rfl rfl rfl ?_
      refine px_ishl rfl ?_
      refine px_ior rfl ?_
      refine px_ist2 rfl rfl (by decide) ?_
      refine px_iinc3 (v := nI (k + 1)) rfl (n_inc k) rfl (by decide) ?_
      refine px_goto rfl ?_
      rw [show (sp_bits (fun l => decide (I 3 l ≤ I w l)) k) ||| (nI 1 <<< (nI k &&& 31)) = sp_bits (fun l => decide (I 3 l ≤ I w l)) (k + 1) by simp only [sp_bits]; rw [if_pos (by simpa using c15)]]
      exact lX9_content hn hn8 w hw (k + 1) (by omega)
termination_by n - k
decreasing_by all_goals (have h := ‹¬ nI n ≤ nI k›; rw [n_le (by omega) (by omega)] at h; omega)
theorem vX9_content {I : Nat → Nat → Int32} {J : Nat → Nat → Int64} {p : Bool × Option Nat} {ro : List (Nat × Nat × (Nat → Int32))} {n : Nat} (hn : I 1 4 = nI n) (hn8 : n ≤ 8) (w : Nat) (hw : gS[w]? = some (100, 8)) : Pv 0 0 0 CX9_content [.ref (1), .ref (w)] (gS, I, J, gR p, ro) (qI (sp_bits (fun l => decide (I 3 l ≤ I w l)) n) (gS, I, J, gR p, ro)) := by
  refine ⟨okCX9_content, Nat.le_of_ble_eq_true rfl, (show Px _ _ _ _ 0 [some (.ref (1)), some (.ref (w)), none, none] [] _ _ from ?_)⟩
  refine px_iconst (v := nI 0) rfl k_0 ?_
  refine px_ist2 rfl rfl (by decide) ?_
  refine px_iconst (v := nI 0) rfl k_0 ?_
  refine px_ist3 rfl rfl (by decide) ?_
  exact lX9_content hn hn8 w hw 0 (by omega)
theorem lX9_sum {I : Nat → Nat → Int32} {J : Nat → Nat → Int64} {p : Bool × Option Nat} {ro : List (Nat × Nat × (Nat → Int32))} {n : Nat} (hn : I 1 4 = nI n) (hn8 : n ≤ 8) (w : Nat) (hw : gS[w]? = some (100, 8)) (k : Nat) (hk : k ≤ n) : Px 0 0 0 CX9_sum 4 [some (.ref (1)), some (.ref (w)), some (.int (sp_sum (I w) k)), some (.int (nI k))] [] (gS, I, J, gR p, ro) (qI (sp_sum (I w) n) (gS, I, J, gR p, ro)) := by
  refine px_iload_n (kk := 3) rfl rfl rfl ?_
  refine px_aload_n (kk := 0) rfl rfl rfl ?_
  refine px_getIe rfl gS_1 rfl hn ?_
  refine px_icmp_ge rfl (fun c7 => ?_) (fun c7 => ?_)
  · refine px_iload_n (kk := 2) rfl rfl rfl ?_
    refine px_ireturn rfl (.inl rfl) ?_
    rw [n_le (by omega) (by omega)] at c7
    obtain rfl : k = n := by omega
    exact ⟨rfl, rfl⟩
  · rw [n_le (by omega) (by omega)] at c7
    refine px_iload_n (kk := 2) rfl rfl rfl ?_
    refine px_aload_n (kk := 1) rfl rfl rfl ?_
    refine px_iload_n (kk := 3) rfl rfl rfl ?_
    refine px_iald (j := k) rfl hw rfl (by omega) ?_
    refine px_iadd rfl ?_
    refine px_ist2 rfl rfl (by decide) ?_
    refine px_iinc3 (v := nI (k + 1)) rfl (n_inc k) rfl (by decide) ?_
    refine px_goto rfl ?_
    exact lX9_sum hn hn8 w hw (k + 1) (by omega)
termination_by n - k
decreasing_by all_goals (have h := ‹¬ nI n ≤ nI k›; rw [n_le (by omega) (by omega)] at h; omega)
theorem vX9_sum {I : Nat → Nat → Int32} {J : Nat → Nat → Int64} {p : Bool × Option Nat} {ro : List (Nat × Nat × (Nat → Int32))} {n : Nat} (hn : I 1 4 = nI n) (hn8 : n ≤ 8) (w : Nat) (hw : gS[w]? = some (100, 8)) : Pv 0 0 0 CX9_sum [.ref (1), .ref (w)] (gS, I, J, gR p, ro) (qI (sp_sum (I w) n) (gS, I, J, gR p, ro)) := by
  refine ⟨okCX9_sum, Nat.le_of_ble_eq_true rfl, (show Px _ _ _ _ 0 [some (.ref (1)), some (.ref (w)), none, none] [] _ _ from ?_)⟩
  refine px_iconst (v := nI 0) rfl k_0 ?_
  refine px_ist2 rfl rfl (by decide) ?_
  refine px_iconst (v := nI 0) rfl k_0 ?_
  refine px_ist3 rfl rfl (by decide) ?_
  exact lX9_sum hn hn8 w hw 0 (by omega)
