/-! THE LAW'S TEXT, READ: one grammar for both. c: the bytes, 256 behind the end -/
def lvN (b : Nat) : Nat := if b = 124 then 0 else if b = 38 then 1 else if b = 60 ∨ b = 61 ∨ b = 62 then 2 else if b = 43 ∨ b = 45 then 3 else if b = 42 ∨ b = 47 ∨ b = 37 then 4 else 9
def bnN (b : Nat) : Nat := if b = 124 then 0 else if b = 38 then 1 else if b = 60 then 2 else if b = 61 then 3 else if b = 62 then 4 else if b = 43 then 5 else if b = 45 then 6 else if b = 42 then 7 else if b = 47 then 8 else 9
def nmN (b : Nat) : Nat := if b = 108 then 0 else if b = 119 then 1 else if b = 111 then 2 else if b = 104 then 3 else if b = 99 then 4 else if b = 112 then 5 else 9
def dg (b : Nat) : Bool := decide (48 ≤ b ∧ b ≤ 57)
/-- where it ends, and what was read; none: the fault is there -/
abbrev PR0 : Type := Nat × Option (List Tk)
def sp_lp (c : Nat → Nat) (lev : Nat) (g : Nat → PR0) : Nat → Nat → List Tk → PR0
  | 0, p, t => (p, some t)
  | n + 1, p, t => if lvN (c p) = lev then (match g (p + 1) with
      | (q, none) => (q, none)
      | (q, some u) => if lev = 2 then (q, some (t ++ u ++ [(3, bnN (c p))])) else sp_lp c lev g n q (t ++ u ++ [(3, bnN (c p))])) else (p, some t)
def sp_lv (c : Nat → Nat) (op : Nat → PR0) : Nat → Nat → PR0
  | 0, p => op p
  | k + 1, p => match sp_lv c op k p with
    | (q, none) => (q, none)
    | (q, some t) => sp_lp c (4 - k) (sp_lv c op k) 121 q t
def sp_dgs (c : Nat → Nat) : Nat → Nat → Nat → Nat × Nat
  | 0, p, v => (p, v)
  | n + 1, p, v => if dg (c p) = true then sp_dgs c n (p + 1) (v * 10 + (c p - 48)) else (p, v)
def sp_op (c : Nat → Nat) : Nat → Nat → PR0
  | 0, p => if dg (c p) = true then ((sp_dgs c 4 p 0).1, some [(0, (sp_dgs c 4 p 0).2)]) else if nmN (c p) < 6 then (p + 1, some [(1, nmN (c p))]) else (p, none)
  | r + 1, p => if dg (c p) = true then ((sp_dgs c 4 p 0).1, some [(0, (sp_dgs c 4 p 0).2)]) else if nmN (c p) < 6 then (p + 1, some [(1, nmN (c p))]) else
    if c p = 40 then (match sp_lv c (sp_op c r) 5 (p + 1) with
      | (q, none) => (q, none)
      | (q, some t) => if c q = 41 then (q + 1, some t) else (q, none))
    else if c p = 33 ∨ c p = 45 then (match sp_op c r (p + 1) with
      | (q, none) => (q, none)
      | (q, some t) => (q, some (t ++ [(2, if c p = 33 then 0 else 1)])))
    else (p, none)
abbrev sp_E (c : Nat → Nat) : Nat → PR0 := sp_lv c (sp_op c 6) 5
def sp_ln (c : Nat → Nat) (p : Nat) : Nat × Option Ln := match sp_E c p with
  | (q, none) => (q, none)
  | (q, some t) => if c q = 63 then (match sp_E c (q + 1) with
      | (r, none) => (r, none)
      | (r, some u) => (r, some (t, u))) else (q, some ([], t))
def sp_tx (c : Nat → Nat) : Nat → Nat → List Ln → Nat × Option (List Ln)
  | 0, p, _ => (p, none)
  | n + 1, p, a => match sp_ln c p with
    | (q, none) => (q, none)
    | (q, some l) => if c q = 256 then (q, some (a ++ [l])) else if c q = 59 then sp_tx c n (q + 1) (a ++ [l]) else (q, none)
/-- a tape of T bytes -/
def TP (c : Nat → Nat) (T : Nat) : Prop := T ≤ 120 ∧ (∀ j, j < T → c j < 256) ∧ ∀ j, T ≤ j → c j = 256
theorem TP_lt {c : Nat → Nat} {T p : Nat} (h : TP c T) (hp : c p ≠ 256) : p < T := by
  rcases Nat.lt_or_ge p T with a | a
  · exact a
  · exact absurd (h.2.2 p a) hp
theorem TP_b {c : Nat → Nat} {T : Nat} (h : TP c T) (p : Nat) : c p < 257 := by
  rcases Nat.lt_or_ge p T with a | a
  · exact Nat.lt_succ_of_lt (h.2.1 p a)
  · rw [h.2.2 p a]; decide
def PGr (R : PR0) (p T : Nat) : Prop := (∀ q t, R = (q, some t) → p < q ∧ q ≤ T ∧ t.length + p ≤ q ∧ 0 < t.length) ∧ ∀ q, R = (q, none) → p ≤ q ∧ q ≤ T
theorem lvN_9 : lvN 256 = 9 := by decide
theorem nmN_9 : nmN 256 = 9 := by decide
theorem dg_9 : dg 256 = false := by decide
theorem sp_lp_g {c : Nat → Nat} {T : Nat} (hT : TP c T) {lev : Nat} (hl : lev < 5) {g : Nat → PR0} (hg : ∀ p, p ≤ T → PGr (g p) p T) : ∀ (n p : Nat) (t : List Tk) (p0 : Nat), p0 < p → p ≤ T → t.length + p0 ≤ p → 0 < t.length → PGr (sp_lp c lev g n p t) p0 T
  | 0, p, t, p0, h0, hp, ht, ht0 => ⟨fun q u e => by cases e; exact ⟨h0, hp, ht, ht0⟩, fun q e => by cases e⟩
  | n + 1, p, t, p0, h0, hp, ht, ht0 => by
    unfold sp_lp
    by_cases h : lvN (c p) = lev
    · rw [if_pos h]
      have hpT : p < T := TP_lt hT (fun e => by rw [e, lvN_9] at h; omega)
      have hG := hg (p + 1) hpT
      generalize g (p + 1) = R at hG ⊢
      obtain ⟨q, _ | u⟩ := R
      · exact ⟨fun q u e => (by cases e), fun q e => by cases e; have := hG.2 q rfl; exact ⟨by omega, this.2⟩⟩
      · have h1 := hG.1 q u rfl
        by_cases h2 : lev = 2
        · simp only [if_pos h2]
          exact ⟨fun q u e => by cases e; simp only [List.length_append, List.length_cons, List.length_nil]; omega, fun q e => by cases e⟩
        · simp only [if_neg h2]
          refine sp_lp_g hT hl hg n q _ p0 (by omega) h1.2.1 ?_ ?_
          · simp only [List.length_append, List.length_cons, List.length_nil]; omega
          · simp only [List.length_append, List.length_cons, List.length_nil]; omega
    · rw [if_neg h]
      exact ⟨fun q u e => by cases e; exact ⟨h0, hp, ht, ht0⟩, fun q e => by cases e⟩
theorem sp_lv_g {c : Nat → Nat} {T : Nat} (hT : TP c T) {op : Nat → PR0} (hop : ∀ p, p ≤ T → PGr (op p) p T) : ∀ k, k ≤ 5 → ∀ p, p ≤ T → PGr (sp_lv c op k p) p T
  | 0, _, p, hp => hop p hp
  | k + 1, hk, p, hp => by
    have ih := sp_lv_g hT hop k (by omega)
    have hG := ih p hp
    unfold sp_lv
    generalize sp_lv c op k p = R at hG ⊢
    obtain ⟨q, _ | t⟩ := R
    · exact ⟨fun q u e => (by cases e), fun q e => by cases e; exact hG.2 q rfl⟩
    · have h1 := hG.1 q t rfl
      exact sp_lp_g hT (by omega) ih 121 q t p h1.1 h1.2.1 h1.2.2.1 h1.2.2.2
theorem sp_dgs_g {c : Nat → Nat} {T : Nat} (hT : TP c T) : ∀ (n p v : Nat), p ≤ T → p ≤ (sp_dgs c n p v).1 ∧ (sp_dgs c n p v).1 ≤ T
  | 0, p, v, hp => ⟨Nat.le_refl _, hp⟩
  | n + 1, p, v, hp => by
    unfold sp_dgs
    by_cases h : dg (c p) = true
    · rw [if_pos h]
      have hpT : p < T := TP_lt hT (fun e => by rw [e, dg_9] at h; cases h)
      have := sp_dgs_g hT n (p + 1) (v * 10 + (c p - 48)) hpT
      omega
    · rw [if_neg h]; exact ⟨Nat.le_refl _, hp⟩
theorem sp_dgs_1 {c : Nat → Nat} {T : Nat} (hT : TP c T) {n p : Nat} (h : dg (c p) = true) (v : Nat) : p < (sp_dgs c (n + 1) p v).1 ∧ (sp_dgs c (n + 1) p v).1 ≤ T := by
  unfold sp_dgs
  rw [if_pos h]
  have hpT : p < T := TP_lt hT (fun e => by rw [e, dg_9] at h; cases h)
  have := sp_dgs_g hT n (p + 1) (v * 10 + (c p - 48)) hpT
  omega
theorem sp_op_g {c : Nat → Nat} {T : Nat} (hT : TP c T) : ∀ (r p : Nat), p ≤ T → PGr (sp_op c r p) p T := by
  have base : ∀ p, p ≤ T → ∀ R : PR0, (dg (c p) = true → R = ((sp_dgs c 4 p 0).1, some [(0, (sp_dgs c 4 p 0).2)])) → (dg (c p) = false → nmN (c p) < 6 → R = (p + 1, some [(1, nmN (c p))])) → (dg (c p) = false → ¬ nmN (c p) < 6 → PGr R p T) → PGr R p T := by
    intro p hp R h1 h2 h3
    by_cases a : dg (c p) = true
    · rw [h1 a]
      have this : p < (sp_dgs c 4 p 0).1 ∧ (sp_dgs c 4 p 0).1 ≤ T := sp_dgs_1 (n := 3) hT a 0
      exact ⟨fun q t e => by cases e; exact ⟨this.1, this.2, by show 1 + p ≤ _; omega, Nat.succ_pos 0⟩, fun q e => by cases e⟩
    · have a' : dg (c p) = false := by cases h : dg (c p) <;> simp_all
      by_cases b : nmN (c p) < 6
      · rw [h2 a' b]
        have hpT : p < T := TP_lt hT (fun e => by rw [e, nmN_9] at b; omega)
        exact ⟨fun q t e => by cases e; exact ⟨Nat.lt_succ_self _, hpT, by show 1 + p ≤ _; omega, Nat.succ_pos 0⟩, fun q e => by cases e⟩
      · exact h3 a' b
  have stay : ∀ p, p ≤ T → PGr ((p, none) : PR0) p T := fun p hp => ⟨fun q t e => (by cases e), fun q e => by cases e; exact ⟨Nat.le_refl _, hp⟩⟩
  intro r
  induction r with
  | zero =>
    intro p hp
    refine base p hp _ (fun a => by rw [sp_op, if_pos a]) (fun a b => by rw [sp_op, if_neg (by rw [a]; decide), if_pos b]) (fun a b => ?_)
    rw [sp_op, if_neg (by rw [a]; decide), if_neg b]
    exact stay p hp
  | succ r ih =>
    intro p hp
    refine base p hp _ (fun a => by rw [sp_op, if_pos a]) (fun a b => by rw [sp_op, if_neg (by rw [a]; decide), if_pos b]) (fun a b => ?_)
    rw [sp_op, if_neg (by rw [a]; decide), if_neg b]
    by_cases h4 : c p = 40
    · rw [if_pos h4]
      have hpT : p < T := TP_lt hT (by rw [h4]; decide)
      have hG := sp_lv_g hT ih 5 (Nat.le_refl _) (p + 1) hpT
      generalize sp_lv c (sp_op c r) 5 (p + 1) = R at hG ⊢
      obtain ⟨q, _ | t⟩ := R
      · exact ⟨fun q t e => (by cases e), fun q e => by cases e; have := hG.2 q rfl; exact ⟨by omega, this.2⟩⟩
      · have h1 := hG.1 q t rfl
        by_cases h5 : c q = 41
        · simp only [if_pos h5]
          have hqT : q < T := TP_lt hT (by rw [h5]; decide)
          exact ⟨fun q t e => by cases e; exact ⟨by omega, hqT, by omega, h1.2.2.2⟩, fun q e => by cases e⟩
        · simp only [if_neg h5]
          exact ⟨fun q t e => (by cases e), fun q e => by cases e; exact ⟨by omega, h1.2.1⟩⟩
    · rw [if_neg h4]
      by_cases h5 : c p = 33 ∨ c p = 45
      · rw [if_pos h5]
        have hpT : p < T := TP_lt hT (by rcases h5 with e | e <;> rw [e] <;> decide)
        have hG := ih (p + 1) hpT
        generalize sp_op c r (p + 1) = R at hG ⊢
        obtain ⟨q, _ | t⟩ := R
        · exact ⟨fun q t e => (by cases e), fun q e => by cases e; have := hG.2 q rfl; exact ⟨by omega, this.2⟩⟩
        · have h1 := hG.1 q t rfl
          exact ⟨fun q t e => by cases e; simp only [List.length_append, List.length_cons, List.length_nil]; omega, fun q e => by cases e⟩
      · rw [if_neg h5]
        exact stay p hp
theorem sp_E_g {c : Nat → Nat} {T : Nat} (hT : TP c T) {p : Nat} (hp : p ≤ T) : PGr (sp_E c p) p T := sp_lv_g hT (sp_op_g hT 6) 5 (Nat.le_refl _) p hp
/-! the stack's depth -/
theorem dpt_app : ∀ {a b : List Tk} {d e f : Nat}, dpt a d e → dpt b e f → dpt (a ++ b) d f
  | [], b, d, e, f, ha, hb => by
    have : e = d := ha
    subst this; exact hb
  | t :: a, b, d, e, f, ha, hb => by
    refine ⟨ha.1, ?_⟩
    rcases ha.2 with ⟨h1, h2, h3⟩ | ⟨h1, h2, h3⟩ | ⟨h1, h2, h3⟩
    · exact .inl ⟨h1, h2, dpt_app h3 hb⟩
    · exact .inr (.inl ⟨h1, h2, dpt_app h3 hb⟩)
    · exact .inr (.inr ⟨h1, h2, dpt_app h3 hb⟩)
theorem bnN_10 (b : Nat) : bnN b < 10 := by
  unfold bnN
  repeat' split
  all_goals decide
/-- what is read is a value on any stack that is not too deep -/
def PDp (R : PR0) (w : Nat) : Prop := ∀ q t, R = (q, some t) → ∀ d, d + w < 100 → dpt t d (d + 1)
theorem sp_lp_d {c : Nat → Nat} {lev w : Nat} {g : Nat → PR0} (hg : ∀ p, PDp (g p) w) : ∀ (n p : Nat) (t : List Tk), (∀ d, d + (w + 1) < 100 → dpt t d (d + 1)) → PDp (sp_lp c lev g n p t) (w + 1)
  | 0, p, t, ht => fun q u e => by cases e; exact ht
  | n + 1, p, t, ht => by
    unfold sp_lp
    by_cases h : lvN (c p) = lev
    · rw [if_pos h]
      have hG := hg (p + 1)
      generalize g (p + 1) = R at hG ⊢
      obtain ⟨q, _ | u⟩ := R
      · exact fun q u e => by cases e
      · have key : ∀ d, d + (w + 1) < 100 → dpt (t ++ u ++ [(3, bnN (c p))]) d (d + 1) := fun d hd =>
          dpt_app (dpt_app (ht d hd) (hG q u rfl (d + 1) (by omega))) ⟨bnN_10 _, .inr (.inr ⟨rfl, by omega, rfl⟩)⟩
        by_cases h2 : lev = 2
        · simp only [if_pos h2]; exact fun q u e => by cases e; exact key
        · simp only [if_neg h2]; exact sp_lp_d hg n q _ key
    · rw [if_neg h]
      exact fun q u e => by cases e; exact ht
theorem PDp_mono {R : PR0} {w v : Nat} (h : PDp R w) (hv : w ≤ v) : PDp R v := fun q t e d hd => h q t e d (by omega)
theorem sp_lv_d {c : Nat → Nat} {w : Nat} {op : Nat → PR0} (hop : ∀ p, PDp (op p) w) : ∀ k p, PDp (sp_lv c op k p) (w + k)
  | 0, p => hop p
  | k + 1, p => by
    have ih := sp_lv_d (c := c) hop k
    have hG := ih p
    unfold sp_lv
    generalize sp_lv c op k p = R at hG ⊢
    obtain ⟨q, _ | t⟩ := R
    · exact fun q u e => by cases e
    · exact sp_lp_d ih 121 q t (fun d hd => hG q t rfl d (by omega))
theorem dg_b {b : Nat} (h : dg b = true) : 48 ≤ b ∧ b ≤ 57 := by unfold dg at h; simpa using h
theorem sp_dgs_v {c : Nat → Nat} : ∀ (n p v w : Nat), v < w → (sp_dgs c n p v).2 < w * 10 ^ n
  | 0, p, v, w, h => by simpa [sp_dgs] using h
  | n + 1, p, v, w, h => by
    unfold sp_dgs
    by_cases hd : dg (c p) = true
    · rw [if_pos hd]
      have := dg_b hd
      have h2 := sp_dgs_v (c := c) n (p + 1) (v * 10 + (c p - 48)) (w * 10) (by omega)
      rw [Nat.pow_succ, Nat.mul_comm (10 ^ n) 10, ← Nat.mul_assoc]
      exact h2
    · rw [if_neg hd]
      have : 1 ≤ 10 ^ (n + 1) := Nat.pow_pos (by decide)
      exact Nat.lt_of_lt_of_le h (Nat.le_mul_of_pos_right w this)
theorem sp_op_d {c : Nat → Nat} : ∀ (r p : Nat), PDp (sp_op c r p) (5 * r) := by
  have base : ∀ (w p : Nat) (R : PR0), (dg (c p) = true → R = ((sp_dgs c 4 p 0).1, some [(0, (sp_dgs c 4 p 0).2)])) → (dg (c p) = false → nmN (c p) < 6 → R = (p + 1, some [(1, nmN (c p))])) → (dg (c p) = false → ¬ nmN (c p) < 6 → PDp R w) → PDp R w := by
    intro w p R h1 h2 h3
    by_cases a : dg (c p) = true
    · rw [h1 a]
      exact fun q t e d hd => by cases e; exact ⟨sp_dgs_v (c := c) 4 p 0 1 (by decide), .inl ⟨(by decide : 0 < 2), by omega, rfl⟩⟩
    · have a' : dg (c p) = false := by cases h : dg (c p) <;> simp_all
      by_cases b : nmN (c p) < 6
      · rw [h2 a' b]
        exact fun q t e d hd => by cases e; exact ⟨b, .inl ⟨(by decide : 1 < 2), by omega, rfl⟩⟩
      · exact h3 a' b
  intro r
  induction r with
  | zero =>
    intro p
    refine base _ p _ (fun a => by rw [sp_op, if_pos a]) (fun a b => by rw [sp_op, if_neg (by rw [a]; decide), if_pos b]) (fun a b => ?_)
    rw [sp_op, if_neg (by rw [a]; decide), if_neg b]
    exact fun q t e => by cases e
  | succ r ih =>
    intro p
    refine base _ p _ (fun a => by rw [sp_op, if_pos a]) (fun a b => by rw [sp_op, if_neg (by rw [a]; decide), if_pos b]) (fun a b => ?_)
    rw [sp_op, if_neg (by rw [a]; decide), if_neg b]
    by_cases h4 : c p = 40
    · rw [if_pos h4]
      have hG := sp_lv_d (c := c) ih 5 (p + 1)
      generalize sp_lv c (sp_op c r) 5 (p + 1) = R at hG ⊢
      obtain ⟨q, _ | t⟩ := R
      · exact fun q t e => by cases e
      · by_cases h5 : c q = 41
        · simp only [if_pos h5]; exact fun q t e => by cases e; exact fun d hd => hG _ _ rfl d (by omega)
        · simp only [if_neg h5]; exact fun q t e => by cases e
    · rw [if_neg h4]
      by_cases h5 : c p = 33 ∨ c p = 45
      · rw [if_pos h5]
        have hG := ih (p + 1)
        generalize sp_op c r (p + 1) = R at hG ⊢
        obtain ⟨q, _ | t⟩ := R
        · exact fun q t e => by cases e
        · intro q2 t2 e d hd
          cases e
          refine dpt_app (hG q t rfl d (by omega)) ⟨?_, .inr (.inl ⟨rfl, by omega, rfl⟩)⟩
          show (if c p = 33 then 0 else 1) < 2
          split <;> decide
      · rw [if_neg h5]
        exact fun q t e => by cases e
theorem sp_E_d {c : Nat → Nat} {p q : Nat} {t : List Tk} (h : sp_E c p = (q, some t)) : dpt t 0 1 := sp_lv_d (c := c) (fun p => sp_op_d 6 p) 5 p q t h 0 (by decide)
