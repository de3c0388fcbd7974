/-! BODIES -/
def fOWN (j : Nat) : Int32 := ([nI 1, nI 10, nI 11, nI 2, nI 20, nI 0, nI 0, nI 0, nI 0, nI 30, nI 0, nI 0, nI 0, nI 41, nI 40, nI 0, nI 0, nI 0, nI 0, nI 50, nI 0, nI 0, nI 60, nI 61, nI 70, nI 0, nI 0, nI 0, nI 81, nI 80, nI 0, nI 0] : List Int32).getD j 0
def fABOVE (j : Nat) : Int32 := ([-1, nI 0, nI 0, nI 2, nI 1, nI 3, nI 0, nI 6] : List Int32).getD j 0
theorem px_roalde {d mc ms : Nat} {cd : pm_C} {i b : Nat} {con : Int} {ls : List (Option Value)} {st : List Value} {Sh : List (Nat × Nat)} {I : Nat → Nat → Int32} {J : Nat → Nat → Int64} {R : Nat → Nat → Option Nat} {ro : List (Nat × Nat × (Nat → Int32))} {Q : Option Value → pm_M → Prop} {q N j : Nat} {x v : Int32} {f : Nat → Int32} {xs : List Nat} (h : (cdE cd)[i]? = some (b, 1, .iaload, xs, con)) (hm : (q, N, f) ∈ ro) (hj : x = nI j) (hjn : j < N) (hv : f j = v) (kk : Px d mc ms cd (i + 1) ls (.int v :: st) (Sh, I, J, R, ro) Q) : Px d mc ms cd i ls (.int x :: .ref q :: st) (Sh, I, J, R, ro) Q := px_roald h hm hj hjn (hv ▸ kk)
def RO (ro : List (Nat × Nat × (Nat → Int32))) : Prop := (1000, 32, fOWN) ∈ ro ∧ (1001, 8, fABOVE) ∈ ro
/-- the trace, and how many ran -/
abbrev TS : Type := (Nat → Int32) × Nat
def sp_nt (t : TS) (v : Nat) : TS := (if t.2 < 24 then va_up t.1 t.2 (nI v) else t.1, t.2 + 1)
def sp_nts (t : TS) (l : List Nat) : TS := l.foldl sp_nt t
theorem sp_nts_2 (t : TS) : ∀ l, (sp_nts t l).2 = t.2 + l.length := by
  intro l
  induction l generalizing t with
  | nil => rfl
  | cons a l ih =>
    show (sp_nts (sp_nt t a) l).2 = _
    rw [ih]
    simp [sp_nt]
    omega
theorem sp_nts_a (t : TS) (a b : List Nat) : sp_nts (sp_nts t a) b = sp_nts t (a ++ b) := by
  unfold sp_nts
  rw [List.foldl_append]
def BR (I : Nat → Nat → Int32) (t : TS) (I1 : Nat → Nat → Int32) : Prop := Fr [49, 51] I I1 ∧ (∀ k, k ≠ 3 → I1 49 k = I 49 k) ∧ I1 49 3 = nI t.2 ∧ I1 51 = t.1
theorem vX0_note {I : Nat → Nat → Int32} {J : Nat → Nat → Int64} {p : Bool × Option Nat} {ro : List (Nat × Nat × (Nat → Int32))} {t : TS} {I1 : Nat → Nat → Int32} (hB : BR I t I1) (ht : t.2 < 2 ^ 30) {v : Nat} : Pv 0 0 0 CX0_note [.ref (49), .int (nI v)] (gS, I1, J, gR p, ro) (fun r S' => r = none ∧ ∃ I', S' = (gS, I', J, gR p, ro) ∧ BR I (sp_nt t v) I') := by
  refine ⟨okCX0_note, Nat.le_of_ble_eq_true rfl, (show Px _ _ _ _ 0 [some (.ref (49)), some (.int (nI v))] [] _ _ from ?_)⟩
  refine px_aload_n (kk := 0) rfl rfl rfl ?_
  refine px_getIe rfl gS_49 rfl (by first | exact hB.2.2.1 | exact ((congrFun (p_up_n _ _ (by decide)) 3).trans hB.2.2.1)) ?_
  refine px_bipush (v := nI 24) rfl b_24 ?_
  refine px_icmp_ge rfl (fun c3 => ?_) (fun c3 => ?_)
  · refine px_aload_n (kk := 0) rfl rfl rfl ?_
    refine px_dup rfl rfl ?_
    refine px_getIe rfl gS_49 rfl (by first | exact hB.2.2.1 | exact ((congrFun (p_up_n _ _ (by decide)) 3).trans hB.2.2.1)) ?_
    refine px_iconst (v := nI 1) rfl k_1 ?_
    refine px_iaddN rfl ?_
    refine px_putI rfl gS_49 rfl rfl ?_
    refine px_return rfl rfl ?_
    refine ⟨rfl, _, rfl, Fr_up hB.1 (by decide) _, fun k hk => by rw [p_up_s, p_up_n _ _ hk]; exact hB.2.1 k hk, by rw [p_up_s, p_up_s]; rfl, ?_⟩
    rw [n_le (by omega) (by omega)] at c3
    rw [p_up_n _ _ (by decide), sp_nt, if_neg (by omega)]
    exact hB.2.2.2
  · rw [n_le (by omega) (by omega)] at c3
    refine px_aload_n (kk := 0) rfl rfl rfl ?_
    refine px_getR (r := 51) rfl gS_49 rfl (gR_49_1 _) ?_
    refine px_aload_n (kk := 0) rfl rfl rfl ?_
    refine px_getIe rfl gS_49 rfl (by first | exact hB.2.2.1 | exact ((congrFun (p_up_n _ _ (by decide)) 3).trans hB.2.2.1)) ?_
    refine px_iload_n (kk := 1) rfl rfl rfl ?_
    refine px_iast (j := t.2) rfl gS_51 rfl (by omega) ?_
    refine px_aload_n (kk := 0) rfl rfl rfl ?_
    refine px_dup rfl rfl ?_
    refine px_getIe rfl gS_49 rfl (by first | exact hB.2.2.1 | exact ((congrFun (p_up_n _ _ (by decide)) 3).trans hB.2.2.1)) ?_
    refine px_iconst (v := nI 1) rfl k_1 ?_
    refine px_iaddN rfl ?_
    refine px_putI rfl gS_49 rfl rfl ?_
    refine px_return rfl rfl ?_
    refine ⟨rfl, _, rfl, Fr_up (Fr_up hB.1 (by decide) _) (by decide) _, fun k hk => by rw [p_up_s, p_up_n _ _ hk, p_up_n _ _ (by decide)]; exact hB.2.1 k hk, by rw [p_up_s, p_up_s]; rfl, ?_⟩
    rw [p_up_n _ _ (by decide), p_up_s, sp_nt, if_pos (by omega), hB.2.2.2]
theorem vX0_isKind_0 {I : Nat → Nat → Int32} {J : Nat → Nat → Int64} {p : Bool × Option Nat} {ro : List (Nat × Nat × (Nat → Int32))}  : Pv 0 0 0 CX0_isKind [.int (nI 0)] (gS, I, J, gR p, ro) (qI (nI 1) (gS, I, J, gR p, ro)) := by
  refine ⟨okCX0_isKind, Nat.le_of_ble_eq_true rfl, (show Px _ _ _ _ 0 [some (.int (nI 0))] [] _ _ from ?_)⟩
  refine px_iload_n (kk := 0) rfl rfl rfl ?_
  refine px_if_lt rfl (fun h => absurd h (by decide)) (fun _ => ?_)
  refine px_iload_n (kk := 0) rfl rfl rfl ?_
  refine px_bipush (v := nI 8) rfl b_8 ?_
  refine px_icmp_ge rfl (fun h => absurd h (by decide)) (fun _ => ?_)
  refine px_iconst (v := nI 1) rfl k_1 ?_
  refine px_goto rfl ?_
  refine px_ireturn rfl (.inr ⟨rfl, by decide⟩) ?_
  exact ⟨rfl, rfl⟩
theorem vX0_isKind_1 {I : Nat → Nat → Int32} {J : Nat → Nat → Int64} {p : Bool × Option Nat} {ro : List (Nat × Nat × (Nat → Int32))}  : Pv 0 0 0 CX0_isKind [.int (nI 1)] (gS, I, J, gR p, ro) (qI (nI 1) (gS, I, J, gR p, ro)) := by
  refine ⟨okCX0_isKind, Nat.le_of_ble_eq_true rfl, (show Px _ _ _ _ 0 [some (.int (nI 1))] [] _ _ from ?_)⟩
  refine px_iload_n (kk := 0) rfl rfl rfl ?_
  refine px_if_lt rfl (fun h => absurd h (by decide)) (fun _ => ?_)
  refine px_iload_n (kk := 0) rfl rfl rfl ?_
  refine px_bipush (v := nI 8) rfl b_8 ?_
  refine px_icmp_ge rfl (fun h => absurd h (by decide)) (fun _ => ?_)
  refine px_iconst (v := nI 1) rfl k_1 ?_
  refine px_goto rfl ?_
  refine px_ireturn rfl (.inr ⟨rfl, by decide⟩) ?_
  exact ⟨rfl, rfl⟩
theorem vX0_isKind_2 {I : Nat → Nat → Int32} {J : Nat → Nat → Int64} {p : Bool × Option Nat} {ro : List (Nat × Nat × (Nat → Int32))}  : Pv 0 0 0 CX0_isKind [.int (nI 2)] (gS, I, J, gR p, ro) (qI (nI 1) (gS, I, J, gR p, ro)) := by
  refine ⟨okCX0_isKind, Nat.le_of_ble_eq_true rfl, (show Px _ _ _ _ 0 [some (.int (nI 2))] [] _ _ from ?_)⟩
  refine px_iload_n (kk := 0) rfl rfl rfl ?_
  refine px_if_lt rfl (fun h => absurd h (by decide)) (fun _ => ?_)
  refine px_iload_n (kk := 0) rfl rfl rfl ?_
  refine px_bipush (v := nI 8) rfl b_8 ?_
  refine px_icmp_ge rfl (fun h => absurd h (by decide)) (fun _ => ?_)
  refine px_iconst (v := nI 1) rfl k_1 ?_
  refine px_goto rfl ?_
  refine px_ireturn rfl (.inr ⟨rfl, by decide⟩) ?_
  exact ⟨rfl, rfl⟩
theorem vX0_isKind_3 {I : Nat → Nat → Int32} {J : Nat → Nat → Int64} {p : Bool × Option Nat} {ro : List (Nat × Nat × (Nat → Int32))}  : Pv 0 0 0 CX0_isKind [.int (nI 3)] (gS, I, J, gR p, ro) (qI (nI 1) (gS, I, J, gR p, ro)) := by
  refine ⟨okCX0_isKind, Nat.le_of_ble_eq_true rfl, (show Px _ _ _ _ 0 [some (.int (nI 3))] [] _ _ from ?_)⟩
  refine px_iload_n (kk := 0) rfl rfl rfl ?_
  refine px_if_lt rfl (fun h => absurd h (by decide)) (fun _ => ?_)
  refine px_iload_n (kk := 0) rfl rfl rfl ?_
  refine px_bipush (v := nI 8) rfl b_8 ?_
  refine px_icmp_ge rfl (fun h => absurd h (by decide)) (fun _ => ?_)
  refine px_iconst (v := nI 1) rfl k_1 ?_
  refine px_goto rfl ?_
  refine px_ireturn rfl (.inr ⟨rfl, by decide⟩) ?_
  exact ⟨rfl, rfl⟩
theorem vX0_isKind_4 {I : Nat → Nat → Int32} {J : Nat → Nat → Int64} {p : Bool × Option Nat} {ro : List (Nat × Nat × (Nat → Int32))}  : Pv 0 0 0 CX0_isKind [.int (nI 4)] (gS, I, J, gR p, ro) (qI (nI 1) (gS, I, J, gR p, ro)) := by
  refine ⟨okCX0_isKind, Nat.le_of_ble_eq_true rfl, (show Px _ _ _ _ 0 [some (.int (nI 4))] [] _ _ from ?_)⟩
  refine px_iload_n (kk := 0) rfl rfl rfl ?_
  refine px_if_lt rfl (fun h => absurd h (by decide)) (fun _ => ?_)
  refine px_iload_n (kk := 0) rfl rfl rfl ?_
  refine px_bipush (v := nI 8) rfl b_8 ?_
  refine px_icmp_ge rfl (fun h => absurd h (by decide)) (fun _ => ?_)
  refine px_iconst (v := nI 1) rfl k_1 ?_
  refine px_goto rfl ?_
  refine px_ireturn rfl (.inr ⟨rfl, by decide⟩) ?_
  exact ⟨rfl, rfl⟩
theorem vX0_isKind_5 {I : Nat → Nat → Int32} {J : Nat → Nat → Int64} {p : Bool × Option Nat} {ro : List (Nat × Nat × (Nat → Int32))}  : Pv 0 0 0 CX0_isKind [.int (nI 5)] (gS, I, J, gR p, ro) (qI (nI 1) (gS, I, J, gR p, ro)) := by
  refine ⟨okCX0_isKind, Nat.le_of_ble_eq_true rfl, (show Px _ _ _ _ 0 [some (.int (nI 5))] [] _ _ from ?_)⟩
  refine px_iload_n (kk := 0) rfl rfl rfl ?_
  refine px_if_lt rfl (fun h => absurd h (by decide)) (fun _ => ?_)
  refine px_iload_n (kk := 0) rfl rfl rfl ?_
  refine px_bipush (v := nI 8) rfl b_8 ?_
  refine px_icmp_ge rfl (fun h => absurd h (by decide)) (fun _ => ?_)
  refine px_iconst (v := nI 1) rfl k_1 ?_
  refine px_goto rfl ?_
  refine px_ireturn rfl (.inr ⟨rfl, by decide⟩) ?_
  exact ⟨rfl, rfl⟩
theorem vX0_isKind_6 {I : Nat → Nat → Int32} {J : Nat → Nat → Int64} {p : Bool × Option Nat} {ro : List (Nat × Nat × (Nat → Int32))}  : Pv 0 0 0 CX0_isKind [.int (nI 6)] (gS, I, J, gR p, ro) (qI (nI 1) (gS, I, J, gR p, ro)) := by
  refine ⟨okCX0_isKind, Nat.le_of_ble_eq_true rfl, (show Px _ _ _ _ 0 [some (.int (nI 6))] [] _ _ from ?_)⟩
  refine px_iload_n (kk := 0) rfl rfl rfl ?_
  refine px_if_lt rfl (fun h => absurd h (by decide)) (fun _ => ?_)
  refine px_iload_n (kk := 0) rfl rfl rfl ?_
  refine px_bipush (v := nI 8) rfl b_8 ?_
  refine px_icmp_ge rfl (fun h => absurd h (by decide)) (fun _ => ?_)
  refine px_iconst (v := nI 1) rfl k_1 ?_
  refine px_goto rfl ?_
  refine px_ireturn rfl (.inr ⟨rfl, by decide⟩) ?_
  exact ⟨rfl, rfl⟩
theorem vX0_isKind_7 {I : Nat → Nat → Int32} {J : Nat → Nat → Int64} {p : Bool × Option Nat} {ro : List (Nat × Nat × (Nat → Int32))}  : Pv 0 0 0 CX0_isKind [.int (nI 7)] (gS, I, J, gR p, ro) (qI (nI 1) (gS, I, J, gR p, ro)) := by
  refine ⟨okCX0_isKind, Nat.le_of_ble_eq_true rfl, (show Px _ _ _ _ 0 [some (.int (nI 7))] [] _ _ from ?_)⟩
  refine px_iload_n (kk := 0) rfl rfl rfl ?_
  refine px_if_lt rfl (fun h => absurd h (by decide)) (fun _ => ?_)
  refine px_iload_n (kk := 0) rfl rfl rfl ?_
  refine px_bipush (v := nI 8) rfl b_8 ?_
  refine px_icmp_ge rfl (fun h => absurd h (by decide)) (fun _ => ?_)
  refine px_iconst (v := nI 1) rfl k_1 ?_
  refine px_goto rfl ?_
  refine px_ireturn rfl (.inr ⟨rfl, by decide⟩) ?_
  exact ⟨rfl, rfl⟩
theorem vX0_isKind_m1 {I : Nat → Nat → Int32} {J : Nat → Nat → Int64} {p : Bool × Option Nat} {ro : List (Nat × Nat × (Nat → Int32))}  : Pv 0 0 0 CX0_isKind [.int (-1)] (gS, I, J, gR p, ro) (qI (nI 0) (gS, I, J, gR p, ro)) := by
  refine ⟨okCX0_isKind, Nat.le_of_ble_eq_true rfl, (show Px _ _ _ _ 0 [some (.int (-1))] [] _ _ from ?_)⟩
  refine px_iload_n (kk := 0) rfl rfl rfl ?_
  refine px_if_lt rfl (fun _ => ?_) (fun h => absurd h (by decide))
  refine px_iconst (v := nI 0) rfl k_0 ?_
  refine px_ireturn rfl (.inr ⟨rfl, by decide⟩) ?_
  exact ⟨rfl, rfl⟩
theorem vX0_run_0_1 {I : Nat → Nat → Int32} {J : Nat → Nat → Int64} {p : Bool × Option Nat} {ro : List (Nat × Nat × (Nat → Int32))} {nm : Nat} (hnm : nm < 50) (h4 : I 49 4 = nI nm) (hk : I 50 nm = nI 0) (hro : RO ro) {t : TS} {I1 : Nat → Nat → Int32} (hB : BR I t I1) (ht : t.2 < 1000 - 0) {x : Int32} {dd : Nat} (hd : dd + 0 ≤ 20) : Pv 1 0 0 CX0_run [.ref (49), .int (nI 1), .int (-1), .int (x), .int (nI dd)] (gS, I1, J, gR p, ro) (fun r S' => r = some (.int (x + nI nm)) ∧ ∃ I', S' = (gS, I', J, gR p, ro) ∧ BR I (sp_nts t []) I') := by
  refine ⟨okCX0_run, Nat.le_of_ble_eq_true rfl, (show Px _ _ _ _ 0 [some (.ref (49)), some (.int (nI 1)), some (.int (-1)), some (.int (x)), some (.int (nI dd)), none] [] _ _ from ?_)⟩
  refine px_aload_n (kk := 0) rfl rfl rfl ?_
  refine px_getR (r := 50) rfl gS_49 rfl (gR_49_0 _) ?_
  refine px_aload_n (kk := 0) rfl rfl rfl ?_
  refine px_getIe rfl gS_49 rfl ((hB.2.1 4 (by decide)).trans h4) ?_
  refine px_ialde (j := nm) (v := nI 0) rfl gS_50 rfl (by omega) ((congrFun (hB.1 50 (by decide)) nm).trans hk) ?_
  refine px_ist5 rfl rfl (by decide) ?_
  refine px_iload_n (kk := 1) rfl rfl rfl ?_
  refine px_lookup rfl (.inl ⟨0, by decide, by decide, rfl⟩) ?_
  refine px_iload_n (kk := 3) rfl rfl rfl ?_
  refine px_aload_n (kk := 0) rfl rfl rfl ?_
  refine px_getIe rfl gS_49 rfl ((hB.2.1 4 (by decide)).trans h4) ?_
  refine px_iadd rfl ?_
  refine px_ireturn rfl (.inl rfl) ?_
  exact ⟨rfl, I1, rfl, hB⟩
theorem vX0_rf_0_0_0 {I : Nat → Nat → Int32} {J : Nat → Nat → Int64} {p : Bool × Option Nat} {ro : List (Nat × Nat × (Nat → Int32))} {nm : Nat} (hnm : nm < 50) (h4 : I 49 4 = nI nm) (hk : I 50 nm = nI 0) (hro : RO ro) {t : TS} {I1 : Nat → Nat → Int32} (hB : BR I t I1) (ht : t.2 < 1000 - 1) {x : Int32} {dd : Nat} (hd : dd + 1 ≤ 20) : Pv 2 0 0 CX0_runFrom [.ref (49), .int (nI 0), .int (nI 0), .int (x), .int (nI dd)] (gS, I1, J, gR p, ro) (fun r S' => r = some (.int (x + nI nm)) ∧ ∃ I', S' = (gS, I', J, gR p, ro) ∧ BR I (sp_nts t [1]) I') := by
  refine ⟨okCX0_runFrom, Nat.le_of_ble_eq_true rfl, (show Px _ _ _ _ 0 [some (.ref (49)), some (.int (nI 0)), some (.int (nI 0)), some (.int (x)), some (.int (nI dd)), none, none, none] [] _ _ from ?_)⟩
  refine px_iload_n (kk := 1) rfl rfl rfl ?_
  refine px_ist5 rfl rfl (by decide) ?_
  refine px_iconst (v := nI 0) rfl k_0 ?_
  refine px_ist6 rfl rfl (by decide) ?_
  refine px_iload rfl rfl ?_
  refine px_bipush (v := nI 8) rfl b_8 ?_
  refine px_icmp_ge rfl (fun h => absurd h (by decide)) (fun _ => ?_)
  refine px_iload rfl rfl ?_
  refine px_callS0 CX0_isKind [] [.int _] (vX0_isKind_0) rfl rfl rfl (Nat.le_of_ble_eq_true rfl) (by decide) ?_
  rintro _ _ - ⟨rfl, rfl⟩
  refine px_if_eq rfl (fun h => absurd h (by decide)) (fun _ => ?_)
  refine px_iload rfl rfl ?_
  refine px_bipush (v := nI 20) rfl b_20 ?_
  refine px_icmp_ge rfl (fun h => absurd h (nI_ge (by omega) (by omega))) (fun c12 => ?_)
  refine px_getstatic rfl ?_
  refine px_iload rfl rfl ?_
  refine px_iconst (v := nI 4) rfl k_4 ?_
  refine px_imulN rfl ?_
  refine px_iload_n (kk := 2) rfl rfl rfl ?_
  refine px_iaddN rfl ?_
  refine px_roalde (j := 0) (v := nI 1) rfl hro.1 rfl (by decide) (by decide) ?_
  refine px_ist7 rfl rfl (by decide) ?_
  refine px_iload rfl rfl ?_
  refine px_if_eq rfl (fun h => absurd h (by decide)) (fun _ => ?_)
  refine px_aload_n (kk := 0) rfl rfl rfl ?_
  refine px_iload rfl rfl ?_
  refine px_callV0 CX0_note [] [.int _] (vX0_note hB (by omega)) rfl gS_49 (by decide) rfl rfl rfl (Nat.le_of_ble_eq_true rfl) (by decide) ?_
  rintro _ _ - ⟨rfl, I2, rfl, hB2⟩
  refine px_aload_n (kk := 0) rfl rfl rfl ?_
  refine px_iload rfl rfl ?_
  refine px_getstatic rfl ?_
  refine px_iload rfl rfl ?_
  refine px_roalde (j := 0) (v := -1) rfl hro.2 rfl (by decide) (by decide) ?_
  refine px_iload_n (kk := 3) rfl rfl rfl ?_
  refine px_iload rfl rfl ?_
  refine px_iconst (v := nI 1) rfl k_1 ?_
  refine px_iaddN rfl ?_
  refine px_callV0 CX0_run [] [.int _, .int _, .int _, .int _] (vX0_run_0_1 hnm h4 hk hro hB2 (by simp only [sp_nt]; omega) (by omega)) rfl gS_49 (by decide) rfl rfl rfl (Nat.le_of_ble_eq_true rfl) (by decide) ?_
  rintro _ _ - ⟨rfl, I3, rfl, hB3⟩
  refine px_ireturn rfl (.inl rfl) ?_
  exact ⟨rfl, I3, rfl, hB3⟩
theorem vX0_run_0_10 {I : Nat → Nat → Int32} {J : Nat → Nat → Int64} {p : Bool × Option Nat} {ro : List (Nat × Nat × (Nat → Int32))} {nm : Nat} (hnm : nm < 50) (h4 : I 49 4 = nI nm) (hk : I 50 nm = nI 0) (hro : RO ro) {t : TS} {I1 : Nat → Nat → Int32} (hB : BR I t I1) (ht : t.2 < 1000 - 1) {x : Int32} {dd : Nat} (hd : dd + 2 ≤ 20) : Pv 3 0 0 CX0_run [.ref (49), .int (nI 10), .int (-1), .int (x), .int (nI dd)] (gS, I1, J, gR p, ro) (fun r S' => r = some (.int ((x + nI nm) * nI 2)) ∧ ∃ I', S' = (gS, I', J, gR p, ro) ∧ BR I (sp_nts t [1]) I') := by
  refine ⟨okCX0_run, Nat.le_of_ble_eq_true rfl, (show Px _ _ _ _ 0 [some (.ref (49)), some (.int (nI 10)), some (.int (-1)), some (.int (x)), some (.int (nI dd)), none] [] _ _ from ?_)⟩
  refine px_aload_n (kk := 0) rfl rfl rfl ?_
  refine px_getR (r := 50) rfl gS_49 rfl (gR_49_0 _) ?_
  refine px_aload_n (kk := 0) rfl rfl rfl ?_
  refine px_getIe rfl gS_49 rfl ((hB.2.1 4 (by decide)).trans h4) ?_
  refine px_ialde (j := nm) (v := nI 0) rfl gS_50 rfl (by omega) ((congrFun (hB.1 50 (by decide)) nm).trans hk) ?_
  refine px_ist5 rfl rfl (by decide) ?_
  refine px_iload_n (kk := 1) rfl rfl rfl ?_
  refine px_lookup rfl (.inl ⟨2, by decide, by decide, rfl⟩) ?_
  refine px_aload_n (kk := 0) rfl rfl rfl ?_
  refine px_iload rfl rfl ?_
  refine px_iconst (v := nI 0) rfl k_0 ?_
  refine px_iload_n (kk := 3) rfl rfl rfl ?_
  refine px_iload rfl rfl ?_
  refine px_callV0 CX0_runFrom [] [.int _, .int _, .int _, .int _] (vX0_rf_0_0_0 hnm h4 hk hro hB (by omega) (by omega)) rfl gS_49 (by decide) rfl rfl rfl (Nat.le_of_ble_eq_true rfl) (by decide) ?_
  rintro _ _ - ⟨rfl, I2, rfl, hB2⟩
  refine px_iconst (v := nI 2) rfl k_2 ?_
  refine px_imul rfl ?_
  refine px_ireturn rfl (.inl rfl) ?_
  exact ⟨rfl, I2, rfl, hB2⟩
theorem vX0_rf_0_0_1 {I : Nat → Nat → Int32} {J : Nat → Nat → Int64} {p : Bool × Option Nat} {ro : List (Nat × Nat × (Nat → Int32))} {nm : Nat} (hnm : nm < 50) (h4 : I 49 4 = nI nm) (hk : I 50 nm = nI 0) (hro : RO ro) {t : TS} {I1 : Nat → Nat → Int32} (hB : BR I t I1) (ht : t.2 < 1000 - 2) {x : Int32} {dd : Nat} (hd : dd + 3 ≤ 20) : Pv 4 0 0 CX0_runFrom [.ref (49), .int (nI 0), .int (nI 1), .int (x), .int (nI dd)] (gS, I1, J, gR p, ro) (fun r S' => r = some (.int ((x + nI nm) * nI 2)) ∧ ∃ I', S' = (gS, I', J, gR p, ro) ∧ BR I (sp_nts t [10, 1]) I') := by
  refine ⟨okCX0_runFrom, Nat.le_of_ble_eq_true rfl, (show Px _ _ _ _ 0 [some (.ref (49)), some (.int (nI 0)), some (.int (nI 1)), some (.int (x)), some (.int (nI dd)), none, none, none] [] _ _ from ?_)⟩
  refine px_iload_n (kk := 1) rfl rfl rfl ?_
  refine px_ist5 rfl rfl (by decide) ?_
  refine px_iconst (v := nI 0) rfl k_0 ?_
  refine px_ist6 rfl rfl (by decide) ?_
  refine px_iload rfl rfl ?_
  refine px_bipush (v := nI 8) rfl b_8 ?_
  refine px_icmp_ge rfl (fun h => absurd h (by decide)) (fun _ => ?_)
  refine px_iload rfl rfl ?_
  refine px_callS0 CX0_isKind [] [.int _] (vX0_isKind_0) rfl rfl rfl (Nat.le_of_ble_eq_true rfl) (by decide) ?_
  rintro _ _ - ⟨rfl, rfl⟩
  refine px_if_eq rfl (fun h => absurd h (by decide)) (fun _ => ?_)
  refine px_iload rfl rfl ?_
  refine px_bipush (v := nI 20) rfl b_20 ?_
  refine px_icmp_ge rfl (fun h => absurd h (nI_ge (by omega) (by omega))) (fun c12 => ?_)
  refine px_getstatic rfl ?_
  refine px_iload rfl rfl ?_
  refine px_iconst (v := nI 4) rfl k_4 ?_
  refine px_imulN rfl ?_
  refine px_iload_n (kk := 2) rfl rfl rfl ?_
  refine px_iaddN rfl ?_
  refine px_roalde (j := 1) (v := nI 10) rfl hro.1 rfl (by decide) (by decide) ?_
  refine px_ist7 rfl rfl (by decide) ?_
  refine px_iload rfl rfl ?_
  refine px_if_eq rfl (fun h => absurd h (by decide)) (fun _ => ?_)
  refine px_aload_n (kk := 0) rfl rfl rfl ?_
  refine px_iload rfl rfl ?_
  refine px_callV0 CX0_note [] [.int _] (vX0_note hB (by omega)) rfl gS_49 (by decide) rfl rfl rfl (Nat.le_of_ble_eq_true rfl) (by decide) ?_
  rintro _ _ - ⟨rfl, I2, rfl, hB2⟩
  refine px_aload_n (kk := 0) rfl rfl rfl ?_
  refine px_iload rfl rfl ?_
  refine px_getstatic rfl ?_
  refine px_iload rfl rfl ?_
  refine px_roalde (j := 0) (v := -1) rfl hro.2 rfl (by decide) (by decide) ?_
  refine px_iload_n (kk := 3) rfl rfl rfl ?_
  refine px_iload rfl rfl ?_
  refine px_iconst (v := nI 1) rfl k_1 ?_
  refine px_iaddN rfl ?_
  refine px_callV0 CX0_run [] [.int _, .int _, .int _, .int _] (vX0_run_0_10 hnm h4 hk hro hB2 (by simp only [sp_nt]; omega) (by omega)) rfl gS_49 (by decide) rfl rfl rfl (Nat.le_of_ble_eq_true rfl) (by decide) ?_
  rintro _ _ - ⟨rfl, I3, rfl, hB3⟩
  refine px_ireturn rfl (.inl rfl) ?_
  exact ⟨rfl, I3, rfl, hB3⟩
theorem vX0_run_0_11 {I : Nat → Nat → Int32} {J : Nat → Nat → Int64} {p : Bool × Option Nat} {ro : List (Nat × Nat × (Nat → Int32))} {nm : Nat} (hnm : nm < 50) (h4 : I 49 4 = nI nm) (hk : I 50 nm = nI 0) (hro : RO ro) {t : TS} {I1 : Nat → Nat → Int32} (hB : BR I t I1) (ht : t.2 < 1000 - 0) {x : Int32} {dd : Nat} (hd : dd + 0 ≤ 20) : Pv 1 0 0 CX0_run [.ref (49), .int (nI 11), .int (-1), .int (x), .int (nI dd)] (gS, I1, J, gR p, ro) (fun r S' => r = some (.int (x ^^^ nI nm)) ∧ ∃ I', S' = (gS, I', J, gR p, ro) ∧ BR I (sp_nts t []) I') := by
  refine ⟨okCX0_run, Nat.le_of_ble_eq_true rfl, (show Px _ _ _ _ 0 [some (.ref (49)), some (.int (nI 11)), some (.int (-1)), some (.int (x)), some (.int (nI dd)), none] [] _ _ from ?_)⟩
  refine px_aload_n (kk := 0) rfl rfl rfl ?_
  refine px_getR (r := 50) rfl gS_49 rfl (gR_49_0 _) ?_
  refine px_aload_n (kk := 0) rfl rfl rfl ?_
  refine px_getIe rfl gS_49 rfl ((hB.2.1 4 (by decide)).trans h4) ?_
  refine px_ialde (j := nm) (v := nI 0) rfl gS_50 rfl (by omega) ((congrFun (hB.1 50 (by decide)) nm).trans hk) ?_
  refine px_ist5 rfl rfl (by decide) ?_
  refine px_iload_n (kk := 1) rfl rfl rfl ?_
  refine px_lookup rfl (.inl ⟨3, by decide, by decide, rfl⟩) ?_
  refine px_iload_n (kk := 3) rfl rfl rfl ?_
  refine px_aload_n (kk := 0) rfl rfl rfl ?_
  refine px_getIe rfl gS_49 rfl ((hB.2.1 4 (by decide)).trans h4) ?_
  refine px_ixor rfl ?_
  refine px_ireturn rfl (.inl rfl) ?_
  exact ⟨rfl, I1, rfl, hB⟩
theorem vX0_rf_0_0_2 {I : Nat → Nat → Int32} {J : Nat → Nat → Int64} {p : Bool × Option Nat} {ro : List (Nat × Nat × (Nat → Int32))} {nm : Nat} (hnm : nm < 50) (h4 : I 49 4 = nI nm) (hk : I 50 nm = nI 0) (hro : RO ro) {t : TS} {I1 : Nat → Nat → Int32} (hB : BR I t I1) (ht : t.2 < 1000 - 1) {x : Int32} {dd : Nat} (hd : dd + 1 ≤ 20) : Pv 2 0 0 CX0_runFrom [.ref (49), .int (nI 0), .int (nI 2), .int (x), .int (nI dd)] (gS, I1, J, gR p, ro) (fun r S' => r = some (.int (x ^^^ nI nm)) ∧ ∃ I', S' = (gS, I', J, gR p, ro) ∧ BR I (sp_nts t [11]) I') := by
  refine ⟨okCX0_runFrom, Nat.le_of_ble_eq_true rfl, (show Px _ _ _ _ 0 [some (.ref (49)), some (.int (nI 0)), some (.int (nI 2)), some (.int (x)), some (.int (nI dd)), none, none, none] [] _ _ from ?_)⟩
  refine px_iload_n (kk := 1) rfl rfl rfl ?_
  refine px_ist5 rfl rfl (by decide) ?_
  refine px_iconst (v := nI 0) rfl k_0 ?_
  refine px_ist6 rfl rfl (by decide) ?_
  refine px_iload rfl rfl ?_
  refine px_bipush (v := nI 8) rfl b_8 ?_
  refine px_icmp_ge rfl (fun h => absurd h (by decide)) (fun _ => ?_)
  refine px_iload rfl rfl ?_
  refine px_callS0 CX0_isKind [] [.int _] (vX0_isKind_0) rfl rfl rfl (Nat.le_of_ble_eq_true rfl) (by decide) ?_
  rintro _ _ - ⟨rfl, rfl⟩
  refine px_if_eq rfl (fun h => absurd h (by decide)) (fun _ => ?_)
  refine px_iload rfl rfl ?_
  refine px_bipush (v := nI 20) rfl b_20 ?_
  refine px_icmp_ge rfl (fun h => absurd h (nI_ge (by omega) (by omega))) (fun c12 => ?_)
  refine px_getstatic rfl ?_
  refine px_iload rfl rfl ?_
  refine px_iconst (v := nI 4) rfl k_4 ?_
  refine px_imulN rfl ?_
  refine px_iload_n (kk := 2) rfl rfl rfl ?_
  refine px_iaddN rfl ?_
  refine px_roalde (j := 2) (v := nI 11) rfl hro.1 rfl (by decide) (by decide) ?_
  refine px_ist7 rfl rfl (by decide) ?_
  refine px_iload rfl rfl ?_
  refine px_if_eq rfl (fun h => absurd h (by decide)) (fun _ => ?_)
  refine px_aload_n (kk := 0) rfl rfl rfl ?_
  refine px_iload rfl rfl ?_
  refine px_callV0 CX0_note [] [.int _] (vX0_note hB (by omega)) rfl gS_49 (by decide) rfl rfl rfl (Nat.le_of_ble_eq_true rfl) (by decide) ?_
  rintro _ _ - ⟨rfl, I2, rfl, hB2⟩
  refine px_aload_n (kk := 0) rfl rfl rfl ?_
  refine px_iload rfl rfl ?_
  refine px_getstatic rfl ?_
  refine px_iload rfl rfl ?_
  refine px_roalde (j := 0) (v := -1) rfl hro.2 rfl (by decide) (by decide) ?_
  refine px_iload_n (kk := 3) rfl rfl rfl ?_
  refine px_iload rfl rfl ?_
  refine px_iconst (v := nI 1) rfl k_1 ?_
  refine px_iaddN rfl ?_
  refine px_callV0 CX0_run [] [.int _, .int _, .int _, .int _] (vX0_run_0_11 hnm h4 hk hro hB2 (by simp only [sp_nt]; omega) (by omega)) rfl gS_49 (by decide) rfl rfl rfl (Nat.le_of_ble_eq_true rfl) (by decide) ?_
  rintro _ _ - ⟨rfl, I3, rfl, hB3⟩
  refine px_ireturn rfl (.inl rfl) ?_
  exact ⟨rfl, I3, rfl, hB3⟩
theorem vX0_run_0_2 {I : Nat → Nat → Int32} {J : Nat → Nat → Int64} {p : Bool × Option Nat} {ro : List (Nat × Nat × (Nat → Int32))} {nm : Nat} (hnm : nm < 50) (h4 : I 49 4 = nI nm) (hk : I 50 nm = nI 0) (hro : RO ro) {t : TS} {I1 : Nat → Nat → Int32} (hB : BR I t I1) (ht : t.2 < 1000 - 3) {x : Int32} {dd : Nat} (hd : dd + 4 ≤ 20) : Pv 5 0 0 CX0_run [.ref (49), .int (nI 2), .int (-1), .int (x), .int (nI dd)] (gS, I1, J, gR p, ro) (fun r S' => r = some (.int (((x + nI nm) * nI 2) - (nI 1 ^^^ nI nm))) ∧ ∃ I', S' = (gS, I', J, gR p, ro) ∧ BR I (sp_nts t [10, 1, 11]) I') := by
  refine ⟨okCX0_run, Nat.le_of_ble_eq_true rfl, (show Px _ _ _ _ 0 [some (.ref (49)), some (.int (nI 2)), some (.int (-1)), some (.int (x)), some (.int (nI dd)), none] [] _ _ from ?_)⟩
  refine px_aload_n (kk := 0) rfl rfl rfl ?_
  refine px_getR (r := 50) rfl gS_49 rfl (gR_49_0 _) ?_
  refine px_aload_n (kk := 0) rfl rfl rfl ?_
  refine px_getIe rfl gS_49 rfl ((hB.2.1 4 (by decide)).trans h4) ?_
  refine px_ialde (j := nm) (v := nI 0) rfl gS_50 rfl (by omega) ((congrFun (hB.1 50 (by decide)) nm).trans hk) ?_
  refine px_ist5 rfl rfl (by decide) ?_
  refine px_iload_n (kk := 1) rfl rfl rfl ?_
  refine px_lookup rfl (.inl ⟨1, by decide, by decide, rfl⟩) ?_
  refine px_aload_n (kk := 0) rfl rfl rfl ?_
  refine px_iload rfl rfl ?_
  refine px_iconst (v := nI 1) rfl k_1 ?_
  refine px_iload_n (kk := 3) rfl rfl rfl ?_
  refine px_iload rfl rfl ?_
  refine px_callV0 CX0_runFrom [] [.int _, .int _, .int _, .int _] (vX0_rf_0_0_1 hnm h4 hk hro hB (by omega) (by omega)) rfl gS_49 (by decide) rfl rfl rfl (Nat.le_of_ble_eq_true rfl) (by decide) ?_
  rintro _ _ - ⟨rfl, I2, rfl, hB2⟩
  refine px_aload_n (kk := 0) rfl rfl rfl ?_
  refine px_iload rfl rfl ?_
  refine px_iconst (v := nI 2) rfl k_2 ?_
  refine px_iconst (v := nI 1) rfl k_1 ?_
  refine px_iload rfl rfl ?_
  refine px_callV0 CX0_runFrom [.int _] [.int _, .int _, .int _, .int _] (vX0_rf_0_0_2 hnm h4 hk hro hB2 (by rw [sp_nts_2]; simp; omega) (by omega)) rfl gS_49 (by decide) rfl rfl rfl (Nat.le_of_ble_eq_true rfl) (by decide) ?_
  rintro _ _ - ⟨rfl, I3, rfl, hB3⟩
  refine px_isub rfl ?_
  refine px_ireturn rfl (.inl rfl) ?_
  rw [sp_nts_a] at hB3
  exact ⟨rfl, I3, rfl, hB3⟩
theorem vX0_rf_0_0_3 {I : Nat → Nat → Int32} {J : Nat → Nat → Int64} {p : Bool × Option Nat} {ro : List (Nat × Nat × (Nat → Int32))} {nm : Nat} (hnm : nm < 50) (h4 : I 49 4 = nI nm) (hk : I 50 nm = nI 0) (hro : RO ro) {t : TS} {I1 : Nat → Nat → Int32} (hB : BR I t I1) (ht : t.2 < 1000 - 4) {x : Int32} {dd : Nat} (hd : dd + 5 ≤ 20) : Pv 6 0 0 CX0_runFrom [.ref (49), .int (nI 0), .int (nI 3), .int (x), .int (nI dd)] (gS, I1, J, gR p, ro) (fun r S' => r = some (.int (((x + nI nm) * nI 2) - (nI 1 ^^^ nI nm))) ∧ ∃ I', S' = (gS, I', J, gR p, ro) ∧ BR I (sp_nts t [2, 10, 1, 11]) I') := by
  refine ⟨okCX0_runFrom, Nat.le_of_ble_eq_true rfl, (show Px _ _ _ _ 0 [some (.ref (49)), some (.int (nI 0)), some (.int (nI 3)), some (.int (x)), some (.int (nI dd)), none, none, none] [] _ _ from ?_)⟩
  refine px_iload_n (kk := 1) rfl rfl rfl ?_
  refine px_ist5 rfl rfl (by decide) ?_
  refine px_iconst (v := nI 0) rfl k_0 ?_
  refine px_ist6 rfl rfl (by decide) ?_
  refine px_iload rfl rfl ?_
  refine px_bipush (v := nI 8) rfl b_8 ?_
  refine px_icmp_ge rfl (fun h => absurd h (by decide)) (fun _ => ?_)
  refine px_iload rfl rfl ?_
  refine px_callS0 CX0_isKind [] [.int _] (vX0_isKind_0) rfl rfl rfl (Nat.le_of_ble_eq_true rfl) (by decide) ?_
  rintro _ _ - ⟨rfl, rfl⟩
  refine px_if_eq rfl (fun h => absurd h (by decide)) (fun _ => ?_)
  refine px_iload rfl rfl ?_
  refine px_bipush (v := nI 20) rfl b_20 ?_
  refine px_icmp_ge rfl (fun h => absurd h (nI_ge (by omega) (by omega))) (fun c12 => ?_)
  refine px_getstatic rfl ?_
  refine px_iload rfl rfl ?_
  refine px_iconst (v := nI 4) rfl k_4 ?_
  refine px_imulN rfl ?_
  refine px_iload_n (kk := 2) rfl rfl rfl ?_
  refine px_iaddN rfl ?_
  refine px_roalde (j := 3) (v := nI 2) rfl hro.1 rfl (by decide) (by decide) ?_
  refine px_ist7 rfl rfl (by decide) ?_
  refine px_iload rfl rfl ?_
  refine px_if_eq rfl (fun h => absurd h (by decide)) (fun _ => ?_)
  refine px_aload_n (kk := 0) rfl rfl rfl ?_
  refine px_iload rfl rfl ?_
  refine px_callV0 CX0_note [] [.int _] (vX0_note hB (by omega)) rfl gS_49 (by decide) rfl rfl rfl (Nat.le_of_ble_eq_true rfl) (by decide) ?_
  rintro _ _ - ⟨rfl, I2, rfl, hB2⟩
  refine px_aload_n (kk := 0) rfl rfl rfl ?_
  refine px_iload rfl rfl ?_
  refine px_getstatic rfl ?_
  refine px_iload rfl rfl ?_
  refine px_roalde (j := 0) (v := -1) rfl hro.2 rfl (by decide) (by decide) ?_
  refine px_iload_n (kk := 3) rfl rfl rfl ?_
  refine px_iload rfl rfl ?_
  refine px_iconst (v := nI 1) rfl k_1 ?_
  refine px_iaddN rfl ?_
  refine px_callV0 CX0_run [] [.int _, .int _, .int _, .int _] (vX0_run_0_2 hnm h4 hk hro hB2 (by simp only [sp_nt]; omega) (by omega)) rfl gS_49 (by decide) rfl rfl rfl (Nat.le_of_ble_eq_true rfl) (by decide) ?_
  rintro _ _ - ⟨rfl, I3, rfl, hB3⟩
  refine px_ireturn rfl (.inl rfl) ?_
  exact ⟨rfl, I3, rfl, hB3⟩
theorem vX0_run_1_1 {I : Nat → Nat → Int32} {J : Nat → Nat → Int64} {p : Bool × Option Nat} {ro : List (Nat × Nat × (Nat → Int32))} {nm : Nat} (hnm : nm < 50) (h4 : I 49 4 = nI nm) (hk : I 50 nm = nI 1) (hro : RO ro) {t : TS} {I1 : Nat → Nat → Int32} (hB : BR I t I1) (ht : t.2 < 1000 - 0) {x : Int32} {dd : Nat} (hd : dd + 0 ≤ 20) : Pv 1 0 0 CX0_run [.ref (49), .int (nI 1), .int (-1), .int (x), .int (nI dd)] (gS, I1, J, gR p, ro) (fun r S' => r = some (.int (x + nI nm)) ∧ ∃ I', S' = (gS, I', J, gR p, ro) ∧ BR I (sp_nts t []) I') := by
  refine ⟨okCX0_run, Nat.le_of_ble_eq_true rfl, (show Px _ _ _ _ 0 [some (.ref (49)), some (.int (nI 1)), some (.int (-1)), some (.int (x)), some (.int (nI dd)), none] [] _ _ from ?_)⟩
  refine px_aload_n (kk := 0) rfl rfl rfl ?_
  refine px_getR (r := 50) rfl gS_49 rfl (gR_49_0 _) ?_
  refine px_aload_n (kk := 0) rfl rfl rfl ?_
  refine px_getIe rfl gS_49 rfl ((hB.2.1 4 (by decide)).trans h4) ?_
  refine px_ialde (j := nm) (v := nI 1) rfl gS_50 rfl (by omega) ((congrFun (hB.1 50 (by decide)) nm).trans hk) ?_
  refine px_ist5 rfl rfl (by decide) ?_
  refine px_iload_n (kk := 1) rfl rfl rfl ?_
  refine px_lookup rfl (.inl ⟨0, by decide, by decide, rfl⟩) ?_
  refine px_iload_n (kk := 3) rfl rfl rfl ?_
  refine px_aload_n (kk := 0) rfl rfl rfl ?_
  refine px_getIe rfl gS_49 rfl ((hB.2.1 4 (by decide)).trans h4) ?_
  refine px_iadd rfl ?_
  refine px_ireturn rfl (.inl rfl) ?_
  exact ⟨rfl, I1, rfl, hB⟩
theorem vX0_rf_1_0_0 {I : Nat → Nat → Int32} {J : Nat → Nat → Int64} {p : Bool × Option Nat} {ro : List (Nat × Nat × (Nat → Int32))} {nm : Nat} (hnm : nm < 50) (h4 : I 49 4 = nI nm) (hk : I 50 nm = nI 1) (hro : RO ro) {t : TS} {I1 : Nat → Nat → Int32} (hB : BR I t I1) (ht : t.2 < 1000 - 1) {x : Int32} {dd : Nat} (hd : dd + 1 ≤ 20) : Pv 2 0 0 CX0_runFrom [.ref (49), .int (nI 0), .int (nI 0), .int (x), .int (nI dd)] (gS, I1, J, gR p, ro) (fun r S' => r = some (.int (x + nI nm)) ∧ ∃ I', S' = (gS, I', J, gR p, ro) ∧ BR I (sp_nts t [1]) I') := by
  refine ⟨okCX0_runFrom, Nat.le_of_ble_eq_true rfl, (show Px _ _ _ _ 0 [some (.ref (49)), some (.int (nI 0)), some (.int (nI 0)), some (.int (x)), some (.int (nI dd)), none, none, none] [] _ _ from ?_)⟩
  refine px_iload_n (kk := 1) rfl rfl rfl ?_
  refine px_ist5 rfl rfl (by decide) ?_
  refine px_iconst (v := nI 0) rfl k_0 ?_
  refine px_ist6 rfl rfl (by decide) ?_
  refine px_iload rfl rfl ?_
  refine px_bipush (v := nI 8) rfl b_8 ?_
  refine px_icmp_ge rfl (fun h => absurd h (by decide)) (fun _ => ?_)
  refine px_iload rfl rfl ?_
  refine px_callS0 CX0_isKind [] [.int _] (vX0_isKind_0) rfl rfl rfl (Nat.le_of_ble_eq_true rfl) (by decide) ?_
  rintro _ _ - ⟨rfl, rfl⟩
  refine px_if_eq rfl (fun h => absurd h (by decide)) (fun _ => ?_)
  refine px_iload rfl rfl ?_
  refine px_bipush (v := nI 20) rfl b_20 ?_
  refine px_icmp_ge rfl (fun h => absurd h (nI_ge (by omega) (by omega))) (fun c12 => ?_)
  refine px_getstatic rfl ?_
  refine px_iload rfl rfl ?_
  refine px_iconst (v := nI 4) rfl k_4 ?_
  refine px_imulN rfl ?_
  refine px_iload_n (kk := 2) rfl rfl rfl ?_
  refine px_iaddN rfl ?_
  refine px_roalde (j := 0) (v := nI 1) rfl hro.1 rfl (by decide) (by decide) ?_
  refine px_ist7 rfl rfl (by decide) ?_
  refine px_iload rfl rfl ?_
  refine px_if_eq rfl (fun h => absurd h (by decide)) (fun _ => ?_)
  refine px_aload_n (kk := 0) rfl rfl rfl ?_
  refine px_iload rfl rfl ?_
  refine px_callV0 CX0_note [] [.int _] (vX0_note hB (by omega)) rfl gS_49 (by decide) rfl rfl rfl (Nat.le_of_ble_eq_true rfl) (by decide) ?_
  rintro _ _ - ⟨rfl, I2, rfl, hB2⟩
  refine px_aload_n (kk := 0) rfl rfl rfl ?_
  refine px_iload rfl rfl ?_
  refine px_getstatic rfl ?_
  refine px_iload rfl rfl ?_
  refine px_roalde (j := 0) (v := -1) rfl hro.2 rfl (by decide) (by decide) ?_
  refine px_iload_n (kk := 3) rfl rfl rfl ?_
  refine px_iload rfl rfl ?_
  refine px_iconst (v := nI 1) rfl k_1 ?_
  refine px_iaddN rfl ?_
  refine px_callV0 CX0_run [] [.int _, .int _, .int _, .int _] (vX0_run_1_1 hnm h4 hk hro hB2 (by simp only [sp_nt]; omega) (by omega)) rfl gS_49 (by decide) rfl rfl rfl (Nat.le_of_ble_eq_true rfl) (by decide) ?_
  rintro _ _ - ⟨rfl, I3, rfl, hB3⟩
  refine px_ireturn rfl (.inl rfl) ?_
  exact ⟨rfl, I3, rfl, hB3⟩
theorem vX0_run_1_20 {I : Nat → Nat → Int32} {J : Nat → Nat → Int64} {p : Bool × Option Nat} {ro : List (Nat × Nat × (Nat → Int32))} {nm : Nat} (hnm : nm < 50) (h4 : I 49 4 = nI nm) (hk : I 50 nm = nI 1) (hro : RO ro) {t : TS} {I1 : Nat → Nat → Int32} (hB : BR I t I1) (ht : t.2 < 1000 - 1) {x : Int32} {dd : Nat} (hd : dd + 2 ≤ 20) : Pv 3 0 0 CX0_run [.ref (49), .int (nI 20), .int (nI 0), .int (x), .int (nI dd)] (gS, I1, J, gR p, ro) (fun r S' => r = some (.int ((x + nI nm) + nI 3)) ∧ ∃ I', S' = (gS, I', J, gR p, ro) ∧ BR I (sp_nts t [1]) I') := by
  refine ⟨okCX0_run, Nat.le_of_ble_eq_true rfl, (show Px _ _ _ _ 0 [some (.ref (49)), some (.int (nI 20)), some (.int (nI 0)), some (.int (x)), some (.int (nI dd)), none] [] _ _ from ?_)⟩
  refine px_aload_n (kk := 0) rfl rfl rfl ?_
  refine px_getR (r := 50) rfl gS_49 rfl (gR_49_0 _) ?_
  refine px_aload_n (kk := 0) rfl rfl rfl ?_
  refine px_getIe rfl gS_49 rfl ((hB.2.1 4 (by decide)).trans h4) ?_
  refine px_ialde (j := nm) (v := nI 1) rfl gS_50 rfl (by omega) ((congrFun (hB.1 50 (by decide)) nm).trans hk) ?_
  refine px_ist5 rfl rfl (by decide) ?_
  refine px_iload_n (kk := 1) rfl rfl rfl ?_
  refine px_lookup rfl (.inl ⟨4, by decide, by decide, rfl⟩) ?_
  refine px_aload_n (kk := 0) rfl rfl rfl ?_
  refine px_iload_n (kk := 2) rfl rfl rfl ?_
  refine px_iconst (v := nI 0) rfl k_0 ?_
  refine px_iload_n (kk := 3) rfl rfl rfl ?_
  refine px_iload rfl rfl ?_
  refine px_callV0 CX0_runFrom [] [.int _, .int _, .int _, .int _] (vX0_rf_1_0_0 hnm h4 hk hro hB (by omega) (by omega)) rfl gS_49 (by decide) rfl rfl rfl (Nat.le_of_ble_eq_true rfl) (by decide) ?_
  rintro _ _ - ⟨rfl, I2, rfl, hB2⟩
  refine px_iconst (v := nI 3) rfl k_3 ?_
  refine px_iadd rfl ?_
  refine px_ireturn rfl (.inl rfl) ?_
  exact ⟨rfl, I2, rfl, hB2⟩
theorem vX0_rf_1_1_0 {I : Nat → Nat → Int32} {J : Nat → Nat → Int64} {p : Bool × Option Nat} {ro : List (Nat × Nat × (Nat → Int32))} {nm : Nat} (hnm : nm < 50) (h4 : I 49 4 = nI nm) (hk : I 50 nm = nI 1) (hro : RO ro) {t : TS} {I1 : Nat → Nat → Int32} (hB : BR I t I1) (ht : t.2 < 1000 - 2) {x : Int32} {dd : Nat} (hd : dd + 3 ≤ 20) : Pv 4 0 0 CX0_runFrom [.ref (49), .int (nI 1), .int (nI 0), .int (x), .int (nI dd)] (gS, I1, J, gR p, ro) (fun r S' => r = some (.int ((x + nI nm) + nI 3)) ∧ ∃ I', S' = (gS, I', J, gR p, ro) ∧ BR I (sp_nts t [20, 1]) I') := by
  refine ⟨okCX0_runFrom, Nat.le_of_ble_eq_true rfl, (show Px _ _ _ _ 0 [some (.ref (49)), some (.int (nI 1)), some (.int (nI 0)), some (.int (x)), some (.int (nI dd)), none, none, none] [] _ _ from ?_)⟩
  refine px_iload_n (kk := 1) rfl rfl rfl ?_
  refine px_ist5 rfl rfl (by decide) ?_
  refine px_iconst (v := nI 0) rfl k_0 ?_
  refine px_ist6 rfl rfl (by decide) ?_
  refine px_iload rfl rfl ?_
  refine px_bipush (v := nI 8) rfl b_8 ?_
  refine px_icmp_ge rfl (fun h => absurd h (by decide)) (fun _ => ?_)
  refine px_iload rfl rfl ?_
  refine px_callS0 CX0_isKind [] [.int _] (vX0_isKind_1) rfl rfl rfl (Nat.le_of_ble_eq_true rfl) (by decide) ?_
  rintro _ _ - ⟨rfl, rfl⟩
  refine px_if_eq rfl (fun h => absurd h (by decide)) (fun _ => ?_)
  refine px_iload rfl rfl ?_
  refine px_bipush (v := nI 20) rfl b_20 ?_
  refine px_icmp_ge rfl (fun h => absurd h (nI_ge (by omega) (by omega))) (fun c12 => ?_)
  refine px_getstatic rfl ?_
  refine px_iload rfl rfl ?_
  refine px_iconst (v := nI 4) rfl k_4 ?_
  refine px_imulN rfl ?_
  refine px_iload_n (kk := 2) rfl rfl rfl ?_
  refine px_iaddN rfl ?_
  refine px_roalde (j := 4) (v := nI 20) rfl hro.1 rfl (by decide) (by decide) ?_
  refine px_ist7 rfl rfl (by decide) ?_
  refine px_iload rfl rfl ?_
  refine px_if_eq rfl (fun h => absurd h (by decide)) (fun _ => ?_)
  refine px_aload_n (kk := 0) rfl rfl rfl ?_
  refine px_iload rfl rfl ?_
  refine px_callV0 CX0_note [] [.int _] (vX0_note hB (by omega)) rfl gS_49 (by decide) rfl rfl rfl (Nat.le_of_ble_eq_true rfl) (by decide) ?_
  rintro _ _ - ⟨rfl, I2, rfl, hB2⟩
  refine px_aload_n (kk := 0) rfl rfl rfl ?_
  refine px_iload rfl rfl ?_
  refine px_getstatic rfl ?_
  refine px_iload rfl rfl ?_
  refine px_roalde (j := 1) (v := nI 0) rfl hro.2 rfl (by decide) (by decide) ?_
  refine px_iload_n (kk := 3) rfl rfl rfl ?_
  refine px_iload rfl rfl ?_
  refine px_iconst (v := nI 1) rfl k_1 ?_
  refine px_iaddN rfl ?_
  refine px_callV0 CX0_run [] [.int _, .int _, .int _, .int _] (vX0_run_1_20 hnm h4 hk hro hB2 (by simp only [sp_nt]; omega) (by omega)) rfl gS_49 (by decide) rfl rfl rfl (Nat.le_of_ble_eq_true rfl) (by decide) ?_
  rintro _ _ - ⟨rfl, I3, rfl, hB3⟩
  refine px_ireturn rfl (.inl rfl) ?_
  exact ⟨rfl, I3, rfl, hB3⟩
theorem vX0_run_1_10 {I : Nat → Nat → Int32} {J : Nat → Nat → Int64} {p : Bool × Option Nat} {ro : List (Nat × Nat × (Nat → Int32))} {nm : Nat} (hnm : nm < 50) (h4 : I 49 4 = nI nm) (hk : I 50 nm = nI 1) (hro : RO ro) {t : TS} {I1 : Nat → Nat → Int32} (hB : BR I t I1) (ht : t.2 < 1000 - 2) {x : Int32} {dd : Nat} (hd : dd + 4 ≤ 20) : Pv 5 0 0 CX0_run [.ref (49), .int (nI 10), .int (-1), .int (x), .int (nI dd)] (gS, I1, J, gR p, ro) (fun r S' => r = some (.int (((x + nI nm) + nI 3) * nI 2)) ∧ ∃ I', S' = (gS, I', J, gR p, ro) ∧ BR I (sp_nts t [20, 1]) I') := by
  refine ⟨okCX0_run, Nat.le_of_ble_eq_true rfl, (show Px _ _ _ _ 0 [some (.ref (49)), some (.int (nI 10)), some (.int (-1)), some (.int (x)), some (.int (nI dd)), none] [] _ _ from ?_)⟩
  refine px_aload_n (kk := 0) rfl rfl rfl ?_
  refine px_getR (r := 50) rfl gS_49 rfl (gR_49_0 _) ?_
  refine px_aload_n (kk := 0) rfl rfl rfl ?_
  refine px_getIe rfl gS_49 rfl ((hB.2.1 4 (by decide)).trans h4) ?_
  refine px_ialde (j := nm) (v := nI 1) rfl gS_50 rfl (by omega) ((congrFun (hB.1 50 (by decide)) nm).trans hk) ?_
  refine px_ist5 rfl rfl (by decide) ?_
  refine px_iload_n (kk := 1) rfl rfl rfl ?_
  refine px_lookup rfl (.inl ⟨2, by decide, by decide, rfl⟩) ?_
  refine px_aload_n (kk := 0) rfl rfl rfl ?_
  refine px_iload rfl rfl ?_
  refine px_iconst (v := nI 0) rfl k_0 ?_
  refine px_iload_n (kk := 3) rfl rfl rfl ?_
  refine px_iload rfl rfl ?_
  refine px_callV0 CX0_runFrom [] [.int _, .int _, .int _, .int _] (vX0_rf_1_1_0 hnm h4 hk hro hB (by omega) (by omega)) rfl gS_49 (by decide) rfl rfl rfl (Nat.le_of_ble_eq_true rfl) (by decide) ?_
  rintro _ _ - ⟨rfl, I2, rfl, hB2⟩
  refine px_iconst (v := nI 2) rfl k_2 ?_
  refine px_imul rfl ?_
  refine px_ireturn rfl (.inl rfl) ?_
  exact ⟨rfl, I2, rfl, hB2⟩
theorem vX0_rf_1_1_1 {I : Nat → Nat → Int32} {J : Nat → Nat → Int64} {p : Bool × Option Nat} {ro : List (Nat × Nat × (Nat → Int32))} {nm : Nat} (hnm : nm < 50) (h4 : I 49 4 = nI nm) (hk : I 50 nm = nI 1) (hro : RO ro) {t : TS} {I1 : Nat → Nat → Int32} (hB : BR I t I1) (ht : t.2 < 1000 - 3) {x : Int32} {dd : Nat} (hd : dd + 5 ≤ 20) : Pv 6 0 0 CX0_runFrom [.ref (49), .int (nI 1), .int (nI 1), .int (x), .int (nI dd)] (gS, I1, J, gR p, ro) (fun r S' => r = some (.int (((x + nI nm) + nI 3) * nI 2)) ∧ ∃ I', S' = (gS, I', J, gR p, ro) ∧ BR I (sp_nts t [10, 20, 1]) I') := by
  refine ⟨okCX0_runFrom, Nat.le_of_ble_eq_true rfl, (show Px _ _ _ _ 0 [some (.ref (49)), some (.int (nI 1)), some (.int (nI 1)), some (.int (x)), some (.int (nI dd)), none, none, none] [] _ _ from ?_)⟩
  refine px_iload_n (kk := 1) rfl rfl rfl ?_
  refine px_ist5 rfl rfl (by decide) ?_
  refine px_iconst (v := nI 0) rfl k_0 ?_
  refine px_ist6 rfl rfl (by decide) ?_
  refine px_iload rfl rfl ?_
  refine px_bipush (v := nI 8) rfl b_8 ?_
  refine px_icmp_ge rfl (fun h => absurd h (by decide)) (fun _ => ?_)
  refine px_iload rfl rfl ?_
  refine px_callS0 CX0_isKind [] [.int _] (vX0_isKind_1) rfl rfl rfl (Nat.le_of_ble_eq_true rfl) (by decide) ?_
  rintro _ _ - ⟨rfl, rfl⟩
  refine px_if_eq rfl (fun h => absurd h (by decide)) (fun _ => ?_)
  refine px_iload rfl rfl ?_
  refine px_bipush (v := nI 20) rfl b_20 ?_
  refine px_icmp_ge rfl (fun h => absurd h (nI_ge (by omega) (by omega))) (fun c12 => ?_)
  refine px_getstatic rfl ?_
  refine px_iload rfl rfl ?_
  refine px_iconst (v := nI 4) rfl k_4 ?_
  refine px_imulN rfl ?_
  refine px_iload_n (kk := 2) rfl rfl rfl ?_
  refine px_iaddN rfl ?_
  refine px_roalde (j := 5) (v := nI 0) rfl hro.1 rfl (by decide) (by decide) ?_
  refine px_ist7 rfl rfl (by decide) ?_
  refine px_iload rfl rfl ?_
  refine px_if_eq rfl (fun _ => ?_) (fun h => absurd h (by decide))
  refine px_getstatic rfl ?_
  refine px_iload rfl rfl ?_
  refine px_roalde (j := 1) (v := nI 0) rfl hro.2 rfl (by decide) (by decide) ?_
  refine px_ist5 rfl rfl (by decide) ?_
  refine px_iinc6 (v := nI 1) rfl (n_inc 0) rfl (by decide) ?_
  refine px_goto rfl ?_
  refine px_iload rfl rfl ?_
  refine px_bipush (v := nI 8) rfl b_8 ?_
  refine px_icmp_ge rfl (fun h => absurd h (by decide)) (fun _ => ?_)
  refine px_iload rfl rfl ?_
  refine px_callS0 CX0_isKind [] [.int _] (vX0_isKind_0) rfl rfl rfl (Nat.le_of_ble_eq_true rfl) (by decide) ?_
  rintro _ _ - ⟨rfl, rfl⟩
  refine px_if_eq rfl (fun h => absurd h (by decide)) (fun _ => ?_)
  refine px_iload rfl rfl ?_
  refine px_bipush (v := nI 20) rfl b_20 ?_
  refine px_icmp_ge rfl (fun h => absurd h (nI_ge (by omega) (by omega))) (fun c12 => ?_)
  refine px_getstatic rfl ?_
  refine px_iload rfl rfl ?_
  refine px_iconst (v := nI 4) rfl k_4 ?_
  refine px_imulN rfl ?_
  refine px_iload_n (kk := 2) rfl rfl rfl ?_
  refine px_iaddN rfl ?_
  refine px_roalde (j := 1) (v := nI 10) rfl hro.1 rfl (by decide) (by decide) ?_
  refine px_ist7 rfl rfl (by decide) ?_
  refine px_iload rfl rfl ?_
  refine px_if_eq rfl (fun h => absurd h (by decide)) (fun _ => ?_)
  refine px_aload_n (kk := 0) rfl rfl rfl ?_
  refine px_iload rfl rfl ?_
  refine px_callV0 CX0_note [] [.int _] (vX0_note hB (by omega)) rfl gS_49 (by decide) rfl rfl rfl (Nat.le_of_ble_eq_true rfl) (by decide) ?_
  rintro _ _ - ⟨rfl, I2, rfl, hB2⟩
  refine px_aload_n (kk := 0) rfl rfl rfl ?_
  refine px_iload rfl rfl ?_
  refine px_getstatic rfl ?_
  refine px_iload rfl rfl ?_
  refine px_roalde (j := 0) (v := -1) rfl hro.2 rfl (by decide) (by decide) ?_
  refine px_iload_n (kk := 3) rfl rfl rfl ?_
  refine px_iload rfl rfl ?_
  refine px_iconst (v := nI 1) rfl k_1 ?_
  refine px_iaddN rfl ?_
  refine px_callV0 CX0_run [] [.int _, .int _, .int _, .int _] (vX0_run_1_10 hnm h4 hk hro hB2 (by simp only [sp_nt]; omega) (by omega)) rfl gS_49 (by decide) rfl rfl rfl (Nat.le_of_ble_eq_true rfl) (by decide) ?_
  rintro _ _ - ⟨rfl, I3, rfl, hB3⟩
  refine px_ireturn rfl (.inl rfl) ?_
  exact ⟨rfl, I3, rfl, hB3⟩
theorem vX0_run_1_11 {I : Nat → Nat → Int32} {J : Nat → Nat → Int64} {p : Bool × Option Nat} {ro : List (Nat × Nat × (Nat → Int32))} {nm : Nat} (hnm : nm < 50) (h4 : I 49 4 = nI nm) (hk : I 50 nm = nI 1) (hro : RO ro) {t : TS} {I1 : Nat → Nat → Int32} (hB : BR I t I1) (ht : t.2 < 1000 - 0) {x : Int32} {dd : Nat} (hd : dd + 0 ≤ 20) : Pv 1 0 0 CX0_run [.ref (49), .int (nI 11), .int (-1), .int (x), .int (nI dd)] (gS, I1, J, gR p, ro) (fun r S' => r = some (.int (x ^^^ nI nm)) ∧ ∃ I', S' = (gS, I', J, gR p, ro) ∧ BR I (sp_nts t []) I') := by
  refine ⟨okCX0_run, Nat.le_of_ble_eq_true rfl, (show Px _ _ _ _ 0 [some (.ref (49)), some (.int (nI 11)), some (.int (-1)), some (.int (x)), some (.int (nI dd)), none] [] _ _ from ?_)⟩
  refine px_aload_n (kk := 0) rfl rfl rfl ?_
  refine px_getR (r := 50) rfl gS_49 rfl (gR_49_0 _) ?_
  refine px_aload_n (kk := 0) rfl rfl rfl ?_
  refine px_getIe rfl gS_49 rfl ((hB.2.1 4 (by decide)).trans h4) ?_
  refine px_ialde (j := nm) (v := nI 1) rfl gS_50 rfl (by omega) ((congrFun (hB.1 50 (by decide)) nm).trans hk) ?_
  refine px_ist5 rfl rfl (by decide) ?_
  refine px_iload_n (kk := 1) rfl rfl rfl ?_
  refine px_lookup rfl (.inl ⟨3, by decide, by decide, rfl⟩) ?_
  refine px_iload_n (kk := 3) rfl rfl rfl ?_
  refine px_aload_n (kk := 0) rfl rfl rfl ?_
  refine px_getIe rfl gS_49 rfl ((hB.2.1 4 (by decide)).trans h4) ?_
  refine px_ixor rfl ?_
  refine px_ireturn rfl (.inl rfl) ?_
  exact ⟨rfl, I1, rfl, hB⟩
theorem vX0_rf_1_1_2 {I : Nat → Nat → Int32} {J : Nat → Nat → Int64} {p : Bool × Option Nat} {ro : List (Nat × Nat × (Nat → Int32))} {nm : Nat} (hnm : nm < 50) (h4 : I 49 4 = nI nm) (hk : I 50 nm = nI 1) (hro : RO ro) {t : TS} {I1 : Nat → Nat → Int32} (hB : BR I t I1) (ht : t.2 < 1000 - 1) {x : Int32} {dd : Nat} (hd : dd + 1 ≤ 20) : Pv 2 0 0 CX0_runFrom [.ref (49), .int (nI 1), .int (nI 2), .int (x), .int (nI dd)] (gS, I1, J, gR p, ro) (fun r S' => r = some (.int (x ^^^ nI nm)) ∧ ∃ I', S' = (gS, I', J, gR p, ro) ∧ BR I (sp_nts t [11]) I') := by
  refine ⟨okCX0_runFrom, Nat.le_of_ble_eq_true rfl, (show Px _ _ _ _ 0 [some (.ref (49)), some (.int (nI 1)), some (.int (nI 2)), some (.int (x)), some (.int (nI dd)), none, none, none] [] _ _ from ?_)⟩
  refine px_iload_n (kk := 1) rfl rfl rfl ?_
  refine px_ist5 rfl rfl (by decide) ?_
  refine px_iconst (v := nI 0) rfl k_0 ?_
  refine px_ist6 rfl rfl (by decide) ?_
  refine px_iload rfl rfl ?_
  refine px_bipush (v := nI 8) rfl b_8 ?_
  refine px_icmp_ge rfl (fun h => absurd h (by decide)) (fun _ => ?_)
  refine px_iload rfl rfl ?_
  refine px_callS0 CX0_isKind [] [.int _] (vX0_isKind_1) rfl rfl rfl (Nat.le_of_ble_eq_true rfl) (by decide) ?_
  rintro _ _ - ⟨rfl, rfl⟩
  refine px_if_eq rfl (fun h => absurd h (by decide)) (fun _ => ?_)
  refine px_iload rfl rfl ?_
  refine px_bipush (v := nI 20) rfl b_20 ?_
  refine px_icmp_ge rfl (fun h => absurd h (nI_ge (by omega) (by omega))) (fun c12 => ?_)
  refine px_getstatic rfl ?_
  refine px_iload rfl rfl ?_
  refine px_iconst (v := nI 4) rfl k_4 ?_
  refine px_imulN rfl ?_
  refine px_iload_n (kk := 2) rfl rfl rfl ?_
  refine px_iaddN rfl ?_
  refine px_roalde (j := 6) (v := nI 0) rfl hro.1 rfl (by decide) (by decide) ?_
  refine px_ist7 rfl rfl (by decide) ?_
  refine px_iload rfl rfl ?_
  refine px_if_eq rfl (fun _ => ?_) (fun h => absurd h (by decide))
  refine px_getstatic rfl ?_
  refine px_iload rfl rfl ?_
  refine px_roalde (j := 1) (v := nI 0) rfl hro.2 rfl (by decide) (by decide) ?_
  refine px_ist5 rfl rfl (by decide) ?_
  refine px_iinc6 (v := nI 1) rfl (n_inc 0) rfl (by decide) ?_
  refine px_goto rfl ?_
  refine px_iload rfl rfl ?_
  refine px_bipush (v := nI 8) rfl b_8 ?_
  refine px_icmp_ge rfl (fun h => absurd h (by decide)) (fun _ => ?_)
  refine px_iload rfl rfl ?_
  refine px_callS0 CX0_isKind [] [.int _] (vX0_isKind_0) rfl rfl rfl (Nat.le_of_ble_eq_true rfl) (by decide) ?_
  rintro _ _ - ⟨rfl, rfl⟩
  refine px_if_eq rfl (fun h => absurd h (by decide)) (fun _ => ?_)
  refine px_iload rfl rfl ?_
  refine px_bipush (v := nI 20) rfl b_20 ?_
  refine px_icmp_ge rfl (fun h => absurd h (nI_ge (by omega) (by omega))) (fun c12 => ?_)
  refine px_getstatic rfl ?_
  refine px_iload rfl rfl ?_
  refine px_iconst (v := nI 4) rfl k_4 ?_
  refine px_imulN rfl ?_
  refine px_iload_n (kk := 2) rfl rfl rfl ?_
  refine px_iaddN rfl ?_
  refine px_roalde (j := 2) (v := nI 11) rfl hro.1 rfl (by decide) (by decide) ?_
  refine px_ist7 rfl rfl (by decide) ?_
  refine px_iload rfl rfl ?_
  refine px_if_eq rfl (fun h => absurd h (by decide)) (fun _ => ?_)
  refine px_aload_n (kk := 0) rfl rfl rfl ?_
  refine px_iload rfl rfl ?_
  refine px_callV0 CX0_note [] [.int _] (vX0_note hB (by omega)) rfl gS_49 (by decide) rfl rfl rfl (Nat.le_of_ble_eq_true rfl) (by decide) ?_
  rintro _ _ - ⟨rfl, I2, rfl, hB2⟩
  refine px_aload_n (kk := 0) rfl rfl rfl ?_
  refine px_iload rfl rfl ?_
  refine px_getstatic rfl ?_
  refine px_iload rfl rfl ?_
  refine px_roalde (j := 0) (v := -1) rfl hro.2 rfl (by decide) (by decide) ?_
  refine px_iload_n (kk := 3) rfl rfl rfl ?_
  refine px_iload rfl rfl ?_
  refine px_iconst (v := nI 1) rfl k_1 ?_
  refine px_iaddN rfl ?_
  refine px_callV0 CX0_run [] [.int _, .int _, .int _, .int _] (vX0_run_1_11 hnm h4 hk hro hB2 (by simp only [sp_nt]; omega) (by omega)) rfl gS_49 (by decide) rfl rfl rfl (Nat.le_of_ble_eq_true rfl) (by decide) ?_
  rintro _ _ - ⟨rfl, I3, rfl, hB3⟩
  refine px_ireturn rfl (.inl rfl) ?_
  exact ⟨rfl, I3, rfl, hB3⟩
theorem vX0_run_1_2 {I : Nat → Nat → Int32} {J : Nat → Nat → Int64} {p : Bool × Option Nat} {ro : List (Nat × Nat × (Nat → Int32))} {nm : Nat} (hnm : nm < 50) (h4 : I 49 4 = nI nm) (hk : I 50 nm = nI 1) (hro : RO ro) {t : TS} {I1 : Nat → Nat → Int32} (hB : BR I t I1) (ht : t.2 < 1000 - 4) {x : Int32} {dd : Nat} (hd : dd + 6 ≤ 20) : Pv 7 0 0 CX0_run [.ref (49), .int (nI 2), .int (-1), .int (x), .int (nI dd)] (gS, I1, J, gR p, ro) (fun r S' => r = some (.int ((((x + nI nm) + nI 3) * nI 2) - (nI 1 ^^^ nI nm))) ∧ ∃ I', S' = (gS, I', J, gR p, ro) ∧ BR I (sp_nts t [10, 20, 1, 11]) I') := by
  refine ⟨okCX0_run, Nat.le_of_ble_eq_true rfl, (show Px _ _ _ _ 0 [some (.ref (49)), some (.int (nI 2)), some (.int (-1)), some (.int (x)), some (.int (nI dd)), none] [] _ _ from ?_)⟩
  refine px_aload_n (kk := 0) rfl rfl rfl ?_
  refine px_getR (r := 50) rfl gS_49 rfl (gR_49_0 _) ?_
  refine px_aload_n (kk := 0) rfl rfl rfl ?_
  refine px_getIe rfl gS_49 rfl ((hB.2.1 4 (by decide)).trans h4) ?_
  refine px_ialde (j := nm) (v := nI 1) rfl gS_50 rfl (by omega) ((congrFun (hB.1 50 (by decide)) nm).trans hk) ?_
  refine px_ist5 rfl rfl (by decide) ?_
  refine px_iload_n (kk := 1) rfl rfl rfl ?_
  refine px_lookup rfl (.inl ⟨1, by decide, by decide, rfl⟩) ?_
  refine px_aload_n (kk := 0) rfl rfl rfl ?_
  refine px_iload rfl rfl ?_
  refine px_iconst (v := nI 1) rfl k_1 ?_
  refine px_iload_n (kk := 3) rfl rfl rfl ?_
  refine px_iload rfl rfl ?_
  refine px_callV0 CX0_runFrom [] [.int _, .int _, .int _, .int _] (vX0_rf_1_1_1 hnm h4 hk hro hB (by omega) (by omega)) rfl gS_49 (by decide) rfl rfl rfl (Nat.le_of_ble_eq_true rfl) (by decide) ?_
  rintro _ _ - ⟨rfl, I2, rfl, hB2⟩
  refine px_aload_n (kk := 0) rfl rfl rfl ?_
  refine px_iload rfl rfl ?_
  refine px_iconst (v := nI 2) rfl k_2 ?_
  refine px_iconst (v := nI 1) rfl k_1 ?_
  refine px_iload rfl rfl ?_
  refine px_callV0 CX0_runFrom [.int _] [.int _, .int _, .int _, .int _] (vX0_rf_1_1_2 hnm h4 hk hro hB2 (by rw [sp_nts_2]; simp; omega) (by omega)) rfl gS_49 (by decide) rfl rfl rfl (Nat.le_of_ble_eq_true rfl) (by decide) ?_
  rintro _ _ - ⟨rfl, I3, rfl, hB3⟩
  refine px_isub rfl ?_
  refine px_ireturn rfl (.inl rfl) ?_
  rw [sp_nts_a] at hB3
  exact ⟨rfl, I3, rfl, hB3⟩
theorem vX0_rf_1_1_3 {I : Nat → Nat → Int32} {J : Nat → Nat → Int64} {p : Bool × Option Nat} {ro : List (Nat × Nat × (Nat → Int32))} {nm : Nat} (hnm : nm < 50) (h4 : I 49 4 = nI nm) (hk : I 50 nm = nI 1) (hro : RO ro) {t : TS} {I1 : Nat → Nat → Int32} (hB : BR I t I1) (ht : t.2 < 1000 - 5) {x : Int32} {dd : Nat} (hd : dd + 7 ≤ 20) : Pv 8 0 0 CX0_runFrom [.ref (49), .int (nI 1), .int (nI 3), .int (x), .int (nI dd)] (gS, I1, J, gR p, ro) (fun r S' => r = some (.int ((((x + nI nm) + nI 3) * nI 2) - (nI 1 ^^^ nI nm))) ∧ ∃ I', S' = (gS, I', J, gR p, ro) ∧ BR I (sp_nts t [2, 10, 20, 1, 11]) I') := by
  refine ⟨okCX0_runFrom, Nat.le_of_ble_eq_true rfl, (show Px _ _ _ _ 0 [some (.ref (49)), some (.int (nI 1)), some (.int (nI 3)), some (.int (x)), some (.int (nI dd)), none, none, none] [] _ _ from ?_)⟩
  refine px_iload_n (kk := 1) rfl rfl rfl ?_
  refine px_ist5 rfl rfl (by decide) ?_
  refine px_iconst (v := nI 0) rfl k_0 ?_
  refine px_ist6 rfl rfl (by decide) ?_
  refine px_iload rfl rfl ?_
  refine px_bipush (v := nI 8) rfl b_8 ?_
  refine px_icmp_ge rfl (fun h => absurd h (by decide)) (fun _ => ?_)
  refine px_iload rfl rfl ?_
  refine px_callS0 CX0_isKind [] [.int _] (vX0_isKind_1) rfl rfl rfl (Nat.le_of_ble_eq_true rfl) (by decide) ?_
  rintro _ _ - ⟨rfl, rfl⟩
  refine px_if_eq rfl (fun h => absurd h (by decide)) (fun _ => ?_)
  refine px_iload rfl rfl ?_
  refine px_bipush (v := nI 20) rfl b_20 ?_
  refine px_icmp_ge rfl (fun h => absurd h (nI_ge (by omega) (by omega))) (fun c12 => ?_)
  refine px_getstatic rfl ?_
  refine px_iload rfl rfl ?_
  refine px_iconst (v := nI 4) rfl k_4 ?_
  refine px_imulN rfl ?_
  refine px_iload_n (kk := 2) rfl rfl rfl ?_
  refine px_iaddN rfl ?_
  refine px_roalde (j := 7) (v := nI 0) rfl hro.1 rfl (by decide) (by decide) ?_
  refine px_ist7 rfl rfl (by decide) ?_
  refine px_iload rfl rfl ?_
  refine px_if_eq rfl (fun _ => ?_) (fun h => absurd h (by decide))
  refine px_getstatic rfl ?_
  refine px_iload rfl rfl ?_
  refine px_roalde (j := 1) (v := nI 0) rfl hro.2 rfl (by decide) (by decide) ?_
  refine px_ist5 rfl rfl (by decide) ?_
  refine px_iinc6 (v := nI 1) rfl (n_inc 0) rfl (by decide) ?_
  refine px_goto rfl ?_
  refine px_iload rfl rfl ?_
  refine px_bipush (v := nI 8) rfl b_8 ?_
  refine px_icmp_ge rfl (fun h => absurd h (by decide)) (fun _ => ?_)
  refine px_iload rfl rfl ?_
  refine px_callS0 CX0_isKind [] [.int _] (vX0_isKind_0) rfl rfl rfl (Nat.le_of_ble_eq_true rfl) (by decide) ?_
  rintro _ _ - ⟨rfl, rfl⟩
  refine px_if_eq rfl (fun h => absurd h (by decide)) (fun _ => ?_)
  refine px_iload rfl rfl ?_
  refine px_bipush (v := nI 20) rfl b_20 ?_
  refine px_icmp_ge rfl (fun h => absurd h (nI_ge (by omega) (by omega))) (fun c12 => ?_)
  refine px_getstatic rfl ?_
  refine px_iload rfl rfl ?_
  refine px_iconst (v := nI 4) rfl k_4 ?_
  refine px_imulN rfl ?_
  refine px_iload_n (kk := 2) rfl rfl rfl ?_
  refine px_iaddN rfl ?_
  refine px_roalde (j := 3) (v := nI 2) rfl hro.1 rfl (by decide) (by decide) ?_
  refine px_ist7 rfl rfl (by decide) ?_
  refine px_iload rfl rfl ?_
  refine px_if_eq rfl (fun h => absurd h (by decide)) (fun _ => ?_)
  refine px_aload_n (kk := 0) rfl rfl rfl ?_
  refine px_iload rfl rfl ?_
  refine px_callV0 CX0_note [] [.int _] (vX0_note hB (by omega)) rfl gS_49 (by decide) rfl rfl rfl (Nat.le_of_ble_eq_true rfl) (by decide) ?_
  rintro _ _ - ⟨rfl, I2, rfl, hB2⟩
  refine px_aload_n (kk := 0) rfl rfl rfl ?_
  refine px_iload rfl rfl ?_
  refine px_getstatic rfl ?_
  refine px_iload rfl rfl ?_
  refine px_roalde (j := 0) (v := -1) rfl hro.2 rfl (by decide) (by decide) ?_
  refine px_iload_n (kk := 3) rfl rfl rfl ?_
  refine px_iload rfl rfl ?_
  refine px_iconst (v := nI 1) rfl k_1 ?_
  refine px_iaddN rfl ?_
  refine px_callV0 CX0_run [] [.int _, .int _, .int _, .int _] (vX0_run_1_2 hnm h4 hk hro hB2 (by simp only [sp_nt]; omega) (by omega)) rfl gS_49 (by decide) rfl rfl rfl (Nat.le_of_ble_eq_true rfl) (by decide) ?_
  rintro _ _ - ⟨rfl, I3, rfl, hB3⟩
  refine px_ireturn rfl (.inl rfl) ?_
  exact ⟨rfl, I3, rfl, hB3⟩
theorem vX0_run_2_1 {I : Nat → Nat → Int32} {J : Nat → Nat → Int64} {p : Bool × Option Nat} {ro : List (Nat × Nat × (Nat → Int32))} {nm : Nat} (hnm : nm < 50) (h4 : I 49 4 = nI nm) (hk : I 50 nm = nI 2) (hro : RO ro) {t : TS} {I1 : Nat → Nat → Int32} (hB : BR I t I1) (ht : t.2 < 1000 - 0) {x : Int32} {dd : Nat} (hd : dd + 0 ≤ 20) : Pv 1 0 0 CX0_run [.ref (49), .int (nI 1), .int (-1), .int (x), .int (nI dd)] (gS, I1, J, gR p, ro) (fun r S' => r = some (.int (x + nI nm)) ∧ ∃ I', S' = (gS, I', J, gR p, ro) ∧ BR I (sp_nts t []) I') := by
  refine ⟨okCX0_run, Nat.le_of_ble_eq_true rfl, (show Px _ _ _ _ 0 [some (.ref (49)), some (.int (nI 1)), some (.int (-1)), some (.int (x)), some (.int (nI dd)), none] [] _ _ from ?_)⟩
  refine px_aload_n (kk := 0) rfl rfl rfl ?_
  refine px_getR (r := 50) rfl gS_49 rfl (gR_49_0 _) ?_
  refine px_aload_n (kk := 0) rfl rfl rfl ?_
  refine px_getIe rfl gS_49 rfl ((hB.2.1 4 (by decide)).trans h4) ?_
  refine px_ialde (j := nm) (v := nI 2) rfl gS_50 rfl (by omega) ((congrFun (hB.1 50 (by decide)) nm).trans hk) ?_
  refine px_ist5 rfl rfl (by decide) ?_
  refine px_iload_n (kk := 1) rfl rfl rfl ?_
  refine px_lookup rfl (.inl ⟨0, by decide, by decide, rfl⟩) ?_
  refine px_iload_n (kk := 3) rfl rfl rfl ?_
  refine px_aload_n (kk := 0) rfl rfl rfl ?_
  refine px_getIe rfl gS_49 rfl ((hB.2.1 4 (by decide)).trans h4) ?_
  refine px_iadd rfl ?_
  refine px_ireturn rfl (.inl rfl) ?_
  exact ⟨rfl, I1, rfl, hB⟩
theorem vX0_rf_2_2_0 {I : Nat → Nat → Int32} {J : Nat → Nat → Int64} {p : Bool × Option Nat} {ro : List (Nat × Nat × (Nat → Int32))} {nm : Nat} (hnm : nm < 50) (h4 : I 49 4 = nI nm) (hk : I 50 nm = nI 2) (hro : RO ro) {t : TS} {I1 : Nat → Nat → Int32} (hB : BR I t I1) (ht : t.2 < 1000 - 1) {x : Int32} {dd : Nat} (hd : dd + 1 ≤ 20) : Pv 2 0 0 CX0_runFrom [.ref (49), .int (nI 2), .int (nI 0), .int (x), .int (nI dd)] (gS, I1, J, gR p, ro) (fun r S' => r = some (.int (x + nI nm)) ∧ ∃ I', S' = (gS, I', J, gR p, ro) ∧ BR I (sp_nts t [1]) I') := by
  refine ⟨okCX0_runFrom, Nat.le_of_ble_eq_true rfl, (show Px _ _ _ _ 0 [some (.ref (49)), some (.int (nI 2)), some (.int (nI 0)), some (.int (x)), some (.int (nI dd)), none, none, none] [] _ _ from ?_)⟩
  refine px_iload_n (kk := 1) rfl rfl rfl ?_
  refine px_ist5 rfl rfl (by decide) ?_
  refine px_iconst (v := nI 0) rfl k_0 ?_
  refine px_ist6 rfl rfl (by decide) ?_
  refine px_iload rfl rfl ?_
  refine px_bipush (v := nI 8) rfl b_8 ?_
  refine px_icmp_ge rfl (fun h => absurd h (by decide)) (fun _ => ?_)
  refine px_iload rfl rfl ?_
  refine px_callS0 CX0_isKind [] [.int _] (vX0_isKind_2) rfl rfl rfl (Nat.le_of_ble_eq_true rfl) (by decide) ?_
  rintro _ _ - ⟨rfl, rfl⟩
  refine px_if_eq rfl (fun h => absurd h (by decide)) (fun _ => ?_)
  refine px_iload rfl rfl ?_
  refine px_bipush (v := nI 20) rfl b_20 ?_
  refine px_icmp_ge rfl (fun h => absurd h (nI_ge (by omega) (by omega))) (fun c12 => ?_)
  refine px_getstatic rfl ?_
  refine px_iload rfl rfl ?_
  refine px_iconst (v := nI 4) rfl k_4 ?_
  refine px_imulN rfl ?_
  refine px_iload_n (kk := 2) rfl rfl rfl ?_
  refine px_iaddN rfl ?_
  refine px_roalde (j := 8) (v := nI 0) rfl hro.1 rfl (by decide) (by decide) ?_
  refine px_ist7 rfl rfl (by decide) ?_
  refine px_iload rfl rfl ?_
  refine px_if_eq rfl (fun _ => ?_) (fun h => absurd h (by decide))
  refine px_getstatic rfl ?_
  refine px_iload rfl rfl ?_
  refine px_roalde (j := 2) (v := nI 0) rfl hro.2 rfl (by decide) (by decide) ?_
  refine px_ist5 rfl rfl (by decide) ?_
  refine px_iinc6 (v := nI 1) rfl (n_inc 0) rfl (by decide) ?_
  refine px_goto rfl ?_
  refine px_iload rfl rfl ?_
  refine px_bipush (v := nI 8) rfl b_8 ?_
  refine px_icmp_ge rfl (fun h => absurd h (by decide)) (fun _ => ?_)
  refine px_iload rfl rfl ?_
  refine px_callS0 CX0_isKind [] [.int _] (vX0_isKind_0) rfl rfl rfl (Nat.le_of_ble_eq_true rfl) (by decide) ?_
  rintro _ _ - ⟨rfl, rfl⟩
  refine px_if_eq rfl (fun h => absurd h (by decide)) (fun _ => ?_)
  refine px_iload rfl rfl ?_
  refine px_bipush (v := nI 20) rfl b_20 ?_
  refine px_icmp_ge rfl (fun h => absurd h (nI_ge (by omega) (by omega))) (fun c12 => ?_)
  refine px_getstatic rfl ?_
  refine px_iload rfl rfl ?_
  refine px_iconst (v := nI 4) rfl k_4 ?_
  refine px_imulN rfl ?_
  refine px_iload_n (kk := 2) rfl rfl rfl ?_
  refine px_iaddN rfl ?_
  refine px_roalde (j := 0) (v := nI 1) rfl hro.1 rfl (by decide) (by decide) ?_
  refine px_ist7 rfl rfl (by decide) ?_
  refine px_iload rfl rfl ?_
  refine px_if_eq rfl (fun h => absurd h (by decide)) (fun _ => ?_)
  refine px_aload_n (kk := 0) rfl rfl rfl ?_
  refine px_iload rfl rfl ?_
  refine px_callV0 CX0_note [] [.int _] (vX0_note hB (by omega)) rfl gS_49 (by decide) rfl rfl rfl (Nat.le_of_ble_eq_true rfl) (by decide) ?_
  rintro _ _ - ⟨rfl, I2, rfl, hB2⟩
  refine px_aload_n (kk := 0) rfl rfl rfl ?_
  refine px_iload rfl rfl ?_
  refine px_getstatic rfl ?_
  refine px_iload rfl rfl ?_
  refine px_roalde (j := 0) (v := -1) rfl hro.2 rfl (by decide) (by decide) ?_
  refine px_iload_n (kk := 3) rfl rfl rfl ?_
  refine px_iload rfl rfl ?_
  refine px_iconst (v := nI 1) rfl k_1 ?_
  refine px_iaddN rfl ?_
  refine px_callV0 CX0_run [] [.int _, .int _, .int _, .int _] (vX0_run_2_1 hnm h4 hk hro hB2 (by simp only [sp_nt]; omega) (by omega)) rfl gS_49 (by decide) rfl rfl rfl (Nat.le_of_ble_eq_true rfl) (by decide) ?_
  rintro _ _ - ⟨rfl, I3, rfl, hB3⟩
  refine px_ireturn rfl (.inl rfl) ?_
  exact ⟨rfl, I3, rfl, hB3⟩
theorem vX0_run_2_10 {I : Nat → Nat → Int32} {J : Nat → Nat → Int64} {p : Bool × Option Nat} {ro : List (Nat × Nat × (Nat → Int32))} {nm : Nat} (hnm : nm < 50) (h4 : I 49 4 = nI nm) (hk : I 50 nm = nI 2) (hro : RO ro) {t : TS} {I1 : Nat → Nat → Int32} (hB : BR I t I1) (ht : t.2 < 1000 - 1) {x : Int32} {dd : Nat} (hd : dd + 2 ≤ 20) : Pv 3 0 0 CX0_run [.ref (49), .int (nI 10), .int (-1), .int (x), .int (nI dd)] (gS, I1, J, gR p, ro) (fun r S' => r = some (.int ((x + nI nm) * nI 2)) ∧ ∃ I', S' = (gS, I', J, gR p, ro) ∧ BR I (sp_nts t [1]) I') := by
  refine ⟨okCX0_run, Nat.le_of_ble_eq_true rfl, (show Px _ _ _ _ 0 [some (.ref (49)), some (.int (nI 10)), some (.int (-1)), some (.int (x)), some (.int (nI dd)), none] [] _ _ from ?_)⟩
  refine px_aload_n (kk := 0) rfl rfl rfl ?_
  refine px_getR (r := 50) rfl gS_49 rfl (gR_49_0 _) ?_
  refine px_aload_n (kk := 0) rfl rfl rfl ?_
  refine px_getIe rfl gS_49 rfl ((hB.2.1 4 (by decide)).trans h4) ?_
  refine px_ialde (j := nm) (v := nI 2) rfl gS_50 rfl (by omega) ((congrFun (hB.1 50 (by decide)) nm).trans hk) ?_
  refine px_ist5 rfl rfl (by decide) ?_
  refine px_iload_n (kk := 1) rfl rfl rfl ?_
  refine px_lookup rfl (.inl ⟨2, by decide, by decide, rfl⟩) ?_
  refine px_aload_n (kk := 0) rfl rfl rfl ?_
  refine px_iload rfl rfl ?_
  refine px_iconst (v := nI 0) rfl k_0 ?_
  refine px_iload_n (kk := 3) rfl rfl rfl ?_
  refine px_iload rfl rfl ?_
  refine px_callV0 CX0_runFrom [] [.int _, .int _, .int _, .int _] (vX0_rf_2_2_0 hnm h4 hk hro hB (by omega) (by omega)) rfl gS_49 (by decide) rfl rfl rfl (Nat.le_of_ble_eq_true rfl) (by decide) ?_
  rintro _ _ - ⟨rfl, I2, rfl, hB2⟩
  refine px_iconst (v := nI 2) rfl k_2 ?_
  refine px_imul rfl ?_
  refine px_ireturn rfl (.inl rfl) ?_
  exact ⟨rfl, I2, rfl, hB2⟩
theorem vX0_rf_2_0_1 {I : Nat → Nat → Int32} {J : Nat → Nat → Int64} {p : Bool × Option Nat} {ro : List (Nat × Nat × (Nat → Int32))} {nm : Nat} (hnm : nm < 50) (h4 : I 49 4 = nI nm) (hk : I 50 nm = nI 2) (hro : RO ro) {t : TS} {I1 : Nat → Nat → Int32} (hB : BR I t I1) (ht : t.2 < 1000 - 2) {x : Int32} {dd : Nat} (hd : dd + 3 ≤ 20) : Pv 4 0 0 CX0_runFrom [.ref (49), .int (nI 0), .int (nI 1), .int (x), .int (nI dd)] (gS, I1, J, gR p, ro) (fun r S' => r = some (.int ((x + nI nm) * nI 2)) ∧ ∃ I', S' = (gS, I', J, gR p, ro) ∧ BR I (sp_nts t [10, 1]) I') := by
  refine ⟨okCX0_runFrom, Nat.le_of_ble_eq_true rfl, (show Px _ _ _ _ 0 [some (.ref (49)), some (.int (nI 0)), some (.int (nI 1)), some (.int (x)), some (.int (nI dd)), none, none, none] [] _ _ from ?_)⟩
  refine px_iload_n (kk := 1) rfl rfl rfl ?_
  refine px_ist5 rfl rfl (by decide) ?_
  refine px_iconst (v := nI 0) rfl k_0 ?_
  refine px_ist6 rfl rfl (by decide) ?_
  refine px_iload rfl rfl ?_
  refine px_bipush (v := nI 8) rfl b_8 ?_
  refine px_icmp_ge rfl (fun h => absurd h (by decide)) (fun _ => ?_)
  refine px_iload rfl rfl ?_
  refine px_callS0 CX0_isKind [] [.int _] (vX0_isKind_0) rfl rfl rfl (Nat.le_of_ble_eq_true rfl) (by decide) ?_
  rintro _ _ - ⟨rfl, rfl⟩
  refine px_if_eq rfl (fun h => absurd h (by decide)) (fun _ => ?_)
  refine px_iload rfl rfl ?_
  refine px_bipush (v := nI 20) rfl b_20 ?_
  refine px_icmp_ge rfl (fun h => absurd h (nI_ge (by omega) (by omega))) (fun c12 => ?_)
  refine px_getstatic rfl ?_
  refine px_iload rfl rfl ?_
  refine px_iconst (v := nI 4) rfl k_4 ?_
  refine px_imulN rfl ?_
  refine px_iload_n (kk := 2) rfl rfl rfl ?_
  refine px_iaddN rfl ?_
  refine px_roalde (j := 1) (v := nI 10) rfl hro.1 rfl (by decide) (by decide) ?_
  refine px_ist7 rfl rfl (by decide) ?_
  refine px_iload rfl rfl ?_
  refine px_if_eq rfl (fun h => absurd h (by decide)) (fun _ => ?_)
  refine px_aload_n (kk := 0) rfl rfl rfl ?_
  refine px_iload rfl rfl ?_
  refine px_callV0 CX0_note [] [.int _] (vX0_note hB (by omega)) rfl gS_49 (by decide) rfl rfl rfl (Nat.le_of_ble_eq_true rfl) (by decide) ?_
  rintro _ _ - ⟨rfl, I2, rfl, hB2⟩
  refine px_aload_n (kk := 0) rfl rfl rfl ?_
  refine px_iload rfl rfl ?_
  refine px_getstatic rfl ?_
  refine px_iload rfl rfl ?_
  refine px_roalde (j := 0) (v := -1) rfl hro.2 rfl (by decide) (by decide) ?_
  refine px_iload_n (kk := 3) rfl rfl rfl ?_
  refine px_iload rfl rfl ?_
  refine px_iconst (v := nI 1) rfl k_1 ?_
  refine px_iaddN rfl ?_
  refine px_callV0 CX0_run [] [.int _, .int _, .int _, .int _] (vX0_run_2_10 hnm h4 hk hro hB2 (by simp only [sp_nt]; omega) (by omega)) rfl gS_49 (by decide) rfl rfl rfl (Nat.le_of_ble_eq_true rfl) (by decide) ?_
  rintro _ _ - ⟨rfl, I3, rfl, hB3⟩
  refine px_ireturn rfl (.inl rfl) ?_
  exact ⟨rfl, I3, rfl, hB3⟩
theorem vX0_run_2_30 {I : Nat → Nat → Int32} {J : Nat → Nat → Int64} {p : Bool × Option Nat} {ro : List (Nat × Nat × (Nat → Int32))} {nm : Nat} (hnm : nm < 50) (h4 : I 49 4 = nI nm) (hk : I 50 nm = nI 2) (hro : RO ro) {t : TS} {I1 : Nat → Nat → Int32} (hB : BR I t I1) (ht : t.2 < 1000 - 2) {x : Int32} {dd : Nat} (hd : dd + 4 ≤ 20) : Pv 5 0 0 CX0_run [.ref (49), .int (nI 30), .int (nI 0), .int (x), .int (nI dd)] (gS, I1, J, gR p, ro) (fun r S' => r = some (.int (-((x + nI nm) * nI 2))) ∧ ∃ I', S' = (gS, I', J, gR p, ro) ∧ BR I (sp_nts t [10, 1]) I') := by
  refine ⟨okCX0_run, Nat.le_of_ble_eq_true rfl, (show Px _ _ _ _ 0 [some (.ref (49)), some (.int (nI 30)), some (.int (nI 0)), some (.int (x)), some (.int (nI dd)), none] [] _ _ from ?_)⟩
  refine px_aload_n (kk := 0) rfl rfl rfl ?_
  refine px_getR (r := 50) rfl gS_49 rfl (gR_49_0 _) ?_
  refine px_aload_n (kk := 0) rfl rfl rfl ?_
  refine px_getIe rfl gS_49 rfl ((hB.2.1 4 (by decide)).trans h4) ?_
  refine px_ialde (j := nm) (v := nI 2) rfl gS_50 rfl (by omega) ((congrFun (hB.1 50 (by decide)) nm).trans hk) ?_
  refine px_ist5 rfl rfl (by decide) ?_
  refine px_iload_n (kk := 1) rfl rfl rfl ?_
  refine px_lookup rfl (.inl ⟨5, by decide, by decide, rfl⟩) ?_
  refine px_aload_n (kk := 0) rfl rfl rfl ?_
  refine px_iload_n (kk := 2) rfl rfl rfl ?_
  refine px_iconst (v := nI 1) rfl k_1 ?_
  refine px_iload_n (kk := 3) rfl rfl rfl ?_
  refine px_iload rfl rfl ?_
  refine px_callV0 CX0_runFrom [] [.int _, .int _, .int _, .int _] (vX0_rf_2_0_1 hnm h4 hk hro hB (by omega) (by omega)) rfl gS_49 (by decide) rfl rfl rfl (Nat.le_of_ble_eq_true rfl) (by decide) ?_
  rintro _ _ - ⟨rfl, I2, rfl, hB2⟩
  refine px_ineg rfl ?_
  refine px_ireturn rfl (.inl rfl) ?_
  exact ⟨rfl, I2, rfl, hB2⟩
theorem vX0_rf_2_2_1 {I : Nat → Nat → Int32} {J : Nat → Nat → Int64} {p : Bool × Option Nat} {ro : List (Nat × Nat × (Nat → Int32))} {nm : Nat} (hnm : nm < 50) (h4 : I 49 4 = nI nm) (hk : I 50 nm = nI 2) (hro : RO ro) {t : TS} {I1 : Nat → Nat → Int32} (hB : BR I t I1) (ht : t.2 < 1000 - 3) {x : Int32} {dd : Nat} (hd : dd + 5 ≤ 20) : Pv 6 0 0 CX0_runFrom [.ref (49), .int (nI 2), .int (nI 1), .int (x), .int (nI dd)] (gS, I1, J, gR p, ro) (fun r S' => r = some (.int (-((x + nI nm) * nI 2))) ∧ ∃ I', S' = (gS, I', J, gR p, ro) ∧ BR I (sp_nts t [30, 10, 1]) I') := by
  refine ⟨okCX0_runFrom, Nat.le_of_ble_eq_true rfl, (show Px _ _ _ _ 0 [some (.ref (49)), some (.int (nI 2)), some (.int (nI 1)), some (.int (x)), some (.int (nI dd)), none, none, none] [] _ _ from ?_)⟩
  refine px_iload_n (kk := 1) rfl rfl rfl ?_
  refine px_ist5 rfl rfl (by decide) ?_
  refine px_iconst (v := nI 0) rfl k_0 ?_
  refine px_ist6 rfl rfl (by decide) ?_
  refine px_iload rfl rfl ?_
  refine px_bipush (v := nI 8) rfl b_8 ?_
  refine px_icmp_ge rfl (fun h => absurd h (by decide)) (fun _ => ?_)
  refine px_iload rfl rfl ?_
  refine px_callS0 CX0_isKind [] [.int _] (vX0_isKind_2) rfl rfl rfl (Nat.le_of_ble_eq_true rfl) (by decide) ?_
  rintro _ _ - ⟨rfl, rfl⟩
  refine px_if_eq rfl (fun h => absurd h (by decide)) (fun _ => ?_)
  refine px_iload rfl rfl ?_
  refine px_bipush (v := nI 20) rfl b_20 ?_
  refine px_icmp_ge rfl (fun h => absurd h (nI_ge (by omega) (by omega))) (fun c12 => ?_)
  refine px_getstatic rfl ?_
  refine px_iload rfl rfl ?_
  refine px_iconst (v := nI 4) rfl k_4 ?_
  refine px_imulN rfl ?_
  refine px_iload_n (kk := 2) rfl rfl rfl ?_
  refine px_iaddN rfl ?_
  refine px_roalde (j := 9) (v := nI 30) rfl hro.1 rfl (by decide) (by decide) ?_
  refine px_ist7 rfl rfl (by decide) ?_
  refine px_iload rfl rfl ?_
  refine px_if_eq rfl (fun h => absurd h (by decide)) (fun _ => ?_)
  refine px_aload_n (kk := 0) rfl rfl rfl ?_
  refine px_iload rfl rfl ?_
  refine px_callV0 CX0_note [] [.int _] (vX0_note hB (by omega)) rfl gS_49 (by decide) rfl rfl rfl (Nat.le_of_ble_eq_true rfl) (by decide) ?_
  rintro _ _ - ⟨rfl, I2, rfl, hB2⟩
  refine px_aload_n (kk := 0) rfl rfl rfl ?_
  refine px_iload rfl rfl ?_
  refine px_getstatic rfl ?_
  refine px_iload rfl rfl ?_
  refine px_roalde (j := 2) (v := nI 0) rfl hro.2 rfl (by decide) (by decide) ?_
  refine px_iload_n (kk := 3) rfl rfl rfl ?_
  refine px_iload rfl rfl ?_
  refine px_iconst (v := nI 1) rfl k_1 ?_
  refine px_iaddN rfl ?_
  refine px_callV0 CX0_run [] [.int _, .int _, .int _, .int _] (vX0_run_2_30 hnm h4 hk hro hB2 (by simp only [sp_nt]; omega) (by omega)) rfl gS_49 (by decide) rfl rfl rfl (Nat.le_of_ble_eq_true rfl) (by decide) ?_
  rintro _ _ - ⟨rfl, I3, rfl, hB3⟩
  refine px_ireturn rfl (.inl rfl) ?_
  exact ⟨rfl, I3, rfl, hB3⟩
theorem vX0_run_2_11 {I : Nat → Nat → Int32} {J : Nat → Nat → Int64} {p : Bool × Option Nat} {ro : List (Nat × Nat × (Nat → Int32))} {nm : Nat} (hnm : nm < 50) (h4 : I 49 4 = nI nm) (hk : I 50 nm = nI 2) (hro : RO ro) {t : TS} {I1 : Nat → Nat → Int32} (hB : BR I t I1) (ht : t.2 < 1000 - 0) {x : Int32} {dd : Nat} (hd : dd + 0 ≤ 20) : Pv 1 0 0 CX0_run [.ref (49), .int (nI 11), .int (-1), .int (x), .int (nI dd)] (gS, I1, J, gR p, ro) (fun r S' => r = some (.int (x ^^^ nI nm)) ∧ ∃ I', S' = (gS, I', J, gR p, ro) ∧ BR I (sp_nts t []) I') := by
  refine ⟨okCX0_run, Nat.le_of_ble_eq_true rfl, (show Px _ _ _ _ 0 [some (.ref (49)), some (.int (nI 11)), some (.int (-1)), some (.int (x)), some (.int (nI dd)), none] [] _ _ from ?_)⟩
  refine px_aload_n (kk := 0) rfl rfl rfl ?_
  refine px_getR (r := 50) rfl gS_49 rfl (gR_49_0 _) ?_
  refine px_aload_n (kk := 0) rfl rfl rfl ?_
  refine px_getIe rfl gS_49 rfl ((hB.2.1 4 (by decide)).trans h4) ?_
  refine px_ialde (j := nm) (v := nI 2) rfl gS_50 rfl (by omega) ((congrFun (hB.1 50 (by decide)) nm).trans hk) ?_
  refine px_ist5 rfl rfl (by decide) ?_
  refine px_iload_n (kk := 1) rfl rfl rfl ?_
  refine px_lookup rfl (.inl ⟨3, by decide, by decide, rfl⟩) ?_
  refine px_iload_n (kk := 3) rfl rfl rfl ?_
  refine px_aload_n (kk := 0) rfl rfl rfl ?_
  refine px_getIe rfl gS_49 rfl ((hB.2.1 4 (by decide)).trans h4) ?_
  refine px_ixor rfl ?_
  refine px_ireturn rfl (.inl rfl) ?_
  exact ⟨rfl, I1, rfl, hB⟩
theorem vX0_rf_2_2_2 {I : Nat → Nat → Int32} {J : Nat → Nat → Int64} {p : Bool × Option Nat} {ro : List (Nat × Nat × (Nat → Int32))} {nm : Nat} (hnm : nm < 50) (h4 : I 49 4 = nI nm) (hk : I 50 nm = nI 2) (hro : RO ro) {t : TS} {I1 : Nat → Nat → Int32} (hB : BR I t I1) (ht : t.2 < 1000 - 1) {x : Int32} {dd : Nat} (hd : dd + 1 ≤ 20) : Pv 2 0 0 CX0_runFrom [.ref (49), .int (nI 2), .int (nI 2), .int (x), .int (nI dd)] (gS, I1, J, gR p, ro) (fun r S' => r = some (.int (x ^^^ nI nm)) ∧ ∃ I', S' = (gS, I', J, gR p, ro) ∧ BR I (sp_nts t [11]) I') := by
  refine ⟨okCX0_runFrom, Nat.le_of_ble_eq_true rfl, (show Px _ _ _ _ 0 [some (.ref (49)), some (.int (nI 2)), some (.int (nI 2)), some (.int (x)), some (.int (nI dd)), none, none, none] [] _ _ from ?_)⟩
  refine px_iload_n (kk := 1) rfl rfl rfl ?_
  refine px_ist5 rfl rfl (by decide) ?_
  refine px_iconst (v := nI 0) rfl k_0 ?_
  refine px_ist6 rfl rfl (by decide) ?_
  refine px_iload rfl rfl ?_
  refine px_bipush (v := nI 8) rfl b_8 ?_
  refine px_icmp_ge rfl (fun h => absurd h (by decide)) (fun _ => ?_)
  refine px_iload rfl rfl ?_
  refine px_callS0 CX0_isKind [] [.int _] (vX0_isKind_2) rfl rfl rfl (Nat.le_of_ble_eq_true rfl) (by decide) ?_
  rintro _ _ - ⟨rfl, rfl⟩
  refine px_if_eq rfl (fun h => absurd h (by decide)) (fun _ => ?_)
  refine px_iload rfl rfl ?_
  refine px_bipush (v := nI 20) rfl b_20 ?_
  refine px_icmp_ge rfl (fun h => absurd h (nI_ge (by omega) (by omega))) (fun c12 => ?_)
  refine px_getstatic rfl ?_
  refine px_iload rfl rfl ?_
  refine px_iconst (v := nI 4) rfl k_4 ?_
  refine px_imulN rfl ?_
  refine px_iload_n (kk := 2) rfl rfl rfl ?_
  refine px_iaddN rfl ?_
  refine px_roalde (j := 10) (v := nI 0) rfl hro.1 rfl (by decide) (by decide) ?_
  refine px_ist7 rfl rfl (by decide) ?_
  refine px_iload rfl rfl ?_
  refine px_if_eq rfl (fun _ => ?_) (fun h => absurd h (by decide))
  refine px_getstatic rfl ?_
  refine px_iload rfl rfl ?_
  refine px_roalde (j := 2) (v := nI 0) rfl hro.2 rfl (by decide) (by decide) ?_
  refine px_ist5 rfl rfl (by decide) ?_
  refine px_iinc6 (v := nI 1) rfl (n_inc 0) rfl (by decide) ?_
  refine px_goto rfl ?_
  refine px_iload rfl rfl ?_
  refine px_bipush (v := nI 8) rfl b_8 ?_
  refine px_icmp_ge rfl (fun h => absurd h (by decide)) (fun _ => ?_)
  refine px_iload rfl rfl ?_
  refine px_callS0 CX0_isKind [] [.int _] (vX0_isKind_0) rfl rfl rfl (Nat.le_of_ble_eq_true rfl) (by decide) ?_
  rintro _ _ - ⟨rfl, rfl⟩
  refine px_if_eq rfl (fun h => absurd h (by decide)) (fun _ => ?_)
  refine px_iload rfl rfl ?_
  refine px_bipush (v := nI 20) rfl b_20 ?_
  refine px_icmp_ge rfl (fun h => absurd h (nI_ge (by omega) (by omega))) (fun c12 => ?_)
  refine px_getstatic rfl ?_
  refine px_iload rfl rfl ?_
  refine px_iconst (v := nI 4) rfl k_4 ?_
  refine px_imulN rfl ?_
  refine px_iload_n (kk := 2) rfl rfl rfl ?_
  refine px_iaddN rfl ?_
  refine px_roalde (j := 2) (v := nI 11) rfl hro.1 rfl (by decide) (by decide) ?_
  refine px_ist7 rfl rfl (by decide) ?_
  refine px_iload rfl rfl ?_
  refine px_if_eq rfl (fun h => absurd h (by decide)) (fun _ => ?_)
  refine px_aload_n (kk := 0) rfl rfl rfl ?_
  refine px_iload rfl rfl ?_
  refine px_callV0 CX0_note [] [.int _] (vX0_note hB (by omega)) rfl gS_49 (by decide) rfl rfl rfl (Nat.le_of_ble_eq_true rfl) (by decide) ?_
  rintro _ _ - ⟨rfl, I2, rfl, hB2⟩
  refine px_aload_n (kk := 0) rfl rfl rfl ?_
  refine px_iload rfl rfl ?_
  refine px_getstatic rfl ?_
  refine px_iload rfl rfl ?_
  refine px_roalde (j := 0) (v := -1) rfl hro.2 rfl (by decide) (by decide) ?_
  refine px_iload_n (kk := 3) rfl rfl rfl ?_
  refine px_iload rfl rfl ?_
  refine px_iconst (v := nI 1) rfl k_1 ?_
  refine px_iaddN rfl ?_
  refine px_callV0 CX0_run [] [.int _, .int _, .int _, .int _] (vX0_run_2_11 hnm h4 hk hro hB2 (by simp only [sp_nt]; omega) (by omega)) rfl gS_49 (by decide) rfl rfl rfl (Nat.le_of_ble_eq_true rfl) (by decide) ?_
  rintro _ _ - ⟨rfl, I3, rfl, hB3⟩
  refine px_ireturn rfl (.inl rfl) ?_
  exact ⟨rfl, I3, rfl, hB3⟩
theorem vX0_run_2_2 {I : Nat → Nat → Int32} {J : Nat → Nat → Int64} {p : Bool × Option Nat} {ro : List (Nat × Nat × (Nat → Int32))} {nm : Nat} (hnm : nm < 50) (h4 : I 49 4 = nI nm) (hk : I 50 nm = nI 2) (hro : RO ro) {t : TS} {I1 : Nat → Nat → Int32} (hB : BR I t I1) (ht : t.2 < 1000 - 4) {x : Int32} {dd : Nat} (hd : dd + 6 ≤ 20) : Pv 7 0 0 CX0_run [.ref (49), .int (nI 2), .int (-1), .int (x), .int (nI dd)] (gS, I1, J, gR p, ro) (fun r S' => r = some (.int ((-((x + nI nm) * nI 2)) - (nI 1 ^^^ nI nm))) ∧ ∃ I', S' = (gS, I', J, gR p, ro) ∧ BR I (sp_nts t [30, 10, 1, 11]) I') := by
  refine ⟨okCX0_run, Nat.le_of_ble_eq_true rfl, (show Px _ _ _ _ 0 [some (.ref (49)), some (.int (nI 2)), some (.int (-1)), some (.int (x)), some (.int (nI dd)), none] [] _ _ from ?_)⟩
  refine px_aload_n (kk := 0) rfl rfl rfl ?_
  refine px_getR (r := 50) rfl gS_49 rfl (gR_49_0 _) ?_
  refine px_aload_n (kk := 0) rfl rfl rfl ?_
  refine px_getIe rfl gS_49 rfl ((hB.2.1 4 (by decide)).trans h4) ?_
  refine px_ialde (j := nm) (v := nI 2) rfl gS_50 rfl (by omega) ((congrFun (hB.1 50 (by decide)) nm).trans hk) ?_
  refine px_ist5 rfl rfl (by decide) ?_
  refine px_iload_n (kk := 1) rfl rfl rfl ?_
  refine px_lookup rfl (.inl ⟨1, by decide, by decide, rfl⟩) ?_
  refine px_aload_n (kk := 0) rfl rfl rfl ?_
  refine px_iload rfl rfl ?_
  refine px_iconst (v := nI 1) rfl k_1 ?_
  refine px_iload_n (kk := 3) rfl rfl rfl ?_
  refine px_iload rfl rfl ?_
  refine px_callV0 CX0_runFrom [] [.int _, .int _, .int _, .int _] (vX0_rf_2_2_1 hnm h4 hk hro hB (by omega) (by omega)) rfl gS_49 (by decide) rfl rfl rfl (Nat.le_of_ble_eq_true rfl) (by decide) ?_
  rintro _ _ - ⟨rfl, I2, rfl, hB2⟩
  refine px_aload_n (kk := 0) rfl rfl rfl ?_
  refine px_iload rfl rfl ?_
  refine px_iconst (v := nI 2) rfl k_2 ?_
  refine px_iconst (v := nI 1) rfl k_1 ?_
  refine px_iload rfl rfl ?_
  refine px_callV0 CX0_runFrom [.int _] [.int _, .int _, .int _, .int _] (vX0_rf_2_2_2 hnm h4 hk hro hB2 (by rw [sp_nts_2]; simp; omega) (by omega)) rfl gS_49 (by decide) rfl rfl rfl (Nat.le_of_ble_eq_true rfl) (by decide) ?_
  rintro _ _ - ⟨rfl, I3, rfl, hB3⟩
  refine px_isub rfl ?_
  refine px_ireturn rfl (.inl rfl) ?_
  rw [sp_nts_a] at hB3
  exact ⟨rfl, I3, rfl, hB3⟩
theorem vX0_rf_2_2_3 {I : Nat → Nat → Int32} {J : Nat → Nat → Int64} {p : Bool × Option Nat} {ro : List (Nat × Nat × (Nat → Int32))} {nm : Nat} (hnm : nm < 50) (h4 : I 49 4 = nI nm) (hk : I 50 nm = nI 2) (hro : RO ro) {t : TS} {I1 : Nat → Nat → Int32} (hB : BR I t I1) (ht : t.2 < 1000 - 5) {x : Int32} {dd : Nat} (hd : dd + 7 ≤ 20) : Pv 8 0 0 CX0_runFrom [.ref (49), .int (nI 2), .int (nI 3), .int (x), .int (nI dd)] (gS, I1, J, gR p, ro) (fun r S' => r = some (.int ((-((x + nI nm) * nI 2)) - (nI 1 ^^^ nI nm))) ∧ ∃ I', S' = (gS, I', J, gR p, ro) ∧ BR I (sp_nts t [2, 30, 10, 1, 11]) I') := by
  refine ⟨okCX0_runFrom, Nat.le_of_ble_eq_true rfl, (show Px _ _ _ _ 0 [some (.ref (49)), some (.int (nI 2)), some (.int (nI 3)), some (.int (x)), some (.int (nI dd)), none, none, none] [] _ _ from ?_)⟩
  refine px_iload_n (kk := 1) rfl rfl rfl ?_
  refine px_ist5 rfl rfl (by decide) ?_
  refine px_iconst (v := nI 0) rfl k_0 ?_
  refine px_ist6 rfl rfl (by decide) ?_
  refine px_iload rfl rfl ?_
  refine px_bipush (v := nI 8) rfl b_8 ?_
  refine px_icmp_ge rfl (fun h => absurd h (by decide)) (fun _ => ?_)
  refine px_iload rfl rfl ?_
  refine px_callS0 CX0_isKind [] [.int _] (vX0_isKind_2) rfl rfl rfl (Nat.le_of_ble_eq_true rfl) (by decide) ?_
  rintro _ _ - ⟨rfl, rfl⟩
  refine px_if_eq rfl (fun h => absurd h (by decide)) (fun _ => ?_)
  refine px_iload rfl rfl ?_
  refine px_bipush (v := nI 20) rfl b_20 ?_
  refine px_icmp_ge rfl (fun h => absurd h (nI_ge (by omega) (by omega))) (fun c12 => ?_)
  refine px_getstatic rfl ?_
  refine px_iload rfl rfl ?_
  refine px_iconst (v := nI 4) rfl k_4 ?_
  refine px_imulN rfl ?_
  refine px_iload_n (kk := 2) rfl rfl rfl ?_
  refine px_iaddN rfl ?_
  refine px_roalde (j := 11) (v := nI 0) rfl hro.1 rfl (by decide) (by decide) ?_
  refine px_ist7 rfl rfl (by decide) ?_
  refine px_iload rfl rfl ?_
  refine px_if_eq rfl (fun _ => ?_) (fun h => absurd h (by decide))
  refine px_getstatic rfl ?_
  refine px_iload rfl rfl ?_
  refine px_roalde (j := 2) (v := nI 0) rfl hro.2 rfl (by decide) (by decide) ?_
  refine px_ist5 rfl rfl (by decide) ?_
  refine px_iinc6 (v := nI 1) rfl (n_inc 0) rfl (by decide) ?_
  refine px_goto rfl ?_
  refine px_iload rfl rfl ?_
  refine px_bipush (v := nI 8) rfl b_8 ?_
  refine px_icmp_ge rfl (fun h => absurd h (by decide)) (fun _ => ?_)
  refine px_iload rfl rfl ?_
  refine px_callS0 CX0_isKind [] [.int _] (vX0_isKind_0) rfl rfl rfl (Nat.le_of_ble_eq_true rfl) (by decide) ?_
  rintro _ _ - ⟨rfl, rfl⟩
  refine px_if_eq rfl (fun h => absurd h (by decide)) (fun _ => ?_)
  refine px_iload rfl rfl ?_
  refine px_bipush (v := nI 20) rfl b_20 ?_
  refine px_icmp_ge rfl (fun h => absurd h (nI_ge (by omega) (by omega))) (fun c12 => ?_)
  refine px_getstatic rfl ?_
  refine px_iload rfl rfl ?_
  refine px_iconst (v := nI 4) rfl k_4 ?_
  refine px_imulN rfl ?_
  refine px_iload_n (kk := 2) rfl rfl rfl ?_
  refine px_iaddN rfl ?_
  refine px_roalde (j := 3) (v := nI 2) rfl hro.1 rfl (by decide) (by decide) ?_
  refine px_ist7 rfl rfl (by decide) ?_
  refine px_iload rfl rfl ?_
  refine px_if_eq rfl (fun h => absurd h (by decide)) (fun _ => ?_)
  refine px_aload_n (kk := 0) rfl rfl rfl ?_
  refine px_iload rfl rfl ?_
  refine px_callV0 CX0_note [] [.int _] (vX0_note hB (by omega)) rfl gS_49 (by decide) rfl rfl rfl (Nat.le_of_ble_eq_true rfl) (by decide) ?_
  rintro _ _ - ⟨rfl, I2, rfl, hB2⟩
  refine px_aload_n (kk := 0) rfl rfl rfl ?_
  refine px_iload rfl rfl ?_
  refine px_getstatic rfl ?_
  refine px_iload rfl rfl ?_
  refine px_roalde (j := 0) (v := -1) rfl hro.2 rfl (by decide) (by decide) ?_
  refine px_iload_n (kk := 3) rfl rfl rfl ?_
  refine px_iload rfl rfl ?_
  refine px_iconst (v := nI 1) rfl k_1 ?_
  refine px_iaddN rfl ?_
  refine px_callV0 CX0_run [] [.int _, .int _, .int _, .int _] (vX0_run_2_2 hnm h4 hk hro hB2 (by simp only [sp_nt]; omega) (by omega)) rfl gS_49 (by decide) rfl rfl rfl (Nat.le_of_ble_eq_true rfl) (by decide) ?_
  rintro _ _ - ⟨rfl, I3, rfl, hB3⟩
  refine px_ireturn rfl (.inl rfl) ?_
  exact ⟨rfl, I3, rfl, hB3⟩
theorem vX0_run_3_1 {I : Nat → Nat → Int32} {J : Nat → Nat → Int64} {p : Bool × Option Nat} {ro : List (Nat × Nat × (Nat → Int32))} {nm : Nat} (hnm : nm < 50) (h4 : I 49 4 = nI nm) (hk : I 50 nm = nI 3) (hro : RO ro) {t : TS} {I1 : Nat → Nat → Int32} (hB : BR I t I1) (ht : t.2 < 1000 - 0) {x : Int32} {dd : Nat} (hd : dd + 0 ≤ 20) : Pv 1 0 0 CX0_run [.ref (49), .int (nI 1), .int (-1), .int (x), .int (nI dd)] (gS, I1, J, gR p, ro) (fun r S' => r = some (.int (x + nI nm)) ∧ ∃ I', S' = (gS, I', J, gR p, ro) ∧ BR I (sp_nts t []) I') := by
  refine ⟨okCX0_run, Nat.le_of_ble_eq_true rfl, (show Px _ _ _ _ 0 [some (.ref (49)), some (.int (nI 1)), some (.int (-1)), some (.int (x)), some (.int (nI dd)), none] [] _ _ from ?_)⟩
  refine px_aload_n (kk := 0) rfl rfl rfl ?_
  refine px_getR (r := 50) rfl gS_49 rfl (gR_49_0 _) ?_
  refine px_aload_n (kk := 0) rfl rfl rfl ?_
  refine px_getIe rfl gS_49 rfl ((hB.2.1 4 (by decide)).trans h4) ?_
  refine px_ialde (j := nm) (v := nI 3) rfl gS_50 rfl (by omega) ((congrFun (hB.1 50 (by decide)) nm).trans hk) ?_
  refine px_ist5 rfl rfl (by decide) ?_
  refine px_iload_n (kk := 1) rfl rfl rfl ?_
  refine px_lookup rfl (.inl ⟨0, by decide, by decide, rfl⟩) ?_
  refine px_iload_n (kk := 3) rfl rfl rfl ?_
  refine px_aload_n (kk := 0) rfl rfl rfl ?_
  refine px_getIe rfl gS_49 rfl ((hB.2.1 4 (by decide)).trans h4) ?_
  refine px_iadd rfl ?_
  refine px_ireturn rfl (.inl rfl) ?_
  exact ⟨rfl, I1, rfl, hB⟩
theorem vX0_rf_3_3_0 {I : Nat → Nat → Int32} {J : Nat → Nat → Int64} {p : Bool × Option Nat} {ro : List (Nat × Nat × (Nat → Int32))} {nm : Nat} (hnm : nm < 50) (h4 : I 49 4 = nI nm) (hk : I 50 nm = nI 3) (hro : RO ro) {t : TS} {I1 : Nat → Nat → Int32} (hB : BR I t I1) (ht : t.2 < 1000 - 1) {x : Int32} {dd : Nat} (hd : dd + 1 ≤ 20) : Pv 2 0 0 CX0_runFrom [.ref (49), .int (nI 3), .int (nI 0), .int (x), .int (nI dd)] (gS, I1, J, gR p, ro) (fun r S' => r = some (.int (x + nI nm)) ∧ ∃ I', S' = (gS, I', J, gR p, ro) ∧ BR I (sp_nts t [1]) I') := by
  refine ⟨okCX0_runFrom, Nat.le_of_ble_eq_true rfl, (show Px _ _ _ _ 0 [some (.ref (49)), some (.int (nI 3)), some (.int (nI 0)), some (.int (x)), some (.int (nI dd)), none, none, none] [] _ _ from ?_)⟩
  refine px_iload_n (kk := 1) rfl rfl rfl ?_
  refine px_ist5 rfl rfl (by decide) ?_
  refine px_iconst (v := nI 0) rfl k_0 ?_
  refine px_ist6 rfl rfl (by decide) ?_
  refine px_iload rfl rfl ?_
  refine px_bipush (v := nI 8) rfl b_8 ?_
  refine px_icmp_ge rfl (fun h => absurd h (by decide)) (fun _ => ?_)
  refine px_iload rfl rfl ?_
  refine px_callS0 CX0_isKind [] [.int _] (vX0_isKind_3) rfl rfl rfl (Nat.le_of_ble_eq_true rfl) (by decide) ?_
  rintro _ _ - ⟨rfl, rfl⟩
  refine px_if_eq rfl (fun h => absurd h (by decide)) (fun _ => ?_)
  refine px_iload rfl rfl ?_
  refine px_bipush (v := nI 20) rfl b_20 ?_
  refine px_icmp_ge rfl (fun h => absurd h (nI_ge (by omega) (by omega))) (fun c12 => ?_)
  refine px_getstatic rfl ?_
  refine px_iload rfl rfl ?_
  refine px_iconst (v := nI 4) rfl k_4 ?_
  refine px_imulN rfl ?_
  refine px_iload_n (kk := 2) rfl rfl rfl ?_
  refine px_iaddN rfl ?_
  refine px_roalde (j := 12) (v := nI 0) rfl hro.1 rfl (by decide) (by decide) ?_
  refine px_ist7 rfl rfl (by decide) ?_
  refine px_iload rfl rfl ?_
  refine px_if_eq rfl (fun _ => ?_) (fun h => absurd h (by decide))
  refine px_getstatic rfl ?_
  refine px_iload rfl rfl ?_
  refine px_roalde (j := 3) (v := nI 2) rfl hro.2 rfl (by decide) (by decide) ?_
  refine px_ist5 rfl rfl (by decide) ?_
  refine px_iinc6 (v := nI 1) rfl (n_inc 0) rfl (by decide) ?_
  refine px_goto rfl ?_
  refine px_iload rfl rfl ?_
  refine px_bipush (v := nI 8) rfl b_8 ?_
  refine px_icmp_ge rfl (fun h => absurd h (by decide)) (fun _ => ?_)
  refine px_iload rfl rfl ?_
  refine px_callS0 CX0_isKind [] [.int _] (vX0_isKind_2) rfl rfl rfl (Nat.le_of_ble_eq_true rfl) (by decide) ?_
  rintro _ _ - ⟨rfl, rfl⟩
  refine px_if_eq rfl (fun h => absurd h (by decide)) (fun _ => ?_)
  refine px_iload rfl rfl ?_
  refine px_bipush (v := nI 20) rfl b_20 ?_
  refine px_icmp_ge rfl (fun h => absurd h (nI_ge (by omega) (by omega))) (fun c12 => ?_)
  refine px_getstatic rfl ?_
  refine px_iload rfl rfl ?_
  refine px_iconst (v := nI 4) rfl k_4 ?_
  refine px_imulN rfl ?_
  refine px_iload_n (kk := 2) rfl rfl rfl ?_
  refine px_iaddN rfl ?_
  refine px_roalde (j := 8) (v := nI 0) rfl hro.1 rfl (by decide) (by decide) ?_
  refine px_ist7 rfl rfl (by decide) ?_
  refine px_iload rfl rfl ?_
  refine px_if_eq rfl (fun _ => ?_) (fun h => absurd h (by decide))
  refine px_getstatic rfl ?_
  refine px_iload rfl rfl ?_
  refine px_roalde (j := 2) (v := nI 0) rfl hro.2 rfl (by decide) (by decide) ?_
  refine px_ist5 rfl rfl (by decide) ?_
  refine px_iinc6 (v := nI 2) rfl (n_inc 1) rfl (by decide) ?_
  refine px_goto rfl ?_
  refine px_iload rfl rfl ?_
  refine px_bipush (v := nI 8) rfl b_8 ?_
  refine px_icmp_ge rfl (fun h => absurd h (by decide)) (fun _ => ?_)
  refine px_iload rfl rfl ?_
  refine px_callS0 CX0_isKind [] [.int _] (vX0_isKind_0) rfl rfl rfl (Nat.le_of_ble_eq_true rfl) (by decide) ?_
  rintro _ _ - ⟨rfl, rfl⟩
  refine px_if_eq rfl (fun h => absurd h (by decide)) (fun _ => ?_)
  refine px_iload rfl rfl ?_
  refine px_bipush (v := nI 20) rfl b_20 ?_
  refine px_icmp_ge rfl (fun h => absurd h (nI_ge (by omega) (by omega))) (fun c12 => ?_)
  refine px_getstatic rfl ?_
  refine px_iload rfl rfl ?_
  refine px_iconst (v := nI 4) rfl k_4 ?_
  refine px_imulN rfl ?_
  refine px_iload_n (kk := 2) rfl rfl rfl ?_
  refine px_iaddN rfl ?_
  refine px_roalde (j := 0) (v := nI 1) rfl hro.1 rfl (by decide) (by decide) ?_
  refine px_ist7 rfl rfl (by decide) ?_
  refine px_iload rfl rfl ?_
  refine px_if_eq rfl (fun h => absurd h (by decide)) (fun _ => ?_)
  refine px_aload_n (kk := 0) rfl rfl rfl ?_
  refine px_iload rfl rfl ?_
  refine px_callV0 CX0_note [] [.int _] (vX0_note hB (by omega)) rfl gS_49 (by decide) rfl rfl rfl (Nat.le_of_ble_eq_true rfl) (by decide) ?_
  rintro _ _ - ⟨rfl, I2, rfl, hB2⟩
  refine px_aload_n (kk := 0) rfl rfl rfl ?_
  refine px_iload rfl rfl ?_
  refine px_getstatic rfl ?_
  refine px_iload rfl rfl ?_
  refine px_roalde (j := 0) (v := -1) rfl hro.2 rfl (by decide) (by decide) ?_
  refine px_iload_n (kk := 3) rfl rfl rfl ?_
  refine px_iload rfl rfl ?_
  refine px_iconst (v := nI 1) rfl k_1 ?_
  refine px_iaddN rfl ?_
  refine px_callV0 CX0_run [] [.int _, .int _, .int _, .int _] (vX0_run_3_1 hnm h4 hk hro hB2 (by simp only [sp_nt]; omega) (by omega)) rfl gS_49 (by decide) rfl rfl rfl (Nat.le_of_ble_eq_true rfl) (by decide) ?_
  rintro _ _ - ⟨rfl, I3, rfl, hB3⟩
  refine px_ireturn rfl (.inl rfl) ?_
  exact ⟨rfl, I3, rfl, hB3⟩
theorem vX0_run_3_10 {I : Nat → Nat → Int32} {J : Nat → Nat → Int64} {p : Bool × Option Nat} {ro : List (Nat × Nat × (Nat → Int32))} {nm : Nat} (hnm : nm < 50) (h4 : I 49 4 = nI nm) (hk : I 50 nm = nI 3) (hro : RO ro) {t : TS} {I1 : Nat → Nat → Int32} (hB : BR I t I1) (ht : t.2 < 1000 - 1) {x : Int32} {dd : Nat} (hd : dd + 2 ≤ 20) : Pv 3 0 0 CX0_run [.ref (49), .int (nI 10), .int (-1), .int (x), .int (nI dd)] (gS, I1, J, gR p, ro) (fun r S' => r = some (.int ((x + nI nm) * nI 2)) ∧ ∃ I', S' = (gS, I', J, gR p, ro) ∧ BR I (sp_nts t [1]) I') := by
  refine ⟨okCX0_run, Nat.le_of_ble_eq_true rfl, (show Px _ _ _ _ 0 [some (.ref (49)), some (.int (nI 10)), some (.int (-1)), some (.int (x)), some (.int (nI dd)), none] [] _ _ from ?_)⟩
  refine px_aload_n (kk := 0) rfl rfl rfl ?_
  refine px_getR (r := 50) rfl gS_49 rfl (gR_49_0 _) ?_
  refine px_aload_n (kk := 0) rfl rfl rfl ?_
  refine px_getIe rfl gS_49 rfl ((hB.2.1 4 (by decide)).trans h4) ?_
  refine px_ialde (j := nm) (v := nI 3) rfl gS_50 rfl (by omega) ((congrFun (hB.1 50 (by decide)) nm).trans hk) ?_
  refine px_ist5 rfl rfl (by decide) ?_
  refine px_iload_n (kk := 1) rfl rfl rfl ?_
  refine px_lookup rfl (.inl ⟨2, by decide, by decide, rfl⟩) ?_
  refine px_aload_n (kk := 0) rfl rfl rfl ?_
  refine px_iload rfl rfl ?_
  refine px_iconst (v := nI 0) rfl k_0 ?_
  refine px_iload_n (kk := 3) rfl rfl rfl ?_
  refine px_iload rfl rfl ?_
  refine px_callV0 CX0_runFrom [] [.int _, .int _, .int _, .int _] (vX0_rf_3_3_0 hnm h4 hk hro hB (by omega) (by omega)) rfl gS_49 (by decide) rfl rfl rfl (Nat.le_of_ble_eq_true rfl) (by decide) ?_
  rintro _ _ - ⟨rfl, I2, rfl, hB2⟩
  refine px_iconst (v := nI 2) rfl k_2 ?_
  refine px_imul rfl ?_
  refine px_ireturn rfl (.inl rfl) ?_
  exact ⟨rfl, I2, rfl, hB2⟩
theorem vX0_rf_3_0_1 {I : Nat → Nat → Int32} {J : Nat → Nat → Int64} {p : Bool × Option Nat} {ro : List (Nat × Nat × (Nat → Int32))} {nm : Nat} (hnm : nm < 50) (h4 : I 49 4 = nI nm) (hk : I 50 nm = nI 3) (hro : RO ro) {t : TS} {I1 : Nat → Nat → Int32} (hB : BR I t I1) (ht : t.2 < 1000 - 2) {x : Int32} {dd : Nat} (hd : dd + 3 ≤ 20) : Pv 4 0 0 CX0_runFrom [.ref (49), .int (nI 0), .int (nI 1), .int (x), .int (nI dd)] (gS, I1, J, gR p, ro) (fun r S' => r = some (.int ((x + nI nm) * nI 2)) ∧ ∃ I', S' = (gS, I', J, gR p, ro) ∧ BR I (sp_nts t [10, 1]) I') := by
  refine ⟨okCX0_runFrom, Nat.le_of_ble_eq_true rfl, (show Px _ _ _ _ 0 [some (.ref (49)), some (.int (nI 0)), some (.int (nI 1)), some (.int (x)), some (.int (nI dd)), none, none, none] [] _ _ from ?_)⟩
  refine px_iload_n (kk := 1) rfl rfl rfl ?_
  refine px_ist5 rfl rfl (by decide) ?_
  refine px_iconst (v := nI 0) rfl k_0 ?_
  refine px_ist6 rfl rfl (by decide) ?_
  refine px_iload rfl rfl ?_
  refine px_bipush (v := nI 8) rfl b_8 ?_
  refine px_icmp_ge rfl (fun h => absurd h (by decide)) (fun _ => ?_)
  refine px_iload rfl rfl ?_
  refine px_callS0 CX0_isKind [] [.int _] (vX0_isKind_0) rfl rfl rfl (Nat.le_of_ble_eq_true rfl) (by decide) ?_
  rintro _ _ - ⟨rfl, rfl⟩
  refine px_if_eq rfl (fun h => absurd h (by decide)) (fun _ => ?_)
  refine px_iload rfl rfl ?_
  refine px_bipush (v := nI 20) rfl b_20 ?_
  refine px_icmp_ge rfl (fun h => absurd h (nI_ge (by omega) (by omega))) (fun c12 => ?_)
  refine px_getstatic rfl ?_
  refine px_iload rfl rfl ?_
  refine px_iconst (v := nI 4) rfl k_4 ?_
  refine px_imulN rfl ?_
  refine px_iload_n (kk := 2) rfl rfl rfl ?_
  refine px_iaddN rfl ?_
  refine px_roalde (j := 1) (v := nI 10) rfl hro.1 rfl (by decide) (by decide) ?_
  refine px_ist7 rfl rfl (by decide) ?_
  refine px_iload rfl rfl ?_
  refine px_if_eq rfl (fun h => absurd h (by decide)) (fun _ => ?_)
  refine px_aload_n (kk := 0) rfl rfl rfl ?_
  refine px_iload rfl rfl ?_
  refine px_callV0 CX0_note [] [.int _] (vX0_note hB (by omega)) rfl gS_49 (by decide) rfl rfl rfl (Nat.le_of_ble_eq_true rfl) (by decide) ?_
  rintro _ _ - ⟨rfl, I2, rfl, hB2⟩
  refine px_aload_n (kk := 0) rfl rfl rfl ?_
  refine px_iload rfl rfl ?_
  refine px_getstatic rfl ?_
  refine px_iload rfl rfl ?_
  refine px_roalde (j := 0) (v := -1) rfl hro.2 rfl (by decide) (by decide) ?_
  refine px_iload_n (kk := 3) rfl rfl rfl ?_
  refine px_iload rfl rfl ?_
  refine px_iconst (v := nI 1) rfl k_1 ?_
  refine px_iaddN rfl ?_
  refine px_callV0 CX0_run [] [.int _, .int _, .int _, .int _] (vX0_run_3_10 hnm h4 hk hro hB2 (by simp only [sp_nt]; omega) (by omega)) rfl gS_49 (by decide) rfl rfl rfl (Nat.le_of_ble_eq_true rfl) (by decide) ?_
  rintro _ _ - ⟨rfl, I3, rfl, hB3⟩
  refine px_ireturn rfl (.inl rfl) ?_
  exact ⟨rfl, I3, rfl, hB3⟩
theorem vX0_run_3_30 {I : Nat → Nat → Int32} {J : Nat → Nat → Int64} {p : Bool × Option Nat} {ro : List (Nat × Nat × (Nat → Int32))} {nm : Nat} (hnm : nm < 50) (h4 : I 49 4 = nI nm) (hk : I 50 nm = nI 3) (hro : RO ro) {t : TS} {I1 : Nat → Nat → Int32} (hB : BR I t I1) (ht : t.2 < 1000 - 2) {x : Int32} {dd : Nat} (hd : dd + 4 ≤ 20) : Pv 5 0 0 CX0_run [.ref (49), .int (nI 30), .int (nI 0), .int (x), .int (nI dd)] (gS, I1, J, gR p, ro) (fun r S' => r = some (.int (-((x + nI nm) * nI 2))) ∧ ∃ I', S' = (gS, I', J, gR p, ro) ∧ BR I (sp_nts t [10, 1]) I') := by
  refine ⟨okCX0_run, Nat.le_of_ble_eq_true rfl, (show Px _ _ _ _ 0 [some (.ref (49)), some (.int (nI 30)), some (.int (nI 0)), some (.int (x)), some (.int (nI dd)), none] [] _ _ from ?_)⟩
  refine px_aload_n (kk := 0) rfl rfl rfl ?_
  refine px_getR (r := 50) rfl gS_49 rfl (gR_49_0 _) ?_
  refine px_aload_n (kk := 0) rfl rfl rfl ?_
  refine px_getIe rfl gS_49 rfl ((hB.2.1 4 (by decide)).trans h4) ?_
  refine px_ialde (j := nm) (v := nI 3) rfl gS_50 rfl (by omega) ((congrFun (hB.1 50 (by decide)) nm).trans hk) ?_
  refine px_ist5 rfl rfl (by decide) ?_
  refine px_iload_n (kk := 1) rfl rfl rfl ?_
  refine px_lookup rfl (.inl ⟨5, by decide, by decide, rfl⟩) ?_
  refine px_aload_n (kk := 0) rfl rfl rfl ?_
  refine px_iload_n (kk := 2) rfl rfl rfl ?_
  refine px_iconst (v := nI 1) rfl k_1 ?_
  refine px_iload_n (kk := 3) rfl rfl rfl ?_
  refine px_iload rfl rfl ?_
  refine px_callV0 CX0_runFrom [] [.int _, .int _, .int _, .int _] (vX0_rf_3_0_1 hnm h4 hk hro hB (by omega) (by omega)) rfl gS_49 (by decide) rfl rfl rfl (Nat.le_of_ble_eq_true rfl) (by decide) ?_
  rintro _ _ - ⟨rfl, I2, rfl, hB2⟩
  refine px_ineg rfl ?_
  refine px_ireturn rfl (.inl rfl) ?_
  exact ⟨rfl, I2, rfl, hB2⟩
theorem vX0_rf_3_2_1 {I : Nat → Nat → Int32} {J : Nat → Nat → Int64} {p : Bool × Option Nat} {ro : List (Nat × Nat × (Nat → Int32))} {nm : Nat} (hnm : nm < 50) (h4 : I 49 4 = nI nm) (hk : I 50 nm = nI 3) (hro : RO ro) {t : TS} {I1 : Nat → Nat → Int32} (hB : BR I t I1) (ht : t.2 < 1000 - 3) {x : Int32} {dd : Nat} (hd : dd + 5 ≤ 20) : Pv 6 0 0 CX0_runFrom [.ref (49), .int (nI 2), .int (nI 1), .int (x), .int (nI dd)] (gS, I1, J, gR p, ro) (fun r S' => r = some (.int (-((x + nI nm) * nI 2))) ∧ ∃ I', S' = (gS, I', J, gR p, ro) ∧ BR I (sp_nts t [30, 10, 1]) I') := by
  refine ⟨okCX0_runFrom, Nat.le_of_ble_eq_true rfl, (show Px _ _ _ _ 0 [some (.ref (49)), some (.int (nI 2)), some (.int (nI 1)), some (.int (x)), some (.int (nI dd)), none, none, none] [] _ _ from ?_)⟩
  refine px_iload_n (kk := 1) rfl rfl rfl ?_
  refine px_ist5 rfl rfl (by decide) ?_
  refine px_iconst (v := nI 0) rfl k_0 ?_
  refine px_ist6 rfl rfl (by decide) ?_
  refine px_iload rfl rfl ?_
  refine px_bipush (v := nI 8) rfl b_8 ?_
  refine px_icmp_ge rfl (fun h => absurd h (by decide)) (fun _ => ?_)
  refine px_iload rfl rfl ?_
  refine px_callS0 CX0_isKind [] [.int _] (vX0_isKind_2) rfl rfl rfl (Nat.le_of_ble_eq_true rfl) (by decide) ?_
  rintro _ _ - ⟨rfl, rfl⟩
  refine px_if_eq rfl (fun h => absurd h (by decide)) (fun _ => ?_)
  refine px_iload rfl rfl ?_
  refine px_bipush (v := nI 20) rfl b_20 ?_
  refine px_icmp_ge rfl (fun h => absurd h (nI_ge (by omega) (by omega))) (fun c12 => ?_)
  refine px_getstatic rfl ?_
  refine px_iload rfl rfl ?_
  refine px_iconst (v := nI 4) rfl k_4 ?_
  refine px_imulN rfl ?_
  refine px_iload_n (kk := 2) rfl rfl rfl ?_
  refine px_iaddN rfl ?_
  refine px_roalde (j := 9) (v := nI 30) rfl hro.1 rfl (by decide) (by decide) ?_
  refine px_ist7 rfl rfl (by decide) ?_
  refine px_iload rfl rfl ?_
  refine px_if_eq rfl (fun h => absurd h (by decide)) (fun _ => ?_)
  refine px_aload_n (kk := 0) rfl rfl rfl ?_
  refine px_iload rfl rfl ?_
  refine px_callV0 CX0_note [] [.int _] (vX0_note hB (by omega)) rfl gS_49 (by decide) rfl rfl rfl (Nat.le_of_ble_eq_true rfl) (by decide) ?_
  rintro _ _ - ⟨rfl, I2, rfl, hB2⟩
  refine px_aload_n (kk := 0) rfl rfl rfl ?_
  refine px_iload rfl rfl ?_
  refine px_getstatic rfl ?_
  refine px_iload rfl rfl ?_
  refine px_roalde (j := 2) (v := nI 0) rfl hro.2 rfl (by decide) (by decide) ?_
  refine px_iload_n (kk := 3) rfl rfl rfl ?_
  refine px_iload rfl rfl ?_
  refine px_iconst (v := nI 1) rfl k_1 ?_
  refine px_iaddN rfl ?_
  refine px_callV0 CX0_run [] [.int _, .int _, .int _, .int _] (vX0_run_3_30 hnm h4 hk hro hB2 (by simp only [sp_nt]; omega) (by omega)) rfl gS_49 (by decide) rfl rfl rfl (Nat.le_of_ble_eq_true rfl) (by decide) ?_
  rintro _ _ - ⟨rfl, I3, rfl, hB3⟩
  refine px_ireturn rfl (.inl rfl) ?_
  exact ⟨rfl, I3, rfl, hB3⟩
theorem vX0_run_3_41 {I : Nat → Nat → Int32} {J : Nat → Nat → Int64} {p : Bool × Option Nat} {ro : List (Nat × Nat × (Nat → Int32))} {nm : Nat} (hnm : nm < 50) (h4 : I 49 4 = nI nm) (hk : I 50 nm = nI 3) (hro : RO ro) {t : TS} {I1 : Nat → Nat → Int32} (hB : BR I t I1) (ht : t.2 < 1000 - 3) {x : Int32} {dd : Nat} (hd : dd + 6 ≤ 20) : Pv 7 0 0 CX0_run [.ref (49), .int (nI 41), .int (nI 2), .int (x), .int (nI dd)] (gS, I1, J, gR p, ro) (fun r S' => r = some (.int (-(((x + nI 1) + nI nm) * nI 2))) ∧ ∃ I', S' = (gS, I', J, gR p, ro) ∧ BR I (sp_nts t [30, 10, 1]) I') := by
  refine ⟨okCX0_run, Nat.le_of_ble_eq_true rfl, (show Px _ _ _ _ 0 [some (.ref (49)), some (.int (nI 41)), some (.int (nI 2)), some (.int (x)), some (.int (nI dd)), none] [] _ _ from ?_)⟩
  refine px_aload_n (kk := 0) rfl rfl rfl ?_
  refine px_getR (r := 50) rfl gS_49 rfl (gR_49_0 _) ?_
  refine px_aload_n (kk := 0) rfl rfl rfl ?_
  refine px_getIe rfl gS_49 rfl ((hB.2.1 4 (by decide)).trans h4) ?_
  refine px_ialde (j := nm) (v := nI 3) rfl gS_50 rfl (by omega) ((congrFun (hB.1 50 (by decide)) nm).trans hk) ?_
  refine px_ist5 rfl rfl (by decide) ?_
  refine px_iload_n (kk := 1) rfl rfl rfl ?_
  refine px_lookup rfl (.inl ⟨7, by decide, by decide, rfl⟩) ?_
  refine px_aload_n (kk := 0) rfl rfl rfl ?_
  refine px_iload_n (kk := 2) rfl rfl rfl ?_
  refine px_iconst (v := nI 1) rfl k_1 ?_
  refine px_iload_n (kk := 3) rfl rfl rfl ?_
  refine px_iconst (v := nI 1) rfl k_1 ?_
  refine px_iadd rfl ?_
  refine px_iload rfl rfl ?_
  refine px_callV0 CX0_runFrom [] [.int _, .int _, .int _, .int _] (vX0_rf_3_2_1 hnm h4 hk hro hB (by omega) (by omega)) rfl gS_49 (by decide) rfl rfl rfl (Nat.le_of_ble_eq_true rfl) (by decide) ?_
  rintro _ _ - ⟨rfl, I2, rfl, hB2⟩
  refine px_ireturn rfl (.inl rfl) ?_
  exact ⟨rfl, I2, rfl, hB2⟩
theorem vX0_rf_3_3_1 {I : Nat → Nat → Int32} {J : Nat → Nat → Int64} {p : Bool × Option Nat} {ro : List (Nat × Nat × (Nat → Int32))} {nm : Nat} (hnm : nm < 50) (h4 : I 49 4 = nI nm) (hk : I 50 nm = nI 3) (hro : RO ro) {t : TS} {I1 : Nat → Nat → Int32} (hB : BR I t I1) (ht : t.2 < 1000 - 4) {x : Int32} {dd : Nat} (hd : dd + 7 ≤ 20) : Pv 8 0 0 CX0_runFrom [.ref (49), .int (nI 3), .int (nI 1), .int (x), .int (nI dd)] (gS, I1, J, gR p, ro) (fun r S' => r = some (.int (-(((x + nI 1) + nI nm) * nI 2))) ∧ ∃ I', S' = (gS, I', J, gR p, ro) ∧ BR I (sp_nts t [41, 30, 10, 1]) I') := by
  refine ⟨okCX0_runFrom, Nat.le_of_ble_eq_true rfl, (show Px _ _ _ _ 0 [some (.ref (49)), some (.int (nI 3)), some (.int (nI 1)), some (.int (x)), some (.int (nI dd)), none, none, none] [] _ _ from ?_)⟩
  refine px_iload_n (kk := 1) rfl rfl rfl ?_
  refine px_ist5 rfl rfl (by decide) ?_
  refine px_iconst (v := nI 0) rfl k_0 ?_
  refine px_ist6 rfl rfl (by decide) ?_
  refine px_iload rfl rfl ?_
  refine px_bipush (v := nI 8) rfl b_8 ?_
  refine px_icmp_ge rfl (fun h => absurd h (by decide)) (fun _ => ?_)
  refine px_iload rfl rfl ?_
  refine px_callS0 CX0_isKind [] [.int _] (vX0_isKind_3) rfl rfl rfl (Nat.le_of_ble_eq_true rfl) (by decide) ?_
  rintro _ _ - ⟨rfl, rfl⟩
  refine px_if_eq rfl (fun h => absurd h (by decide)) (fun _ => ?_)
  refine px_iload rfl rfl ?_
  refine px_bipush (v := nI 20) rfl b_20 ?_
  refine px_icmp_ge rfl (fun h => absurd h (nI_ge (by omega) (by omega))) (fun c12 => ?_)
  refine px_getstatic rfl ?_
  refine px_iload rfl rfl ?_
  refine px_iconst (v := nI 4) rfl k_4 ?_
  refine px_imulN rfl ?_
  refine px_iload_n (kk := 2) rfl rfl rfl ?_
  refine px_iaddN rfl ?_
  refine px_roalde (j := 13) (v := nI 41) rfl hro.1 rfl (by decide) (by decide) ?_
  refine px_ist7 rfl rfl (by decide) ?_
  refine px_iload rfl rfl ?_
  refine px_if_eq rfl (fun h => absurd h (by decide)) (fun _ => ?_)
  refine px_aload_n (kk := 0) rfl rfl rfl ?_
  refine px_iload rfl rfl ?_
  refine px_callV0 CX0_note [] [.int _] (vX0_note hB (by omega)) rfl gS_49 (by decide) rfl rfl rfl (Nat.le_of_ble_eq_true rfl) (by decide) ?_
  rintro _ _ - ⟨rfl, I2, rfl, hB2⟩
  refine px_aload_n (kk := 0) rfl rfl rfl ?_
  refine px_iload rfl rfl ?_
  refine px_getstatic rfl ?_
  refine px_iload rfl rfl ?_
  refine px_roalde (j := 3) (v := nI 2) rfl hro.2 rfl (by decide) (by decide) ?_
  refine px_iload_n (kk := 3) rfl rfl rfl ?_
  refine px_iload rfl rfl ?_
  refine px_iconst (v := nI 1) rfl k_1 ?_
  refine px_iaddN rfl ?_
  refine px_callV0 CX0_run [] [.int _, .int _, .int _, .int _] (vX0_run_3_41 hnm h4 hk hro hB2 (by simp only [sp_nt]; omega) (by omega)) rfl gS_49 (by decide) rfl rfl rfl (Nat.le_of_ble_eq_true rfl) (by decide) ?_
  rintro _ _ - ⟨rfl, I3, rfl, hB3⟩
  refine px_ireturn rfl (.inl rfl) ?_
  exact ⟨rfl, I3, rfl, hB3⟩
theorem vX0_run_3_11 {I : Nat → Nat → Int32} {J : Nat → Nat → Int64} {p : Bool × Option Nat} {ro : List (Nat × Nat × (Nat → Int32))} {nm : Nat} (hnm : nm < 50) (h4 : I 49 4 = nI nm) (hk : I 50 nm = nI 3) (hro : RO ro) {t : TS} {I1 : Nat → Nat → Int32} (hB : BR I t I1) (ht : t.2 < 1000 - 0) {x : Int32} {dd : Nat} (hd : dd + 0 ≤ 20) : Pv 1 0 0 CX0_run [.ref (49), .int (nI 11), .int (-1), .int (x), .int (nI dd)] (gS, I1, J, gR p, ro) (fun r S' => r = some (.int (x ^^^ nI nm)) ∧ ∃ I', S' = (gS, I', J, gR p, ro) ∧ BR I (sp_nts t []) I') := by
  refine ⟨okCX0_run, Nat.le_of_ble_eq_true rfl, (show Px _ _ _ _ 0 [some (.ref (49)), some (.int (nI 11)), some (.int (-1)), some (.int (x)), some (.int (nI dd)), none] [] _ _ from ?_)⟩
  refine px_aload_n (kk := 0) rfl rfl rfl ?_
  refine px_getR (r := 50) rfl gS_49 rfl (gR_49_0 _) ?_
  refine px_aload_n (kk := 0) rfl rfl rfl ?_
  refine px_getIe rfl gS_49 rfl ((hB.2.1 4 (by decide)).trans h4) ?_
  refine px_ialde (j := nm) (v := nI 3) rfl gS_50 rfl (by omega) ((congrFun (hB.1 50 (by decide)) nm).trans hk) ?_
  refine px_ist5 rfl rfl (by decide) ?_
  refine px_iload_n (kk := 1) rfl rfl rfl ?_
  refine px_lookup rfl (.inl ⟨3, by decide, by decide, rfl⟩) ?_
  refine px_iload_n (kk := 3) rfl rfl rfl ?_
  refine px_aload_n (kk := 0) rfl rfl rfl ?_
  refine px_getIe rfl gS_49 rfl ((hB.2.1 4 (by decide)).trans h4) ?_
  refine px_ixor rfl ?_
  refine px_ireturn rfl (.inl rfl) ?_
  exact ⟨rfl, I1, rfl, hB⟩
theorem vX0_rf_3_2_2 {I : Nat → Nat → Int32} {J : Nat → Nat → Int64} {p : Bool × Option Nat} {ro : List (Nat × Nat × (Nat → Int32))} {nm : Nat} (hnm : nm < 50) (h4 : I 49 4 = nI nm) (hk : I 50 nm = nI 3) (hro : RO ro) {t : TS} {I1 : Nat → Nat → Int32} (hB : BR I t I1) (ht : t.2 < 1000 - 1) {x : Int32} {dd : Nat} (hd : dd + 1 ≤ 20) : Pv 2 0 0 CX0_runFrom [.ref (49), .int (nI 2), .int (nI 2), .int (x), .int (nI dd)] (gS, I1, J, gR p, ro) (fun r S' => r = some (.int (x ^^^ nI nm)) ∧ ∃ I', S' = (gS, I', J, gR p, ro) ∧ BR I (sp_nts t [11]) I') := by
  refine ⟨okCX0_runFrom, Nat.le_of_ble_eq_true rfl, (show Px _ _ _ _ 0 [some (.ref (49)), some (.int (nI 2)), some (.int (nI 2)), some (.int (x)), some (.int (nI dd)), none, none, none] [] _ _ from ?_)⟩
  refine px_iload_n (kk := 1) rfl rfl rfl ?_
  refine px_ist5 rfl rfl (by decide) ?_
  refine px_iconst (v := nI 0) rfl k_0 ?_
  refine px_ist6 rfl rfl (by decide) ?_
  refine px_iload rfl rfl ?_
  refine px_bipush (v := nI 8) rfl b_8 ?_
  refine px_icmp_ge rfl (fun h => absurd h (by decide)) (fun _ => ?_)
  refine px_iload rfl rfl ?_
  refine px_callS0 CX0_isKind [] [.int _] (vX0_isKind_2) rfl rfl rfl (Nat.le_of_ble_eq_true rfl) (by decide) ?_
  rintro _ _ - ⟨rfl, rfl⟩
  refine px_if_eq rfl (fun h => absurd h (by decide)) (fun _ => ?_)
  refine px_iload rfl rfl ?_
  refine px_bipush (v := nI 20) rfl b_20 ?_
  refine px_icmp_ge rfl (fun h => absurd h (nI_ge (by omega) (by omega))) (fun c12 => ?_)
  refine px_getstatic rfl ?_
  refine px_iload rfl rfl ?_
  refine px_iconst (v := nI 4) rfl k_4 ?_
  refine px_imulN rfl ?_
  refine px_iload_n (kk := 2) rfl rfl rfl ?_
  refine px_iaddN rfl ?_
  refine px_roalde (j := 10) (v := nI 0) rfl hro.1 rfl (by decide) (by decide) ?_
  refine px_ist7 rfl rfl (by decide) ?_
  refine px_iload rfl rfl ?_
  refine px_if_eq rfl (fun _ => ?_) (fun h => absurd h (by decide))
  refine px_getstatic rfl ?_
  refine px_iload rfl rfl ?_
  refine px_roalde (j := 2) (v := nI 0) rfl hro.2 rfl (by decide) (by decide) ?_
  refine px_ist5 rfl rfl (by decide) ?_
  refine px_iinc6 (v := nI 1) rfl (n_inc 0) rfl (by decide) ?_
  refine px_goto rfl ?_
  refine px_iload rfl rfl ?_
  refine px_bipush (v := nI 8) rfl b_8 ?_
  refine px_icmp_ge rfl (fun h => absurd h (by decide)) (fun _ => ?_)
  refine px_iload rfl rfl ?_
  refine px_callS0 CX0_isKind [] [.int _] (vX0_isKind_0) rfl rfl rfl (Nat.le_of_ble_eq_true rfl) (by decide) ?_
  rintro _ _ - ⟨rfl, rfl⟩
  refine px_if_eq rfl (fun h => absurd h (by decide)) (fun _ => ?_)
  refine px_iload rfl rfl ?_
  refine px_bipush (v := nI 20) rfl b_20 ?_
  refine px_icmp_ge rfl (fun h => absurd h (nI_ge (by omega) (by omega))) (fun c12 => ?_)
  refine px_getstatic rfl ?_
  refine px_iload rfl rfl ?_
  refine px_iconst (v := nI 4) rfl k_4 ?_
  refine px_imulN rfl ?_
  refine px_iload_n (kk := 2) rfl rfl rfl ?_
  refine px_iaddN rfl ?_
  refine px_roalde (j := 2) (v := nI 11) rfl hro.1 rfl (by decide) (by decide) ?_
  refine px_ist7 rfl rfl (by decide) ?_
  refine px_iload rfl rfl ?_
  refine px_if_eq rfl (fun h => absurd h (by decide)) (fun _ => ?_)
  refine px_aload_n (kk := 0) rfl rfl rfl ?_
  refine px_iload rfl rfl ?_
  refine px_callV0 CX0_note [] [.int _] (vX0_note hB (by omega)) rfl gS_49 (by decide) rfl rfl rfl (Nat.le_of_ble_eq_true rfl) (by decide) ?_
  rintro _ _ - ⟨rfl, I2, rfl, hB2⟩
  refine px_aload_n (kk := 0) rfl rfl rfl ?_
  refine px_iload rfl rfl ?_
  refine px_getstatic rfl ?_
  refine px_iload rfl rfl ?_
  refine px_roalde (j := 0) (v := -1) rfl hro.2 rfl (by decide) (by decide) ?_
  refine px_iload_n (kk := 3) rfl rfl rfl ?_
  refine px_iload rfl rfl ?_
  refine px_iconst (v := nI 1) rfl k_1 ?_
  refine px_iaddN rfl ?_
  refine px_callV0 CX0_run [] [.int _, .int _, .int _, .int _] (vX0_run_3_11 hnm h4 hk hro hB2 (by simp only [sp_nt]; omega) (by omega)) rfl gS_49 (by decide) rfl rfl rfl (Nat.le_of_ble_eq_true rfl) (by decide) ?_
  rintro _ _ - ⟨rfl, I3, rfl, hB3⟩
  refine px_ireturn rfl (.inl rfl) ?_
  exact ⟨rfl, I3, rfl, hB3⟩
theorem vX0_run_3_40 {I : Nat → Nat → Int32} {J : Nat → Nat → Int64} {p : Bool × Option Nat} {ro : List (Nat × Nat × (Nat → Int32))} {nm : Nat} (hnm : nm < 50) (h4 : I 49 4 = nI nm) (hk : I 50 nm = nI 3) (hro : RO ro) {t : TS} {I1 : Nat → Nat → Int32} (hB : BR I t I1) (ht : t.2 < 1000 - 1) {x : Int32} {dd : Nat} (hd : dd + 2 ≤ 20) : Pv 3 0 0 CX0_run [.ref (49), .int (nI 40), .int (nI 2), .int (x), .int (nI dd)] (gS, I1, J, gR p, ro) (fun r S' => r = some (.int ((x ^^^ nI nm) * nI 3)) ∧ ∃ I', S' = (gS, I', J, gR p, ro) ∧ BR I (sp_nts t [11]) I') := by
  refine ⟨okCX0_run, Nat.le_of_ble_eq_true rfl, (show Px _ _ _ _ 0 [some (.ref (49)), some (.int (nI 40)), some (.int (nI 2)), some (.int (x)), some (.int (nI dd)), none] [] _ _ from ?_)⟩
  refine px_aload_n (kk := 0) rfl rfl rfl ?_
  refine px_getR (r := 50) rfl gS_49 rfl (gR_49_0 _) ?_
  refine px_aload_n (kk := 0) rfl rfl rfl ?_
  refine px_getIe rfl gS_49 rfl ((hB.2.1 4 (by decide)).trans h4) ?_
  refine px_ialde (j := nm) (v := nI 3) rfl gS_50 rfl (by omega) ((congrFun (hB.1 50 (by decide)) nm).trans hk) ?_
  refine px_ist5 rfl rfl (by decide) ?_
  refine px_iload_n (kk := 1) rfl rfl rfl ?_
  refine px_lookup rfl (.inl ⟨6, by decide, by decide, rfl⟩) ?_
  refine px_aload_n (kk := 0) rfl rfl rfl ?_
  refine px_iload_n (kk := 2) rfl rfl rfl ?_
  refine px_iconst (v := nI 2) rfl k_2 ?_
  refine px_iload_n (kk := 3) rfl rfl rfl ?_
  refine px_iload rfl rfl ?_
  refine px_callV0 CX0_runFrom [] [.int _, .int _, .int _, .int _] (vX0_rf_3_2_2 hnm h4 hk hro hB (by omega) (by omega)) rfl gS_49 (by decide) rfl rfl rfl (Nat.le_of_ble_eq_true rfl) (by decide) ?_
  rintro _ _ - ⟨rfl, I2, rfl, hB2⟩
  refine px_iconst (v := nI 3) rfl k_3 ?_
  refine px_imul rfl ?_
  refine px_ireturn rfl (.inl rfl) ?_
  exact ⟨rfl, I2, rfl, hB2⟩
theorem vX0_rf_3_3_2 {I : Nat → Nat → Int32} {J : Nat → Nat → Int64} {p : Bool × Option Nat} {ro : List (Nat × Nat × (Nat → Int32))} {nm : Nat} (hnm : nm < 50) (h4 : I 49 4 = nI nm) (hk : I 50 nm = nI 3) (hro : RO ro) {t : TS} {I1 : Nat → Nat → Int32} (hB : BR I t I1) (ht : t.2 < 1000 - 2) {x : Int32} {dd : Nat} (hd : dd + 3 ≤ 20) : Pv 4 0 0 CX0_runFrom [.ref (49), .int (nI 3), .int (nI 2), .int (x), .int (nI dd)] (gS, I1, J, gR p, ro) (fun r S' => r = some (.int ((x ^^^ nI nm) * nI 3)) ∧ ∃ I', S' = (gS, I', J, gR p, ro) ∧ BR I (sp_nts t [40, 11]) I') := by
  refine ⟨okCX0_runFrom, Nat.le_of_ble_eq_true rfl, (show Px _ _ _ _ 0 [some (.ref (49)), some (.int (nI 3)), some (.int (nI 2)), some (.int (x)), some (.int (nI dd)), none, none, none] [] _ _ from ?_)⟩
  refine px_iload_n (kk := 1) rfl rfl rfl ?_
  refine px_ist5 rfl rfl (by decide) ?_
  refine px_iconst (v := nI 0) rfl k_0 ?_
  refine px_ist6 rfl rfl (by decide) ?_
  refine px_iload rfl rfl ?_
  refine px_bipush (v := nI 8) rfl b_8 ?_
  refine px_icmp_ge rfl (fun h => absurd h (by decide)) (fun _ => ?_)
  refine px_iload rfl rfl ?_
  refine px_callS0 CX0_isKind [] [.int _] (vX0_isKind_3) rfl rfl rfl (Nat.le_of_ble_eq_true rfl) (by decide) ?_
  rintro _ _ - ⟨rfl, rfl⟩
  refine px_if_eq rfl (fun h => absurd h (by decide)) (fun _ => ?_)
  refine px_iload rfl rfl ?_
  refine px_bipush (v := nI 20) rfl b_20 ?_
  refine px_icmp_ge rfl (fun h => absurd h (nI_ge (by omega) (by omega))) (fun c12 => ?_)
  refine px_getstatic rfl ?_
  refine px_iload rfl rfl ?_
  refine px_iconst (v := nI 4) rfl k_4 ?_
  refine px_imulN rfl ?_
  refine px_iload_n (kk := 2) rfl rfl rfl ?_
  refine px_iaddN rfl ?_
  refine px_roalde (j := 14) (v := nI 40) rfl hro.1 rfl (by decide) (by decide) ?_
  refine px_ist7 rfl rfl (by decide) ?_
  refine px_iload rfl rfl ?_
  refine px_if_eq rfl (fun h => absurd h (by decide)) (fun _ => ?_)
  refine px_aload_n (kk := 0) rfl rfl rfl ?_
  refine px_iload rfl rfl ?_
  refine px_callV0 CX0_note [] [.int _] (vX0_note hB (by omega)) rfl gS_49 (by decide) rfl rfl rfl (Nat.le_of_ble_eq_true rfl) (by decide) ?_
  rintro _ _ - ⟨rfl, I2, rfl, hB2⟩
  refine px_aload_n (kk := 0) rfl rfl rfl ?_
  refine px_iload rfl rfl ?_
  refine px_getstatic rfl ?_
  refine px_iload rfl rfl ?_
  refine px_roalde (j := 3) (v := nI 2) rfl hro.2 rfl (by decide) (by decide) ?_
  refine px_iload_n (kk := 3) rfl rfl rfl ?_
  refine px_iload rfl rfl ?_
  refine px_iconst (v := nI 1) rfl k_1 ?_
  refine px_iaddN rfl ?_
  refine px_callV0 CX0_run [] [.int _, .int _, .int _, .int _] (vX0_run_3_40 hnm h4 hk hro hB2 (by simp only [sp_nt]; omega) (by omega)) rfl gS_49 (by decide) rfl rfl rfl (Nat.le_of_ble_eq_true rfl) (by decide) ?_
  rintro _ _ - ⟨rfl, I3, rfl, hB3⟩
  refine px_ireturn rfl (.inl rfl) ?_
  exact ⟨rfl, I3, rfl, hB3⟩
theorem vX0_run_3_2 {I : Nat → Nat → Int32} {J : Nat → Nat → Int64} {p : Bool × Option Nat} {ro : List (Nat × Nat × (Nat → Int32))} {nm : Nat} (hnm : nm < 50) (h4 : I 49 4 = nI nm) (hk : I 50 nm = nI 3) (hro : RO ro) {t : TS} {I1 : Nat → Nat → Int32} (hB : BR I t I1) (ht : t.2 < 1000 - 6) {x : Int32} {dd : Nat} (hd : dd + 8 ≤ 20) : Pv 9 0 0 CX0_run [.ref (49), .int (nI 2), .int (-1), .int (x), .int (nI dd)] (gS, I1, J, gR p, ro) (fun r S' => r = some (.int ((-(((x + nI 1) + nI nm) * nI 2)) - ((nI 1 ^^^ nI nm) * nI 3))) ∧ ∃ I', S' = (gS, I', J, gR p, ro) ∧ BR I (sp_nts t [41, 30, 10, 1, 40, 11]) I') := by
  refine ⟨okCX0_run, Nat.le_of_ble_eq_true rfl, (show Px _ _ _ _ 0 [some (.ref (49)), some (.int (nI 2)), some (.int (-1)), some (.int (x)), some (.int (nI dd)), none] [] _ _ from ?_)⟩
  refine px_aload_n (kk := 0) rfl rfl rfl ?_
  refine px_getR (r := 50) rfl gS_49 rfl (gR_49_0 _) ?_
  refine px_aload_n (kk := 0) rfl rfl rfl ?_
  refine px_getIe rfl gS_49 rfl ((hB.2.1 4 (by decide)).trans h4) ?_
  refine px_ialde (j := nm) (v := nI 3) rfl gS_50 rfl (by omega) ((congrFun (hB.1 50 (by decide)) nm).trans hk) ?_
  refine px_ist5 rfl rfl (by decide) ?_
  refine px_iload_n (kk := 1) rfl rfl rfl ?_
  refine px_lookup rfl (.inl ⟨1, by decide, by decide, rfl⟩) ?_
  refine px_aload_n (kk := 0) rfl rfl rfl ?_
  refine px_iload rfl rfl ?_
  refine px_iconst (v := nI 1) rfl k_1 ?_
  refine px_iload_n (kk := 3) rfl rfl rfl ?_
  refine px_iload rfl rfl ?_
  refine px_callV0 CX0_runFrom [] [.int _, .int _, .int _, .int _] (vX0_rf_3_3_1 hnm h4 hk hro hB (by omega) (by omega)) rfl gS_49 (by decide) rfl rfl rfl (Nat.le_of_ble_eq_true rfl) (by decide) ?_
  rintro _ _ - ⟨rfl, I2, rfl, hB2⟩
  refine px_aload_n (kk := 0) rfl rfl rfl ?_
  refine px_iload rfl rfl ?_
  refine px_iconst (v := nI 2) rfl k_2 ?_
  refine px_iconst (v := nI 1) rfl k_1 ?_
  refine px_iload rfl rfl ?_
  refine px_callV0 CX0_runFrom [.int _] [.int _, .int _, .int _, .int _] (vX0_rf_3_3_2 hnm h4 hk hro hB2 (by rw [sp_nts_2]; simp; omega) (by omega)) rfl gS_49 (by decide) rfl rfl rfl (Nat.le_of_ble_eq_true rfl) (by decide) ?_
  rintro _ _ - ⟨rfl, I3, rfl, hB3⟩
  refine px_isub rfl ?_
  refine px_ireturn rfl (.inl rfl) ?_
  rw [sp_nts_a] at hB3
  exact ⟨rfl, I3, rfl, hB3⟩
theorem vX0_rf_3_3_3 {I : Nat → Nat → Int32} {J : Nat → Nat → Int64} {p : Bool × Option Nat} {ro : List (Nat × Nat × (Nat → Int32))} {nm : Nat} (hnm : nm < 50) (h4 : I 49 4 = nI nm) (hk : I 50 nm = nI 3) (hro : RO ro) {t : TS} {I1 : Nat → Nat → Int32} (hB : BR I t I1) (ht : t.2 < 1000 - 7) {x : Int32} {dd : Nat} (hd : dd + 9 ≤ 20) : Pv 10 0 0 CX0_runFrom [.ref (49), .int (nI 3), .int (nI 3), .int (x), .int (nI dd)] (gS, I1, J, gR p, ro) (fun r S' => r = some (.int ((-(((x + nI 1) + nI nm) * nI 2)) - ((nI 1 ^^^ nI nm) * nI 3))) ∧ ∃ I', S' = (gS, I', J, gR p, ro) ∧ BR I (sp_nts t [2, 41, 30, 10, 1, 40, 11]) I') := by
  refine ⟨okCX0_runFrom, Nat.le_of_ble_eq_true rfl, (show Px _ _ _ _ 0 [some (.ref (49)), some (.int (nI 3)), some (.int (nI 3)), some (.int (x)), some (.int (nI dd)), none, none, none] [] _ _ from ?_)⟩
  refine px_iload_n (kk := 1) rfl rfl rfl ?_
  refine px_ist5 rfl rfl (by decide) ?_
  refine px_iconst (v := nI 0) rfl k_0 ?_
  refine px_ist6 rfl rfl (by decide) ?_
  refine px_iload rfl rfl ?_
  refine px_bipush (v := nI 8) rfl b_8 ?_
  refine px_icmp_ge rfl (fun h => absurd h (by decide)) (fun _ => ?_)
  refine px_iload rfl rfl ?_
  refine px_callS0 CX0_isKind [] [.int _] (vX0_isKind_3) rfl rfl rfl (Nat.le_of_ble_eq_true rfl) (by decide) ?_
  rintro _ _ - ⟨rfl, rfl⟩
  refine px_if_eq rfl (fun h => absurd h (by decide)) (fun _ => ?_)
  refine px_iload rfl rfl ?_
  refine px_bipush (v := nI 20) rfl b_20 ?_
  refine px_icmp_ge rfl (fun h => absurd h (nI_ge (by omega) (by omega))) (fun c12 => ?_)
  refine px_getstatic rfl ?_
  refine px_iload rfl rfl ?_
  refine px_iconst (v := nI 4) rfl k_4 ?_
  refine px_imulN rfl ?_
  refine px_iload_n (kk := 2) rfl rfl rfl ?_
  refine px_iaddN rfl ?_
  refine px_roalde (j := 15) (v := nI 0) rfl hro.1 rfl (by decide) (by decide) ?_
  refine px_ist7 rfl rfl (by decide) ?_
  refine px_iload rfl rfl ?_
  refine px_if_eq rfl (fun _ => ?_) (fun h => absurd h (by decide))
  refine px_getstatic rfl ?_
  refine px_iload rfl rfl ?_
  refine px_roalde (j := 3) (v := nI 2) rfl hro.2 rfl (by decide) (by decide) ?_
  refine px_ist5 rfl rfl (by decide) ?_
  refine px_iinc6 (v := nI 1) rfl (n_inc 0) rfl (by decide) ?_
  refine px_goto rfl ?_
  refine px_iload rfl rfl ?_
  refine px_bipush (v := nI 8) rfl b_8 ?_
  refine px_icmp_ge rfl (fun h => absurd h (by decide)) (fun _ => ?_)
  refine px_iload rfl rfl ?_
  refine px_callS0 CX0_isKind [] [.int _] (vX0_isKind_2) rfl rfl rfl (Nat.le_of_ble_eq_true rfl) (by decide) ?_
  rintro _ _ - ⟨rfl, rfl⟩
  refine px_if_eq rfl (fun h => absurd h (by decide)) (fun _ => ?_)
  refine px_iload rfl rfl ?_
  refine px_bipush (v := nI 20) rfl b_20 ?_
  refine px_icmp_ge rfl (fun h => absurd h (nI_ge (by omega) (by omega))) (fun c12 => ?_)
  refine px_getstatic rfl ?_
  refine px_iload rfl rfl ?_
  refine px_iconst (v := nI 4) rfl k_4 ?_
  refine px_imulN rfl ?_
  refine px_iload_n (kk := 2) rfl rfl rfl ?_
  refine px_iaddN rfl ?_
  refine px_roalde (j := 11) (v := nI 0) rfl hro.1 rfl (by decide) (by decide) ?_
  refine px_ist7 rfl rfl (by decide) ?_
  refine px_iload rfl rfl ?_
  refine px_if_eq rfl (fun _ => ?_) (fun h => absurd h (by decide))
  refine px_getstatic rfl ?_
  refine px_iload rfl rfl ?_
  refine px_roalde (j := 2) (v := nI 0) rfl hro.2 rfl (by decide) (by decide) ?_
  refine px_ist5 rfl rfl (by decide) ?_
  refine px_iinc6 (v := nI 2) rfl (n_inc 1) rfl (by decide) ?_
  refine px_goto rfl ?_
  refine px_iload rfl rfl ?_
  refine px_bipush (v := nI 8) rfl b_8 ?_
  refine px_icmp_ge rfl (fun h => absurd h (by decide)) (fun _ => ?_)
  refine px_iload rfl rfl ?_
  refine px_callS0 CX0_isKind [] [.int _] (vX0_isKind_0) rfl rfl rfl (Nat.le_of_ble_eq_true rfl) (by decide) ?_
  rintro _ _ - ⟨rfl, rfl⟩
  refine px_if_eq rfl (fun h => absurd h (by decide)) (fun _ => ?_)
  refine px_iload rfl rfl ?_
  refine px_bipush (v := nI 20) rfl b_20 ?_
  refine px_icmp_ge rfl (fun h => absurd h (nI_ge (by omega) (by omega))) (fun c12 => ?_)
  refine px_getstatic rfl ?_
  refine px_iload rfl rfl ?_
  refine px_iconst (v := nI 4) rfl k_4 ?_
  refine px_imulN rfl ?_
  refine px_iload_n (kk := 2) rfl rfl rfl ?_
  refine px_iaddN rfl ?_
  refine px_roalde (j := 3) (v := nI 2) rfl hro.1 rfl (by decide) (by decide) ?_
  refine px_ist7 rfl rfl (by decide) ?_
  refine px_iload rfl rfl ?_
  refine px_if_eq rfl (fun h => absurd h (by decide)) (fun _ => ?_)
  refine px_aload_n (kk := 0) rfl rfl rfl ?_
  refine px_iload rfl rfl ?_
  refine px_callV0 CX0_note [] [.int _] (vX0_note hB (by omega)) rfl gS_49 (by decide) rfl rfl rfl (Nat.le_of_ble_eq_true rfl) (by decide) ?_
  rintro _ _ - ⟨rfl, I2, rfl, hB2⟩
  refine px_aload_n (kk := 0) rfl rfl rfl ?_
  refine px_iload rfl rfl ?_
  refine px_getstatic rfl ?_
  refine px_iload rfl rfl ?_
  refine px_roalde (j := 0) (v := -1) rfl hro.2 rfl (by decide) (by decide) ?_
  refine px_iload_n (kk := 3) rfl rfl rfl ?_
  refine px_iload rfl rfl ?_
  refine px_iconst (v := nI 1) rfl k_1 ?_
  refine px_iaddN rfl ?_
  refine px_callV0 CX0_run [] [.int _, .int _, .int _, .int _] (vX0_run_3_2 hnm h4 hk hro hB2 (by simp only [sp_nt]; omega) (by omega)) rfl gS_49 (by decide) rfl rfl rfl (Nat.le_of_ble_eq_true rfl) (by decide) ?_
  rintro _ _ - ⟨rfl, I3, rfl, hB3⟩
  refine px_ireturn rfl (.inl rfl) ?_
  exact ⟨rfl, I3, rfl, hB3⟩
theorem vX0_run_4_1 {I : Nat → Nat → Int32} {J : Nat → Nat → Int64} {p : Bool × Option Nat} {ro : List (Nat × Nat × (Nat → Int32))} {nm : Nat} (hnm : nm < 50) (h4 : I 49 4 = nI nm) (hk : I 50 nm = nI 4) (hro : RO ro) {t : TS} {I1 : Nat → Nat → Int32} (hB : BR I t I1) (ht : t.2 < 1000 - 0) {x : Int32} {dd : Nat} (hd : dd + 0 ≤ 20) : Pv 1 0 0 CX0_run [.ref (49), .int (nI 1), .int (-1), .int (x), .int (nI dd)] (gS, I1, J, gR p, ro) (fun r S' => r = some (.int (x + nI nm)) ∧ ∃ I', S' = (gS, I', J, gR p, ro) ∧ BR I (sp_nts t []) I') := by
  refine ⟨okCX0_run, Nat.le_of_ble_eq_true rfl, (show Px _ _ _ _ 0 [some (.ref (49)), some (.int (nI 1)), some (.int (-1)), some (.int (x)), some (.int (nI dd)), none] [] _ _ from ?_)⟩
  refine px_aload_n (kk := 0) rfl rfl rfl ?_
  refine px_getR (r := 50) rfl gS_49 rfl (gR_49_0 _) ?_
  refine px_aload_n (kk := 0) rfl rfl rfl ?_
  refine px_getIe rfl gS_49 rfl ((hB.2.1 4 (by decide)).trans h4) ?_
  refine px_ialde (j := nm) (v := nI 4) rfl gS_50 rfl (by omega) ((congrFun (hB.1 50 (by decide)) nm).trans hk) ?_
  refine px_ist5 rfl rfl (by decide) ?_
  refine px_iload_n (kk := 1) rfl rfl rfl ?_
  refine px_lookup rfl (.inl ⟨0, by decide, by decide, rfl⟩) ?_
  refine px_iload_n (kk := 3) rfl rfl rfl ?_
  refine px_aload_n (kk := 0) rfl rfl rfl ?_
  refine px_getIe rfl gS_49 rfl ((hB.2.1 4 (by decide)).trans h4) ?_
  refine px_iadd rfl ?_
  refine px_ireturn rfl (.inl rfl) ?_
  exact ⟨rfl, I1, rfl, hB⟩
theorem vX0_rf_4_0_0 {I : Nat → Nat → Int32} {J : Nat → Nat → Int64} {p : Bool × Option Nat} {ro : List (Nat × Nat × (Nat → Int32))} {nm : Nat} (hnm : nm < 50) (h4 : I 49 4 = nI nm) (hk : I 50 nm = nI 4) (hro : RO ro) {t : TS} {I1 : Nat → Nat → Int32} (hB : BR I t I1) (ht : t.2 < 1000 - 1) {x : Int32} {dd : Nat} (hd : dd + 1 ≤ 20) : Pv 2 0 0 CX0_runFrom [.ref (49), .int (nI 0), .int (nI 0), .int (x), .int (nI dd)] (gS, I1, J, gR p, ro) (fun r S' => r = some (.int (x + nI nm)) ∧ ∃ I', S' = (gS, I', J, gR p, ro) ∧ BR I (sp_nts t [1]) I') := by
  refine ⟨okCX0_runFrom, Nat.le_of_ble_eq_true rfl, (show Px _ _ _ _ 0 [some (.ref (49)), some (.int (nI 0)), some (.int (nI 0)), some (.int (x)), some (.int (nI dd)), none, none, none] [] _ _ from ?_)⟩
  refine px_iload_n (kk := 1) rfl rfl rfl ?_
  refine px_ist5 rfl rfl (by decide) ?_
  refine px_iconst (v := nI 0) rfl k_0 ?_
  refine px_ist6 rfl rfl (by decide) ?_
  refine px_iload rfl rfl ?_
  refine px_bipush (v := nI 8) rfl b_8 ?_
  refine px_icmp_ge rfl (fun h => absurd h (by decide)) (fun _ => ?_)
  refine px_iload rfl rfl ?_
  refine px_callS0 CX0_isKind [] [.int _] (vX0_isKind_0) rfl rfl rfl (Nat.le_of_ble_eq_true rfl) (by decide) ?_
  rintro _ _ - ⟨rfl, rfl⟩
  refine px_if_eq rfl (fun h => absurd h (by decide)) (fun _ => ?_)
  refine px_iload rfl rfl ?_
  refine px_bipush (v := nI 20) rfl b_20 ?_
  refine px_icmp_ge rfl (fun h => absurd h (nI_ge (by omega) (by omega))) (fun c12 => ?_)
  refine px_getstatic rfl ?_
  refine px_iload rfl rfl ?_
  refine px_iconst (v := nI 4) rfl k_4 ?_
  refine px_imulN rfl ?_
  refine px_iload_n (kk := 2) rfl rfl rfl ?_
  refine px_iaddN rfl ?_
  refine px_roalde (j := 0) (v := nI 1) rfl hro.1 rfl (by decide) (by decide) ?_
  refine px_ist7 rfl rfl (by decide) ?_
  refine px_iload rfl rfl ?_
  refine px_if_eq rfl (fun h => absurd h (by decide)) (fun _ => ?_)
  refine px_aload_n (kk := 0) rfl rfl rfl ?_
  refine px_iload rfl rfl ?_
  refine px_callV0 CX0_note [] [.int _] (vX0_note hB (by omega)) rfl gS_49 (by decide) rfl rfl rfl (Nat.le_of_ble_eq_true rfl) (by decide) ?_
  rintro _ _ - ⟨rfl, I2, rfl, hB2⟩
  refine px_aload_n (kk := 0) rfl rfl rfl ?_
  refine px_iload rfl rfl ?_
  refine px_getstatic rfl ?_
  refine px_iload rfl rfl ?_
  refine px_roalde (j := 0) (v := -1) rfl hro.2 rfl (by decide) (by decide) ?_
  refine px_iload_n (kk := 3) rfl rfl rfl ?_
  refine px_iload rfl rfl ?_
  refine px_iconst (v := nI 1) rfl k_1 ?_
  refine px_iaddN rfl ?_
  refine px_callV0 CX0_run [] [.int _, .int _, .int _, .int _] (vX0_run_4_1 hnm h4 hk hro hB2 (by simp only [sp_nt]; omega) (by omega)) rfl gS_49 (by decide) rfl rfl rfl (Nat.le_of_ble_eq_true rfl) (by decide) ?_
  rintro _ _ - ⟨rfl, I3, rfl, hB3⟩
  refine px_ireturn rfl (.inl rfl) ?_
  exact ⟨rfl, I3, rfl, hB3⟩
theorem vX0_run_4_20 {I : Nat → Nat → Int32} {J : Nat → Nat → Int64} {p : Bool × Option Nat} {ro : List (Nat × Nat × (Nat → Int32))} {nm : Nat} (hnm : nm < 50) (h4 : I 49 4 = nI nm) (hk : I 50 nm = nI 4) (hro : RO ro) {t : TS} {I1 : Nat → Nat → Int32} (hB : BR I t I1) (ht : t.2 < 1000 - 1) {x : Int32} {dd : Nat} (hd : dd + 2 ≤ 20) : Pv 3 0 0 CX0_run [.ref (49), .int (nI 20), .int (nI 0), .int (x), .int (nI dd)] (gS, I1, J, gR p, ro) (fun r S' => r = some (.int ((x + nI nm) + nI 3)) ∧ ∃ I', S' = (gS, I', J, gR p, ro) ∧ BR I (sp_nts t [1]) I') := by
  refine ⟨okCX0_run, Nat.le_of_ble_eq_true rfl, (show Px _ _ _ _ 0 [some (.ref (49)), some (.int (nI 20)), some (.int (nI 0)), some (.int (x)), some (.int (nI dd)), none] [] _ _ from ?_)⟩
  refine px_aload_n (kk := 0) rfl rfl rfl ?_
  refine px_getR (r := 50) rfl gS_49 rfl (gR_49_0 _) ?_
  refine px_aload_n (kk := 0) rfl rfl rfl ?_
  refine px_getIe rfl gS_49 rfl ((hB.2.1 4 (by decide)).trans h4) ?_
  refine px_ialde (j := nm) (v := nI 4) rfl gS_50 rfl (by omega) ((congrFun (hB.1 50 (by decide)) nm).trans hk) ?_
  refine px_ist5 rfl rfl (by decide) ?_
  refine px_iload_n (kk := 1) rfl rfl rfl ?_
  refine px_lookup rfl (.inl ⟨4, by decide, by decide, rfl⟩) ?_
  refine px_aload_n (kk := 0) rfl rfl rfl ?_
  refine px_iload_n (kk := 2) rfl rfl rfl ?_
  refine px_iconst (v := nI 0) rfl k_0 ?_
  refine px_iload_n (kk := 3) rfl rfl rfl ?_
  refine px_iload rfl rfl ?_
  refine px_callV0 CX0_runFrom [] [.int _, .int _, .int _, .int _] (vX0_rf_4_0_0 hnm h4 hk hro hB (by omega) (by omega)) rfl gS_49 (by decide) rfl rfl rfl (Nat.le_of_ble_eq_true rfl) (by decide) ?_
  rintro _ _ - ⟨rfl, I2, rfl, hB2⟩
  refine px_iconst (v := nI 3) rfl k_3 ?_
  refine px_iadd rfl ?_
  refine px_ireturn rfl (.inl rfl) ?_
  exact ⟨rfl, I2, rfl, hB2⟩
theorem vX0_rf_4_4_0 {I : Nat → Nat → Int32} {J : Nat → Nat → Int64} {p : Bool × Option Nat} {ro : List (Nat × Nat × (Nat → Int32))} {nm : Nat} (hnm : nm < 50) (h4 : I 49 4 = nI nm) (hk : I 50 nm = nI 4) (hro : RO ro) {t : TS} {I1 : Nat → Nat → Int32} (hB : BR I t I1) (ht : t.2 < 1000 - 2) {x : Int32} {dd : Nat} (hd : dd + 3 ≤ 20) : Pv 4 0 0 CX0_runFrom [.ref (49), .int (nI 4), .int (nI 0), .int (x), .int (nI dd)] (gS, I1, J, gR p, ro) (fun r S' => r = some (.int ((x + nI nm) + nI 3)) ∧ ∃ I', S' = (gS, I', J, gR p, ro) ∧ BR I (sp_nts t [20, 1]) I') := by
  refine ⟨okCX0_runFrom, Nat.le_of_ble_eq_true rfl, (show Px _ _ _ _ 0 [some (.ref (49)), some (.int (nI 4)), some (.int (nI 0)), some (.int (x)), some (.int (nI dd)), none, none, none] [] _ _ from ?_)⟩
  refine px_iload_n (kk := 1) rfl rfl rfl ?_
  refine px_ist5 rfl rfl (by decide) ?_
  refine px_iconst (v := nI 0) rfl k_0 ?_
  refine px_ist6 rfl rfl (by decide) ?_
  refine px_iload rfl rfl ?_
  refine px_bipush (v := nI 8) rfl b_8 ?_
  refine px_icmp_ge rfl (fun h => absurd h (by decide)) (fun _ => ?_)
  refine px_iload rfl rfl ?_
  refine px_callS0 CX0_isKind [] [.int _] (vX0_isKind_4) rfl rfl rfl (Nat.le_of_ble_eq_true rfl) (by decide) ?_
  rintro _ _ - ⟨rfl, rfl⟩
  refine px_if_eq rfl (fun h => absurd h (by decide)) (fun _ => ?_)
  refine px_iload rfl rfl ?_
  refine px_bipush (v := nI 20) rfl b_20 ?_
  refine px_icmp_ge rfl (fun h => absurd h (nI_ge (by omega) (by omega))) (fun c12 => ?_)
  refine px_getstatic rfl ?_
  refine px_iload rfl rfl ?_
  refine px_iconst (v := nI 4) rfl k_4 ?_
  refine px_imulN rfl ?_
  refine px_iload_n (kk := 2) rfl rfl rfl ?_
  refine px_iaddN rfl ?_
  refine px_roalde (j := 16) (v := nI 0) rfl hro.1 rfl (by decide) (by decide) ?_
  refine px_ist7 rfl rfl (by decide) ?_
  refine px_iload rfl rfl ?_
  refine px_if_eq rfl (fun _ => ?_) (fun h => absurd h (by decide))
  refine px_getstatic rfl ?_
  refine px_iload rfl rfl ?_
  refine px_roalde (j := 4) (v := nI 1) rfl hro.2 rfl (by decide) (by decide) ?_
  refine px_ist5 rfl rfl (by decide) ?_
  refine px_iinc6 (v := nI 1) rfl (n_inc 0) rfl (by decide) ?_
  refine px_goto rfl ?_
  refine px_iload rfl rfl ?_
  refine px_bipush (v := nI 8) rfl b_8 ?_
  refine px_icmp_ge rfl (fun h => absurd h (by decide)) (fun _ => ?_)
  refine px_iload rfl rfl ?_
  refine px_callS0 CX0_isKind [] [.int _] (vX0_isKind_1) rfl rfl rfl (Nat.le_of_ble_eq_true rfl) (by decide) ?_
  rintro _ _ - ⟨rfl, rfl⟩
  refine px_if_eq rfl (fun h => absurd h (by decide)) (fun _ => ?_)
  refine px_iload rfl rfl ?_
  refine px_bipush (v := nI 20) rfl b_20 ?_
  refine px_icmp_ge rfl (fun h => absurd h (nI_ge (by omega) (by omega))) (fun c12 => ?_)
  refine px_getstatic rfl ?_
  refine px_iload rfl rfl ?_
  refine px_iconst (v := nI 4) rfl k_4 ?_
  refine px_imulN rfl ?_
  refine px_iload_n (kk := 2) rfl rfl rfl ?_
  refine px_iaddN rfl ?_
  refine px_roalde (j := 4) (v := nI 20) rfl hro.1 rfl (by decide) (by decide) ?_
  refine px_ist7 rfl rfl (by decide) ?_
  refine px_iload rfl rfl ?_
  refine px_if_eq rfl (fun h => absurd h (by decide)) (fun _ => ?_)
  refine px_aload_n (kk := 0) rfl rfl rfl ?_
  refine px_iload rfl rfl ?_
  refine px_callV0 CX0_note [] [.int _] (vX0_note hB (by omega)) rfl gS_49 (by decide) rfl rfl rfl (Nat.le_of_ble_eq_true rfl) (by decide) ?_
  rintro _ _ - ⟨rfl, I2, rfl, hB2⟩
  refine px_aload_n (kk := 0) rfl rfl rfl ?_
  refine px_iload rfl rfl ?_
  refine px_getstatic rfl ?_
  refine px_iload rfl rfl ?_
  refine px_roalde (j := 1) (v := nI 0) rfl hro.2 rfl (by decide) (by decide) ?_
  refine px_iload_n (kk := 3) rfl rfl rfl ?_
  refine px_iload rfl rfl ?_
  refine px_iconst (v := nI 1) rfl k_1 ?_
  refine px_iaddN rfl ?_
  refine px_callV0 CX0_run [] [.int _, .int _, .int _, .int _] (vX0_run_4_20 hnm h4 hk hro hB2 (by simp only [sp_nt]; omega) (by omega)) rfl gS_49 (by decide) rfl rfl rfl (Nat.le_of_ble_eq_true rfl) (by decide) ?_
  rintro _ _ - ⟨rfl, I3, rfl, hB3⟩
  refine px_ireturn rfl (.inl rfl) ?_
  exact ⟨rfl, I3, rfl, hB3⟩
theorem vX0_run_4_10 {I : Nat → Nat → Int32} {J : Nat → Nat → Int64} {p : Bool × Option Nat} {ro : List (Nat × Nat × (Nat → Int32))} {nm : Nat} (hnm : nm < 50) (h4 : I 49 4 = nI nm) (hk : I 50 nm = nI 4) (hro : RO ro) {t : TS} {I1 : Nat → Nat → Int32} (hB : BR I t I1) (ht : t.2 < 1000 - 2) {x : Int32} {dd : Nat} (hd : dd + 4 ≤ 20) : Pv 5 0 0 CX0_run [.ref (49), .int (nI 10), .int (-1), .int (x), .int (nI dd)] (gS, I1, J, gR p, ro) (fun r S' => r = some (.int (((x + nI nm) + nI 3) * nI 2)) ∧ ∃ I', S' = (gS, I', J, gR p, ro) ∧ BR I (sp_nts t [20, 1]) I') := by
  refine ⟨okCX0_run, Nat.le_of_ble_eq_true rfl, (show Px _ _ _ _ 0 [some (.ref (49)), some (.int (nI 10)), some (.int (-1)), some (.int (x)), some (.int (nI dd)), none] [] _ _ from ?_)⟩
  refine px_aload_n (kk := 0) rfl rfl rfl ?_
  refine px_getR (r := 50) rfl gS_49 rfl (gR_49_0 _) ?_
  refine px_aload_n (kk := 0) rfl rfl rfl ?_
  refine px_getIe rfl gS_49 rfl ((hB.2.1 4 (by decide)).trans h4) ?_
  refine px_ialde (j := nm) (v := nI 4) rfl gS_50 rfl (by omega) ((congrFun (hB.1 50 (by decide)) nm).trans hk) ?_
  refine px_ist5 rfl rfl (by decide) ?_
  refine px_iload_n (kk := 1) rfl rfl rfl ?_
  refine px_lookup rfl (.inl ⟨2, by decide, by decide, rfl⟩) ?_
  refine px_aload_n (kk := 0) rfl rfl rfl ?_
  refine px_iload rfl rfl ?_
  refine px_iconst (v := nI 0) rfl k_0 ?_
  refine px_iload_n (kk := 3) rfl rfl rfl ?_
  refine px_iload rfl rfl ?_
  refine px_callV0 CX0_runFrom [] [.int _, .int _, .int _, .int _] (vX0_rf_4_4_0 hnm h4 hk hro hB (by omega) (by omega)) rfl gS_49 (by decide) rfl rfl rfl (Nat.le_of_ble_eq_true rfl) (by decide) ?_
  rintro _ _ - ⟨rfl, I2, rfl, hB2⟩
  refine px_iconst (v := nI 2) rfl k_2 ?_
  refine px_imul rfl ?_
  refine px_ireturn rfl (.inl rfl) ?_
  exact ⟨rfl, I2, rfl, hB2⟩
theorem vX0_rf_4_4_1 {I : Nat → Nat → Int32} {J : Nat → Nat → Int64} {p : Bool × Option Nat} {ro : List (Nat × Nat × (Nat → Int32))} {nm : Nat} (hnm : nm < 50) (h4 : I 49 4 = nI nm) (hk : I 50 nm = nI 4) (hro : RO ro) {t : TS} {I1 : Nat → Nat → Int32} (hB : BR I t I1) (ht : t.2 < 1000 - 3) {x : Int32} {dd : Nat} (hd : dd + 5 ≤ 20) : Pv 6 0 0 CX0_runFrom [.ref (49), .int (nI 4), .int (nI 1), .int (x), .int (nI dd)] (gS, I1, J, gR p, ro) (fun r S' => r = some (.int (((x + nI nm) + nI 3) * nI 2)) ∧ ∃ I', S' = (gS, I', J, gR p, ro) ∧ BR I (sp_nts t [10, 20, 1]) I') := by
  refine ⟨okCX0_runFrom, Nat.le_of_ble_eq_true rfl, (show Px _ _ _ _ 0 [some (.ref (49)), some (.int (nI 4)), some (.int (nI 1)), some (.int (x)), some (.int (nI dd)), none, none, none] [] _ _ from ?_)⟩
  refine px_iload_n (kk := 1) rfl rfl rfl ?_
  refine px_ist5 rfl rfl (by decide) ?_
  refine px_iconst (v := nI 0) rfl k_0 ?_
  refine px_ist6 rfl rfl (by decide) ?_
  refine px_iload rfl rfl ?_
  refine px_bipush (v := nI 8) rfl b_8 ?_
  refine px_icmp_ge rfl (fun h => absurd h (by decide)) (fun _ => ?_)
  refine px_iload rfl rfl ?_
  refine px_callS0 CX0_isKind [] [.int _] (vX0_isKind_4) rfl rfl rfl (Nat.le_of_ble_eq_true rfl) (by decide) ?_
  rintro _ _ - ⟨rfl, rfl⟩
  refine px_if_eq rfl (fun h => absurd h (by decide)) (fun _ => ?_)
  refine px_iload rfl rfl ?_
  refine px_bipush (v := nI 20) rfl b_20 ?_
  refine px_icmp_ge rfl (fun h => absurd h (nI_ge (by omega) (by omega))) (fun c12 => ?_)
  refine px_getstatic rfl ?_
  refine px_iload rfl rfl ?_
  refine px_iconst (v := nI 4) rfl k_4 ?_
  refine px_imulN rfl ?_
  refine px_iload_n (kk := 2) rfl rfl rfl ?_
  refine px_iaddN rfl ?_
  refine px_roalde (j := 17) (v := nI 0) rfl hro.1 rfl (by decide) (by decide) ?_
  refine px_ist7 rfl rfl (by decide) ?_
  refine px_iload rfl rfl ?_
  refine px_if_eq rfl (fun _ => ?_) (fun h => absurd h (by decide))
  refine px_getstatic rfl ?_
  refine px_iload rfl rfl ?_
  refine px_roalde (j := 4) (v := nI 1) rfl hro.2 rfl (by decide) (by decide) ?_
  refine px_ist5 rfl rfl (by decide) ?_
  refine px_iinc6 (v := nI 1) rfl (n_inc 0) rfl (by decide) ?_
  refine px_goto rfl ?_
  refine px_iload rfl rfl ?_
  refine px_bipush (v := nI 8) rfl b_8 ?_
  refine px_icmp_ge rfl (fun h => absurd h (by decide)) (fun _ => ?_)
  refine px_iload rfl rfl ?_
  refine px_callS0 CX0_isKind [] [.int _] (vX0_isKind_1) rfl rfl rfl (Nat.le_of_ble_eq_true rfl) (by decide) ?_
  rintro _ _ - ⟨rfl, rfl⟩
  refine px_if_eq rfl (fun h => absurd h (by decide)) (fun _ => ?_)
  refine px_iload rfl rfl ?_
  refine px_bipush (v := nI 20) rfl b_20 ?_
  refine px_icmp_ge rfl (fun h => absurd h (nI_ge (by omega) (by omega))) (fun c12 => ?_)
  refine px_getstatic rfl ?_
  refine px_iload rfl rfl ?_
  refine px_iconst (v := nI 4) rfl k_4 ?_
  refine px_imulN rfl ?_
  refine px_iload_n (kk := 2) rfl rfl rfl ?_
  refine px_iaddN rfl ?_
  refine px_roalde (j := 5) (v := nI 0) rfl hro.1 rfl (by decide) (by decide) ?_
  refine px_ist7 rfl rfl (by decide) ?_
  refine px_iload rfl rfl ?_
  refine px_if_eq rfl (fun _ => ?_) (fun h => absurd h (by decide))
  refine px_getstatic rfl ?_
  refine px_iload rfl rfl ?_
  refine px_roalde (j := 1) (v := nI 0) rfl hro.2 rfl (by decide) (by decide) ?_
  refine px_ist5 rfl rfl (by decide) ?_
  refine px_iinc6 (v := nI 2) rfl (n_inc 1) rfl (by decide) ?_
  refine px_goto rfl ?_
  refine px_iload rfl rfl ?_
  refine px_bipush (v := nI 8) rfl b_8 ?_
  refine px_icmp_ge rfl (fun h => absurd h (by decide)) (fun _ => ?_)
  refine px_iload rfl rfl ?_
  refine px_callS0 CX0_isKind [] [.int _] (vX0_isKind_0) rfl rfl rfl (Nat.le_of_ble_eq_true rfl) (by decide) ?_
  rintro _ _ - ⟨rfl, rfl⟩
  refine px_if_eq rfl (fun h => absurd h (by decide)) (fun _ => ?_)
  refine px_iload rfl rfl ?_
  refine px_bipush (v := nI 20) rfl b_20 ?_
  refine px_icmp_ge rfl (fun h => absurd h (nI_ge (by omega) (by omega))) (fun c12 => ?_)
  refine px_getstatic rfl ?_
  refine px_iload rfl rfl ?_
  refine px_iconst (v := nI 4) rfl k_4 ?_
  refine px_imulN rfl ?_
  refine px_iload_n (kk := 2) rfl rfl rfl ?_
  refine px_iaddN rfl ?_
  refine px_roalde (j := 1) (v := nI 10) rfl hro.1 rfl (by decide) (by decide) ?_
  refine px_ist7 rfl rfl (by decide) ?_
  refine px_iload rfl rfl ?_
  refine px_if_eq rfl (fun h => absurd h (by decide)) (fun _ => ?_)
  refine px_aload_n (kk := 0) rfl rfl rfl ?_
  refine px_iload rfl rfl ?_
  refine px_callV0 CX0_note [] [.int _] (vX0_note hB (by omega)) rfl gS_49 (by decide) rfl rfl rfl (Nat.le_of_ble_eq_true rfl) (by decide) ?_
  rintro _ _ - ⟨rfl, I2, rfl, hB2⟩
  refine px_aload_n (kk := 0) rfl rfl rfl ?_
  refine px_iload rfl rfl ?_
  refine px_getstatic rfl ?_
  refine px_iload rfl rfl ?_
  refine px_roalde (j := 0) (v := -1) rfl hro.2 rfl (by decide) (by decide) ?_
  refine px_iload_n (kk := 3) rfl rfl rfl ?_
  refine px_iload rfl rfl ?_
  refine px_iconst (v := nI 1) rfl k_1 ?_
  refine px_iaddN rfl ?_
  refine px_callV0 CX0_run [] [.int _, .int _, .int _, .int _] (vX0_run_4_10 hnm h4 hk hro hB2 (by simp only [sp_nt]; omega) (by omega)) rfl gS_49 (by decide) rfl rfl rfl (Nat.le_of_ble_eq_true rfl) (by decide) ?_
  rintro _ _ - ⟨rfl, I3, rfl, hB3⟩
  refine px_ireturn rfl (.inl rfl) ?_
  exact ⟨rfl, I3, rfl, hB3⟩
theorem vX0_run_4_11 {I : Nat → Nat → Int32} {J : Nat → Nat → Int64} {p : Bool × Option Nat} {ro : List (Nat × Nat × (Nat → Int32))} {nm : Nat} (hnm : nm < 50) (h4 : I 49 4 = nI nm) (hk : I 50 nm = nI 4) (hro : RO ro) {t : TS} {I1 : Nat → Nat → Int32} (hB : BR I t I1) (ht : t.2 < 1000 - 0) {x : Int32} {dd : Nat} (hd : dd + 0 ≤ 20) : Pv 1 0 0 CX0_run [.ref (49), .int (nI 11), .int (-1), .int (x), .int (nI dd)] (gS, I1, J, gR p, ro) (fun r S' => r = some (.int (x ^^^ nI nm)) ∧ ∃ I', S' = (gS, I', J, gR p, ro) ∧ BR I (sp_nts t []) I') := by
  refine ⟨okCX0_run, Nat.le_of_ble_eq_true rfl, (show Px _ _ _ _ 0 [some (.ref (49)), some (.int (nI 11)), some (.int (-1)), some (.int (x)), some (.int (nI dd)), none] [] _ _ from ?_)⟩
  refine px_aload_n (kk := 0) rfl rfl rfl ?_
  refine px_getR (r := 50) rfl gS_49 rfl (gR_49_0 _) ?_
  refine px_aload_n (kk := 0) rfl rfl rfl ?_
  refine px_getIe rfl gS_49 rfl ((hB.2.1 4 (by decide)).trans h4) ?_
  refine px_ialde (j := nm) (v := nI 4) rfl gS_50 rfl (by omega) ((congrFun (hB.1 50 (by decide)) nm).trans hk) ?_
  refine px_ist5 rfl rfl (by decide) ?_
  refine px_iload_n (kk := 1) rfl rfl rfl ?_
  refine px_lookup rfl (.inl ⟨3, by decide, by decide, rfl⟩) ?_
  refine px_iload_n (kk := 3) rfl rfl rfl ?_
  refine px_aload_n (kk := 0) rfl rfl rfl ?_
  refine px_getIe rfl gS_49 rfl ((hB.2.1 4 (by decide)).trans h4) ?_
  refine px_ixor rfl ?_
  refine px_ireturn rfl (.inl rfl) ?_
  exact ⟨rfl, I1, rfl, hB⟩
theorem vX0_rf_4_4_2 {I : Nat → Nat → Int32} {J : Nat → Nat → Int64} {p : Bool × Option Nat} {ro : List (Nat × Nat × (Nat → Int32))} {nm : Nat} (hnm : nm < 50) (h4 : I 49 4 = nI nm) (hk : I 50 nm = nI 4) (hro : RO ro) {t : TS} {I1 : Nat → Nat → Int32} (hB : BR I t I1) (ht : t.2 < 1000 - 1) {x : Int32} {dd : Nat} (hd : dd + 1 ≤ 20) : Pv 2 0 0 CX0_runFrom [.ref (49), .int (nI 4), .int (nI 2), .int (x), .int (nI dd)] (gS, I1, J, gR p, ro) (fun r S' => r = some (.int (x ^^^ nI nm)) ∧ ∃ I', S' = (gS, I', J, gR p, ro) ∧ BR I (sp_nts t [11]) I') := by
  refine ⟨okCX0_runFrom, Nat.le_of_ble_eq_true rfl, (show Px _ _ _ _ 0 [some (.ref (49)), some (.int (nI 4)), some (.int (nI 2)), some (.int (x)), some (.int (nI dd)), none, none, none] [] _ _ from ?_)⟩
  refine px_iload_n (kk := 1) rfl rfl rfl ?_
  refine px_ist5 rfl rfl (by decide) ?_
  refine px_iconst (v := nI 0) rfl k_0 ?_
  refine px_ist6 rfl rfl (by decide) ?_
  refine px_iload rfl rfl ?_
  refine px_bipush (v := nI 8) rfl b_8 ?_
  refine px_icmp_ge rfl (fun h => absurd h (by decide)) (fun _ => ?_)
  refine px_iload rfl rfl ?_
  refine px_callS0 CX0_isKind [] [.int _] (vX0_isKind_4) rfl rfl rfl (Nat.le_of_ble_eq_true rfl) (by decide) ?_
  rintro _ _ - ⟨rfl, rfl⟩
  refine px_if_eq rfl (fun h => absurd h (by decide)) (fun _ => ?_)
  refine px_iload rfl rfl ?_
  refine px_bipush (v := nI 20) rfl b_20 ?_
  refine px_icmp_ge rfl (fun h => absurd h (nI_ge (by omega) (by omega))) (fun c12 => ?_)
  refine px_getstatic rfl ?_
  refine px_iload rfl rfl ?_
  refine px_iconst (v := nI 4) rfl k_4 ?_
  refine px_imulN rfl ?_
  refine px_iload_n (kk := 2) rfl rfl rfl ?_
  refine px_iaddN rfl ?_
  refine px_roalde (j := 18) (v := nI 0) rfl hro.1 rfl (by decide) (by decide) ?_
  refine px_ist7 rfl rfl (by decide) ?_
  refine px_iload rfl rfl ?_
  refine px_if_eq rfl (fun _ => ?_) (fun h => absurd h (by decide))
  refine px_getstatic rfl ?_
  refine px_iload rfl rfl ?_
  refine px_roalde (j := 4) (v := nI 1) rfl hro.2 rfl (by decide) (by decide) ?_
  refine px_ist5 rfl rfl (by decide) ?_
  refine px_iinc6 (v := nI 1) rfl (n_inc 0) rfl (by decide) ?_
  refine px_goto rfl ?_
  refine px_iload rfl rfl ?_
  refine px_bipush (v := nI 8) rfl b_8 ?_
  refine px_icmp_ge rfl (fun h => absurd h (by decide)) (fun _ => ?_)
  refine px_iload rfl rfl ?_
  refine px_callS0 CX0_isKind [] [.int _] (vX0_isKind_1) rfl rfl rfl (Nat.le_of_ble_eq_true rfl) (by decide) ?_
  rintro _ _ - ⟨rfl, rfl⟩
  refine px_if_eq rfl (fun h => absurd h (by decide)) (fun _ => ?_)
  refine px_iload rfl rfl ?_
  refine px_bipush (v := nI 20) rfl b_20 ?_
  refine px_icmp_ge rfl (fun h => absurd h (nI_ge (by omega) (by omega))) (fun c12 => ?_)
  refine px_getstatic rfl ?_
  refine px_iload rfl rfl ?_
  refine px_iconst (v := nI 4) rfl k_4 ?_
  refine px_imulN rfl ?_
  refine px_iload_n (kk := 2) rfl rfl rfl ?_
  refine px_iaddN rfl ?_
  refine px_roalde (j := 6) (v := nI 0) rfl hro.1 rfl (by decide) (by decide) ?_
  refine px_ist7 rfl rfl (by decide) ?_
  refine px_iload rfl rfl ?_
  refine px_if_eq rfl (fun _ => ?_) (fun h => absurd h (by decide))
  refine px_getstatic rfl ?_
  refine px_iload rfl rfl ?_
  refine px_roalde (j := 1) (v := nI 0) rfl hro.2 rfl (by decide) (by decide) ?_
  refine px_ist5 rfl rfl (by decide) ?_
  refine px_iinc6 (v := nI 2) rfl (n_inc 1) rfl (by decide) ?_
  refine px_goto rfl ?_
  refine px_iload rfl rfl ?_
  refine px_bipush (v := nI 8) rfl b_8 ?_
  refine px_icmp_ge rfl (fun h => absurd h (by decide)) (fun _ => ?_)
  refine px_iload rfl rfl ?_
  refine px_callS0 CX0_isKind [] [.int _] (vX0_isKind_0) rfl rfl rfl (Nat.le_of_ble_eq_true rfl) (by decide) ?_
  rintro _ _ - ⟨rfl, rfl⟩
  refine px_if_eq rfl (fun h => absurd h (by decide)) (fun _ => ?_)
  refine px_iload rfl rfl ?_
  refine px_bipush (v := nI 20) rfl b_20 ?_
  refine px_icmp_ge rfl (fun h => absurd h (nI_ge (by omega) (by omega))) (fun c12 => ?_)
  refine px_getstatic rfl ?_
  refine px_iload rfl rfl ?_
  refine px_iconst (v := nI 4) rfl k_4 ?_
  refine px_imulN rfl ?_
  refine px_iload_n (kk := 2) rfl rfl rfl ?_
  refine px_iaddN rfl ?_
  refine px_roalde (j := 2) (v := nI 11) rfl hro.1 rfl (by decide) (by decide) ?_
  refine px_ist7 rfl rfl (by decide) ?_
  refine px_iload rfl rfl ?_
  refine px_if_eq rfl (fun h => absurd h (by decide)) (fun _ => ?_)
  refine px_aload_n (kk := 0) rfl rfl rfl ?_
  refine px_iload rfl rfl ?_
  refine px_callV0 CX0_note [] [.int _] (vX0_note hB (by omega)) rfl gS_49 (by decide) rfl rfl rfl (Nat.le_of_ble_eq_true rfl) (by decide) ?_
  rintro _ _ - ⟨rfl, I2, rfl, hB2⟩
  refine px_aload_n (kk := 0) rfl rfl rfl ?_
  refine px_iload rfl rfl ?_
  refine px_getstatic rfl ?_
  refine px_iload rfl rfl ?_
  refine px_roalde (j := 0) (v := -1) rfl hro.2 rfl (by decide) (by decide) ?_
  refine px_iload_n (kk := 3) rfl rfl rfl ?_
  refine px_iload rfl rfl ?_
  refine px_iconst (v := nI 1) rfl k_1 ?_
  refine px_iaddN rfl ?_
  refine px_callV0 CX0_run [] [.int _, .int _, .int _, .int _] (vX0_run_4_11 hnm h4 hk hro hB2 (by simp only [sp_nt]; omega) (by omega)) rfl gS_49 (by decide) rfl rfl rfl (Nat.le_of_ble_eq_true rfl) (by decide) ?_
  rintro _ _ - ⟨rfl, I3, rfl, hB3⟩
  refine px_ireturn rfl (.inl rfl) ?_
  exact ⟨rfl, I3, rfl, hB3⟩
theorem vX0_run_4_2 {I : Nat → Nat → Int32} {J : Nat → Nat → Int64} {p : Bool × Option Nat} {ro : List (Nat × Nat × (Nat → Int32))} {nm : Nat} (hnm : nm < 50) (h4 : I 49 4 = nI nm) (hk : I 50 nm = nI 4) (hro : RO ro) {t : TS} {I1 : Nat → Nat → Int32} (hB : BR I t I1) (ht : t.2 < 1000 - 4) {x : Int32} {dd : Nat} (hd : dd + 6 ≤ 20) : Pv 7 0 0 CX0_run [.ref (49), .int (nI 2), .int (-1), .int (x), .int (nI dd)] (gS, I1, J, gR p, ro) (fun r S' => r = some (.int ((((x + nI nm) + nI 3) * nI 2) - (nI 1 ^^^ nI nm))) ∧ ∃ I', S' = (gS, I', J, gR p, ro) ∧ BR I (sp_nts t [10, 20, 1, 11]) I') := by
  refine ⟨okCX0_run, Nat.le_of_ble_eq_true rfl, (show Px _ _ _ _ 0 [some (.ref (49)), some (.int (nI 2)), some (.int (-1)), some (.int (x)), some (.int (nI dd)), none] [] _ _ from ?_)⟩
  refine px_aload_n (kk := 0) rfl rfl rfl ?_
  refine px_getR (r := 50) rfl gS_49 rfl (gR_49_0 _) ?_
  refine px_aload_n (kk := 0) rfl rfl rfl ?_
  refine px_getIe rfl gS_49 rfl ((hB.2.1 4 (by decide)).trans h4) ?_
  refine px_ialde (j := nm) (v := nI 4) rfl gS_50 rfl (by omega) ((congrFun (hB.1 50 (by decide)) nm).trans hk) ?_
  refine px_ist5 rfl rfl (by decide) ?_
  refine px_iload_n (kk := 1) rfl rfl rfl ?_
  refine px_lookup rfl (.inl ⟨1, by decide, by decide, rfl⟩) ?_
  refine px_aload_n (kk := 0) rfl rfl rfl ?_
  refine px_iload rfl rfl ?_
  refine px_iconst (v := nI 1) rfl k_1 ?_
  refine px_iload_n (kk := 3) rfl rfl rfl ?_
  refine px_iload rfl rfl ?_
  refine px_callV0 CX0_runFrom [] [.int _, .int _, .int _, .int _] (vX0_rf_4_4_1 hnm h4 hk hro hB (by omega) (by omega)) rfl gS_49 (by decide) rfl rfl rfl (Nat.le_of_ble_eq_true rfl) (by decide) ?_
  rintro _ _ - ⟨rfl, I2, rfl, hB2⟩
  refine px_aload_n (kk := 0) rfl rfl rfl ?_
  refine px_iload rfl rfl ?_
  refine px_iconst (v := nI 2) rfl k_2 ?_
  refine px_iconst (v := nI 1) rfl k_1 ?_
  refine px_iload rfl rfl ?_
  refine px_callV0 CX0_runFrom [.int _] [.int _, .int _, .int _, .int _] (vX0_rf_4_4_2 hnm h4 hk hro hB2 (by rw [sp_nts_2]; simp; omega) (by omega)) rfl gS_49 (by decide) rfl rfl rfl (Nat.le_of_ble_eq_true rfl) (by decide) ?_
  rintro _ _ - ⟨rfl, I3, rfl, hB3⟩
  refine px_isub rfl ?_
  refine px_ireturn rfl (.inl rfl) ?_
  rw [sp_nts_a] at hB3
  exact ⟨rfl, I3, rfl, hB3⟩
theorem vX0_rf_4_1_3 {I : Nat → Nat → Int32} {J : Nat → Nat → Int64} {p : Bool × Option Nat} {ro : List (Nat × Nat × (Nat → Int32))} {nm : Nat} (hnm : nm < 50) (h4 : I 49 4 = nI nm) (hk : I 50 nm = nI 4) (hro : RO ro) {t : TS} {I1 : Nat → Nat → Int32} (hB : BR I t I1) (ht : t.2 < 1000 - 5) {x : Int32} {dd : Nat} (hd : dd + 7 ≤ 20) : Pv 8 0 0 CX0_runFrom [.ref (49), .int (nI 1), .int (nI 3), .int (x), .int (nI dd)] (gS, I1, J, gR p, ro) (fun r S' => r = some (.int ((((x + nI nm) + nI 3) * nI 2) - (nI 1 ^^^ nI nm))) ∧ ∃ I', S' = (gS, I', J, gR p, ro) ∧ BR I (sp_nts t [2, 10, 20, 1, 11]) I') := by
  refine ⟨okCX0_runFrom, Nat.le_of_ble_eq_true rfl, (show Px _ _ _ _ 0 [some (.ref (49)), some (.int (nI 1)), some (.int (nI 3)), some (.int (x)), some (.int (nI dd)), none, none, none] [] _ _ from ?_)⟩
  refine px_iload_n (kk := 1) rfl rfl rfl ?_
  refine px_ist5 rfl rfl (by decide) ?_
  refine px_iconst (v := nI 0) rfl k_0 ?_
  refine px_ist6 rfl rfl (by decide) ?_
  refine px_iload rfl rfl ?_
  refine px_bipush (v := nI 8) rfl b_8 ?_
  refine px_icmp_ge rfl (fun h => absurd h (by decide)) (fun _ => ?_)
  refine px_iload rfl rfl ?_
  refine px_callS0 CX0_isKind [] [.int _] (vX0_isKind_1) rfl rfl rfl (Nat.le_of_ble_eq_true rfl) (by decide) ?_
  rintro _ _ - ⟨rfl, rfl⟩
  refine px_if_eq rfl (fun h => absurd h (by decide)) (fun _ => ?_)
  refine px_iload rfl rfl ?_
  refine px_bipush (v := nI 20) rfl b_20 ?_
  refine px_icmp_ge rfl (fun h => absurd h (nI_ge (by omega) (by omega))) (fun c12 => ?_)
  refine px_getstatic rfl ?_
  refine px_iload rfl rfl ?_
  refine px_iconst (v := nI 4) rfl k_4 ?_
  refine px_imulN rfl ?_
  refine px_iload_n (kk := 2) rfl rfl rfl ?_
  refine px_iaddN rfl ?_
  refine px_roalde (j := 7) (v := nI 0) rfl hro.1 rfl (by decide) (by decide) ?_
  refine px_ist7 rfl rfl (by decide) ?_
  refine px_iload rfl rfl ?_
  refine px_if_eq rfl (fun _ => ?_) (fun h => absurd h (by decide))
  refine px_getstatic rfl ?_
  refine px_iload rfl rfl ?_
  refine px_roalde (j := 1) (v := nI 0) rfl hro.2 rfl (by decide) (by decide) ?_
  refine px_ist5 rfl rfl (by decide) ?_
  refine px_iinc6 (v := nI 1) rfl (n_inc 0) rfl (by decide) ?_
  refine px_goto rfl ?_
  refine px_iload rfl rfl ?_
  refine px_bipush (v := nI 8) rfl b_8 ?_
  refine px_icmp_ge rfl (fun h => absurd h (by decide)) (fun _ => ?_)
  refine px_iload rfl rfl ?_
  refine px_callS0 CX0_isKind [] [.int _] (vX0_isKind_0) rfl rfl rfl (Nat.le_of_ble_eq_true rfl) (by decide) ?_
  rintro _ _ - ⟨rfl, rfl⟩
  refine px_if_eq rfl (fun h => absurd h (by decide)) (fun _ => ?_)
  refine px_iload rfl rfl ?_
  refine px_bipush (v := nI 20) rfl b_20 ?_
  refine px_icmp_ge rfl (fun h => absurd h (nI_ge (by omega) (by omega))) (fun c12 => ?_)
  refine px_getstatic rfl ?_
  refine px_iload rfl rfl ?_
  refine px_iconst (v := nI 4) rfl k_4 ?_
  refine px_imulN rfl ?_
  refine px_iload_n (kk := 2) rfl rfl rfl ?_
  refine px_iaddN rfl ?_
  refine px_roalde (j := 3) (v := nI 2) rfl hro.1 rfl (by decide) (by decide) ?_
  refine px_ist7 rfl rfl (by decide) ?_
  refine px_iload rfl rfl ?_
  refine px_if_eq rfl (fun h => absurd h (by decide)) (fun _ => ?_)
  refine px_aload_n (kk := 0) rfl rfl rfl ?_
  refine px_iload rfl rfl ?_
  refine px_callV0 CX0_note [] [.int _] (vX0_note hB (by omega)) rfl gS_49 (by decide) rfl rfl rfl (Nat.le_of_ble_eq_true rfl) (by decide) ?_
  rintro _ _ - ⟨rfl, I2, rfl, hB2⟩
  refine px_aload_n (kk := 0) rfl rfl rfl ?_
  refine px_iload rfl rfl ?_
  refine px_getstatic rfl ?_
  refine px_iload rfl rfl ?_
  refine px_roalde (j := 0) (v := -1) rfl hro.2 rfl (by decide) (by decide) ?_
  refine px_iload_n (kk := 3) rfl rfl rfl ?_
  refine px_iload rfl rfl ?_
  refine px_iconst (v := nI 1) rfl k_1 ?_
  refine px_iaddN rfl ?_
  refine px_callV0 CX0_run [] [.int _, .int _, .int _, .int _] (vX0_run_4_2 hnm h4 hk hro hB2 (by simp only [sp_nt]; omega) (by omega)) rfl gS_49 (by decide) rfl rfl rfl (Nat.le_of_ble_eq_true rfl) (by decide) ?_
  rintro _ _ - ⟨rfl, I3, rfl, hB3⟩
  refine px_ireturn rfl (.inl rfl) ?_
  exact ⟨rfl, I3, rfl, hB3⟩
theorem vX0_run_4_50 {I : Nat → Nat → Int32} {J : Nat → Nat → Int64} {p : Bool × Option Nat} {ro : List (Nat × Nat × (Nat → Int32))} {nm : Nat} (hnm : nm < 50) (h4 : I 49 4 = nI nm) (hk : I 50 nm = nI 4) (hro : RO ro) {t : TS} {I1 : Nat → Nat → Int32} (hB : BR I t I1) (ht : t.2 < 1000 - 5) {x : Int32} {dd : Nat} (hd : dd + 8 ≤ 20) : Pv 9 0 0 CX0_run [.ref (49), .int (nI 50), .int (nI 1), .int (x), .int (nI dd)] (gS, I1, J, gR p, ro) (fun r S' => r = some (.int (((((x + nI nm) + nI 3) * nI 2) - (nI 1 ^^^ nI nm)) ^^^ nI 5)) ∧ ∃ I', S' = (gS, I', J, gR p, ro) ∧ BR I (sp_nts t [2, 10, 20, 1, 11]) I') := by
  refine ⟨okCX0_run, Nat.le_of_ble_eq_true rfl, (show Px _ _ _ _ 0 [some (.ref (49)), some (.int (nI 50)), some (.int (nI 1)), some (.int (x)), some (.int (nI dd)), none] [] _ _ from ?_)⟩
  refine px_aload_n (kk := 0) rfl rfl rfl ?_
  refine px_getR (r := 50) rfl gS_49 rfl (gR_49_0 _) ?_
  refine px_aload_n (kk := 0) rfl rfl rfl ?_
  refine px_getIe rfl gS_49 rfl ((hB.2.1 4 (by decide)).trans h4) ?_
  refine px_ialde (j := nm) (v := nI 4) rfl gS_50 rfl (by omega) ((congrFun (hB.1 50 (by decide)) nm).trans hk) ?_
  refine px_ist5 rfl rfl (by decide) ?_
  refine px_iload_n (kk := 1) rfl rfl rfl ?_
  refine px_lookup rfl (.inl ⟨8, by decide, by decide, rfl⟩) ?_
  refine px_aload_n (kk := 0) rfl rfl rfl ?_
  refine px_iload_n (kk := 2) rfl rfl rfl ?_
  refine px_iconst (v := nI 3) rfl k_3 ?_
  refine px_iload_n (kk := 3) rfl rfl rfl ?_
  refine px_iload rfl rfl ?_
  refine px_callV0 CX0_runFrom [] [.int _, .int _, .int _, .int _] (vX0_rf_4_1_3 hnm h4 hk hro hB (by omega) (by omega)) rfl gS_49 (by decide) rfl rfl rfl (Nat.le_of_ble_eq_true rfl) (by decide) ?_
  rintro _ _ - ⟨rfl, I2, rfl, hB2⟩
  refine px_iconst (v := nI 5) rfl k_5 ?_
  refine px_ixor rfl ?_
  refine px_ireturn rfl (.inl rfl) ?_
  exact ⟨rfl, I2, rfl, hB2⟩
theorem vX0_rf_4_4_3 {I : Nat → Nat → Int32} {J : Nat → Nat → Int64} {p : Bool × Option Nat} {ro : List (Nat × Nat × (Nat → Int32))} {nm : Nat} (hnm : nm < 50) (h4 : I 49 4 = nI nm) (hk : I 50 nm = nI 4) (hro : RO ro) {t : TS} {I1 : Nat → Nat → Int32} (hB : BR I t I1) (ht : t.2 < 1000 - 6) {x : Int32} {dd : Nat} (hd : dd + 9 ≤ 20) : Pv 10 0 0 CX0_runFrom [.ref (49), .int (nI 4), .int (nI 3), .int (x), .int (nI dd)] (gS, I1, J, gR p, ro) (fun r S' => r = some (.int (((((x + nI nm) + nI 3) * nI 2) - (nI 1 ^^^ nI nm)) ^^^ nI 5)) ∧ ∃ I', S' = (gS, I', J, gR p, ro) ∧ BR I (sp_nts t [50, 2, 10, 20, 1, 11]) I') := by
  refine ⟨okCX0_runFrom, Nat.le_of_ble_eq_true rfl, (show Px _ _ _ _ 0 [some (.ref (49)), some (.int (nI 4)), some (.int (nI 3)), some (.int (x)), some (.int (nI dd)), none, none, none] [] _ _ from ?_)⟩
  refine px_iload_n (kk := 1) rfl rfl rfl ?_
  refine px_ist5 rfl rfl (by decide) ?_
  refine px_iconst (v := nI 0) rfl k_0 ?_
  refine px_ist6 rfl rfl (by decide) ?_
  refine px_iload rfl rfl ?_
  refine px_bipush (v := nI 8) rfl b_8 ?_
  refine px_icmp_ge rfl (fun h => absurd h (by decide)) (fun _ => ?_)
  refine px_iload rfl rfl ?_
  refine px_callS0 CX0_isKind [] [.int _] (vX0_isKind_4) rfl rfl rfl (Nat.le_of_ble_eq_true rfl) (by decide) ?_
  rintro _ _ - ⟨rfl, rfl⟩
  refine px_if_eq rfl (fun h => absurd h (by decide)) (fun _ => ?_)
  refine px_iload rfl rfl ?_
  refine px_bipush (v := nI 20) rfl b_20 ?_
  refine px_icmp_ge rfl (fun h => absurd h (nI_ge (by omega) (by omega))) (fun c12 => ?_)
  refine px_getstatic rfl ?_
  refine px_iload rfl rfl ?_
  refine px_iconst (v := nI 4) rfl k_4 ?_
  refine px_imulN rfl ?_
  refine px_iload_n (kk := 2) rfl rfl rfl ?_
  refine px_iaddN rfl ?_
  refine px_roalde (j := 19) (v := nI 50) rfl hro.1 rfl (by decide) (by decide) ?_
  refine px_ist7 rfl rfl (by decide) ?_
  refine px_iload rfl rfl ?_
  refine px_if_eq rfl (fun h => absurd h (by decide)) (fun _ => ?_)
  refine px_aload_n (kk := 0) rfl rfl rfl ?_
  refine px_iload rfl rfl ?_
  refine px_callV0 CX0_note [] [.int _] (vX0_note hB (by omega)) rfl gS_49 (by decide) rfl rfl rfl (Nat.le_of_ble_eq_true rfl) (by decide) ?_
  rintro _ _ - ⟨rfl, I2, rfl, hB2⟩
  refine px_aload_n (kk := 0) rfl rfl rfl ?_
  refine px_iload rfl rfl ?_
  refine px_getstatic rfl ?_
  refine px_iload rfl rfl ?_
  refine px_roalde (j := 4) (v := nI 1) rfl hro.2 rfl (by decide) (by decide) ?_
  refine px_iload_n (kk := 3) rfl rfl rfl ?_
  refine px_iload rfl rfl ?_
  refine px_iconst (v := nI 1) rfl k_1 ?_
  refine px_iaddN rfl ?_
  refine px_callV0 CX0_run [] [.int _, .int _, .int _, .int _] (vX0_run_4_50 hnm h4 hk hro hB2 (by simp only [sp_nt]; omega) (by omega)) rfl gS_49 (by decide) rfl rfl rfl (Nat.le_of_ble_eq_true rfl) (by decide) ?_
  rintro _ _ - ⟨rfl, I3, rfl, hB3⟩
  refine px_ireturn rfl (.inl rfl) ?_
  exact ⟨rfl, I3, rfl, hB3⟩
theorem vX0_run_5_1 {I : Nat → Nat → Int32} {J : Nat → Nat → Int64} {p : Bool × Option Nat} {ro : List (Nat × Nat × (Nat → Int32))} {nm : Nat} (hnm : nm < 50) (h4 : I 49 4 = nI nm) (hk : I 50 nm = nI 5) (hro : RO ro) {t : TS} {I1 : Nat → Nat → Int32} (hB : BR I t I1) (ht : t.2 < 1000 - 0) {x : Int32} {dd : Nat} (hd : dd + 0 ≤ 20) : Pv 1 0 0 CX0_run [.ref (49), .int (nI 1), .int (-1), .int (x), .int (nI dd)] (gS, I1, J, gR p, ro) (fun r S' => r = some (.int (x + nI nm)) ∧ ∃ I', S' = (gS, I', J, gR p, ro) ∧ BR I (sp_nts t []) I') := by
  refine ⟨okCX0_run, Nat.le_of_ble_eq_true rfl, (show Px _ _ _ _ 0 [some (.ref (49)), some (.int (nI 1)), some (.int (-1)), some (.int (x)), some (.int (nI dd)), none] [] _ _ from ?_)⟩
  refine px_aload_n (kk := 0) rfl rfl rfl ?_
  refine px_getR (r := 50) rfl gS_49 rfl (gR_49_0 _) ?_
  refine px_aload_n (kk := 0) rfl rfl rfl ?_
  refine px_getIe rfl gS_49 rfl ((hB.2.1 4 (by decide)).trans h4) ?_
  refine px_ialde (j := nm) (v := nI 5) rfl gS_50 rfl (by omega) ((congrFun (hB.1 50 (by decide)) nm).trans hk) ?_
  refine px_ist5 rfl rfl (by decide) ?_
  refine px_iload_n (kk := 1) rfl rfl rfl ?_
  refine px_lookup rfl (.inl ⟨0, by decide, by decide, rfl⟩) ?_
  refine px_iload_n (kk := 3) rfl rfl rfl ?_
  refine px_aload_n (kk := 0) rfl rfl rfl ?_
  refine px_getIe rfl gS_49 rfl ((hB.2.1 4 (by decide)).trans h4) ?_
  refine px_iadd rfl ?_
  refine px_ireturn rfl (.inl rfl) ?_
  exact ⟨rfl, I1, rfl, hB⟩
theorem vX0_rf_5_5_0 {I : Nat → Nat → Int32} {J : Nat → Nat → Int64} {p : Bool × Option Nat} {ro : List (Nat × Nat × (Nat → Int32))} {nm : Nat} (hnm : nm < 50) (h4 : I 49 4 = nI nm) (hk : I 50 nm = nI 5) (hro : RO ro) {t : TS} {I1 : Nat → Nat → Int32} (hB : BR I t I1) (ht : t.2 < 1000 - 1) {x : Int32} {dd : Nat} (hd : dd + 1 ≤ 20) : Pv 2 0 0 CX0_runFrom [.ref (49), .int (nI 5), .int (nI 0), .int (x), .int (nI dd)] (gS, I1, J, gR p, ro) (fun r S' => r = some (.int (x + nI nm)) ∧ ∃ I', S' = (gS, I', J, gR p, ro) ∧ BR I (sp_nts t [1]) I') := by
  refine ⟨okCX0_runFrom, Nat.le_of_ble_eq_true rfl, (show Px _ _ _ _ 0 [some (.ref (49)), some (.int (nI 5)), some (.int (nI 0)), some (.int (x)), some (.int (nI dd)), none, none, none] [] _ _ from ?_)⟩
  refine px_iload_n (kk := 1) rfl rfl rfl ?_
  refine px_ist5 rfl rfl (by decide) ?_
  refine px_iconst (v := nI 0) rfl k_0 ?_
  refine px_ist6 rfl rfl (by decide) ?_
  refine px_iload rfl rfl ?_
  refine px_bipush (v := nI 8) rfl b_8 ?_
  refine px_icmp_ge rfl (fun h => absurd h (by decide)) (fun _ => ?_)
  refine px_iload rfl rfl ?_
  refine px_callS0 CX0_isKind [] [.int _] (vX0_isKind_5) rfl rfl rfl (Nat.le_of_ble_eq_true rfl) (by decide) ?_
  rintro _ _ - ⟨rfl, rfl⟩
  refine px_if_eq rfl (fun h => absurd h (by decide)) (fun _ => ?_)
  refine px_iload rfl rfl ?_
  refine px_bipush (v := nI 20) rfl b_20 ?_
  refine px_icmp_ge rfl (fun h => absurd h (nI_ge (by omega) (by omega))) (fun c12 => ?_)
  refine px_getstatic rfl ?_
  refine px_iload rfl rfl ?_
  refine px_iconst (v := nI 4) rfl k_4 ?_
  refine px_imulN rfl ?_
  refine px_iload_n (kk := 2) rfl rfl rfl ?_
  refine px_iaddN rfl ?_
  refine px_roalde (j := 20) (v := nI 0) rfl hro.1 rfl (by decide) (by decide) ?_
  refine px_ist7 rfl rfl (by decide) ?_
  refine px_iload rfl rfl ?_
  refine px_if_eq rfl (fun _ => ?_) (fun h => absurd h (by decide))
  refine px_getstatic rfl ?_
  refine px_iload rfl rfl ?_
  refine px_roalde (j := 5) (v := nI 3) rfl hro.2 rfl (by decide) (by decide) ?_
  refine px_ist5 rfl rfl (by decide) ?_
  refine px_iinc6 (v := nI 1) rfl (n_inc 0) rfl (by decide) ?_
  refine px_goto rfl ?_
  refine px_iload rfl rfl ?_
  refine px_bipush (v := nI 8) rfl b_8 ?_
  refine px_icmp_ge rfl (fun h => absurd h (by decide)) (fun _ => ?_)
  refine px_iload rfl rfl ?_
  refine px_callS0 CX0_isKind [] [.int _] (vX0_isKind_3) rfl rfl rfl (Nat.le_of_ble_eq_true rfl) (by decide) ?_
  rintro _ _ - ⟨rfl, rfl⟩
  refine px_if_eq rfl (fun h => absurd h (by decide)) (fun _ => ?_)
  refine px_iload rfl rfl ?_
  refine px_bipush (v := nI 20) rfl b_20 ?_
  refine px_icmp_ge rfl (fun h => absurd h (nI_ge (by omega) (by omega))) (fun c12 => ?_)
  refine px_getstatic rfl ?_
  refine px_iload rfl rfl ?_
  refine px_iconst (v := nI 4) rfl k_4 ?_
  refine px_imulN rfl ?_
  refine px_iload_n (kk := 2) rfl rfl rfl ?_
  refine px_iaddN rfl ?_
  refine px_roalde (j := 12) (v := nI 0) rfl hro.1 rfl (by decide) (by decide) ?_
  refine px_ist7 rfl rfl (by decide) ?_
  refine px_iload rfl rfl ?_
  refine px_if_eq rfl (fun _ => ?_) (fun h => absurd h (by decide))
  refine px_getstatic rfl ?_
  refine px_iload rfl rfl ?_
  refine px_roalde (j := 3) (v := nI 2) rfl hro.2 rfl (by decide) (by decide) ?_
  refine px_ist5 rfl rfl (by decide) ?_
  refine px_iinc6 (v := nI 2) rfl (n_inc 1) rfl (by decide) ?_
  refine px_goto rfl ?_
  refine px_iload rfl rfl ?_
  refine px_bipush (v := nI 8) rfl b_8 ?_
  refine px_icmp_ge rfl (fun h => absurd h (by decide)) (fun _ => ?_)
  refine px_iload rfl rfl ?_
  refine px_callS0 CX0_isKind [] [.int _] (vX0_isKind_2) rfl rfl rfl (Nat.le_of_ble_eq_true rfl) (by decide) ?_
  rintro _ _ - ⟨rfl, rfl⟩
  refine px_if_eq rfl (fun h => absurd h (by decide)) (fun _ => ?_)
  refine px_iload rfl rfl ?_
  refine px_bipush (v := nI 20) rfl b_20 ?_
  refine px_icmp_ge rfl (fun h => absurd h (nI_ge (by omega) (by omega))) (fun c12 => ?_)
  refine px_getstatic rfl ?_
  refine px_iload rfl rfl ?_
  refine px_iconst (v := nI 4) rfl k_4 ?_
  refine px_imulN rfl ?_
  refine px_iload_n (kk := 2) rfl rfl rfl ?_
  refine px_iaddN rfl ?_
  refine px_roalde (j := 8) (v := nI 0) rfl hro.1 rfl (by decide) (by decide) ?_
  refine px_ist7 rfl rfl (by decide) ?_
  refine px_iload rfl rfl ?_
  refine px_if_eq rfl (fun _ => ?_) (fun h => absurd h (by decide))
  refine px_getstatic rfl ?_
  refine px_iload rfl rfl ?_
  refine px_roalde (j := 2) (v := nI 0) rfl hro.2 rfl (by decide) (by decide) ?_
  refine px_ist5 rfl rfl (by decide) ?_
  refine px_iinc6 (v := nI 3) rfl (n_inc 2) rfl (by decide) ?_
  refine px_goto rfl ?_
  refine px_iload rfl rfl ?_
  refine px_bipush (v := nI 8) rfl b_8 ?_
  refine px_icmp_ge rfl (fun h => absurd h (by decide)) (fun _ => ?_)
  refine px_iload rfl rfl ?_
  refine px_callS0 CX0_isKind [] [.int _] (vX0_isKind_0) rfl rfl rfl (Nat.le_of_ble_eq_true rfl) (by decide) ?_
  rintro _ _ - ⟨rfl, rfl⟩
  refine px_if_eq rfl (fun h => absurd h (by decide)) (fun _ => ?_)
  refine px_iload rfl rfl ?_
  refine px_bipush (v := nI 20) rfl b_20 ?_
  refine px_icmp_ge rfl (fun h => absurd h (nI_ge (by omega) (by omega))) (fun c12 => ?_)
  refine px_getstatic rfl ?_
  refine px_iload rfl rfl ?_
  refine px_iconst (v := nI 4) rfl k_4 ?_
  refine px_imulN rfl ?_
  refine px_iload_n (kk := 2) rfl rfl rfl ?_
  refine px_iaddN rfl ?_
  refine px_roalde (j := 0) (v := nI 1) rfl hro.1 rfl (by decide) (by decide) ?_
  refine px_ist7 rfl rfl (by decide) ?_
  refine px_iload rfl rfl ?_
  refine px_if_eq rfl (fun h => absurd h (by decide)) (fun _ => ?_)
  refine px_aload_n (kk := 0) rfl rfl rfl ?_
  refine px_iload rfl rfl ?_
  refine px_callV0 CX0_note [] [.int _] (vX0_note hB (by omega)) rfl gS_49 (by decide) rfl rfl rfl (Nat.le_of_ble_eq_true rfl) (by decide) ?_
  rintro _ _ - ⟨rfl, I2, rfl, hB2⟩
  refine px_aload_n (kk := 0) rfl rfl rfl ?_
  refine px_iload rfl rfl ?_
  refine px_getstatic rfl ?_
  refine px_iload rfl rfl ?_
  refine px_roalde (j := 0) (v := -1) rfl hro.2 rfl (by decide) (by decide) ?_
  refine px_iload_n (kk := 3) rfl rfl rfl ?_
  refine px_iload rfl rfl ?_
  refine px_iconst (v := nI 1) rfl k_1 ?_
  refine px_iaddN rfl ?_
  refine px_callV0 CX0_run [] [.int _, .int _, .int _, .int _] (vX0_run_5_1 hnm h4 hk hro hB2 (by simp only [sp_nt]; omega) (by omega)) rfl gS_49 (by decide) rfl rfl rfl (Nat.le_of_ble_eq_true rfl) (by decide) ?_
  rintro _ _ - ⟨rfl, I3, rfl, hB3⟩
  refine px_ireturn rfl (.inl rfl) ?_
  exact ⟨rfl, I3, rfl, hB3⟩
theorem vX0_run_5_10 {I : Nat → Nat → Int32} {J : Nat → Nat → Int64} {p : Bool × Option Nat} {ro : List (Nat × Nat × (Nat → Int32))} {nm : Nat} (hnm : nm < 50) (h4 : I 49 4 = nI nm) (hk : I 50 nm = nI 5) (hro : RO ro) {t : TS} {I1 : Nat → Nat → Int32} (hB : BR I t I1) (ht : t.2 < 1000 - 1) {x : Int32} {dd : Nat} (hd : dd + 2 ≤ 20) : Pv 3 0 0 CX0_run [.ref (49), .int (nI 10), .int (-1), .int (x), .int (nI dd)] (gS, I1, J, gR p, ro) (fun r S' => r = some (.int ((x + nI nm) * nI 2)) ∧ ∃ I', S' = (gS, I', J, gR p, ro) ∧ BR I (sp_nts t [1]) I') := by
  refine ⟨okCX0_run, Nat.le_of_ble_eq_true rfl, (show Px _ _ _ _ 0 [some (.ref (49)), some (.int (nI 10)), some (.int (-1)), some (.int (x)), some (.int (nI dd)), none] [] _ _ from ?_)⟩
  refine px_aload_n (kk := 0) rfl rfl rfl ?_
  refine px_getR (r := 50) rfl gS_49 rfl (gR_49_0 _) ?_
  refine px_aload_n (kk := 0) rfl rfl rfl ?_
  refine px_getIe rfl gS_49 rfl ((hB.2.1 4 (by decide)).trans h4) ?_
  refine px_ialde (j := nm) (v := nI 5) rfl gS_50 rfl (by omega) ((congrFun (hB.1 50 (by decide)) nm).trans hk) ?_
  refine px_ist5 rfl rfl (by decide) ?_
  refine px_iload_n (kk := 1) rfl rfl rfl ?_
  refine px_lookup rfl (.inl ⟨2, by decide, by decide, rfl⟩) ?_
  refine px_aload_n (kk := 0) rfl rfl rfl ?_
  refine px_iload rfl rfl ?_
  refine px_iconst (v := nI 0) rfl k_0 ?_
  refine px_iload_n (kk := 3) rfl rfl rfl ?_
  refine px_iload rfl rfl ?_
  refine px_callV0 CX0_runFrom [] [.int _, .int _, .int _, .int _] (vX0_rf_5_5_0 hnm h4 hk hro hB (by omega) (by omega)) rfl gS_49 (by decide) rfl rfl rfl (Nat.le_of_ble_eq_true rfl) (by decide) ?_
  rintro _ _ - ⟨rfl, I2, rfl, hB2⟩
  refine px_iconst (v := nI 2) rfl k_2 ?_
  refine px_imul rfl ?_
  refine px_ireturn rfl (.inl rfl) ?_
  exact ⟨rfl, I2, rfl, hB2⟩
theorem vX0_rf_5_0_1 {I : Nat → Nat → Int32} {J : Nat → Nat → Int64} {p : Bool × Option Nat} {ro : List (Nat × Nat × (Nat → Int32))} {nm : Nat} (hnm : nm < 50) (h4 : I 49 4 = nI nm) (hk : I 50 nm = nI 5) (hro : RO ro) {t : TS} {I1 : Nat → Nat → Int32} (hB : BR I t I1) (ht : t.2 < 1000 - 2) {x : Int32} {dd : Nat} (hd : dd + 3 ≤ 20) : Pv 4 0 0 CX0_runFrom [.ref (49), .int (nI 0), .int (nI 1), .int (x), .int (nI dd)] (gS, I1, J, gR p, ro) (fun r S' => r = some (.int ((x + nI nm) * nI 2)) ∧ ∃ I', S' = (gS, I', J, gR p, ro) ∧ BR I (sp_nts t [10, 1]) I') := by
  refine ⟨okCX0_runFrom, Nat.le_of_ble_eq_true rfl, (show Px _ _ _ _ 0 [some (.ref (49)), some (.int (nI 0)), some (.int (nI 1)), some (.int (x)), some (.int (nI dd)), none, none, none] [] _ _ from ?_)⟩
  refine px_iload_n (kk := 1) rfl rfl rfl ?_
  refine px_ist5 rfl rfl (by decide) ?_
  refine px_iconst (v := nI 0) rfl k_0 ?_
  refine px_ist6 rfl rfl (by decide) ?_
  refine px_iload rfl rfl ?_
  refine px_bipush (v := nI 8) rfl b_8 ?_
  refine px_icmp_ge rfl (fun h => absurd h (by decide)) (fun _ => ?_)
  refine px_iload rfl rfl ?_
  refine px_callS0 CX0_isKind [] [.int _] (vX0_isKind_0) rfl rfl rfl (Nat.le_of_ble_eq_true rfl) (by decide) ?_
  rintro _ _ - ⟨rfl, rfl⟩
  refine px_if_eq rfl (fun h => absurd h (by decide)) (fun _ => ?_)
  refine px_iload rfl rfl ?_
  refine px_bipush (v := nI 20) rfl b_20 ?_
  refine px_icmp_ge rfl (fun h => absurd h (nI_ge (by omega) (by omega))) (fun c12 => ?_)
  refine px_getstatic rfl ?_
  refine px_iload rfl rfl ?_
  refine px_iconst (v := nI 4) rfl k_4 ?_
  refine px_imulN rfl ?_
  refine px_iload_n (kk := 2) rfl rfl rfl ?_
  refine px_iaddN rfl ?_
  refine px_roalde (j := 1) (v := nI 10) rfl hro.1 rfl (by decide) (by decide) ?_
  refine px_ist7 rfl rfl (by decide) ?_
  refine px_iload rfl rfl ?_
  refine px_if_eq rfl (fun h => absurd h (by decide)) (fun _ => ?_)
  refine px_aload_n (kk := 0) rfl rfl rfl ?_
  refine px_iload rfl rfl ?_
  refine px_callV0 CX0_note [] [.int _] (vX0_note hB (by omega)) rfl gS_49 (by decide) rfl rfl rfl (Nat.le_of_ble_eq_true rfl) (by decide) ?_
  rintro _ _ - ⟨rfl, I2, rfl, hB2⟩
  refine px_aload_n (kk := 0) rfl rfl rfl ?_
  refine px_iload rfl rfl ?_
  refine px_getstatic rfl ?_
  refine px_iload rfl rfl ?_
  refine px_roalde (j := 0) (v := -1) rfl hro.2 rfl (by decide) (by decide) ?_
  refine px_iload_n (kk := 3) rfl rfl rfl ?_
  refine px_iload rfl rfl ?_
  refine px_iconst (v := nI 1) rfl k_1 ?_
  refine px_iaddN rfl ?_
  refine px_callV0 CX0_run [] [.int _, .int _, .int _, .int _] (vX0_run_5_10 hnm h4 hk hro hB2 (by simp only [sp_nt]; omega) (by omega)) rfl gS_49 (by decide) rfl rfl rfl (Nat.le_of_ble_eq_true rfl) (by decide) ?_
  rintro _ _ - ⟨rfl, I3, rfl, hB3⟩
  refine px_ireturn rfl (.inl rfl) ?_
  exact ⟨rfl, I3, rfl, hB3⟩
theorem vX0_run_5_30 {I : Nat → Nat → Int32} {J : Nat → Nat → Int64} {p : Bool × Option Nat} {ro : List (Nat × Nat × (Nat → Int32))} {nm : Nat} (hnm : nm < 50) (h4 : I 49 4 = nI nm) (hk : I 50 nm = nI 5) (hro : RO ro) {t : TS} {I1 : Nat → Nat → Int32} (hB : BR I t I1) (ht : t.2 < 1000 - 2) {x : Int32} {dd : Nat} (hd : dd + 4 ≤ 20) : Pv 5 0 0 CX0_run [.ref (49), .int (nI 30), .int (nI 0), .int (x), .int (nI dd)] (gS, I1, J, gR p, ro) (fun r S' => r = some (.int (-((x + nI nm) * nI 2))) ∧ ∃ I', S' = (gS, I', J, gR p, ro) ∧ BR I (sp_nts t [10, 1]) I') := by
  refine ⟨okCX0_run, Nat.le_of_ble_eq_true rfl, (show Px _ _ _ _ 0 [some (.ref (49)), some (.int (nI 30)), some (.int (nI 0)), some (.int (x)), some (.int (nI dd)), none] [] _ _ from ?_)⟩
  refine px_aload_n (kk := 0) rfl rfl rfl ?_
  refine px_getR (r := 50) rfl gS_49 rfl (gR_49_0 _) ?_
  refine px_aload_n (kk := 0) rfl rfl rfl ?_
  refine px_getIe rfl gS_49 rfl ((hB.2.1 4 (by decide)).trans h4) ?_
  refine px_ialde (j := nm) (v := nI 5) rfl gS_50 rfl (by omega) ((congrFun (hB.1 50 (by decide)) nm).trans hk) ?_
  refine px_ist5 rfl rfl (by decide) ?_
  refine px_iload_n (kk := 1) rfl rfl rfl ?_
  refine px_lookup rfl (.inl ⟨5, by decide, by decide, rfl⟩) ?_
  refine px_aload_n (kk := 0) rfl rfl rfl ?_
  refine px_iload_n (kk := 2) rfl rfl rfl ?_
  refine px_iconst (v := nI 1) rfl k_1 ?_
  refine px_iload_n (kk := 3) rfl rfl rfl ?_
  refine px_iload rfl rfl ?_
  refine px_callV0 CX0_runFrom [] [.int _, .int _, .int _, .int _] (vX0_rf_5_0_1 hnm h4 hk hro hB (by omega) (by omega)) rfl gS_49 (by decide) rfl rfl rfl (Nat.le_of_ble_eq_true rfl) (by decide) ?_
  rintro _ _ - ⟨rfl, I2, rfl, hB2⟩
  refine px_ineg rfl ?_
  refine px_ireturn rfl (.inl rfl) ?_
  exact ⟨rfl, I2, rfl, hB2⟩
theorem vX0_rf_5_2_1 {I : Nat → Nat → Int32} {J : Nat → Nat → Int64} {p : Bool × Option Nat} {ro : List (Nat × Nat × (Nat → Int32))} {nm : Nat} (hnm : nm < 50) (h4 : I 49 4 = nI nm) (hk : I 50 nm = nI 5) (hro : RO ro) {t : TS} {I1 : Nat → Nat → Int32} (hB : BR I t I1) (ht : t.2 < 1000 - 3) {x : Int32} {dd : Nat} (hd : dd + 5 ≤ 20) : Pv 6 0 0 CX0_runFrom [.ref (49), .int (nI 2), .int (nI 1), .int (x), .int (nI dd)] (gS, I1, J, gR p, ro) (fun r S' => r = some (.int (-((x + nI nm) * nI 2))) ∧ ∃ I', S' = (gS, I', J, gR p, ro) ∧ BR I (sp_nts t [30, 10, 1]) I') := by
  refine ⟨okCX0_runFrom, Nat.le_of_ble_eq_true rfl, (show Px _ _ _ _ 0 [some (.ref (49)), some (.int (nI 2)), some (.int (nI 1)), some (.int (x)), some (.int (nI dd)), none, none, none] [] _ _ from ?_)⟩
  refine px_iload_n (kk := 1) rfl rfl rfl ?_
  refine px_ist5 rfl rfl (by decide) ?_
  refine px_iconst (v := nI 0) rfl k_0 ?_
  refine px_ist6 rfl rfl (by decide) ?_
  refine px_iload rfl rfl ?_
  refine px_bipush (v := nI 8) rfl b_8 ?_
  refine px_icmp_ge rfl (fun h => absurd h (by decide)) (fun _ => ?_)
  refine px_iload rfl rfl ?_
  refine px_callS0 CX0_isKind [] [.int _] (vX0_isKind_2) rfl rfl rfl (Nat.le_of_ble_eq_true rfl) (by decide) ?_
  rintro _ _ - ⟨rfl, rfl⟩
  refine px_if_eq rfl (fun h => absurd h (by decide)) (fun _ => ?_)
  refine px_iload rfl rfl ?_
  refine px_bipush (v := nI 20) rfl b_20 ?_
  refine px_icmp_ge rfl (fun h => absurd h (nI_ge (by omega) (by omega))) (fun c12 => ?_)
  refine px_getstatic rfl ?_
  refine px_iload rfl rfl ?_
  refine px_iconst (v := nI 4) rfl k_4 ?_
  refine px_imulN rfl ?_
  refine px_iload_n (kk := 2) rfl rfl rfl ?_
  refine px_iaddN rfl ?_
  refine px_roalde (j := 9) (v := nI 30) rfl hro.1 rfl (by decide) (by decide) ?_
  refine px_ist7 rfl rfl (by decide) ?_
  refine px_iload rfl rfl ?_
  refine px_if_eq rfl (fun h => absurd h (by decide)) (fun _ => ?_)
  refine px_aload_n (kk := 0) rfl rfl rfl ?_
  refine px_iload rfl rfl ?_
  refine px_callV0 CX0_note [] [.int _] (vX0_note hB (by omega)) rfl gS_49 (by decide) rfl rfl rfl (Nat.le_of_ble_eq_true rfl) (by decide) ?_
  rintro _ _ - ⟨rfl, I2, rfl, hB2⟩
  refine px_aload_n (kk := 0) rfl rfl rfl ?_
  refine px_iload rfl rfl ?_
  refine px_getstatic rfl ?_
  refine px_iload rfl rfl ?_
  refine px_roalde (j := 2) (v := nI 0) rfl hro.2 rfl (by decide) (by decide) ?_
  refine px_iload_n (kk := 3) rfl rfl rfl ?_
  refine px_iload rfl rfl ?_
  refine px_iconst (v := nI 1) rfl k_1 ?_
  refine px_iaddN rfl ?_
  refine px_callV0 CX0_run [] [.int _, .int _, .int _, .int _] (vX0_run_5_30 hnm h4 hk hro hB2 (by simp only [sp_nt]; omega) (by omega)) rfl gS_49 (by decide) rfl rfl rfl (Nat.le_of_ble_eq_true rfl) (by decide) ?_
  rintro _ _ - ⟨rfl, I3, rfl, hB3⟩
  refine px_ireturn rfl (.inl rfl) ?_
  exact ⟨rfl, I3, rfl, hB3⟩
theorem vX0_run_5_41 {I : Nat → Nat → Int32} {J : Nat → Nat → Int64} {p : Bool × Option Nat} {ro : List (Nat × Nat × (Nat → Int32))} {nm : Nat} (hnm : nm < 50) (h4 : I 49 4 = nI nm) (hk : I 50 nm = nI 5) (hro : RO ro) {t : TS} {I1 : Nat → Nat → Int32} (hB : BR I t I1) (ht : t.2 < 1000 - 3) {x : Int32} {dd : Nat} (hd : dd + 6 ≤ 20) : Pv 7 0 0 CX0_run [.ref (49), .int (nI 41), .int (nI 2), .int (x), .int (nI dd)] (gS, I1, J, gR p, ro) (fun r S' => r = some (.int (-(((x + nI 1) + nI nm) * nI 2))) ∧ ∃ I', S' = (gS, I', J, gR p, ro) ∧ BR I (sp_nts t [30, 10, 1]) I') := by
  refine ⟨okCX0_run, Nat.le_of_ble_eq_true rfl, (show Px _ _ _ _ 0 [some (.ref (49)), some (.int (nI 41)), some (.int (nI 2)), some (.int (x)), some (.int (nI dd)), none] [] _ _ from ?_)⟩
  refine px_aload_n (kk := 0) rfl rfl rfl ?_
  refine px_getR (r := 50) rfl gS_49 rfl (gR_49_0 _) ?_
  refine px_aload_n (kk := 0) rfl rfl rfl ?_
  refine px_getIe rfl gS_49 rfl ((hB.2.1 4 (by decide)).trans h4) ?_
  refine px_ialde (j := nm) (v := nI 5) rfl gS_50 rfl (by omega) ((congrFun (hB.1 50 (by decide)) nm).trans hk) ?_
  refine px_ist5 rfl rfl (by decide) ?_
  refine px_iload_n (kk := 1) rfl rfl rfl ?_
  refine px_lookup rfl (.inl ⟨7, by decide, by decide, rfl⟩) ?_
  refine px_aload_n (kk := 0) rfl rfl rfl ?_
  refine px_iload_n (kk := 2) rfl rfl rfl ?_
  refine px_iconst (v := nI 1) rfl k_1 ?_
  refine px_iload_n (kk := 3) rfl rfl rfl ?_
  refine px_iconst (v := nI 1) rfl k_1 ?_
  refine px_iadd rfl ?_
  refine px_iload rfl rfl ?_
  refine px_callV0 CX0_runFrom [] [.int _, .int _, .int _, .int _] (vX0_rf_5_2_1 hnm h4 hk hro hB (by omega) (by omega)) rfl gS_49 (by decide) rfl rfl rfl (Nat.le_of_ble_eq_true rfl) (by decide) ?_
  rintro _ _ - ⟨rfl, I2, rfl, hB2⟩
  refine px_ireturn rfl (.inl rfl) ?_
  exact ⟨rfl, I2, rfl, hB2⟩
theorem vX0_rf_5_5_1 {I : Nat → Nat → Int32} {J : Nat → Nat → Int64} {p : Bool × Option Nat} {ro : List (Nat × Nat × (Nat → Int32))} {nm : Nat} (hnm : nm < 50) (h4 : I 49 4 = nI nm) (hk : I 50 nm = nI 5) (hro : RO ro) {t : TS} {I1 : Nat → Nat → Int32} (hB : BR I t I1) (ht : t.2 < 1000 - 4) {x : Int32} {dd : Nat} (hd : dd + 7 ≤ 20) : Pv 8 0 0 CX0_runFrom [.ref (49), .int (nI 5), .int (nI 1), .int (x), .int (nI dd)] (gS, I1, J, gR p, ro) (fun r S' => r = some (.int (-(((x + nI 1) + nI nm) * nI 2))) ∧ ∃ I', S' = (gS, I', J, gR p, ro) ∧ BR I (sp_nts t [41, 30, 10, 1]) I') := by
  refine ⟨okCX0_runFrom, Nat.le_of_ble_eq_true rfl, (show Px _ _ _ _ 0 [some (.ref (49)), some (.int (nI 5)), some (.int (nI 1)), some (.int (x)), some (.int (nI dd)), none, none, none] [] _ _ from ?_)⟩
  refine px_iload_n (kk := 1) rfl rfl rfl ?_
  refine px_ist5 rfl rfl (by decide) ?_
  refine px_iconst (v := nI 0) rfl k_0 ?_
  refine px_ist6 rfl rfl (by decide) ?_
  refine px_iload rfl rfl ?_
  refine px_bipush (v := nI 8) rfl b_8 ?_
  refine px_icmp_ge rfl (fun h => absurd h (by decide)) (fun _ => ?_)
  refine px_iload rfl rfl ?_
  refine px_callS0 CX0_isKind [] [.int _] (vX0_isKind_5) rfl rfl rfl (Nat.le_of_ble_eq_true rfl) (by decide) ?_
  rintro _ _ - ⟨rfl, rfl⟩
  refine px_if_eq rfl (fun h => absurd h (by decide)) (fun _ => ?_)
  refine px_iload rfl rfl ?_
  refine px_bipush (v := nI 20) rfl b_20 ?_
  refine px_icmp_ge rfl (fun h => absurd h (nI_ge (by omega) (by omega))) (fun c12 => ?_)
  refine px_getstatic rfl ?_
  refine px_iload rfl rfl ?_
  refine px_iconst (v := nI 4) rfl k_4 ?_
  refine px_imulN rfl ?_
  refine px_iload_n (kk := 2) rfl rfl rfl ?_
  refine px_iaddN rfl ?_
  refine px_roalde (j := 21) (v := nI 0) rfl hro.1 rfl (by decide) (by decide) ?_
  refine px_ist7 rfl rfl (by decide) ?_
  refine px_iload rfl rfl ?_
  refine px_if_eq rfl (fun _ => ?_) (fun h => absurd h (by decide))
  refine px_getstatic rfl ?_
  refine px_iload rfl rfl ?_
  refine px_roalde (j := 5) (v := nI 3) rfl hro.2 rfl (by decide) (by decide) ?_
  refine px_ist5 rfl rfl (by decide) ?_
  refine px_iinc6 (v := nI 1) rfl (n_inc 0) rfl (by decide) ?_
  refine px_goto rfl ?_
  refine px_iload rfl rfl ?_
  refine px_bipush (v := nI 8) rfl b_8 ?_
  refine px_icmp_ge rfl (fun h => absurd h (by decide)) (fun _ => ?_)
  refine px_iload rfl rfl ?_
  refine px_callS0 CX0_isKind [] [.int _] (vX0_isKind_3) rfl rfl rfl (Nat.le_of_ble_eq_true rfl) (by decide) ?_
  rintro _ _ - ⟨rfl, rfl⟩
  refine px_if_eq rfl (fun h => absurd h (by decide)) (fun _ => ?_)
  refine px_iload rfl rfl ?_
  refine px_bipush (v := nI 20) rfl b_20 ?_
  refine px_icmp_ge rfl (fun h => absurd h (nI_ge (by omega) (by omega))) (fun c12 => ?_)
  refine px_getstatic rfl ?_
  refine px_iload rfl rfl ?_
  refine px_iconst (v := nI 4) rfl k_4 ?_
  refine px_imulN rfl ?_
  refine px_iload_n (kk := 2) rfl rfl rfl ?_
  refine px_iaddN rfl ?_
  refine px_roalde (j := 13) (v := nI 41) rfl hro.1 rfl (by decide) (by decide) ?_
  refine px_ist7 rfl rfl (by decide) ?_
  refine px_iload rfl rfl ?_
  refine px_if_eq rfl (fun h => absurd h (by decide)) (fun _ => ?_)
  refine px_aload_n (kk := 0) rfl rfl rfl ?_
  refine px_iload rfl rfl ?_
  refine px_callV0 CX0_note [] [.int _] (vX0_note hB (by omega)) rfl gS_49 (by decide) rfl rfl rfl (Nat.le_of_ble_eq_true rfl) (by decide) ?_
  rintro _ _ - ⟨rfl, I2, rfl, hB2⟩
  refine px_aload_n (kk := 0) rfl rfl rfl ?_
  refine px_iload rfl rfl ?_
  refine px_getstatic rfl ?_
  refine px_iload rfl rfl ?_
  refine px_roalde (j := 3) (v := nI 2) rfl hro.2 rfl (by decide) (by decide) ?_
  refine px_iload_n (kk := 3) rfl rfl rfl ?_
  refine px_iload rfl rfl ?_
  refine px_iconst (v := nI 1) rfl k_1 ?_
  refine px_iaddN rfl ?_
  refine px_callV0 CX0_run [] [.int _, .int _, .int _, .int _] (vX0_run_5_41 hnm h4 hk hro hB2 (by simp only [sp_nt]; omega) (by omega)) rfl gS_49 (by decide) rfl rfl rfl (Nat.le_of_ble_eq_true rfl) (by decide) ?_
  rintro _ _ - ⟨rfl, I3, rfl, hB3⟩
  refine px_ireturn rfl (.inl rfl) ?_
  exact ⟨rfl, I3, rfl, hB3⟩
theorem vX0_run_5_11 {I : Nat → Nat → Int32} {J : Nat → Nat → Int64} {p : Bool × Option Nat} {ro : List (Nat × Nat × (Nat → Int32))} {nm : Nat} (hnm : nm < 50) (h4 : I 49 4 = nI nm) (hk : I 50 nm = nI 5) (hro : RO ro) {t : TS} {I1 : Nat → Nat → Int32} (hB : BR I t I1) (ht : t.2 < 1000 - 0) {x : Int32} {dd : Nat} (hd : dd + 0 ≤ 20) : Pv 1 0 0 CX0_run [.ref (49), .int (nI 11), .int (-1), .int (x), .int (nI dd)] (gS, I1, J, gR p, ro) (fun r S' => r = some (.int (x ^^^ nI nm)) ∧ ∃ I', S' = (gS, I', J, gR p, ro) ∧ BR I (sp_nts t []) I') := by
  refine ⟨okCX0_run, Nat.le_of_ble_eq_true rfl, (show Px _ _ _ _ 0 [some (.ref (49)), some (.int (nI 11)), some (.int (-1)), some (.int (x)), some (.int (nI dd)), none] [] _ _ from ?_)⟩
  refine px_aload_n (kk := 0) rfl rfl rfl ?_
  refine px_getR (r := 50) rfl gS_49 rfl (gR_49_0 _) ?_
  refine px_aload_n (kk := 0) rfl rfl rfl ?_
  refine px_getIe rfl gS_49 rfl ((hB.2.1 4 (by decide)).trans h4) ?_
  refine px_ialde (j := nm) (v := nI 5) rfl gS_50 rfl (by omega) ((congrFun (hB.1 50 (by decide)) nm).trans hk) ?_
  refine px_ist5 rfl rfl (by decide) ?_
  refine px_iload_n (kk := 1) rfl rfl rfl ?_
  refine px_lookup rfl (.inl ⟨3, by decide, by decide, rfl⟩) ?_
  refine px_iload_n (kk := 3) rfl rfl rfl ?_
  refine px_aload_n (kk := 0) rfl rfl rfl ?_
  refine px_getIe rfl gS_49 rfl ((hB.2.1 4 (by decide)).trans h4) ?_
  refine px_ixor rfl ?_
  refine px_ireturn rfl (.inl rfl) ?_
  exact ⟨rfl, I1, rfl, hB⟩
theorem vX0_rf_5_2_2 {I : Nat → Nat → Int32} {J : Nat → Nat → Int64} {p : Bool × Option Nat} {ro : List (Nat × Nat × (Nat → Int32))} {nm : Nat} (hnm : nm < 50) (h4 : I 49 4 = nI nm) (hk : I 50 nm = nI 5) (hro : RO ro) {t : TS} {I1 : Nat → Nat → Int32} (hB : BR I t I1) (ht : t.2 < 1000 - 1) {x : Int32} {dd : Nat} (hd : dd + 1 ≤ 20) : Pv 2 0 0 CX0_runFrom [.ref (49), .int (nI 2), .int (nI 2), .int (x), .int (nI dd)] (gS, I1, J, gR p, ro) (fun r S' => r = some (.int (x ^^^ nI nm)) ∧ ∃ I', S' = (gS, I', J, gR p, ro) ∧ BR I (sp_nts t [11]) I') := by
  refine ⟨okCX0_runFrom, Nat.le_of_ble_eq_true rfl, (show Px _ _ _ _ 0 [some (.ref (49)), some (.int (nI 2)), some (.int (nI 2)), some (.int (x)), some (.int (nI dd)), none, none, none] [] _ _ from ?_)⟩
  refine px_iload_n (kk := 1) rfl rfl rfl ?_
  refine px_ist5 rfl rfl (by decide) ?_
  refine px_iconst (v := nI 0) rfl k_0 ?_
  refine px_ist6 rfl rfl (by decide) ?_
  refine px_iload rfl rfl ?_
  refine px_bipush (v := nI 8) rfl b_8 ?_
  refine px_icmp_ge rfl (fun h => absurd h (by decide)) (fun _ => ?_)
  refine px_iload rfl rfl ?_
  refine px_callS0 CX0_isKind [] [.int _] (vX0_isKind_2) rfl rfl rfl (Nat.le_of_ble_eq_true rfl) (by decide) ?_
  rintro _ _ - ⟨rfl, rfl⟩
  refine px_if_eq rfl (fun h => absurd h (by decide)) (fun _ => ?_)
  refine px_iload rfl rfl ?_
  refine px_bipush (v := nI 20) rfl b_20 ?_
  refine px_icmp_ge rfl (fun h => absurd h (nI_ge (by omega) (by omega))) (fun c12 => ?_)
  refine px_getstatic rfl ?_
  refine px_iload rfl rfl ?_
  refine px_iconst (v := nI 4) rfl k_4 ?_
  refine px_imulN rfl ?_
  refine px_iload_n (kk := 2) rfl rfl rfl ?_
  refine px_iaddN rfl ?_
  refine px_roalde (j := 10) (v := nI 0) rfl hro.1 rfl (by decide) (by decide) ?_
  refine px_ist7 rfl rfl (by decide) ?_
  refine px_iload rfl rfl ?_
  refine px_if_eq rfl (fun _ => ?_) (fun h => absurd h (by decide))
  refine px_getstatic rfl ?_
  refine px_iload rfl rfl ?_
  refine px_roalde (j := 2) (v := nI 0) rfl hro.2 rfl (by decide) (by decide) ?_
  refine px_ist5 rfl rfl (by decide) ?_
  refine px_iinc6 (v := nI 1) rfl (n_inc 0) rfl (by decide) ?_
  refine px_goto rfl ?_
  refine px_iload rfl rfl ?_
  refine px_bipush (v := nI 8) rfl b_8 ?_
  refine px_icmp_ge rfl (fun h => absurd h (by decide)) (fun _ => ?_)
  refine px_iload rfl rfl ?_
  refine px_callS0 CX0_isKind [] [.int _] (vX0_isKind_0) rfl rfl rfl (Nat.le_of_ble_eq_true rfl) (by decide) ?_
  rintro _ _ - ⟨rfl, rfl⟩
  refine px_if_eq rfl (fun h => absurd h (by decide)) (fun _ => ?_)
  refine px_iload rfl rfl ?_
  refine px_bipush (v := nI 20) rfl b_20 ?_
  refine px_icmp_ge rfl (fun h => absurd h (nI_ge (by omega) (by omega))) (fun c12 => ?_)
  refine px_getstatic rfl ?_
  refine px_iload rfl rfl ?_
  refine px_iconst (v := nI 4) rfl k_4 ?_
  refine px_imulN rfl ?_
  refine px_iload_n (kk := 2) rfl rfl rfl ?_
  refine px_iaddN rfl ?_
  refine px_roalde (j := 2) (v := nI 11) rfl hro.1 rfl (by decide) (by decide) ?_
  refine px_ist7 rfl rfl (by decide) ?_
  refine px_iload rfl rfl ?_
  refine px_if_eq rfl (fun h => absurd h (by decide)) (fun _ => ?_)
  refine px_aload_n (kk := 0) rfl rfl rfl ?_
  refine px_iload rfl rfl ?_
  refine px_callV0 CX0_note [] [.int _] (vX0_note hB (by omega)) rfl gS_49 (by decide) rfl rfl rfl (Nat.le_of_ble_eq_true rfl) (by decide) ?_
  rintro _ _ - ⟨rfl, I2, rfl, hB2⟩
  refine px_aload_n (kk := 0) rfl rfl rfl ?_
  refine px_iload rfl rfl ?_
  refine px_getstatic rfl ?_
  refine px_iload rfl rfl ?_
  refine px_roalde (j := 0) (v := -1) rfl hro.2 rfl (by decide) (by decide) ?_
  refine px_iload_n (kk := 3) rfl rfl rfl ?_
  refine px_iload rfl rfl ?_
  refine px_iconst (v := nI 1) rfl k_1 ?_
  refine px_iaddN rfl ?_
  refine px_callV0 CX0_run [] [.int _, .int _, .int _, .int _] (vX0_run_5_11 hnm h4 hk hro hB2 (by simp only [sp_nt]; omega) (by omega)) rfl gS_49 (by decide) rfl rfl rfl (Nat.le_of_ble_eq_true rfl) (by decide) ?_
  rintro _ _ - ⟨rfl, I3, rfl, hB3⟩
  refine px_ireturn rfl (.inl rfl) ?_
  exact ⟨rfl, I3, rfl, hB3⟩
theorem vX0_run_5_40 {I : Nat → Nat → Int32} {J : Nat → Nat → Int64} {p : Bool × Option Nat} {ro : List (Nat × Nat × (Nat → Int32))} {nm : Nat} (hnm : nm < 50) (h4 : I 49 4 = nI nm) (hk : I 50 nm = nI 5) (hro : RO ro) {t : TS} {I1 : Nat → Nat → Int32} (hB : BR I t I1) (ht : t.2 < 1000 - 1) {x : Int32} {dd : Nat} (hd : dd + 2 ≤ 20) : Pv 3 0 0 CX0_run [.ref (49), .int (nI 40), .int (nI 2), .int (x), .int (nI dd)] (gS, I1, J, gR p, ro) (fun r S' => r = some (.int ((x ^^^ nI nm) * nI 3)) ∧ ∃ I', S' = (gS, I', J, gR p, ro) ∧ BR I (sp_nts t [11]) I') := by
  refine ⟨okCX0_run, Nat.le_of_ble_eq_true rfl, (show Px _ _ _ _ 0 [some (.ref (49)), some (.int (nI 40)), some (.int (nI 2)), some (.int (x)), some (.int (nI dd)), none] [] _ _ from ?_)⟩
  refine px_aload_n (kk := 0) rfl rfl rfl ?_
  refine px_getR (r := 50) rfl gS_49 rfl (gR_49_0 _) ?_
  refine px_aload_n (kk := 0) rfl rfl rfl ?_
  refine px_getIe rfl gS_49 rfl ((hB.2.1 4 (by decide)).trans h4) ?_
  refine px_ialde (j := nm) (v := nI 5) rfl gS_50 rfl (by omega) ((congrFun (hB.1 50 (by decide)) nm).trans hk) ?_
  refine px_ist5 rfl rfl (by decide) ?_
  refine px_iload_n (kk := 1) rfl rfl rfl ?_
  refine px_lookup rfl (.inl ⟨6, by decide, by decide, rfl⟩) ?_
  refine px_aload_n (kk := 0) rfl rfl rfl ?_
  refine px_iload_n (kk := 2) rfl rfl rfl ?_
  refine px_iconst (v := nI 2) rfl k_2 ?_
  refine px_iload_n (kk := 3) rfl rfl rfl ?_
  refine px_iload rfl rfl ?_
  refine px_callV0 CX0_runFrom [] [.int _, .int _, .int _, .int _] (vX0_rf_5_2_2 hnm h4 hk hro hB (by omega) (by omega)) rfl gS_49 (by decide) rfl rfl rfl (Nat.le_of_ble_eq_true rfl) (by decide) ?_
  rintro _ _ - ⟨rfl, I2, rfl, hB2⟩
  refine px_iconst (v := nI 3) rfl k_3 ?_
  refine px_imul rfl ?_
  refine px_ireturn rfl (.inl rfl) ?_
  exact ⟨rfl, I2, rfl, hB2⟩
theorem vX0_rf_5_3_2 {I : Nat → Nat → Int32} {J : Nat → Nat → Int64} {p : Bool × Option Nat} {ro : List (Nat × Nat × (Nat → Int32))} {nm : Nat} (hnm : nm < 50) (h4 : I 49 4 = nI nm) (hk : I 50 nm = nI 5) (hro : RO ro) {t : TS} {I1 : Nat → Nat → Int32} (hB : BR I t I1) (ht : t.2 < 1000 - 2) {x : Int32} {dd : Nat} (hd : dd + 3 ≤ 20) : Pv 4 0 0 CX0_runFrom [.ref (49), .int (nI 3), .int (nI 2), .int (x), .int (nI dd)] (gS, I1, J, gR p, ro) (fun r S' => r = some (.int ((x ^^^ nI nm) * nI 3)) ∧ ∃ I', S' = (gS, I', J, gR p, ro) ∧ BR I (sp_nts t [40, 11]) I') := by
  refine ⟨okCX0_runFrom, Nat.le_of_ble_eq_true rfl, (show Px _ _ _ _ 0 [some (.ref (49)), some (.int (nI 3)), some (.int (nI 2)), some (.int (x)), some (.int (nI dd)), none, none, none] [] _ _ from ?_)⟩
  refine px_iload_n (kk := 1) rfl rfl rfl ?_
  refine px_ist5 rfl rfl (by decide) ?_
  refine px_iconst (v := nI 0) rfl k_0 ?_
  refine px_ist6 rfl rfl (by decide) ?_
  refine px_iload rfl rfl ?_
  refine px_bipush (v := nI 8) rfl b_8 ?_
  refine px_icmp_ge rfl (fun h => absurd h (by decide)) (fun _ => ?_)
  refine px_iload rfl rfl ?_
  refine px_callS0 CX0_isKind [] [.int _] (vX0_isKind_3) rfl rfl rfl (Nat.le_of_ble_eq_true rfl) (by decide) ?_
  rintro _ _ - ⟨rfl, rfl⟩
  refine px_if_eq rfl (fun h => absurd h (by decide)) (fun _ => ?_)
  refine px_iload rfl rfl ?_
  refine px_bipush (v := nI 20) rfl b_20 ?_
  refine px_icmp_ge rfl (fun h => absurd h (nI_ge (by omega) (by omega))) (fun c12 => ?_)
  refine px_getstatic rfl ?_
  refine px_iload rfl rfl ?_
  refine px_iconst (v := nI 4) rfl k_4 ?_
  refine px_imulN rfl ?_
  refine px_iload_n (kk := 2) rfl rfl rfl ?_
  refine px_iaddN rfl ?_
  refine px_roalde (j := 14) (v := nI 40) rfl hro.1 rfl (by decide) (by decide) ?_
  refine px_ist7 rfl rfl (by decide) ?_
  refine px_iload rfl rfl ?_
  refine px_if_eq rfl (fun h => absurd h (by decide)) (fun _ => ?_)
  refine px_aload_n (kk := 0) rfl rfl rfl ?_
  refine px_iload rfl rfl ?_
  refine px_callV0 CX0_note [] [.int _] (vX0_note hB (by omega)) rfl gS_49 (by decide) rfl rfl rfl (Nat.le_of_ble_eq_true rfl) (by decide) ?_
  rintro _ _ - ⟨rfl, I2, rfl, hB2⟩
  refine px_aload_n (kk := 0) rfl rfl rfl ?_
  refine px_iload rfl rfl ?_
  refine px_getstatic rfl ?_
  refine px_iload rfl rfl ?_
  refine px_roalde (j := 3) (v := nI 2) rfl hro.2 rfl (by decide) (by decide) ?_
  refine px_iload_n (kk := 3) rfl rfl rfl ?_
  refine px_iload rfl rfl ?_
  refine px_iconst (v := nI 1) rfl k_1 ?_
  refine px_iaddN rfl ?_
  refine px_callV0 CX0_run [] [.int _, .int _, .int _, .int _] (vX0_run_5_40 hnm h4 hk hro hB2 (by simp only [sp_nt]; omega) (by omega)) rfl gS_49 (by decide) rfl rfl rfl (Nat.le_of_ble_eq_true rfl) (by decide) ?_
  rintro _ _ - ⟨rfl, I3, rfl, hB3⟩
  refine px_ireturn rfl (.inl rfl) ?_
  exact ⟨rfl, I3, rfl, hB3⟩
theorem vX0_run_5_60 {I : Nat → Nat → Int32} {J : Nat → Nat → Int64} {p : Bool × Option Nat} {ro : List (Nat × Nat × (Nat → Int32))} {nm : Nat} (hnm : nm < 50) (h4 : I 49 4 = nI nm) (hk : I 50 nm = nI 5) (hro : RO ro) {t : TS} {I1 : Nat → Nat → Int32} (hB : BR I t I1) (ht : t.2 < 1000 - 3) {x : Int32} {dd : Nat} (hd : dd + 4 ≤ 20) : Pv 5 0 0 CX0_run [.ref (49), .int (nI 60), .int (nI 3), .int (x), .int (nI dd)] (gS, I1, J, gR p, ro) (fun r S' => r = some (.int (((x ^^^ nI nm) * nI 3) - (nI 2 + nI nm))) ∧ ∃ I', S' = (gS, I', J, gR p, ro) ∧ BR I (sp_nts t [40, 11, 1]) I') := by
  refine ⟨okCX0_run, Nat.le_of_ble_eq_true rfl, (show Px _ _ _ _ 0 [some (.ref (49)), some (.int (nI 60)), some (.int (nI 3)), some (.int (x)), some (.int (nI dd)), none] [] _ _ from ?_)⟩
  refine px_aload_n (kk := 0) rfl rfl rfl ?_
  refine px_getR (r := 50) rfl gS_49 rfl (gR_49_0 _) ?_
  refine px_aload_n (kk := 0) rfl rfl rfl ?_
  refine px_getIe rfl gS_49 rfl ((hB.2.1 4 (by decide)).trans h4) ?_
  refine px_ialde (j := nm) (v := nI 5) rfl gS_50 rfl (by omega) ((congrFun (hB.1 50 (by decide)) nm).trans hk) ?_
  refine px_ist5 rfl rfl (by decide) ?_
  refine px_iload_n (kk := 1) rfl rfl rfl ?_
  refine px_lookup rfl (.inl ⟨9, by decide, by decide, rfl⟩) ?_
  refine px_aload_n (kk := 0) rfl rfl rfl ?_
  refine px_iload_n (kk := 2) rfl rfl rfl ?_
  refine px_iconst (v := nI 2) rfl k_2 ?_
  refine px_iload_n (kk := 3) rfl rfl rfl ?_
  refine px_iload rfl rfl ?_
  refine px_callV0 CX0_runFrom [] [.int _, .int _, .int _, .int _] (vX0_rf_5_3_2 hnm h4 hk hro hB (by omega) (by omega)) rfl gS_49 (by decide) rfl rfl rfl (Nat.le_of_ble_eq_true rfl) (by decide) ?_
  rintro _ _ - ⟨rfl, I2, rfl, hB2⟩
  refine px_aload_n (kk := 0) rfl rfl rfl ?_
  refine px_iload rfl rfl ?_
  refine px_iconst (v := nI 0) rfl k_0 ?_
  refine px_iconst (v := nI 2) rfl k_2 ?_
  refine px_iload rfl rfl ?_
  refine px_callV0 CX0_runFrom [.int _] [.int _, .int _, .int _, .int _] (vX0_rf_5_5_0 hnm h4 hk hro hB2 (by rw [sp_nts_2]; simp; omega) (by omega)) rfl gS_49 (by decide) rfl rfl rfl (Nat.le_of_ble_eq_true rfl) (by decide) ?_
  rintro _ _ - ⟨rfl, I3, rfl, hB3⟩
  refine px_isub rfl ?_
  refine px_ireturn rfl (.inl rfl) ?_
  rw [sp_nts_a] at hB3
  exact ⟨rfl, I3, rfl, hB3⟩
theorem vX0_rf_5_5_2 {I : Nat → Nat → Int32} {J : Nat → Nat → Int64} {p : Bool × Option Nat} {ro : List (Nat × Nat × (Nat → Int32))} {nm : Nat} (hnm : nm < 50) (h4 : I 49 4 = nI nm) (hk : I 50 nm = nI 5) (hro : RO ro) {t : TS} {I1 : Nat → Nat → Int32} (hB : BR I t I1) (ht : t.2 < 1000 - 4) {x : Int32} {dd : Nat} (hd : dd + 5 ≤ 20) : Pv 6 0 0 CX0_runFrom [.ref (49), .int (nI 5), .int (nI 2), .int (x), .int (nI dd)] (gS, I1, J, gR p, ro) (fun r S' => r = some (.int (((x ^^^ nI nm) * nI 3) - (nI 2 + nI nm))) ∧ ∃ I', S' = (gS, I', J, gR p, ro) ∧ BR I (sp_nts t [60, 40, 11, 1]) I') := by
  refine ⟨okCX0_runFrom, Nat.le_of_ble_eq_true rfl, (show Px _ _ _ _ 0 [some (.ref (49)), some (.int (nI 5)), some (.int (nI 2)), some (.int (x)), some (.int (nI dd)), none, none, none] [] _ _ from ?_)⟩
  refine px_iload_n (kk := 1) rfl rfl rfl ?_
  refine px_ist5 rfl rfl (by decide) ?_
  refine px_iconst (v := nI 0) rfl k_0 ?_
  refine px_ist6 rfl rfl (by decide) ?_
  refine px_iload rfl rfl ?_
  refine px_bipush (v := nI 8) rfl b_8 ?_
  refine px_icmp_ge rfl (fun h => absurd h (by decide)) (fun _ => ?_)
  refine px_iload rfl rfl ?_
  refine px_callS0 CX0_isKind [] [.int _] (vX0_isKind_5) rfl rfl rfl (Nat.le_of_ble_eq_true rfl) (by decide) ?_
  rintro _ _ - ⟨rfl, rfl⟩
  refine px_if_eq rfl (fun h => absurd h (by decide)) (fun _ => ?_)
  refine px_iload rfl rfl ?_
  refine px_bipush (v := nI 20) rfl b_20 ?_
  refine px_icmp_ge rfl (fun h => absurd h (nI_ge (by omega) (by omega))) (fun c12 => ?_)
  refine px_getstatic rfl ?_
  refine px_iload rfl rfl ?_
  refine px_iconst (v := nI 4) rfl k_4 ?_
  refine px_imulN rfl ?_
  refine px_iload_n (kk := 2) rfl rfl rfl ?_
  refine px_iaddN rfl ?_
  refine px_roalde (j := 22) (v := nI 60) rfl hro.1 rfl (by decide) (by decide) ?_
  refine px_ist7 rfl rfl (by decide) ?_
  refine px_iload rfl rfl ?_
  refine px_if_eq rfl (fun h => absurd h (by decide)) (fun _ => ?_)
  refine px_aload_n (kk := 0) rfl rfl rfl ?_
  refine px_iload rfl rfl ?_
  refine px_callV0 CX0_note [] [.int _] (vX0_note hB (by omega)) rfl gS_49 (by decide) rfl rfl rfl (Nat.le_of_ble_eq_true rfl) (by decide) ?_
  rintro _ _ - ⟨rfl, I2, rfl, hB2⟩
  refine px_aload_n (kk := 0) rfl rfl rfl ?_
  refine px_iload rfl rfl ?_
  refine px_getstatic rfl ?_
  refine px_iload rfl rfl ?_
  refine px_roalde (j := 5) (v := nI 3) rfl hro.2 rfl (by decide) (by decide) ?_
  refine px_iload_n (kk := 3) rfl rfl rfl ?_
  refine px_iload rfl rfl ?_
  refine px_iconst (v := nI 1) rfl k_1 ?_
  refine px_iaddN rfl ?_
  refine px_callV0 CX0_run [] [.int _, .int _, .int _, .int _] (vX0_run_5_60 hnm h4 hk hro hB2 (by simp only [sp_nt]; omega) (by omega)) rfl gS_49 (by decide) rfl rfl rfl (Nat.le_of_ble_eq_true rfl) (by decide) ?_
  rintro _ _ - ⟨rfl, I3, rfl, hB3⟩
  refine px_ireturn rfl (.inl rfl) ?_
  exact ⟨rfl, I3, rfl, hB3⟩
theorem vX0_run_5_2 {I : Nat → Nat → Int32} {J : Nat → Nat → Int64} {p : Bool × Option Nat} {ro : List (Nat × Nat × (Nat → Int32))} {nm : Nat} (hnm : nm < 50) (h4 : I 49 4 = nI nm) (hk : I 50 nm = nI 5) (hro : RO ro) {t : TS} {I1 : Nat → Nat → Int32} (hB : BR I t I1) (ht : t.2 < 1000 - 8) {x : Int32} {dd : Nat} (hd : dd + 8 ≤ 20) : Pv 9 0 0 CX0_run [.ref (49), .int (nI 2), .int (-1), .int (x), .int (nI dd)] (gS, I1, J, gR p, ro) (fun r S' => r = some (.int ((-(((x + nI 1) + nI nm) * nI 2)) - (((nI 1 ^^^ nI nm) * nI 3) - (nI 2 + nI nm)))) ∧ ∃ I', S' = (gS, I', J, gR p, ro) ∧ BR I (sp_nts t [41, 30, 10, 1, 60, 40, 11, 1]) I') := by
  refine ⟨okCX0_run, Nat.le_of_ble_eq_true rfl, (show Px _ _ _ _ 0 [some (.ref (49)), some (.int (nI 2)), some (.int (-1)), some (.int (x)), some (.int (nI dd)), none] [] _ _ from ?_)⟩
  refine px_aload_n (kk := 0) rfl rfl rfl ?_
  refine px_getR (r := 50) rfl gS_49 rfl (gR_49_0 _) ?_
  refine px_aload_n (kk := 0) rfl rfl rfl ?_
  refine px_getIe rfl gS_49 rfl ((hB.2.1 4 (by decide)).trans h4) ?_
  refine px_ialde (j := nm) (v := nI 5) rfl gS_50 rfl (by omega) ((congrFun (hB.1 50 (by decide)) nm).trans hk) ?_
  refine px_ist5 rfl rfl (by decide) ?_
  refine px_iload_n (kk := 1) rfl rfl rfl ?_
  refine px_lookup rfl (.inl ⟨1, by decide, by decide, rfl⟩) ?_
  refine px_aload_n (kk := 0) rfl rfl rfl ?_
  refine px_iload rfl rfl ?_
  refine px_iconst (v := nI 1) rfl k_1 ?_
  refine px_iload_n (kk := 3) rfl rfl rfl ?_
  refine px_iload rfl rfl ?_
  refine px_callV0 CX0_runFrom [] [.int _, .int _, .int _, .int _] (vX0_rf_5_5_1 hnm h4 hk hro hB (by omega) (by omega)) rfl gS_49 (by decide) rfl rfl rfl (Nat.le_of_ble_eq_true rfl) (by decide) ?_
  rintro _ _ - ⟨rfl, I2, rfl, hB2⟩
  refine px_aload_n (kk := 0) rfl rfl rfl ?_
  refine px_iload rfl rfl ?_
  refine px_iconst (v := nI 2) rfl k_2 ?_
  refine px_iconst (v := nI 1) rfl k_1 ?_
  refine px_iload rfl rfl ?_
  refine px_callV0 CX0_runFrom [.int _] [.int _, .int _, .int _, .int _] (vX0_rf_5_5_2 hnm h4 hk hro hB2 (by rw [sp_nts_2]; simp; omega) (by omega)) rfl gS_49 (by decide) rfl rfl rfl (Nat.le_of_ble_eq_true rfl) (by decide) ?_
  rintro _ _ - ⟨rfl, I3, rfl, hB3⟩
  refine px_isub rfl ?_
  refine px_ireturn rfl (.inl rfl) ?_
  rw [sp_nts_a] at hB3
  exact ⟨rfl, I3, rfl, hB3⟩
theorem vX0_rf_5_3_3 {I : Nat → Nat → Int32} {J : Nat → Nat → Int64} {p : Bool × Option Nat} {ro : List (Nat × Nat × (Nat → Int32))} {nm : Nat} (hnm : nm < 50) (h4 : I 49 4 = nI nm) (hk : I 50 nm = nI 5) (hro : RO ro) {t : TS} {I1 : Nat → Nat → Int32} (hB : BR I t I1) (ht : t.2 < 1000 - 9) {x : Int32} {dd : Nat} (hd : dd + 9 ≤ 20) : Pv 10 0 0 CX0_runFrom [.ref (49), .int (nI 3), .int (nI 3), .int (x), .int (nI dd)] (gS, I1, J, gR p, ro) (fun r S' => r = some (.int ((-(((x + nI 1) + nI nm) * nI 2)) - (((nI 1 ^^^ nI nm) * nI 3) - (nI 2 + nI nm)))) ∧ ∃ I', S' = (gS, I', J, gR p, ro) ∧ BR I (sp_nts t [2, 41, 30, 10, 1, 60, 40, 11, 1]) I') := by
  refine ⟨okCX0_runFrom, Nat.le_of_ble_eq_true rfl, (show Px _ _ _ _ 0 [some (.ref (49)), some (.int (nI 3)), some (.int (nI 3)), some (.int (x)), some (.int (nI dd)), none, none, none] [] _ _ from ?_)⟩
  refine px_iload_n (kk := 1) rfl rfl rfl ?_
  refine px_ist5 rfl rfl (by decide) ?_
  refine px_iconst (v := nI 0) rfl k_0 ?_
  refine px_ist6 rfl rfl (by decide) ?_
  refine px_iload rfl rfl ?_
  refine px_bipush (v := nI 8) rfl b_8 ?_
  refine px_icmp_ge rfl (fun h => absurd h (by decide)) (fun _ => ?_)
  refine px_iload rfl rfl ?_
  refine px_callS0 CX0_isKind [] [.int _] (vX0_isKind_3) rfl rfl rfl (Nat.le_of_ble_eq_true rfl) (by decide) ?_
  rintro _ _ - ⟨rfl, rfl⟩
  refine px_if_eq rfl (fun h => absurd h (by decide)) (fun _ => ?_)
  refine px_iload rfl rfl ?_
  refine px_bipush (v := nI 20) rfl b_20 ?_
  refine px_icmp_ge rfl (fun h => absurd h (nI_ge (by omega) (by omega))) (fun c12 => ?_)
  refine px_getstatic rfl ?_
  refine px_iload rfl rfl ?_
  refine px_iconst (v := nI 4) rfl k_4 ?_
  refine px_imulN rfl ?_
  refine px_iload_n (kk := 2) rfl rfl rfl ?_
  refine px_iaddN rfl ?_
  refine px_roalde (j := 15) (v := nI 0) rfl hro.1 rfl (by decide) (by decide) ?_
  refine px_ist7 rfl rfl (by decide) ?_
  refine px_iload rfl rfl ?_
  refine px_if_eq rfl (fun _ => ?_) (fun h => absurd h (by decide))
  refine px_getstatic rfl ?_
  refine px_iload rfl rfl ?_
  refine px_roalde (j := 3) (v := nI 2) rfl hro.2 rfl (by decide) (by decide) ?_
  refine px_ist5 rfl rfl (by decide) ?_
  refine px_iinc6 (v := nI 1) rfl (n_inc 0) rfl (by decide) ?_
  refine px_goto rfl ?_
  refine px_iload rfl rfl ?_
  refine px_bipush (v := nI 8) rfl b_8 ?_
  refine px_icmp_ge rfl (fun h => absurd h (by decide)) (fun _ => ?_)
  refine px_iload rfl rfl ?_
  refine px_callS0 CX0_isKind [] [.int _] (vX0_isKind_2) rfl rfl rfl (Nat.le_of_ble_eq_true rfl) (by decide) ?_
  rintro _ _ - ⟨rfl, rfl⟩
  refine px_if_eq rfl (fun h => absurd h (by decide)) (fun _ => ?_)
  refine px_iload rfl rfl ?_
  refine px_bipush (v := nI 20) rfl b_20 ?_
  refine px_icmp_ge rfl (fun h => absurd h (nI_ge (by omega) (by omega))) (fun c12 => ?_)
  refine px_getstatic rfl ?_
  refine px_iload rfl rfl ?_
  refine px_iconst (v := nI 4) rfl k_4 ?_
  refine px_imulN rfl ?_
  refine px_iload_n (kk := 2) rfl rfl rfl ?_
  refine px_iaddN rfl ?_
  refine px_roalde (j := 11) (v := nI 0) rfl hro.1 rfl (by decide) (by decide) ?_
  refine px_ist7 rfl rfl (by decide) ?_
  refine px_iload rfl rfl ?_
  refine px_if_eq rfl (fun _ => ?_) (fun h => absurd h (by decide))
  refine px_getstatic rfl ?_
  refine px_iload rfl rfl ?_
  refine px_roalde (j := 2) (v := nI 0) rfl hro.2 rfl (by decide) (by decide) ?_
  refine px_ist5 rfl rfl (by decide) ?_
  refine px_iinc6 (v := nI 2) rfl (n_inc 1) rfl (by decide) ?_
  refine px_goto rfl ?_
  refine px_iload rfl rfl ?_
  refine px_bipush (v := nI 8) rfl b_8 ?_
  refine px_icmp_ge rfl (fun h => absurd h (by decide)) (fun _ => ?_)
  refine px_iload rfl rfl ?_
  refine px_callS0 CX0_isKind [] [.int _] (vX0_isKind_0) rfl rfl rfl (Nat.le_of_ble_eq_true rfl) (by decide) ?_
  rintro _ _ - ⟨rfl, rfl⟩
  refine px_if_eq rfl (fun h => absurd h (by decide)) (fun _ => ?_)
  refine px_iload rfl rfl ?_
  refine px_bipush (v := nI 20) rfl b_20 ?_
  refine px_icmp_ge rfl (fun h => absurd h (nI_ge (by omega) (by omega))) (fun c12 => ?_)
  refine px_getstatic rfl ?_
  refine px_iload rfl rfl ?_
  refine px_iconst (v := nI 4) rfl k_4 ?_
  refine px_imulN rfl ?_
  refine px_iload_n (kk := 2) rfl rfl rfl ?_
  refine px_iaddN rfl ?_
  refine px_roalde (j := 3) (v := nI 2) rfl hro.1 rfl (by decide) (by decide) ?_
  refine px_ist7 rfl rfl (by decide) ?_
  refine px_iload rfl rfl ?_
  refine px_if_eq rfl (fun h => absurd h (by decide)) (fun _ => ?_)
  refine px_aload_n (kk := 0) rfl rfl rfl ?_
  refine px_iload rfl rfl ?_
  refine px_callV0 CX0_note [] [.int _] (vX0_note hB (by omega)) rfl gS_49 (by decide) rfl rfl rfl (Nat.le_of_ble_eq_true rfl) (by decide) ?_
  rintro _ _ - ⟨rfl, I2, rfl, hB2⟩
  refine px_aload_n (kk := 0) rfl rfl rfl ?_
  refine px_iload rfl rfl ?_
  refine px_getstatic rfl ?_
  refine px_iload rfl rfl ?_
  refine px_roalde (j := 0) (v := -1) rfl hro.2 rfl (by decide) (by decide) ?_
  refine px_iload_n (kk := 3) rfl rfl rfl ?_
  refine px_iload rfl rfl ?_
  refine px_iconst (v := nI 1) rfl k_1 ?_
  refine px_iaddN rfl ?_
  refine px_callV0 CX0_run [] [.int _, .int _, .int _, .int _] (vX0_run_5_2 hnm h4 hk hro hB2 (by simp only [sp_nt]; omega) (by omega)) rfl gS_49 (by decide) rfl rfl rfl (Nat.le_of_ble_eq_true rfl) (by decide) ?_
  rintro _ _ - ⟨rfl, I3, rfl, hB3⟩
  refine px_ireturn rfl (.inl rfl) ?_
  exact ⟨rfl, I3, rfl, hB3⟩
theorem vX0_run_5_61 {I : Nat → Nat → Int32} {J : Nat → Nat → Int64} {p : Bool × Option Nat} {ro : List (Nat × Nat × (Nat → Int32))} {nm : Nat} (hnm : nm < 50) (h4 : I 49 4 = nI nm) (hk : I 50 nm = nI 5) (hro : RO ro) {t : TS} {I1 : Nat → Nat → Int32} (hB : BR I t I1) (ht : t.2 < 1000 - 9) {x : Int32} {dd : Nat} (hd : dd + 10 ≤ 20) : Pv 11 0 0 CX0_run [.ref (49), .int (nI 61), .int (nI 3), .int (x), .int (nI dd)] (gS, I1, J, gR p, ro) (fun r S' => r = some (.int (((-(((x + nI 1) + nI nm) * nI 2)) - (((nI 1 ^^^ nI nm) * nI 3) - (nI 2 + nI nm))) + nI 1)) ∧ ∃ I', S' = (gS, I', J, gR p, ro) ∧ BR I (sp_nts t [2, 41, 30, 10, 1, 60, 40, 11, 1]) I') := by
  refine ⟨okCX0_run, Nat.le_of_ble_eq_true rfl, (show Px _ _ _ _ 0 [some (.ref (49)), some (.int (nI 61)), some (.int (nI 3)), some (.int (x)), some (.int (nI dd)), none] [] _ _ from ?_)⟩
  refine px_aload_n (kk := 0) rfl rfl rfl ?_
  refine px_getR (r := 50) rfl gS_49 rfl (gR_49_0 _) ?_
  refine px_aload_n (kk := 0) rfl rfl rfl ?_
  refine px_getIe rfl gS_49 rfl ((hB.2.1 4 (by decide)).trans h4) ?_
  refine px_ialde (j := nm) (v := nI 5) rfl gS_50 rfl (by omega) ((congrFun (hB.1 50 (by decide)) nm).trans hk) ?_
  refine px_ist5 rfl rfl (by decide) ?_
  refine px_iload_n (kk := 1) rfl rfl rfl ?_
  refine px_lookup rfl (.inl ⟨10, by decide, by decide, rfl⟩) ?_
  refine px_aload_n (kk := 0) rfl rfl rfl ?_
  refine px_iload_n (kk := 2) rfl rfl rfl ?_
  refine px_iconst (v := nI 3) rfl k_3 ?_
  refine px_iload_n (kk := 3) rfl rfl rfl ?_
  refine px_iload rfl rfl ?_
  refine px_callV0 CX0_runFrom [] [.int _, .int _, .int _, .int _] (vX0_rf_5_3_3 hnm h4 hk hro hB (by omega) (by omega)) rfl gS_49 (by decide) rfl rfl rfl (Nat.le_of_ble_eq_true rfl) (by decide) ?_
  rintro _ _ - ⟨rfl, I2, rfl, hB2⟩
  refine px_iconst (v := nI 1) rfl k_1 ?_
  refine px_iadd rfl ?_
  refine px_ireturn rfl (.inl rfl) ?_
  exact ⟨rfl, I2, rfl, hB2⟩
theorem vX0_rf_5_5_3 {I : Nat → Nat → Int32} {J : Nat → Nat → Int64} {p : Bool × Option Nat} {ro : List (Nat × Nat × (Nat → Int32))} {nm : Nat} (hnm : nm < 50) (h4 : I 49 4 = nI nm) (hk : I 50 nm = nI 5) (hro : RO ro) {t : TS} {I1 : Nat → Nat → Int32} (hB : BR I t I1) (ht : t.2 < 1000 - 10) {x : Int32} {dd : Nat} (hd : dd + 11 ≤ 20) : Pv 12 0 0 CX0_runFrom [.ref (49), .int (nI 5), .int (nI 3), .int (x), .int (nI dd)] (gS, I1, J, gR p, ro) (fun r S' => r = some (.int (((-(((x + nI 1) + nI nm) * nI 2)) - (((nI 1 ^^^ nI nm) * nI 3) - (nI 2 + nI nm))) + nI 1)) ∧ ∃ I', S' = (gS, I', J, gR p, ro) ∧ BR I (sp_nts t [61, 2, 41, 30, 10, 1, 60, 40, 11, 1]) I') := by
  refine ⟨okCX0_runFrom, Nat.le_of_ble_eq_true rfl, (show Px _ _ _ _ 0 [some (.ref (49)), some (.int (nI 5)), some (.int (nI 3)), some (.int (x)), some (.int (nI dd)), none, none, none] [] _ _ from ?_)⟩
  refine px_iload_n (kk := 1) rfl rfl rfl ?_
  refine px_ist5 rfl rfl (by decide) ?_
  refine px_iconst (v := nI 0) rfl k_0 ?_
  refine px_ist6 rfl rfl (by decide) ?_
  refine px_iload rfl rfl ?_
  refine px_bipush (v := nI 8) rfl b_8 ?_
  refine px_icmp_ge rfl (fun h => absurd h (by decide)) (fun _ => ?_)
  refine px_iload rfl rfl ?_
  refine px_callS0 CX0_isKind [] [.int _] (vX0_isKind_5) rfl rfl rfl (Nat.le_of_ble_eq_true rfl) (by decide) ?_
  rintro _ _ - ⟨rfl, rfl⟩
  refine px_if_eq rfl (fun h => absurd h (by decide)) (fun _ => ?_)
  refine px_iload rfl rfl ?_
  refine px_bipush (v := nI 20) rfl b_20 ?_
  refine px_icmp_ge rfl (fun h => absurd h (nI_ge (by omega) (by omega))) (fun c12 => ?_)
  refine px_getstatic rfl ?_
  refine px_iload rfl rfl ?_
  refine px_iconst (v := nI 4) rfl k_4 ?_
  refine px_imulN rfl ?_
  refine px_iload_n (kk := 2) rfl rfl rfl ?_
  refine px_iaddN rfl ?_
  refine px_roalde (j := 23) (v := nI 61) rfl hro.1 rfl (by decide) (by decide) ?_
  refine px_ist7 rfl rfl (by decide) ?_
  refine px_iload rfl rfl ?_
  refine px_if_eq rfl (fun h => absurd h (by decide)) (fun _ => ?_)
  refine px_aload_n (kk := 0) rfl rfl rfl ?_
  refine px_iload rfl rfl ?_
  refine px_callV0 CX0_note [] [.int _] (vX0_note hB (by omega)) rfl gS_49 (by decide) rfl rfl rfl (Nat.le_of_ble_eq_true rfl) (by decide) ?_
  rintro _ _ - ⟨rfl, I2, rfl, hB2⟩
  refine px_aload_n (kk := 0) rfl rfl rfl ?_
  refine px_iload rfl rfl ?_
  refine px_getstatic rfl ?_
  refine px_iload rfl rfl ?_
  refine px_roalde (j := 5) (v := nI 3) rfl hro.2 rfl (by decide) (by decide) ?_
  refine px_iload_n (kk := 3) rfl rfl rfl ?_
  refine px_iload rfl rfl ?_
  refine px_iconst (v := nI 1) rfl k_1 ?_
  refine px_iaddN rfl ?_
  refine px_callV0 CX0_run [] [.int _, .int _, .int _, .int _] (vX0_run_5_61 hnm h4 hk hro hB2 (by simp only [sp_nt]; omega) (by omega)) rfl gS_49 (by decide) rfl rfl rfl (Nat.le_of_ble_eq_true rfl) (by decide) ?_
  rintro _ _ - ⟨rfl, I3, rfl, hB3⟩
  refine px_ireturn rfl (.inl rfl) ?_
  exact ⟨rfl, I3, rfl, hB3⟩
theorem vX0_run_6_1 {I : Nat → Nat → Int32} {J : Nat → Nat → Int64} {p : Bool × Option Nat} {ro : List (Nat × Nat × (Nat → Int32))} {nm : Nat} (hnm : nm < 50) (h4 : I 49 4 = nI nm) (hk : I 50 nm = nI 6) (hro : RO ro) {t : TS} {I1 : Nat → Nat → Int32} (hB : BR I t I1) (ht : t.2 < 1000 - 0) {x : Int32} {dd : Nat} (hd : dd + 0 ≤ 20) : Pv 1 0 0 CX0_run [.ref (49), .int (nI 1), .int (-1), .int (x), .int (nI dd)] (gS, I1, J, gR p, ro) (fun r S' => r = some (.int (x + nI nm)) ∧ ∃ I', S' = (gS, I', J, gR p, ro) ∧ BR I (sp_nts t []) I') := by
  refine ⟨okCX0_run, Nat.le_of_ble_eq_true rfl, (show Px _ _ _ _ 0 [some (.ref (49)), some (.int (nI 1)), some (.int (-1)), some (.int (x)), some (.int (nI dd)), none] [] _ _ from ?_)⟩
  refine px_aload_n (kk := 0) rfl rfl rfl ?_
  refine px_getR (r := 50) rfl gS_49 rfl (gR_49_0 _) ?_
  refine px_aload_n (kk := 0) rfl rfl rfl ?_
  refine px_getIe rfl gS_49 rfl ((hB.2.1 4 (by decide)).trans h4) ?_
  refine px_ialde (j := nm) (v := nI 6) rfl gS_50 rfl (by omega) ((congrFun (hB.1 50 (by decide)) nm).trans hk) ?_
  refine px_ist5 rfl rfl (by decide) ?_
  refine px_iload_n (kk := 1) rfl rfl rfl ?_
  refine px_lookup rfl (.inl ⟨0, by decide, by decide, rfl⟩) ?_
  refine px_iload_n (kk := 3) rfl rfl rfl ?_
  refine px_aload_n (kk := 0) rfl rfl rfl ?_
  refine px_getIe rfl gS_49 rfl ((hB.2.1 4 (by decide)).trans h4) ?_
  refine px_iadd rfl ?_
  refine px_ireturn rfl (.inl rfl) ?_
  exact ⟨rfl, I1, rfl, hB⟩
theorem vX0_rf_6_0_0 {I : Nat → Nat → Int32} {J : Nat → Nat → Int64} {p : Bool × Option Nat} {ro : List (Nat × Nat × (Nat → Int32))} {nm : Nat} (hnm : nm < 50) (h4 : I 49 4 = nI nm) (hk : I 50 nm = nI 6) (hro : RO ro) {t : TS} {I1 : Nat → Nat → Int32} (hB : BR I t I1) (ht : t.2 < 1000 - 1) {x : Int32} {dd : Nat} (hd : dd + 1 ≤ 20) : Pv 2 0 0 CX0_runFrom [.ref (49), .int (nI 0), .int (nI 0), .int (x), .int (nI dd)] (gS, I1, J, gR p, ro) (fun r S' => r = some (.int (x + nI nm)) ∧ ∃ I', S' = (gS, I', J, gR p, ro) ∧ BR I (sp_nts t [1]) I') := by
  refine ⟨okCX0_runFrom, Nat.le_of_ble_eq_true rfl, (show Px _ _ _ _ 0 [some (.ref (49)), some (.int (nI 0)), some (.int (nI 0)), some (.int (x)), some (.int (nI dd)), none, none, none] [] _ _ from ?_)⟩
  refine px_iload_n (kk := 1) rfl rfl rfl ?_
  refine px_ist5 rfl rfl (by decide) ?_
  refine px_iconst (v := nI 0) rfl k_0 ?_
  refine px_ist6 rfl rfl (by decide) ?_
  refine px_iload rfl rfl ?_
  refine px_bipush (v := nI 8) rfl b_8 ?_
  refine px_icmp_ge rfl (fun h => absurd h (by decide)) (fun _ => ?_)
  refine px_iload rfl rfl ?_
  refine px_callS0 CX0_isKind [] [.int _] (vX0_isKind_0) rfl rfl rfl (Nat.le_of_ble_eq_true rfl) (by decide) ?_
  rintro _ _ - ⟨rfl, rfl⟩
  refine px_if_eq rfl (fun h => absurd h (by decide)) (fun _ => ?_)
  refine px_iload rfl rfl ?_
  refine px_bipush (v := nI 20) rfl b_20 ?_
  refine px_icmp_ge rfl (fun h => absurd h (nI_ge (by omega) (by omega))) (fun c12 => ?_)
  refine px_getstatic rfl ?_
  refine px_iload rfl rfl ?_
  refine px_iconst (v := nI 4) rfl k_4 ?_
  refine px_imulN rfl ?_
  refine px_iload_n (kk := 2) rfl rfl rfl ?_
  refine px_iaddN rfl ?_
  refine px_roalde (j := 0) (v := nI 1) rfl hro.1 rfl (by decide) (by decide) ?_
  refine px_ist7 rfl rfl (by decide) ?_
  refine px_iload rfl rfl ?_
  refine px_if_eq rfl (fun h => absurd h (by decide)) (fun _ => ?_)
  refine px_aload_n (kk := 0) rfl rfl rfl ?_
  refine px_iload rfl rfl ?_
  refine px_callV0 CX0_note [] [.int _] (vX0_note hB (by omega)) rfl gS_49 (by decide) rfl rfl rfl (Nat.le_of_ble_eq_true rfl) (by decide) ?_
  rintro _ _ - ⟨rfl, I2, rfl, hB2⟩
  refine px_aload_n (kk := 0) rfl rfl rfl ?_
  refine px_iload rfl rfl ?_
  refine px_getstatic rfl ?_
  refine px_iload rfl rfl ?_
  refine px_roalde (j := 0) (v := -1) rfl hro.2 rfl (by decide) (by decide) ?_
  refine px_iload_n (kk := 3) rfl rfl rfl ?_
  refine px_iload rfl rfl ?_
  refine px_iconst (v := nI 1) rfl k_1 ?_
  refine px_iaddN rfl ?_
  refine px_callV0 CX0_run [] [.int _, .int _, .int _, .int _] (vX0_run_6_1 hnm h4 hk hro hB2 (by simp only [sp_nt]; omega) (by omega)) rfl gS_49 (by decide) rfl rfl rfl (Nat.le_of_ble_eq_true rfl) (by decide) ?_
  rintro _ _ - ⟨rfl, I3, rfl, hB3⟩
  refine px_ireturn rfl (.inl rfl) ?_
  exact ⟨rfl, I3, rfl, hB3⟩
theorem vX0_run_6_70 {I : Nat → Nat → Int32} {J : Nat → Nat → Int64} {p : Bool × Option Nat} {ro : List (Nat × Nat × (Nat → Int32))} {nm : Nat} (hnm : nm < 50) (h4 : I 49 4 = nI nm) (hk : I 50 nm = nI 6) (hro : RO ro) {t : TS} {I1 : Nat → Nat → Int32} (hB : BR I t I1) (ht : t.2 < 1000 - 1) {x : Int32} {dd : Nat} (hd : dd + 2 ≤ 20) : Pv 3 0 0 CX0_run [.ref (49), .int (nI 70), .int (nI 0), .int (x), .int (nI dd)] (gS, I1, J, gR p, ro) (fun r S' => r = some (.int ((x + nI nm) * nI 2)) ∧ ∃ I', S' = (gS, I', J, gR p, ro) ∧ BR I (sp_nts t [1]) I') := by
  refine ⟨okCX0_run, Nat.le_of_ble_eq_true rfl, (show Px _ _ _ _ 0 [some (.ref (49)), some (.int (nI 70)), some (.int (nI 0)), some (.int (x)), some (.int (nI dd)), none] [] _ _ from ?_)⟩
  refine px_aload_n (kk := 0) rfl rfl rfl ?_
  refine px_getR (r := 50) rfl gS_49 rfl (gR_49_0 _) ?_
  refine px_aload_n (kk := 0) rfl rfl rfl ?_
  refine px_getIe rfl gS_49 rfl ((hB.2.1 4 (by decide)).trans h4) ?_
  refine px_ialde (j := nm) (v := nI 6) rfl gS_50 rfl (by omega) ((congrFun (hB.1 50 (by decide)) nm).trans hk) ?_
  refine px_ist5 rfl rfl (by decide) ?_
  refine px_iload_n (kk := 1) rfl rfl rfl ?_
  refine px_lookup rfl (.inl ⟨11, by decide, by decide, rfl⟩) ?_
  refine px_aload_n (kk := 0) rfl rfl rfl ?_
  refine px_iload_n (kk := 2) rfl rfl rfl ?_
  refine px_iconst (v := nI 0) rfl k_0 ?_
  refine px_iload_n (kk := 3) rfl rfl rfl ?_
  refine px_iload rfl rfl ?_
  refine px_callV0 CX0_runFrom [] [.int _, .int _, .int _, .int _] (vX0_rf_6_0_0 hnm h4 hk hro hB (by omega) (by omega)) rfl gS_49 (by decide) rfl rfl rfl (Nat.le_of_ble_eq_true rfl) (by decide) ?_
  rintro _ _ - ⟨rfl, I2, rfl, hB2⟩
  refine px_iconst (v := nI 2) rfl k_2 ?_
  refine px_imul rfl ?_
  refine px_ireturn rfl (.inl rfl) ?_
  exact ⟨rfl, I2, rfl, hB2⟩
theorem vX0_rf_6_6_0 {I : Nat → Nat → Int32} {J : Nat → Nat → Int64} {p : Bool × Option Nat} {ro : List (Nat × Nat × (Nat → Int32))} {nm : Nat} (hnm : nm < 50) (h4 : I 49 4 = nI nm) (hk : I 50 nm = nI 6) (hro : RO ro) {t : TS} {I1 : Nat → Nat → Int32} (hB : BR I t I1) (ht : t.2 < 1000 - 2) {x : Int32} {dd : Nat} (hd : dd + 3 ≤ 20) : Pv 4 0 0 CX0_runFrom [.ref (49), .int (nI 6), .int (nI 0), .int (x), .int (nI dd)] (gS, I1, J, gR p, ro) (fun r S' => r = some (.int ((x + nI nm) * nI 2)) ∧ ∃ I', S' = (gS, I', J, gR p, ro) ∧ BR I (sp_nts t [70, 1]) I') := by
  refine ⟨okCX0_runFrom, Nat.le_of_ble_eq_true rfl, (show Px _ _ _ _ 0 [some (.ref (49)), some (.int (nI 6)), some (.int (nI 0)), some (.int (x)), some (.int (nI dd)), none, none, none] [] _ _ from ?_)⟩
  refine px_iload_n (kk := 1) rfl rfl rfl ?_
  refine px_ist5 rfl rfl (by decide) ?_
  refine px_iconst (v := nI 0) rfl k_0 ?_
  refine px_ist6 rfl rfl (by decide) ?_
  refine px_iload rfl rfl ?_
  refine px_bipush (v := nI 8) rfl b_8 ?_
  refine px_icmp_ge rfl (fun h => absurd h (by decide)) (fun _ => ?_)
  refine px_iload rfl rfl ?_
  refine px_callS0 CX0_isKind [] [.int _] (vX0_isKind_6) rfl rfl rfl (Nat.le_of_ble_eq_true rfl) (by decide) ?_
  rintro _ _ - ⟨rfl, rfl⟩
  refine px_if_eq rfl (fun h => absurd h (by decide)) (fun _ => ?_)
  refine px_iload rfl rfl ?_
  refine px_bipush (v := nI 20) rfl b_20 ?_
  refine px_icmp_ge rfl (fun h => absurd h (nI_ge (by omega) (by omega))) (fun c12 => ?_)
  refine px_getstatic rfl ?_
  refine px_iload rfl rfl ?_
  refine px_iconst (v := nI 4) rfl k_4 ?_
  refine px_imulN rfl ?_
  refine px_iload_n (kk := 2) rfl rfl rfl ?_
  refine px_iaddN rfl ?_
  refine px_roalde (j := 24) (v := nI 70) rfl hro.1 rfl (by decide) (by decide) ?_
  refine px_ist7 rfl rfl (by decide) ?_
  refine px_iload rfl rfl ?_
  refine px_if_eq rfl (fun h => absurd h (by decide)) (fun _ => ?_)
  refine px_aload_n (kk := 0) rfl rfl rfl ?_
  refine px_iload rfl rfl ?_
  refine px_callV0 CX0_note [] [.int _] (vX0_note hB (by omega)) rfl gS_49 (by decide) rfl rfl rfl (Nat.le_of_ble_eq_true rfl) (by decide) ?_
  rintro _ _ - ⟨rfl, I2, rfl, hB2⟩
  refine px_aload_n (kk := 0) rfl rfl rfl ?_
  refine px_iload rfl rfl ?_
  refine px_getstatic rfl ?_
  refine px_iload rfl rfl ?_
  refine px_roalde (j := 6) (v := nI 0) rfl hro.2 rfl (by decide) (by decide) ?_
  refine px_iload_n (kk := 3) rfl rfl rfl ?_
  refine px_iload rfl rfl ?_
  refine px_iconst (v := nI 1) rfl k_1 ?_
  refine px_iaddN rfl ?_
  refine px_callV0 CX0_run [] [.int _, .int _, .int _, .int _] (vX0_run_6_70 hnm h4 hk hro hB2 (by simp only [sp_nt]; omega) (by omega)) rfl gS_49 (by decide) rfl rfl rfl (Nat.le_of_ble_eq_true rfl) (by decide) ?_
  rintro _ _ - ⟨rfl, I3, rfl, hB3⟩
  refine px_ireturn rfl (.inl rfl) ?_
  exact ⟨rfl, I3, rfl, hB3⟩
theorem vX0_run_6_10 {I : Nat → Nat → Int32} {J : Nat → Nat → Int64} {p : Bool × Option Nat} {ro : List (Nat × Nat × (Nat → Int32))} {nm : Nat} (hnm : nm < 50) (h4 : I 49 4 = nI nm) (hk : I 50 nm = nI 6) (hro : RO ro) {t : TS} {I1 : Nat → Nat → Int32} (hB : BR I t I1) (ht : t.2 < 1000 - 2) {x : Int32} {dd : Nat} (hd : dd + 4 ≤ 20) : Pv 5 0 0 CX0_run [.ref (49), .int (nI 10), .int (-1), .int (x), .int (nI dd)] (gS, I1, J, gR p, ro) (fun r S' => r = some (.int (((x + nI nm) * nI 2) * nI 2)) ∧ ∃ I', S' = (gS, I', J, gR p, ro) ∧ BR I (sp_nts t [70, 1]) I') := by
  refine ⟨okCX0_run, Nat.le_of_ble_eq_true rfl, (show Px _ _ _ _ 0 [some (.ref (49)), some (.int (nI 10)), some (.int (-1)), some (.int (x)), some (.int (nI dd)), none] [] _ _ from ?_)⟩
  refine px_aload_n (kk := 0) rfl rfl rfl ?_
  refine px_getR (r := 50) rfl gS_49 rfl (gR_49_0 _) ?_
  refine px_aload_n (kk := 0) rfl rfl rfl ?_
  refine px_getIe rfl gS_49 rfl ((hB.2.1 4 (by decide)).trans h4) ?_
  refine px_ialde (j := nm) (v := nI 6) rfl gS_50 rfl (by omega) ((congrFun (hB.1 50 (by decide)) nm).trans hk) ?_
  refine px_ist5 rfl rfl (by decide) ?_
  refine px_iload_n (kk := 1) rfl rfl rfl ?_
  refine px_lookup rfl (.inl ⟨2, by decide, by decide, rfl⟩) ?_
  refine px_aload_n (kk := 0) rfl rfl rfl ?_
  refine px_iload rfl rfl ?_
  refine px_iconst (v := nI 0) rfl k_0 ?_
  refine px_iload_n (kk := 3) rfl rfl rfl ?_
  refine px_iload rfl rfl ?_
  refine px_callV0 CX0_runFrom [] [.int _, .int _, .int _, .int _] (vX0_rf_6_6_0 hnm h4 hk hro hB (by omega) (by omega)) rfl gS_49 (by decide) rfl rfl rfl (Nat.le_of_ble_eq_true rfl) (by decide) ?_
  rintro _ _ - ⟨rfl, I2, rfl, hB2⟩
  refine px_iconst (v := nI 2) rfl k_2 ?_
  refine px_imul rfl ?_
  refine px_ireturn rfl (.inl rfl) ?_
  exact ⟨rfl, I2, rfl, hB2⟩
theorem vX0_rf_6_6_1 {I : Nat → Nat → Int32} {J : Nat → Nat → Int64} {p : Bool × Option Nat} {ro : List (Nat × Nat × (Nat → Int32))} {nm : Nat} (hnm : nm < 50) (h4 : I 49 4 = nI nm) (hk : I 50 nm = nI 6) (hro : RO ro) {t : TS} {I1 : Nat → Nat → Int32} (hB : BR I t I1) (ht : t.2 < 1000 - 3) {x : Int32} {dd : Nat} (hd : dd + 5 ≤ 20) : Pv 6 0 0 CX0_runFrom [.ref (49), .int (nI 6), .int (nI 1), .int (x), .int (nI dd)] (gS, I1, J, gR p, ro) (fun r S' => r = some (.int (((x + nI nm) * nI 2) * nI 2)) ∧ ∃ I', S' = (gS, I', J, gR p, ro) ∧ BR I (sp_nts t [10, 70, 1]) I') := by
  refine ⟨okCX0_runFrom, Nat.le_of_ble_eq_true rfl, (show Px _ _ _ _ 0 [some (.ref (49)), some (.int (nI 6)), some (.int (nI 1)), some (.int (x)), some (.int (nI dd)), none, none, none] [] _ _ from ?_)⟩
  refine px_iload_n (kk := 1) rfl rfl rfl ?_
  refine px_ist5 rfl rfl (by decide) ?_
  refine px_iconst (v := nI 0) rfl k_0 ?_
  refine px_ist6 rfl rfl (by decide) ?_
  refine px_iload rfl rfl ?_
  refine px_bipush (v := nI 8) rfl b_8 ?_
  refine px_icmp_ge rfl (fun h => absurd h (by decide)) (fun _ => ?_)
  refine px_iload rfl rfl ?_
  refine px_callS0 CX0_isKind [] [.int _] (vX0_isKind_6) rfl rfl rfl (Nat.le_of_ble_eq_true rfl) (by decide) ?_
  rintro _ _ - ⟨rfl, rfl⟩
  refine px_if_eq rfl (fun h => absurd h (by decide)) (fun _ => ?_)
  refine px_iload rfl rfl ?_
  refine px_bipush (v := nI 20) rfl b_20 ?_
  refine px_icmp_ge rfl (fun h => absurd h (nI_ge (by omega) (by omega))) (fun c12 => ?_)
  refine px_getstatic rfl ?_
  refine px_iload rfl rfl ?_
  refine px_iconst (v := nI 4) rfl k_4 ?_
  refine px_imulN rfl ?_
  refine px_iload_n (kk := 2) rfl rfl rfl ?_
  refine px_iaddN rfl ?_
  refine px_roalde (j := 25) (v := nI 0) rfl hro.1 rfl (by decide) (by decide) ?_
  refine px_ist7 rfl rfl (by decide) ?_
  refine px_iload rfl rfl ?_
  refine px_if_eq rfl (fun _ => ?_) (fun h => absurd h (by decide))
  refine px_getstatic rfl ?_
  refine px_iload rfl rfl ?_
  refine px_roalde (j := 6) (v := nI 0) rfl hro.2 rfl (by decide) (by decide) ?_
  refine px_ist5 rfl rfl (by decide) ?_
  refine px_iinc6 (v := nI 1) rfl (n_inc 0) rfl (by decide) ?_
  refine px_goto rfl ?_
  refine px_iload rfl rfl ?_
  refine px_bipush (v := nI 8) rfl b_8 ?_
  refine px_icmp_ge rfl (fun h => absurd h (by decide)) (fun _ => ?_)
  refine px_iload rfl rfl ?_
  refine px_callS0 CX0_isKind [] [.int _] (vX0_isKind_0) rfl rfl rfl (Nat.le_of_ble_eq_true rfl) (by decide) ?_
  rintro _ _ - ⟨rfl, rfl⟩
  refine px_if_eq rfl (fun h => absurd h (by decide)) (fun _ => ?_)
  refine px_iload rfl rfl ?_
  refine px_bipush (v := nI 20) rfl b_20 ?_
  refine px_icmp_ge rfl (fun h => absurd h (nI_ge (by omega) (by omega))) (fun c12 => ?_)
  refine px_getstatic rfl ?_
  refine px_iload rfl rfl ?_
  refine px_iconst (v := nI 4) rfl k_4 ?_
  refine px_imulN rfl ?_
  refine px_iload_n (kk := 2) rfl rfl rfl ?_
  refine px_iaddN rfl ?_
  refine px_roalde (j := 1) (v := nI 10) rfl hro.1 rfl (by decide) (by decide) ?_
  refine px_ist7 rfl rfl (by decide) ?_
  refine px_iload rfl rfl ?_
  refine px_if_eq rfl (fun h => absurd h (by decide)) (fun _ => ?_)
  refine px_aload_n (kk := 0) rfl rfl rfl ?_
  refine px_iload rfl rfl ?_
  refine px_callV0 CX0_note [] [.int _] (vX0_note hB (by omega)) rfl gS_49 (by decide) rfl rfl rfl (Nat.le_of_ble_eq_true rfl) (by decide) ?_
  rintro _ _ - ⟨rfl, I2, rfl, hB2⟩
  refine px_aload_n (kk := 0) rfl rfl rfl ?_
  refine px_iload rfl rfl ?_
  refine px_getstatic rfl ?_
  refine px_iload rfl rfl ?_
  refine px_roalde (j := 0) (v := -1) rfl hro.2 rfl (by decide) (by decide) ?_
  refine px_iload_n (kk := 3) rfl rfl rfl ?_
  refine px_iload rfl rfl ?_
  refine px_iconst (v := nI 1) rfl k_1 ?_
  refine px_iaddN rfl ?_
  refine px_callV0 CX0_run [] [.int _, .int _, .int _, .int _] (vX0_run_6_10 hnm h4 hk hro hB2 (by simp only [sp_nt]; omega) (by omega)) rfl gS_49 (by decide) rfl rfl rfl (Nat.le_of_ble_eq_true rfl) (by decide) ?_
  rintro _ _ - ⟨rfl, I3, rfl, hB3⟩
  refine px_ireturn rfl (.inl rfl) ?_
  exact ⟨rfl, I3, rfl, hB3⟩
theorem vX0_run_6_11 {I : Nat → Nat → Int32} {J : Nat → Nat → Int64} {p : Bool × Option Nat} {ro : List (Nat × Nat × (Nat → Int32))} {nm : Nat} (hnm : nm < 50) (h4 : I 49 4 = nI nm) (hk : I 50 nm = nI 6) (hro : RO ro) {t : TS} {I1 : Nat → Nat → Int32} (hB : BR I t I1) (ht : t.2 < 1000 - 0) {x : Int32} {dd : Nat} (hd : dd + 0 ≤ 20) : Pv 1 0 0 CX0_run [.ref (49), .int (nI 11), .int (-1), .int (x), .int (nI dd)] (gS, I1, J, gR p, ro) (fun r S' => r = some (.int (x ^^^ nI nm)) ∧ ∃ I', S' = (gS, I', J, gR p, ro) ∧ BR I (sp_nts t []) I') := by
  refine ⟨okCX0_run, Nat.le_of_ble_eq_true rfl, (show Px _ _ _ _ 0 [some (.ref (49)), some (.int (nI 11)), some (.int (-1)), some (.int (x)), some (.int (nI dd)), none] [] _ _ from ?_)⟩
  refine px_aload_n (kk := 0) rfl rfl rfl ?_
  refine px_getR (r := 50) rfl gS_49 rfl (gR_49_0 _) ?_
  refine px_aload_n (kk := 0) rfl rfl rfl ?_
  refine px_getIe rfl gS_49 rfl ((hB.2.1 4 (by decide)).trans h4) ?_
  refine px_ialde (j := nm) (v := nI 6) rfl gS_50 rfl (by omega) ((congrFun (hB.1 50 (by decide)) nm).trans hk) ?_
  refine px_ist5 rfl rfl (by decide) ?_
  refine px_iload_n (kk := 1) rfl rfl rfl ?_
  refine px_lookup rfl (.inl ⟨3, by decide, by decide, rfl⟩) ?_
  refine px_iload_n (kk := 3) rfl rfl rfl ?_
  refine px_aload_n (kk := 0) rfl rfl rfl ?_
  refine px_getIe rfl gS_49 rfl ((hB.2.1 4 (by decide)).trans h4) ?_
  refine px_ixor rfl ?_
  refine px_ireturn rfl (.inl rfl) ?_
  exact ⟨rfl, I1, rfl, hB⟩
theorem vX0_rf_6_6_2 {I : Nat → Nat → Int32} {J : Nat → Nat → Int64} {p : Bool × Option Nat} {ro : List (Nat × Nat × (Nat → Int32))} {nm : Nat} (hnm : nm < 50) (h4 : I 49 4 = nI nm) (hk : I 50 nm = nI 6) (hro : RO ro) {t : TS} {I1 : Nat → Nat → Int32} (hB : BR I t I1) (ht : t.2 < 1000 - 1) {x : Int32} {dd : Nat} (hd : dd + 1 ≤ 20) : Pv 2 0 0 CX0_runFrom [.ref (49), .int (nI 6), .int (nI 2), .int (x), .int (nI dd)] (gS, I1, J, gR p, ro) (fun r S' => r = some (.int (x ^^^ nI nm)) ∧ ∃ I', S' = (gS, I', J, gR p, ro) ∧ BR I (sp_nts t [11]) I') := by
  refine ⟨okCX0_runFrom, Nat.le_of_ble_eq_true rfl, (show Px _ _ _ _ 0 [some (.ref (49)), some (.int (nI 6)), some (.int (nI 2)), some (.int (x)), some (.int (nI dd)), none, none, none] [] _ _ from ?_)⟩
  refine px_iload_n (kk := 1) rfl rfl rfl ?_
  refine px_ist5 rfl rfl (by decide) ?_
  refine px_iconst (v := nI 0) rfl k_0 ?_
  refine px_ist6 rfl rfl (by decide) ?_
  refine px_iload rfl rfl ?_
  refine px_bipush (v := nI 8) rfl b_8 ?_
  refine px_icmp_ge rfl (fun h => absurd h (by decide)) (fun _ => ?_)
  refine px_iload rfl rfl ?_
  refine px_callS0 CX0_isKind [] [.int _] (vX0_isKind_6) rfl rfl rfl (Nat.le_of_ble_eq_true rfl) (by decide) ?_
  rintro _ _ - ⟨rfl, rfl⟩
  refine px_if_eq rfl (fun h => absurd h (by decide)) (fun _ => ?_)
  refine px_iload rfl rfl ?_
  refine px_bipush (v := nI 20) rfl b_20 ?_
  refine px_icmp_ge rfl (fun h => absurd h (nI_ge (by omega) (by omega))) (fun c12 => ?_)
  refine px_getstatic rfl ?_
  refine px_iload rfl rfl ?_
  refine px_iconst (v := nI 4) rfl k_4 ?_
  refine px_imulN rfl ?_
  refine px_iload_n (kk := 2) rfl rfl rfl ?_
  refine px_iaddN rfl ?_
  refine px_roalde (j := 26) (v := nI 0) rfl hro.1 rfl (by decide) (by decide) ?_
  refine px_ist7 rfl rfl (by decide) ?_
  refine px_iload rfl rfl ?_
  refine px_if_eq rfl (fun _ => ?_) (fun h => absurd h (by decide))
  refine px_getstatic rfl ?_
  refine px_iload rfl rfl ?_
  refine px_roalde (j := 6) (v := nI 0) rfl hro.2 rfl (by decide) (by decide) ?_
  refine px_ist5 rfl rfl (by decide) ?_
  refine px_iinc6 (v := nI 1) rfl (n_inc 0) rfl (by decide) ?_
  refine px_goto rfl ?_
  refine px_iload rfl rfl ?_
  refine px_bipush (v := nI 8) rfl b_8 ?_
  refine px_icmp_ge rfl (fun h => absurd h (by decide)) (fun _ => ?_)
  refine px_iload rfl rfl ?_
  refine px_callS0 CX0_isKind [] [.int _] (vX0_isKind_0) rfl rfl rfl (Nat.le_of_ble_eq_true rfl) (by decide) ?_
  rintro _ _ - ⟨rfl, rfl⟩
  refine px_if_eq rfl (fun h => absurd h (by decide)) (fun _ => ?_)
  refine px_iload rfl rfl ?_
  refine px_bipush (v := nI 20) rfl b_20 ?_
  refine px_icmp_ge rfl (fun h => absurd h (nI_ge (by omega) (by omega))) (fun c12 => ?_)
  refine px_getstatic rfl ?_
  refine px_iload rfl rfl ?_
  refine px_iconst (v := nI 4) rfl k_4 ?_
  refine px_imulN rfl ?_
  refine px_iload_n (kk := 2) rfl rfl rfl ?_
  refine px_iaddN rfl ?_
  refine px_roalde (j := 2) (v := nI 11) rfl hro.1 rfl (by decide) (by decide) ?_
  refine px_ist7 rfl rfl (by decide) ?_
  refine px_iload rfl rfl ?_
  refine px_if_eq rfl (fun h => absurd h (by decide)) (fun _ => ?_)
  refine px_aload_n (kk := 0) rfl rfl rfl ?_
  refine px_iload rfl rfl ?_
  refine px_callV0 CX0_note [] [.int _] (vX0_note hB (by omega)) rfl gS_49 (by decide) rfl rfl rfl (Nat.le_of_ble_eq_true rfl) (by decide) ?_
  rintro _ _ - ⟨rfl, I2, rfl, hB2⟩
  refine px_aload_n (kk := 0) rfl rfl rfl ?_
  refine px_iload rfl rfl ?_
  refine px_getstatic rfl ?_
  refine px_iload rfl rfl ?_
  refine px_roalde (j := 0) (v := -1) rfl hro.2 rfl (by decide) (by decide) ?_
  refine px_iload_n (kk := 3) rfl rfl rfl ?_
  refine px_iload rfl rfl ?_
  refine px_iconst (v := nI 1) rfl k_1 ?_
  refine px_iaddN rfl ?_
  refine px_callV0 CX0_run [] [.int _, .int _, .int _, .int _] (vX0_run_6_11 hnm h4 hk hro hB2 (by simp only [sp_nt]; omega) (by omega)) rfl gS_49 (by decide) rfl rfl rfl (Nat.le_of_ble_eq_true rfl) (by decide) ?_
  rintro _ _ - ⟨rfl, I3, rfl, hB3⟩
  refine px_ireturn rfl (.inl rfl) ?_
  exact ⟨rfl, I3, rfl, hB3⟩
theorem vX0_run_6_2 {I : Nat → Nat → Int32} {J : Nat → Nat → Int64} {p : Bool × Option Nat} {ro : List (Nat × Nat × (Nat → Int32))} {nm : Nat} (hnm : nm < 50) (h4 : I 49 4 = nI nm) (hk : I 50 nm = nI 6) (hro : RO ro) {t : TS} {I1 : Nat → Nat → Int32} (hB : BR I t I1) (ht : t.2 < 1000 - 4) {x : Int32} {dd : Nat} (hd : dd + 6 ≤ 20) : Pv 7 0 0 CX0_run [.ref (49), .int (nI 2), .int (-1), .int (x), .int (nI dd)] (gS, I1, J, gR p, ro) (fun r S' => r = some (.int ((((x + nI nm) * nI 2) * nI 2) - (nI 1 ^^^ nI nm))) ∧ ∃ I', S' = (gS, I', J, gR p, ro) ∧ BR I (sp_nts t [10, 70, 1, 11]) I') := by
  refine ⟨okCX0_run, Nat.le_of_ble_eq_true rfl, (show Px _ _ _ _ 0 [some (.ref (49)), some (.int (nI 2)), some (.int (-1)), some (.int (x)), some (.int (nI dd)), none] [] _ _ from ?_)⟩
  refine px_aload_n (kk := 0) rfl rfl rfl ?_
  refine px_getR (r := 50) rfl gS_49 rfl (gR_49_0 _) ?_
  refine px_aload_n (kk := 0) rfl rfl rfl ?_
  refine px_getIe rfl gS_49 rfl ((hB.2.1 4 (by decide)).trans h4) ?_
  refine px_ialde (j := nm) (v := nI 6) rfl gS_50 rfl (by omega) ((congrFun (hB.1 50 (by decide)) nm).trans hk) ?_
  refine px_ist5 rfl rfl (by decide) ?_
  refine px_iload_n (kk := 1) rfl rfl rfl ?_
  refine px_lookup rfl (.inl ⟨1, by decide, by decide, rfl⟩) ?_
  refine px_aload_n (kk := 0) rfl rfl rfl ?_
  refine px_iload rfl rfl ?_
  refine px_iconst (v := nI 1) rfl k_1 ?_
  refine px_iload_n (kk := 3) rfl rfl rfl ?_
  refine px_iload rfl rfl ?_
  refine px_callV0 CX0_runFrom [] [.int _, .int _, .int _, .int _] (vX0_rf_6_6_1 hnm h4 hk hro hB (by omega) (by omega)) rfl gS_49 (by decide) rfl rfl rfl (Nat.le_of_ble_eq_true rfl) (by decide) ?_
  rintro _ _ - ⟨rfl, I2, rfl, hB2⟩
  refine px_aload_n (kk := 0) rfl rfl rfl ?_
  refine px_iload rfl rfl ?_
  refine px_iconst (v := nI 2) rfl k_2 ?_
  refine px_iconst (v := nI 1) rfl k_1 ?_
  refine px_iload rfl rfl ?_
  refine px_callV0 CX0_runFrom [.int _] [.int _, .int _, .int _, .int _] (vX0_rf_6_6_2 hnm h4 hk hro hB2 (by rw [sp_nts_2]; simp; omega) (by omega)) rfl gS_49 (by decide) rfl rfl rfl (Nat.le_of_ble_eq_true rfl) (by decide) ?_
  rintro _ _ - ⟨rfl, I3, rfl, hB3⟩
  refine px_isub rfl ?_
  refine px_ireturn rfl (.inl rfl) ?_
  rw [sp_nts_a] at hB3
  exact ⟨rfl, I3, rfl, hB3⟩
theorem vX0_rf_6_6_3 {I : Nat → Nat → Int32} {J : Nat → Nat → Int64} {p : Bool × Option Nat} {ro : List (Nat × Nat × (Nat → Int32))} {nm : Nat} (hnm : nm < 50) (h4 : I 49 4 = nI nm) (hk : I 50 nm = nI 6) (hro : RO ro) {t : TS} {I1 : Nat → Nat → Int32} (hB : BR I t I1) (ht : t.2 < 1000 - 5) {x : Int32} {dd : Nat} (hd : dd + 7 ≤ 20) : Pv 8 0 0 CX0_runFrom [.ref (49), .int (nI 6), .int (nI 3), .int (x), .int (nI dd)] (gS, I1, J, gR p, ro) (fun r S' => r = some (.int ((((x + nI nm) * nI 2) * nI 2) - (nI 1 ^^^ nI nm))) ∧ ∃ I', S' = (gS, I', J, gR p, ro) ∧ BR I (sp_nts t [2, 10, 70, 1, 11]) I') := by
  refine ⟨okCX0_runFrom, Nat.le_of_ble_eq_true rfl, (show Px _ _ _ _ 0 [some (.ref (49)), some (.int (nI 6)), some (.int (nI 3)), some (.int (x)), some (.int (nI dd)), none, none, none] [] _ _ from ?_)⟩
  refine px_iload_n (kk := 1) rfl rfl rfl ?_
  refine px_ist5 rfl rfl (by decide) ?_
  refine px_iconst (v := nI 0) rfl k_0 ?_
  refine px_ist6 rfl rfl (by decide) ?_
  refine px_iload rfl rfl ?_
  refine px_bipush (v := nI 8) rfl b_8 ?_
  refine px_icmp_ge rfl (fun h => absurd h (by decide)) (fun _ => ?_)
  refine px_iload rfl rfl ?_
  refine px_callS0 CX0_isKind [] [.int _] (vX0_isKind_6) rfl rfl rfl (Nat.le_of_ble_eq_true rfl) (by decide) ?_
  rintro _ _ - ⟨rfl, rfl⟩
  refine px_if_eq rfl (fun h => absurd h (by decide)) (fun _ => ?_)
  refine px_iload rfl rfl ?_
  refine px_bipush (v := nI 20) rfl b_20 ?_
  refine px_icmp_ge rfl (fun h => absurd h (nI_ge (by omega) (by omega))) (fun c12 => ?_)
  refine px_getstatic rfl ?_
  refine px_iload rfl rfl ?_
  refine px_iconst (v := nI 4) rfl k_4 ?_
  refine px_imulN rfl ?_
  refine px_iload_n (kk := 2) rfl rfl rfl ?_
  refine px_iaddN rfl ?_
  refine px_roalde (j := 27) (v := nI 0) rfl hro.1 rfl (by decide) (by decide) ?_
  refine px_ist7 rfl rfl (by decide) ?_
  refine px_iload rfl rfl ?_
  refine px_if_eq rfl (fun _ => ?_) (fun h => absurd h (by decide))
  refine px_getstatic rfl ?_
  refine px_iload rfl rfl ?_
  refine px_roalde (j := 6) (v := nI 0) rfl hro.2 rfl (by decide) (by decide) ?_
  refine px_ist5 rfl rfl (by decide) ?_
  refine px_iinc6 (v := nI 1) rfl (n_inc 0) rfl (by decide) ?_
  refine px_goto rfl ?_
  refine px_iload rfl rfl ?_
  refine px_bipush (v := nI 8) rfl b_8 ?_
  refine px_icmp_ge rfl (fun h => absurd h (by decide)) (fun _ => ?_)
  refine px_iload rfl rfl ?_
  refine px_callS0 CX0_isKind [] [.int _] (vX0_isKind_0) rfl rfl rfl (Nat.le_of_ble_eq_true rfl) (by decide) ?_
  rintro _ _ - ⟨rfl, rfl⟩
  refine px_if_eq rfl (fun h => absurd h (by decide)) (fun _ => ?_)
  refine px_iload rfl rfl ?_
  refine px_bipush (v := nI 20) rfl b_20 ?_
  refine px_icmp_ge rfl (fun h => absurd h (nI_ge (by omega) (by omega))) (fun c12 => ?_)
  refine px_getstatic rfl ?_
  refine px_iload rfl rfl ?_
  refine px_iconst (v := nI 4) rfl k_4 ?_
  refine px_imulN rfl ?_
  refine px_iload_n (kk := 2) rfl rfl rfl ?_
  refine px_iaddN rfl ?_
  refine px_roalde (j := 3) (v := nI 2) rfl hro.1 rfl (by decide) (by decide) ?_
  refine px_ist7 rfl rfl (by decide) ?_
  refine px_iload rfl rfl ?_
  refine px_if_eq rfl (fun h => absurd h (by decide)) (fun _ => ?_)
  refine px_aload_n (kk := 0) rfl rfl rfl ?_
  refine px_iload rfl rfl ?_
  refine px_callV0 CX0_note [] [.int _] (vX0_note hB (by omega)) rfl gS_49 (by decide) rfl rfl rfl (Nat.le_of_ble_eq_true rfl) (by decide) ?_
  rintro _ _ - ⟨rfl, I2, rfl, hB2⟩
  refine px_aload_n (kk := 0) rfl rfl rfl ?_
  refine px_iload rfl rfl ?_
  refine px_getstatic rfl ?_
  refine px_iload rfl rfl ?_
  refine px_roalde (j := 0) (v := -1) rfl hro.2 rfl (by decide) (by decide) ?_
  refine px_iload_n (kk := 3) rfl rfl rfl ?_
  refine px_iload rfl rfl ?_
  refine px_iconst (v := nI 1) rfl k_1 ?_
  refine px_iaddN rfl ?_
  refine px_callV0 CX0_run [] [.int _, .int _, .int _, .int _] (vX0_run_6_2 hnm h4 hk hro hB2 (by simp only [sp_nt]; omega) (by omega)) rfl gS_49 (by decide) rfl rfl rfl (Nat.le_of_ble_eq_true rfl) (by decide) ?_
  rintro _ _ - ⟨rfl, I3, rfl, hB3⟩
  refine px_ireturn rfl (.inl rfl) ?_
  exact ⟨rfl, I3, rfl, hB3⟩
theorem vX0_run_7_1 {I : Nat → Nat → Int32} {J : Nat → Nat → Int64} {p : Bool × Option Nat} {ro : List (Nat × Nat × (Nat → Int32))} {nm : Nat} (hnm : nm < 50) (h4 : I 49 4 = nI nm) (hk : I 50 nm = nI 7) (hro : RO ro) {t : TS} {I1 : Nat → Nat → Int32} (hB : BR I t I1) (ht : t.2 < 1000 - 0) {x : Int32} {dd : Nat} (hd : dd + 0 ≤ 20) : Pv 1 0 0 CX0_run [.ref (49), .int (nI 1), .int (-1), .int (x), .int (nI dd)] (gS, I1, J, gR p, ro) (fun r S' => r = some (.int (x + nI nm)) ∧ ∃ I', S' = (gS, I', J, gR p, ro) ∧ BR I (sp_nts t []) I') := by
  refine ⟨okCX0_run, Nat.le_of_ble_eq_true rfl, (show Px _ _ _ _ 0 [some (.ref (49)), some (.int (nI 1)), some (.int (-1)), some (.int (x)), some (.int (nI dd)), none] [] _ _ from ?_)⟩
  refine px_aload_n (kk := 0) rfl rfl rfl ?_
  refine px_getR (r := 50) rfl gS_49 rfl (gR_49_0 _) ?_
  refine px_aload_n (kk := 0) rfl rfl rfl ?_
  refine px_getIe rfl gS_49 rfl ((hB.2.1 4 (by decide)).trans h4) ?_
  refine px_ialde (j := nm) (v := nI 7) rfl gS_50 rfl (by omega) ((congrFun (hB.1 50 (by decide)) nm).trans hk) ?_
  refine px_ist5 rfl rfl (by decide) ?_
  refine px_iload_n (kk := 1) rfl rfl rfl ?_
  refine px_lookup rfl (.inl ⟨0, by decide, by decide, rfl⟩) ?_
  refine px_iload_n (kk := 3) rfl rfl rfl ?_
  refine px_aload_n (kk := 0) rfl rfl rfl ?_
  refine px_getIe rfl gS_49 rfl ((hB.2.1 4 (by decide)).trans h4) ?_
  refine px_iadd rfl ?_
  refine px_ireturn rfl (.inl rfl) ?_
  exact ⟨rfl, I1, rfl, hB⟩
theorem vX0_rf_7_0_0 {I : Nat → Nat → Int32} {J : Nat → Nat → Int64} {p : Bool × Option Nat} {ro : List (Nat × Nat × (Nat → Int32))} {nm : Nat} (hnm : nm < 50) (h4 : I 49 4 = nI nm) (hk : I 50 nm = nI 7) (hro : RO ro) {t : TS} {I1 : Nat → Nat → Int32} (hB : BR I t I1) (ht : t.2 < 1000 - 1) {x : Int32} {dd : Nat} (hd : dd + 1 ≤ 20) : Pv 2 0 0 CX0_runFrom [.ref (49), .int (nI 0), .int (nI 0), .int (x), .int (nI dd)] (gS, I1, J, gR p, ro) (fun r S' => r = some (.int (x + nI nm)) ∧ ∃ I', S' = (gS, I', J, gR p, ro) ∧ BR I (sp_nts t [1]) I') := by
  refine ⟨okCX0_runFrom, Nat.le_of_ble_eq_true rfl, (show Px _ _ _ _ 0 [some (.ref (49)), some (.int (nI 0)), some (.int (nI 0)), some (.int (x)), some (.int (nI dd)), none, none, none] [] _ _ from ?_)⟩
  refine px_iload_n (kk := 1) rfl rfl rfl ?_
  refine px_ist5 rfl rfl (by decide) ?_
  refine px_iconst (v := nI 0) rfl k_0 ?_
  refine px_ist6 rfl rfl (by decide) ?_
  refine px_iload rfl rfl ?_
  refine px_bipush (v := nI 8) rfl b_8 ?_
  refine px_icmp_ge rfl (fun h => absurd h (by decide)) (fun _ => ?_)
  refine px_iload rfl rfl ?_
  refine px_callS0 CX0_isKind [] [.int _] (vX0_isKind_0) rfl rfl rfl (Nat.le_of_ble_eq_true rfl) (by decide) ?_
  rintro _ _ - ⟨rfl, rfl⟩
  refine px_if_eq rfl (fun h => absurd h (by decide)) (fun _ => ?_)
  refine px_iload rfl rfl ?_
  refine px_bipush (v := nI 20) rfl b_20 ?_
  refine px_icmp_ge rfl (fun h => absurd h (nI_ge (by omega) (by omega))) (fun c12 => ?_)
  refine px_getstatic rfl ?_
  refine px_iload rfl rfl ?_
  refine px_iconst (v := nI 4) rfl k_4 ?_
  refine px_imulN rfl ?_
  refine px_iload_n (kk := 2) rfl rfl rfl ?_
  refine px_iaddN rfl ?_
  refine px_roalde (j := 0) (v := nI 1) rfl hro.1 rfl (by decide) (by decide) ?_
  refine px_ist7 rfl rfl (by decide) ?_
  refine px_iload rfl rfl ?_
  refine px_if_eq rfl (fun h => absurd h (by decide)) (fun _ => ?_)
  refine px_aload_n (kk := 0) rfl rfl rfl ?_
  refine px_iload rfl rfl ?_
  refine px_callV0 CX0_note [] [.int _] (vX0_note hB (by omega)) rfl gS_49 (by decide) rfl rfl rfl (Nat.le_of_ble_eq_true rfl) (by decide) ?_
  rintro _ _ - ⟨rfl, I2, rfl, hB2⟩
  refine px_aload_n (kk := 0) rfl rfl rfl ?_
  refine px_iload rfl rfl ?_
  refine px_getstatic rfl ?_
  refine px_iload rfl rfl ?_
  refine px_roalde (j := 0) (v := -1) rfl hro.2 rfl (by decide) (by decide) ?_
  refine px_iload_n (kk := 3) rfl rfl rfl ?_
  refine px_iload rfl rfl ?_
  refine px_iconst (v := nI 1) rfl k_1 ?_
  refine px_iaddN rfl ?_
  refine px_callV0 CX0_run [] [.int _, .int _, .int _, .int _] (vX0_run_7_1 hnm h4 hk hro hB2 (by simp only [sp_nt]; omega) (by omega)) rfl gS_49 (by decide) rfl rfl rfl (Nat.le_of_ble_eq_true rfl) (by decide) ?_
  rintro _ _ - ⟨rfl, I3, rfl, hB3⟩
  refine px_ireturn rfl (.inl rfl) ?_
  exact ⟨rfl, I3, rfl, hB3⟩
theorem vX0_run_7_70 {I : Nat → Nat → Int32} {J : Nat → Nat → Int64} {p : Bool × Option Nat} {ro : List (Nat × Nat × (Nat → Int32))} {nm : Nat} (hnm : nm < 50) (h4 : I 49 4 = nI nm) (hk : I 50 nm = nI 7) (hro : RO ro) {t : TS} {I1 : Nat → Nat → Int32} (hB : BR I t I1) (ht : t.2 < 1000 - 1) {x : Int32} {dd : Nat} (hd : dd + 2 ≤ 20) : Pv 3 0 0 CX0_run [.ref (49), .int (nI 70), .int (nI 0), .int (x), .int (nI dd)] (gS, I1, J, gR p, ro) (fun r S' => r = some (.int ((x + nI nm) * nI 2)) ∧ ∃ I', S' = (gS, I', J, gR p, ro) ∧ BR I (sp_nts t [1]) I') := by
  refine ⟨okCX0_run, Nat.le_of_ble_eq_true rfl, (show Px _ _ _ _ 0 [some (.ref (49)), some (.int (nI 70)), some (.int (nI 0)), some (.int (x)), some (.int (nI dd)), none] [] _ _ from ?_)⟩
  refine px_aload_n (kk := 0) rfl rfl rfl ?_
  refine px_getR (r := 50) rfl gS_49 rfl (gR_49_0 _) ?_
  refine px_aload_n (kk := 0) rfl rfl rfl ?_
  refine px_getIe rfl gS_49 rfl ((hB.2.1 4 (by decide)).trans h4) ?_
  refine px_ialde (j := nm) (v := nI 7) rfl gS_50 rfl (by omega) ((congrFun (hB.1 50 (by decide)) nm).trans hk) ?_
  refine px_ist5 rfl rfl (by decide) ?_
  refine px_iload_n (kk := 1) rfl rfl rfl ?_
  refine px_lookup rfl (.inl ⟨11, by decide, by decide, rfl⟩) ?_
  refine px_aload_n (kk := 0) rfl rfl rfl ?_
  refine px_iload_n (kk := 2) rfl rfl rfl ?_
  refine px_iconst (v := nI 0) rfl k_0 ?_
  refine px_iload_n (kk := 3) rfl rfl rfl ?_
  refine px_iload rfl rfl ?_
  refine px_callV0 CX0_runFrom [] [.int _, .int _, .int _, .int _] (vX0_rf_7_0_0 hnm h4 hk hro hB (by omega) (by omega)) rfl gS_49 (by decide) rfl rfl rfl (Nat.le_of_ble_eq_true rfl) (by decide) ?_
  rintro _ _ - ⟨rfl, I2, rfl, hB2⟩
  refine px_iconst (v := nI 2) rfl k_2 ?_
  refine px_imul rfl ?_
  refine px_ireturn rfl (.inl rfl) ?_
  exact ⟨rfl, I2, rfl, hB2⟩
theorem vX0_rf_7_6_0 {I : Nat → Nat → Int32} {J : Nat → Nat → Int64} {p : Bool × Option Nat} {ro : List (Nat × Nat × (Nat → Int32))} {nm : Nat} (hnm : nm < 50) (h4 : I 49 4 = nI nm) (hk : I 50 nm = nI 7) (hro : RO ro) {t : TS} {I1 : Nat → Nat → Int32} (hB : BR I t I1) (ht : t.2 < 1000 - 2) {x : Int32} {dd : Nat} (hd : dd + 3 ≤ 20) : Pv 4 0 0 CX0_runFrom [.ref (49), .int (nI 6), .int (nI 0), .int (x), .int (nI dd)] (gS, I1, J, gR p, ro) (fun r S' => r = some (.int ((x + nI nm) * nI 2)) ∧ ∃ I', S' = (gS, I', J, gR p, ro) ∧ BR I (sp_nts t [70, 1]) I') := by
  refine ⟨okCX0_runFrom, Nat.le_of_ble_eq_true rfl, (show Px _ _ _ _ 0 [some (.ref (49)), some (.int (nI 6)), some (.int (nI 0)), some (.int (x)), some (.int (nI dd)), none, none, none] [] _ _ from ?_)⟩
  refine px_iload_n (kk := 1) rfl rfl rfl ?_
  refine px_ist5 rfl rfl (by decide) ?_
  refine px_iconst (v := nI 0) rfl k_0 ?_
  refine px_ist6 rfl rfl (by decide) ?_
  refine px_iload rfl rfl ?_
  refine px_bipush (v := nI 8) rfl b_8 ?_
  refine px_icmp_ge rfl (fun h => absurd h (by decide)) (fun _ => ?_)
  refine px_iload rfl rfl ?_
  refine px_callS0 CX0_isKind [] [.int _] (vX0_isKind_6) rfl rfl rfl (Nat.le_of_ble_eq_true rfl) (by decide) ?_
  rintro _ _ - ⟨rfl, rfl⟩
  refine px_if_eq rfl (fun h => absurd h (by decide)) (fun _ => ?_)
  refine px_iload rfl rfl ?_
  refine px_bipush (v := nI 20) rfl b_20 ?_
  refine px_icmp_ge rfl (fun h => absurd h (nI_ge (by omega) (by omega))) (fun c12 => ?_)
  refine px_getstatic rfl ?_
  refine px_iload rfl rfl ?_
  refine px_iconst (v := nI 4) rfl k_4 ?_
  refine px_imulN rfl ?_
  refine px_iload_n (kk := 2) rfl rfl rfl ?_
  refine px_iaddN rfl ?_
  refine px_roalde (j := 24) (v := nI 70) rfl hro.1 rfl (by decide) (by decide) ?_
  refine px_ist7 rfl rfl (by decide) ?_
  refine px_iload rfl rfl ?_
  refine px_if_eq rfl (fun h => absurd h (by decide)) (fun _ => ?_)
  refine px_aload_n (kk := 0) rfl rfl rfl ?_
  refine px_iload rfl rfl ?_
  refine px_callV0 CX0_note [] [.int _] (vX0_note hB (by omega)) rfl gS_49 (by decide) rfl rfl rfl (Nat.le_of_ble_eq_true rfl) (by decide) ?_
  rintro _ _ - ⟨rfl, I2, rfl, hB2⟩
  refine px_aload_n (kk := 0) rfl rfl rfl ?_
  refine px_iload rfl rfl ?_
  refine px_getstatic rfl ?_
  refine px_iload rfl rfl ?_
  refine px_roalde (j := 6) (v := nI 0) rfl hro.2 rfl (by decide) (by decide) ?_
  refine px_iload_n (kk := 3) rfl rfl rfl ?_
  refine px_iload rfl rfl ?_
  refine px_iconst (v := nI 1) rfl k_1 ?_
  refine px_iaddN rfl ?_
  refine px_callV0 CX0_run [] [.int _, .int _, .int _, .int _] (vX0_run_7_70 hnm h4 hk hro hB2 (by simp only [sp_nt]; omega) (by omega)) rfl gS_49 (by decide) rfl rfl rfl (Nat.le_of_ble_eq_true rfl) (by decide) ?_
  rintro _ _ - ⟨rfl, I3, rfl, hB3⟩
  refine px_ireturn rfl (.inl rfl) ?_
  exact ⟨rfl, I3, rfl, hB3⟩
theorem vX0_run_7_81 {I : Nat → Nat → Int32} {J : Nat → Nat → Int64} {p : Bool × Option Nat} {ro : List (Nat × Nat × (Nat → Int32))} {nm : Nat} (hnm : nm < 50) (h4 : I 49 4 = nI nm) (hk : I 50 nm = nI 7) (hro : RO ro) {t : TS} {I1 : Nat → Nat → Int32} (hB : BR I t I1) (ht : t.2 < 1000 - 2) {x : Int32} {dd : Nat} (hd : dd + 4 ≤ 20) : Pv 5 0 0 CX0_run [.ref (49), .int (nI 81), .int (nI 6), .int (x), .int (nI dd)] (gS, I1, J, gR p, ro) (fun r S' => r = some (.int (((x + nI nm) * nI 2) - nI 1)) ∧ ∃ I', S' = (gS, I', J, gR p, ro) ∧ BR I (sp_nts t [70, 1]) I') := by
  refine ⟨okCX0_run, Nat.le_of_ble_eq_true rfl, (show Px _ _ _ _ 0 [some (.ref (49)), some (.int (nI 81)), some (.int (nI 6)), some (.int (x)), some (.int (nI dd)), none] [] _ _ from ?_)⟩
  refine px_aload_n (kk := 0) rfl rfl rfl ?_
  refine px_getR (r := 50) rfl gS_49 rfl (gR_49_0 _) ?_
  refine px_aload_n (kk := 0) rfl rfl rfl ?_
  refine px_getIe rfl gS_49 rfl ((hB.2.1 4 (by decide)).trans h4) ?_
  refine px_ialde (j := nm) (v := nI 7) rfl gS_50 rfl (by omega) ((congrFun (hB.1 50 (by decide)) nm).trans hk) ?_
  refine px_ist5 rfl rfl (by decide) ?_
  refine px_iload_n (kk := 1) rfl rfl rfl ?_
  refine px_lookup rfl (.inl ⟨13, by decide, by decide, rfl⟩) ?_
  refine px_aload_n (kk := 0) rfl rfl rfl ?_
  refine px_iload_n (kk := 2) rfl rfl rfl ?_
  refine px_iconst (v := nI 0) rfl k_0 ?_
  refine px_iload_n (kk := 3) rfl rfl rfl ?_
  refine px_iload rfl rfl ?_
  refine px_callV0 CX0_runFrom [] [.int _, .int _, .int _, .int _] (vX0_rf_7_6_0 hnm h4 hk hro hB (by omega) (by omega)) rfl gS_49 (by decide) rfl rfl rfl (Nat.le_of_ble_eq_true rfl) (by decide) ?_
  rintro _ _ - ⟨rfl, I2, rfl, hB2⟩
  refine px_iconst (v := nI 1) rfl k_1 ?_
  refine px_isub rfl ?_
  refine px_ireturn rfl (.inl rfl) ?_
  exact ⟨rfl, I2, rfl, hB2⟩
theorem vX0_rf_7_7_0 {I : Nat → Nat → Int32} {J : Nat → Nat → Int64} {p : Bool × Option Nat} {ro : List (Nat × Nat × (Nat → Int32))} {nm : Nat} (hnm : nm < 50) (h4 : I 49 4 = nI nm) (hk : I 50 nm = nI 7) (hro : RO ro) {t : TS} {I1 : Nat → Nat → Int32} (hB : BR I t I1) (ht : t.2 < 1000 - 3) {x : Int32} {dd : Nat} (hd : dd + 5 ≤ 20) : Pv 6 0 0 CX0_runFrom [.ref (49), .int (nI 7), .int (nI 0), .int (x), .int (nI dd)] (gS, I1, J, gR p, ro) (fun r S' => r = some (.int (((x + nI nm) * nI 2) - nI 1)) ∧ ∃ I', S' = (gS, I', J, gR p, ro) ∧ BR I (sp_nts t [81, 70, 1]) I') := by
  refine ⟨okCX0_runFrom, Nat.le_of_ble_eq_true rfl, (show Px _ _ _ _ 0 [some (.ref (49)), some (.int (nI 7)), some (.int (nI 0)), some (.int (x)), some (.int (nI dd)), none, none, none] [] _ _ from ?_)⟩
  refine px_iload_n (kk := 1) rfl rfl rfl ?_
  refine px_ist5 rfl rfl (by decide) ?_
  refine px_iconst (v := nI 0) rfl k_0 ?_
  refine px_ist6 rfl rfl (by decide) ?_
  refine px_iload rfl rfl ?_
  refine px_bipush (v := nI 8) rfl b_8 ?_
  refine px_icmp_ge rfl (fun h => absurd h (by decide)) (fun _ => ?_)
  refine px_iload rfl rfl ?_
  refine px_callS0 CX0_isKind [] [.int _] (vX0_isKind_7) rfl rfl rfl (Nat.le_of_ble_eq_true rfl) (by decide) ?_
  rintro _ _ - ⟨rfl, rfl⟩
  refine px_if_eq rfl (fun h => absurd h (by decide)) (fun _ => ?_)
  refine px_iload rfl rfl ?_
  refine px_bipush (v := nI 20) rfl b_20 ?_
  refine px_icmp_ge rfl (fun h => absurd h (nI_ge (by omega) (by omega))) (fun c12 => ?_)
  refine px_getstatic rfl ?_
  refine px_iload rfl rfl ?_
  refine px_iconst (v := nI 4) rfl k_4 ?_
  refine px_imulN rfl ?_
  refine px_iload_n (kk := 2) rfl rfl rfl ?_
  refine px_iaddN rfl ?_
  refine px_roalde (j := 28) (v := nI 81) rfl hro.1 rfl (by decide) (by decide) ?_
  refine px_ist7 rfl rfl (by decide) ?_
  refine px_iload rfl rfl ?_
  refine px_if_eq rfl (fun h => absurd h (by decide)) (fun _ => ?_)
  refine px_aload_n (kk := 0) rfl rfl rfl ?_
  refine px_iload rfl rfl ?_
  refine px_callV0 CX0_note [] [.int _] (vX0_note hB (by omega)) rfl gS_49 (by decide) rfl rfl rfl (Nat.le_of_ble_eq_true rfl) (by decide) ?_
  rintro _ _ - ⟨rfl, I2, rfl, hB2⟩
  refine px_aload_n (kk := 0) rfl rfl rfl ?_
  refine px_iload rfl rfl ?_
  refine px_getstatic rfl ?_
  refine px_iload rfl rfl ?_
  refine px_roalde (j := 7) (v := nI 6) rfl hro.2 rfl (by decide) (by decide) ?_
  refine px_iload_n (kk := 3) rfl rfl rfl ?_
  refine px_iload rfl rfl ?_
  refine px_iconst (v := nI 1) rfl k_1 ?_
  refine px_iaddN rfl ?_
  refine px_callV0 CX0_run [] [.int _, .int _, .int _, .int _] (vX0_run_7_81 hnm h4 hk hro hB2 (by simp only [sp_nt]; omega) (by omega)) rfl gS_49 (by decide) rfl rfl rfl (Nat.le_of_ble_eq_true rfl) (by decide) ?_
  rintro _ _ - ⟨rfl, I3, rfl, hB3⟩
  refine px_ireturn rfl (.inl rfl) ?_
  exact ⟨rfl, I3, rfl, hB3⟩
theorem vX0_run_7_10 {I : Nat → Nat → Int32} {J : Nat → Nat → Int64} {p : Bool × Option Nat} {ro : List (Nat × Nat × (Nat → Int32))} {nm : Nat} (hnm : nm < 50) (h4 : I 49 4 = nI nm) (hk : I 50 nm = nI 7) (hro : RO ro) {t : TS} {I1 : Nat → Nat → Int32} (hB : BR I t I1) (ht : t.2 < 1000 - 3) {x : Int32} {dd : Nat} (hd : dd + 6 ≤ 20) : Pv 7 0 0 CX0_run [.ref (49), .int (nI 10), .int (-1), .int (x), .int (nI dd)] (gS, I1, J, gR p, ro) (fun r S' => r = some (.int ((((x + nI nm) * nI 2) - nI 1) * nI 2)) ∧ ∃ I', S' = (gS, I', J, gR p, ro) ∧ BR I (sp_nts t [81, 70, 1]) I') := by
  refine ⟨okCX0_run, Nat.le_of_ble_eq_true rfl, (show Px _ _ _ _ 0 [some (.ref (49)), some (.int (nI 10)), some (.int (-1)), some (.int (x)), some (.int (nI dd)), none] [] _ _ from ?_)⟩
  refine px_aload_n (kk := 0) rfl rfl rfl ?_
  refine px_getR (r := 50) rfl gS_49 rfl (gR_49_0 _) ?_
  refine px_aload_n (kk := 0) rfl rfl rfl ?_
  refine px_getIe rfl gS_49 rfl ((hB.2.1 4 (by decide)).trans h4) ?_
  refine px_ialde (j := nm) (v := nI 7) rfl gS_50 rfl (by omega) ((congrFun (hB.1 50 (by decide)) nm).trans hk) ?_
  refine px_ist5 rfl rfl (by decide) ?_
  refine px_iload_n (kk := 1) rfl rfl rfl ?_
  refine px_lookup rfl (.inl ⟨2, by decide, by decide, rfl⟩) ?_
  refine px_aload_n (kk := 0) rfl rfl rfl ?_
  refine px_iload rfl rfl ?_
  refine px_iconst (v := nI 0) rfl k_0 ?_
  refine px_iload_n (kk := 3) rfl rfl rfl ?_
  refine px_iload rfl rfl ?_
  refine px_callV0 CX0_runFrom [] [.int _, .int _, .int _, .int _] (vX0_rf_7_7_0 hnm h4 hk hro hB (by omega) (by omega)) rfl gS_49 (by decide) rfl rfl rfl (Nat.le_of_ble_eq_true rfl) (by decide) ?_
  rintro _ _ - ⟨rfl, I2, rfl, hB2⟩
  refine px_iconst (v := nI 2) rfl k_2 ?_
  refine px_imul rfl ?_
  refine px_ireturn rfl (.inl rfl) ?_
  exact ⟨rfl, I2, rfl, hB2⟩
theorem vX0_rf_7_6_1 {I : Nat → Nat → Int32} {J : Nat → Nat → Int64} {p : Bool × Option Nat} {ro : List (Nat × Nat × (Nat → Int32))} {nm : Nat} (hnm : nm < 50) (h4 : I 49 4 = nI nm) (hk : I 50 nm = nI 7) (hro : RO ro) {t : TS} {I1 : Nat → Nat → Int32} (hB : BR I t I1) (ht : t.2 < 1000 - 4) {x : Int32} {dd : Nat} (hd : dd + 7 ≤ 20) : Pv 8 0 0 CX0_runFrom [.ref (49), .int (nI 6), .int (nI 1), .int (x), .int (nI dd)] (gS, I1, J, gR p, ro) (fun r S' => r = some (.int ((((x + nI nm) * nI 2) - nI 1) * nI 2)) ∧ ∃ I', S' = (gS, I', J, gR p, ro) ∧ BR I (sp_nts t [10, 81, 70, 1]) I') := by
  refine ⟨okCX0_runFrom, Nat.le_of_ble_eq_true rfl, (show Px _ _ _ _ 0 [some (.ref (49)), some (.int (nI 6)), some (.int (nI 1)), some (.int (x)), some (.int (nI dd)), none, none, none] [] _ _ from ?_)⟩
  refine px_iload_n (kk := 1) rfl rfl rfl ?_
  refine px_ist5 rfl rfl (by decide) ?_
  refine px_iconst (v := nI 0) rfl k_0 ?_
  refine px_ist6 rfl rfl (by decide) ?_
  refine px_iload rfl rfl ?_
  refine px_bipush (v := nI 8) rfl b_8 ?_
  refine px_icmp_ge rfl (fun h => absurd h (by decide)) (fun _ => ?_)
  refine px_iload rfl rfl ?_
  refine px_callS0 CX0_isKind [] [.int _] (vX0_isKind_6) rfl rfl rfl (Nat.le_of_ble_eq_true rfl) (by decide) ?_
  rintro _ _ - ⟨rfl, rfl⟩
  refine px_if_eq rfl (fun h => absurd h (by decide)) (fun _ => ?_)
  refine px_iload rfl rfl ?_
  refine px_bipush (v := nI 20) rfl b_20 ?_
  refine px_icmp_ge rfl (fun h => absurd h (nI_ge (by omega) (by omega))) (fun c12 => ?_)
  refine px_getstatic rfl ?_
  refine px_iload rfl rfl ?_
  refine px_iconst (v := nI 4) rfl k_4 ?_
  refine px_imulN rfl ?_
  refine px_iload_n (kk := 2) rfl rfl rfl ?_
  refine px_iaddN rfl ?_
  refine px_roalde (j := 25) (v := nI 0) rfl hro.1 rfl (by decide) (by decide) ?_
  refine px_ist7 rfl rfl (by decide) ?_
  refine px_iload rfl rfl ?_
  refine px_if_eq rfl (fun _ => ?_) (fun h => absurd h (by decide))
  refine px_getstatic rfl ?_
  refine px_iload rfl rfl ?_
  refine px_roalde (j := 6) (v := nI 0) rfl hro.2 rfl (by decide) (by decide) ?_
  refine px_ist5 rfl rfl (by decide) ?_
  refine px_iinc6 (v := nI 1) rfl (n_inc 0) rfl (by decide) ?_
  refine px_goto rfl ?_
  refine px_iload rfl rfl ?_
  refine px_bipush (v := nI 8) rfl b_8 ?_
  refine px_icmp_ge rfl (fun h => absurd h (by decide)) (fun _ => ?_)
  refine px_iload rfl rfl ?_
  refine px_callS0 CX0_isKind [] [.int _] (vX0_isKind_0) rfl rfl rfl (Nat.le_of_ble_eq_true rfl) (by decide) ?_
  rintro _ _ - ⟨rfl, rfl⟩
  refine px_if_eq rfl (fun h => absurd h (by decide)) (fun _ => ?_)
  refine px_iload rfl rfl ?_
  refine px_bipush (v := nI 20) rfl b_20 ?_
  refine px_icmp_ge rfl (fun h => absurd h (nI_ge (by omega) (by omega))) (fun c12 => ?_)
  refine px_getstatic rfl ?_
  refine px_iload rfl rfl ?_
  refine px_iconst (v := nI 4) rfl k_4 ?_
  refine px_imulN rfl ?_
  refine px_iload_n (kk := 2) rfl rfl rfl ?_
  refine px_iaddN rfl ?_
  refine px_roalde (j := 1) (v := nI 10) rfl hro.1 rfl (by decide) (by decide) ?_
  refine px_ist7 rfl rfl (by decide) ?_
  refine px_iload rfl rfl ?_
  refine px_if_eq rfl (fun h => absurd h (by decide)) (fun _ => ?_)
  refine px_aload_n (kk := 0) rfl rfl rfl ?_
  refine px_iload rfl rfl ?_
  refine px_callV0 CX0_note [] [.int _] (vX0_note hB (by omega)) rfl gS_49 (by decide) rfl rfl rfl (Nat.le_of_ble_eq_true rfl) (by decide) ?_
  rintro _ _ - ⟨rfl, I2, rfl, hB2⟩
  refine px_aload_n (kk := 0) rfl rfl rfl ?_
  refine px_iload rfl rfl ?_
  refine px_getstatic rfl ?_
  refine px_iload rfl rfl ?_
  refine px_roalde (j := 0) (v := -1) rfl hro.2 rfl (by decide) (by decide) ?_
  refine px_iload_n (kk := 3) rfl rfl rfl ?_
  refine px_iload rfl rfl ?_
  refine px_iconst (v := nI 1) rfl k_1 ?_
  refine px_iaddN rfl ?_
  refine px_callV0 CX0_run [] [.int _, .int _, .int _, .int _] (vX0_run_7_10 hnm h4 hk hro hB2 (by simp only [sp_nt]; omega) (by omega)) rfl gS_49 (by decide) rfl rfl rfl (Nat.le_of_ble_eq_true rfl) (by decide) ?_
  rintro _ _ - ⟨rfl, I3, rfl, hB3⟩
  refine px_ireturn rfl (.inl rfl) ?_
  exact ⟨rfl, I3, rfl, hB3⟩
theorem vX0_run_7_11 {I : Nat → Nat → Int32} {J : Nat → Nat → Int64} {p : Bool × Option Nat} {ro : List (Nat × Nat × (Nat → Int32))} {nm : Nat} (hnm : nm < 50) (h4 : I 49 4 = nI nm) (hk : I 50 nm = nI 7) (hro : RO ro) {t : TS} {I1 : Nat → Nat → Int32} (hB : BR I t I1) (ht : t.2 < 1000 - 0) {x : Int32} {dd : Nat} (hd : dd + 0 ≤ 20) : Pv 1 0 0 CX0_run [.ref (49), .int (nI 11), .int (-1), .int (x), .int (nI dd)] (gS, I1, J, gR p, ro) (fun r S' => r = some (.int (x ^^^ nI nm)) ∧ ∃ I', S' = (gS, I', J, gR p, ro) ∧ BR I (sp_nts t []) I') := by
  refine ⟨okCX0_run, Nat.le_of_ble_eq_true rfl, (show Px _ _ _ _ 0 [some (.ref (49)), some (.int (nI 11)), some (.int (-1)), some (.int (x)), some (.int (nI dd)), none] [] _ _ from ?_)⟩
  refine px_aload_n (kk := 0) rfl rfl rfl ?_
  refine px_getR (r := 50) rfl gS_49 rfl (gR_49_0 _) ?_
  refine px_aload_n (kk := 0) rfl rfl rfl ?_
  refine px_getIe rfl gS_49 rfl ((hB.2.1 4 (by decide)).trans h4) ?_
  refine px_ialde (j := nm) (v := nI 7) rfl gS_50 rfl (by omega) ((congrFun (hB.1 50 (by decide)) nm).trans hk) ?_
  refine px_ist5 rfl rfl (by decide) ?_
  refine px_iload_n (kk := 1) rfl rfl rfl ?_
  refine px_lookup rfl (.inl ⟨3, by decide, by decide, rfl⟩) ?_
  refine px_iload_n (kk := 3) rfl rfl rfl ?_
  refine px_aload_n (kk := 0) rfl rfl rfl ?_
  refine px_getIe rfl gS_49 rfl ((hB.2.1 4 (by decide)).trans h4) ?_
  refine px_ixor rfl ?_
  refine px_ireturn rfl (.inl rfl) ?_
  exact ⟨rfl, I1, rfl, hB⟩
theorem vX0_rf_7_7_2 {I : Nat → Nat → Int32} {J : Nat → Nat → Int64} {p : Bool × Option Nat} {ro : List (Nat × Nat × (Nat → Int32))} {nm : Nat} (hnm : nm < 50) (h4 : I 49 4 = nI nm) (hk : I 50 nm = nI 7) (hro : RO ro) {t : TS} {I1 : Nat → Nat → Int32} (hB : BR I t I1) (ht : t.2 < 1000 - 1) {x : Int32} {dd : Nat} (hd : dd + 1 ≤ 20) : Pv 2 0 0 CX0_runFrom [.ref (49), .int (nI 7), .int (nI 2), .int (x), .int (nI dd)] (gS, I1, J, gR p, ro) (fun r S' => r = some (.int (x ^^^ nI nm)) ∧ ∃ I', S' = (gS, I', J, gR p, ro) ∧ BR I (sp_nts t [11]) I') := by
  refine ⟨okCX0_runFrom, Nat.le_of_ble_eq_true rfl, (show Px _ _ _ _ 0 [some (.ref (49)), some (.int (nI 7)), some (.int (nI 2)), some (.int (x)), some (.int (nI dd)), none, none, none] [] _ _ from ?_)⟩
  refine px_iload_n (kk := 1) rfl rfl rfl ?_
  refine px_ist5 rfl rfl (by decide) ?_
  refine px_iconst (v := nI 0) rfl k_0 ?_
  refine px_ist6 rfl rfl (by decide) ?_
  refine px_iload rfl rfl ?_
  refine px_bipush (v := nI 8) rfl b_8 ?_
  refine px_icmp_ge rfl (fun h => absurd h (by decide)) (fun _ => ?_)
  refine px_iload rfl rfl ?_
  refine px_callS0 CX0_isKind [] [.int _] (vX0_isKind_7) rfl rfl rfl (Nat.le_of_ble_eq_true rfl) (by decide) ?_
  rintro _ _ - ⟨rfl, rfl⟩
  refine px_if_eq rfl (fun h => absurd h (by decide)) (fun _ => ?_)
  refine px_iload rfl rfl ?_
  refine px_bipush (v := nI 20) rfl b_20 ?_
  refine px_icmp_ge rfl (fun h => absurd h (nI_ge (by omega) (by omega))) (fun c12 => ?_)
  refine px_getstatic rfl ?_
  refine px_iload rfl rfl ?_
  refine px_iconst (v := nI 4) rfl k_4 ?_
  refine px_imulN rfl ?_
  refine px_iload_n (kk := 2) rfl rfl rfl ?_
  refine px_iaddN rfl ?_
  refine px_roalde (j := 30) (v := nI 0) rfl hro.1 rfl (by decide) (by decide) ?_
  refine px_ist7 rfl rfl (by decide) ?_
  refine px_iload rfl rfl ?_
  refine px_if_eq rfl (fun _ => ?_) (fun h => absurd h (by decide))
  refine px_getstatic rfl ?_
  refine px_iload rfl rfl ?_
  refine px_roalde (j := 7) (v := nI 6) rfl hro.2 rfl (by decide) (by decide) ?_
  refine px_ist5 rfl rfl (by decide) ?_
  refine px_iinc6 (v := nI 1) rfl (n_inc 0) rfl (by decide) ?_
  refine px_goto rfl ?_
  refine px_iload rfl rfl ?_
  refine px_bipush (v := nI 8) rfl b_8 ?_
  refine px_icmp_ge rfl (fun h => absurd h (by decide)) (fun _ => ?_)
  refine px_iload rfl rfl ?_
  refine px_callS0 CX0_isKind [] [.int _] (vX0_isKind_6) rfl rfl rfl (Nat.le_of_ble_eq_true rfl) (by decide) ?_
  rintro _ _ - ⟨rfl, rfl⟩
  refine px_if_eq rfl (fun h => absurd h (by decide)) (fun _ => ?_)
  refine px_iload rfl rfl ?_
  refine px_bipush (v := nI 20) rfl b_20 ?_
  refine px_icmp_ge rfl (fun h => absurd h (nI_ge (by omega) (by omega))) (fun c12 => ?_)
  refine px_getstatic rfl ?_
  refine px_iload rfl rfl ?_
  refine px_iconst (v := nI 4) rfl k_4 ?_
  refine px_imulN rfl ?_
  refine px_iload_n (kk := 2) rfl rfl rfl ?_
  refine px_iaddN rfl ?_
  refine px_roalde (j := 26) (v := nI 0) rfl hro.1 rfl (by decide) (by decide) ?_
  refine px_ist7 rfl rfl (by decide) ?_
  refine px_iload rfl rfl ?_
  refine px_if_eq rfl (fun _ => ?_) (fun h => absurd h (by decide))
  refine px_getstatic rfl ?_
  refine px_iload rfl rfl ?_
  refine px_roalde (j := 6) (v := nI 0) rfl hro.2 rfl (by decide) (by decide) ?_
  refine px_ist5 rfl rfl (by decide) ?_
  refine px_iinc6 (v := nI 2) rfl (n_inc 1) rfl (by decide) ?_
  refine px_goto rfl ?_
  refine px_iload rfl rfl ?_
  refine px_bipush (v := nI 8) rfl b_8 ?_
  refine px_icmp_ge rfl (fun h => absurd h (by decide)) (fun _ => ?_)
  refine px_iload rfl rfl ?_
  refine px_callS0 CX0_isKind [] [.int _] (vX0_isKind_0) rfl rfl rfl (Nat.le_of_ble_eq_true rfl) (by decide) ?_
  rintro _ _ - ⟨rfl, rfl⟩
  refine px_if_eq rfl (fun h => absurd h (by decide)) (fun _ => ?_)
  refine px_iload rfl rfl ?_
  refine px_bipush (v := nI 20) rfl b_20 ?_
  refine px_icmp_ge rfl (fun h => absurd h (nI_ge (by omega) (by omega))) (fun c12 => ?_)
  refine px_getstatic rfl ?_
  refine px_iload rfl rfl ?_
  refine px_iconst (v := nI 4) rfl k_4 ?_
  refine px_imulN rfl ?_
  refine px_iload_n (kk := 2) rfl rfl rfl ?_
  refine px_iaddN rfl ?_
  refine px_roalde (j := 2) (v := nI 11) rfl hro.1 rfl (by decide) (by decide) ?_
  refine px_ist7 rfl rfl (by decide) ?_
  refine px_iload rfl rfl ?_
  refine px_if_eq rfl (fun h => absurd h (by decide)) (fun _ => ?_)
  refine px_aload_n (kk := 0) rfl rfl rfl ?_
  refine px_iload rfl rfl ?_
  refine px_callV0 CX0_note [] [.int _] (vX0_note hB (by omega)) rfl gS_49 (by decide) rfl rfl rfl (Nat.le_of_ble_eq_true rfl) (by decide) ?_
  rintro _ _ - ⟨rfl, I2, rfl, hB2⟩
  refine px_aload_n (kk := 0) rfl rfl rfl ?_
  refine px_iload rfl rfl ?_
  refine px_getstatic rfl ?_
  refine px_iload rfl rfl ?_
  refine px_roalde (j := 0) (v := -1) rfl hro.2 rfl (by decide) (by decide) ?_
  refine px_iload_n (kk := 3) rfl rfl rfl ?_
  refine px_iload rfl rfl ?_
  refine px_iconst (v := nI 1) rfl k_1 ?_
  refine px_iaddN rfl ?_
  refine px_callV0 CX0_run [] [.int _, .int _, .int _, .int _] (vX0_run_7_11 hnm h4 hk hro hB2 (by simp only [sp_nt]; omega) (by omega)) rfl gS_49 (by decide) rfl rfl rfl (Nat.le_of_ble_eq_true rfl) (by decide) ?_
  rintro _ _ - ⟨rfl, I3, rfl, hB3⟩
  refine px_ireturn rfl (.inl rfl) ?_
  exact ⟨rfl, I3, rfl, hB3⟩
theorem vX0_run_7_80 {I : Nat → Nat → Int32} {J : Nat → Nat → Int64} {p : Bool × Option Nat} {ro : List (Nat × Nat × (Nat → Int32))} {nm : Nat} (hnm : nm < 50) (h4 : I 49 4 = nI nm) (hk : I 50 nm = nI 7) (hro : RO ro) {t : TS} {I1 : Nat → Nat → Int32} (hB : BR I t I1) (ht : t.2 < 1000 - 5) {x : Int32} {dd : Nat} (hd : dd + 8 ≤ 20) : Pv 9 0 0 CX0_run [.ref (49), .int (nI 80), .int (nI 6), .int (x), .int (nI dd)] (gS, I1, J, gR p, ro) (fun r S' => r = some (.int (((((x + nI nm) * nI 2) - nI 1) * nI 2) + (nI 2 ^^^ nI nm))) ∧ ∃ I', S' = (gS, I', J, gR p, ro) ∧ BR I (sp_nts t [10, 81, 70, 1, 11]) I') := by
  refine ⟨okCX0_run, Nat.le_of_ble_eq_true rfl, (show Px _ _ _ _ 0 [some (.ref (49)), some (.int (nI 80)), some (.int (nI 6)), some (.int (x)), some (.int (nI dd)), none] [] _ _ from ?_)⟩
  refine px_aload_n (kk := 0) rfl rfl rfl ?_
  refine px_getR (r := 50) rfl gS_49 rfl (gR_49_0 _) ?_
  refine px_aload_n (kk := 0) rfl rfl rfl ?_
  refine px_getIe rfl gS_49 rfl ((hB.2.1 4 (by decide)).trans h4) ?_
  refine px_ialde (j := nm) (v := nI 7) rfl gS_50 rfl (by omega) ((congrFun (hB.1 50 (by decide)) nm).trans hk) ?_
  refine px_ist5 rfl rfl (by decide) ?_
  refine px_iload_n (kk := 1) rfl rfl rfl ?_
  refine px_lookup rfl (.inl ⟨12, by decide, by decide, rfl⟩) ?_
  refine px_aload_n (kk := 0) rfl rfl rfl ?_
  refine px_iload_n (kk := 2) rfl rfl rfl ?_
  refine px_iconst (v := nI 1) rfl k_1 ?_
  refine px_iload_n (kk := 3) rfl rfl rfl ?_
  refine px_iload rfl rfl ?_
  refine px_callV0 CX0_runFrom [] [.int _, .int _, .int _, .int _] (vX0_rf_7_6_1 hnm h4 hk hro hB (by omega) (by omega)) rfl gS_49 (by decide) rfl rfl rfl (Nat.le_of_ble_eq_true rfl) (by decide) ?_
  rintro _ _ - ⟨rfl, I2, rfl, hB2⟩
  refine px_aload_n (kk := 0) rfl rfl rfl ?_
  refine px_iload rfl rfl ?_
  refine px_iconst (v := nI 2) rfl k_2 ?_
  refine px_iconst (v := nI 2) rfl k_2 ?_
  refine px_iload rfl rfl ?_
  refine px_callV0 CX0_runFrom [.int _] [.int _, .int _, .int _, .int _] (vX0_rf_7_7_2 hnm h4 hk hro hB2 (by rw [sp_nts_2]; simp; omega) (by omega)) rfl gS_49 (by decide) rfl rfl rfl (Nat.le_of_ble_eq_true rfl) (by decide) ?_
  rintro _ _ - ⟨rfl, I3, rfl, hB3⟩
  refine px_iadd rfl ?_
  refine px_ireturn rfl (.inl rfl) ?_
  rw [sp_nts_a] at hB3
  exact ⟨rfl, I3, rfl, hB3⟩
theorem vX0_rf_7_7_1 {I : Nat → Nat → Int32} {J : Nat → Nat → Int64} {p : Bool × Option Nat} {ro : List (Nat × Nat × (Nat → Int32))} {nm : Nat} (hnm : nm < 50) (h4 : I 49 4 = nI nm) (hk : I 50 nm = nI 7) (hro : RO ro) {t : TS} {I1 : Nat → Nat → Int32} (hB : BR I t I1) (ht : t.2 < 1000 - 6) {x : Int32} {dd : Nat} (hd : dd + 9 ≤ 20) : Pv 10 0 0 CX0_runFrom [.ref (49), .int (nI 7), .int (nI 1), .int (x), .int (nI dd)] (gS, I1, J, gR p, ro) (fun r S' => r = some (.int (((((x + nI nm) * nI 2) - nI 1) * nI 2) + (nI 2 ^^^ nI nm))) ∧ ∃ I', S' = (gS, I', J, gR p, ro) ∧ BR I (sp_nts t [80, 10, 81, 70, 1, 11]) I') := by
  refine ⟨okCX0_runFrom, Nat.le_of_ble_eq_true rfl, (show Px _ _ _ _ 0 [some (.ref (49)), some (.int (nI 7)), some (.int (nI 1)), some (.int (x)), some (.int (nI dd)), none, none, none] [] _ _ from ?_)⟩
  refine px_iload_n (kk := 1) rfl rfl rfl ?_
  refine px_ist5 rfl rfl (by decide) ?_
  refine px_iconst (v := nI 0) rfl k_0 ?_
  refine px_ist6 rfl rfl (by decide) ?_
  refine px_iload rfl rfl ?_
  refine px_bipush (v := nI 8) rfl b_8 ?_
  refine px_icmp_ge rfl (fun h => absurd h (by decide)) (fun _ => ?_)
  refine px_iload rfl rfl ?_
  refine px_callS0 CX0_isKind [] [.int _] (vX0_isKind_7) rfl rfl rfl (Nat.le_of_ble_eq_true rfl) (by decide) ?_
  rintro _ _ - ⟨rfl, rfl⟩
  refine px_if_eq rfl (fun h => absurd h (by decide)) (fun _ => ?_)
  refine px_iload rfl rfl ?_
  refine px_bipush (v := nI 20) rfl b_20 ?_
  refine px_icmp_ge rfl (fun h => absurd h (nI_ge (by omega) (by omega))) (fun c12 => ?_)
  refine px_getstatic rfl ?_
  refine px_iload rfl rfl ?_
  refine px_iconst (v := nI 4) rfl k_4 ?_
  refine px_imulN rfl ?_
  refine px_iload_n (kk := 2) rfl rfl rfl ?_
  refine px_iaddN rfl ?_
  refine px_roalde (j := 29) (v := nI 80) rfl hro.1 rfl (by decide) (by decide) ?_
  refine px_ist7 rfl rfl (by decide) ?_
  refine px_iload rfl rfl ?_
  refine px_if_eq rfl (fun h => absurd h (by decide)) (fun _ => ?_)
  refine px_aload_n (kk := 0) rfl rfl rfl ?_
  refine px_iload rfl rfl ?_
  refine px_callV0 CX0_note [] [.int _] (vX0_note hB (by omega)) rfl gS_49 (by decide) rfl rfl rfl (Nat.le_of_ble_eq_true rfl) (by decide) ?_
  rintro _ _ - ⟨rfl, I2, rfl, hB2⟩
  refine px_aload_n (kk := 0) rfl rfl rfl ?_
  refine px_iload rfl rfl ?_
  refine px_getstatic rfl ?_
  refine px_iload rfl rfl ?_
  refine px_roalde (j := 7) (v := nI 6) rfl hro.2 rfl (by decide) (by decide) ?_
  refine px_iload_n (kk := 3) rfl rfl rfl ?_
  refine px_iload rfl rfl ?_
  refine px_iconst (v := nI 1) rfl k_1 ?_
  refine px_iaddN rfl ?_
  refine px_callV0 CX0_run [] [.int _, .int _, .int _, .int _] (vX0_run_7_80 hnm h4 hk hro hB2 (by simp only [sp_nt]; omega) (by omega)) rfl gS_49 (by decide) rfl rfl rfl (Nat.le_of_ble_eq_true rfl) (by decide) ?_
  rintro _ _ - ⟨rfl, I3, rfl, hB3⟩
  refine px_ireturn rfl (.inl rfl) ?_
  exact ⟨rfl, I3, rfl, hB3⟩
theorem vX0_run_7_2 {I : Nat → Nat → Int32} {J : Nat → Nat → Int64} {p : Bool × Option Nat} {ro : List (Nat × Nat × (Nat → Int32))} {nm : Nat} (hnm : nm < 50) (h4 : I 49 4 = nI nm) (hk : I 50 nm = nI 7) (hro : RO ro) {t : TS} {I1 : Nat → Nat → Int32} (hB : BR I t I1) (ht : t.2 < 1000 - 7) {x : Int32} {dd : Nat} (hd : dd + 10 ≤ 20) : Pv 11 0 0 CX0_run [.ref (49), .int (nI 2), .int (-1), .int (x), .int (nI dd)] (gS, I1, J, gR p, ro) (fun r S' => r = some (.int ((((((x + nI nm) * nI 2) - nI 1) * nI 2) + (nI 2 ^^^ nI nm)) - (nI 1 ^^^ nI nm))) ∧ ∃ I', S' = (gS, I', J, gR p, ro) ∧ BR I (sp_nts t [80, 10, 81, 70, 1, 11, 11]) I') := by
  refine ⟨okCX0_run, Nat.le_of_ble_eq_true rfl, (show Px _ _ _ _ 0 [some (.ref (49)), some (.int (nI 2)), some (.int (-1)), some (.int (x)), some (.int (nI dd)), none] [] _ _ from ?_)⟩
  refine px_aload_n (kk := 0) rfl rfl rfl ?_
  refine px_getR (r := 50) rfl gS_49 rfl (gR_49_0 _) ?_
  refine px_aload_n (kk := 0) rfl rfl rfl ?_
  refine px_getIe rfl gS_49 rfl ((hB.2.1 4 (by decide)).trans h4) ?_
  refine px_ialde (j := nm) (v := nI 7) rfl gS_50 rfl (by omega) ((congrFun (hB.1 50 (by decide)) nm).trans hk) ?_
  refine px_ist5 rfl rfl (by decide) ?_
  refine px_iload_n (kk := 1) rfl rfl rfl ?_
  refine px_lookup rfl (.inl ⟨1, by decide, by decide, rfl⟩) ?_
  refine px_aload_n (kk := 0) rfl rfl rfl ?_
  refine px_iload rfl rfl ?_
  refine px_iconst (v := nI 1) rfl k_1 ?_
  refine px_iload_n (kk := 3) rfl rfl rfl ?_
  refine px_iload rfl rfl ?_
  refine px_callV0 CX0_runFrom [] [.int _, .int _, .int _, .int _] (vX0_rf_7_7_1 hnm h4 hk hro hB (by omega) (by omega)) rfl gS_49 (by decide) rfl rfl rfl (Nat.le_of_ble_eq_true rfl) (by decide) ?_
  rintro _ _ - ⟨rfl, I2, rfl, hB2⟩
  refine px_aload_n (kk := 0) rfl rfl rfl ?_
  refine px_iload rfl rfl ?_
  refine px_iconst (v := nI 2) rfl k_2 ?_
  refine px_iconst (v := nI 1) rfl k_1 ?_
  refine px_iload rfl rfl ?_
  refine px_callV0 CX0_runFrom [.int _] [.int _, .int _, .int _, .int _] (vX0_rf_7_7_2 hnm h4 hk hro hB2 (by rw [sp_nts_2]; simp; omega) (by omega)) rfl gS_49 (by decide) rfl rfl rfl (Nat.le_of_ble_eq_true rfl) (by decide) ?_
  rintro _ _ - ⟨rfl, I3, rfl, hB3⟩
  refine px_isub rfl ?_
  refine px_ireturn rfl (.inl rfl) ?_
  rw [sp_nts_a] at hB3
  exact ⟨rfl, I3, rfl, hB3⟩
theorem vX0_rf_7_7_3 {I : Nat → Nat → Int32} {J : Nat → Nat → Int64} {p : Bool × Option Nat} {ro : List (Nat × Nat × (Nat → Int32))} {nm : Nat} (hnm : nm < 50) (h4 : I 49 4 = nI nm) (hk : I 50 nm = nI 7) (hro : RO ro) {t : TS} {I1 : Nat → Nat → Int32} (hB : BR I t I1) (ht : t.2 < 1000 - 8) {x : Int32} {dd : Nat} (hd : dd + 11 ≤ 20) : Pv 12 0 0 CX0_runFrom [.ref (49), .int (nI 7), .int (nI 3), .int (x), .int (nI dd)] (gS, I1, J, gR p, ro) (fun r S' => r = some (.int ((((((x + nI nm) * nI 2) - nI 1) * nI 2) + (nI 2 ^^^ nI nm)) - (nI 1 ^^^ nI nm))) ∧ ∃ I', S' = (gS, I', J, gR p, ro) ∧ BR I (sp_nts t [2, 80, 10, 81, 70, 1, 11, 11]) I') := by
  refine ⟨okCX0_runFrom, Nat.le_of_ble_eq_true rfl, (show Px _ _ _ _ 0 [some (.ref (49)), some (.int (nI 7)), some (.int (nI 3)), some (.int (x)), some (.int (nI dd)), none, none, none] [] _ _ from ?_)⟩
  refine px_iload_n (kk := 1) rfl rfl rfl ?_
  refine px_ist5 rfl rfl (by decide) ?_
  refine px_iconst (v := nI 0) rfl k_0 ?_
  refine px_ist6 rfl rfl (by decide) ?_
  refine px_iload rfl rfl ?_
  refine px_bipush (v := nI 8) rfl b_8 ?_
  refine px_icmp_ge rfl (fun h => absurd h (by decide)) (fun _ => ?_)
  refine px_iload rfl rfl ?_
  refine px_callS0 CX0_isKind [] [.int _] (vX0_isKind_7) rfl rfl rfl (Nat.le_of_ble_eq_true rfl) (by decide) ?_
  rintro _ _ - ⟨rfl, rfl⟩
  refine px_if_eq rfl (fun h => absurd h (by decide)) (fun _ => ?_)
  refine px_iload rfl rfl ?_
  refine px_bipush (v := nI 20) rfl b_20 ?_
  refine px_icmp_ge rfl (fun h => absurd h (nI_ge (by omega) (by omega))) (fun c12 => ?_)
  refine px_getstatic rfl ?_
  refine px_iload rfl rfl ?_
  refine px_iconst (v := nI 4) rfl k_4 ?_
  refine px_imulN rfl ?_
  refine px_iload_n (kk := 2) rfl rfl rfl ?_
  refine px_iaddN rfl ?_
  refine px_roalde (j := 31) (v := nI 0) rfl hro.1 rfl (by decide) (by decide) ?_
  refine px_ist7 rfl rfl (by decide) ?_
  refine px_iload rfl rfl ?_
  refine px_if_eq rfl (fun _ => ?_) (fun h => absurd h (by decide))
  refine px_getstatic rfl ?_
  refine px_iload rfl rfl ?_
  refine px_roalde (j := 7) (v := nI 6) rfl hro.2 rfl (by decide) (by decide) ?_
  refine px_ist5 rfl rfl (by decide) ?_
  refine px_iinc6 (v := nI 1) rfl (n_inc 0) rfl (by decide) ?_
  refine px_goto rfl ?_
  refine px_iload rfl rfl ?_
  refine px_bipush (v := nI 8) rfl b_8 ?_
  refine px_icmp_ge rfl (fun h => absurd h (by decide)) (fun _ => ?_)
  refine px_iload rfl rfl ?_
  refine px_callS0 CX0_isKind [] [.int _] (vX0_isKind_6) rfl rfl rfl (Nat.le_of_ble_eq_true rfl) (by decide) ?_
  rintro _ _ - ⟨rfl, rfl⟩
  refine px_if_eq rfl (fun h => absurd h (by decide)) (fun _ => ?_)
  refine px_iload rfl rfl ?_
  refine px_bipush (v := nI 20) rfl b_20 ?_
  refine px_icmp_ge rfl (fun h => absurd h (nI_ge (by omega) (by omega))) (fun c12 => ?_)
  refine px_getstatic rfl ?_
  refine px_iload rfl rfl ?_
  refine px_iconst (v := nI 4) rfl k_4 ?_
  refine px_imulN rfl ?_
  refine px_iload_n (kk := 2) rfl rfl rfl ?_
  refine px_iaddN rfl ?_
  refine px_roalde (j := 27) (v := nI 0) rfl hro.1 rfl (by decide) (by decide) ?_
  refine px_ist7 rfl rfl (by decide) ?_
  refine px_iload rfl rfl ?_
  refine px_if_eq rfl (fun _ => ?_) (fun h => absurd h (by decide))
  refine px_getstatic rfl ?_
  refine px_iload rfl rfl ?_
  refine px_roalde (j := 6) (v := nI 0) rfl hro.2 rfl (by decide) (by decide) ?_
  refine px_ist5 rfl rfl (by decide) ?_
  refine px_iinc6 (v := nI 2) rfl (n_inc 1) rfl (by decide) ?_
  refine px_goto rfl ?_
  refine px_iload rfl rfl ?_
  refine px_bipush (v := nI 8) rfl b_8 ?_
  refine px_icmp_ge rfl (fun h => absurd h (by decide)) (fun _ => ?_)
  refine px_iload rfl rfl ?_
  refine px_callS0 CX0_isKind [] [.int _] (vX0_isKind_0) rfl rfl rfl (Nat.le_of_ble_eq_true rfl) (by decide) ?_
  rintro _ _ - ⟨rfl, rfl⟩
  refine px_if_eq rfl (fun h => absurd h (by decide)) (fun _ => ?_)
  refine px_iload rfl rfl ?_
  refine px_bipush (v := nI 20) rfl b_20 ?_
  refine px_icmp_ge rfl (fun h => absurd h (nI_ge (by omega) (by omega))) (fun c12 => ?_)
  refine px_getstatic rfl ?_
  refine px_iload rfl rfl ?_
  refine px_iconst (v := nI 4) rfl k_4 ?_
  refine px_imulN rfl ?_
  refine px_iload_n (kk := 2) rfl rfl rfl ?_
  refine px_iaddN rfl ?_
  refine px_roalde (j := 3) (v := nI 2) rfl hro.1 rfl (by decide) (by decide) ?_
  refine px_ist7 rfl rfl (by decide) ?_
  refine px_iload rfl rfl ?_
  refine px_if_eq rfl (fun h => absurd h (by decide)) (fun _ => ?_)
  refine px_aload_n (kk := 0) rfl rfl rfl ?_
  refine px_iload rfl rfl ?_
  refine px_callV0 CX0_note [] [.int _] (vX0_note hB (by omega)) rfl gS_49 (by decide) rfl rfl rfl (Nat.le_of_ble_eq_true rfl) (by decide) ?_
  rintro _ _ - ⟨rfl, I2, rfl, hB2⟩
  refine px_aload_n (kk := 0) rfl rfl rfl ?_
  refine px_iload rfl rfl ?_
  refine px_getstatic rfl ?_
  refine px_iload rfl rfl ?_
  refine px_roalde (j := 0) (v := -1) rfl hro.2 rfl (by decide) (by decide) ?_
  refine px_iload_n (kk := 3) rfl rfl rfl ?_
  refine px_iload rfl rfl ?_
  refine px_iconst (v := nI 1) rfl k_1 ?_
  refine px_iaddN rfl ?_
  refine px_callV0 CX0_run [] [.int _, .int _, .int _, .int _] (vX0_run_7_2 hnm h4 hk hro hB2 (by simp only [sp_nt]; omega) (by omega)) rfl gS_49 (by decide) rfl rfl rfl (Nat.le_of_ble_eq_true rfl) (by decide) ?_
  rintro _ _ - ⟨rfl, I3, rfl, hB3⟩
  refine px_ireturn rfl (.inl rfl) ?_
  exact ⟨rfl, I3, rfl, hB3⟩
/-- what an act of a body of a kind answers, and which bodies run -/
def sp_act (K a : Nat) (b x : Int32) : Int32 := match K, a with
  | 0, 0 => (x + b)
  | 0, 1 => ((x + b) * nI 2)
  | 0, 2 => (x ^^^ b)
  | 0, 3 => (((x + b) * nI 2) - (nI 1 ^^^ b))
  | 1, 0 => ((x + b) + nI 3)
  | 1, 1 => (((x + b) + nI 3) * nI 2)
  | 1, 2 => (x ^^^ b)
  | 1, 3 => ((((x + b) + nI 3) * nI 2) - (nI 1 ^^^ b))
  | 2, 0 => (x + b)
  | 2, 1 => (-((x + b) * nI 2))
  | 2, 2 => (x ^^^ b)
  | 2, 3 => ((-((x + b) * nI 2)) - (nI 1 ^^^ b))
  | 3, 0 => (x + b)
  | 3, 1 => (-(((x + nI 1) + b) * nI 2))
  | 3, 2 => ((x ^^^ b) * nI 3)
  | 3, 3 => ((-(((x + nI 1) + b) * nI 2)) - ((nI 1 ^^^ b) * nI 3))
  | 4, 0 => ((x + b) + nI 3)
  | 4, 1 => (((x + b) + nI 3) * nI 2)
  | 4, 2 => (x ^^^ b)
  | 4, 3 => (((((x + b) + nI 3) * nI 2) - (nI 1 ^^^ b)) ^^^ nI 5)
  | 5, 0 => (x + b)
  | 5, 1 => (-(((x + nI 1) + b) * nI 2))
  | 5, 2 => (((x ^^^ b) * nI 3) - (nI 2 + b))
  | 5, 3 => (((-(((x + nI 1) + b) * nI 2)) - (((nI 1 ^^^ b) * nI 3) - (nI 2 + b))) + nI 1)
  | 6, 0 => ((x + b) * nI 2)
  | 6, 1 => (((x + b) * nI 2) * nI 2)
  | 6, 2 => (x ^^^ b)
  | 6, 3 => ((((x + b) * nI 2) * nI 2) - (nI 1 ^^^ b))
  | 7, 0 => (((x + b) * nI 2) - nI 1)
  | 7, 1 => (((((x + b) * nI 2) - nI 1) * nI 2) + (nI 2 ^^^ b))
  | 7, 2 => (x ^^^ b)
  | 7, 3 => ((((((x + b) * nI 2) - nI 1) * nI 2) + (nI 2 ^^^ b)) - (nI 1 ^^^ b))
  | _, _ => nI 0
def sp_atr (K a : Nat) : List Nat := match K, a with
  | 0, 0 => [1]
  | 0, 1 => [10, 1]
  | 0, 2 => [11]
  | 0, 3 => [2, 10, 1, 11]
  | 1, 0 => [20, 1]
  | 1, 1 => [10, 20, 1]
  | 1, 2 => [11]
  | 1, 3 => [2, 10, 20, 1, 11]
  | 2, 0 => [1]
  | 2, 1 => [30, 10, 1]
  | 2, 2 => [11]
  | 2, 3 => [2, 30, 10, 1, 11]
  | 3, 0 => [1]
  | 3, 1 => [41, 30, 10, 1]
  | 3, 2 => [40, 11]
  | 3, 3 => [2, 41, 30, 10, 1, 40, 11]
  | 4, 0 => [20, 1]
  | 4, 1 => [10, 20, 1]
  | 4, 2 => [11]
  | 4, 3 => [50, 2, 10, 20, 1, 11]
  | 5, 0 => [1]
  | 5, 1 => [41, 30, 10, 1]
  | 5, 2 => [60, 40, 11, 1]
  | 5, 3 => [61, 2, 41, 30, 10, 1, 60, 40, 11, 1]
  | 6, 0 => [70, 1]
  | 6, 1 => [10, 70, 1]
  | 6, 2 => [11]
  | 6, 3 => [2, 10, 70, 1, 11]
  | 7, 0 => [81, 70, 1]
  | 7, 1 => [80, 10, 81, 70, 1, 11]
  | 7, 2 => [11]
  | 7, 3 => [2, 80, 10, 81, 70, 1, 11, 11]
  | _, _ => []
theorem vX0_isBody {I : Nat → Nat → Int32} {J : Nat → Nat → Int64} {p : Bool × Option Nat} {ro : List (Nat × Nat × (Nat → Int32))} {z : Nat} (hz : I 49 2 = nI z) (hz50 : z ≤ 50) {x : Int32} : Pv 0 0 0 CX0_isBody [.ref (49), .int (x)] (gS, I, J, gR p, ro) (qB (∃ b, b < z ∧ x = nI b) (gS, I, J, gR p, ro)) := by
  refine ⟨okCX0_isBody, Nat.le_of_ble_eq_true rfl, (show Px _ _ _ _ 0 [some (.ref (49)), some (.int (x))] [] _ _ from ?_)⟩
  refine px_iload_n (kk := 1) rfl rfl rfl ?_
  refine px_if_lt rfl (fun c1 => ?_) (fun c1 => ?_)
  · refine px_iconst (v := nI 0) rfl k_0 ?_
    refine px_ireturn rfl (.inr ⟨rfl, by decide⟩) ?_
    exact qB_f (fun ⟨a, ha, e⟩ => n_nneg (by omega) (e ▸ c1))
  · refine px_iload_n (kk := 1) rfl rfl rfl ?_
    refine px_aload_n (kk := 0) rfl rfl rfl ?_
    refine px_getIe rfl gS_49 rfl hz ?_
    refine px_icmp_ge rfl (fun c5 => ?_) (fun c5 => ?_)
    · refine px_iconst (v := nI 0) rfl k_0 ?_
      refine px_ireturn rfl (.inr ⟨rfl, by decide⟩) ?_
      exact qB_f (fun ⟨a, ha, e⟩ => by subst e; rw [n_le (by omega) (by omega)] at c5; omega)
    · refine px_iconst (v := nI 1) rfl k_1 ?_
      refine px_goto rfl ?_
      refine px_ireturn rfl (.inr ⟨rfl, by decide⟩) ?_
      obtain ⟨a, ha, rfl⟩ := n_ofn c1
      rw [n_le (by omega) ha] at c5
      exact qB_t ⟨a, by omega, rfl⟩
theorem vX0_perf_0_0 {I : Nat → Nat → Int32} {J : Nat → Nat → Int64} {p : Bool × Option Nat} {ro : List (Nat × Nat × (Nat → Int32))} {z : Nat} (hz : I 49 2 = nI z) (hz50 : z ≤ 50) {b : Nat} (hb : b < z) (hk : I 50 b = nI 0) (hro : RO ro) {x : Int32} : Pv 14 0 0 CX0_perform [.ref (49), .int (nI b), .int (nI 0), .int (x)] (gS, I, J, gR p, ro) (fun r S' => r = some (.int (sp_act 0 0 (nI b) x)) ∧ ∃ I', S' = (gS, I', J, gR p, ro) ∧ Fr [49, 51] I I' ∧ I' 49 2 = I 49 2 ∧ I' 49 3 = nI (sp_nts (I 51, 0) (sp_atr 0 0)).2 ∧ I' 51 = (sp_nts (I 51, 0) (sp_atr 0 0)).1) := by
  refine ⟨okCX0_perform, Nat.le_of_ble_eq_true rfl, (show Px _ _ _ _ 0 [some (.ref (49)), some (.int (nI b)), some (.int (nI 0)), some (.int (x))] [] _ _ from ?_)⟩
  refine px_aload_n (kk := 0) rfl rfl rfl ?_
  refine px_iconst (v := nI 0) rfl k_0 ?_
  refine px_putI rfl gS_49 rfl rfl ?_
  refine px_aload_n (kk := 0) rfl rfl rfl ?_
  refine px_iload_n (kk := 1) rfl rfl rfl ?_
  refine px_callV0 CX0_isBody [] [.int _] (vX0_isBody (by rw [p_up_s, p_up_n _ _ (by decide)]; exact hz) hz50) rfl gS_49 (by decide) rfl rfl rfl (Nat.le_of_ble_eq_true rfl) (by decide) ?_
  rintro _ _ - (⟨h, rfl, rfl⟩ | ⟨h, rfl, rfl⟩)
  · refine px_if_eq rfl (fun h => absurd h (by decide)) (fun _ => ?_)
    refine px_iload_n (kk := 2) rfl rfl rfl ?_
    refine px_if_lt rfl (fun h => absurd h (by decide)) (fun _ => ?_)
    refine px_iload_n (kk := 2) rfl rfl rfl ?_
    refine px_iconst (v := nI 4) rfl k_4 ?_
    refine px_icmp_lt rfl (fun _ => ?_) (fun h => absurd h (by decide))
    refine px_aload_n (kk := 0) rfl rfl rfl ?_
    refine px_iload_n (kk := 1) rfl rfl rfl ?_
    refine px_putI rfl gS_49 rfl rfl ?_
    refine px_aload_n (kk := 0) rfl rfl rfl ?_
    refine px_aload_n (kk := 0) rfl rfl rfl ?_
    refine px_getR (r := 50) rfl gS_49 rfl (gR_49_0 _) ?_
    refine px_iload_n (kk := 1) rfl rfl rfl ?_
    refine px_ialde (j := b) (v := nI 0) rfl gS_50 rfl (by omega) ((by rw [p_up_n _ _ (by decide), p_up_n _ _ (by decide)]; exact hk : va_up (va_up I 49 (va_up (I 49) 3 (nI 0))) 49 (va_up ((va_up I 49 (va_up (I 49) 3 (nI 0))) 49) 4 (nI b)) 50 b = nI 0)) ?_
    refine px_iload_n (kk := 2) rfl rfl rfl ?_
    refine px_iload_n (kk := 3) rfl rfl rfl ?_
    refine px_iconst (v := nI 0) rfl k_0 ?_
    refine px_callV0 CX0_runFrom [] [.int _, .int _, .int _, .int _] (vX0_rf_0_0_0 (I := va_up (va_up I 49 (va_up (I 49) 3 (nI 0))) 49 (va_up ((va_up I 49 (va_up (I 49) 3 (nI 0))) 49) 4 (nI b))) (nm := b) (by omega) (by rw [p_up_s, p_up_s]) (by rw [p_up_n _ _ (by decide), p_up_n _ _ (by decide)]; exact hk) hro (t := (I 51, 0)) ⟨Fr_rf, fun _ _ => rfl, by rw [p_up_s, p_up_n _ _ (by decide), p_up_s, p_up_s], by rw [p_up_n _ _ (by decide), p_up_n _ _ (by decide)]⟩ (show (0 : Nat) < _ from by decide) (by decide)) rfl gS_49 (by decide) rfl rfl rfl (Nat.le_of_ble_eq_true rfl) (by decide) ?_
    rintro _ _ - ⟨rfl, I2, rfl, hB2⟩
    refine px_ireturn rfl (.inl rfl) ?_
    refine ⟨rfl, I2, rfl, fun c hc => ?_, ?_, hB2.2.2.1, hB2.2.2.2⟩
    · rw [hB2.1 c hc, p_up_n _ _ (fun e => hc (by rw [e]; decide)), p_up_n _ _ (fun e => hc (by rw [e]; decide))]
    · rw [hB2.2.1 2 (by decide), p_up_s, p_up_n _ _ (by decide), p_up_s, p_up_n _ _ (by decide)]
  · exact absurd ⟨b, hb, rfl⟩ h
theorem vX0_perf_0_1 {I : Nat → Nat → Int32} {J : Nat → Nat → Int64} {p : Bool × Option Nat} {ro : List (Nat × Nat × (Nat → Int32))} {z : Nat} (hz : I 49 2 = nI z) (hz50 : z ≤ 50) {b : Nat} (hb : b < z) (hk : I 50 b = nI 0) (hro : RO ro) {x : Int32} : Pv 14 0 0 CX0_perform [.ref (49), .int (nI b), .int (nI 1), .int (x)] (gS, I, J, gR p, ro) (fun r S' => r = some (.int (sp_act 0 1 (nI b) x)) ∧ ∃ I', S' = (gS, I', J, gR p, ro) ∧ Fr [49, 51] I I' ∧ I' 49 2 = I 49 2 ∧ I' 49 3 = nI (sp_nts (I 51, 0) (sp_atr 0 1)).2 ∧ I' 51 = (sp_nts (I 51, 0) (sp_atr 0 1)).1) := by
  refine ⟨okCX0_perform, Nat.le_of_ble_eq_true rfl, (show Px _ _ _ _ 0 [some (.ref (49)), some (.int (nI b)), some (.int (nI 1)), some (.int (x))] [] _ _ from ?_)⟩
  refine px_aload_n (kk := 0) rfl rfl rfl ?_
  refine px_iconst (v := nI 0) rfl k_0 ?_
  refine px_putI rfl gS_49 rfl rfl ?_
  refine px_aload_n (kk := 0) rfl rfl rfl ?_
  refine px_iload_n (kk := 1) rfl rfl rfl ?_
  refine px_callV0 CX0_isBody [] [.int _] (vX0_isBody (by rw [p_up_s, p_up_n _ _ (by decide)]; exact hz) hz50) rfl gS_49 (by decide) rfl rfl rfl (Nat.le_of_ble_eq_true rfl) (by decide) ?_
  rintro _ _ - (⟨h, rfl, rfl⟩ | ⟨h, rfl, rfl⟩)
  · refine px_if_eq rfl (fun h => absurd h (by decide)) (fun _ => ?_)
    refine px_iload_n (kk := 2) rfl rfl rfl ?_
    refine px_if_lt rfl (fun h => absurd h (by decide)) (fun _ => ?_)
    refine px_iload_n (kk := 2) rfl rfl rfl ?_
    refine px_iconst (v := nI 4) rfl k_4 ?_
    refine px_icmp_lt rfl (fun _ => ?_) (fun h => absurd h (by decide))
    refine px_aload_n (kk := 0) rfl rfl rfl ?_
    refine px_iload_n (kk := 1) rfl rfl rfl ?_
    refine px_putI rfl gS_49 rfl rfl ?_
    refine px_aload_n (kk := 0) rfl rfl rfl ?_
    refine px_aload_n (kk := 0) rfl rfl rfl ?_
    refine px_getR (r := 50) rfl gS_49 rfl (gR_49_0 _) ?_
    refine px_iload_n (kk := 1) rfl rfl rfl ?_
    refine px_ialde (j := b) (v := nI 0) rfl gS_50 rfl (by omega) ((by rw [p_up_n _ _ (by decide), p_up_n _ _ (by decide)]; exact hk : va_up (va_up I 49 (va_up (I 49) 3 (nI 0))) 49 (va_up ((va_up I 49 (va_up (I 49) 3 (nI 0))) 49) 4 (nI b)) 50 b = nI 0)) ?_
    refine px_iload_n (kk := 2) rfl rfl rfl ?_
    refine px_iload_n (kk := 3) rfl rfl rfl ?_
    refine px_iconst (v := nI 0) rfl k_0 ?_
    refine px_callV0 CX0_runFrom [] [.int _, .int _, .int _, .int _] (vX0_rf_0_0_1 (I := va_up (va_up I 49 (va_up (I 49) 3 (nI 0))) 49 (va_up ((va_up I 49 (va_up (I 49) 3 (nI 0))) 49) 4 (nI b))) (nm := b) (by omega) (by rw [p_up_s, p_up_s]) (by rw [p_up_n _ _ (by decide), p_up_n _ _ (by decide)]; exact hk) hro (t := (I 51, 0)) ⟨Fr_rf, fun _ _ => rfl, by rw [p_up_s, p_up_n _ _ (by decide), p_up_s, p_up_s], by rw [p_up_n _ _ (by decide), p_up_n _ _ (by decide)]⟩ (show (0 : Nat) < _ from by decide) (by decide)) rfl gS_49 (by decide) rfl rfl rfl (Nat.le_of_ble_eq_true rfl) (by decide) ?_
    rintro _ _ - ⟨rfl, I2, rfl, hB2⟩
    refine px_ireturn rfl (.inl rfl) ?_
    refine ⟨rfl, I2, rfl, fun c hc => ?_, ?_, hB2.2.2.1, hB2.2.2.2⟩
    · rw [hB2.1 c hc, p_up_n _ _ (fun e => hc (by rw [e]; decide)), p_up_n _ _ (fun e => hc (by rw [e]; decide))]
    · rw [hB2.2.1 2 (by decide), p_up_s, p_up_n _ _ (by decide), p_up_s, p_up_n _ _ (by decide)]
  · exact absurd ⟨b, hb, rfl⟩ h
theorem vX0_perf_0_2 {I : Nat → Nat → Int32} {J : Nat → Nat → Int64} {p : Bool × Option Nat} {ro : List (Nat × Nat × (Nat → Int32))} {z : Nat} (hz : I 49 2 = nI z) (hz50 : z ≤ 50) {b : Nat} (hb : b < z) (hk : I 50 b = nI 0) (hro : RO ro) {x : Int32} : Pv 14 0 0 CX0_perform [.ref (49), .int (nI b), .int (nI 2), .int (x)] (gS, I, J, gR p, ro) (fun r S' => r = some (.int (sp_act 0 2 (nI b) x)) ∧ ∃ I', S' = (gS, I', J, gR p, ro) ∧ Fr [49, 51] I I' ∧ I' 49 2 = I 49 2 ∧ I' 49 3 = nI (sp_nts (I 51, 0) (sp_atr 0 2)).2 ∧ I' 51 = (sp_nts (I 51, 0) (sp_atr 0 2)).1) := by
  refine ⟨okCX0_perform, Nat.le_of_ble_eq_true rfl, (show Px _ _ _ _ 0 [some (.ref (49)), some (.int (nI b)), some (.int (nI 2)), some (.int (x))] [] _ _ from ?_)⟩
  refine px_aload_n (kk := 0) rfl rfl rfl ?_
  refine px_iconst (v := nI 0) rfl k_0 ?_
  refine px_putI rfl gS_49 rfl rfl ?_
  refine px_aload_n (kk := 0) rfl rfl rfl ?_
  refine px_iload_n (kk := 1) rfl rfl rfl ?_
  refine px_callV0 CX0_isBody [] [.int _] (vX0_isBody (by rw [p_up_s, p_up_n _ _ (by decide)]; exact hz) hz50) rfl gS_49 (by decide) rfl rfl rfl (Nat.le_of_ble_eq_true rfl) (by decide) ?_
  rintro _ _ - (⟨h, rfl, rfl⟩ | ⟨h, rfl, rfl⟩)
  · refine px_if_eq rfl (fun h => absurd h (by decide)) (fun _ => ?_)
    refine px_iload_n (kk := 2) rfl rfl rfl ?_
    refine px_if_lt rfl (fun h => absurd h (by decide)) (fun _ => ?_)
    refine px_iload_n (kk := 2) rfl rfl rfl ?_
    refine px_iconst (v := nI 4) rfl k_4 ?_
    refine px_icmp_lt rfl (fun _ => ?_) (fun h => absurd h (by decide))
    refine px_aload_n (kk := 0) rfl rfl rfl ?_
    refine px_iload_n (kk := 1) rfl rfl rfl ?_
    refine px_putI rfl gS_49 rfl rfl ?_
    refine px_aload_n (kk := 0) rfl rfl rfl ?_
    refine px_aload_n (kk := 0) rfl rfl rfl ?_
    refine px_getR (r := 50) rfl gS_49 rfl (gR_49_0 _) ?_
    refine px_iload_n (kk := 1) rfl rfl rfl ?_
    refine px_ialde (j := b) (v := nI 0) rfl gS_50 rfl (by omega) ((by rw [p_up_n _ _ (by decide), p_up_n _ _ (by decide)]; exact hk : va_up (va_up I 49 (va_up (I 49) 3 (nI 0))) 49 (va_up ((va_up I 49 (va_up (I 49) 3 (nI 0))) 49) 4 (nI b)) 50 b = nI 0)) ?_
    refine px_iload_n (kk := 2) rfl rfl rfl ?_
    refine px_iload_n (kk := 3) rfl rfl rfl ?_
    refine px_iconst (v := nI 0) rfl k_0 ?_
    refine px_callV0 CX0_runFrom [] [.int _, .int _, .int _, .int _] (vX0_rf_0_0_2 (I := va_up (va_up I 49 (va_up (I 49) 3 (nI 0))) 49 (va_up ((va_up I 49 (va_up (I 49) 3 (nI 0))) 49) 4 (nI b))) (nm := b) (by omega) (by rw [p_up_s, p_up_s]) (by rw [p_up_n _ _ (by decide), p_up_n _ _ (by decide)]; exact hk) hro (t := (I 51, 0)) ⟨Fr_rf, fun _ _ => rfl, by rw [p_up_s, p_up_n _ _ (by decide), p_up_s, p_up_s], by rw [p_up_n _ _ (by decide), p_up_n _ _ (by decide)]⟩ (show (0 : Nat) < _ from by decide) (by decide)) rfl gS_49 (by decide) rfl rfl rfl (Nat.le_of_ble_eq_true rfl) (by decide) ?_
    rintro _ _ - ⟨rfl, I2, rfl, hB2⟩
    refine px_ireturn rfl (.inl rfl) ?_
    refine ⟨rfl, I2, rfl, fun c hc => ?_, ?_, hB2.2.2.1, hB2.2.2.2⟩
    · rw [hB2.1 c hc, p_up_n _ _ (fun e => hc (by rw [e]; decide)), p_up_n _ _ (fun e => hc (by rw [e]; decide))]
    · rw [hB2.2.1 2 (by decide), p_up_s, p_up_n _ _ (by decide), p_up_s, p_up_n _ _ (by decide)]
  · exact absurd ⟨b, hb, rfl⟩ h
theorem vX0_perf_0_3 {I : Nat → Nat → Int32} {J : Nat → Nat → Int64} {p : Bool × Option Nat} {ro : List (Nat × Nat × (Nat → Int32))} {z : Nat} (hz : I 49 2 = nI z) (hz50 : z ≤ 50) {b : Nat} (hb : b < z) (hk : I 50 b = nI 0) (hro : RO ro) {x : Int32} : Pv 14 0 0 CX0_perform [.ref (49), .int (nI b), .int (nI 3), .int (x)] (gS, I, J, gR p, ro) (fun r S' => r = some (.int (sp_act 0 3 (nI b) x)) ∧ ∃ I', S' = (gS, I', J, gR p, ro) ∧ Fr [49, 51] I I' ∧ I' 49 2 = I 49 2 ∧ I' 49 3 = nI (sp_nts (I 51, 0) (sp_atr 0 3)).2 ∧ I' 51 = (sp_nts (I 51, 0) (sp_atr 0 3)).1) := by
  refine ⟨okCX0_perform, Nat.le_of_ble_eq_true rfl, (show Px _ _ _ _ 0 [some (.ref (49)), some (.int (nI b)), some (.int (nI 3)), some (.int (x))] [] _ _ from ?_)⟩
  refine px_aload_n (kk := 0) rfl rfl rfl ?_
  refine px_iconst (v := nI 0) rfl k_0 ?_
  refine px_putI rfl gS_49 rfl rfl ?_
  refine px_aload_n (kk := 0) rfl rfl rfl ?_
  refine px_iload_n (kk := 1) rfl rfl rfl ?_
  refine px_callV0 CX0_isBody [] [.int _] (vX0_isBody (by rw [p_up_s, p_up_n _ _ (by decide)]; exact hz) hz50) rfl gS_49 (by decide) rfl rfl rfl (Nat.le_of_ble_eq_true rfl) (by decide) ?_
  rintro _ _ - (⟨h, rfl, rfl⟩ | ⟨h, rfl, rfl⟩)
  · refine px_if_eq rfl (fun h => absurd h (by decide)) (fun _ => ?_)
    refine px_iload_n (kk := 2) rfl rfl rfl ?_
    refine px_if_lt rfl (fun h => absurd h (by decide)) (fun _ => ?_)
    refine px_iload_n (kk := 2) rfl rfl rfl ?_
    refine px_iconst (v := nI 4) rfl k_4 ?_
    refine px_icmp_lt rfl (fun _ => ?_) (fun h => absurd h (by decide))
    refine px_aload_n (kk := 0) rfl rfl rfl ?_
    refine px_iload_n (kk := 1) rfl rfl rfl ?_
    refine px_putI rfl gS_49 rfl rfl ?_
    refine px_aload_n (kk := 0) rfl rfl rfl ?_
    refine px_aload_n (kk := 0) rfl rfl rfl ?_
    refine px_getR (r := 50) rfl gS_49 rfl (gR_49_0 _) ?_
    refine px_iload_n (kk := 1) rfl rfl rfl ?_
    refine px_ialde (j := b) (v := nI 0) rfl gS_50 rfl (by omega) ((by rw [p_up_n _ _ (by decide), p_up_n _ _ (by decide)]; exact hk : va_up (va_up I 49 (va_up (I 49) 3 (nI 0))) 49 (va_up ((va_up I 49 (va_up (I 49) 3 (nI 0))) 49) 4 (nI b)) 50 b = nI 0)) ?_
    refine px_iload_n (kk := 2) rfl rfl rfl ?_
    refine px_iload_n (kk := 3) rfl rfl rfl ?_
    refine px_iconst (v := nI 0) rfl k_0 ?_
    refine px_callV0 CX0_runFrom [] [.int _, .int _, .int _, .int _] (vX0_rf_0_0_3 (I := va_up (va_up I 49 (va_up (I 49) 3 (nI 0))) 49 (va_up ((va_up I 49 (va_up (I 49) 3 (nI 0))) 49) 4 (nI b))) (nm := b) (by omega) (by rw [p_up_s, p_up_s]) (by rw [p_up_n _ _ (by decide), p_up_n _ _ (by decide)]; exact hk) hro (t := (I 51, 0)) ⟨Fr_rf, fun _ _ => rfl, by rw [p_up_s, p_up_n _ _ (by decide), p_up_s, p_up_s], by rw [p_up_n _ _ (by decide), p_up_n _ _ (by decide)]⟩ (show (0 : Nat) < _ from by decide) (by decide)) rfl gS_49 (by decide) rfl rfl rfl (Nat.le_of_ble_eq_true rfl) (by decide) ?_
    rintro _ _ - ⟨rfl, I2, rfl, hB2⟩
    refine px_ireturn rfl (.inl rfl) ?_
    refine ⟨rfl, I2, rfl, fun c hc => ?_, ?_, hB2.2.2.1, hB2.2.2.2⟩
    · rw [hB2.1 c hc, p_up_n _ _ (fun e => hc (by rw [e]; decide)), p_up_n _ _ (fun e => hc (by rw [e]; decide))]
    · rw [hB2.2.1 2 (by decide), p_up_s, p_up_n _ _ (by decide), p_up_s, p_up_n _ _ (by decide)]
  · exact absurd ⟨b, hb, rfl⟩ h
theorem vX0_perf_1_0 {I : Nat → Nat → Int32} {J : Nat → Nat → Int64} {p : Bool × Option Nat} {ro : List (Nat × Nat × (Nat → Int32))} {z : Nat} (hz : I 49 2 = nI z) (hz50 : z ≤ 50) {b : Nat} (hb : b < z) (hk : I 50 b = nI 1) (hro : RO ro) {x : Int32} : Pv 14 0 0 CX0_perform [.ref (49), .int (nI b), .int (nI 0), .int (x)] (gS, I, J, gR p, ro) (fun r S' => r = some (.int (sp_act 1 0 (nI b) x)) ∧ ∃ I', S' = (gS, I', J, gR p, ro) ∧ Fr [49, 51] I I' ∧ I' 49 2 = I 49 2 ∧ I' 49 3 = nI (sp_nts (I 51, 0) (sp_atr 1 0)).2 ∧ I' 51 = (sp_nts (I 51, 0) (sp_atr 1 0)).1) := by
  refine ⟨okCX0_perform, Nat.le_of_ble_eq_true rfl, (show Px _ _ _ _ 0 [some (.ref (49)), some (.int (nI b)), some (.int (nI 0)), some (.int (x))] [] _ _ from ?_)⟩
  refine px_aload_n (kk := 0) rfl rfl rfl ?_
  refine px_iconst (v := nI 0) rfl k_0 ?_
  refine px_putI rfl gS_49 rfl rfl ?_
  refine px_aload_n (kk := 0) rfl rfl rfl ?_
  refine px_iload_n (kk := 1) rfl rfl rfl ?_
  refine px_callV0 CX0_isBody [] [.int _] (vX0_isBody (by rw [p_up_s, p_up_n _ _ (by decide)]; exact hz) hz50) rfl gS_49 (by decide) rfl rfl rfl (Nat.le_of_ble_eq_true rfl) (by decide) ?_
  rintro _ _ - (⟨h, rfl, rfl⟩ | ⟨h, rfl, rfl⟩)
  · refine px_if_eq rfl (fun h => absurd h (by decide)) (fun _ => ?_)
    refine px_iload_n (kk := 2) rfl rfl rfl ?_
    refine px_if_lt rfl (fun h => absurd h (by decide)) (fun _ => ?_)
    refine px_iload_n (kk := 2) rfl rfl rfl ?_
    refine px_iconst (v := nI 4) rfl k_4 ?_
    refine px_icmp_lt rfl (fun _ => ?_) (fun h => absurd h (by decide))
    refine px_aload_n (kk := 0) rfl rfl rfl ?_
    refine px_iload_n (kk := 1) rfl rfl rfl ?_
    refine px_putI rfl gS_49 rfl rfl ?_
    refine px_aload_n (kk := 0) rfl rfl rfl ?_
    refine px_aload_n (kk := 0) rfl rfl rfl ?_
    refine px_getR (r := 50) rfl gS_49 rfl (gR_49_0 _) ?_
    refine px_iload_n (kk := 1) rfl rfl rfl ?_
    refine px_ialde (j := b) (v := nI 1) rfl gS_50 rfl (by omega) ((by rw [p_up_n _ _ (by decide), p_up_n _ _ (by decide)]; exact hk : va_up (va_up I 49 (va_up (I 49) 3 (nI 0))) 49 (va_up ((va_up I 49 (va_up (I 49) 3 (nI 0))) 49) 4 (nI b)) 50 b = nI 1)) ?_
    refine px_iload_n (kk := 2) rfl rfl rfl ?_
    refine px_iload_n (kk := 3) rfl rfl rfl ?_
    refine px_iconst (v := nI 0) rfl k_0 ?_
    refine px_callV0 CX0_runFrom [] [.int _, .int _, .int _, .int _] (vX0_rf_1_1_0 (I := va_up (va_up I 49 (va_up (I 49) 3 (nI 0))) 49 (va_up ((va_up I 49 (va_up (I 49) 3 (nI 0))) 49) 4 (nI b))) (nm := b) (by omega) (by rw [p_up_s, p_up_s]) (by rw [p_up_n _ _ (by decide), p_up_n _ _ (by decide)]; exact hk) hro (t := (I 51, 0)) ⟨Fr_rf, fun _ _ => rfl, by rw [p_up_s, p_up_n _ _ (by decide), p_up_s, p_up_s], by rw [p_up_n _ _ (by decide), p_up_n _ _ (by decide)]⟩ (show (0 : Nat) < _ from by decide) (by decide)) rfl gS_49 (by decide) rfl rfl rfl (Nat.le_of_ble_eq_true rfl) (by decide) ?_
    rintro _ _ - ⟨rfl, I2, rfl, hB2⟩
    refine px_ireturn rfl (.inl rfl) ?_
    refine ⟨rfl, I2, rfl, fun c hc => ?_, ?_, hB2.2.2.1, hB2.2.2.2⟩
    · rw [hB2.1 c hc, p_up_n _ _ (fun e => hc (by rw [e]; decide)), p_up_n _ _ (fun e => hc (by rw [e]; decide))]
    · rw [hB2.2.1 2 (by decide), p_up_s, p_up_n _ _ (by decide), p_up_s, p_up_n _ _ (by decide)]
  · exact absurd ⟨b, hb, rfl⟩ h
theorem vX0_perf_1_1 {I : Nat → Nat → Int32} {J : Nat → Nat → Int64} {p : Bool × Option Nat} {ro : List (Nat × Nat × (Nat → Int32))} {z : Nat} (hz : I 49 2 = nI z) (hz50 : z ≤ 50) {b : Nat} (hb : b < z) (hk : I 50 b = nI 1) (hro : RO ro) {x : Int32} : Pv 14 0 0 CX0_perform [.ref (49), .int (nI b), .int (nI 1), .int (x)] (gS, I, J, gR p, ro) (fun r S' => r = some (.int (sp_act 1 1 (nI b) x)) ∧ ∃ I', S' = (gS, I', J, gR p, ro) ∧ Fr [49, 51] I I' ∧ I' 49 2 = I 49 2 ∧ I' 49 3 = nI (sp_nts (I 51, 0) (sp_atr 1 1)).2 ∧ I' 51 = (sp_nts (I 51, 0) (sp_atr 1 1)).1) := by
  refine ⟨okCX0_perform, Nat.le_of_ble_eq_true rfl, (show Px _ _ _ _ 0 [some (.ref (49)), some (.int (nI b)), some (.int (nI 1)), some (.int (x))] [] _ _ from ?_)⟩
  refine px_aload_n (kk := 0) rfl rfl rfl ?_
  refine px_iconst (v := nI 0) rfl k_0 ?_
  refine px_putI rfl gS_49 rfl rfl ?_
  refine px_aload_n (kk := 0) rfl rfl rfl ?_
  refine px_iload_n (kk := 1) rfl rfl rfl ?_
  refine px_callV0 CX0_isBody [] [.int _] (vX0_isBody (by rw [p_up_s, p_up_n _ _ (by decide)]; exact hz) hz50) rfl gS_49 (by decide) rfl rfl rfl (Nat.le_of_ble_eq_true rfl) (by decide) ?_
  rintro _ _ - (⟨h, rfl, rfl⟩ | ⟨h, rfl, rfl⟩)
  · refine px_if_eq rfl (fun h => absurd h (by decide)) (fun _ => ?_)
    refine px_iload_n (kk := 2) rfl rfl rfl ?_
    refine px_if_lt rfl (fun h => absurd h (by decide)) (fun _ => ?_)
    refine px_iload_n (kk := 2) rfl rfl rfl ?_
    refine px_iconst (v := nI 4) rfl k_4 ?_
    refine px_icmp_lt rfl (fun _ => ?_) (fun h => absurd h (by decide))
    refine px_aload_n (kk := 0) rfl rfl rfl ?_
    refine px_iload_n (kk := 1) rfl rfl rfl ?_
    refine px_putI rfl gS_49 rfl rfl ?_
    refine px_aload_n (kk := 0) rfl rfl rfl ?_
    refine px_aload_n (kk := 0) rfl rfl rfl ?_
    refine px_getR (r := 50) rfl gS_49 rfl (gR_49_0 _) ?_
    refine px_iload_n (kk := 1) rfl rfl rfl ?_
    refine px_ialde (j := b) (v := nI 1) rfl gS_50 rfl (by omega) ((by rw [p_up_n _ _ (by decide), p_up_n _ _ (by decide)]; exact hk : va_up (va_up I 49 (va_up (I 49) 3 (nI 0))) 49 (va_up ((va_up I 49 (va_up (I 49) 3 (nI 0))) 49) 4 (nI b)) 50 b = nI 1)) ?_
    refine px_iload_n (kk := 2) rfl rfl rfl ?_
    refine px_iload_n (kk := 3) rfl rfl rfl ?_
    refine px_iconst (v := nI 0) rfl k_0 ?_
    refine px_callV0 CX0_runFrom [] [.int _, .int _, .int _, .int _] (vX0_rf_1_1_1 (I := va_up (va_up I 49 (va_up (I 49) 3 (nI 0))) 49 (va_up ((va_up I 49 (va_up (I 49) 3 (nI 0))) 49) 4 (nI b))) (nm := b) (by omega) (by rw [p_up_s, p_up_s]) (by rw [p_up_n _ _ (by decide), p_up_n _ _ (by decide)]; exact hk) hro (t := (I 51, 0)) ⟨Fr_rf, fun _ _ => rfl, by rw [p_up_s, p_up_n _ _ (by decide), p_up_s, p_up_s], by rw [p_up_n _ _ (by decide), p_up_n _ _ (by decide)]⟩ (show (0 : Nat) < _ from by decide) (by decide)) rfl gS_49 (by decide) rfl rfl rfl (Nat.le_of_ble_eq_true rfl) (by decide) ?_
    rintro _ _ - ⟨rfl, I2, rfl, hB2⟩
    refine px_ireturn rfl (.inl rfl) ?_
    refine ⟨rfl, I2, rfl, fun c hc => ?_, ?_, hB2.2.2.1, hB2.2.2.2⟩
    · rw [hB2.1 c hc, p_up_n _ _ (fun e => hc (by rw [e]; decide)), p_up_n _ _ (fun e => hc (by rw [e]; decide))]
    · rw [hB2.2.1 2 (by decide), p_up_s, p_up_n _ _ (by decide), p_up_s, p_up_n _ _ (by decide)]
  · exact absurd ⟨b, hb, rfl⟩ h
theorem vX0_perf_1_2 {I : Nat → Nat → Int32} {J : Nat → Nat → Int64} {p : Bool × Option Nat} {ro : List (Nat × Nat × (Nat → Int32))} {z : Nat} (hz : I 49 2 = nI z) (hz50 : z ≤ 50) {b : Nat} (hb : b < z) (hk : I 50 b = nI 1) (hro : RO ro) {x : Int32} : Pv 14 0 0 CX0_perform [.ref (49), .int (nI b), .int (nI 2), .int (x)] (gS, I, J, gR p, ro) (fun r S' => r = some (.int (sp_act 1 2 (nI b) x)) ∧ ∃ I', S' = (gS, I', J, gR p, ro) ∧ Fr [49, 51] I I' ∧ I' 49 2 = I 49 2 ∧ I' 49 3 = nI (sp_nts (I 51, 0) (sp_atr 1 2)).2 ∧ I' 51 = (sp_nts (I 51, 0) (sp_atr 1 2)).1) := by
  refine ⟨okCX0_perform, Nat.le_of_ble_eq_true rfl, (show Px _ _ _ _ 0 [some (.ref (49)), some (.int (nI b)), some (.int (nI 2)), some (.int (x))] [] _ _ from ?_)⟩
  refine px_aload_n (kk := 0) rfl rfl rfl ?_
  refine px_iconst (v := nI 0) rfl k_0 ?_
  refine px_putI rfl gS_49 rfl rfl ?_
  refine px_aload_n (kk := 0) rfl rfl rfl ?_
  refine px_iload_n (kk := 1) rfl rfl rfl ?_
  refine px_callV0 CX0_isBody [] [.int _] (vX0_isBody (by rw [p_up_s, p_up_n _ _ (by decide)]; exact hz) hz50) rfl gS_49 (by decide) rfl rfl rfl (Nat.le_of_ble_eq_true rfl) (by decide) ?_
  rintro _ _ - (⟨h, rfl, rfl⟩ | ⟨h, rfl, rfl⟩)
  · refine px_if_eq rfl (fun h => absurd h (by decide)) (fun _ => ?_)
    refine px_iload_n (kk := 2) rfl rfl rfl ?_
    refine px_if_lt rfl (fun h => absurd h (by decide)) (fun _ => ?_)
    refine px_iload_n (kk := 2) rfl rfl rfl ?_
    refine px_iconst (v := nI 4) rfl k_4 ?_
    refine px_icmp_lt rfl (fun _ => ?_) (fun h => absurd h (by decide))
    refine px_aload_n (kk := 0) rfl rfl rfl ?_
    refine px_iload_n (kk := 1) rfl rfl rfl ?_
    refine px_putI rfl gS_49 rfl rfl ?_
    refine px_aload_n (kk := 0) rfl rfl rfl ?_
    refine px_aload_n (kk := 0) rfl rfl rfl ?_
    refine px_getR (r := 50) rfl gS_49 rfl (gR_49_0 _) ?_
    refine px_iload_n (kk := 1) rfl rfl rfl ?_
    refine px_ialde (j := b) (v := nI 1) rfl gS_50 rfl (by omega) ((by rw [p_up_n _ _ (by decide), p_up_n _ _ (by decide)]; exact hk : va_up (va_up I 49 (va_up (I 49) 3 (nI 0))) 49 (va_up ((va_up I 49 (va_up (I 49) 3 (nI 0))) 49) 4 (nI b)) 50 b = nI 1)) ?_
    refine px_iload_n (kk := 2) rfl rfl rfl ?_
    refine px_iload_n (kk := 3) rfl rfl rfl ?_
    refine px_iconst (v := nI 0) rfl k_0 ?_
    refine px_callV0 CX0_runFrom [] [.int _, .int _, .int _, .int _] (vX0_rf_1_1_2 (I := va_up (va_up I 49 (va_up (I 49) 3 (nI 0))) 49 (va_up ((va_up I 49 (va_up (I 49) 3 (nI 0))) 49) 4 (nI b))) (nm := b) (by omega) (by rw [p_up_s, p_up_s]) (by rw [p_up_n _ _ (by decide), p_up_n _ _ (by decide)]; exact hk) hro (t := (I 51, 0)) ⟨Fr_rf, fun _ _ => rfl, by rw [p_up_s, p_up_n _ _ (by decide), p_up_s, p_up_s], by rw [p_up_n _ _ (by decide), p_up_n _ _ (by decide)]⟩ (show (0 : Nat) < _ from by decide) (by decide)) rfl gS_49 (by decide) rfl rfl rfl (Nat.le_of_ble_eq_true rfl) (by decide) ?_
    rintro _ _ - ⟨rfl, I2, rfl, hB2⟩
    refine px_ireturn rfl (.inl rfl) ?_
    refine ⟨rfl, I2, rfl, fun c hc => ?_, ?_, hB2.2.2.1, hB2.2.2.2⟩
    · rw [hB2.1 c hc, p_up_n _ _ (fun e => hc (by rw [e]; decide)), p_up_n _ _ (fun e => hc (by rw [e]; decide))]
    · rw [hB2.2.1 2 (by decide), p_up_s, p_up_n _ _ (by decide), p_up_s, p_up_n _ _ (by decide)]
  · exact absurd ⟨b, hb, rfl⟩ h
theorem vX0_perf_1_3 {I : Nat → Nat → Int32} {J : Nat → Nat → Int64} {p : Bool × Option Nat} {ro : List (Nat × Nat × (Nat → Int32))} {z : Nat} (hz : I 49 2 = nI z) (hz50 : z ≤ 50) {b : Nat} (hb : b < z) (hk : I 50 b = nI 1) (hro : RO ro) {x : Int32} : Pv 14 0 0 CX0_perform [.ref (49), .int (nI b), .int (nI 3), .int (x)] (gS, I, J, gR p, ro) (fun r S' => r = some (.int (sp_act 1 3 (nI b) x)) ∧ ∃ I', S' = (gS, I', J, gR p, ro) ∧ Fr [49, 51] I I' ∧ I' 49 2 = I 49 2 ∧ I' 49 3 = nI (sp_nts (I 51, 0) (sp_atr 1 3)).2 ∧ I' 51 = (sp_nts (I 51, 0) (sp_atr 1 3)).1) := by
  refine ⟨okCX0_perform, Nat.le_of_ble_eq_true rfl, (show Px _ _ _ _ 0 [some (.ref (49)), some (.int (nI b)), some (.int (nI 3)), some (.int (x))] [] _ _ from ?_)⟩
  refine px_aload_n (kk := 0) rfl rfl rfl ?_
  refine px_iconst (v := nI 0) rfl k_0 ?_
  refine px_putI rfl gS_49 rfl rfl ?_
  refine px_aload_n (kk := 0) rfl rfl rfl ?_
  refine px_iload_n (kk := 1) rfl rfl rfl ?_
  refine px_callV0 CX0_isBody [] [.int _] (vX0_isBody (by rw [p_up_s, p_up_n _ _ (by decide)]; exact hz) hz50) rfl gS_49 (by decide) rfl rfl rfl (Nat.le_of_ble_eq_true rfl) (by decide) ?_
  rintro _ _ - (⟨h, rfl, rfl⟩ | ⟨h, rfl, rfl⟩)
  · refine px_if_eq rfl (fun h => absurd h (by decide)) (fun _ => ?_)
    refine px_iload_n (kk := 2) rfl rfl rfl ?_
    refine px_if_lt rfl (fun h => absurd h (by decide)) (fun _ => ?_)
    refine px_iload_n (kk := 2) rfl rfl rfl ?_
    refine px_iconst (v := nI 4) rfl k_4 ?_
    refine px_icmp_lt rfl (fun _ => ?_) (fun h => absurd h (by decide))
    refine px_aload_n (kk := 0) rfl rfl rfl ?_
    refine px_iload_n (kk := 1) rfl rfl rfl ?_
    refine px_putI rfl gS_49 rfl rfl ?_
    refine px_aload_n (kk := 0) rfl rfl rfl ?_
    refine px_aload_n (kk := 0) rfl rfl rfl ?_
    refine px_getR (r := 50) rfl gS_49 rfl (gR_49_0 _) ?_
    refine px_iload_n (kk := 1) rfl rfl rfl ?_
    refine px_ialde (j := b) (v := nI 1) rfl gS_50 rfl (by omega) ((by rw [p_up_n _ _ (by decide), p_up_n _ _ (by decide)]; exact hk : va_up (va_up I 49 (va_up (I 49) 3 (nI 0))) 49 (va_up ((va_up I 49 (va_up (I 49) 3 (nI 0))) 49) 4 (nI b)) 50 b = nI 1)) ?_
    refine px_iload_n (kk := 2) rfl rfl rfl ?_
    refine px_iload_n (kk := 3) rfl rfl rfl ?_
    refine px_iconst (v := nI 0) rfl k_0 ?_
    refine px_callV0 CX0_runFrom [] [.int _, .int _, .int _, .int _] (vX0_rf_1_1_3 (I := va_up (va_up I 49 (va_up (I 49) 3 (nI 0))) 49 (va_up ((va_up I 49 (va_up (I 49) 3 (nI 0))) 49) 4 (nI b))) (nm := b) (by omega) (by rw [p_up_s, p_up_s]) (by rw [p_up_n _ _ (by decide), p_up_n _ _ (by decide)]; exact hk) hro (t := (I 51, 0)) ⟨Fr_rf, fun _ _ => rfl, by rw [p_up_s, p_up_n _ _ (by decide), p_up_s, p_up_s], by rw [p_up_n _ _ (by decide), p_up_n _ _ (by decide)]⟩ (show (0 : Nat) < _ from by decide) (by decide)) rfl gS_49 (by decide) rfl rfl rfl (Nat.le_of_ble_eq_true rfl) (by decide) ?_
    rintro _ _ - ⟨rfl, I2, rfl, hB2⟩
    refine px_ireturn rfl (.inl rfl) ?_
    refine ⟨rfl, I2, rfl, fun c hc => ?_, ?_, hB2.2.2.1, hB2.2.2.2⟩
    · rw [hB2.1 c hc, p_up_n _ _ (fun e => hc (by rw [e]; decide)), p_up_n _ _ (fun e => hc (by rw [e]; decide))]
    · rw [hB2.2.1 2 (by decide), p_up_s, p_up_n _ _ (by decide), p_up_s, p_up_n _ _ (by decide)]
  · exact absurd ⟨b, hb, rfl⟩ h
theorem vX0_perf_2_0 {I : Nat → Nat → Int32} {J : Nat → Nat → Int64} {p : Bool × Option Nat} {ro : List (Nat × Nat × (Nat → Int32))} {z : Nat} (hz : I 49 2 = nI z) (hz50 : z ≤ 50) {b : Nat} (hb : b < z) (hk : I 50 b = nI 2) (hro : RO ro) {x : Int32} : Pv 14 0 0 CX0_perform [.ref (49), .int (nI b), .int (nI 0), .int (x)] (gS, I, J, gR p, ro) (fun r S' => r = some (.int (sp_act 2 0 (nI b) x)) ∧ ∃ I', S' = (gS, I', J, gR p, ro) ∧ Fr [49, 51] I I' ∧ I' 49 2 = I 49 2 ∧ I' 49 3 = nI (sp_nts (I 51, 0) (sp_atr 2 0)).2 ∧ I' 51 = (sp_nts (I 51, 0) (sp_atr 2 0)).1) := by
  refine ⟨okCX0_perform, Nat.le_of_ble_eq_true rfl, (show Px _ _ _ _ 0 [some (.ref (49)), some (.int (nI b)), some (.int (nI 0)), some (.int (x))] [] _ _ from ?_)⟩
  refine px_aload_n (kk := 0) rfl rfl rfl ?_
  refine px_iconst (v := nI 0) rfl k_0 ?_
  refine px_putI rfl gS_49 rfl rfl ?_
  refine px_aload_n (kk := 0) rfl rfl rfl ?_
  refine px_iload_n (kk := 1) rfl rfl rfl ?_
  refine px_callV0 CX0_isBody [] [.int _] (vX0_isBody (by rw [p_up_s, p_up_n _ _ (by decide)]; exact hz) hz50) rfl gS_49 (by decide) rfl rfl rfl (Nat.le_of_ble_eq_true rfl) (by decide) ?_
  rintro _ _ - (⟨h, rfl, rfl⟩ | ⟨h, rfl, rfl⟩)
  · refine px_if_eq rfl (fun h => absurd h (by decide)) (fun _ => ?_)
    refine px_iload_n (kk := 2) rfl rfl rfl ?_
    refine px_if_lt rfl (fun h => absurd h (by decide)) (fun _ => ?_)
    refine px_iload_n (kk := 2) rfl rfl rfl ?_
    refine px_iconst (v := nI 4) rfl k_4 ?_
    refine px_icmp_lt rfl (fun _ => ?_) (fun h => absurd h (by decide))
    refine px_aload_n (kk := 0) rfl rfl rfl ?_
    refine px_iload_n (kk := 1) rfl rfl rfl ?_
    refine px_putI rfl gS_49 rfl rfl ?_
    refine px_aload_n (kk := 0) rfl rfl rfl ?_
    refine px_aload_n (kk := 0) rfl rfl rfl ?_
    refine px_getR (r := 50) rfl gS_49 rfl (gR_49_0 _) ?_
    refine px_iload_n (kk := 1) rfl rfl rfl ?_
    refine px_ialde (j := b) (v := nI 2) rfl gS_50 rfl (by omega) ((by rw [p_up_n _ _ (by decide), p_up_n _ _ (by decide)]; exact hk : va_up (va_up I 49 (va_up (I 49) 3 (nI 0))) 49 (va_up ((va_up I 49 (va_up (I 49) 3 (nI 0))) 49) 4 (nI b)) 50 b = nI 2)) ?_
    refine px_iload_n (kk := 2) rfl rfl rfl ?_
    refine px_iload_n (kk := 3) rfl rfl rfl ?_
    refine px_iconst (v := nI 0) rfl k_0 ?_
    refine px_callV0 CX0_runFrom [] [.int _, .int _, .int _, .int _] (vX0_rf_2_2_0 (I := va_up (va_up I 49 (va_up (I 49) 3 (nI 0))) 49 (va_up ((va_up I 49 (va_up (I 49) 3 (nI 0))) 49) 4 (nI b))) (nm := b) (by omega) (by rw [p_up_s, p_up_s]) (by rw [p_up_n _ _ (by decide), p_up_n _ _ (by decide)]; exact hk) hro (t := (I 51, 0)) ⟨Fr_rf, fun _ _ => rfl, by rw [p_up_s, p_up_n _ _ (by decide), p_up_s, p_up_s], by rw [p_up_n _ _ (by decide), p_up_n _ _ (by decide)]⟩ (show (0 : Nat) < _ from by decide) (by decide)) rfl gS_49 (by decide) rfl rfl rfl (Nat.le_of_ble_eq_true rfl) (by decide) ?_
    rintro _ _ - ⟨rfl, I2, rfl, hB2⟩
    refine px_ireturn rfl (.inl rfl) ?_
    refine ⟨rfl, I2, rfl, fun c hc => ?_, ?_, hB2.2.2.1, hB2.2.2.2⟩
    · rw [hB2.1 c hc, p_up_n _ _ (fun e => hc (by rw [e]; decide)), p_up_n _ _ (fun e => hc (by rw [e]; decide))]
    · rw [hB2.2.1 2 (by decide), p_up_s, p_up_n _ _ (by decide), p_up_s, p_up_n _ _ (by decide)]
  · exact absurd ⟨b, hb, rfl⟩ h
theorem vX0_perf_2_1 {I : Nat → Nat → Int32} {J : Nat → Nat → Int64} {p : Bool × Option Nat} {ro : List (Nat × Nat × (Nat → Int32))} {z : Nat} (hz : I 49 2 = nI z) (hz50 : z ≤ 50) {b : Nat} (hb : b < z) (hk : I 50 b = nI 2) (hro : RO ro) {x : Int32} : Pv 14 0 0 CX0_perform [.ref (49), .int (nI b), .int (nI 1), .int (x)] (gS, I, J, gR p, ro) (fun r S' => r = some (.int (sp_act 2 1 (nI b) x)) ∧ ∃ I', S' = (gS, I', J, gR p, ro) ∧ Fr [49, 51] I I' ∧ I' 49 2 = I 49 2 ∧ I' 49 3 = nI (sp_nts (I 51, 0) (sp_atr 2 1)).2 ∧ I' 51 = (sp_nts (I 51, 0) (sp_atr 2 1)).1) := by
  refine ⟨okCX0_perform, Nat.le_of_ble_eq_true rfl, (show Px _ _ _ _ 0 [some (.ref (49)), some (.int (nI b)), some (.int (nI 1)), some (.int (x))] [] _ _ from ?_)⟩
  refine px_aload_n (kk := 0) rfl rfl rfl ?_
  refine px_iconst (v := nI 0) rfl k_0 ?_
  refine px_putI rfl gS_49 rfl rfl ?_
  refine px_aload_n (kk := 0) rfl rfl rfl ?_
  refine px_iload_n (kk := 1) rfl rfl rfl ?_
  refine px_callV0 CX0_isBody [] [.int _] (vX0_isBody (by rw [p_up_s, p_up_n _ _ (by decide)]; exact hz) hz50) rfl gS_49 (by decide) rfl rfl rfl (Nat.le_of_ble_eq_true rfl) (by decide) ?_
  rintro _ _ - (⟨h, rfl, rfl⟩ | ⟨h, rfl, rfl⟩)
  · refine px_if_eq rfl (fun h => absurd h (by decide)) (fun _ => ?_)
    refine px_iload_n (kk := 2) rfl rfl rfl ?_
    refine px_if_lt rfl (fun h => absurd h (by decide)) (fun _ => ?_)
    refine px_iload_n (kk := 2) rfl rfl rfl ?_
    refine px_iconst (v := nI 4) rfl k_4 ?_
    refine px_icmp_lt rfl (fun _ => ?_) (fun h => absurd h (by decide))
    refine px_aload_n (kk := 0) rfl rfl rfl ?_
    refine px_iload_n (kk := 1) rfl rfl rfl ?_
    refine px_putI rfl gS_49 rfl rfl ?_
    refine px_aload_n (kk := 0) rfl rfl rfl ?_
    refine px_aload_n (kk := 0) rfl rfl rfl ?_
    refine px_getR (r := 50) rfl gS_49 rfl (gR_49_0 _) ?_
    refine px_iload_n (kk := 1) rfl rfl rfl ?_
    refine px_ialde (j := b) (v := nI 2) rfl gS_50 rfl (by omega) ((by rw [p_up_n _ _ (by decide), p_up_n _ _ (by decide)]; exact hk : va_up (va_up I 49 (va_up (I 49) 3 (nI 0))) 49 (va_up ((va_up I 49 (va_up (I 49) 3 (nI 0))) 49) 4 (nI b)) 50 b = nI 2)) ?_
    refine px_iload_n (kk := 2) rfl rfl rfl ?_
    refine px_iload_n (kk := 3) rfl rfl rfl ?_
    refine px_iconst (v := nI 0) rfl k_0 ?_
    refine px_callV0 CX0_runFrom [] [.int _, .int _, .int _, .int _] (vX0_rf_2_2_1 (I := va_up (va_up I 49 (va_up (I 49) 3 (nI 0))) 49 (va_up ((va_up I 49 (va_up (I 49) 3 (nI 0))) 49) 4 (nI b))) (nm := b) (by omega) (by rw [p_up_s, p_up_s]) (by rw [p_up_n _ _ (by decide), p_up_n _ _ (by decide)]; exact hk) hro (t := (I 51, 0)) ⟨Fr_rf, fun _ _ => rfl, by rw [p_up_s, p_up_n _ _ (by decide), p_up_s, p_up_s], by rw [p_up_n _ _ (by decide), p_up_n _ _ (by decide)]⟩ (show (0 : Nat) < _ from by decide) (by decide)) rfl gS_49 (by decide) rfl rfl rfl (Nat.le_of_ble_eq_true rfl) (by decide) ?_
    rintro _ _ - ⟨rfl, I2, rfl, hB2⟩
    refine px_ireturn rfl (.inl rfl) ?_
    refine ⟨rfl, I2, rfl, fun c hc => ?_, ?_, hB2.2.2.1, hB2.2.2.2⟩
    · rw [hB2.1 c hc, p_up_n _ _ (fun e => hc (by rw [e]; decide)), p_up_n _ _ (fun e => hc (by rw [e]; decide))]
    · rw [hB2.2.1 2 (by decide), p_up_s, p_up_n _ _ (by decide), p_up_s, p_up_n _ _ (by decide)]
  · exact absurd ⟨b, hb, rfl⟩ h
theorem vX0_perf_2_2 {I : Nat → Nat → Int32} {J : Nat → Nat → Int64} {p : Bool × Option Nat} {ro : List (Nat × Nat × (Nat → Int32))} {z : Nat} (hz : I 49 2 = nI z) (hz50 : z ≤ 50) {b : Nat} (hb : b < z) (hk : I 50 b = nI 2) (hro : RO ro) {x : Int32} : Pv 14 0 0 CX0_perform [.ref (49), .int (nI b), .int (nI 2), .int (x)] (gS, I, J, gR p, ro) (fun r S' => r = some (.int (sp_act 2 2 (nI b) x)) ∧ ∃ I', S' = (gS, I', J, gR p, ro) ∧ Fr [49, 51] I I' ∧ I' 49 2 = I 49 2 ∧ I' 49 3 = nI (sp_nts (I 51, 0) (sp_atr 2 2)).2 ∧ I' 51 = (sp_nts (I 51, 0) (sp_atr 2 2)).1) := by
  refine ⟨okCX0_perform, Nat.le_of_ble_eq_true rfl, (show Px _ _ _ _ 0 [some (.ref (49)), some (.int (nI b)), some (.int (nI 2)), some (.int (x))] [] _ _ from ?_)⟩
  refine px_aload_n (kk := 0) rfl rfl rfl ?_
  refine px_iconst (v := nI 0) rfl k_0 ?_
  refine px_putI rfl gS_49 rfl rfl ?_
  refine px_aload_n (kk := 0) rfl rfl rfl ?_
  refine px_iload_n (kk := 1) rfl rfl rfl ?_
  refine px_callV0 CX0_isBody [] [.int _] (vX0_isBody (by rw [p_up_s, p_up_n _ _ (by decide)]; exact hz) hz50) rfl gS_49 (by decide) rfl rfl rfl (Nat.le_of_ble_eq_true rfl) (by decide) ?_
  rintro _ _ - (⟨h, rfl, rfl⟩ | ⟨h, rfl, rfl⟩)
  · refine px_if_eq rfl (fun h => absurd h (by decide)) (fun _ => ?_)
    refine px_iload_n (kk := 2) rfl rfl rfl ?_
    refine px_if_lt rfl (fun h => absurd h (by decide)) (fun _ => ?_)
    refine px_iload_n (kk := 2) rfl rfl rfl ?_
    refine px_iconst (v := nI 4) rfl k_4 ?_
    refine px_icmp_lt rfl (fun _ => ?_) (fun h => absurd h (by decide))
    refine px_aload_n (kk := 0) rfl rfl rfl ?_
    refine px_iload_n (kk := 1) rfl rfl rfl ?_
    refine px_putI rfl gS_49 rfl rfl ?_
    refine px_aload_n (kk := 0) rfl rfl rfl ?_
    refine px_aload_n (kk := 0) rfl rfl rfl ?_
    refine px_getR (r := 50) rfl gS_49 rfl (gR_49_0 _) ?_
    refine px_iload_n (kk := 1) rfl rfl rfl ?_
    refine px_ialde (j := b) (v := nI 2) rfl gS_50 rfl (by omega) ((by rw [p_up_n _ _ (by decide), p_up_n _ _ (by decide)]; exact hk : va_up (va_up I 49 (va_up (I 49) 3 (nI 0))) 49 (va_up ((va_up I 49 (va_up (I 49) 3 (nI 0))) 49) 4 (nI b)) 50 b = nI 2)) ?_
    refine px_iload_n (kk := 2) rfl rfl rfl ?_
    refine px_iload_n (kk := 3) rfl rfl rfl ?_
    refine px_iconst (v := nI 0) rfl k_0 ?_
    refine px_callV0 CX0_runFrom [] [.int _, .int _, .int _, .int _] (vX0_rf_2_2_2 (I := va_up (va_up I 49 (va_up (I 49) 3 (nI 0))) 49 (va_up ((va_up I 49 (va_up (I 49) 3 (nI 0))) 49) 4 (nI b))) (nm := b) (by omega) (by rw [p_up_s, p_up_s]) (by rw [p_up_n _ _ (by decide), p_up_n _ _ (by decide)]; exact hk) hro (t := (I 51, 0)) ⟨Fr_rf, fun _ _ => rfl, by rw [p_up_s, p_up_n _ _ (by decide), p_up_s, p_up_s], by rw [p_up_n _ _ (by decide), p_up_n _ _ (by decide)]⟩ (show (0 : Nat) < _ from by decide) (by decide)) rfl gS_49 (by decide) rfl rfl rfl (Nat.le_of_ble_eq_true rfl) (by decide) ?_
    rintro _ _ - ⟨rfl, I2, rfl, hB2⟩
    refine px_ireturn rfl (.inl rfl) ?_
    refine ⟨rfl, I2, rfl, fun c hc => ?_, ?_, hB2.2.2.1, hB2.2.2.2⟩
    · rw [hB2.1 c hc, p_up_n _ _ (fun e => hc (by rw [e]; decide)), p_up_n _ _ (fun e => hc (by rw [e]; decide))]
    · rw [hB2.2.1 2 (by decide), p_up_s, p_up_n _ _ (by decide), p_up_s, p_up_n _ _ (by decide)]
  · exact absurd ⟨b, hb, rfl⟩ h
theorem vX0_perf_2_3 {I : Nat → Nat → Int32} {J : Nat → Nat → Int64} {p : Bool × Option Nat} {ro : List (Nat × Nat × (Nat → Int32))} {z : Nat} (hz : I 49 2 = nI z) (hz50 : z ≤ 50) {b : Nat} (hb : b < z) (hk : I 50 b = nI 2) (hro : RO ro) {x : Int32} : Pv 14 0 0 CX0_perform [.ref (49), .int (nI b), .int (nI 3), .int (x)] (gS, I, J, gR p, ro) (fun r S' => r = some (.int (sp_act 2 3 (nI b) x)) ∧ ∃ I', S' = (gS, I', J, gR p, ro) ∧ Fr [49, 51] I I' ∧ I' 49 2 = I 49 2 ∧ I' 49 3 = nI (sp_nts (I 51, 0) (sp_atr 2 3)).2 ∧ I' 51 = (sp_nts (I 51, 0) (sp_atr 2 3)).1) := by
  refine ⟨okCX0_perform, Nat.le_of_ble_eq_true rfl, (show Px _ _ _ _ 0 [some (.ref (49)), some (.int (nI b)), some (.int (nI 3)), some (.int (x))] [] _ _ from ?_)⟩
  refine px_aload_n (kk := 0) rfl rfl rfl ?_
  refine px_iconst (v := nI 0) rfl k_0 ?_
  refine px_putI rfl gS_49 rfl rfl ?_
  refine px_aload_n (kk := 0) rfl rfl rfl ?_
  refine px_iload_n (kk := 1) rfl rfl rfl ?_
  refine px_callV0 CX0_isBody [] [.int _] (vX0_isBody (by rw [p_up_s, p_up_n _ _ (by decide)]; exact hz) hz50) rfl gS_49 (by decide) rfl rfl rfl (Nat.le_of_ble_eq_true rfl) (by decide) ?_
  rintro _ _ - (⟨h, rfl, rfl⟩ | ⟨h, rfl, rfl⟩)
  · refine px_if_eq rfl (fun h => absurd h (by decide)) (fun _ => ?_)
    refine px_iload_n (kk := 2) rfl rfl rfl ?_
    refine px_if_lt rfl (fun h => absurd h (by decide)) (fun _ => ?_)
    refine px_iload_n (kk := 2) rfl rfl rfl ?_
    refine px_iconst (v := nI 4) rfl k_4 ?_
    refine px_icmp_lt rfl (fun _ => ?_) (fun h => absurd h (by decide))
    refine px_aload_n (kk := 0) rfl rfl rfl ?_
    refine px_iload_n (kk := 1) rfl rfl rfl ?_
    refine px_putI rfl gS_49 rfl rfl ?_
    refine px_aload_n (kk := 0) rfl rfl rfl ?_
    refine px_aload_n (kk := 0) rfl rfl rfl ?_
    refine px_getR (r := 50) rfl gS_49 rfl (gR_49_0 _) ?_
    refine px_iload_n (kk := 1) rfl rfl rfl ?_
    refine px_ialde (j := b) (v := nI 2) rfl gS_50 rfl (by omega) ((by rw [p_up_n _ _ (by decide), p_up_n _ _ (by decide)]; exact hk : va_up (va_up I 49 (va_up (I 49) 3 (nI 0))) 49 (va_up ((va_up I 49 (va_up (I 49) 3 (nI 0))) 49) 4 (nI b)) 50 b = nI 2)) ?_
    refine px_iload_n (kk := 2) rfl rfl rfl ?_
    refine px_iload_n (kk := 3) rfl rfl rfl ?_
    refine px_iconst (v := nI 0) rfl k_0 ?_
    refine px_callV0 CX0_runFrom [] [.int _, .int _, .int _, .int _] (vX0_rf_2_2_3 (I := va_up (va_up I 49 (va_up (I 49) 3 (nI 0))) 49 (va_up ((va_up I 49 (va_up (I 49) 3 (nI 0))) 49) 4 (nI b))) (nm := b) (by omega) (by rw [p_up_s, p_up_s]) (by rw [p_up_n _ _ (by decide), p_up_n _ _ (by decide)]; exact hk) hro (t := (I 51, 0)) ⟨Fr_rf, fun _ _ => rfl, by rw [p_up_s, p_up_n _ _ (by decide), p_up_s, p_up_s], by rw [p_up_n _ _ (by decide), p_up_n _ _ (by decide)]⟩ (show (0 : Nat) < _ from by decide) (by decide)) rfl gS_49 (by decide) rfl rfl rfl (Nat.le_of_ble_eq_true rfl) (by decide) ?_
    rintro _ _ - ⟨rfl, I2, rfl, hB2⟩
    refine px_ireturn rfl (.inl rfl) ?_
    refine ⟨rfl, I2, rfl, fun c hc => ?_, ?_, hB2.2.2.1, hB2.2.2.2⟩
    · rw [hB2.1 c hc, p_up_n _ _ (fun e => hc (by rw [e]; decide)), p_up_n _ _ (fun e => hc (by rw [e]; decide))]
    · rw [hB2.2.1 2 (by decide), p_up_s, p_up_n _ _ (by decide), p_up_s, p_up_n _ _ (by decide)]
  · exact absurd ⟨b, hb, rfl⟩ h
theorem vX0_perf_3_0 {I : Nat → Nat → Int32} {J : Nat → Nat → Int64} {p : Bool × Option Nat} {ro : List (Nat × Nat × (Nat → Int32))} {z : Nat} (hz : I 49 2 = nI z) (hz50 : z ≤ 50) {b : Nat} (hb : b < z) (hk : I 50 b = nI 3) (hro : RO ro) {x : Int32} : Pv 14 0 0 CX0_perform [.ref (49), .int (nI b), .int (nI 0), .int (x)] (gS, I, J, gR p, ro) (fun r S' => r = some (.int (sp_act 3 0 (nI b) x)) ∧ ∃ I', S' = (gS, I', J, gR p, ro) ∧ Fr [49, 51] I I' ∧ I' 49 2 = I 49 2 ∧ I' 49 3 = nI (sp_nts (I 51, 0) (sp_atr 3 0)).2 ∧ I' 51 = (sp_nts (I 51, 0) (sp_atr 3 0)).1) := by
  refine ⟨okCX0_perform, Nat.le_of_ble_eq_true rfl, (show Px _ _ _ _ 0 [some (.ref (49)), some (.int (nI b)), some (.int (nI 0)), some (.int (x))] [] _ _ from ?_)⟩
  refine px_aload_n (kk := 0) rfl rfl rfl ?_
  refine px_iconst (v := nI 0) rfl k_0 ?_
  refine px_putI rfl gS_49 rfl rfl ?_
  refine px_aload_n (kk := 0) rfl rfl rfl ?_
  refine px_iload_n (kk := 1) rfl rfl rfl ?_
  refine px_callV0 CX0_isBody [] [.int _] (vX0_isBody (by rw [p_up_s, p_up_n _ _ (by decide)]; exact hz) hz50) rfl gS_49 (by decide) rfl rfl rfl (Nat.le_of_ble_eq_true rfl) (by decide) ?_
  rintro _ _ - (⟨h, rfl, rfl⟩ | ⟨h, rfl, rfl⟩)
  · refine px_if_eq rfl (fun h => absurd h (by decide)) (fun _ => ?_)
    refine px_iload_n (kk := 2) rfl rfl rfl ?_
    refine px_if_lt rfl (fun h => absurd h (by decide)) (fun _ => ?_)
    refine px_iload_n (kk := 2) rfl rfl rfl ?_
    refine px_iconst (v := nI 4) rfl k_4 ?_
    refine px_icmp_lt rfl (fun _ => ?_) (fun h => absurd h (by decide))
    refine px_aload_n (kk := 0) rfl rfl rfl ?_
    refine px_iload_n (kk := 1) rfl rfl rfl ?_
    refine px_putI rfl gS_49 rfl rfl ?_
    refine px_aload_n (kk := 0) rfl rfl rfl ?_
    refine px_aload_n (kk := 0) rfl rfl rfl ?_
    refine px_getR (r := 50) rfl gS_49 rfl (gR_49_0 _) ?_
    refine px_iload_n (kk := 1) rfl rfl rfl ?_
    refine px_ialde (j := b) (v := nI 3) rfl gS_50 rfl (by omega) ((by rw [p_up_n _ _ (by decide), p_up_n _ _ (by decide)]; exact hk : va_up (va_up I 49 (va_up (I 49) 3 (nI 0))) 49 (va_up ((va_up I 49 (va_up (I 49) 3 (nI 0))) 49) 4 (nI b)) 50 b = nI 3)) ?_
    refine px_iload_n (kk := 2) rfl rfl rfl ?_
    refine px_iload_n (kk := 3) rfl rfl rfl ?_
    refine px_iconst (v := nI 0) rfl k_0 ?_
    refine px_callV0 CX0_runFrom [] [.int _, .int _, .int _, .int _] (vX0_rf_3_3_0 (I := va_up (va_up I 49 (va_up (I 49) 3 (nI 0))) 49 (va_up ((va_up I 49 (va_up (I 49) 3 (nI 0))) 49) 4 (nI b))) (nm := b) (by omega) (by rw [p_up_s, p_up_s]) (by rw [p_up_n _ _ (by decide), p_up_n _ _ (by decide)]; exact hk) hro (t := (I 51, 0)) ⟨Fr_rf, fun _ _ => rfl, by rw [p_up_s, p_up_n _ _ (by decide), p_up_s, p_up_s], by rw [p_up_n _ _ (by decide), p_up_n _ _ (by decide)]⟩ (show (0 : Nat) < _ from by decide) (by decide)) rfl gS_49 (by decide) rfl rfl rfl (Nat.le_of_ble_eq_true rfl) (by decide) ?_
    rintro _ _ - ⟨rfl, I2, rfl, hB2⟩
    refine px_ireturn rfl (.inl rfl) ?_
    refine ⟨rfl, I2, rfl, fun c hc => ?_, ?_, hB2.2.2.1, hB2.2.2.2⟩
    · rw [hB2.1 c hc, p_up_n _ _ (fun e => hc (by rw [e]; decide)), p_up_n _ _ (fun e => hc (by rw [e]; decide))]
    · rw [hB2.2.1 2 (by decide), p_up_s, p_up_n _ _ (by decide), p_up_s, p_up_n _ _ (by decide)]
  · exact absurd ⟨b, hb, rfl⟩ h
theorem vX0_perf_3_1 {I : Nat → Nat → Int32} {J : Nat → Nat → Int64} {p : Bool × Option Nat} {ro : List (Nat × Nat × (Nat → Int32))} {z : Nat} (hz : I 49 2 = nI z) (hz50 : z ≤ 50) {b : Nat} (hb : b < z) (hk : I 50 b = nI 3) (hro : RO ro) {x : Int32} : Pv 14 0 0 CX0_perform [.ref (49), .int (nI b), .int (nI 1), .int (x)] (gS, I, J, gR p, ro) (fun r S' => r = some (.int (sp_act 3 1 (nI b) x)) ∧ ∃ I', S' = (gS, I', J, gR p, ro) ∧ Fr [49, 51] I I' ∧ I' 49 2 = I 49 2 ∧ I' 49 3 = nI (sp_nts (I 51, 0) (sp_atr 3 1)).2 ∧ I' 51 = (sp_nts (I 51, 0) (sp_atr 3 1)).1) := by
  refine ⟨okCX0_perform, Nat.le_of_ble_eq_true rfl, (show Px _ _ _ _ 0 [some (.ref (49)), some (.int (nI b)), some (.int (nI 1)), some (.int (x))] [] _ _ from ?_)⟩
  refine px_aload_n (kk := 0) rfl rfl rfl ?_
  refine px_iconst (v := nI 0) rfl k_0 ?_
  refine px_putI rfl gS_49 rfl rfl ?_
  refine px_aload_n (kk := 0) rfl rfl rfl ?_
  refine px_iload_n (kk := 1) rfl rfl rfl ?_
  refine px_callV0 CX0_isBody [] [.int _] (vX0_isBody (by rw [p_up_s, p_up_n _ _ (by decide)]; exact hz) hz50) rfl gS_49 (by decide) rfl rfl rfl (Nat.le_of_ble_eq_true rfl) (by decide) ?_
  rintro _ _ - (⟨h, rfl, rfl⟩ | ⟨h, rfl, rfl⟩)
  · refine px_if_eq rfl (fun h => absurd h (by decide)) (fun _ => ?_)
    refine px_iload_n (kk := 2) rfl rfl rfl ?_
    refine px_if_lt rfl (fun h => absurd h (by decide)) (fun _ => ?_)
    refine px_iload_n (kk := 2) rfl rfl rfl ?_
    refine px_iconst (v := nI 4) rfl k_4 ?_
    refine px_icmp_lt rfl (fun _ => ?_) (fun h => absurd h (by decide))
    refine px_aload_n (kk := 0) rfl rfl rfl ?_
    refine px_iload_n (kk := 1) rfl rfl rfl ?_
    refine px_putI rfl gS_49 rfl rfl ?_
    refine px_aload_n (kk := 0) rfl rfl rfl ?_
    refine px_aload_n (kk := 0) rfl rfl rfl ?_
    refine px_getR (r := 50) rfl gS_49 rfl (gR_49_0 _) ?_
    refine px_iload_n (kk := 1) rfl rfl rfl ?_
    refine px_ialde (j := b) (v := nI 3) rfl gS_50 rfl (by omega) ((by rw [p_up_n _ _ (by decide), p_up_n _ _ (by decide)]; exact hk : va_up (va_up I 49 (va_up (I 49) 3 (nI 0))) 49 (va_up ((va_up I 49 (va_up (I 49) 3 (nI 0))) 49) 4 (nI b)) 50 b = nI 3)) ?_
    refine px_iload_n (kk := 2) rfl rfl rfl ?_
    refine px_iload_n (kk := 3) rfl rfl rfl ?_
    refine px_iconst (v := nI 0) rfl k_0 ?_
    refine px_callV0 CX0_runFrom [] [.int _, .int _, .int _, .int _] (vX0_rf_3_3_1 (I := va_up (va_up I 49 (va_up (I 49) 3 (nI 0))) 49 (va_up ((va_up I 49 (va_up (I 49) 3 (nI 0))) 49) 4 (nI b))) (nm := b) (by omega) (by rw [p_up_s, p_up_s]) (by rw [p_up_n _ _ (by decide), p_up_n _ _ (by decide)]; exact hk) hro (t := (I 51, 0)) ⟨Fr_rf, fun _ _ => rfl, by rw [p_up_s, p_up_n _ _ (by decide), p_up_s, p_up_s], by rw [p_up_n _ _ (by decide), p_up_n _ _ (by decide)]⟩ (show (0 : Nat) < _ from by decide) (by decide)) rfl gS_49 (by decide) rfl rfl rfl (Nat.le_of_ble_eq_true rfl) (by decide) ?_
    rintro _ _ - ⟨rfl, I2, rfl, hB2⟩
    refine px_ireturn rfl (.inl rfl) ?_
    refine ⟨rfl, I2, rfl, fun c hc => ?_, ?_, hB2.2.2.1, hB2.2.2.2⟩
    · rw [hB2.1 c hc, p_up_n _ _ (fun e => hc (by rw [e]; decide)), p_up_n _ _ (fun e => hc (by rw [e]; decide))]
    · rw [hB2.2.1 2 (by decide), p_up_s, p_up_n _ _ (by decide), p_up_s, p_up_n _ _ (by decide)]
  · exact absurd ⟨b, hb, rfl⟩ h
theorem vX0_perf_3_2 {I : Nat → Nat → Int32} {J : Nat → Nat → Int64} {p : Bool × Option Nat} {ro : List (Nat × Nat × (Nat → Int32))} {z : Nat} (hz : I 49 2 = nI z) (hz50 : z ≤ 50) {b : Nat} (hb : b < z) (hk : I 50 b = nI 3) (hro : RO ro) {x : Int32} : Pv 14 0 0 CX0_perform [.ref (49), .int (nI b), .int (nI 2), .int (x)] (gS, I, J, gR p, ro) (fun r S' => r = some (.int (sp_act 3 2 (nI b) x)) ∧ ∃ I', S' = (gS, I', J, gR p, ro) ∧ Fr [49, 51] I I' ∧ I' 49 2 = I 49 2 ∧ I' 49 3 = nI (sp_nts (I 51, 0) (sp_atr 3 2)).2 ∧ I' 51 = (sp_nts (I 51, 0) (sp_atr 3 2)).1) := by
  refine ⟨okCX0_perform, Nat.le_of_ble_eq_true rfl, (show Px _ _ _ _ 0 [some (.ref (49)), some (.int (nI b)), some (.int (nI 2)), some (.int (x))] [] _ _ from ?_)⟩
  refine px_aload_n (kk := 0) rfl rfl rfl ?_
  refine px_iconst (v := nI 0) rfl k_0 ?_
  refine px_putI rfl gS_49 rfl rfl ?_
  refine px_aload_n (kk := 0) rfl rfl rfl ?_
  refine px_iload_n (kk := 1) rfl rfl rfl ?_
  refine px_callV0 CX0_isBody [] [.int _] (vX0_isBody (by rw [p_up_s, p_up_n _ _ (by decide)]; exact hz) hz50) rfl gS_49 (by decide) rfl rfl rfl (Nat.le_of_ble_eq_true rfl) (by decide) ?_
  rintro _ _ - (⟨h, rfl, rfl⟩ | ⟨h, rfl, rfl⟩)
  · refine px_if_eq rfl (fun h => absurd h (by decide)) (fun _ => ?_)
    refine px_iload_n (kk := 2) rfl rfl rfl ?_
    refine px_if_lt rfl (fun h => absurd h (by decide)) (fun _ => ?_)
    refine px_iload_n (kk := 2) rfl rfl rfl ?_
    refine px_iconst (v := nI 4) rfl k_4 ?_
    refine px_icmp_lt rfl (fun _ => ?_) (fun h => absurd h (by decide))
    refine px_aload_n (kk := 0) rfl rfl rfl ?_
    refine px_iload_n (kk := 1) rfl rfl rfl ?_
    refine px_putI rfl gS_49 rfl rfl ?_
    refine px_aload_n (kk := 0) rfl rfl rfl ?_
    refine px_aload_n (kk := 0) rfl rfl rfl ?_
    refine px_getR (r := 50) rfl gS_49 rfl (gR_49_0 _) ?_
    refine px_iload_n (kk := 1) rfl rfl rfl ?_
    refine px_ialde (j := b) (v := nI 3) rfl gS_50 rfl (by omega) ((by rw [p_up_n _ _ (by decide), p_up_n _ _ (by decide)]; exact hk : va_up (va_up I 49 (va_up (I 49) 3 (nI 0))) 49 (va_up ((va_up I 49 (va_up (I 49) 3 (nI 0))) 49) 4 (nI b)) 50 b = nI 3)) ?_
    refine px_iload_n (kk := 2) rfl rfl rfl ?_
    refine px_iload_n (kk := 3) rfl rfl rfl ?_
    refine px_iconst (v := nI 0) rfl k_0 ?_
    refine px_callV0 CX0_runFrom [] [.int _, .int _, .int _, .int _] (vX0_rf_3_3_2 (I := va_up (va_up I 49 (va_up (I 49) 3 (nI 0))) 49 (va_up ((va_up I 49 (va_up (I 49) 3 (nI 0))) 49) 4 (nI b))) (nm := b) (by omega) (by rw [p_up_s, p_up_s]) (by rw [p_up_n _ _ (by decide), p_up_n _ _ (by decide)]; exact hk) hro (t := (I 51, 0)) ⟨Fr_rf, fun _ _ => rfl, by rw [p_up_s, p_up_n _ _ (by decide), p_up_s, p_up_s], by rw [p_up_n _ _ (by decide), p_up_n _ _ (by decide)]⟩ (show (0 : Nat) < _ from by decide) (by decide)) rfl gS_49 (by decide) rfl rfl rfl (Nat.le_of_ble_eq_true rfl) (by decide) ?_
    rintro _ _ - ⟨rfl, I2, rfl, hB2⟩
    refine px_ireturn rfl (.inl rfl) ?_
    refine ⟨rfl, I2, rfl, fun c hc => ?_, ?_, hB2.2.2.1, hB2.2.2.2⟩
    · rw [hB2.1 c hc, p_up_n _ _ (fun e => hc (by rw [e]; decide)), p_up_n _ _ (fun e => hc (by rw [e]; decide))]
    · rw [hB2.2.1 2 (by decide), p_up_s, p_up_n _ _ (by decide), p_up_s, p_up_n _ _ (by decide)]
  · exact absurd ⟨b, hb, rfl⟩ h
theorem vX0_perf_3_3 {I : Nat → Nat → Int32} {J : Nat → Nat → Int64} {p : Bool × Option Nat} {ro : List (Nat × Nat × (Nat → Int32))} {z : Nat} (hz : I 49 2 = nI z) (hz50 : z ≤ 50) {b : Nat} (hb : b < z) (hk : I 50 b = nI 3) (hro : RO ro) {x : Int32} : Pv 14 0 0 CX0_perform [.ref (49), .int (nI b), .int (nI 3), .int (x)] (gS, I, J, gR p, ro) (fun r S' => r = some (.int (sp_act 3 3 (nI b) x)) ∧ ∃ I', S' = (gS, I', J, gR p, ro) ∧ Fr [49, 51] I I' ∧ I' 49 2 = I 49 2 ∧ I' 49 3 = nI (sp_nts (I 51, 0) (sp_atr 3 3)).2 ∧ I' 51 = (sp_nts (I 51, 0) (sp_atr 3 3)).1) := by
  refine ⟨okCX0_perform, Nat.le_of_ble_eq_true rfl, (show Px _ _ _ _ 0 [some (.ref (49)), some (.int (nI b)), some (.int (nI 3)), some (.int (x))] [] _ _ from ?_)⟩
  refine px_aload_n (kk := 0) rfl rfl rfl ?_
  refine px_iconst (v := nI 0) rfl k_0 ?_
  refine px_putI rfl gS_49 rfl rfl ?_
  refine px_aload_n (kk := 0) rfl rfl rfl ?_
  refine px_iload_n (kk := 1) rfl rfl rfl ?_
  refine px_callV0 CX0_isBody [] [.int _] (vX0_isBody (by rw [p_up_s, p_up_n _ _ (by decide)]; exact hz) hz50) rfl gS_49 (by decide) rfl rfl rfl (Nat.le_of_ble_eq_true rfl) (by decide) ?_
  rintro _ _ - (⟨h, rfl, rfl⟩ | ⟨h, rfl, rfl⟩)
  · refine px_if_eq rfl (fun h => absurd h (by decide)) (fun _ => ?_)
    refine px_iload_n (kk := 2) rfl rfl rfl ?_
    refine px_if_lt rfl (fun h => absurd h (by decide)) (fun _ => ?_)
    refine px_iload_n (kk := 2) rfl rfl rfl ?_
    refine px_iconst (v := nI 4) rfl k_4 ?_
    refine px_icmp_lt rfl (fun _ => ?_) (fun h => absurd h (by decide))
    refine px_aload_n (kk := 0) rfl rfl rfl ?_
    refine px_iload_n (kk := 1) rfl rfl rfl ?_
    refine px_putI rfl gS_49 rfl rfl ?_
    refine px_aload_n (kk := 0) rfl rfl rfl ?_
    refine px_aload_n (kk := 0) rfl rfl rfl ?_
    refine px_getR (r := 50) rfl gS_49 rfl (gR_49_0 _) ?_
    refine px_iload_n (kk := 1) rfl rfl rfl ?_
    refine px_ialde (j := b) (v := nI 3) rfl gS_50 rfl (by omega) ((by rw [p_up_n _ _ (by decide), p_up_n _ _ (by decide)]; exact hk : va_up (va_up I 49 (va_up (I 49) 3 (nI 0))) 49 (va_up ((va_up I 49 (va_up (I 49) 3 (nI 0))) 49) 4 (nI b)) 50 b = nI 3)) ?_
    refine px_iload_n (kk := 2) rfl rfl rfl ?_
    refine px_iload_n (kk := 3) rfl rfl rfl ?_
    refine px_iconst (v := nI 0) rfl k_0 ?_
    refine px_callV0 CX0_runFrom [] [.int _, .int _, .int _, .int _] (vX0_rf_3_3_3 (I := va_up (va_up I 49 (va_up (I 49) 3 (nI 0))) 49 (va_up ((va_up I 49 (va_up (I 49) 3 (nI 0))) 49) 4 (nI b))) (nm := b) (by omega) (by rw [p_up_s, p_up_s]) (by rw [p_up_n _ _ (by decide), p_up_n _ _ (by decide)]; exact hk) hro (t := (I 51, 0)) ⟨Fr_rf, fun _ _ => rfl, by rw [p_up_s, p_up_n _ _ (by decide), p_up_s, p_up_s], by rw [p_up_n _ _ (by decide), p_up_n _ _ (by decide)]⟩ (show (0 : Nat) < _ from by decide) (by decide)) rfl gS_49 (by decide) rfl rfl rfl (Nat.le_of_ble_eq_true rfl) (by decide) ?_
    rintro _ _ - ⟨rfl, I2, rfl, hB2⟩
    refine px_ireturn rfl (.inl rfl) ?_
    refine ⟨rfl, I2, rfl, fun c hc => ?_, ?_, hB2.2.2.1, hB2.2.2.2⟩
    · rw [hB2.1 c hc, p_up_n _ _ (fun e => hc (by rw [e]; decide)), p_up_n _ _ (fun e => hc (by rw [e]; decide))]
    · rw [hB2.2.1 2 (by decide), p_up_s, p_up_n _ _ (by decide), p_up_s, p_up_n _ _ (by decide)]
  · exact absurd ⟨b, hb, rfl⟩ h
theorem vX0_perf_4_0 {I : Nat → Nat → Int32} {J : Nat → Nat → Int64} {p : Bool × Option Nat} {ro : List (Nat × Nat × (Nat → Int32))} {z : Nat} (hz : I 49 2 = nI z) (hz50 : z ≤ 50) {b : Nat} (hb : b < z) (hk : I 50 b = nI 4) (hro : RO ro) {x : Int32} : Pv 14 0 0 CX0_perform [.ref (49), .int (nI b), .int (nI 0), .int (x)] (gS, I, J, gR p, ro) (fun r S' => r = some (.int (sp_act 4 0 (nI b) x)) ∧ ∃ I', S' = (gS, I', J, gR p, ro) ∧ Fr [49, 51] I I' ∧ I' 49 2 = I 49 2 ∧ I' 49 3 = nI (sp_nts (I 51, 0) (sp_atr 4 0)).2 ∧ I' 51 = (sp_nts (I 51, 0) (sp_atr 4 0)).1) := by
  refine ⟨okCX0_perform, Nat.le_of_ble_eq_true rfl, (show Px _ _ _ _ 0 [some (.ref (49)), some (.int (nI b)), some (.int (nI 0)), some (.int (x))] [] _ _ from ?_)⟩
  refine px_aload_n (kk := 0) rfl rfl rfl ?_
  refine px_iconst (v := nI 0) rfl k_0 ?_
  refine px_putI rfl gS_49 rfl rfl ?_
  refine px_aload_n (kk := 0) rfl rfl rfl ?_
  refine px_iload_n (kk := 1) rfl rfl rfl ?_
  refine px_callV0 CX0_isBody [] [.int _] (vX0_isBody (by rw [p_up_s, p_up_n _ _ (by decide)]; exact hz) hz50) rfl gS_49 (by decide) rfl rfl rfl (Nat.le_of_ble_eq_true rfl) (by decide) ?_
  rintro _ _ - (⟨h, rfl, rfl⟩ | ⟨h, rfl, rfl⟩)
  · refine px_if_eq rfl (fun h => absurd h (by decide)) (fun _ => ?_)
    refine px_iload_n (kk := 2) rfl rfl rfl ?_
    refine px_if_lt rfl (fun h => absurd h (by decide)) (fun _ => ?_)
    refine px_iload_n (kk := 2) rfl rfl rfl ?_
    refine px_iconst (v := nI 4) rfl k_4 ?_
    refine px_icmp_lt rfl (fun _ => ?_) (fun h => absurd h (by decide))
    refine px_aload_n (kk := 0) rfl rfl rfl ?_
    refine px_iload_n (kk := 1) rfl rfl rfl ?_
    refine px_putI rfl gS_49 rfl rfl ?_
    refine px_aload_n (kk := 0) rfl rfl rfl ?_
    refine px_aload_n (kk := 0) rfl rfl rfl ?_
    refine px_getR (r := 50) rfl gS_49 rfl (gR_49_0 _) ?_
    refine px_iload_n (kk := 1) rfl rfl rfl ?_
    refine px_ialde (j := b) (v := nI 4) rfl gS_50 rfl (by omega) ((by rw [p_up_n _ _ (by decide), p_up_n _ _ (by decide)]; exact hk : va_up (va_up I 49 (va_up (I 49) 3 (nI 0))) 49 (va_up ((va_up I 49 (va_up (I 49) 3 (nI 0))) 49) 4 (nI b)) 50 b = nI 4)) ?_
    refine px_iload_n (kk := 2) rfl rfl rfl ?_
    refine px_iload_n (kk := 3) rfl rfl rfl ?_
    refine px_iconst (v := nI 0) rfl k_0 ?_
    refine px_callV0 CX0_runFrom [] [.int _, .int _, .int _, .int _] (vX0_rf_4_4_0 (I := va_up (va_up I 49 (va_up (I 49) 3 (nI 0))) 49 (va_up ((va_up I 49 (va_up (I 49) 3 (nI 0))) 49) 4 (nI b))) (nm := b) (by omega) (by rw [p_up_s, p_up_s]) (by rw [p_up_n _ _ (by decide), p_up_n _ _ (by decide)]; exact hk) hro (t := (I 51, 0)) ⟨Fr_rf, fun _ _ => rfl, by rw [p_up_s, p_up_n _ _ (by decide), p_up_s, p_up_s], by rw [p_up_n _ _ (by decide), p_up_n _ _ (by decide)]⟩ (show (0 : Nat) < _ from by decide) (by decide)) rfl gS_49 (by decide) rfl rfl rfl (Nat.le_of_ble_eq_true rfl) (by decide) ?_
    rintro _ _ - ⟨rfl, I2, rfl, hB2⟩
    refine px_ireturn rfl (.inl rfl) ?_
    refine ⟨rfl, I2, rfl, fun c hc => ?_, ?_, hB2.2.2.1, hB2.2.2.2⟩
    · rw [hB2.1 c hc, p_up_n _ _ (fun e => hc (by rw [e]; decide)), p_up_n _ _ (fun e => hc (by rw [e]; decide))]
    · rw [hB2.2.1 2 (by decide), p_up_s, p_up_n _ _ (by decide), p_up_s, p_up_n _ _ (by decide)]
  · exact absurd ⟨b, hb, rfl⟩ h
theorem vX0_perf_4_1 {I : Nat → Nat → Int32} {J : Nat → Nat → Int64} {p : Bool × Option Nat} {ro : List (Nat × Nat × (Nat → Int32))} {z : Nat} (hz : I 49 2 = nI z) (hz50 : z ≤ 50) {b : Nat} (hb : b < z) (hk : I 50 b = nI 4) (hro : RO ro) {x : Int32} : Pv 14 0 0 CX0_perform [.ref (49), .int (nI b), .int (nI 1), .int (x)] (gS, I, J, gR p, ro) (fun r S' => r = some (.int (sp_act 4 1 (nI b) x)) ∧ ∃ I', S' = (gS, I', J, gR p, ro) ∧ Fr [49, 51] I I' ∧ I' 49 2 = I 49 2 ∧ I' 49 3 = nI (sp_nts (I 51, 0) (sp_atr 4 1)).2 ∧ I' 51 = (sp_nts (I 51, 0) (sp_atr 4 1)).1) := by
  refine ⟨okCX0_perform, Nat.le_of_ble_eq_true rfl, (show Px _ _ _ _ 0 [some (.ref (49)), some (.int (nI b)), some (.int (nI 1)), some (.int (x))] [] _ _ from ?_)⟩
  refine px_aload_n (kk := 0) rfl rfl rfl ?_
  refine px_iconst (v := nI 0) rfl k_0 ?_
  refine px_putI rfl gS_49 rfl rfl ?_
  refine px_aload_n (kk := 0) rfl rfl rfl ?_
  refine px_iload_n (kk := 1) rfl rfl rfl ?_
  refine px_callV0 CX0_isBody [] [.int _] (vX0_isBody (by rw [p_up_s, p_up_n _ _ (by decide)]; exact hz) hz50) rfl gS_49 (by decide) rfl rfl rfl (Nat.le_of_ble_eq_true rfl) (by decide) ?_
  rintro _ _ - (⟨h, rfl, rfl⟩ | ⟨h, rfl, rfl⟩)
  · refine px_if_eq rfl (fun h => absurd h (by decide)) (fun _ => ?_)
    refine px_iload_n (kk := 2) rfl rfl rfl ?_
    refine px_if_lt rfl (fun h => absurd h (by decide)) (fun _ => ?_)
    refine px_iload_n (kk := 2) rfl rfl rfl ?_
    refine px_iconst (v := nI 4) rfl k_4 ?_
    refine px_icmp_lt rfl (fun _ => ?_) (fun h => absurd h (by decide))
    refine px_aload_n (kk := 0) rfl rfl rfl ?_
    refine px_iload_n (kk := 1) rfl rfl rfl ?_
    refine px_putI rfl gS_49 rfl rfl ?_
    refine px_aload_n (kk := 0) rfl rfl rfl ?_
    refine px_aload_n (kk := 0) rfl rfl rfl ?_
    refine px_getR (r := 50) rfl gS_49 rfl (gR_49_0 _) ?_
    refine px_iload_n (kk := 1) rfl rfl rfl ?_
    refine px_ialde (j := b) (v := nI 4) rfl gS_50 rfl (by omega) ((by rw [p_up_n _ _ (by decide), p_up_n _ _ (by decide)]; exact hk : va_up (va_up I 49 (va_up (I 49) 3 (nI 0))) 49 (va_up ((va_up I 49 (va_up (I 49) 3 (nI 0))) 49) 4 (nI b)) 50 b = nI 4)) ?_
    refine px_iload_n (kk := 2) rfl rfl rfl ?_
    refine px_iload_n (kk := 3) rfl rfl rfl ?_
    refine px_iconst (v := nI 0) rfl k_0 ?_
    refine px_callV0 CX0_runFrom [] [.int _, .int _, .int _, .int _] (vX0_rf_4_4_1 (I := va_up (va_up I 49 (va_up (I 49) 3 (nI 0))) 49 (va_up ((va_up I 49 (va_up (I 49) 3 (nI 0))) 49) 4 (nI b))) (nm := b) (by omega) (by rw [p_up_s, p_up_s]) (by rw [p_up_n _ _ (by decide), p_up_n _ _ (by decide)]; exact hk) hro (t := (I 51, 0)) ⟨Fr_rf, fun _ _ => rfl, by rw [p_up_s, p_up_n _ _ (by decide), p_up_s, p_up_s], by rw [p_up_n _ _ (by decide), p_up_n _ _ (by decide)]⟩ (show (0 : Nat) < _ from by decide) (by decide)) rfl gS_49 (by decide) rfl rfl rfl (Nat.le_of_ble_eq_true rfl) (by decide) ?_
    rintro _ _ - ⟨rfl, I2, rfl, hB2⟩
    refine px_ireturn rfl (.inl rfl) ?_
    refine ⟨rfl, I2, rfl, fun c hc => ?_, ?_, hB2.2.2.1, hB2.2.2.2⟩
    · rw [hB2.1 c hc, p_up_n _ _ (fun e => hc (by rw [e]; decide)), p_up_n _ _ (fun e => hc (by rw [e]; decide))]
    · rw [hB2.2.1 2 (by decide), p_up_s, p_up_n _ _ (by decide), p_up_s, p_up_n _ _ (by decide)]
  · exact absurd ⟨b, hb, rfl⟩ h
theorem vX0_perf_4_2 {I : Nat → Nat → Int32} {J : Nat → Nat → Int64} {p : Bool × Option Nat} {ro : List (Nat × Nat × (Nat → Int32))} {z : Nat} (hz : I 49 2 = nI z) (hz50 : z ≤ 50) {b : Nat} (hb : b < z) (hk : I 50 b = nI 4) (hro : RO ro) {x : Int32} : Pv 14 0 0 CX0_perform [.ref (49), .int (nI b), .int (nI 2), .int (x)] (gS, I, J, gR p, ro) (fun r S' => r = some (.int (sp_act 4 2 (nI b) x)) ∧ ∃ I', S' = (gS, I', J, gR p, ro) ∧ Fr [49, 51] I I' ∧ I' 49 2 = I 49 2 ∧ I' 49 3 = nI (sp_nts (I 51, 0) (sp_atr 4 2)).2 ∧ I' 51 = (sp_nts (I 51, 0) (sp_atr 4 2)).1) := by
  refine ⟨okCX0_perform, Nat.le_of_ble_eq_true rfl, (show Px _ _ _ _ 0 [some (.ref (49)), some (.int (nI b)), some (.int (nI 2)), some (.int (x))] [] _ _ from ?_)⟩
  refine px_aload_n (kk := 0) rfl rfl rfl ?_
  refine px_iconst (v := nI 0) rfl k_0 ?_
  refine px_putI rfl gS_49 rfl rfl ?_
  refine px_aload_n (kk := 0) rfl rfl rfl ?_
  refine px_iload_n (kk := 1) rfl rfl rfl ?_
  refine px_callV0 CX0_isBody [] [.int _] (vX0_isBody (by rw [p_up_s, p_up_n _ _ (by decide)]; exact hz) hz50) rfl gS_49 (by decide) rfl rfl rfl (Nat.le_of_ble_eq_true rfl) (by decide) ?_
  rintro _ _ - (⟨h, rfl, rfl⟩ | ⟨h, rfl, rfl⟩)
  · refine px_if_eq rfl (fun h => absurd h (by decide)) (fun _ => ?_)
    refine px_iload_n (kk := 2) rfl rfl rfl ?_
    refine px_if_lt rfl (fun h => absurd h (by decide)) (fun _ => ?_)
    refine px_iload_n (kk := 2) rfl rfl rfl ?_
    refine px_iconst (v := nI 4) rfl k_4 ?_
    refine px_icmp_lt rfl (fun _ => ?_) (fun h => absurd h (by decide))
    refine px_aload_n (kk := 0) rfl rfl rfl ?_
    refine px_iload_n (kk := 1) rfl rfl rfl ?_
    refine px_putI rfl gS_49 rfl rfl ?_
    refine px_aload_n (kk := 0) rfl rfl rfl ?_
    refine px_aload_n (kk := 0) rfl rfl rfl ?_
    refine px_getR (r := 50) rfl gS_49 rfl (gR_49_0 _) ?_
    refine px_iload_n (kk := 1) rfl rfl rfl ?_
    refine px_ialde (j := b) (v := nI 4) rfl gS_50 rfl (by omega) ((by rw [p_up_n _ _ (by decide), p_up_n _ _ (by decide)]; exact hk : va_up (va_up I 49 (va_up (I 49) 3 (nI 0))) 49 (va_up ((va_up I 49 (va_up (I 49) 3 (nI 0))) 49) 4 (nI b)) 50 b = nI 4)) ?_
    refine px_iload_n (kk := 2) rfl rfl rfl ?_
    refine px_iload_n (kk := 3) rfl rfl rfl ?_
    refine px_iconst (v := nI 0) rfl k_0 ?_
    refine px_callV0 CX0_runFrom [] [.int _, .int _, .int _, .int _] (vX0_rf_4_4_2 (I := va_up (va_up I 49 (va_up (I 49) 3 (nI 0))) 49 (va_up ((va_up I 49 (va_up (I 49) 3 (nI 0))) 49) 4 (nI b))) (nm := b) (by omega) (by rw [p_up_s, p_up_s]) (by rw [p_up_n _ _ (by decide), p_up_n _ _ (by decide)]; exact hk) hro (t := (I 51, 0)) ⟨Fr_rf, fun _ _ => rfl, by rw [p_up_s, p_up_n _ _ (by decide), p_up_s, p_up_s], by rw [p_up_n _ _ (by decide), p_up_n _ _ (by decide)]⟩ (show (0 : Nat) < _ from by decide) (by decide)) rfl gS_49 (by decide) rfl rfl rfl (Nat.le_of_ble_eq_true rfl) (by decide) ?_
    rintro _ _ - ⟨rfl, I2, rfl, hB2⟩
    refine px_ireturn rfl (.inl rfl) ?_
    refine ⟨rfl, I2, rfl, fun c hc => ?_, ?_, hB2.2.2.1, hB2.2.2.2⟩
    · rw [hB2.1 c hc, p_up_n _ _ (fun e => hc (by rw [e]; decide)), p_up_n _ _ (fun e => hc (by rw [e]; decide))]
    · rw [hB2.2.1 2 (by decide), p_up_s, p_up_n _ _ (by decide), p_up_s, p_up_n _ _ (by decide)]
  · exact absurd ⟨b, hb, rfl⟩ h
theorem vX0_perf_4_3 {I : Nat → Nat → Int32} {J : Nat → Nat → Int64} {p : Bool × Option Nat} {ro : List (Nat × Nat × (Nat → Int32))} {z : Nat} (hz : I 49 2 = nI z) (hz50 : z ≤ 50) {b : Nat} (hb : b < z) (hk : I 50 b = nI 4) (hro : RO ro) {x : Int32} : Pv 14 0 0 CX0_perform [.ref (49), .int (nI b), .int (nI 3), .int (x)] (gS, I, J, gR p, ro) (fun r S' => r = some (.int (sp_act 4 3 (nI b) x)) ∧ ∃ I', S' = (gS, I', J, gR p, ro) ∧ Fr [49, 51] I I' ∧ I' 49 2 = I 49 2 ∧ I' 49 3 = nI (sp_nts (I 51, 0) (sp_atr 4 3)).2 ∧ I' 51 = (sp_nts (I 51, 0) (sp_atr 4 3)).1) := by
  refine ⟨okCX0_perform, Nat.le_of_ble_eq_true rfl, (show Px _ _ _ _ 0 [some (.ref (49)), some (.int (nI b)), some (.int (nI 3)), some (.int (x))] [] _ _ from ?_)⟩
  refine px_aload_n (kk := 0) rfl rfl rfl ?_
  refine px_iconst (v := nI 0) rfl k_0 ?_
  refine px_putI rfl gS_49 rfl rfl ?_
  refine px_aload_n (kk := 0) rfl rfl rfl ?_
  refine px_iload_n (kk := 1) rfl rfl rfl ?_
  refine px_callV0 CX0_isBody [] [.int _] (vX0_isBody (by rw [p_up_s, p_up_n _ _ (by decide)]; exact hz) hz50) rfl gS_49 (by decide) rfl rfl rfl (Nat.le_of_ble_eq_true rfl) (by decide) ?_
  rintro _ _ - (⟨h, rfl, rfl⟩ | ⟨h, rfl, rfl⟩)
  · refine px_if_eq rfl (fun h => absurd h (by decide)) (fun _ => ?_)
    refine px_iload_n (kk := 2) rfl rfl rfl ?_
    refine px_if_lt rfl (fun h => absurd h (by decide)) (fun _ => ?_)
    refine px_iload_n (kk := 2) rfl rfl rfl ?_
    refine px_iconst (v := nI 4) rfl k_4 ?_
    refine px_icmp_lt rfl (fun _ => ?_) (fun h => absurd h (by decide))
    refine px_aload_n (kk := 0) rfl rfl rfl ?_
    refine px_iload_n (kk := 1) rfl rfl rfl ?_
    refine px_putI rfl gS_49 rfl rfl ?_
    refine px_aload_n (kk := 0) rfl rfl rfl ?_
    refine px_aload_n (kk := 0) rfl rfl rfl ?_
    refine px_getR (r := 50) rfl gS_49 rfl (gR_49_0 _) ?_
    refine px_iload_n (kk := 1) rfl rfl rfl ?_
    refine px_ialde (j := b) (v := nI 4) rfl gS_50 rfl (by omega) ((by rw [p_up_n _ _ (by decide), p_up_n _ _ (by decide)]; exact hk : va_up (va_up I 49 (va_up (I 49) 3 (nI 0))) 49 (va_up ((va_up I 49 (va_up (I 49) 3 (nI 0))) 49) 4 (nI b)) 50 b = nI 4)) ?_
    refine px_iload_n (kk := 2) rfl rfl rfl ?_
    refine px_iload_n (kk := 3) rfl rfl rfl ?_
    refine px_iconst (v := nI 0) rfl k_0 ?_
    refine px_callV0 CX0_runFrom [] [.int _, .int _, .int _, .int _] (vX0_rf_4_4_3 (I := va_up (va_up I 49 (va_up (I 49) 3 (nI 0))) 49 (va_up ((va_up I 49 (va_up (I 49) 3 (nI 0))) 49) 4 (nI b))) (nm := b) (by omega) (by rw [p_up_s, p_up_s]) (by rw [p_up_n _ _ (by decide), p_up_n _ _ (by decide)]; exact hk) hro (t := (I 51, 0)) ⟨Fr_rf, fun _ _ => rfl, by rw [p_up_s, p_up_n _ _ (by decide), p_up_s, p_up_s], by rw [p_up_n _ _ (by decide), p_up_n _ _ (by decide)]⟩ (show (0 : Nat) < _ from by decide) (by decide)) rfl gS_49 (by decide) rfl rfl rfl (Nat.le_of_ble_eq_true rfl) (by decide) ?_
    rintro _ _ - ⟨rfl, I2, rfl, hB2⟩
    refine px_ireturn rfl (.inl rfl) ?_
    refine ⟨rfl, I2, rfl, fun c hc => ?_, ?_, hB2.2.2.1, hB2.2.2.2⟩
    · rw [hB2.1 c hc, p_up_n _ _ (fun e => hc (by rw [e]; decide)), p_up_n _ _ (fun e => hc (by rw [e]; decide))]
    · rw [hB2.2.1 2 (by decide), p_up_s, p_up_n _ _ (by decide), p_up_s, p_up_n _ _ (by decide)]
  · exact absurd ⟨b, hb, rfl⟩ h
theorem vX0_perf_5_0 {I : Nat → Nat → Int32} {J : Nat → Nat → Int64} {p : Bool × Option Nat} {ro : List (Nat × Nat × (Nat → Int32))} {z : Nat} (hz : I 49 2 = nI z) (hz50 : z ≤ 50) {b : Nat} (hb : b < z) (hk : I 50 b = nI 5) (hro : RO ro) {x : Int32} : Pv 14 0 0 CX0_perform [.ref (49), .int (nI b), .int (nI 0), .int (x)] (gS, I, J, gR p, ro) (fun r S' => r = some (.int (sp_act 5 0 (nI b) x)) ∧ ∃ I', S' = (gS, I', J, gR p, ro) ∧ Fr [49, 51] I I' ∧ I' 49 2 = I 49 2 ∧ I' 49 3 = nI (sp_nts (I 51, 0) (sp_atr 5 0)).2 ∧ I' 51 = (sp_nts (I 51, 0) (sp_atr 5 0)).1) := by
  refine ⟨okCX0_perform, Nat.le_of_ble_eq_true rfl, (show Px _ _ _ _ 0 [some (.ref (49)), some (.int (nI b)), some (.int (nI 0)), some (.int (x))] [] _ _ from ?_)⟩
  refine px_aload_n (kk := 0) rfl rfl rfl ?_
  refine px_iconst (v := nI 0) rfl k_0 ?_
  refine px_putI rfl gS_49 rfl rfl ?_
  refine px_aload_n (kk := 0) rfl rfl rfl ?_
  refine px_iload_n (kk := 1) rfl rfl rfl ?_
  refine px_callV0 CX0_isBody [] [.int _] (vX0_isBody (by rw [p_up_s, p_up_n _ _ (by decide)]; exact hz) hz50) rfl gS_49 (by decide) rfl rfl rfl (Nat.le_of_ble_eq_true rfl) (by decide) ?_
  rintro _ _ - (⟨h, rfl, rfl⟩ | ⟨h, rfl, rfl⟩)
  · refine px_if_eq rfl (fun h => absurd h (by decide)) (fun _ => ?_)
    refine px_iload_n (kk := 2) rfl rfl rfl ?_
    refine px_if_lt rfl (fun h => absurd h (by decide)) (fun _ => ?_)
    refine px_iload_n (kk := 2) rfl rfl rfl ?_
    refine px_iconst (v := nI 4) rfl k_4 ?_
    refine px_icmp_lt rfl (fun _ => ?_) (fun h => absurd h (by decide))
    refine px_aload_n (kk := 0) rfl rfl rfl ?_
    refine px_iload_n (kk := 1) rfl rfl rfl ?_
    refine px_putI rfl gS_49 rfl rfl ?_
    refine px_aload_n (kk := 0) rfl rfl rfl ?_
    refine px_aload_n (kk := 0) rfl rfl rfl ?_
    refine px_getR (r := 50) rfl gS_49 rfl (gR_49_0 _) ?_
    refine px_iload_n (kk := 1) rfl rfl rfl ?_
    refine px_ialde (j := b) (v := nI 5) rfl gS_50 rfl (by omega) ((by rw [p_up_n _ _ (by decide), p_up_n _ _ (by decide)]; exact hk : va_up (va_up I 49 (va_up (I 49) 3 (nI 0))) 49 (va_up ((va_up I 49 (va_up (I 49) 3 (nI 0))) 49) 4 (nI b)) 50 b = nI 5)) ?_
    refine px_iload_n (kk := 2) rfl rfl rfl ?_
    refine px_iload_n (kk := 3) rfl rfl rfl ?_
    refine px_iconst (v := nI 0) rfl k_0 ?_
    refine px_callV0 CX0_runFrom [] [.int _, .int _, .int _, .int _] (vX0_rf_5_5_0 (I := va_up (va_up I 49 (va_up (I 49) 3 (nI 0))) 49 (va_up ((va_up I 49 (va_up (I 49) 3 (nI 0))) 49) 4 (nI b))) (nm := b) (by omega) (by rw [p_up_s, p_up_s]) (by rw [p_up_n _ _ (by decide), p_up_n _ _ (by decide)]; exact hk) hro (t := (I 51, 0)) ⟨Fr_rf, fun _ _ => rfl, by rw [p_up_s, p_up_n _ _ (by decide), p_up_s, p_up_s], by rw [p_up_n _ _ (by decide), p_up_n _ _ (by decide)]⟩ (show (0 : Nat) < _ from by decide) (by decide)) rfl gS_49 (by decide) rfl rfl rfl (Nat.le_of_ble_eq_true rfl) (by decide) ?_
    rintro _ _ - ⟨rfl, I2, rfl, hB2⟩
    refine px_ireturn rfl (.inl rfl) ?_
    refine ⟨rfl, I2, rfl, fun c hc => ?_, ?_, hB2.2.2.1, hB2.2.2.2⟩
    · rw [hB2.1 c hc, p_up_n _ _ (fun e => hc (by rw [e]; decide)), p_up_n _ _ (fun e => hc (by rw [e]; decide))]
    · rw [hB2.2.1 2 (by decide), p_up_s, p_up_n _ _ (by decide), p_up_s, p_up_n _ _ (by decide)]
  · exact absurd ⟨b, hb, rfl⟩ h
theorem vX0_perf_5_1 {I : Nat → Nat → Int32} {J : Nat → Nat → Int64} {p : Bool × Option Nat} {ro : List (Nat × Nat × (Nat → Int32))} {z : Nat} (hz : I 49 2 = nI z) (hz50 : z ≤ 50) {b : Nat} (hb : b < z) (hk : I 50 b = nI 5) (hro : RO ro) {x : Int32} : Pv 14 0 0 CX0_perform [.ref (49), .int (nI b), .int (nI 1), .int (x)] (gS, I, J, gR p, ro) (fun r S' => r = some (.int (sp_act 5 1 (nI b) x)) ∧ ∃ I', S' = (gS, I', J, gR p, ro) ∧ Fr [49, 51] I I' ∧ I' 49 2 = I 49 2 ∧ I' 49 3 = nI (sp_nts (I 51, 0) (sp_atr 5 1)).2 ∧ I' 51 = (sp_nts (I 51, 0) (sp_atr 5 1)).1) := by
  refine ⟨okCX0_perform, Nat.le_of_ble_eq_true rfl, (show Px _ _ _ _ 0 [some (.ref (49)), some (.int (nI b)), some (.int (nI 1)), some (.int (x))] [] _ _ from ?_)⟩
  refine px_aload_n (kk := 0) rfl rfl rfl ?_
  refine px_iconst (v := nI 0) rfl k_0 ?_
  refine px_putI rfl gS_49 rfl rfl ?_
  refine px_aload_n (kk := 0) rfl rfl rfl ?_
  refine px_iload_n (kk := 1) rfl rfl rfl ?_
  refine px_callV0 CX0_isBody [] [.int _] (vX0_isBody (by rw [p_up_s, p_up_n _ _ (by decide)]; exact hz) hz50) rfl gS_49 (by decide) rfl rfl rfl (Nat.le_of_ble_eq_true rfl) (by decide) ?_
  rintro _ _ - (⟨h, rfl, rfl⟩ | ⟨h, rfl, rfl⟩)
  · refine px_if_eq rfl (fun h => absurd h (by decide)) (fun _ => ?_)
    refine px_iload_n (kk := 2) rfl rfl rfl ?_
    refine px_if_lt rfl (fun h => absurd h (by decide)) (fun _ => ?_)
    refine px_iload_n (kk := 2) rfl rfl rfl ?_
    refine px_iconst (v := nI 4) rfl k_4 ?_
    refine px_icmp_lt rfl (fun _ => ?_) (fun h => absurd h (by decide))
    refine px_aload_n (kk := 0) rfl rfl rfl ?_
    refine px_iload_n (kk := 1) rfl rfl rfl ?_
    refine px_putI rfl gS_49 rfl rfl ?_
    refine px_aload_n (kk := 0) rfl rfl rfl ?_
    refine px_aload_n (kk := 0) rfl rfl rfl ?_
    refine px_getR (r := 50) rfl gS_49 rfl (gR_49_0 _) ?_
    refine px_iload_n (kk := 1) rfl rfl rfl ?_
    refine px_ialde (j := b) (v := nI 5) rfl gS_50 rfl (by omega) ((by rw [p_up_n _ _ (by decide), p_up_n _ _ (by decide)]; exact hk : va_up (va_up I 49 (va_up (I 49) 3 (nI 0))) 49 (va_up ((va_up I 49 (va_up (I 49) 3 (nI 0))) 49) 4 (nI b)) 50 b = nI 5)) ?_
    refine px_iload_n (kk := 2) rfl rfl rfl ?_
    refine px_iload_n (kk := 3) rfl rfl rfl ?_
    refine px_iconst (v := nI 0) rfl k_0 ?_
    refine px_callV0 CX0_runFrom [] [.int _, .int _, .int _, .int _] (vX0_rf_5_5_1 (I := va_up (va_up I 49 (va_up (I 49) 3 (nI 0))) 49 (va_up ((va_up I 49 (va_up (I 49) 3 (nI 0))) 49) 4 (nI b))) (nm := b) (by omega) (by rw [p_up_s, p_up_s]) (by rw [p_up_n _ _ (by decide), p_up_n _ _ (by decide)]; exact hk) hro (t := (I 51, 0)) ⟨Fr_rf, fun _ _ => rfl, by rw [p_up_s, p_up_n _ _ (by decide), p_up_s, p_up_s], by rw [p_up_n _ _ (by decide), p_up_n _ _ (by decide)]⟩ (show (0 : Nat) < _ from by decide) (by decide)) rfl gS_49 (by decide) rfl rfl rfl (Nat.le_of_ble_eq_true rfl) (by decide) ?_
    rintro _ _ - ⟨rfl, I2, rfl, hB2⟩
    refine px_ireturn rfl (.inl rfl) ?_
    refine ⟨rfl, I2, rfl, fun c hc => ?_, ?_, hB2.2.2.1, hB2.2.2.2⟩
    · rw [hB2.1 c hc, p_up_n _ _ (fun e => hc (by rw [e]; decide)), p_up_n _ _ (fun e => hc (by rw [e]; decide))]
    · rw [hB2.2.1 2 (by decide), p_up_s, p_up_n _ _ (by decide), p_up_s, p_up_n _ _ (by decide)]
  · exact absurd ⟨b, hb, rfl⟩ h
theorem vX0_perf_5_2 {I : Nat → Nat → Int32} {J : Nat → Nat → Int64} {p : Bool × Option Nat} {ro : List (Nat × Nat × (Nat → Int32))} {z : Nat} (hz : I 49 2 = nI z) (hz50 : z ≤ 50) {b : Nat} (hb : b < z) (hk : I 50 b = nI 5) (hro : RO ro) {x : Int32} : Pv 14 0 0 CX0_perform [.ref (49), .int (nI b), .int (nI 2), .int (x)] (gS, I, J, gR p, ro) (fun r S' => r = some (.int (sp_act 5 2 (nI b) x)) ∧ ∃ I', S' = (gS, I', J, gR p, ro) ∧ Fr [49, 51] I I' ∧ I' 49 2 = I 49 2 ∧ I' 49 3 = nI (sp_nts (I 51, 0) (sp_atr 5 2)).2 ∧ I' 51 = (sp_nts (I 51, 0) (sp_atr 5 2)).1) := by
  refine ⟨okCX0_perform, Nat.le_of_ble_eq_true rfl, (show Px _ _ _ _ 0 [some (.ref (49)), some (.int (nI b)), some (.int (nI 2)), some (.int (x))] [] _ _ from ?_)⟩
  refine px_aload_n (kk := 0) rfl rfl rfl ?_
  refine px_iconst (v := nI 0) rfl k_0 ?_
  refine px_putI rfl gS_49 rfl rfl ?_
  refine px_aload_n (kk := 0) rfl rfl rfl ?_
  refine px_iload_n (kk := 1) rfl rfl rfl ?_
  refine px_callV0 CX0_isBody [] [.int _] (vX0_isBody (by rw [p_up_s, p_up_n _ _ (by decide)]; exact hz) hz50) rfl gS_49 (by decide) rfl rfl rfl (Nat.le_of_ble_eq_true rfl) (by decide) ?_
  rintro _ _ - (⟨h, rfl, rfl⟩ | ⟨h, rfl, rfl⟩)
  · refine px_if_eq rfl (fun h => absurd h (by decide)) (fun _ => ?_)
    refine px_iload_n (kk := 2) rfl rfl rfl ?_
    refine px_if_lt rfl (fun h => absurd h (by decide)) (fun _ => ?_)
    refine px_iload_n (kk := 2) rfl rfl rfl ?_
    refine px_iconst (v := nI 4) rfl k_4 ?_
    refine px_icmp_lt rfl (fun _ => ?_) (fun h => absurd h (by decide))
    refine px_aload_n (kk := 0) rfl rfl rfl ?_
    refine px_iload_n (kk := 1) rfl rfl rfl ?_
    refine px_putI rfl gS_49 rfl rfl ?_
    refine px_aload_n (kk := 0) rfl rfl rfl ?_
    refine px_aload_n (kk := 0) rfl rfl rfl ?_
    refine px_getR (r := 50) rfl gS_49 rfl (gR_49_0 _) ?_
    refine px_iload_n (kk := 1) rfl rfl rfl ?_
    refine px_ialde (j := b) (v := nI 5) rfl gS_50 rfl (by omega) ((by rw [p_up_n _ _ (by decide), p_up_n _ _ (by decide)]; exact hk : va_up (va_up I 49 (va_up (I 49) 3 (nI 0))) 49 (va_up ((va_up I 49 (va_up (I 49) 3 (nI 0))) 49) 4 (nI b)) 50 b = nI 5)) ?_
    refine px_iload_n (kk := 2) rfl rfl rfl ?_
    refine px_iload_n (kk := 3) rfl rfl rfl ?_
    refine px_iconst (v := nI 0) rfl k_0 ?_
    refine px_callV0 CX0_runFrom [] [.int _, .int _, .int _, .int _] (vX0_rf_5_5_2 (I := va_up (va_up I 49 (va_up (I 49) 3 (nI 0))) 49 (va_up ((va_up I 49 (va_up (I 49) 3 (nI 0))) 49) 4 (nI b))) (nm := b) (by omega) (by rw [p_up_s, p_up_s]) (by rw [p_up_n _ _ (by decide), p_up_n _ _ (by decide)]; exact hk) hro (t := (I 51, 0)) ⟨Fr_rf, fun _ _ => rfl, by rw [p_up_s, p_up_n _ _ (by decide), p_up_s, p_up_s], by rw [p_up_n _ _ (by decide), p_up_n _ _ (by decide)]⟩ (show (0 : Nat) < _ from by decide) (by decide)) rfl gS_49 (by decide) rfl rfl rfl (Nat.le_of_ble_eq_true rfl) (by decide) ?_
    rintro _ _ - ⟨rfl, I2, rfl, hB2⟩
    refine px_ireturn rfl (.inl rfl) ?_
    refine ⟨rfl, I2, rfl, fun c hc => ?_, ?_, hB2.2.2.1, hB2.2.2.2⟩
    · rw [hB2.1 c hc, p_up_n _ _ (fun e => hc (by rw [e]; decide)), p_up_n _ _ (fun e => hc (by rw [e]; decide))]
    · rw [hB2.2.1 2 (by decide), p_up_s, p_up_n _ _ (by decide), p_up_s, p_up_n _ _ (by decide)]
  · exact absurd ⟨b, hb, rfl⟩ h
theorem vX0_perf_5_3 {I : Nat → Nat → Int32} {J : Nat → Nat → Int64} {p : Bool × Option Nat} {ro : List (Nat × Nat × (Nat → Int32))} {z : Nat} (hz : I 49 2 = nI z) (hz50 : z ≤ 50) {b : Nat} (hb : b < z) (hk : I 50 b = nI 5) (hro : RO ro) {x : Int32} : Pv 14 0 0 CX0_perform [.ref (49), .int (nI b), .int (nI 3), .int (x)] (gS, I, J, gR p, ro) (fun r S' => r = some (.int (sp_act 5 3 (nI b) x)) ∧ ∃ I', S' = (gS, I', J, gR p, ro) ∧ Fr [49, 51] I I' ∧ I' 49 2 = I 49 2 ∧ I' 49 3 = nI (sp_nts (I 51, 0) (sp_atr 5 3)).2 ∧ I' 51 = (sp_nts (I 51, 0) (sp_atr 5 3)).1) := by
  refine ⟨okCX0_perform, Nat.le_of_ble_eq_true rfl, (show Px _ _ _ _ 0 [some (.ref (49)), some (.int (nI b)), some (.int (nI 3)), some (.int (x))] [] _ _ from ?_)⟩
  refine px_aload_n (kk := 0) rfl rfl rfl ?_
  refine px_iconst (v := nI 0) rfl k_0 ?_
  refine px_putI rfl gS_49 rfl rfl ?_
  refine px_aload_n (kk := 0) rfl rfl rfl ?_
  refine px_iload_n (kk := 1) rfl rfl rfl ?_
  refine px_callV0 CX0_isBody [] [.int _] (vX0_isBody (by rw [p_up_s, p_up_n _ _ (by decide)]; exact hz) hz50) rfl gS_49 (by decide) rfl rfl rfl (Nat.le_of_ble_eq_true rfl) (by decide) ?_
  rintro _ _ - (⟨h, rfl, rfl⟩ | ⟨h, rfl, rfl⟩)
  · refine px_if_eq rfl (fun h => absurd h (by decide)) (fun _ => ?_)
    refine px_iload_n (kk := 2) rfl rfl rfl ?_
    refine px_if_lt rfl (fun h => absurd h (by decide)) (fun _ => ?_)
    refine px_iload_n (kk := 2) rfl rfl rfl ?_
    refine px_iconst (v := nI 4) rfl k_4 ?_
    refine px_icmp_lt rfl (fun _ => ?_) (fun h => absurd h (by decide))
    refine px_aload_n (kk := 0) rfl rfl rfl ?_
    refine px_iload_n (kk := 1) rfl rfl rfl ?_
    refine px_putI rfl gS_49 rfl rfl ?_
    refine px_aload_n (kk := 0) rfl rfl rfl ?_
    refine px_aload_n (kk := 0) rfl rfl rfl ?_
    refine px_getR (r := 50) rfl gS_49 rfl (gR_49_0 _) ?_
    refine px_iload_n (kk := 1) rfl rfl rfl ?_
    refine px_ialde (j := b) (v := nI 5) rfl gS_50 rfl (by omega) ((by rw [p_up_n _ _ (by decide), p_up_n _ _ (by decide)]; exact hk : va_up (va_up I 49 (va_up (I 49) 3 (nI 0))) 49 (va_up ((va_up I 49 (va_up (I 49) 3 (nI 0))) 49) 4 (nI b)) 50 b = nI 5)) ?_
    refine px_iload_n (kk := 2) rfl rfl rfl ?_
    refine px_iload_n (kk := 3) rfl rfl rfl ?_
    refine px_iconst (v := nI 0) rfl k_0 ?_
    refine px_callV0 CX0_runFrom [] [.int _, .int _, .int _, .int _] (vX0_rf_5_5_3 (I := va_up (va_up I 49 (va_up (I 49) 3 (nI 0))) 49 (va_up ((va_up I 49 (va_up (I 49) 3 (nI 0))) 49) 4 (nI b))) (nm := b) (by omega) (by rw [p_up_s, p_up_s]) (by rw [p_up_n _ _ (by decide), p_up_n _ _ (by decide)]; exact hk) hro (t := (I 51, 0)) ⟨Fr_rf, fun _ _ => rfl, by rw [p_up_s, p_up_n _ _ (by decide), p_up_s, p_up_s], by rw [p_up_n _ _ (by decide), p_up_n _ _ (by decide)]⟩ (show (0 : Nat) < _ from by decide) (by decide)) rfl gS_49 (by decide) rfl rfl rfl (Nat.le_of_ble_eq_true rfl) (by decide) ?_
    rintro _ _ - ⟨rfl, I2, rfl, hB2⟩
    refine px_ireturn rfl (.inl rfl) ?_
    refine ⟨rfl, I2, rfl, fun c hc => ?_, ?_, hB2.2.2.1, hB2.2.2.2⟩
    · rw [hB2.1 c hc, p_up_n _ _ (fun e => hc (by rw [e]; decide)), p_up_n _ _ (fun e => hc (by rw [e]; decide))]
    · rw [hB2.2.1 2 (by decide), p_up_s, p_up_n _ _ (by decide), p_up_s, p_up_n _ _ (by decide)]
  · exact absurd ⟨b, hb, rfl⟩ h
theorem vX0_perf_6_0 {I : Nat → Nat → Int32} {J : Nat → Nat → Int64} {p : Bool × Option Nat} {ro : List (Nat × Nat × (Nat → Int32))} {z : Nat} (hz : I 49 2 = nI z) (hz50 : z ≤ 50) {b : Nat} (hb : b < z) (hk : I 50 b = nI 6) (hro : RO ro) {x : Int32} : Pv 14 0 0 CX0_perform [.ref (49), .int (nI b), .int (nI 0), .int (x)] (gS, I, J, gR p, ro) (fun r S' => r = some (.int (sp_act 6 0 (nI b) x)) ∧ ∃ I', S' = (gS, I', J, gR p, ro) ∧ Fr [49, 51] I I' ∧ I' 49 2 = I 49 2 ∧ I' 49 3 = nI (sp_nts (I 51, 0) (sp_atr 6 0)).2 ∧ I' 51 = (sp_nts (I 51, 0) (sp_atr 6 0)).1) := by
  refine ⟨okCX0_perform, Nat.le_of_ble_eq_true rfl, (show Px _ _ _ _ 0 [some (.ref (49)), some (.int (nI b)), some (.int (nI 0)), some (.int (x))] [] _ _ from ?_)⟩
  refine px_aload_n (kk := 0) rfl rfl rfl ?_
  refine px_iconst (v := nI 0) rfl k_0 ?_
  refine px_putI rfl gS_49 rfl rfl ?_
  refine px_aload_n (kk := 0) rfl rfl rfl ?_
  refine px_iload_n (kk := 1) rfl rfl rfl ?_
  refine px_callV0 CX0_isBody [] [.int _] (vX0_isBody (by rw [p_up_s, p_up_n _ _ (by decide)]; exact hz) hz50) rfl gS_49 (by decide) rfl rfl rfl (Nat.le_of_ble_eq_true rfl) (by decide) ?_
  rintro _ _ - (⟨h, rfl, rfl⟩ | ⟨h, rfl, rfl⟩)
  · refine px_if_eq rfl (fun h => absurd h (by decide)) (fun _ => ?_)
    refine px_iload_n (kk := 2) rfl rfl rfl ?_
    refine px_if_lt rfl (fun h => absurd h (by decide)) (fun _ => ?_)
    refine px_iload_n (kk := 2) rfl rfl rfl ?_
    refine px_iconst (v := nI 4) rfl k_4 ?_
    refine px_icmp_lt rfl (fun _ => ?_) (fun h => absurd h (by decide))
    refine px_aload_n (kk := 0) rfl rfl rfl ?_
    refine px_iload_n (kk := 1) rfl rfl rfl ?_
    refine px_putI rfl gS_49 rfl rfl ?_
    refine px_aload_n (kk := 0) rfl rfl rfl ?_
    refine px_aload_n (kk := 0) rfl rfl rfl ?_
    refine px_getR (r := 50) rfl gS_49 rfl (gR_49_0 _) ?_
    refine px_iload_n (kk := 1) rfl rfl rfl ?_
    refine px_ialde (j := b) (v := nI 6) rfl gS_50 rfl (by omega) ((by rw [p_up_n _ _ (by decide), p_up_n _ _ (by decide)]; exact hk : va_up (va_up I 49 (va_up (I 49) 3 (nI 0))) 49 (va_up ((va_up I 49 (va_up (I 49) 3 (nI 0))) 49) 4 (nI b)) 50 b = nI 6)) ?_
    refine px_iload_n (kk := 2) rfl rfl rfl ?_
    refine px_iload_n (kk := 3) rfl rfl rfl ?_
    refine px_iconst (v := nI 0) rfl k_0 ?_
    refine px_callV0 CX0_runFrom [] [.int _, .int _, .int _, .int _] (vX0_rf_6_6_0 (I := va_up (va_up I 49 (va_up (I 49) 3 (nI 0))) 49 (va_up ((va_up I 49 (va_up (I 49) 3 (nI 0))) 49) 4 (nI b))) (nm := b) (by omega) (by rw [p_up_s, p_up_s]) (by rw [p_up_n _ _ (by decide), p_up_n _ _ (by decide)]; exact hk) hro (t := (I 51, 0)) ⟨Fr_rf, fun _ _ => rfl, by rw [p_up_s, p_up_n _ _ (by decide), p_up_s, p_up_s], by rw [p_up_n _ _ (by decide), p_up_n _ _ (by decide)]⟩ (show (0 : Nat) < _ from by decide) (by decide)) rfl gS_49 (by decide) rfl rfl rfl (Nat.le_of_ble_eq_true rfl) (by decide) ?_
    rintro _ _ - ⟨rfl, I2, rfl, hB2⟩
    refine px_ireturn rfl (.inl rfl) ?_
    refine ⟨rfl, I2, rfl, fun c hc => ?_, ?_, hB2.2.2.1, hB2.2.2.2⟩
    · rw [hB2.1 c hc, p_up_n _ _ (fun e => hc (by rw [e]; decide)), p_up_n _ _ (fun e => hc (by rw [e]; decide))]
    · rw [hB2.2.1 2 (by decide), p_up_s, p_up_n _ _ (by decide), p_up_s, p_up_n _ _ (by decide)]
  · exact absurd ⟨b, hb, rfl⟩ h
theorem vX0_perf_6_1 {I : Nat → Nat → Int32} {J : Nat → Nat → Int64} {p : Bool × Option Nat} {ro : List (Nat × Nat × (Nat → Int32))} {z : Nat} (hz : I 49 2 = nI z) (hz50 : z ≤ 50) {b : Nat} (hb : b < z) (hk : I 50 b = nI 6) (hro : RO ro) {x : Int32} : Pv 14 0 0 CX0_perform [.ref (49), .int (nI b), .int (nI 1), .int (x)] (gS, I, J, gR p, ro) (fun r S' => r = some (.int (sp_act 6 1 (nI b) x)) ∧ ∃ I', S' = (gS, I', J, gR p, ro) ∧ Fr [49, 51] I I' ∧ I' 49 2 = I 49 2 ∧ I' 49 3 = nI (sp_nts (I 51, 0) (sp_atr 6 1)).2 ∧ I' 51 = (sp_nts (I 51, 0) (sp_atr 6 1)).1) := by
  refine ⟨okCX0_perform, Nat.le_of_ble_eq_true rfl, (show Px _ _ _ _ 0 [some (.ref (49)), some (.int (nI b)), some (.int (nI 1)), some (.int (x))] [] _ _ from ?_)⟩
  refine px_aload_n (kk := 0) rfl rfl rfl ?_
  refine px_iconst (v := nI 0) rfl k_0 ?_
  refine px_putI rfl gS_49 rfl rfl ?_
  refine px_aload_n (kk := 0) rfl rfl rfl ?_
  refine px_iload_n (kk := 1) rfl rfl rfl ?_
  refine px_callV0 CX0_isBody [] [.int _] (vX0_isBody (by rw [p_up_s, p_up_n _ _ (by decide)]; exact hz) hz50) rfl gS_49 (by decide) rfl rfl rfl (Nat.le_of_ble_eq_true rfl) (by decide) ?_
  rintro _ _ - (⟨h, rfl, rfl⟩ | ⟨h, rfl, rfl⟩)
  · refine px_if_eq rfl (fun h => absurd h (by decide)) (fun _ => ?_)
    refine px_iload_n (kk := 2) rfl rfl rfl ?_
    refine px_if_lt rfl (fun h => absurd h (by decide)) (fun _ => ?_)
    refine px_iload_n (kk := 2) rfl rfl rfl ?_
    refine px_iconst (v := nI 4) rfl k_4 ?_
    refine px_icmp_lt rfl (fun _ => ?_) (fun h => absurd h (by decide))
    refine px_aload_n (kk := 0) rfl rfl rfl ?_
    refine px_iload_n (kk := 1) rfl rfl rfl ?_
    refine px_putI rfl gS_49 rfl rfl ?_
    refine px_aload_n (kk := 0) rfl rfl rfl ?_
    refine px_aload_n (kk := 0) rfl rfl rfl ?_
    refine px_getR (r := 50) rfl gS_49 rfl (gR_49_0 _) ?_
    refine px_iload_n (kk := 1) rfl rfl rfl ?_
    refine px_ialde (j := b) (v := nI 6) rfl gS_50 rfl (by omega) ((by rw [p_up_n _ _ (by decide), p_up_n _ _ (by decide)]; exact hk : va_up (va_up I 49 (va_up (I 49) 3 (nI 0))) 49 (va_up ((va_up I 49 (va_up (I 49) 3 (nI 0))) 49) 4 (nI b)) 50 b = nI 6)) ?_
    refine px_iload_n (kk := 2) rfl rfl rfl ?_
    refine px_iload_n (kk := 3) rfl rfl rfl ?_
    refine px_iconst (v := nI 0) rfl k_0 ?_
    refine px_callV0 CX0_runFrom [] [.int _, .int _, .int _, .int _] (vX0_rf_6_6_1 (I := va_up (va_up I 49 (va_up (I 49) 3 (nI 0))) 49 (va_up ((va_up I 49 (va_up (I 49) 3 (nI 0))) 49) 4 (nI b))) (nm := b) (by omega) (by rw [p_up_s, p_up_s]) (by rw [p_up_n _ _ (by decide), p_up_n _ _ (by decide)]; exact hk) hro (t := (I 51, 0)) ⟨Fr_rf, fun _ _ => rfl, by rw [p_up_s, p_up_n _ _ (by decide), p_up_s, p_up_s], by rw [p_up_n _ _ (by decide), p_up_n _ _ (by decide)]⟩ (show (0 : Nat) < _ from by decide) (by decide)) rfl gS_49 (by decide) rfl rfl rfl (Nat.le_of_ble_eq_true rfl) (by decide) ?_
    rintro _ _ - ⟨rfl, I2, rfl, hB2⟩
    refine px_ireturn rfl (.inl rfl) ?_
    refine ⟨rfl, I2, rfl, fun c hc => ?_, ?_, hB2.2.2.1, hB2.2.2.2⟩
    · rw [hB2.1 c hc, p_up_n _ _ (fun e => hc (by rw [e]; decide)), p_up_n _ _ (fun e => hc (by rw [e]; decide))]
    · rw [hB2.2.1 2 (by decide), p_up_s, p_up_n _ _ (by decide), p_up_s, p_up_n _ _ (by decide)]
  · exact absurd ⟨b, hb, rfl⟩ h
theorem vX0_perf_6_2 {I : Nat → Nat → Int32} {J : Nat → Nat → Int64} {p : Bool × Option Nat} {ro : List (Nat × Nat × (Nat → Int32))} {z : Nat} (hz : I 49 2 = nI z) (hz50 : z ≤ 50) {b : Nat} (hb : b < z) (hk : I 50 b = nI 6) (hro : RO ro) {x : Int32} : Pv 14 0 0 CX0_perform [.ref (49), .int (nI b), .int (nI 2), .int (x)] (gS, I, J, gR p, ro) (fun r S' => r = some (.int (sp_act 6 2 (nI b) x)) ∧ ∃ I', S' = (gS, I', J, gR p, ro) ∧ Fr [49, 51] I I' ∧ I' 49 2 = I 49 2 ∧ I' 49 3 = nI (sp_nts (I 51, 0) (sp_atr 6 2)).2 ∧ I' 51 = (sp_nts (I 51, 0) (sp_atr 6 2)).1) := by
  refine ⟨okCX0_perform, Nat.le_of_ble_eq_true rfl, (show Px _ _ _ _ 0 [some (.ref (49)), some (.int (nI b)), some (.int (nI 2)), some (.int (x))] [] _ _ from ?_)⟩
  refine px_aload_n (kk := 0) rfl rfl rfl ?_
  refine px_iconst (v := nI 0) rfl k_0 ?_
  refine px_putI rfl gS_49 rfl rfl ?_
  refine px_aload_n (kk := 0) rfl rfl rfl ?_
  refine px_iload_n (kk := 1) rfl rfl rfl ?_
  refine px_callV0 CX0_isBody [] [.int _] (vX0_isBody (by rw [p_up_s, p_up_n _ _ (by decide)]; exact hz) hz50) rfl gS_49 (by decide) rfl rfl rfl (Nat.le_of_ble_eq_true rfl) (by decide) ?_
  rintro _ _ - (⟨h, rfl, rfl⟩ | ⟨h, rfl, rfl⟩)
  · refine px_if_eq rfl (fun h => absurd h (by decide)) (fun _ => ?_)
    refine px_iload_n (kk := 2) rfl rfl rfl ?_
    refine px_if_lt rfl (fun h => absurd h (by decide)) (fun _ => ?_)
    refine px_iload_n (kk := 2) rfl rfl rfl ?_
    refine px_iconst (v := nI 4) rfl k_4 ?_
    refine px_icmp_lt rfl (fun _ => ?_) (fun h => absurd h (by decide))
    refine px_aload_n (kk := 0) rfl rfl rfl ?_
    refine px_iload_n (kk := 1) rfl rfl rfl ?_
    refine px_putI rfl gS_49 rfl rfl ?_
    refine px_aload_n (kk := 0) rfl rfl rfl ?_
    refine px_aload_n (kk := 0) rfl rfl rfl ?_
    refine px_getR (r := 50) rfl gS_49 rfl (gR_49_0 _) ?_
    refine px_iload_n (kk := 1) rfl rfl rfl ?_
    refine px_ialde (j := b) (v := nI 6) rfl gS_50 rfl (by omega) ((by rw [p_up_n _ _ (by decide), p_up_n _ _ (by decide)]; exact hk : va_up (va_up I 49 (va_up (I 49) 3 (nI 0))) 49 (va_up ((va_up I 49 (va_up (I 49) 3 (nI 0))) 49) 4 (nI b)) 50 b = nI 6)) ?_
    refine px_iload_n (kk := 2) rfl rfl rfl ?_
    refine px_iload_n (kk := 3) rfl rfl rfl ?_
    refine px_iconst (v := nI 0) rfl k_0 ?_
    refine px_callV0 CX0_runFrom [] [.int _, .int _, .int _, .int _] (vX0_rf_6_6_2 (I := va_up (va_up I 49 (va_up (I 49) 3 (nI 0))) 49 (va_up ((va_up I 49 (va_up (I 49) 3 (nI 0))) 49) 4 (nI b))) (nm := b) (by omega) (by rw [p_up_s, p_up_s]) (by rw [p_up_n _ _ (by decide), p_up_n _ _ (by decide)]; exact hk) hro (t := (I 51, 0)) ⟨Fr_rf, fun _ _ => rfl, by rw [p_up_s, p_up_n _ _ (by decide), p_up_s, p_up_s], by rw [p_up_n _ _ (by decide), p_up_n _ _ (by decide)]⟩ (show (0 : Nat) < _ from by decide) (by decide)) rfl gS_49 (by decide) rfl rfl rfl (Nat.le_of_ble_eq_true rfl) (by decide) ?_
    rintro _ _ - ⟨rfl, I2, rfl, hB2⟩
    refine px_ireturn rfl (.inl rfl) ?_
    refine ⟨rfl, I2, rfl, fun c hc => ?_, ?_, hB2.2.2.1, hB2.2.2.2⟩
    · rw [hB2.1 c hc, p_up_n _ _ (fun e => hc (by rw [e]; decide)), p_up_n _ _ (fun e => hc (by rw [e]; decide))]
    · rw [hB2.2.1 2 (by decide), p_up_s, p_up_n _ _ (by decide), p_up_s, p_up_n _ _ (by decide)]
  · exact absurd ⟨b, hb, rfl⟩ h
theorem vX0_perf_6_3 {I : Nat → Nat → Int32} {J : Nat → Nat → Int64} {p : Bool × Option Nat} {ro : List (Nat × Nat × (Nat → Int32))} {z : Nat} (hz : I 49 2 = nI z) (hz50 : z ≤ 50) {b : Nat} (hb : b < z) (hk : I 50 b = nI 6) (hro : RO ro) {x : Int32} : Pv 14 0 0 CX0_perform [.ref (49), .int (nI b), .int (nI 3), .int (x)] (gS, I, J, gR p, ro) (fun r S' => r = some (.int (sp_act 6 3 (nI b) x)) ∧ ∃ I', S' = (gS, I', J, gR p, ro) ∧ Fr [49, 51] I I' ∧ I' 49 2 = I 49 2 ∧ I' 49 3 = nI (sp_nts (I 51, 0) (sp_atr 6 3)).2 ∧ I' 51 = (sp_nts (I 51, 0) (sp_atr 6 3)).1) := by
  refine ⟨okCX0_perform, Nat.le_of_ble_eq_true rfl, (show Px _ _ _ _ 0 [some (.ref (49)), some (.int (nI b)), some (.int (nI 3)), some (.int (x))] [] _ _ from ?_)⟩
  refine px_aload_n (kk := 0) rfl rfl rfl ?_
  refine px_iconst (v := nI 0) rfl k_0 ?_
  refine px_putI rfl gS_49 rfl rfl ?_
  refine px_aload_n (kk := 0) rfl rfl rfl ?_
  refine px_iload_n (kk := 1) rfl rfl rfl ?_
  refine px_callV0 CX0_isBody [] [.int _] (vX0_isBody (by rw [p_up_s, p_up_n _ _ (by decide)]; exact hz) hz50) rfl gS_49 (by decide) rfl rfl rfl (Nat.le_of_ble_eq_true rfl) (by decide) ?_
  rintro _ _ - (⟨h, rfl, rfl⟩ | ⟨h, rfl, rfl⟩)
  · refine px_if_eq rfl (fun h => absurd h (by decide)) (fun _ => ?_)
    refine px_iload_n (kk := 2) rfl rfl rfl ?_
    refine px_if_lt rfl (fun h => absurd h (by decide)) (fun _ => ?_)
    refine px_iload_n (kk := 2) rfl rfl rfl ?_
    refine px_iconst (v := nI 4) rfl k_4 ?_
    refine px_icmp_lt rfl (fun _ => ?_) (fun h => absurd h (by decide))
    refine px_aload_n (kk := 0) rfl rfl rfl ?_
    refine px_iload_n (kk := 1) rfl rfl rfl ?_
    refine px_putI rfl gS_49 rfl rfl ?_
    refine px_aload_n (kk := 0) rfl rfl rfl ?_
    refine px_aload_n (kk := 0) rfl rfl rfl ?_
    refine px_getR (r := 50) rfl gS_49 rfl (gR_49_0 _) ?_
    refine px_iload_n (kk := 1) rfl rfl rfl ?_
    refine px_ialde (j := b) (v := nI 6) rfl gS_50 rfl (by omega) ((by rw [p_up_n _ _ (by decide), p_up_n _ _ (by decide)]; exact hk : va_up (va_up I 49 (va_up (I 49) 3 (nI 0))) 49 (va_up ((va_up I 49 (va_up (I 49) 3 (nI 0))) 49) 4 (nI b)) 50 b = nI 6)) ?_
    refine px_iload_n (kk := 2) rfl rfl rfl ?_
    refine px_iload_n (kk := 3) rfl rfl rfl ?_
    refine px_iconst (v := nI 0) rfl k_0 ?_
    refine px_callV0 CX0_runFrom [] [.int _, .int _, .int _, .int _] (vX0_rf_6_6_3 (I := va_up (va_up I 49 (va_up (I 49) 3 (nI 0))) 49 (va_up ((va_up I 49 (va_up (I 49) 3 (nI 0))) 49) 4 (nI b))) (nm := b) (by omega) (by rw [p_up_s, p_up_s]) (by rw [p_up_n _ _ (by decide), p_up_n _ _ (by decide)]; exact hk) hro (t := (I 51, 0)) ⟨Fr_rf, fun _ _ => rfl, by rw [p_up_s, p_up_n _ _ (by decide), p_up_s, p_up_s], by rw [p_up_n _ _ (by decide), p_up_n _ _ (by decide)]⟩ (show (0 : Nat) < _ from by decide) (by decide)) rfl gS_49 (by decide) rfl rfl rfl (Nat.le_of_ble_eq_true rfl) (by decide) ?_
    rintro _ _ - ⟨rfl, I2, rfl, hB2⟩
    refine px_ireturn rfl (.inl rfl) ?_
    refine ⟨rfl, I2, rfl, fun c hc => ?_, ?_, hB2.2.2.1, hB2.2.2.2⟩
    · rw [hB2.1 c hc, p_up_n _ _ (fun e => hc (by rw [e]; decide)), p_up_n _ _ (fun e => hc (by rw [e]; decide))]
    · rw [hB2.2.1 2 (by decide), p_up_s, p_up_n _ _ (by decide), p_up_s, p_up_n _ _ (by decide)]
  · exact absurd ⟨b, hb, rfl⟩ h
theorem vX0_perf_7_0 {I : Nat → Nat → Int32} {J : Nat → Nat → Int64} {p : Bool × Option Nat} {ro : List (Nat × Nat × (Nat → Int32))} {z : Nat} (hz : I 49 2 = nI z) (hz50 : z ≤ 50) {b : Nat} (hb : b < z) (hk : I 50 b = nI 7) (hro : RO ro) {x : Int32} : Pv 14 0 0 CX0_perform [.ref (49), .int (nI b), .int (nI 0), .int (x)] (gS, I, J, gR p, ro) (fun r S' => r = some (.int (sp_act 7 0 (nI b) x)) ∧ ∃ I', S' = (gS, I', J, gR p, ro) ∧ Fr [49, 51] I I' ∧ I' 49 2 = I 49 2 ∧ I' 49 3 = nI (sp_nts (I 51, 0) (sp_atr 7 0)).2 ∧ I' 51 = (sp_nts (I 51, 0) (sp_atr 7 0)).1) := by
  refine ⟨okCX0_perform, Nat.le_of_ble_eq_true rfl, (show Px _ _ _ _ 0 [some (.ref (49)), some (.int (nI b)), some (.int (nI 0)), some (.int (x))] [] _ _ from ?_)⟩
  refine px_aload_n (kk := 0) rfl rfl rfl ?_
  refine px_iconst (v := nI 0) rfl k_0 ?_
  refine px_putI rfl gS_49 rfl rfl ?_
  refine px_aload_n (kk := 0) rfl rfl rfl ?_
  refine px_iload_n (kk := 1) rfl rfl rfl ?_
  refine px_callV0 CX0_isBody [] [.int _] (vX0_isBody (by rw [p_up_s, p_up_n _ _ (by decide)]; exact hz) hz50) rfl gS_49 (by decide) rfl rfl rfl (Nat.le_of_ble_eq_true rfl) (by decide) ?_
  rintro _ _ - (⟨h, rfl, rfl⟩ | ⟨h, rfl, rfl⟩)
  · refine px_if_eq rfl (fun h => absurd h (by decide)) (fun _ => ?_)
    refine px_iload_n (kk := 2) rfl rfl rfl ?_
    refine px_if_lt rfl (fun h => absurd h (by decide)) (fun _ => ?_)
    refine px_iload_n (kk := 2) rfl rfl rfl ?_
    refine px_iconst (v := nI 4) rfl k_4 ?_
    refine px_icmp_lt rfl (fun _ => ?_) (fun h => absurd h (by decide))
    refine px_aload_n (kk := 0) rfl rfl rfl ?_
    refine px_iload_n (kk := 1) rfl rfl rfl ?_
    refine px_putI rfl gS_49 rfl rfl ?_
    refine px_aload_n (kk := 0) rfl rfl rfl ?_
    refine px_aload_n (kk := 0) rfl rfl rfl ?_
    refine px_getR (r := 50) rfl gS_49 rfl (gR_49_0 _) ?_
    refine px_iload_n (kk := 1) rfl rfl rfl ?_
    refine px_ialde (j := b) (v := nI 7) rfl gS_50 rfl (by omega) ((by rw [p_up_n _ _ (by decide), p_up_n _ _ (by decide)]; exact hk : va_up (va_up I 49 (va_up (I 49) 3 (nI 0))) 49 (va_up ((va_up I 49 (va_up (I 49) 3 (nI 0))) 49) 4 (nI b)) 50 b = nI 7)) ?_
    refine px_iload_n (kk := 2) rfl rfl rfl ?_
    refine px_iload_n (kk := 3) rfl rfl rfl ?_
    refine px_iconst (v := nI 0) rfl k_0 ?_
    refine px_callV0 CX0_runFrom [] [.int _, .int _, .int _, .int _] (vX0_rf_7_7_0 (I := va_up (va_up I 49 (va_up (I 49) 3 (nI 0))) 49 (va_up ((va_up I 49 (va_up (I 49) 3 (nI 0))) 49) 4 (nI b))) (nm := b) (by omega) (by rw [p_up_s, p_up_s]) (by rw [p_up_n _ _ (by decide), p_up_n _ _ (by decide)]; exact hk) hro (t := (I 51, 0)) ⟨Fr_rf, fun _ _ => rfl, by rw [p_up_s, p_up_n _ _ (by decide), p_up_s, p_up_s], by rw [p_up_n _ _ (by decide), p_up_n _ _ (by decide)]⟩ (show (0 : Nat) < _ from by decide) (by decide)) rfl gS_49 (by decide) rfl rfl rfl (Nat.le_of_ble_eq_true rfl) (by decide) ?_
    rintro _ _ - ⟨rfl, I2, rfl, hB2⟩
    refine px_ireturn rfl (.inl rfl) ?_
    refine ⟨rfl, I2, rfl, fun c hc => ?_, ?_, hB2.2.2.1, hB2.2.2.2⟩
    · rw [hB2.1 c hc, p_up_n _ _ (fun e => hc (by rw [e]; decide)), p_up_n _ _ (fun e => hc (by rw [e]; decide))]
    · rw [hB2.2.1 2 (by decide), p_up_s, p_up_n _ _ (by decide), p_up_s, p_up_n _ _ (by decide)]
  · exact absurd ⟨b, hb, rfl⟩ h
theorem vX0_perf_7_1 {I : Nat → Nat → Int32} {J : Nat → Nat → Int64} {p : Bool × Option Nat} {ro : List (Nat × Nat × (Nat → Int32))} {z : Nat} (hz : I 49 2 = nI z) (hz50 : z ≤ 50) {b : Nat} (hb : b < z) (hk : I 50 b = nI 7) (hro : RO ro) {x : Int32} : Pv 14 0 0 CX0_perform [.ref (49), .int (nI b), .int (nI 1), .int (x)] (gS, I, J, gR p, ro) (fun r S' => r = some (.int (sp_act 7 1 (nI b) x)) ∧ ∃ I', S' = (gS, I', J, gR p, ro) ∧ Fr [49, 51] I I' ∧ I' 49 2 = I 49 2 ∧ I' 49 3 = nI (sp_nts (I 51, 0) (sp_atr 7 1)).2 ∧ I' 51 = (sp_nts (I 51, 0) (sp_atr 7 1)).1) := by
  refine ⟨okCX0_perform, Nat.le_of_ble_eq_true rfl, (show Px _ _ _ _ 0 [some (.ref (49)), some (.int (nI b)), some (.int (nI 1)), some (.int (x))] [] _ _ from ?_)⟩
  refine px_aload_n (kk := 0) rfl rfl rfl ?_
  refine px_iconst (v := nI 0) rfl k_0 ?_
  refine px_putI rfl gS_49 rfl rfl ?_
  refine px_aload_n (kk := 0) rfl rfl rfl ?_
  refine px_iload_n (kk := 1) rfl rfl rfl ?_
  refine px_callV0 CX0_isBody [] [.int _] (vX0_isBody (by rw [p_up_s, p_up_n _ _ (by decide)]; exact hz) hz50) rfl gS_49 (by decide) rfl rfl rfl (Nat.le_of_ble_eq_true rfl) (by decide) ?_
  rintro _ _ - (⟨h, rfl, rfl⟩ | ⟨h, rfl, rfl⟩)
  · refine px_if_eq rfl (fun h => absurd h (by decide)) (fun _ => ?_)
    refine px_iload_n (kk := 2) rfl rfl rfl ?_
    refine px_if_lt rfl (fun h => absurd h (by decide)) (fun _ => ?_)
    refine px_iload_n (kk := 2) rfl rfl rfl ?_
    refine px_iconst (v := nI 4) rfl k_4 ?_
    refine px_icmp_lt rfl (fun _ => ?_) (fun h => absurd h (by decide))
    refine px_aload_n (kk := 0) rfl rfl rfl ?_
    refine px_iload_n (kk := 1) rfl rfl rfl ?_
    refine px_putI rfl gS_49 rfl rfl ?_
    refine px_aload_n (kk := 0) rfl rfl rfl ?_
    refine px_aload_n (kk := 0) rfl rfl rfl ?_
    refine px_getR (r := 50) rfl gS_49 rfl (gR_49_0 _) ?_
    refine px_iload_n (kk := 1) rfl rfl rfl ?_
    refine px_ialde (j := b) (v := nI 7) rfl gS_50 rfl (by omega) ((by rw [p_up_n _ _ (by decide), p_up_n _ _ (by decide)]; exact hk : va_up (va_up I 49 (va_up (I 49) 3 (nI 0))) 49 (va_up ((va_up I 49 (va_up (I 49) 3 (nI 0))) 49) 4 (nI b)) 50 b = nI 7)) ?_
    refine px_iload_n (kk := 2) rfl rfl rfl ?_
    refine px_iload_n (kk := 3) rfl rfl rfl ?_
    refine px_iconst (v := nI 0) rfl k_0 ?_
    refine px_callV0 CX0_runFrom [] [.int _, .int _, .int _, .int _] (vX0_rf_7_7_1 (I := va_up (va_up I 49 (va_up (I 49) 3 (nI 0))) 49 (va_up ((va_up I 49 (va_up (I 49) 3 (nI 0))) 49) 4 (nI b))) (nm := b) (by omega) (by rw [p_up_s, p_up_s]) (by rw [p_up_n _ _ (by decide), p_up_n _ _ (by decide)]; exact hk) hro (t := (I 51, 0)) ⟨Fr_rf, fun _ _ => rfl, by rw [p_up_s, p_up_n _ _ (by decide), p_up_s, p_up_s], by rw [p_up_n _ _ (by decide), p_up_n _ _ (by decide)]⟩ (show (0 : Nat) < _ from by decide) (by decide)) rfl gS_49 (by decide) rfl rfl rfl (Nat.le_of_ble_eq_true rfl) (by decide) ?_
    rintro _ _ - ⟨rfl, I2, rfl, hB2⟩
    refine px_ireturn rfl (.inl rfl) ?_
    refine ⟨rfl, I2, rfl, fun c hc => ?_, ?_, hB2.2.2.1, hB2.2.2.2⟩
    · rw [hB2.1 c hc, p_up_n _ _ (fun e => hc (by rw [e]; decide)), p_up_n _ _ (fun e => hc (by rw [e]; decide))]
    · rw [hB2.2.1 2 (by decide), p_up_s, p_up_n _ _ (by decide), p_up_s, p_up_n _ _ (by decide)]
  · exact absurd ⟨b, hb, rfl⟩ h
theorem vX0_perf_7_2 {I : Nat → Nat → Int32} {J : Nat → Nat → Int64} {p : Bool × Option Nat} {ro : List (Nat × Nat × (Nat → Int32))} {z : Nat} (hz : I 49 2 = nI z) (hz50 : z ≤ 50) {b : Nat} (hb : b < z) (hk : I 50 b = nI 7) (hro : RO ro) {x : Int32} : Pv 14 0 0 CX0_perform [.ref (49), .int (nI b), .int (nI 2), .int (x)] (gS, I, J, gR p, ro) (fun r S' => r = some (.int (sp_act 7 2 (nI b) x)) ∧ ∃ I', S' = (gS, I', J, gR p, ro) ∧ Fr [49, 51] I I' ∧ I' 49 2 = I 49 2 ∧ I' 49 3 = nI (sp_nts (I 51, 0) (sp_atr 7 2)).2 ∧ I' 51 = (sp_nts (I 51, 0) (sp_atr 7 2)).1) := by
  refine ⟨okCX0_perform, Nat.le_of_ble_eq_true rfl, (show Px _ _ _ _ 0 [some (.ref (49)), some (.int (nI b)), some (.int (nI 2)), some (.int (x))] [] _ _ from ?_)⟩
  refine px_aload_n (kk := 0) rfl rfl rfl ?_
  refine px_iconst (v := nI 0) rfl k_0 ?_
  refine px_putI rfl gS_49 rfl rfl ?_
  refine px_aload_n (kk := 0) rfl rfl rfl ?_
  refine px_iload_n (kk := 1) rfl rfl rfl ?_
  refine px_callV0 CX0_isBody [] [.int _] (vX0_isBody (by rw [p_up_s, p_up_n _ _ (by decide)]; exact hz) hz50) rfl gS_49 (by decide) rfl rfl rfl (Nat.le_of_ble_eq_true rfl) (by decide) ?_
  rintro _ _ - (⟨h, rfl, rfl⟩ | ⟨h, rfl, rfl⟩)
  · refine px_if_eq rfl (fun h => absurd h (by decide)) (fun _ => ?_)
    refine px_iload_n (kk := 2) rfl rfl rfl ?_
    refine px_if_lt rfl (fun h => absurd h (by decide)) (fun _ => ?_)
    refine px_iload_n (kk := 2) rfl rfl rfl ?_
    refine px_iconst (v := nI 4) rfl k_4 ?_
    refine px_icmp_lt rfl (fun _ => ?_) (fun h => absurd h (by decide))
    refine px_aload_n (kk := 0) rfl rfl rfl ?_
    refine px_iload_n (kk := 1) rfl rfl rfl ?_
    refine px_putI rfl gS_49 rfl rfl ?_
    refine px_aload_n (kk := 0) rfl rfl rfl ?_
    refine px_aload_n (kk := 0) rfl rfl rfl ?_
    refine px_getR (r := 50) rfl gS_49 rfl (gR_49_0 _) ?_
    refine px_iload_n (kk := 1) rfl rfl rfl ?_
    refine px_ialde (j := b) (v := nI 7) rfl gS_50 rfl (by omega) ((by rw [p_up_n _ _ (by decide), p_up_n _ _ (by decide)]; exact hk : va_up (va_up I 49 (va_up (I 49) 3 (nI 0))) 49 (va_up ((va_up I 49 (va_up (I 49) 3 (nI 0))) 49) 4 (nI b)) 50 b = nI 7)) ?_
    refine px_iload_n (kk := 2) rfl rfl rfl ?_
    refine px_iload_n (kk := 3) rfl rfl rfl ?_
    refine px_iconst (v := nI 0) rfl k_0 ?_
    refine px_callV0 CX0_runFrom [] [.int _, .int _, .int _, .int _] (vX0_rf_7_7_2 (I := va_up (va_up I 49 (va_up (I 49) 3 (nI 0))) 49 (va_up ((va_up I 49 (va_up (I 49) 3 (nI 0))) 49) 4 (nI b))) (nm := b) (by omega) (by rw [p_up_s, p_up_s]) (by rw [p_up_n _ _ (by decide), p_up_n _ _ (by decide)]; exact hk) hro (t := (I 51, 0)) ⟨Fr_rf, fun _ _ => rfl, by rw [p_up_s, p_up_n _ _ (by decide), p_up_s, p_up_s], by rw [p_up_n _ _ (by decide), p_up_n _ _ (by decide)]⟩ (show (0 : Nat) < _ from by decide) (by decide)) rfl gS_49 (by decide) rfl rfl rfl (Nat.le_of_ble_eq_true rfl) (by decide) ?_
    rintro _ _ - ⟨rfl, I2, rfl, hB2⟩
    refine px_ireturn rfl (.inl rfl) ?_
    refine ⟨rfl, I2, rfl, fun c hc => ?_, ?_, hB2.2.2.1, hB2.2.2.2⟩
    · rw [hB2.1 c hc, p_up_n _ _ (fun e => hc (by rw [e]; decide)), p_up_n _ _ (fun e => hc (by rw [e]; decide))]
    · rw [hB2.2.1 2 (by decide), p_up_s, p_up_n _ _ (by decide), p_up_s, p_up_n _ _ (by decide)]
  · exact absurd ⟨b, hb, rfl⟩ h
theorem vX0_perf_7_3 {I : Nat → Nat → Int32} {J : Nat → Nat → Int64} {p : Bool × Option Nat} {ro : List (Nat × Nat × (Nat → Int32))} {z : Nat} (hz : I 49 2 = nI z) (hz50 : z ≤ 50) {b : Nat} (hb : b < z) (hk : I 50 b = nI 7) (hro : RO ro) {x : Int32} : Pv 14 0 0 CX0_perform [.ref (49), .int (nI b), .int (nI 3), .int (x)] (gS, I, J, gR p, ro) (fun r S' => r = some (.int (sp_act 7 3 (nI b) x)) ∧ ∃ I', S' = (gS, I', J, gR p, ro) ∧ Fr [49, 51] I I' ∧ I' 49 2 = I 49 2 ∧ I' 49 3 = nI (sp_nts (I 51, 0) (sp_atr 7 3)).2 ∧ I' 51 = (sp_nts (I 51, 0) (sp_atr 7 3)).1) := by
  refine ⟨okCX0_perform, Nat.le_of_ble_eq_true rfl, (show Px _ _ _ _ 0 [some (.ref (49)), some (.int (nI b)), some (.int (nI 3)), some (.int (x))] [] _ _ from ?_)⟩
  refine px_aload_n (kk := 0) rfl rfl rfl ?_
  refine px_iconst (v := nI 0) rfl k_0 ?_
  refine px_putI rfl gS_49 rfl rfl ?_
  refine px_aload_n (kk := 0) rfl rfl rfl ?_
  refine px_iload_n (kk := 1) rfl rfl rfl ?_
  refine px_callV0 CX0_isBody [] [.int _] (vX0_isBody (by rw [p_up_s, p_up_n _ _ (by decide)]; exact hz) hz50) rfl gS_49 (by decide) rfl rfl rfl (Nat.le_of_ble_eq_true rfl) (by decide) ?_
  rintro _ _ - (⟨h, rfl, rfl⟩ | ⟨h, rfl, rfl⟩)
  · refine px_if_eq rfl (fun h => absurd h (by decide)) (fun _ => ?_)
    refine px_iload_n (kk := 2) rfl rfl rfl ?_
    refine px_if_lt rfl (fun h => absurd h (by decide)) (fun _ => ?_)
    refine px_iload_n (kk := 2) rfl rfl rfl ?_
    refine px_iconst (v := nI 4) rfl k_4 ?_
    refine px_icmp_lt rfl (fun _ => ?_) (fun h => absurd h (by decide))
    refine px_aload_n (kk := 0) rfl rfl rfl ?_
    refine px_iload_n (kk := 1) rfl rfl rfl ?_
    refine px_putI rfl gS_49 rfl rfl ?_
    refine px_aload_n (kk := 0) rfl rfl rfl ?_
    refine px_aload_n (kk := 0) rfl rfl rfl ?_
    refine px_getR (r := 50) rfl gS_49 rfl (gR_49_0 _) ?_
    refine px_iload_n (kk := 1) rfl rfl rfl ?_
    refine px_ialde (j := b) (v := nI 7) rfl gS_50 rfl (by omega) ((by rw [p_up_n _ _ (by decide), p_up_n _ _ (by decide)]; exact hk : va_up (va_up I 49 (va_up (I 49) 3 (nI 0))) 49 (va_up ((va_up I 49 (va_up (I 49) 3 (nI 0))) 49) 4 (nI b)) 50 b = nI 7)) ?_
    refine px_iload_n (kk := 2) rfl rfl rfl ?_
    refine px_iload_n (kk := 3) rfl rfl rfl ?_
    refine px_iconst (v := nI 0) rfl k_0 ?_
    refine px_callV0 CX0_runFrom [] [.int _, .int _, .int _, .int _] (vX0_rf_7_7_3 (I := va_up (va_up I 49 (va_up (I 49) 3 (nI 0))) 49 (va_up ((va_up I 49 (va_up (I 49) 3 (nI 0))) 49) 4 (nI b))) (nm := b) (by omega) (by rw [p_up_s, p_up_s]) (by rw [p_up_n _ _ (by decide), p_up_n _ _ (by decide)]; exact hk) hro (t := (I 51, 0)) ⟨Fr_rf, fun _ _ => rfl, by rw [p_up_s, p_up_n _ _ (by decide), p_up_s, p_up_s], by rw [p_up_n _ _ (by decide), p_up_n _ _ (by decide)]⟩ (show (0 : Nat) < _ from by decide) (by decide)) rfl gS_49 (by decide) rfl rfl rfl (Nat.le_of_ble_eq_true rfl) (by decide) ?_
    rintro _ _ - ⟨rfl, I2, rfl, hB2⟩
    refine px_ireturn rfl (.inl rfl) ?_
    refine ⟨rfl, I2, rfl, fun c hc => ?_, ?_, hB2.2.2.1, hB2.2.2.2⟩
    · rw [hB2.1 c hc, p_up_n _ _ (fun e => hc (by rw [e]; decide)), p_up_n _ _ (fun e => hc (by rw [e]; decide))]
    · rw [hB2.2.1 2 (by decide), p_up_s, p_up_n _ _ (by decide), p_up_s, p_up_n _ _ (by decide)]
  · exact absurd ⟨b, hb, rfl⟩ h
theorem vX0_perf_n {I : Nat → Nat → Int32} {J : Nat → Nat → Int64} {p : Bool × Option Nat} {ro : List (Nat × Nat × (Nat → Int32))} {z : Nat} (hz : I 49 2 = nI z) (hz50 : z ≤ 50) {y a x : Int32} (hn : ¬ ((∃ b, b < z ∧ y = nI b) ∧ ∃ w, w < 4 ∧ a = nI w)) : Pv 14 0 0 CX0_perform [.ref (49), .int (y), .int (a), .int (x)] (gS, I, J, gR p, ro) (fun r S' => r = some (.int (nI 0)) ∧ S' = (gS, (va_up I 49 (va_up (I 49) 3 (nI 0))), J, gR p, ro)) := by
  refine ⟨okCX0_perform, Nat.le_of_ble_eq_true rfl, (show Px _ _ _ _ 0 [some (.ref (49)), some (.int (y)), some (.int (a)), some (.int (x))] [] _ _ from ?_)⟩
  refine px_aload_n (kk := 0) rfl rfl rfl ?_
  refine px_iconst (v := nI 0) rfl k_0 ?_
  refine px_putI rfl gS_49 rfl rfl ?_
  refine px_aload_n (kk := 0) rfl rfl rfl ?_
  refine px_iload_n (kk := 1) rfl rfl rfl ?_
  refine px_callV0 CX0_isBody [] [.int _] (vX0_isBody (by rw [p_up_s, p_up_n _ _ (by decide)]; exact hz) hz50) rfl gS_49 (by decide) rfl rfl rfl (Nat.le_of_ble_eq_true rfl) (by decide) ?_
  rintro _ _ - (⟨h, rfl, rfl⟩ | ⟨h, rfl, rfl⟩)
  · refine px_if_eq rfl (fun h => absurd h (by decide)) (fun _ => ?_)
    refine px_iload_n (kk := 2) rfl rfl rfl ?_
    refine px_if_lt rfl (fun c8 => ?_) (fun c8 => ?_)
    · refine px_iconst (v := nI 0) rfl k_0 ?_
      refine px_ireturn rfl (.inl rfl) ?_
      exact ⟨rfl, rfl⟩
    · refine px_iload_n (kk := 2) rfl rfl rfl ?_
      refine px_iconst (v := nI 4) rfl k_4 ?_
      refine px_icmp_lt rfl (fun c11 => ?_) (fun c11 => ?_)
      · obtain ⟨w, hw, rfl⟩ := n_ofn c8
        rw [n_lt hw (by omega)] at c11
        exact absurd ⟨h, w, c11, rfl⟩ hn
      · refine px_iconst (v := nI 0) rfl k_0 ?_
        refine px_ireturn rfl (.inl rfl) ?_
        exact ⟨rfl, rfl⟩
  · refine px_if_eq rfl (fun _ => ?_) (fun h => absurd h (by decide))
    refine px_iconst (v := nI 0) rfl k_0 ?_
    refine px_ireturn rfl (.inl rfl) ?_
    exact ⟨rfl, rfl⟩
theorem vX0_kept {I : Nat → Nat → Int32} {J : Nat → Nat → Int64} {p : Bool × Option Nat} {ro : List (Nat × Nat × (Nat → Int32))} {r : Nat} (hr : I 49 3 = nI r) (hr2 : r < 2 ^ 31) : Pv 0 0 0 CX0_kept [.ref (49)] (gS, I, J, gR p, ro) (qI (nI (if r < 24 then r else 24)) (gS, I, J, gR p, ro)) := by
  refine ⟨okCX0_kept, Nat.le_of_ble_eq_true rfl, (show Px _ _ _ _ 0 [some (.ref (49))] [] _ _ from ?_)⟩
  refine px_aload_n (kk := 0) rfl rfl rfl ?_
  refine px_getIe rfl gS_49 rfl hr ?_
  refine px_bipush (v := nI 24) rfl b_24 ?_
  refine px_mmin rfl (Nat.le_of_ble_eq_true rfl) ?_
  refine px_ireturn rfl (.inl rfl) ?_
  refine ⟨?_, rfl⟩
  by_cases h : r < 24
  · rw [if_pos h]
    by_cases h2 : nI 24 < nI r
    · rw [n_lt (by omega) hr2] at h2; omega
    · rw [if_neg h2]
  · rw [if_neg h]
    by_cases h2 : nI 24 < nI r
    · rw [if_pos h2]
    · rw [if_neg h2]
      rw [n_lt (by omega) hr2] at h2
      congr 3
      omega
