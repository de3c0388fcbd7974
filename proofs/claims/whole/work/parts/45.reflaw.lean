theorem px_balde {d mc ms : Nat} {cd : pm_C} {i b : Nat} {con : Int} {ls : List (Option Value)} {st : List Value} {Sh : List (Nat × Nat)} {I : Nat → Nat → Int32} {J : Nat → Nat → Int64} {R : Nat → Nat → Option Nat} {ro : List (Nat × Nat × (Nat → Int32))} {Q : Option Value → pm_M → Prop} {a n j : Nat} {x v : Int32} {xs : List Nat} (h : (cdE cd)[i]? = some (b, 1, .baload, xs, con)) (hS : Sh[a]? = some (102, n)) (hj : x = nI j) (hjn : j < n) (hv : I a j = v) (kk : Px d mc ms cd (i + 1) ls (.int v :: st) (Sh, I, J, R, ro) Q) : Px d mc ms cd i ls (.int x :: .ref a :: st) (Sh, I, J, R, ro) Q := px_bald h hS hj hjn (hv ▸ kk)
theorem px_salde {d mc ms : Nat} {cd : pm_C} {i b : Nat} {con : Int} {ls : List (Option Value)} {st : List Value} {Sh : List (Nat × Nat)} {I : Nat → Nat → Int32} {J : Nat → Nat → Int64} {R : Nat → Nat → Option Nat} {ro : List (Nat × Nat × (Nat → Int32))} {Q : Option Value → pm_M → Prop} {a n j : Nat} {x v : Int32} {xs : List Nat} (h : (cdE cd)[i]? = some (b, 1, .saload, xs, con)) (hS : Sh[a]? = some (103, n)) (hj : x = nI j) (hjn : j < n) (hv : I a j = v) (kk : Px d mc ms cd (i + 1) ls (.int v :: st) (Sh, I, J, R, ro) Q) : Px d mc ms cd i ls (.int x :: .ref a :: st) (Sh, I, J, R, ro) Q := px_sald h hS hj hjn (hv ▸ kk)
/-! THE LAW'S TEXT in the reference -/
def aT (t : Tk) : Int32 := match t.1 with
  | 0 => nI 1
  | 1 => nI 2
  | 2 => if t.2 = 0 then nI 3 else nI 4
  | _ => bnC t.2
def wT (t : Tk) : Int32 := if t.1 < 2 then nI t.2 else nI 0
theorem n_dec6 (n : Nat) : nI (n + 1) + Int32.ofInt (-1) = nI n := n_dec n
theorem i_divm (a : Int32) : a / (-1) = -a := by
  refine Int32.toInt_inj.mp ?_
  rw [Int32.toInt_div, show (-1 : Int32).toInt = -1 from by decide +kernel, Int.tdiv_neg, Int.tdiv_one, Int32.toInt_neg]
theorem i_remm (a : Int32) : a - a / (-1) * (-1) = 0 := by
  rw [i_divm, Int32.neg_mul, Int32.mul_neg, Int32.mul_one, Int32.neg_neg, Int32.sub_self]
theorem vX12_twoOf_0 {I : Nat → Nat → Int32} {J : Nat → Nat → Int64} {p : Bool × Option Nat} {ro : List (Nat × Nat × (Nat → Int32))} {x y : Int32} : Pv 0 0 0 CX12_twoOf [.int (nI 124), .int (x), .int (y)] (gS, I, J, gR p, ro) (qI (tw 0 x y) (gS, I, J, gR p, ro)) := by
  refine ⟨okCX12_twoOf, Nat.le_of_ble_eq_true rfl, (show Px _ _ _ _ 0 [some (.int (nI 124)), some (.int (x)), some (.int (y))] [] _ _ from ?_)⟩
  refine px_iload_n (kk := 0) rfl rfl rfl ?_
  refine px_tableOut rfl (by decide) ?_
  refine px_iload_n (kk := 1) rfl rfl rfl ?_
  refine px_if_ne rfl (fun c69 => ?_) (fun c69 => ?_)
  · refine px_iconst (v := nI 1) rfl k_1 ?_
    refine px_goto rfl ?_
    refine px_ireturn rfl (.inl rfl) ?_
    exact ⟨by simp [tw, c69], rfl⟩
  · refine px_iload_n (kk := 2) rfl rfl rfl ?_
    refine px_if_eq rfl (fun c71 => ?_) (fun c71 => ?_)
    · refine px_iconst (v := nI 0) rfl k_0 ?_
      refine px_ireturn rfl (.inl rfl) ?_
      exact ⟨by simp [tw, c69, c71], rfl⟩
    · refine px_iconst (v := nI 1) rfl k_1 ?_
      refine px_goto rfl ?_
      refine px_ireturn rfl (.inl rfl) ?_
      exact ⟨by simp [tw, c69, c71], rfl⟩
theorem vX12_twoOf_1 {I : Nat → Nat → Int32} {J : Nat → Nat → Int64} {p : Bool × Option Nat} {ro : List (Nat × Nat × (Nat → Int32))} {x y : Int32} : Pv 0 0 0 CX12_twoOf [.int (nI 38), .int (x), .int (y)] (gS, I, J, gR p, ro) (qI (tw 1 x y) (gS, I, J, gR p, ro)) := by
  refine ⟨okCX12_twoOf, Nat.le_of_ble_eq_true rfl, (show Px _ _ _ _ 0 [some (.int (nI 38)), some (.int (x)), some (.int (y))] [] _ _ from ?_)⟩
  refine px_iload_n (kk := 0) rfl rfl rfl ?_
  refine px_tableIn rfl 1 (by decide) (by decide) rfl ?_
  refine px_iload_n (kk := 1) rfl rfl rfl ?_
  refine px_if_eq rfl (fun c61 => ?_) (fun c61 => ?_)
  · refine px_iconst (v := nI 0) rfl k_0 ?_
    refine px_ireturn rfl (.inl rfl) ?_
    exact ⟨by simp [tw, c61], rfl⟩
  · refine px_iload_n (kk := 2) rfl rfl rfl ?_
    refine px_if_eq rfl (fun c63 => ?_) (fun c63 => ?_)
    · refine px_iconst (v := nI 0) rfl k_0 ?_
      refine px_ireturn rfl (.inl rfl) ?_
      exact ⟨by simp [tw, c61, c63], rfl⟩
    · refine px_iconst (v := nI 1) rfl k_1 ?_
      refine px_goto rfl ?_
      refine px_ireturn rfl (.inl rfl) ?_
      exact ⟨by simp [tw, c61, c63], rfl⟩
theorem vX12_twoOf_2 {I : Nat → Nat → Int32} {J : Nat → Nat → Int64} {p : Bool × Option Nat} {ro : List (Nat × Nat × (Nat → Int32))} {x y : Int32} : Pv 0 0 0 CX12_twoOf [.int (nI 60), .int (x), .int (y)] (gS, I, J, gR p, ro) (qI (tw 2 x y) (gS, I, J, gR p, ro)) := by
  refine ⟨okCX12_twoOf, Nat.le_of_ble_eq_true rfl, (show Px _ _ _ _ 0 [some (.int (nI 60)), some (.int (x)), some (.int (y))] [] _ _ from ?_)⟩
  refine px_iload_n (kk := 0) rfl rfl rfl ?_
  refine px_tableIn rfl 23 (by decide) (by decide) rfl ?_
  refine px_iload_n (kk := 1) rfl rfl rfl ?_
  refine px_iload_n (kk := 2) rfl rfl rfl ?_
  refine px_icmp_ge rfl (fun c41 => ?_) (fun c41 => ?_)
  · refine px_iconst (v := nI 0) rfl k_0 ?_
    refine px_ireturn rfl (.inl rfl) ?_
    exact ⟨by rw [tw, if_neg (fun h => by rw [i_lt] at h; rw [i_le] at c41; omega)], rfl⟩
  · refine px_iconst (v := nI 1) rfl k_1 ?_
    refine px_goto rfl ?_
    refine px_ireturn rfl (.inl rfl) ?_
    exact ⟨by rw [tw, if_pos (by rw [i_lt]; rw [i_le] at c41; omega)], rfl⟩
theorem vX12_twoOf_3 {I : Nat → Nat → Int32} {J : Nat → Nat → Int64} {p : Bool × Option Nat} {ro : List (Nat × Nat × (Nat → Int32))} {x y : Int32} : Pv 0 0 0 CX12_twoOf [.int (nI 61), .int (x), .int (y)] (gS, I, J, gR p, ro) (qI (tw 3 x y) (gS, I, J, gR p, ro)) := by
  refine ⟨okCX12_twoOf, Nat.le_of_ble_eq_true rfl, (show Px _ _ _ _ 0 [some (.int (nI 61)), some (.int (x)), some (.int (y))] [] _ _ from ?_)⟩
  refine px_iload_n (kk := 0) rfl rfl rfl ?_
  refine px_tableIn rfl 24 (by decide) (by decide) rfl ?_
  refine px_iload_n (kk := 1) rfl rfl rfl ?_
  refine px_iload_n (kk := 2) rfl rfl rfl ?_
  refine px_icmp_ne rfl (fun c48 => ?_) (fun c48 => ?_)
  · refine px_iconst (v := nI 0) rfl k_0 ?_
    refine px_ireturn rfl (.inl rfl) ?_
    exact ⟨by rw [tw, if_neg c48], rfl⟩
  · refine px_iconst (v := nI 1) rfl k_1 ?_
    refine px_goto rfl ?_
    refine px_ireturn rfl (.inl rfl) ?_
    exact ⟨by rw [tw, if_pos c48], rfl⟩
theorem vX12_twoOf_4 {I : Nat → Nat → Int32} {J : Nat → Nat → Int64} {p : Bool × Option Nat} {ro : List (Nat × Nat × (Nat → Int32))} {x y : Int32} : Pv 0 0 0 CX12_twoOf [.int (nI 62), .int (x), .int (y)] (gS, I, J, gR p, ro) (qI (tw 4 x y) (gS, I, J, gR p, ro)) := by
  refine ⟨okCX12_twoOf, Nat.le_of_ble_eq_true rfl, (show Px _ _ _ _ 0 [some (.int (nI 62)), some (.int (x)), some (.int (y))] [] _ _ from ?_)⟩
  refine px_iload_n (kk := 0) rfl rfl rfl ?_
  refine px_tableIn rfl 25 (by decide) (by decide) rfl ?_
  refine px_iload_n (kk := 1) rfl rfl rfl ?_
  refine px_iload_n (kk := 2) rfl rfl rfl ?_
  refine px_icmp_le rfl (fun c55 => ?_) (fun c55 => ?_)
  · refine px_iconst (v := nI 0) rfl k_0 ?_
    refine px_ireturn rfl (.inl rfl) ?_
    exact ⟨by rw [tw, if_neg (fun h => by rw [i_lt] at h; rw [i_le] at c55; omega)], rfl⟩
  · refine px_iconst (v := nI 1) rfl k_1 ?_
    refine px_goto rfl ?_
    refine px_ireturn rfl (.inl rfl) ?_
    exact ⟨by rw [tw, if_pos (by rw [i_lt]; rw [i_le] at c55; omega)], rfl⟩
theorem vX12_twoOf_5 {I : Nat → Nat → Int32} {J : Nat → Nat → Int64} {p : Bool × Option Nat} {ro : List (Nat × Nat × (Nat → Int32))} {x y : Int32} : Pv 0 0 0 CX12_twoOf [.int (nI 43), .int (x), .int (y)] (gS, I, J, gR p, ro) (qI (tw 5 x y) (gS, I, J, gR p, ro)) := by
  refine ⟨okCX12_twoOf, Nat.le_of_ble_eq_true rfl, (show Px _ _ _ _ 0 [some (.int (nI 43)), some (.int (x)), some (.int (y))] [] _ _ from ?_)⟩
  refine px_iload_n (kk := 0) rfl rfl rfl ?_
  refine px_tableIn rfl 6 (by decide) (by decide) rfl ?_
  refine px_iload_n (kk := 1) rfl rfl rfl ?_
  refine px_iload_n (kk := 2) rfl rfl rfl ?_
  refine px_iadd rfl ?_
  refine px_ireturn rfl (.inl rfl) ?_
  exact ⟨rfl, rfl⟩
theorem vX12_twoOf_6 {I : Nat → Nat → Int32} {J : Nat → Nat → Int64} {p : Bool × Option Nat} {ro : List (Nat × Nat × (Nat → Int32))} {x y : Int32} : Pv 0 0 0 CX12_twoOf [.int (nI 45), .int (x), .int (y)] (gS, I, J, gR p, ro) (qI (tw 6 x y) (gS, I, J, gR p, ro)) := by
  refine ⟨okCX12_twoOf, Nat.le_of_ble_eq_true rfl, (show Px _ _ _ _ 0 [some (.int (nI 45)), some (.int (x)), some (.int (y))] [] _ _ from ?_)⟩
  refine px_iload_n (kk := 0) rfl rfl rfl ?_
  refine px_tableIn rfl 8 (by decide) (by decide) rfl ?_
  refine px_iload_n (kk := 1) rfl rfl rfl ?_
  refine px_iload_n (kk := 2) rfl rfl rfl ?_
  refine px_isub rfl ?_
  refine px_ireturn rfl (.inl rfl) ?_
  exact ⟨rfl, rfl⟩
theorem vX12_twoOf_7 {I : Nat → Nat → Int32} {J : Nat → Nat → Int64} {p : Bool × Option Nat} {ro : List (Nat × Nat × (Nat → Int32))} {x y : Int32} : Pv 0 0 0 CX12_twoOf [.int (nI 42), .int (x), .int (y)] (gS, I, J, gR p, ro) (qI (tw 7 x y) (gS, I, J, gR p, ro)) := by
  refine ⟨okCX12_twoOf, Nat.le_of_ble_eq_true rfl, (show Px _ _ _ _ 0 [some (.int (nI 42)), some (.int (x)), some (.int (y))] [] _ _ from ?_)⟩
  refine px_iload_n (kk := 0) rfl rfl rfl ?_
  refine px_tableIn rfl 5 (by decide) (by decide) rfl ?_
  refine px_iload_n (kk := 1) rfl rfl rfl ?_
  refine px_iload_n (kk := 2) rfl rfl rfl ?_
  refine px_imul rfl ?_
  refine px_ireturn rfl (.inl rfl) ?_
  exact ⟨rfl, rfl⟩
theorem vX12_twoOf_8 {I : Nat → Nat → Int32} {J : Nat → Nat → Int64} {p : Bool × Option Nat} {ro : List (Nat × Nat × (Nat → Int32))} {x y : Int32} : Pv 0 0 0 CX12_twoOf [.int (nI 47), .int (x), .int (y)] (gS, I, J, gR p, ro) (qI (tw 8 x y) (gS, I, J, gR p, ro)) := by
  refine ⟨okCX12_twoOf, Nat.le_of_ble_eq_true rfl, (show Px _ _ _ _ 0 [some (.int (nI 47)), some (.int (x)), some (.int (y))] [] _ _ from ?_)⟩
  refine px_iload_n (kk := 0) rfl rfl rfl ?_
  refine px_tableIn rfl 10 (by decide) (by decide) rfl ?_
  refine px_iload_n (kk := 2) rfl rfl rfl ?_
  refine px_if_ne rfl (fun c15 => ?_) (fun c15 => ?_)
  · refine px_iload_n (kk := 2) rfl rfl rfl ?_
    refine px_iconst (v := -1) rfl k_m1 ?_
    refine px_icmp_ne rfl (fun c20 => ?_) (fun c20 => ?_)
    · refine px_iload_n (kk := 1) rfl rfl rfl ?_
      refine px_iload_n (kk := 2) rfl rfl rfl ?_
      refine px_idiv rfl c15 ?_
      refine px_ireturn rfl (.inl rfl) ?_
      exact ⟨by rw [tw, if_neg c15], rfl⟩
    · refine px_iload_n (kk := 1) rfl rfl rfl ?_
      refine px_ineg rfl ?_
      refine px_goto rfl ?_
      refine px_ireturn rfl (.inl rfl) ?_
      exact ⟨by rw [tw, if_neg c15, c20, i_divm], rfl⟩
  · refine px_iconst (v := nI 0) rfl k_0 ?_
    refine px_goto rfl ?_
    refine px_ireturn rfl (.inl rfl) ?_
    exact ⟨by rw [tw, if_pos c15], rfl⟩
theorem vX12_twoOf_9 {I : Nat → Nat → Int32} {J : Nat → Nat → Int64} {p : Bool × Option Nat} {ro : List (Nat × Nat × (Nat → Int32))} {x y : Int32} : Pv 0 0 0 CX12_twoOf [.int (nI 37), .int (x), .int (y)] (gS, I, J, gR p, ro) (qI (tw 9 x y) (gS, I, J, gR p, ro)) := by
  refine ⟨okCX12_twoOf, Nat.le_of_ble_eq_true rfl, (show Px _ _ _ _ 0 [some (.int (nI 37)), some (.int (x)), some (.int (y))] [] _ _ from ?_)⟩
  refine px_iload_n (kk := 0) rfl rfl rfl ?_
  refine px_tableIn rfl 0 (by decide) (by decide) rfl ?_
  refine px_iload_n (kk := 2) rfl rfl rfl ?_
  refine px_if_eq rfl (fun c29 => ?_) (fun c29 => ?_)
  · refine px_iconst (v := nI 0) rfl k_0 ?_
    refine px_goto rfl ?_
    refine px_ireturn rfl (.inl rfl) ?_
    exact ⟨by simp [tw, c29], rfl⟩
  · refine px_iload_n (kk := 2) rfl rfl rfl ?_
    refine px_iconst (v := -1) rfl k_m1 ?_
    refine px_icmp_ne rfl (fun c32 => ?_) (fun c32 => ?_)
    · refine px_iload_n (kk := 1) rfl rfl rfl ?_
      refine px_iload_n (kk := 2) rfl rfl rfl ?_
      refine px_irem rfl c29 ?_
      refine px_ireturn rfl (.inl rfl) ?_
      exact ⟨by simp [tw, c29], rfl⟩
    · refine px_iconst (v := nI 0) rfl k_0 ?_
      refine px_goto rfl ?_
      refine px_ireturn rfl (.inl rfl) ?_
      exact ⟨by simp [tw, c29, c32, i_remm, n_0], rfl⟩
theorem lR_num {I : Nat → Nat → Int32} {J : Nat → Nat → Int64} {p : Bool × Option Nat} {ro : List (Nat × Nat × (Nat → Int32))} {f E k : Nat} (hE : E ≤ 130) (hk : k < E) {g : Nat → Int32} {o : Option Value} {q : List Int32} {v : Nat} (hv : v < 10000) (hs : I 77 k = nI 1) (hw : I 78 k = wT (0, v)) (hsg : SG g q) (h100 : (q : List Int32).length < 120) {Q : Option Value → pm_M → Prop} (kont : ∀ (g' : Nat → Int32) (x : Int32), SG g' (nI v :: q) → Px 1 0 0 CX12_worked 8 [some (.ref 65), some (.int (nI 0)), some (.int (nI f)), some (.int (nI E)), some (.int (nI (q.length + 1))), some (.int (nI (k + 1))), some (.int x)] [] (gS, (va_up I 83 g'), J, gR p, ro) Q) : Px 1 0 0 CX12_worked 8 [some (.ref (65)), some (.int (nI 0)), some (.int (nI f)), some (.int (nI E)), some (.int (nI q.length)), some (.int (nI k)), o] [] (gS, (va_up I 83 g), J, gR p, ro) (Q) := by
  refine px_iload rfl rfl ?_
  refine px_sipush (v := nI 130) rfl s_130 ?_
  refine px_iload_n (kk := 1) rfl rfl rfl ?_
  refine px_imulN rfl ?_
  refine px_iload_n (kk := 3) rfl rfl rfl ?_
  refine px_iaddN rfl ?_
  refine px_icmp_ge rfl (fun h => absurd h (nI_ge (by omega) (by omega))) (fun c14 => ?_)
  refine px_aload_n (kk := 0) rfl rfl rfl ?_
  refine px_getR (r := 77) rfl gS_65 rfl (gR_65_22 _) ?_
  refine px_iload rfl rfl ?_
  refine px_balde (j := k) (v := nI 1) rfl gS_77 rfl (by omega) ((congrFun (p_up_n _ _ (by decide)) k).trans hs) ?_
  refine px_ist6 rfl rfl (by decide) ?_
  refine px_iload rfl rfl ?_
  refine px_iconst (v := nI 1) rfl k_1 ?_
  refine px_icmp_eq rfl (fun _ => ?_) (fun h => absurd h (by decide))
  refine px_aload_n (kk := 0) rfl rfl rfl ?_
  refine px_getR (r := 83) rfl gS_65 rfl (gR_65_28 _) ?_
  refine px_iload rfl rfl ?_
  refine px_iload rfl rfl ?_
  refine px_iconst (v := nI 1) rfl k_1 ?_
  refine px_icmp_ne rfl (fun h => absurd h (by decide)) (fun _ => ?_)
  refine px_aload_n (kk := 0) rfl rfl rfl ?_
  refine px_getR (r := 78) rfl gS_65 rfl (gR_65_23 _) ?_
  refine px_iload rfl rfl ?_
  refine px_ialde (j := k) (v := nI v) rfl gS_78 rfl (by omega) ((congrFun (p_up_n _ _ (by decide)) k).trans hw) ?_
  refine px_goto rfl ?_
  refine px_iast (j := q.length) rfl gS_83 rfl (by omega) ?_
  refine px_iinc4 (v := nI (q.length + 1)) rfl (n_inc q.length) rfl (by decide) ?_
  refine px_goto rfl ?_
  refine px_iinc5 (v := nI (k + 1)) rfl (n_inc k) rfl (by decide) ?_
  refine px_goto rfl ?_
  rw [p_up_s, up2]
  exact kont _ _ (SG_push hsg)
theorem lR_nam_0 {I : Nat → Nat → Int32} {J : Nat → Nat → Int64} {p : Bool × Option Nat} {ro : List (Nat × Nat × (Nat → Int32))} {f E k : Nat} (hE : E ≤ 130) (hk : k < E) {g : Nat → Int32} {o : Option Value} {q : List Int32} (hs : I 77 k = nI 2) (hw : I 78 k = wT (1, 0)) (hsg : SG g q) (h100 : (q : List Int32).length < 120) {Q : Option Value → pm_M → Prop} (kont : ∀ (g' : Nat → Int32) (x : Int32), SG g' (I 82 0 :: q) → Px 1 0 0 CX12_worked 8 [some (.ref 65), some (.int (nI 0)), some (.int (nI f)), some (.int (nI E)), some (.int (nI (q.length + 1))), some (.int (nI (k + 1))), some (.int x)] [] (gS, (va_up I 83 g'), J, gR p, ro) Q) : Px 1 0 0 CX12_worked 8 [some (.ref (65)), some (.int (nI 0)), some (.int (nI f)), some (.int (nI E)), some (.int (nI q.length)), some (.int (nI k)), o] [] (gS, (va_up I 83 g), J, gR p, ro) (Q) := by
  refine px_iload rfl rfl ?_
  refine px_sipush (v := nI 130) rfl s_130 ?_
  refine px_iload_n (kk := 1) rfl rfl rfl ?_
  refine px_imulN rfl ?_
  refine px_iload_n (kk := 3) rfl rfl rfl ?_
  refine px_iaddN rfl ?_
  refine px_icmp_ge rfl (fun h => absurd h (nI_ge (by omega) (by omega))) (fun c14 => ?_)
  refine px_aload_n (kk := 0) rfl rfl rfl ?_
  refine px_getR (r := 77) rfl gS_65 rfl (gR_65_22 _) ?_
  refine px_iload rfl rfl ?_
  refine px_balde (j := k) (v := nI 2) rfl gS_77 rfl (by omega) ((congrFun (p_up_n _ _ (by decide)) k).trans hs) ?_
  refine px_ist6 rfl rfl (by decide) ?_
  refine px_iload rfl rfl ?_
  refine px_iconst (v := nI 1) rfl k_1 ?_
  refine px_icmp_eq rfl (fun h => absurd h (by decide)) (fun _ => ?_)
  refine px_iload rfl rfl ?_
  refine px_iconst (v := nI 2) rfl k_2 ?_
  refine px_icmp_ne rfl (fun h => absurd h (by decide)) (fun _ => ?_)
  refine px_aload_n (kk := 0) rfl rfl rfl ?_
  refine px_getR (r := 83) rfl gS_65 rfl (gR_65_28 _) ?_
  refine px_iload rfl rfl ?_
  refine px_iload rfl rfl ?_
  refine px_iconst (v := nI 1) rfl k_1 ?_
  refine px_icmp_ne rfl (fun _ => ?_) (fun h => absurd h (by decide))
  refine px_aload_n (kk := 0) rfl rfl rfl ?_
  refine px_getR (r := 82) rfl gS_65 rfl (gR_65_27 _) ?_
  refine px_aload_n (kk := 0) rfl rfl rfl ?_
  refine px_getR (r := 78) rfl gS_65 rfl (gR_65_23 _) ?_
  refine px_iload rfl rfl ?_
  refine px_ialde (j := k) (v := nI 0) rfl gS_78 rfl (by omega) ((congrFun (p_up_n _ _ (by decide)) k).trans hw) ?_
  refine px_ialde (j := 0) (v := I 82 0) rfl gS_82 rfl (by decide) (congrFun (p_up_n _ _ (by decide)) 0) ?_
  refine px_iast (j := q.length) rfl gS_83 rfl (by omega) ?_
  refine px_iinc4 (v := nI (q.length + 1)) rfl (n_inc q.length) rfl (by decide) ?_
  refine px_goto rfl ?_
  refine px_iinc5 (v := nI (k + 1)) rfl (n_inc k) rfl (by decide) ?_
  refine px_goto rfl ?_
  rw [p_up_s, up2]
  exact kont _ _ (SG_push hsg)
theorem lR_nam_1 {I : Nat → Nat → Int32} {J : Nat → Nat → Int64} {p : Bool × Option Nat} {ro : List (Nat × Nat × (Nat → Int32))} {f E k : Nat} (hE : E ≤ 130) (hk : k < E) {g : Nat → Int32} {o : Option Value} {q : List Int32} (hs : I 77 k = nI 2) (hw : I 78 k = wT (1, 1)) (hsg : SG g q) (h100 : (q : List Int32).length < 120) {Q : Option Value → pm_M → Prop} (kont : ∀ (g' : Nat → Int32) (x : Int32), SG g' (I 82 1 :: q) → Px 1 0 0 CX12_worked 8 [some (.ref 65), some (.int (nI 0)), some (.int (nI f)), some (.int (nI E)), some (.int (nI (q.length + 1))), some (.int (nI (k + 1))), some (.int x)] [] (gS, (va_up I 83 g'), J, gR p, ro) Q) : Px 1 0 0 CX12_worked 8 [some (.ref (65)), some (.int (nI 0)), some (.int (nI f)), some (.int (nI E)), some (.int (nI q.length)), some (.int (nI k)), o] [] (gS, (va_up I 83 g), J, gR p, ro) (Q) := by
  refine px_iload rfl rfl ?_
  refine px_sipush (v := nI 130) rfl s_130 ?_
  refine px_iload_n (kk := 1) rfl rfl rfl ?_
  refine px_imulN rfl ?_
  refine px_iload_n (kk := 3) rfl rfl rfl ?_
  refine px_iaddN rfl ?_
  refine px_icmp_ge rfl (fun h => absurd h (nI_ge (by omega) (by omega))) (fun c14 => ?_)
  refine px_aload_n (kk := 0) rfl rfl rfl ?_
  refine px_getR (r := 77) rfl gS_65 rfl (gR_65_22 _) ?_
  refine px_iload rfl rfl ?_
  refine px_balde (j := k) (v := nI 2) rfl gS_77 rfl (by omega) ((congrFun (p_up_n _ _ (by decide)) k).trans hs) ?_
  refine px_ist6 rfl rfl (by decide) ?_
  refine px_iload rfl rfl ?_
  refine px_iconst (v := nI 1) rfl k_1 ?_
  refine px_icmp_eq rfl (fun h => absurd h (by decide)) (fun _ => ?_)
  refine px_iload rfl rfl ?_
  refine px_iconst (v := nI 2) rfl k_2 ?_
  refine px_icmp_ne rfl (fun h => absurd h (by decide)) (fun _ => ?_)
  refine px_aload_n (kk := 0) rfl rfl rfl ?_
  refine px_getR (r := 83) rfl gS_65 rfl (gR_65_28 _) ?_
  refine px_iload rfl rfl ?_
  refine px_iload rfl rfl ?_
  refine px_iconst (v := nI 1) rfl k_1 ?_
  refine px_icmp_ne rfl (fun _ => ?_) (fun h => absurd h (by decide))
  refine px_aload_n (kk := 0) rfl rfl rfl ?_
  refine px_getR (r := 82) rfl gS_65 rfl (gR_65_27 _) ?_
  refine px_aload_n (kk := 0) rfl rfl rfl ?_
  refine px_getR (r := 78) rfl gS_65 rfl (gR_65_23 _) ?_
  refine px_iload rfl rfl ?_
  refine px_ialde (j := k) (v := nI 1) rfl gS_78 rfl (by omega) ((congrFun (p_up_n _ _ (by decide)) k).trans hw) ?_
  refine px_ialde (j := 1) (v := I 82 1) rfl gS_82 rfl (by decide) (congrFun (p_up_n _ _ (by decide)) 1) ?_
  refine px_iast (j := q.length) rfl gS_83 rfl (by omega) ?_
  refine px_iinc4 (v := nI (q.length + 1)) rfl (n_inc q.length) rfl (by decide) ?_
  refine px_goto rfl ?_
  refine px_iinc5 (v := nI (k + 1)) rfl (n_inc k) rfl (by decide) ?_
  refine px_goto rfl ?_
  rw [p_up_s, up2]
  exact kont _ _ (SG_push hsg)
theorem lR_nam_2 {I : Nat → Nat → Int32} {J : Nat → Nat → Int64} {p : Bool × Option Nat} {ro : List (Nat × Nat × (Nat → Int32))} {f E k : Nat} (hE : E ≤ 130) (hk : k < E) {g : Nat → Int32} {o : Option Value} {q : List Int32} (hs : I 77 k = nI 2) (hw : I 78 k = wT (1, 2)) (hsg : SG g q) (h100 : (q : List Int32).length < 120) {Q : Option Value → pm_M → Prop} (kont : ∀ (g' : Nat → Int32) (x : Int32), SG g' (I 82 2 :: q) → Px 1 0 0 CX12_worked 8 [some (.ref 65), some (.int (nI 0)), some (.int (nI f)), some (.int (nI E)), some (.int (nI (q.length + 1))), some (.int (nI (k + 1))), some (.int x)] [] (gS, (va_up I 83 g'), J, gR p, ro) Q) : Px 1 0 0 CX12_worked 8 [some (.ref (65)), some (.int (nI 0)), some (.int (nI f)), some (.int (nI E)), some (.int (nI q.length)), some (.int (nI k)), o] [] (gS, (va_up I 83 g), J, gR p, ro) (Q) := by
  refine px_iload rfl rfl ?_
  refine px_sipush (v := nI 130) rfl s_130 ?_
  refine px_iload_n (kk := 1) rfl rfl rfl ?_
  refine px_imulN rfl ?_
  refine px_iload_n (kk := 3) rfl rfl rfl ?_
  refine px_iaddN rfl ?_
  refine px_icmp_ge rfl (fun h => absurd h (nI_ge (by omega) (by omega))) (fun c14 => ?_)
  refine px_aload_n (kk := 0) rfl rfl rfl ?_
  refine px_getR (r := 77) rfl gS_65 rfl (gR_65_22 _) ?_
  refine px_iload rfl rfl ?_
  refine px_balde (j := k) (v := nI 2) rfl gS_77 rfl (by omega) ((congrFun (p_up_n _ _ (by decide)) k).trans hs) ?_
  refine px_ist6 rfl rfl (by decide) ?_
  refine px_iload rfl rfl ?_
  refine px_iconst (v := nI 1) rfl k_1 ?_
  refine px_icmp_eq rfl (fun h => absurd h (by decide)) (fun _ => ?_)
  refine px_iload rfl rfl ?_
  refine px_iconst (v := nI 2) rfl k_2 ?_
  refine px_icmp_ne rfl (fun h => absurd h (by decide)) (fun _ => ?_)
  refine px_aload_n (kk := 0) rfl rfl rfl ?_
  refine px_getR (r := 83) rfl gS_65 rfl (gR_65_28 _) ?_
  refine px_iload rfl rfl ?_
  refine px_iload rfl rfl ?_
  refine px_iconst (v := nI 1) rfl k_1 ?_
  refine px_icmp_ne rfl (fun _ => ?_) (fun h => absurd h (by decide))
  refine px_aload_n (kk := 0) rfl rfl rfl ?_
  refine px_getR (r := 82) rfl gS_65 rfl (gR_65_27 _) ?_
  refine px_aload_n (kk := 0) rfl rfl rfl ?_
  refine px_getR (r := 78) rfl gS_65 rfl (gR_65_23 _) ?_
  refine px_iload rfl rfl ?_
  refine px_ialde (j := k) (v := nI 2) rfl gS_78 rfl (by omega) ((congrFun (p_up_n _ _ (by decide)) k).trans hw) ?_
  refine px_ialde (j := 2) (v := I 82 2) rfl gS_82 rfl (by decide) (congrFun (p_up_n _ _ (by decide)) 2) ?_
  refine px_iast (j := q.length) rfl gS_83 rfl (by omega) ?_
  refine px_iinc4 (v := nI (q.length + 1)) rfl (n_inc q.length) rfl (by decide) ?_
  refine px_goto rfl ?_
  refine px_iinc5 (v := nI (k + 1)) rfl (n_inc k) rfl (by decide) ?_
  refine px_goto rfl ?_
  rw [p_up_s, up2]
  exact kont _ _ (SG_push hsg)
theorem lR_nam_3 {I : Nat → Nat → Int32} {J : Nat → Nat → Int64} {p : Bool × Option Nat} {ro : List (Nat × Nat × (Nat → Int32))} {f E k : Nat} (hE : E ≤ 130) (hk : k < E) {g : Nat → Int32} {o : Option Value} {q : List Int32} (hs : I 77 k = nI 2) (hw : I 78 k = wT (1, 3)) (hsg : SG g q) (h100 : (q : List Int32).length < 120) {Q : Option Value → pm_M → Prop} (kont : ∀ (g' : Nat → Int32) (x : Int32), SG g' (I 82 3 :: q) → Px 1 0 0 CX12_worked 8 [some (.ref 65), some (.int (nI 0)), some (.int (nI f)), some (.int (nI E)), some (.int (nI (q.length + 1))), some (.int (nI (k + 1))), some (.int x)] [] (gS, (va_up I 83 g'), J, gR p, ro) Q) : Px 1 0 0 CX12_worked 8 [some (.ref (65)), some (.int (nI 0)), some (.int (nI f)), some (.int (nI E)), some (.int (nI q.length)), some (.int (nI k)), o] [] (gS, (va_up I 83 g), J, gR p, ro) (Q) := by
  refine px_iload rfl rfl ?_
  refine px_sipush (v := nI 130) rfl s_130 ?_
  refine px_iload_n (kk := 1) rfl rfl rfl ?_
  refine px_imulN rfl ?_
  refine px_iload_n (kk := 3) rfl rfl rfl ?_
  refine px_iaddN rfl ?_
  refine px_icmp_ge rfl (fun h => absurd h (nI_ge (by omega) (by omega))) (fun c14 => ?_)
  refine px_aload_n (kk := 0) rfl rfl rfl ?_
  refine px_getR (r := 77) rfl gS_65 rfl (gR_65_22 _) ?_
  refine px_iload rfl rfl ?_
  refine px_balde (j := k) (v := nI 2) rfl gS_77 rfl (by omega) ((congrFun (p_up_n _ _ (by decide)) k).trans hs) ?_
  refine px_ist6 rfl rfl (by decide) ?_
  refine px_iload rfl rfl ?_
  refine px_iconst (v := nI 1) rfl k_1 ?_
  refine px_icmp_eq rfl (fun h => absurd h (by decide)) (fun _ => ?_)
  refine px_iload rfl rfl ?_
  refine px_iconst (v := nI 2) rfl k_2 ?_
  refine px_icmp_ne rfl (fun h => absurd h (by decide)) (fun _ => ?_)
  refine px_aload_n (kk := 0) rfl rfl rfl ?_
  refine px_getR (r := 83) rfl gS_65 rfl (gR_65_28 _) ?_
  refine px_iload rfl rfl ?_
  refine px_iload rfl rfl ?_
  refine px_iconst (v := nI 1) rfl k_1 ?_
  refine px_icmp_ne rfl (fun _ => ?_) (fun h => absurd h (by decide))
  refine px_aload_n (kk := 0) rfl rfl rfl ?_
  refine px_getR (r := 82) rfl gS_65 rfl (gR_65_27 _) ?_
  refine px_aload_n (kk := 0) rfl rfl rfl ?_
  refine px_getR (r := 78) rfl gS_65 rfl (gR_65_23 _) ?_
  refine px_iload rfl rfl ?_
  refine px_ialde (j := k) (v := nI 3) rfl gS_78 rfl (by omega) ((congrFun (p_up_n _ _ (by decide)) k).trans hw) ?_
  refine px_ialde (j := 3) (v := I 82 3) rfl gS_82 rfl (by decide) (congrFun (p_up_n _ _ (by decide)) 3) ?_
  refine px_iast (j := q.length) rfl gS_83 rfl (by omega) ?_
  refine px_iinc4 (v := nI (q.length + 1)) rfl (n_inc q.length) rfl (by decide) ?_
  refine px_goto rfl ?_
  refine px_iinc5 (v := nI (k + 1)) rfl (n_inc k) rfl (by decide) ?_
  refine px_goto rfl ?_
  rw [p_up_s, up2]
  exact kont _ _ (SG_push hsg)
theorem lR_nam_4 {I : Nat → Nat → Int32} {J : Nat → Nat → Int64} {p : Bool × Option Nat} {ro : List (Nat × Nat × (Nat → Int32))} {f E k : Nat} (hE : E ≤ 130) (hk : k < E) {g : Nat → Int32} {o : Option Value} {q : List Int32} (hs : I 77 k = nI 2) (hw : I 78 k = wT (1, 4)) (hsg : SG g q) (h100 : (q : List Int32).length < 120) {Q : Option Value → pm_M → Prop} (kont : ∀ (g' : Nat → Int32) (x : Int32), SG g' (I 82 4 :: q) → Px 1 0 0 CX12_worked 8 [some (.ref 65), some (.int (nI 0)), some (.int (nI f)), some (.int (nI E)), some (.int (nI (q.length + 1))), some (.int (nI (k + 1))), some (.int x)] [] (gS, (va_up I 83 g'), J, gR p, ro) Q) : Px 1 0 0 CX12_worked 8 [some (.ref (65)), some (.int (nI 0)), some (.int (nI f)), some (.int (nI E)), some (.int (nI q.length)), some (.int (nI k)), o] [] (gS, (va_up I 83 g), J, gR p, ro) (Q) := by
  refine px_iload rfl rfl ?_
  refine px_sipush (v := nI 130) rfl s_130 ?_
  refine px_iload_n (kk := 1) rfl rfl rfl ?_
  refine px_imulN rfl ?_
  refine px_iload_n (kk := 3) rfl rfl rfl ?_
  refine px_iaddN rfl ?_
  refine px_icmp_ge rfl (fun h => absurd h (nI_ge (by omega) (by omega))) (fun c14 => ?_)
  refine px_aload_n (kk := 0) rfl rfl rfl ?_
  refine px_getR (r := 77) rfl gS_65 rfl (gR_65_22 _) ?_
  refine px_iload rfl rfl ?_
  refine px_balde (j := k) (v := nI 2) rfl gS_77 rfl (by omega) ((congrFun (p_up_n _ _ (by decide)) k).trans hs) ?_
  refine px_ist6 rfl rfl (by decide) ?_
  refine px_iload rfl rfl ?_
  refine px_iconst (v := nI 1) rfl k_1 ?_
  refine px_icmp_eq rfl (fun h => absurd h (by decide)) (fun _ => ?_)
  refine px_iload rfl rfl ?_
  refine px_iconst (v := nI 2) rfl k_2 ?_
  refine px_icmp_ne rfl (fun h => absurd h (by decide)) (fun _ => ?_)
  refine px_aload_n (kk := 0) rfl rfl rfl ?_
  refine px_getR (r := 83) rfl gS_65 rfl (gR_65_28 _) ?_
  refine px_iload rfl rfl ?_
  refine px_iload rfl rfl ?_
  refine px_iconst (v := nI 1) rfl k_1 ?_
  refine px_icmp_ne rfl (fun _ => ?_) (fun h => absurd h (by decide))
  refine px_aload_n (kk := 0) rfl rfl rfl ?_
  refine px_getR (r := 82) rfl gS_65 rfl (gR_65_27 _) ?_
  refine px_aload_n (kk := 0) rfl rfl rfl ?_
  refine px_getR (r := 78) rfl gS_65 rfl (gR_65_23 _) ?_
  refine px_iload rfl rfl ?_
  refine px_ialde (j := k) (v := nI 4) rfl gS_78 rfl (by omega) ((congrFun (p_up_n _ _ (by decide)) k).trans hw) ?_
  refine px_ialde (j := 4) (v := I 82 4) rfl gS_82 rfl (by decide) (congrFun (p_up_n _ _ (by decide)) 4) ?_
  refine px_iast (j := q.length) rfl gS_83 rfl (by omega) ?_
  refine px_iinc4 (v := nI (q.length + 1)) rfl (n_inc q.length) rfl (by decide) ?_
  refine px_goto rfl ?_
  refine px_iinc5 (v := nI (k + 1)) rfl (n_inc k) rfl (by decide) ?_
  refine px_goto rfl ?_
  rw [p_up_s, up2]
  exact kont _ _ (SG_push hsg)
theorem lR_nam_5 {I : Nat → Nat → Int32} {J : Nat → Nat → Int64} {p : Bool × Option Nat} {ro : List (Nat × Nat × (Nat → Int32))} {f E k : Nat} (hE : E ≤ 130) (hk : k < E) {g : Nat → Int32} {o : Option Value} {q : List Int32} (hs : I 77 k = nI 2) (hw : I 78 k = wT (1, 5)) (hsg : SG g q) (h100 : (q : List Int32).length < 120) {Q : Option Value → pm_M → Prop} (kont : ∀ (g' : Nat → Int32) (x : Int32), SG g' (I 82 5 :: q) → Px 1 0 0 CX12_worked 8 [some (.ref 65), some (.int (nI 0)), some (.int (nI f)), some (.int (nI E)), some (.int (nI (q.length + 1))), some (.int (nI (k + 1))), some (.int x)] [] (gS, (va_up I 83 g'), J, gR p, ro) Q) : Px 1 0 0 CX12_worked 8 [some (.ref (65)), some (.int (nI 0)), some (.int (nI f)), some (.int (nI E)), some (.int (nI q.length)), some (.int (nI k)), o] [] (gS, (va_up I 83 g), J, gR p, ro) (Q) := by
  refine px_iload rfl rfl ?_
  refine px_sipush (v := nI 130) rfl s_130 ?_
  refine px_iload_n (kk := 1) rfl rfl rfl ?_
  refine px_imulN rfl ?_
  refine px_iload_n (kk := 3) rfl rfl rfl ?_
  refine px_iaddN rfl ?_
  refine px_icmp_ge rfl (fun h => absurd h (nI_ge (by omega) (by omega))) (fun c14 => ?_)
  refine px_aload_n (kk := 0) rfl rfl rfl ?_
  refine px_getR (r := 77) rfl gS_65 rfl (gR_65_22 _) ?_
  refine px_iload rfl rfl ?_
  refine px_balde (j := k) (v := nI 2) rfl gS_77 rfl (by omega) ((congrFun (p_up_n _ _ (by decide)) k).trans hs) ?_
  refine px_ist6 rfl rfl (by decide) ?_
  refine px_iload rfl rfl ?_
  refine px_iconst (v := nI 1) rfl k_1 ?_
  refine px_icmp_eq rfl (fun h => absurd h (by decide)) (fun _ => ?_)
  refine px_iload rfl rfl ?_
  refine px_iconst (v := nI 2) rfl k_2 ?_
  refine px_icmp_ne rfl (fun h => absurd h (by decide)) (fun _ => ?_)
  refine px_aload_n (kk := 0) rfl rfl rfl ?_
  refine px_getR (r := 83) rfl gS_65 rfl (gR_65_28 _) ?_
  refine px_iload rfl rfl ?_
  refine px_iload rfl rfl ?_
  refine px_iconst (v := nI 1) rfl k_1 ?_
  refine px_icmp_ne rfl (fun _ => ?_) (fun h => absurd h (by decide))
  refine px_aload_n (kk := 0) rfl rfl rfl ?_
  refine px_getR (r := 82) rfl gS_65 rfl (gR_65_27 _) ?_
  refine px_aload_n (kk := 0) rfl rfl rfl ?_
  refine px_getR (r := 78) rfl gS_65 rfl (gR_65_23 _) ?_
  refine px_iload rfl rfl ?_
  refine px_ialde (j := k) (v := nI 5) rfl gS_78 rfl (by omega) ((congrFun (p_up_n _ _ (by decide)) k).trans hw) ?_
  refine px_ialde (j := 5) (v := I 82 5) rfl gS_82 rfl (by decide) (congrFun (p_up_n _ _ (by decide)) 5) ?_
  refine px_iast (j := q.length) rfl gS_83 rfl (by omega) ?_
  refine px_iinc4 (v := nI (q.length + 1)) rfl (n_inc q.length) rfl (by decide) ?_
  refine px_goto rfl ?_
  refine px_iinc5 (v := nI (k + 1)) rfl (n_inc k) rfl (by decide) ?_
  refine px_goto rfl ?_
  rw [p_up_s, up2]
  exact kont _ _ (SG_push hsg)
theorem lR_un_0 {I : Nat → Nat → Int32} {J : Nat → Nat → Int64} {p : Bool × Option Nat} {ro : List (Nat × Nat × (Nat → Int32))} {f E k : Nat} (hE : E ≤ 130) (hk : k < E) {g : Nat → Int32} {o : Option Value} {q : List Int32} {a : Int32} (hs : I 77 k = nI 3) (hw : I 78 k = wT (2, 0)) (hsg : SG g (a :: q)) (h100 : ((a :: q) : List Int32).length < 120) {Q : Option Value → pm_M → Prop} (kont : ∀ (g' : Nat → Int32) (x : Int32), SG g' ((if (0 : Nat) = 0 then (if a = 0 then nI 1 else nI 0) else -a) :: q) → Px 1 0 0 CX12_worked 8 [some (.ref 65), some (.int (nI 0)), some (.int (nI f)), some (.int (nI E)), some (.int (nI (q.length + 1))), some (.int (nI (k + 1))), some (.int x)] [] (gS, (va_up I 83 g'), J, gR p, ro) Q) : Px 1 0 0 CX12_worked 8 [some (.ref (65)), some (.int (nI 0)), some (.int (nI f)), some (.int (nI E)), some (.int (nI (q.length + 1))), some (.int (nI k)), o] [] (gS, (va_up I 83 g), J, gR p, ro) (Q) := by
  refine px_iload rfl rfl ?_
  refine px_sipush (v := nI 130) rfl s_130 ?_
  refine px_iload_n (kk := 1) rfl rfl rfl ?_
  refine px_imulN rfl ?_
  refine px_iload_n (kk := 3) rfl rfl rfl ?_
  refine px_iaddN rfl ?_
  refine px_icmp_ge rfl (fun h => absurd h (nI_ge (by omega) (by omega))) (fun c14 => ?_)
  refine px_aload_n (kk := 0) rfl rfl rfl ?_
  refine px_getR (r := 77) rfl gS_65 rfl (gR_65_22 _) ?_
  refine px_iload rfl rfl ?_
  refine px_balde (j := k) (v := nI 3) rfl gS_77 rfl (by omega) ((congrFun (p_up_n _ _ (by decide)) k).trans hs) ?_
  refine px_ist6 rfl rfl (by decide) ?_
  refine px_iload rfl rfl ?_
  refine px_iconst (v := nI 1) rfl k_1 ?_
  refine px_icmp_eq rfl (fun h => absurd h (by decide)) (fun _ => ?_)
  refine px_iload rfl rfl ?_
  refine px_iconst (v := nI 2) rfl k_2 ?_
  refine px_icmp_ne rfl (fun _ => ?_) (fun h => absurd h (by decide))
  refine px_iload rfl rfl ?_
  refine px_iconst (v := nI 3) rfl k_3 ?_
  refine px_icmp_ne rfl (fun h => absurd h (by decide)) (fun _ => ?_)
  refine px_aload_n (kk := 0) rfl rfl rfl ?_
  refine px_getR (r := 83) rfl gS_65 rfl (gR_65_28 _) ?_
  refine px_iload rfl rfl ?_
  refine px_iconst (v := nI 1) rfl k_1 ?_
  refine px_isubN rfl (by omega) ?_
  refine px_aload_n (kk := 0) rfl rfl rfl ?_
  refine px_getR (r := 83) rfl gS_65 rfl (gR_65_28 _) ?_
  refine px_iload rfl rfl ?_
  refine px_iconst (v := nI 1) rfl k_1 ?_
  refine px_isubN rfl (by omega) ?_
  refine px_ialde (j := q.length) (v := a) rfl gS_83 (by congr 1) (by first | omega | (simp at h100; omega)) ((congrFun (p_up_s _ _ _) _).trans hsg.1) ?_
  refine px_if_ne rfl (fun c61 => ?_) (fun c61 => ?_)
  · refine px_iconst (v := nI 0) rfl k_0 ?_
    refine px_iast (j := q.length) rfl gS_83 (by congr 1) (by first | omega | (simp at h100; omega)) ?_
    refine px_goto rfl ?_
    refine px_iinc5 (v := nI (k + 1)) rfl (n_inc k) rfl (by decide) ?_
    refine px_goto rfl ?_
    rw [p_up_s, up2]
    exact kont _ _ (by simp only [if_true, if_neg c61]; exact SG_up hsg.2 (Nat.le_refl _) |> fun z => ⟨p_up_s _ _ _, z⟩)
  · refine px_iconst (v := nI 1) rfl k_1 ?_
    refine px_goto rfl ?_
    refine px_iast (j := q.length) rfl gS_83 (by congr 1) (by first | omega | (simp at h100; omega)) ?_
    refine px_goto rfl ?_
    refine px_iinc5 (v := nI (k + 1)) rfl (n_inc k) rfl (by decide) ?_
    refine px_goto rfl ?_
    rw [p_up_s, up2]
    exact kont _ _ (by simp only [if_true, if_pos c61]; exact SG_up hsg.2 (Nat.le_refl _) |> fun z => ⟨p_up_s _ _ _, z⟩)
theorem lR_un_1 {I : Nat → Nat → Int32} {J : Nat → Nat → Int64} {p : Bool × Option Nat} {ro : List (Nat × Nat × (Nat → Int32))} {f E k : Nat} (hE : E ≤ 130) (hk : k < E) {g : Nat → Int32} {o : Option Value} {q : List Int32} {a : Int32} (hs : I 77 k = nI 4) (hw : I 78 k = wT (2, 1)) (hsg : SG g (a :: q)) (h100 : ((a :: q) : List Int32).length < 120) {Q : Option Value → pm_M → Prop} (kont : ∀ (g' : Nat → Int32) (x : Int32), SG g' ((if (1 : Nat) = 0 then (if a = 0 then nI 1 else nI 0) else -a) :: q) → Px 1 0 0 CX12_worked 8 [some (.ref 65), some (.int (nI 0)), some (.int (nI f)), some (.int (nI E)), some (.int (nI (q.length + 1))), some (.int (nI (k + 1))), some (.int x)] [] (gS, (va_up I 83 g'), J, gR p, ro) Q) : Px 1 0 0 CX12_worked 8 [some (.ref (65)), some (.int (nI 0)), some (.int (nI f)), some (.int (nI E)), some (.int (nI (q.length + 1))), some (.int (nI k)), o] [] (gS, (va_up I 83 g), J, gR p, ro) (Q) := by
  refine px_iload rfl rfl ?_
  refine px_sipush (v := nI 130) rfl s_130 ?_
  refine px_iload_n (kk := 1) rfl rfl rfl ?_
  refine px_imulN rfl ?_
  refine px_iload_n (kk := 3) rfl rfl rfl ?_
  refine px_iaddN rfl ?_
  refine px_icmp_ge rfl (fun h => absurd h (nI_ge (by omega) (by omega))) (fun c14 => ?_)
  refine px_aload_n (kk := 0) rfl rfl rfl ?_
  refine px_getR (r := 77) rfl gS_65 rfl (gR_65_22 _) ?_
  refine px_iload rfl rfl ?_
  refine px_balde (j := k) (v := nI 4) rfl gS_77 rfl (by omega) ((congrFun (p_up_n _ _ (by decide)) k).trans hs) ?_
  refine px_ist6 rfl rfl (by decide) ?_
  refine px_iload rfl rfl ?_
  refine px_iconst (v := nI 1) rfl k_1 ?_
  refine px_icmp_eq rfl (fun h => absurd h (by decide)) (fun _ => ?_)
  refine px_iload rfl rfl ?_
  refine px_iconst (v := nI 2) rfl k_2 ?_
  refine px_icmp_ne rfl (fun _ => ?_) (fun h => absurd h (by decide))
  refine px_iload rfl rfl ?_
  refine px_iconst (v := nI 3) rfl k_3 ?_
  refine px_icmp_ne rfl (fun _ => ?_) (fun h => absurd h (by decide))
  refine px_iload rfl rfl ?_
  refine px_iconst (v := nI 4) rfl k_4 ?_
  refine px_icmp_ne rfl (fun h => absurd h (by decide)) (fun _ => ?_)
  refine px_aload_n (kk := 0) rfl rfl rfl ?_
  refine px_getR (r := 83) rfl gS_65 rfl (gR_65_28 _) ?_
  refine px_iload rfl rfl ?_
  refine px_iconst (v := nI 1) rfl k_1 ?_
  refine px_isubN rfl (by omega) ?_
  refine px_aload_n (kk := 0) rfl rfl rfl ?_
  refine px_getR (r := 83) rfl gS_65 rfl (gR_65_28 _) ?_
  refine px_iload rfl rfl ?_
  refine px_iconst (v := nI 1) rfl k_1 ?_
  refine px_isubN rfl (by omega) ?_
  refine px_ialde (j := q.length) (v := a) rfl gS_83 (by congr 1) (by first | omega | (simp at h100; omega)) ((congrFun (p_up_s _ _ _) _).trans hsg.1) ?_
  refine px_ineg rfl ?_
  refine px_iast (j := q.length) rfl gS_83 (by congr 1) (by first | omega | (simp at h100; omega)) ?_
  refine px_goto rfl ?_
  refine px_iinc5 (v := nI (k + 1)) rfl (n_inc k) rfl (by decide) ?_
  refine px_goto rfl ?_
  rw [p_up_s, up2]
  exact kont _ _ (by rw [if_neg (by decide)]; exact SG_up hsg.2 (Nat.le_refl _) |> fun z => ⟨p_up_s _ _ _, z⟩)
theorem lR_bin_0 {I : Nat → Nat → Int32} {J : Nat → Nat → Int64} {p : Bool × Option Nat} {ro : List (Nat × Nat × (Nat → Int32))} {f E k : Nat} (hE : E ≤ 130) (hk : k < E) {g : Nat → Int32} {o : Option Value} {q : List Int32} {a b : Int32} (hs : I 77 k = nI 124) (hw : I 78 k = wT (3, 0)) (hsg : SG g (b :: a :: q)) (h100 : ((b :: a :: q) : List Int32).length < 120) {Q : Option Value → pm_M → Prop} (kont : ∀ (g' : Nat → Int32) (x : Int32), SG g' (tw 0 a b :: q) → Px 1 0 0 CX12_worked 8 [some (.ref 65), some (.int (nI 0)), some (.int (nI f)), some (.int (nI E)), some (.int (nI (q.length + 1))), some (.int (nI (k + 1))), some (.int x)] [] (gS, (va_up I 83 g'), J, gR p, ro) Q) : Px 1 0 0 CX12_worked 8 [some (.ref (65)), some (.int (nI 0)), some (.int (nI f)), some (.int (nI E)), some (.int (nI (q.length + 1 + 1))), some (.int (nI k)), o] [] (gS, (va_up I 83 g), J, gR p, ro) (Q) := by
  refine px_iload rfl rfl ?_
  refine px_sipush (v := nI 130) rfl s_130 ?_
  refine px_iload_n (kk := 1) rfl rfl rfl ?_
  refine px_imulN rfl ?_
  refine px_iload_n (kk := 3) rfl rfl rfl ?_
  refine px_iaddN rfl ?_
  refine px_icmp_ge rfl (fun h => absurd h (nI_ge (by omega) (by omega))) (fun c14 => ?_)
  refine px_aload_n (kk := 0) rfl rfl rfl ?_
  refine px_getR (r := 77) rfl gS_65 rfl (gR_65_22 _) ?_
  refine px_iload rfl rfl ?_
  refine px_balde (j := k) (v := nI 124) rfl gS_77 rfl (by omega) ((congrFun (p_up_n _ _ (by decide)) k).trans hs) ?_
  refine px_ist6 rfl rfl (by decide) ?_
  refine px_iload rfl rfl ?_
  refine px_iconst (v := nI 1) rfl k_1 ?_
  refine px_icmp_eq rfl (fun h => absurd h (by decide)) (fun _ => ?_)
  refine px_iload rfl rfl ?_
  refine px_iconst (v := nI 2) rfl k_2 ?_
  refine px_icmp_ne rfl (fun _ => ?_) (fun h => absurd h (by decide))
  refine px_iload rfl rfl ?_
  refine px_iconst (v := nI 3) rfl k_3 ?_
  refine px_icmp_ne rfl (fun _ => ?_) (fun h => absurd h (by decide))
  refine px_iload rfl rfl ?_
  refine px_iconst (v := nI 4) rfl k_4 ?_
  refine px_icmp_ne rfl (fun _ => ?_) (fun h => absurd h (by decide))
  refine px_iinc4 rfl rfl rfl (by decide) ?_
  refine px_l4 (y := nI (q.length + 1)) (n_dec _) ?_
  refine px_aload_n (kk := 0) rfl rfl rfl ?_
  refine px_getR (r := 83) rfl gS_65 rfl (gR_65_28 _) ?_
  refine px_iload rfl rfl ?_
  refine px_iconst (v := nI 1) rfl k_1 ?_
  refine px_isubN rfl (by omega) ?_
  refine px_iload rfl rfl ?_
  refine px_aload_n (kk := 0) rfl rfl rfl ?_
  refine px_getR (r := 83) rfl gS_65 rfl (gR_65_28 _) ?_
  refine px_iload rfl rfl ?_
  refine px_iconst (v := nI 1) rfl k_1 ?_
  refine px_isubN rfl (by omega) ?_
  refine px_ialde (j := q.length) (v := a) rfl gS_83 (by congr 1) (by first | omega | (simp at h100; omega)) ((congrFun (p_up_s _ _ _) _).trans hsg.2.1) ?_
  refine px_aload_n (kk := 0) rfl rfl rfl ?_
  refine px_getR (r := 83) rfl gS_65 rfl (gR_65_28 _) ?_
  refine px_iload rfl rfl ?_
  refine px_ialde (j := (q.length + 1)) (v := b) rfl gS_83 rfl (by first | omega | (simp at h100; omega)) ((congrFun (p_up_s _ _ _) _).trans hsg.1) ?_
  refine px_callS0 CX12_twoOf [.int _, .ref 83] [.int _, .int _, .int _] (vX12_twoOf_0) rfl rfl rfl (Nat.le_of_ble_eq_true rfl) (by decide) ?_
  rintro _ _ - ⟨rfl, rfl⟩
  refine px_iast (j := q.length) rfl gS_83 (by congr 1) (by first | omega | (simp at h100; omega)) ?_
  refine px_iinc5 (v := nI (k + 1)) rfl (n_inc k) rfl (by decide) ?_
  refine px_goto rfl ?_
  rw [p_up_s, up2]
  exact kont _ _ (SG_up hsg.2.2 (Nat.le_refl _) |> fun z => ⟨p_up_s _ _ _, z⟩)
theorem lR_bin_1 {I : Nat → Nat → Int32} {J : Nat → Nat → Int64} {p : Bool × Option Nat} {ro : List (Nat × Nat × (Nat → Int32))} {f E k : Nat} (hE : E ≤ 130) (hk : k < E) {g : Nat → Int32} {o : Option Value} {q : List Int32} {a b : Int32} (hs : I 77 k = nI 38) (hw : I 78 k = wT (3, 1)) (hsg : SG g (b :: a :: q)) (h100 : ((b :: a :: q) : List Int32).length < 120) {Q : Option Value → pm_M → Prop} (kont : ∀ (g' : Nat → Int32) (x : Int32), SG g' (tw 1 a b :: q) → Px 1 0 0 CX12_worked 8 [some (.ref 65), some (.int (nI 0)), some (.int (nI f)), some (.int (nI E)), some (.int (nI (q.length + 1))), some (.int (nI (k + 1))), some (.int x)] [] (gS, (va_up I 83 g'), J, gR p, ro) Q) : Px 1 0 0 CX12_worked 8 [some (.ref (65)), some (.int (nI 0)), some (.int (nI f)), some (.int (nI E)), some (.int (nI (q.length + 1 + 1))), some (.int (nI k)), o] [] (gS, (va_up I 83 g), J, gR p, ro) (Q) := by
  refine px_iload rfl rfl ?_
  refine px_sipush (v := nI 130) rfl s_130 ?_
  refine px_iload_n (kk := 1) rfl rfl rfl ?_
  refine px_imulN rfl ?_
  refine px_iload_n (kk := 3) rfl rfl rfl ?_
  refine px_iaddN rfl ?_
  refine px_icmp_ge rfl (fun h => absurd h (nI_ge (by omega) (by omega))) (fun c14 => ?_)
  refine px_aload_n (kk := 0) rfl rfl rfl ?_
  refine px_getR (r := 77) rfl gS_65 rfl (gR_65_22 _) ?_
  refine px_iload rfl rfl ?_
  refine px_balde (j := k) (v := nI 38) rfl gS_77 rfl (by omega) ((congrFun (p_up_n _ _ (by decide)) k).trans hs) ?_
  refine px_ist6 rfl rfl (by decide) ?_
  refine px_iload rfl rfl ?_
  refine px_iconst (v := nI 1) rfl k_1 ?_
  refine px_icmp_eq rfl (fun h => absurd h (by decide)) (fun _ => ?_)
  refine px_iload rfl rfl ?_
  refine px_iconst (v := nI 2) rfl k_2 ?_
  refine px_icmp_ne rfl (fun _ => ?_) (fun h => absurd h (by decide))
  refine px_iload rfl rfl ?_
  refine px_iconst (v := nI 3) rfl k_3 ?_
  refine px_icmp_ne rfl (fun _ => ?_) (fun h => absurd h (by decide))
  refine px_iload rfl rfl ?_
  refine px_iconst (v := nI 4) rfl k_4 ?_
  refine px_icmp_ne rfl (fun _ => ?_) (fun h => absurd h (by decide))
  refine px_iinc4 rfl rfl rfl (by decide) ?_
  refine px_l4 (y := nI (q.length + 1)) (n_dec _) ?_
  refine px_aload_n (kk := 0) rfl rfl rfl ?_
  refine px_getR (r := 83) rfl gS_65 rfl (gR_65_28 _) ?_
  refine px_iload rfl rfl ?_
  refine px_iconst (v := nI 1) rfl k_1 ?_
  refine px_isubN rfl (by omega) ?_
  refine px_iload rfl rfl ?_
  refine px_aload_n (kk := 0) rfl rfl rfl ?_
  refine px_getR (r := 83) rfl gS_65 rfl (gR_65_28 _) ?_
  refine px_iload rfl rfl ?_
  refine px_iconst (v := nI 1) rfl k_1 ?_
  refine px_isubN rfl (by omega) ?_
  refine px_ialde (j := q.length) (v := a) rfl gS_83 (by congr 1) (by first | omega | (simp at h100; omega)) ((congrFun (p_up_s _ _ _) _).trans hsg.2.1) ?_
  refine px_aload_n (kk := 0) rfl rfl rfl ?_
  refine px_getR (r := 83) rfl gS_65 rfl (gR_65_28 _) ?_
  refine px_iload rfl rfl ?_
  refine px_ialde (j := (q.length + 1)) (v := b) rfl gS_83 rfl (by first | omega | (simp at h100; omega)) ((congrFun (p_up_s _ _ _) _).trans hsg.1) ?_
  refine px_callS0 CX12_twoOf [.int _, .ref 83] [.int _, .int _, .int _] (vX12_twoOf_1) rfl rfl rfl (Nat.le_of_ble_eq_true rfl) (by decide) ?_
  rintro _ _ - ⟨rfl, rfl⟩
  refine px_iast (j := q.length) rfl gS_83 (by congr 1) (by first | omega | (simp at h100; omega)) ?_
  refine px_iinc5 (v := nI (k + 1)) rfl (n_inc k) rfl (by decide) ?_
  refine px_goto rfl ?_
  rw [p_up_s, up2]
  exact kont _ _ (SG_up hsg.2.2 (Nat.le_refl _) |> fun z => ⟨p_up_s _ _ _, z⟩)
theorem lR_bin_2 {I : Nat → Nat → Int32} {J : Nat → Nat → Int64} {p : Bool × Option Nat} {ro : List (Nat × Nat × (Nat → Int32))} {f E k : Nat} (hE : E ≤ 130) (hk : k < E) {g : Nat → Int32} {o : Option Value} {q : List Int32} {a b : Int32} (hs : I 77 k = nI 60) (hw : I 78 k = wT (3, 2)) (hsg : SG g (b :: a :: q)) (h100 : ((b :: a :: q) : List Int32).length < 120) {Q : Option Value → pm_M → Prop} (kont : ∀ (g' : Nat → Int32) (x : Int32), SG g' (tw 2 a b :: q) → Px 1 0 0 CX12_worked 8 [some (.ref 65), some (.int (nI 0)), some (.int (nI f)), some (.int (nI E)), some (.int (nI (q.length + 1))), some (.int (nI (k + 1))), some (.int x)] [] (gS, (va_up I 83 g'), J, gR p, ro) Q) : Px 1 0 0 CX12_worked 8 [some (.ref (65)), some (.int (nI 0)), some (.int (nI f)), some (.int (nI E)), some (.int (nI (q.length + 1 + 1))), some (.int (nI k)), o] [] (gS, (va_up I 83 g), J, gR p, ro) (Q) := by
  refine px_iload rfl rfl ?_
  refine px_sipush (v := nI 130) rfl s_130 ?_
  refine px_iload_n (kk := 1) rfl rfl rfl ?_
  refine px_imulN rfl ?_
  refine px_iload_n (kk := 3) rfl rfl rfl ?_
  refine px_iaddN rfl ?_
  refine px_icmp_ge rfl (fun h => absurd h (nI_ge (by omega) (by omega))) (fun c14 => ?_)
  refine px_aload_n (kk := 0) rfl rfl rfl ?_
  refine px_getR (r := 77) rfl gS_65 rfl (gR_65_22 _) ?_
  refine px_iload rfl rfl ?_
  refine px_balde (j := k) (v := nI 60) rfl gS_77 rfl (by omega) ((congrFun (p_up_n _ _ (by decide)) k).trans hs) ?_
  refine px_ist6 rfl rfl (by decide) ?_
  refine px_iload rfl rfl ?_
  refine px_iconst (v := nI 1) rfl k_1 ?_
  refine px_icmp_eq rfl (fun h => absurd h (by decide)) (fun _ => ?_)
  refine px_iload rfl rfl ?_
  refine px_iconst (v := nI 2) rfl k_2 ?_
  refine px_icmp_ne rfl (fun _ => ?_) (fun h => absurd h (by decide))
  refine px_iload rfl rfl ?_
  refine px_iconst (v := nI 3) rfl k_3 ?_
  refine px_icmp_ne rfl (fun _ => ?_) (fun h => absurd h (by decide))
  refine px_iload rfl rfl ?_
  refine px_iconst (v := nI 4) rfl k_4 ?_
  refine px_icmp_ne rfl (fun _ => ?_) (fun h => absurd h (by decide))
  refine px_iinc4 rfl rfl rfl (by decide) ?_
  refine px_l4 (y := nI (q.length + 1)) (n_dec _) ?_
  refine px_aload_n (kk := 0) rfl rfl rfl ?_
  refine px_getR (r := 83) rfl gS_65 rfl (gR_65_28 _) ?_
  refine px_iload rfl rfl ?_
  refine px_iconst (v := nI 1) rfl k_1 ?_
  refine px_isubN rfl (by omega) ?_
  refine px_iload rfl rfl ?_
  refine px_aload_n (kk := 0) rfl rfl rfl ?_
  refine px_getR (r := 83) rfl gS_65 rfl (gR_65_28 _) ?_
  refine px_iload rfl rfl ?_
  refine px_iconst (v := nI 1) rfl k_1 ?_
  refine px_isubN rfl (by omega) ?_
  refine px_ialde (j := q.length) (v := a) rfl gS_83 (by congr 1) (by first | omega | (simp at h100; omega)) ((congrFun (p_up_s _ _ _) _).trans hsg.2.1) ?_
  refine px_aload_n (kk := 0) rfl rfl rfl ?_
  refine px_getR (r := 83) rfl gS_65 rfl (gR_65_28 _) ?_
  refine px_iload rfl rfl ?_
  refine px_ialde (j := (q.length + 1)) (v := b) rfl gS_83 rfl (by first | omega | (simp at h100; omega)) ((congrFun (p_up_s _ _ _) _).trans hsg.1) ?_
  refine px_callS0 CX12_twoOf [.int _, .ref 83] [.int _, .int _, .int _] (vX12_twoOf_2) rfl rfl rfl (Nat.le_of_ble_eq_true rfl) (by decide) ?_
  rintro _ _ - ⟨rfl, rfl⟩
  refine px_iast (j := q.length) rfl gS_83 (by congr 1) (by first | omega | (simp at h100; omega)) ?_
  refine px_iinc5 (v := nI (k + 1)) rfl (n_inc k) rfl (by decide) ?_
  refine px_goto rfl ?_
  rw [p_up_s, up2]
  exact kont _ _ (SG_up hsg.2.2 (Nat.le_refl _) |> fun z => ⟨p_up_s _ _ _, z⟩)
theorem lR_bin_3 {I : Nat → Nat → Int32} {J : Nat → Nat → Int64} {p : Bool × Option Nat} {ro : List (Nat × Nat × (Nat → Int32))} {f E k : Nat} (hE : E ≤ 130) (hk : k < E) {g : Nat → Int32} {o : Option Value} {q : List Int32} {a b : Int32} (hs : I 77 k = nI 61) (hw : I 78 k = wT (3, 3)) (hsg : SG g (b :: a :: q)) (h100 : ((b :: a :: q) : List Int32).length < 120) {Q : Option Value → pm_M → Prop} (kont : ∀ (g' : Nat → Int32) (x : Int32), SG g' (tw 3 a b :: q) → Px 1 0 0 CX12_worked 8 [some (.ref 65), some (.int (nI 0)), some (.int (nI f)), some (.int (nI E)), some (.int (nI (q.length + 1))), some (.int (nI (k + 1))), some (.int x)] [] (gS, (va_up I 83 g'), J, gR p, ro) Q) : Px 1 0 0 CX12_worked 8 [some (.ref (65)), some (.int (nI 0)), some (.int (nI f)), some (.int (nI E)), some (.int (nI (q.length + 1 + 1))), some (.int (nI k)), o] [] (gS, (va_up I 83 g), J, gR p, ro) (Q) := by
  refine px_iload rfl rfl ?_
  refine px_sipush (v := nI 130) rfl s_130 ?_
  refine px_iload_n (kk := 1) rfl rfl rfl ?_
  refine px_imulN rfl ?_
  refine px_iload_n (kk := 3) rfl rfl rfl ?_
  refine px_iaddN rfl ?_
  refine px_icmp_ge rfl (fun h => absurd h (nI_ge (by omega) (by omega))) (fun c14 => ?_)
  refine px_aload_n (kk := 0) rfl rfl rfl ?_
  refine px_getR (r := 77) rfl gS_65 rfl (gR_65_22 _) ?_
  refine px_iload rfl rfl ?_
  refine px_balde (j := k) (v := nI 61) rfl gS_77 rfl (by omega) ((congrFun (p_up_n _ _ (by decide)) k).trans hs) ?_
  refine px_ist6 rfl rfl (by decide) ?_
  refine px_iload rfl rfl ?_
  refine px_iconst (v := nI 1) rfl k_1 ?_
  refine px_icmp_eq rfl (fun h => absurd h (by decide)) (fun _ => ?_)
  refine px_iload rfl rfl ?_
  refine px_iconst (v := nI 2) rfl k_2 ?_
  refine px_icmp_ne rfl (fun _ => ?_) (fun h => absurd h (by decide))
  refine px_iload rfl rfl ?_
  refine px_iconst (v := nI 3) rfl k_3 ?_
  refine px_icmp_ne rfl (fun _ => ?_) (fun h => absurd h (by decide))
  refine px_iload rfl rfl ?_
  refine px_iconst (v := nI 4) rfl k_4 ?_
  refine px_icmp_ne rfl (fun _ => ?_) (fun h => absurd h (by decide))
  refine px_iinc4 rfl rfl rfl (by decide) ?_
  refine px_l4 (y := nI (q.length + 1)) (n_dec _) ?_
  refine px_aload_n (kk := 0) rfl rfl rfl ?_
  refine px_getR (r := 83) rfl gS_65 rfl (gR_65_28 _) ?_
  refine px_iload rfl rfl ?_
  refine px_iconst (v := nI 1) rfl k_1 ?_
  refine px_isubN rfl (by omega) ?_
  refine px_iload rfl rfl ?_
  refine px_aload_n (kk := 0) rfl rfl rfl ?_
  refine px_getR (r := 83) rfl gS_65 rfl (gR_65_28 _) ?_
  refine px_iload rfl rfl ?_
  refine px_iconst (v := nI 1) rfl k_1 ?_
  refine px_isubN rfl (by omega) ?_
  refine px_ialde (j := q.length) (v := a) rfl gS_83 (by congr 1) (by first | omega | (simp at h100; omega)) ((congrFun (p_up_s _ _ _) _).trans hsg.2.1) ?_
  refine px_aload_n (kk := 0) rfl rfl rfl ?_
  refine px_getR (r := 83) rfl gS_65 rfl (gR_65_28 _) ?_
  refine px_iload rfl rfl ?_
  refine px_ialde (j := (q.length + 1)) (v := b) rfl gS_83 rfl (by first | omega | (simp at h100; omega)) ((congrFun (p_up_s _ _ _) _).trans hsg.1) ?_
  refine px_callS0 CX12_twoOf [.int _, .ref 83] [.int _, .int _, .int _] (vX12_twoOf_3) rfl rfl rfl (Nat.le_of_ble_eq_true rfl) (by decide) ?_
  rintro _ _ - ⟨rfl, rfl⟩
  refine px_iast (j := q.length) rfl gS_83 (by congr 1) (by first | omega | (simp at h100; omega)) ?_
  refine px_iinc5 (v := nI (k + 1)) rfl (n_inc k) rfl (by decide) ?_
  refine px_goto rfl ?_
  rw [p_up_s, up2]
  exact kont _ _ (SG_up hsg.2.2 (Nat.le_refl _) |> fun z => ⟨p_up_s _ _ _, z⟩)
theorem lR_bin_4 {I : Nat → Nat → Int32} {J : Nat → Nat → Int64} {p : Bool × Option Nat} {ro : List (Nat × Nat × (Nat → Int32))} {f E k : Nat} (hE : E ≤ 130) (hk : k < E) {g : Nat → Int32} {o : Option Value} {q : List Int32} {a b : Int32} (hs : I 77 k = nI 62) (hw : I 78 k = wT (3, 4)) (hsg : SG g (b :: a :: q)) (h100 : ((b :: a :: q) : List Int32).length < 120) {Q : Option Value → pm_M → Prop} (kont : ∀ (g' : Nat → Int32) (x : Int32), SG g' (tw 4 a b :: q) → Px 1 0 0 CX12_worked 8 [some (.ref 65), some (.int (nI 0)), some (.int (nI f)), some (.int (nI E)), some (.int (nI (q.length + 1))), some (.int (nI (k + 1))), some (.int x)] [] (gS, (va_up I 83 g'), J, gR p, ro) Q) : Px 1 0 0 CX12_worked 8 [some (.ref (65)), some (.int (nI 0)), some (.int (nI f)), some (.int (nI E)), some (.int (nI (q.length + 1 + 1))), some (.int (nI k)), o] [] (gS, (va_up I 83 g), J, gR p, ro) (Q) := by
  refine px_iload rfl rfl ?_
  refine px_sipush (v := nI 130) rfl s_130 ?_
  refine px_iload_n (kk := 1) rfl rfl rfl ?_
  refine px_imulN rfl ?_
  refine px_iload_n (kk := 3) rfl rfl rfl ?_
  refine px_iaddN rfl ?_
  refine px_icmp_ge rfl (fun h => absurd h (nI_ge (by omega) (by omega))) (fun c14 => ?_)
  refine px_aload_n (kk := 0) rfl rfl rfl ?_
  refine px_getR (r := 77) rfl gS_65 rfl (gR_65_22 _) ?_
  refine px_iload rfl rfl ?_
  refine px_balde (j := k) (v := nI 62) rfl gS_77 rfl (by omega) ((congrFun (p_up_n _ _ (by decide)) k).trans hs) ?_
  refine px_ist6 rfl rfl (by decide) ?_
  refine px_iload rfl rfl ?_
  refine px_iconst (v := nI 1) rfl k_1 ?_
  refine px_icmp_eq rfl (fun h => absurd h (by decide)) (fun _ => ?_)
  refine px_iload rfl rfl ?_
  refine px_iconst (v := nI 2) rfl k_2 ?_
  refine px_icmp_ne rfl (fun _ => ?_) (fun h => absurd h (by decide))
  refine px_iload rfl rfl ?_
  refine px_iconst (v := nI 3) rfl k_3 ?_
  refine px_icmp_ne rfl (fun _ => ?_) (fun h => absurd h (by decide))
  refine px_iload rfl rfl ?_
  refine px_iconst (v := nI 4) rfl k_4 ?_
  refine px_icmp_ne rfl (fun _ => ?_) (fun h => absurd h (by decide))
  refine px_iinc4 rfl rfl rfl (by decide) ?_
  refine px_l4 (y := nI (q.length + 1)) (n_dec _) ?_
  refine px_aload_n (kk := 0) rfl rfl rfl ?_
  refine px_getR (r := 83) rfl gS_65 rfl (gR_65_28 _) ?_
  refine px_iload rfl rfl ?_
  refine px_iconst (v := nI 1) rfl k_1 ?_
  refine px_isubN rfl (by omega) ?_
  refine px_iload rfl rfl ?_
  refine px_aload_n (kk := 0) rfl rfl rfl ?_
  refine px_getR (r := 83) rfl gS_65 rfl (gR_65_28 _) ?_
  refine px_iload rfl rfl ?_
  refine px_iconst (v := nI 1) rfl k_1 ?_
  refine px_isubN rfl (by omega) ?_
  refine px_ialde (j := q.length) (v := a) rfl gS_83 (by congr 1) (by first | omega | (simp at h100; omega)) ((congrFun (p_up_s _ _ _) _).trans hsg.2.1) ?_
  refine px_aload_n (kk := 0) rfl rfl rfl ?_
  refine px_getR (r := 83) rfl gS_65 rfl (gR_65_28 _) ?_
  refine px_iload rfl rfl ?_
  refine px_ialde (j := (q.length + 1)) (v := b) rfl gS_83 rfl (by first | omega | (simp at h100; omega)) ((congrFun (p_up_s _ _ _) _).trans hsg.1) ?_
  refine px_callS0 CX12_twoOf [.int _, .ref 83] [.int _, .int _, .int _] (vX12_twoOf_4) rfl rfl rfl (Nat.le_of_ble_eq_true rfl) (by decide) ?_
  rintro _ _ - ⟨rfl, rfl⟩
  refine px_iast (j := q.length) rfl gS_83 (by congr 1) (by first | omega | (simp at h100; omega)) ?_
  refine px_iinc5 (v := nI (k + 1)) rfl (n_inc k) rfl (by decide) ?_
  refine px_goto rfl ?_
  rw [p_up_s, up2]
  exact kont _ _ (SG_up hsg.2.2 (Nat.le_refl _) |> fun z => ⟨p_up_s _ _ _, z⟩)
theorem lR_bin_5 {I : Nat → Nat → Int32} {J : Nat → Nat → Int64} {p : Bool × Option Nat} {ro : List (Nat × Nat × (Nat → Int32))} {f E k : Nat} (hE : E ≤ 130) (hk : k < E) {g : Nat → Int32} {o : Option Value} {q : List Int32} {a b : Int32} (hs : I 77 k = nI 43) (hw : I 78 k = wT (3, 5)) (hsg : SG g (b :: a :: q)) (h100 : ((b :: a :: q) : List Int32).length < 120) {Q : Option Value → pm_M → Prop} (kont : ∀ (g' : Nat → Int32) (x : Int32), SG g' (tw 5 a b :: q) → Px 1 0 0 CX12_worked 8 [some (.ref 65), some (.int (nI 0)), some (.int (nI f)), some (.int (nI E)), some (.int (nI (q.length + 1))), some (.int (nI (k + 1))), some (.int x)] [] (gS, (va_up I 83 g'), J, gR p, ro) Q) : Px 1 0 0 CX12_worked 8 [some (.ref (65)), some (.int (nI 0)), some (.int (nI f)), some (.int (nI E)), some (.int (nI (q.length + 1 + 1))), some (.int (nI k)), o] [] (gS, (va_up I 83 g), J, gR p, ro) (Q) := by
  refine px_iload rfl rfl ?_
  refine px_sipush (v := nI 130) rfl s_130 ?_
  refine px_iload_n (kk := 1) rfl rfl rfl ?_
  refine px_imulN rfl ?_
  refine px_iload_n (kk := 3) rfl rfl rfl ?_
  refine px_iaddN rfl ?_
  refine px_icmp_ge rfl (fun h => absurd h (nI_ge (by omega) (by omega))) (fun c14 => ?_)
  refine px_aload_n (kk := 0) rfl rfl rfl ?_
  refine px_getR (r := 77) rfl gS_65 rfl (gR_65_22 _) ?_
  refine px_iload rfl rfl ?_
  refine px_balde (j := k) (v := nI 43) rfl gS_77 rfl (by omega) ((congrFun (p_up_n _ _ (by decide)) k).trans hs) ?_
  refine px_ist6 rfl rfl (by decide) ?_
  refine px_iload rfl rfl ?_
  refine px_iconst (v := nI 1) rfl k_1 ?_
  refine px_icmp_eq rfl (fun h => absurd h (by decide)) (fun _ => ?_)
  refine px_iload rfl rfl ?_
  refine px_iconst (v := nI 2) rfl k_2 ?_
  refine px_icmp_ne rfl (fun _ => ?_) (fun h => absurd h (by decide))
  refine px_iload rfl rfl ?_
  refine px_iconst (v := nI 3) rfl k_3 ?_
  refine px_icmp_ne rfl (fun _ => ?_) (fun h => absurd h (by decide))
  refine px_iload rfl rfl ?_
  refine px_iconst (v := nI 4) rfl k_4 ?_
  refine px_icmp_ne rfl (fun _ => ?_) (fun h => absurd h (by decide))
  refine px_iinc4 rfl rfl rfl (by decide) ?_
  refine px_l4 (y := nI (q.length + 1)) (n_dec _) ?_
  refine px_aload_n (kk := 0) rfl rfl rfl ?_
  refine px_getR (r := 83) rfl gS_65 rfl (gR_65_28 _) ?_
  refine px_iload rfl rfl ?_
  refine px_iconst (v := nI 1) rfl k_1 ?_
  refine px_isubN rfl (by omega) ?_
  refine px_iload rfl rfl ?_
  refine px_aload_n (kk := 0) rfl rfl rfl ?_
  refine px_getR (r := 83) rfl gS_65 rfl (gR_65_28 _) ?_
  refine px_iload rfl rfl ?_
  refine px_iconst (v := nI 1) rfl k_1 ?_
  refine px_isubN rfl (by omega) ?_
  refine px_ialde (j := q.length) (v := a) rfl gS_83 (by congr 1) (by first | omega | (simp at h100; omega)) ((congrFun (p_up_s _ _ _) _).trans hsg.2.1) ?_
  refine px_aload_n (kk := 0) rfl rfl rfl ?_
  refine px_getR (r := 83) rfl gS_65 rfl (gR_65_28 _) ?_
  refine px_iload rfl rfl ?_
  refine px_ialde (j := (q.length + 1)) (v := b) rfl gS_83 rfl (by first | omega | (simp at h100; omega)) ((congrFun (p_up_s _ _ _) _).trans hsg.1) ?_
  refine px_callS0 CX12_twoOf [.int _, .ref 83] [.int _, .int _, .int _] (vX12_twoOf_5) rfl rfl rfl (Nat.le_of_ble_eq_true rfl) (by decide) ?_
  rintro _ _ - ⟨rfl, rfl⟩
  refine px_iast (j := q.length) rfl gS_83 (by congr 1) (by first | omega | (simp at h100; omega)) ?_
  refine px_iinc5 (v := nI (k + 1)) rfl (n_inc k) rfl (by decide) ?_
  refine px_goto rfl ?_
  rw [p_up_s, up2]
  exact kont _ _ (SG_up hsg.2.2 (Nat.le_refl _) |> fun z => ⟨p_up_s _ _ _, z⟩)
theorem lR_bin_6 {I : Nat → Nat → Int32} {J : Nat → Nat → Int64} {p : Bool × Option Nat} {ro : List (Nat × Nat × (Nat → Int32))} {f E k : Nat} (hE : E ≤ 130) (hk : k < E) {g : Nat → Int32} {o : Option Value} {q : List Int32} {a b : Int32} (hs : I 77 k = nI 45) (hw : I 78 k = wT (3, 6)) (hsg : SG g (b :: a :: q)) (h100 : ((b :: a :: q) : List Int32).length < 120) {Q : Option Value → pm_M → Prop} (kont : ∀ (g' : Nat → Int32) (x : Int32), SG g' (tw 6 a b :: q) → Px 1 0 0 CX12_worked 8 [some (.ref 65), some (.int (nI 0)), some (.int (nI f)), some (.int (nI E)), some (.int (nI (q.length + 1))), some (.int (nI (k + 1))), some (.int x)] [] (gS, (va_up I 83 g'), J, gR p, ro) Q) : Px 1 0 0 CX12_worked 8 [some (.ref (65)), some (.int (nI 0)), some (.int (nI f)), some (.int (nI E)), some (.int (nI (q.length + 1 + 1))), some (.int (nI k)), o] [] (gS, (va_up I 83 g), J, gR p, ro) (Q) := by
  refine px_iload rfl rfl ?_
  refine px_sipush (v := nI 130) rfl s_130 ?_
  refine px_iload_n (kk := 1) rfl rfl rfl ?_
  refine px_imulN rfl ?_
  refine px_iload_n (kk := 3) rfl rfl rfl ?_
  refine px_iaddN rfl ?_
  refine px_icmp_ge rfl (fun h => absurd h (nI_ge (by omega) (by omega))) (fun c14 => ?_)
  refine px_aload_n (kk := 0) rfl rfl rfl ?_
  refine px_getR (r := 77) rfl gS_65 rfl (gR_65_22 _) ?_
  refine px_iload rfl rfl ?_
  refine px_balde (j := k) (v := nI 45) rfl gS_77 rfl (by omega) ((congrFun (p_up_n _ _ (by decide)) k).trans hs) ?_
  refine px_ist6 rfl rfl (by decide) ?_
  refine px_iload rfl rfl ?_
  refine px_iconst (v := nI 1) rfl k_1 ?_
  refine px_icmp_eq rfl (fun h => absurd h (by decide)) (fun _ => ?_)
  refine px_iload rfl rfl ?_
  refine px_iconst (v := nI 2) rfl k_2 ?_
  refine px_icmp_ne rfl (fun _ => ?_) (fun h => absurd h (by decide))
  refine px_iload rfl rfl ?_
  refine px_iconst (v := nI 3) rfl k_3 ?_
  refine px_icmp_ne rfl (fun _ => ?_) (fun h => absurd h (by decide))
  refine px_iload rfl rfl ?_
  refine px_iconst (v := nI 4) rfl k_4 ?_
  refine px_icmp_ne rfl (fun _ => ?_) (fun h => absurd h (by decide))
  refine px_iinc4 rfl rfl rfl (by decide) ?_
  refine px_l4 (y := nI (q.length + 1)) (n_dec _) ?_
  refine px_aload_n (kk := 0) rfl rfl rfl ?_
  refine px_getR (r := 83) rfl gS_65 rfl (gR_65_28 _) ?_
  refine px_iload rfl rfl ?_
  refine px_iconst (v := nI 1) rfl k_1 ?_
  refine px_isubN rfl (by omega) ?_
  refine px_iload rfl rfl ?_
  refine px_aload_n (kk := 0) rfl rfl rfl ?_
  refine px_getR (r := 83) rfl gS_65 rfl (gR_65_28 _) ?_
  refine px_iload rfl rfl ?_
  refine px_iconst (v := nI 1) rfl k_1 ?_
  refine px_isubN rfl (by omega) ?_
  refine px_ialde (j := q.length) (v := a) rfl gS_83 (by congr 1) (by first | omega | (simp at h100; omega)) ((congrFun (p_up_s _ _ _) _).trans hsg.2.1) ?_
  refine px_aload_n (kk := 0) rfl rfl rfl ?_
  refine px_getR (r := 83) rfl gS_65 rfl (gR_65_28 _) ?_
  refine px_iload rfl rfl ?_
  refine px_ialde (j := (q.length + 1)) (v := b) rfl gS_83 rfl (by first | omega | (simp at h100; omega)) ((congrFun (p_up_s _ _ _) _).trans hsg.1) ?_
  refine px_callS0 CX12_twoOf [.int _, .ref 83] [.int _, .int _, .int _] (vX12_twoOf_6) rfl rfl rfl (Nat.le_of_ble_eq_true rfl) (by decide) ?_
  rintro _ _ - ⟨rfl, rfl⟩
  refine px_iast (j := q.length) rfl gS_83 (by congr 1) (by first | omega | (simp at h100; omega)) ?_
  refine px_iinc5 (v := nI (k + 1)) rfl (n_inc k) rfl (by decide) ?_
  refine px_goto rfl ?_
  rw [p_up_s, up2]
  exact kont _ _ (SG_up hsg.2.2 (Nat.le_refl _) |> fun z => ⟨p_up_s _ _ _, z⟩)
theorem lR_bin_7 {I : Nat → Nat → Int32} {J : Nat → Nat → Int64} {p : Bool × Option Nat} {ro : List (Nat × Nat × (Nat → Int32))} {f E k : Nat} (hE : E ≤ 130) (hk : k < E) {g : Nat → Int32} {o : Option Value} {q : List Int32} {a b : Int32} (hs : I 77 k = nI 42) (hw : I 78 k = wT (3, 7)) (hsg : SG g (b :: a :: q)) (h100 : ((b :: a :: q) : List Int32).length < 120) {Q : Option Value → pm_M → Prop} (kont : ∀ (g' : Nat → Int32) (x : Int32), SG g' (tw 7 a b :: q) → Px 1 0 0 CX12_worked 8 [some (.ref 65), some (.int (nI 0)), some (.int (nI f)), some (.int (nI E)), some (.int (nI (q.length + 1))), some (.int (nI (k + 1))), some (.int x)] [] (gS, (va_up I 83 g'), J, gR p, ro) Q) : Px 1 0 0 CX12_worked 8 [some (.ref (65)), some (.int (nI 0)), some (.int (nI f)), some (.int (nI E)), some (.int (nI (q.length + 1 + 1))), some (.int (nI k)), o] [] (gS, (va_up I 83 g), J, gR p, ro) (Q) := by
  refine px_iload rfl rfl ?_
  refine px_sipush (v := nI 130) rfl s_130 ?_
  refine px_iload_n (kk := 1) rfl rfl rfl ?_
  refine px_imulN rfl ?_
  refine px_iload_n (kk := 3) rfl rfl rfl ?_
  refine px_iaddN rfl ?_
  refine px_icmp_ge rfl (fun h => absurd h (nI_ge (by omega) (by omega))) (fun c14 => ?_)
  refine px_aload_n (kk := 0) rfl rfl rfl ?_
  refine px_getR (r := 77) rfl gS_65 rfl (gR_65_22 _) ?_
  refine px_iload rfl rfl ?_
  refine px_balde (j := k) (v := nI 42) rfl gS_77 rfl (by omega) ((congrFun (p_up_n _ _ (by decide)) k).trans hs) ?_
  refine px_ist6 rfl rfl (by decide) ?_
  refine px_iload rfl rfl ?_
  refine px_iconst (v := nI 1) rfl k_1 ?_
  refine px_icmp_eq rfl (fun h => absurd h (by decide)) (fun _ => ?_)
  refine px_iload rfl rfl ?_
  refine px_iconst (v := nI 2) rfl k_2 ?_
  refine px_icmp_ne rfl (fun _ => ?_) (fun h => absurd h (by decide))
  refine px_iload rfl rfl ?_
  refine px_iconst (v := nI 3) rfl k_3 ?_
  refine px_icmp_ne rfl (fun _ => ?_) (fun h => absurd h (by decide))
  refine px_iload rfl rfl ?_
  refine px_iconst (v := nI 4) rfl k_4 ?_
  refine px_icmp_ne rfl (fun _ => ?_) (fun h => absurd h (by decide))
  refine px_iinc4 rfl rfl rfl (by decide) ?_
  refine px_l4 (y := nI (q.length + 1)) (n_dec _) ?_
  refine px_aload_n (kk := 0) rfl rfl rfl ?_
  refine px_getR (r := 83) rfl gS_65 rfl (gR_65_28 _) ?_
  refine px_iload rfl rfl ?_
  refine px_iconst (v := nI 1) rfl k_1 ?_
  refine px_isubN rfl (by omega) ?_
  refine px_iload rfl rfl ?_
  refine px_aload_n (kk := 0) rfl rfl rfl ?_
  refine px_getR (r := 83) rfl gS_65 rfl (gR_65_28 _) ?_
  refine px_iload rfl rfl ?_
  refine px_iconst (v := nI 1) rfl k_1 ?_
  refine px_isubN rfl (by omega) ?_
  refine px_ialde (j := q.length) (v := a) rfl gS_83 (by congr 1) (by first | omega | (simp at h100; omega)) ((congrFun (p_up_s _ _ _) _).trans hsg.2.1) ?_
  refine px_aload_n (kk := 0) rfl rfl rfl ?_
  refine px_getR (r := 83) rfl gS_65 rfl (gR_65_28 _) ?_
  refine px_iload rfl rfl ?_
  refine px_ialde (j := (q.length + 1)) (v := b) rfl gS_83 rfl (by first | omega | (simp at h100; omega)) ((congrFun (p_up_s _ _ _) _).trans hsg.1) ?_
  refine px_callS0 CX12_twoOf [.int _, .ref 83] [.int _, .int _, .int _] (vX12_twoOf_7) rfl rfl rfl (Nat.le_of_ble_eq_true rfl) (by decide) ?_
  rintro _ _ - ⟨rfl, rfl⟩
  refine px_iast (j := q.length) rfl gS_83 (by congr 1) (by first | omega | (simp at h100; omega)) ?_
  refine px_iinc5 (v := nI (k + 1)) rfl (n_inc k) rfl (by decide) ?_
  refine px_goto rfl ?_
  rw [p_up_s, up2]
  exact kont _ _ (SG_up hsg.2.2 (Nat.le_refl _) |> fun z => ⟨p_up_s _ _ _, z⟩)
theorem lR_bin_8 {I : Nat → Nat → Int32} {J : Nat → Nat → Int64} {p : Bool × Option Nat} {ro : List (Nat × Nat × (Nat → Int32))} {f E k : Nat} (hE : E ≤ 130) (hk : k < E) {g : Nat → Int32} {o : Option Value} {q : List Int32} {a b : Int32} (hs : I 77 k = nI 47) (hw : I 78 k = wT (3, 8)) (hsg : SG g (b :: a :: q)) (h100 : ((b :: a :: q) : List Int32).length < 120) {Q : Option Value → pm_M → Prop} (kont : ∀ (g' : Nat → Int32) (x : Int32), SG g' (tw 8 a b :: q) → Px 1 0 0 CX12_worked 8 [some (.ref 65), some (.int (nI 0)), some (.int (nI f)), some (.int (nI E)), some (.int (nI (q.length + 1))), some (.int (nI (k + 1))), some (.int x)] [] (gS, (va_up I 83 g'), J, gR p, ro) Q) : Px 1 0 0 CX12_worked 8 [some (.ref (65)), some (.int (nI 0)), some (.int (nI f)), some (.int (nI E)), some (.int (nI (q.length + 1 + 1))), some (.int (nI k)), o] [] (gS, (va_up I 83 g), J, gR p, ro) (Q) := by
  refine px_iload rfl rfl ?_
  refine px_sipush (v := nI 130) rfl s_130 ?_
  refine px_iload_n (kk := 1) rfl rfl rfl ?_
  refine px_imulN rfl ?_
  refine px_iload_n (kk := 3) rfl rfl rfl ?_
  refine px_iaddN rfl ?_
  refine px_icmp_ge rfl (fun h => absurd h (nI_ge (by omega) (by omega))) (fun c14 => ?_)
  refine px_aload_n (kk := 0) rfl rfl rfl ?_
  refine px_getR (r := 77) rfl gS_65 rfl (gR_65_22 _) ?_
  refine px_iload rfl rfl ?_
  refine px_balde (j := k) (v := nI 47) rfl gS_77 rfl (by omega) ((congrFun (p_up_n _ _ (by decide)) k).trans hs) ?_
  refine px_ist6 rfl rfl (by decide) ?_
  refine px_iload rfl rfl ?_
  refine px_iconst (v := nI 1) rfl k_1 ?_
  refine px_icmp_eq rfl (fun h => absurd h (by decide)) (fun _ => ?_)
  refine px_iload rfl rfl ?_
  refine px_iconst (v := nI 2) rfl k_2 ?_
  refine px_icmp_ne rfl (fun _ => ?_) (fun h => absurd h (by decide))
  refine px_iload rfl rfl ?_
  refine px_iconst (v := nI 3) rfl k_3 ?_
  refine px_icmp_ne rfl (fun _ => ?_) (fun h => absurd h (by decide))
  refine px_iload rfl rfl ?_
  refine px_iconst (v := nI 4) rfl k_4 ?_
  refine px_icmp_ne rfl (fun _ => ?_) (fun h => absurd h (by decide))
  refine px_iinc4 rfl rfl rfl (by decide) ?_
  refine px_l4 (y := nI (q.length + 1)) (n_dec _) ?_
  refine px_aload_n (kk := 0) rfl rfl rfl ?_
  refine px_getR (r := 83) rfl gS_65 rfl (gR_65_28 _) ?_
  refine px_iload rfl rfl ?_
  refine px_iconst (v := nI 1) rfl k_1 ?_
  refine px_isubN rfl (by omega) ?_
  refine px_iload rfl rfl ?_
  refine px_aload_n (kk := 0) rfl rfl rfl ?_
  refine px_getR (r := 83) rfl gS_65 rfl (gR_65_28 _) ?_
  refine px_iload rfl rfl ?_
  refine px_iconst (v := nI 1) rfl k_1 ?_
  refine px_isubN rfl (by omega) ?_
  refine px_ialde (j := q.length) (v := a) rfl gS_83 (by congr 1) (by first | omega | (simp at h100; omega)) ((congrFun (p_up_s _ _ _) _).trans hsg.2.1) ?_
  refine px_aload_n (kk := 0) rfl rfl rfl ?_
  refine px_getR (r := 83) rfl gS_65 rfl (gR_65_28 _) ?_
  refine px_iload rfl rfl ?_
  refine px_ialde (j := (q.length + 1)) (v := b) rfl gS_83 rfl (by first | omega | (simp at h100; omega)) ((congrFun (p_up_s _ _ _) _).trans hsg.1) ?_
  refine px_callS0 CX12_twoOf [.int _, .ref 83] [.int _, .int _, .int _] (vX12_twoOf_8) rfl rfl rfl (Nat.le_of_ble_eq_true rfl) (by decide) ?_
  rintro _ _ - ⟨rfl, rfl⟩
  refine px_iast (j := q.length) rfl gS_83 (by congr 1) (by first | omega | (simp at h100; omega)) ?_
  refine px_iinc5 (v := nI (k + 1)) rfl (n_inc k) rfl (by decide) ?_
  refine px_goto rfl ?_
  rw [p_up_s, up2]
  exact kont _ _ (SG_up hsg.2.2 (Nat.le_refl _) |> fun z => ⟨p_up_s _ _ _, z⟩)
theorem lR_bin_9 {I : Nat → Nat → Int32} {J : Nat → Nat → Int64} {p : Bool × Option Nat} {ro : List (Nat × Nat × (Nat → Int32))} {f E k : Nat} (hE : E ≤ 130) (hk : k < E) {g : Nat → Int32} {o : Option Value} {q : List Int32} {a b : Int32} (hs : I 77 k = nI 37) (hw : I 78 k = wT (3, 9)) (hsg : SG g (b :: a :: q)) (h100 : ((b :: a :: q) : List Int32).length < 120) {Q : Option Value → pm_M → Prop} (kont : ∀ (g' : Nat → Int32) (x : Int32), SG g' (tw 9 a b :: q) → Px 1 0 0 CX12_worked 8 [some (.ref 65), some (.int (nI 0)), some (.int (nI f)), some (.int (nI E)), some (.int (nI (q.length + 1))), some (.int (nI (k + 1))), some (.int x)] [] (gS, (va_up I 83 g'), J, gR p, ro) Q) : Px 1 0 0 CX12_worked 8 [some (.ref (65)), some (.int (nI 0)), some (.int (nI f)), some (.int (nI E)), some (.int (nI (q.length + 1 + 1))), some (.int (nI k)), o] [] (gS, (va_up I 83 g), J, gR p, ro) (Q) := by
  refine px_iload rfl rfl ?_
  refine px_sipush (v := nI 130) rfl s_130 ?_
  refine px_iload_n (kk := 1) rfl rfl rfl ?_
  refine px_imulN rfl ?_
  refine px_iload_n (kk := 3) rfl rfl rfl ?_
  refine px_iaddN rfl ?_
  refine px_icmp_ge rfl (fun h => absurd h (nI_ge (by omega) (by omega))) (fun c14 => ?_)
  refine px_aload_n (kk := 0) rfl rfl rfl ?_
  refine px_getR (r := 77) rfl gS_65 rfl (gR_65_22 _) ?_
  refine px_iload rfl rfl ?_
  refine px_balde (j := k) (v := nI 37) rfl gS_77 rfl (by omega) ((congrFun (p_up_n _ _ (by decide)) k).trans hs) ?_
  refine px_ist6 rfl rfl (by decide) ?_
  refine px_iload rfl rfl ?_
  refine px_iconst (v := nI 1) rfl k_1 ?_
  refine px_icmp_eq rfl (fun h => absurd h (by decide)) (fun _ => ?_)
  refine px_iload rfl rfl ?_
  refine px_iconst (v := nI 2) rfl k_2 ?_
  refine px_icmp_ne rfl (fun _ => ?_) (fun h => absurd h (by decide))
  refine px_iload rfl rfl ?_
  refine px_iconst (v := nI 3) rfl k_3 ?_
  refine px_icmp_ne rfl (fun _ => ?_) (fun h => absurd h (by decide))
  refine px_iload rfl rfl ?_
  refine px_iconst (v := nI 4) rfl k_4 ?_
  refine px_icmp_ne rfl (fun _ => ?_) (fun h => absurd h (by decide))
  refine px_iinc4 rfl rfl rfl (by decide) ?_
  refine px_l4 (y := nI (q.length + 1)) (n_dec _) ?_
  refine px_aload_n (kk := 0) rfl rfl rfl ?_
  refine px_getR (r := 83) rfl gS_65 rfl (gR_65_28 _) ?_
  refine px_iload rfl rfl ?_
  refine px_iconst (v := nI 1) rfl k_1 ?_
  refine px_isubN rfl (by omega) ?_
  refine px_iload rfl rfl ?_
  refine px_aload_n (kk := 0) rfl rfl rfl ?_
  refine px_getR (r := 83) rfl gS_65 rfl (gR_65_28 _) ?_
  refine px_iload rfl rfl ?_
  refine px_iconst (v := nI 1) rfl k_1 ?_
  refine px_isubN rfl (by omega) ?_
  refine px_ialde (j := q.length) (v := a) rfl gS_83 (by congr 1) (by first | omega | (simp at h100; omega)) ((congrFun (p_up_s _ _ _) _).trans hsg.2.1) ?_
  refine px_aload_n (kk := 0) rfl rfl rfl ?_
  refine px_getR (r := 83) rfl gS_65 rfl (gR_65_28 _) ?_
  refine px_iload rfl rfl ?_
  refine px_ialde (j := (q.length + 1)) (v := b) rfl gS_83 rfl (by first | omega | (simp at h100; omega)) ((congrFun (p_up_s _ _ _) _).trans hsg.1) ?_
  refine px_callS0 CX12_twoOf [.int _, .ref 83] [.int _, .int _, .int _] (vX12_twoOf_9) rfl rfl rfl (Nat.le_of_ble_eq_true rfl) (by decide) ?_
  rintro _ _ - ⟨rfl, rfl⟩
  refine px_iast (j := q.length) rfl gS_83 (by congr 1) (by first | omega | (simp at h100; omega)) ?_
  refine px_iinc5 (v := nI (k + 1)) rfl (n_inc k) rfl (by decide) ?_
  refine px_goto rfl ?_
  rw [p_up_s, up2]
  exact kont _ _ (SG_up hsg.2.2 (Nat.le_refl _) |> fun z => ⟨p_up_s _ _ _, z⟩)
def fR (I : Nat → Nat → Int32) (k : Nat) : Int32 := match k with
  | 0 => I 82 0
  | 1 => I 82 1
  | 2 => I 82 2
  | 3 => I 82 3
  | 4 => I 82 4
  | _ => I 82 5
theorem lR_tok {I : Nat → Nat → Int32} {J : Nat → Nat → Int64} {p : Bool × Option Nat} {ro : List (Nat × Nat × (Nat → Int32))} {f E k : Nat} (hE : E ≤ 130) (hk : k < E) {g : Nat → Int32} {o : Option Value} {t : Tk} (ht : tkOK t) {st : List Int32} (h2 : t.1 = 2 → 1 ≤ st.length) (h3 : t.1 = 3 → 2 ≤ st.length) (hs : I 77 k = aT t) (hw : I 78 k = wT t) (hsg : SG g st) (h100 : st.length < 120) {Q : Option Value → pm_M → Prop} (kont : ∀ (g' : Nat → Int32) (x : Int32), SG g' (tkE (fR I) t st) → Px 1 0 0 CX12_worked 8 [some (.ref 65), some (.int (nI 0)), some (.int (nI f)), some (.int (nI E)), some (.int (nI (tkE (fR I) t st).length)), some (.int (nI (k + 1))), some (.int x)] [] (gS, (va_up I 83 g'), J, gR p, ro) Q) : Px 1 0 0 CX12_worked 8 [some (.ref 65), some (.int (nI 0)), some (.int (nI f)), some (.int (nI E)), some (.int (nI st.length)), some (.int (nI k)), o] [] (gS, (va_up I 83 g), J, gR p, ro) Q := by
  obtain ⟨a, x⟩ := t
  match a, st, ht, h2, h3, hs, hw, hsg, h100, kont with
  | 0, st, ht, _, _, hs, hw, hsg, h100, kont => exact lR_num hE hk ht hs hw hsg h100 kont
  | 1, st, ht, _, _, hs, hw, hsg, h100, kont =>
    match x, ht, hs, hw, kont with
    | 0, _, hs, hw, kont => exact lR_nam_0 hE hk hs hw hsg h100 kont
    | 1, _, hs, hw, kont => exact lR_nam_1 hE hk hs hw hsg h100 kont
    | 2, _, hs, hw, kont => exact lR_nam_2 hE hk hs hw hsg h100 kont
    | 3, _, hs, hw, kont => exact lR_nam_3 hE hk hs hw hsg h100 kont
    | 4, _, hs, hw, kont => exact lR_nam_4 hE hk hs hw hsg h100 kont
    | 5, _, hs, hw, kont => exact lR_nam_5 hE hk hs hw hsg h100 kont
    | n + 6, h, _, _, _ => exact absurd h (by simp [tkOK])
  | 2, [], _, h2, _, _, _, _, _, _ => exact absurd (h2 rfl) (by simp)
  | 2, a :: q, ht, _, _, hs, hw, hsg, h100, kont =>
    match x, ht, hs, hw, kont with
    | 0, _, hs, hw, kont => exact lR_un_0 hE hk hs hw hsg h100 kont
    | 1, _, hs, hw, kont => exact lR_un_1 hE hk hs hw hsg h100 kont
    | n + 2, h, _, _, _ => exact absurd h (by simp [tkOK])
  | 3, [], _, _, h3, _, _, _, _, _ => exact absurd (h3 rfl) (by simp)
  | 3, [a], _, _, h3, _, _, _, _, _ => exact absurd (h3 rfl) (by simp)
  | 3, b :: a :: q, ht, _, _, hs, hw, hsg, h100, kont =>
    match x, ht, hs, hw, kont with
    | 0, _, hs, hw, kont => exact lR_bin_0 hE hk hs hw hsg h100 kont
    | 1, _, hs, hw, kont => exact lR_bin_1 hE hk hs hw hsg h100 kont
    | 2, _, hs, hw, kont => exact lR_bin_2 hE hk hs hw hsg h100 kont
    | 3, _, hs, hw, kont => exact lR_bin_3 hE hk hs hw hsg h100 kont
    | 4, _, hs, hw, kont => exact lR_bin_4 hE hk hs hw hsg h100 kont
    | 5, _, hs, hw, kont => exact lR_bin_5 hE hk hs hw hsg h100 kont
    | 6, _, hs, hw, kont => exact lR_bin_6 hE hk hs hw hsg h100 kont
    | 7, _, hs, hw, kont => exact lR_bin_7 hE hk hs hw hsg h100 kont
    | 8, _, hs, hw, kont => exact lR_bin_8 hE hk hs hw hsg h100 kont
    | 9, _, hs, hw, kont => exact lR_bin_9 hE hk hs hw hsg h100 kont
    | n + 10, h, _, _, _ => exact absurd h (by simp [tkOK])
  | n + 4, _, ht, _, _, _, _, _, _, _ => exact absurd ht (by simp [tkOK])
theorem lR_exp {I : Nat → Nat → Int32} {J : Nat → Nat → Int64} {p : Bool × Option Nat} {ro : List (Nat × Nat × (Nat → Int32))} {f E : Nat} (hE : E ≤ 130) {Q : Option Value → pm_M → Prop} : ∀ (e : List Tk) (st : List Int32) (d' k : Nat) (g : Nat → Int32) (o : Option Value), dpt e st.length d' → st.length ≤ 100 → HC (I 77) k (e.map aT) → HC (I 78) k (e.map wT) → k + e.length = E → SG g st → (∀ (g' : Nat → Int32) (o' : Option Value), SG g' (evE (fR I) e st) → (evE (fR I) e st).length = d' → Px 1 0 0 CX12_worked 8 [some (.ref 65), some (.int (nI 0)), some (.int (nI f)), some (.int (nI E)), some (.int (nI d')), some (.int (nI E)), o'] [] (gS, (va_up I 83 g'), J, gR p, ro) Q) → Px 1 0 0 CX12_worked 8 [some (.ref 65), some (.int (nI 0)), some (.int (nI f)), some (.int (nI E)), some (.int (nI st.length)), some (.int (nI k)), o] [] (gS, (va_up I 83 g), J, gR p, ro) Q
  | [], st, d', k, g, o, hd, _, _, _, hk, hsg, kont => by
    have hd : d' = st.length := hd
    subst hd
    have hk : k = E := hk
    subst hk
    exact kont g o hsg rfl
  | t :: e, st, d', k, g, o, hd, h100, hc, hcw, hk, hsg, kont => by
    obtain ⟨ht, hd⟩ := hd
    simp only [List.length_cons] at hk
    have hl := tkE_len (fa := fR I) (st := st) ht
    have h2 : t.1 = 2 → 1 ≤ st.length := fun h => by rcases hd with ⟨a, _⟩ | ⟨_, b, _⟩ | ⟨a, _⟩ <;> omega
    have h3 : t.1 = 3 → 2 ≤ st.length := fun h => by rcases hd with ⟨a, _⟩ | ⟨a, _⟩ | ⟨_, b, _⟩ <;> omega
    have hl := hl h2 h3
    refine lR_tok hE (by omega) ht h2 h3 hc.1 hcw.1 hsg (by omega) (fun g' x hsg' => ?_)
    refine lR_exp hE e (tkE (fR I) t st) d' (k + 1) g' _ ?_ ?_ hc.2 hcw.2 (by omega) hsg' (fun g2 o2 h h' => kont g2 o2 h h')
    · rcases hd with ⟨a, _, c⟩ | ⟨a, _, c⟩ | ⟨a, _, c⟩
      · rw [hl.1 a]; exact c
      · rw [hl.2.1 a]; exact c
      · rw [hl.2.2 a]; exact c
    · rcases hd with ⟨a, b, c⟩ | ⟨a, _, c⟩ | ⟨a, _, c⟩
      · rw [hl.1 a]; omega
      · rw [hl.2.1 a]; omega
      · rw [hl.2.2 a]; omega
theorem lR_wend {I : Nat → Nat → Int32} {J : Nat → Nat → Int64} {p : Bool × Option Nat} {ro : List (Nat × Nat × (Nat → Int32))} {f E : Nat} (hE : E ≤ 130) {g : Nat → Int32} {o : Option Value} {Q : Option Value → pm_M → Prop} (hq : Q (some (.int (g 0))) (gS, (va_up I 83 g), J, gR p, ro)) : Px 1 0 0 CX12_worked 8 [some (.ref (65)), some (.int (nI 0)), some (.int (nI f)), some (.int (nI E)), some (.int (nI 1)), some (.int (nI E)), o] [] (gS, (va_up I 83 g), J, gR p, ro) (Q) := by
  refine px_iload rfl rfl ?_
  refine px_sipush (v := nI 130) rfl s_130 ?_
  refine px_iload_n (kk := 1) rfl rfl rfl ?_
  refine px_imulN rfl ?_
  refine px_iload_n (kk := 3) rfl rfl rfl ?_
  refine px_iaddN rfl ?_
  refine px_icmp_ge rfl (fun c14 => ?_) (fun h => absurd (nI_le (by omega) (by omega)) h)
  refine px_aload_n (kk := 0) rfl rfl rfl ?_
  refine px_getR (r := 83) rfl gS_65 rfl (gR_65_28 _) ?_
  refine px_iconst (v := nI 0) rfl k_0 ?_
  refine px_ialde (j := 0) (v := g 0) rfl gS_83 rfl (by decide) (congrFun (p_up_s _ _ _) _) ?_
  refine px_ireturn rfl (.inl rfl) ?_
  exact hq
theorem vX12_worked {I : Nat → Nat → Int32} {J : Nat → Nat → Int64} {p : Bool × Option Nat} {ro : List (Nat × Nat × (Nat → Int32))} {f E : Nat} (hE : E ≤ 130) {e : List Tk} (hd : dpt e 0 1) (hc : HC (I 77) f (e.map aT)) (hw : HC (I 78) f (e.map wT)) (hk : f + e.length = E) : Pv 1 0 0 CX12_worked [.ref (65), .int (nI 0), .int (nI f), .int (nI E)] (gS, I, J, gR p, ro) (fun v S' => v = some (.int ((evE (fR I) e []).headD 0)) ∧ ∃ g, S' = (gS, (va_up I 83 g), J, gR p, ro)) := by
  refine ⟨okCX12_worked, Nat.le_of_ble_eq_true rfl, (show Px _ _ _ _ 0 [some (.ref (65)), some (.int (nI 0)), some (.int (nI f)), some (.int (nI E)), none, none, none] [] _ _ from ?_)⟩
  refine px_iconst (v := nI 0) rfl k_0 ?_
  refine px_ist4 rfl rfl (by decide) ?_
  refine px_sipush (v := nI 130) rfl s_130 ?_
  refine px_iload_n (kk := 1) rfl rfl rfl ?_
  refine px_imulN rfl ?_
  refine px_iload_n (kk := 2) rfl rfl rfl ?_
  refine px_iaddN rfl ?_
  refine px_ist5 rfl rfl (by decide) ?_
  refine px_mem (up_id I 83) ?_
  rw [show 130 * 0 + f = f by omega]
  refine lR_exp hE e [] 1 f (I 83) _ hd (by simp) hc hw hk trivial (fun g o hsg hl => ?_)
  refine lR_wend hE ⟨?_, g, rfl⟩
  match hv : evE (fR I) e [], hl, hsg with
  | [a], _, hsg => rw [List.headD_cons, show g 0 = a from hsg.1]
def RLn (I : Nat → Nat → Int32) : Nat → Nat → List Ln → Prop
  | _, _, [] => True
  | l, f, q :: r => I 80 l = nI (f + q.1.length) ∧ I 81 l = nI (f + q.1.length + q.2.length) ∧ HC (I 77) f ((q.1 ++ q.2).map aT) ∧ HC (I 78) f ((q.1 ++ q.2).map wT) ∧ RLn I (l + 1) (f + q.1.length + q.2.length) r
def lensL : List Ln → Nat
  | [] => 0
  | q :: r => q.1.length + q.2.length + lensL r
/-- the reference's rows hold this law -/
def LawR (tx : List Ln) (I : Nat → Nat → Int32) : Prop := (I 65 29 = if tx = [] then nI 0 else nI 1) ∧ I 79 0 = nI tx.length ∧ tx.length ≤ 61 ∧ lensL tx ≤ 130 ∧ RLn I 0 0 tx ∧ ∀ q ∈ tx, lnOK q
theorem RL_congr {I I' : Nat → Nat → Int32} (h0 : I' 80 = I 80) (h1 : I' 81 = I 81) (h2 : I' 77 = I 77) (h3 : I' 78 = I 78) : ∀ (r : List Ln) (l f : Nat), RLn I l f r → RLn I' l f r
  | [], _, _, _ => trivial
  | q :: r, l, f, h => ⟨by rw [h0]; exact h.1, by rw [h1]; exact h.2.1, by rw [h2]; exact h.2.2.1, by rw [h3]; exact h.2.2.2.1, RL_congr h0 h1 h2 h3 r _ _ h.2.2.2.2⟩
theorem evE_congr {f g : Nat → Int32} (h : f = g) (e : List Tk) (st : List Int32) : evE f e st = evE g e st := by rw [h]
theorem lR_g1 {I : Nat → Nat → Int32} {J : Nat → Nat → Int64} {p : Bool × Option Nat} {ro : List (Nat × Nat × (Nat → Int32))} {N l f T E : Nat} (hN : I 79 0 = nI N) (hN61 : N ≤ 61) (hl : l < N) (ht : I 80 l = nI T) (he : I 81 l = nI E) (hT : T ≤ E) (hE : E ≤ 130) {g : Nat → Int32} {Q : Option Value → pm_M → Prop} {e : List Tk} (hde : dpt e 0 1) (hce : HC (I 77) T (e.map aT)) (hwe : HC (I 78) T (e.map wT)) (hke : T + e.length = E) (hfT : f = T) (hq : ∀ g, Q (some (.int ((evE (fR I) e []).headD 0))) (gS, (va_up I 83 g), J, gR p, ro)) : Px 2 0 0 CX12_gives 6 [some (.ref (65)), some (.int (nI 0)), some (.int (nI f)), some (.int (nI l))] [] (gS, (va_up I 83 g), J, gR p, ro) (Q) := by
  refine px_iload_n (kk := 3) rfl rfl rfl ?_
  refine px_bipush (v := nI 61) rfl b_61 ?_
  refine px_iload_n (kk := 1) rfl rfl rfl ?_
  refine px_imulN rfl ?_
  refine px_aload_n (kk := 0) rfl rfl rfl ?_
  refine px_getR (r := 79) rfl gS_65 rfl (gR_65_24 _) ?_
  refine px_iload_n (kk := 1) rfl rfl rfl ?_
  refine px_ialde (j := 0) (v := nI N) rfl gS_79 rfl (by decide) ((congrFun (p_up_n _ _ (by decide)) 0).trans hN) ?_
  refine px_iaddN rfl ?_
  refine px_icmp_ge rfl (fun h => absurd h (nI_ge (by omega) (by omega))) (fun c15 => ?_)
  refine px_aload_n (kk := 0) rfl rfl rfl ?_
  refine px_getR (r := 80) rfl gS_65 rfl (gR_65_25 _) ?_
  refine px_iload_n (kk := 3) rfl rfl rfl ?_
  refine px_salde (j := l) (v := nI T) rfl gS_80 rfl (by omega) ((congrFun (p_up_n _ _ (by decide)) l).trans ht) ?_
  refine px_iload_n (kk := 2) rfl rfl rfl ?_
  refine px_icmp_eq rfl (fun c21 => ?_) (fun h => absurd (by rw [hfT]) h)
  refine px_aload_n (kk := 0) rfl rfl rfl ?_
  refine px_iload_n (kk := 1) rfl rfl rfl ?_
  refine px_aload_n (kk := 0) rfl rfl rfl ?_
  refine px_getR (r := 80) rfl gS_65 rfl (gR_65_25 _) ?_
  refine px_iload_n (kk := 3) rfl rfl rfl ?_
  refine px_salde (j := l) (v := nI T) rfl gS_80 rfl (by omega) ((congrFun (p_up_n _ _ (by decide)) l).trans ht) ?_
  refine px_aload_n (kk := 0) rfl rfl rfl ?_
  refine px_getR (r := 81) rfl gS_65 rfl (gR_65_26 _) ?_
  refine px_iload_n (kk := 3) rfl rfl rfl ?_
  refine px_salde (j := l) (v := nI E) rfl gS_81 rfl (by omega) ((congrFun (p_up_n _ _ (by decide)) l).trans he) ?_
  refine px_callV0 CX12_worked [] [.int _, .int _, .int _] (vX12_worked (f := T) (E := E) (by omega) (e := e) (hde) (by rw [p_up_n _ _ (by decide)]; exact hce) (by rw [p_up_n _ _ (by decide)]; exact hwe) (by omega)) rfl gS_65 (by decide) rfl rfl rfl (Nat.le_of_ble_eq_true rfl) (by decide) ?_
  rintro _ _ - ⟨rfl, g3, rfl⟩
  rw [evE_congr (show fR (va_up I 83 g) = fR I from rfl), up2]
  refine px_ireturn rfl (.inl rfl) ?_
  exact hq _
theorem lR_g2 {I : Nat → Nat → Int32} {J : Nat → Nat → Int64} {p : Bool × Option Nat} {ro : List (Nat × Nat × (Nat → Int32))} {N l f T E : Nat} (hN : I 79 0 = nI N) (hN61 : N ≤ 61) (hl : l < N) (ht : I 80 l = nI T) (he : I 81 l = nI E) (hT : T ≤ E) (hE : E ≤ 130) {g : Nat → Int32} {Q : Option Value → pm_M → Prop} {e : List Tk} (hde : dpt e 0 1) (hce : HC (I 77) T (e.map aT)) (hwe : HC (I 78) T (e.map wT)) (hke : T + e.length = E) {t : List Tk} (hdt : dpt t 0 1) (hct : HC (I 77) f (t.map aT)) (hwt : HC (I 78) f (t.map wT)) (hkt : f + t.length = T) (hft : f ≠ T) (hv : (evE (fR I) t []).headD 0 ≠ 0) (hq : ∀ g, Q (some (.int ((evE (fR I) e []).headD 0))) (gS, (va_up I 83 g), J, gR p, ro)) : Px 2 0 0 CX12_gives 6 [some (.ref (65)), some (.int (nI 0)), some (.int (nI f)), some (.int (nI l))] [] (gS, (va_up I 83 g), J, gR p, ro) (Q) := by
  refine px_iload_n (kk := 3) rfl rfl rfl ?_
  refine px_bipush (v := nI 61) rfl b_61 ?_
  refine px_iload_n (kk := 1) rfl rfl rfl ?_
  refine px_imulN rfl ?_
  refine px_aload_n (kk := 0) rfl rfl rfl ?_
  refine px_getR (r := 79) rfl gS_65 rfl (gR_65_24 _) ?_
  refine px_iload_n (kk := 1) rfl rfl rfl ?_
  refine px_ialde (j := 0) (v := nI N) rfl gS_79 rfl (by decide) ((congrFun (p_up_n _ _ (by decide)) 0).trans hN) ?_
  refine px_iaddN rfl ?_
  refine px_icmp_ge rfl (fun h => absurd h (nI_ge (by omega) (by omega))) (fun c15 => ?_)
  refine px_aload_n (kk := 0) rfl rfl rfl ?_
  refine px_getR (r := 80) rfl gS_65 rfl (gR_65_25 _) ?_
  refine px_iload_n (kk := 3) rfl rfl rfl ?_
  refine px_salde (j := l) (v := nI T) rfl gS_80 rfl (by omega) ((congrFun (p_up_n _ _ (by decide)) l).trans ht) ?_
  refine px_iload_n (kk := 2) rfl rfl rfl ?_
  refine px_icmp_eq rfl (fun h => absurd h (fun z => hft ((n_eq (by omega) (by omega)).mp z).symm)) (fun c21 => ?_)
  refine px_aload_n (kk := 0) rfl rfl rfl ?_
  refine px_iload_n (kk := 1) rfl rfl rfl ?_
  refine px_iload_n (kk := 2) rfl rfl rfl ?_
  refine px_aload_n (kk := 0) rfl rfl rfl ?_
  refine px_getR (r := 80) rfl gS_65 rfl (gR_65_25 _) ?_
  refine px_iload_n (kk := 3) rfl rfl rfl ?_
  refine px_salde (j := l) (v := nI T) rfl gS_80 rfl (by omega) ((congrFun (p_up_n _ _ (by decide)) l).trans ht) ?_
  refine px_callV0 CX12_worked [] [.int _, .int _, .int _] (vX12_worked (f := f) (E := T) (by omega) (e := t) (hdt) (by rw [p_up_n _ _ (by decide)]; exact hct) (by rw [p_up_n _ _ (by decide)]; exact hwt) (by omega)) rfl gS_65 (by decide) rfl rfl rfl (Nat.le_of_ble_eq_true rfl) (by decide) ?_
  rintro _ _ - ⟨rfl, g2, rfl⟩
  rw [evE_congr (show fR (va_up I 83 g) = fR I from rfl), up2]
  refine px_if_eq rfl (fun h => absurd h hv) (fun c30 => ?_)
  refine px_aload_n (kk := 0) rfl rfl rfl ?_
  refine px_iload_n (kk := 1) rfl rfl rfl ?_
  refine px_aload_n (kk := 0) rfl rfl rfl ?_
  refine px_getR (r := 80) rfl gS_65 rfl (gR_65_25 _) ?_
  refine px_iload_n (kk := 3) rfl rfl rfl ?_
  refine px_salde (j := l) (v := nI T) rfl gS_80 rfl (by omega) ((congrFun (p_up_n _ _ (by decide)) l).trans ht) ?_
  refine px_aload_n (kk := 0) rfl rfl rfl ?_
  refine px_getR (r := 81) rfl gS_65 rfl (gR_65_26 _) ?_
  refine px_iload_n (kk := 3) rfl rfl rfl ?_
  refine px_salde (j := l) (v := nI E) rfl gS_81 rfl (by omega) ((congrFun (p_up_n _ _ (by decide)) l).trans he) ?_
  refine px_callV0 CX12_worked [] [.int _, .int _, .int _] (vX12_worked (f := T) (E := E) (by omega) (e := e) (hde) (by rw [p_up_n _ _ (by decide)]; exact hce) (by rw [p_up_n _ _ (by decide)]; exact hwe) (by omega)) rfl gS_65 (by decide) rfl rfl rfl (Nat.le_of_ble_eq_true rfl) (by decide) ?_
  rintro _ _ - ⟨rfl, g3, rfl⟩
  rw [evE_congr (show fR (va_up I 83 g2) = fR I from rfl), up2]
  refine px_ireturn rfl (.inl rfl) ?_
  exact hq _
theorem lR_g3 {I : Nat → Nat → Int32} {J : Nat → Nat → Int64} {p : Bool × Option Nat} {ro : List (Nat × Nat × (Nat → Int32))} {N l f T E : Nat} (hN : I 79 0 = nI N) (hN61 : N ≤ 61) (hl : l < N) (ht : I 80 l = nI T) (he : I 81 l = nI E) (hT : T ≤ E) (hE : E ≤ 130) {g : Nat → Int32} {Q : Option Value → pm_M → Prop} {t : List Tk} (hdt : dpt t 0 1) (hct : HC (I 77) f (t.map aT)) (hwt : HC (I 78) f (t.map wT)) (hkt : f + t.length = T) (hft : f ≠ T) (hv : (evE (fR I) t []).headD 0 = 0) (kont : ∀ g, Px 2 0 0 CX12_gives 6 [some (.ref 65), some (.int (nI 0)), some (.int (nI E)), some (.int (nI (l + 1)))] [] (gS, (va_up I 83 g), J, gR p, ro) Q) : Px 2 0 0 CX12_gives 6 [some (.ref (65)), some (.int (nI 0)), some (.int (nI f)), some (.int (nI l))] [] (gS, (va_up I 83 g), J, gR p, ro) (Q) := by
  refine px_iload_n (kk := 3) rfl rfl rfl ?_
  refine px_bipush (v := nI 61) rfl b_61 ?_
  refine px_iload_n (kk := 1) rfl rfl rfl ?_
  refine px_imulN rfl ?_
  refine px_aload_n (kk := 0) rfl rfl rfl ?_
  refine px_getR (r := 79) rfl gS_65 rfl (gR_65_24 _) ?_
  refine px_iload_n (kk := 1) rfl rfl rfl ?_
  refine px_ialde (j := 0) (v := nI N) rfl gS_79 rfl (by decide) ((congrFun (p_up_n _ _ (by decide)) 0).trans hN) ?_
  refine px_iaddN rfl ?_
  refine px_icmp_ge rfl (fun h => absurd h (nI_ge (by omega) (by omega))) (fun c15 => ?_)
  refine px_aload_n (kk := 0) rfl rfl rfl ?_
  refine px_getR (r := 80) rfl gS_65 rfl (gR_65_25 _) ?_
  refine px_iload_n (kk := 3) rfl rfl rfl ?_
  refine px_salde (j := l) (v := nI T) rfl gS_80 rfl (by omega) ((congrFun (p_up_n _ _ (by decide)) l).trans ht) ?_
  refine px_iload_n (kk := 2) rfl rfl rfl ?_
  refine px_icmp_eq rfl (fun h => absurd h (fun z => hft ((n_eq (by omega) (by omega)).mp z).symm)) (fun c21 => ?_)
  refine px_aload_n (kk := 0) rfl rfl rfl ?_
  refine px_iload_n (kk := 1) rfl rfl rfl ?_
  refine px_iload_n (kk := 2) rfl rfl rfl ?_
  refine px_aload_n (kk := 0) rfl rfl rfl ?_
  refine px_getR (r := 80) rfl gS_65 rfl (gR_65_25 _) ?_
  refine px_iload_n (kk := 3) rfl rfl rfl ?_
  refine px_salde (j := l) (v := nI T) rfl gS_80 rfl (by omega) ((congrFun (p_up_n _ _ (by decide)) l).trans ht) ?_
  refine px_callV0 CX12_worked [] [.int _, .int _, .int _] (vX12_worked (f := f) (E := T) (by omega) (e := t) (hdt) (by rw [p_up_n _ _ (by decide)]; exact hct) (by rw [p_up_n _ _ (by decide)]; exact hwt) (by omega)) rfl gS_65 (by decide) rfl rfl rfl (Nat.le_of_ble_eq_true rfl) (by decide) ?_
  rintro _ _ - ⟨rfl, g2, rfl⟩
  rw [evE_congr (show fR (va_up I 83 g) = fR I from rfl), up2]
  refine px_if_eq rfl (fun c30 => ?_) (fun h => absurd hv h)
  refine px_aload_n (kk := 0) rfl rfl rfl ?_
  refine px_getR (r := 81) rfl gS_65 rfl (gR_65_26 _) ?_
  refine px_iload_n (kk := 3) rfl rfl rfl ?_
  refine px_salde (j := l) (v := nI E) rfl gS_81 rfl (by omega) ((congrFun (p_up_n _ _ (by decide)) l).trans he) ?_
  refine px_ist2 rfl rfl (by decide) ?_
  refine px_iinc3 (v := nI (l + 1)) rfl (n_inc l) rfl (by decide) ?_
  refine px_goto rfl ?_
  exact kont _
theorem lR_g4 {I : Nat → Nat → Int32} {J : Nat → Nat → Int64} {p : Bool × Option Nat} {ro : List (Nat × Nat × (Nat → Int32))} {N l f : Nat} (hN : I 79 0 = nI N) (hl : l = N) (hN61 : N ≤ 61) {g : Nat → Int32} {Q : Option Value → pm_M → Prop} (hq : Q (some (.int (nI 0))) (gS, (va_up I 83 g), J, gR p, ro)) : Px 2 0 0 CX12_gives 6 [some (.ref (65)), some (.int (nI 0)), some (.int (nI f)), some (.int (nI l))] [] (gS, (va_up I 83 g), J, gR p, ro) (Q) := by
  refine px_iload_n (kk := 3) rfl rfl rfl ?_
  refine px_bipush (v := nI 61) rfl b_61 ?_
  refine px_iload_n (kk := 1) rfl rfl rfl ?_
  refine px_imulN rfl ?_
  refine px_aload_n (kk := 0) rfl rfl rfl ?_
  refine px_getR (r := 79) rfl gS_65 rfl (gR_65_24 _) ?_
  refine px_iload_n (kk := 1) rfl rfl rfl ?_
  refine px_ialde (j := 0) (v := nI N) rfl gS_79 rfl (by decide) ((congrFun (p_up_n _ _ (by decide)) 0).trans hN) ?_
  refine px_iaddN rfl ?_
  refine px_icmp_ge rfl (fun c15 => ?_) (fun h => absurd (nI_le (by omega) (by omega)) h)
  refine px_iconst (v := nI 0) rfl k_0 ?_
  refine px_ireturn rfl (.inl rfl) ?_
  exact hq
theorem lR_lines {I : Nat → Nat → Int32} {J : Nat → Nat → Int64} {p : Bool × Option Nat} {ro : List (Nat × Nat × (Nat → Int32))} {N : Nat} (hN : I 79 0 = nI N) (hN61 : N ≤ 61) : ∀ (r : List Ln) (l f : Nat) (g : Nat → Int32), (∀ q ∈ r, lnOK q) → RLn I l f r → l + r.length = N → f + lensL r ≤ 130 → Px 2 0 0 CX12_gives 6 [some (.ref 65), some (.int (nI 0)), some (.int (nI f)), some (.int (nI l))] [] (gS, (va_up I 83 g), J, gR p, ro) (fun v S' => v = some (.int (evL (fR I) r)) ∧ ∃ g, S' = (gS, (va_up I 83 g), J, gR p, ro))
  | [], l, f, g, _, _, hl, _ => lR_g4 hN (by simpa using hl) hN61 ⟨rfl, g, rfl⟩
  | (t, e) :: r, l, f, g, hok, hrl, hl, hlen => by
    have hln : (t ≠ [] → dpt t 0 1) ∧ dpt e 0 1 := hok (t, e) List.mem_cons_self
    obtain ⟨r1, r2, r3, r4, r5⟩ : I 80 l = nI (f + t.length) ∧ I 81 l = nI (f + t.length + e.length) ∧ HC (I 77) f ((t ++ e).map aT) ∧ HC (I 78) f ((t ++ e).map wT) ∧ RLn I (l + 1) (f + t.length + e.length) r := hrl
    simp only [lensL] at hlen
    simp only [List.length_cons] at hl
    simp only [List.map_append] at r3 r4
    obtain ⟨c1, c2⟩ := HC_app.mp r3
    obtain ⟨w1, w2⟩ := HC_app.mp r4
    rw [List.length_map] at c2 w2
    by_cases ht : t = []
    · subst ht
      refine lR_g1 hN hN61 (by omega) r1 r2 (by omega) (by omega) hln.2 c2 w2 (by omega) (by simp) (fun g' => ⟨?_, g', rfl⟩)
      simp only [evL, true_or, if_true]
    · have hpos : t.length ≠ 0 := fun h => ht (List.length_eq_zero_iff.mp h)
      by_cases hv : (evE (fR I) t []).headD 0 = 0
      · refine lR_g3 hN hN61 (by omega) r1 r2 (by omega) (by omega) (hln.1 ht) c1 w1 rfl (by omega) hv (fun g' => ?_)
        have hrec := lR_lines (J := J) (ro := ro) (p := p) hN hN61 r (l + 1) (f + t.length + e.length) g' (fun q hq => hok q (List.mem_cons_of_mem _ hq)) r5 (by omega) (by omega)
        simp only [evL, ht, hv, ne_eq, not_true_eq_false, or_false, if_false]
        exact hrec
      · refine lR_g2 hN hN61 (by omega) r1 r2 (by omega) (by omega) hln.2 c2 w2 (by omega) (hln.1 ht) c1 w1 rfl (by omega) hv (fun g' => ⟨?_, g', rfl⟩)
        simp only [evL]
        rw [if_pos (Or.inr hv)]
theorem vX12_gives {I : Nat → Nat → Int32} {J : Nat → Nat → Int64} {p : Bool × Option Nat} {ro : List (Nat × Nat × (Nat → Int32))} {tx : List Ln} (hT : LawR tx I) : Pv 2 0 0 CX12_gives [.ref (65), .int (nI 0)] (gS, I, J, gR p, ro) (fun v S' => v = some (.int (evL (fR I) tx)) ∧ ∃ g, S' = (gS, (va_up I 83 g), J, gR p, ro)) := by
  refine ⟨okCX12_gives, Nat.le_of_ble_eq_true rfl, (show Px _ _ _ _ 0 [some (.ref (65)), some (.int (nI 0)), none, none] [] _ _ from ?_)⟩
  refine px_iconst (v := nI 0) rfl k_0 ?_
  refine px_ist2 rfl rfl (by decide) ?_
  refine px_bipush (v := nI 61) rfl b_61 ?_
  refine px_iload_n (kk := 1) rfl rfl rfl ?_
  refine px_imulN rfl ?_
  refine px_ist3 rfl rfl (by decide) ?_
  refine px_mem (up_id I 83) ?_
  exact lR_lines hT.2.1 hT.2.2.1 tx 0 0 (I 83) hT.2.2.2.2.2 hT.2.2.2.2.1 (by omega) (by have := hT.2.2.2.1; omega)
