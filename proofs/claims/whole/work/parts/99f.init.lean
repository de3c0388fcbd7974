/-! the constructors -/
theorem lJ_fillG {I : Nat → Nat → Int32} {J : Nat → Nat → Int64} {Sh : List (Nat × Nat)} {R : Nat → Nat → Option Nat} {ro : List (Nat × Nat × (Nat → Int32))} {a N : Nat} (ha : Sh[a]? = some (100, N)) (hN : N < 2 ^ 31) (v : Int32) (k : Nat) (hk : k ≤ N) : Px 0 0 0 CJ7_fill_53178 5 [some (.ref (a)), some (.int (v)), some (.int (nI k)), some (.int (nI N))] [] (Sh, (va_up I a (fun j => if j < k then v else I a j)), J, R, ro) (qV (Sh, (va_up I a (fun j => if j < N then v else I a j)), J, R, ro)) := by
  refine px_iload_n (kk := 2) rfl rfl rfl ?_
  refine px_iload_n (kk := 3) rfl rfl rfl ?_
  refine px_icmp_ge rfl (fun c7 => ?_) (fun c7 => ?_)
  · refine px_return rfl rfl ?_
    rw [n_le (by omega) (by omega)] at c7
    obtain rfl : k = N := by omega
    exact ⟨rfl, rfl⟩
  · rw [n_le (by omega) (by omega)] at c7
    refine px_aload_n (kk := 0) rfl rfl rfl ?_
    refine px_iload_n (kk := 2) rfl rfl rfl ?_
    refine px_iload_n (kk := 1) rfl rfl rfl ?_
    refine px_iast (j := k) rfl ha rfl (by omega) ?_
    refine px_iinc2 (v := nI (k + 1)) rfl (n_inc k) rfl (by decide) ?_
    refine px_goto rfl ?_
    refine px_mem (fill_next I a k v) ?_
    exact lJ_fillG ha hN v (k + 1) (by omega)
termination_by N - k
decreasing_by all_goals (have h := ‹¬ nI N ≤ nI k›; rw [n_le (by omega) (by omega)] at h; omega)
theorem vJ_fillG {I : Nat → Nat → Int32} {J : Nat → Nat → Int64} {Sh : List (Nat × Nat)} {R : Nat → Nat → Option Nat} {ro : List (Nat × Nat × (Nat → Int32))} {a N : Nat} (ha : Sh[a]? = some (100, N)) (hN : N < 2 ^ 31) (v : Int32) : Pv 0 0 0 CJ7_fill_53178 [.ref (a), .int (v)] (Sh, I, J, R, ro) (qV (Sh, (va_up I a (fun j => if j < N then v else I a j)), J, R, ro)) := by
  refine ⟨okCJ7_fill_53178, Nat.le_of_ble_eq_true rfl, (show Px _ _ _ _ 0 [some (.ref (a)), some (.int (v)), none, none] [] _ _ from ?_)⟩
  refine px_iconst (v := nI 0) rfl k_0 ?_
  refine px_ist2 rfl rfl (by decide) ?_
  refine px_aload_n (kk := 0) rfl rfl rfl ?_
  refine px_alen rfl ha ?_
  refine px_ist3 rfl rfl (by decide) ?_
  refine px_mem (fill_0 I a v) ?_
  exact lJ_fillG ha hN v 0 (by omega)
/-- one entry of one row -/
def se2 {α : Type} (I : Nat → Nat → α) (a k : Nat) (v : α) : Nat → Nat → α := va_up I a (va_up (I a) k v)
theorem qx_new {d mc ms : Nat} {cd : pm_C} {i b : Nat} {con : Int} {ls : List (Option Value)} {st : List Value} {Sh Sh2 : List (Nat × Nat)} {I : Nat → Nat → Int32} {J : Nat → Nat → Int64} {R : Nat → Nat → Option Nat} {ro : List (Nat × Nat × (Nat → Int32))} {Q : Option Value → pm_M → Prop} {idx ci p1 p2 p3 n : Nat} {C : String} {T : u_T} (h : (cdE cd)[i]? = some (b, 3, .new idx, [ci, p1, p2, p3], con)) (hcl : vwCl[ci]? = some (C, T, n)) (hn31 : n < 2 ^ 31) (hl : Sh.length + 1 < 1000) {m0 : Nat} (em : Sh.length = m0) (eS : Sh ++ [(ci, n)] = Sh2)
    (kk : Px d mc ms cd (i + 1) ls (.ref m0 :: st) (Sh2, va_up I m0 (fun _ => 0), va_up J m0 (fun _ => 0), va_up R m0 (fun _ => none), ro) Q) : Px d (1 + mc) (n + ms) cd i ls st (Sh, I, J, R, ro) Q := by
  subst eS
  exact px_new h hcl hn31 hl em kk
theorem qx_newI {d mc ms : Nat} {cd : pm_C} {i b : Nat} {con : Int} {ls : List (Option Value)} {st : List Value} {Sh Sh2 : List (Nat × Nat)} {I : Nat → Nat → Int32} {J : Nat → Nat → Int64} {R : Nat → Nat → Option Nat} {ro : List (Nat × Nat × (Nat → Int32))} {Q : Option Value → pm_M → Prop} {tag pos n : Nat} {x : Int32} {ty : ArrayType} (h : (cdE cd)[i]? = some (b, 2, .newarray ty, [tag, pos], con)) (ht : tag ≠ 101) (ex : x = nI n) (hn27 : n < 2 ^ 26) (hl : Sh.length + 1 < 1000) {m0 : Nat} (em : Sh.length = m0) (eS : Sh ++ [(tag, n)] = Sh2)
    (kk : Px d mc ms cd (i + 1) ls (.ref m0 :: st) (Sh2, va_up I m0 (fun _ => 0), va_up J m0 (fun _ => 0), va_up R m0 (fun _ => none), ro) Q) : Px d (1 + mc) (n + ms) cd i ls (.int x :: st) (Sh, I, J, R, ro) Q := by
  subst eS
  exact px_newI h ht ex hn27 hl em kk
theorem qx_newL {d mc ms : Nat} {cd : pm_C} {i b : Nat} {con : Int} {ls : List (Option Value)} {st : List Value} {Sh Sh2 : List (Nat × Nat)} {I : Nat → Nat → Int32} {J : Nat → Nat → Int64} {R : Nat → Nat → Option Nat} {ro : List (Nat × Nat × (Nat → Int32))} {Q : Option Value → pm_M → Prop} {pos n : Nat} {x : Int32} {ty : ArrayType} (h : (cdE cd)[i]? = some (b, 2, .newarray ty, [101, pos], con)) (ex : x = nI n) (hn27 : n < 2 ^ 26) (hl : Sh.length + 1 < 1000) {m0 : Nat} (em : Sh.length = m0) (eS : Sh ++ [(101, n)] = Sh2)
    (kk : Px d mc ms cd (i + 1) ls (.ref m0 :: st) (Sh2, va_up I m0 (fun _ => 0), va_up J m0 (fun _ => 0), va_up R m0 (fun _ => none), ro) Q) : Px d (1 + mc) (n + ms) cd i ls (.int x :: st) (Sh, I, J, R, ro) Q := by
  subst eS
  exact px_newL h ex hn27 hl em kk
theorem qx_newQ {d mc ms : Nat} {cd : pm_C} {i b : Nat} {con : Int} {ls : List (Option Value)} {st : List Value} {Sh Sh2 : List (Nat × Nat)} {I : Nat → Nat → Int32} {J : Nat → Nat → Int64} {R : Nat → Nat → Option Nat} {ro : List (Nat × Nat × (Nat → Int32))} {Q : Option Value → pm_M → Prop} {idx pos n : Nat} {x : Int32} (h : (cdE cd)[i]? = some (b, 3, .anewarray idx, [pos], con)) (ex : x = nI n) (hn27 : n < 2 ^ 26) (hl : Sh.length + 1 < 1000) {m0 : Nat} (em : Sh.length = m0) (eS : Sh ++ [(104, n)] = Sh2)
    (kk : Px d mc ms cd (i + 1) ls (.ref m0 :: st) (Sh2, va_up I m0 (fun _ => 0), va_up J m0 (fun _ => 0), va_up R m0 (fun _ => none), ro) Q) : Px d (1 + mc) (n + ms) cd i ls (.int x :: st) (Sh, I, J, R, ro) Q := by
  subst eS
  exact px_newQ h ex hn27 hl em kk
theorem qx_putI {d mc ms : Nat} {cd : pm_C} {i b : Nat} {con : Int} {ls : List (Option Value)} {st : List Value} {Sh : List (Nat × Nat)} {I : Nat → Nat → Int32} {J : Nat → Nat → Int64} {R : Nat → Nat → Option Nat} {ro : List (Nat × Nat × (Nat → Int32))} {Q : Option Value → pm_M → Prop} {a k ci pos idx n : Nat} {x : Int32} (h : (cdE cd)[i]? = some (b, 3, .putfield idx, [ci, k, pos], con)) (hS : Sh[a]? = some (ci, n)) (hty : tyC ci k = .int) (hf : p_fin ci k = false) (kk : Px d mc ms cd (i + 1) ls st (Sh, se2 I a k x, J, R, ro) Q) : Px d mc ms cd i ls (.int x :: .ref a :: st) (Sh, I, J, R, ro) Q := px_putI h hS hty hf kk
theorem qx_putJ {d mc ms : Nat} {cd : pm_C} {i b : Nat} {con : Int} {ls : List (Option Value)} {st : List Value} {Sh : List (Nat × Nat)} {I : Nat → Nat → Int32} {J : Nat → Nat → Int64} {R : Nat → Nat → Option Nat} {ro : List (Nat × Nat × (Nat → Int32))} {Q : Option Value → pm_M → Prop} {a k ci pos idx n : Nat} {x : Int64} (h : (cdE cd)[i]? = some (b, 3, .putfield idx, [ci, k, pos], con)) (hS : Sh[a]? = some (ci, n)) (hty : tyC ci k = .long) (hf : p_fin ci k = false) (kk : Px d mc ms cd (i + 1) ls st (Sh, I, se2 J a k x, R, ro) Q) : Px d mc ms cd i ls (.long x :: .ref a :: st) (Sh, I, J, R, ro) Q := px_putJ h hS hty hf kk
theorem qx_putR {d mc ms : Nat} {cd : pm_C} {i b : Nat} {con : Int} {ls : List (Option Value)} {st : List Value} {Sh : List (Nat × Nat)} {I : Nat → Nat → Int32} {J : Nat → Nat → Int64} {R : Nat → Nat → Option Nat} {ro : List (Nat × Nat × (Nat → Int32))} {Q : Option Value → pm_M → Prop} {a k ci pos idx n : Nat} {x : Nat} (h : (cdE cd)[i]? = some (b, 3, .putfield idx, [ci, k, pos], con)) (hS : Sh[a]? = some (ci, n)) (hty : p_isr (tyC ci k) = true) (hf : p_fin ci k = false) (kk : Px d mc ms cd (i + 1) ls st (Sh, I, J, se2 R a k (some x), ro) Q) : Px d mc ms cd i ls (.ref x :: .ref a :: st) (Sh, I, J, R, ro) Q := px_putR h hS hty hf kk
theorem qx_putN {d mc ms : Nat} {cd : pm_C} {i b : Nat} {con : Int} {ls : List (Option Value)} {st : List Value} {Sh : List (Nat × Nat)} {I : Nat → Nat → Int32} {J : Nat → Nat → Int64} {R : Nat → Nat → Option Nat} {ro : List (Nat × Nat × (Nat → Int32))} {Q : Option Value → pm_M → Prop} {a k ci pos idx n : Nat} (h : (cdE cd)[i]? = some (b, 3, .putfield idx, [ci, k, pos], con)) (hS : Sh[a]? = some (ci, n)) (hty : p_isr (tyC ci k) = true) (hf : p_fin ci k = false) (kk : Px d mc ms cd (i + 1) ls st (Sh, I, J, se2 R a k none, ro) Q) : Px d mc ms cd i ls (.null :: .ref a :: st) (Sh, I, J, R, ro) Q := px_putN h hS hty hf kk
theorem qx_putRF {d mc ms : Nat} {cd : pm_C} {i b : Nat} {con : Int} {ls : List (Option Value)} {st : List Value} {Sh : List (Nat × Nat)} {I : Nat → Nat → Int32} {J : Nat → Nat → Int64} {R : Nat → Nat → Option Nat} {ro : List (Nat × Nat × (Nat → Int32))} {Q : Option Value → pm_M → Prop} {a k ci pos idx n : Nat} {x : Nat} (h : (cdE cd)[i]? = some (b, 3, .putfield idx, [ci, k, pos], con)) (hS : Sh[a]? = some (ci, n)) (hty : p_isr (tyC ci k) = true) (hf : p_fin ci k = true) (hi : (cdY cd).name = "<init>") (hdl : p_dec ci k = cdO cd) (kk : Px d mc ms cd (i + 1) ls st (Sh, I, J, se2 R a k (some x), ro) Q) : Px d mc ms cd i ls (.ref x :: .ref a :: st) (Sh, I, J, R, ro) Q := px_putRF h hS hty hf hi hdl kk
theorem qx_iast {d mc ms : Nat} {cd : pm_C} {i b : Nat} {con : Int} {ls : List (Option Value)} {st : List Value} {Sh : List (Nat × Nat)} {I : Nat → Nat → Int32} {J : Nat → Nat → Int64} {R : Nat → Nat → Option Nat} {ro : List (Nat × Nat × (Nat → Int32))} {Q : Option Value → pm_M → Prop} {a n j : Nat} {x v : Int32} {xs : List Nat} (h : (cdE cd)[i]? = some (b, 1, .iastore, xs, con)) (hS : Sh[a]? = some (100, n)) (hj : x = nI j) (hjn : j < n) (kk : Px d mc ms cd (i + 1) ls st (Sh, se2 I a j v, J, R, ro) Q) : Px d mc ms cd i ls (.int v :: .int x :: .ref a :: st) (Sh, I, J, R, ro) Q := px_iast h hS hj hjn kk
theorem qx_aast {d mc ms : Nat} {cd : pm_C} {i b : Nat} {con : Int} {ls : List (Option Value)} {st : List Value} {Sh : List (Nat × Nat)} {I : Nat → Nat → Int32} {J : Nat → Nat → Int64} {R : Nat → Nat → Option Nat} {ro : List (Nat × Nat × (Nat → Int32))} {Q : Option Value → pm_M → Prop} {xs : List Nat} {a n j v nv : Nat} {x : Int32} (h : (cdE cd)[i]? = some (b, 1, .aastore, xs, con)) (hS : Sh[a]? = some (104, n)) (hV : Sh[v]? = some (7, nv)) (hj : x = nI j) (hjn : j < n) (kk : Px d mc ms cd (i + 1) ls st (Sh, I, J, se2 R a j (some v), ro) Q) : Px d mc ms cd i ls (.ref v :: .int x :: .ref a :: st) (Sh, I, J, R, ro) Q := px_aast h hS hV hj hjn kk
/-- a row filled -/
def fi2 (I : Nat → Nat → Int32) (c N : Nat) (v : Int32) : Nat → Nat → Int32 := va_up I c (fun j => if j < N then v else I c j)
def kI_X9_init_1 (I : Nat → Nat → Int32) : Nat → Nat → Int32 := (se2 (se2 (se2 (va_up (va_up (va_up (va_up I 2 (fun _ => 0)) 3 (fun _ => 0)) 4 (fun _ => 0)) 5 (fun _ => 0)) 1 4 (nI 0)) 1 5 (nI 2)) 1 6 (nI 2))
def kJ_X9_init_1 (J : Nat → Nat → Int64) : Nat → Nat → Int64 := (va_up (va_up (va_up (va_up J 2 (fun _ => 0)) 3 (fun _ => 0)) 4 (fun _ => 0)) 5 (fun _ => 0))
def kR_X9_init_1 (R : Nat → Nat → Option Nat) : Nat → Nat → Option Nat := (se2 (va_up (se2 (va_up (se2 (va_up (se2 (va_up R 2 (fun _ => none)) 1 0 (some 2)) 3 (fun _ => none)) 1 1 (some 3)) 4 (fun _ => none)) 1 2 (some 4)) 5 (fun _ => none)) 1 3 (some 5))
set_option maxRecDepth 20000 in
theorem vI_X9_init_1 {I : Nat → Nat → Int32} {J : Nat → Nat → Int64} {R : Nat → Nat → Option Nat} {ro : List (Nat × Nat × (Nat → Int32))} : Pv 0 4 88 CX9_init [.ref 1] (gS.take 2, I, J, R, ro) (qV (gS.take 6, kI_X9_init_1 I, kJ_X9_init_1 J, kR_X9_init_1 R, ro)) := by
  refine ⟨okCX9_init, Nat.le_of_ble_eq_true rfl, (show Px 0 4 88 CX9_init 0 [some (.ref 1)] [] _ _ from ?_)⟩
  refine px_aload_n (kk := 0) rfl rfl rfl ?_
  refine px_objinit rfl (Nat.le_of_ble_eq_true rfl) ?_
  refine px_aload_n (kk := 0) rfl rfl rfl ?_
  refine px_bipush (v := nI 8) rfl b_8 ?_
  refine qx_newI (mc := 3) (ms := 80) (n := 8) (m0 := 2) (Sh2 := (gS.take 3)) rfl (by decide) rfl (by decide) (by decide +kernel) (by decide +kernel) (by decide +kernel) ?_
  refine qx_putRF (n := 7) rfl (by decide +kernel) rfl rfl rfl rfl ?_
  refine px_aload_n (kk := 0) rfl rfl rfl ?_
  refine px_bipush (v := nI 8) rfl b_8 ?_
  refine qx_newI (mc := 2) (ms := 72) (n := 8) (m0 := 3) (Sh2 := (gS.take 4)) rfl (by decide) rfl (by decide) (by decide +kernel) (by decide +kernel) (by decide +kernel) ?_
  refine qx_putRF (n := 7) rfl (by decide +kernel) rfl rfl rfl rfl ?_
  refine px_aload_n (kk := 0) rfl rfl rfl ?_
  refine px_bipush (v := nI 8) rfl b_8 ?_
  refine qx_newI (mc := 1) (ms := 64) (n := 8) (m0 := 4) (Sh2 := (gS.take 5)) rfl (by decide) rfl (by decide) (by decide +kernel) (by decide +kernel) (by decide +kernel) ?_
  refine qx_putRF (n := 7) rfl (by decide +kernel) rfl rfl rfl rfl ?_
  refine px_aload_n (kk := 0) rfl rfl rfl ?_
  refine px_bipush (v := nI 64) rfl b_64 ?_
  refine qx_newI (mc := 0) (ms := 0) (n := 64) (m0 := 5) (Sh2 := (gS.take 6)) rfl (by decide) rfl (by decide) (by decide +kernel) (by decide +kernel) (by decide +kernel) ?_
  refine qx_putRF (n := 7) rfl (by decide +kernel) rfl rfl rfl rfl ?_
  refine px_aload_n (kk := 0) rfl rfl rfl ?_
  refine px_iconst (v := nI 0) rfl k_0 ?_
  refine qx_putI (n := 7) rfl (by decide +kernel) rfl rfl ?_
  refine px_aload_n (kk := 0) rfl rfl rfl ?_
  refine px_iconst (v := nI 2) rfl k_2 ?_
  refine qx_putI (n := 7) rfl (by decide +kernel) rfl rfl ?_
  refine px_aload_n (kk := 0) rfl rfl rfl ?_
  refine px_iconst (v := nI 2) rfl k_2 ?_
  refine qx_putI (n := 7) rfl (by decide +kernel) rfl rfl ?_
  refine px_return rfl rfl ?_
  exact ⟨rfl, rfl⟩
def kI_X3_init_6 (I : Nat → Nat → Int32) : Nat → Nat → Int32 := (se2 (se2 (se2 (se2 (se2 (se2 (se2 (se2 (se2 (va_up (va_up (va_up (va_up I 7 (fun _ => 0)) 8 (fun _ => 0)) 9 (fun _ => 0)) 10 (fun _ => 0)) 6 5 (nI 0)) 6 6 (nI 0)) 6 7 (nI 0)) 6 8 (nI 0)) 6 9 (nI 0)) 6 10 (nI 0)) 6 11 (nI 0)) 6 12 (nI 0)) 6 13 (nI 0))
def kJ_X3_init_6 (J : Nat → Nat → Int64) : Nat → Nat → Int64 := (va_up (va_up (va_up (va_up J 7 (fun _ => 0)) 8 (fun _ => 0)) 9 (fun _ => 0)) 10 (fun _ => 0))
def kR_X3_init_6 (R : Nat → Nat → Option Nat) : Nat → Nat → Option Nat := (se2 (se2 (va_up (se2 (va_up (se2 (va_up (se2 (va_up R 7 (fun _ => none)) 6 1 (some 7)) 8 (fun _ => none)) 6 2 (some 8)) 9 (fun _ => none)) 6 3 (some 9)) 10 (fun _ => none)) 6 4 (some 10)) 6 0 (some 1))
set_option maxRecDepth 20000 in
theorem vI_X3_init_6 {I : Nat → Nat → Int32} {J : Nat → Nat → Int64} {R : Nat → Nat → Option Nat} {ro : List (Nat × Nat × (Nat → Int32))} : Pv 0 4 752 CX3_init [.ref 6, .ref 1] (gS.take 7, I, J, R, ro) (qV (gS.take 11, kI_X3_init_6 I, kJ_X3_init_6 J, kR_X3_init_6 R, ro)) := by
  refine ⟨okCX3_init, Nat.le_of_ble_eq_true rfl, (show Px 0 4 752 CX3_init 0 [some (.ref 6), some (.ref 1)] [] _ _ from ?_)⟩
  refine px_aload_n (kk := 0) rfl rfl rfl ?_
  refine px_objinit rfl (Nat.le_of_ble_eq_true rfl) ?_
  refine px_aload_n (kk := 0) rfl rfl rfl ?_
  refine px_bipush (v := nI 120) rfl b_120 ?_
  refine qx_newI (mc := 3) (ms := 632) (n := 120) (m0 := 7) (Sh2 := (gS.take 8)) rfl (by decide) rfl (by decide) (by decide +kernel) (by decide +kernel) (by decide +kernel) ?_
  refine qx_putRF (n := 14) rfl (by decide +kernel) rfl rfl rfl rfl ?_
  refine px_aload_n (kk := 0) rfl rfl rfl ?_
  refine px_bipush (v := nI 120) rfl b_120 ?_
  refine qx_newI (mc := 2) (ms := 512) (n := 120) (m0 := 8) (Sh2 := (gS.take 9)) rfl (by decide) rfl (by decide) (by decide +kernel) (by decide +kernel) (by decide +kernel) ?_
  refine qx_putRF (n := 14) rfl (by decide +kernel) rfl rfl rfl rfl ?_
  refine px_aload_n (kk := 0) rfl rfl rfl ?_
  refine px_sipush (v := nI 256) rfl s_256 ?_
  refine qx_newI (mc := 1) (ms := 256) (n := 256) (m0 := 9) (Sh2 := (gS.take 10)) rfl (by decide) rfl (by decide) (by decide +kernel) (by decide +kernel) (by decide +kernel) ?_
  refine qx_putR (n := 14) rfl (by decide +kernel) rfl rfl ?_
  refine px_aload_n (kk := 0) rfl rfl rfl ?_
  refine px_sipush (v := nI 256) rfl s_256 ?_
  refine qx_newI (mc := 0) (ms := 0) (n := 256) (m0 := 10) (Sh2 := (gS.take 11)) rfl (by decide) rfl (by decide) (by decide +kernel) (by decide +kernel) (by decide +kernel) ?_
  refine qx_putR (n := 14) rfl (by decide +kernel) rfl rfl ?_
  refine px_aload_n (kk := 0) rfl rfl rfl ?_
  refine px_iconst (v := nI 0) rfl k_0 ?_
  refine qx_putI (n := 14) rfl (by decide +kernel) rfl rfl ?_
  refine px_aload_n (kk := 0) rfl rfl rfl ?_
  refine px_iconst (v := nI 0) rfl k_0 ?_
  refine qx_putI (n := 14) rfl (by decide +kernel) rfl rfl ?_
  refine px_aload_n (kk := 0) rfl rfl rfl ?_
  refine px_iconst (v := nI 0) rfl k_0 ?_
  refine qx_putI (n := 14) rfl (by decide +kernel) rfl rfl ?_
  refine px_aload_n (kk := 0) rfl rfl rfl ?_
  refine px_iconst (v := nI 0) rfl k_0 ?_
  refine qx_putI (n := 14) rfl (by decide +kernel) rfl rfl ?_
  refine px_aload_n (kk := 0) rfl rfl rfl ?_
  refine px_iconst (v := nI 0) rfl k_0 ?_
  refine qx_putI (n := 14) rfl (by decide +kernel) rfl rfl ?_
  refine px_aload_n (kk := 0) rfl rfl rfl ?_
  refine px_iconst (v := nI 0) rfl k_0 ?_
  refine qx_putI (n := 14) rfl (by decide +kernel) rfl rfl ?_
  refine px_aload_n (kk := 0) rfl rfl rfl ?_
  refine px_iconst (v := nI 0) rfl k_0 ?_
  refine qx_putI (n := 14) rfl (by decide +kernel) rfl rfl ?_
  refine px_aload_n (kk := 0) rfl rfl rfl ?_
  refine px_iconst (v := nI 0) rfl k_0 ?_
  refine qx_putI (n := 14) rfl (by decide +kernel) rfl rfl ?_
  refine px_aload_n (kk := 0) rfl rfl rfl ?_
  refine px_iconst (v := nI 0) rfl k_0 ?_
  refine qx_putI (n := 14) rfl (by decide +kernel) rfl rfl ?_
  refine px_aload_n (kk := 0) rfl rfl rfl ?_
  refine px_aload_n (kk := 1) rfl rfl rfl ?_
  refine qx_putRF (n := 14) rfl (by decide +kernel) rfl rfl rfl rfl ?_
  refine px_return rfl rfl ?_
  exact ⟨rfl, rfl⟩
def kI_X5_init_11 (I : Nat → Nat → Int32) : Nat → Nat → Int32 := (va_up (va_up (va_up I 12 (fun _ => 0)) 13 (fun _ => 0)) 14 (fun _ => 0))
def kJ_X5_init_11 (J : Nat → Nat → Int64) : Nat → Nat → Int64 := (va_up (va_up (va_up J 12 (fun _ => 0)) 13 (fun _ => 0)) 14 (fun _ => 0))
def kR_X5_init_11 (R : Nat → Nat → Option Nat) : Nat → Nat → Option Nat := (se2 (se2 (se2 (va_up (se2 (va_up (se2 (va_up R 12 (fun _ => none)) 11 2 (some 12)) 13 (fun _ => none)) 11 3 (some 13)) 14 (fun _ => none)) 11 4 (some 14)) 11 0 (some 1)) 11 1 (some 6))
set_option maxRecDepth 20000 in
theorem vI_X5_init_11 {I : Nat → Nat → Int32} {J : Nat → Nat → Int64} {R : Nat → Nat → Option Nat} {ro : List (Nat × Nat × (Nat → Int32))} : Pv 0 3 80 CX5_init [.ref 11, .ref 1, .ref 6] (gS.take 12, I, J, R, ro) (qV (gS.take 15, kI_X5_init_11 I, kJ_X5_init_11 J, kR_X5_init_11 R, ro)) := by
  refine ⟨okCX5_init, Nat.le_of_ble_eq_true rfl, (show Px 0 3 80 CX5_init 0 [some (.ref 11), some (.ref 1), some (.ref 6)] [] _ _ from ?_)⟩
  refine px_aload_n (kk := 0) rfl rfl rfl ?_
  refine px_objinit rfl (Nat.le_of_ble_eq_true rfl) ?_
  refine px_aload_n (kk := 0) rfl rfl rfl ?_
  refine px_bipush (v := nI 8) rfl b_8 ?_
  refine qx_newI (mc := 2) (ms := 72) (n := 8) (m0 := 12) (Sh2 := (gS.take 13)) rfl (by decide) rfl (by decide) (by decide +kernel) (by decide +kernel) (by decide +kernel) ?_
  refine qx_putRF (n := 5) rfl (by decide +kernel) rfl rfl rfl rfl ?_
  refine px_aload_n (kk := 0) rfl rfl rfl ?_
  refine px_bipush (v := nI 8) rfl b_8 ?_
  refine qx_newI (mc := 1) (ms := 64) (n := 8) (m0 := 13) (Sh2 := (gS.take 14)) rfl (by decide) rfl (by decide) (by decide +kernel) (by decide +kernel) (by decide +kernel) ?_
  refine qx_putRF (n := 5) rfl (by decide +kernel) rfl rfl rfl rfl ?_
  refine px_aload_n (kk := 0) rfl rfl rfl ?_
  refine px_bipush (v := nI 64) rfl b_64 ?_
  refine qx_newI (mc := 0) (ms := 0) (n := 64) (m0 := 14) (Sh2 := (gS.take 15)) rfl (by decide) rfl (by decide) (by decide +kernel) (by decide +kernel) (by decide +kernel) ?_
  refine qx_putRF (n := 5) rfl (by decide +kernel) rfl rfl rfl rfl ?_
  refine px_aload_n (kk := 0) rfl rfl rfl ?_
  refine px_aload_n (kk := 1) rfl rfl rfl ?_
  refine qx_putRF (n := 5) rfl (by decide +kernel) rfl rfl rfl rfl ?_
  refine px_aload_n (kk := 0) rfl rfl rfl ?_
  refine px_aload_n (kk := 2) rfl rfl rfl ?_
  refine qx_putRF (n := 5) rfl (by decide +kernel) rfl rfl rfl rfl ?_
  refine px_return rfl rfl ?_
  exact ⟨rfl, rfl⟩
def kI_X6_init_16 (I : Nat → Nat → Int32) : Nat → Nat → Int32 := (fi2 (se2 (va_up (va_up I 17 (fun _ => 0)) 18 (fun _ => 0)) 16 2 (nI 0)) 17 8 (-1))
def kJ_X6_init_16 (J : Nat → Nat → Int64) : Nat → Nat → Int64 := (va_up (va_up J 17 (fun _ => 0)) 18 (fun _ => 0))
def kR_X6_init_16 (R : Nat → Nat → Option Nat) : Nat → Nat → Option Nat := (se2 (va_up (se2 (va_up R 17 (fun _ => none)) 16 0 (some 17)) 18 (fun _ => none)) 16 1 (some 18))
set_option maxRecDepth 20000 in
theorem vI_X6_init_16 {I : Nat → Nat → Int32} {J : Nat → Nat → Int64} {R : Nat → Nat → Option Nat} {ro : List (Nat × Nat × (Nat → Int32))} : Pv 1 2 16 CX6_init [.ref 16] (gS.take 17, I, J, R, ro) (qV (gS.take 19, kI_X6_init_16 I, kJ_X6_init_16 J, kR_X6_init_16 R, ro)) := by
  refine ⟨okCX6_init, Nat.le_of_ble_eq_true rfl, (show Px 1 2 16 CX6_init 0 [some (.ref 16)] [] _ _ from ?_)⟩
  refine px_aload_n (kk := 0) rfl rfl rfl ?_
  refine px_objinit rfl (Nat.le_of_ble_eq_true rfl) ?_
  refine px_aload_n (kk := 0) rfl rfl rfl ?_
  refine px_bipush (v := nI 8) rfl b_8 ?_
  refine qx_newI (mc := 1) (ms := 8) (n := 8) (m0 := 17) (Sh2 := (gS.take 18)) rfl (by decide) rfl (by decide) (by decide +kernel) (by decide +kernel) (by decide +kernel) ?_
  refine qx_putRF (n := 3) rfl (by decide +kernel) rfl rfl rfl rfl ?_
  refine px_aload_n (kk := 0) rfl rfl rfl ?_
  refine px_bipush (v := nI 8) rfl b_8 ?_
  refine qx_newI (mc := 0) (ms := 0) (n := 8) (m0 := 18) (Sh2 := (gS.take 19)) rfl (by decide) rfl (by decide) (by decide +kernel) (by decide +kernel) (by decide +kernel) ?_
  refine qx_putRF (n := 3) rfl (by decide +kernel) rfl rfl rfl rfl ?_
  refine px_aload_n (kk := 0) rfl rfl rfl ?_
  refine px_iconst (v := nI 0) rfl k_0 ?_
  refine qx_putI (n := 3) rfl (by decide +kernel) rfl rfl ?_
  refine px_aload_n (kk := 0) rfl rfl rfl ?_
  refine px_getR (r := 17) (n := 3) rfl (by decide +kernel) rfl rfl ?_
  refine px_iconst (v := -1) rfl k_m1 ?_
  refine px_callS (mc1 := 0) (ms1 := 0) (mc2 := 0) (ms2 := 0) CJ7_fill_53178 [] [.ref 17, .int (-1)] (vJ_fillG (a := 17) (N := 8) (by decide +kernel) (by decide) (-1)) rfl rfl rfl (Nat.le_of_ble_eq_true rfl) (by decide) ?_
  rintro _ _ - ⟨rfl, rfl⟩
  refine px_return rfl rfl ?_
  exact ⟨rfl, rfl⟩
def kI_X6_init_19 (I : Nat → Nat → Int32) : Nat → Nat → Int32 := (fi2 (se2 (va_up (va_up I 20 (fun _ => 0)) 21 (fun _ => 0)) 19 2 (nI 0)) 20 8 (-1))
def kJ_X6_init_19 (J : Nat → Nat → Int64) : Nat → Nat → Int64 := (va_up (va_up J 20 (fun _ => 0)) 21 (fun _ => 0))
def kR_X6_init_19 (R : Nat → Nat → Option Nat) : Nat → Nat → Option Nat := (se2 (va_up (se2 (va_up R 20 (fun _ => none)) 19 0 (some 20)) 21 (fun _ => none)) 19 1 (some 21))
set_option maxRecDepth 20000 in
theorem vI_X6_init_19 {I : Nat → Nat → Int32} {J : Nat → Nat → Int64} {R : Nat → Nat → Option Nat} {ro : List (Nat × Nat × (Nat → Int32))} : Pv 1 2 16 CX6_init [.ref 19] (gS.take 20, I, J, R, ro) (qV (gS.take 22, kI_X6_init_19 I, kJ_X6_init_19 J, kR_X6_init_19 R, ro)) := by
  refine ⟨okCX6_init, Nat.le_of_ble_eq_true rfl, (show Px 1 2 16 CX6_init 0 [some (.ref 19)] [] _ _ from ?_)⟩
  refine px_aload_n (kk := 0) rfl rfl rfl ?_
  refine px_objinit rfl (Nat.le_of_ble_eq_true rfl) ?_
  refine px_aload_n (kk := 0) rfl rfl rfl ?_
  refine px_bipush (v := nI 8) rfl b_8 ?_
  refine qx_newI (mc := 1) (ms := 8) (n := 8) (m0 := 20) (Sh2 := (gS.take 21)) rfl (by decide) rfl (by decide) (by decide +kernel) (by decide +kernel) (by decide +kernel) ?_
  refine qx_putRF (n := 3) rfl (by decide +kernel) rfl rfl rfl rfl ?_
  refine px_aload_n (kk := 0) rfl rfl rfl ?_
  refine px_bipush (v := nI 8) rfl b_8 ?_
  refine qx_newI (mc := 0) (ms := 0) (n := 8) (m0 := 21) (Sh2 := (gS.take 22)) rfl (by decide) rfl (by decide) (by decide +kernel) (by decide +kernel) (by decide +kernel) ?_
  refine qx_putRF (n := 3) rfl (by decide +kernel) rfl rfl rfl rfl ?_
  refine px_aload_n (kk := 0) rfl rfl rfl ?_
  refine px_iconst (v := nI 0) rfl k_0 ?_
  refine qx_putI (n := 3) rfl (by decide +kernel) rfl rfl ?_
  refine px_aload_n (kk := 0) rfl rfl rfl ?_
  refine px_getR (r := 20) (n := 3) rfl (by decide +kernel) rfl rfl ?_
  refine px_iconst (v := -1) rfl k_m1 ?_
  refine px_callS (mc1 := 0) (ms1 := 0) (mc2 := 0) (ms2 := 0) CJ7_fill_53178 [] [.ref 20, .int (-1)] (vJ_fillG (a := 20) (N := 8) (by decide +kernel) (by decide) (-1)) rfl rfl rfl (Nat.le_of_ble_eq_true rfl) (by decide) ?_
  rintro _ _ - ⟨rfl, rfl⟩
  refine px_return rfl rfl ?_
  exact ⟨rfl, rfl⟩
def kI_X8_init_15 (I : Nat → Nat → Int32) : Nat → Nat → Int32 := (se2 (se2 (va_up (va_up (kI_X6_init_19 (va_up (kI_X6_init_16 (va_up I 16 (fun _ => 0))) 19 (fun _ => 0))) 22 (fun _ => 0)) 23 (fun _ => 0)) 15 6 (nI 0)) 15 7 (nI 0))
def kJ_X8_init_15 (J : Nat → Nat → Int64) : Nat → Nat → Int64 := (va_up (va_up (kJ_X6_init_19 (va_up (kJ_X6_init_16 (va_up J 16 (fun _ => 0))) 19 (fun _ => 0))) 22 (fun _ => 0)) 23 (fun _ => 0))
def kR_X8_init_15 (R : Nat → Nat → Option Nat) : Nat → Nat → Option Nat := (se2 (se2 (se2 (va_up (se2 (va_up (se2 (kR_X6_init_19 (va_up (se2 (kR_X6_init_16 (va_up R 16 (fun _ => none))) 15 2 (some 16)) 19 (fun _ => none))) 15 3 (some 19)) 22 (fun _ => none)) 15 4 (some 22)) 23 (fun _ => none)) 15 5 (some 23)) 15 0 (some 1)) 15 1 (some 11))
set_option maxRecDepth 20000 in
theorem vI_X8_init_15 {I : Nat → Nat → Int32} {J : Nat → Nat → Int64} {R : Nat → Nat → Option Nat} {ro : List (Nat × Nat × (Nat → Int32))} : Pv 2 8 54 CX8_init [.ref 15, .ref 1, .ref 11] (gS.take 16, I, J, R, ro) (qV (gS.take 24, kI_X8_init_15 I, kJ_X8_init_15 J, kR_X8_init_15 R, ro)) := by
  refine ⟨okCX8_init, Nat.le_of_ble_eq_true rfl, (show Px 2 8 54 CX8_init 0 [some (.ref 15), some (.ref 1), some (.ref 11)] [] _ _ from ?_)⟩
  refine px_aload_n (kk := 0) rfl rfl rfl ?_
  refine px_objinit rfl (Nat.le_of_ble_eq_true rfl) ?_
  refine px_aload_n (kk := 0) rfl rfl rfl ?_
  refine qx_new (mc := 7) (ms := 51) (n := 3) (m0 := 16) (Sh2 := (gS.take 17)) rfl rfl (by decide) (by decide +kernel) (by decide +kernel) (by decide +kernel) ?_
  refine px_dup rfl rfl ?_
  refine px_callI (mc1 := 2) (ms1 := 16) (mc2 := 5) (ms2 := 35) CX6_init [.ref 16, .ref 15] [] vI_X6_init_16 rfl rfl rfl rfl rfl (Nat.le_of_ble_eq_true rfl) (by decide) ?_
  rintro _ _ - ⟨rfl, rfl⟩
  refine qx_putRF (n := 8) rfl (by decide +kernel) rfl rfl rfl rfl ?_
  refine px_aload_n (kk := 0) rfl rfl rfl ?_
  refine qx_new (mc := 4) (ms := 32) (n := 3) (m0 := 19) (Sh2 := (gS.take 20)) rfl rfl (by decide) (by decide +kernel) (by decide +kernel) (by decide +kernel) ?_
  refine px_dup rfl rfl ?_
  refine px_callI (mc1 := 2) (ms1 := 16) (mc2 := 2) (ms2 := 16) CX6_init [.ref 19, .ref 15] [] vI_X6_init_19 rfl rfl rfl rfl rfl (Nat.le_of_ble_eq_true rfl) (by decide) ?_
  rintro _ _ - ⟨rfl, rfl⟩
  refine qx_putRF (n := 8) rfl (by decide +kernel) rfl rfl rfl rfl ?_
  refine px_aload_n (kk := 0) rfl rfl rfl ?_
  refine px_bipush (v := nI 8) rfl b_8 ?_
  refine qx_newI (mc := 1) (ms := 8) (n := 8) (m0 := 22) (Sh2 := (gS.take 23)) rfl (by decide) rfl (by decide) (by decide +kernel) (by decide +kernel) (by decide +kernel) ?_
  refine qx_putRF (n := 8) rfl (by decide +kernel) rfl rfl rfl rfl ?_
  refine px_aload_n (kk := 0) rfl rfl rfl ?_
  refine px_bipush (v := nI 8) rfl b_8 ?_
  refine qx_newI (mc := 0) (ms := 0) (n := 8) (m0 := 23) (Sh2 := (gS.take 24)) rfl (by decide) rfl (by decide) (by decide +kernel) (by decide +kernel) (by decide +kernel) ?_
  refine qx_putRF (n := 8) rfl (by decide +kernel) rfl rfl rfl rfl ?_
  refine px_aload_n (kk := 0) rfl rfl rfl ?_
  refine px_iconst (v := nI 0) rfl k_0 ?_
  refine qx_putI (n := 8) rfl (by decide +kernel) rfl rfl ?_
  refine px_aload_n (kk := 0) rfl rfl rfl ?_
  refine px_iconst (v := nI 0) rfl k_0 ?_
  refine qx_putI (n := 8) rfl (by decide +kernel) rfl rfl ?_
  refine px_aload_n (kk := 0) rfl rfl rfl ?_
  refine px_aload_n (kk := 1) rfl rfl rfl ?_
  refine qx_putRF (n := 8) rfl (by decide +kernel) rfl rfl rfl rfl ?_
  refine px_aload_n (kk := 0) rfl rfl rfl ?_
  refine px_aload_n (kk := 2) rfl rfl rfl ?_
  refine qx_putRF (n := 8) rfl (by decide +kernel) rfl rfl rfl rfl ?_
  refine px_return rfl rfl ?_
  exact ⟨rfl, rfl⟩
def kI_X10_init_24 (I : Nat → Nat → Int32) : Nat → Nat → Int32 := (se2 (se2 (se2 (va_up (va_up (va_up (va_up I 25 (fun _ => 0)) 26 (fun _ => 0)) 27 (fun _ => 0)) 28 (fun _ => 0)) 24 6 (nI 0)) 24 8 (nI 0)) 24 9 (nI 0))
def kJ_X10_init_24 (J : Nat → Nat → Int64) : Nat → Nat → Int64 := (va_up (va_up (va_up (va_up J 25 (fun _ => 0)) 26 (fun _ => 0)) 27 (fun _ => 0)) 28 (fun _ => 0))
def kR_X10_init_24 (R : Nat → Nat → Option Nat) : Nat → Nat → Option Nat := (se2 (se2 (se2 (se2 (va_up (se2 (va_up (se2 (va_up (se2 (va_up R 25 (fun _ => none)) 24 2 (some 25)) 26 (fun _ => none)) 24 3 (some 26)) 27 (fun _ => none)) 24 4 (some 27)) 28 (fun _ => none)) 24 5 (some 28)) 24 7 none) 24 0 (some 1)) 24 1 (some 11))
set_option maxRecDepth 20000 in
theorem vI_X10_init_24 {I : Nat → Nat → Int32} {J : Nat → Nat → Int64} {R : Nat → Nat → Option Nat} {ro : List (Nat × Nat × (Nat → Int32))} : Pv 0 4 32 CX10_init [.ref 24, .ref 1, .ref 11] (gS.take 25, I, J, R, ro) (qV (gS.take 29, kI_X10_init_24 I, kJ_X10_init_24 J, kR_X10_init_24 R, ro)) := by
  refine ⟨okCX10_init, Nat.le_of_ble_eq_true rfl, (show Px 0 4 32 CX10_init 0 [some (.ref 24), some (.ref 1), some (.ref 11)] [] _ _ from ?_)⟩
  refine px_aload_n (kk := 0) rfl rfl rfl ?_
  refine px_objinit rfl (Nat.le_of_ble_eq_true rfl) ?_
  refine px_aload_n (kk := 0) rfl rfl rfl ?_
  refine px_bipush (v := nI 8) rfl b_8 ?_
  refine qx_newI (mc := 3) (ms := 24) (n := 8) (m0 := 25) (Sh2 := (gS.take 26)) rfl (by decide) rfl (by decide) (by decide +kernel) (by decide +kernel) (by decide +kernel) ?_
  refine qx_putRF (n := 10) rfl (by decide +kernel) rfl rfl rfl rfl ?_
  refine px_aload_n (kk := 0) rfl rfl rfl ?_
  refine px_bipush (v := nI 8) rfl b_8 ?_
  refine qx_newI (mc := 2) (ms := 16) (n := 8) (m0 := 26) (Sh2 := (gS.take 27)) rfl (by decide) rfl (by decide) (by decide +kernel) (by decide +kernel) (by decide +kernel) ?_
  refine qx_putRF (n := 10) rfl (by decide +kernel) rfl rfl rfl rfl ?_
  refine px_aload_n (kk := 0) rfl rfl rfl ?_
  refine px_bipush (v := nI 8) rfl b_8 ?_
  refine qx_newI (mc := 1) (ms := 8) (n := 8) (m0 := 27) (Sh2 := (gS.take 28)) rfl (by decide) rfl (by decide) (by decide +kernel) (by decide +kernel) (by decide +kernel) ?_
  refine qx_putRF (n := 10) rfl (by decide +kernel) rfl rfl rfl rfl ?_
  refine px_aload_n (kk := 0) rfl rfl rfl ?_
  refine px_bipush (v := nI 8) rfl b_8 ?_
  refine qx_newI (mc := 0) (ms := 0) (n := 8) (m0 := 28) (Sh2 := (gS.take 29)) rfl (by decide) rfl (by decide) (by decide +kernel) (by decide +kernel) (by decide +kernel) ?_
  refine qx_putRF (n := 10) rfl (by decide +kernel) rfl rfl rfl rfl ?_
  refine px_aload_n (kk := 0) rfl rfl rfl ?_
  refine px_iconst (v := nI 0) rfl k_0 ?_
  refine qx_putI (n := 10) rfl (by decide +kernel) rfl rfl ?_
  refine px_aload_n (kk := 0) rfl rfl rfl ?_
  refine px_aconst_null rfl ?_
  refine qx_putN (n := 10) rfl (by decide +kernel) rfl rfl ?_
  refine px_aload_n (kk := 0) rfl rfl rfl ?_
  refine px_iconst (v := nI 0) rfl k_0 ?_
  refine qx_putI (n := 10) rfl (by decide +kernel) rfl rfl ?_
  refine px_aload_n (kk := 0) rfl rfl rfl ?_
  refine px_iconst (v := nI 0) rfl k_0 ?_
  refine qx_putI (n := 10) rfl (by decide +kernel) rfl rfl ?_
  refine px_aload_n (kk := 0) rfl rfl rfl ?_
  refine px_aload_n (kk := 1) rfl rfl rfl ?_
  refine qx_putRF (n := 10) rfl (by decide +kernel) rfl rfl rfl rfl ?_
  refine px_aload_n (kk := 0) rfl rfl rfl ?_
  refine px_aload_n (kk := 2) rfl rfl rfl ?_
  refine qx_putRF (n := 10) rfl (by decide +kernel) rfl rfl rfl rfl ?_
  refine px_return rfl rfl ?_
  exact ⟨rfl, rfl⟩
def kI_X6_init_30 (I : Nat → Nat → Int32) : Nat → Nat → Int32 := (fi2 (se2 (va_up (va_up I 31 (fun _ => 0)) 32 (fun _ => 0)) 30 2 (nI 0)) 31 8 (-1))
def kJ_X6_init_30 (J : Nat → Nat → Int64) : Nat → Nat → Int64 := (va_up (va_up J 31 (fun _ => 0)) 32 (fun _ => 0))
def kR_X6_init_30 (R : Nat → Nat → Option Nat) : Nat → Nat → Option Nat := (se2 (va_up (se2 (va_up R 31 (fun _ => none)) 30 0 (some 31)) 32 (fun _ => none)) 30 1 (some 32))
set_option maxRecDepth 20000 in
theorem vI_X6_init_30 {I : Nat → Nat → Int32} {J : Nat → Nat → Int64} {R : Nat → Nat → Option Nat} {ro : List (Nat × Nat × (Nat → Int32))} : Pv 1 2 16 CX6_init [.ref 30] (gS.take 31, I, J, R, ro) (qV (gS.take 33, kI_X6_init_30 I, kJ_X6_init_30 J, kR_X6_init_30 R, ro)) := by
  refine ⟨okCX6_init, Nat.le_of_ble_eq_true rfl, (show Px 1 2 16 CX6_init 0 [some (.ref 30)] [] _ _ from ?_)⟩
  refine px_aload_n (kk := 0) rfl rfl rfl ?_
  refine px_objinit rfl (Nat.le_of_ble_eq_true rfl) ?_
  refine px_aload_n (kk := 0) rfl rfl rfl ?_
  refine px_bipush (v := nI 8) rfl b_8 ?_
  refine qx_newI (mc := 1) (ms := 8) (n := 8) (m0 := 31) (Sh2 := (gS.take 32)) rfl (by decide) rfl (by decide) (by decide +kernel) (by decide +kernel) (by decide +kernel) ?_
  refine qx_putRF (n := 3) rfl (by decide +kernel) rfl rfl rfl rfl ?_
  refine px_aload_n (kk := 0) rfl rfl rfl ?_
  refine px_bipush (v := nI 8) rfl b_8 ?_
  refine qx_newI (mc := 0) (ms := 0) (n := 8) (m0 := 32) (Sh2 := (gS.take 33)) rfl (by decide) rfl (by decide) (by decide +kernel) (by decide +kernel) (by decide +kernel) ?_
  refine qx_putRF (n := 3) rfl (by decide +kernel) rfl rfl rfl rfl ?_
  refine px_aload_n (kk := 0) rfl rfl rfl ?_
  refine px_iconst (v := nI 0) rfl k_0 ?_
  refine qx_putI (n := 3) rfl (by decide +kernel) rfl rfl ?_
  refine px_aload_n (kk := 0) rfl rfl rfl ?_
  refine px_getR (r := 31) (n := 3) rfl (by decide +kernel) rfl rfl ?_
  refine px_iconst (v := -1) rfl k_m1 ?_
  refine px_callS (mc1 := 0) (ms1 := 0) (mc2 := 0) (ms2 := 0) CJ7_fill_53178 [] [.ref 31, .int (-1)] (vJ_fillG (a := 31) (N := 8) (by decide +kernel) (by decide) (-1)) rfl rfl rfl (Nat.le_of_ble_eq_true rfl) (by decide) ?_
  rintro _ _ - ⟨rfl, rfl⟩
  refine px_return rfl rfl ?_
  exact ⟨rfl, rfl⟩
def kI_X4_init_29 (I : Nat → Nat → Int32) : Nat → Nat → Int32 := (se2 (se2 (se2 (va_up (kI_X6_init_30 (va_up I 30 (fun _ => 0))) 33 (fun _ => 0)) 29 4 (nI 0)) 29 5 (nI 0)) 29 6 (nI 0))
def kJ_X4_init_29 (J : Nat → Nat → Int64) : Nat → Nat → Int64 := (se2 (se2 (va_up (kJ_X6_init_30 (va_up J 30 (fun _ => 0))) 33 (fun _ => 0)) 29 7 0) 29 8 1)
def kR_X4_init_29 (R : Nat → Nat → Option Nat) : Nat → Nat → Option Nat := (se2 (se2 (se2 (va_up (se2 (kR_X6_init_30 (va_up R 30 (fun _ => none))) 29 2 (some 30)) 33 (fun _ => none)) 29 3 (some 33)) 29 0 (some 1)) 29 1 (some 11))
set_option maxRecDepth 20000 in
theorem vI_X4_init_29 {I : Nat → Nat → Int32} {J : Nat → Nat → Int64} {R : Nat → Nat → Option Nat} {ro : List (Nat × Nat × (Nat → Int32))} : Pv 2 4 25 CX4_init [.ref 29, .ref 1, .ref 11] (gS.take 30, I, J, R, ro) (qV (gS.take 34, kI_X4_init_29 I, kJ_X4_init_29 J, kR_X4_init_29 R, ro)) := by
  refine ⟨okCX4_init, Nat.le_of_ble_eq_true rfl, (show Px 2 4 25 CX4_init 0 [some (.ref 29), some (.ref 1), some (.ref 11)] [] _ _ from ?_)⟩
  refine px_aload_n (kk := 0) rfl rfl rfl ?_
  refine px_objinit rfl (Nat.le_of_ble_eq_true rfl) ?_
  refine px_aload_n (kk := 0) rfl rfl rfl ?_
  refine qx_new (mc := 3) (ms := 22) (n := 3) (m0 := 30) (Sh2 := (gS.take 31)) rfl rfl (by decide) (by decide +kernel) (by decide +kernel) (by decide +kernel) ?_
  refine px_dup rfl rfl ?_
  refine px_callI (mc1 := 2) (ms1 := 16) (mc2 := 1) (ms2 := 6) CX6_init [.ref 30, .ref 29] [] vI_X6_init_30 rfl rfl rfl rfl rfl (Nat.le_of_ble_eq_true rfl) (by decide) ?_
  rintro _ _ - ⟨rfl, rfl⟩
  refine qx_putRF (n := 9) rfl (by decide +kernel) rfl rfl rfl rfl ?_
  refine px_aload_n (kk := 0) rfl rfl rfl ?_
  refine px_bipush (v := nI 6) rfl b_6 ?_
  refine qx_newI (mc := 0) (ms := 0) (n := 6) (m0 := 33) (Sh2 := (gS.take 34)) rfl (by decide) rfl (by decide) (by decide +kernel) (by decide +kernel) (by decide +kernel) ?_
  refine qx_putRF (n := 9) rfl (by decide +kernel) rfl rfl rfl rfl ?_
  refine px_aload_n (kk := 0) rfl rfl rfl ?_
  refine px_iconst (v := nI 0) rfl k_0 ?_
  refine qx_putI (n := 9) rfl (by decide +kernel) rfl rfl ?_
  refine px_aload_n (kk := 0) rfl rfl rfl ?_
  refine px_iconst (v := nI 0) rfl k_0 ?_
  refine qx_putI (n := 9) rfl (by decide +kernel) rfl rfl ?_
  refine px_aload_n (kk := 0) rfl rfl rfl ?_
  refine px_iconst (v := nI 0) rfl k_0 ?_
  refine qx_putI (n := 9) rfl (by decide +kernel) rfl rfl ?_
  refine px_aload_n (kk := 0) rfl rfl rfl ?_
  refine px_lconst (v := 0) rfl (by decide) ?_
  refine qx_putJ (n := 9) rfl (by decide +kernel) rfl rfl ?_
  refine px_aload_n (kk := 0) rfl rfl rfl ?_
  refine px_lconst (v := 1) rfl (by decide) ?_
  refine qx_putJ (n := 9) rfl (by decide +kernel) rfl rfl ?_
  refine px_aload_n (kk := 0) rfl rfl rfl ?_
  refine px_aload_n (kk := 1) rfl rfl rfl ?_
  refine qx_putRF (n := 9) rfl (by decide +kernel) rfl rfl rfl rfl ?_
  refine px_aload_n (kk := 0) rfl rfl rfl ?_
  refine px_aload_n (kk := 2) rfl rfl rfl ?_
  refine qx_putRF (n := 9) rfl (by decide +kernel) rfl rfl rfl rfl ?_
  refine px_return rfl rfl ?_
  exact ⟨rfl, rfl⟩
def kI_X6_init_35 (I : Nat → Nat → Int32) : Nat → Nat → Int32 := (fi2 (se2 (va_up (va_up I 36 (fun _ => 0)) 37 (fun _ => 0)) 35 2 (nI 0)) 36 8 (-1))
def kJ_X6_init_35 (J : Nat → Nat → Int64) : Nat → Nat → Int64 := (va_up (va_up J 36 (fun _ => 0)) 37 (fun _ => 0))
def kR_X6_init_35 (R : Nat → Nat → Option Nat) : Nat → Nat → Option Nat := (se2 (va_up (se2 (va_up R 36 (fun _ => none)) 35 0 (some 36)) 37 (fun _ => none)) 35 1 (some 37))
set_option maxRecDepth 20000 in
theorem vI_X6_init_35 {I : Nat → Nat → Int32} {J : Nat → Nat → Int64} {R : Nat → Nat → Option Nat} {ro : List (Nat × Nat × (Nat → Int32))} : Pv 1 2 16 CX6_init [.ref 35] (gS.take 36, I, J, R, ro) (qV (gS.take 38, kI_X6_init_35 I, kJ_X6_init_35 J, kR_X6_init_35 R, ro)) := by
  refine ⟨okCX6_init, Nat.le_of_ble_eq_true rfl, (show Px 1 2 16 CX6_init 0 [some (.ref 35)] [] _ _ from ?_)⟩
  refine px_aload_n (kk := 0) rfl rfl rfl ?_
  refine px_objinit rfl (Nat.le_of_ble_eq_true rfl) ?_
  refine px_aload_n (kk := 0) rfl rfl rfl ?_
  refine px_bipush (v := nI 8) rfl b_8 ?_
  refine qx_newI (mc := 1) (ms := 8) (n := 8) (m0 := 36) (Sh2 := (gS.take 37)) rfl (by decide) rfl (by decide) (by decide +kernel) (by decide +kernel) (by decide +kernel) ?_
  refine qx_putRF (n := 3) rfl (by decide +kernel) rfl rfl rfl rfl ?_
  refine px_aload_n (kk := 0) rfl rfl rfl ?_
  refine px_bipush (v := nI 8) rfl b_8 ?_
  refine qx_newI (mc := 0) (ms := 0) (n := 8) (m0 := 37) (Sh2 := (gS.take 38)) rfl (by decide) rfl (by decide) (by decide +kernel) (by decide +kernel) (by decide +kernel) ?_
  refine qx_putRF (n := 3) rfl (by decide +kernel) rfl rfl rfl rfl ?_
  refine px_aload_n (kk := 0) rfl rfl rfl ?_
  refine px_iconst (v := nI 0) rfl k_0 ?_
  refine qx_putI (n := 3) rfl (by decide +kernel) rfl rfl ?_
  refine px_aload_n (kk := 0) rfl rfl rfl ?_
  refine px_getR (r := 36) (n := 3) rfl (by decide +kernel) rfl rfl ?_
  refine px_iconst (v := -1) rfl k_m1 ?_
  refine px_callS (mc1 := 0) (ms1 := 0) (mc2 := 0) (ms2 := 0) CJ7_fill_53178 [] [.ref 36, .int (-1)] (vJ_fillG (a := 36) (N := 8) (by decide +kernel) (by decide) (-1)) rfl rfl rfl (Nat.le_of_ble_eq_true rfl) (by decide) ?_
  rintro _ _ - ⟨rfl, rfl⟩
  refine px_return rfl rfl ?_
  exact ⟨rfl, rfl⟩
def kI_X6_init_39 (I : Nat → Nat → Int32) : Nat → Nat → Int32 := (fi2 (se2 (va_up (va_up I 40 (fun _ => 0)) 41 (fun _ => 0)) 39 2 (nI 0)) 40 8 (-1))
def kJ_X6_init_39 (J : Nat → Nat → Int64) : Nat → Nat → Int64 := (va_up (va_up J 40 (fun _ => 0)) 41 (fun _ => 0))
def kR_X6_init_39 (R : Nat → Nat → Option Nat) : Nat → Nat → Option Nat := (se2 (va_up (se2 (va_up R 40 (fun _ => none)) 39 0 (some 40)) 41 (fun _ => none)) 39 1 (some 41))
set_option maxRecDepth 20000 in
theorem vI_X6_init_39 {I : Nat → Nat → Int32} {J : Nat → Nat → Int64} {R : Nat → Nat → Option Nat} {ro : List (Nat × Nat × (Nat → Int32))} : Pv 1 2 16 CX6_init [.ref 39] (gS.take 40, I, J, R, ro) (qV (gS.take 42, kI_X6_init_39 I, kJ_X6_init_39 J, kR_X6_init_39 R, ro)) := by
  refine ⟨okCX6_init, Nat.le_of_ble_eq_true rfl, (show Px 1 2 16 CX6_init 0 [some (.ref 39)] [] _ _ from ?_)⟩
  refine px_aload_n (kk := 0) rfl rfl rfl ?_
  refine px_objinit rfl (Nat.le_of_ble_eq_true rfl) ?_
  refine px_aload_n (kk := 0) rfl rfl rfl ?_
  refine px_bipush (v := nI 8) rfl b_8 ?_
  refine qx_newI (mc := 1) (ms := 8) (n := 8) (m0 := 40) (Sh2 := (gS.take 41)) rfl (by decide) rfl (by decide) (by decide +kernel) (by decide +kernel) (by decide +kernel) ?_
  refine qx_putRF (n := 3) rfl (by decide +kernel) rfl rfl rfl rfl ?_
  refine px_aload_n (kk := 0) rfl rfl rfl ?_
  refine px_bipush (v := nI 8) rfl b_8 ?_
  refine qx_newI (mc := 0) (ms := 0) (n := 8) (m0 := 41) (Sh2 := (gS.take 42)) rfl (by decide) rfl (by decide) (by decide +kernel) (by decide +kernel) (by decide +kernel) ?_
  refine qx_putRF (n := 3) rfl (by decide +kernel) rfl rfl rfl rfl ?_
  refine px_aload_n (kk := 0) rfl rfl rfl ?_
  refine px_iconst (v := nI 0) rfl k_0 ?_
  refine qx_putI (n := 3) rfl (by decide +kernel) rfl rfl ?_
  refine px_aload_n (kk := 0) rfl rfl rfl ?_
  refine px_getR (r := 40) (n := 3) rfl (by decide +kernel) rfl rfl ?_
  refine px_iconst (v := -1) rfl k_m1 ?_
  refine px_callS (mc1 := 0) (ms1 := 0) (mc2 := 0) (ms2 := 0) CJ7_fill_53178 [] [.ref 40, .int (-1)] (vJ_fillG (a := 40) (N := 8) (by decide +kernel) (by decide) (-1)) rfl rfl rfl (Nat.le_of_ble_eq_true rfl) (by decide) ?_
  rintro _ _ - ⟨rfl, rfl⟩
  refine px_return rfl rfl ?_
  exact ⟨rfl, rfl⟩
def kI_X2_init_34 (I : Nat → Nat → Int32) : Nat → Nat → Int32 := (se2 (se2 (va_up (va_up (kI_X6_init_39 (va_up (va_up (kI_X6_init_35 (va_up I 35 (fun _ => 0))) 38 (fun _ => 0)) 39 (fun _ => 0))) 42 (fun _ => 0)) 43 (fun _ => 0)) 34 7 (nI 0)) 34 8 (nI 0))
def kJ_X2_init_34 (J : Nat → Nat → Int64) : Nat → Nat → Int64 := (va_up (va_up (kJ_X6_init_39 (va_up (va_up (kJ_X6_init_35 (va_up J 35 (fun _ => 0))) 38 (fun _ => 0)) 39 (fun _ => 0))) 42 (fun _ => 0)) 43 (fun _ => 0))
def kR_X2_init_34 (R : Nat → Nat → Option Nat) : Nat → Nat → Option Nat := (se2 (se2 (se2 (va_up (se2 (va_up (se2 (kR_X6_init_39 (va_up (se2 (va_up (se2 (kR_X6_init_35 (va_up R 35 (fun _ => none))) 34 2 (some 35)) 38 (fun _ => none)) 34 3 (some 38)) 39 (fun _ => none))) 34 4 (some 39)) 42 (fun _ => none)) 34 5 (some 42)) 43 (fun _ => none)) 34 6 (some 43)) 34 0 (some 1)) 34 1 (some 11))
set_option maxRecDepth 20000 in
theorem vI_X2_init_34 {I : Nat → Nat → Int32} {J : Nat → Nat → Int64} {R : Nat → Nat → Option Nat} {ro : List (Nat × Nat × (Nat → Int32))} : Pv 2 9 54 CX2_init [.ref 34, .ref 1, .ref 11] (gS.take 35, I, J, R, ro) (qV (gS.take 44, kI_X2_init_34 I, kJ_X2_init_34 J, kR_X2_init_34 R, ro)) := by
  refine ⟨okCX2_init, Nat.le_of_ble_eq_true rfl, (show Px 2 9 54 CX2_init 0 [some (.ref 34), some (.ref 1), some (.ref 11)] [] _ _ from ?_)⟩
  refine px_aload_n (kk := 0) rfl rfl rfl ?_
  refine px_objinit rfl (Nat.le_of_ble_eq_true rfl) ?_
  refine px_aload_n (kk := 0) rfl rfl rfl ?_
  refine qx_new (mc := 8) (ms := 51) (n := 3) (m0 := 35) (Sh2 := (gS.take 36)) rfl rfl (by decide) (by decide +kernel) (by decide +kernel) (by decide +kernel) ?_
  refine px_dup rfl rfl ?_
  refine px_callI (mc1 := 2) (ms1 := 16) (mc2 := 6) (ms2 := 35) CX6_init [.ref 35, .ref 34] [] vI_X6_init_35 rfl rfl rfl rfl rfl (Nat.le_of_ble_eq_true rfl) (by decide) ?_
  rintro _ _ - ⟨rfl, rfl⟩
  refine qx_putRF (n := 9) rfl (by decide +kernel) rfl rfl rfl rfl ?_
  refine px_aload_n (kk := 0) rfl rfl rfl ?_
  refine px_iconst (v := nI 4) rfl k_4 ?_
  refine qx_newI (mc := 5) (ms := 31) (n := 4) (m0 := 38) (Sh2 := (gS.take 39)) rfl (by decide) rfl (by decide) (by decide +kernel) (by decide +kernel) (by decide +kernel) ?_
  refine qx_putRF (n := 9) rfl (by decide +kernel) rfl rfl rfl rfl ?_
  refine px_aload_n (kk := 0) rfl rfl rfl ?_
  refine qx_new (mc := 4) (ms := 28) (n := 3) (m0 := 39) (Sh2 := (gS.take 40)) rfl rfl (by decide) (by decide +kernel) (by decide +kernel) (by decide +kernel) ?_
  refine px_dup rfl rfl ?_
  refine px_callI (mc1 := 2) (ms1 := 16) (mc2 := 2) (ms2 := 12) CX6_init [.ref 39, .ref 34] [] vI_X6_init_39 rfl rfl rfl rfl rfl (Nat.le_of_ble_eq_true rfl) (by decide) ?_
  rintro _ _ - ⟨rfl, rfl⟩
  refine qx_putRF (n := 9) rfl (by decide +kernel) rfl rfl rfl rfl ?_
  refine px_aload_n (kk := 0) rfl rfl rfl ?_
  refine px_iconst (v := nI 4) rfl k_4 ?_
  refine qx_newI (mc := 1) (ms := 8) (n := 4) (m0 := 42) (Sh2 := (gS.take 43)) rfl (by decide) rfl (by decide) (by decide +kernel) (by decide +kernel) (by decide +kernel) ?_
  refine qx_putRF (n := 9) rfl (by decide +kernel) rfl rfl rfl rfl ?_
  refine px_aload_n (kk := 0) rfl rfl rfl ?_
  refine px_bipush (v := nI 8) rfl b_8 ?_
  refine qx_newI (mc := 0) (ms := 0) (n := 8) (m0 := 43) (Sh2 := (gS.take 44)) rfl (by decide) rfl (by decide) (by decide +kernel) (by decide +kernel) (by decide +kernel) ?_
  refine qx_putRF (n := 9) rfl (by decide +kernel) rfl rfl rfl rfl ?_
  refine px_aload_n (kk := 0) rfl rfl rfl ?_
  refine px_iconst (v := nI 0) rfl k_0 ?_
  refine qx_putI (n := 9) rfl (by decide +kernel) rfl rfl ?_
  refine px_aload_n (kk := 0) rfl rfl rfl ?_
  refine px_iconst (v := nI 0) rfl k_0 ?_
  refine px_putZ (n := 9) rfl (by decide +kernel) rfl (by decide) rfl ?_
  refine px_aload_n (kk := 0) rfl rfl rfl ?_
  refine px_aload_n (kk := 1) rfl rfl rfl ?_
  refine qx_putRF (n := 9) rfl (by decide +kernel) rfl rfl rfl rfl ?_
  refine px_aload_n (kk := 0) rfl rfl rfl ?_
  refine px_aload_n (kk := 2) rfl rfl rfl ?_
  refine qx_putRF (n := 9) rfl (by decide +kernel) rfl rfl rfl rfl ?_
  refine px_return rfl rfl ?_
  exact ⟨rfl, rfl⟩
def kI_X1_init_44 (I : Nat → Nat → Int32) : Nat → Nat → Int32 := (se2 (se2 (va_up (va_up (va_up (va_up I 45 (fun _ => 0)) 46 (fun _ => 0)) 47 (fun _ => 0)) 48 (fun _ => 0)) 44 5 (nI 0)) 44 6 (nI 0))
def kJ_X1_init_44 (J : Nat → Nat → Int64) : Nat → Nat → Int64 := (va_up (va_up (va_up (va_up J 45 (fun _ => 0)) 46 (fun _ => 0)) 47 (fun _ => 0)) 48 (fun _ => 0))
def kR_X1_init_44 (R : Nat → Nat → Option Nat) : Nat → Nat → Option Nat := (se2 (se2 (va_up (se2 (va_up (se2 (va_up (se2 (va_up R 45 (fun _ => none)) 44 1 (some 45)) 46 (fun _ => none)) 44 2 (some 46)) 47 (fun _ => none)) 44 3 (some 47)) 48 (fun _ => none)) 44 4 (some 48)) 44 0 (some 1))
set_option maxRecDepth 20000 in
theorem vI_X1_init_44 {I : Nat → Nat → Int32} {J : Nat → Nat → Int64} {R : Nat → Nat → Option Nat} {ro : List (Nat × Nat × (Nat → Int32))} : Pv 0 4 160 CX1_init [.ref 44, .ref 1] (gS.take 45, I, J, R, ro) (qV (gS.take 49, kI_X1_init_44 I, kJ_X1_init_44 J, kR_X1_init_44 R, ro)) := by
  refine ⟨okCX1_init, Nat.le_of_ble_eq_true rfl, (show Px 0 4 160 CX1_init 0 [some (.ref 44), some (.ref 1)] [] _ _ from ?_)⟩
  refine px_aload_n (kk := 0) rfl rfl rfl ?_
  refine px_objinit rfl (Nat.le_of_ble_eq_true rfl) ?_
  refine px_aload_n (kk := 0) rfl rfl rfl ?_
  refine px_bipush (v := nI 40) rfl b_40 ?_
  refine qx_newI (mc := 3) (ms := 120) (n := 40) (m0 := 45) (Sh2 := (gS.take 46)) rfl (by decide) rfl (by decide) (by decide +kernel) (by decide +kernel) (by decide +kernel) ?_
  refine qx_putRF (n := 7) rfl (by decide +kernel) rfl rfl rfl rfl ?_
  refine px_aload_n (kk := 0) rfl rfl rfl ?_
  refine px_bipush (v := nI 40) rfl b_40 ?_
  refine qx_newI (mc := 2) (ms := 80) (n := 40) (m0 := 46) (Sh2 := (gS.take 47)) rfl (by decide) rfl (by decide) (by decide +kernel) (by decide +kernel) (by decide +kernel) ?_
  refine qx_putRF (n := 7) rfl (by decide +kernel) rfl rfl rfl rfl ?_
  refine px_aload_n (kk := 0) rfl rfl rfl ?_
  refine px_bipush (v := nI 40) rfl b_40 ?_
  refine qx_newI (mc := 1) (ms := 40) (n := 40) (m0 := 47) (Sh2 := (gS.take 48)) rfl (by decide) rfl (by decide) (by decide +kernel) (by decide +kernel) (by decide +kernel) ?_
  refine qx_putRF (n := 7) rfl (by decide +kernel) rfl rfl rfl rfl ?_
  refine px_aload_n (kk := 0) rfl rfl rfl ?_
  refine px_bipush (v := nI 40) rfl b_40 ?_
  refine qx_newI (mc := 0) (ms := 0) (n := 40) (m0 := 48) (Sh2 := (gS.take 49)) rfl (by decide) rfl (by decide) (by decide +kernel) (by decide +kernel) (by decide +kernel) ?_
  refine qx_putRF (n := 7) rfl (by decide +kernel) rfl rfl rfl rfl ?_
  refine px_aload_n (kk := 0) rfl rfl rfl ?_
  refine px_iconst (v := nI 0) rfl k_0 ?_
  refine qx_putI (n := 7) rfl (by decide +kernel) rfl rfl ?_
  refine px_aload_n (kk := 0) rfl rfl rfl ?_
  refine px_iconst (v := nI 0) rfl k_0 ?_
  refine qx_putI (n := 7) rfl (by decide +kernel) rfl rfl ?_
  refine px_aload_n (kk := 0) rfl rfl rfl ?_
  refine px_aload_n (kk := 1) rfl rfl rfl ?_
  refine qx_putRF (n := 7) rfl (by decide +kernel) rfl rfl rfl rfl ?_
  refine px_return rfl rfl ?_
  exact ⟨rfl, rfl⟩
def kI_X0_init_49 (I : Nat → Nat → Int32) : Nat → Nat → Int32 := (se2 (se2 (se2 (va_up (va_up I 50 (fun _ => 0)) 51 (fun _ => 0)) 49 2 (nI 0)) 49 3 (nI 0)) 49 4 (nI 0))
def kJ_X0_init_49 (J : Nat → Nat → Int64) : Nat → Nat → Int64 := (va_up (va_up J 50 (fun _ => 0)) 51 (fun _ => 0))
def kR_X0_init_49 (R : Nat → Nat → Option Nat) : Nat → Nat → Option Nat := (se2 (va_up (se2 (va_up R 50 (fun _ => none)) 49 0 (some 50)) 51 (fun _ => none)) 49 1 (some 51))
set_option maxRecDepth 20000 in
theorem vI_X0_init_49 {I : Nat → Nat → Int32} {J : Nat → Nat → Int64} {R : Nat → Nat → Option Nat} {ro : List (Nat × Nat × (Nat → Int32))} : Pv 0 2 74 CX0_init [.ref 49] (gS.take 50, I, J, R, ro) (qV (gS.take 52, kI_X0_init_49 I, kJ_X0_init_49 J, kR_X0_init_49 R, ro)) := by
  refine ⟨okCX0_init, Nat.le_of_ble_eq_true rfl, (show Px 0 2 74 CX0_init 0 [some (.ref 49)] [] _ _ from ?_)⟩
  refine px_aload_n (kk := 0) rfl rfl rfl ?_
  refine px_objinit rfl (Nat.le_of_ble_eq_true rfl) ?_
  refine px_aload_n (kk := 0) rfl rfl rfl ?_
  refine px_bipush (v := nI 50) rfl b_50 ?_
  refine qx_newI (mc := 1) (ms := 24) (n := 50) (m0 := 50) (Sh2 := (gS.take 51)) rfl (by decide) rfl (by decide) (by decide +kernel) (by decide +kernel) (by decide +kernel) ?_
  refine qx_putRF (n := 5) rfl (by decide +kernel) rfl rfl rfl rfl ?_
  refine px_aload_n (kk := 0) rfl rfl rfl ?_
  refine px_bipush (v := nI 24) rfl b_24 ?_
  refine qx_newI (mc := 0) (ms := 0) (n := 24) (m0 := 51) (Sh2 := (gS.take 52)) rfl (by decide) rfl (by decide) (by decide +kernel) (by decide +kernel) (by decide +kernel) ?_
  refine qx_putRF (n := 5) rfl (by decide +kernel) rfl rfl rfl rfl ?_
  refine px_aload_n (kk := 0) rfl rfl rfl ?_
  refine px_iconst (v := nI 0) rfl k_0 ?_
  refine qx_putI (n := 5) rfl (by decide +kernel) rfl rfl ?_
  refine px_aload_n (kk := 0) rfl rfl rfl ?_
  refine px_iconst (v := nI 0) rfl k_0 ?_
  refine qx_putI (n := 5) rfl (by decide +kernel) rfl rfl ?_
  refine px_aload_n (kk := 0) rfl rfl rfl ?_
  refine px_iconst (v := nI 0) rfl k_0 ?_
  refine qx_putI (n := 5) rfl (by decide +kernel) rfl rfl ?_
  refine px_return rfl rfl ?_
  exact ⟨rfl, rfl⟩
def kI_X7_init_53 (I : Nat → Nat → Int32) : Nat → Nat → Int32 := (se2 (se2 (se2 (se2 (va_up I 54 (fun _ => 0)) 53 1 (nI 0)) 53 2 (-1)) 53 3 (nI 0)) 53 4 (nI 0))
def kJ_X7_init_53 (J : Nat → Nat → Int64) : Nat → Nat → Int64 := (va_up J 54 (fun _ => 0))
def kR_X7_init_53 (R : Nat → Nat → Option Nat) : Nat → Nat → Option Nat := (se2 (va_up R 54 (fun _ => none)) 53 0 (some 54))
set_option maxRecDepth 20000 in
theorem vI_X7_init_53 {I : Nat → Nat → Int32} {J : Nat → Nat → Int64} {R : Nat → Nat → Option Nat} {ro : List (Nat × Nat × (Nat → Int32))} : Pv 0 1 60 CX7_init [.ref 53] (gS.take 54, I, J, R, ro) (qV (gS.take 55, kI_X7_init_53 I, kJ_X7_init_53 J, kR_X7_init_53 R, ro)) := by
  refine ⟨okCX7_init, Nat.le_of_ble_eq_true rfl, (show Px 0 1 60 CX7_init 0 [some (.ref 53)] [] _ _ from ?_)⟩
  refine px_aload_n (kk := 0) rfl rfl rfl ?_
  refine px_objinit rfl (Nat.le_of_ble_eq_true rfl) ?_
  refine px_aload_n (kk := 0) rfl rfl rfl ?_
  refine px_bipush (v := nI 60) rfl b_60 ?_
  refine qx_newL (mc := 0) (ms := 0) (n := 60) (m0 := 54) (Sh2 := (gS.take 55)) rfl rfl (by decide) (by decide +kernel) (by decide +kernel) (by decide +kernel) ?_
  refine qx_putRF (n := 5) rfl (by decide +kernel) rfl rfl rfl rfl ?_
  refine px_aload_n (kk := 0) rfl rfl rfl ?_
  refine px_iconst (v := nI 0) rfl k_0 ?_
  refine qx_putI (n := 5) rfl (by decide +kernel) rfl rfl ?_
  refine px_aload_n (kk := 0) rfl rfl rfl ?_
  refine px_iconst (v := -1) rfl k_m1 ?_
  refine qx_putI (n := 5) rfl (by decide +kernel) rfl rfl ?_
  refine px_aload_n (kk := 0) rfl rfl rfl ?_
  refine px_iconst (v := nI 0) rfl k_0 ?_
  refine qx_putI (n := 5) rfl (by decide +kernel) rfl rfl ?_
  refine px_aload_n (kk := 0) rfl rfl rfl ?_
  refine px_iconst (v := nI 0) rfl k_0 ?_
  refine qx_putI (n := 5) rfl (by decide +kernel) rfl rfl ?_
  refine px_return rfl rfl ?_
  exact ⟨rfl, rfl⟩
def kI_X7_init_55 (I : Nat → Nat → Int32) : Nat → Nat → Int32 := (se2 (se2 (se2 (se2 (va_up I 56 (fun _ => 0)) 55 1 (nI 0)) 55 2 (-1)) 55 3 (nI 0)) 55 4 (nI 0))
def kJ_X7_init_55 (J : Nat → Nat → Int64) : Nat → Nat → Int64 := (va_up J 56 (fun _ => 0))
def kR_X7_init_55 (R : Nat → Nat → Option Nat) : Nat → Nat → Option Nat := (se2 (va_up R 56 (fun _ => none)) 55 0 (some 56))
set_option maxRecDepth 20000 in
theorem vI_X7_init_55 {I : Nat → Nat → Int32} {J : Nat → Nat → Int64} {R : Nat → Nat → Option Nat} {ro : List (Nat × Nat × (Nat → Int32))} : Pv 0 1 60 CX7_init [.ref 55] (gS.take 56, I, J, R, ro) (qV (gS.take 57, kI_X7_init_55 I, kJ_X7_init_55 J, kR_X7_init_55 R, ro)) := by
  refine ⟨okCX7_init, Nat.le_of_ble_eq_true rfl, (show Px 0 1 60 CX7_init 0 [some (.ref 55)] [] _ _ from ?_)⟩
  refine px_aload_n (kk := 0) rfl rfl rfl ?_
  refine px_objinit rfl (Nat.le_of_ble_eq_true rfl) ?_
  refine px_aload_n (kk := 0) rfl rfl rfl ?_
  refine px_bipush (v := nI 60) rfl b_60 ?_
  refine qx_newL (mc := 0) (ms := 0) (n := 60) (m0 := 56) (Sh2 := (gS.take 57)) rfl rfl (by decide) (by decide +kernel) (by decide +kernel) (by decide +kernel) ?_
  refine qx_putRF (n := 5) rfl (by decide +kernel) rfl rfl rfl rfl ?_
  refine px_aload_n (kk := 0) rfl rfl rfl ?_
  refine px_iconst (v := nI 0) rfl k_0 ?_
  refine qx_putI (n := 5) rfl (by decide +kernel) rfl rfl ?_
  refine px_aload_n (kk := 0) rfl rfl rfl ?_
  refine px_iconst (v := -1) rfl k_m1 ?_
  refine qx_putI (n := 5) rfl (by decide +kernel) rfl rfl ?_
  refine px_aload_n (kk := 0) rfl rfl rfl ?_
  refine px_iconst (v := nI 0) rfl k_0 ?_
  refine qx_putI (n := 5) rfl (by decide +kernel) rfl rfl ?_
  refine px_aload_n (kk := 0) rfl rfl rfl ?_
  refine px_iconst (v := nI 0) rfl k_0 ?_
  refine qx_putI (n := 5) rfl (by decide +kernel) rfl rfl ?_
  refine px_return rfl rfl ?_
  exact ⟨rfl, rfl⟩
def kI_X7_init_57 (I : Nat → Nat → Int32) : Nat → Nat → Int32 := (se2 (se2 (se2 (se2 (va_up I 58 (fun _ => 0)) 57 1 (nI 0)) 57 2 (-1)) 57 3 (nI 0)) 57 4 (nI 0))
def kJ_X7_init_57 (J : Nat → Nat → Int64) : Nat → Nat → Int64 := (va_up J 58 (fun _ => 0))
def kR_X7_init_57 (R : Nat → Nat → Option Nat) : Nat → Nat → Option Nat := (se2 (va_up R 58 (fun _ => none)) 57 0 (some 58))
set_option maxRecDepth 20000 in
theorem vI_X7_init_57 {I : Nat → Nat → Int32} {J : Nat → Nat → Int64} {R : Nat → Nat → Option Nat} {ro : List (Nat × Nat × (Nat → Int32))} : Pv 0 1 60 CX7_init [.ref 57] (gS.take 58, I, J, R, ro) (qV (gS.take 59, kI_X7_init_57 I, kJ_X7_init_57 J, kR_X7_init_57 R, ro)) := by
  refine ⟨okCX7_init, Nat.le_of_ble_eq_true rfl, (show Px 0 1 60 CX7_init 0 [some (.ref 57)] [] _ _ from ?_)⟩
  refine px_aload_n (kk := 0) rfl rfl rfl ?_
  refine px_objinit rfl (Nat.le_of_ble_eq_true rfl) ?_
  refine px_aload_n (kk := 0) rfl rfl rfl ?_
  refine px_bipush (v := nI 60) rfl b_60 ?_
  refine qx_newL (mc := 0) (ms := 0) (n := 60) (m0 := 58) (Sh2 := (gS.take 59)) rfl rfl (by decide) (by decide +kernel) (by decide +kernel) (by decide +kernel) ?_
  refine qx_putRF (n := 5) rfl (by decide +kernel) rfl rfl rfl rfl ?_
  refine px_aload_n (kk := 0) rfl rfl rfl ?_
  refine px_iconst (v := nI 0) rfl k_0 ?_
  refine qx_putI (n := 5) rfl (by decide +kernel) rfl rfl ?_
  refine px_aload_n (kk := 0) rfl rfl rfl ?_
  refine px_iconst (v := -1) rfl k_m1 ?_
  refine qx_putI (n := 5) rfl (by decide +kernel) rfl rfl ?_
  refine px_aload_n (kk := 0) rfl rfl rfl ?_
  refine px_iconst (v := nI 0) rfl k_0 ?_
  refine qx_putI (n := 5) rfl (by decide +kernel) rfl rfl ?_
  refine px_aload_n (kk := 0) rfl rfl rfl ?_
  refine px_iconst (v := nI 0) rfl k_0 ?_
  refine qx_putI (n := 5) rfl (by decide +kernel) rfl rfl ?_
  refine px_return rfl rfl ?_
  exact ⟨rfl, rfl⟩
def kI_X7_init_59 (I : Nat → Nat → Int32) : Nat → Nat → Int32 := (se2 (se2 (se2 (se2 (va_up I 60 (fun _ => 0)) 59 1 (nI 0)) 59 2 (-1)) 59 3 (nI 0)) 59 4 (nI 0))
def kJ_X7_init_59 (J : Nat → Nat → Int64) : Nat → Nat → Int64 := (va_up J 60 (fun _ => 0))
def kR_X7_init_59 (R : Nat → Nat → Option Nat) : Nat → Nat → Option Nat := (se2 (va_up R 60 (fun _ => none)) 59 0 (some 60))
set_option maxRecDepth 20000 in
theorem vI_X7_init_59 {I : Nat → Nat → Int32} {J : Nat → Nat → Int64} {R : Nat → Nat → Option Nat} {ro : List (Nat × Nat × (Nat → Int32))} : Pv 0 1 60 CX7_init [.ref 59] (gS.take 60, I, J, R, ro) (qV (gS.take 61, kI_X7_init_59 I, kJ_X7_init_59 J, kR_X7_init_59 R, ro)) := by
  refine ⟨okCX7_init, Nat.le_of_ble_eq_true rfl, (show Px 0 1 60 CX7_init 0 [some (.ref 59)] [] _ _ from ?_)⟩
  refine px_aload_n (kk := 0) rfl rfl rfl ?_
  refine px_objinit rfl (Nat.le_of_ble_eq_true rfl) ?_
  refine px_aload_n (kk := 0) rfl rfl rfl ?_
  refine px_bipush (v := nI 60) rfl b_60 ?_
  refine qx_newL (mc := 0) (ms := 0) (n := 60) (m0 := 60) (Sh2 := (gS.take 61)) rfl rfl (by decide) (by decide +kernel) (by decide +kernel) (by decide +kernel) ?_
  refine qx_putRF (n := 5) rfl (by decide +kernel) rfl rfl rfl rfl ?_
  refine px_aload_n (kk := 0) rfl rfl rfl ?_
  refine px_iconst (v := nI 0) rfl k_0 ?_
  refine qx_putI (n := 5) rfl (by decide +kernel) rfl rfl ?_
  refine px_aload_n (kk := 0) rfl rfl rfl ?_
  refine px_iconst (v := -1) rfl k_m1 ?_
  refine qx_putI (n := 5) rfl (by decide +kernel) rfl rfl ?_
  refine px_aload_n (kk := 0) rfl rfl rfl ?_
  refine px_iconst (v := nI 0) rfl k_0 ?_
  refine qx_putI (n := 5) rfl (by decide +kernel) rfl rfl ?_
  refine px_aload_n (kk := 0) rfl rfl rfl ?_
  refine px_iconst (v := nI 0) rfl k_0 ?_
  refine qx_putI (n := 5) rfl (by decide +kernel) rfl rfl ?_
  refine px_return rfl rfl ?_
  exact ⟨rfl, rfl⟩
def kI_X7_init_61 (I : Nat → Nat → Int32) : Nat → Nat → Int32 := (se2 (se2 (se2 (se2 (va_up I 62 (fun _ => 0)) 61 1 (nI 0)) 61 2 (-1)) 61 3 (nI 0)) 61 4 (nI 0))
def kJ_X7_init_61 (J : Nat → Nat → Int64) : Nat → Nat → Int64 := (va_up J 62 (fun _ => 0))
def kR_X7_init_61 (R : Nat → Nat → Option Nat) : Nat → Nat → Option Nat := (se2 (va_up R 62 (fun _ => none)) 61 0 (some 62))
set_option maxRecDepth 20000 in
theorem vI_X7_init_61 {I : Nat → Nat → Int32} {J : Nat → Nat → Int64} {R : Nat → Nat → Option Nat} {ro : List (Nat × Nat × (Nat → Int32))} : Pv 0 1 60 CX7_init [.ref 61] (gS.take 62, I, J, R, ro) (qV (gS.take 63, kI_X7_init_61 I, kJ_X7_init_61 J, kR_X7_init_61 R, ro)) := by
  refine ⟨okCX7_init, Nat.le_of_ble_eq_true rfl, (show Px 0 1 60 CX7_init 0 [some (.ref 61)] [] _ _ from ?_)⟩
  refine px_aload_n (kk := 0) rfl rfl rfl ?_
  refine px_objinit rfl (Nat.le_of_ble_eq_true rfl) ?_
  refine px_aload_n (kk := 0) rfl rfl rfl ?_
  refine px_bipush (v := nI 60) rfl b_60 ?_
  refine qx_newL (mc := 0) (ms := 0) (n := 60) (m0 := 62) (Sh2 := (gS.take 63)) rfl rfl (by decide) (by decide +kernel) (by decide +kernel) (by decide +kernel) ?_
  refine qx_putRF (n := 5) rfl (by decide +kernel) rfl rfl rfl rfl ?_
  refine px_aload_n (kk := 0) rfl rfl rfl ?_
  refine px_iconst (v := nI 0) rfl k_0 ?_
  refine qx_putI (n := 5) rfl (by decide +kernel) rfl rfl ?_
  refine px_aload_n (kk := 0) rfl rfl rfl ?_
  refine px_iconst (v := -1) rfl k_m1 ?_
  refine qx_putI (n := 5) rfl (by decide +kernel) rfl rfl ?_
  refine px_aload_n (kk := 0) rfl rfl rfl ?_
  refine px_iconst (v := nI 0) rfl k_0 ?_
  refine qx_putI (n := 5) rfl (by decide +kernel) rfl rfl ?_
  refine px_aload_n (kk := 0) rfl rfl rfl ?_
  refine px_iconst (v := nI 0) rfl k_0 ?_
  refine qx_putI (n := 5) rfl (by decide +kernel) rfl rfl ?_
  refine px_return rfl rfl ?_
  exact ⟨rfl, rfl⟩
def kI_X7_init_63 (I : Nat → Nat → Int32) : Nat → Nat → Int32 := (se2 (se2 (se2 (se2 (va_up I 64 (fun _ => 0)) 63 1 (nI 0)) 63 2 (-1)) 63 3 (nI 0)) 63 4 (nI 0))
def kJ_X7_init_63 (J : Nat → Nat → Int64) : Nat → Nat → Int64 := (va_up J 64 (fun _ => 0))
def kR_X7_init_63 (R : Nat → Nat → Option Nat) : Nat → Nat → Option Nat := (se2 (va_up R 64 (fun _ => none)) 63 0 (some 64))
set_option maxRecDepth 20000 in
theorem vI_X7_init_63 {I : Nat → Nat → Int32} {J : Nat → Nat → Int64} {R : Nat → Nat → Option Nat} {ro : List (Nat × Nat × (Nat → Int32))} : Pv 0 1 60 CX7_init [.ref 63] (gS.take 64, I, J, R, ro) (qV (gS.take 65, kI_X7_init_63 I, kJ_X7_init_63 J, kR_X7_init_63 R, ro)) := by
  refine ⟨okCX7_init, Nat.le_of_ble_eq_true rfl, (show Px 0 1 60 CX7_init 0 [some (.ref 63)] [] _ _ from ?_)⟩
  refine px_aload_n (kk := 0) rfl rfl rfl ?_
  refine px_objinit rfl (Nat.le_of_ble_eq_true rfl) ?_
  refine px_aload_n (kk := 0) rfl rfl rfl ?_
  refine px_bipush (v := nI 60) rfl b_60 ?_
  refine qx_newL (mc := 0) (ms := 0) (n := 60) (m0 := 64) (Sh2 := (gS.take 65)) rfl rfl (by decide) (by decide +kernel) (by decide +kernel) (by decide +kernel) ?_
  refine qx_putRF (n := 5) rfl (by decide +kernel) rfl rfl rfl rfl ?_
  refine px_aload_n (kk := 0) rfl rfl rfl ?_
  refine px_iconst (v := nI 0) rfl k_0 ?_
  refine qx_putI (n := 5) rfl (by decide +kernel) rfl rfl ?_
  refine px_aload_n (kk := 0) rfl rfl rfl ?_
  refine px_iconst (v := -1) rfl k_m1 ?_
  refine qx_putI (n := 5) rfl (by decide +kernel) rfl rfl ?_
  refine px_aload_n (kk := 0) rfl rfl rfl ?_
  refine px_iconst (v := nI 0) rfl k_0 ?_
  refine qx_putI (n := 5) rfl (by decide +kernel) rfl rfl ?_
  refine px_aload_n (kk := 0) rfl rfl rfl ?_
  refine px_iconst (v := nI 0) rfl k_0 ?_
  refine qx_putI (n := 5) rfl (by decide +kernel) rfl rfl ?_
  refine px_return rfl rfl ?_
  exact ⟨rfl, rfl⟩
def kI_X11_init_0 (I : Nat → Nat → Int32) : Nat → Nat → Int32 := (kI_X7_init_63 (va_up (kI_X7_init_61 (va_up (kI_X7_init_59 (va_up (kI_X7_init_57 (va_up (kI_X7_init_55 (va_up (kI_X7_init_53 (va_up (va_up (kI_X0_init_49 (va_up (kI_X1_init_44 (va_up (kI_X2_init_34 (va_up (kI_X4_init_29 (va_up (kI_X10_init_24 (va_up (kI_X8_init_15 (va_up (kI_X5_init_11 (va_up (kI_X3_init_6 (va_up (kI_X9_init_1 (va_up I 1 (fun _ => 0))) 6 (fun _ => 0))) 11 (fun _ => 0))) 15 (fun _ => 0))) 24 (fun _ => 0))) 29 (fun _ => 0))) 34 (fun _ => 0))) 44 (fun _ => 0))) 49 (fun _ => 0))) 52 (fun _ => 0)) 53 (fun _ => 0))) 55 (fun _ => 0))) 57 (fun _ => 0))) 59 (fun _ => 0))) 61 (fun _ => 0))) 63 (fun _ => 0)))
def kJ_X11_init_0 (J : Nat → Nat → Int64) : Nat → Nat → Int64 := (kJ_X7_init_63 (va_up (kJ_X7_init_61 (va_up (kJ_X7_init_59 (va_up (kJ_X7_init_57 (va_up (kJ_X7_init_55 (va_up (kJ_X7_init_53 (va_up (va_up (kJ_X0_init_49 (va_up (kJ_X1_init_44 (va_up (kJ_X2_init_34 (va_up (kJ_X4_init_29 (va_up (kJ_X10_init_24 (va_up (kJ_X8_init_15 (va_up (kJ_X5_init_11 (va_up (kJ_X3_init_6 (va_up (kJ_X9_init_1 (va_up J 1 (fun _ => 0))) 6 (fun _ => 0))) 11 (fun _ => 0))) 15 (fun _ => 0))) 24 (fun _ => 0))) 29 (fun _ => 0))) 34 (fun _ => 0))) 44 (fun _ => 0))) 49 (fun _ => 0))) 52 (fun _ => 0)) 53 (fun _ => 0))) 55 (fun _ => 0))) 57 (fun _ => 0))) 59 (fun _ => 0))) 61 (fun _ => 0))) 63 (fun _ => 0)))
def kR_X11_init_0 (R : Nat → Nat → Option Nat) : Nat → Nat → Option Nat := (se2 (kR_X7_init_63 (va_up (se2 (kR_X7_init_61 (va_up (se2 (kR_X7_init_59 (va_up (se2 (kR_X7_init_57 (va_up (se2 (kR_X7_init_55 (va_up (se2 (kR_X7_init_53 (va_up (se2 (va_up (se2 (kR_X0_init_49 (va_up (se2 (kR_X1_init_44 (va_up (se2 (kR_X2_init_34 (va_up (se2 (kR_X4_init_29 (va_up (se2 (kR_X10_init_24 (va_up (se2 (kR_X8_init_15 (va_up (se2 (kR_X5_init_11 (va_up (se2 (kR_X3_init_6 (va_up (se2 (kR_X9_init_1 (va_up R 1 (fun _ => none))) 0 0 (some 1)) 6 (fun _ => none))) 0 1 (some 6)) 11 (fun _ => none))) 0 2 (some 11)) 15 (fun _ => none))) 0 3 (some 15)) 24 (fun _ => none))) 0 4 (some 24)) 29 (fun _ => none))) 0 5 (some 29)) 34 (fun _ => none))) 0 6 (some 34)) 44 (fun _ => none))) 0 7 (some 44)) 49 (fun _ => none))) 0 8 (some 49)) 52 (fun _ => none)) 0 9 (some 52)) 53 (fun _ => none))) 52 0 (some 53)) 55 (fun _ => none))) 52 1 (some 55)) 57 (fun _ => none))) 52 2 (some 57)) 59 (fun _ => none))) 52 3 (some 59)) 61 (fun _ => none))) 52 4 (some 61)) 63 (fun _ => none))) 52 5 (some 63))
set_option maxRecDepth 20000 in
theorem vI_X11_init_0 {I : Nat → Nat → Int32} {J : Nat → Nat → Int64} {R : Nat → Nat → Option Nat} {ro : List (Nat × Nat × (Nat → Int32))} : Pv 3 64 1789 CX11_init [.ref 0] (gS.take 1, I, J, R, ro) (qV (gS.take 65, kI_X11_init_0 I, kJ_X11_init_0 J, kR_X11_init_0 R, ro)) := by
  refine ⟨okCX11_init, Nat.le_of_ble_eq_true rfl, (show Px 3 64 1789 CX11_init 0 [some (.ref 0), none] [] _ _ from ?_)⟩
  refine px_aload_n (kk := 0) rfl rfl rfl ?_
  refine px_objinit rfl (Nat.le_of_ble_eq_true rfl) ?_
  refine px_aload_n (kk := 0) rfl rfl rfl ?_
  refine qx_new (mc := 63) (ms := 1782) (n := 7) (m0 := 1) (Sh2 := (gS.take 2)) rfl rfl (by decide) (by decide +kernel) (by decide +kernel) (by decide +kernel) ?_
  refine px_dup rfl rfl ?_
  refine px_callN (mc1 := 4) (ms1 := 88) (mc2 := 59) (ms2 := 1694) CX9_init [.ref 1, .ref 0] [] vI_X9_init_1 rfl rfl (.inl ⟨rfl, rfl, rfl⟩) rfl rfl rfl (Nat.le_of_ble_eq_true rfl) (by decide) ?_
  rintro _ _ - ⟨rfl, rfl⟩
  refine qx_putRF (n := 10) rfl (by decide +kernel) rfl rfl rfl rfl ?_
  refine px_aload_n (kk := 0) rfl rfl rfl ?_
  refine qx_new (mc := 58) (ms := 1680) (n := 14) (m0 := 6) (Sh2 := (gS.take 7)) rfl rfl (by decide) (by decide +kernel) (by decide +kernel) (by decide +kernel) ?_
  refine px_dup rfl rfl ?_
  refine px_aload_n (kk := 0) rfl rfl rfl ?_
  refine px_getR (r := 1) (n := 10) rfl (by decide +kernel) rfl rfl ?_
  refine px_callI (mc1 := 4) (ms1 := 752) (mc2 := 54) (ms2 := 928) CX3_init [.ref 6, .ref 0] [.ref 1] vI_X3_init_6 rfl rfl rfl rfl rfl (Nat.le_of_ble_eq_true rfl) (by decide) ?_
  rintro _ _ - ⟨rfl, rfl⟩
  refine qx_putRF (n := 10) rfl (by decide +kernel) rfl rfl rfl rfl ?_
  refine px_aload_n (kk := 0) rfl rfl rfl ?_
  refine qx_new (mc := 53) (ms := 923) (n := 5) (m0 := 11) (Sh2 := (gS.take 12)) rfl rfl (by decide) (by decide +kernel) (by decide +kernel) (by decide +kernel) ?_
  refine px_dup rfl rfl ?_
  refine px_aload_n (kk := 0) rfl rfl rfl ?_
  refine px_getR (r := 1) (n := 10) rfl (by decide +kernel) rfl rfl ?_
  refine px_aload_n (kk := 0) rfl rfl rfl ?_
  refine px_getR (r := 6) (n := 10) rfl (by decide +kernel) rfl rfl ?_
  refine px_callI (mc1 := 3) (ms1 := 80) (mc2 := 50) (ms2 := 843) CX5_init [.ref 11, .ref 0] [.ref 1, .ref 6] vI_X5_init_11 rfl rfl rfl rfl rfl (Nat.le_of_ble_eq_true rfl) (by decide) ?_
  rintro _ _ - ⟨rfl, rfl⟩
  refine qx_putRF (n := 10) rfl (by decide +kernel) rfl rfl rfl rfl ?_
  refine px_aload_n (kk := 0) rfl rfl rfl ?_
  refine qx_new (mc := 49) (ms := 835) (n := 8) (m0 := 15) (Sh2 := (gS.take 16)) rfl rfl (by decide) (by decide +kernel) (by decide +kernel) (by decide +kernel) ?_
  refine px_dup rfl rfl ?_
  refine px_aload_n (kk := 0) rfl rfl rfl ?_
  refine px_getR (r := 1) (n := 10) rfl (by decide +kernel) rfl rfl ?_
  refine px_aload_n (kk := 0) rfl rfl rfl ?_
  refine px_getR (r := 11) (n := 10) rfl (by decide +kernel) rfl rfl ?_
  refine px_callI (mc1 := 8) (ms1 := 54) (mc2 := 41) (ms2 := 781) CX8_init [.ref 15, .ref 0] [.ref 1, .ref 11] vI_X8_init_15 rfl rfl rfl rfl rfl (Nat.le_of_ble_eq_true rfl) (by decide) ?_
  rintro _ _ - ⟨rfl, rfl⟩
  refine qx_putRF (n := 10) rfl (by decide +kernel) rfl rfl rfl rfl ?_
  refine px_aload_n (kk := 0) rfl rfl rfl ?_
  refine qx_new (mc := 40) (ms := 771) (n := 10) (m0 := 24) (Sh2 := (gS.take 25)) rfl rfl (by decide) (by decide +kernel) (by decide +kernel) (by decide +kernel) ?_
  refine px_dup rfl rfl ?_
  refine px_aload_n (kk := 0) rfl rfl rfl ?_
  refine px_getR (r := 1) (n := 10) rfl (by decide +kernel) rfl rfl ?_
  refine px_aload_n (kk := 0) rfl rfl rfl ?_
  refine px_getR (r := 11) (n := 10) rfl (by decide +kernel) rfl rfl ?_
  refine px_callI (mc1 := 4) (ms1 := 32) (mc2 := 36) (ms2 := 739) CX10_init [.ref 24, .ref 0] [.ref 1, .ref 11] vI_X10_init_24 rfl rfl rfl rfl rfl (Nat.le_of_ble_eq_true rfl) (by decide) ?_
  rintro _ _ - ⟨rfl, rfl⟩
  refine qx_putRF (n := 10) rfl (by decide +kernel) rfl rfl rfl rfl ?_
  refine px_aload_n (kk := 0) rfl rfl rfl ?_
  refine qx_new (mc := 35) (ms := 730) (n := 9) (m0 := 29) (Sh2 := (gS.take 30)) rfl rfl (by decide) (by decide +kernel) (by decide +kernel) (by decide +kernel) ?_
  refine px_dup rfl rfl ?_
  refine px_aload_n (kk := 0) rfl rfl rfl ?_
  refine px_getR (r := 1) (n := 10) rfl (by decide +kernel) rfl rfl ?_
  refine px_aload_n (kk := 0) rfl rfl rfl ?_
  refine px_getR (r := 11) (n := 10) rfl (by decide +kernel) rfl rfl ?_
  refine px_callI (mc1 := 4) (ms1 := 25) (mc2 := 31) (ms2 := 705) CX4_init [.ref 29, .ref 0] [.ref 1, .ref 11] vI_X4_init_29 rfl rfl rfl rfl rfl (Nat.le_of_ble_eq_true rfl) (by decide) ?_
  rintro _ _ - ⟨rfl, rfl⟩
  refine qx_putRF (n := 10) rfl (by decide +kernel) rfl rfl rfl rfl ?_
  refine px_aload_n (kk := 0) rfl rfl rfl ?_
  refine qx_new (mc := 30) (ms := 696) (n := 9) (m0 := 34) (Sh2 := (gS.take 35)) rfl rfl (by decide) (by decide +kernel) (by decide +kernel) (by decide +kernel) ?_
  refine px_dup rfl rfl ?_
  refine px_aload_n (kk := 0) rfl rfl rfl ?_
  refine px_getR (r := 1) (n := 10) rfl (by decide +kernel) rfl rfl ?_
  refine px_aload_n (kk := 0) rfl rfl rfl ?_
  refine px_getR (r := 11) (n := 10) rfl (by decide +kernel) rfl rfl ?_
  refine px_callI (mc1 := 9) (ms1 := 54) (mc2 := 21) (ms2 := 642) CX2_init [.ref 34, .ref 0] [.ref 1, .ref 11] vI_X2_init_34 rfl rfl rfl rfl rfl (Nat.le_of_ble_eq_true rfl) (by decide) ?_
  rintro _ _ - ⟨rfl, rfl⟩
  refine qx_putRF (n := 10) rfl (by decide +kernel) rfl rfl rfl rfl ?_
  refine px_aload_n (kk := 0) rfl rfl rfl ?_
  refine qx_new (mc := 20) (ms := 635) (n := 7) (m0 := 44) (Sh2 := (gS.take 45)) rfl rfl (by decide) (by decide +kernel) (by decide +kernel) (by decide +kernel) ?_
  refine px_dup rfl rfl ?_
  refine px_aload_n (kk := 0) rfl rfl rfl ?_
  refine px_getR (r := 1) (n := 10) rfl (by decide +kernel) rfl rfl ?_
  refine px_callI (mc1 := 4) (ms1 := 160) (mc2 := 16) (ms2 := 475) CX1_init [.ref 44, .ref 0] [.ref 1] vI_X1_init_44 rfl rfl rfl rfl rfl (Nat.le_of_ble_eq_true rfl) (by decide) ?_
  rintro _ _ - ⟨rfl, rfl⟩
  refine qx_putRF (n := 10) rfl (by decide +kernel) rfl rfl rfl rfl ?_
  refine px_aload_n (kk := 0) rfl rfl rfl ?_
  refine qx_new (mc := 15) (ms := 470) (n := 5) (m0 := 49) (Sh2 := (gS.take 50)) rfl rfl (by decide) (by decide +kernel) (by decide +kernel) (by decide +kernel) ?_
  refine px_dup rfl rfl ?_
  refine px_callN (mc1 := 2) (ms1 := 74) (mc2 := 13) (ms2 := 396) CX0_init [.ref 49, .ref 0] [] vI_X0_init_49 rfl rfl (.inr (.inl ⟨rfl, rfl, rfl⟩)) rfl rfl rfl (Nat.le_of_ble_eq_true rfl) (by decide) ?_
  rintro _ _ - ⟨rfl, rfl⟩
  refine qx_putRF (n := 10) rfl (by decide +kernel) rfl rfl rfl rfl ?_
  refine px_aload_n (kk := 0) rfl rfl rfl ?_
  refine px_bipush (v := nI 6) rfl b_6 ?_
  refine qx_newQ (mc := 12) (ms := 390) (n := 6) (m0 := 52) (Sh2 := (gS.take 53)) rfl rfl (by decide) (by decide +kernel) (by decide +kernel) (by decide +kernel) ?_
  refine qx_putRF (n := 10) rfl (by decide +kernel) rfl rfl rfl rfl ?_
  refine px_iconst (v := nI 0) rfl k_0 ?_
  refine px_ist1 rfl rfl (by decide) ?_
  refine px_iload_n (kk := 1) rfl rfl rfl ?_
  refine px_bipush (v := nI 6) rfl b_6 ?_
  refine px_icmp_ge rfl (fun h => absurd h (by decide)) (fun _ => ?_)
  refine px_aload_n (kk := 0) rfl rfl rfl ?_
  refine px_getR (r := 52) (n := 10) rfl (by decide +kernel) rfl rfl ?_
  refine px_iload_n (kk := 1) rfl rfl rfl ?_
  refine qx_new (mc := 11) (ms := 385) (n := 5) (m0 := 53) (Sh2 := (gS.take 54)) rfl rfl (by decide) (by decide +kernel) (by decide +kernel) (by decide +kernel) ?_
  refine px_dup rfl rfl ?_
  refine px_callN (mc1 := 1) (ms1 := 60) (mc2 := 10) (ms2 := 325) CX7_init [.ref 53, .int (nI 0), .ref 52] [] vI_X7_init_53 rfl rfl (.inr (.inr ⟨rfl, rfl, rfl⟩)) rfl rfl rfl (Nat.le_of_ble_eq_true rfl) (by decide) ?_
  rintro _ _ - ⟨rfl, rfl⟩
  refine qx_aast (n := 6) (nv := 5) (j := 0) rfl (by decide +kernel) (by decide +kernel) rfl (by decide) ?_
  refine px_iinc1 (v := nI 1) rfl (n_inc 0) rfl (by decide) ?_
  refine px_goto rfl ?_
  refine px_iload_n (kk := 1) rfl rfl rfl ?_
  refine px_bipush (v := nI 6) rfl b_6 ?_
  refine px_icmp_ge rfl (fun h => absurd h (by decide)) (fun _ => ?_)
  refine px_aload_n (kk := 0) rfl rfl rfl ?_
  refine px_getR (r := 52) (n := 10) rfl (by decide +kernel) rfl rfl ?_
  refine px_iload_n (kk := 1) rfl rfl rfl ?_
  refine qx_new (mc := 9) (ms := 320) (n := 5) (m0 := 55) (Sh2 := (gS.take 56)) rfl rfl (by decide) (by decide +kernel) (by decide +kernel) (by decide +kernel) ?_
  refine px_dup rfl rfl ?_
  refine px_callN (mc1 := 1) (ms1 := 60) (mc2 := 8) (ms2 := 260) CX7_init [.ref 55, .int (nI 1), .ref 52] [] vI_X7_init_55 rfl rfl (.inr (.inr ⟨rfl, rfl, rfl⟩)) rfl rfl rfl (Nat.le_of_ble_eq_true rfl) (by decide) ?_
  rintro _ _ - ⟨rfl, rfl⟩
  refine qx_aast (n := 6) (nv := 5) (j := 1) rfl (by decide +kernel) (by decide +kernel) rfl (by decide) ?_
  refine px_iinc1 (v := nI 2) rfl (n_inc 1) rfl (by decide) ?_
  refine px_goto rfl ?_
  refine px_iload_n (kk := 1) rfl rfl rfl ?_
  refine px_bipush (v := nI 6) rfl b_6 ?_
  refine px_icmp_ge rfl (fun h => absurd h (by decide)) (fun _ => ?_)
  refine px_aload_n (kk := 0) rfl rfl rfl ?_
  refine px_getR (r := 52) (n := 10) rfl (by decide +kernel) rfl rfl ?_
  refine px_iload_n (kk := 1) rfl rfl rfl ?_
  refine qx_new (mc := 7) (ms := 255) (n := 5) (m0 := 57) (Sh2 := (gS.take 58)) rfl rfl (by decide) (by decide +kernel) (by decide +kernel) (by decide +kernel) ?_
  refine px_dup rfl rfl ?_
  refine px_callN (mc1 := 1) (ms1 := 60) (mc2 := 6) (ms2 := 195) CX7_init [.ref 57, .int (nI 2), .ref 52] [] vI_X7_init_57 rfl rfl (.inr (.inr ⟨rfl, rfl, rfl⟩)) rfl rfl rfl (Nat.le_of_ble_eq_true rfl) (by decide) ?_
  rintro _ _ - ⟨rfl, rfl⟩
  refine qx_aast (n := 6) (nv := 5) (j := 2) rfl (by decide +kernel) (by decide +kernel) rfl (by decide) ?_
  refine px_iinc1 (v := nI 3) rfl (n_inc 2) rfl (by decide) ?_
  refine px_goto rfl ?_
  refine px_iload_n (kk := 1) rfl rfl rfl ?_
  refine px_bipush (v := nI 6) rfl b_6 ?_
  refine px_icmp_ge rfl (fun h => absurd h (by decide)) (fun _ => ?_)
  refine px_aload_n (kk := 0) rfl rfl rfl ?_
  refine px_getR (r := 52) (n := 10) rfl (by decide +kernel) rfl rfl ?_
  refine px_iload_n (kk := 1) rfl rfl rfl ?_
  refine qx_new (mc := 5) (ms := 190) (n := 5) (m0 := 59) (Sh2 := (gS.take 60)) rfl rfl (by decide) (by decide +kernel) (by decide +kernel) (by decide +kernel) ?_
  refine px_dup rfl rfl ?_
  refine px_callN (mc1 := 1) (ms1 := 60) (mc2 := 4) (ms2 := 130) CX7_init [.ref 59, .int (nI 3), .ref 52] [] vI_X7_init_59 rfl rfl (.inr (.inr ⟨rfl, rfl, rfl⟩)) rfl rfl rfl (Nat.le_of_ble_eq_true rfl) (by decide) ?_
  rintro _ _ - ⟨rfl, rfl⟩
  refine qx_aast (n := 6) (nv := 5) (j := 3) rfl (by decide +kernel) (by decide +kernel) rfl (by decide) ?_
  refine px_iinc1 (v := nI 4) rfl (n_inc 3) rfl (by decide) ?_
  refine px_goto rfl ?_
  refine px_iload_n (kk := 1) rfl rfl rfl ?_
  refine px_bipush (v := nI 6) rfl b_6 ?_
  refine px_icmp_ge rfl (fun h => absurd h (by decide)) (fun _ => ?_)
  refine px_aload_n (kk := 0) rfl rfl rfl ?_
  refine px_getR (r := 52) (n := 10) rfl (by decide +kernel) rfl rfl ?_
  refine px_iload_n (kk := 1) rfl rfl rfl ?_
  refine qx_new (mc := 3) (ms := 125) (n := 5) (m0 := 61) (Sh2 := (gS.take 62)) rfl rfl (by decide) (by decide +kernel) (by decide +kernel) (by decide +kernel) ?_
  refine px_dup rfl rfl ?_
  refine px_callN (mc1 := 1) (ms1 := 60) (mc2 := 2) (ms2 := 65) CX7_init [.ref 61, .int (nI 4), .ref 52] [] vI_X7_init_61 rfl rfl (.inr (.inr ⟨rfl, rfl, rfl⟩)) rfl rfl rfl (Nat.le_of_ble_eq_true rfl) (by decide) ?_
  rintro _ _ - ⟨rfl, rfl⟩
  refine qx_aast (n := 6) (nv := 5) (j := 4) rfl (by decide +kernel) (by decide +kernel) rfl (by decide) ?_
  refine px_iinc1 (v := nI 5) rfl (n_inc 4) rfl (by decide) ?_
  refine px_goto rfl ?_
  refine px_iload_n (kk := 1) rfl rfl rfl ?_
  refine px_bipush (v := nI 6) rfl b_6 ?_
  refine px_icmp_ge rfl (fun h => absurd h (by decide)) (fun _ => ?_)
  refine px_aload_n (kk := 0) rfl rfl rfl ?_
  refine px_getR (r := 52) (n := 10) rfl (by decide +kernel) rfl rfl ?_
  refine px_iload_n (kk := 1) rfl rfl rfl ?_
  refine qx_new (mc := 1) (ms := 60) (n := 5) (m0 := 63) (Sh2 := (gS.take 64)) rfl rfl (by decide) (by decide +kernel) (by decide +kernel) (by decide +kernel) ?_
  refine px_dup rfl rfl ?_
  refine px_callN (mc1 := 1) (ms1 := 60) (mc2 := 0) (ms2 := 0) CX7_init [.ref 63, .int (nI 5), .ref 52] [] vI_X7_init_63 rfl rfl (.inr (.inr ⟨rfl, rfl, rfl⟩)) rfl rfl rfl (Nat.le_of_ble_eq_true rfl) (by decide) ?_
  rintro _ _ - ⟨rfl, rfl⟩
  refine qx_aast (n := 6) (nv := 5) (j := 5) rfl (by decide +kernel) (by decide +kernel) rfl (by decide) ?_
  refine px_iinc1 (v := nI 6) rfl (n_inc 5) rfl (by decide) ?_
  refine px_goto rfl ?_
  refine px_iload_n (kk := 1) rfl rfl rfl ?_
  refine px_bipush (v := nI 6) rfl b_6 ?_
  refine px_icmp_ge rfl (fun _ => ?_) (fun h => absurd h (by decide))
  refine px_return rfl rfl ?_
  exact ⟨rfl, rfl⟩
def kI_X12_init_65 (I : Nat → Nat → Int32) : Nat → Nat → Int32 := (va_up (va_up (va_up (se2 (se2 (se2 (se2 (se2 (se2 (va_up (va_up (va_up (va_up (va_up (va_up (va_up (va_up (va_up (va_up (va_up (va_up (va_up (va_up (va_up (va_up (va_up (va_up (va_up (va_up (va_up (va_up (va_up (va_up (va_up (va_up (va_up (va_up (va_up (se2 (se2 (va_up (va_up (va_up (va_up I 66 (fun _ => 0)) 67 (fun _ => 0)) 68 (fun _ => 0)) 69 (fun _ => 0)) 65 6 (nI 2)) 65 7 (nI 2)) 70 (fun _ => 0)) 71 (fun _ => 0)) 72 (fun _ => 0)) 73 (fun _ => 0)) 74 (fun _ => 0)) 75 (fun _ => 0)) 76 (fun _ => 0)) 77 (fun _ => 0)) 78 (fun _ => 0)) 79 (fun _ => 0)) 80 (fun _ => 0)) 81 (fun _ => 0)) 82 (fun _ => 0)) 83 (fun _ => 0)) 84 (fun _ => 0)) 85 (fun _ => 0)) 86 (fun _ => 0)) 87 (fun _ => 0)) 88 (fun _ => 0)) 89 (fun _ => 0)) 90 (fun _ => 0)) 91 (fun _ => 0)) 92 (fun _ => 0)) 93 (fun _ => 0)) 94 (fun _ => 0)) 95 (fun _ => 0)) 96 (fun _ => 0)) 97 (fun _ => 0)) 98 (fun _ => 0)) 98 0 (-1)) 98 1 (-1)) 98 2 (-1)) 98 3 (-1)) 98 4 (-1)) 98 5 (-1)) 99 (fun _ => 0)) 100 (fun _ => 0)) 101 (fun _ => 0))
def kJ_X12_init_65 (J : Nat → Nat → Int64) : Nat → Nat → Int64 := (va_up (va_up (va_up (va_up (va_up (va_up (va_up (va_up (va_up (va_up (va_up (va_up (va_up (va_up (va_up (va_up (va_up (va_up (va_up (va_up (va_up (va_up (va_up (va_up (va_up (va_up (va_up (va_up (va_up (va_up (va_up (va_up (va_up (va_up (va_up (va_up J 66 (fun _ => 0)) 67 (fun _ => 0)) 68 (fun _ => 0)) 69 (fun _ => 0)) 70 (fun _ => 0)) 71 (fun _ => 0)) 72 (fun _ => 0)) 73 (fun _ => 0)) 74 (fun _ => 0)) 75 (fun _ => 0)) 76 (fun _ => 0)) 77 (fun _ => 0)) 78 (fun _ => 0)) 79 (fun _ => 0)) 80 (fun _ => 0)) 81 (fun _ => 0)) 82 (fun _ => 0)) 83 (fun _ => 0)) 84 (fun _ => 0)) 85 (fun _ => 0)) 86 (fun _ => 0)) 87 (fun _ => 0)) 88 (fun _ => 0)) 89 (fun _ => 0)) 90 (fun _ => 0)) 91 (fun _ => 0)) 92 (fun _ => 0)) 93 (fun _ => 0)) 94 (fun _ => 0)) 95 (fun _ => 0)) 96 (fun _ => 0)) 97 (fun _ => 0)) 98 (fun _ => 0)) 99 (fun _ => 0)) 100 (fun _ => 0)) 101 (fun _ => 0))
def kR_X12_init_65 (R : Nat → Nat → Option Nat) : Nat → Nat → Option Nat := (se2 (va_up (se2 (va_up (se2 (va_up (se2 (va_up (se2 (va_up (se2 (va_up (se2 (va_up (se2 (va_up (se2 (va_up (se2 (va_up (se2 (va_up (se2 (va_up (se2 (va_up (se2 (va_up (se2 (va_up (se2 (va_up (se2 (va_up (se2 (va_up (se2 (va_up (se2 (va_up (se2 (va_up (se2 (va_up (se2 (va_up (se2 (va_up (se2 (va_up (se2 (va_up (se2 (va_up (se2 (va_up (se2 (va_up (se2 (va_up (se2 (va_up (se2 (va_up (se2 (va_up (se2 (va_up (se2 (va_up (se2 (va_up R 66 (fun _ => none)) 65 2 (some 66)) 67 (fun _ => none)) 65 3 (some 67)) 68 (fun _ => none)) 65 4 (some 68)) 69 (fun _ => none)) 65 5 (some 69)) 70 (fun _ => none)) 65 8 (some 70)) 71 (fun _ => none)) 65 9 (some 71)) 72 (fun _ => none)) 65 12 (some 72)) 73 (fun _ => none)) 65 13 (some 73)) 74 (fun _ => none)) 65 14 (some 74)) 75 (fun _ => none)) 65 15 (some 75)) 76 (fun _ => none)) 65 16 (some 76)) 77 (fun _ => none)) 65 22 (some 77)) 78 (fun _ => none)) 65 23 (some 78)) 79 (fun _ => none)) 65 24 (some 79)) 80 (fun _ => none)) 65 25 (some 80)) 81 (fun _ => none)) 65 26 (some 81)) 82 (fun _ => none)) 65 27 (some 82)) 83 (fun _ => none)) 65 28 (some 83)) 84 (fun _ => none)) 65 30 (some 84)) 85 (fun _ => none)) 65 31 (some 85)) 86 (fun _ => none)) 65 32 (some 86)) 87 (fun _ => none)) 65 33 (some 87)) 88 (fun _ => none)) 65 37 (some 88)) 89 (fun _ => none)) 65 42 (some 89)) 90 (fun _ => none)) 65 43 (some 90)) 91 (fun _ => none)) 65 48 (some 91)) 92 (fun _ => none)) 65 51 (some 92)) 93 (fun _ => none)) 65 52 (some 93)) 94 (fun _ => none)) 65 53 (some 94)) 95 (fun _ => none)) 65 54 (some 95)) 96 (fun _ => none)) 65 56 (some 96)) 97 (fun _ => none)) 65 58 (some 97)) 98 (fun _ => none)) 65 59 (some 98)) 99 (fun _ => none)) 65 60 (some 99)) 100 (fun _ => none)) 65 61 (some 100)) 101 (fun _ => none)) 65 62 (some 101))
set_option maxRecDepth 20000 in
theorem vI_X12_init_65 {I : Nat → Nat → Int32} {J : Nat → Nat → Int64} {R : Nat → Nat → Option Nat} {ro : List (Nat × Nat × (Nat → Int32))} : Pv 0 36 1880 CX12_init [.ref 65] (gS.take 66, I, J, R, ro) (qV (gS.take 102, kI_X12_init_65 I, kJ_X12_init_65 J, kR_X12_init_65 R, ro)) := by
  refine ⟨okCX12_init, Nat.le_of_ble_eq_true rfl, (show Px 0 36 1880 CX12_init 0 [some (.ref 65)] [] _ _ from ?_)⟩
  refine px_aload_n (kk := 0) rfl rfl rfl ?_
  refine px_objinit rfl (Nat.le_of_ble_eq_true rfl) ?_
  refine px_aload_n (kk := 0) rfl rfl rfl ?_
  refine px_bipush (v := nI 8) rfl b_8 ?_
  refine qx_newI (mc := 35) (ms := 1872) (n := 8) (m0 := 66) (Sh2 := (gS.take 67)) rfl (by decide) rfl (by decide) (by decide +kernel) (by decide +kernel) (by decide +kernel) ?_
  refine qx_putRF (n := 63) rfl (by decide +kernel) rfl rfl rfl rfl ?_
  refine px_aload_n (kk := 0) rfl rfl rfl ?_
  refine px_bipush (v := nI 8) rfl b_8 ?_
  refine qx_newI (mc := 34) (ms := 1864) (n := 8) (m0 := 67) (Sh2 := (gS.take 68)) rfl (by decide) rfl (by decide) (by decide +kernel) (by decide +kernel) (by decide +kernel) ?_
  refine qx_putRF (n := 63) rfl (by decide +kernel) rfl rfl rfl rfl ?_
  refine px_aload_n (kk := 0) rfl rfl rfl ?_
  refine px_bipush (v := nI 8) rfl b_8 ?_
  refine qx_newI (mc := 33) (ms := 1856) (n := 8) (m0 := 68) (Sh2 := (gS.take 69)) rfl (by decide) rfl (by decide) (by decide +kernel) (by decide +kernel) (by decide +kernel) ?_
  refine qx_putRF (n := 63) rfl (by decide +kernel) rfl rfl rfl rfl ?_
  refine px_aload_n (kk := 0) rfl rfl rfl ?_
  refine px_bipush (v := nI 64) rfl b_64 ?_
  refine qx_newI (mc := 32) (ms := 1792) (n := 64) (m0 := 69) (Sh2 := (gS.take 70)) rfl (by decide) rfl (by decide) (by decide +kernel) (by decide +kernel) (by decide +kernel) ?_
  refine qx_putRF (n := 63) rfl (by decide +kernel) rfl rfl rfl rfl ?_
  refine px_aload_n (kk := 0) rfl rfl rfl ?_
  refine px_iconst (v := nI 2) rfl k_2 ?_
  refine qx_putI (n := 63) rfl (by decide +kernel) rfl rfl ?_
  refine px_aload_n (kk := 0) rfl rfl rfl ?_
  refine px_iconst (v := nI 2) rfl k_2 ?_
  refine qx_putI (n := 63) rfl (by decide +kernel) rfl rfl ?_
  refine px_aload_n (kk := 0) rfl rfl rfl ?_
  refine px_bipush (v := nI 8) rfl b_8 ?_
  refine qx_newI (mc := 31) (ms := 1784) (n := 8) (m0 := 70) (Sh2 := (gS.take 71)) rfl (by decide) rfl (by decide) (by decide +kernel) (by decide +kernel) (by decide +kernel) ?_
  refine qx_putRF (n := 63) rfl (by decide +kernel) rfl rfl rfl rfl ?_
  refine px_aload_n (kk := 0) rfl rfl rfl ?_
  refine px_bipush (v := nI 8) rfl b_8 ?_
  refine qx_newI (mc := 30) (ms := 1776) (n := 8) (m0 := 71) (Sh2 := (gS.take 72)) rfl (by decide) rfl (by decide) (by decide +kernel) (by decide +kernel) (by decide +kernel) ?_
  refine qx_putRF (n := 63) rfl (by decide +kernel) rfl rfl rfl rfl ?_
  refine px_aload_n (kk := 0) rfl rfl rfl ?_
  refine px_bipush (v := nI 40) rfl b_40 ?_
  refine qx_newI (mc := 29) (ms := 1736) (n := 40) (m0 := 72) (Sh2 := (gS.take 73)) rfl (by decide) rfl (by decide) (by decide +kernel) (by decide +kernel) (by decide +kernel) ?_
  refine qx_putRF (n := 63) rfl (by decide +kernel) rfl rfl rfl rfl ?_
  refine px_aload_n (kk := 0) rfl rfl rfl ?_
  refine px_bipush (v := nI 40) rfl b_40 ?_
  refine qx_newI (mc := 28) (ms := 1696) (n := 40) (m0 := 73) (Sh2 := (gS.take 74)) rfl (by decide) rfl (by decide) (by decide +kernel) (by decide +kernel) (by decide +kernel) ?_
  refine qx_putRF (n := 63) rfl (by decide +kernel) rfl rfl rfl rfl ?_
  refine px_aload_n (kk := 0) rfl rfl rfl ?_
  refine px_bipush (v := nI 40) rfl b_40 ?_
  refine qx_newI (mc := 27) (ms := 1656) (n := 40) (m0 := 74) (Sh2 := (gS.take 75)) rfl (by decide) rfl (by decide) (by decide +kernel) (by decide +kernel) (by decide +kernel) ?_
  refine qx_putRF (n := 63) rfl (by decide +kernel) rfl rfl rfl rfl ?_
  refine px_aload_n (kk := 0) rfl rfl rfl ?_
  refine px_bipush (v := nI 40) rfl b_40 ?_
  refine qx_newI (mc := 26) (ms := 1616) (n := 40) (m0 := 75) (Sh2 := (gS.take 76)) rfl (by decide) rfl (by decide) (by decide +kernel) (by decide +kernel) (by decide +kernel) ?_
  refine qx_putRF (n := 63) rfl (by decide +kernel) rfl rfl rfl rfl ?_
  refine px_aload_n (kk := 0) rfl rfl rfl ?_
  refine px_bipush (v := nI 120) rfl b_120 ?_
  refine qx_newI (mc := 25) (ms := 1496) (n := 120) (m0 := 76) (Sh2 := (gS.take 77)) rfl (by decide) rfl (by decide) (by decide +kernel) (by decide +kernel) (by decide +kernel) ?_
  refine qx_putRF (n := 63) rfl (by decide +kernel) rfl rfl rfl rfl ?_
  refine px_aload_n (kk := 0) rfl rfl rfl ?_
  refine px_sipush (v := nI 260) rfl s_260 ?_
  refine qx_newI (mc := 24) (ms := 1236) (n := 260) (m0 := 77) (Sh2 := (gS.take 78)) rfl (by decide) rfl (by decide) (by decide +kernel) (by decide +kernel) (by decide +kernel) ?_
  refine qx_putRF (n := 63) rfl (by decide +kernel) rfl rfl rfl rfl ?_
  refine px_aload_n (kk := 0) rfl rfl rfl ?_
  refine px_sipush (v := nI 260) rfl s_260 ?_
  refine qx_newI (mc := 23) (ms := 976) (n := 260) (m0 := 78) (Sh2 := (gS.take 79)) rfl (by decide) rfl (by decide) (by decide +kernel) (by decide +kernel) (by decide +kernel) ?_
  refine qx_putRF (n := 63) rfl (by decide +kernel) rfl rfl rfl rfl ?_
  refine px_aload_n (kk := 0) rfl rfl rfl ?_
  refine px_iconst (v := nI 2) rfl k_2 ?_
  refine qx_newI (mc := 22) (ms := 974) (n := 2) (m0 := 79) (Sh2 := (gS.take 80)) rfl (by decide) rfl (by decide) (by decide +kernel) (by decide +kernel) (by decide +kernel) ?_
  refine qx_putRF (n := 63) rfl (by decide +kernel) rfl rfl rfl rfl ?_
  refine px_aload_n (kk := 0) rfl rfl rfl ?_
  refine px_bipush (v := nI 122) rfl b_122 ?_
  refine qx_newI (mc := 21) (ms := 852) (n := 122) (m0 := 80) (Sh2 := (gS.take 81)) rfl (by decide) rfl (by decide) (by decide +kernel) (by decide +kernel) (by decide +kernel) ?_
  refine qx_putRF (n := 63) rfl (by decide +kernel) rfl rfl rfl rfl ?_
  refine px_aload_n (kk := 0) rfl rfl rfl ?_
  refine px_bipush (v := nI 122) rfl b_122 ?_
  refine qx_newI (mc := 20) (ms := 730) (n := 122) (m0 := 81) (Sh2 := (gS.take 82)) rfl (by decide) rfl (by decide) (by decide +kernel) (by decide +kernel) (by decide +kernel) ?_
  refine qx_putRF (n := 63) rfl (by decide +kernel) rfl rfl rfl rfl ?_
  refine px_aload_n (kk := 0) rfl rfl rfl ?_
  refine px_bipush (v := nI 6) rfl b_6 ?_
  refine qx_newI (mc := 19) (ms := 724) (n := 6) (m0 := 82) (Sh2 := (gS.take 83)) rfl (by decide) rfl (by decide) (by decide +kernel) (by decide +kernel) (by decide +kernel) ?_
  refine qx_putRF (n := 63) rfl (by decide +kernel) rfl rfl rfl rfl ?_
  refine px_aload_n (kk := 0) rfl rfl rfl ?_
  refine px_sipush (v := nI 130) rfl s_130 ?_
  refine qx_newI (mc := 18) (ms := 594) (n := 130) (m0 := 83) (Sh2 := (gS.take 84)) rfl (by decide) rfl (by decide) (by decide +kernel) (by decide +kernel) (by decide +kernel) ?_
  refine qx_putRF (n := 63) rfl (by decide +kernel) rfl rfl rfl rfl ?_
  refine px_aload_n (kk := 0) rfl rfl rfl ?_
  refine px_bipush (v := nI 8) rfl b_8 ?_
  refine qx_newI (mc := 17) (ms := 586) (n := 8) (m0 := 84) (Sh2 := (gS.take 85)) rfl (by decide) rfl (by decide) (by decide +kernel) (by decide +kernel) (by decide +kernel) ?_
  refine qx_putRF (n := 63) rfl (by decide +kernel) rfl rfl rfl rfl ?_
  refine px_aload_n (kk := 0) rfl rfl rfl ?_
  refine px_bipush (v := nI 8) rfl b_8 ?_
  refine qx_newI (mc := 16) (ms := 578) (n := 8) (m0 := 85) (Sh2 := (gS.take 86)) rfl (by decide) rfl (by decide) (by decide +kernel) (by decide +kernel) (by decide +kernel) ?_
  refine qx_putRF (n := 63) rfl (by decide +kernel) rfl rfl rfl rfl ?_
  refine px_aload_n (kk := 0) rfl rfl rfl ?_
  refine px_bipush (v := nI 8) rfl b_8 ?_
  refine qx_newI (mc := 15) (ms := 570) (n := 8) (m0 := 86) (Sh2 := (gS.take 87)) rfl (by decide) rfl (by decide) (by decide +kernel) (by decide +kernel) (by decide +kernel) ?_
  refine qx_putRF (n := 63) rfl (by decide +kernel) rfl rfl rfl rfl ?_
  refine px_aload_n (kk := 0) rfl rfl rfl ?_
  refine px_bipush (v := nI 8) rfl b_8 ?_
  refine qx_newI (mc := 14) (ms := 562) (n := 8) (m0 := 87) (Sh2 := (gS.take 88)) rfl (by decide) rfl (by decide) (by decide +kernel) (by decide +kernel) (by decide +kernel) ?_
  refine qx_putRF (n := 63) rfl (by decide +kernel) rfl rfl rfl rfl ?_
  refine px_aload_n (kk := 0) rfl rfl rfl ?_
  refine px_bipush (v := nI 8) rfl b_8 ?_
  refine qx_newI (mc := 13) (ms := 554) (n := 8) (m0 := 88) (Sh2 := (gS.take 89)) rfl (by decide) rfl (by decide) (by decide +kernel) (by decide +kernel) (by decide +kernel) ?_
  refine qx_putRF (n := 63) rfl (by decide +kernel) rfl rfl rfl rfl ?_
  refine px_aload_n (kk := 0) rfl rfl rfl ?_
  refine px_bipush (v := nI 8) rfl b_8 ?_
  refine qx_newI (mc := 12) (ms := 546) (n := 8) (m0 := 89) (Sh2 := (gS.take 90)) rfl (by decide) rfl (by decide) (by decide +kernel) (by decide +kernel) (by decide +kernel) ?_
  refine qx_putRF (n := 63) rfl (by decide +kernel) rfl rfl rfl rfl ?_
  refine px_aload_n (kk := 0) rfl rfl rfl ?_
  refine px_bipush (v := nI 8) rfl b_8 ?_
  refine qx_newI (mc := 11) (ms := 538) (n := 8) (m0 := 90) (Sh2 := (gS.take 91)) rfl (by decide) rfl (by decide) (by decide +kernel) (by decide +kernel) (by decide +kernel) ?_
  refine qx_putRF (n := 63) rfl (by decide +kernel) rfl rfl rfl rfl ?_
  refine px_aload_n (kk := 0) rfl rfl rfl ?_
  refine px_iconst (v := nI 4) rfl k_4 ?_
  refine qx_newI (mc := 10) (ms := 534) (n := 4) (m0 := 91) (Sh2 := (gS.take 92)) rfl (by decide) rfl (by decide) (by decide +kernel) (by decide +kernel) (by decide +kernel) ?_
  refine qx_putRF (n := 63) rfl (by decide +kernel) rfl rfl rfl rfl ?_
  refine px_aload_n (kk := 0) rfl rfl rfl ?_
  refine px_bipush (v := nI 8) rfl b_8 ?_
  refine qx_newI (mc := 9) (ms := 526) (n := 8) (m0 := 92) (Sh2 := (gS.take 93)) rfl (by decide) rfl (by decide) (by decide +kernel) (by decide +kernel) (by decide +kernel) ?_
  refine qx_putRF (n := 63) rfl (by decide +kernel) rfl rfl rfl rfl ?_
  refine px_aload_n (kk := 0) rfl rfl rfl ?_
  refine px_bipush (v := nI 8) rfl b_8 ?_
  refine qx_newI (mc := 8) (ms := 518) (n := 8) (m0 := 93) (Sh2 := (gS.take 94)) rfl (by decide) rfl (by decide) (by decide +kernel) (by decide +kernel) (by decide +kernel) ?_
  refine qx_putRF (n := 63) rfl (by decide +kernel) rfl rfl rfl rfl ?_
  refine px_aload_n (kk := 0) rfl rfl rfl ?_
  refine px_bipush (v := nI 8) rfl b_8 ?_
  refine qx_newI (mc := 7) (ms := 510) (n := 8) (m0 := 94) (Sh2 := (gS.take 95)) rfl (by decide) rfl (by decide) (by decide +kernel) (by decide +kernel) (by decide +kernel) ?_
  refine qx_putRF (n := 63) rfl (by decide +kernel) rfl rfl rfl rfl ?_
  refine px_aload_n (kk := 0) rfl rfl rfl ?_
  refine px_iconst (v := nI 4) rfl k_4 ?_
  refine qx_newI (mc := 6) (ms := 506) (n := 4) (m0 := 95) (Sh2 := (gS.take 96)) rfl (by decide) rfl (by decide) (by decide +kernel) (by decide +kernel) (by decide +kernel) ?_
  refine qx_putRF (n := 63) rfl (by decide +kernel) rfl rfl rfl rfl ?_
  refine px_aload_n (kk := 0) rfl rfl rfl ?_
  refine px_bipush (v := nI 50) rfl b_50 ?_
  refine qx_newI (mc := 5) (ms := 456) (n := 50) (m0 := 96) (Sh2 := (gS.take 97)) rfl (by decide) rfl (by decide) (by decide +kernel) (by decide +kernel) (by decide +kernel) ?_
  refine qx_putRF (n := 63) rfl (by decide +kernel) rfl rfl rfl rfl ?_
  refine px_aload_n (kk := 0) rfl rfl rfl ?_
  refine px_bipush (v := nI 24) rfl b_24 ?_
  refine qx_newI (mc := 4) (ms := 432) (n := 24) (m0 := 97) (Sh2 := (gS.take 98)) rfl (by decide) rfl (by decide) (by decide +kernel) (by decide +kernel) (by decide +kernel) ?_
  refine qx_putRF (n := 63) rfl (by decide +kernel) rfl rfl rfl rfl ?_
  refine px_aload_n (kk := 0) rfl rfl rfl ?_
  refine px_bipush (v := nI 6) rfl b_6 ?_
  refine qx_newI (mc := 3) (ms := 426) (n := 6) (m0 := 98) (Sh2 := (gS.take 99)) rfl (by decide) rfl (by decide) (by decide +kernel) (by decide +kernel) (by decide +kernel) ?_
  refine px_dup rfl rfl ?_
  refine px_iconst (v := nI 0) rfl k_0 ?_
  refine px_iconst (v := -1) rfl k_m1 ?_
  refine qx_iast (n := 6) (j := 0) rfl (by decide +kernel) rfl (by decide) ?_
  refine px_dup rfl rfl ?_
  refine px_iconst (v := nI 1) rfl k_1 ?_
  refine px_iconst (v := -1) rfl k_m1 ?_
  refine qx_iast (n := 6) (j := 1) rfl (by decide +kernel) rfl (by decide) ?_
  refine px_dup rfl rfl ?_
  refine px_iconst (v := nI 2) rfl k_2 ?_
  refine px_iconst (v := -1) rfl k_m1 ?_
  refine qx_iast (n := 6) (j := 2) rfl (by decide +kernel) rfl (by decide) ?_
  refine px_dup rfl rfl ?_
  refine px_iconst (v := nI 3) rfl k_3 ?_
  refine px_iconst (v := -1) rfl k_m1 ?_
  refine qx_iast (n := 6) (j := 3) rfl (by decide +kernel) rfl (by decide) ?_
  refine px_dup rfl rfl ?_
  refine px_iconst (v := nI 4) rfl k_4 ?_
  refine px_iconst (v := -1) rfl k_m1 ?_
  refine qx_iast (n := 6) (j := 4) rfl (by decide +kernel) rfl (by decide) ?_
  refine px_dup rfl rfl ?_
  refine px_iconst (v := nI 5) rfl k_5 ?_
  refine px_iconst (v := -1) rfl k_m1 ?_
  refine qx_iast (n := 6) (j := 5) rfl (by decide +kernel) rfl (by decide) ?_
  refine qx_putRF (n := 63) rfl (by decide +kernel) rfl rfl rfl rfl ?_
  refine px_aload_n (kk := 0) rfl rfl rfl ?_
  refine px_bipush (v := nI 6) rfl b_6 ?_
  refine qx_newI (mc := 2) (ms := 420) (n := 6) (m0 := 99) (Sh2 := (gS.take 100)) rfl (by decide) rfl (by decide) (by decide +kernel) (by decide +kernel) (by decide +kernel) ?_
  refine qx_putRF (n := 63) rfl (by decide +kernel) rfl rfl rfl rfl ?_
  refine px_aload_n (kk := 0) rfl rfl rfl ?_
  refine px_sipush (v := nI 360) rfl s_360 ?_
  refine qx_newL (mc := 1) (ms := 60) (n := 360) (m0 := 100) (Sh2 := (gS.take 101)) rfl rfl (by decide) (by decide +kernel) (by decide +kernel) (by decide +kernel) ?_
  refine qx_putRF (n := 63) rfl (by decide +kernel) rfl rfl rfl rfl ?_
  refine px_aload_n (kk := 0) rfl rfl rfl ?_
  refine px_bipush (v := nI 60) rfl b_60 ?_
  refine qx_newL (mc := 0) (ms := 0) (n := 60) (m0 := 101) (Sh2 := (gS.take 102)) rfl rfl (by decide) (by decide +kernel) (by decide +kernel) (by decide +kernel) ?_
  refine qx_putRF (n := 63) rfl (by decide +kernel) rfl rfl rfl rfl ?_
  refine px_return rfl rfl ?_
  exact ⟨rfl, rfl⟩
/-- what is there when both are made -/
def iI : Nat → Nat → Int32 := (kI_X12_init_65 (va_up (kI_X11_init_0 (va_up (fun _ _ => 0) 0 (fun _ => 0))) 65 (fun _ => 0)))
def iJ : Nat → Nat → Int64 := (kJ_X12_init_65 (va_up (kJ_X11_init_0 (va_up (fun _ _ => 0) 0 (fun _ => 0))) 65 (fun _ => 0)))
def iR : Nat → Nat → Option Nat := (kR_X12_init_65 (va_up (kR_X11_init_0 (va_up (fun _ _ => none) 0 (fun _ => none))) 65 (fun _ => none)))
set_option maxRecDepth 20000 in
theorem law_mk {ro : List (Nat × Nat × (Nat → Int32))} {Q : Option Value → pm_M → Prop} (kk : Px 61 0 0 CL_law 10 [some (.ref 1002), some (.ref 0), some (.ref 65), some (.int (nI 0))] [] (gS.take 102, iI, iJ, iR, ro) Q) : Px 61 102 3742 CL_law 0 [some (.ref 1002), none, none, none] [] (gS.take 0, fun _ _ => 0, fun _ _ => 0, fun _ _ => none, ro) Q := by
  refine qx_new (mc := 101) (ms := 3732) (n := 10) (m0 := 0) (Sh2 := (gS.take 1)) rfl rfl (by decide) (by decide +kernel) (by decide +kernel) (by decide +kernel) ?_
  refine px_dup rfl rfl ?_
  refine px_callI (mc1 := 64) (ms1 := 1789) (mc2 := 37) (ms2 := 1943) CX11_init [.ref 0] [] vI_X11_init_0 rfl rfl rfl rfl rfl (Nat.le_of_ble_eq_true rfl) (by decide) ?_
  rintro _ _ - ⟨rfl, rfl⟩
  refine px_ast1 rfl rfl (by decide) ?_
  refine qx_new (mc := 36) (ms := 1880) (n := 63) (m0 := 65) (Sh2 := (gS.take 66)) rfl rfl (by decide) (by decide +kernel) (by decide +kernel) (by decide +kernel) ?_
  refine px_dup rfl rfl ?_
  refine px_callI (mc1 := 36) (ms1 := 1880) (mc2 := 0) (ms2 := 0) CX12_init [.ref 65] [] vI_X12_init_65 rfl rfl rfl rfl rfl (Nat.le_of_ble_eq_true rfl) (by decide) ?_
  rintro _ _ - ⟨rfl, rfl⟩
  refine px_ast2 rfl rfl (by decide) ?_
  refine px_iconst (v := nI 0) rfl k_0 ?_
  refine px_ist3 rfl rfl (by decide) ?_
  exact kk
