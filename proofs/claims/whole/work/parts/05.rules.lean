theorem px_iadd {d mc ms : Nat} {cd : pm_C} {i b : Nat} {xs : List Nat} {con : Int} {ls : List (Option Value)} {st : List Value} {S : pm_M} {Q : Option Value → pm_M → Prop} {x y : Int32} (h : (cdE cd)[i]? = some (b, 1, .iadd, xs, con)) (k : Px d mc ms cd (i + 1) ls (.int (x + y) :: st) S Q) : Px d mc ms cd i ls (.int y :: .int x :: st) S Q := by
  intro hok p l e R s m args below meth c D aC A Z hC ad H locs cells slots mls b' hH hF hb hc hs hK
  obtain ⟨hd, hn, hx⟩ := p_at hok h hb
  exact lv_iadd hC.1.1 hC.1.2.1 hd (k hok p l e R s m args below meth c D aC A Z hC ad H locs cells slots mls _ hH ⟨hF.1, hF.2.1, p_ws_i (p_ws_t (p_ws_t hF.2.2))⟩ (hn rfl) hc hs hK)

theorem px_isub {d mc ms : Nat} {cd : pm_C} {i b : Nat} {xs : List Nat} {con : Int} {ls : List (Option Value)} {st : List Value} {S : pm_M} {Q : Option Value → pm_M → Prop} {x y : Int32} (h : (cdE cd)[i]? = some (b, 1, .isub, xs, con)) (k : Px d mc ms cd (i + 1) ls (.int (x - y) :: st) S Q) : Px d mc ms cd i ls (.int y :: .int x :: st) S Q := by
  intro hok p l e R s m args below meth c D aC A Z hC ad H locs cells slots mls b' hH hF hb hc hs hK
  obtain ⟨hd, hn, hx⟩ := p_at hok h hb
  exact lv_isub hC.1.1 hC.1.2.1 hd (k hok p l e R s m args below meth c D aC A Z hC ad H locs cells slots mls _ hH ⟨hF.1, hF.2.1, p_ws_i (p_ws_t (p_ws_t hF.2.2))⟩ (hn rfl) hc hs hK)

theorem px_imul {d mc ms : Nat} {cd : pm_C} {i b : Nat} {xs : List Nat} {con : Int} {ls : List (Option Value)} {st : List Value} {S : pm_M} {Q : Option Value → pm_M → Prop} {x y : Int32} (h : (cdE cd)[i]? = some (b, 1, .imul, xs, con)) (k : Px d mc ms cd (i + 1) ls (.int (x * y) :: st) S Q) : Px d mc ms cd i ls (.int y :: .int x :: st) S Q := by
  intro hok p l e R s m args below meth c D aC A Z hC ad H locs cells slots mls b' hH hF hb hc hs hK
  obtain ⟨hd, hn, hx⟩ := p_at hok h hb
  exact lv_imul hC.1.1 hC.1.2.1 hd (k hok p l e R s m args below meth c D aC A Z hC ad H locs cells slots mls _ hH ⟨hF.1, hF.2.1, p_ws_i (p_ws_t (p_ws_t hF.2.2))⟩ (hn rfl) hc hs hK)

theorem px_iand {d mc ms : Nat} {cd : pm_C} {i b : Nat} {xs : List Nat} {con : Int} {ls : List (Option Value)} {st : List Value} {S : pm_M} {Q : Option Value → pm_M → Prop} {x y : Int32} (h : (cdE cd)[i]? = some (b, 1, .iand, xs, con)) (k : Px d mc ms cd (i + 1) ls (.int (x &&& y) :: st) S Q) : Px d mc ms cd i ls (.int y :: .int x :: st) S Q := by
  intro hok p l e R s m args below meth c D aC A Z hC ad H locs cells slots mls b' hH hF hb hc hs hK
  obtain ⟨hd, hn, hx⟩ := p_at hok h hb
  exact lv_iand hC.1.1 hC.1.2.1 hd (k hok p l e R s m args below meth c D aC A Z hC ad H locs cells slots mls _ hH ⟨hF.1, hF.2.1, p_ws_i (p_ws_t (p_ws_t hF.2.2))⟩ (hn rfl) hc hs hK)

theorem px_ior {d mc ms : Nat} {cd : pm_C} {i b : Nat} {xs : List Nat} {con : Int} {ls : List (Option Value)} {st : List Value} {S : pm_M} {Q : Option Value → pm_M → Prop} {x y : Int32} (h : (cdE cd)[i]? = some (b, 1, .ior, xs, con)) (k : Px d mc ms cd (i + 1) ls (.int (x ||| y) :: st) S Q) : Px d mc ms cd i ls (.int y :: .int x :: st) S Q := by
  intro hok p l e R s m args below meth c D aC A Z hC ad H locs cells slots mls b' hH hF hb hc hs hK
  obtain ⟨hd, hn, hx⟩ := p_at hok h hb
  exact lv_ior hC.1.1 hC.1.2.1 hd (k hok p l e R s m args below meth c D aC A Z hC ad H locs cells slots mls _ hH ⟨hF.1, hF.2.1, p_ws_i (p_ws_t (p_ws_t hF.2.2))⟩ (hn rfl) hc hs hK)

theorem px_ixor {d mc ms : Nat} {cd : pm_C} {i b : Nat} {xs : List Nat} {con : Int} {ls : List (Option Value)} {st : List Value} {S : pm_M} {Q : Option Value → pm_M → Prop} {x y : Int32} (h : (cdE cd)[i]? = some (b, 1, .ixor, xs, con)) (k : Px d mc ms cd (i + 1) ls (.int (x ^^^ y) :: st) S Q) : Px d mc ms cd i ls (.int y :: .int x :: st) S Q := by
  intro hok p l e R s m args below meth c D aC A Z hC ad H locs cells slots mls b' hH hF hb hc hs hK
  obtain ⟨hd, hn, hx⟩ := p_at hok h hb
  exact lv_ixor hC.1.1 hC.1.2.1 hd (k hok p l e R s m args below meth c D aC A Z hC ad H locs cells slots mls _ hH ⟨hF.1, hF.2.1, p_ws_i (p_ws_t (p_ws_t hF.2.2))⟩ (hn rfl) hc hs hK)

theorem px_ishl {d mc ms : Nat} {cd : pm_C} {i b : Nat} {xs : List Nat} {con : Int} {ls : List (Option Value)} {st : List Value} {S : pm_M} {Q : Option Value → pm_M → Prop} {x y : Int32} (h : (cdE cd)[i]? = some (b, 1, .ishl, xs, con)) (k : Px d mc ms cd (i + 1) ls (.int (x <<< (y &&& 31)) :: st) S Q) : Px d mc ms cd i ls (.int y :: .int x :: st) S Q := by
  intro hok p l e R s m args below meth c D aC A Z hC ad H locs cells slots mls b' hH hF hb hc hs hK
  obtain ⟨hd, hn, hx⟩ := p_at hok h hb
  exact lv_ishl hC.1.1 hC.1.2.1 hd (k hok p l e R s m args below meth c D aC A Z hC ad H locs cells slots mls _ hH ⟨hF.1, hF.2.1, p_ws_i (p_ws_t (p_ws_t hF.2.2))⟩ (hn rfl) hc hs hK)

theorem px_ishr {d mc ms : Nat} {cd : pm_C} {i b : Nat} {xs : List Nat} {con : Int} {ls : List (Option Value)} {st : List Value} {S : pm_M} {Q : Option Value → pm_M → Prop} {x y : Int32} (h : (cdE cd)[i]? = some (b, 1, .ishr, xs, con)) (k : Px d mc ms cd (i + 1) ls (.int (x >>> (y &&& 31)) :: st) S Q) : Px d mc ms cd i ls (.int y :: .int x :: st) S Q := by
  intro hok p l e R s m args below meth c D aC A Z hC ad H locs cells slots mls b' hH hF hb hc hs hK
  obtain ⟨hd, hn, hx⟩ := p_at hok h hb
  exact lv_ishr hC.1.1 hC.1.2.1 hd (k hok p l e R s m args below meth c D aC A Z hC ad H locs cells slots mls _ hH ⟨hF.1, hF.2.1, p_ws_i (p_ws_t (p_ws_t hF.2.2))⟩ (hn rfl) hc hs hK)

theorem px_idiv {d mc ms : Nat} {cd : pm_C} {i b : Nat} {xs : List Nat} {con : Int} {ls : List (Option Value)} {st : List Value} {S : pm_M} {Q : Option Value → pm_M → Prop} {x y : Int32} (h : (cdE cd)[i]? = some (b, 1, .idiv, xs, con)) (hy : ¬ y = 0) (k : Px d mc ms cd (i + 1) ls (.int (x / y) :: st) S Q) : Px d mc ms cd i ls (.int y :: .int x :: st) S Q := by
  intro hok p l e R s m args below meth c D aC A Z hC ad H locs cells slots mls b' hH hF hb hc hs hK
  obtain ⟨hd, hn, hx⟩ := p_at hok h hb
  exact lv_idiv hC.1.1 hC.1.2.1 hd hy (k hok p l e R s m args below meth c D aC A Z hC ad H locs cells slots mls _ hH ⟨hF.1, hF.2.1, p_ws_i (p_ws_t (p_ws_t hF.2.2))⟩ (hn rfl) hc hs hK)

theorem px_irem {d mc ms : Nat} {cd : pm_C} {i b : Nat} {xs : List Nat} {con : Int} {ls : List (Option Value)} {st : List Value} {S : pm_M} {Q : Option Value → pm_M → Prop} {x y : Int32} (h : (cdE cd)[i]? = some (b, 1, .irem, xs, con)) (hy : ¬ y = 0) (k : Px d mc ms cd (i + 1) ls (.int (x - x / y * y) :: st) S Q) : Px d mc ms cd i ls (.int y :: .int x :: st) S Q := by
  intro hok p l e R s m args below meth c D aC A Z hC ad H locs cells slots mls b' hH hF hb hc hs hK
  obtain ⟨hd, hn, hx⟩ := p_at hok h hb
  exact lv_irem hC.1.1 hC.1.2.1 hd hy (k hok p l e R s m args below meth c D aC A Z hC ad H locs cells slots mls _ hH ⟨hF.1, hF.2.1, p_ws_i (p_ws_t (p_ws_t hF.2.2))⟩ (hn rfl) hc hs hK)

theorem px_iushr {d mc ms : Nat} {cd : pm_C} {i b : Nat} {xs : List Nat} {con : Int} {ls : List (Option Value)} {st : List Value} {S : pm_M} {Q : Option Value → pm_M → Prop} {x y : Int32} (h : (cdE cd)[i]? = some (b, 1, .iushr, xs, con)) (k : Px d mc ms cd (i + 1) ls (.int ((x.toUInt32 >>> (y.toUInt32 &&& Int32.toUInt32 31)).toInt32) :: st) S Q) : Px d mc ms cd i ls (.int y :: .int x :: st) S Q := by
  intro hok p l e R s m args below meth c D aC A Z hC ad H locs cells slots mls b' hH hF hb hc hs hK
  obtain ⟨hd, hn, hx⟩ := p_at hok h hb
  exact lv_iushr hC.1.1 hC.1.2.1 hd rfl (k hok p l e R s m args below meth c D aC A Z hC ad H locs cells slots mls _ hH ⟨hF.1, hF.2.1, p_ws_i (p_ws_t (p_ws_t hF.2.2))⟩ (hn rfl) hc hs hK)

theorem px_ineg {d mc ms : Nat} {cd : pm_C} {i b : Nat} {xs : List Nat} {con : Int} {ls : List (Option Value)} {st : List Value} {S : pm_M} {Q : Option Value → pm_M → Prop} {x : Int32} (h : (cdE cd)[i]? = some (b, 1, .ineg, xs, con)) (k : Px d mc ms cd (i + 1) ls (.int (-x) :: st) S Q) : Px d mc ms cd i ls (.int x :: st) S Q := by
  intro hok p l e R s m args below meth c D aC A Z hC ad H locs cells slots mls b' hH hF hb hc hs hK
  obtain ⟨hd, hn, hx⟩ := p_at hok h hb
  exact lv_ineg hC.1.1 hC.1.2.1 hd (k hok p l e R s m args below meth c D aC A Z hC ad H locs cells slots mls _ hH ⟨hF.1, hF.2.1, p_ws_i (p_ws_t hF.2.2)⟩ (hn rfl) hc hs hK)

theorem px_ladd {d mc ms : Nat} {cd : pm_C} {i b : Nat} {xs : List Nat} {con : Int} {ls : List (Option Value)} {st : List Value} {S : pm_M} {Q : Option Value → pm_M → Prop} {x y : Int64} (h : (cdE cd)[i]? = some (b, 1, .ladd, xs, con)) (k : Px d mc ms cd (i + 1) ls (.long (x + y) :: st) S Q) : Px d mc ms cd i ls (.long y :: .long x :: st) S Q := by
  intro hok p l e R s m args below meth c D aC A Z hC ad H locs cells slots mls b' hH hF hb hc hs hK
  obtain ⟨hd, hn, hx⟩ := p_at hok h hb
  exact lv_ladd hC.1.1 hC.1.2.1 hd (k hok p l e R s m args below meth c D aC A Z hC ad H locs cells slots mls _ hH ⟨hF.1, hF.2.1, p_ws_l (p_ws_t (p_ws_t hF.2.2))⟩ (hn rfl) hc hs hK)

theorem px_lsub {d mc ms : Nat} {cd : pm_C} {i b : Nat} {xs : List Nat} {con : Int} {ls : List (Option Value)} {st : List Value} {S : pm_M} {Q : Option Value → pm_M → Prop} {x y : Int64} (h : (cdE cd)[i]? = some (b, 1, .lsub, xs, con)) (k : Px d mc ms cd (i + 1) ls (.long (x - y) :: st) S Q) : Px d mc ms cd i ls (.long y :: .long x :: st) S Q := by
  intro hok p l e R s m args below meth c D aC A Z hC ad H locs cells slots mls b' hH hF hb hc hs hK
  obtain ⟨hd, hn, hx⟩ := p_at hok h hb
  exact lv_lsub hC.1.1 hC.1.2.1 hd (k hok p l e R s m args below meth c D aC A Z hC ad H locs cells slots mls _ hH ⟨hF.1, hF.2.1, p_ws_l (p_ws_t (p_ws_t hF.2.2))⟩ (hn rfl) hc hs hK)

theorem px_lmul {d mc ms : Nat} {cd : pm_C} {i b : Nat} {xs : List Nat} {con : Int} {ls : List (Option Value)} {st : List Value} {S : pm_M} {Q : Option Value → pm_M → Prop} {x y : Int64} (h : (cdE cd)[i]? = some (b, 1, .lmul, xs, con)) (k : Px d mc ms cd (i + 1) ls (.long (x * y) :: st) S Q) : Px d mc ms cd i ls (.long y :: .long x :: st) S Q := by
  intro hok p l e R s m args below meth c D aC A Z hC ad H locs cells slots mls b' hH hF hb hc hs hK
  obtain ⟨hd, hn, hx⟩ := p_at hok h hb
  exact lv_lmul hC.1.1 hC.1.2.1 hd (k hok p l e R s m args below meth c D aC A Z hC ad H locs cells slots mls _ hH ⟨hF.1, hF.2.1, p_ws_l (p_ws_t (p_ws_t hF.2.2))⟩ (hn rfl) hc hs hK)

theorem px_land {d mc ms : Nat} {cd : pm_C} {i b : Nat} {xs : List Nat} {con : Int} {ls : List (Option Value)} {st : List Value} {S : pm_M} {Q : Option Value → pm_M → Prop} {x y : Int64} (h : (cdE cd)[i]? = some (b, 1, .land, xs, con)) (k : Px d mc ms cd (i + 1) ls (.long (x &&& y) :: st) S Q) : Px d mc ms cd i ls (.long y :: .long x :: st) S Q := by
  intro hok p l e R s m args below meth c D aC A Z hC ad H locs cells slots mls b' hH hF hb hc hs hK
  obtain ⟨hd, hn, hx⟩ := p_at hok h hb
  exact lv_land hC.1.1 hC.1.2.1 hd (k hok p l e R s m args below meth c D aC A Z hC ad H locs cells slots mls _ hH ⟨hF.1, hF.2.1, p_ws_l (p_ws_t (p_ws_t hF.2.2))⟩ (hn rfl) hc hs hK)

theorem px_lor {d mc ms : Nat} {cd : pm_C} {i b : Nat} {xs : List Nat} {con : Int} {ls : List (Option Value)} {st : List Value} {S : pm_M} {Q : Option Value → pm_M → Prop} {x y : Int64} (h : (cdE cd)[i]? = some (b, 1, .lor, xs, con)) (k : Px d mc ms cd (i + 1) ls (.long (x ||| y) :: st) S Q) : Px d mc ms cd i ls (.long y :: .long x :: st) S Q := by
  intro hok p l e R s m args below meth c D aC A Z hC ad H locs cells slots mls b' hH hF hb hc hs hK
  obtain ⟨hd, hn, hx⟩ := p_at hok h hb
  exact lv_lor hC.1.1 hC.1.2.1 hd (k hok p l e R s m args below meth c D aC A Z hC ad H locs cells slots mls _ hH ⟨hF.1, hF.2.1, p_ws_l (p_ws_t (p_ws_t hF.2.2))⟩ (hn rfl) hc hs hK)

theorem px_ldiv {d mc ms : Nat} {cd : pm_C} {i b : Nat} {xs : List Nat} {con : Int} {ls : List (Option Value)} {st : List Value} {S : pm_M} {Q : Option Value → pm_M → Prop} {x y : Int64} (h : (cdE cd)[i]? = some (b, 1, .ldiv, xs, con)) (hy : ¬ y = 0) (k : Px d mc ms cd (i + 1) ls (.long (x / y) :: st) S Q) : Px d mc ms cd i ls (.long y :: .long x :: st) S Q := by
  intro hok p l e R s m args below meth c D aC A Z hC ad H locs cells slots mls b' hH hF hb hc hs hK
  obtain ⟨hd, hn, hx⟩ := p_at hok h hb
  exact lv_ldiv hC.1.1 hC.1.2.1 hd hy (k hok p l e R s m args below meth c D aC A Z hC ad H locs cells slots mls _ hH ⟨hF.1, hF.2.1, p_ws_l (p_ws_t (p_ws_t hF.2.2))⟩ (hn rfl) hc hs hK)

theorem px_lrem {d mc ms : Nat} {cd : pm_C} {i b : Nat} {xs : List Nat} {con : Int} {ls : List (Option Value)} {st : List Value} {S : pm_M} {Q : Option Value → pm_M → Prop} {x y : Int64} (h : (cdE cd)[i]? = some (b, 1, .lrem, xs, con)) (hy : ¬ y = 0) (k : Px d mc ms cd (i + 1) ls (.long (x - x / y * y) :: st) S Q) : Px d mc ms cd i ls (.long y :: .long x :: st) S Q := by
  intro hok p l e R s m args below meth c D aC A Z hC ad H locs cells slots mls b' hH hF hb hc hs hK
  obtain ⟨hd, hn, hx⟩ := p_at hok h hb
  exact lv_lrem hC.1.1 hC.1.2.1 hd hy (k hok p l e R s m args below meth c D aC A Z hC ad H locs cells slots mls _ hH ⟨hF.1, hF.2.1, p_ws_l (p_ws_t (p_ws_t hF.2.2))⟩ (hn rfl) hc hs hK)

theorem px_lshl {d mc ms : Nat} {cd : pm_C} {i b : Nat} {xs : List Nat} {con : Int} {ls : List (Option Value)} {st : List Value} {S : pm_M} {Q : Option Value → pm_M → Prop} {x : Int64} {y : Int32} (h : (cdE cd)[i]? = some (b, 1, .lshl, xs, con)) (k : Px d mc ms cd (i + 1) ls (.long (x <<< (y.toInt64 &&& 63)) :: st) S Q) : Px d mc ms cd i ls (.int y :: .long x :: st) S Q := by
  intro hok p l e R s m args below meth c D aC A Z hC ad H locs cells slots mls b' hH hF hb hc hs hK
  obtain ⟨hd, hn, hx⟩ := p_at hok h hb
  exact lv_lshl hC.1.1 hC.1.2.1 hd rfl (k hok p l e R s m args below meth c D aC A Z hC ad H locs cells slots mls _ hH ⟨hF.1, hF.2.1, p_ws_l (p_ws_t (p_ws_t hF.2.2))⟩ (hn rfl) hc hs hK)

theorem px_lcmp {d mc ms : Nat} {cd : pm_C} {i b : Nat} {xs : List Nat} {con : Int} {ls : List (Option Value)} {st : List Value} {S : pm_M} {Q : Option Value → pm_M → Prop} {x y : Int64} (h : (cdE cd)[i]? = some (b, 1, .lcmp, xs, con)) (k : Px d mc ms cd (i + 1) ls (.int (lg_cmp x y) :: st) S Q) : Px d mc ms cd i ls (.long y :: .long x :: st) S Q := by
  intro hok p l e R s m args below meth c D aC A Z hC ad H locs cells slots mls b' hH hF hb hc hs hK
  obtain ⟨hd, hn, hx⟩ := p_at hok h hb
  exact W.lcmp hC.1.1 hC.1.2.1 hd (k hok p l e R s m args below meth c D aC A Z hC ad H locs cells slots mls _ hH ⟨hF.1, hF.2.1, p_ws_i (p_ws_t (p_ws_t hF.2.2))⟩ (hn rfl) hc hs hK)

theorem px_i2l {d mc ms : Nat} {cd : pm_C} {i b : Nat} {xs : List Nat} {con : Int} {ls : List (Option Value)} {st : List Value} {S : pm_M} {Q : Option Value → pm_M → Prop} {x : Int32} (h : (cdE cd)[i]? = some (b, 1, .i2l, xs, con)) (k : Px d mc ms cd (i + 1) ls (.long x.toInt64 :: st) S Q) : Px d mc ms cd i ls (.int x :: st) S Q := by
  intro hok p l e R s m args below meth c D aC A Z hC ad H locs cells slots mls b' hH hF hb hc hs hK
  obtain ⟨hd, hn, hx⟩ := p_at hok h hb
  exact lv_i2l hC.1.1 hC.1.2.1 hd rfl (k hok p l e R s m args below meth c D aC A Z hC ad H locs cells slots mls _ hH ⟨hF.1, hF.2.1, p_ws_l (p_ws_t hF.2.2)⟩ (hn rfl) hc hs hK)

theorem px_l2i {d mc ms : Nat} {cd : pm_C} {i b : Nat} {xs : List Nat} {con : Int} {ls : List (Option Value)} {st : List Value} {S : pm_M} {Q : Option Value → pm_M → Prop} {x : Int64} (h : (cdE cd)[i]? = some (b, 1, .l2i, xs, con)) (k : Px d mc ms cd (i + 1) ls (.int x.toInt32 :: st) S Q) : Px d mc ms cd i ls (.long x :: st) S Q := by
  intro hok p l e R s m args below meth c D aC A Z hC ad H locs cells slots mls b' hH hF hb hc hs hK
  obtain ⟨hd, hn, hx⟩ := p_at hok h hb
  exact lv_l2i hC.1.1 hC.1.2.1 hd rfl (k hok p l e R s m args below meth c D aC A Z hC ad H locs cells slots mls _ hH ⟨hF.1, hF.2.1, p_ws_i (p_ws_t hF.2.2)⟩ (hn rfl) hc hs hK)

theorem px_i2b {d mc ms : Nat} {cd : pm_C} {i b : Nat} {xs : List Nat} {con : Int} {ls : List (Option Value)} {st : List Value} {S : pm_M} {Q : Option Value → pm_M → Prop} {x : Int32} (h : (cdE cd)[i]? = some (b, 1, .i2b, xs, con)) (k : Px d mc ms cd (i + 1) ls (.int x.toInt8.toInt32 :: st) S Q) : Px d mc ms cd i ls (.int x :: st) S Q := by
  intro hok p l e R s m args below meth c D aC A Z hC ad H locs cells slots mls b' hH hF hb hc hs hK
  obtain ⟨hd, hn, hx⟩ := p_at hok h hb
  exact lv_i2b hC.1.1 hC.1.2.1 hd rfl (k hok p l e R s m args below meth c D aC A Z hC ad H locs cells slots mls _ hH ⟨hF.1, hF.2.1, p_ws_i (p_ws_t hF.2.2)⟩ (hn rfl) hc hs hK)

theorem px_i2s {d mc ms : Nat} {cd : pm_C} {i b : Nat} {xs : List Nat} {con : Int} {ls : List (Option Value)} {st : List Value} {S : pm_M} {Q : Option Value → pm_M → Prop} {x : Int32} (h : (cdE cd)[i]? = some (b, 1, .i2s, xs, con)) (k : Px d mc ms cd (i + 1) ls (.int x.toInt16.toInt32 :: st) S Q) : Px d mc ms cd i ls (.int x :: st) S Q := by
  intro hok p l e R s m args below meth c D aC A Z hC ad H locs cells slots mls b' hH hF hb hc hs hK
  obtain ⟨hd, hn, hx⟩ := p_at hok h hb
  exact lv_i2s hC.1.1 hC.1.2.1 hd rfl (k hok p l e R s m args below meth c D aC A Z hC ad H locs cells slots mls _ hH ⟨hF.1, hF.2.1, p_ws_i (p_ws_t hF.2.2)⟩ (hn rfl) hc hs hK)

theorem px_pop {d mc ms : Nat} {cd : pm_C} {i b : Nat} {xs : List Nat} {con : Int} {ls : List (Option Value)} {st : List Value} {S : pm_M} {Q : Option Value → pm_M → Prop} {v : Value} (h : (cdE cd)[i]? = some (b, 1, .pop, xs, con)) (hv : v.category = 1) (k : Px d mc ms cd (i + 1) ls (st) S Q) : Px d mc ms cd i ls (v :: st) S Q := by
  intro hok p l e R s m args below meth c D aC A Z hC ad H locs cells slots mls b' hH hF hb hc hs hK
  obtain ⟨hd, hn, hx⟩ := p_at hok h hb
  exact lv_pop hC.1.1 hC.1.2.1 hd (va := pv ad v) (by rw [pv_cat]; exact hv) (k hok p l e R s m args below meth c D aC A Z hC ad H locs cells slots mls _ hH ⟨hF.1, hF.2.1, (p_ws_t hF.2.2)⟩ (hn rfl) hc hs hK)

theorem px_dup {d mc ms : Nat} {cd : pm_C} {i b : Nat} {xs : List Nat} {con : Int} {ls : List (Option Value)} {st : List Value} {S : pm_M} {Q : Option Value → pm_M → Prop} {v : Value} (h : (cdE cd)[i]? = some (b, 1, .dup, xs, con)) (hv : v.category = 1) (k : Px d mc ms cd (i + 1) ls (v :: v :: st) S Q) : Px d mc ms cd i ls (v :: st) S Q := by
  intro hok p l e R s m args below meth c D aC A Z hC ad H locs cells slots mls b' hH hF hb hc hs hK
  obtain ⟨hd, hn, hx⟩ := p_at hok h hb
  exact lv_dup hC.1.1 hC.1.2.1 hd (va := pv ad v) (by rw [pv_cat]; exact hv) (k hok p l e R s m args below meth c D aC A Z hC ad H locs cells slots mls _ hH ⟨hF.1, hF.2.1, p_ws_c (p_ws_h hF.2.2) hF.2.2⟩ (hn rfl) hc hs hK)

theorem px_dup2 {d mc ms : Nat} {cd : pm_C} {i b : Nat} {xs : List Nat} {con : Int} {ls : List (Option Value)} {st : List Value} {S : pm_M} {Q : Option Value → pm_M → Prop} {v w : Value} (h : (cdE cd)[i]? = some (b, 1, .dup2, xs, con)) (hv : v.category = 1) (hw : w.category = 1) (k : Px d mc ms cd (i + 1) ls (v :: w :: v :: w :: st) S Q) : Px d mc ms cd i ls (v :: w :: st) S Q := by
  intro hok p l e R s m args below meth c D aC A Z hC ad H locs cells slots mls b' hH hF hb hc hs hK
  obtain ⟨hd, hn, hx⟩ := p_at hok h hb
  exact lv_dup2_11 hC.1.1 hC.1.2.1 hd (va := pv ad v) (vb := pv ad w) (by rw [pv_cat]; exact hv) (by rw [pv_cat]; exact hw) (k hok p l e R s m args below meth c D aC A Z hC ad H locs cells slots mls _ hH ⟨hF.1, hF.2.1, p_ws_c (p_ws_h hF.2.2) (p_ws_c (p_ws_h (p_ws_t hF.2.2)) hF.2.2)⟩ (hn rfl) hc hs hK)

theorem px_aconst_null {d mc ms : Nat} {cd : pm_C} {i b : Nat} {xs : List Nat} {con : Int} {ls : List (Option Value)} {st : List Value} {S : pm_M} {Q : Option Value → pm_M → Prop}  (h : (cdE cd)[i]? = some (b, 1, .aconst_null, xs, con)) (k : Px d mc ms cd (i + 1) ls (.null :: st) S Q) : Px d mc ms cd i ls (st) S Q := by
  intro hok p l e R s m args below meth c D aC A Z hC ad H locs cells slots mls b' hH hF hb hc hs hK
  obtain ⟨hd, hn, hx⟩ := p_at hok h hb
  exact lv_null hC.1.1 hC.1.2.1 hd (k hok p l e R s m args below meth c D aC A Z hC ad H locs cells slots mls _ hH ⟨hF.1, hF.2.1, p_ws_n hF.2.2⟩ (hn rfl) hc hs hK)

theorem px_iconst {d mc ms : Nat} {cd : pm_C} {i b : Nat} {xs : List Nat} {con : Int} {ls : List (Option Value)} {st : List Value} {S : pm_M} {Q : Option Value → pm_M → Prop} {n : Int} {v : Int32} (h : (cdE cd)[i]? = some (b, 1, .iconst n, xs, con)) (hv : Int32.ofInt n = v) (k : Px d mc ms cd (i + 1) ls (.int v :: st) S Q) : Px d mc ms cd i ls (st) S Q := by
  intro hok p l e R s m args below meth c D aC A Z hC ad H locs cells slots mls b' hH hF hb hc hs hK
  obtain ⟨hd, hn, hx⟩ := p_at hok h hb
  exact lv_iconst hC.1.1 hC.1.2.1 hd hv (k hok p l e R s m args below meth c D aC A Z hC ad H locs cells slots mls _ hH ⟨hF.1, hF.2.1, p_ws_i hF.2.2⟩ (hn rfl) hc hs hK)

theorem px_bipush {d mc ms : Nat} {cd : pm_C} {i b : Nat} {xs : List Nat} {con : Int} {ls : List (Option Value)} {st : List Value} {S : pm_M} {Q : Option Value → pm_M → Prop} {n : Int} {v : Int32} (h : (cdE cd)[i]? = some (b, 2, .bipush n, xs, con)) (hv : (Int8.ofInt n).toInt32 = v) (k : Px d mc ms cd (i + 1) ls (.int v :: st) S Q) : Px d mc ms cd i ls (st) S Q := by
  intro hok p l e R s m args below meth c D aC A Z hC ad H locs cells slots mls b' hH hF hb hc hs hK
  obtain ⟨hd, hn, hx⟩ := p_at hok h hb
  exact lv_bipush hC.1.1 hC.1.2.1 hd hv (k hok p l e R s m args below meth c D aC A Z hC ad H locs cells slots mls _ hH ⟨hF.1, hF.2.1, p_ws_i hF.2.2⟩ (hn rfl) hc hs hK)

theorem px_sipush {d mc ms : Nat} {cd : pm_C} {i b : Nat} {xs : List Nat} {con : Int} {ls : List (Option Value)} {st : List Value} {S : pm_M} {Q : Option Value → pm_M → Prop} {n : Int} {v : Int32} (h : (cdE cd)[i]? = some (b, 3, .sipush n, xs, con)) (hv : (Int16.ofInt n).toInt32 = v) (k : Px d mc ms cd (i + 1) ls (.int v :: st) S Q) : Px d mc ms cd i ls (st) S Q := by
  intro hok p l e R s m args below meth c D aC A Z hC ad H locs cells slots mls b' hH hF hb hc hs hK
  obtain ⟨hd, hn, hx⟩ := p_at hok h hb
  exact lv_sipush hC.1.1 hC.1.2.1 hd hv (k hok p l e R s m args below meth c D aC A Z hC ad H locs cells slots mls _ hH ⟨hF.1, hF.2.1, p_ws_i hF.2.2⟩ (hn rfl) hc hs hK)

theorem px_lconst {d mc ms : Nat} {cd : pm_C} {i b : Nat} {xs : List Nat} {con : Int} {ls : List (Option Value)} {st : List Value} {S : pm_M} {Q : Option Value → pm_M → Prop} {n : Fin 2} {v : Int64} (h : (cdE cd)[i]? = some (b, 1, .lconst n, xs, con)) (hv : Int64.ofNat (n : Nat) = v) (k : Px d mc ms cd (i + 1) ls (.long v :: st) S Q) : Px d mc ms cd i ls (st) S Q := by
  intro hok p l e R s m args below meth c D aC A Z hC ad H locs cells slots mls b' hH hF hb hc hs hK
  obtain ⟨hd, hn, hx⟩ := p_at hok h hb
  exact lv_lconst hC.1.1 hC.1.2.1 hd hv (k hok p l e R s m args below meth c D aC A Z hC ad H locs cells slots mls _ hH ⟨hF.1, hF.2.1, p_ws_l hF.2.2⟩ (hn rfl) hc hs hK)

theorem px_iload_n {d mc ms : Nat} {cd : pm_C} {i b : Nat} {xs : List Nat} {con : Int} {ls : List (Option Value)} {st : List Value} {S : pm_M} {Q : Option Value → pm_M → Prop} {q : Nat} {x : Int32} {kk : Fin 4} (h : (cdE cd)[i]? = some (b, 1, .iload_n kk, xs, con)) (hkk : (kk : Nat) = q) (hl : ls[q]? = some (some (.int x))) (k : Px d mc ms cd (i + 1) ls (.int x :: st) S Q) : Px d mc ms cd i ls (st) S Q := by
  intro hok p l e R s m args below meth c D aC A Z hC ad H locs cells slots mls b' hH hF hb hc hs hK
  obtain ⟨hd, hn, hx⟩ := p_at hok h hb
  exact lv_iload_n hC.1.1 hC.1.2.1 hd hkk (hF.1.2.2.2 _ _ hl) (k hok p l e R s m args below meth c D aC A Z hC ad H locs cells slots mls _ hH ⟨hF.1, hF.2.1, p_ws_i hF.2.2⟩ (hn rfl) hc hs hK)

theorem px_iload {d mc ms : Nat} {cd : pm_C} {i b : Nat} {xs : List Nat} {con : Int} {ls : List (Option Value)} {st : List Value} {S : pm_M} {Q : Option Value → pm_M → Prop} {q : Nat} {x : Int32} (h : (cdE cd)[i]? = some (b, 2, .iload q, xs, con)) (hl : ls[q]? = some (some (.int x))) (k : Px d mc ms cd (i + 1) ls (.int x :: st) S Q) : Px d mc ms cd i ls (st) S Q := by
  intro hok p l e R s m args below meth c D aC A Z hC ad H locs cells slots mls b' hH hF hb hc hs hK
  obtain ⟨hd, hn, hx⟩ := p_at hok h hb
  exact lv_iload hC.1.1 hC.1.2.1 hd (hF.1.2.2.2 _ _ hl) (k hok p l e R s m args below meth c D aC A Z hC ad H locs cells slots mls _ hH ⟨hF.1, hF.2.1, p_ws_i hF.2.2⟩ (hn rfl) hc hs hK)

theorem px_lload_n {d mc ms : Nat} {cd : pm_C} {i b : Nat} {xs : List Nat} {con : Int} {ls : List (Option Value)} {st : List Value} {S : pm_M} {Q : Option Value → pm_M → Prop} {q : Nat} {x : Int64} {kk : Fin 4} (h : (cdE cd)[i]? = some (b, 1, .lload_n kk, xs, con)) (hkk : (kk : Nat) = q) (hl : ls[q]? = some (some (.long x))) (k : Px d mc ms cd (i + 1) ls (.long x :: st) S Q) : Px d mc ms cd i ls (st) S Q := by
  intro hok p l e R s m args below meth c D aC A Z hC ad H locs cells slots mls b' hH hF hb hc hs hK
  obtain ⟨hd, hn, hx⟩ := p_at hok h hb
  exact lv_lload_n hC.1.1 hC.1.2.1 hd hkk (hF.1.2.2.2 _ _ hl) (k hok p l e R s m args below meth c D aC A Z hC ad H locs cells slots mls _ hH ⟨hF.1, hF.2.1, p_ws_l hF.2.2⟩ (hn rfl) hc hs hK)

theorem px_lload {d mc ms : Nat} {cd : pm_C} {i b : Nat} {xs : List Nat} {con : Int} {ls : List (Option Value)} {st : List Value} {S : pm_M} {Q : Option Value → pm_M → Prop} {q : Nat} {x : Int64} (h : (cdE cd)[i]? = some (b, 2, .lload q, xs, con)) (hl : ls[q]? = some (some (.long x))) (k : Px d mc ms cd (i + 1) ls (.long x :: st) S Q) : Px d mc ms cd i ls (st) S Q := by
  intro hok p l e R s m args below meth c D aC A Z hC ad H locs cells slots mls b' hH hF hb hc hs hK
  obtain ⟨hd, hn, hx⟩ := p_at hok h hb
  exact lv_lload hC.1.1 hC.1.2.1 hd (hF.1.2.2.2 _ _ hl) (k hok p l e R s m args below meth c D aC A Z hC ad H locs cells slots mls _ hH ⟨hF.1, hF.2.1, p_ws_l hF.2.2⟩ (hn rfl) hc hs hK)

theorem px_aload_n {d mc ms : Nat} {cd : pm_C} {i b : Nat} {xs : List Nat} {con : Int} {ls : List (Option Value)} {st : List Value} {S : pm_M} {Q : Option Value → pm_M → Prop} {q : Nat} {x : Nat} {kk : Fin 4} (h : (cdE cd)[i]? = some (b, 1, .aload_n kk, xs, con)) (hkk : (kk : Nat) = q) (hl : ls[q]? = some (some (.ref x))) (k : Px d mc ms cd (i + 1) ls (.ref x :: st) S Q) : Px d mc ms cd i ls (st) S Q := by
  intro hok p l e R s m args below meth c D aC A Z hC ad H locs cells slots mls b' hH hF hb hc hs hK
  obtain ⟨hd, hn, hx⟩ := p_at hok h hb
  exact lv_aload_n hC.1.1 hC.1.2.1 hd hkk (hF.1.2.2.2 _ _ hl) (k hok p l e R s m args below meth c D aC A Z hC ad H locs cells slots mls _ hH ⟨hF.1, hF.2.1, p_ws_c (fun r e => hF.2.1 r (by rw [← e]; exact List.mem_of_getElem? hl)) hF.2.2⟩ (hn rfl) hc hs hK)

theorem px_aload {d mc ms : Nat} {cd : pm_C} {i b : Nat} {xs : List Nat} {con : Int} {ls : List (Option Value)} {st : List Value} {S : pm_M} {Q : Option Value → pm_M → Prop} {q : Nat} {x : Nat} (h : (cdE cd)[i]? = some (b, 2, .aload q, xs, con)) (hl : ls[q]? = some (some (.ref x))) (k : Px d mc ms cd (i + 1) ls (.ref x :: st) S Q) : Px d mc ms cd i ls (st) S Q := by
  intro hok p l e R s m args below meth c D aC A Z hC ad H locs cells slots mls b' hH hF hb hc hs hK
  obtain ⟨hd, hn, hx⟩ := p_at hok h hb
  exact lv_aload hC.1.1 hC.1.2.1 hd (hF.1.2.2.2 _ _ hl) (k hok p l e R s m args below meth c D aC A Z hC ad H locs cells slots mls _ hH ⟨hF.1, hF.2.1, p_ws_c (fun r e => hF.2.1 r (by rw [← e]; exact List.mem_of_getElem? hl)) hF.2.2⟩ (hn rfl) hc hs hK)

theorem px_aload_nN {d mc ms : Nat} {cd : pm_C} {i b : Nat} {xs : List Nat} {con : Int} {ls : List (Option Value)} {st : List Value} {S : pm_M} {Q : Option Value → pm_M → Prop} {q : Nat} {kk : Fin 4} (h : (cdE cd)[i]? = some (b, 1, .aload_n kk, xs, con)) (hkk : (kk : Nat) = q) (hl : ls[q]? = some (some .null)) (k : Px d mc ms cd (i + 1) ls (.null :: st) S Q) : Px d mc ms cd i ls (st) S Q := by
  intro hok p l e R s m args below meth c D aC A Z hC ad H locs cells slots mls b' hH hF hb hc hs hK
  obtain ⟨hd, hn, hx⟩ := p_at hok h hb
  exact lv_aload_nN hC.1.1 hC.1.2.1 hd hkk (hF.1.2.2.2 _ _ hl) (k hok p l e R s m args below meth c D aC A Z hC ad H locs cells slots mls _ hH ⟨hF.1, hF.2.1, p_ws_n hF.2.2⟩ (hn rfl) hc hs hK)

theorem px_aloadN {d mc ms : Nat} {cd : pm_C} {i b : Nat} {xs : List Nat} {con : Int} {ls : List (Option Value)} {st : List Value} {S : pm_M} {Q : Option Value → pm_M → Prop} {q : Nat} (h : (cdE cd)[i]? = some (b, 2, .aload q, xs, con)) (hl : ls[q]? = some (some .null)) (k : Px d mc ms cd (i + 1) ls (.null :: st) S Q) : Px d mc ms cd i ls (st) S Q := by
  intro hok p l e R s m args below meth c D aC A Z hC ad H locs cells slots mls b' hH hF hb hc hs hK
  obtain ⟨hd, hn, hx⟩ := p_at hok h hb
  exact lv_aloadN hC.1.1 hC.1.2.1 hd (hF.1.2.2.2 _ _ hl) (k hok p l e R s m args below meth c D aC A Z hC ad H locs cells slots mls _ hH ⟨hF.1, hF.2.1, p_ws_n hF.2.2⟩ (hn rfl) hc hs hK)

theorem px_ldc {d mc ms : Nat} {cd : pm_C} {i b : Nat} {con : Int} {ls : List (Option Value)} {st : List Value} {S : pm_M} {Q : Option Value → pm_M → Prop} {idx pos : Nat} {v : Int32} (h : (cdE cd)[i]? = some (b, 2, .ldc idx, [pos], con)) (hv : Int32.ofInt con = v) (k : Px d mc ms cd (i + 1) ls (.int v :: st) S Q) : Px d mc ms cd i ls st S Q := by
  intro hok p l e R s m args below meth c D aC A Z hC ad H locs cells slots mls b' hH hF hb hc hs hK
  obtain ⟨hd, hn, hx⟩ := p_at hok h hb
  subst hv
  exact lv_ldc hC.1.1 hC.1.2.1 hC.1.2.2.2.1 (hC.1.2.2.2.2 _ (p_has_in hx)) hd (k hok p l e R s m args below meth c D aC A Z hC ad H locs cells slots mls _ hH ⟨hF.1, hF.2.1, p_ws_i hF.2.2⟩ (hn rfl) hc hs hK)

theorem px_ldc_w {d mc ms : Nat} {cd : pm_C} {i b : Nat} {con : Int} {ls : List (Option Value)} {st : List Value} {S : pm_M} {Q : Option Value → pm_M → Prop} {idx pos : Nat} {v : Int32} (h : (cdE cd)[i]? = some (b, 3, .ldc_w idx, [pos], con)) (hv : Int32.ofInt con = v) (k : Px d mc ms cd (i + 1) ls (.int v :: st) S Q) : Px d mc ms cd i ls st S Q := by
  intro hok p l e R s m args below meth c D aC A Z hC ad H locs cells slots mls b' hH hF hb hc hs hK
  obtain ⟨hd, hn, hx⟩ := p_at hok h hb
  subst hv
  exact lv_ldcw hC.1.1 hC.1.2.1 hC.1.2.2.2.1 (hC.1.2.2.2.2 _ (p_has_in hx)) hd (k hok p l e R s m args below meth c D aC A Z hC ad H locs cells slots mls _ hH ⟨hF.1, hF.2.1, p_ws_i hF.2.2⟩ (hn rfl) hc hs hK)

theorem px_ldc2_w {d mc ms : Nat} {cd : pm_C} {i b : Nat} {con : Int} {ls : List (Option Value)} {st : List Value} {S : pm_M} {Q : Option Value → pm_M → Prop} {idx pos : Nat} {v : Int64} (h : (cdE cd)[i]? = some (b, 3, .ldc2_w idx, [pos], con)) (hv : Int64.ofInt con = v) (k : Px d mc ms cd (i + 1) ls (.long v :: st) S Q) : Px d mc ms cd i ls st S Q := by
  intro hok p l e R s m args below meth c D aC A Z hC ad H locs cells slots mls b' hH hF hb hc hs hK
  obtain ⟨hd, hn, hx⟩ := p_at hok h hb
  subst hv
  exact lv_ldc2 hC.1.1 hC.1.2.1 hC.1.2.2.2.1 (hC.1.2.2.2.2 _ (p_has_in hx)) hd (k hok p l e R s m args below meth c D aC A Z hC ad H locs cells slots mls _ hH ⟨hF.1, hF.2.1, p_ws_l hF.2.2⟩ (hn rfl) hc hs hK)

theorem px_istore_n {d mc ms : Nat} {cd : pm_C} {i b : Nat} {xs : List Nat} {con : Int} {ls : List (Option Value)} {st : List Value} {S : pm_M} {Q : Option Value → pm_M → Prop} {q : Nat} {kk : Fin 4} {x : Int32} {ls' : List (Option Value)} (h : (cdE cd)[i]? = some (b, 1, .istore_n kk, xs, con)) (hkk : (kk : Nat) = q) (hq : p_S1 ls q (.int x) ls') (hl : q < cdL cd) (k : Px d mc ms cd (i + 1) ls' st S Q) : Px d mc ms cd i ls (.int x :: st) S Q := by
  intro hok p l e R s m args below meth c D aC A Z hC ad H locs cells slots mls b' hH hF hb hc hs hK
  obtain ⟨hd, hn, hx⟩ := p_at hok h hb
  refine lv_istore_n hC.1.1 hC.1.2.1 hd hkk (p_lv_has hF.1) hl rfl (fun mls' hm => ?_)
  exact k hok p l e R s m args below meth c D aC A Z hC ad H locs cells slots mls' _ hH ⟨p_lv_st1 (v := .int x) hF.1 hq hm, p_wl_s hF.2.1 hq (p_ws_h hF.2.2), p_ws_t hF.2.2⟩ (hn rfl) hc hs hK

theorem px_istore {d mc ms : Nat} {cd : pm_C} {i b : Nat} {xs : List Nat} {con : Int} {ls : List (Option Value)} {st : List Value} {S : pm_M} {Q : Option Value → pm_M → Prop} {q : Nat} {x : Int32} {ls' : List (Option Value)} (h : (cdE cd)[i]? = some (b, 2, .istore q, xs, con)) (hq : p_S1 ls q (.int x) ls') (hl : q < cdL cd) (k : Px d mc ms cd (i + 1) ls' st S Q) : Px d mc ms cd i ls (.int x :: st) S Q := by
  intro hok p l e R s m args below meth c D aC A Z hC ad H locs cells slots mls b' hH hF hb hc hs hK
  obtain ⟨hd, hn, hx⟩ := p_at hok h hb
  refine lv_istore hC.1.1 hC.1.2.1 hd (p_lv_has hF.1) hl rfl (fun mls' hm => ?_)
  exact k hok p l e R s m args below meth c D aC A Z hC ad H locs cells slots mls' _ hH ⟨p_lv_st1 (v := .int x) hF.1 hq hm, p_wl_s hF.2.1 hq (p_ws_h hF.2.2), p_ws_t hF.2.2⟩ (hn rfl) hc hs hK

theorem px_astore_n {d mc ms : Nat} {cd : pm_C} {i b : Nat} {xs : List Nat} {con : Int} {ls : List (Option Value)} {st : List Value} {S : pm_M} {Q : Option Value → pm_M → Prop} {q : Nat} {kk : Fin 4} {x : Nat} {ls' : List (Option Value)} (h : (cdE cd)[i]? = some (b, 1, .astore_n kk, xs, con)) (hkk : (kk : Nat) = q) (hq : p_S1 ls q (.ref x) ls') (hl : q < cdL cd) (k : Px d mc ms cd (i + 1) ls' st S Q) : Px d mc ms cd i ls (.ref x :: st) S Q := by
  intro hok p l e R s m args below meth c D aC A Z hC ad H locs cells slots mls b' hH hF hb hc hs hK
  obtain ⟨hd, hn, hx⟩ := p_at hok h hb
  refine lv_astore_n hC.1.1 hC.1.2.1 hd hkk (p_lv_has hF.1) hl rfl (fun mls' hm => ?_)
  exact k hok p l e R s m args below meth c D aC A Z hC ad H locs cells slots mls' _ hH ⟨p_lv_st1 (v := .ref x) hF.1 hq hm, p_wl_s hF.2.1 hq (p_ws_h hF.2.2), p_ws_t hF.2.2⟩ (hn rfl) hc hs hK

theorem px_astore {d mc ms : Nat} {cd : pm_C} {i b : Nat} {xs : List Nat} {con : Int} {ls : List (Option Value)} {st : List Value} {S : pm_M} {Q : Option Value → pm_M → Prop} {q : Nat} {x : Nat} {ls' : List (Option Value)} (h : (cdE cd)[i]? = some (b, 2, .astore q, xs, con)) (hq : p_S1 ls q (.ref x) ls') (hl : q < cdL cd) (k : Px d mc ms cd (i + 1) ls' st S Q) : Px d mc ms cd i ls (.ref x :: st) S Q := by
  intro hok p l e R s m args below meth c D aC A Z hC ad H locs cells slots mls b' hH hF hb hc hs hK
  obtain ⟨hd, hn, hx⟩ := p_at hok h hb
  refine lv_astore hC.1.1 hC.1.2.1 hd (p_lv_has hF.1) hl rfl (fun mls' hm => ?_)
  exact k hok p l e R s m args below meth c D aC A Z hC ad H locs cells slots mls' _ hH ⟨p_lv_st1 (v := .ref x) hF.1 hq hm, p_wl_s hF.2.1 hq (p_ws_h hF.2.2), p_ws_t hF.2.2⟩ (hn rfl) hc hs hK

theorem px_lstore_n {d mc ms : Nat} {cd : pm_C} {i b : Nat} {xs : List Nat} {con : Int} {ls : List (Option Value)} {st : List Value} {S : pm_M} {Q : Option Value → pm_M → Prop} {q : Nat} {kk : Fin 4} {x : Int64} {ls' : List (Option Value)} (h : (cdE cd)[i]? = some (b, 1, .lstore_n kk, xs, con)) (hkk : (kk : Nat) = q) (hq : p_S2 ls q (.long x) ls') (hl : q + 1 < cdL cd) (k : Px d mc ms cd (i + 1) ls' st S Q) : Px d mc ms cd i ls (.long x :: st) S Q := by
  intro hok p l e R s m args below meth c D aC A Z hC ad H locs cells slots mls b' hH hF hb hc hs hK
  obtain ⟨hd, hn, hx⟩ := p_at hok h hb
  refine lv_lstore_n hC.1.1 hC.1.2.1 hd hkk (p_lv_has hF.1) hl rfl (fun mls' hm => ?_)
  exact k hok p l e R s m args below meth c D aC A Z hC ad H locs cells slots mls' _ hH ⟨p_lv_st2 (v := .long x) hF.1 hq hm, p_wl_s2 hF.2.1 hq (p_ws_h hF.2.2), p_ws_t hF.2.2⟩ (hn rfl) hc hs hK

theorem px_lstore {d mc ms : Nat} {cd : pm_C} {i b : Nat} {xs : List Nat} {con : Int} {ls : List (Option Value)} {st : List Value} {S : pm_M} {Q : Option Value → pm_M → Prop} {q : Nat} {x : Int64} {ls' : List (Option Value)} (h : (cdE cd)[i]? = some (b, 2, .lstore q, xs, con)) (hq : p_S2 ls q (.long x) ls') (hl : q + 1 < cdL cd) (k : Px d mc ms cd (i + 1) ls' st S Q) : Px d mc ms cd i ls (.long x :: st) S Q := by
  intro hok p l e R s m args below meth c D aC A Z hC ad H locs cells slots mls b' hH hF hb hc hs hK
  obtain ⟨hd, hn, hx⟩ := p_at hok h hb
  refine lv_lstore hC.1.1 hC.1.2.1 hd (p_lv_has hF.1) hl rfl (fun mls' hm => ?_)
  exact k hok p l e R s m args below meth c D aC A Z hC ad H locs cells slots mls' _ hH ⟨p_lv_st2 (v := .long x) hF.1 hq hm, p_wl_s2 hF.2.1 hq (p_ws_h hF.2.2), p_ws_t hF.2.2⟩ (hn rfl) hc hs hK

theorem px_astore_nN {d mc ms : Nat} {cd : pm_C} {i b : Nat} {xs : List Nat} {con : Int} {ls : List (Option Value)} {st : List Value} {S : pm_M} {Q : Option Value → pm_M → Prop} {q : Nat} {kk : Fin 4} {ls' : List (Option Value)} (h : (cdE cd)[i]? = some (b, 1, .astore_n kk, xs, con)) (hkk : (kk : Nat) = q) (hq : p_S1 ls q (.null) ls') (hl : q < cdL cd) (k : Px d mc ms cd (i + 1) ls' st S Q) : Px d mc ms cd i ls (.null :: st) S Q := by
  intro hok p l e R s m args below meth c D aC A Z hC ad H locs cells slots mls b' hH hF hb hc hs hK
  obtain ⟨hd, hn, hx⟩ := p_at hok h hb
  refine lv_astore_nN hC.1.1 hC.1.2.1 hd hkk (p_lv_has hF.1) hl rfl (fun mls' hm => ?_)
  exact k hok p l e R s m args below meth c D aC A Z hC ad H locs cells slots mls' _ hH ⟨p_lv_st1 (v := .null) hF.1 hq hm, p_wl_s hF.2.1 hq (p_ws_h hF.2.2), p_ws_t hF.2.2⟩ (hn rfl) hc hs hK

theorem px_astoreN {d mc ms : Nat} {cd : pm_C} {i b : Nat} {xs : List Nat} {con : Int} {ls : List (Option Value)} {st : List Value} {S : pm_M} {Q : Option Value → pm_M → Prop} {q : Nat} {ls' : List (Option Value)} (h : (cdE cd)[i]? = some (b, 2, .astore q, xs, con)) (hq : p_S1 ls q (.null) ls') (hl : q < cdL cd) (k : Px d mc ms cd (i + 1) ls' st S Q) : Px d mc ms cd i ls (.null :: st) S Q := by
  intro hok p l e R s m args below meth c D aC A Z hC ad H locs cells slots mls b' hH hF hb hc hs hK
  obtain ⟨hd, hn, hx⟩ := p_at hok h hb
  refine lv_astoreN hC.1.1 hC.1.2.1 hd (p_lv_has hF.1) hl rfl (fun mls' hm => ?_)
  exact k hok p l e R s m args below meth c D aC A Z hC ad H locs cells slots mls' _ hH ⟨p_lv_st1 (v := .null) hF.1 hq hm, p_wl_s hF.2.1 hq (p_ws_h hF.2.2), p_ws_t hF.2.2⟩ (hn rfl) hc hs hK

theorem px_ist0 {d mc ms : Nat} {cd : pm_C} {i b : Nat} {xs : List Nat} {con : Int} {st : List Value} {S : pm_M} {Q : Option Value → pm_M → Prop} {o : Option Value} {t : List (Option Value)} {x : Int32} (h : (cdE cd)[i]? = some (b, 1, .istore_n 0, xs, con)) (hL : 0 < cdL cd) (k : Px d mc ms cd (i + 1) (some (.int x) :: t) st S Q) : Px d mc ms cd i (o :: t) (.int x :: st) S Q :=
  px_istore_n h rfl (p_S1_of [] t o (.int x) (fun a e => by cases e)) hL k

theorem px_ist1 {d mc ms : Nat} {cd : pm_C} {i b : Nat} {xs : List Nat} {con : Int} {st : List Value} {S : pm_M} {Q : Option Value → pm_M → Prop} {a0 : Option Value} {o : Option Value} {t : List (Option Value)} {x : Int32} (h : (cdE cd)[i]? = some (b, 1, .istore_n 1, xs, con)) (hl : p_isl a0 = false) (hL : 1 < cdL cd) (k : Px d mc ms cd (i + 1) (a0 :: some (.int x) :: t) st S Q) : Px d mc ms cd i (a0 :: o :: t) (.int x :: st) S Q :=
  px_istore_n h rfl (p_S1_of [a0] t o (.int x) (fun a e => by cases e; exact hl)) hL k

theorem px_ist2 {d mc ms : Nat} {cd : pm_C} {i b : Nat} {xs : List Nat} {con : Int} {st : List Value} {S : pm_M} {Q : Option Value → pm_M → Prop} {a0 a1 : Option Value} {o : Option Value} {t : List (Option Value)} {x : Int32} (h : (cdE cd)[i]? = some (b, 1, .istore_n 2, xs, con)) (hl : p_isl a1 = false) (hL : 2 < cdL cd) (k : Px d mc ms cd (i + 1) (a0 :: a1 :: some (.int x) :: t) st S Q) : Px d mc ms cd i (a0 :: a1 :: o :: t) (.int x :: st) S Q :=
  px_istore_n h rfl (p_S1_of [a0, a1] t o (.int x) (fun a e => by cases e; exact hl)) hL k

theorem px_ist3 {d mc ms : Nat} {cd : pm_C} {i b : Nat} {xs : List Nat} {con : Int} {st : List Value} {S : pm_M} {Q : Option Value → pm_M → Prop} {a0 a1 a2 : Option Value} {o : Option Value} {t : List (Option Value)} {x : Int32} (h : (cdE cd)[i]? = some (b, 1, .istore_n 3, xs, con)) (hl : p_isl a2 = false) (hL : 3 < cdL cd) (k : Px d mc ms cd (i + 1) (a0 :: a1 :: a2 :: some (.int x) :: t) st S Q) : Px d mc ms cd i (a0 :: a1 :: a2 :: o :: t) (.int x :: st) S Q :=
  px_istore_n h rfl (p_S1_of [a0, a1, a2] t o (.int x) (fun a e => by cases e; exact hl)) hL k

theorem px_ist4 {d mc ms : Nat} {cd : pm_C} {i b : Nat} {xs : List Nat} {con : Int} {st : List Value} {S : pm_M} {Q : Option Value → pm_M → Prop} {a0 a1 a2 a3 : Option Value} {o : Option Value} {t : List (Option Value)} {x : Int32} (h : (cdE cd)[i]? = some (b, 2, .istore 4, xs, con)) (hl : p_isl a3 = false) (hL : 4 < cdL cd) (k : Px d mc ms cd (i + 1) (a0 :: a1 :: a2 :: a3 :: some (.int x) :: t) st S Q) : Px d mc ms cd i (a0 :: a1 :: a2 :: a3 :: o :: t) (.int x :: st) S Q :=
  px_istore h (p_S1_of [a0, a1, a2, a3] t o (.int x) (fun a e => by cases e; exact hl)) hL k

theorem px_ist5 {d mc ms : Nat} {cd : pm_C} {i b : Nat} {xs : List Nat} {con : Int} {st : List Value} {S : pm_M} {Q : Option Value → pm_M → Prop} {a0 a1 a2 a3 a4 : Option Value} {o : Option Value} {t : List (Option Value)} {x : Int32} (h : (cdE cd)[i]? = some (b, 2, .istore 5, xs, con)) (hl : p_isl a4 = false) (hL : 5 < cdL cd) (k : Px d mc ms cd (i + 1) (a0 :: a1 :: a2 :: a3 :: a4 :: some (.int x) :: t) st S Q) : Px d mc ms cd i (a0 :: a1 :: a2 :: a3 :: a4 :: o :: t) (.int x :: st) S Q :=
  px_istore h (p_S1_of [a0, a1, a2, a3, a4] t o (.int x) (fun a e => by cases e; exact hl)) hL k

theorem px_ist6 {d mc ms : Nat} {cd : pm_C} {i b : Nat} {xs : List Nat} {con : Int} {st : List Value} {S : pm_M} {Q : Option Value → pm_M → Prop} {a0 a1 a2 a3 a4 a5 : Option Value} {o : Option Value} {t : List (Option Value)} {x : Int32} (h : (cdE cd)[i]? = some (b, 2, .istore 6, xs, con)) (hl : p_isl a5 = false) (hL : 6 < cdL cd) (k : Px d mc ms cd (i + 1) (a0 :: a1 :: a2 :: a3 :: a4 :: a5 :: some (.int x) :: t) st S Q) : Px d mc ms cd i (a0 :: a1 :: a2 :: a3 :: a4 :: a5 :: o :: t) (.int x :: st) S Q :=
  px_istore h (p_S1_of [a0, a1, a2, a3, a4, a5] t o (.int x) (fun a e => by cases e; exact hl)) hL k

theorem px_ist7 {d mc ms : Nat} {cd : pm_C} {i b : Nat} {xs : List Nat} {con : Int} {st : List Value} {S : pm_M} {Q : Option Value → pm_M → Prop} {a0 a1 a2 a3 a4 a5 a6 : Option Value} {o : Option Value} {t : List (Option Value)} {x : Int32} (h : (cdE cd)[i]? = some (b, 2, .istore 7, xs, con)) (hl : p_isl a6 = false) (hL : 7 < cdL cd) (k : Px d mc ms cd (i + 1) (a0 :: a1 :: a2 :: a3 :: a4 :: a5 :: a6 :: some (.int x) :: t) st S Q) : Px d mc ms cd i (a0 :: a1 :: a2 :: a3 :: a4 :: a5 :: a6 :: o :: t) (.int x :: st) S Q :=
  px_istore h (p_S1_of [a0, a1, a2, a3, a4, a5, a6] t o (.int x) (fun a e => by cases e; exact hl)) hL k

theorem px_ist8 {d mc ms : Nat} {cd : pm_C} {i b : Nat} {xs : List Nat} {con : Int} {st : List Value} {S : pm_M} {Q : Option Value → pm_M → Prop} {a0 a1 a2 a3 a4 a5 a6 a7 : Option Value} {o : Option Value} {t : List (Option Value)} {x : Int32} (h : (cdE cd)[i]? = some (b, 2, .istore 8, xs, con)) (hl : p_isl a7 = false) (hL : 8 < cdL cd) (k : Px d mc ms cd (i + 1) (a0 :: a1 :: a2 :: a3 :: a4 :: a5 :: a6 :: a7 :: some (.int x) :: t) st S Q) : Px d mc ms cd i (a0 :: a1 :: a2 :: a3 :: a4 :: a5 :: a6 :: a7 :: o :: t) (.int x :: st) S Q :=
  px_istore h (p_S1_of [a0, a1, a2, a3, a4, a5, a6, a7] t o (.int x) (fun a e => by cases e; exact hl)) hL k

theorem px_ist9 {d mc ms : Nat} {cd : pm_C} {i b : Nat} {xs : List Nat} {con : Int} {st : List Value} {S : pm_M} {Q : Option Value → pm_M → Prop} {a0 a1 a2 a3 a4 a5 a6 a7 a8 : Option Value} {o : Option Value} {t : List (Option Value)} {x : Int32} (h : (cdE cd)[i]? = some (b, 2, .istore 9, xs, con)) (hl : p_isl a8 = false) (hL : 9 < cdL cd) (k : Px d mc ms cd (i + 1) (a0 :: a1 :: a2 :: a3 :: a4 :: a5 :: a6 :: a7 :: a8 :: some (.int x) :: t) st S Q) : Px d mc ms cd i (a0 :: a1 :: a2 :: a3 :: a4 :: a5 :: a6 :: a7 :: a8 :: o :: t) (.int x :: st) S Q :=
  px_istore h (p_S1_of [a0, a1, a2, a3, a4, a5, a6, a7, a8] t o (.int x) (fun a e => by cases e; exact hl)) hL k

theorem px_ist10 {d mc ms : Nat} {cd : pm_C} {i b : Nat} {xs : List Nat} {con : Int} {st : List Value} {S : pm_M} {Q : Option Value → pm_M → Prop} {a0 a1 a2 a3 a4 a5 a6 a7 a8 a9 : Option Value} {o : Option Value} {t : List (Option Value)} {x : Int32} (h : (cdE cd)[i]? = some (b, 2, .istore 10, xs, con)) (hl : p_isl a9 = false) (hL : 10 < cdL cd) (k : Px d mc ms cd (i + 1) (a0 :: a1 :: a2 :: a3 :: a4 :: a5 :: a6 :: a7 :: a8 :: a9 :: some (.int x) :: t) st S Q) : Px d mc ms cd i (a0 :: a1 :: a2 :: a3 :: a4 :: a5 :: a6 :: a7 :: a8 :: a9 :: o :: t) (.int x :: st) S Q :=
  px_istore h (p_S1_of [a0, a1, a2, a3, a4, a5, a6, a7, a8, a9] t o (.int x) (fun a e => by cases e; exact hl)) hL k

theorem px_ist11 {d mc ms : Nat} {cd : pm_C} {i b : Nat} {xs : List Nat} {con : Int} {st : List Value} {S : pm_M} {Q : Option Value → pm_M → Prop} {a0 a1 a2 a3 a4 a5 a6 a7 a8 a9 a10 : Option Value} {o : Option Value} {t : List (Option Value)} {x : Int32} (h : (cdE cd)[i]? = some (b, 2, .istore 11, xs, con)) (hl : p_isl a10 = false) (hL : 11 < cdL cd) (k : Px d mc ms cd (i + 1) (a0 :: a1 :: a2 :: a3 :: a4 :: a5 :: a6 :: a7 :: a8 :: a9 :: a10 :: some (.int x) :: t) st S Q) : Px d mc ms cd i (a0 :: a1 :: a2 :: a3 :: a4 :: a5 :: a6 :: a7 :: a8 :: a9 :: a10 :: o :: t) (.int x :: st) S Q :=
  px_istore h (p_S1_of [a0, a1, a2, a3, a4, a5, a6, a7, a8, a9, a10] t o (.int x) (fun a e => by cases e; exact hl)) hL k

theorem px_ist12 {d mc ms : Nat} {cd : pm_C} {i b : Nat} {xs : List Nat} {con : Int} {st : List Value} {S : pm_M} {Q : Option Value → pm_M → Prop} {a0 a1 a2 a3 a4 a5 a6 a7 a8 a9 a10 a11 : Option Value} {o : Option Value} {t : List (Option Value)} {x : Int32} (h : (cdE cd)[i]? = some (b, 2, .istore 12, xs, con)) (hl : p_isl a11 = false) (hL : 12 < cdL cd) (k : Px d mc ms cd (i + 1) (a0 :: a1 :: a2 :: a3 :: a4 :: a5 :: a6 :: a7 :: a8 :: a9 :: a10 :: a11 :: some (.int x) :: t) st S Q) : Px d mc ms cd i (a0 :: a1 :: a2 :: a3 :: a4 :: a5 :: a6 :: a7 :: a8 :: a9 :: a10 :: a11 :: o :: t) (.int x :: st) S Q :=
  px_istore h (p_S1_of [a0, a1, a2, a3, a4, a5, a6, a7, a8, a9, a10, a11] t o (.int x) (fun a e => by cases e; exact hl)) hL k

theorem px_ast0 {d mc ms : Nat} {cd : pm_C} {i b : Nat} {xs : List Nat} {con : Int} {st : List Value} {S : pm_M} {Q : Option Value → pm_M → Prop} {o : Option Value} {t : List (Option Value)} {x : Nat} (h : (cdE cd)[i]? = some (b, 1, .astore_n 0, xs, con)) (hL : 0 < cdL cd) (k : Px d mc ms cd (i + 1) (some (.ref x) :: t) st S Q) : Px d mc ms cd i (o :: t) (.ref x :: st) S Q :=
  px_astore_n h rfl (p_S1_of [] t o (.ref x) (fun a e => by cases e)) hL k

theorem px_ast1 {d mc ms : Nat} {cd : pm_C} {i b : Nat} {xs : List Nat} {con : Int} {st : List Value} {S : pm_M} {Q : Option Value → pm_M → Prop} {a0 : Option Value} {o : Option Value} {t : List (Option Value)} {x : Nat} (h : (cdE cd)[i]? = some (b, 1, .astore_n 1, xs, con)) (hl : p_isl a0 = false) (hL : 1 < cdL cd) (k : Px d mc ms cd (i + 1) (a0 :: some (.ref x) :: t) st S Q) : Px d mc ms cd i (a0 :: o :: t) (.ref x :: st) S Q :=
  px_astore_n h rfl (p_S1_of [a0] t o (.ref x) (fun a e => by cases e; exact hl)) hL k

theorem px_ast2 {d mc ms : Nat} {cd : pm_C} {i b : Nat} {xs : List Nat} {con : Int} {st : List Value} {S : pm_M} {Q : Option Value → pm_M → Prop} {a0 a1 : Option Value} {o : Option Value} {t : List (Option Value)} {x : Nat} (h : (cdE cd)[i]? = some (b, 1, .astore_n 2, xs, con)) (hl : p_isl a1 = false) (hL : 2 < cdL cd) (k : Px d mc ms cd (i + 1) (a0 :: a1 :: some (.ref x) :: t) st S Q) : Px d mc ms cd i (a0 :: a1 :: o :: t) (.ref x :: st) S Q :=
  px_astore_n h rfl (p_S1_of [a0, a1] t o (.ref x) (fun a e => by cases e; exact hl)) hL k

theorem px_ast3 {d mc ms : Nat} {cd : pm_C} {i b : Nat} {xs : List Nat} {con : Int} {st : List Value} {S : pm_M} {Q : Option Value → pm_M → Prop} {a0 a1 a2 : Option Value} {o : Option Value} {t : List (Option Value)} {x : Nat} (h : (cdE cd)[i]? = some (b, 1, .astore_n 3, xs, con)) (hl : p_isl a2 = false) (hL : 3 < cdL cd) (k : Px d mc ms cd (i + 1) (a0 :: a1 :: a2 :: some (.ref x) :: t) st S Q) : Px d mc ms cd i (a0 :: a1 :: a2 :: o :: t) (.ref x :: st) S Q :=
  px_astore_n h rfl (p_S1_of [a0, a1, a2] t o (.ref x) (fun a e => by cases e; exact hl)) hL k

theorem px_ast4 {d mc ms : Nat} {cd : pm_C} {i b : Nat} {xs : List Nat} {con : Int} {st : List Value} {S : pm_M} {Q : Option Value → pm_M → Prop} {a0 a1 a2 a3 : Option Value} {o : Option Value} {t : List (Option Value)} {x : Nat} (h : (cdE cd)[i]? = some (b, 2, .astore 4, xs, con)) (hl : p_isl a3 = false) (hL : 4 < cdL cd) (k : Px d mc ms cd (i + 1) (a0 :: a1 :: a2 :: a3 :: some (.ref x) :: t) st S Q) : Px d mc ms cd i (a0 :: a1 :: a2 :: a3 :: o :: t) (.ref x :: st) S Q :=
  px_astore h (p_S1_of [a0, a1, a2, a3] t o (.ref x) (fun a e => by cases e; exact hl)) hL k

theorem px_ast5 {d mc ms : Nat} {cd : pm_C} {i b : Nat} {xs : List Nat} {con : Int} {st : List Value} {S : pm_M} {Q : Option Value → pm_M → Prop} {a0 a1 a2 a3 a4 : Option Value} {o : Option Value} {t : List (Option Value)} {x : Nat} (h : (cdE cd)[i]? = some (b, 2, .astore 5, xs, con)) (hl : p_isl a4 = false) (hL : 5 < cdL cd) (k : Px d mc ms cd (i + 1) (a0 :: a1 :: a2 :: a3 :: a4 :: some (.ref x) :: t) st S Q) : Px d mc ms cd i (a0 :: a1 :: a2 :: a3 :: a4 :: o :: t) (.ref x :: st) S Q :=
  px_astore h (p_S1_of [a0, a1, a2, a3, a4] t o (.ref x) (fun a e => by cases e; exact hl)) hL k

theorem px_ast6 {d mc ms : Nat} {cd : pm_C} {i b : Nat} {xs : List Nat} {con : Int} {st : List Value} {S : pm_M} {Q : Option Value → pm_M → Prop} {a0 a1 a2 a3 a4 a5 : Option Value} {o : Option Value} {t : List (Option Value)} {x : Nat} (h : (cdE cd)[i]? = some (b, 2, .astore 6, xs, con)) (hl : p_isl a5 = false) (hL : 6 < cdL cd) (k : Px d mc ms cd (i + 1) (a0 :: a1 :: a2 :: a3 :: a4 :: a5 :: some (.ref x) :: t) st S Q) : Px d mc ms cd i (a0 :: a1 :: a2 :: a3 :: a4 :: a5 :: o :: t) (.ref x :: st) S Q :=
  px_astore h (p_S1_of [a0, a1, a2, a3, a4, a5] t o (.ref x) (fun a e => by cases e; exact hl)) hL k

theorem px_ast7 {d mc ms : Nat} {cd : pm_C} {i b : Nat} {xs : List Nat} {con : Int} {st : List Value} {S : pm_M} {Q : Option Value → pm_M → Prop} {a0 a1 a2 a3 a4 a5 a6 : Option Value} {o : Option Value} {t : List (Option Value)} {x : Nat} (h : (cdE cd)[i]? = some (b, 2, .astore 7, xs, con)) (hl : p_isl a6 = false) (hL : 7 < cdL cd) (k : Px d mc ms cd (i + 1) (a0 :: a1 :: a2 :: a3 :: a4 :: a5 :: a6 :: some (.ref x) :: t) st S Q) : Px d mc ms cd i (a0 :: a1 :: a2 :: a3 :: a4 :: a5 :: a6 :: o :: t) (.ref x :: st) S Q :=
  px_astore h (p_S1_of [a0, a1, a2, a3, a4, a5, a6] t o (.ref x) (fun a e => by cases e; exact hl)) hL k

theorem px_ast8 {d mc ms : Nat} {cd : pm_C} {i b : Nat} {xs : List Nat} {con : Int} {st : List Value} {S : pm_M} {Q : Option Value → pm_M → Prop} {a0 a1 a2 a3 a4 a5 a6 a7 : Option Value} {o : Option Value} {t : List (Option Value)} {x : Nat} (h : (cdE cd)[i]? = some (b, 2, .astore 8, xs, con)) (hl : p_isl a7 = false) (hL : 8 < cdL cd) (k : Px d mc ms cd (i + 1) (a0 :: a1 :: a2 :: a3 :: a4 :: a5 :: a6 :: a7 :: some (.ref x) :: t) st S Q) : Px d mc ms cd i (a0 :: a1 :: a2 :: a3 :: a4 :: a5 :: a6 :: a7 :: o :: t) (.ref x :: st) S Q :=
  px_astore h (p_S1_of [a0, a1, a2, a3, a4, a5, a6, a7] t o (.ref x) (fun a e => by cases e; exact hl)) hL k

theorem px_ast9 {d mc ms : Nat} {cd : pm_C} {i b : Nat} {xs : List Nat} {con : Int} {st : List Value} {S : pm_M} {Q : Option Value → pm_M → Prop} {a0 a1 a2 a3 a4 a5 a6 a7 a8 : Option Value} {o : Option Value} {t : List (Option Value)} {x : Nat} (h : (cdE cd)[i]? = some (b, 2, .astore 9, xs, con)) (hl : p_isl a8 = false) (hL : 9 < cdL cd) (k : Px d mc ms cd (i + 1) (a0 :: a1 :: a2 :: a3 :: a4 :: a5 :: a6 :: a7 :: a8 :: some (.ref x) :: t) st S Q) : Px d mc ms cd i (a0 :: a1 :: a2 :: a3 :: a4 :: a5 :: a6 :: a7 :: a8 :: o :: t) (.ref x :: st) S Q :=
  px_astore h (p_S1_of [a0, a1, a2, a3, a4, a5, a6, a7, a8] t o (.ref x) (fun a e => by cases e; exact hl)) hL k

theorem px_ast10 {d mc ms : Nat} {cd : pm_C} {i b : Nat} {xs : List Nat} {con : Int} {st : List Value} {S : pm_M} {Q : Option Value → pm_M → Prop} {a0 a1 a2 a3 a4 a5 a6 a7 a8 a9 : Option Value} {o : Option Value} {t : List (Option Value)} {x : Nat} (h : (cdE cd)[i]? = some (b, 2, .astore 10, xs, con)) (hl : p_isl a9 = false) (hL : 10 < cdL cd) (k : Px d mc ms cd (i + 1) (a0 :: a1 :: a2 :: a3 :: a4 :: a5 :: a6 :: a7 :: a8 :: a9 :: some (.ref x) :: t) st S Q) : Px d mc ms cd i (a0 :: a1 :: a2 :: a3 :: a4 :: a5 :: a6 :: a7 :: a8 :: a9 :: o :: t) (.ref x :: st) S Q :=
  px_astore h (p_S1_of [a0, a1, a2, a3, a4, a5, a6, a7, a8, a9] t o (.ref x) (fun a e => by cases e; exact hl)) hL k

theorem px_ast11 {d mc ms : Nat} {cd : pm_C} {i b : Nat} {xs : List Nat} {con : Int} {st : List Value} {S : pm_M} {Q : Option Value → pm_M → Prop} {a0 a1 a2 a3 a4 a5 a6 a7 a8 a9 a10 : Option Value} {o : Option Value} {t : List (Option Value)} {x : Nat} (h : (cdE cd)[i]? = some (b, 2, .astore 11, xs, con)) (hl : p_isl a10 = false) (hL : 11 < cdL cd) (k : Px d mc ms cd (i + 1) (a0 :: a1 :: a2 :: a3 :: a4 :: a5 :: a6 :: a7 :: a8 :: a9 :: a10 :: some (.ref x) :: t) st S Q) : Px d mc ms cd i (a0 :: a1 :: a2 :: a3 :: a4 :: a5 :: a6 :: a7 :: a8 :: a9 :: a10 :: o :: t) (.ref x :: st) S Q :=
  px_astore h (p_S1_of [a0, a1, a2, a3, a4, a5, a6, a7, a8, a9, a10] t o (.ref x) (fun a e => by cases e; exact hl)) hL k

theorem px_ast12 {d mc ms : Nat} {cd : pm_C} {i b : Nat} {xs : List Nat} {con : Int} {st : List Value} {S : pm_M} {Q : Option Value → pm_M → Prop} {a0 a1 a2 a3 a4 a5 a6 a7 a8 a9 a10 a11 : Option Value} {o : Option Value} {t : List (Option Value)} {x : Nat} (h : (cdE cd)[i]? = some (b, 2, .astore 12, xs, con)) (hl : p_isl a11 = false) (hL : 12 < cdL cd) (k : Px d mc ms cd (i + 1) (a0 :: a1 :: a2 :: a3 :: a4 :: a5 :: a6 :: a7 :: a8 :: a9 :: a10 :: a11 :: some (.ref x) :: t) st S Q) : Px d mc ms cd i (a0 :: a1 :: a2 :: a3 :: a4 :: a5 :: a6 :: a7 :: a8 :: a9 :: a10 :: a11 :: o :: t) (.ref x :: st) S Q :=
  px_astore h (p_S1_of [a0, a1, a2, a3, a4, a5, a6, a7, a8, a9, a10, a11] t o (.ref x) (fun a e => by cases e; exact hl)) hL k

theorem px_lst0 {d mc ms : Nat} {cd : pm_C} {i b : Nat} {xs : List Nat} {con : Int} {st : List Value} {S : pm_M} {Q : Option Value → pm_M → Prop} {o o2 : Option Value} {t : List (Option Value)} {x : Int64} (h : (cdE cd)[i]? = some (b, 1, .lstore_n 0, xs, con)) (hL : 1 < cdL cd) (k : Px d mc ms cd (i + 1) (some (.long x) :: none :: t) st S Q) : Px d mc ms cd i (o :: o2 :: t) (.long x :: st) S Q :=
  px_lstore_n h rfl (p_S2_of [] t o o2 (.long x) (fun a e => by cases e)) hL k

theorem px_lst1 {d mc ms : Nat} {cd : pm_C} {i b : Nat} {xs : List Nat} {con : Int} {st : List Value} {S : pm_M} {Q : Option Value → pm_M → Prop} {a0 : Option Value} {o o2 : Option Value} {t : List (Option Value)} {x : Int64} (h : (cdE cd)[i]? = some (b, 1, .lstore_n 1, xs, con)) (hl : p_isl a0 = false) (hL : 2 < cdL cd) (k : Px d mc ms cd (i + 1) (a0 :: some (.long x) :: none :: t) st S Q) : Px d mc ms cd i (a0 :: o :: o2 :: t) (.long x :: st) S Q :=
  px_lstore_n h rfl (p_S2_of [a0] t o o2 (.long x) (fun a e => by cases e; exact hl)) hL k

theorem px_lst2 {d mc ms : Nat} {cd : pm_C} {i b : Nat} {xs : List Nat} {con : Int} {st : List Value} {S : pm_M} {Q : Option Value → pm_M → Prop} {a0 a1 : Option Value} {o o2 : Option Value} {t : List (Option Value)} {x : Int64} (h : (cdE cd)[i]? = some (b, 1, .lstore_n 2, xs, con)) (hl : p_isl a1 = false) (hL : 3 < cdL cd) (k : Px d mc ms cd (i + 1) (a0 :: a1 :: some (.long x) :: none :: t) st S Q) : Px d mc ms cd i (a0 :: a1 :: o :: o2 :: t) (.long x :: st) S Q :=
  px_lstore_n h rfl (p_S2_of [a0, a1] t o o2 (.long x) (fun a e => by cases e; exact hl)) hL k

theorem px_lst3 {d mc ms : Nat} {cd : pm_C} {i b : Nat} {xs : List Nat} {con : Int} {st : List Value} {S : pm_M} {Q : Option Value → pm_M → Prop} {a0 a1 a2 : Option Value} {o o2 : Option Value} {t : List (Option Value)} {x : Int64} (h : (cdE cd)[i]? = some (b, 1, .lstore_n 3, xs, con)) (hl : p_isl a2 = false) (hL : 4 < cdL cd) (k : Px d mc ms cd (i + 1) (a0 :: a1 :: a2 :: some (.long x) :: none :: t) st S Q) : Px d mc ms cd i (a0 :: a1 :: a2 :: o :: o2 :: t) (.long x :: st) S Q :=
  px_lstore_n h rfl (p_S2_of [a0, a1, a2] t o o2 (.long x) (fun a e => by cases e; exact hl)) hL k

theorem px_lst4 {d mc ms : Nat} {cd : pm_C} {i b : Nat} {xs : List Nat} {con : Int} {st : List Value} {S : pm_M} {Q : Option Value → pm_M → Prop} {a0 a1 a2 a3 : Option Value} {o o2 : Option Value} {t : List (Option Value)} {x : Int64} (h : (cdE cd)[i]? = some (b, 2, .lstore 4, xs, con)) (hl : p_isl a3 = false) (hL : 5 < cdL cd) (k : Px d mc ms cd (i + 1) (a0 :: a1 :: a2 :: a3 :: some (.long x) :: none :: t) st S Q) : Px d mc ms cd i (a0 :: a1 :: a2 :: a3 :: o :: o2 :: t) (.long x :: st) S Q :=
  px_lstore h (p_S2_of [a0, a1, a2, a3] t o o2 (.long x) (fun a e => by cases e; exact hl)) hL k

theorem px_lst5 {d mc ms : Nat} {cd : pm_C} {i b : Nat} {xs : List Nat} {con : Int} {st : List Value} {S : pm_M} {Q : Option Value → pm_M → Prop} {a0 a1 a2 a3 a4 : Option Value} {o o2 : Option Value} {t : List (Option Value)} {x : Int64} (h : (cdE cd)[i]? = some (b, 2, .lstore 5, xs, con)) (hl : p_isl a4 = false) (hL : 6 < cdL cd) (k : Px d mc ms cd (i + 1) (a0 :: a1 :: a2 :: a3 :: a4 :: some (.long x) :: none :: t) st S Q) : Px d mc ms cd i (a0 :: a1 :: a2 :: a3 :: a4 :: o :: o2 :: t) (.long x :: st) S Q :=
  px_lstore h (p_S2_of [a0, a1, a2, a3, a4] t o o2 (.long x) (fun a e => by cases e; exact hl)) hL k

theorem px_lst6 {d mc ms : Nat} {cd : pm_C} {i b : Nat} {xs : List Nat} {con : Int} {st : List Value} {S : pm_M} {Q : Option Value → pm_M → Prop} {a0 a1 a2 a3 a4 a5 : Option Value} {o o2 : Option Value} {t : List (Option Value)} {x : Int64} (h : (cdE cd)[i]? = some (b, 2, .lstore 6, xs, con)) (hl : p_isl a5 = false) (hL : 7 < cdL cd) (k : Px d mc ms cd (i + 1) (a0 :: a1 :: a2 :: a3 :: a4 :: a5 :: some (.long x) :: none :: t) st S Q) : Px d mc ms cd i (a0 :: a1 :: a2 :: a3 :: a4 :: a5 :: o :: o2 :: t) (.long x :: st) S Q :=
  px_lstore h (p_S2_of [a0, a1, a2, a3, a4, a5] t o o2 (.long x) (fun a e => by cases e; exact hl)) hL k

theorem px_lst7 {d mc ms : Nat} {cd : pm_C} {i b : Nat} {xs : List Nat} {con : Int} {st : List Value} {S : pm_M} {Q : Option Value → pm_M → Prop} {a0 a1 a2 a3 a4 a5 a6 : Option Value} {o o2 : Option Value} {t : List (Option Value)} {x : Int64} (h : (cdE cd)[i]? = some (b, 2, .lstore 7, xs, con)) (hl : p_isl a6 = false) (hL : 8 < cdL cd) (k : Px d mc ms cd (i + 1) (a0 :: a1 :: a2 :: a3 :: a4 :: a5 :: a6 :: some (.long x) :: none :: t) st S Q) : Px d mc ms cd i (a0 :: a1 :: a2 :: a3 :: a4 :: a5 :: a6 :: o :: o2 :: t) (.long x :: st) S Q :=
  px_lstore h (p_S2_of [a0, a1, a2, a3, a4, a5, a6] t o o2 (.long x) (fun a e => by cases e; exact hl)) hL k

theorem px_lst8 {d mc ms : Nat} {cd : pm_C} {i b : Nat} {xs : List Nat} {con : Int} {st : List Value} {S : pm_M} {Q : Option Value → pm_M → Prop} {a0 a1 a2 a3 a4 a5 a6 a7 : Option Value} {o o2 : Option Value} {t : List (Option Value)} {x : Int64} (h : (cdE cd)[i]? = some (b, 2, .lstore 8, xs, con)) (hl : p_isl a7 = false) (hL : 9 < cdL cd) (k : Px d mc ms cd (i + 1) (a0 :: a1 :: a2 :: a3 :: a4 :: a5 :: a6 :: a7 :: some (.long x) :: none :: t) st S Q) : Px d mc ms cd i (a0 :: a1 :: a2 :: a3 :: a4 :: a5 :: a6 :: a7 :: o :: o2 :: t) (.long x :: st) S Q :=
  px_lstore h (p_S2_of [a0, a1, a2, a3, a4, a5, a6, a7] t o o2 (.long x) (fun a e => by cases e; exact hl)) hL k

theorem px_lst9 {d mc ms : Nat} {cd : pm_C} {i b : Nat} {xs : List Nat} {con : Int} {st : List Value} {S : pm_M} {Q : Option Value → pm_M → Prop} {a0 a1 a2 a3 a4 a5 a6 a7 a8 : Option Value} {o o2 : Option Value} {t : List (Option Value)} {x : Int64} (h : (cdE cd)[i]? = some (b, 2, .lstore 9, xs, con)) (hl : p_isl a8 = false) (hL : 10 < cdL cd) (k : Px d mc ms cd (i + 1) (a0 :: a1 :: a2 :: a3 :: a4 :: a5 :: a6 :: a7 :: a8 :: some (.long x) :: none :: t) st S Q) : Px d mc ms cd i (a0 :: a1 :: a2 :: a3 :: a4 :: a5 :: a6 :: a7 :: a8 :: o :: o2 :: t) (.long x :: st) S Q :=
  px_lstore h (p_S2_of [a0, a1, a2, a3, a4, a5, a6, a7, a8] t o o2 (.long x) (fun a e => by cases e; exact hl)) hL k

theorem px_lst10 {d mc ms : Nat} {cd : pm_C} {i b : Nat} {xs : List Nat} {con : Int} {st : List Value} {S : pm_M} {Q : Option Value → pm_M → Prop} {a0 a1 a2 a3 a4 a5 a6 a7 a8 a9 : Option Value} {o o2 : Option Value} {t : List (Option Value)} {x : Int64} (h : (cdE cd)[i]? = some (b, 2, .lstore 10, xs, con)) (hl : p_isl a9 = false) (hL : 11 < cdL cd) (k : Px d mc ms cd (i + 1) (a0 :: a1 :: a2 :: a3 :: a4 :: a5 :: a6 :: a7 :: a8 :: a9 :: some (.long x) :: none :: t) st S Q) : Px d mc ms cd i (a0 :: a1 :: a2 :: a3 :: a4 :: a5 :: a6 :: a7 :: a8 :: a9 :: o :: o2 :: t) (.long x :: st) S Q :=
  px_lstore h (p_S2_of [a0, a1, a2, a3, a4, a5, a6, a7, a8, a9] t o o2 (.long x) (fun a e => by cases e; exact hl)) hL k

theorem px_lst11 {d mc ms : Nat} {cd : pm_C} {i b : Nat} {xs : List Nat} {con : Int} {st : List Value} {S : pm_M} {Q : Option Value → pm_M → Prop} {a0 a1 a2 a3 a4 a5 a6 a7 a8 a9 a10 : Option Value} {o o2 : Option Value} {t : List (Option Value)} {x : Int64} (h : (cdE cd)[i]? = some (b, 2, .lstore 11, xs, con)) (hl : p_isl a10 = false) (hL : 12 < cdL cd) (k : Px d mc ms cd (i + 1) (a0 :: a1 :: a2 :: a3 :: a4 :: a5 :: a6 :: a7 :: a8 :: a9 :: a10 :: some (.long x) :: none :: t) st S Q) : Px d mc ms cd i (a0 :: a1 :: a2 :: a3 :: a4 :: a5 :: a6 :: a7 :: a8 :: a9 :: a10 :: o :: o2 :: t) (.long x :: st) S Q :=
  px_lstore h (p_S2_of [a0, a1, a2, a3, a4, a5, a6, a7, a8, a9, a10] t o o2 (.long x) (fun a e => by cases e; exact hl)) hL k

theorem px_lst12 {d mc ms : Nat} {cd : pm_C} {i b : Nat} {xs : List Nat} {con : Int} {st : List Value} {S : pm_M} {Q : Option Value → pm_M → Prop} {a0 a1 a2 a3 a4 a5 a6 a7 a8 a9 a10 a11 : Option Value} {o o2 : Option Value} {t : List (Option Value)} {x : Int64} (h : (cdE cd)[i]? = some (b, 2, .lstore 12, xs, con)) (hl : p_isl a11 = false) (hL : 13 < cdL cd) (k : Px d mc ms cd (i + 1) (a0 :: a1 :: a2 :: a3 :: a4 :: a5 :: a6 :: a7 :: a8 :: a9 :: a10 :: a11 :: some (.long x) :: none :: t) st S Q) : Px d mc ms cd i (a0 :: a1 :: a2 :: a3 :: a4 :: a5 :: a6 :: a7 :: a8 :: a9 :: a10 :: a11 :: o :: o2 :: t) (.long x :: st) S Q :=
  px_lstore h (p_S2_of [a0, a1, a2, a3, a4, a5, a6, a7, a8, a9, a10, a11] t o o2 (.long x) (fun a e => by cases e; exact hl)) hL k

theorem px_iinc_g {d mc ms : Nat} {cd : pm_C} {i b : Nat} {xs : List Nat} {con : Int} {ls : List (Option Value)} {st : List Value} {S : pm_M} {Q : Option Value → pm_M → Prop} {q : Nat} {n : Int} {x v : Int32} {ls' : List (Option Value)} (h : (cdE cd)[i]? = some (b, 3, .iinc q n, xs, con)) (hx0 : ls[q]? = some (some (.int x))) (hv : x + Int32.ofInt n = v) (hq : p_S1 ls q (.int v) ls') (hl : q < cdL cd) (k : Px d mc ms cd (i + 1) ls' st S Q) : Px d mc ms cd i ls st S Q := by
  intro hok p l e R s m args below meth c D aC A Z hC ad H locs cells slots mls b' hH hF hb hc hs hK
  obtain ⟨hd, hn, hx⟩ := p_at hok h hb
  obtain ⟨j, hj⟩ := List.getElem?_of_mem (p_al_mem (ad := ad) (q := (q, Value.int x)).mpr ⟨_, hx0, rfl⟩)
  refine lv_iinc hC.1.1 hC.1.2.1 hd (p_lv_has hF.1) hj hv hl rfl (fun mls' hm => ?_)
  exact k hok p l e R s m args below meth c D aC A Z hC ad H locs cells slots mls' _ hH ⟨p_lv_st1 (v := .int v) hF.1 hq hm, p_wl_s hF.2.1 hq (fun r e => by cases e), hF.2.2⟩ (hn rfl) hc hs hK

theorem px_iinc0 {d mc ms : Nat} {cd : pm_C} {i b : Nat} {xs : List Nat} {con : Int} {st : List Value} {S : pm_M} {Q : Option Value → pm_M → Prop} {t : List (Option Value)} {x v : Int32} {n : Int} (h : (cdE cd)[i]? = some (b, 3, .iinc 0 n, xs, con)) (hv : x + Int32.ofInt n = v) (hL : 0 < cdL cd) (k : Px d mc ms cd (i + 1) (some (.int v) :: t) st S Q) : Px d mc ms cd i (some (.int x) :: t) st S Q :=
  px_iinc_g h rfl hv (p_S1_of [] t (some (.int x)) (.int v) (fun a e => by cases e)) hL k

theorem px_iinc1 {d mc ms : Nat} {cd : pm_C} {i b : Nat} {xs : List Nat} {con : Int} {st : List Value} {S : pm_M} {Q : Option Value → pm_M → Prop} {a0 : Option Value} {t : List (Option Value)} {x v : Int32} {n : Int} (h : (cdE cd)[i]? = some (b, 3, .iinc 1 n, xs, con)) (hv : x + Int32.ofInt n = v) (hl : p_isl a0 = false) (hL : 1 < cdL cd) (k : Px d mc ms cd (i + 1) (a0 :: some (.int v) :: t) st S Q) : Px d mc ms cd i (a0 :: some (.int x) :: t) st S Q :=
  px_iinc_g h rfl hv (p_S1_of [a0] t (some (.int x)) (.int v) (fun a e => by cases e; exact hl)) hL k

theorem px_iinc2 {d mc ms : Nat} {cd : pm_C} {i b : Nat} {xs : List Nat} {con : Int} {st : List Value} {S : pm_M} {Q : Option Value → pm_M → Prop} {a0 a1 : Option Value} {t : List (Option Value)} {x v : Int32} {n : Int} (h : (cdE cd)[i]? = some (b, 3, .iinc 2 n, xs, con)) (hv : x + Int32.ofInt n = v) (hl : p_isl a1 = false) (hL : 2 < cdL cd) (k : Px d mc ms cd (i + 1) (a0 :: a1 :: some (.int v) :: t) st S Q) : Px d mc ms cd i (a0 :: a1 :: some (.int x) :: t) st S Q :=
  px_iinc_g h rfl hv (p_S1_of [a0, a1] t (some (.int x)) (.int v) (fun a e => by cases e; exact hl)) hL k

theorem px_iinc3 {d mc ms : Nat} {cd : pm_C} {i b : Nat} {xs : List Nat} {con : Int} {st : List Value} {S : pm_M} {Q : Option Value → pm_M → Prop} {a0 a1 a2 : Option Value} {t : List (Option Value)} {x v : Int32} {n : Int} (h : (cdE cd)[i]? = some (b, 3, .iinc 3 n, xs, con)) (hv : x + Int32.ofInt n = v) (hl : p_isl a2 = false) (hL : 3 < cdL cd) (k : Px d mc ms cd (i + 1) (a0 :: a1 :: a2 :: some (.int v) :: t) st S Q) : Px d mc ms cd i (a0 :: a1 :: a2 :: some (.int x) :: t) st S Q :=
  px_iinc_g h rfl hv (p_S1_of [a0, a1, a2] t (some (.int x)) (.int v) (fun a e => by cases e; exact hl)) hL k

theorem px_iinc4 {d mc ms : Nat} {cd : pm_C} {i b : Nat} {xs : List Nat} {con : Int} {st : List Value} {S : pm_M} {Q : Option Value → pm_M → Prop} {a0 a1 a2 a3 : Option Value} {t : List (Option Value)} {x v : Int32} {n : Int} (h : (cdE cd)[i]? = some (b, 3, .iinc 4 n, xs, con)) (hv : x + Int32.ofInt n = v) (hl : p_isl a3 = false) (hL : 4 < cdL cd) (k : Px d mc ms cd (i + 1) (a0 :: a1 :: a2 :: a3 :: some (.int v) :: t) st S Q) : Px d mc ms cd i (a0 :: a1 :: a2 :: a3 :: some (.int x) :: t) st S Q :=
  px_iinc_g h rfl hv (p_S1_of [a0, a1, a2, a3] t (some (.int x)) (.int v) (fun a e => by cases e; exact hl)) hL k

theorem px_iinc5 {d mc ms : Nat} {cd : pm_C} {i b : Nat} {xs : List Nat} {con : Int} {st : List Value} {S : pm_M} {Q : Option Value → pm_M → Prop} {a0 a1 a2 a3 a4 : Option Value} {t : List (Option Value)} {x v : Int32} {n : Int} (h : (cdE cd)[i]? = some (b, 3, .iinc 5 n, xs, con)) (hv : x + Int32.ofInt n = v) (hl : p_isl a4 = false) (hL : 5 < cdL cd) (k : Px d mc ms cd (i + 1) (a0 :: a1 :: a2 :: a3 :: a4 :: some (.int v) :: t) st S Q) : Px d mc ms cd i (a0 :: a1 :: a2 :: a3 :: a4 :: some (.int x) :: t) st S Q :=
  px_iinc_g h rfl hv (p_S1_of [a0, a1, a2, a3, a4] t (some (.int x)) (.int v) (fun a e => by cases e; exact hl)) hL k

theorem px_iinc6 {d mc ms : Nat} {cd : pm_C} {i b : Nat} {xs : List Nat} {con : Int} {st : List Value} {S : pm_M} {Q : Option Value → pm_M → Prop} {a0 a1 a2 a3 a4 a5 : Option Value} {t : List (Option Value)} {x v : Int32} {n : Int} (h : (cdE cd)[i]? = some (b, 3, .iinc 6 n, xs, con)) (hv : x + Int32.ofInt n = v) (hl : p_isl a5 = false) (hL : 6 < cdL cd) (k : Px d mc ms cd (i + 1) (a0 :: a1 :: a2 :: a3 :: a4 :: a5 :: some (.int v) :: t) st S Q) : Px d mc ms cd i (a0 :: a1 :: a2 :: a3 :: a4 :: a5 :: some (.int x) :: t) st S Q :=
  px_iinc_g h rfl hv (p_S1_of [a0, a1, a2, a3, a4, a5] t (some (.int x)) (.int v) (fun a e => by cases e; exact hl)) hL k

theorem px_iinc7 {d mc ms : Nat} {cd : pm_C} {i b : Nat} {xs : List Nat} {con : Int} {st : List Value} {S : pm_M} {Q : Option Value → pm_M → Prop} {a0 a1 a2 a3 a4 a5 a6 : Option Value} {t : List (Option Value)} {x v : Int32} {n : Int} (h : (cdE cd)[i]? = some (b, 3, .iinc 7 n, xs, con)) (hv : x + Int32.ofInt n = v) (hl : p_isl a6 = false) (hL : 7 < cdL cd) (k : Px d mc ms cd (i + 1) (a0 :: a1 :: a2 :: a3 :: a4 :: a5 :: a6 :: some (.int v) :: t) st S Q) : Px d mc ms cd i (a0 :: a1 :: a2 :: a3 :: a4 :: a5 :: a6 :: some (.int x) :: t) st S Q :=
  px_iinc_g h rfl hv (p_S1_of [a0, a1, a2, a3, a4, a5, a6] t (some (.int x)) (.int v) (fun a e => by cases e; exact hl)) hL k

theorem px_iinc8 {d mc ms : Nat} {cd : pm_C} {i b : Nat} {xs : List Nat} {con : Int} {st : List Value} {S : pm_M} {Q : Option Value → pm_M → Prop} {a0 a1 a2 a3 a4 a5 a6 a7 : Option Value} {t : List (Option Value)} {x v : Int32} {n : Int} (h : (cdE cd)[i]? = some (b, 3, .iinc 8 n, xs, con)) (hv : x + Int32.ofInt n = v) (hl : p_isl a7 = false) (hL : 8 < cdL cd) (k : Px d mc ms cd (i + 1) (a0 :: a1 :: a2 :: a3 :: a4 :: a5 :: a6 :: a7 :: some (.int v) :: t) st S Q) : Px d mc ms cd i (a0 :: a1 :: a2 :: a3 :: a4 :: a5 :: a6 :: a7 :: some (.int x) :: t) st S Q :=
  px_iinc_g h rfl hv (p_S1_of [a0, a1, a2, a3, a4, a5, a6, a7] t (some (.int x)) (.int v) (fun a e => by cases e; exact hl)) hL k

theorem px_iinc9 {d mc ms : Nat} {cd : pm_C} {i b : Nat} {xs : List Nat} {con : Int} {st : List Value} {S : pm_M} {Q : Option Value → pm_M → Prop} {a0 a1 a2 a3 a4 a5 a6 a7 a8 : Option Value} {t : List (Option Value)} {x v : Int32} {n : Int} (h : (cdE cd)[i]? = some (b, 3, .iinc 9 n, xs, con)) (hv : x + Int32.ofInt n = v) (hl : p_isl a8 = false) (hL : 9 < cdL cd) (k : Px d mc ms cd (i + 1) (a0 :: a1 :: a2 :: a3 :: a4 :: a5 :: a6 :: a7 :: a8 :: some (.int v) :: t) st S Q) : Px d mc ms cd i (a0 :: a1 :: a2 :: a3 :: a4 :: a5 :: a6 :: a7 :: a8 :: some (.int x) :: t) st S Q :=
  px_iinc_g h rfl hv (p_S1_of [a0, a1, a2, a3, a4, a5, a6, a7, a8] t (some (.int x)) (.int v) (fun a e => by cases e; exact hl)) hL k

theorem px_iinc10 {d mc ms : Nat} {cd : pm_C} {i b : Nat} {xs : List Nat} {con : Int} {st : List Value} {S : pm_M} {Q : Option Value → pm_M → Prop} {a0 a1 a2 a3 a4 a5 a6 a7 a8 a9 : Option Value} {t : List (Option Value)} {x v : Int32} {n : Int} (h : (cdE cd)[i]? = some (b, 3, .iinc 10 n, xs, con)) (hv : x + Int32.ofInt n = v) (hl : p_isl a9 = false) (hL : 10 < cdL cd) (k : Px d mc ms cd (i + 1) (a0 :: a1 :: a2 :: a3 :: a4 :: a5 :: a6 :: a7 :: a8 :: a9 :: some (.int v) :: t) st S Q) : Px d mc ms cd i (a0 :: a1 :: a2 :: a3 :: a4 :: a5 :: a6 :: a7 :: a8 :: a9 :: some (.int x) :: t) st S Q :=
  px_iinc_g h rfl hv (p_S1_of [a0, a1, a2, a3, a4, a5, a6, a7, a8, a9] t (some (.int x)) (.int v) (fun a e => by cases e; exact hl)) hL k

theorem px_iinc11 {d mc ms : Nat} {cd : pm_C} {i b : Nat} {xs : List Nat} {con : Int} {st : List Value} {S : pm_M} {Q : Option Value → pm_M → Prop} {a0 a1 a2 a3 a4 a5 a6 a7 a8 a9 a10 : Option Value} {t : List (Option Value)} {x v : Int32} {n : Int} (h : (cdE cd)[i]? = some (b, 3, .iinc 11 n, xs, con)) (hv : x + Int32.ofInt n = v) (hl : p_isl a10 = false) (hL : 11 < cdL cd) (k : Px d mc ms cd (i + 1) (a0 :: a1 :: a2 :: a3 :: a4 :: a5 :: a6 :: a7 :: a8 :: a9 :: a10 :: some (.int v) :: t) st S Q) : Px d mc ms cd i (a0 :: a1 :: a2 :: a3 :: a4 :: a5 :: a6 :: a7 :: a8 :: a9 :: a10 :: some (.int x) :: t) st S Q :=
  px_iinc_g h rfl hv (p_S1_of [a0, a1, a2, a3, a4, a5, a6, a7, a8, a9, a10] t (some (.int x)) (.int v) (fun a e => by cases e; exact hl)) hL k

theorem px_iinc12 {d mc ms : Nat} {cd : pm_C} {i b : Nat} {xs : List Nat} {con : Int} {st : List Value} {S : pm_M} {Q : Option Value → pm_M → Prop} {a0 a1 a2 a3 a4 a5 a6 a7 a8 a9 a10 a11 : Option Value} {t : List (Option Value)} {x v : Int32} {n : Int} (h : (cdE cd)[i]? = some (b, 3, .iinc 12 n, xs, con)) (hv : x + Int32.ofInt n = v) (hl : p_isl a11 = false) (hL : 12 < cdL cd) (k : Px d mc ms cd (i + 1) (a0 :: a1 :: a2 :: a3 :: a4 :: a5 :: a6 :: a7 :: a8 :: a9 :: a10 :: a11 :: some (.int v) :: t) st S Q) : Px d mc ms cd i (a0 :: a1 :: a2 :: a3 :: a4 :: a5 :: a6 :: a7 :: a8 :: a9 :: a10 :: a11 :: some (.int x) :: t) st S Q :=
  px_iinc_g h rfl hv (p_S1_of [a0, a1, a2, a3, a4, a5, a6, a7, a8, a9, a10, a11] t (some (.int x)) (.int v) (fun a e => by cases e; exact hl)) hL k

theorem px_if_eq {d mc ms : Nat} {cd : pm_C} {i b : Nat} {con : Int} {t : Nat} {off : Int} {ls : List (Option Value)} {st : List Value} {S : pm_M} {Q : Option Value → pm_M → Prop} {x : Int32} (h : (cdE cd)[i]? = some (b, 3, .ifCond .eq off, [t], con)) (kt : x = 0 → Px d mc ms cd t ls st S Q) (kf : ¬ (x = 0) → Px d mc ms cd (i + 1) ls st S Q) : Px d mc ms cd i ls (.int x :: st) S Q := by
  intro hok p l e R s m args below meth c D aC A Z hC ad H locs cells slots mls b' hH hF hb hc hs hK
  obtain ⟨hd, hn, hx⟩ := p_at hok h hb
  obtain ⟨tg, ht, hto⟩ := p_tg_of hx
  exact lv_if_eq hC.1.1 hC.1.2.1 hd hto (fun q => kt q hok p l e R s m args below meth c D aC A Z hC ad H locs cells slots mls _ hH ⟨hF.1, hF.2.1, p_ws_t hF.2.2⟩ ht hc hs hK) (fun q => kf q hok p l e R s m args below meth c D aC A Z hC ad H locs cells slots mls _ hH ⟨hF.1, hF.2.1, p_ws_t hF.2.2⟩ (hn rfl) hc hs hK)

theorem px_if_ne {d mc ms : Nat} {cd : pm_C} {i b : Nat} {con : Int} {t : Nat} {off : Int} {ls : List (Option Value)} {st : List Value} {S : pm_M} {Q : Option Value → pm_M → Prop} {x : Int32} (h : (cdE cd)[i]? = some (b, 3, .ifCond .ne off, [t], con)) (kt : x ≠ 0 → Px d mc ms cd t ls st S Q) (kf : x = 0 → Px d mc ms cd (i + 1) ls st S Q) : Px d mc ms cd i ls (.int x :: st) S Q := by
  intro hok p l e R s m args below meth c D aC A Z hC ad H locs cells slots mls b' hH hF hb hc hs hK
  obtain ⟨hd, hn, hx⟩ := p_at hok h hb
  obtain ⟨tg, ht, hto⟩ := p_tg_of hx
  exact lv_if_ne hC.1.1 hC.1.2.1 hd hto (fun q => kt q hok p l e R s m args below meth c D aC A Z hC ad H locs cells slots mls _ hH ⟨hF.1, hF.2.1, p_ws_t hF.2.2⟩ ht hc hs hK) (fun q => kf q hok p l e R s m args below meth c D aC A Z hC ad H locs cells slots mls _ hH ⟨hF.1, hF.2.1, p_ws_t hF.2.2⟩ (hn rfl) hc hs hK)

theorem px_if_lt {d mc ms : Nat} {cd : pm_C} {i b : Nat} {con : Int} {t : Nat} {off : Int} {ls : List (Option Value)} {st : List Value} {S : pm_M} {Q : Option Value → pm_M → Prop} {x : Int32} (h : (cdE cd)[i]? = some (b, 3, .ifCond .lt off, [t], con)) (kt : x < 0 → Px d mc ms cd t ls st S Q) (kf : ¬ (x < 0) → Px d mc ms cd (i + 1) ls st S Q) : Px d mc ms cd i ls (.int x :: st) S Q := by
  intro hok p l e R s m args below meth c D aC A Z hC ad H locs cells slots mls b' hH hF hb hc hs hK
  obtain ⟨hd, hn, hx⟩ := p_at hok h hb
  obtain ⟨tg, ht, hto⟩ := p_tg_of hx
  exact lv_if_lt hC.1.1 hC.1.2.1 hd hto (fun q => kt q hok p l e R s m args below meth c D aC A Z hC ad H locs cells slots mls _ hH ⟨hF.1, hF.2.1, p_ws_t hF.2.2⟩ ht hc hs hK) (fun q => kf q hok p l e R s m args below meth c D aC A Z hC ad H locs cells slots mls _ hH ⟨hF.1, hF.2.1, p_ws_t hF.2.2⟩ (hn rfl) hc hs hK)

theorem px_if_ge {d mc ms : Nat} {cd : pm_C} {i b : Nat} {con : Int} {t : Nat} {off : Int} {ls : List (Option Value)} {st : List Value} {S : pm_M} {Q : Option Value → pm_M → Prop} {x : Int32} (h : (cdE cd)[i]? = some (b, 3, .ifCond .ge off, [t], con)) (kt : 0 ≤ x → Px d mc ms cd t ls st S Q) (kf : ¬ (0 ≤ x) → Px d mc ms cd (i + 1) ls st S Q) : Px d mc ms cd i ls (.int x :: st) S Q := by
  intro hok p l e R s m args below meth c D aC A Z hC ad H locs cells slots mls b' hH hF hb hc hs hK
  obtain ⟨hd, hn, hx⟩ := p_at hok h hb
  obtain ⟨tg, ht, hto⟩ := p_tg_of hx
  exact lv_if_ge hC.1.1 hC.1.2.1 hd hto (fun q => kt q hok p l e R s m args below meth c D aC A Z hC ad H locs cells slots mls _ hH ⟨hF.1, hF.2.1, p_ws_t hF.2.2⟩ ht hc hs hK) (fun q => kf q hok p l e R s m args below meth c D aC A Z hC ad H locs cells slots mls _ hH ⟨hF.1, hF.2.1, p_ws_t hF.2.2⟩ (hn rfl) hc hs hK)

theorem px_if_gt {d mc ms : Nat} {cd : pm_C} {i b : Nat} {con : Int} {t : Nat} {off : Int} {ls : List (Option Value)} {st : List Value} {S : pm_M} {Q : Option Value → pm_M → Prop} {x : Int32} (h : (cdE cd)[i]? = some (b, 3, .ifCond .gt off, [t], con)) (kt : 0 < x → Px d mc ms cd t ls st S Q) (kf : ¬ (0 < x) → Px d mc ms cd (i + 1) ls st S Q) : Px d mc ms cd i ls (.int x :: st) S Q := by
  intro hok p l e R s m args below meth c D aC A Z hC ad H locs cells slots mls b' hH hF hb hc hs hK
  obtain ⟨hd, hn, hx⟩ := p_at hok h hb
  obtain ⟨tg, ht, hto⟩ := p_tg_of hx
  exact lv_if_gt hC.1.1 hC.1.2.1 hd hto (fun q => kt q hok p l e R s m args below meth c D aC A Z hC ad H locs cells slots mls _ hH ⟨hF.1, hF.2.1, p_ws_t hF.2.2⟩ ht hc hs hK) (fun q => kf q hok p l e R s m args below meth c D aC A Z hC ad H locs cells slots mls _ hH ⟨hF.1, hF.2.1, p_ws_t hF.2.2⟩ (hn rfl) hc hs hK)

theorem px_if_le {d mc ms : Nat} {cd : pm_C} {i b : Nat} {con : Int} {t : Nat} {off : Int} {ls : List (Option Value)} {st : List Value} {S : pm_M} {Q : Option Value → pm_M → Prop} {x : Int32} (h : (cdE cd)[i]? = some (b, 3, .ifCond .le off, [t], con)) (kt : x ≤ 0 → Px d mc ms cd t ls st S Q) (kf : ¬ (x ≤ 0) → Px d mc ms cd (i + 1) ls st S Q) : Px d mc ms cd i ls (.int x :: st) S Q := by
  intro hok p l e R s m args below meth c D aC A Z hC ad H locs cells slots mls b' hH hF hb hc hs hK
  obtain ⟨hd, hn, hx⟩ := p_at hok h hb
  obtain ⟨tg, ht, hto⟩ := p_tg_of hx
  exact lv_if_le hC.1.1 hC.1.2.1 hd hto (fun q => kt q hok p l e R s m args below meth c D aC A Z hC ad H locs cells slots mls _ hH ⟨hF.1, hF.2.1, p_ws_t hF.2.2⟩ ht hc hs hK) (fun q => kf q hok p l e R s m args below meth c D aC A Z hC ad H locs cells slots mls _ hH ⟨hF.1, hF.2.1, p_ws_t hF.2.2⟩ (hn rfl) hc hs hK)

theorem px_icmp_eq {d mc ms : Nat} {cd : pm_C} {i b : Nat} {con : Int} {t : Nat} {off : Int} {ls : List (Option Value)} {st : List Value} {S : pm_M} {Q : Option Value → pm_M → Prop} {x y : Int32} (h : (cdE cd)[i]? = some (b, 3, .if_icmp .eq off, [t], con)) (kt : x = y → Px d mc ms cd t ls st S Q) (kf : ¬ (x = y) → Px d mc ms cd (i + 1) ls st S Q) : Px d mc ms cd i ls (.int y :: .int x :: st) S Q := by
  intro hok p l e R s m args below meth c D aC A Z hC ad H locs cells slots mls b' hH hF hb hc hs hK
  obtain ⟨hd, hn, hx⟩ := p_at hok h hb
  obtain ⟨tg, ht, hto⟩ := p_tg_of hx
  exact lv_icmp_eq hC.1.1 hC.1.2.1 hd hto (fun q => kt q hok p l e R s m args below meth c D aC A Z hC ad H locs cells slots mls _ hH ⟨hF.1, hF.2.1, p_ws_t (p_ws_t hF.2.2)⟩ ht hc hs hK) (fun q => kf q hok p l e R s m args below meth c D aC A Z hC ad H locs cells slots mls _ hH ⟨hF.1, hF.2.1, p_ws_t (p_ws_t hF.2.2)⟩ (hn rfl) hc hs hK)

theorem px_icmp_ne {d mc ms : Nat} {cd : pm_C} {i b : Nat} {con : Int} {t : Nat} {off : Int} {ls : List (Option Value)} {st : List Value} {S : pm_M} {Q : Option Value → pm_M → Prop} {x y : Int32} (h : (cdE cd)[i]? = some (b, 3, .if_icmp .ne off, [t], con)) (kt : x ≠ y → Px d mc ms cd t ls st S Q) (kf : x = y → Px d mc ms cd (i + 1) ls st S Q) : Px d mc ms cd i ls (.int y :: .int x :: st) S Q := by
  intro hok p l e R s m args below meth c D aC A Z hC ad H locs cells slots mls b' hH hF hb hc hs hK
  obtain ⟨hd, hn, hx⟩ := p_at hok h hb
  obtain ⟨tg, ht, hto⟩ := p_tg_of hx
  exact lv_icmp_ne hC.1.1 hC.1.2.1 hd hto (fun q => kt q hok p l e R s m args below meth c D aC A Z hC ad H locs cells slots mls _ hH ⟨hF.1, hF.2.1, p_ws_t (p_ws_t hF.2.2)⟩ ht hc hs hK) (fun q => kf q hok p l e R s m args below meth c D aC A Z hC ad H locs cells slots mls _ hH ⟨hF.1, hF.2.1, p_ws_t (p_ws_t hF.2.2)⟩ (hn rfl) hc hs hK)

theorem px_icmp_lt {d mc ms : Nat} {cd : pm_C} {i b : Nat} {con : Int} {t : Nat} {off : Int} {ls : List (Option Value)} {st : List Value} {S : pm_M} {Q : Option Value → pm_M → Prop} {x y : Int32} (h : (cdE cd)[i]? = some (b, 3, .if_icmp .lt off, [t], con)) (kt : x < y → Px d mc ms cd t ls st S Q) (kf : ¬ (x < y) → Px d mc ms cd (i + 1) ls st S Q) : Px d mc ms cd i ls (.int y :: .int x :: st) S Q := by
  intro hok p l e R s m args below meth c D aC A Z hC ad H locs cells slots mls b' hH hF hb hc hs hK
  obtain ⟨hd, hn, hx⟩ := p_at hok h hb
  obtain ⟨tg, ht, hto⟩ := p_tg_of hx
  exact lv_icmp_lt hC.1.1 hC.1.2.1 hd hto (fun q => kt q hok p l e R s m args below meth c D aC A Z hC ad H locs cells slots mls _ hH ⟨hF.1, hF.2.1, p_ws_t (p_ws_t hF.2.2)⟩ ht hc hs hK) (fun q => kf q hok p l e R s m args below meth c D aC A Z hC ad H locs cells slots mls _ hH ⟨hF.1, hF.2.1, p_ws_t (p_ws_t hF.2.2)⟩ (hn rfl) hc hs hK)

theorem px_icmp_ge {d mc ms : Nat} {cd : pm_C} {i b : Nat} {con : Int} {t : Nat} {off : Int} {ls : List (Option Value)} {st : List Value} {S : pm_M} {Q : Option Value → pm_M → Prop} {x y : Int32} (h : (cdE cd)[i]? = some (b, 3, .if_icmp .ge off, [t], con)) (kt : y ≤ x → Px d mc ms cd t ls st S Q) (kf : ¬ (y ≤ x) → Px d mc ms cd (i + 1) ls st S Q) : Px d mc ms cd i ls (.int y :: .int x :: st) S Q := by
  intro hok p l e R s m args below meth c D aC A Z hC ad H locs cells slots mls b' hH hF hb hc hs hK
  obtain ⟨hd, hn, hx⟩ := p_at hok h hb
  obtain ⟨tg, ht, hto⟩ := p_tg_of hx
  exact lv_icmp_ge hC.1.1 hC.1.2.1 hd hto (fun q => kt q hok p l e R s m args below meth c D aC A Z hC ad H locs cells slots mls _ hH ⟨hF.1, hF.2.1, p_ws_t (p_ws_t hF.2.2)⟩ ht hc hs hK) (fun q => kf q hok p l e R s m args below meth c D aC A Z hC ad H locs cells slots mls _ hH ⟨hF.1, hF.2.1, p_ws_t (p_ws_t hF.2.2)⟩ (hn rfl) hc hs hK)

theorem px_icmp_gt {d mc ms : Nat} {cd : pm_C} {i b : Nat} {con : Int} {t : Nat} {off : Int} {ls : List (Option Value)} {st : List Value} {S : pm_M} {Q : Option Value → pm_M → Prop} {x y : Int32} (h : (cdE cd)[i]? = some (b, 3, .if_icmp .gt off, [t], con)) (kt : y < x → Px d mc ms cd t ls st S Q) (kf : ¬ (y < x) → Px d mc ms cd (i + 1) ls st S Q) : Px d mc ms cd i ls (.int y :: .int x :: st) S Q := by
  intro hok p l e R s m args below meth c D aC A Z hC ad H locs cells slots mls b' hH hF hb hc hs hK
  obtain ⟨hd, hn, hx⟩ := p_at hok h hb
  obtain ⟨tg, ht, hto⟩ := p_tg_of hx
  exact lv_icmp_gt hC.1.1 hC.1.2.1 hd hto (fun q => kt q hok p l e R s m args below meth c D aC A Z hC ad H locs cells slots mls _ hH ⟨hF.1, hF.2.1, p_ws_t (p_ws_t hF.2.2)⟩ ht hc hs hK) (fun q => kf q hok p l e R s m args below meth c D aC A Z hC ad H locs cells slots mls _ hH ⟨hF.1, hF.2.1, p_ws_t (p_ws_t hF.2.2)⟩ (hn rfl) hc hs hK)

theorem px_icmp_le {d mc ms : Nat} {cd : pm_C} {i b : Nat} {con : Int} {t : Nat} {off : Int} {ls : List (Option Value)} {st : List Value} {S : pm_M} {Q : Option Value → pm_M → Prop} {x y : Int32} (h : (cdE cd)[i]? = some (b, 3, .if_icmp .le off, [t], con)) (kt : x ≤ y → Px d mc ms cd t ls st S Q) (kf : ¬ (x ≤ y) → Px d mc ms cd (i + 1) ls st S Q) : Px d mc ms cd i ls (.int y :: .int x :: st) S Q := by
  intro hok p l e R s m args below meth c D aC A Z hC ad H locs cells slots mls b' hH hF hb hc hs hK
  obtain ⟨hd, hn, hx⟩ := p_at hok h hb
  obtain ⟨tg, ht, hto⟩ := p_tg_of hx
  exact lv_icmp_le hC.1.1 hC.1.2.1 hd hto (fun q => kt q hok p l e R s m args below meth c D aC A Z hC ad H locs cells slots mls _ hH ⟨hF.1, hF.2.1, p_ws_t (p_ws_t hF.2.2)⟩ ht hc hs hK) (fun q => kf q hok p l e R s m args below meth c D aC A Z hC ad H locs cells slots mls _ hH ⟨hF.1, hF.2.1, p_ws_t (p_ws_t hF.2.2)⟩ (hn rfl) hc hs hK)

theorem px_goto {d mc ms : Nat} {cd : pm_C} {i b : Nat} {con : Int} {t : Nat} {off : Int} {ls : List (Option Value)} {st : List Value} {S : pm_M} {Q : Option Value → pm_M → Prop} (h : (cdE cd)[i]? = some (b, 3, .goto off, [t], con)) (k : Px d mc ms cd t ls st S Q) : Px d mc ms cd i ls st S Q := by
  intro hok p l e R s m args below meth c D aC A Z hC ad H locs cells slots mls b' hH hF hb hc hs hK
  obtain ⟨hd, hn, hx⟩ := p_at hok h hb
  obtain ⟨tg, ht, hto⟩ := p_tg_of hx
  exact lv_goto hC.1.1 hC.1.2.1 hd hto (k hok p l e R s m args below meth c D aC A Z hC ad H locs cells slots mls _ hH ⟨hF.1, hF.2.1, hF.2.2⟩ ht hc hs hK)

theorem px_ifnonnull {d mc ms : Nat} {cd : pm_C} {i b : Nat} {con : Int} {t : Nat} {off : Int} {ls : List (Option Value)} {st : List Value} {S : pm_M} {Q : Option Value → pm_M → Prop} {x : Nat} (h : (cdE cd)[i]? = some (b, 3, .ifnonnull off, [t], con)) (k : Px d mc ms cd t ls st S Q) : Px d mc ms cd i ls (.ref x :: st) S Q := by
  intro hok p l e R s m args below meth c D aC A Z hC ad H locs cells slots mls b' hH hF hb hc hs hK
  obtain ⟨hd, hn, hx⟩ := p_at hok h hb
  obtain ⟨tg, ht, hto⟩ := p_tg_of hx
  exact lv_ifnonnull hC.1.1 hC.1.2.1 hd hto (k hok p l e R s m args below meth c D aC A Z hC ad H locs cells slots mls _ hH ⟨hF.1, hF.2.1, p_ws_t hF.2.2⟩ ht hc hs hK)

theorem px_ifnonnullN {d mc ms : Nat} {cd : pm_C} {i b : Nat} {con : Int} {t : Nat} {off : Int} {ls : List (Option Value)} {st : List Value} {S : pm_M} {Q : Option Value → pm_M → Prop} (h : (cdE cd)[i]? = some (b, 3, .ifnonnull off, [t], con)) (k : Px d mc ms cd (i + 1) ls st S Q) : Px d mc ms cd i ls (.null :: st) S Q := by
  intro hok p l e R s m args below meth c D aC A Z hC ad H locs cells slots mls b' hH hF hb hc hs hK
  obtain ⟨hd, hn, hx⟩ := p_at hok h hb
  exact lv_ifnonnullN hC.1.1 hC.1.2.1 hd (k hok p l e R s m args below meth c D aC A Z hC ad H locs cells slots mls _ hH ⟨hF.1, hF.2.1, p_ws_t hF.2.2⟩ (hn rfl) hc hs hK)

theorem px_tableOut {d mc ms : Nat} {cd : pm_C} {i b : Nat} {con : Int} {ls : List (Option Value)} {st : List Value} {S : pm_M} {Q : Option Value → pm_M → Prop} {t0 : Nat} {ts : List Nat} {len : Nat} {x : Int32} {df lo hi : Int} {offs : Array Int} (h : (cdE cd)[i]? = some (b, len, .tableswitch df lo hi offs, t0 :: ts, con)) (hi2 : x.toInt < lo ∨ hi < x.toInt) (k : Px d mc ms cd t0 ls st S Q) : Px d mc ms cd i ls (.int x :: st) S Q := by
  intro hok p l e R s m args below meth c D aC A Z hC ad H locs cells slots mls b' hH hF hb hc hs hK
  obtain ⟨hd, hn, hx⟩ := p_at hok h hb
  simp only [p_okX, Bool.and_eq_true] at hx
  obtain ⟨tg, ht, hto⟩ := p_tg_of hx.1.1.1
  exact lv_tableOut hC.1.1 hC.1.2.1 hd hi2 hto (k hok p l e R s m args below meth c D aC A Z hC ad H locs cells slots mls _ hH ⟨hF.1, hF.2.1, p_ws_t hF.2.2⟩ ht hc hs hK)
theorem px_tableIn {d mc ms : Nat} {cd : pm_C} {i b : Nat} {con : Int} {ls : List (Option Value)} {st : List Value} {S : pm_M} {Q : Option Value → pm_M → Prop} {t0 : Nat} {ts : List Nat} {len : Nat} {x : Int32} {df lo hi : Int} {offs : Array Int} (h : (cdE cd)[i]? = some (b, len, .tableswitch df lo hi offs, t0 :: ts, con)) (j : Nat) (hj : x.toInt = lo + j) (hjl : j < ts.length) {t : Nat} (htt : ts[j]? = some t) (k : Px d mc ms cd t ls st S Q) : Px d mc ms cd i ls (.int x :: st) S Q := by
  intro hok p l e R s m args below meth c D aC A Z hC ad H locs cells slots mls b' hH hF hb hc hs hK
  obtain ⟨hd, hn, hx⟩ := p_at hok h hb
  simp only [p_okX, Bool.and_eq_true, decide_eq_true_eq, List.all_eq_true] at hx
  have h1 := hx.2 j (List.mem_range.mpr hjl)
  rw [List.getD_eq_getElem?_getD, htt] at h1
  obtain ⟨tg, ht, hto⟩ := p_tg_of h1
  have hsz : j < offs.size := by rw [hx.1.2]; exact hjl
  refine lv_tableIn hC.1.1 hC.1.2.1 hd (by omega) (by have := hx.1.1.2; omega) (off := offs.getD j 0) ?_ hto (k hok p l e R s m args below meth c D aC A Z hC ad H locs cells slots mls _ hH ⟨hF.1, hF.2.1, p_ws_t hF.2.2⟩ ht hc hs hK)
  rw [show (x.toInt - lo).toNat = j by omega]
  simp [hsz]
theorem px_lookup {d mc ms : Nat} {cd : pm_C} {i b : Nat} {con : Int} {ls : List (Option Value)} {st : List Value} {S : pm_M} {Q : Option Value → pm_M → Prop} {t0 : Nat} {ts : List Nat} {len : Nat} {x : Int32} {df : Int} {ps : Array (Int × Int)} {t : Nat} (h : (cdE cd)[i]? = some (b, len, .lookupswitch df ps, t0 :: ts, con)) (ht0 : (∃ j, j < ts.length ∧ (ps.getD j (0, 0)).2 = Op.lookupswitch.offset ps.toList df x.toInt ∧ ts.getD j 0 = t) ∨ (df = Op.lookupswitch.offset ps.toList df x.toInt ∧ t = t0)) (k : Px d mc ms cd t ls st S Q) : Px d mc ms cd i ls (.int x :: st) S Q := by
  intro hok p l e R s m args below meth c D aC A Z hC ad H locs cells slots mls b' hH hF hb hc hs hK
  obtain ⟨hd, hn, hx⟩ := p_at hok h hb
  simp only [p_okX, Bool.and_eq_true, decide_eq_true_eq, List.all_eq_true] at hx
  rcases ht0 with ⟨j, hj, ho, htt⟩ | ⟨ho, rfl⟩
  · have h1 := hx.2 j (List.mem_range.mpr hj)
    rw [htt] at h1
    obtain ⟨tg, ht, hto⟩ := p_tg_of h1
    exact lv_lookup hC.1.1 hC.1.2.1 hd (List.all_eq_true.mpr (fun q hq => by have := hx.1.1.2 q hq; simpa using this)) ho.symm hto (k hok p l e R s m args below meth c D aC A Z hC ad H locs cells slots mls _ hH ⟨hF.1, hF.2.1, p_ws_t hF.2.2⟩ ht hc hs hK)
  · obtain ⟨tg, ht, hto⟩ := p_tg_of hx.1.1.1
    exact lv_lookup hC.1.1 hC.1.2.1 hd (List.all_eq_true.mpr (fun q hq => by have := hx.1.1.2 q hq; simpa using this)) ho.symm hto (k hok p l e R s m args below meth c D aC A Z hC ad H locs cells slots mls _ hH ⟨hF.1, hF.2.1, p_ws_t hF.2.2⟩ ht hc hs hK)

theorem px_ireturn {d mc ms : Nat} {cd : pm_C} {i b : Nat} {xs : List Nat} {con : Int} {ls : List (Option Value)} {S : pm_M} {Q : Option Value → pm_M → Prop} {x : Int32} (h : (cdE cd)[i]? = some (b, 1, .ireturn, xs, con)) (hr : cdR cd = some .int ∨ (cdR cd = some .boolean ∧ (x = 0 ∨ x = 1))) (hq : Q (some (.int x)) S) : Px d mc ms cd i ls [.int x] S Q := by
  intro hok p l e R s m args below meth c D aC A Z hC ad H locs cells slots mls b' hH hF hb hc hs hK
  obtain ⟨hd, hn, hx⟩ := p_at hok h hb
  exact W.widen (Nat.le_add_right _ _) (Nat.le_add_right _ _) (hK (some (.int x)) S ad H locs mls b' hq hH (Nat.le_refl _) rfl (fun _ _ => rfl) hd hr)
theorem px_lreturn {d mc ms : Nat} {cd : pm_C} {i b : Nat} {xs : List Nat} {con : Int} {ls : List (Option Value)} {S : pm_M} {Q : Option Value → pm_M → Prop} {x : Int64} (h : (cdE cd)[i]? = some (b, 1, .lreturn, xs, con)) (hr : cdR cd = some .long) (hq : Q (some (.long x)) S) : Px d mc ms cd i ls [.long x] S Q := by
  intro hok p l e R s m args below meth c D aC A Z hC ad H locs cells slots mls b' hH hF hb hc hs hK
  obtain ⟨hd, hn, hx⟩ := p_at hok h hb
  exact W.widen (Nat.le_add_right _ _) (Nat.le_add_right _ _) (hK (some (.long x)) S ad H locs mls b' hq hH (Nat.le_refl _) rfl (fun _ _ => rfl) hd hr)
theorem px_return {d mc ms : Nat} {cd : pm_C} {i b : Nat} {xs : List Nat} {con : Int} {ls : List (Option Value)} {S : pm_M} {Q : Option Value → pm_M → Prop} (h : (cdE cd)[i]? = some (b, 1, .return_, xs, con)) (hr : cdR cd = none) (hq : Q none S) : Px d mc ms cd i ls [] S Q := by
  intro hok p l e R s m args below meth c D aC A Z hC ad H locs cells slots mls b' hH hF hb hc hs hK
  obtain ⟨hd, hn, hx⟩ := p_at hok h hb
  exact W.widen (Nat.le_add_right _ _) (Nat.le_add_right _ _) (hK none S ad H locs mls b' hq hH (Nat.le_refl _) rfl (fun _ _ => rfl) hd hr)
