/-! what is looked at in a method's table once, by the kernel -/
def p_has (pos : Nat) (w : Cond) : Bool := decide (lw_tbl[pos]? = some w) && goodWord w
theorem p_has_in {pos : Nat} {w : Cond} (h : p_has pos w = true) : w ∈ lw_good := by
  simp only [p_has, Bool.and_eq_true, decide_eq_true_eq] at h
  exact List.mem_filter.mpr ⟨List.mem_of_getElem? h.1, h.2⟩
def p_fld (own : String) (idx ci k pos : Nat) : Bool := match vwCl[ci]? with
  | some (_, T, N) => decide (k < N) && p_has pos (.fieldLink own idx (T k).1 (T k).2.1 (T k).2.2.1)
  | none => false
def p_tg (ents : List pm_I) (b : Nat) (off : Int) (t : Nat) : Bool := match ents[t]? with
  | some e => decide ((b : Int) + off = (e.1 : Int))
  | none => false
def p_inv (own : String) (idx pL pI pN pC : Nat) (st : Bool) : Bool := match lw_tbl[pC]? with
  | some (.code y _ _ _) => p_has pL (.methodLink own idx y) && p_has pI (if st then .static y else .instanceMethod y) && p_has pN (.initialized y.cls)
  | _ => false
def p_sel (pS pC : Nat) : Bool := match lw_tbl[pC]? with
  | some (.code y _ _ _) => p_has pS (.selects y.cls y y)
  | _ => false
def p_nest (own : String) (idx pL pI pN pC : Nat) : Bool := match lw_tbl[pC]? with
  | some (.code y _ _ _) => decide (lw_tbl[pL]? = some (.methodLinkNest own idx y "SwitchboardHeart")) && p_has pI (.instanceMethod y) && p_has pN (.initialized y.cls)
  | _ => false
def p_term (ins : Instr) : Bool := match ins with
  | .goto _ => true
  | .ireturn => true
  | .lreturn => true
  | .return_ => true
  | .tableswitch _ _ _ _ => true
  | .lookupswitch _ _ => true
  | _ => false
def p_ats (ty : ArrayType) (tag : Nat) : Bool := decide ((tag = 100 ∧ newarray.typeOf ty = .int) ∨ (tag = 101 ∧ newarray.typeOf ty = .long) ∨ (tag = 102 ∧ newarray.typeOf ty = .byte) ∨ (tag = 103 ∧ newarray.typeOf ty = .short))
def p_okX (own : String) (ret : Option FieldType) (ents : List pm_I) (b : Nat) (ins : Instr) (xs : List Nat) (con : Int) : Bool := match ins, xs with
  | .getfield idx, [ci, k, pos] => p_fld own idx ci k pos
  | .putfield idx, [ci, k, pos] => p_fld own idx ci k pos
  | .getstatic idx, [q, pos] => (decide (q = 1000) && p_has pos (.fieldLink own idx "SwitchboardHeart$Bodies" "OWN" "[I")) || (decide (q = 1001) && p_has pos (.fieldLink own idx "SwitchboardHeart$Bodies" "ABOVE" "[I"))
  | .ifCond _ off, [t] => p_tg ents b off t
  | .if_icmp _ off, [t] => p_tg ents b off t
  | .ifnonnull off, [t] => p_tg ents b off t
  | .goto off, [t] => p_tg ents b off t
  | .tableswitch df lo hi offs, t0 :: ts => p_tg ents b df t0 && decide (hi - lo + 1 = (ts.length : Int)) && decide (offs.size = ts.length) && (List.range ts.length).all (fun j => p_tg ents b (offs.getD j 0) (ts.getD j 0))
  | .lookupswitch df ps, t0 :: ts => p_tg ents b df t0 && (ps.toList.zip (ps.toList.drop 1)).all (fun (a, next) => a.1 < next.1) && decide (ps.size = ts.length) && (List.range ts.length).all (fun j => p_tg ents b (ps.getD j (0, 0)).2 (ts.getD j 0))
  | .ldc idx, [pos] => p_has pos (.constant own idx (Int32.ofInt con))
  | .ldc_w idx, [pos] => p_has pos (.constant own idx (Int32.ofInt con))
  | .ldc2_w idx, [pos] => p_has pos (.constantLong own idx (Int64.ofInt con))
  | .new idx, [ci, p1, p2, p3] => (match vwCl[ci]? with
    | some (C, _, N) => p_has p1 (.classLink own idx C) && p_has p2 (.instantiable C N) && p_has p3 (.initialized C)
    | none => false)
  | .newarray ty, [tag, pos] => p_has pos (.arrayClass (newarray.typeOf ty)) && p_ats ty tag
  | .anewarray idx, [pos] => p_has pos (.classLink own idx "SwitchboardHeart$Shelf")
  | .invokevirtual idx, [pL, pI, pN, pC, pS] => p_inv own idx pL pI pN pC false && p_sel pS pC
  | .invokestatic idx, [pL, pI, pN, pC] => p_inv own idx pL pI pN pC true
  | .invokestatic idx, [pL, pNat, pSt, pN, _] => p_has pL (.methodLink own idx arraycopyName) && p_has pNat (.native arraycopyName) && p_has pSt (.static arraycopyName) && p_has pN (.initialized "java/lang/System")
  | .invokespecial idx, [pL, pI, pN, pC] => p_inv own idx pL pI pN pC false
  | .invokespecial idx, [pL, pI, pN, pC, _] => p_nest own idx pL pI pN pC
  | .invokespecial idx, [pL, pI, pC] => p_has pL (.methodLink own idx Lib.objectInit) && p_has pI (.instanceMethod Lib.objectInit) && p_has pC (.code Lib.objectInit ⟨#[0xb1]⟩ 1 none)
  | .ireturn, _ => decide (ret = some .int ∨ ret = some .boolean)
  | .lreturn, _ => decide (ret = some .long)
  | .return_, _ => decide (ret = none)
  | _, _ => true
def p_okE (own : String) (cc : ByteArray) (ret : Option FieldType) (ents : List pm_I) (i : Nat) (e : pm_I) : Bool := decide (decode cc e.1 = .ok (e.2.2.1, e.2.1)) && (p_term e.2.2.1 || decide (ents[i + 1]?.map (·.1) = some (e.1 + e.2.1))) && p_okX own ret ents e.1 e.2.2.1 e.2.2.2.1 e.2.2.2.2
def p_okR (cd : pm_C) (lo n : Nat) : Bool := (List.range' lo n).all fun i => match (cdE cd)[i]? with
  | none => true
  | some e => p_okE (cdO cd) (cdB cd) (cdR cd) (cdE cd) i e
def p_okH (cd : pm_C) : Bool := plainName (cdY cd).cls && decide ((cdY cd).cls = cdO cd) && decide ((cdY cd).cls ≠ "java/lang/invoke/MethodHandle") && decide ((cdY cd).cls ≠ "java/lang/invoke/VarHandle") && decide ((parseMethodDescriptor (cdY cd).desc).map (fun q => q.parameters.length) = some (cdN cd)) && p_has (cdP cd) (.code (cdY cd) (cdB cd) (cdL cd) (cdR cd)) && decide (cdL cd ≤ 21) && decide ((cdE cd)[0]?.map (·.1) = some 0)
def p_okM (cd : pm_C) : Bool := p_okR cd 0 (cdE cd).length
def p_okG (cd : pm_C) : Bool := p_okH cd && p_okM cd
theorem p_okR_add {cd : pm_C} {a n k : Nat} (h1 : p_okR cd a n = true) (h2 : p_okR cd (a + n) k = true) : p_okR cd a (n + k) = true := by
  unfold p_okR at *
  rw [← List.range'_append_1, List.all_append, h1, h2]
  rfl
theorem p_at {cd : pm_C} {i b b' len : Nat} {ins : Instr} {xs : List Nat} {con : Int} (hok : p_okM cd = true) (h : (cdE cd)[i]? = some (b, len, ins, xs, con)) (hb : (cdE cd)[i]?.map (·.1) = some b') :
    decode (cdB cd) b' = .ok (ins, len) ∧ (p_term ins = false → (cdE cd)[i + 1]?.map (·.1) = some (b' + len)) ∧ p_okX (cdO cd) (cdR cd) (cdE cd) b' ins xs con = true := by
  unfold p_okM at hok
  rw [h] at hb
  cases hb
  have h1 := List.all_eq_true.mp hok i (by simp [List.mem_range'_1]; exact p_lt h)
  rw [h] at h1
  simp only [p_okE, Bool.and_eq_true, decide_eq_true_eq, Bool.or_eq_true] at h1
  refine ⟨h1.1.1, fun ht => ?_, h1.2⟩
  rcases h1.1.2 with h2 | h2
  · rw [ht] at h2; cases h2
  · exact h2
theorem p_tg_of {ents : List pm_I} {b t : Nat} {off : Int} (h : p_tg ents b off t = true) : ∃ b', ents[t]?.map (·.1) = some b' ∧ (b : Int) + off = (b' : Int) := by
  unfold p_tg at h
  split at h
  · rename_i e he
    exact ⟨e.1, by rw [he]; rfl, of_decide_eq_true h⟩
  · cases h
/-! THE JUDGEMENT -/
def p_Ns (s : State) : Prop := va_Nw (.methodLinkNest "SwitchboardHeart" 9 ⟨"SwitchboardHeart$Town", "<init>", "()V"⟩ "SwitchboardHeart") s ∧ va_Nw (.methodLinkNest "SwitchboardHeart" 73 ⟨"SwitchboardHeart$Bodies", "<init>", "()V"⟩ "SwitchboardHeart") s ∧ va_Nw (.methodLinkNest "SwitchboardHeart" 84 ⟨"SwitchboardHeart$Shelf", "<init>", "()V"⟩ "SwitchboardHeart") s ∧ va_AO "SwitchboardHeart$Shelf" s
def p_Ro (ad : Nat → Nat) (A : Nat → Prop) (s : State) (S : pm_M) : Prop := (∀ t ∈ S.2.2.2.2, va_T .int (ad t.1) t.2.1 (fun j => .int (t.2.2 j)) A s s.heap ∧ t.2.1 < 2 ^ 31 ∧ 1000 ≤ t.1) ∧ va_Z "SwitchboardHeart$Bodies" "OWN" "[I" (.ref (ad 1000)) A s s.heap ∧ va_Z "SwitchboardHeart$Bodies" "ABOVE" "[I" (.ref (ad 1001)) A s s.heap
def p_Wf (S : pm_M) : Prop := S.1.length < 1000 ∧ (∀ c k r, S.2.2.2.1 c k = some r → p_ok S.1.length r) ∧ ∀ (a t n : Nat), S.1[a]? = some (t, n) → n < 2 ^ 31 ∧ (t < 100 → ∃ C T, vwCl[t]? = some (C, T, n))
def p_Hx (D : va_G) (aC : Nat → ClassId) (A : Nat → Prop) (s : State) (ad : Nat → Nat) (S : pm_M) (H : Heap) (locs : List Loc) : Prop := va_P D vwCl (p_wd aC ad S) H ∧ va_D A (p_wd aC ad S) ∧ va_S A s.heap H locs ∧ p_Ro ad A s S ∧ p_Wf S
def p_Cx (d : Nat) (cd : pm_C) (p : Program) (R : Room) (s : State) (m : MethodId) (args : Array Value) (meth : Method) (c : Code) (D : va_G) (aC : Nat → ClassId) (A : Nat → Prop) : Prop :=
  CallFix p m c (cdB cd) (cdL cd) s args lw_good (cdO cd) ∧ meth.sig.returnType = cdR cd ∧ meth.locks = false ∧ meth.name = (cdY cd).name ∧ (d + 1 ≤ R.frames ∧ 40 * (d + 1) ≤ R.locals) ∧ va_K D vwCl (p_tys aC) s ∧ (∀ q, s.heap.size ≤ q → A q) ∧ p_Ns s
def p_Fx (ad : Nat → Nat) (nL : Nat) (ls : List (Option Value)) (st : List Value) (n : Nat) (mls : Array Slot) : Prop := p_lv ad mls nL ls ∧ p_wl n ls ∧ p_ws n st
def p_ri (r : Option Value) : Instr := match r with
  | none => .return_
  | some (.long _) => .lreturn
  | some _ => .ireturn
def p_rf (ret : Option FieldType) (r : Option Value) : Prop := match r with
  | none => ret = none
  | some (.int v) => ret = some .int ∨ (ret = some .boolean ∧ (v = 0 ∨ v = 1))
  | some (.long _) => ret = some .long
  | _ => False
def p_Kx (p : Program) (l : Launch) (e : Env) (R : Room) (s : State) (m : MethodId) (args : Array Value) (below : List Frame) (meth : Method) (c : Code) (D : va_G) (aC : Nat → ClassId) (A : Nat → Prop) (Z : State → Prop) (cd : pm_C) (n : Nat) (ro : List (Nat × Nat × (Nat → Int32))) (ad : Nat → Nat) (cells slots : Nat) (Q : Option Value → pm_M → Prop) : Prop :=
  ∀ (r : Option Value) (S : pm_M) (ad' : Nat → Nat) (H : Heap) (locs : List Loc) (mls : Array Slot) (b : Nat), Q r S → p_Hx D aC A s ad' S H locs → n ≤ S.1.length → S.2.2.2.2 = ro → (∀ k, p_ok n k → ad' k = ad k) → decode (cdB cd) b = .ok (p_ri r, 1) → p_rf (cdR cd) r →
    W p l e R s m args below meth c H locs cells slots Z (F0 m b mls (r.toList.map (pv ad')))
/-- from place i of cd's table on, with these locals, stack and memory, the method comes back, with Q -/
def Px (d mc ms : Nat) (cd : pm_C) (i : Nat) (ls : List (Option Value)) (st : List Value) (S : pm_M) (Q : Option Value → pm_M → Prop) : Prop :=
  p_okM cd = true → ∀ (p : Program) (l : Launch) (e : Env) (R : Room) (s : State) (m : MethodId) (args : Array Value) (below : List Frame) (meth : Method) (c : Code) (D : va_G) (aC : Nat → ClassId) (A : Nat → Prop) (Z : State → Prop), p_Cx d cd p R s m args meth c D aC A →
    ∀ (ad : Nat → Nat) (H : Heap) (locs : List Loc) (cells slots : Nat) (mls : Array Slot) (b : Nat), p_Hx D aC A s ad S H locs → p_Fx ad (cdL cd) ls st S.1.length mls → (cdE cd)[i]?.map (·.1) = some b → cells + mc ≤ R.cells → slots + ms ≤ R.slots →
      p_Kx p l e R s m args below meth c D aC A Z cd S.1.length S.2.2.2.2 ad (cells + mc) (slots + ms) Q → W p l e R s m args below meth c H locs cells slots Z (F0 m b mls (st.map (pv ad)))
def p_en (nL : Nat) (vs : List Value) : List (Option Value) := (vs.flatMap fun v => if v.category = 2 then [some v, none] else [some v]) ++ List.replicate (nL - (lg_sl vs).length) none
/-- the method cd, called with these values on this memory, comes back, with Q -/
def Pv (d mc ms : Nat) (cd : pm_C) (vs : List Value) (S : pm_M) (Q : Option Value → pm_M → Prop) : Prop := p_okG cd = true ∧ (lg_sl vs).length ≤ cdL cd ∧ Px d mc ms cd 0 (p_en (cdL cd) vs) [] S Q
theorem px_post {d mc ms : Nat} {cd : pm_C} {i : Nat} {ls : List (Option Value)} {st : List Value} {S : pm_M} {Q Q' : Option Value → pm_M → Prop} (h : Px d mc ms cd i ls st S Q) (hq : ∀ r S', Q r S' → Q' r S') : Px d mc ms cd i ls st S Q' := by
  intro hok p l e R s m args below meth c D aC A Z hC ad H locs cells slots mls b hH hF hb hc hs hK
  exact h hok p l e R s m args below meth c D aC A Z hC ad H locs cells slots mls b hH hF hb hc hs (fun r S' ad' H' locs' mls' b' q => hK r S' ad' H' locs' mls' b' (hq r S' q))
theorem pv_post {d mc ms : Nat} {cd : pm_C} {vs : List Value} {S : pm_M} {Q Q' : Option Value → pm_M → Prop} (h : Pv d mc ms cd vs S Q) (hq : ∀ r S', Q r S' → Q' r S') : Pv d mc ms cd vs S Q' := ⟨h.1, h.2.1, px_post h.2.2 hq⟩
