/-! THE CLAIM OUT OF ONE WALK OF THE LAW'S BODY. Your part is whole_start (and what it stands on); all else here is the same for every law, but numbers. -/
def R_law : String := "SwitchboardHeartLaw"
def lw_P (b : Addr) (xs : List Int32) (args : Array Value) (s : State) : Prop := args = #[.ref b] ∧ s.IntsAt b xs ∧ xs.length ≤ 3072 ∧ (Jvm.Cond.and given_1 narrow_1).before args s = true
def lw_Q (_ : Array Value) (s : State) (o : Outcome) (t : State) : Prop := o = .returned (some (.int 1)) ∧ Framed s o t [] 600000 7302250
def lw_Z (below : List Frame) (a : Array Value) (s : State) : State → Prop := fun t => ∃ o, t.status = .running ∧ Ended t below o ∧ lw_Q a s o t
/-- the law's own end, with 1 on the stack, nothing written that was there before, its room as the claim has it -/
theorem lw_ret {p : Program} {l : Launch} {e : Env} {s : State} {m : MethodId} {below : List Frame} {meth : Method} {c : Code} {b : Nat} (hx : p.tables.exec = Jvm.exec) (hb : c.code = code) (hr : meth.sig.returnType = ret) (hlocks : meth.locks = false) {pc : Nat} {H : Heap} {ls : Array Slot} (hdg : decode code pc = .ok (.ireturn, 1)) : W p l e room_1 s m #[Value.ref b] below meth c H [] 600000 7302250 (lw_Z below #[Value.ref b] s) (F0 m pc ls [.int 1]) := by
  intro T hT X
  obtain ⟨fs, hret, hrun, hended, hW, hframe⟩ := X.leave (v := some (.int 1)) (hlocks := hlocks) (fun h => by rw [hr] at h; cases h)
  have hmeth' : T.vm.method? m = some meth := X.method'
  refine ⟨T.setFrames fs, ?_, .returned (some (.int 1)), hrun, hended, rfl, ⟨_, rfl⟩, hW, hframe⟩
  jvm_step X.here [X.here.top, hx, hb, hdg, hmeth', hr, ret, narrow_b1]
  (try refine ⟨rfl, ?_⟩); (try refine ⟨rfl, ?_⟩)
  first | (intro acts; rw [hret _ acts rfl rfl rfl]) | rw [hret _ _ rfl rfl rfl]
  exact Steps.refl _
/-- what holds at the law's entry: the machine, the code, the tables' words (any of lw_tbl by 'hts w (by decide +kernel)'), the script of L ints xs at the cell b, what the Statement gives of the start (any of its parts by flat_of_before) -/
def lw_At (p : Program) (s : State) (m : MethodId) (meth : Method) (c : Code) (b L : Nat) (xs : Nat → Int32) : Prop :=
  p.tables.exec = Jvm.exec ∧ c.code = code ∧ meth.sig.returnType = ret ∧ c.maxLocals = 4 ∧ s.vm.findClass R_law = some m.cls ∧ (∀ w ∈ lw_tbl, w.before #[Value.ref b] s = true) ∧ va_X b L xs s s.heap ∧ b < s.heap.size ∧ meth.locks = false ∧ (Jvm.Cond.and given_1 narrow_1).before #[Value.ref b] s = true
theorem va_Xt {b L : Nat} {xs : Nat → Int32} {A : Nat → Prop} {s : State} (h : va_X b L xs s s.heap) (hA : ¬ A b) : va_T .int b L (fun j => .int (xs j)) A s s.heap := by
  obtain ⟨scr, h1, h2, h3, h4, h5⟩ := h
  exact ⟨scr, h1, h2, h3, by omega, by rw [h4], h5, hA⟩
theorem whole_start {p : Program} {e : Env} {s : State} {m : MethodId} {below : List Frame} {meth : Method} {c : Code} (l : Launch) (hflags : l.flags = flags0) {b L : Nat} {xs : Nat → Int32} (hL : L ≤ 3072) (C0 : lw_At p s m meth c b L xs) (hnm : meth.name = x.name) : W p l e room_1 s m #[Value.ref b] below meth c s.heap [] 0 0 (lw_Z below #[Value.ref b] s) (entryFrame m ([Value.ref b] : List Value).toArray 4) := by
  obtain ⟨hx, hb, hr, hml, hown, hts, hX, hbl, hlk, hgv⟩ := C0
  have hnw : ∀ w ∈ flatC narrow_1, w.before #[Value.ref b] s = true := fun w hw => flat_of_before _ hgv w (List.mem_append.mpr (.inr hw))
  have hA : ∀ a : Nat, a < s.heap.size → ¬ (fun q : Nat => s.heap.size ≤ q) a := fun a h z => absurd h (Nat.not_lt.mpr z)
  obtain ⟨tO, hTO, hZO⟩ := st_OWN (A := fun q : Nat => s.heap.size ≤ q) hts hnw hA
  obtain ⟨tA, hTA, hZA⟩ := st_ABOVE (A := fun q : Nat => s.heap.size ≤ q) hts hnw hA
  obtain ⟨D, aC, hK⟩ := st_K hts
  have hW := law_0 (ro := [(1000, 32, fOWN), (1001, 8, fABOVE), (1002, L, xs)]) (L := L) (xs := xs) hL (.tail _ (.tail _ (.head _))) ⟨.head _, .tail _ (.head _)⟩
  rw [lg_entry_eq]
  have hWf : p_Wf (gS.take 0, fun _ _ => 0, fun _ _ => 0, fun _ _ => none, [(1000, 32, fOWN), (1001, 8, fABOVE), (1002, L, xs)]) := by
    refine ⟨by show (gS.take 0).length < 1000; decide, fun c k r h => ?_, fun a t n h => ?_⟩
    · have h2 : (none : Option Nat) = some r := h
      cases h2
    · have h2 : (gS.take 0)[a]? = some (t, n) := h
      simp at h2
  have hHx : p_Hx D aC (fun q : Nat => s.heap.size ≤ q) s (fun k => if k = 1000 then tO else if k = 1001 then tA else b) (gS.take 0, fun _ _ => 0, fun _ _ => 0, fun _ _ => none, [(1000, 32, fOWN), (1001, 8, fABOVE), (1002, L, xs)]) s.heap [] := by
    refine ⟨fun k q hq => ?_, ⟨fun i j x y hx => ?_, fun k q hq => ?_⟩, va_S.rf, ⟨fun t ht => ?_, hZO, hZA⟩, hWf⟩
    · simp [p_wd] at hq
    · simp [p_wd] at hx
    · simp [p_wd] at hq
    · simp only [List.mem_cons, List.not_mem_nil, or_false] at ht
      rcases ht with rfl | rfl | rfl
      · exact ⟨hTO, by show 32 < 2 ^ 31; decide, by show 1000 ≤ 1000; decide⟩
      · exact ⟨hTA, by show 8 < 2 ^ 31; decide, by show 1000 ≤ 1001; decide⟩
      · exact ⟨va_Xt hX (hA b hbl), by show L < 2 ^ 31; omega, by show 1000 ≤ 1002; decide⟩
  have hCx : p_Cx 61 CL_law p room_1 s m #[Value.ref b] meth c D aC (fun q : Nat => s.heap.size ≤ q) := ⟨⟨hx, hb, hml, hown, fun w hw => hts w (List.mem_filter.mp hw).1⟩, hr, hlk, hnm, ⟨by decide, by decide⟩, hK, fun q h => h, st_Ns hts⟩
  have hFx := p_en_lv (ad := fun k => if k = 1000 then tO else if k = 1001 then tA else b) (vs := [.ref 1002]) (nL := 4) (by decide)
  have hwl : p_wl (gS.take 0).length [some (.ref 1002), none, none, none] := fun r hr => by
    rcases List.mem_cons.mp hr with e | hr
    · cases e; exact .inr (by decide)
    · rcases List.mem_cons.mp hr with e | hr
      · cases e
      · rcases List.mem_cons.mp hr with e | hr
        · cases e
        · rcases List.mem_cons.mp hr with e | hr
          · cases e
          · cases hr
  refine hW okmCL_law p l e room_1 s m #[Value.ref b] below meth c D aC (fun q : Nat => s.heap.size ≤ q) (lw_Z below #[Value.ref b] s) hCx (fun k => if k = 1000 then tO else if k = 1001 then tA else b) s.heap [] 0 0 _ 0 hHx ⟨hFx, hwl, fun r hr => by cases hr⟩ rfl (by decide) (by decide) (fun r S ad' H locs mls b' hq hH hn hro had hd hrf => ?_)
  obtain rfl : r = some (.int (nI 1)) := hq
  refine va_forget (fun q hq => hH.2.2.1.2.2 q hq) ?_
  refine W.widen (k := 600000) (n := 7302250) (by decide) (by decide) ?_
  exact lw_ret hx hb hr hlk hd
