/-! the start -/
theorem st_OWN {args : Array Value} {s : State} {A : Nat → Prop} (hts : ∀ w ∈ lw_tbl, w.before args s = true) (hn : ∀ w ∈ flatC narrow_1, w.before args s = true) (hA : ∀ a : Nat, a < s.heap.size → ¬ A a) : ∃ t : Nat, va_T .int t 32 (fun j => .int (fOWN j)) A s s.heap ∧ va_Z "SwitchboardHeart$Bodies" "OWN" "[I" (.ref t) A s s.heap := by
  obtain ⟨t, ht, hT⟩ := va_Tof (tm := (Term.static "SwitchboardHeart$Bodies" "OWN" "[I")) (ty := .int) (N := 32) (f := fun j => .int (fOWN j)) (A := A) (by decide) (hn _ (by decide +kernel)) (va_eqt (hn _ (by decide +kernel : Cond.eq (.length (Term.static "SwitchboardHeart$Bodies" "OWN" "[I")) (.int (Int32.ofNat 32)) ∈ flatC narrow_1))) (fun j hj => by
    rcases (by omega : j = 0 ∨ j = 1 ∨ j = 2 ∨ j = 3 ∨ j = 4 ∨ j = 5 ∨ j = 6 ∨ j = 7 ∨ j = 8 ∨ j = 9 ∨ j = 10 ∨ j = 11 ∨ j = 12 ∨ j = 13 ∨ j = 14 ∨ j = 15 ∨ j = 16 ∨ j = 17 ∨ j = 18 ∨ j = 19 ∨ j = 20 ∨ j = 21 ∨ j = 22 ∨ j = 23 ∨ j = 24 ∨ j = 25 ∨ j = 26 ∨ j = 27 ∨ j = 28 ∨ j = 29 ∨ j = 30 ∨ j = 31) with rfl | rfl | rfl | rfl | rfl | rfl | rfl | rfl | rfl | rfl | rfl | rfl | rfl | rfl | rfl | rfl | rfl | rfl | rfl | rfl | rfl | rfl | rfl | rfl | rfl | rfl | rfl | rfl | rfl | rfl | rfl | rfl
    · exact va_eqt (hn _ (by decide +kernel : Cond.eq (.elem (Term.static "SwitchboardHeart$Bodies" "OWN" "[I") (.int 0)) (.int (1)) ∈ flatC narrow_1))
    · exact va_eqt (hn _ (by decide +kernel : Cond.eq (.elem (Term.static "SwitchboardHeart$Bodies" "OWN" "[I") (.int 1)) (.int (10)) ∈ flatC narrow_1))
    · exact va_eqt (hn _ (by decide +kernel : Cond.eq (.elem (Term.static "SwitchboardHeart$Bodies" "OWN" "[I") (.int 2)) (.int (11)) ∈ flatC narrow_1))
    · exact va_eqt (hn _ (by decide +kernel : Cond.eq (.elem (Term.static "SwitchboardHeart$Bodies" "OWN" "[I") (.int 3)) (.int (2)) ∈ flatC narrow_1))
    · exact va_eqt (hn _ (by decide +kernel : Cond.eq (.elem (Term.static "SwitchboardHeart$Bodies" "OWN" "[I") (.int 4)) (.int (20)) ∈ flatC narrow_1))
    · exact va_eqt (hn _ (by decide +kernel : Cond.eq (.elem (Term.static "SwitchboardHeart$Bodies" "OWN" "[I") (.int 5)) (.int (0)) ∈ flatC narrow_1))
    · exact va_eqt (hn _ (by decide +kernel : Cond.eq (.elem (Term.static "SwitchboardHeart$Bodies" "OWN" "[I") (.int 6)) (.int (0)) ∈ flatC narrow_1))
    · exact va_eqt (hn _ (by decide +kernel : Cond.eq (.elem (Term.static "SwitchboardHeart$Bodies" "OWN" "[I") (.int 7)) (.int (0)) ∈ flatC narrow_1))
    · exact va_eqt (hn _ (by decide +kernel : Cond.eq (.elem (Term.static "SwitchboardHeart$Bodies" "OWN" "[I") (.int 8)) (.int (0)) ∈ flatC narrow_1))
    · exact va_eqt (hn _ (by decide +kernel : Cond.eq (.elem (Term.static "SwitchboardHeart$Bodies" "OWN" "[I") (.int 9)) (.int (30)) ∈ flatC narrow_1))
    · exact va_eqt (hn _ (by decide +kernel : Cond.eq (.elem (Term.static "SwitchboardHeart$Bodies" "OWN" "[I") (.int 10)) (.int (0)) ∈ flatC narrow_1))
    · exact va_eqt (hn _ (by decide +kernel : Cond.eq (.elem (Term.static "SwitchboardHeart$Bodies" "OWN" "[I") (.int 11)) (.int (0)) ∈ flatC narrow_1))
    · exact va_eqt (hn _ (by decide +kernel : Cond.eq (.elem (Term.static "SwitchboardHeart$Bodies" "OWN" "[I") (.int 12)) (.int (0)) ∈ flatC narrow_1))
    · exact va_eqt (hn _ (by decide +kernel : Cond.eq (.elem (Term.static "SwitchboardHeart$Bodies" "OWN" "[I") (.int 13)) (.int (41)) ∈ flatC narrow_1))
    · exact va_eqt (hn _ (by decide +kernel : Cond.eq (.elem (Term.static "SwitchboardHeart$Bodies" "OWN" "[I") (.int 14)) (.int (40)) ∈ flatC narrow_1))
    · exact va_eqt (hn _ (by decide +kernel : Cond.eq (.elem (Term.static "SwitchboardHeart$Bodies" "OWN" "[I") (.int 15)) (.int (0)) ∈ flatC narrow_1))
    · exact va_eqt (hn _ (by decide +kernel : Cond.eq (.elem (Term.static "SwitchboardHeart$Bodies" "OWN" "[I") (.int 16)) (.int (0)) ∈ flatC narrow_1))
    · exact va_eqt (hn _ (by decide +kernel : Cond.eq (.elem (Term.static "SwitchboardHeart$Bodies" "OWN" "[I") (.int 17)) (.int (0)) ∈ flatC narrow_1))
    · exact va_eqt (hn _ (by decide +kernel : Cond.eq (.elem (Term.static "SwitchboardHeart$Bodies" "OWN" "[I") (.int 18)) (.int (0)) ∈ flatC narrow_1))
    · exact va_eqt (hn _ (by decide +kernel : Cond.eq (.elem (Term.static "SwitchboardHeart$Bodies" "OWN" "[I") (.int 19)) (.int (50)) ∈ flatC narrow_1))
    · exact va_eqt (hn _ (by decide +kernel : Cond.eq (.elem (Term.static "SwitchboardHeart$Bodies" "OWN" "[I") (.int 20)) (.int (0)) ∈ flatC narrow_1))
    · exact va_eqt (hn _ (by decide +kernel : Cond.eq (.elem (Term.static "SwitchboardHeart$Bodies" "OWN" "[I") (.int 21)) (.int (0)) ∈ flatC narrow_1))
    · exact va_eqt (hn _ (by decide +kernel : Cond.eq (.elem (Term.static "SwitchboardHeart$Bodies" "OWN" "[I") (.int 22)) (.int (60)) ∈ flatC narrow_1))
    · exact va_eqt (hn _ (by decide +kernel : Cond.eq (.elem (Term.static "SwitchboardHeart$Bodies" "OWN" "[I") (.int 23)) (.int (61)) ∈ flatC narrow_1))
    · exact va_eqt (hn _ (by decide +kernel : Cond.eq (.elem (Term.static "SwitchboardHeart$Bodies" "OWN" "[I") (.int 24)) (.int (70)) ∈ flatC narrow_1))
    · exact va_eqt (hn _ (by decide +kernel : Cond.eq (.elem (Term.static "SwitchboardHeart$Bodies" "OWN" "[I") (.int 25)) (.int (0)) ∈ flatC narrow_1))
    · exact va_eqt (hn _ (by decide +kernel : Cond.eq (.elem (Term.static "SwitchboardHeart$Bodies" "OWN" "[I") (.int 26)) (.int (0)) ∈ flatC narrow_1))
    · exact va_eqt (hn _ (by decide +kernel : Cond.eq (.elem (Term.static "SwitchboardHeart$Bodies" "OWN" "[I") (.int 27)) (.int (0)) ∈ flatC narrow_1))
    · exact va_eqt (hn _ (by decide +kernel : Cond.eq (.elem (Term.static "SwitchboardHeart$Bodies" "OWN" "[I") (.int 28)) (.int (81)) ∈ flatC narrow_1))
    · exact va_eqt (hn _ (by decide +kernel : Cond.eq (.elem (Term.static "SwitchboardHeart$Bodies" "OWN" "[I") (.int 29)) (.int (80)) ∈ flatC narrow_1))
    · exact va_eqt (hn _ (by decide +kernel : Cond.eq (.elem (Term.static "SwitchboardHeart$Bodies" "OWN" "[I") (.int 30)) (.int (0)) ∈ flatC narrow_1))
    · exact va_eqt (hn _ (by decide +kernel : Cond.eq (.elem (Term.static "SwitchboardHeart$Bodies" "OWN" "[I") (.int 31)) (.int (0)) ∈ flatC narrow_1))) hA
  exact ⟨t, hT, va_Zof (hts _ (by decide +kernel)) (hts _ (by decide +kernel)) ht hA⟩
theorem st_ABOVE {args : Array Value} {s : State} {A : Nat → Prop} (hts : ∀ w ∈ lw_tbl, w.before args s = true) (hn : ∀ w ∈ flatC narrow_1, w.before args s = true) (hA : ∀ a : Nat, a < s.heap.size → ¬ A a) : ∃ t : Nat, va_T .int t 8 (fun j => .int (fABOVE j)) A s s.heap ∧ va_Z "SwitchboardHeart$Bodies" "ABOVE" "[I" (.ref t) A s s.heap := by
  obtain ⟨t, ht, hT⟩ := va_Tof (tm := (Term.static "SwitchboardHeart$Bodies" "ABOVE" "[I")) (ty := .int) (N := 8) (f := fun j => .int (fABOVE j)) (A := A) (by decide) (hn _ (by decide +kernel)) (va_eqt (hn _ (by decide +kernel : Cond.eq (.length (Term.static "SwitchboardHeart$Bodies" "ABOVE" "[I")) (.int (Int32.ofNat 8)) ∈ flatC narrow_1))) (fun j hj => by
    rcases (by omega : j = 0 ∨ j = 1 ∨ j = 2 ∨ j = 3 ∨ j = 4 ∨ j = 5 ∨ j = 6 ∨ j = 7) with rfl | rfl | rfl | rfl | rfl | rfl | rfl | rfl
    · exact va_eqt (hn _ (by decide +kernel : Cond.eq (.elem (Term.static "SwitchboardHeart$Bodies" "ABOVE" "[I") (.int 0)) (.int (-1)) ∈ flatC narrow_1))
    · exact va_eqt (hn _ (by decide +kernel : Cond.eq (.elem (Term.static "SwitchboardHeart$Bodies" "ABOVE" "[I") (.int 1)) (.int (0)) ∈ flatC narrow_1))
    · exact va_eqt (hn _ (by decide +kernel : Cond.eq (.elem (Term.static "SwitchboardHeart$Bodies" "ABOVE" "[I") (.int 2)) (.int (0)) ∈ flatC narrow_1))
    · exact va_eqt (hn _ (by decide +kernel : Cond.eq (.elem (Term.static "SwitchboardHeart$Bodies" "ABOVE" "[I") (.int 3)) (.int (2)) ∈ flatC narrow_1))
    · exact va_eqt (hn _ (by decide +kernel : Cond.eq (.elem (Term.static "SwitchboardHeart$Bodies" "ABOVE" "[I") (.int 4)) (.int (1)) ∈ flatC narrow_1))
    · exact va_eqt (hn _ (by decide +kernel : Cond.eq (.elem (Term.static "SwitchboardHeart$Bodies" "ABOVE" "[I") (.int 5)) (.int (3)) ∈ flatC narrow_1))
    · exact va_eqt (hn _ (by decide +kernel : Cond.eq (.elem (Term.static "SwitchboardHeart$Bodies" "ABOVE" "[I") (.int 6)) (.int (0)) ∈ flatC narrow_1))
    · exact va_eqt (hn _ (by decide +kernel : Cond.eq (.elem (Term.static "SwitchboardHeart$Bodies" "ABOVE" "[I") (.int 7)) (.int (6)) ∈ flatC narrow_1))) hA
  exact ⟨t, hT, va_Zof (hts _ (by decide +kernel)) (hts _ (by decide +kernel)) ht hA⟩
theorem st_inst : ∀ q ∈ vwCl, Cond.instantiable q.1 q.2.2 ∈ lw_tbl := by decide +kernel
theorem st_K {args : Array Value} {s : State} (hts : ∀ w ∈ lw_tbl, w.before args s = true) : ∃ (D : va_G) (aC : Nat → ClassId), va_K D vwCl (p_tys aC) s := by
  have hg : ∀ w ∈ lw_good, w.before args s = true := fun w hw => hts w (List.mem_filter.mp hw).1
  have hk : ∀ c : Nat, ∃ z : ClassId × (Nat → Nat), ∀ q : vw_C, vwCl[c]? = some q → u_Kn s q.1 q.2.1 q.2.2 z.1 z.2 := fun c => by
    rcases hq : vwCl[c]? with _ | ⟨C, T, N⟩
    · exact ⟨(default, fun _ => 0), fun q h => by cases h⟩
    · obtain ⟨cC, iS, h⟩ := u_known hg (p_cls hq).1 (hts _ (st_inst _ (List.mem_of_getElem? hq)))
      exact ⟨(cC, iS), fun q h2 => by cases h2; exact h⟩
  obtain ⟨cI, kI, mI, i1, i2, i3⟩ := Cond.arrayClass_spec (hts (.arrayClass .int) (by decide +kernel))
  obtain ⟨cJ, kJ, mJ, j1, j2, j3⟩ := Cond.arrayClass_spec (hts (.arrayClass .long) (by decide +kernel))
  obtain ⟨cB, kB, mB, b1, b2, b3⟩ := Cond.arrayClass_spec (hts (.arrayClass .byte) (by decide +kernel))
  obtain ⟨cS, kS, mS, s1, s2, s3⟩ := Cond.arrayClass_spec (hts (.arrayClass .short) (by decide +kernel))
  obtain ⟨mQ, cQ, kQ, q1, q2, q3, q4, q5⟩ := Cond.arrayOver_spec (hts (.arrayOver (.object "SwitchboardHeart$Shelf")) (by decide +kernel))
  refine ⟨(fun c => (Classical.choose (hk c)).1, fun c => (Classical.choose (hk c)).2), fun k => match k with | 0 => cI | 1 => cJ | 2 => cB | 3 => cS | _ => cQ, fun c q hq => Classical.choose_spec (hk c) q hq, fun k q hq => ?_⟩
  have hlt : k < 5 := p_lt hq
  rcases (by omega : k = 0 ∨ k = 1 ∨ k = 2 ∨ k = 3 ∨ k = 4) with rfl | rfl | rfl | rfl | rfl
  · cases hq; exact ⟨fun N z => ⟨(fun k h => by cases h), kI, i2, mI, i3⟩, i1⟩
  · cases hq; exact ⟨fun N z => ⟨(fun k h => by cases h), kJ, j2, mJ, j3⟩, j1⟩
  · cases hq; exact ⟨fun N z => ⟨(fun k h => by cases h), kB, b2, mB, b3⟩, b1⟩
  · cases hq; exact ⟨fun N z => ⟨(fun k h => by cases h), kS, s2, mS, s3⟩, s1⟩
  · cases hq; exact ⟨fun N z => ⟨(fun k h => by cases h), kQ, q3, mQ, q4⟩, kQ, mQ, q3, q4, q1, q5⟩
theorem st_Ns {args : Array Value} {s : State} (hts : ∀ w ∈ lw_tbl, w.before args s = true) : p_Ns s :=
  ⟨va_tabs (by decide +kernel) rfl (hts (.methodLinkNest "SwitchboardHeart" 9 ⟨"SwitchboardHeart$Town", "<init>", "()V"⟩ "SwitchboardHeart") (by decide +kernel)), va_tabs (by decide +kernel) rfl (hts (.methodLinkNest "SwitchboardHeart" 73 ⟨"SwitchboardHeart$Bodies", "<init>", "()V"⟩ "SwitchboardHeart") (by decide +kernel)), va_tabs (by decide +kernel) rfl (hts (.methodLinkNest "SwitchboardHeart" 84 ⟨"SwitchboardHeart$Shelf", "<init>", "()V"⟩ "SwitchboardHeart") (by decide +kernel)), va_AO.of (hts _ (by decide +kernel))⟩
