/-! the law's loop -/
theorem msk (x : Int32) : ∃ k, k < 64 ∧ x &&& nI 63 = nI k := by
  refine ⟨(x &&& nI 63).toBitVec.toNat, ?_, ?_⟩
  · rw [Int32.toBitVec_and, BitVec.toNat_and]
    exact Nat.lt_of_le_of_lt Nat.and_le_right (by decide)
  · apply Int32.toBitVec_inj.mp
    apply BitVec.eq_of_toNat_eq
    simp [nI]
theorem n_inc6 (q : Nat) : nI q + Int32.ofInt 6 = nI (q + 6) := by rw [show Int32.ofInt 6 = nI 6 from by decide +kernel, nI_add]
theorem sub6 {L i : Nat} (hL : L ≤ 3072) (hi : i ≤ 3078) (c : ¬ (nI L - nI 6 < nI i)) : i + 6 ≤ L := by
  rcases Nat.lt_or_ge L 6 with q | q
  · exfalso
    apply c
    rw [i_lt, nI_toInt (by omega)]
    rcases (by omega : L = 0 ∨ L = 1 ∨ L = 2 ∨ L = 3 ∨ L = 4 ∨ L = 5) with rfl | rfl | rfl | rfl | rfl | rfl
    · have : (nI 0 - nI 6).toInt = -6 := by decide +kernel
      omega
    · have : (nI 1 - nI 6).toInt = -5 := by decide +kernel
      omega
    · have : (nI 2 - nI 6).toInt = -4 := by decide +kernel
      omega
    · have : (nI 3 - nI 6).toInt = -3 := by decide +kernel
      omega
    · have : (nI 4 - nI 6).toInt = -2 := by decide +kernel
      omega
    · have : (nI 5 - nI 6).toInt = -1 := by decide +kernel
      omega
  · rw [n_sub q, n_lt (by omega) (by omega)] at c
    omega
def LQ : Option Value → pm_M → Prop := fun r _ => r = some (.int (nI 1))
theorem cases41 {P : Nat → Prop} {v : Nat} (hv : v < 41) (h : ∀ k, k < 41 → P k) : P v := h v hv
set_option maxRecDepth 20000 in
set_option maxHeartbeats 4000000 in
theorem law_st {I : Nat → Nat → Int32} {J : Nat → Nat → Int64} {p : Bool × Option Nat} {ro : List (Nat × Nat × (Nat → Int32))} {tx : List Ln} {n nb : Nat} (h : Inv tx n nb I J p) {L i : Nat} {xs : Nat → Int32} (hi : i ≤ 3078) (hL : L ≤ 3072) (hscr : (1002, L, xs) ∈ ro) (hro : RO ro) (ih : i + 6 ≤ L → ∀ (tx : List Ln) (n nb : Nat) (I : Nat → Nat → Int32) (J : Nat → Nat → Int64) (p : Bool × Option Nat), Inv tx n nb I J p → Px 61 0 0 CL_law 10 [some (.ref (1002)), some (.ref (0)), some (.ref (65)), some (.int (nI (i + 6)))] [] (gS, I, J, gR p, ro) LQ) : Px 61 0 0 CL_law 10 [some (.ref (1002)), some (.ref (0)), some (.ref (65)), some (.int (nI i))] [] (gS, I, J, gR p, ro) LQ := by
  refine px_iload_n (kk := 3) rfl rfl rfl ?_
  refine px_aload_n (kk := 0) rfl rfl rfl ?_
  refine px_rolen rfl hscr ?_
  refine px_bipush (v := nI 6) rfl b_6 ?_
  refine px_isub rfl ?_
  refine px_icmp_gt rfl (fun c => ?_) (fun c => ?_)
  · refine px_iconst (v := nI 1) rfl k_1 ?_
    refine px_ireturn rfl (.inr ⟨rfl, by decide⟩) ?_
    exact rfl
  · have hi6 : i + 6 ≤ L := sub6 hL hi c
    have kont : ∀ (tx : List Ln) (n nb : Nat) (I : Nat → Nat → Int32) (J : Nat → Nat → Int64) (p : Bool × Option Nat), Inv tx n nb I J p → Px 61 0 0 CL_law 1065 [some (.ref (1002)), some (.ref (0)), some (.ref (65)), some (.int (nI i))] [] (gS, I, J, gR p, ro) LQ := fun tx n nb I J p h => by
      refine px_iinc3 (v := nI (i + 6)) rfl (n_inc6 i) rfl (by decide) ?_
      refine px_goto rfl ?_
      exact ih hi6 tx n nb I J p h
    refine px_aload_n (kk := 0) rfl rfl rfl ?_
    refine px_iload_n (kk := 3) rfl rfl rfl ?_
    refine px_roald (j := i) rfl hscr rfl (by omega) ?_
    refine px_bipush (v := nI 63) rfl b_63 ?_
    refine px_iand rfl ?_
    obtain ⟨v, hv, e⟩ := msk (xs i)
    rw [e]
    rcases Nat.lt_or_ge v 41 with q | q
    · rcases (by omega : v = 0 ∨ v = 1 ∨ v = 2 ∨ v = 3 ∨ v = 4 ∨ v = 5 ∨ v = 6 ∨ v = 7 ∨ v = 8 ∨ v = 9 ∨ v = 10 ∨ v = 11 ∨ v = 12 ∨ v = 13 ∨ v = 14 ∨ v = 15 ∨ v = 16 ∨ v = 17 ∨ v = 18 ∨ v = 19 ∨ v = 20 ∨ v = 21 ∨ v = 22 ∨ v = 23 ∨ v = 24 ∨ v = 25 ∨ v = 26 ∨ v = 27 ∨ v = 28 ∨ v = 29 ∨ v = 30 ∨ v = 31 ∨ v = 32 ∨ v = 33 ∨ v = 34 ∨ v = 35 ∨ v = 36 ∨ v = 37 ∨ v = 38 ∨ v = 39 ∨ v = 40) with rfl | rfl | rfl | rfl | rfl | rfl | rfl | rfl | rfl | rfl | rfl | rfl | rfl | rfl | rfl | rfl | rfl | rfl | rfl | rfl | rfl | rfl | rfl | rfl | rfl | rfl | rfl | rfl | rfl | rfl | rfl | rfl | rfl | rfl | rfl | rfl | rfl | rfl | rfl | rfl | rfl
      · refine px_tableIn rfl 0 (by decide) (by decide) rfl ?_
        exact stp_line h hi6 hL hscr hro kont
      · refine px_tableIn rfl 1 (by decide) (by decide) rfl ?_
        exact stp_lines h hi6 hL hscr hro kont
      · refine px_tableIn rfl 2 (by decide) (by decide) rfl ?_
        exact stp_mend h hi6 hL hscr hro kont
      · refine px_tableIn rfl 3 (by decide) (by decide) rfl ?_
        exact stp_of h hi6 hL hscr hro kont
      · refine px_tableIn rfl 4 (by decide) (by decide) rfl ?_
        exact stp_feed h hi6 hL hscr hro kont
      · refine px_tableIn rfl 5 (by decide) (by decide) rfl ?_
        exact stp_law h hi6 hL hscr hro kont
      · refine px_tableIn rfl 6 (by decide) (by decide) rfl ?_
        exact stp_warmer h hi6 hL hscr hro kont
      · refine px_tableIn rfl 7 (by decide) (by decide) rfl ?_
        exact stp_later h hi6 hL hscr hro kont
      · refine px_tableIn rfl 8 (by decide) (by decide) rfl ?_
        exact stp_have h hi6 hL hscr hro kont
      · refine px_tableIn rfl 9 (by decide) (by decide) rfl ?_
        exact stp_through h hi6 hL hscr hro kont
      · refine px_tableIn rfl 10 (by decide) (by decide) rfl ?_
        exact stp_idle h hi6 hL hscr hro kont
      · refine px_tableIn rfl 11 (by decide) (by decide) rfl ?_
        exact stp_news h hi6 hL hscr hro kont
      · refine px_tableIn rfl 12 (by decide) (by decide) rfl ?_
        exact stp_best h hi6 hL hscr hro kont
      · refine px_tableIn rfl 13 (by decide) (by decide) rfl ?_
        exact stp_stable h hi6 hL hscr hro kont
      · refine px_tableIn rfl 14 (by decide) (by decide) rfl ?_
        exact stp_soon h hi6 hL hscr hro kont
      · refine px_tableIn rfl 15 (by decide) (by decide) rfl ?_
        exact stp_instead h hi6 hL hscr hro kont
      · refine px_tableIn rfl 16 (by decide) (by decide) rfl ?_
        exact stp_which h hi6 hL hscr hro kont
      · refine px_tableIn rfl 17 (by decide) (by decide) rfl ?_
        exact stp_sure h hi6 hL hscr hro kont
      · refine px_tableIn rfl 18 (by decide) (by decide) rfl ?_
        exact stp_lamp h hi6 hL hscr hro kont
      · refine px_tableIn rfl 19 (by decide) (by decide) rfl ?_
        exact stp_cut h hi6 hL hscr hro kont
      · refine px_tableIn rfl 20 (by decide) (by decide) rfl ?_
        exact stp_first h hi6 hL hscr hro kont
      · refine px_tableIn rfl 21 (by decide) (by decide) rfl ?_
        exact stp_nieces h hi6 hL hscr hro kont
      · refine px_tableIn rfl 22 (by decide) (by decide) rfl ?_
        exact stp_drawn h hi6 hL hscr hro kont
      · refine px_tableIn rfl 23 (by decide) (by decide) rfl ?_
        exact stp_putIn h hi6 hL hscr hro kont
      · refine px_tableIn rfl 24 (by decide) (by decide) rfl ?_
        exact stp_pull h hi6 hL hscr hro kont
      · refine px_tableIn rfl 25 (by decide) (by decide) rfl ?_
        exact stp_hour h hi6 hL hscr hro kont
      · refine px_tableIn rfl 26 (by decide) (by decide) rfl ?_
        exact stp_led h hi6 hL hscr hro kont
      · refine px_tableIn rfl 27 (by decide) (by decide) rfl ?_
        exact stp_image h hi6 hL hscr hro kont
      · refine px_tableIn rfl 28 (by decide) (by decide) rfl ?_
        exact stp_back h hi6 hL hscr hro kont
      · refine px_tableIn rfl 29 (by decide) (by decide) rfl ?_
        exact stp_undo h hi6 hL hscr hro kont
      · refine px_tableIn rfl 30 (by decide) (by decide) rfl ?_
        exact stp_redo h hi6 hL hscr hro kont
      · refine px_tableIn rfl 31 (by decide) (by decide) rfl ?_
        exact stp_body h hi6 hL hscr hro kont
      · refine px_tableIn rfl 32 (by decide) (by decide) rfl ?_
        exact stp_act h hi6 hL hscr hro kont
      · refine px_tableIn rfl 33 (by decide) (by decide) rfl ?_
        exact stp_trace h hi6 hL hscr hro kont
      · refine px_tableIn rfl 34 (by decide) (by decide) rfl ?_
        exact stp_keep h hi6 hL hscr hro kont
      · refine px_tableIn rfl 35 (by decide) (by decide) rfl ?_
        exact stp_row h hi6 hL hscr hro kont
      · refine px_tableIn rfl 36 (by decide) (by decide) rfl ?_
        exact stp_put h hi6 hL hscr hro kont
      · refine px_tableIn rfl 37 (by decide) (by decide) rfl ?_
        exact stp_element h hi6 hL hscr hro kont
      · refine px_tableIn rfl 38 (by decide) (by decide) rfl ?_
        exact stp_shift h hi6 hL hscr hro kont
      · refine px_tableIn rfl 39 (by decide) (by decide) rfl ?_
        exact stp_taken h hi6 hL hscr hro kont
      · refine px_tableIn rfl 40 (by decide) (by decide) rfl ?_
        exact stp_count h hi6 hL hscr hro kont
    · refine px_tableOut rfl (.inr (by rw [nI_toInt (by omega)]; omega)) ?_
      exact kont tx n nb I J p h
theorem law_10 {ro : List (Nat × Nat × (Nat → Int32))} {L : Nat} {xs : Nat → Int32} (hL : L ≤ 3072) (hscr : (1002, L, xs) ∈ ro) (hro : RO ro) : ∀ (k i : Nat), L ≤ i + k → i ≤ 3078 → ∀ (tx : List Ln) (n nb : Nat) (I : Nat → Nat → Int32) (J : Nat → Nat → Int64) (p : Bool × Option Nat), Inv tx n nb I J p → Px 61 0 0 CL_law 10 [some (.ref (1002)), some (.ref (0)), some (.ref (65)), some (.int (nI i))] [] (gS, I, J, gR p, ro) LQ
  | 0, i, hk, hi, tx, n, nb, I, J, p, h => law_st h hi hL hscr hro (fun z => by omega)
  | k + 1, i, hk, hi, tx, n, nb, I, J, p, h => law_st h hi hL hscr hro (fun z => law_10 hL hscr hro k (i + 6) (by omega) (by omega))
