/-- the kinds a kind is under, itself among them -/
def sp_und (K : Nat) : List Int32 := match K with
  | 0 => [nI 0]
  | 1 => [nI 1, nI 0]
  | 2 => [nI 2, nI 0]
  | 3 => [nI 3, nI 2, nI 0]
  | 4 => [nI 4, nI 1, nI 0]
  | 5 => [nI 5, nI 3, nI 2, nI 0]
  | 6 => [nI 6, nI 0]
  | 7 => [nI 7, nI 6, nI 0]
  | _ => []
theorem vX0_isUnder_0 {I : Nat → Nat → Int32} {J : Nat → Nat → Int64} {p : Bool × Option Nat} {ro : List (Nat × Nat × (Nat → Int32))} {z : Nat} (hz : I 49 2 = nI z) (hz50 : z ≤ 50) {b : Nat} (hb : b < z) (hk : I 50 b = nI 0) (hro : RO ro) {y : Int32} : Pv 1 0 0 CX0_isUnder [.ref (49), .int (nI b), .int (y)] (gS, I, J, gR p, ro) (qB (y ∈ sp_und 0) (gS, I, J, gR p, ro)) := by
  refine ⟨okCX0_isUnder, Nat.le_of_ble_eq_true rfl, (show Px _ _ _ _ 0 [some (.ref (49)), some (.int (nI b)), some (.int (y)), none, none] [] _ _ from ?_)⟩
  refine px_aload_n (kk := 0) rfl rfl rfl ?_
  refine px_iload_n (kk := 1) rfl rfl rfl ?_
  refine px_callV0 CX0_isBody [] [.int _] (vX0_isBody hz hz50) rfl gS_49 (by decide) rfl rfl rfl (Nat.le_of_ble_eq_true rfl) (by decide) ?_
  rintro _ _ - (⟨h, rfl, rfl⟩ | ⟨h, rfl, rfl⟩)
  · refine px_if_ne rfl (fun _ => ?_) (fun h => absurd h (by decide))
    refine px_aload_n (kk := 0) rfl rfl rfl ?_
    refine px_getR (r := 50) rfl gS_49 rfl (gR_49_0 _) ?_
    refine px_iload_n (kk := 1) rfl rfl rfl ?_
    refine px_ialde (j := b) (v := nI 0) rfl gS_50 rfl (by omega) hk ?_
    refine px_ist3 rfl rfl (by decide) ?_
    refine px_iconst (v := nI 0) rfl k_0 ?_
    refine px_ist4 rfl rfl (by decide) ?_
    refine px_iload rfl rfl ?_
    refine px_bipush (v := nI 8) rfl b_8 ?_
    refine px_icmp_ge rfl (fun h => absurd h (by decide)) (fun _ => ?_)
    refine px_iload_n (kk := 3) rfl rfl rfl ?_
    refine px_callS0 CX0_isKind [] [.int _] (vX0_isKind_0) rfl rfl rfl (Nat.le_of_ble_eq_true rfl) (by decide) ?_
    rintro _ _ - ⟨rfl, rfl⟩
    refine px_if_eq rfl (fun h => absurd h (by decide)) (fun _ => ?_)
    refine px_iload_n (kk := 3) rfl rfl rfl ?_
    refine px_iload_n (kk := 2) rfl rfl rfl ?_
    refine px_icmp_ne rfl (fun c21 => ?_) (fun c21 => ?_)
    · refine px_getstatic rfl ?_
      refine px_iload_n (kk := 3) rfl rfl rfl ?_
      refine px_roalde (j := 0) (v := -1) rfl hro.2 rfl (by decide) (by decide) ?_
      refine px_ist3 rfl rfl (by decide) ?_
      refine px_iinc4 (v := nI 1) rfl (n_inc 0) rfl (by decide) ?_
      refine px_goto rfl ?_
      refine px_iload rfl rfl ?_
      refine px_bipush (v := nI 8) rfl b_8 ?_
      refine px_icmp_ge rfl (fun h => absurd h (by decide)) (fun _ => ?_)
      refine px_iload_n (kk := 3) rfl rfl rfl ?_
      refine px_callS0 CX0_isKind [] [.int _] (vX0_isKind_m1) rfl rfl rfl (Nat.le_of_ble_eq_true rfl) (by decide) ?_
      rintro _ _ - ⟨rfl, rfl⟩
      refine px_if_eq rfl (fun _ => ?_) (fun h => absurd h (by decide))
      refine px_iconst (v := nI 0) rfl k_0 ?_
      refine px_ireturn rfl (.inr ⟨rfl, by decide⟩) ?_
      exact qB_f (fun h => by simp only [sp_und, List.mem_cons, List.not_mem_nil, or_false] at h; rcases h with h <;> simp_all)
    · refine px_iconst (v := nI 1) rfl k_1 ?_
      refine px_ireturn rfl (.inr ⟨rfl, by decide⟩) ?_
      exact qB_t (by simp only [sp_und]; simp_all)
  · exact absurd ⟨b, hb, rfl⟩ h
theorem vX0_isUnder_1 {I : Nat → Nat → Int32} {J : Nat → Nat → Int64} {p : Bool × Option Nat} {ro : List (Nat × Nat × (Nat → Int32))} {z : Nat} (hz : I 49 2 = nI z) (hz50 : z ≤ 50) {b : Nat} (hb : b < z) (hk : I 50 b = nI 1) (hro : RO ro) {y : Int32} : Pv 1 0 0 CX0_isUnder [.ref (49), .int (nI b), .int (y)] (gS, I, J, gR p, ro) (qB (y ∈ sp_und 1) (gS, I, J, gR p, ro)) := by
  refine ⟨okCX0_isUnder, Nat.le_of_ble_eq_true rfl, (show Px _ _ _ _ 0 [some (.ref (49)), some (.int (nI b)), some (.int (y)), none, none] [] _ _ from ?_)⟩
  refine px_aload_n (kk := 0) rfl rfl rfl ?_
  refine px_iload_n (kk := 1) rfl rfl rfl ?_
  refine px_callV0 CX0_isBody [] [.int _] (vX0_isBody hz hz50) rfl gS_49 (by decide) rfl rfl rfl (Nat.le_of_ble_eq_true rfl) (by decide) ?_
  rintro _ _ - (⟨h, rfl, rfl⟩ | ⟨h, rfl, rfl⟩)
  · refine px_if_ne rfl (fun _ => ?_) (fun h => absurd h (by decide))
    refine px_aload_n (kk := 0) rfl rfl rfl ?_
    refine px_getR (r := 50) rfl gS_49 rfl (gR_49_0 _) ?_
    refine px_iload_n (kk := 1) rfl rfl rfl ?_
    refine px_ialde (j := b) (v := nI 1) rfl gS_50 rfl (by omega) hk ?_
    refine px_ist3 rfl rfl (by decide) ?_
    refine px_iconst (v := nI 0) rfl k_0 ?_
    refine px_ist4 rfl rfl (by decide) ?_
    refine px_iload rfl rfl ?_
    refine px_bipush (v := nI 8) rfl b_8 ?_
    refine px_icmp_ge rfl (fun h => absurd h (by decide)) (fun _ => ?_)
    refine px_iload_n (kk := 3) rfl rfl rfl ?_
    refine px_callS0 CX0_isKind [] [.int _] (vX0_isKind_1) rfl rfl rfl (Nat.le_of_ble_eq_true rfl) (by decide) ?_
    rintro _ _ - ⟨rfl, rfl⟩
    refine px_if_eq rfl (fun h => absurd h (by decide)) (fun _ => ?_)
    refine px_iload_n (kk := 3) rfl rfl rfl ?_
    refine px_iload_n (kk := 2) rfl rfl rfl ?_
    refine px_icmp_ne rfl (fun c21 => ?_) (fun c21 => ?_)
    · refine px_getstatic rfl ?_
      refine px_iload_n (kk := 3) rfl rfl rfl ?_
      refine px_roalde (j := 1) (v := nI 0) rfl hro.2 rfl (by decide) (by decide) ?_
      refine px_ist3 rfl rfl (by decide) ?_
      refine px_iinc4 (v := nI 1) rfl (n_inc 0) rfl (by decide) ?_
      refine px_goto rfl ?_
      refine px_iload rfl rfl ?_
      refine px_bipush (v := nI 8) rfl b_8 ?_
      refine px_icmp_ge rfl (fun h => absurd h (by decide)) (fun _ => ?_)
      refine px_iload_n (kk := 3) rfl rfl rfl ?_
      refine px_callS0 CX0_isKind [] [.int _] (vX0_isKind_0) rfl rfl rfl (Nat.le_of_ble_eq_true rfl) (by decide) ?_
      rintro _ _ - ⟨rfl, rfl⟩
      refine px_if_eq rfl (fun h => absurd h (by decide)) (fun _ => ?_)
      refine px_iload_n (kk := 3) rfl rfl rfl ?_
      refine px_iload_n (kk := 2) rfl rfl rfl ?_
      refine px_icmp_ne rfl (fun c21 => ?_) (fun c21 => ?_)
      · refine px_getstatic rfl ?_
        refine px_iload_n (kk := 3) rfl rfl rfl ?_
        refine px_roalde (j := 0) (v := -1) rfl hro.2 rfl (by decide) (by decide) ?_
        refine px_ist3 rfl rfl (by decide) ?_
        refine px_iinc4 (v := nI 2) rfl (n_inc 1) rfl (by decide) ?_
        refine px_goto rfl ?_
        refine px_iload rfl rfl ?_
        refine px_bipush (v := nI 8) rfl b_8 ?_
        refine px_icmp_ge rfl (fun h => absurd h (by decide)) (fun _ => ?_)
        refine px_iload_n (kk := 3) rfl rfl rfl ?_
        refine px_callS0 CX0_isKind [] [.int _] (vX0_isKind_m1) rfl rfl rfl (Nat.le_of_ble_eq_true rfl) (by decide) ?_
        rintro _ _ - ⟨rfl, rfl⟩
        refine px_if_eq rfl (fun _ => ?_) (fun h => absurd h (by decide))
        refine px_iconst (v := nI 0) rfl k_0 ?_
        refine px_ireturn rfl (.inr ⟨rfl, by decide⟩) ?_
        exact qB_f (fun h => by simp only [sp_und, List.mem_cons, List.not_mem_nil, or_false] at h; rcases h with h | h <;> simp_all)
      · refine px_iconst (v := nI 1) rfl k_1 ?_
        refine px_ireturn rfl (.inr ⟨rfl, by decide⟩) ?_
        exact qB_t (by simp only [sp_und]; simp_all)
    · refine px_iconst (v := nI 1) rfl k_1 ?_
      refine px_ireturn rfl (.inr ⟨rfl, by decide⟩) ?_
      exact qB_t (by simp only [sp_und]; simp_all)
  · exact absurd ⟨b, hb, rfl⟩ h
theorem vX0_isUnder_2 {I : Nat → Nat → Int32} {J : Nat → Nat → Int64} {p : Bool × Option Nat} {ro : List (Nat × Nat × (Nat → Int32))} {z : Nat} (hz : I 49 2 = nI z) (hz50 : z ≤ 50) {b : Nat} (hb : b < z) (hk : I 50 b = nI 2) (hro : RO ro) {y : Int32} : Pv 1 0 0 CX0_isUnder [.ref (49), .int (nI b), .int (y)] (gS, I, J, gR p, ro) (qB (y ∈ sp_und 2) (gS, I, J, gR p, ro)) := by
  refine ⟨okCX0_isUnder, Nat.le_of_ble_eq_true rfl, (show Px _ _ _ _ 0 [some (.ref (49)), some (.int (nI b)), some (.int (y)), none, none] [] _ _ from ?_)⟩
  refine px_aload_n (kk := 0) rfl rfl rfl ?_
  refine px_iload_n (kk := 1) rfl rfl rfl ?_
  refine px_callV0 CX0_isBody [] [.int _] (vX0_isBody hz hz50) rfl gS_49 (by decide) rfl rfl rfl (Nat.le_of_ble_eq_true rfl) (by decide) ?_
  rintro _ _ - (⟨h, rfl, rfl⟩ | ⟨h, rfl, rfl⟩)
  · refine px_if_ne rfl (fun _ => ?_) (fun h => absurd h (by decide))
    refine px_aload_n (kk := 0) rfl rfl rfl ?_
    refine px_getR (r := 50) rfl gS_49 rfl (gR_49_0 _) ?_
    refine px_iload_n (kk := 1) rfl rfl rfl ?_
    refine px_ialde (j := b) (v := nI 2) rfl gS_50 rfl (by omega) hk ?_
    refine px_ist3 rfl rfl (by decide) ?_
    refine px_iconst (v := nI 0) rfl k_0 ?_
    refine px_ist4 rfl rfl (by decide) ?_
    refine px_iload rfl rfl ?_
    refine px_bipush (v := nI 8) rfl b_8 ?_
    refine px_icmp_ge rfl (fun h => absurd h (by decide)) (fun _ => ?_)
    refine px_iload_n (kk := 3) rfl rfl rfl ?_
    refine px_callS0 CX0_isKind [] [.int _] (vX0_isKind_2) rfl rfl rfl (Nat.le_of_ble_eq_true rfl) (by decide) ?_
    rintro _ _ - ⟨rfl, rfl⟩
    refine px_if_eq rfl (fun h => absurd h (by decide)) (fun _ => ?_)
    refine px_iload_n (kk := 3) rfl rfl rfl ?_
    refine px_iload_n (kk := 2) rfl rfl rfl ?_
    refine px_icmp_ne rfl (fun c21 => ?_) (fun c21 => ?_)
    · refine px_getstatic rfl ?_
      refine px_iload_n (kk := 3) rfl rfl rfl ?_
      refine px_roalde (j := 2) (v := nI 0) rfl hro.2 rfl (by decide) (by decide) ?_
      refine px_ist3 rfl rfl (by decide) ?_
      refine px_iinc4 (v := nI 1) rfl (n_inc 0) rfl (by decide) ?_
      refine px_goto rfl ?_
      refine px_iload rfl rfl ?_
      refine px_bipush (v := nI 8) rfl b_8 ?_
      refine px_icmp_ge rfl (fun h => absurd h (by decide)) (fun _ => ?_)
      refine px_iload_n (kk := 3) rfl rfl rfl ?_
      refine px_callS0 CX0_isKind [] [.int _] (vX0_isKind_0) rfl rfl rfl (Nat.le_of_ble_eq_true rfl) (by decide) ?_
      rintro _ _ - ⟨rfl, rfl⟩
      refine px_if_eq rfl (fun h => absurd h (by decide)) (fun _ => ?_)
      refine px_iload_n (kk := 3) rfl rfl rfl ?_
      refine px_iload_n (kk := 2) rfl rfl rfl ?_
      refine px_icmp_ne rfl (fun c21 => ?_) (fun c21 => ?_)
      · refine px_getstatic rfl ?_
        refine px_iload_n (kk := 3) rfl rfl rfl ?_
        refine px_roalde (j := 0) (v := -1) rfl hro.2 rfl (by decide) (by decide) ?_
        refine px_ist3 rfl rfl (by decide) ?_
        refine px_iinc4 (v := nI 2) rfl (n_inc 1) rfl (by decide) ?_
        refine px_goto rfl ?_
        refine px_iload rfl rfl ?_
        refine px_bipush (v := nI 8) rfl b_8 ?_
        refine px_icmp_ge rfl (fun h => absurd h (by decide)) (fun _ => ?_)
        refine px_iload_n (kk := 3) rfl rfl rfl ?_
        refine px_callS0 CX0_isKind [] [.int _] (vX0_isKind_m1) rfl rfl rfl (Nat.le_of_ble_eq_true rfl) (by decide) ?_
        rintro _ _ - ⟨rfl, rfl⟩
        refine px_if_eq rfl (fun _ => ?_) (fun h => absurd h (by decide))
        refine px_iconst (v := nI 0) rfl k_0 ?_
        refine px_ireturn rfl (.inr ⟨rfl, by decide⟩) ?_
        exact qB_f (fun h => by simp only [sp_und, List.mem_cons, List.not_mem_nil, or_false] at h; rcases h with h | h <;> simp_all)
      · refine px_iconst (v := nI 1) rfl k_1 ?_
        refine px_ireturn rfl (.inr ⟨rfl, by decide⟩) ?_
        exact qB_t (by simp only [sp_und]; simp_all)
    · refine px_iconst (v := nI 1) rfl k_1 ?_
      refine px_ireturn rfl (.inr ⟨rfl, by decide⟩) ?_
      exact qB_t (by simp only [sp_und]; simp_all)
  · exact absurd ⟨b, hb, rfl⟩ h
theorem vX0_isUnder_3 {I : Nat → Nat → Int32} {J : Nat → Nat → Int64} {p : Bool × Option Nat} {ro : List (Nat × Nat × (Nat → Int32))} {z : Nat} (hz : I 49 2 = nI z) (hz50 : z ≤ 50) {b : Nat} (hb : b < z) (hk : I 50 b = nI 3) (hro : RO ro) {y : Int32} : Pv 1 0 0 CX0_isUnder [.ref (49), .int (nI b), .int (y)] (gS, I, J, gR p, ro) (qB (y ∈ sp_und 3) (gS, I, J, gR p, ro)) := by
  refine ⟨okCX0_isUnder, Nat.le_of_ble_eq_true rfl, (show Px _ _ _ _ 0 [some (.ref (49)), some (.int (nI b)), some (.int (y)), none, none] [] _ _ from ?_)⟩
  refine px_aload_n (kk := 0) rfl rfl rfl ?_
  refine px_iload_n (kk := 1) rfl rfl rfl ?_
  refine px_callV0 CX0_isBody [] [.int _] (vX0_isBody hz hz50) rfl gS_49 (by decide) rfl rfl rfl (Nat.le_of_ble_eq_true rfl) (by decide) ?_
  rintro _ _ - (⟨h, rfl, rfl⟩ | ⟨h, rfl, rfl⟩)
  · refine px_if_ne rfl (fun _ => ?_) (fun h => absurd h (by decide))
    refine px_aload_n (kk := 0) rfl rfl rfl ?_
    refine px_getR (r := 50) rfl gS_49 rfl (gR_49_0 _) ?_
    refine px_iload_n (kk := 1) rfl rfl rfl ?_
    refine px_ialde (j := b) (v := nI 3) rfl gS_50 rfl (by omega) hk ?_
    refine px_ist3 rfl rfl (by decide) ?_
    refine px_iconst (v := nI 0) rfl k_0 ?_
    refine px_ist4 rfl rfl (by decide) ?_
    refine px_iload rfl rfl ?_
    refine px_bipush (v := nI 8) rfl b_8 ?_
    refine px_icmp_ge rfl (fun h => absurd h (by decide)) (fun _ => ?_)
    refine px_iload_n (kk := 3) rfl rfl rfl ?_
    refine px_callS0 CX0_isKind [] [.int _] (vX0_isKind_3) rfl rfl rfl (Nat.le_of_ble_eq_true rfl) (by decide) ?_
    rintro _ _ - ⟨rfl, rfl⟩
    refine px_if_eq rfl (fun h => absurd h (by decide)) (fun _ => ?_)
    refine px_iload_n (kk := 3) rfl rfl rfl ?_
    refine px_iload_n (kk := 2) rfl rfl rfl ?_
    refine px_icmp_ne rfl (fun c21 => ?_) (fun c21 => ?_)
    · refine px_getstatic rfl ?_
      refine px_iload_n (kk := 3) rfl rfl rfl ?_
      refine px_roalde (j := 3) (v := nI 2) rfl hro.2 rfl (by decide) (by decide) ?_
      refine px_ist3 rfl rfl (by decide) ?_
      refine px_iinc4 (v := nI 1) rfl (n_inc 0) rfl (by decide) ?_
      refine px_goto rfl ?_
      refine px_iload rfl rfl ?_
      refine px_bipush (v := nI 8) rfl b_8 ?_
      refine px_icmp_ge rfl (fun h => absurd h (by decide)) (fun _ => ?_)
      refine px_iload_n (kk := 3) rfl rfl rfl ?_
      refine px_callS0 CX0_isKind [] [.int _] (vX0_isKind_2) rfl rfl rfl (Nat.le_of_ble_eq_true rfl) (by decide) ?_
      rintro _ _ - ⟨rfl, rfl⟩
      refine px_if_eq rfl (fun h => absurd h (by decide)) (fun _ => ?_)
      refine px_iload_n (kk := 3) rfl rfl rfl ?_
      refine px_iload_n (kk := 2) rfl rfl rfl ?_
      refine px_icmp_ne rfl (fun c21 => ?_) (fun c21 => ?_)
      · refine px_getstatic rfl ?_
        refine px_iload_n (kk := 3) rfl rfl rfl ?_
        refine px_roalde (j := 2) (v := nI 0) rfl hro.2 rfl (by decide) (by decide) ?_
        refine px_ist3 rfl rfl (by decide) ?_
        refine px_iinc4 (v := nI 2) rfl (n_inc 1) rfl (by decide) ?_
        refine px_goto rfl ?_
        refine px_iload rfl rfl ?_
        refine px_bipush (v := nI 8) rfl b_8 ?_
        refine px_icmp_ge rfl (fun h => absurd h (by decide)) (fun _ => ?_)
        refine px_iload_n (kk := 3) rfl rfl rfl ?_
        refine px_callS0 CX0_isKind [] [.int _] (vX0_isKind_0) rfl rfl rfl (Nat.le_of_ble_eq_true rfl) (by decide) ?_
        rintro _ _ - ⟨rfl, rfl⟩
        refine px_if_eq rfl (fun h => absurd h (by decide)) (fun _ => ?_)
        refine px_iload_n (kk := 3) rfl rfl rfl ?_
        refine px_iload_n (kk := 2) rfl rfl rfl ?_
        refine px_icmp_ne rfl (fun c21 => ?_) (fun c21 => ?_)
        · refine px_getstatic rfl ?_
          refine px_iload_n (kk := 3) rfl rfl rfl ?_
          refine px_roalde (j := 0) (v := -1) rfl hro.2 rfl (by decide) (by decide) ?_
          refine px_ist3 rfl rfl (by decide) ?_
          refine px_iinc4 (v := nI 3) rfl (n_inc 2) rfl (by decide) ?_
          refine px_goto rfl ?_
          refine px_iload rfl rfl ?_
          refine px_bipush (v := nI 8) rfl b_8 ?_
          refine px_icmp_ge rfl (fun h => absurd h (by decide)) (fun _ => ?_)
          refine px_iload_n (kk := 3) rfl rfl rfl ?_
          refine px_callS0 CX0_isKind [] [.int _] (vX0_isKind_m1) rfl rfl rfl (Nat.le_of_ble_eq_true rfl) (by decide) ?_
          rintro _ _ - ⟨rfl, rfl⟩
          refine px_if_eq rfl (fun _ => ?_) (fun h => absurd h (by decide))
          refine px_iconst (v := nI 0) rfl k_0 ?_
          refine px_ireturn rfl (.inr ⟨rfl, by decide⟩) ?_
          exact qB_f (fun h => by simp only [sp_und, List.mem_cons, List.not_mem_nil, or_false] at h; rcases h with h | h | h <;> simp_all)
        · refine px_iconst (v := nI 1) rfl k_1 ?_
          refine px_ireturn rfl (.inr ⟨rfl, by decide⟩) ?_
          exact qB_t (by simp only [sp_und]; simp_all)
      · refine px_iconst (v := nI 1) rfl k_1 ?_
        refine px_ireturn rfl (.inr ⟨rfl, by decide⟩) ?_
        exact qB_t (by simp only [sp_und]; simp_all)
    · refine px_iconst (v := nI 1) rfl k_1 ?_
      refine px_ireturn rfl (.inr ⟨rfl, by decide⟩) ?_
      exact qB_t (by simp only [sp_und]; simp_all)
  · exact absurd ⟨b, hb, rfl⟩ h
theorem vX0_isUnder_4 {I : Nat → Nat → Int32} {J : Nat → Nat → Int64} {p : Bool × Option Nat} {ro : List (Nat × Nat × (Nat → Int32))} {z : Nat} (hz : I 49 2 = nI z) (hz50 : z ≤ 50) {b : Nat} (hb : b < z) (hk : I 50 b = nI 4) (hro : RO ro) {y : Int32} : Pv 1 0 0 CX0_isUnder [.ref (49), .int (nI b), .int (y)] (gS, I, J, gR p, ro) (qB (y ∈ sp_und 4) (gS, I, J, gR p, ro)) := by
  refine ⟨okCX0_isUnder, Nat.le_of_ble_eq_true rfl, (show Px _ _ _ _ 0 [some (.ref (49)), some (.int (nI b)), some (.int (y)), none, none] [] _ _ from ?_)⟩
  refine px_aload_n (kk := 0) rfl rfl rfl ?_
  refine px_iload_n (kk := 1) rfl rfl rfl ?_
  refine px_callV0 CX0_isBody [] [.int _] (vX0_isBody hz hz50) rfl gS_49 (by decide) rfl rfl rfl (Nat.le_of_ble_eq_true rfl) (by decide) ?_
  rintro _ _ - (⟨h, rfl, rfl⟩ | ⟨h, rfl, rfl⟩)
  · refine px_if_ne rfl (fun _ => ?_) (fun h => absurd h (by decide))
    refine px_aload_n (kk := 0) rfl rfl rfl ?_
    refine px_getR (r := 50) rfl gS_49 rfl (gR_49_0 _) ?_
    refine px_iload_n (kk := 1) rfl rfl rfl ?_
    refine px_ialde (j := b) (v := nI 4) rfl gS_50 rfl (by omega) hk ?_
    refine px_ist3 rfl rfl (by decide) ?_
    refine px_iconst (v := nI 0) rfl k_0 ?_
    refine px_ist4 rfl rfl (by decide) ?_
    refine px_iload rfl rfl ?_
    refine px_bipush (v := nI 8) rfl b_8 ?_
    refine px_icmp_ge rfl (fun h => absurd h (by decide)) (fun _ => ?_)
    refine px_iload_n (kk := 3) rfl rfl rfl ?_
    refine px_callS0 CX0_isKind [] [.int _] (vX0_isKind_4) rfl rfl rfl (Nat.le_of_ble_eq_true rfl) (by decide) ?_
    rintro _ _ - ⟨rfl, rfl⟩
    refine px_if_eq rfl (fun h => absurd h (by decide)) (fun _ => ?_)
    refine px_iload_n (kk := 3) rfl rfl rfl ?_
    refine px_iload_n (kk := 2) rfl rfl rfl ?_
    refine px_icmp_ne rfl (fun c21 => ?_) (fun c21 => ?_)
    · refine px_getstatic rfl ?_
      refine px_iload_n (kk := 3) rfl rfl rfl ?_
      refine px_roalde (j := 4) (v := nI 1) rfl hro.2 rfl (by decide) (by decide) ?_
      refine px_ist3 rfl rfl (by decide) ?_
      refine px_iinc4 (v := nI 1) rfl (n_inc 0) rfl (by decide) ?_
      refine px_goto rfl ?_
      refine px_iload rfl rfl ?_
      refine px_bipush (v := nI 8) rfl b_8 ?_
      refine px_icmp_ge rfl (fun h => absurd h (by decide)) (fun _ => ?_)
      refine px_iload_n (kk := 3) rfl rfl rfl ?_
      refine px_callS0 CX0_isKind [] [.int _] (vX0_isKind_1) rfl rfl rfl (Nat.le_of_ble_eq_true rfl) (by decide) ?_
      rintro _ _ - ⟨rfl, rfl⟩
      refine px_if_eq rfl (fun h => absurd h (by decide)) (fun _ => ?_)
      refine px_iload_n (kk := 3) rfl rfl rfl ?_
      refine px_iload_n (kk := 2) rfl rfl rfl ?_
      refine px_icmp_ne rfl (fun c21 => ?_) (fun c21 => ?_)
      · refine px_getstatic rfl ?_
        refine px_iload_n (kk := 3) rfl rfl rfl ?_
        refine px_roalde (j := 1) (v := nI 0) rfl hro.2 rfl (by decide) (by decide) ?_
        refine px_ist3 rfl rfl (by decide) ?_
        refine px_iinc4 (v := nI 2) rfl (n_inc 1) rfl (by decide) ?_
        refine px_goto rfl ?_
        refine px_iload rfl rfl ?_
        refine px_bipush (v := nI 8) rfl b_8 ?_
        refine px_icmp_ge rfl (fun h => absurd h (by decide)) (fun _ => ?_)
        refine px_iload_n (kk := 3) rfl rfl rfl ?_
        refine px_callS0 CX0_isKind [] [.int _] (vX0_isKind_0) rfl rfl rfl (Nat.le_of_ble_eq_true rfl) (by decide) ?_
        rintro _ _ - ⟨rfl, rfl⟩
        refine px_if_eq rfl (fun h => absurd h (by decide)) (fun _ => ?_)
        refine px_iload_n (kk := 3) rfl rfl rfl ?_
        refine px_iload_n (kk := 2) rfl rfl rfl ?_
        refine px_icmp_ne rfl (fun c21 => ?_) (fun c21 => ?_)
        · refine px_getstatic rfl ?_
          refine px_iload_n (kk := 3) rfl rfl rfl ?_
          refine px_roalde (j := 0) (v := -1) rfl hro.2 rfl (by decide) (by decide) ?_
          refine px_ist3 rfl rfl (by decide) ?_
          refine px_iinc4 (v := nI 3) rfl (n_inc 2) rfl (by decide) ?_
          refine px_goto rfl ?_
          refine px_iload rfl rfl ?_
          refine px_bipush (v := nI 8) rfl b_8 ?_
          refine px_icmp_ge rfl (fun h => absurd h (by decide)) (fun _ => ?_)
          refine px_iload_n (kk := 3) rfl rfl rfl ?_
          refine px_callS0 CX0_isKind [] [.int _] (vX0_isKind_m1) rfl rfl rfl (Nat.le_of_ble_eq_true rfl) (by decide) ?_
          rintro _ _ - ⟨rfl, rfl⟩
          refine px_if_eq rfl (fun _ => ?_) (fun h => absurd h (by decide))
          refine px_iconst (v := nI 0) rfl k_0 ?_
          refine px_ireturn rfl (.inr ⟨rfl, by decide⟩) ?_
          exact qB_f (fun h => by simp only [sp_und, List.mem_cons, List.not_mem_nil, or_false] at h; rcases h with h | h | h <;> simp_all)
        · refine px_iconst (v := nI 1) rfl k_1 ?_
          refine px_ireturn rfl (.inr ⟨rfl, by decide⟩) ?_
          exact qB_t (by simp only [sp_und]; simp_all)
      · refine px_iconst (v := nI 1) rfl k_1 ?_
        refine px_ireturn rfl (.inr ⟨rfl, by decide⟩) ?_
        exact qB_t (by simp only [sp_und]; simp_all)
    · refine px_iconst (v := nI 1) rfl k_1 ?_
      refine px_ireturn rfl (.inr ⟨rfl, by decide⟩) ?_
      exact qB_t (by simp only [sp_und]; simp_all)
  · exact absurd ⟨b, hb, rfl⟩ h
theorem vX0_isUnder_5 {I : Nat → Nat → Int32} {J : Nat → Nat → Int64} {p : Bool × Option Nat} {ro : List (Nat × Nat × (Nat → Int32))} {z : Nat} (hz : I 49 2 = nI z) (hz50 : z ≤ 50) {b : Nat} (hb : b < z) (hk : I 50 b = nI 5) (hro : RO ro) {y : Int32} : Pv 1 0 0 CX0_isUnder [.ref (49), .int (nI b), .int (y)] (gS, I, J, gR p, ro) (qB (y ∈ sp_und 5) (gS, I, J, gR p, ro)) := by
  refine ⟨okCX0_isUnder, Nat.le_of_ble_eq_true rfl, (show Px _ _ _ _ 0 [some (.ref (49)), some (.int (nI b)), some (.int (y)), none, none] [] _ _ from ?_)⟩
  refine px_aload_n (kk := 0) rfl rfl rfl ?_
  refine px_iload_n (kk := 1) rfl rfl rfl ?_
  refine px_callV0 CX0_isBody [] [.int _] (vX0_isBody hz hz50) rfl gS_49 (by decide) rfl rfl rfl (Nat.le_of_ble_eq_true rfl) (by decide) ?_
  rintro _ _ - (⟨h, rfl, rfl⟩ | ⟨h, rfl, rfl⟩)
  · refine px_if_ne rfl (fun _ => ?_) (fun h => absurd h (by decide))
    refine px_aload_n (kk := 0) rfl rfl rfl ?_
    refine px_getR (r := 50) rfl gS_49 rfl (gR_49_0 _) ?_
    refine px_iload_n (kk := 1) rfl rfl rfl ?_
    refine px_ialde (j := b) (v := nI 5) rfl gS_50 rfl (by omega) hk ?_
    refine px_ist3 rfl rfl (by decide) ?_
    refine px_iconst (v := nI 0) rfl k_0 ?_
    refine px_ist4 rfl rfl (by decide) ?_
    refine px_iload rfl rfl ?_
    refine px_bipush (v := nI 8) rfl b_8 ?_
    refine px_icmp_ge rfl (fun h => absurd h (by decide)) (fun _ => ?_)
    refine px_iload_n (kk := 3) rfl rfl rfl ?_
    refine px_callS0 CX0_isKind [] [.int _] (vX0_isKind_5) rfl rfl rfl (Nat.le_of_ble_eq_true rfl) (by decide) ?_
    rintro _ _ - ⟨rfl, rfl⟩
    refine px_if_eq rfl (fun h => absurd h (by decide)) (fun _ => ?_)
    refine px_iload_n (kk := 3) rfl rfl rfl ?_
    refine px_iload_n (kk := 2) rfl rfl rfl ?_
    refine px_icmp_ne rfl (fun c21 => ?_) (fun c21 => ?_)
    · refine px_getstatic rfl ?_
      refine px_iload_n (kk := 3) rfl rfl rfl ?_
      refine px_roalde (j := 5) (v := nI 3) rfl hro.2 rfl (by decide) (by decide) ?_
      refine px_ist3 rfl rfl (by decide) ?_
      refine px_iinc4 (v := nI 1) rfl (n_inc 0) rfl (by decide) ?_
      refine px_goto rfl ?_
      refine px_iload rfl rfl ?_
      refine px_bipush (v := nI 8) rfl b_8 ?_
      refine px_icmp_ge rfl (fun h => absurd h (by decide)) (fun _ => ?_)
      refine px_iload_n (kk := 3) rfl rfl rfl ?_
      refine px_callS0 CX0_isKind [] [.int _] (vX0_isKind_3) rfl rfl rfl (Nat.le_of_ble_eq_true rfl) (by decide) ?_
      rintro _ _ - ⟨rfl, rfl⟩
      refine px_if_eq rfl (fun h => absurd h (by decide)) (fun _ => ?_)
      refine px_iload_n (kk := 3) rfl rfl rfl ?_
      refine px_iload_n (kk := 2) rfl rfl rfl ?_
      refine px_icmp_ne rfl (fun c21 => ?_) (fun c21 => ?_)
      · refine px_getstatic rfl ?_
        refine px_iload_n (kk := 3) rfl rfl rfl ?_
        refine px_roalde (j := 3) (v := nI 2) rfl hro.2 rfl (by decide) (by decide) ?_
        refine px_ist3 rfl rfl (by decide) ?_
        refine px_iinc4 (v := nI 2) rfl (n_inc 1) rfl (by decide) ?_
        refine px_goto rfl ?_
        refine px_iload rfl rfl ?_
        refine px_bipush (v := nI 8) rfl b_8 ?_
        refine px_icmp_ge rfl (fun h => absurd h (by decide)) (fun _ => ?_)
        refine px_iload_n (kk := 3) rfl rfl rfl ?_
        refine px_callS0 CX0_isKind [] [.int _] (vX0_isKind_2) rfl rfl rfl (Nat.le_of_ble_eq_true rfl) (by decide) ?_
        rintro _ _ - ⟨rfl, rfl⟩
        refine px_if_eq rfl (fun h => absurd h (by decide)) (fun _ => ?_)
        refine px_iload_n (kk := 3) rfl rfl rfl ?_
        refine px_iload_n (kk := 2) rfl rfl rfl ?_
        refine px_icmp_ne rfl (fun c21 => ?_) (fun c21 => ?_)
        · refine px_getstatic rfl ?_
          refine px_iload_n (kk := 3) rfl rfl rfl ?_
          refine px_roalde (j := 2) (v := nI 0) rfl hro.2 rfl (by decide) (by decide) ?_
          refine px_ist3 rfl rfl (by decide) ?_
          refine px_iinc4 (v := nI 3) rfl (n_inc 2) rfl (by decide) ?_
          refine px_goto rfl ?_
          refine px_iload rfl rfl ?_
          refine px_bipush (v := nI 8) rfl b_8 ?_
          refine px_icmp_ge rfl (fun h => absurd h (by decide)) (fun _ => ?_)
          refine px_iload_n (kk := 3) rfl rfl rfl ?_
          refine px_callS0 CX0_isKind [] [.int _] (vX0_isKind_0) rfl rfl rfl (Nat.le_of_ble_eq_true rfl) (by decide) ?_
          rintro _ _ - ⟨rfl, rfl⟩
          refine px_if_eq rfl (fun h => absurd h (by decide)) (fun _ => ?_)
          refine px_iload_n (kk := 3) rfl rfl rfl ?_
          refine px_iload_n (kk := 2) rfl rfl rfl ?_
          refine px_icmp_ne rfl (fun c21 => ?_) (fun c21 => ?_)
          · refine px_getstatic rfl ?_
            refine px_iload_n (kk := 3) rfl rfl rfl ?_
            refine px_roalde (j := 0) (v := -1) rfl hro.2 rfl (by decide) (by decide) ?_
            refine px_ist3 rfl rfl (by decide) ?_
            refine px_iinc4 (v := nI 4) rfl (n_inc 3) rfl (by decide) ?_
            refine px_goto rfl ?_
            refine px_iload rfl rfl ?_
            refine px_bipush (v := nI 8) rfl b_8 ?_
            refine px_icmp_ge rfl (fun h => absurd h (by decide)) (fun _ => ?_)
            refine px_iload_n (kk := 3) rfl rfl rfl ?_
            refine px_callS0 CX0_isKind [] [.int _] (vX0_isKind_m1) rfl rfl rfl (Nat.le_of_ble_eq_true rfl) (by decide) ?_
            rintro _ _ - ⟨rfl, rfl⟩
            refine px_if_eq rfl (fun _ => ?_) (fun h => absurd h (by decide))
            refine px_iconst (v := nI 0) rfl k_0 ?_
            refine px_ireturn rfl (.inr ⟨rfl, by decide⟩) ?_
            exact qB_f (fun h => by simp only [sp_und, List.mem_cons, List.not_mem_nil, or_false] at h; rcases h with h | h | h | h <;> simp_all)
          · refine px_iconst (v := nI 1) rfl k_1 ?_
            refine px_ireturn rfl (.inr ⟨rfl, by decide⟩) ?_
            exact qB_t (by simp only [sp_und]; simp_all)
        · refine px_iconst (v := nI 1) rfl k_1 ?_
          refine px_ireturn rfl (.inr ⟨rfl, by decide⟩) ?_
          exact qB_t (by simp only [sp_und]; simp_all)
      · refine px_iconst (v := nI 1) rfl k_1 ?_
        refine px_ireturn rfl (.inr ⟨rfl, by decide⟩) ?_
        exact qB_t (by simp only [sp_und]; simp_all)
    · refine px_iconst (v := nI 1) rfl k_1 ?_
      refine px_ireturn rfl (.inr ⟨rfl, by decide⟩) ?_
      exact qB_t (by simp only [sp_und]; simp_all)
  · exact absurd ⟨b, hb, rfl⟩ h
theorem vX0_isUnder_6 {I : Nat → Nat → Int32} {J : Nat → Nat → Int64} {p : Bool × Option Nat} {ro : List (Nat × Nat × (Nat → Int32))} {z : Nat} (hz : I 49 2 = nI z) (hz50 : z ≤ 50) {b : Nat} (hb : b < z) (hk : I 50 b = nI 6) (hro : RO ro) {y : Int32} : Pv 1 0 0 CX0_isUnder [.ref (49), .int (nI b), .int (y)] (gS, I, J, gR p, ro) (qB (y ∈ sp_und 6) (gS, I, J, gR p, ro)) := by
  refine ⟨okCX0_isUnder, Nat.le_of_ble_eq_true rfl, (show Px _ _ _ _ 0 [some (.ref (49)), some (.int (nI b)), some (.int (y)), none, none] [] _ _ from ?_)⟩
  refine px_aload_n (kk := 0) rfl rfl rfl ?_
  refine px_iload_n (kk := 1) rfl rfl rfl ?_
  refine px_callV0 CX0_isBody [] [.int _] (vX0_isBody hz hz50) rfl gS_49 (by decide) rfl rfl rfl (Nat.le_of_ble_eq_true rfl) (by decide) ?_
  rintro _ _ - (⟨h, rfl, rfl⟩ | ⟨h, rfl, rfl⟩)
  · refine px_if_ne rfl (fun _ => ?_) (fun h => absurd h (by decide))
    refine px_aload_n (kk := 0) rfl rfl rfl ?_
    refine px_getR (r := 50) rfl gS_49 rfl (gR_49_0 _) ?_
    refine px_iload_n (kk := 1) rfl rfl rfl ?_
    refine px_ialde (j := b) (v := nI 6) rfl gS_50 rfl (by omega) hk ?_
    refine px_ist3 rfl rfl (by decide) ?_
    refine px_iconst (v := nI 0) rfl k_0 ?_
    refine px_ist4 rfl rfl (by decide) ?_
    refine px_iload rfl rfl ?_
    refine px_bipush (v := nI 8) rfl b_8 ?_
    refine px_icmp_ge rfl (fun h => absurd h (by decide)) (fun _ => ?_)
    refine px_iload_n (kk := 3) rfl rfl rfl ?_
    refine px_callS0 CX0_isKind [] [.int _] (vX0_isKind_6) rfl rfl rfl (Nat.le_of_ble_eq_true rfl) (by decide) ?_
    rintro _ _ - ⟨rfl, rfl⟩
    refine px_if_eq rfl (fun h => absurd h (by decide)) (fun _ => ?_)
    refine px_iload_n (kk := 3) rfl rfl rfl ?_
    refine px_iload_n (kk := 2) rfl rfl rfl ?_
    refine px_icmp_ne rfl (fun c21 => ?_) (fun c21 => ?_)
    · refine px_getstatic rfl ?_
      refine px_iload_n (kk := 3) rfl rfl rfl ?_
      refine px_roalde (j := 6) (v := nI 0) rfl hro.2 rfl (by decide) (by decide) ?_
      refine px_ist3 rfl rfl (by decide) ?_
      refine px_iinc4 (v := nI 1) rfl (n_inc 0) rfl (by decide) ?_
      refine px_goto rfl ?_
      refine px_iload rfl rfl ?_
      refine px_bipush (v := nI 8) rfl b_8 ?_
      refine px_icmp_ge rfl (fun h => absurd h (by decide)) (fun _ => ?_)
      refine px_iload_n (kk := 3) rfl rfl rfl ?_
      refine px_callS0 CX0_isKind [] [.int _] (vX0_isKind_0) rfl rfl rfl (Nat.le_of_ble_eq_true rfl) (by decide) ?_
      rintro _ _ - ⟨rfl, rfl⟩
      refine px_if_eq rfl (fun h => absurd h (by decide)) (fun _ => ?_)
      refine px_iload_n (kk := 3) rfl rfl rfl ?_
      refine px_iload_n (kk := 2) rfl rfl rfl ?_
      refine px_icmp_ne rfl (fun c21 => ?_) (fun c21 => ?_)
      · refine px_getstatic rfl ?_
        refine px_iload_n (kk := 3) rfl rfl rfl ?_
        refine px_roalde (j := 0) (v := -1) rfl hro.2 rfl (by decide) (by decide) ?_
        refine px_ist3 rfl rfl (by decide) ?_
        refine px_iinc4 (v := nI 2) rfl (n_inc 1) rfl (by decide) ?_
        refine px_goto rfl ?_
        refine px_iload rfl rfl ?_
        refine px_bipush (v := nI 8) rfl b_8 ?_
        refine px_icmp_ge rfl (fun h => absurd h (by decide)) (fun _ => ?_)
        refine px_iload_n (kk := 3) rfl rfl rfl ?_
        refine px_callS0 CX0_isKind [] [.int _] (vX0_isKind_m1) rfl rfl rfl (Nat.le_of_ble_eq_true rfl) (by decide) ?_
        rintro _ _ - ⟨rfl, rfl⟩
        refine px_if_eq rfl (fun _ => ?_) (fun h => absurd h (by decide))
        refine px_iconst (v := nI 0) rfl k_0 ?_
        refine px_ireturn rfl (.inr ⟨rfl, by decide⟩) ?_
        exact qB_f (fun h => by simp only [sp_und, List.mem_cons, List.not_mem_nil, or_false] at h; rcases h with h | h <;> simp_all)
      · refine px_iconst (v := nI 1) rfl k_1 ?_
        refine px_ireturn rfl (.inr ⟨rfl, by decide⟩) ?_
        exact qB_t (by simp only [sp_und]; simp_all)
    · refine px_iconst (v := nI 1) rfl k_1 ?_
      refine px_ireturn rfl (.inr ⟨rfl, by decide⟩) ?_
      exact qB_t (by simp only [sp_und]; simp_all)
  · exact absurd ⟨b, hb, rfl⟩ h
theorem vX0_isUnder_7 {I : Nat → Nat → Int32} {J : Nat → Nat → Int64} {p : Bool × Option Nat} {ro : List (Nat × Nat × (Nat → Int32))} {z : Nat} (hz : I 49 2 = nI z) (hz50 : z ≤ 50) {b : Nat} (hb : b < z) (hk : I 50 b = nI 7) (hro : RO ro) {y : Int32} : Pv 1 0 0 CX0_isUnder [.ref (49), .int (nI b), .int (y)] (gS, I, J, gR p, ro) (qB (y ∈ sp_und 7) (gS, I, J, gR p, ro)) := by
  refine ⟨okCX0_isUnder, Nat.le_of_ble_eq_true rfl, (show Px _ _ _ _ 0 [some (.ref (49)), some (.int (nI b)), some (.int (y)), none, none] [] _ _ from ?_)⟩
  refine px_aload_n (kk := 0) rfl rfl rfl ?_
  refine px_iload_n (kk := 1) rfl rfl rfl ?_
  refine px_callV0 CX0_isBody [] [.int _] (vX0_isBody hz hz50) rfl gS_49 (by decide) rfl rfl rfl (Nat.le_of_ble_eq_true rfl) (by decide) ?_
  rintro _ _ - (⟨h, rfl, rfl⟩ | ⟨h, rfl, rfl⟩)
  · refine px_if_ne rfl (fun _ => ?_) (fun h => absurd h (by decide))
    refine px_aload_n (kk := 0) rfl rfl rfl ?_
    refine px_getR (r := 50) rfl gS_49 rfl (gR_49_0 _) ?_
    refine px_iload_n (kk := 1) rfl rfl rfl ?_
    refine px_ialde (j := b) (v := nI 7) rfl gS_50 rfl (by omega) hk ?_
    refine px_ist3 rfl rfl (by decide) ?_
    refine px_iconst (v := nI 0) rfl k_0 ?_
    refine px_ist4 rfl rfl (by decide) ?_
    refine px_iload rfl rfl ?_
    refine px_bipush (v := nI 8) rfl b_8 ?_
    refine px_icmp_ge rfl (fun h => absurd h (by decide)) (fun _ => ?_)
    refine px_iload_n (kk := 3) rfl rfl rfl ?_
    refine px_callS0 CX0_isKind [] [.int _] (vX0_isKind_7) rfl rfl rfl (Nat.le_of_ble_eq_true rfl) (by decide) ?_
    rintro _ _ - ⟨rfl, rfl⟩
    refine px_if_eq rfl (fun h => absurd h (by decide)) (fun _ => ?_)
    refine px_iload_n (kk := 3) rfl rfl rfl ?_
    refine px_iload_n (kk := 2) rfl rfl rfl ?_
    refine px_icmp_ne rfl (fun c21 => ?_) (fun c21 => ?_)
    · refine px_getstatic rfl ?_
      refine px_iload_n (kk := 3) rfl rfl rfl ?_
      refine px_roalde (j := 7) (v := nI 6) rfl hro.2 rfl (by decide) (by decide) ?_
      refine px_ist3 rfl rfl (by decide) ?_
      refine px_iinc4 (v := nI 1) rfl (n_inc 0) rfl (by decide) ?_
      refine px_goto rfl ?_
      refine px_iload rfl rfl ?_
      refine px_bipush (v := nI 8) rfl b_8 ?_
      refine px_icmp_ge rfl (fun h => absurd h (by decide)) (fun _ => ?_)
      refine px_iload_n (kk := 3) rfl rfl rfl ?_
      refine px_callS0 CX0_isKind [] [.int _] (vX0_isKind_6) rfl rfl rfl (Nat.le_of_ble_eq_true rfl) (by decide) ?_
      rintro _ _ - ⟨rfl, rfl⟩
      refine px_if_eq rfl (fun h => absurd h (by decide)) (fun _ => ?_)
      refine px_iload_n (kk := 3) rfl rfl rfl ?_
      refine px_iload_n (kk := 2) rfl rfl rfl ?_
      refine px_icmp_ne rfl (fun c21 => ?_) (fun c21 => ?_)
      · refine px_getstatic rfl ?_
        refine px_iload_n (kk := 3) rfl rfl rfl ?_
        refine px_roalde (j := 6) (v := nI 0) rfl hro.2 rfl (by decide) (by decide) ?_
        refine px_ist3 rfl rfl (by decide) ?_
        refine px_iinc4 (v := nI 2) rfl (n_inc 1) rfl (by decide) ?_
        refine px_goto rfl ?_
        refine px_iload rfl rfl ?_
        refine px_bipush (v := nI 8) rfl b_8 ?_
        refine px_icmp_ge rfl (fun h => absurd h (by decide)) (fun _ => ?_)
        refine px_iload_n (kk := 3) rfl rfl rfl ?_
        refine px_callS0 CX0_isKind [] [.int _] (vX0_isKind_0) rfl rfl rfl (Nat.le_of_ble_eq_true rfl) (by decide) ?_
        rintro _ _ - ⟨rfl, rfl⟩
        refine px_if_eq rfl (fun h => absurd h (by decide)) (fun _ => ?_)
        refine px_iload_n (kk := 3) rfl rfl rfl ?_
        refine px_iload_n (kk := 2) rfl rfl rfl ?_
        refine px_icmp_ne rfl (fun c21 => ?_) (fun c21 => ?_)
        · refine px_getstatic rfl ?_
          refine px_iload_n (kk := 3) rfl rfl rfl ?_
          refine px_roalde (j := 0) (v := -1) rfl hro.2 rfl (by decide) (by decide) ?_
          refine px_ist3 rfl rfl (by decide) ?_
          refine px_iinc4 (v := nI 3) rfl (n_inc 2) rfl (by decide) ?_
          refine px_goto rfl ?_
          refine px_iload rfl rfl ?_
          refine px_bipush (v := nI 8) rfl b_8 ?_
          refine px_icmp_ge rfl (fun h => absurd h (by decide)) (fun _ => ?_)
          refine px_iload_n (kk := 3) rfl rfl rfl ?_
          refine px_callS0 CX0_isKind [] [.int _] (vX0_isKind_m1) rfl rfl rfl (Nat.le_of_ble_eq_true rfl) (by decide) ?_
          rintro _ _ - ⟨rfl, rfl⟩
          refine px_if_eq rfl (fun _ => ?_) (fun h => absurd h (by decide))
          refine px_iconst (v := nI 0) rfl k_0 ?_
          refine px_ireturn rfl (.inr ⟨rfl, by decide⟩) ?_
          exact qB_f (fun h => by simp only [sp_und, List.mem_cons, List.not_mem_nil, or_false] at h; rcases h with h | h | h <;> simp_all)
        · refine px_iconst (v := nI 1) rfl k_1 ?_
          refine px_ireturn rfl (.inr ⟨rfl, by decide⟩) ?_
          exact qB_t (by simp only [sp_und]; simp_all)
      · refine px_iconst (v := nI 1) rfl k_1 ?_
        refine px_ireturn rfl (.inr ⟨rfl, by decide⟩) ?_
        exact qB_t (by simp only [sp_und]; simp_all)
    · refine px_iconst (v := nI 1) rfl k_1 ?_
      refine px_ireturn rfl (.inr ⟨rfl, by decide⟩) ?_
      exact qB_t (by simp only [sp_und]; simp_all)
  · exact absurd ⟨b, hb, rfl⟩ h
def sp_jM (I : Nat → Nat → Int32) (n : Nat) (x y v : Int32) : Nat → Nat → Int32 := (va_up (va_up (va_up (va_up I 2 (va_up (I 2) n x)) 3 (va_up (I 3) n y)) 4 (va_up (I 4) n v)) 1 (va_up (I 1) 4 (nI (n + 1))))
theorem vX9_join {I : Nat → Nat → Int32} {J : Nat → Nat → Int64} {p : Bool × Option Nat} {ro : List (Nat × Nat × (Nat → Int32))} {n : Nat} (hn : I 1 4 = nI n) (hn8 : n ≤ 8) {x y v : Int32} : Pv 1 0 0 CX9_join [.ref (1), .int (x), .int (y), .int (v)] (gS, I, J, gR p, ro) (fun r S' => ((n < 8 ∧ sp_may 0 x ∧ sp_may 1 y ∧ sp_may 2 v) ∧ r = some (.int (nI 1)) ∧ S' = (gS, (sp_jM I n x y v), J, gR p, ro)) ∨ (¬ (n < 8 ∧ sp_may 0 x ∧ sp_may 1 y ∧ sp_may 2 v) ∧ r = some (.int (nI 0)) ∧ S' = (gS, I, J, gR p, ro))) := by
  refine ⟨okCX9_join, Nat.le_of_ble_eq_true rfl, (show Px _ _ _ _ 0 [some (.ref (1)), some (.int (x)), some (.int (y)), some (.int (v))] [] _ _ from ?_)⟩
  refine px_aload_n (kk := 0) rfl rfl rfl ?_
  refine px_getIe (v := nI n) rfl gS_1 rfl (by simp only [p_up_n _ _ (show (1 : Nat) ≠ 2 by decide), p_up_n _ _ (show (1 : Nat) ≠ 3 by decide), p_up_n _ _ (show (1 : Nat) ≠ 4 by decide), hn]) ?_
  refine px_bipush (v := nI 8) rfl b_8 ?_
  refine px_icmp_ge rfl (fun c3 => ?_) (fun c3 => ?_)
  · refine px_iconst (v := nI 0) rfl k_0 ?_
    refine px_ireturn rfl (.inr ⟨rfl, by decide⟩) ?_
    exact .inr ⟨fun h => by rw [n_le (by omega) (by omega)] at c3; omega, rfl, rfl⟩
  · have hn7 : n < 8 := by rw [n_le (by omega) (by omega)] at c3; omega
    refine px_aload_n (kk := 0) rfl rfl rfl ?_
    refine px_iconst (v := nI 0) rfl k_0 ?_
    refine px_iload_n (kk := 1) rfl rfl rfl ?_
    refine px_callV0 CX9_mayBe [] [.int _, .int _] (vX9_mayBe_0) rfl gS_1 (by decide) rfl rfl rfl (Nat.le_of_ble_eq_true rfl) (by decide) ?_
    rintro _ _ - (⟨h7, rfl, rfl⟩ | ⟨h7, rfl, rfl⟩)
    · refine px_if_eq rfl (fun h => absurd h (by decide)) (fun _ => ?_)
      refine px_aload_n (kk := 0) rfl rfl rfl ?_
      refine px_iconst (v := nI 1) rfl k_1 ?_
      refine px_iload_n (kk := 2) rfl rfl rfl ?_
      refine px_callV0 CX9_mayBe [] [.int _, .int _] (vX9_mayBe_1) rfl gS_1 (by decide) rfl rfl rfl (Nat.le_of_ble_eq_true rfl) (by decide) ?_
      rintro _ _ - (⟨h12, rfl, rfl⟩ | ⟨h12, rfl, rfl⟩)
      · refine px_if_eq rfl (fun h => absurd h (by decide)) (fun _ => ?_)
        refine px_aload_n (kk := 0) rfl rfl rfl ?_
        refine px_iconst (v := nI 2) rfl k_2 ?_
        refine px_iload_n (kk := 3) rfl rfl rfl ?_
        refine px_callV0 CX9_mayBe [] [.int _, .int _] (vX9_mayBe_2) rfl gS_1 (by decide) rfl rfl rfl (Nat.le_of_ble_eq_true rfl) (by decide) ?_
        rintro _ _ - (⟨h17, rfl, rfl⟩ | ⟨h17, rfl, rfl⟩)
        · refine px_if_ne rfl (fun _ => ?_) (fun h => absurd h (by decide))
          refine px_aload_n (kk := 0) rfl rfl rfl ?_
          refine px_getR (r := 2) rfl gS_1 rfl (gR_1_0 _) ?_
          refine px_aload_n (kk := 0) rfl rfl rfl ?_
          refine px_getIe (v := nI n) rfl gS_1 rfl (by simp only [p_up_n _ _ (show (1 : Nat) ≠ 2 by decide), p_up_n _ _ (show (1 : Nat) ≠ 3 by decide), p_up_n _ _ (show (1 : Nat) ≠ 4 by decide), hn]) ?_
          refine px_iload_n (kk := 1) rfl rfl rfl ?_
          refine px_iast (j := n) rfl gS_2 rfl (by omega) ?_
          refine px_aload_n (kk := 0) rfl rfl rfl ?_
          refine px_getR (r := 3) rfl gS_1 rfl (gR_1_1 _) ?_
          refine px_aload_n (kk := 0) rfl rfl rfl ?_
          refine px_getIe (v := nI n) rfl gS_1 rfl (by simp only [p_up_n _ _ (show (1 : Nat) ≠ 2 by decide), p_up_n _ _ (show (1 : Nat) ≠ 3 by decide), p_up_n _ _ (show (1 : Nat) ≠ 4 by decide), hn]) ?_
          refine px_iload_n (kk := 2) rfl rfl rfl ?_
          refine px_iast (j := n) rfl gS_3 rfl (by omega) ?_
          refine px_aload_n (kk := 0) rfl rfl rfl ?_
          refine px_getR (r := 4) rfl gS_1 rfl (gR_1_2 _) ?_
          refine px_aload_n (kk := 0) rfl rfl rfl ?_
          refine px_getIe (v := nI n) rfl gS_1 rfl (by simp only [p_up_n _ _ (show (1 : Nat) ≠ 2 by decide), p_up_n _ _ (show (1 : Nat) ≠ 3 by decide), p_up_n _ _ (show (1 : Nat) ≠ 4 by decide), hn]) ?_
          refine px_iload_n (kk := 3) rfl rfl rfl ?_
          refine px_iast (j := n) rfl gS_4 rfl (by omega) ?_
          refine px_aload_n (kk := 0) rfl rfl rfl ?_
          refine px_dup rfl rfl ?_
          refine px_getIe (v := nI n) rfl gS_1 rfl (by simp only [p_up_n _ _ (show (1 : Nat) ≠ 2 by decide), p_up_n _ _ (show (1 : Nat) ≠ 3 by decide), p_up_n _ _ (show (1 : Nat) ≠ 4 by decide), hn]) ?_
          refine px_iconst (v := nI 1) rfl k_1 ?_
          refine px_iaddN rfl ?_
          refine px_putI rfl gS_1 rfl rfl ?_
          refine px_iconst (v := nI 1) rfl k_1 ?_
          refine px_ireturn rfl (.inr ⟨rfl, by decide⟩) ?_
          exact .inl ⟨⟨hn7, h7, h12, h17⟩, rfl, by simp only [sp_jM, p_up_n _ _ (show (1 : Nat) ≠ 2 by decide), p_up_n _ _ (show (1 : Nat) ≠ 3 by decide), p_up_n _ _ (show (1 : Nat) ≠ 4 by decide), p_up_n _ _ (show (3 : Nat) ≠ 2 by decide), p_up_n _ _ (show (4 : Nat) ≠ 2 by decide), p_up_n _ _ (show (4 : Nat) ≠ 3 by decide)]⟩
        · refine px_if_ne rfl (fun h => absurd h (by decide)) (fun _ => ?_)
          refine px_iconst (v := nI 0) rfl k_0 ?_
          refine px_ireturn rfl (.inr ⟨rfl, by decide⟩) ?_
          exact .inr ⟨fun h => h17 h.2.2.2, rfl, rfl⟩
      · refine px_if_eq rfl (fun _ => ?_) (fun h => absurd h (by decide))
        refine px_iconst (v := nI 0) rfl k_0 ?_
        refine px_ireturn rfl (.inr ⟨rfl, by decide⟩) ?_
        exact .inr ⟨fun h => h12 h.2.2.1, rfl, rfl⟩
    · refine px_if_eq rfl (fun _ => ?_) (fun h => absurd h (by decide))
      refine px_iconst (v := nI 0) rfl k_0 ?_
      refine px_ireturn rfl (.inr ⟨rfl, by decide⟩) ?_
      exact .inr ⟨fun h => h7 h.2.1, rfl, rfl⟩
/-- the first of those it likes most, but one; -2 where there is none -/
def sp_lm (L : Nat → Int32) (a : Nat) (y : Int32) : Nat → Int32
  | 0 => -2
  | k + 1 => if k = a ∨ nI k = y then sp_lm L a y k else if sp_lm L a y k = -2 ∨ L (8 * a + mN (sp_lm L a y k)) < L (8 * a + k) then nI k else sp_lm L a y k
theorem sp_lm_v {L : Nat → Int32} {a : Nat} {y : Int32} : ∀ k, k ≤ 8 → sp_lm L a y k = -2 ∨ ∃ j, j < k ∧ j ≠ a ∧ sp_lm L a y k = nI j
  | 0, _ => .inl rfl
  | k + 1, hk => by
    have ih : sp_lm L a y k = -2 ∨ ∃ j, j < k + 1 ∧ j ≠ a ∧ sp_lm L a y k = nI j := by
      rcases sp_lm_v (L := L) (a := a) (y := y) k (by omega) with h | ⟨j, h1, h2, h3⟩
      · exact .inl h
      · exact .inr ⟨j, by omega, h2, h3⟩
    unfold sp_lm
    by_cases c : k = a ∨ nI k = y
    · rw [if_pos c]; exact ih
    · rw [if_neg c]
      split
      · exact .inr ⟨k, by omega, fun e => c (.inl e), rfl⟩
      · exact ih
theorem nI_nm2 {j : Nat} (h : j < 8) : nI j ≠ -2 := fun e => by have := congrArg Int32.toInt e; rw [nI_toInt (by omega), show (-2 : Int32).toInt = -2 from by decide +kernel] at this; omega
theorem lX9_lm {I : Nat → Nat → Int32} {J : Nat → Nat → Int64} {p : Bool × Option Nat} {ro : List (Nat × Nat × (Nat → Int32))} {n : Nat} (hn : I 1 4 = nI n) (hn8 : n ≤ 8) {a : Nat} (ha : a < n) {y : Int32} {k : Nat} (hk : k ≤ n) : Px 3 0 0 CX9_likedMost 4 [some (.ref (1)), some (.int (nI a)), some (.int (y)), some (.int ((sp_lm (I 5) a y k))), some (.int (nI k))] [] (gS, I, J, gR p, ro) (qI (sp_lm (I 5) a y n) (gS, I, J, gR p, ro)) := by
  refine px_iload rfl rfl ?_
  refine px_aload_n (kk := 0) rfl rfl rfl ?_
  refine px_getIe (v := nI n) rfl gS_1 rfl hn ?_
  refine px_icmp_ge rfl (fun c7 => ?_) (fun c7 => ?_)
  · refine px_iload_n (kk := 3) rfl rfl rfl ?_
    refine px_ireturn rfl (.inl rfl) ?_
    rw [n_le (by omega) (by omega)] at c7
    obtain rfl : k = n := by omega
    exact ⟨rfl, rfl⟩
  · rw [n_le (by omega) (by omega)] at c7
    refine px_iload rfl rfl ?_
    refine px_iload_n (kk := 1) rfl rfl rfl ?_
    refine px_icmp_eq rfl (fun c10 => ?_) (fun c10 => ?_)
    · refine px_iinc4 (v := nI (k + 1)) rfl (n_inc k) rfl (by decide) ?_
      refine px_goto rfl ?_
      refine px_l3 (y := sp_lm (I 5) a y (k + 1)) ((if_pos (.inl ((n_eq (by omega) (by omega)).mp c10))).symm) ?_
      exact lX9_lm hn hn8 ha (k := k + 1) (by omega)
    · have ka : k ≠ a := fun e => c10 (by rw [e])
      refine px_iload rfl rfl ?_
      refine px_iload_n (kk := 2) rfl rfl rfl ?_
      refine px_icmp_ne rfl (fun c13 => ?_) (fun c13 => ?_)
      · refine px_iload_n (kk := 3) rfl rfl rfl ?_
        refine px_bipush (v := -2) rfl b_m2 ?_
        refine px_icmp_eq rfl (fun c17 => ?_) (fun c17 => ?_)
        · refine px_iload rfl rfl ?_
          refine px_ist3 rfl rfl (by decide) ?_
          refine px_iinc4 (v := nI (k + 1)) rfl (n_inc k) rfl (by decide) ?_
          refine px_goto rfl ?_
          refine px_l3 (y := sp_lm (I 5) a y (k + 1)) (((if_neg (fun e => e.elim ka c13)).trans (if_pos (.inl c17))).symm) ?_
          exact lX9_lm hn hn8 ha (k := k + 1) (by omega)
        · obtain ⟨j, hj, hja, hl⟩ := (sp_lm_v (L := I 5) (a := a) (y := y) k (by omega)).resolve_left c17
          refine px_aload_n (kk := 0) rfl rfl rfl ?_
          refine px_iload_n (kk := 1) rfl rfl rfl ?_
          refine px_iload rfl rfl ?_
          refine px_callV0 CX9_liking [] [.int _, .int _] (vX9_liking hn hn8 ha (b := k) (by omega) (fun e => ka e.symm)) rfl gS_1 (by decide) rfl rfl rfl (Nat.le_of_ble_eq_true rfl) (by decide) ?_
          rintro _ _ - ⟨rfl, rfl⟩
          refine px_aload_n (kk := 0) rfl rfl rfl ?_
          refine px_iload_n (kk := 1) rfl rfl rfl ?_
          refine px_iload_n (kk := 3) rfl rfl rfl ?_
          refine px_ieq hl ?_
          refine px_callV0 CX9_liking [.int _] [.int _, .int _] (vX9_liking hn hn8 ha (b := j) (by omega) (fun e => hja e.symm)) rfl gS_1 (by decide) rfl rfl rfl (Nat.le_of_ble_eq_true rfl) (by decide) ?_
          rintro _ _ - ⟨rfl, rfl⟩
          refine px_icmp_le rfl (fun c26 => ?_) (fun c26 => ?_)
          · refine px_iinc4 (v := nI (k + 1)) rfl (n_inc k) rfl (by decide) ?_
            refine px_goto rfl ?_
            rw [i_le] at c26
            refine px_l3 (y := sp_lm (I 5) a y (k + 1)) (((if_neg (fun e => e.elim ka c13)).trans (if_neg (fun e => e.elim c17 (fun e2 => by rw [hl, mN_n (by omega), i_lt] at e2; omega)))).symm) ?_
            exact lX9_lm hn hn8 ha (k := k + 1) (by omega)
          · refine px_iload rfl rfl ?_
            refine px_ist3 rfl rfl (by decide) ?_
            refine px_iinc4 (v := nI (k + 1)) rfl (n_inc k) rfl (by decide) ?_
            refine px_goto rfl ?_
            rw [i_le] at c26
            refine px_l3 (y := sp_lm (I 5) a y (k + 1)) (((if_neg (fun e => e.elim ka c13)).trans (if_pos (.inr (by rw [hl, mN_n (by omega), i_lt]; omega)))).symm) ?_
            exact lX9_lm hn hn8 ha (k := k + 1) (by omega)
      · refine px_goto rfl ?_
        refine px_iinc4 (v := nI (k + 1)) rfl (n_inc k) rfl (by decide) ?_
        refine px_goto rfl ?_
        refine px_l3 (y := sp_lm (I 5) a y (k + 1)) ((if_pos (.inr (by first | exact c13 | exact Classical.byContradiction c13))).symm) ?_
        exact lX9_lm hn hn8 ha (k := k + 1) (by omega)
termination_by n - k
decreasing_by all_goals (have h := ‹¬ nI n ≤ nI k›; rw [n_le (by omega) (by omega)] at h; omega)
theorem vX9_likedMost {I : Nat → Nat → Int32} {J : Nat → Nat → Int64} {p : Bool × Option Nat} {ro : List (Nat × Nat × (Nat → Int32))} {n : Nat} (hn : I 1 4 = nI n) (hn8 : n ≤ 8) {a : Nat} (ha : a < n) {y : Int32} : Pv 3 0 0 CX9_likedMost [.ref (1), .int (nI a), .int (y)] (gS, I, J, gR p, ro) (qI (sp_lm (I 5) a y n) (gS, I, J, gR p, ro)) := by
  refine ⟨okCX9_likedMost, Nat.le_of_ble_eq_true rfl, (show Px _ _ _ _ 0 [some (.ref (1)), some (.int (nI a)), some (.int (y)), none, none] [] _ _ from ?_)⟩
  refine px_bipush (v := -2) rfl b_m2 ?_
  refine px_ist3 rfl rfl (by decide) ?_
  refine px_iconst (v := nI 0) rfl k_0 ?_
  refine px_ist4 rfl rfl (by decide) ?_
  exact lX9_lm hn hn8 ha (k := 0) (by omega)
/-- where a number stands -/
def sl (w a b : Nat) : Nat × Nat := match w with
  | 0 => (2, a) | 1 => (3, a) | 2 => (4, a) | 3 => (5, 8 * a + b) | 4 => (1, 5) | _ => (1, 6)
/-- its name -/
def nmb (w a b : Nat) : Nat := match w with
  | 0 => a | 1 => a | 2 => a | 3 => 10 * a + b | _ => 0
def okN (n w a b : Nat) : Prop := w < 6 ∧ (w < 3 → a < n) ∧ (w = 3 → a < n ∧ b < n ∧ a ≠ b)
theorem okN_mo {n m w a b : Nat} (h : okN n w a b) (hm : n ≤ m) : okN m w a b := ⟨h.1, fun z => by have := h.2.1 z; omega, fun z => by have := h.2.2 z; omega⟩
theorem sp_num_ok {n w : Nat} (hw : w < 6) {x : Int32} (h : sp_num n w x) : ∃ a b, okN n w a b ∧ x = nI (nmb w a b) := by
  rcases (by omega : w = 0 ∨ w = 1 ∨ w = 2 ∨ w = 3 ∨ w = 4 ∨ w = 5) with rfl | rfl | rfl | rfl | rfl | rfl
  · obtain ⟨a, ha, rfl⟩ := h; exact ⟨a, 0, ⟨by decide, fun _ => ha, fun z => absurd z (by decide)⟩, rfl⟩
  · obtain ⟨a, ha, rfl⟩ := h; exact ⟨a, 0, ⟨by decide, fun _ => ha, fun z => absurd z (by decide)⟩, rfl⟩
  · obtain ⟨a, ha, rfl⟩ := h; exact ⟨a, 0, ⟨by decide, fun _ => ha, fun z => absurd z (by decide)⟩, rfl⟩
  · obtain ⟨a, b, ha, hb, hne, rfl⟩ := h; exact ⟨a, b, ⟨by decide, fun z => absurd z (by decide), fun _ => ⟨ha, hb, hne⟩⟩, rfl⟩
  · exact ⟨0, 0, ⟨by decide, fun z => absurd z (by decide), fun z => absurd z (by decide)⟩, h⟩
  · exact ⟨0, 0, ⟨by decide, fun z => absurd z (by decide), fun z => absurd z (by decide)⟩, h⟩
theorem ok_sp_num {n w a b : Nat} (h : okN n w a b) : sp_num n w (nI (nmb w a b)) := by
  obtain ⟨hw, h1, h2⟩ := h
  rcases (by omega : w = 0 ∨ w = 1 ∨ w = 2 ∨ w = 3 ∨ w = 4 ∨ w = 5) with rfl | rfl | rfl | rfl | rfl | rfl
  · exact ⟨a, h1 (by decide), rfl⟩
  · exact ⟨a, h1 (by decide), rfl⟩
  · exact ⟨a, h1 (by decide), rfl⟩
  · obtain ⟨ha, hb, hne⟩ := h2 rfl; exact ⟨a, b, ha, hb, hne, rfl⟩
  · rfl
  · rfl
theorem vX9_toldG {I : Nat → Nat → Int32} {J : Nat → Nat → Int64} {p : Bool × Option Nat} {ro : List (Nat × Nat × (Nat → Int32))} {n : Nat} (hn : I 1 4 = nI n) (hn8 : n ≤ 8) {w a b : Nat} (h : okN n w a b) : Pv 4 0 0 CX9_told [.ref 1, .int (nI (nmb w a b)), .int (nI w)] (gS, I, J, gR p, ro) (qI (I (sl w a b).1 (sl w a b).2) (gS, I, J, gR p, ro)) := by
  obtain ⟨hw, h1, h2⟩ := h
  rcases (by omega : w = 0 ∨ w = 1 ∨ w = 2 ∨ w = 3 ∨ w = 4 ∨ w = 5) with rfl | rfl | rfl | rfl | rfl | rfl
  · exact vX9_told_0 hn hn8 (h1 (by decide))
  · exact vX9_told_1 hn hn8 (h1 (by decide))
  · exact vX9_told_2 hn hn8 (h1 (by decide))
  · exact vX9_told_3 hn hn8 (h2 rfl).1 (h2 rfl).2.1 (h2 rfl).2.2
  · exact vX9_told_4 hn hn8 
  · exact vX9_told_5 hn hn8 
theorem vX9_tellG {I : Nat → Nat → Int32} {J : Nat → Nat → Int64} {p : Bool × Option Nat} {ro : List (Nat × Nat × (Nat → Int32))} {n : Nat} (hn : I 1 4 = nI n) (hn8 : n ≤ 8) {w a b : Nat} (h : okN n w a b) {v : Int32} : Pv 4 0 0 CX9_tell [.ref 1, .int (nI (nmb w a b)), .int (nI w), .int v] (gS, I, J, gR p, ro) (qV (gS, (va_up I (sl w a b).1 (va_up (I (sl w a b).1) (sl w a b).2 v)), J, gR p, ro)) := by
  obtain ⟨hw, h1, h2⟩ := h
  rcases (by omega : w = 0 ∨ w = 1 ∨ w = 2 ∨ w = 3 ∨ w = 4 ∨ w = 5) with rfl | rfl | rfl | rfl | rfl | rfl
  · exact vX9_tell_0 hn hn8 (h1 (by decide))
  · exact vX9_tell_1 hn hn8 (h1 (by decide))
  · exact vX9_tell_2 hn hn8 (h1 (by decide))
  · exact vX9_tell_3 hn hn8 (h2 rfl).1 (h2 rfl).2.1 (h2 rfl).2.2
  · exact vX9_tell_4 hn hn8 
  · exact vX9_tell_5 hn hn8 
/-- a row of forty with one more entry, the oldest forgotten when it is full -/
def sp_sh (f : Nat → Int32) : Nat → Int32 := va_cpy f f 1 0 39
def sp_push (f : Nat → Int32) (dn : Nat) (v : Int32) : Nat → Int32 := if dn < 40 then va_up f dn v else va_up (sp_sh f) 39 v
def sp_dn (dn : Nat) : Nat := if dn < 40 then dn + 1 else 40
def sp_noteM (I : Nat → Nat → Int32) (dn : Nat) (x w u v : Int32) : Nat → Nat → Int32 := va_up (va_up (va_up (va_up (va_up I 45 (sp_push (I 45) dn x)) 46 (sp_push (I 46) dn w)) 47 (sp_push (I 47) dn u)) 48 (sp_push (I 48) dn v)) 44 (va_up (va_up (I 44) 5 (nI (sp_dn dn))) 6 (nI (sp_dn dn)))
theorem up_c (I : Nat → Nat → Int32) {a b : Nat} (h : a ≠ b) (f g : Nat → Int32) : va_up (va_up I a f) b g = va_up (va_up I b g) a f := by
  funext c
  by_cases h1 : c = b
  · subst h1; rw [p_up_s, p_up_n _ _ (fun e => h e.symm), p_up_s]
  · rw [p_up_n _ _ h1]
    by_cases h2 : c = a
    · subst h2; rw [p_up_s, p_up_s]
    · rw [p_up_n _ _ h2, p_up_n _ _ h2, p_up_n _ _ h1]
theorem vX1_forget {I : Nat → Nat → Int32} {J : Nat → Nat → Int64} {p : Bool × Option Nat} {ro : List (Nat × Nat × (Nat → Int32))}  : Pv 0 0 0 CX1_forgetOldest [.ref (44)] (gS, I, J, gR p, ro) (qV (gS, (va_up (va_up (va_up (va_up (va_up I 45 (sp_sh (I 45))) 46 (sp_sh (I 46))) 47 (sp_sh (I 47))) 48 (sp_sh (I 48))) 44 (va_up (I 44) 5 (nI 39))), J, gR p, ro)) := by
  refine ⟨okCX1_forgetOldest, Nat.le_of_ble_eq_true rfl, (show Px _ _ _ _ 0 [some (.ref (44))] [] _ _ from ?_)⟩
  refine px_aload_n (kk := 0) rfl rfl rfl ?_
  refine px_getR (r := 45) rfl gS_44 rfl (gR_44_1 _) ?_
  refine px_iconst (v := nI 1) rfl k_1 ?_
  refine px_aload_n (kk := 0) rfl rfl rfl ?_
  refine px_getR (r := 45) rfl gS_44 rfl (gR_44_1 _) ?_
  refine px_iconst (v := nI 0) rfl k_0 ?_
  refine px_bipush (v := nI 39) rfl b_39 ?_
  refine px_copyI (1) (0) (39) rfl (Nat.le_of_ble_eq_true rfl) gS_45 gS_45 rfl rfl rfl (by decide) (by decide) ?_
  refine px_aload_n (kk := 0) rfl rfl rfl ?_
  refine px_getR (r := 46) rfl gS_44 rfl (gR_44_2 _) ?_
  refine px_iconst (v := nI 1) rfl k_1 ?_
  refine px_aload_n (kk := 0) rfl rfl rfl ?_
  refine px_getR (r := 46) rfl gS_44 rfl (gR_44_2 _) ?_
  refine px_iconst (v := nI 0) rfl k_0 ?_
  refine px_bipush (v := nI 39) rfl b_39 ?_
  refine px_copyI (1) (0) (39) rfl (Nat.le_of_ble_eq_true rfl) gS_46 gS_46 rfl rfl rfl (by decide) (by decide) ?_
  refine px_aload_n (kk := 0) rfl rfl rfl ?_
  refine px_getR (r := 47) rfl gS_44 rfl (gR_44_3 _) ?_
  refine px_iconst (v := nI 1) rfl k_1 ?_
  refine px_aload_n (kk := 0) rfl rfl rfl ?_
  refine px_getR (r := 47) rfl gS_44 rfl (gR_44_3 _) ?_
  refine px_iconst (v := nI 0) rfl k_0 ?_
  refine px_bipush (v := nI 39) rfl b_39 ?_
  refine px_copyI (1) (0) (39) rfl (Nat.le_of_ble_eq_true rfl) gS_47 gS_47 rfl rfl rfl (by decide) (by decide) ?_
  refine px_aload_n (kk := 0) rfl rfl rfl ?_
  refine px_getR (r := 48) rfl gS_44 rfl (gR_44_4 _) ?_
  refine px_iconst (v := nI 1) rfl k_1 ?_
  refine px_aload_n (kk := 0) rfl rfl rfl ?_
  refine px_getR (r := 48) rfl gS_44 rfl (gR_44_4 _) ?_
  refine px_iconst (v := nI 0) rfl k_0 ?_
  refine px_bipush (v := nI 39) rfl b_39 ?_
  refine px_copyI (1) (0) (39) rfl (Nat.le_of_ble_eq_true rfl) gS_48 gS_48 rfl rfl rfl (by decide) (by decide) ?_
  refine px_aload_n (kk := 0) rfl rfl rfl ?_
  refine px_bipush (v := nI 39) rfl b_39 ?_
  refine px_putI rfl gS_44 rfl rfl ?_
  refine px_return rfl rfl ?_
  exact ⟨rfl, by simp only [p_up_n _ _ (show (44 : Nat) ≠ 45 by decide), p_up_n _ _ (show (44 : Nat) ≠ 46 by decide), p_up_n _ _ (show (44 : Nat) ≠ 47 by decide), p_up_n _ _ (show (44 : Nat) ≠ 48 by decide), p_up_n _ _ (show (45 : Nat) ≠ 44 by decide), p_up_n _ _ (show (45 : Nat) ≠ 46 by decide), p_up_n _ _ (show (45 : Nat) ≠ 47 by decide), p_up_n _ _ (show (45 : Nat) ≠ 48 by decide), p_up_n _ _ (show (46 : Nat) ≠ 44 by decide), p_up_n _ _ (show (46 : Nat) ≠ 45 by decide), p_up_n _ _ (show (46 : Nat) ≠ 47 by decide), p_up_n _ _ (show (46 : Nat) ≠ 48 by decide), p_up_n _ _ (show (47 : Nat) ≠ 44 by decide), p_up_n _ _ (show (47 : Nat) ≠ 45 by decide), p_up_n _ _ (show (47 : Nat) ≠ 46 by decide), p_up_n _ _ (show (47 : Nat) ≠ 48 by decide), p_up_n _ _ (show (48 : Nat) ≠ 44 by decide), p_up_n _ _ (show (48 : Nat) ≠ 45 by decide), p_up_n _ _ (show (48 : Nat) ≠ 46 by decide), p_up_n _ _ (show (48 : Nat) ≠ 47 by decide), sp_sh]⟩
theorem vX1_note_a {I : Nat → Nat → Int32} {J : Nat → Nat → Int64} {p : Bool × Option Nat} {ro : List (Nat × Nat × (Nat → Int32))} {dn : Nat} (hdn : I 44 5 = nI dn) (hd40 : dn ≤ 40) (h40 : dn < 40) {x w u v : Int32} : Pv 2 0 0 CX1_note [.ref (44), .int (x), .int (w), .int (u), .int (v)] (gS, I, J, gR p, ro) (qV (gS, (sp_noteM I dn x w u v), J, gR p, ro)) := by
  refine ⟨okCX1_note, Nat.le_of_ble_eq_true rfl, (show Px _ _ _ _ 0 [some (.ref (44)), some (.int (x)), some (.int (w)), some (.int (u)), some (.int (v))] [] _ _ from ?_)⟩
  refine px_aload_n (kk := 0) rfl rfl rfl ?_
  refine px_getIe (v := nI dn) rfl gS_44 rfl (by simp only [p_up_n _ _ (show (44 : Nat) ≠ 45 by decide), p_up_n _ _ (show (44 : Nat) ≠ 46 by decide), p_up_n _ _ (show (44 : Nat) ≠ 47 by decide), p_up_n _ _ (show (44 : Nat) ≠ 48 by decide), p_up_n _ _ (show (45 : Nat) ≠ 44 by decide), p_up_n _ _ (show (45 : Nat) ≠ 46 by decide), p_up_n _ _ (show (45 : Nat) ≠ 47 by decide), p_up_n _ _ (show (45 : Nat) ≠ 48 by decide), p_up_n _ _ (show (46 : Nat) ≠ 44 by decide), p_up_n _ _ (show (46 : Nat) ≠ 45 by decide), p_up_n _ _ (show (46 : Nat) ≠ 47 by decide), p_up_n _ _ (show (46 : Nat) ≠ 48 by decide), p_up_n _ _ (show (47 : Nat) ≠ 44 by decide), p_up_n _ _ (show (47 : Nat) ≠ 45 by decide), p_up_n _ _ (show (47 : Nat) ≠ 46 by decide), p_up_n _ _ (show (47 : Nat) ≠ 48 by decide), p_up_n _ _ (show (48 : Nat) ≠ 44 by decide), p_up_n _ _ (show (48 : Nat) ≠ 45 by decide), p_up_n _ _ (show (48 : Nat) ≠ 46 by decide), p_up_n _ _ (show (48 : Nat) ≠ 47 by decide), p_up_n _ _ (show (6 : Nat) ≠ 5 by decide), p_up_n _ _ (show (5 : Nat) ≠ 6 by decide), p_up_s, hdn]) ?_
  refine px_bipush (v := nI 40) rfl b_40 ?_
  refine px_icmp_lt rfl (fun c3 => ?_) (fun h => absurd ((n_lt (by omega) (by omega)).mpr h40) h)
  refine px_aload_n (kk := 0) rfl rfl rfl ?_
  refine px_getR (r := 45) rfl gS_44 rfl (gR_44_1 _) ?_
  refine px_aload_n (kk := 0) rfl rfl rfl ?_
  refine px_getIe (v := nI dn) rfl gS_44 rfl (by simp only [p_up_n _ _ (show (44 : Nat) ≠ 45 by decide), p_up_n _ _ (show (44 : Nat) ≠ 46 by decide), p_up_n _ _ (show (44 : Nat) ≠ 47 by decide), p_up_n _ _ (show (44 : Nat) ≠ 48 by decide), p_up_n _ _ (show (45 : Nat) ≠ 44 by decide), p_up_n _ _ (show (45 : Nat) ≠ 46 by decide), p_up_n _ _ (show (45 : Nat) ≠ 47 by decide), p_up_n _ _ (show (45 : Nat) ≠ 48 by decide), p_up_n _ _ (show (46 : Nat) ≠ 44 by decide), p_up_n _ _ (show (46 : Nat) ≠ 45 by decide), p_up_n _ _ (show (46 : Nat) ≠ 47 by decide), p_up_n _ _ (show (46 : Nat) ≠ 48 by decide), p_up_n _ _ (show (47 : Nat) ≠ 44 by decide), p_up_n _ _ (show (47 : Nat) ≠ 45 by decide), p_up_n _ _ (show (47 : Nat) ≠ 46 by decide), p_up_n _ _ (show (47 : Nat) ≠ 48 by decide), p_up_n _ _ (show (48 : Nat) ≠ 44 by decide), p_up_n _ _ (show (48 : Nat) ≠ 45 by decide), p_up_n _ _ (show (48 : Nat) ≠ 46 by decide), p_up_n _ _ (show (48 : Nat) ≠ 47 by decide), p_up_n _ _ (show (6 : Nat) ≠ 5 by decide), p_up_n _ _ (show (5 : Nat) ≠ 6 by decide), p_up_s, hdn]) ?_
  refine px_iload_n (kk := 1) rfl rfl rfl ?_
  refine px_iast (j := dn) rfl gS_45 rfl h40 ?_
  refine px_aload_n (kk := 0) rfl rfl rfl ?_
  refine px_getR (r := 46) rfl gS_44 rfl (gR_44_2 _) ?_
  refine px_aload_n (kk := 0) rfl rfl rfl ?_
  refine px_getIe (v := nI dn) rfl gS_44 rfl (by simp only [p_up_n _ _ (show (44 : Nat) ≠ 45 by decide), p_up_n _ _ (show (44 : Nat) ≠ 46 by decide), p_up_n _ _ (show (44 : Nat) ≠ 47 by decide), p_up_n _ _ (show (44 : Nat) ≠ 48 by decide), p_up_n _ _ (show (45 : Nat) ≠ 44 by decide), p_up_n _ _ (show (45 : Nat) ≠ 46 by decide), p_up_n _ _ (show (45 : Nat) ≠ 47 by decide), p_up_n _ _ (show (45 : Nat) ≠ 48 by decide), p_up_n _ _ (show (46 : Nat) ≠ 44 by decide), p_up_n _ _ (show (46 : Nat) ≠ 45 by decide), p_up_n _ _ (show (46 : Nat) ≠ 47 by decide), p_up_n _ _ (show (46 : Nat) ≠ 48 by decide), p_up_n _ _ (show (47 : Nat) ≠ 44 by decide), p_up_n _ _ (show (47 : Nat) ≠ 45 by decide), p_up_n _ _ (show (47 : Nat) ≠ 46 by decide), p_up_n _ _ (show (47 : Nat) ≠ 48 by decide), p_up_n _ _ (show (48 : Nat) ≠ 44 by decide), p_up_n _ _ (show (48 : Nat) ≠ 45 by decide), p_up_n _ _ (show (48 : Nat) ≠ 46 by decide), p_up_n _ _ (show (48 : Nat) ≠ 47 by decide), p_up_n _ _ (show (6 : Nat) ≠ 5 by decide), p_up_n _ _ (show (5 : Nat) ≠ 6 by decide), p_up_s, hdn]) ?_
  refine px_iload_n (kk := 2) rfl rfl rfl ?_
  refine px_iast (j := dn) rfl gS_46 rfl h40 ?_
  refine px_aload_n (kk := 0) rfl rfl rfl ?_
  refine px_getR (r := 47) rfl gS_44 rfl (gR_44_3 _) ?_
  refine px_aload_n (kk := 0) rfl rfl rfl ?_
  refine px_getIe (v := nI dn) rfl gS_44 rfl (by simp only [p_up_n _ _ (show (44 : Nat) ≠ 45 by decide), p_up_n _ _ (show (44 : Nat) ≠ 46 by decide), p_up_n _ _ (show (44 : Nat) ≠ 47 by decide), p_up_n _ _ (show (44 : Nat) ≠ 48 by decide), p_up_n _ _ (show (45 : Nat) ≠ 44 by decide), p_up_n _ _ (show (45 : Nat) ≠ 46 by decide), p_up_n _ _ (show (45 : Nat) ≠ 47 by decide), p_up_n _ _ (show (45 : Nat) ≠ 48 by decide), p_up_n _ _ (show (46 : Nat) ≠ 44 by decide), p_up_n _ _ (show (46 : Nat) ≠ 45 by decide), p_up_n _ _ (show (46 : Nat) ≠ 47 by decide), p_up_n _ _ (show (46 : Nat) ≠ 48 by decide), p_up_n _ _ (show (47 : Nat) ≠ 44 by decide), p_up_n _ _ (show (47 : Nat) ≠ 45 by decide), p_up_n _ _ (show (47 : Nat) ≠ 46 by decide), p_up_n _ _ (show (47 : Nat) ≠ 48 by decide), p_up_n _ _ (show (48 : Nat) ≠ 44 by decide), p_up_n _ _ (show (48 : Nat) ≠ 45 by decide), p_up_n _ _ (show (48 : Nat) ≠ 46 by decide), p_up_n _ _ (show (48 : Nat) ≠ 47 by decide), p_up_n _ _ (show (6 : Nat) ≠ 5 by decide), p_up_n _ _ (show (5 : Nat) ≠ 6 by decide), p_up_s, hdn]) ?_
  refine px_iload_n (kk := 3) rfl rfl rfl ?_
  refine px_iast (j := dn) rfl gS_47 rfl h40 ?_
  refine px_aload_n (kk := 0) rfl rfl rfl ?_
  refine px_getR (r := 48) rfl gS_44 rfl (gR_44_4 _) ?_
  refine px_aload_n (kk := 0) rfl rfl rfl ?_
  refine px_getIe (v := nI dn) rfl gS_44 rfl (by simp only [p_up_n _ _ (show (44 : Nat) ≠ 45 by decide), p_up_n _ _ (show (44 : Nat) ≠ 46 by decide), p_up_n _ _ (show (44 : Nat) ≠ 47 by decide), p_up_n _ _ (show (44 : Nat) ≠ 48 by decide), p_up_n _ _ (show (45 : Nat) ≠ 44 by decide), p_up_n _ _ (show (45 : Nat) ≠ 46 by decide), p_up_n _ _ (show (45 : Nat) ≠ 47 by decide), p_up_n _ _ (show (45 : Nat) ≠ 48 by decide), p_up_n _ _ (show (46 : Nat) ≠ 44 by decide), p_up_n _ _ (show (46 : Nat) ≠ 45 by decide), p_up_n _ _ (show (46 : Nat) ≠ 47 by decide), p_up_n _ _ (show (46 : Nat) ≠ 48 by decide), p_up_n _ _ (show (47 : Nat) ≠ 44 by decide), p_up_n _ _ (show (47 : Nat) ≠ 45 by decide), p_up_n _ _ (show (47 : Nat) ≠ 46 by decide), p_up_n _ _ (show (47 : Nat) ≠ 48 by decide), p_up_n _ _ (show (48 : Nat) ≠ 44 by decide), p_up_n _ _ (show (48 : Nat) ≠ 45 by decide), p_up_n _ _ (show (48 : Nat) ≠ 46 by decide), p_up_n _ _ (show (48 : Nat) ≠ 47 by decide), p_up_n _ _ (show (6 : Nat) ≠ 5 by decide), p_up_n _ _ (show (5 : Nat) ≠ 6 by decide), p_up_s, hdn]) ?_
  refine px_iload rfl rfl ?_
  refine px_iast (j := dn) rfl gS_48 rfl h40 ?_
  refine px_aload_n (kk := 0) rfl rfl rfl ?_
  refine px_dup rfl rfl ?_
  refine px_getIe (v := nI dn) rfl gS_44 rfl (by simp only [p_up_n _ _ (show (44 : Nat) ≠ 45 by decide), p_up_n _ _ (show (44 : Nat) ≠ 46 by decide), p_up_n _ _ (show (44 : Nat) ≠ 47 by decide), p_up_n _ _ (show (44 : Nat) ≠ 48 by decide), p_up_n _ _ (show (45 : Nat) ≠ 44 by decide), p_up_n _ _ (show (45 : Nat) ≠ 46 by decide), p_up_n _ _ (show (45 : Nat) ≠ 47 by decide), p_up_n _ _ (show (45 : Nat) ≠ 48 by decide), p_up_n _ _ (show (46 : Nat) ≠ 44 by decide), p_up_n _ _ (show (46 : Nat) ≠ 45 by decide), p_up_n _ _ (show (46 : Nat) ≠ 47 by decide), p_up_n _ _ (show (46 : Nat) ≠ 48 by decide), p_up_n _ _ (show (47 : Nat) ≠ 44 by decide), p_up_n _ _ (show (47 : Nat) ≠ 45 by decide), p_up_n _ _ (show (47 : Nat) ≠ 46 by decide), p_up_n _ _ (show (47 : Nat) ≠ 48 by decide), p_up_n _ _ (show (48 : Nat) ≠ 44 by decide), p_up_n _ _ (show (48 : Nat) ≠ 45 by decide), p_up_n _ _ (show (48 : Nat) ≠ 46 by decide), p_up_n _ _ (show (48 : Nat) ≠ 47 by decide), p_up_n _ _ (show (6 : Nat) ≠ 5 by decide), p_up_n _ _ (show (5 : Nat) ≠ 6 by decide), p_up_s, hdn]) ?_
  refine px_iconst (v := nI 1) rfl k_1 ?_
  refine px_iaddN rfl ?_
  refine px_putI rfl gS_44 rfl rfl ?_
  refine px_aload_n (kk := 0) rfl rfl rfl ?_
  refine px_aload_n (kk := 0) rfl rfl rfl ?_
  refine px_getIe (v := nI (dn + 1)) rfl gS_44 rfl (by simp only [p_up_n _ _ (show (44 : Nat) ≠ 45 by decide), p_up_n _ _ (show (44 : Nat) ≠ 46 by decide), p_up_n _ _ (show (44 : Nat) ≠ 47 by decide), p_up_n _ _ (show (44 : Nat) ≠ 48 by decide), p_up_n _ _ (show (45 : Nat) ≠ 44 by decide), p_up_n _ _ (show (45 : Nat) ≠ 46 by decide), p_up_n _ _ (show (45 : Nat) ≠ 47 by decide), p_up_n _ _ (show (45 : Nat) ≠ 48 by decide), p_up_n _ _ (show (46 : Nat) ≠ 44 by decide), p_up_n _ _ (show (46 : Nat) ≠ 45 by decide), p_up_n _ _ (show (46 : Nat) ≠ 47 by decide), p_up_n _ _ (show (46 : Nat) ≠ 48 by decide), p_up_n _ _ (show (47 : Nat) ≠ 44 by decide), p_up_n _ _ (show (47 : Nat) ≠ 45 by decide), p_up_n _ _ (show (47 : Nat) ≠ 46 by decide), p_up_n _ _ (show (47 : Nat) ≠ 48 by decide), p_up_n _ _ (show (48 : Nat) ≠ 44 by decide), p_up_n _ _ (show (48 : Nat) ≠ 45 by decide), p_up_n _ _ (show (48 : Nat) ≠ 46 by decide), p_up_n _ _ (show (48 : Nat) ≠ 47 by decide), p_up_n _ _ (show (6 : Nat) ≠ 5 by decide), p_up_n _ _ (show (5 : Nat) ≠ 6 by decide), p_up_s, hdn]) ?_
  refine px_putI rfl gS_44 rfl rfl ?_
  refine px_return rfl rfl ?_
  refine ⟨rfl, ?_⟩
  simp only [sp_noteM, sp_push, sp_dn, if_pos h40, p_up_n _ _ (show (44 : Nat) ≠ 45 by decide), p_up_n _ _ (show (44 : Nat) ≠ 46 by decide), p_up_n _ _ (show (44 : Nat) ≠ 47 by decide), p_up_n _ _ (show (44 : Nat) ≠ 48 by decide), p_up_n _ _ (show (45 : Nat) ≠ 44 by decide), p_up_n _ _ (show (45 : Nat) ≠ 46 by decide), p_up_n _ _ (show (45 : Nat) ≠ 47 by decide), p_up_n _ _ (show (45 : Nat) ≠ 48 by decide), p_up_n _ _ (show (46 : Nat) ≠ 44 by decide), p_up_n _ _ (show (46 : Nat) ≠ 45 by decide), p_up_n _ _ (show (46 : Nat) ≠ 47 by decide), p_up_n _ _ (show (46 : Nat) ≠ 48 by decide), p_up_n _ _ (show (47 : Nat) ≠ 44 by decide), p_up_n _ _ (show (47 : Nat) ≠ 45 by decide), p_up_n _ _ (show (47 : Nat) ≠ 46 by decide), p_up_n _ _ (show (47 : Nat) ≠ 48 by decide), p_up_n _ _ (show (48 : Nat) ≠ 44 by decide), p_up_n _ _ (show (48 : Nat) ≠ 45 by decide), p_up_n _ _ (show (48 : Nat) ≠ 46 by decide), p_up_n _ _ (show (48 : Nat) ≠ 47 by decide), p_up_n _ _ (show (6 : Nat) ≠ 5 by decide), p_up_n _ _ (show (5 : Nat) ≠ 6 by decide), p_up_s, up2]
theorem vX1_note_b {I : Nat → Nat → Int32} {J : Nat → Nat → Int64} {p : Bool × Option Nat} {ro : List (Nat × Nat × (Nat → Int32))} (hdn : I 44 5 = nI 40) {x w u v : Int32} : Pv 2 0 0 CX1_note [.ref (44), .int (x), .int (w), .int (u), .int (v)] (gS, I, J, gR p, ro) (qV (gS, (sp_noteM I 40 x w u v), J, gR p, ro)) := by
  refine ⟨okCX1_note, Nat.le_of_ble_eq_true rfl, (show Px _ _ _ _ 0 [some (.ref (44)), some (.int (x)), some (.int (w)), some (.int (u)), some (.int (v))] [] _ _ from ?_)⟩
  refine px_aload_n (kk := 0) rfl rfl rfl ?_
  refine px_getIe (v := nI 40) rfl gS_44 rfl hdn ?_
  refine px_bipush (v := nI 40) rfl b_40 ?_
  refine px_icmp_lt rfl (fun h => absurd h (by decide)) (fun _ => ?_)
  refine px_aload_n (kk := 0) rfl rfl rfl ?_
  refine px_callV0 CX1_forgetOldest [] [] (vX1_forget) rfl gS_44 (by decide) rfl rfl rfl (Nat.le_of_ble_eq_true rfl) (by decide) ?_
  rintro _ _ - ⟨rfl, rfl⟩
  refine px_aload_n (kk := 0) rfl rfl rfl ?_
  refine px_getR (r := 45) rfl gS_44 rfl (gR_44_1 _) ?_
  refine px_aload_n (kk := 0) rfl rfl rfl ?_
  refine px_getI rfl gS_44 rfl ?_
  refine px_iload_n (kk := 1) rfl rfl rfl ?_
  refine px_iast rfl gS_45 rfl (by omega) ?_
  refine px_aload_n (kk := 0) rfl rfl rfl ?_
  refine px_getR (r := 46) rfl gS_44 rfl (gR_44_2 _) ?_
  refine px_aload_n (kk := 0) rfl rfl rfl ?_
  refine px_getI rfl gS_44 rfl ?_
  refine px_iload_n (kk := 2) rfl rfl rfl ?_
  refine px_iast rfl gS_46 rfl (by omega) ?_
  refine px_aload_n (kk := 0) rfl rfl rfl ?_
  refine px_getR (r := 47) rfl gS_44 rfl (gR_44_3 _) ?_
  refine px_aload_n (kk := 0) rfl rfl rfl ?_
  refine px_getI rfl gS_44 rfl ?_
  refine px_iload_n (kk := 3) rfl rfl rfl ?_
  refine px_iast rfl gS_47 rfl (by omega) ?_
  refine px_aload_n (kk := 0) rfl rfl rfl ?_
  refine px_getR (r := 48) rfl gS_44 rfl (gR_44_4 _) ?_
  refine px_aload_n (kk := 0) rfl rfl rfl ?_
  refine px_getI rfl gS_44 rfl ?_
  refine px_iload rfl rfl ?_
  refine px_iast rfl gS_48 rfl (by omega) ?_
  refine px_aload_n (kk := 0) rfl rfl rfl ?_
  refine px_dup rfl rfl ?_
  refine px_getIe (v := nI 39) rfl gS_44 rfl (by simp only [p_up_n _ _ (show (44 : Nat) ≠ 45 by decide), p_up_n _ _ (show (44 : Nat) ≠ 46 by decide), p_up_n _ _ (show (44 : Nat) ≠ 47 by decide), p_up_n _ _ (show (44 : Nat) ≠ 48 by decide), p_up_n _ _ (show (45 : Nat) ≠ 44 by decide), p_up_n _ _ (show (45 : Nat) ≠ 46 by decide), p_up_n _ _ (show (45 : Nat) ≠ 47 by decide), p_up_n _ _ (show (45 : Nat) ≠ 48 by decide), p_up_n _ _ (show (46 : Nat) ≠ 44 by decide), p_up_n _ _ (show (46 : Nat) ≠ 45 by decide), p_up_n _ _ (show (46 : Nat) ≠ 47 by decide), p_up_n _ _ (show (46 : Nat) ≠ 48 by decide), p_up_n _ _ (show (47 : Nat) ≠ 44 by decide), p_up_n _ _ (show (47 : Nat) ≠ 45 by decide), p_up_n _ _ (show (47 : Nat) ≠ 46 by decide), p_up_n _ _ (show (47 : Nat) ≠ 48 by decide), p_up_n _ _ (show (48 : Nat) ≠ 44 by decide), p_up_n _ _ (show (48 : Nat) ≠ 45 by decide), p_up_n _ _ (show (48 : Nat) ≠ 46 by decide), p_up_n _ _ (show (48 : Nat) ≠ 47 by decide), p_up_n _ _ (show (6 : Nat) ≠ 5 by decide), p_up_n _ _ (show (5 : Nat) ≠ 6 by decide), p_up_s, up2]) ?_
  refine px_iconst (v := nI 1) rfl k_1 ?_
  refine px_iaddN rfl ?_
  refine px_putI rfl gS_44 rfl rfl ?_
  refine px_aload_n (kk := 0) rfl rfl rfl ?_
  refine px_aload_n (kk := 0) rfl rfl rfl ?_
  refine px_getIe (v := nI 40) rfl gS_44 rfl (by simp only [p_up_n _ _ (show (44 : Nat) ≠ 45 by decide), p_up_n _ _ (show (44 : Nat) ≠ 46 by decide), p_up_n _ _ (show (44 : Nat) ≠ 47 by decide), p_up_n _ _ (show (44 : Nat) ≠ 48 by decide), p_up_n _ _ (show (45 : Nat) ≠ 44 by decide), p_up_n _ _ (show (45 : Nat) ≠ 46 by decide), p_up_n _ _ (show (45 : Nat) ≠ 47 by decide), p_up_n _ _ (show (45 : Nat) ≠ 48 by decide), p_up_n _ _ (show (46 : Nat) ≠ 44 by decide), p_up_n _ _ (show (46 : Nat) ≠ 45 by decide), p_up_n _ _ (show (46 : Nat) ≠ 47 by decide), p_up_n _ _ (show (46 : Nat) ≠ 48 by decide), p_up_n _ _ (show (47 : Nat) ≠ 44 by decide), p_up_n _ _ (show (47 : Nat) ≠ 45 by decide), p_up_n _ _ (show (47 : Nat) ≠ 46 by decide), p_up_n _ _ (show (47 : Nat) ≠ 48 by decide), p_up_n _ _ (show (48 : Nat) ≠ 44 by decide), p_up_n _ _ (show (48 : Nat) ≠ 45 by decide), p_up_n _ _ (show (48 : Nat) ≠ 46 by decide), p_up_n _ _ (show (48 : Nat) ≠ 47 by decide), p_up_n _ _ (show (6 : Nat) ≠ 5 by decide), p_up_n _ _ (show (5 : Nat) ≠ 6 by decide), p_up_s, up2]) ?_
  refine px_putI rfl gS_44 rfl rfl ?_
  refine px_return rfl rfl ?_
  refine ⟨rfl, ?_⟩
  simp only [sp_noteM, sp_push, sp_dn, if_neg (show ¬ 40 < 40 by decide), p_up_n _ _ (show (44 : Nat) ≠ 45 by decide), p_up_n _ _ (show (44 : Nat) ≠ 46 by decide), p_up_n _ _ (show (44 : Nat) ≠ 47 by decide), p_up_n _ _ (show (44 : Nat) ≠ 48 by decide), p_up_n _ _ (show (45 : Nat) ≠ 44 by decide), p_up_n _ _ (show (45 : Nat) ≠ 46 by decide), p_up_n _ _ (show (45 : Nat) ≠ 47 by decide), p_up_n _ _ (show (45 : Nat) ≠ 48 by decide), p_up_n _ _ (show (46 : Nat) ≠ 44 by decide), p_up_n _ _ (show (46 : Nat) ≠ 45 by decide), p_up_n _ _ (show (46 : Nat) ≠ 47 by decide), p_up_n _ _ (show (46 : Nat) ≠ 48 by decide), p_up_n _ _ (show (47 : Nat) ≠ 44 by decide), p_up_n _ _ (show (47 : Nat) ≠ 45 by decide), p_up_n _ _ (show (47 : Nat) ≠ 46 by decide), p_up_n _ _ (show (47 : Nat) ≠ 48 by decide), p_up_n _ _ (show (48 : Nat) ≠ 44 by decide), p_up_n _ _ (show (48 : Nat) ≠ 45 by decide), p_up_n _ _ (show (48 : Nat) ≠ 46 by decide), p_up_n _ _ (show (48 : Nat) ≠ 47 by decide), p_up_n _ _ (show (6 : Nat) ≠ 5 by decide), p_up_n _ _ (show (5 : Nat) ≠ 6 by decide), p_up_s, up2]
  refine congrArg (fun z => (gS, z, J, gR p, ro)) ?_
  funext c
  by_cases h44 : c = 44
  · subst h44
    simp only [p_up_n _ _ (show (44 : Nat) ≠ 45 by decide), p_up_n _ _ (show (44 : Nat) ≠ 46 by decide), p_up_n _ _ (show (44 : Nat) ≠ 47 by decide), p_up_n _ _ (show (44 : Nat) ≠ 48 by decide), p_up_n _ _ (show (45 : Nat) ≠ 44 by decide), p_up_n _ _ (show (45 : Nat) ≠ 46 by decide), p_up_n _ _ (show (45 : Nat) ≠ 47 by decide), p_up_n _ _ (show (45 : Nat) ≠ 48 by decide), p_up_n _ _ (show (46 : Nat) ≠ 44 by decide), p_up_n _ _ (show (46 : Nat) ≠ 45 by decide), p_up_n _ _ (show (46 : Nat) ≠ 47 by decide), p_up_n _ _ (show (46 : Nat) ≠ 48 by decide), p_up_n _ _ (show (47 : Nat) ≠ 44 by decide), p_up_n _ _ (show (47 : Nat) ≠ 45 by decide), p_up_n _ _ (show (47 : Nat) ≠ 46 by decide), p_up_n _ _ (show (47 : Nat) ≠ 48 by decide), p_up_n _ _ (show (48 : Nat) ≠ 44 by decide), p_up_n _ _ (show (48 : Nat) ≠ 45 by decide), p_up_n _ _ (show (48 : Nat) ≠ 46 by decide), p_up_n _ _ (show (48 : Nat) ≠ 47 by decide), p_up_n _ _ (show (6 : Nat) ≠ 5 by decide), p_up_n _ _ (show (5 : Nat) ≠ 6 by decide), p_up_s, up2]
    funext j
    by_cases j6 : j = 6
    · subst j6; rw [p_up_s, p_up_s]
    · rw [p_up_n _ _ j6, p_up_n _ _ j6]
      by_cases j5 : j = 5
      · subst j5; rw [p_up_s, p_up_s]
      · rw [p_up_n _ _ j5, p_up_n _ _ j5, p_up_n _ _ j5]
  · by_cases h45 : c = 45
    · subst h45; simp only [p_up_n _ _ (show (44 : Nat) ≠ 45 by decide), p_up_n _ _ (show (44 : Nat) ≠ 46 by decide), p_up_n _ _ (show (44 : Nat) ≠ 47 by decide), p_up_n _ _ (show (44 : Nat) ≠ 48 by decide), p_up_n _ _ (show (45 : Nat) ≠ 44 by decide), p_up_n _ _ (show (45 : Nat) ≠ 46 by decide), p_up_n _ _ (show (45 : Nat) ≠ 47 by decide), p_up_n _ _ (show (45 : Nat) ≠ 48 by decide), p_up_n _ _ (show (46 : Nat) ≠ 44 by decide), p_up_n _ _ (show (46 : Nat) ≠ 45 by decide), p_up_n _ _ (show (46 : Nat) ≠ 47 by decide), p_up_n _ _ (show (46 : Nat) ≠ 48 by decide), p_up_n _ _ (show (47 : Nat) ≠ 44 by decide), p_up_n _ _ (show (47 : Nat) ≠ 45 by decide), p_up_n _ _ (show (47 : Nat) ≠ 46 by decide), p_up_n _ _ (show (47 : Nat) ≠ 48 by decide), p_up_n _ _ (show (48 : Nat) ≠ 44 by decide), p_up_n _ _ (show (48 : Nat) ≠ 45 by decide), p_up_n _ _ (show (48 : Nat) ≠ 46 by decide), p_up_n _ _ (show (48 : Nat) ≠ 47 by decide), p_up_n _ _ (show (6 : Nat) ≠ 5 by decide), p_up_n _ _ (show (5 : Nat) ≠ 6 by decide), p_up_s, up2]
    · by_cases h46 : c = 46
      · subst h46; simp only [p_up_n _ _ (show (44 : Nat) ≠ 45 by decide), p_up_n _ _ (show (44 : Nat) ≠ 46 by decide), p_up_n _ _ (show (44 : Nat) ≠ 47 by decide), p_up_n _ _ (show (44 : Nat) ≠ 48 by decide), p_up_n _ _ (show (45 : Nat) ≠ 44 by decide), p_up_n _ _ (show (45 : Nat) ≠ 46 by decide), p_up_n _ _ (show (45 : Nat) ≠ 47 by decide), p_up_n _ _ (show (45 : Nat) ≠ 48 by decide), p_up_n _ _ (show (46 : Nat) ≠ 44 by decide), p_up_n _ _ (show (46 : Nat) ≠ 45 by decide), p_up_n _ _ (show (46 : Nat) ≠ 47 by decide), p_up_n _ _ (show (46 : Nat) ≠ 48 by decide), p_up_n _ _ (show (47 : Nat) ≠ 44 by decide), p_up_n _ _ (show (47 : Nat) ≠ 45 by decide), p_up_n _ _ (show (47 : Nat) ≠ 46 by decide), p_up_n _ _ (show (47 : Nat) ≠ 48 by decide), p_up_n _ _ (show (48 : Nat) ≠ 44 by decide), p_up_n _ _ (show (48 : Nat) ≠ 45 by decide), p_up_n _ _ (show (48 : Nat) ≠ 46 by decide), p_up_n _ _ (show (48 : Nat) ≠ 47 by decide), p_up_n _ _ (show (6 : Nat) ≠ 5 by decide), p_up_n _ _ (show (5 : Nat) ≠ 6 by decide), p_up_s, up2]
      · by_cases h47 : c = 47
        · subst h47; simp only [p_up_n _ _ (show (44 : Nat) ≠ 45 by decide), p_up_n _ _ (show (44 : Nat) ≠ 46 by decide), p_up_n _ _ (show (44 : Nat) ≠ 47 by decide), p_up_n _ _ (show (44 : Nat) ≠ 48 by decide), p_up_n _ _ (show (45 : Nat) ≠ 44 by decide), p_up_n _ _ (show (45 : Nat) ≠ 46 by decide), p_up_n _ _ (show (45 : Nat) ≠ 47 by decide), p_up_n _ _ (show (45 : Nat) ≠ 48 by decide), p_up_n _ _ (show (46 : Nat) ≠ 44 by decide), p_up_n _ _ (show (46 : Nat) ≠ 45 by decide), p_up_n _ _ (show (46 : Nat) ≠ 47 by decide), p_up_n _ _ (show (46 : Nat) ≠ 48 by decide), p_up_n _ _ (show (47 : Nat) ≠ 44 by decide), p_up_n _ _ (show (47 : Nat) ≠ 45 by decide), p_up_n _ _ (show (47 : Nat) ≠ 46 by decide), p_up_n _ _ (show (47 : Nat) ≠ 48 by decide), p_up_n _ _ (show (48 : Nat) ≠ 44 by decide), p_up_n _ _ (show (48 : Nat) ≠ 45 by decide), p_up_n _ _ (show (48 : Nat) ≠ 46 by decide), p_up_n _ _ (show (48 : Nat) ≠ 47 by decide), p_up_n _ _ (show (6 : Nat) ≠ 5 by decide), p_up_n _ _ (show (5 : Nat) ≠ 6 by decide), p_up_s, up2]
        · by_cases h48 : c = 48
          · subst h48; simp only [p_up_n _ _ (show (44 : Nat) ≠ 45 by decide), p_up_n _ _ (show (44 : Nat) ≠ 46 by decide), p_up_n _ _ (show (44 : Nat) ≠ 47 by decide), p_up_n _ _ (show (44 : Nat) ≠ 48 by decide), p_up_n _ _ (show (45 : Nat) ≠ 44 by decide), p_up_n _ _ (show (45 : Nat) ≠ 46 by decide), p_up_n _ _ (show (45 : Nat) ≠ 47 by decide), p_up_n _ _ (show (45 : Nat) ≠ 48 by decide), p_up_n _ _ (show (46 : Nat) ≠ 44 by decide), p_up_n _ _ (show (46 : Nat) ≠ 45 by decide), p_up_n _ _ (show (46 : Nat) ≠ 47 by decide), p_up_n _ _ (show (46 : Nat) ≠ 48 by decide), p_up_n _ _ (show (47 : Nat) ≠ 44 by decide), p_up_n _ _ (show (47 : Nat) ≠ 45 by decide), p_up_n _ _ (show (47 : Nat) ≠ 46 by decide), p_up_n _ _ (show (47 : Nat) ≠ 48 by decide), p_up_n _ _ (show (48 : Nat) ≠ 44 by decide), p_up_n _ _ (show (48 : Nat) ≠ 45 by decide), p_up_n _ _ (show (48 : Nat) ≠ 46 by decide), p_up_n _ _ (show (48 : Nat) ≠ 47 by decide), p_up_n _ _ (show (6 : Nat) ≠ 5 by decide), p_up_n _ _ (show (5 : Nat) ≠ 6 by decide), p_up_s, up2]
          · simp only [p_up_n _ _ h44, p_up_n _ _ h45, p_up_n _ _ h46, p_up_n _ _ h47, p_up_n _ _ h48]
theorem vX1_note {I : Nat → Nat → Int32} {J : Nat → Nat → Int64} {p : Bool × Option Nat} {ro : List (Nat × Nat × (Nat → Int32))} {dn : Nat} (hdn : I 44 5 = nI dn) (hd40 : dn ≤ 40) {x w u v : Int32} : Pv 2 0 0 CX1_note [.ref (44), .int (x), .int (w), .int (u), .int (v)] (gS, I, J, gR p, ro) (qV (gS, (sp_noteM I dn x w u v), J, gR p, ro)) := by
  by_cases h : dn < 40
  · exact vX1_note_a hdn hd40 h
  · obtain rfl : dn = 40 := by omega
    exact vX1_note_b hdn
theorem vX1_takeBack_0 {I : Nat → Nat → Int32} {J : Nat → Nat → Int64} {p : Bool × Option Nat} {ro : List (Nat × Nat × (Nat → Int32))} (hc : I 44 5 = nI 0) : Pv 4 0 0 CX1_takeBack [.ref (44)] (gS, I, J, gR p, ro) (qI (nI 0) (gS, I, J, gR p, ro)) := by
  refine ⟨okCX1_takeBack, Nat.le_of_ble_eq_true rfl, (show Px _ _ _ _ 0 [some (.ref (44))] [] _ _ from ?_)⟩
  refine px_aload_n (kk := 0) rfl rfl rfl ?_
  refine px_getIe (v := nI 0) rfl gS_44 rfl hc ?_
  refine px_if_gt rfl (fun h => absurd h (by decide)) (fun _ => ?_)
  refine px_iconst (v := nI 0) rfl k_0 ?_
  refine px_ireturn rfl (.inr ⟨rfl, by decide⟩) ?_
  exact ⟨rfl, rfl⟩
def sp_tbM (I : Nat → Nat → Int32) (c k j : Nat) (v : Int32) : Nat → Nat → Int32 := va_up (va_up I 44 (va_up (I 44) 5 (nI c))) k (va_up (I k) j v)
theorem sl_ne {n w a b : Nat} (h : okN n w a b) {q : Nat} (hq : 6 ≤ q) : (sl w a b).1 ≠ q := by
  have hw := h.1
  rcases (by omega : w = 0 ∨ w = 1 ∨ w = 2 ∨ w = 3 ∨ w = 4 ∨ w = 5) with rfl | rfl | rfl | rfl | rfl | rfl <;> simp only [sl] <;> omega
theorem i_gt_0 (c : Nat) (h : c < 40) : nI 0 < nI (c + 1) := (n_lt (by omega) (by omega)).mpr (by omega)
theorem vX1_takeBack_s {I : Nat → Nat → Int32} {J : Nat → Nat → Int64} {p : Bool × Option Nat} {ro : List (Nat × Nat × (Nat → Int32))} {n : Nat} (hn : I 1 4 = nI n) (hn8 : n ≤ 8) {c : Nat} (hc : I 44 5 = nI (c + 1)) (hc40 : c < 40) {w a b : Nat} (ho : okN n w a b) (hx : I 45 c = nI (nmb w a b)) (hw : I 46 c = nI w) : Pv 5 0 0 CX1_takeBack [.ref (44)] (gS, I, J, gR p, ro) (qI (nI 1) (gS, (sp_tbM I c (sl w a b).1 (sl w a b).2 (I 47 c)), J, gR p, ro)) := by
  refine ⟨okCX1_takeBack, Nat.le_of_ble_eq_true rfl, (show Px _ _ _ _ 0 [some (.ref (44))] [] _ _ from ?_)⟩
  refine px_aload_n (kk := 0) rfl rfl rfl ?_
  refine px_getIe (v := nI (c + 1)) rfl gS_44 rfl hc ?_
  refine px_if_gt rfl (fun c2 => ?_) (fun h => absurd ((i_gt_0 c hc40)) h)
  refine px_aload_n (kk := 0) rfl rfl rfl ?_
  refine px_dup rfl rfl ?_
  refine px_getIe (v := nI (c + 1)) rfl gS_44 rfl hc ?_
  refine px_iconst (v := nI 1) rfl k_1 ?_
  refine px_isub rfl ?_
  refine px_ieq (y := nI c) (nI_pred c) ?_
  refine px_putI rfl gS_44 rfl rfl ?_
  refine px_aload_n (kk := 0) rfl rfl rfl ?_
  refine px_getR (r := 1) rfl gS_44 rfl (gR_44_0 _) ?_
  refine px_aload_n (kk := 0) rfl rfl rfl ?_
  refine px_getR (r := 45) rfl gS_44 rfl (gR_44_1 _) ?_
  refine px_aload_n (kk := 0) rfl rfl rfl ?_
  refine px_getIe (v := nI c) rfl gS_44 rfl (by rw [p_up_s, p_up_s]) ?_
  refine px_ialde (j := c) (v := nI (nmb w a b)) rfl gS_45 rfl (by omega) ((congrFun (p_up_n _ _ (by decide)) c).trans hx) ?_
  refine px_aload_n (kk := 0) rfl rfl rfl ?_
  refine px_getR (r := 46) rfl gS_44 rfl (gR_44_2 _) ?_
  refine px_aload_n (kk := 0) rfl rfl rfl ?_
  refine px_getIe (v := nI c) rfl gS_44 rfl (by rw [p_up_s, p_up_s]) ?_
  refine px_ialde (j := c) (v := nI w) rfl gS_46 rfl (by omega) ((congrFun (p_up_n _ _ (by decide)) c).trans hw) ?_
  refine px_aload_n (kk := 0) rfl rfl rfl ?_
  refine px_getR (r := 47) rfl gS_44 rfl (gR_44_3 _) ?_
  refine px_aload_n (kk := 0) rfl rfl rfl ?_
  refine px_getIe (v := nI c) rfl gS_44 rfl (by rw [p_up_s, p_up_s]) ?_
  refine px_ialde (j := c) (v := I 47 c) rfl gS_47 rfl (by omega) (congrFun (p_up_n _ _ (by decide)) c) ?_
  refine px_callV0 CX9_tell [] [.int _, .int _, .int _] (vX9_tellG ((congrFun (p_up_n _ _ (by decide)) 4).trans hn) hn8 ho) rfl gS_1 (by decide) rfl rfl rfl (Nat.le_of_ble_eq_true rfl) (by decide) ?_
  rintro _ _ - ⟨rfl, rfl⟩
  refine px_iconst (v := nI 1) rfl k_1 ?_
  refine px_ireturn rfl (.inr ⟨rfl, by decide⟩) ?_
  refine ⟨rfl, ?_⟩
  unfold sp_tbM
  rw [p_up_n _ _ (sl_ne ho (by omega))]
theorem vX1_doAgain_0 {I : Nat → Nat → Int32} {J : Nat → Nat → Int64} {p : Bool × Option Nat} {ro : List (Nat × Nat × (Nat → Int32))} {c : Nat} (hc : I 44 5 = nI c) (hc40 : c ≤ 40) (ha : I 44 6 = nI c) : Pv 4 0 0 CX1_doAgain [.ref (44)] (gS, I, J, gR p, ro) (qI (nI 0) (gS, I, J, gR p, ro)) := by
  refine ⟨okCX1_doAgain, Nat.le_of_ble_eq_true rfl, (show Px _ _ _ _ 0 [some (.ref (44))] [] _ _ from ?_)⟩
  refine px_aload_n (kk := 0) rfl rfl rfl ?_
  refine px_getIe (v := nI c) rfl gS_44 rfl hc ?_
  refine px_aload_n (kk := 0) rfl rfl rfl ?_
  refine px_getIe (v := nI c) rfl gS_44 rfl ha ?_
  refine px_icmp_lt rfl (fun h => absurd h (fun h => by rw [n_lt (by omega) (by omega)] at h; omega)) (fun c4 => ?_)
  refine px_iconst (v := nI 0) rfl k_0 ?_
  refine px_ireturn rfl (.inr ⟨rfl, by decide⟩) ?_
  exact ⟨rfl, rfl⟩
theorem vX1_doAgain_s {I : Nat → Nat → Int32} {J : Nat → Nat → Int64} {p : Bool × Option Nat} {ro : List (Nat × Nat × (Nat → Int32))} {n : Nat} (hn : I 1 4 = nI n) (hn8 : n ≤ 8) {c al : Nat} (hc : I 44 5 = nI c) (hal : I 44 6 = nI al) (hca : c < al) (hal40 : al ≤ 40) {w a b : Nat} (ho : okN n w a b) (hx : I 45 c = nI (nmb w a b)) (hw : I 46 c = nI w) : Pv 5 0 0 CX1_doAgain [.ref (44)] (gS, I, J, gR p, ro) (qI (nI 1) (gS, (sp_tbM I (c + 1) (sl w a b).1 (sl w a b).2 (I 48 c)), J, gR p, ro)) := by
  refine ⟨okCX1_doAgain, Nat.le_of_ble_eq_true rfl, (show Px _ _ _ _ 0 [some (.ref (44))] [] _ _ from ?_)⟩
  refine px_aload_n (kk := 0) rfl rfl rfl ?_
  refine px_getIe (v := nI c) rfl gS_44 rfl hc ?_
  refine px_aload_n (kk := 0) rfl rfl rfl ?_
  refine px_getIe (v := nI al) rfl gS_44 rfl hal ?_
  refine px_icmp_lt rfl (fun c4 => ?_) (fun h => absurd ((n_lt (by omega) (by omega)).mpr hca) h)
  refine px_aload_n (kk := 0) rfl rfl rfl ?_
  refine px_getR (r := 1) rfl gS_44 rfl (gR_44_0 _) ?_
  refine px_aload_n (kk := 0) rfl rfl rfl ?_
  refine px_getR (r := 45) rfl gS_44 rfl (gR_44_1 _) ?_
  refine px_aload_n (kk := 0) rfl rfl rfl ?_
  refine px_getIe (v := nI c) rfl gS_44 rfl hc ?_
  refine px_ialde (j := c) (v := nI (nmb w a b)) rfl gS_45 rfl (by omega) hx ?_
  refine px_aload_n (kk := 0) rfl rfl rfl ?_
  refine px_getR (r := 46) rfl gS_44 rfl (gR_44_2 _) ?_
  refine px_aload_n (kk := 0) rfl rfl rfl ?_
  refine px_getIe (v := nI c) rfl gS_44 rfl hc ?_
  refine px_ialde (j := c) (v := nI w) rfl gS_46 rfl (by omega) hw ?_
  refine px_aload_n (kk := 0) rfl rfl rfl ?_
  refine px_getR (r := 48) rfl gS_44 rfl (gR_44_4 _) ?_
  refine px_aload_n (kk := 0) rfl rfl rfl ?_
  refine px_getIe (v := nI c) rfl gS_44 rfl hc ?_
  refine px_ialde (j := c) (v := I 48 c) rfl gS_48 rfl (by omega) rfl ?_
  refine px_callV0 CX9_tell [] [.int _, .int _, .int _] (vX9_tellG hn hn8 ho) rfl gS_1 (by decide) rfl rfl rfl (Nat.le_of_ble_eq_true rfl) (by decide) ?_
  rintro _ _ - ⟨rfl, rfl⟩
  refine px_aload_n (kk := 0) rfl rfl rfl ?_
  refine px_dup rfl rfl ?_
  refine px_getIe (v := nI c) rfl gS_44 rfl ((congrFun (p_up_n _ _ (sl_ne ho (by omega)).symm) 5).trans hc) ?_
  refine px_iconst (v := nI 1) rfl k_1 ?_
  refine px_iaddN rfl ?_
  refine px_putI rfl gS_44 rfl rfl ?_
  refine px_iconst (v := nI 1) rfl k_1 ?_
  refine px_ireturn rfl (.inr ⟨rfl, by decide⟩) ?_
  refine ⟨rfl, ?_⟩
  unfold sp_tbM
  rw [p_up_n _ _ (sl_ne ho (by omega)).symm, up_c _ (sl_ne ho (by omega))]
theorem vX2_partner {I : Nat → Nat → Int32} {J : Nat → Nat → Int64} {p : Bool × Option Nat} {ro : List (Nat × Nat × (Nat → Int32))} {a : Nat} (ha : a < 8) : Pv 0 0 0 CX2_partner [.ref (34), .int (nI a)] (gS, I, J, gR p, ro) (qI (if I 36 a = -1 then -2 else I 36 a) (gS, I, J, gR p, ro)) := by
  refine ⟨okCX2_partner, Nat.le_of_ble_eq_true rfl, (show Px _ _ _ _ 0 [some (.ref (34)), some (.int (nI a))] [] _ _ from ?_)⟩
  refine px_aload_n (kk := 0) rfl rfl rfl ?_
  refine px_getR (r := 35) rfl gS_34 rfl (gR_34_2 _) ?_
  refine px_getR (r := 36) rfl gS_35 rfl (gR_35_0 _) ?_
  refine px_iload_n (kk := 1) rfl rfl rfl ?_
  refine px_iald (j := a) rfl gS_36 rfl (by omega) ?_
  refine px_iconst (v := -1) rfl k_m1 ?_
  refine px_icmp_ne rfl (fun c6 => ?_) (fun c6 => ?_)
  · refine px_aload_n (kk := 0) rfl rfl rfl ?_
    refine px_getR (r := 35) rfl gS_34 rfl (gR_34_2 _) ?_
    refine px_getR (r := 36) rfl gS_35 rfl (gR_35_0 _) ?_
    refine px_iload_n (kk := 1) rfl rfl rfl ?_
    refine px_iald (j := a) rfl gS_36 rfl (by omega) ?_
    refine px_ireturn rfl (.inl rfl) ?_
    exact ⟨by rw [if_neg (by first | exact c6 | simpa using c6)], rfl⟩
  · refine px_bipush (v := -2) rfl b_m2 ?_
    refine px_goto rfl ?_
    refine px_ireturn rfl (.inl rfl) ?_
    exact ⟨by rw [if_pos (by first | exact c6 | simpa using c6)], rfl⟩
def sp_joinM (I : Nat → Nat → Int32) (a b : Nat) : Nat → Nat → Int32 := (va_up (va_up (va_up (va_up I 36 (va_up (va_up (I 36) a (nI b)) b (nI a))) 37 (va_up (va_up (I 37) a (nI 0)) b (nI 0))) 35 (va_up (I 35) 2 (I 35 2 + nI 1))) 38 (va_up (I 38) 1 (I 38 1 + nI 1)))
def sp_partM (I : Nat → Nat → Int32) (a b : Nat) : Nat → Nat → Int32 := (va_up (va_up (va_up (va_up I 36 (va_up (va_up (I 36) a (-1)) b (-1))) 37 (va_up (va_up (I 37) a (nI 0)) b (nI 0))) 35 (va_up (I 35) 2 (I 35 2 - nI 1))) 38 (va_up (I 38) 2 (I 38 2 + nI 1)))
theorem vX2_join {I : Nat → Nat → Int32} {J : Nat → Nat → Int64} {p : Bool × Option Nat} {ro : List (Nat × Nat × (Nat → Int32))} {n : Nat} (hn : I 1 4 = nI n) (hn8 : n ≤ 8) {a b : Nat} (ha : a < n) (hb : b < n) (hne : a ≠ b) : Pv 3 0 0 CX2_join [.ref (34), .int (nI a), .int (nI b)] (gS, I, J, gR p, ro) (fun r S' => ((I 36 a = -1 ∧ I 36 b = -1 ∧ I 35 2 < I 1 5) ∧ r = some (.int (nI 1)) ∧ S' = (gS, (sp_joinM I a b), J, gR p, ro)) ∨ (¬ (I 36 a = -1 ∧ I 36 b = -1 ∧ I 35 2 < I 1 5) ∧ r = some (.int (nI 0)) ∧ S' = (gS, I, J, gR p, ro))) := by
  refine ⟨okCX2_join, Nat.le_of_ble_eq_true rfl, (show Px _ _ _ _ 0 [some (.ref (34)), some (.int (nI a)), some (.int (nI b))] [] _ _ from ?_)⟩
  refine px_aload_n (kk := 0) rfl rfl rfl ?_
  refine px_getR (r := 35) rfl gS_34 rfl (gR_34_2 _) ?_
  refine px_aload_n (kk := 0) rfl rfl rfl ?_
  refine px_getR (r := 1) rfl gS_34 rfl (gR_34_0 _) ?_
  refine px_iload_n (kk := 1) rfl rfl rfl ?_
  refine px_iload_n (kk := 2) rfl rfl rfl ?_
  refine px_callV0 CX6_takes [] [.ref 1, .int _, .int _] (vX6_takes PG_de hn hn8) rfl gS_35 (by decide) rfl rfl rfl (Nat.le_of_ble_eq_true rfl) (by decide) ?_
  rintro _ _ - (⟨h, rfl, rfl⟩ | ⟨h, rfl, rfl⟩)
  · obtain ⟨a2, b2, h1, h2, h3, e1, e2, h4, h5, h6⟩ := h
    obtain rfl := (n_eq (by omega) (by omega)).mp e1
    obtain rfl := (n_eq (by omega) (by omega)).mp e2
    refine px_if_ne rfl (fun _ => ?_) (fun h => absurd h (by decide))
    refine px_aload_n (kk := 0) rfl rfl rfl ?_
    refine px_getR (r := 35) rfl gS_34 rfl (gR_34_2 _) ?_
    refine px_iload_n (kk := 1) rfl rfl rfl ?_
    refine px_iload_n (kk := 2) rfl rfl rfl ?_
    refine px_iconst (v := nI 0) rfl k_0 ?_
    refine px_callV0 CX6_tie [] [.int _, .int _, .int _] (vX6_tie PG_de (by omega) (by omega)) rfl gS_35 (by decide) rfl rfl rfl (Nat.le_of_ble_eq_true rfl) (by decide) ?_
    rintro _ _ - ⟨rfl, rfl⟩
    refine px_aload_n (kk := 0) rfl rfl rfl ?_
    refine px_getR (r := 38) rfl gS_34 rfl (gR_34_3 _) ?_
    refine px_iconst (v := nI 1) rfl k_1 ?_
    refine px_dup2 rfl rfl rfl ?_
    refine px_iald (j := 1) rfl gS_38 rfl (by decide) ?_
    refine px_iconst (v := nI 1) rfl k_1 ?_
    refine px_iadd rfl ?_
    refine px_iast (j := 1) rfl gS_38 rfl (by decide) ?_
    refine px_iconst (v := nI 1) rfl k_1 ?_
    refine px_ireturn rfl (.inr ⟨rfl, by decide⟩) ?_
    exact .inl ⟨⟨h4, h5, h6⟩, rfl, by unfold sp_joinM; simp only [p_up_n _ _ (show (38 : Nat) ≠ 35 by decide), p_up_n _ _ (show (38 : Nat) ≠ 36 by decide), p_up_n _ _ (show (38 : Nat) ≠ 37 by decide)]⟩
  · refine px_if_ne rfl (fun h => absurd h (by decide)) (fun _ => ?_)
    refine px_iconst (v := nI 0) rfl k_0 ?_
    refine px_ireturn rfl (.inr ⟨rfl, by decide⟩) ?_
    exact .inr ⟨fun z => h ⟨a, b, ha, hb, hne, rfl, rfl, z.1, z.2.1, z.2.2⟩, rfl, rfl⟩
theorem vX2_part_t {I : Nat → Nat → Int32} {J : Nat → Nat → Int64} {p : Bool × Option Nat} {ro : List (Nat × Nat × (Nat → Int32))} {a b : Nat} (ha : a < 8) (hb : b < 8) (hm : I 36 a = nI b) : Pv 1 0 0 CX2_part [.ref (34), .int (nI a), .int (nI b)] (gS, I, J, gR p, ro) (qI (I 37 a) (gS, (sp_partM I a b), J, gR p, ro)) := by
  refine ⟨okCX2_part, Nat.le_of_ble_eq_true rfl, (show Px _ _ _ _ 0 [some (.ref (34)), some (.int (nI a)), some (.int (nI b)), none] [] _ _ from ?_)⟩
  refine px_aload_n (kk := 0) rfl rfl rfl ?_
  refine px_getR (r := 35) rfl gS_34 rfl (gR_34_2 _) ?_
  refine px_getR (r := 36) rfl gS_35 rfl (gR_35_0 _) ?_
  refine px_iload_n (kk := 1) rfl rfl rfl ?_
  refine px_iald (j := a) rfl gS_36 rfl (by omega) ?_
  refine px_iload_n (kk := 2) rfl rfl rfl ?_
  refine px_icmp_eq rfl (fun c6 => ?_) (fun h => absurd hm h)
  refine px_aload_n (kk := 0) rfl rfl rfl ?_
  refine px_getR (r := 35) rfl gS_34 rfl (gR_34_2 _) ?_
  refine px_getR (r := 37) rfl gS_35 rfl (gR_35_1 _) ?_
  refine px_iload_n (kk := 1) rfl rfl rfl ?_
  refine px_iald (j := a) rfl gS_37 rfl (by omega) ?_
  refine px_ist3 rfl rfl (by decide) ?_
  refine px_aload_n (kk := 0) rfl rfl rfl ?_
  refine px_getR (r := 35) rfl gS_34 rfl (gR_34_2 _) ?_
  refine px_iload_n (kk := 1) rfl rfl rfl ?_
  refine px_iload_n (kk := 2) rfl rfl rfl ?_
  refine px_callV0 CX6_untie [] [.int _, .int _] (vX6_untie PG_de (by omega) (by omega)) rfl gS_35 (by decide) rfl rfl rfl (Nat.le_of_ble_eq_true rfl) (by decide) ?_
  rintro _ _ - ⟨rfl, rfl⟩
  refine px_aload_n (kk := 0) rfl rfl rfl ?_
  refine px_getR (r := 38) rfl gS_34 rfl (gR_34_3 _) ?_
  refine px_iconst (v := nI 2) rfl k_2 ?_
  refine px_dup2 rfl rfl rfl ?_
  refine px_iald (j := 2) rfl gS_38 rfl (by decide) ?_
  refine px_iconst (v := nI 1) rfl k_1 ?_
  refine px_iadd rfl ?_
  refine px_iast (j := 2) rfl gS_38 rfl (by decide) ?_
  refine px_iload_n (kk := 3) rfl rfl rfl ?_
  refine px_ireturn rfl (.inl rfl) ?_
  exact ⟨rfl, by unfold sp_partM; simp only [p_up_n _ _ (show (38 : Nat) ≠ 35 by decide), p_up_n _ _ (show (38 : Nat) ≠ 36 by decide), p_up_n _ _ (show (38 : Nat) ≠ 37 by decide)]⟩
theorem vX2_part_f {I : Nat → Nat → Int32} {J : Nat → Nat → Int64} {p : Bool × Option Nat} {ro : List (Nat × Nat × (Nat → Int32))} {a b : Nat} (ha : a < 8) (hb : b < 8) (hm : I 36 a ≠ nI b) : Pv 1 0 0 CX2_part [.ref (34), .int (nI a), .int (nI b)] (gS, I, J, gR p, ro) (qI (-5) (gS, I, J, gR p, ro)) := by
  refine ⟨okCX2_part, Nat.le_of_ble_eq_true rfl, (show Px _ _ _ _ 0 [some (.ref (34)), some (.int (nI a)), some (.int (nI b)), none] [] _ _ from ?_)⟩
  refine px_aload_n (kk := 0) rfl rfl rfl ?_
  refine px_getR (r := 35) rfl gS_34 rfl (gR_34_2 _) ?_
  refine px_getR (r := 36) rfl gS_35 rfl (gR_35_0 _) ?_
  refine px_iload_n (kk := 1) rfl rfl rfl ?_
  refine px_iald (j := a) rfl gS_36 rfl (by omega) ?_
  refine px_iload_n (kk := 2) rfl rfl rfl ?_
  refine px_icmp_eq rfl (fun h => absurd h hm) (fun c6 => ?_)
  refine px_bipush (v := -5) rfl b_m5 ?_
  refine px_ireturn rfl (.inl rfl) ?_
  exact ⟨rfl, rfl⟩
theorem vX2_live {I : Nat → Nat → Int32} {J : Nat → Nat → Int64} {p : Bool × Option Nat} {ro : List (Nat × Nat × (Nat → Int32))} {tx : List Ln} (hT : LawC tx p I) {n : Nat} (hn : I 1 4 = nI n) (hn8 : n ≤ 8) (hMT : MT n (I 36)) (hP : PA n (I 4)) : Pv 4 0 0 CX2_live [.ref (34)] (gS, I, J, gR p, ro) (fun v S' => v = none ∧ ∃ I', S' = (gS, I', J, gR p, ro) ∧ Fr [6, 8, 12, 13, 2, 37, 38] I I' ∧ K6 I I' ∧ I' 2 = (fun j => if j < n then (sp_nx tx n (I 5) (I 4) (I 1 6) (I 2) (I 36) (I 37)) j else I 2 j) ∧ I' 37 = (fun j => if j < 8 ∧ I 36 j ≠ -1 then I 37 j + nI 1 else I 37 j) ∧ I' 38 = (va_up (va_up (I 38) 3 (I 38 3 + sp_grow (sp_nx tx n (I 5) (I 4) (I 1 6) (I 2) (I 36) (I 37)) (I 2) n)) 0 (I 38 0 + nI 1))) := by
  refine ⟨okCX2_live, Nat.le_of_ble_eq_true rfl, (show Px _ _ _ _ 0 [some (.ref (34))] [] _ _ from ?_)⟩
  refine px_aload_n (kk := 0) rfl rfl rfl ?_
  refine px_getR (r := 38) rfl gS_34 rfl (gR_34_3 _) ?_
  refine px_iconst (v := nI 3) rfl k_3 ?_
  refine px_dup2 rfl rfl rfl ?_
  refine px_iald (j := 3) rfl gS_38 rfl (by decide) ?_
  refine px_aload_n (kk := 0) rfl rfl rfl ?_
  refine px_getR (r := 11) rfl gS_34 rfl (gR_34_1 _) ?_
  refine px_aload_n (kk := 0) rfl rfl rfl ?_
  refine px_getR (r := 1) rfl gS_34 rfl (gR_34_0 _) ?_
  refine px_getR (r := 2) rfl gS_1 rfl (gR_1_0 _) ?_
  refine px_aload_n (kk := 0) rfl rfl rfl ?_
  refine px_getR (r := 35) rfl gS_34 rfl (gR_34_2 _) ?_
  refine px_callV0 CX5_live [.int _, .int _, .ref 38] [.ref 2, .ref 35] (vX5_live hT hn hn8 PG_de (w := 2) rfl hMT (by decide) (by decide) (by decide) hP (by decide) (by decide) (by decide) (by decide) (by decide) (by decide)) rfl gS_11 (by decide) rfl rfl rfl (Nat.le_of_ble_eq_true rfl) (by decide) ?_
  rintro _ _ - ⟨rfl, I2, rfl, hF, h6, h2, h37⟩
  refine px_iadd rfl ?_
  refine px_iast (j := 3) rfl gS_38 rfl (by decide) ?_
  refine px_aload_n (kk := 0) rfl rfl rfl ?_
  refine px_getR (r := 38) rfl gS_34 rfl (gR_34_3 _) ?_
  refine px_iconst (v := nI 0) rfl k_0 ?_
  refine px_dup2 rfl rfl rfl ?_
  refine px_iald (j := 0) rfl gS_38 rfl (by decide) ?_
  refine px_iconst (v := nI 1) rfl k_1 ?_
  refine px_iadd rfl ?_
  refine px_iast (j := 0) rfl gS_38 rfl (by decide) ?_
  refine px_return rfl rfl ?_
  refine ⟨rfl, _, rfl, Fr_up (Fr_up (Fr_mo hF (fun c hc => by simp only [List.mem_cons, List.not_mem_nil, or_false] at hc ⊢; omega)) (by decide) _) (by decide) _, K6_up (K6_up h6 (by decide) _) (by decide) _, ?_, ?_, ?_⟩
  · rw [p_up_n _ _ (by decide), p_up_n _ _ (by decide)]; exact h2
  · rw [p_up_n _ _ (by decide), p_up_n _ _ (by decide)]; exact h37
  · rw [p_up_s, p_up_s, hF 38 (by decide), p_up_n _ _ (by decide)]
def sp_picM (I : Nat → Nat → Int32) : Nat → Nat → Int32 := (va_up (va_up (va_up (va_up (va_up (va_up I 40 (cp8 (I 36) (I 40))) 41 (cp8 (I 37) (I 41))) 39 (va_up (I 39) 2 (I 35 2))) 42 (va_cpy (I 38) (I 42) 0 0 4)) 43 (va_cpy (I 2) (I 43) 0 0 8)) 34 (va_up (va_up (I 34) 7 (I 1 4)) 8 (nI 1)))
theorem vX2_picture {I : Nat → Nat → Int32} {J : Nat → Nat → Int64} {p : Bool × Option Nat} {ro : List (Nat × Nat × (Nat → Int32))}  : Pv 1 0 0 CX2_picture [.ref (34)] (gS, I, J, gR p, ro) (qV (gS, (sp_picM I), J, gR p, ro)) := by
  refine ⟨okCX2_picture, Nat.le_of_ble_eq_true rfl, (show Px _ _ _ _ 0 [some (.ref (34))] [] _ _ from ?_)⟩
  refine px_aload_n (kk := 0) rfl rfl rfl ?_
  refine px_getR (r := 39) rfl gS_34 rfl (gR_34_4 _) ?_
  refine px_aload_n (kk := 0) rfl rfl rfl ?_
  refine px_getR (r := 35) rfl gS_34 rfl (gR_34_2 _) ?_
  refine px_callV0 CX6_copy [] [.ref 35] (vX6_copy PG_ke PG_de (by decide) (by decide) (by decide)) rfl gS_39 (by decide) rfl rfl rfl (Nat.le_of_ble_eq_true rfl) (by decide) ?_
  rintro _ _ - ⟨rfl, rfl⟩
  refine px_aload_n (kk := 0) rfl rfl rfl ?_
  refine px_getR (r := 38) rfl gS_34 rfl (gR_34_3 _) ?_
  refine px_iconst (v := nI 0) rfl k_0 ?_
  refine px_aload_n (kk := 0) rfl rfl rfl ?_
  refine px_getR (r := 42) rfl gS_34 rfl (gR_34_5 _) ?_
  refine px_iconst (v := nI 0) rfl k_0 ?_
  refine px_iconst (v := nI 4) rfl k_4 ?_
  refine px_copyI (0) (0) (4) rfl (Nat.le_of_ble_eq_true rfl) gS_38 gS_42 rfl rfl rfl (by decide) (by decide) ?_
  refine px_aload_n (kk := 0) rfl rfl rfl ?_
  refine px_getR (r := 1) rfl gS_34 rfl (gR_34_0 _) ?_
  refine px_getR (r := 2) rfl gS_1 rfl (gR_1_0 _) ?_
  refine px_iconst (v := nI 0) rfl k_0 ?_
  refine px_aload_n (kk := 0) rfl rfl rfl ?_
  refine px_getR (r := 43) rfl gS_34 rfl (gR_34_6 _) ?_
  refine px_iconst (v := nI 0) rfl k_0 ?_
  refine px_bipush (v := nI 8) rfl b_8 ?_
  refine px_copyI (0) (0) (8) rfl (Nat.le_of_ble_eq_true rfl) gS_2 gS_43 rfl rfl rfl (by decide) (by decide) ?_
  refine px_aload_n (kk := 0) rfl rfl rfl ?_
  refine px_aload_n (kk := 0) rfl rfl rfl ?_
  refine px_getR (r := 1) rfl gS_34 rfl (gR_34_0 _) ?_
  refine px_getI rfl gS_1 rfl ?_
  refine px_putI rfl gS_34 rfl rfl ?_
  refine px_aload_n (kk := 0) rfl rfl rfl ?_
  refine px_iconst (v := nI 1) rfl k_1 ?_
  refine px_putZ rfl gS_34 rfl (by decide) rfl ?_
  refine px_return rfl rfl ?_
  refine ⟨rfl, ?_⟩
  simp only [sp_picM, p_up_n _ _ (show (34 : Nat) ≠ 35 by decide), p_up_n _ _ (show (34 : Nat) ≠ 36 by decide), p_up_n _ _ (show (34 : Nat) ≠ 37 by decide), p_up_n _ _ (show (34 : Nat) ≠ 38 by decide), p_up_n _ _ (show (34 : Nat) ≠ 39 by decide), p_up_n _ _ (show (34 : Nat) ≠ 40 by decide), p_up_n _ _ (show (34 : Nat) ≠ 41 by decide), p_up_n _ _ (show (34 : Nat) ≠ 42 by decide), p_up_n _ _ (show (34 : Nat) ≠ 43 by decide), p_up_n _ _ (show (34 : Nat) ≠ 1 by decide), p_up_n _ _ (show (34 : Nat) ≠ 2 by decide), p_up_n _ _ (show (35 : Nat) ≠ 34 by decide), p_up_n _ _ (show (35 : Nat) ≠ 36 by decide), p_up_n _ _ (show (35 : Nat) ≠ 37 by decide), p_up_n _ _ (show (35 : Nat) ≠ 38 by decide), p_up_n _ _ (show (35 : Nat) ≠ 39 by decide), p_up_n _ _ (show (35 : Nat) ≠ 40 by decide), p_up_n _ _ (show (35 : Nat) ≠ 41 by decide), p_up_n _ _ (show (35 : Nat) ≠ 42 by decide), p_up_n _ _ (show (35 : Nat) ≠ 43 by decide), p_up_n _ _ (show (35 : Nat) ≠ 1 by decide), p_up_n _ _ (show (35 : Nat) ≠ 2 by decide), p_up_n _ _ (show (36 : Nat) ≠ 34 by decide), p_up_n _ _ (show (36 : Nat) ≠ 35 by decide), p_up_n _ _ (show (36 : Nat) ≠ 37 by decide), p_up_n _ _ (show (36 : Nat) ≠ 38 by decide), p_up_n _ _ (show (36 : Nat) ≠ 39 by decide), p_up_n _ _ (show (36 : Nat) ≠ 40 by decide), p_up_n _ _ (show (36 : Nat) ≠ 41 by decide), p_up_n _ _ (show (36 : Nat) ≠ 42 by decide), p_up_n _ _ (show (36 : Nat) ≠ 43 by decide), p_up_n _ _ (show (36 : Nat) ≠ 1 by decide), p_up_n _ _ (show (36 : Nat) ≠ 2 by decide), p_up_n _ _ (show (37 : Nat) ≠ 34 by decide), p_up_n _ _ (show (37 : Nat) ≠ 35 by decide), p_up_n _ _ (show (37 : Nat) ≠ 36 by decide), p_up_n _ _ (show (37 : Nat) ≠ 38 by decide), p_up_n _ _ (show (37 : Nat) ≠ 39 by decide), p_up_n _ _ (show (37 : Nat) ≠ 40 by decide), p_up_n _ _ (show (37 : Nat) ≠ 41 by decide), p_up_n _ _ (show (37 : Nat) ≠ 42 by decide), p_up_n _ _ (show (37 : Nat) ≠ 43 by decide), p_up_n _ _ (show (37 : Nat) ≠ 1 by decide), p_up_n _ _ (show (37 : Nat) ≠ 2 by decide), p_up_n _ _ (show (38 : Nat) ≠ 34 by decide), p_up_n _ _ (show (38 : Nat) ≠ 35 by decide), p_up_n _ _ (show (38 : Nat) ≠ 36 by decide), p_up_n _ _ (show (38 : Nat) ≠ 37 by decide), p_up_n _ _ (show (38 : Nat) ≠ 39 by decide), p_up_n _ _ (show (38 : Nat) ≠ 40 by decide), p_up_n _ _ (show (38 : Nat) ≠ 41 by decide), p_up_n _ _ (show (38 : Nat) ≠ 42 by decide), p_up_n _ _ (show (38 : Nat) ≠ 43 by decide), p_up_n _ _ (show (38 : Nat) ≠ 1 by decide), p_up_n _ _ (show (38 : Nat) ≠ 2 by decide), p_up_n _ _ (show (39 : Nat) ≠ 34 by decide), p_up_n _ _ (show (39 : Nat) ≠ 35 by decide), p_up_n _ _ (show (39 : Nat) ≠ 36 by decide), p_up_n _ _ (show (39 : Nat) ≠ 37 by decide), p_up_n _ _ (show (39 : Nat) ≠ 38 by decide), p_up_n _ _ (show (39 : Nat) ≠ 40 by decide), p_up_n _ _ (show (39 : Nat) ≠ 41 by decide), p_up_n _ _ (show (39 : Nat) ≠ 42 by decide), p_up_n _ _ (show (39 : Nat) ≠ 43 by decide), p_up_n _ _ (show (39 : Nat) ≠ 1 by decide), p_up_n _ _ (show (39 : Nat) ≠ 2 by decide), p_up_n _ _ (show (40 : Nat) ≠ 34 by decide), p_up_n _ _ (show (40 : Nat) ≠ 35 by decide), p_up_n _ _ (show (40 : Nat) ≠ 36 by decide), p_up_n _ _ (show (40 : Nat) ≠ 37 by decide), p_up_n _ _ (show (40 : Nat) ≠ 38 by decide), p_up_n _ _ (show (40 : Nat) ≠ 39 by decide), p_up_n _ _ (show (40 : Nat) ≠ 41 by decide), p_up_n _ _ (show (40 : Nat) ≠ 42 by decide), p_up_n _ _ (show (40 : Nat) ≠ 43 by decide), p_up_n _ _ (show (40 : Nat) ≠ 1 by decide), p_up_n _ _ (show (40 : Nat) ≠ 2 by decide), p_up_n _ _ (show (41 : Nat) ≠ 34 by decide), p_up_n _ _ (show (41 : Nat) ≠ 35 by decide), p_up_n _ _ (show (41 : Nat) ≠ 36 by decide), p_up_n _ _ (show (41 : Nat) ≠ 37 by decide), p_up_n _ _ (show (41 : Nat) ≠ 38 by decide), p_up_n _ _ (show (41 : Nat) ≠ 39 by decide), p_up_n _ _ (show (41 : Nat) ≠ 40 by decide), p_up_n _ _ (show (41 : Nat) ≠ 42 by decide), p_up_n _ _ (show (41 : Nat) ≠ 43 by decide), p_up_n _ _ (show (41 : Nat) ≠ 1 by decide), p_up_n _ _ (show (41 : Nat) ≠ 2 by decide), p_up_n _ _ (show (42 : Nat) ≠ 34 by decide), p_up_n _ _ (show (42 : Nat) ≠ 35 by decide), p_up_n _ _ (show (42 : Nat) ≠ 36 by decide), p_up_n _ _ (show (42 : Nat) ≠ 37 by decide), p_up_n _ _ (show (42 : Nat) ≠ 38 by decide), p_up_n _ _ (show (42 : Nat) ≠ 39 by decide), p_up_n _ _ (show (42 : Nat) ≠ 40 by decide), p_up_n _ _ (show (42 : Nat) ≠ 41 by decide), p_up_n _ _ (show (42 : Nat) ≠ 43 by decide), p_up_n _ _ (show (42 : Nat) ≠ 1 by decide), p_up_n _ _ (show (42 : Nat) ≠ 2 by decide), p_up_n _ _ (show (43 : Nat) ≠ 34 by decide), p_up_n _ _ (show (43 : Nat) ≠ 35 by decide), p_up_n _ _ (show (43 : Nat) ≠ 36 by decide), p_up_n _ _ (show (43 : Nat) ≠ 37 by decide), p_up_n _ _ (show (43 : Nat) ≠ 38 by decide), p_up_n _ _ (show (43 : Nat) ≠ 39 by decide), p_up_n _ _ (show (43 : Nat) ≠ 40 by decide), p_up_n _ _ (show (43 : Nat) ≠ 41 by decide), p_up_n _ _ (show (43 : Nat) ≠ 42 by decide), p_up_n _ _ (show (43 : Nat) ≠ 1 by decide), p_up_n _ _ (show (43 : Nat) ≠ 2 by decide), p_up_n _ _ (show (1 : Nat) ≠ 34 by decide), p_up_n _ _ (show (1 : Nat) ≠ 35 by decide), p_up_n _ _ (show (1 : Nat) ≠ 36 by decide), p_up_n _ _ (show (1 : Nat) ≠ 37 by decide), p_up_n _ _ (show (1 : Nat) ≠ 38 by decide), p_up_n _ _ (show (1 : Nat) ≠ 39 by decide), p_up_n _ _ (show (1 : Nat) ≠ 40 by decide), p_up_n _ _ (show (1 : Nat) ≠ 41 by decide), p_up_n _ _ (show (1 : Nat) ≠ 42 by decide), p_up_n _ _ (show (1 : Nat) ≠ 43 by decide), p_up_n _ _ (show (1 : Nat) ≠ 2 by decide), p_up_n _ _ (show (2 : Nat) ≠ 34 by decide), p_up_n _ _ (show (2 : Nat) ≠ 35 by decide), p_up_n _ _ (show (2 : Nat) ≠ 36 by decide), p_up_n _ _ (show (2 : Nat) ≠ 37 by decide), p_up_n _ _ (show (2 : Nat) ≠ 38 by decide), p_up_n _ _ (show (2 : Nat) ≠ 39 by decide), p_up_n _ _ (show (2 : Nat) ≠ 40 by decide), p_up_n _ _ (show (2 : Nat) ≠ 41 by decide), p_up_n _ _ (show (2 : Nat) ≠ 42 by decide), p_up_n _ _ (show (2 : Nat) ≠ 43 by decide), p_up_n _ _ (show (2 : Nat) ≠ 1 by decide), p_up_s, up2]
theorem vX2_layBack_f {I : Nat → Nat → Int32} {J : Nat → Nat → Int64} {p : Bool × Option Nat} {ro : List (Nat × Nat × (Nat → Int32))} (h : I 34 8 = nI 0) : Pv 1 0 0 CX2_layBack [.ref (34)] (gS, I, J, gR p, ro) (qI (nI 0) (gS, I, J, gR p, ro)) := by
  refine ⟨okCX2_layBack, Nat.le_of_ble_eq_true rfl, (show Px _ _ _ _ 0 [some (.ref (34))] [] _ _ from ?_)⟩
  refine px_aload_n (kk := 0) rfl rfl rfl ?_
  refine px_getIe (v := nI 0) rfl gS_34 rfl h ?_
  refine px_if_ne rfl (fun h => absurd h (by decide)) (fun _ => ?_)
  refine px_iconst (v := nI 0) rfl k_0 ?_
  refine px_ireturn rfl (.inr ⟨rfl, by decide⟩) ?_
  exact ⟨rfl, rfl⟩
def sp_lbM (I : Nat → Nat → Int32) (z : Nat) : Nat → Nat → Int32 := (va_up (va_up (va_up (va_up (va_up I 36 (cp8 (I 40) (I 36))) 37 (cp8 (I 41) (I 37))) 35 (va_up (I 35) 2 (I 39 2))) 38 (va_cpy (I 42) (I 38) 0 0 4)) 2 (va_cpy (I 43) (I 2) 0 0 z))
theorem vX2_layBack_t {I : Nat → Nat → Int32} {J : Nat → Nat → Int64} {p : Bool × Option Nat} {ro : List (Nat × Nat × (Nat → Int32))} {z : Nat} (h : I 34 8 = nI 1) (hz : I 34 7 = nI z) (hz8 : z ≤ 8) : Pv 1 0 0 CX2_layBack [.ref (34)] (gS, I, J, gR p, ro) (qI (nI 1) (gS, (sp_lbM I z), J, gR p, ro)) := by
  refine ⟨okCX2_layBack, Nat.le_of_ble_eq_true rfl, (show Px _ _ _ _ 0 [some (.ref (34))] [] _ _ from ?_)⟩
  refine px_aload_n (kk := 0) rfl rfl rfl ?_
  refine px_getIe (v := nI 1) rfl gS_34 rfl h ?_
  refine px_if_ne rfl (fun _ => ?_) (fun h => absurd h (by decide))
  refine px_aload_n (kk := 0) rfl rfl rfl ?_
  refine px_getR (r := 35) rfl gS_34 rfl (gR_34_2 _) ?_
  refine px_aload_n (kk := 0) rfl rfl rfl ?_
  refine px_getR (r := 39) rfl gS_34 rfl (gR_34_4 _) ?_
  refine px_callV0 CX6_copy [] [.ref 39] (vX6_copy PG_de PG_ke (by decide) (by decide) (by decide)) rfl gS_35 (by decide) rfl rfl rfl (Nat.le_of_ble_eq_true rfl) (by decide) ?_
  rintro _ _ - ⟨rfl, rfl⟩
  refine px_aload_n (kk := 0) rfl rfl rfl ?_
  refine px_getR (r := 42) rfl gS_34 rfl (gR_34_5 _) ?_
  refine px_iconst (v := nI 0) rfl k_0 ?_
  refine px_aload_n (kk := 0) rfl rfl rfl ?_
  refine px_getR (r := 38) rfl gS_34 rfl (gR_34_3 _) ?_
  refine px_iconst (v := nI 0) rfl k_0 ?_
  refine px_iconst (v := nI 4) rfl k_4 ?_
  refine px_copyI (0) (0) (4) rfl (Nat.le_of_ble_eq_true rfl) gS_42 gS_38 rfl rfl rfl (by decide) (by decide) ?_
  refine px_aload_n (kk := 0) rfl rfl rfl ?_
  refine px_getR (r := 43) rfl gS_34 rfl (gR_34_6 _) ?_
  refine px_iconst (v := nI 0) rfl k_0 ?_
  refine px_aload_n (kk := 0) rfl rfl rfl ?_
  refine px_getR (r := 1) rfl gS_34 rfl (gR_34_0 _) ?_
  refine px_getR (r := 2) rfl gS_1 rfl (gR_1_0 _) ?_
  refine px_iconst (v := nI 0) rfl k_0 ?_
  refine px_aload_n (kk := 0) rfl rfl rfl ?_
  refine px_getIe (v := nI z) rfl gS_34 rfl (by simp only [p_up_n _ _ (show (34 : Nat) ≠ 35 by decide), p_up_n _ _ (show (34 : Nat) ≠ 36 by decide), p_up_n _ _ (show (34 : Nat) ≠ 37 by decide), p_up_n _ _ (show (34 : Nat) ≠ 38 by decide), p_up_n _ _ (show (34 : Nat) ≠ 39 by decide), p_up_n _ _ (show (34 : Nat) ≠ 40 by decide), p_up_n _ _ (show (34 : Nat) ≠ 41 by decide), p_up_n _ _ (show (34 : Nat) ≠ 42 by decide), p_up_n _ _ (show (34 : Nat) ≠ 43 by decide), p_up_n _ _ (show (34 : Nat) ≠ 1 by decide), p_up_n _ _ (show (34 : Nat) ≠ 2 by decide), p_up_n _ _ (show (35 : Nat) ≠ 34 by decide), p_up_n _ _ (show (35 : Nat) ≠ 36 by decide), p_up_n _ _ (show (35 : Nat) ≠ 37 by decide), p_up_n _ _ (show (35 : Nat) ≠ 38 by decide), p_up_n _ _ (show (35 : Nat) ≠ 39 by decide), p_up_n _ _ (show (35 : Nat) ≠ 40 by decide), p_up_n _ _ (show (35 : Nat) ≠ 41 by decide), p_up_n _ _ (show (35 : Nat) ≠ 42 by decide), p_up_n _ _ (show (35 : Nat) ≠ 43 by decide), p_up_n _ _ (show (35 : Nat) ≠ 1 by decide), p_up_n _ _ (show (35 : Nat) ≠ 2 by decide), p_up_n _ _ (show (36 : Nat) ≠ 34 by decide), p_up_n _ _ (show (36 : Nat) ≠ 35 by decide), p_up_n _ _ (show (36 : Nat) ≠ 37 by decide), p_up_n _ _ (show (36 : Nat) ≠ 38 by decide), p_up_n _ _ (show (36 : Nat) ≠ 39 by decide), p_up_n _ _ (show (36 : Nat) ≠ 40 by decide), p_up_n _ _ (show (36 : Nat) ≠ 41 by decide), p_up_n _ _ (show (36 : Nat) ≠ 42 by decide), p_up_n _ _ (show (36 : Nat) ≠ 43 by decide), p_up_n _ _ (show (36 : Nat) ≠ 1 by decide), p_up_n _ _ (show (36 : Nat) ≠ 2 by decide), p_up_n _ _ (show (37 : Nat) ≠ 34 by decide), p_up_n _ _ (show (37 : Nat) ≠ 35 by decide), p_up_n _ _ (show (37 : Nat) ≠ 36 by decide), p_up_n _ _ (show (37 : Nat) ≠ 38 by decide), p_up_n _ _ (show (37 : Nat) ≠ 39 by decide), p_up_n _ _ (show (37 : Nat) ≠ 40 by decide), p_up_n _ _ (show (37 : Nat) ≠ 41 by decide), p_up_n _ _ (show (37 : Nat) ≠ 42 by decide), p_up_n _ _ (show (37 : Nat) ≠ 43 by decide), p_up_n _ _ (show (37 : Nat) ≠ 1 by decide), p_up_n _ _ (show (37 : Nat) ≠ 2 by decide), p_up_n _ _ (show (38 : Nat) ≠ 34 by decide), p_up_n _ _ (show (38 : Nat) ≠ 35 by decide), p_up_n _ _ (show (38 : Nat) ≠ 36 by decide), p_up_n _ _ (show (38 : Nat) ≠ 37 by decide), p_up_n _ _ (show (38 : Nat) ≠ 39 by decide), p_up_n _ _ (show (38 : Nat) ≠ 40 by decide), p_up_n _ _ (show (38 : Nat) ≠ 41 by decide), p_up_n _ _ (show (38 : Nat) ≠ 42 by decide), p_up_n _ _ (show (38 : Nat) ≠ 43 by decide), p_up_n _ _ (show (38 : Nat) ≠ 1 by decide), p_up_n _ _ (show (38 : Nat) ≠ 2 by decide), p_up_n _ _ (show (39 : Nat) ≠ 34 by decide), p_up_n _ _ (show (39 : Nat) ≠ 35 by decide), p_up_n _ _ (show (39 : Nat) ≠ 36 by decide), p_up_n _ _ (show (39 : Nat) ≠ 37 by decide), p_up_n _ _ (show (39 : Nat) ≠ 38 by decide), p_up_n _ _ (show (39 : Nat) ≠ 40 by decide), p_up_n _ _ (show (39 : Nat) ≠ 41 by decide), p_up_n _ _ (show (39 : Nat) ≠ 42 by decide), p_up_n _ _ (show (39 : Nat) ≠ 43 by decide), p_up_n _ _ (show (39 : Nat) ≠ 1 by decide), p_up_n _ _ (show (39 : Nat) ≠ 2 by decide), p_up_n _ _ (show (40 : Nat) ≠ 34 by decide), p_up_n _ _ (show (40 : Nat) ≠ 35 by decide), p_up_n _ _ (show (40 : Nat) ≠ 36 by decide), p_up_n _ _ (show (40 : Nat) ≠ 37 by decide), p_up_n _ _ (show (40 : Nat) ≠ 38 by decide), p_up_n _ _ (show (40 : Nat) ≠ 39 by decide), p_up_n _ _ (show (40 : Nat) ≠ 41 by decide), p_up_n _ _ (show (40 : Nat) ≠ 42 by decide), p_up_n _ _ (show (40 : Nat) ≠ 43 by decide), p_up_n _ _ (show (40 : Nat) ≠ 1 by decide), p_up_n _ _ (show (40 : Nat) ≠ 2 by decide), p_up_n _ _ (show (41 : Nat) ≠ 34 by decide), p_up_n _ _ (show (41 : Nat) ≠ 35 by decide), p_up_n _ _ (show (41 : Nat) ≠ 36 by decide), p_up_n _ _ (show (41 : Nat) ≠ 37 by decide), p_up_n _ _ (show (41 : Nat) ≠ 38 by decide), p_up_n _ _ (show (41 : Nat) ≠ 39 by decide), p_up_n _ _ (show (41 : Nat) ≠ 40 by decide), p_up_n _ _ (show (41 : Nat) ≠ 42 by decide), p_up_n _ _ (show (41 : Nat) ≠ 43 by decide), p_up_n _ _ (show (41 : Nat) ≠ 1 by decide), p_up_n _ _ (show (41 : Nat) ≠ 2 by decide), p_up_n _ _ (show (42 : Nat) ≠ 34 by decide), p_up_n _ _ (show (42 : Nat) ≠ 35 by decide), p_up_n _ _ (show (42 : Nat) ≠ 36 by decide), p_up_n _ _ (show (42 : Nat) ≠ 37 by decide), p_up_n _ _ (show (42 : Nat) ≠ 38 by decide), p_up_n _ _ (show (42 : Nat) ≠ 39 by decide), p_up_n _ _ (show (42 : Nat) ≠ 40 by decide), p_up_n _ _ (show (42 : Nat) ≠ 41 by decide), p_up_n _ _ (show (42 : Nat) ≠ 43 by decide), p_up_n _ _ (show (42 : Nat) ≠ 1 by decide), p_up_n _ _ (show (42 : Nat) ≠ 2 by decide), p_up_n _ _ (show (43 : Nat) ≠ 34 by decide), p_up_n _ _ (show (43 : Nat) ≠ 35 by decide), p_up_n _ _ (show (43 : Nat) ≠ 36 by decide), p_up_n _ _ (show (43 : Nat) ≠ 37 by decide), p_up_n _ _ (show (43 : Nat) ≠ 38 by decide), p_up_n _ _ (show (43 : Nat) ≠ 39 by decide), p_up_n _ _ (show (43 : Nat) ≠ 40 by decide), p_up_n _ _ (show (43 : Nat) ≠ 41 by decide), p_up_n _ _ (show (43 : Nat) ≠ 42 by decide), p_up_n _ _ (show (43 : Nat) ≠ 1 by decide), p_up_n _ _ (show (43 : Nat) ≠ 2 by decide), p_up_n _ _ (show (1 : Nat) ≠ 34 by decide), p_up_n _ _ (show (1 : Nat) ≠ 35 by decide), p_up_n _ _ (show (1 : Nat) ≠ 36 by decide), p_up_n _ _ (show (1 : Nat) ≠ 37 by decide), p_up_n _ _ (show (1 : Nat) ≠ 38 by decide), p_up_n _ _ (show (1 : Nat) ≠ 39 by decide), p_up_n _ _ (show (1 : Nat) ≠ 40 by decide), p_up_n _ _ (show (1 : Nat) ≠ 41 by decide), p_up_n _ _ (show (1 : Nat) ≠ 42 by decide), p_up_n _ _ (show (1 : Nat) ≠ 43 by decide), p_up_n _ _ (show (1 : Nat) ≠ 2 by decide), p_up_n _ _ (show (2 : Nat) ≠ 34 by decide), p_up_n _ _ (show (2 : Nat) ≠ 35 by decide), p_up_n _ _ (show (2 : Nat) ≠ 36 by decide), p_up_n _ _ (show (2 : Nat) ≠ 37 by decide), p_up_n _ _ (show (2 : Nat) ≠ 38 by decide), p_up_n _ _ (show (2 : Nat) ≠ 39 by decide), p_up_n _ _ (show (2 : Nat) ≠ 40 by decide), p_up_n _ _ (show (2 : Nat) ≠ 41 by decide), p_up_n _ _ (show (2 : Nat) ≠ 42 by decide), p_up_n _ _ (show (2 : Nat) ≠ 43 by decide), p_up_n _ _ (show (2 : Nat) ≠ 1 by decide), hz]) ?_
  refine px_copyI (0) (0) (z) rfl (Nat.le_of_ble_eq_true rfl) gS_43 gS_2 rfl rfl rfl (by omega) (by omega) ?_
  refine px_iconst (v := nI 1) rfl k_1 ?_
  refine px_ireturn rfl (.inr ⟨rfl, by decide⟩) ?_
  refine ⟨rfl, ?_⟩
  simp only [sp_lbM, p_up_n _ _ (show (34 : Nat) ≠ 35 by decide), p_up_n _ _ (show (34 : Nat) ≠ 36 by decide), p_up_n _ _ (show (34 : Nat) ≠ 37 by decide), p_up_n _ _ (show (34 : Nat) ≠ 38 by decide), p_up_n _ _ (show (34 : Nat) ≠ 39 by decide), p_up_n _ _ (show (34 : Nat) ≠ 40 by decide), p_up_n _ _ (show (34 : Nat) ≠ 41 by decide), p_up_n _ _ (show (34 : Nat) ≠ 42 by decide), p_up_n _ _ (show (34 : Nat) ≠ 43 by decide), p_up_n _ _ (show (34 : Nat) ≠ 1 by decide), p_up_n _ _ (show (34 : Nat) ≠ 2 by decide), p_up_n _ _ (show (35 : Nat) ≠ 34 by decide), p_up_n _ _ (show (35 : Nat) ≠ 36 by decide), p_up_n _ _ (show (35 : Nat) ≠ 37 by decide), p_up_n _ _ (show (35 : Nat) ≠ 38 by decide), p_up_n _ _ (show (35 : Nat) ≠ 39 by decide), p_up_n _ _ (show (35 : Nat) ≠ 40 by decide), p_up_n _ _ (show (35 : Nat) ≠ 41 by decide), p_up_n _ _ (show (35 : Nat) ≠ 42 by decide), p_up_n _ _ (show (35 : Nat) ≠ 43 by decide), p_up_n _ _ (show (35 : Nat) ≠ 1 by decide), p_up_n _ _ (show (35 : Nat) ≠ 2 by decide), p_up_n _ _ (show (36 : Nat) ≠ 34 by decide), p_up_n _ _ (show (36 : Nat) ≠ 35 by decide), p_up_n _ _ (show (36 : Nat) ≠ 37 by decide), p_up_n _ _ (show (36 : Nat) ≠ 38 by decide), p_up_n _ _ (show (36 : Nat) ≠ 39 by decide), p_up_n _ _ (show (36 : Nat) ≠ 40 by decide), p_up_n _ _ (show (36 : Nat) ≠ 41 by decide), p_up_n _ _ (show (36 : Nat) ≠ 42 by decide), p_up_n _ _ (show (36 : Nat) ≠ 43 by decide), p_up_n _ _ (show (36 : Nat) ≠ 1 by decide), p_up_n _ _ (show (36 : Nat) ≠ 2 by decide), p_up_n _ _ (show (37 : Nat) ≠ 34 by decide), p_up_n _ _ (show (37 : Nat) ≠ 35 by decide), p_up_n _ _ (show (37 : Nat) ≠ 36 by decide), p_up_n _ _ (show (37 : Nat) ≠ 38 by decide), p_up_n _ _ (show (37 : Nat) ≠ 39 by decide), p_up_n _ _ (show (37 : Nat) ≠ 40 by decide), p_up_n _ _ (show (37 : Nat) ≠ 41 by decide), p_up_n _ _ (show (37 : Nat) ≠ 42 by decide), p_up_n _ _ (show (37 : Nat) ≠ 43 by decide), p_up_n _ _ (show (37 : Nat) ≠ 1 by decide), p_up_n _ _ (show (37 : Nat) ≠ 2 by decide), p_up_n _ _ (show (38 : Nat) ≠ 34 by decide), p_up_n _ _ (show (38 : Nat) ≠ 35 by decide), p_up_n _ _ (show (38 : Nat) ≠ 36 by decide), p_up_n _ _ (show (38 : Nat) ≠ 37 by decide), p_up_n _ _ (show (38 : Nat) ≠ 39 by decide), p_up_n _ _ (show (38 : Nat) ≠ 40 by decide), p_up_n _ _ (show (38 : Nat) ≠ 41 by decide), p_up_n _ _ (show (38 : Nat) ≠ 42 by decide), p_up_n _ _ (show (38 : Nat) ≠ 43 by decide), p_up_n _ _ (show (38 : Nat) ≠ 1 by decide), p_up_n _ _ (show (38 : Nat) ≠ 2 by decide), p_up_n _ _ (show (39 : Nat) ≠ 34 by decide), p_up_n _ _ (show (39 : Nat) ≠ 35 by decide), p_up_n _ _ (show (39 : Nat) ≠ 36 by decide), p_up_n _ _ (show (39 : Nat) ≠ 37 by decide), p_up_n _ _ (show (39 : Nat) ≠ 38 by decide), p_up_n _ _ (show (39 : Nat) ≠ 40 by decide), p_up_n _ _ (show (39 : Nat) ≠ 41 by decide), p_up_n _ _ (show (39 : Nat) ≠ 42 by decide), p_up_n _ _ (show (39 : Nat) ≠ 43 by decide), p_up_n _ _ (show (39 : Nat) ≠ 1 by decide), p_up_n _ _ (show (39 : Nat) ≠ 2 by decide), p_up_n _ _ (show (40 : Nat) ≠ 34 by decide), p_up_n _ _ (show (40 : Nat) ≠ 35 by decide), p_up_n _ _ (show (40 : Nat) ≠ 36 by decide), p_up_n _ _ (show (40 : Nat) ≠ 37 by decide), p_up_n _ _ (show (40 : Nat) ≠ 38 by decide), p_up_n _ _ (show (40 : Nat) ≠ 39 by decide), p_up_n _ _ (show (40 : Nat) ≠ 41 by decide), p_up_n _ _ (show (40 : Nat) ≠ 42 by decide), p_up_n _ _ (show (40 : Nat) ≠ 43 by decide), p_up_n _ _ (show (40 : Nat) ≠ 1 by decide), p_up_n _ _ (show (40 : Nat) ≠ 2 by decide), p_up_n _ _ (show (41 : Nat) ≠ 34 by decide), p_up_n _ _ (show (41 : Nat) ≠ 35 by decide), p_up_n _ _ (show (41 : Nat) ≠ 36 by decide), p_up_n _ _ (show (41 : Nat) ≠ 37 by decide), p_up_n _ _ (show (41 : Nat) ≠ 38 by decide), p_up_n _ _ (show (41 : Nat) ≠ 39 by decide), p_up_n _ _ (show (41 : Nat) ≠ 40 by decide), p_up_n _ _ (show (41 : Nat) ≠ 42 by decide), p_up_n _ _ (show (41 : Nat) ≠ 43 by decide), p_up_n _ _ (show (41 : Nat) ≠ 1 by decide), p_up_n _ _ (show (41 : Nat) ≠ 2 by decide), p_up_n _ _ (show (42 : Nat) ≠ 34 by decide), p_up_n _ _ (show (42 : Nat) ≠ 35 by decide), p_up_n _ _ (show (42 : Nat) ≠ 36 by decide), p_up_n _ _ (show (42 : Nat) ≠ 37 by decide), p_up_n _ _ (show (42 : Nat) ≠ 38 by decide), p_up_n _ _ (show (42 : Nat) ≠ 39 by decide), p_up_n _ _ (show (42 : Nat) ≠ 40 by decide), p_up_n _ _ (show (42 : Nat) ≠ 41 by decide), p_up_n _ _ (show (42 : Nat) ≠ 43 by decide), p_up_n _ _ (show (42 : Nat) ≠ 1 by decide), p_up_n _ _ (show (42 : Nat) ≠ 2 by decide), p_up_n _ _ (show (43 : Nat) ≠ 34 by decide), p_up_n _ _ (show (43 : Nat) ≠ 35 by decide), p_up_n _ _ (show (43 : Nat) ≠ 36 by decide), p_up_n _ _ (show (43 : Nat) ≠ 37 by decide), p_up_n _ _ (show (43 : Nat) ≠ 38 by decide), p_up_n _ _ (show (43 : Nat) ≠ 39 by decide), p_up_n _ _ (show (43 : Nat) ≠ 40 by decide), p_up_n _ _ (show (43 : Nat) ≠ 41 by decide), p_up_n _ _ (show (43 : Nat) ≠ 42 by decide), p_up_n _ _ (show (43 : Nat) ≠ 1 by decide), p_up_n _ _ (show (43 : Nat) ≠ 2 by decide), p_up_n _ _ (show (1 : Nat) ≠ 34 by decide), p_up_n _ _ (show (1 : Nat) ≠ 35 by decide), p_up_n _ _ (show (1 : Nat) ≠ 36 by decide), p_up_n _ _ (show (1 : Nat) ≠ 37 by decide), p_up_n _ _ (show (1 : Nat) ≠ 38 by decide), p_up_n _ _ (show (1 : Nat) ≠ 39 by decide), p_up_n _ _ (show (1 : Nat) ≠ 40 by decide), p_up_n _ _ (show (1 : Nat) ≠ 41 by decide), p_up_n _ _ (show (1 : Nat) ≠ 42 by decide), p_up_n _ _ (show (1 : Nat) ≠ 43 by decide), p_up_n _ _ (show (1 : Nat) ≠ 2 by decide), p_up_n _ _ (show (2 : Nat) ≠ 34 by decide), p_up_n _ _ (show (2 : Nat) ≠ 35 by decide), p_up_n _ _ (show (2 : Nat) ≠ 36 by decide), p_up_n _ _ (show (2 : Nat) ≠ 37 by decide), p_up_n _ _ (show (2 : Nat) ≠ 38 by decide), p_up_n _ _ (show (2 : Nat) ≠ 39 by decide), p_up_n _ _ (show (2 : Nat) ≠ 40 by decide), p_up_n _ _ (show (2 : Nat) ≠ 41 by decide), p_up_n _ _ (show (2 : Nat) ≠ 42 by decide), p_up_n _ _ (show (2 : Nat) ≠ 43 by decide), p_up_n _ _ (show (2 : Nat) ≠ 1 by decide), p_up_s, up2]
