/-! LORRIES, TRIPS -/
/-- a lorry in order -/
def okL (S : St) (i : Nat) : Prop := (0 ≤ S 20 i 0 ∧ S 20 i 0 ≤ 120) ∧ (∀ c, c < 2 → ∃ j : Nat, j < 3 ∧ S 25 i c = (j : Int)) ∧ (∀ d, d < 7 → ∃ n : Nat, n ≤ 6 ∧ S 26 i d = (n : Int)) ∧ ∀ d, d < 7 → ∀ q, q < 6 → ∃ e : Nat, e < 6 ∧ S 27 (7 * i + d) q = (e : Int)
def hasE (S : St) (r : Nat) (e : Int) : Nat → Prop
  | 0 => False
  | k + 1 => hasE S r e k ∨ S 27 r k = e
theorem ct_comesTo_no {Γ : Gm} {S : St} {i d e n : Nat} (hi : i < 3) (hd : d < 7) (he : e < 6) (hn : n ≤ 6) (hl : S 26 i d = (n : Int)) (hr : ∀ q, q < 6 → ∃ e : Nat, e < 6 ∧ S 27 (7 * i + d) q = (e : Int)) (hno : ∀ q, q < n → S 27 (7 * i + d) q ≠ (e : Int)) : CT Γ y_Lorry_comesTo b_Lorry_comesTo 4 ((some FieldType.boolean)) (rmx 1 0 0) [rf Γ 20 i, nt d, nt e] S (dX (some (nt 0)) S) := by
  refine CT.of (by first | exact plainFor_of_name (by rfl) | decide +kernel) (Nat.le_of_ble_eq_true rfl) ?_
  intro G hG
  show G (0, 0) 0 [(0, rf Γ 20 i), (1, nt d), (2, nt e)] [] _
  refine r_iconst hG (hd := d_Lorry_comesTo_0) (K := ?_)
  refine r_istore_n hG (hd := d_Lorry_comesTo_1) (K := ?_)
  have loop : ∀ m q : Nat, q + m = n → G (0, 0) 2 [(0, rf Γ 20 i), (1, nt d), (2, nt e), (3, nt q)] [] S := by
    intro m
    induction m with
    | zero =>
      intro q hq
      refine r_iload_n hG (hl0 := rfl) (hd := d_Lorry_comesTo_2) (K := ?_)
      refine r_aload_n hG (hl0 := rfl) (hd := d_Lorry_comesTo_3) (K := ?_)
      refine g_Lorry_20 hG (hi := by omega) (hd := d_Lorry_comesTo_4) (K := ?_)
      refine r_iload_n hG (hl0 := rfl) (hd := d_Lorry_comesTo_7) (K := ?_)
      first | refine a_16 hG (hd := d_Lorry_comesTo_8) (hz := rfl) (hj := by omega) (hi := by omega) (K := ?_) | refine a_17 hG (hd := d_Lorry_comesTo_8) (hz := rfl) (hj := by omega) (hi := by omega) (K := ?_) | refine a_18 hG (hd := d_Lorry_comesTo_8) (hz := rfl) (hj := by omega) (hi := by omega) (K := ?_) | refine a_19 hG (hd := d_Lorry_comesTo_8) (hz := rfl) (hj := by omega) (hi := by omega) (K := ?_) | refine a_4 hG (hd := d_Lorry_comesTo_8) (hz := rfl) (hj := by omega) (hi := by omega) (K := ?_) | refine a_5 hG (hd := d_Lorry_comesTo_8) (hz := rfl) (hj := by omega) (hi := by omega) (K := ?_) | refine a_21 hG (hd := d_Lorry_comesTo_8) (hz := rfl) (hj := by omega) (hi := by omega) (K := ?_) | refine a_23 hG (hd := d_Lorry_comesTo_8) (hz := rfl) (hj := by omega) (hi := by omega) (K := ?_) | refine a_24 hG (hd := d_Lorry_comesTo_8) (hz := rfl) (hj := by omega) (hi := by omega) (K := ?_)
      refine r_icmp_ge hG (hd := d_Lorry_comesTo_9) (kt := fun _ => ?_) (kf := fun hh => absurd hh (by omega))
      refine r_iconst hG (hd := d_Lorry_comesTo_32) (K := ?_)
      refine r_zret hG d_Lorry_comesTo_33 ⟨(Nat.le_of_ble_eq_true rfl), (Nat.le_of_ble_eq_true rfl)⟩ (by first | exact Or.inl rfl | exact Or.inr rfl | omega) ?_
      exact ⟨rfl, rfl⟩
    | succ m ih =>
      intro q hq
      obtain ⟨e', he', hee⟩ := hr q (by omega)
      have hne := hno q (by omega)
      rw [hee] at hne
      refine r_iload_n hG (hl0 := rfl) (hd := d_Lorry_comesTo_2) (K := ?_)
      refine r_aload_n hG (hl0 := rfl) (hd := d_Lorry_comesTo_3) (K := ?_)
      refine g_Lorry_20 hG (hi := by omega) (hd := d_Lorry_comesTo_4) (K := ?_)
      refine r_iload_n hG (hl0 := rfl) (hd := d_Lorry_comesTo_7) (K := ?_)
      first | refine a_16 hG (hd := d_Lorry_comesTo_8) (hz := rfl) (hj := by omega) (hi := by omega) (K := ?_) | refine a_17 hG (hd := d_Lorry_comesTo_8) (hz := rfl) (hj := by omega) (hi := by omega) (K := ?_) | refine a_18 hG (hd := d_Lorry_comesTo_8) (hz := rfl) (hj := by omega) (hi := by omega) (K := ?_) | refine a_19 hG (hd := d_Lorry_comesTo_8) (hz := rfl) (hj := by omega) (hi := by omega) (K := ?_) | refine a_4 hG (hd := d_Lorry_comesTo_8) (hz := rfl) (hj := by omega) (hi := by omega) (K := ?_) | refine a_5 hG (hd := d_Lorry_comesTo_8) (hz := rfl) (hj := by omega) (hi := by omega) (K := ?_) | refine a_21 hG (hd := d_Lorry_comesTo_8) (hz := rfl) (hj := by omega) (hi := by omega) (K := ?_) | refine a_23 hG (hd := d_Lorry_comesTo_8) (hz := rfl) (hj := by omega) (hi := by omega) (K := ?_) | refine a_24 hG (hd := d_Lorry_comesTo_8) (hz := rfl) (hj := by omega) (hi := by omega) (K := ?_)
      refine r_icmp_ge hG (hd := d_Lorry_comesTo_9) (kt := fun hh => absurd hh (by omega)) (kf := fun _ => ?_)
      refine r_aload_n hG (hl0 := rfl) (hd := d_Lorry_comesTo_12) (K := ?_)
      refine g_Lorry_17 hG (hi := by omega) (hd := d_Lorry_comesTo_13) (K := ?_)
      refine r_iload_n hG (hl0 := rfl) (hd := d_Lorry_comesTo_16) (K := ?_)
      first | refine a_1 hG (hd := d_Lorry_comesTo_17) (hz := rfl) (hj := by omega) (hi := by omega) (K := ?_) | refine a_2 hG (hd := d_Lorry_comesTo_17) (hz := rfl) (hj := by omega) (hi := by omega) (K := ?_) | refine a_10 hG (hd := d_Lorry_comesTo_17) (hz := rfl) (hj := by omega) (hi := by omega) (K := ?_) | refine r_aald22 hG (hd := d_Lorry_comesTo_17) (hz := rfl) (hj := by omega) (hi := by omega) (K := ?_)
      refine r_iload_n hG (hl0 := rfl) (hd := d_Lorry_comesTo_18) (K := ?_)
      first | refine a_16 hG (hd := d_Lorry_comesTo_19) (hz := rfl) (hj := by omega) (hi := by omega) (K := ?_) | refine a_17 hG (hd := d_Lorry_comesTo_19) (hz := rfl) (hj := by omega) (hi := by omega) (K := ?_) | refine a_18 hG (hd := d_Lorry_comesTo_19) (hz := rfl) (hj := by omega) (hi := by omega) (K := ?_) | refine a_19 hG (hd := d_Lorry_comesTo_19) (hz := rfl) (hj := by omega) (hi := by omega) (K := ?_) | refine a_4 hG (hd := d_Lorry_comesTo_19) (hz := rfl) (hj := by omega) (hi := by omega) (K := ?_) | refine a_5 hG (hd := d_Lorry_comesTo_19) (hz := rfl) (hj := by omega) (hi := by omega) (K := ?_) | refine a_21 hG (hd := d_Lorry_comesTo_19) (hz := rfl) (hj := by omega) (hi := by omega) (K := ?_) | refine a_23 hG (hd := d_Lorry_comesTo_19) (hz := rfl) (hj := by omega) (hi := by omega) (K := ?_) | refine a_24 hG (hd := d_Lorry_comesTo_19) (hz := rfl) (hj := by omega) (hi := by omega) (K := ?_)
      refine r_iload_n hG (hl0 := rfl) (hd := d_Lorry_comesTo_20) (K := ?_)
      refine r_icmp_ne hG (hd := d_Lorry_comesTo_21) (kt := fun _ => ?_) (kf := fun hh => absurd hh (by omega))
      refine r_iinc hG (hl0 := rfl) (hd := d_Lorry_comesTo_26) (K := ?_)
      refine r_goto hG (hd := d_Lorry_comesTo_29) (K := ?_)
      exact r_sb hG (ih (q + 1) (by omega)) ⟨rfl, rfl, rfl, rfl, trivial⟩
  exact r_sb hG (loop n 0 (by omega)) ⟨rfl, rfl, rfl, rfl, trivial⟩
/-- a street more -/
def addR (S : St) (i d e n : Nat) : St := sU (sU S 27 (7 * i + d) n e) 26 i d ((n : Int) + 1)
theorem ct_addToRound {Γ : Gm} {S : St} {i d e n : Nat} (hi : i < 3) (hd : d < 7) (hn : n < 6) (hl : S 26 i d = (n : Int)) : CT Γ y_Lorry_addToRound b_Lorry_addToRound 4 ((none : Option FieldType)) (rmx 1 0 0) [rf Γ 20 i, nt d, nt e] S (dX none (addR S i d e n)) := by
  refine CT.of (by first | exact plainFor_of_name (by rfl) | decide +kernel) (Nat.le_of_ble_eq_true rfl) ?_
  intro G hG
  show G (0, 0) 0 [(0, rf Γ 20 i), (1, nt d), (2, nt e)] [] _
  refine r_aload_n hG (hl0 := rfl) (hd := d_Lorry_addToRound_0) (K := ?_)
  refine g_Lorry_20 hG (hi := by omega) (hd := d_Lorry_addToRound_1) (K := ?_)
  refine r_iload_n hG (hl0 := rfl) (hd := d_Lorry_addToRound_4) (K := ?_)
  first | refine a_16 hG (hd := d_Lorry_addToRound_5) (hz := rfl) (hj := by omega) (hi := by omega) (K := ?_) | refine a_17 hG (hd := d_Lorry_addToRound_5) (hz := rfl) (hj := by omega) (hi := by omega) (K := ?_) | refine a_18 hG (hd := d_Lorry_addToRound_5) (hz := rfl) (hj := by omega) (hi := by omega) (K := ?_) | refine a_19 hG (hd := d_Lorry_addToRound_5) (hz := rfl) (hj := by omega) (hi := by omega) (K := ?_) | refine a_4 hG (hd := d_Lorry_addToRound_5) (hz := rfl) (hj := by omega) (hi := by omega) (K := ?_) | refine a_5 hG (hd := d_Lorry_addToRound_5) (hz := rfl) (hj := by omega) (hi := by omega) (K := ?_) | refine a_21 hG (hd := d_Lorry_addToRound_5) (hz := rfl) (hj := by omega) (hi := by omega) (K := ?_) | refine a_23 hG (hd := d_Lorry_addToRound_5) (hz := rfl) (hj := by omega) (hi := by omega) (K := ?_) | refine a_24 hG (hd := d_Lorry_addToRound_5) (hz := rfl) (hj := by omega) (hi := by omega) (K := ?_)
  rw [hl]
  refine r_istore_n hG (hd := d_Lorry_addToRound_6) (K := ?_)
  refine r_iload_n hG (hl0 := rfl) (hd := d_Lorry_addToRound_7) (K := ?_)
  refine r_bipush hG (hd := d_Lorry_addToRound_8) (K := ?_)
  refine r_icmp_ge hG (hd := d_Lorry_addToRound_10) (kt := fun hh => absurd hh (by omega)) (kf := fun _ => ?_)
  refine r_aload_n hG (hl0 := rfl) (hd := d_Lorry_addToRound_13) (K := ?_)
  refine g_Lorry_17 hG (hi := by omega) (hd := d_Lorry_addToRound_14) (K := ?_)
  refine r_iload_n hG (hl0 := rfl) (hd := d_Lorry_addToRound_17) (K := ?_)
  first | refine a_1 hG (hd := d_Lorry_addToRound_18) (hz := rfl) (hj := by omega) (hi := by omega) (K := ?_) | refine a_2 hG (hd := d_Lorry_addToRound_18) (hz := rfl) (hj := by omega) (hi := by omega) (K := ?_) | refine a_10 hG (hd := d_Lorry_addToRound_18) (hz := rfl) (hj := by omega) (hi := by omega) (K := ?_) | refine r_aald22 hG (hd := d_Lorry_addToRound_18) (hz := rfl) (hj := by omega) (hi := by omega) (K := ?_)
  refine r_iload_n hG (hl0 := rfl) (hd := d_Lorry_addToRound_19) (K := ?_)
  refine r_iload_n hG (hl0 := rfl) (hd := d_Lorry_addToRound_20) (K := ?_)
  first | refine s_16 hG (hd := d_Lorry_addToRound_21) (hz := rfl) (hj := by omega) (hi := by omega) (K := ?_) | refine s_17 hG (hd := d_Lorry_addToRound_21) (hz := rfl) (hj := by omega) (hi := by omega) (K := ?_) | refine s_18 hG (hd := d_Lorry_addToRound_21) (hz := rfl) (hj := by omega) (hi := by omega) (K := ?_) | refine s_19 hG (hd := d_Lorry_addToRound_21) (hz := rfl) (hj := by omega) (hi := by omega) (K := ?_) | refine s_4 hG (hd := d_Lorry_addToRound_21) (hz := rfl) (hj := by omega) (hi := by omega) (K := ?_) | refine s_5 hG (hd := d_Lorry_addToRound_21) (hz := rfl) (hj := by omega) (hi := by omega) (K := ?_) | refine s_21 hG (hd := d_Lorry_addToRound_21) (hz := rfl) (hj := by omega) (hi := by omega) (K := ?_) | refine s_23 hG (hd := d_Lorry_addToRound_21) (hz := rfl) (hj := by omega) (hi := by omega) (K := ?_) | refine s_24 hG (hd := d_Lorry_addToRound_21) (hz := rfl) (hj := by omega) (hi := by omega) (K := ?_)
  refine r_aload_n hG (hl0 := rfl) (hd := d_Lorry_addToRound_22) (K := ?_)
  refine g_Lorry_20 hG (hi := by omega) (hd := d_Lorry_addToRound_23) (K := ?_)
  refine r_iload_n hG (hl0 := rfl) (hd := d_Lorry_addToRound_26) (K := ?_)
  refine r_iload_n hG (hl0 := rfl) (hd := d_Lorry_addToRound_27) (K := ?_)
  refine r_iconst hG (hd := d_Lorry_addToRound_28) (K := ?_)
  first | refine r_iadd hG (hd := d_Lorry_addToRound_29) (K := ?_) | refine r_iaddr hG (hd := d_Lorry_addToRound_29) (K := ?_)
  first | refine s_16 hG (hd := d_Lorry_addToRound_30) (hz := rfl) (hj := by omega) (hi := by omega) (K := ?_) | refine s_17 hG (hd := d_Lorry_addToRound_30) (hz := rfl) (hj := by omega) (hi := by omega) (K := ?_) | refine s_18 hG (hd := d_Lorry_addToRound_30) (hz := rfl) (hj := by omega) (hi := by omega) (K := ?_) | refine s_19 hG (hd := d_Lorry_addToRound_30) (hz := rfl) (hj := by omega) (hi := by omega) (K := ?_) | refine s_4 hG (hd := d_Lorry_addToRound_30) (hz := rfl) (hj := by omega) (hi := by omega) (K := ?_) | refine s_5 hG (hd := d_Lorry_addToRound_30) (hz := rfl) (hj := by omega) (hi := by omega) (K := ?_) | refine s_21 hG (hd := d_Lorry_addToRound_30) (hz := rfl) (hj := by omega) (hi := by omega) (K := ?_) | refine s_23 hG (hd := d_Lorry_addToRound_30) (hz := rfl) (hj := by omega) (hi := by omega) (K := ?_) | refine s_24 hG (hd := d_Lorry_addToRound_30) (hz := rfl) (hj := by omega) (hi := by omega) (K := ?_)
  refine r_vret hG d_Lorry_addToRound_31 ⟨(Nat.le_of_ble_eq_true rfl), (Nat.le_of_ble_eq_true rfl)⟩ ?_
  exact ⟨rfl, rfl⟩
def noteS (S : St) (i d : Nat) : St :=
  let S1 := sU S 24 i 0 (S 24 i 0 + S 33 i 0)
  let S2 := sU S1 21 i 0 (S1 30 i 0)
  let S3 := sU S2 22 i 0 (S2 31 i 0)
  let S4 := sU S3 23 i 0 (S3 32 i 0)
  if 0 < S 26 i d then S4 else S1
theorem ct_noteTrip {Γ : Gm} {S : St} {i d n : Nat} (hi : i < 3) (hd : d < 7) (hn : n ≤ 6) (hl : S 26 i d = (n : Int)) : CT Γ y_Lorry_noteTrip b_Lorry_noteTrip 2 ((none : Option FieldType)) (rmx 1 0 0) [rf Γ 20 i, nt d] S (dX none (noteS S i d)) := by
  refine CT.of (by first | exact plainFor_of_name (by rfl) | decide +kernel) (Nat.le_of_ble_eq_true rfl) ?_
  intro G hG
  show G (0, 0) 0 [(0, rf Γ 20 i), (1, nt d)] [] _
  refine r_aload_n hG (hl0 := rfl) (hd := d_Lorry_noteTrip_0) (K := ?_)
  refine r_dup hG (hd := d_Lorry_noteTrip_1) (K := ?_)
  refine g_Lorry_30 hG (hi := by omega) (hd := d_Lorry_noteTrip_2) (K := ?_)
  refine r_aload_n hG (hl0 := rfl) (hd := d_Lorry_noteTrip_5) (K := ?_)
  refine g_Lorry_26 hG (hi := by omega) (hd := d_Lorry_noteTrip_6) (K := ?_)
  refine g_Lorry_34 hG (hi := by omega) (hd := d_Lorry_noteTrip_9) (K := ?_)
  first | refine r_iadd hG (hd := d_Lorry_noteTrip_12) (K := ?_) | refine r_iaddr hG (hd := d_Lorry_noteTrip_12) (K := ?_)
  refine p_Lorry_30 hG (hi := by omega) (hd := d_Lorry_noteTrip_13) (K := ?_)
  refine r_aload_n hG (hl0 := rfl) (hd := d_Lorry_noteTrip_16) (K := ?_)
  refine g_Lorry_20 hG (hi := by omega) (hd := d_Lorry_noteTrip_17) (K := ?_)
  refine r_iload_n hG (hl0 := rfl) (hd := d_Lorry_noteTrip_20) (K := ?_)
  first | refine a_16 hG (hd := d_Lorry_noteTrip_21) (hz := rfl) (hj := by omega) (hi := by omega) (K := ?_) | refine a_17 hG (hd := d_Lorry_noteTrip_21) (hz := rfl) (hj := by omega) (hi := by omega) (K := ?_) | refine a_18 hG (hd := d_Lorry_noteTrip_21) (hz := rfl) (hj := by omega) (hi := by omega) (K := ?_) | refine a_19 hG (hd := d_Lorry_noteTrip_21) (hz := rfl) (hj := by omega) (hi := by omega) (K := ?_) | refine a_4 hG (hd := d_Lorry_noteTrip_21) (hz := rfl) (hj := by omega) (hi := by omega) (K := ?_) | refine a_5 hG (hd := d_Lorry_noteTrip_21) (hz := rfl) (hj := by omega) (hi := by omega) (K := ?_) | refine a_21 hG (hd := d_Lorry_noteTrip_21) (hz := rfl) (hj := by omega) (hi := by omega) (K := ?_) | refine a_23 hG (hd := d_Lorry_noteTrip_21) (hz := rfl) (hj := by omega) (hi := by omega) (K := ?_) | refine a_24 hG (hd := d_Lorry_noteTrip_21) (hz := rfl) (hj := by omega) (hi := by omega) (K := ?_)
  rw [show sU S 24 i 0 (S 24 i 0 + S 33 i 0) 26 i d = (n : Int) by rw [sU_nf (by decide), hl]]
  refine r_if_le hG (hd := d_Lorry_noteTrip_22) (kt := fun h => ?_) (kf := fun h => ?_)
  · refine r_vret hG d_Lorry_noteTrip_58 ⟨(Nat.le_of_ble_eq_true rfl), (Nat.le_of_ble_eq_true rfl)⟩ ?_
    exact ⟨rfl, (if_neg (by omega)).symm⟩
  · refine r_aload_n hG (hl0 := rfl) (hd := d_Lorry_noteTrip_25) (K := ?_)
    refine r_aload_n hG (hl0 := rfl) (hd := d_Lorry_noteTrip_26) (K := ?_)
    refine g_Lorry_26 hG (hi := by omega) (hd := d_Lorry_noteTrip_27) (K := ?_)
    refine g_Lorry_35 hG (hi := by omega) (hd := d_Lorry_noteTrip_30) (K := ?_)
    refine p_Lorry_38 hG (hi := by omega) (hd := d_Lorry_noteTrip_33) (K := ?_)
    refine r_aload_n hG (hl0 := rfl) (hd := d_Lorry_noteTrip_36) (K := ?_)
    refine r_aload_n hG (hl0 := rfl) (hd := d_Lorry_noteTrip_37) (K := ?_)
    refine g_Lorry_26 hG (hi := by omega) (hd := d_Lorry_noteTrip_38) (K := ?_)
    refine g_Lorry_41 hG (hi := by omega) (hd := d_Lorry_noteTrip_41) (K := ?_)
    refine p_Lorry_44 hG (hi := by omega) (hd := d_Lorry_noteTrip_44) (K := ?_)
    refine r_aload_n hG (hl0 := rfl) (hd := d_Lorry_noteTrip_47) (K := ?_)
    refine r_aload_n hG (hl0 := rfl) (hd := d_Lorry_noteTrip_48) (K := ?_)
    refine g_Lorry_26 hG (hi := by omega) (hd := d_Lorry_noteTrip_49) (K := ?_)
    refine g_Lorry_47 hG (hi := by omega) (hd := d_Lorry_noteTrip_52) (K := ?_)
    refine p_Lorry_50 hG (hi := by omega) (hd := d_Lorry_noteTrip_55) (K := ?_)
    refine r_vret hG d_Lorry_noteTrip_58 ⟨(Nat.le_of_ble_eq_true rfl), (Nat.le_of_ble_eq_true rfl)⟩ ?_
    exact ⟨rfl, (if_pos (by omega)).symm⟩
def beginS (S : St) (c : Nat) : St := sU (sU (sU (sU (sU (sU (sU S 34 c 0 0) 35 c 0 0) 34 c 1 0) 35 c 1 0) 31 c 0 0) 32 c 0 0) 33 c 0 0
theorem ct_tripBegin {Γ : Gm} {S : St} {c : Nat} (hc : c < 4) : CT Γ y_Trip_begin b_Trip_begin 2 ((none : Option FieldType)) (rmx 1 0 0) [rf Γ 3 c] S (dX none (beginS S c)) := by
  refine CT.of (by first | exact plainFor_of_name (by rfl) | decide +kernel) (Nat.le_of_ble_eq_true rfl) ?_
  intro G hG
  show G (0, 0) 0 [(0, rf Γ 3 c)] [] _
  refine r_iconst hG (hd := d_Trip_begin_0) (K := ?_)
  refine r_istore_n hG (hd := d_Trip_begin_1) (K := ?_)
  have step : ∀ (j : Nat) (S : St), j < 2 → G (0, 0) 2 [(0, rf Γ 3 c), (1, nt ((j + 1 : Nat) : Int))] [] (sU (sU S 34 c j 0) 35 c j 0) → G (0, 0) 2 [(0, rf Γ 3 c), (1, nt j)] [] S := by
    intro j S hj K
    refine r_iload_n hG (hl0 := rfl) (hd := d_Trip_begin_2) (K := ?_)
    refine r_iconst hG (hd := d_Trip_begin_3) (K := ?_)
    refine r_icmp_ge hG (hd := d_Trip_begin_4) (kt := fun hh => absurd hh (by omega)) (kf := fun _ => ?_)
    refine r_aload_n hG (hl0 := rfl) (hd := d_Trip_begin_7) (K := ?_)
    refine g_Trip_9 hG (hi := by omega) (hd := d_Trip_begin_8) (K := ?_)
    refine r_iload_n hG (hl0 := rfl) (hd := d_Trip_begin_11) (K := ?_)
    refine r_iconst hG (hd := d_Trip_begin_12) (K := ?_)
    first | refine s_16 hG (hd := d_Trip_begin_13) (hz := rfl) (hj := by omega) (hi := by omega) (K := ?_) | refine s_17 hG (hd := d_Trip_begin_13) (hz := rfl) (hj := by omega) (hi := by omega) (K := ?_) | refine s_18 hG (hd := d_Trip_begin_13) (hz := rfl) (hj := by omega) (hi := by omega) (K := ?_) | refine s_19 hG (hd := d_Trip_begin_13) (hz := rfl) (hj := by omega) (hi := by omega) (K := ?_) | refine s_4 hG (hd := d_Trip_begin_13) (hz := rfl) (hj := by omega) (hi := by omega) (K := ?_) | refine s_5 hG (hd := d_Trip_begin_13) (hz := rfl) (hj := by omega) (hi := by omega) (K := ?_) | refine s_21 hG (hd := d_Trip_begin_13) (hz := rfl) (hj := by omega) (hi := by omega) (K := ?_) | refine s_23 hG (hd := d_Trip_begin_13) (hz := rfl) (hj := by omega) (hi := by omega) (K := ?_) | refine s_24 hG (hd := d_Trip_begin_13) (hz := rfl) (hj := by omega) (hi := by omega) (K := ?_)
    refine r_aload_n hG (hl0 := rfl) (hd := d_Trip_begin_14) (K := ?_)
    refine g_Trip_15 hG (hi := by omega) (hd := d_Trip_begin_15) (K := ?_)
    refine r_iload_n hG (hl0 := rfl) (hd := d_Trip_begin_18) (K := ?_)
    refine r_iconst hG (hd := d_Trip_begin_19) (K := ?_)
    first | refine s_16 hG (hd := d_Trip_begin_20) (hz := rfl) (hj := by omega) (hi := by omega) (K := ?_) | refine s_17 hG (hd := d_Trip_begin_20) (hz := rfl) (hj := by omega) (hi := by omega) (K := ?_) | refine s_18 hG (hd := d_Trip_begin_20) (hz := rfl) (hj := by omega) (hi := by omega) (K := ?_) | refine s_19 hG (hd := d_Trip_begin_20) (hz := rfl) (hj := by omega) (hi := by omega) (K := ?_) | refine s_4 hG (hd := d_Trip_begin_20) (hz := rfl) (hj := by omega) (hi := by omega) (K := ?_) | refine s_5 hG (hd := d_Trip_begin_20) (hz := rfl) (hj := by omega) (hi := by omega) (K := ?_) | refine s_21 hG (hd := d_Trip_begin_20) (hz := rfl) (hj := by omega) (hi := by omega) (K := ?_) | refine s_23 hG (hd := d_Trip_begin_20) (hz := rfl) (hj := by omega) (hi := by omega) (K := ?_) | refine s_24 hG (hd := d_Trip_begin_20) (hz := rfl) (hj := by omega) (hi := by omega) (K := ?_)
    refine r_iinc hG (hl0 := rfl) (hd := d_Trip_begin_21) (K := ?_)
    refine r_goto hG (hd := d_Trip_begin_24) (K := ?_)
    exact r_sb hG (K) ⟨rfl, rfl, trivial⟩
  refine r_sb hG (step 0 S (by decide) (step 1 _ (by decide) ?_)) ⟨rfl, rfl, trivial⟩
  refine r_iload_n hG (hl0 := rfl) (hd := d_Trip_begin_2) (K := ?_)
  refine r_iconst hG (hd := d_Trip_begin_3) (K := ?_)
  refine r_icmp_ge hG (hd := d_Trip_begin_4) (kt := fun _ => ?_) (kf := fun hh => absurd hh (by omega))
  refine r_aload_n hG (hl0 := rfl) (hd := d_Trip_begin_27) (K := ?_)
  refine r_iconst hG (hd := d_Trip_begin_28) (K := ?_)
  refine p_Trip_52 hG (hi := by omega) (hd := d_Trip_begin_29) (K := ?_)
  refine r_aload_n hG (hl0 := rfl) (hd := d_Trip_begin_32) (K := ?_)
  refine r_iconst hG (hd := d_Trip_begin_33) (K := ?_)
  refine p_Trip_55 hG (hi := by omega) (hd := d_Trip_begin_34) (K := ?_)
  refine r_aload_n hG (hl0 := rfl) (hd := d_Trip_begin_37) (K := ?_)
  refine r_iconst hG (hd := d_Trip_begin_38) (K := ?_)
  refine p_Trip_58 hG (hi := by omega) (hd := d_Trip_begin_39) (K := ?_)
  refine r_vret hG d_Trip_begin_42 ⟨(Nat.le_of_ble_eq_true rfl), (Nat.le_of_ble_eq_true rfl)⟩ ?_
  exact ⟨rfl, rfl⟩
def pureL (S : St) (c t j k : Nat) : Int := min (S 16 t j) (150 - S 34 c k - S 35 c k)
def foulL (S : St) (c t j k : Nat) : Int := min (S 17 t j) (150 - S 34 c k - S 35 c k - pureL S c t j k)
/-- of the bin t, j into the chamber c, k -/
def loadS (S : St) (c t j k : Nat) : St :=
  let S1 := sU S 16 t j (S 16 t j - pureL S c t j k)
  let S2 := sU S1 17 t j (S1 17 t j - foulL S c t j k)
  let S3 := sU S2 18 t j (S2 18 t j + (pureL S c t j k + foulL S c t j k))
  let S4 := sU S3 34 c k (S3 34 c k + pureL S c t j k)
  let S5 := sU S4 35 c k (S4 35 c k + foulL S c t j k)
  sU S5 33 c 0 (S5 33 c 0 + (pureL S c t j k + foulL S c t j k))
theorem loadS_of (S : St) (c t j k : Nat) {f : Nat} (h : f ≠ 16 ∧ f ≠ 17 ∧ f ≠ 18 ∧ f ≠ 34 ∧ f ≠ 35 ∧ f ≠ 33) : loadS S c t j k f = S f := by
  funext i q
  simp only [loadS]
  rw [sU_nf h.2.2.2.2.2, sU_nf h.2.2.2.2.1, sU_nf h.2.2.2.1, sU_nf h.2.2.1, sU_nf h.2.1, sU_nf h.1]
theorem loadS_16 (S : St) (c t j k t' j' : Nat) : loadS S c t j k 16 t' j' = if t' = t ∧ j' = j then S 16 t j - pureL S c t j k else S 16 t' j' := by
  simp only [loadS]; simp [sU]
theorem loadS_17 (S : St) (c t j k t' j' : Nat) : loadS S c t j k 17 t' j' = if t' = t ∧ j' = j then S 17 t j - foulL S c t j k else S 17 t' j' := by
  simp only [loadS]; simp [sU]
theorem loadS_18 (S : St) (c t j k t' j' : Nat) : loadS S c t j k 18 t' j' = if t' = t ∧ j' = j then S 18 t j + (pureL S c t j k + foulL S c t j k) else S 18 t' j' := by
  simp only [loadS]; simp [sU]
theorem loadS_34 (S : St) (c t j k c' k' : Nat) : loadS S c t j k 34 c' k' = if c' = c ∧ k' = k then S 34 c k + pureL S c t j k else S 34 c' k' := by
  simp only [loadS]; simp [sU]
theorem loadS_35 (S : St) (c t j k c' k' : Nat) : loadS S c t j k 35 c' k' = if c' = c ∧ k' = k then S 35 c k + foulL S c t j k else S 35 c' k' := by
  simp only [loadS]; simp [sU]
theorem loadS_33 (S : St) (c t j k c' : Nat) : loadS S c t j k 33 c' 0 = if c' = c then S 33 c 0 + (pureL S c t j k + foulL S c t j k) else S 33 c' 0 := by
  simp only [loadS]; simp [sU]
def okC (S : St) (c k : Nat) : Prop := 0 ≤ S 34 c k ∧ 0 ≤ S 35 c k ∧ S 34 c k + S 35 c k ≤ 150
theorem load_in {S : St} {c t j k : Nat} (hj : j < 3) (ht : okT S t) (hc : okC S c k) : 0 ≤ pureL S c t j k ∧ pureL S c t j k ≤ S 16 t j ∧ 0 ≤ foulL S c t j k ∧ foulL S c t j k ≤ S 17 t j ∧ S 34 c k + pureL S c t j k + (S 35 c k + foulL S c t j k) ≤ 150 := by
  have h := ht.2.2 j hj
  unfold okC at hc
  unfold foulL pureL
  omega
theorem ct_load {Γ : Gm} {S : St} {c t j k : Nat} (hc : c < 4) (ht : t < 12) (hj : j < 3) (hk : k < 2) (hT : okT S t) (hC : okC S c k) : CT Γ y_Trip_load b_Trip_load 7 ((none : Option FieldType)) (rmx 2 0 0) [rf Γ 3 c, rf Γ 15 t, nt j, nt k] S (dX none (loadS S c t j k)) := by
  have h := hT.2.2 j hj
  unfold okC at hC
  refine CT.of (by first | exact plainFor_of_name (by rfl) | decide +kernel) (Nat.le_of_ble_eq_true rfl) ?_
  intro G hG
  show G (0, 0) 0 [(0, rf Γ 3 c), (1, rf Γ 15 t), (2, nt j), (3, nt k)] [] _
  refine r_sipush hG (hd := d_Trip_load_0) (K := ?_)
  refine r_aload_n hG (hl0 := rfl) (hd := d_Trip_load_3) (K := ?_)
  refine g_Trip_9 hG (hi := by omega) (hd := d_Trip_load_4) (K := ?_)
  refine r_iload_n hG (hl0 := rfl) (hd := d_Trip_load_7) (K := ?_)
  first | refine a_16 hG (hd := d_Trip_load_8) (hz := rfl) (hj := by omega) (hi := by omega) (K := ?_) | refine a_17 hG (hd := d_Trip_load_8) (hz := rfl) (hj := by omega) (hi := by omega) (K := ?_) | refine a_18 hG (hd := d_Trip_load_8) (hz := rfl) (hj := by omega) (hi := by omega) (K := ?_) | refine a_19 hG (hd := d_Trip_load_8) (hz := rfl) (hj := by omega) (hi := by omega) (K := ?_) | refine a_4 hG (hd := d_Trip_load_8) (hz := rfl) (hj := by omega) (hi := by omega) (K := ?_) | refine a_5 hG (hd := d_Trip_load_8) (hz := rfl) (hj := by omega) (hi := by omega) (K := ?_) | refine a_21 hG (hd := d_Trip_load_8) (hz := rfl) (hj := by omega) (hi := by omega) (K := ?_) | refine a_23 hG (hd := d_Trip_load_8) (hz := rfl) (hj := by omega) (hi := by omega) (K := ?_) | refine a_24 hG (hd := d_Trip_load_8) (hz := rfl) (hj := by omega) (hi := by omega) (K := ?_)
  first | refine r_isub hG (hd := d_Trip_load_9) (K := ?_) | refine r_isubr hG (hd := d_Trip_load_9) (K := ?_)
  refine r_aload_n hG (hl0 := rfl) (hd := d_Trip_load_10) (K := ?_)
  refine g_Trip_15 hG (hi := by omega) (hd := d_Trip_load_11) (K := ?_)
  refine r_iload_n hG (hl0 := rfl) (hd := d_Trip_load_14) (K := ?_)
  first | refine a_16 hG (hd := d_Trip_load_15) (hz := rfl) (hj := by omega) (hi := by omega) (K := ?_) | refine a_17 hG (hd := d_Trip_load_15) (hz := rfl) (hj := by omega) (hi := by omega) (K := ?_) | refine a_18 hG (hd := d_Trip_load_15) (hz := rfl) (hj := by omega) (hi := by omega) (K := ?_) | refine a_19 hG (hd := d_Trip_load_15) (hz := rfl) (hj := by omega) (hi := by omega) (K := ?_) | refine a_4 hG (hd := d_Trip_load_15) (hz := rfl) (hj := by omega) (hi := by omega) (K := ?_) | refine a_5 hG (hd := d_Trip_load_15) (hz := rfl) (hj := by omega) (hi := by omega) (K := ?_) | refine a_21 hG (hd := d_Trip_load_15) (hz := rfl) (hj := by omega) (hi := by omega) (K := ?_) | refine a_23 hG (hd := d_Trip_load_15) (hz := rfl) (hj := by omega) (hi := by omega) (K := ?_) | refine a_24 hG (hd := d_Trip_load_15) (hz := rfl) (hj := by omega) (hi := by omega) (K := ?_)
  first | refine r_isub hG (hd := d_Trip_load_16) (K := ?_) | refine r_isubr hG (hd := d_Trip_load_16) (K := ?_)
  refine r_istore hG (hd := d_Trip_load_17) (K := ?_)
  refine r_aload_n hG (hl0 := rfl) (hd := d_Trip_load_19) (K := ?_)
  refine g_Trip_71 hG (hi := by omega) (hd := d_Trip_load_20) (K := ?_)
  refine r_iload_n hG (hl0 := rfl) (hd := d_Trip_load_23) (K := ?_)
  first | refine a_16 hG (hd := d_Trip_load_24) (hz := rfl) (hj := by omega) (hi := by omega) (K := ?_) | refine a_17 hG (hd := d_Trip_load_24) (hz := rfl) (hj := by omega) (hi := by omega) (K := ?_) | refine a_18 hG (hd := d_Trip_load_24) (hz := rfl) (hj := by omega) (hi := by omega) (K := ?_) | refine a_19 hG (hd := d_Trip_load_24) (hz := rfl) (hj := by omega) (hi := by omega) (K := ?_) | refine a_4 hG (hd := d_Trip_load_24) (hz := rfl) (hj := by omega) (hi := by omega) (K := ?_) | refine a_5 hG (hd := d_Trip_load_24) (hz := rfl) (hj := by omega) (hi := by omega) (K := ?_) | refine a_21 hG (hd := d_Trip_load_24) (hz := rfl) (hj := by omega) (hi := by omega) (K := ?_) | refine a_23 hG (hd := d_Trip_load_24) (hz := rfl) (hj := by omega) (hi := by omega) (K := ?_) | refine a_24 hG (hd := d_Trip_load_24) (hz := rfl) (hj := by omega) (hi := by omega) (K := ?_)
  refine r_iload hG (hl0 := rfl) (hd := d_Trip_load_25) (K := ?_)
  refine r_mmin hG w_Trip_72 d_Trip_load_27 ⟨(Nat.le_of_ble_eq_true rfl), (Nat.le_of_ble_eq_true rfl)⟩ ⟨(Nat.le_of_ble_eq_true rfl), (Nat.le_of_ble_eq_true rfl)⟩ (by first | omega | (simp [sU]; omega)) ?_
  refine r_istore hG (hd := d_Trip_load_30) (K := ?_)
  refine r_aload_n hG (hl0 := rfl) (hd := d_Trip_load_32) (K := ?_)
  refine g_Trip_76 hG (hi := by omega) (hd := d_Trip_load_33) (K := ?_)
  refine r_iload_n hG (hl0 := rfl) (hd := d_Trip_load_36) (K := ?_)
  first | refine a_16 hG (hd := d_Trip_load_37) (hz := rfl) (hj := by omega) (hi := by omega) (K := ?_) | refine a_17 hG (hd := d_Trip_load_37) (hz := rfl) (hj := by omega) (hi := by omega) (K := ?_) | refine a_18 hG (hd := d_Trip_load_37) (hz := rfl) (hj := by omega) (hi := by omega) (K := ?_) | refine a_19 hG (hd := d_Trip_load_37) (hz := rfl) (hj := by omega) (hi := by omega) (K := ?_) | refine a_4 hG (hd := d_Trip_load_37) (hz := rfl) (hj := by omega) (hi := by omega) (K := ?_) | refine a_5 hG (hd := d_Trip_load_37) (hz := rfl) (hj := by omega) (hi := by omega) (K := ?_) | refine a_21 hG (hd := d_Trip_load_37) (hz := rfl) (hj := by omega) (hi := by omega) (K := ?_) | refine a_23 hG (hd := d_Trip_load_37) (hz := rfl) (hj := by omega) (hi := by omega) (K := ?_) | refine a_24 hG (hd := d_Trip_load_37) (hz := rfl) (hj := by omega) (hi := by omega) (K := ?_)
  refine r_iload hG (hl0 := rfl) (hd := d_Trip_load_38) (K := ?_)
  refine r_iload hG (hl0 := rfl) (hd := d_Trip_load_40) (K := ?_)
  first | refine r_isub hG (hd := d_Trip_load_42) (K := ?_) | refine r_isubr hG (hd := d_Trip_load_42) (K := ?_)
  refine r_mmin hG w_Trip_72 d_Trip_load_43 ⟨(Nat.le_of_ble_eq_true rfl), (Nat.le_of_ble_eq_true rfl)⟩ ⟨(Nat.le_of_ble_eq_true rfl), (Nat.le_of_ble_eq_true rfl)⟩ (by first | omega | (simp [sU]; omega)) ?_
  refine r_istore hG (hd := d_Trip_load_46) (K := ?_)
  refine r_aload_n hG (hl0 := rfl) (hd := d_Trip_load_48) (K := ?_)
  refine g_Trip_71 hG (hi := by omega) (hd := d_Trip_load_49) (K := ?_)
  refine r_iload_n hG (hl0 := rfl) (hd := d_Trip_load_52) (K := ?_)
  refine r_dup2 hG (hd := d_Trip_load_53) (K := ?_)
  first | refine a_16 hG (hd := d_Trip_load_54) (hz := rfl) (hj := by omega) (hi := by omega) (K := ?_) | refine a_17 hG (hd := d_Trip_load_54) (hz := rfl) (hj := by omega) (hi := by omega) (K := ?_) | refine a_18 hG (hd := d_Trip_load_54) (hz := rfl) (hj := by omega) (hi := by omega) (K := ?_) | refine a_19 hG (hd := d_Trip_load_54) (hz := rfl) (hj := by omega) (hi := by omega) (K := ?_) | refine a_4 hG (hd := d_Trip_load_54) (hz := rfl) (hj := by omega) (hi := by omega) (K := ?_) | refine a_5 hG (hd := d_Trip_load_54) (hz := rfl) (hj := by omega) (hi := by omega) (K := ?_) | refine a_21 hG (hd := d_Trip_load_54) (hz := rfl) (hj := by omega) (hi := by omega) (K := ?_) | refine a_23 hG (hd := d_Trip_load_54) (hz := rfl) (hj := by omega) (hi := by omega) (K := ?_) | refine a_24 hG (hd := d_Trip_load_54) (hz := rfl) (hj := by omega) (hi := by omega) (K := ?_)
  refine r_iload hG (hl0 := rfl) (hd := d_Trip_load_55) (K := ?_)
  first | refine r_isub hG (hd := d_Trip_load_57) (K := ?_) | refine r_isubr hG (hd := d_Trip_load_57) (K := ?_)
  first | refine s_16 hG (hd := d_Trip_load_58) (hz := rfl) (hj := by omega) (hi := by omega) (K := ?_) | refine s_17 hG (hd := d_Trip_load_58) (hz := rfl) (hj := by omega) (hi := by omega) (K := ?_) | refine s_18 hG (hd := d_Trip_load_58) (hz := rfl) (hj := by omega) (hi := by omega) (K := ?_) | refine s_19 hG (hd := d_Trip_load_58) (hz := rfl) (hj := by omega) (hi := by omega) (K := ?_) | refine s_4 hG (hd := d_Trip_load_58) (hz := rfl) (hj := by omega) (hi := by omega) (K := ?_) | refine s_5 hG (hd := d_Trip_load_58) (hz := rfl) (hj := by omega) (hi := by omega) (K := ?_) | refine s_21 hG (hd := d_Trip_load_58) (hz := rfl) (hj := by omega) (hi := by omega) (K := ?_) | refine s_23 hG (hd := d_Trip_load_58) (hz := rfl) (hj := by omega) (hi := by omega) (K := ?_) | refine s_24 hG (hd := d_Trip_load_58) (hz := rfl) (hj := by omega) (hi := by omega) (K := ?_)
  refine r_aload_n hG (hl0 := rfl) (hd := d_Trip_load_59) (K := ?_)
  refine g_Trip_76 hG (hi := by omega) (hd := d_Trip_load_60) (K := ?_)
  refine r_iload_n hG (hl0 := rfl) (hd := d_Trip_load_63) (K := ?_)
  refine r_dup2 hG (hd := d_Trip_load_64) (K := ?_)
  first | refine a_16 hG (hd := d_Trip_load_65) (hz := rfl) (hj := by omega) (hi := by omega) (K := ?_) | refine a_17 hG (hd := d_Trip_load_65) (hz := rfl) (hj := by omega) (hi := by omega) (K := ?_) | refine a_18 hG (hd := d_Trip_load_65) (hz := rfl) (hj := by omega) (hi := by omega) (K := ?_) | refine a_19 hG (hd := d_Trip_load_65) (hz := rfl) (hj := by omega) (hi := by omega) (K := ?_) | refine a_4 hG (hd := d_Trip_load_65) (hz := rfl) (hj := by omega) (hi := by omega) (K := ?_) | refine a_5 hG (hd := d_Trip_load_65) (hz := rfl) (hj := by omega) (hi := by omega) (K := ?_) | refine a_21 hG (hd := d_Trip_load_65) (hz := rfl) (hj := by omega) (hi := by omega) (K := ?_) | refine a_23 hG (hd := d_Trip_load_65) (hz := rfl) (hj := by omega) (hi := by omega) (K := ?_) | refine a_24 hG (hd := d_Trip_load_65) (hz := rfl) (hj := by omega) (hi := by omega) (K := ?_)
  refine r_iload hG (hl0 := rfl) (hd := d_Trip_load_66) (K := ?_)
  first | refine r_isub hG (hd := d_Trip_load_68) (K := ?_) | refine r_isubr hG (hd := d_Trip_load_68) (K := ?_)
  first | refine s_16 hG (hd := d_Trip_load_69) (hz := rfl) (hj := by omega) (hi := by omega) (K := ?_) | refine s_17 hG (hd := d_Trip_load_69) (hz := rfl) (hj := by omega) (hi := by omega) (K := ?_) | refine s_18 hG (hd := d_Trip_load_69) (hz := rfl) (hj := by omega) (hi := by omega) (K := ?_) | refine s_19 hG (hd := d_Trip_load_69) (hz := rfl) (hj := by omega) (hi := by omega) (K := ?_) | refine s_4 hG (hd := d_Trip_load_69) (hz := rfl) (hj := by omega) (hi := by omega) (K := ?_) | refine s_5 hG (hd := d_Trip_load_69) (hz := rfl) (hj := by omega) (hi := by omega) (K := ?_) | refine s_21 hG (hd := d_Trip_load_69) (hz := rfl) (hj := by omega) (hi := by omega) (K := ?_) | refine s_23 hG (hd := d_Trip_load_69) (hz := rfl) (hj := by omega) (hi := by omega) (K := ?_) | refine s_24 hG (hd := d_Trip_load_69) (hz := rfl) (hj := by omega) (hi := by omega) (K := ?_)
  refine r_aload_n hG (hl0 := rfl) (hd := d_Trip_load_70) (K := ?_)
  refine g_Trip_77 hG (hi := by omega) (hd := d_Trip_load_71) (K := ?_)
  refine r_iload_n hG (hl0 := rfl) (hd := d_Trip_load_74) (K := ?_)
  refine r_dup2 hG (hd := d_Trip_load_75) (K := ?_)
  first | refine a_16 hG (hd := d_Trip_load_76) (hz := rfl) (hj := by omega) (hi := by omega) (K := ?_) | refine a_17 hG (hd := d_Trip_load_76) (hz := rfl) (hj := by omega) (hi := by omega) (K := ?_) | refine a_18 hG (hd := d_Trip_load_76) (hz := rfl) (hj := by omega) (hi := by omega) (K := ?_) | refine a_19 hG (hd := d_Trip_load_76) (hz := rfl) (hj := by omega) (hi := by omega) (K := ?_) | refine a_4 hG (hd := d_Trip_load_76) (hz := rfl) (hj := by omega) (hi := by omega) (K := ?_) | refine a_5 hG (hd := d_Trip_load_76) (hz := rfl) (hj := by omega) (hi := by omega) (K := ?_) | refine a_21 hG (hd := d_Trip_load_76) (hz := rfl) (hj := by omega) (hi := by omega) (K := ?_) | refine a_23 hG (hd := d_Trip_load_76) (hz := rfl) (hj := by omega) (hi := by omega) (K := ?_) | refine a_24 hG (hd := d_Trip_load_76) (hz := rfl) (hj := by omega) (hi := by omega) (K := ?_)
  refine r_iload hG (hl0 := rfl) (hd := d_Trip_load_77) (K := ?_)
  refine r_iload hG (hl0 := rfl) (hd := d_Trip_load_79) (K := ?_)
  first | refine r_iadd hG (hd := d_Trip_load_81) (K := ?_) | refine r_iaddr hG (hd := d_Trip_load_81) (K := ?_)
  first | refine r_iadd hG (hd := d_Trip_load_82) (K := ?_) | refine r_iaddr hG (hd := d_Trip_load_82) (K := ?_)
  first | refine s_16 hG (hd := d_Trip_load_83) (hz := rfl) (hj := by omega) (hi := by omega) (K := ?_) | refine s_17 hG (hd := d_Trip_load_83) (hz := rfl) (hj := by omega) (hi := by omega) (K := ?_) | refine s_18 hG (hd := d_Trip_load_83) (hz := rfl) (hj := by omega) (hi := by omega) (K := ?_) | refine s_19 hG (hd := d_Trip_load_83) (hz := rfl) (hj := by omega) (hi := by omega) (K := ?_) | refine s_4 hG (hd := d_Trip_load_83) (hz := rfl) (hj := by omega) (hi := by omega) (K := ?_) | refine s_5 hG (hd := d_Trip_load_83) (hz := rfl) (hj := by omega) (hi := by omega) (K := ?_) | refine s_21 hG (hd := d_Trip_load_83) (hz := rfl) (hj := by omega) (hi := by omega) (K := ?_) | refine s_23 hG (hd := d_Trip_load_83) (hz := rfl) (hj := by omega) (hi := by omega) (K := ?_) | refine s_24 hG (hd := d_Trip_load_83) (hz := rfl) (hj := by omega) (hi := by omega) (K := ?_)
  refine r_aload_n hG (hl0 := rfl) (hd := d_Trip_load_84) (K := ?_)
  refine g_Trip_9 hG (hi := by omega) (hd := d_Trip_load_85) (K := ?_)
  refine r_iload_n hG (hl0 := rfl) (hd := d_Trip_load_88) (K := ?_)
  refine r_dup2 hG (hd := d_Trip_load_89) (K := ?_)
  first | refine a_16 hG (hd := d_Trip_load_90) (hz := rfl) (hj := by omega) (hi := by omega) (K := ?_) | refine a_17 hG (hd := d_Trip_load_90) (hz := rfl) (hj := by omega) (hi := by omega) (K := ?_) | refine a_18 hG (hd := d_Trip_load_90) (hz := rfl) (hj := by omega) (hi := by omega) (K := ?_) | refine a_19 hG (hd := d_Trip_load_90) (hz := rfl) (hj := by omega) (hi := by omega) (K := ?_) | refine a_4 hG (hd := d_Trip_load_90) (hz := rfl) (hj := by omega) (hi := by omega) (K := ?_) | refine a_5 hG (hd := d_Trip_load_90) (hz := rfl) (hj := by omega) (hi := by omega) (K := ?_) | refine a_21 hG (hd := d_Trip_load_90) (hz := rfl) (hj := by omega) (hi := by omega) (K := ?_) | refine a_23 hG (hd := d_Trip_load_90) (hz := rfl) (hj := by omega) (hi := by omega) (K := ?_) | refine a_24 hG (hd := d_Trip_load_90) (hz := rfl) (hj := by omega) (hi := by omega) (K := ?_)
  refine r_iload hG (hl0 := rfl) (hd := d_Trip_load_91) (K := ?_)
  first | refine r_iadd hG (hd := d_Trip_load_93) (K := ?_) | refine r_iaddr hG (hd := d_Trip_load_93) (K := ?_)
  first | refine s_16 hG (hd := d_Trip_load_94) (hz := rfl) (hj := by omega) (hi := by omega) (K := ?_) | refine s_17 hG (hd := d_Trip_load_94) (hz := rfl) (hj := by omega) (hi := by omega) (K := ?_) | refine s_18 hG (hd := d_Trip_load_94) (hz := rfl) (hj := by omega) (hi := by omega) (K := ?_) | refine s_19 hG (hd := d_Trip_load_94) (hz := rfl) (hj := by omega) (hi := by omega) (K := ?_) | refine s_4 hG (hd := d_Trip_load_94) (hz := rfl) (hj := by omega) (hi := by omega) (K := ?_) | refine s_5 hG (hd := d_Trip_load_94) (hz := rfl) (hj := by omega) (hi := by omega) (K := ?_) | refine s_21 hG (hd := d_Trip_load_94) (hz := rfl) (hj := by omega) (hi := by omega) (K := ?_) | refine s_23 hG (hd := d_Trip_load_94) (hz := rfl) (hj := by omega) (hi := by omega) (K := ?_) | refine s_24 hG (hd := d_Trip_load_94) (hz := rfl) (hj := by omega) (hi := by omega) (K := ?_)
  refine r_aload_n hG (hl0 := rfl) (hd := d_Trip_load_95) (K := ?_)
  refine g_Trip_15 hG (hi := by omega) (hd := d_Trip_load_96) (K := ?_)
  refine r_iload_n hG (hl0 := rfl) (hd := d_Trip_load_99) (K := ?_)
  refine r_dup2 hG (hd := d_Trip_load_100) (K := ?_)
  first | refine a_16 hG (hd := d_Trip_load_101) (hz := rfl) (hj := by omega) (hi := by omega) (K := ?_) | refine a_17 hG (hd := d_Trip_load_101) (hz := rfl) (hj := by omega) (hi := by omega) (K := ?_) | refine a_18 hG (hd := d_Trip_load_101) (hz := rfl) (hj := by omega) (hi := by omega) (K := ?_) | refine a_19 hG (hd := d_Trip_load_101) (hz := rfl) (hj := by omega) (hi := by omega) (K := ?_) | refine a_4 hG (hd := d_Trip_load_101) (hz := rfl) (hj := by omega) (hi := by omega) (K := ?_) | refine a_5 hG (hd := d_Trip_load_101) (hz := rfl) (hj := by omega) (hi := by omega) (K := ?_) | refine a_21 hG (hd := d_Trip_load_101) (hz := rfl) (hj := by omega) (hi := by omega) (K := ?_) | refine a_23 hG (hd := d_Trip_load_101) (hz := rfl) (hj := by omega) (hi := by omega) (K := ?_) | refine a_24 hG (hd := d_Trip_load_101) (hz := rfl) (hj := by omega) (hi := by omega) (K := ?_)
  refine r_iload hG (hl0 := rfl) (hd := d_Trip_load_102) (K := ?_)
  first | refine r_iadd hG (hd := d_Trip_load_104) (K := ?_) | refine r_iaddr hG (hd := d_Trip_load_104) (K := ?_)
  first | refine s_16 hG (hd := d_Trip_load_105) (hz := rfl) (hj := by omega) (hi := by omega) (K := ?_) | refine s_17 hG (hd := d_Trip_load_105) (hz := rfl) (hj := by omega) (hi := by omega) (K := ?_) | refine s_18 hG (hd := d_Trip_load_105) (hz := rfl) (hj := by omega) (hi := by omega) (K := ?_) | refine s_19 hG (hd := d_Trip_load_105) (hz := rfl) (hj := by omega) (hi := by omega) (K := ?_) | refine s_4 hG (hd := d_Trip_load_105) (hz := rfl) (hj := by omega) (hi := by omega) (K := ?_) | refine s_5 hG (hd := d_Trip_load_105) (hz := rfl) (hj := by omega) (hi := by omega) (K := ?_) | refine s_21 hG (hd := d_Trip_load_105) (hz := rfl) (hj := by omega) (hi := by omega) (K := ?_) | refine s_23 hG (hd := d_Trip_load_105) (hz := rfl) (hj := by omega) (hi := by omega) (K := ?_) | refine s_24 hG (hd := d_Trip_load_105) (hz := rfl) (hj := by omega) (hi := by omega) (K := ?_)
  refine r_aload_n hG (hl0 := rfl) (hd := d_Trip_load_106) (K := ?_)
  refine r_dup hG (hd := d_Trip_load_107) (K := ?_)
  refine g_Trip_58 hG (hi := by omega) (hd := d_Trip_load_108) (K := ?_)
  refine r_iload hG (hl0 := rfl) (hd := d_Trip_load_111) (K := ?_)
  refine r_iload hG (hl0 := rfl) (hd := d_Trip_load_113) (K := ?_)
  first | refine r_iadd hG (hd := d_Trip_load_115) (K := ?_) | refine r_iaddr hG (hd := d_Trip_load_115) (K := ?_)
  first | refine r_iadd hG (hd := d_Trip_load_116) (K := ?_) | refine r_iaddr hG (hd := d_Trip_load_116) (K := ?_)
  refine p_Trip_58 hG (hi := by omega) (hd := d_Trip_load_117) (K := ?_)
  refine r_vret hG d_Trip_load_120 ⟨(Nat.le_of_ble_eq_true rfl), (Nat.le_of_ble_eq_true rfl)⟩ ?_
  exact ⟨rfl, rfl⟩
theorem load_okT {S : St} {c t j k t' : Nat} (hj : j < 3) (hT : okT S t) (hC : okC S c k) (h' : okT S t') : okT (loadS S c t j k) t' := by
  have hl := load_in hj hT hC
  have hb := hT.2.2 j hj
  refine ⟨?_, ?_, fun j' hj' => ?_⟩
  · rw [loadS_of S c t j k (by decide)]; exact h'.1
  · rw [loadS_of S c t j k (by decide)]; exact h'.2.1
  · have hb' := h'.2.2 j' hj'
    rw [loadS_16, loadS_17, loadS_of S c t j k (by decide)]
    split
    · next e => obtain ⟨rfl, rfl⟩ := e; omega
    · exact hb'
theorem load_okC {S : St} {c t j k c' k' : Nat} (hj : j < 3) (hT : okT S t) (hC : okC S c k) (h' : okC S c' k') : okC (loadS S c t j k) c' k' := by
  have hl := load_in hj hT hC
  unfold okC at *
  rw [loadS_34, loadS_35]
  split
  · next e => obtain ⟨rfl, rfl⟩ := e; omega
  · exact h'
theorem okL_of {S S' : St} {i : Nat} (h : okL S i) (h20 : S' 20 = S 20) (h25 : S' 25 = S 25) (h26 : S' 26 = S 26) (h27 : S' 27 = S 27) : okL S' i := by
  unfold okL at *
  rw [h20, h25, h26, h27]
  exact h
theorem load_okL {S : St} {c t j k i : Nat} (h : okL S i) : okL (loadS S c t j k) i := okL_of h (loadS_of S c t j k (by decide)) (loadS_of S c t j k (by decide)) (loadS_of S c t j k (by decide)) (loadS_of S c t j k (by decide))
def leftE (S : St) (t i : Nat) : Int := S 16 t (S 25 i 0).toNat + S 17 t (S 25 i 0).toNat + (S 16 t (S 25 i 1).toNat + S 17 t (S 25 i 1).toNat)
def load2 (S : St) (c t i : Nat) : St := loadS (loadS S c t (S 25 i 0).toNat 0) c t (S 25 i 1).toNat 1
def emptyS (S : St) (c t i : Nat) : St :=
  let S3 := sU (load2 S c t i) 31 c 0 (load2 S c t i 31 c 0 + 1)
  if 0 < leftE (load2 S c t i) t i then sU S3 32 c 0 (S3 32 c 0 + 1) else S3
theorem load2_of (S : St) (c t i : Nat) {f : Nat} (h : f ≠ 16 ∧ f ≠ 17 ∧ f ≠ 18 ∧ f ≠ 34 ∧ f ≠ 35 ∧ f ≠ 33) : load2 S c t i f = S f := by
  unfold load2
  rw [loadS_of _ _ _ _ _ h, loadS_of _ _ _ _ _ h]
theorem okL_str {S : St} {i c : Nat} (h : okL S i) (hc : c < 2) : (S 25 i c).toNat < 3 ∧ S 25 i c = (((S 25 i c).toNat : Nat) : Int) := by
  obtain ⟨j, h1, h2⟩ := h.2.1 c hc
  rw [h2, Int.toNat_natCast]
  exact ⟨h1, rfl⟩
theorem load2_ok {S : St} {c t i t' : Nat} (hT : okT S t) (hL : okL S i) (hC : okC S c 0 ∧ okC S c 1) (h' : okT S t') : okT (load2 S c t i) t' := by
  have h0 := (okL_str hL (show 0 < 2 by decide)).1
  have h1 := (okL_str hL (show 1 < 2 by decide)).1
  exact load_okT h1 (load_okT h0 hT hC.1 hT) (load_okC h0 hT hC.1 hC.2) (load_okT h0 hT hC.1 h')
theorem load2_okC {S : St} {c t i : Nat} (hT : okT S t) (hL : okL S i) (hC : okC S c 0 ∧ okC S c 1) : okC (load2 S c t i) c 0 ∧ okC (load2 S c t i) c 1 := by
  have h0 := (okL_str hL (show 0 < 2 by decide)).1
  have h1 := (okL_str hL (show 1 < 2 by decide)).1
  have hT1 := load_okT h0 hT hC.1 hT
  have hC1 := load_okC h0 hT hC.1 hC.2
  exact ⟨load_okC h1 hT1 hC1 (load_okC h0 hT hC.1 hC.1), load_okC h1 hT1 hC1 hC1⟩
theorem ct_empty {Γ : Gm} {S : St} {c t i : Nat} (hc : c < 4) (ht : t < 12) (hi : i < 3) (hT : okT S t) (hL : okL S i) (hC : okC S c 0 ∧ okC S c 1) : CT Γ y_Trip_empty b_Trip_empty 5 ((none : Option FieldType)) (rmx 3 0 0) [rf Γ 3 c, rf Γ 15 t, rf Γ 20 i] S (dX none (emptyS S c t i)) := by
  obtain ⟨h0, e0⟩ := okL_str hL (show 0 < 2 by decide)
  obtain ⟨h1, e1⟩ := okL_str hL (show 1 < 2 by decide)
  have hT1 := load_okT h0 hT hC.1 hT
  have hC1 := load_okC h0 hT hC.1 hC.2
  have hT2 := load2_ok hT hL hC hT
  have f1 : loadS S c t (S 25 i 0).toNat 0 25 i 1 = S 25 i 1 := by rw [loadS_of S c t _ 0 (by decide)]
  have g0 : load2 S c t i 25 i 0 = S 25 i 0 := by rw [load2_of S c t i (by decide)]
  have g1 : load2 S c t i 25 i 1 = S 25 i 1 := by rw [load2_of S c t i (by decide)]
  have hl0 := hT2.2.2 _ h0
  have hl1 := hT2.2.2 _ h1
  refine CT.of (by first | exact plainFor_of_name (by rfl) | decide +kernel) (Nat.le_of_ble_eq_true rfl) ?_
  intro G hG
  show G (0, 0) 0 [(0, rf Γ 3 c), (1, rf Γ 15 t), (2, rf Γ 20 i)] [] _
  refine r_iconst hG (hd := d_Trip_empty_0) (K := ?_)
  refine r_istore_n hG (hd := d_Trip_empty_1) (K := ?_)
  refine r_iconst hG (hd := d_Trip_empty_2) (K := ?_)
  refine r_istore hG (hd := d_Trip_empty_3) (K := ?_)
  refine r_iload hG (hl0 := rfl) (hd := d_Trip_empty_5) (K := ?_)
  refine r_iconst hG (hd := d_Trip_empty_7) (K := ?_)
  refine r_icmp_ge hG (hd := d_Trip_empty_8) (kt := fun hh => absurd hh (by omega)) (kf := fun _ => ?_)
  refine r_aload_n hG (hl0 := rfl) (hd := d_Trip_empty_11) (K := ?_)
  refine r_aload_n hG (hl0 := rfl) (hd := d_Trip_empty_12) (K := ?_)
  refine r_aload_n hG (hl0 := rfl) (hd := d_Trip_empty_13) (K := ?_)
  refine g_Trip_61 hG (hi := by omega) (hd := d_Trip_empty_14) (K := ?_)
  refine r_iload hG (hl0 := rfl) (hd := d_Trip_empty_17) (K := ?_)
  refine a_21 hG (j := 0) (hd := d_Trip_empty_19) (hz := rfl) (hj := by omega) (hi := hi) (K := ?_)
  refine r_iload hG (hl0 := rfl) (hd := d_Trip_empty_20) (K := ?_)
  rw [e0]
  refine cVv hG w_Trip_64 d_Trip_empty_22 (ct_load hc ht h0 (show 0 < 2 by decide) hT hC.1) (by decide) (by show _ < 4; omega) rc_3 rfl rfl ⟨(Nat.le_of_ble_eq_true rfl), (Nat.le_of_ble_eq_true rfl)⟩ ⟨(Nat.le_of_ble_eq_true rfl), (Nat.le_of_ble_eq_true rfl)⟩ (Nat.le_of_ble_eq_true rfl) ?_
  refine r_iinc hG (hl0 := rfl) (hd := d_Trip_empty_25) (K := ?_)
  refine r_goto hG (hd := d_Trip_empty_28) (K := ?_)
  refine r_iload hG (hl0 := rfl) (hd := d_Trip_empty_5) (K := ?_)
  refine r_iconst hG (hd := d_Trip_empty_7) (K := ?_)
  refine r_icmp_ge hG (hd := d_Trip_empty_8) (kt := fun hh => absurd hh (by omega)) (kf := fun _ => ?_)
  refine r_aload_n hG (hl0 := rfl) (hd := d_Trip_empty_11) (K := ?_)
  refine r_aload_n hG (hl0 := rfl) (hd := d_Trip_empty_12) (K := ?_)
  refine r_aload_n hG (hl0 := rfl) (hd := d_Trip_empty_13) (K := ?_)
  refine g_Trip_61 hG (hi := by omega) (hd := d_Trip_empty_14) (K := ?_)
  refine r_iload hG (hl0 := rfl) (hd := d_Trip_empty_17) (K := ?_)
  refine a_21 hG (j := 1) (hd := d_Trip_empty_19) (hz := rfl) (hj := by omega) (hi := hi) (K := ?_)
  refine r_iload hG (hl0 := rfl) (hd := d_Trip_empty_20) (K := ?_)
  rw [f1, e1]
  refine cVv hG w_Trip_64 d_Trip_empty_22 (ct_load hc ht h1 (show 1 < 2 by decide) hT1 hC1) (by decide) (by show _ < 4; omega) rc_3 rfl rfl ⟨(Nat.le_of_ble_eq_true rfl), (Nat.le_of_ble_eq_true rfl)⟩ ⟨(Nat.le_of_ble_eq_true rfl), (Nat.le_of_ble_eq_true rfl)⟩ (Nat.le_of_ble_eq_true rfl) ?_
  show G (0, 0) 25 _ [] (load2 S c t i)
  refine r_iinc hG (hl0 := rfl) (hd := d_Trip_empty_25) (K := ?_)
  refine r_goto hG (hd := d_Trip_empty_28) (K := ?_)
  refine r_iload hG (hl0 := rfl) (hd := d_Trip_empty_5) (K := ?_)
  refine r_iconst hG (hd := d_Trip_empty_7) (K := ?_)
  refine r_icmp_ge hG (hd := d_Trip_empty_8) (kt := fun _ => ?_) (kf := fun hh => absurd hh (by omega))
  refine r_iconst hG (hd := d_Trip_empty_31) (K := ?_)
  refine r_istore hG (hd := d_Trip_empty_32) (K := ?_)
  refine r_iload hG (hl0 := rfl) (hd := d_Trip_empty_34) (K := ?_)
  refine r_iconst hG (hd := d_Trip_empty_36) (K := ?_)
  refine r_icmp_ge hG (hd := d_Trip_empty_37) (kt := fun hh => absurd hh (by omega)) (kf := fun _ => ?_)
  refine r_iload_n hG (hl0 := rfl) (hd := d_Trip_empty_40) (K := ?_)
  refine r_aload_n hG (hl0 := rfl) (hd := d_Trip_empty_41) (K := ?_)
  refine r_aload_n hG (hl0 := rfl) (hd := d_Trip_empty_42) (K := ?_)
  refine g_Trip_61 hG (hi := by omega) (hd := d_Trip_empty_43) (K := ?_)
  refine r_iload hG (hl0 := rfl) (hd := d_Trip_empty_46) (K := ?_)
  refine a_21 hG (j := 0) (hd := d_Trip_empty_48) (hz := rfl) (hj := by omega) (hi := hi) (K := ?_)
  rw [g0, e0]
  refine cVx hG w_Trip_68 d_Trip_empty_49 (ct_kilosIn ht h0) (by decide) (by show _ < 12; omega) rc_15 rfl rfl ⟨(Nat.le_of_ble_eq_true rfl), (Nat.le_of_ble_eq_true rfl)⟩ ⟨(Nat.le_of_ble_eq_true rfl), (Nat.le_of_ble_eq_true rfl)⟩ (Nat.le_of_ble_eq_true rfl) ?_
  first | refine r_iadd hG (hd := d_Trip_empty_52) (K := ?_) | refine r_iaddr hG (hd := d_Trip_empty_52) (K := ?_)
  refine r_istore_n hG (hd := d_Trip_empty_53) (K := ?_)
  refine r_iinc hG (hl0 := rfl) (hd := d_Trip_empty_54) (K := ?_)
  refine r_goto hG (hd := d_Trip_empty_57) (K := ?_)
  refine r_iload hG (hl0 := rfl) (hd := d_Trip_empty_34) (K := ?_)
  refine r_iconst hG (hd := d_Trip_empty_36) (K := ?_)
  refine r_icmp_ge hG (hd := d_Trip_empty_37) (kt := fun hh => absurd hh (by omega)) (kf := fun _ => ?_)
  refine r_iload_n hG (hl0 := rfl) (hd := d_Trip_empty_40) (K := ?_)
  refine r_aload_n hG (hl0 := rfl) (hd := d_Trip_empty_41) (K := ?_)
  refine r_aload_n hG (hl0 := rfl) (hd := d_Trip_empty_42) (K := ?_)
  refine g_Trip_61 hG (hi := by omega) (hd := d_Trip_empty_43) (K := ?_)
  refine r_iload hG (hl0 := rfl) (hd := d_Trip_empty_46) (K := ?_)
  refine a_21 hG (j := 1) (hd := d_Trip_empty_48) (hz := rfl) (hj := by omega) (hi := hi) (K := ?_)
  rw [g1, e1]
  refine cVx hG w_Trip_68 d_Trip_empty_49 (ct_kilosIn ht h1) (by decide) (by show _ < 12; omega) rc_15 rfl rfl ⟨(Nat.le_of_ble_eq_true rfl), (Nat.le_of_ble_eq_true rfl)⟩ ⟨(Nat.le_of_ble_eq_true rfl), (Nat.le_of_ble_eq_true rfl)⟩ (Nat.le_of_ble_eq_true rfl) ?_
  first | refine r_iadd hG (hd := d_Trip_empty_52) (K := ?_) | refine r_iaddr hG (hd := d_Trip_empty_52) (K := ?_)
  refine r_istore_n hG (hd := d_Trip_empty_53) (K := ?_)
  refine r_iinc hG (hl0 := rfl) (hd := d_Trip_empty_54) (K := ?_)
  refine r_goto hG (hd := d_Trip_empty_57) (K := ?_)
  refine r_iload hG (hl0 := rfl) (hd := d_Trip_empty_34) (K := ?_)
  refine r_iconst hG (hd := d_Trip_empty_36) (K := ?_)
  refine r_icmp_ge hG (hd := d_Trip_empty_37) (kt := fun _ => ?_) (kf := fun hh => absurd hh (by omega))
  refine r_aload_n hG (hl0 := rfl) (hd := d_Trip_empty_60) (K := ?_)
  refine r_dup hG (hd := d_Trip_empty_61) (K := ?_)
  refine g_Trip_52 hG (hi := by omega) (hd := d_Trip_empty_62) (K := ?_)
  refine r_iconst hG (hd := d_Trip_empty_65) (K := ?_)
  first | refine r_iadd hG (hd := d_Trip_empty_66) (K := ?_) | refine r_iaddr hG (hd := d_Trip_empty_66) (K := ?_)
  refine p_Trip_52 hG (hi := by omega) (hd := d_Trip_empty_67) (K := ?_)
  refine r_iload_n hG (hl0 := rfl) (hd := d_Trip_empty_70) (K := ?_)
  refine r_if_le hG (hd := d_Trip_empty_71) (kt := fun h => ?_) (kf := fun h => ?_)
  · refine r_vret hG d_Trip_empty_84 ⟨(Nat.le_of_ble_eq_true rfl), (Nat.le_of_ble_eq_true rfl)⟩ ?_
    refine ⟨rfl, (if_neg ?_).symm⟩
    unfold leftE
    rw [g0, g1]
    omega
  · refine r_aload_n hG (hl0 := rfl) (hd := d_Trip_empty_74) (K := ?_)
    refine r_dup hG (hd := d_Trip_empty_75) (K := ?_)
    refine g_Trip_55 hG (hi := by omega) (hd := d_Trip_empty_76) (K := ?_)
    refine r_iconst hG (hd := d_Trip_empty_79) (K := ?_)
    first | refine r_iadd hG (hd := d_Trip_empty_80) (K := ?_) | refine r_iaddr hG (hd := d_Trip_empty_80) (K := ?_)
    refine p_Trip_55 hG (hi := by omega) (hd := d_Trip_empty_81) (K := ?_)
    refine r_vret hG d_Trip_empty_84 ⟨(Nat.le_of_ble_eq_true rfl), (Nat.le_of_ble_eq_true rfl)⟩ ?_
    refine ⟨rfl, (if_pos ?_).symm⟩
    unfold leftE
    rw [g0, g1]
    omega
