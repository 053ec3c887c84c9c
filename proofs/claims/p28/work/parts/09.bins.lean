/-! BALES, BINS -/
def dirtyIn (S : St) : Nat → Int
  | 0 => 0
  | k + 1 => dirtyIn S k + S 56 k 0
theorem ct_dirtyIn {Γ : Gm} {S : St} {n : Nat} (hn : S 52 0 0 = (n : Int)) (hn20 : n ≤ 20) : CT Γ y_Baler_dirtyInBales b_Baler_dirtyInBales 3 ((some FieldType.int)) (rmx 1 0 0) [rf Γ 9 0] S (dX (some (nt (dirtyIn S n))) S) := by
  refine CT.of (by first | exact plainFor_of_name (by rfl) | decide +kernel) (Nat.le_of_ble_eq_true rfl) ?_
  intro G hG
  show G (0, 0) 0 [(0, rf Γ 9 0)] [] _
  refine r_iconst hG (hd := d_Baler_dirtyInBales_0) (K := ?_)
  refine r_istore_n hG (hd := d_Baler_dirtyInBales_1) (K := ?_)
  refine r_iconst hG (hd := d_Baler_dirtyInBales_2) (K := ?_)
  refine r_istore_n hG (hd := d_Baler_dirtyInBales_3) (K := ?_)
  have loop : ∀ m i : Nat, i + m = n → G (0, 0) 4 [(0, rf Γ 9 0), (1, nt (dirtyIn S i)), (2, nt i)] [] S := by
    intro m
    induction m with
    | zero =>
      intro i hi
      have hin : i = n := by omega
      subst hin
      refine r_iload_n hG (hl0 := rfl) (hd := d_Baler_dirtyInBales_4) (K := ?_)
      refine r_aload_n hG (hl0 := rfl) (hd := d_Baler_dirtyInBales_5) (K := ?_)
      refine g_Baler_25 hG (hd := d_Baler_dirtyInBales_6) (K := ?_)
      refine r_icmp_ge hG (hd := d_Baler_dirtyInBales_9) (kt := fun _ => ?_) (kf := fun hh => absurd hh (by omega))
      refine r_iload_n hG (hl0 := rfl) (hd := d_Baler_dirtyInBales_30) (K := ?_)
      refine r_iret hG d_Baler_dirtyInBales_31 ⟨(Nat.le_of_ble_eq_true rfl), (Nat.le_of_ble_eq_true rfl)⟩ ?_
      exact ⟨rfl, rfl⟩
    | succ m ih =>
      intro i hi
      refine r_iload_n hG (hl0 := rfl) (hd := d_Baler_dirtyInBales_4) (K := ?_)
      refine r_aload_n hG (hl0 := rfl) (hd := d_Baler_dirtyInBales_5) (K := ?_)
      refine g_Baler_25 hG (hd := d_Baler_dirtyInBales_6) (K := ?_)
      refine r_icmp_ge hG (hd := d_Baler_dirtyInBales_9) (kt := fun hh => absurd hh (by omega)) (kf := fun _ => ?_)
      refine r_iload_n hG (hl0 := rfl) (hd := d_Baler_dirtyInBales_12) (K := ?_)
      refine r_aload_n hG (hl0 := rfl) (hd := d_Baler_dirtyInBales_13) (K := ?_)
      refine g_Baler_11 hG (hd := d_Baler_dirtyInBales_14) (K := ?_)
      refine r_iload_n hG (hl0 := rfl) (hd := d_Baler_dirtyInBales_17) (K := ?_)
      first | refine a_1 hG (hd := d_Baler_dirtyInBales_18) (hz := rfl) (hj := by omega) (hi := by omega) (K := ?_) | refine a_2 hG (hd := d_Baler_dirtyInBales_18) (hz := rfl) (hj := by omega) (hi := by omega) (K := ?_) | refine a_10 hG (hd := d_Baler_dirtyInBales_18) (hz := rfl) (hj := by omega) (hi := by omega) (K := ?_) | refine r_aald22 hG (hd := d_Baler_dirtyInBales_18) (hz := rfl) (hj := by omega) (hi := by omega) (K := ?_)
      refine g_Baler_32 hG (hi := by omega) (hd := d_Baler_dirtyInBales_19) (K := ?_)
      first | refine r_iadd hG (hd := d_Baler_dirtyInBales_22) (K := ?_) | refine r_iaddr hG (hd := d_Baler_dirtyInBales_22) (K := ?_)
      refine r_istore_n hG (hd := d_Baler_dirtyInBales_23) (K := ?_)
      refine r_iinc hG (hl0 := rfl) (hd := d_Baler_dirtyInBales_24) (K := ?_)
      refine r_goto hG (hd := d_Baler_dirtyInBales_27) (K := ?_)
      exact r_sb hG (ih (i + 1) (by omega)) ⟨rfl, rfl, rfl, trivial⟩
  exact r_sb hG (loop n 0 (by omega)) ⟨rfl, rfl, rfl, trivial⟩
def cleanSold (S : St) : Nat → Int
  | 0 => 0
  | k + 1 => cleanSold S k + (if S 57 k 0 = 1 then S 55 k 0 else 0)
theorem ct_cleanSold {Γ : Gm} {S : St} {n : Nat} (hn : S 52 0 0 = (n : Int)) (hn20 : n ≤ 20) (hb : ∀ b, b < 20 → 0 ≤ S 57 b 0 ∧ S 57 b 0 ≤ 3) : CT Γ y_Baler_cleanSold b_Baler_cleanSold 3 ((some FieldType.int)) (rmx 1 0 0) [rf Γ 9 0] S (dX (some (nt (cleanSold S n))) S) := by
  refine CT.of (by first | exact plainFor_of_name (by rfl) | decide +kernel) (Nat.le_of_ble_eq_true rfl) ?_
  intro G hG
  show G (0, 0) 0 [(0, rf Γ 9 0)] [] _
  refine r_iconst hG (hd := d_Baler_cleanSold_0) (K := ?_)
  refine r_istore_n hG (hd := d_Baler_cleanSold_1) (K := ?_)
  refine r_iconst hG (hd := d_Baler_cleanSold_2) (K := ?_)
  refine r_istore_n hG (hd := d_Baler_cleanSold_3) (K := ?_)
  have loop : ∀ m i : Nat, i + m = n → G (0, 0) 4 [(0, rf Γ 9 0), (1, nt (cleanSold S i)), (2, nt i)] [] S := by
    intro m
    induction m with
    | zero =>
      intro i hi
      have hin : i = n := by omega
      subst hin
      refine r_iload_n hG (hl0 := rfl) (hd := d_Baler_cleanSold_4) (K := ?_)
      refine r_aload_n hG (hl0 := rfl) (hd := d_Baler_cleanSold_5) (K := ?_)
      refine g_Baler_25 hG (hd := d_Baler_cleanSold_6) (K := ?_)
      refine r_icmp_ge hG (hd := d_Baler_cleanSold_9) (kt := fun _ => ?_) (kf := fun hh => absurd hh (by omega))
      refine r_iload_n hG (hl0 := rfl) (hd := d_Baler_cleanSold_43) (K := ?_)
      refine r_iret hG d_Baler_cleanSold_44 ⟨(Nat.le_of_ble_eq_true rfl), (Nat.le_of_ble_eq_true rfl)⟩ ?_
      exact ⟨rfl, rfl⟩
    | succ m ih =>
      intro i hi
      have h57 := hb i (by omega)
      refine r_iload_n hG (hl0 := rfl) (hd := d_Baler_cleanSold_4) (K := ?_)
      refine r_aload_n hG (hl0 := rfl) (hd := d_Baler_cleanSold_5) (K := ?_)
      refine g_Baler_25 hG (hd := d_Baler_cleanSold_6) (K := ?_)
      refine r_icmp_ge hG (hd := d_Baler_cleanSold_9) (kt := fun hh => absurd hh (by omega)) (kf := fun _ => ?_)
      refine r_aload_n hG (hl0 := rfl) (hd := d_Baler_cleanSold_12) (K := ?_)
      refine g_Baler_11 hG (hd := d_Baler_cleanSold_13) (K := ?_)
      refine r_iload_n hG (hl0 := rfl) (hd := d_Baler_cleanSold_16) (K := ?_)
      first | refine a_1 hG (hd := d_Baler_cleanSold_17) (hz := rfl) (hj := by omega) (hi := by omega) (K := ?_) | refine a_2 hG (hd := d_Baler_cleanSold_17) (hz := rfl) (hj := by omega) (hi := by omega) (K := ?_) | refine a_10 hG (hd := d_Baler_cleanSold_17) (hz := rfl) (hj := by omega) (hi := by omega) (K := ?_) | refine r_aald22 hG (hd := d_Baler_cleanSold_17) (hz := rfl) (hj := by omega) (hi := by omega) (K := ?_)
      refine g_Baler_37 hG (hi := by omega) (hd := d_Baler_cleanSold_18) (K := ?_)
      refine r_iconst hG (hd := d_Baler_cleanSold_21) (K := ?_)
      refine r_icmp_ne hG (hd := d_Baler_cleanSold_22) (kt := fun h => ?_) (kf := fun h => ?_)
      · have e : cleanSold S (i + 1) = cleanSold S i := by simp [cleanSold, h]
        refine r_iinc hG (hl0 := rfl) (hd := d_Baler_cleanSold_37) (K := ?_)
        refine r_goto hG (hd := d_Baler_cleanSold_40) (K := ?_)
        have q := ih (i + 1) (by omega)
        rw [e] at q
        exact r_sb hG (q) ⟨rfl, rfl, rfl, trivial⟩
      · have e : cleanSold S (i + 1) = cleanSold S i + S 55 i 0 := by simp [cleanSold, h]
        refine r_iload_n hG (hl0 := rfl) (hd := d_Baler_cleanSold_25) (K := ?_)
        refine r_aload_n hG (hl0 := rfl) (hd := d_Baler_cleanSold_26) (K := ?_)
        refine g_Baler_11 hG (hd := d_Baler_cleanSold_27) (K := ?_)
        refine r_iload_n hG (hl0 := rfl) (hd := d_Baler_cleanSold_30) (K := ?_)
        first | refine a_1 hG (hd := d_Baler_cleanSold_31) (hz := rfl) (hj := by omega) (hi := by omega) (K := ?_) | refine a_2 hG (hd := d_Baler_cleanSold_31) (hz := rfl) (hj := by omega) (hi := by omega) (K := ?_) | refine a_10 hG (hd := d_Baler_cleanSold_31) (hz := rfl) (hj := by omega) (hi := by omega) (K := ?_) | refine r_aald22 hG (hd := d_Baler_cleanSold_31) (hz := rfl) (hj := by omega) (hi := by omega) (K := ?_)
        refine g_Baler_33 hG (hi := by omega) (hd := d_Baler_cleanSold_32) (K := ?_)
        first | refine r_iadd hG (hd := d_Baler_cleanSold_35) (K := ?_) | refine r_iaddr hG (hd := d_Baler_cleanSold_35) (K := ?_)
        refine r_istore_n hG (hd := d_Baler_cleanSold_36) (K := ?_)
        refine r_iinc hG (hl0 := rfl) (hd := d_Baler_cleanSold_37) (K := ?_)
        refine r_goto hG (hd := d_Baler_cleanSold_40) (K := ?_)
        have q := ih (i + 1) (by omega)
        rw [e] at q
        exact r_sb hG (q) ⟨rfl, rfl, rfl, trivial⟩
  exact r_sb hG (loop n 0 (by omega)) ⟨rfl, rfl, rfl, trivial⟩
theorem bale_in {c d : Int} (hc : 0 ≤ c) (hd : 0 ≤ d) (hk : 40 ≤ c + d) : 0 ≤ d * 40 / (c + d) ∧ d * 40 / (c + d) ≤ 40 ∧ d * 40 / (c + d) ≤ d ∧ 40 - d * 40 / (c + d) ≤ c := by
  have kpos : 0 < c + d := by omega
  have q0 : 0 ≤ d * 40 / (c + d) := Int.ediv_nonneg (by omega) (by omega)
  have e1 : d * 40 / (c + d) * (c + d) ≤ d * 40 := Int.ediv_mul_le _ (by omega)
  have e2 : d * 40 < (d * 40 / (c + d) + 1) * (c + d) := Int.lt_ediv_add_one_mul_self _ kpos
  generalize d * 40 / (c + d) = q at q0 e1 e2 ⊢
  refine ⟨q0, ?_, ?_, ?_⟩
  · rcases Int.lt_or_le 40 q with h | h
    · have := Int.mul_le_mul_of_nonneg_right (show (41 : Int) ≤ q by omega) (show 0 ≤ c + d by omega)
      omega
    · exact h
  · rcases Int.lt_or_le d q with h | h
    · have h1 := Int.mul_le_mul_of_nonneg_right (show d + 1 ≤ q by omega) (show 0 ≤ c + d by omega)
      have h2 := Int.mul_le_mul_of_nonneg_left hk (show 0 ≤ d + 1 by omega)
      omega
    · exact h
  · rcases Int.lt_or_le c (40 - q) with h | h
    · have h1 := Int.mul_le_mul_of_nonneg_right (show q + 1 ≤ 40 - c by omega) (show 0 ≤ c + d by omega)
      have h2 := Int.mul_le_mul_of_nonneg_left hk hc
      rw [Int.sub_mul] at h1
      omega
    · exact h
/-- one bale is made -/
def prs (S : St) (b : Nat) (day : Int) : St :=
  let S1 := sU S 56 b 0 (S 51 0 0 * 40 / (S 50 0 0 + S 51 0 0))
  let S2 := sU S1 55 b 0 (40 - S1 56 b 0)
  let S3 := sU S2 58 b 0 day
  let S4 := sU S3 51 0 0 (S3 51 0 0 - S3 56 b 0)
  let S5 := sU S4 50 0 0 (S4 50 0 0 - S4 55 b 0)
  sU S5 52 0 0 (S5 52 0 0 + 1)
def prsN (day : Int) : Nat → Nat → St → St
  | 0, _, S => S
  | m + 1, b, S => if 40 ≤ S 50 0 0 + S 51 0 0 then prsN day m (b + 1) (prs S b day) else S
theorem prs_50 (S : St) (b : Nat) (day : Int) : prs S b day 50 0 0 = S 50 0 0 - (40 - S 51 0 0 * 40 / (S 50 0 0 + S 51 0 0)) := by simp [prs, sU]
theorem prs_51 (S : St) (b : Nat) (day : Int) : prs S b day 51 0 0 = S 51 0 0 - S 51 0 0 * 40 / (S 50 0 0 + S 51 0 0) := by simp [prs, sU]
theorem prs_52 (S : St) (b : Nat) (day : Int) : prs S b day 52 0 0 = S 52 0 0 + 1 := by simp [prs, sU]
theorem ct_press {Γ : Gm} {S : St} {n : Nat} {day : Int} (hn : S 52 0 0 = (n : Int)) (hn20 : n ≤ 20) (hc : 0 ≤ S 50 0 0 ∧ S 50 0 0 < 1000000) (hd : 0 ≤ S 51 0 0 ∧ S 51 0 0 < 1000000) : CT Γ y_Baler_press b_Baler_press 4 ((none : Option FieldType)) (rmx 2 0 0) [rf Γ 9 0, nt day] S (dX none (prsN day (20 - n) n S)) := by
  refine CT.of (by first | exact plainFor_of_name (by rfl) | decide +kernel) (Nat.le_of_ble_eq_true rfl) ?_
  intro G hG
  show G (0, 0) 0 [(0, rf Γ 9 0), (1, nt day)] [] _
  refine r_aload_n hG (hl0 := rfl) (hd := d_Baler_press_0) (K := ?_)
  refine g_Baler_25 hG (hd := d_Baler_press_1) (K := ?_)
  refine r_istore_n hG (hd := d_Baler_press_4) (K := ?_)
  rw [hn]
  have loop : ∀ m i : Nat, i + m = 20 → ∀ (S : St), S 52 0 0 = (i : Int) → (0 ≤ S 50 0 0 ∧ S 50 0 0 < 1000000) → (0 ≤ S 51 0 0 ∧ S 51 0 0 < 1000000) → G (0, 0) 101 [] [] (prsN day m i S) → G (0, 0) 5 [(0, rf Γ 9 0), (1, nt day), (2, nt i)] [] S := by
    intro m
    induction m with
    | zero =>
      intro i hi S _ _ _ K
      refine r_iload_n hG (hl0 := rfl) (hd := d_Baler_press_5) (K := ?_)
      refine r_bipush hG (hd := d_Baler_press_6) (K := ?_)
      refine r_icmp_ge hG (hd := d_Baler_press_8) (kt := fun _ => ?_) (kf := fun hh => absurd hh (by omega))
      exact r_sb hG (K) trivial
    | succ m ih =>
      intro i hi S h52 h50 h51 K
      refine r_iload_n hG (hl0 := rfl) (hd := d_Baler_press_5) (K := ?_)
      refine r_bipush hG (hd := d_Baler_press_6) (K := ?_)
      refine r_icmp_ge hG (hd := d_Baler_press_8) (kt := fun hh => absurd hh (by omega)) (kf := fun _ => ?_)
      refine r_aload_n hG (hl0 := rfl) (hd := d_Baler_press_11) (K := ?_)
      refine cVx hG w_Baler_28 d_Baler_press_12 (ct_bkilos) (by decide) (by decide) rc_9 rfl rfl ⟨(Nat.le_of_ble_eq_true rfl), (Nat.le_of_ble_eq_true rfl)⟩ ⟨(Nat.le_of_ble_eq_true rfl), (Nat.le_of_ble_eq_true rfl)⟩ (Nat.le_of_ble_eq_true rfl) ?_
      refine r_bipush hG (hd := d_Baler_press_15) (K := ?_)
      refine r_icmp_lt hG (hd := d_Baler_press_17) (kt := fun h => ?_) (kf := fun h => ?_)
      · rw [show prsN day (m + 1) i S = S from if_neg (by omega)] at K
        exact r_sb hG (K) trivial
      · rw [show prsN day (m + 1) i S = prsN day m (i + 1) (prs S i day) from if_pos (by omega)] at K
        have hb := bale_in h50.1 h51.1 h
        refine r_aload_n hG (hl0 := rfl) (hd := d_Baler_press_20) (K := ?_)
        refine g_Baler_11 hG (hd := d_Baler_press_21) (K := ?_)
        refine r_iload_n hG (hl0 := rfl) (hd := d_Baler_press_24) (K := ?_)
        first | refine a_1 hG (hd := d_Baler_press_25) (hz := rfl) (hj := by omega) (hi := by omega) (K := ?_) | refine a_2 hG (hd := d_Baler_press_25) (hz := rfl) (hj := by omega) (hi := by omega) (K := ?_) | refine a_10 hG (hd := d_Baler_press_25) (hz := rfl) (hj := by omega) (hi := by omega) (K := ?_) | refine r_aald22 hG (hd := d_Baler_press_25) (hz := rfl) (hj := by omega) (hi := by omega) (K := ?_)
        refine r_astore_n hG (hd := d_Baler_press_26) (K := ?_)
        refine r_aload_n hG (hl0 := rfl) (hd := d_Baler_press_27) (K := ?_)
        refine r_aload_n hG (hl0 := rfl) (hd := d_Baler_press_28) (K := ?_)
        refine g_Baler_22 hG (hd := d_Baler_press_29) (K := ?_)
        refine r_bipush hG (hd := d_Baler_press_32) (K := ?_)
        refine r_imul hG (hd := d_Baler_press_34) (K := ?_)
        refine r_aload_n hG (hl0 := rfl) (hd := d_Baler_press_35) (K := ?_)
        refine cVx hG w_Baler_28 d_Baler_press_36 (ct_bkilos) (by decide) (by decide) rc_9 rfl rfl ⟨(Nat.le_of_ble_eq_true rfl), (Nat.le_of_ble_eq_true rfl)⟩ ⟨(Nat.le_of_ble_eq_true rfl), (Nat.le_of_ble_eq_true rfl)⟩ (Nat.le_of_ble_eq_true rfl) ?_
        refine r_idiv hG (hr0 := by first | omega | (simp [sU]; omega)) (hd := d_Baler_press_39) (K := ?_)
        refine p_Baler_32 hG (hi := by omega) (hd := d_Baler_press_40) (K := ?_)
        refine r_aload_n hG (hl0 := rfl) (hd := d_Baler_press_43) (K := ?_)
        refine r_bipush hG (hd := d_Baler_press_44) (K := ?_)
        refine r_aload_n hG (hl0 := rfl) (hd := d_Baler_press_46) (K := ?_)
        refine g_Baler_32 hG (hi := by omega) (hd := d_Baler_press_47) (K := ?_)
        first | refine r_isub hG (hd := d_Baler_press_50) (K := ?_) | refine r_isubr hG (hd := d_Baler_press_50) (K := ?_)
        refine p_Baler_33 hG (hi := by omega) (hd := d_Baler_press_51) (K := ?_)
        refine r_aload_n hG (hl0 := rfl) (hd := d_Baler_press_54) (K := ?_)
        refine r_iload_n hG (hl0 := rfl) (hd := d_Baler_press_55) (K := ?_)
        refine p_Baler_34 hG (hi := by omega) (hd := d_Baler_press_56) (K := ?_)
        refine r_aload_n hG (hl0 := rfl) (hd := d_Baler_press_59) (K := ?_)
        refine r_dup hG (hd := d_Baler_press_60) (K := ?_)
        refine g_Baler_22 hG (hd := d_Baler_press_61) (K := ?_)
        refine r_aload_n hG (hl0 := rfl) (hd := d_Baler_press_64) (K := ?_)
        refine g_Baler_32 hG (hi := by omega) (hd := d_Baler_press_65) (K := ?_)
        first | refine r_isub hG (hd := d_Baler_press_68) (K := ?_) | refine r_isubr hG (hd := d_Baler_press_68) (K := ?_)
        refine p_Baler_22 hG (hd := d_Baler_press_69) (K := ?_)
        refine r_aload_n hG (hl0 := rfl) (hd := d_Baler_press_72) (K := ?_)
        refine r_dup hG (hd := d_Baler_press_73) (K := ?_)
        refine g_Baler_18 hG (hd := d_Baler_press_74) (K := ?_)
        refine r_aload_n hG (hl0 := rfl) (hd := d_Baler_press_77) (K := ?_)
        refine g_Baler_33 hG (hi := by omega) (hd := d_Baler_press_78) (K := ?_)
        first | refine r_isub hG (hd := d_Baler_press_81) (K := ?_) | refine r_isubr hG (hd := d_Baler_press_81) (K := ?_)
        refine p_Baler_18 hG (hd := d_Baler_press_82) (K := ?_)
        refine r_aload_n hG (hl0 := rfl) (hd := d_Baler_press_85) (K := ?_)
        refine r_dup hG (hd := d_Baler_press_86) (K := ?_)
        refine g_Baler_25 hG (hd := d_Baler_press_87) (K := ?_)
        refine r_iconst hG (hd := d_Baler_press_90) (K := ?_)
        first | refine r_iadd hG (hd := d_Baler_press_91) (K := ?_) | refine r_iaddr hG (hd := d_Baler_press_91) (K := ?_)
        refine p_Baler_25 hG (hd := d_Baler_press_92) (K := ?_)
        refine r_iinc hG (hl0 := rfl) (hd := d_Baler_press_95) (K := ?_)
        refine r_goto hG (hd := d_Baler_press_98) (K := ?_)
        have q := ih (i + 1) (by omega) (prs S i day) (by rw [prs_52, h52]; rfl) (by rw [prs_50]; omega) (by rw [prs_51]; omega) K
        exact r_sb hG (q) ⟨rfl, rfl, rfl, trivial⟩
  exact r_sb hG (loop (20 - n) n (by omega) S hn hc hd (by first | exact r_vret hG d_Baler_press_101 ⟨Nat.le_of_ble_eq_true rfl, Nat.le_of_ble_eq_true rfl⟩ ⟨rfl, rfl⟩)) ⟨rfl, rfl, rfl, trivial⟩
/-- a bin in order -/
def okT (S : St) (t : Nat) : Prop := (0 ≤ S 10 t 0 ∧ S 10 t 0 ≤ 30) ∧ (0 ≤ S 11 t 0 ∧ S 11 t 0 ≤ 4) ∧ ∀ j, j < 3 → (0 ≤ S 15 t j ∧ S 15 t j ≤ 9) ∧ 0 ≤ S 16 t j ∧ 0 ≤ S 17 t j ∧ S 16 t j + S 17 t j ≤ 60
def foulOf (S : St) (t j : Nat) : Int := if j = 0 then 0 else S 15 t j * S 11 t 0 / 10
theorem foul_in {S : St} {t j : Nat} (hj : j < 3) (h : okT S t) : 0 ≤ foulOf S t j ∧ foulOf S t j ≤ S 15 t j ∧ S 15 t j ≤ 9 := by
  obtain ⟨-, h1, h2⟩ := h
  have h3 := (h2 j hj).1
  have h4 := mul_bound h3 h1
  have h5 : S 15 t j * S 11 t 0 ≤ S 15 t j * 4 := Int.mul_le_mul_of_nonneg_left h1.2 h3.1
  unfold foulOf
  split <;> omega
/-- what comes of one stream in a day -/
def thrK (S : St) (t j : Nat) : St :=
  let S1 := sU S 16 t j (S 16 t j + min (S 15 t j - foulOf S t j) (60 - (S 16 t j + S 17 t j)))
  let S2 := sU S1 17 t j (S1 17 t j + min (foulOf S t j) (60 - (S1 16 t j + S1 17 t j)))
  sU S2 12 t 0 (S2 12 t 0 + (S 15 t j - foulOf S t j - min (S 15 t j - foulOf S t j) (60 - (S 16 t j + S 17 t j)) + foulOf S t j - min (foulOf S t j) (60 - (S1 16 t j + S1 17 t j))))
def thr (S : St) (t : Nat) : St := thrK (thrK (thrK S t 0) t 1) t 2
theorem thrK_16 (S : St) (t j t' j' : Nat) : thrK S t j 16 t' j' = if t' = t ∧ j' = j then S 16 t j + min (S 15 t j - foulOf S t j) (60 - (S 16 t j + S 17 t j)) else S 16 t' j' := by
  simp only [thrK]; simp [sU]
theorem thrK_17 (S : St) (t j t' j' : Nat) : thrK S t j 17 t' j' = if t' = t ∧ j' = j then S 17 t j + min (foulOf S t j) (60 - (S 16 t j + min (S 15 t j - foulOf S t j) (60 - (S 16 t j + S 17 t j)) + S 17 t j)) else S 17 t' j' := by
  simp only [thrK]; simp [sU]
theorem thrK_12 (S : St) (t j t' : Nat) : thrK S t j 12 t' 0 = if t' = t then S 12 t 0 + (S 15 t j - foulOf S t j - min (S 15 t j - foulOf S t j) (60 - (S 16 t j + S 17 t j)) + foulOf S t j - min (foulOf S t j) (60 - (S 16 t j + min (S 15 t j - foulOf S t j) (60 - (S 16 t j + S 17 t j)) + S 17 t j))) else S 12 t' 0 := by
  simp only [thrK]; simp [sU]
theorem thrK_of (S : St) (t j : Nat) {f : Nat} (h : f ≠ 16 ∧ f ≠ 17 ∧ f ≠ 12) : thrK S t j f = S f := by
  funext i q
  simp only [thrK]
  rw [sU_nf h.2.2, sU_nf h.2.1, sU_nf h.1]
theorem thrK_ok {S : St} {t j t' : Nat} (hj : j < 3) (h : okT S t) (h' : okT S t') : okT (thrK S t j) t' := by
  have hf := foul_in hj h
  have hb := h.2.2 j hj
  refine ⟨?_, ?_, fun j' hj' => ?_⟩
  · rw [thrK_of S t j (by decide)]; exact h'.1
  · rw [thrK_of S t j (by decide)]; exact h'.2.1
  · have hb' := h'.2.2 j' hj'
    rw [thrK_16, thrK_17, thrK_of S t j (by decide)]
    split
    · next e => obtain ⟨rfl, rfl⟩ := e; omega
    · exact hb'
theorem ct_throwAway {Γ : Gm} {S : St} {t : Nat} (ht : t < 12) (h : okT S t) : CT Γ y_Street_throwAway b_Street_throwAway 6 ((none : Option FieldType)) (rmx 3 0 0) [rf Γ 15 t] S (dX none (thr S t)) := by
  refine CT.of (by first | exact plainFor_of_name (by rfl) | decide +kernel) (Nat.le_of_ble_eq_true rfl) ?_
  intro G hG
  show G (0, 0) 0 [(0, rf Γ 15 t)] [] _
  refine r_iconst hG (hd := d_Street_throwAway_0) (K := ?_)
  refine r_istore_n hG (hd := d_Street_throwAway_1) (K := ?_)
  have step : ∀ (j : Nat) (S : St), j < 3 → okT S t → G (0, 0) 2 [(0, rf Γ 15 t), (1, nt ((j + 1 : Nat) : Int))] [] (thrK S t j) → G (0, 0) 2 [(0, rf Γ 15 t), (1, nt j)] [] S := by
    intro j S hj h K
    have hf := foul_in hj h
    have hb := h.2.2 j hj
    have tail : G (0, 0) 29 [(1, nt j), (0, rf Γ 15 t)] [nt (foulOf S t j)] S := by
      refine r_istore_n hG (hd := d_Street_throwAway_29) (K := ?_)
      refine r_aload_n hG (hl0 := rfl) (hd := d_Street_throwAway_30) (K := ?_)
      refine g_Street_9 hG (hi := by omega) (hd := d_Street_throwAway_31) (K := ?_)
      refine r_iload_n hG (hl0 := rfl) (hd := d_Street_throwAway_34) (K := ?_)
      first | refine a_16 hG (hd := d_Street_throwAway_35) (hz := rfl) (hj := by omega) (hi := by omega) (K := ?_) | refine a_17 hG (hd := d_Street_throwAway_35) (hz := rfl) (hj := by omega) (hi := by omega) (K := ?_) | refine a_18 hG (hd := d_Street_throwAway_35) (hz := rfl) (hj := by omega) (hi := by omega) (K := ?_) | refine a_19 hG (hd := d_Street_throwAway_35) (hz := rfl) (hj := by omega) (hi := by omega) (K := ?_) | refine a_4 hG (hd := d_Street_throwAway_35) (hz := rfl) (hj := by omega) (hi := by omega) (K := ?_) | refine a_5 hG (hd := d_Street_throwAway_35) (hz := rfl) (hj := by omega) (hi := by omega) (K := ?_) | refine a_21 hG (hd := d_Street_throwAway_35) (hz := rfl) (hj := by omega) (hi := by omega) (K := ?_) | refine a_23 hG (hd := d_Street_throwAway_35) (hz := rfl) (hj := by omega) (hi := by omega) (K := ?_) | refine a_24 hG (hd := d_Street_throwAway_35) (hz := rfl) (hj := by omega) (hi := by omega) (K := ?_)
      refine r_iload_n hG (hl0 := rfl) (hd := d_Street_throwAway_36) (K := ?_)
      first | refine r_isub hG (hd := d_Street_throwAway_37) (K := ?_) | refine r_isubr hG (hd := d_Street_throwAway_37) (K := ?_)
      refine r_istore_n hG (hd := d_Street_throwAway_38) (K := ?_)
      refine r_iload_n hG (hl0 := rfl) (hd := d_Street_throwAway_39) (K := ?_)
      refine r_aload_n hG (hl0 := rfl) (hd := d_Street_throwAway_40) (K := ?_)
      refine r_iload_n hG (hl0 := rfl) (hd := d_Street_throwAway_41) (K := ?_)
      refine cVx hG w_Street_32 d_Street_throwAway_42 (ct_roomIn ht hj) (by decide) (by show _ < 12; omega) rc_15 rfl rfl ⟨(Nat.le_of_ble_eq_true rfl), (Nat.le_of_ble_eq_true rfl)⟩ ⟨(Nat.le_of_ble_eq_true rfl), (Nat.le_of_ble_eq_true rfl)⟩ (Nat.le_of_ble_eq_true rfl) ?_
      refine r_mmin hG w_Street_35 d_Street_throwAway_45 ⟨(Nat.le_of_ble_eq_true rfl), (Nat.le_of_ble_eq_true rfl)⟩ ⟨(Nat.le_of_ble_eq_true rfl), (Nat.le_of_ble_eq_true rfl)⟩ (by first | omega | (simp [sU]; omega)) ?_
      refine r_istore hG (hd := d_Street_throwAway_48) (K := ?_)
      refine r_aload_n hG (hl0 := rfl) (hd := d_Street_throwAway_50) (K := ?_)
      refine g_Street_15 hG (hi := by omega) (hd := d_Street_throwAway_51) (K := ?_)
      refine r_iload_n hG (hl0 := rfl) (hd := d_Street_throwAway_54) (K := ?_)
      refine r_dup2 hG (hd := d_Street_throwAway_55) (K := ?_)
      first | refine a_16 hG (hd := d_Street_throwAway_56) (hz := rfl) (hj := by omega) (hi := by omega) (K := ?_) | refine a_17 hG (hd := d_Street_throwAway_56) (hz := rfl) (hj := by omega) (hi := by omega) (K := ?_) | refine a_18 hG (hd := d_Street_throwAway_56) (hz := rfl) (hj := by omega) (hi := by omega) (K := ?_) | refine a_19 hG (hd := d_Street_throwAway_56) (hz := rfl) (hj := by omega) (hi := by omega) (K := ?_) | refine a_4 hG (hd := d_Street_throwAway_56) (hz := rfl) (hj := by omega) (hi := by omega) (K := ?_) | refine a_5 hG (hd := d_Street_throwAway_56) (hz := rfl) (hj := by omega) (hi := by omega) (K := ?_) | refine a_21 hG (hd := d_Street_throwAway_56) (hz := rfl) (hj := by omega) (hi := by omega) (K := ?_) | refine a_23 hG (hd := d_Street_throwAway_56) (hz := rfl) (hj := by omega) (hi := by omega) (K := ?_) | refine a_24 hG (hd := d_Street_throwAway_56) (hz := rfl) (hj := by omega) (hi := by omega) (K := ?_)
      refine r_iload hG (hl0 := rfl) (hd := d_Street_throwAway_57) (K := ?_)
      first | refine r_iadd hG (hd := d_Street_throwAway_59) (K := ?_) | refine r_iaddr hG (hd := d_Street_throwAway_59) (K := ?_)
      first | refine s_16 hG (hd := d_Street_throwAway_60) (hz := rfl) (hj := by omega) (hi := by omega) (K := ?_) | refine s_17 hG (hd := d_Street_throwAway_60) (hz := rfl) (hj := by omega) (hi := by omega) (K := ?_) | refine s_18 hG (hd := d_Street_throwAway_60) (hz := rfl) (hj := by omega) (hi := by omega) (K := ?_) | refine s_19 hG (hd := d_Street_throwAway_60) (hz := rfl) (hj := by omega) (hi := by omega) (K := ?_) | refine s_4 hG (hd := d_Street_throwAway_60) (hz := rfl) (hj := by omega) (hi := by omega) (K := ?_) | refine s_5 hG (hd := d_Street_throwAway_60) (hz := rfl) (hj := by omega) (hi := by omega) (K := ?_) | refine s_21 hG (hd := d_Street_throwAway_60) (hz := rfl) (hj := by omega) (hi := by omega) (K := ?_) | refine s_23 hG (hd := d_Street_throwAway_60) (hz := rfl) (hj := by omega) (hi := by omega) (K := ?_) | refine s_24 hG (hd := d_Street_throwAway_60) (hz := rfl) (hj := by omega) (hi := by omega) (K := ?_)
      refine r_iload_n hG (hl0 := rfl) (hd := d_Street_throwAway_61) (K := ?_)
      refine r_aload_n hG (hl0 := rfl) (hd := d_Street_throwAway_62) (K := ?_)
      refine r_iload_n hG (hl0 := rfl) (hd := d_Street_throwAway_63) (K := ?_)
      refine cVx hG w_Street_32 d_Street_throwAway_64 (ct_roomIn ht hj) (by decide) (by show _ < 12; omega) rc_15 rfl rfl ⟨(Nat.le_of_ble_eq_true rfl), (Nat.le_of_ble_eq_true rfl)⟩ ⟨(Nat.le_of_ble_eq_true rfl), (Nat.le_of_ble_eq_true rfl)⟩ (Nat.le_of_ble_eq_true rfl) ?_
      refine r_mmin hG w_Street_35 d_Street_throwAway_67 ⟨(Nat.le_of_ble_eq_true rfl), (Nat.le_of_ble_eq_true rfl)⟩ ⟨(Nat.le_of_ble_eq_true rfl), (Nat.le_of_ble_eq_true rfl)⟩ (by first | omega | (simp [sU]; omega)) ?_
      refine r_istore hG (hd := d_Street_throwAway_70) (K := ?_)
      refine r_aload_n hG (hl0 := rfl) (hd := d_Street_throwAway_72) (K := ?_)
      refine g_Street_18 hG (hi := by omega) (hd := d_Street_throwAway_73) (K := ?_)
      refine r_iload_n hG (hl0 := rfl) (hd := d_Street_throwAway_76) (K := ?_)
      refine r_dup2 hG (hd := d_Street_throwAway_77) (K := ?_)
      first | refine a_16 hG (hd := d_Street_throwAway_78) (hz := rfl) (hj := by omega) (hi := by omega) (K := ?_) | refine a_17 hG (hd := d_Street_throwAway_78) (hz := rfl) (hj := by omega) (hi := by omega) (K := ?_) | refine a_18 hG (hd := d_Street_throwAway_78) (hz := rfl) (hj := by omega) (hi := by omega) (K := ?_) | refine a_19 hG (hd := d_Street_throwAway_78) (hz := rfl) (hj := by omega) (hi := by omega) (K := ?_) | refine a_4 hG (hd := d_Street_throwAway_78) (hz := rfl) (hj := by omega) (hi := by omega) (K := ?_) | refine a_5 hG (hd := d_Street_throwAway_78) (hz := rfl) (hj := by omega) (hi := by omega) (K := ?_) | refine a_21 hG (hd := d_Street_throwAway_78) (hz := rfl) (hj := by omega) (hi := by omega) (K := ?_) | refine a_23 hG (hd := d_Street_throwAway_78) (hz := rfl) (hj := by omega) (hi := by omega) (K := ?_) | refine a_24 hG (hd := d_Street_throwAway_78) (hz := rfl) (hj := by omega) (hi := by omega) (K := ?_)
      refine r_iload hG (hl0 := rfl) (hd := d_Street_throwAway_79) (K := ?_)
      first | refine r_iadd hG (hd := d_Street_throwAway_81) (K := ?_) | refine r_iaddr hG (hd := d_Street_throwAway_81) (K := ?_)
      first | refine s_16 hG (hd := d_Street_throwAway_82) (hz := rfl) (hj := by omega) (hi := by omega) (K := ?_) | refine s_17 hG (hd := d_Street_throwAway_82) (hz := rfl) (hj := by omega) (hi := by omega) (K := ?_) | refine s_18 hG (hd := d_Street_throwAway_82) (hz := rfl) (hj := by omega) (hi := by omega) (K := ?_) | refine s_19 hG (hd := d_Street_throwAway_82) (hz := rfl) (hj := by omega) (hi := by omega) (K := ?_) | refine s_4 hG (hd := d_Street_throwAway_82) (hz := rfl) (hj := by omega) (hi := by omega) (K := ?_) | refine s_5 hG (hd := d_Street_throwAway_82) (hz := rfl) (hj := by omega) (hi := by omega) (K := ?_) | refine s_21 hG (hd := d_Street_throwAway_82) (hz := rfl) (hj := by omega) (hi := by omega) (K := ?_) | refine s_23 hG (hd := d_Street_throwAway_82) (hz := rfl) (hj := by omega) (hi := by omega) (K := ?_) | refine s_24 hG (hd := d_Street_throwAway_82) (hz := rfl) (hj := by omega) (hi := by omega) (K := ?_)
      refine r_aload_n hG (hl0 := rfl) (hd := d_Street_throwAway_83) (K := ?_)
      refine r_dup hG (hd := d_Street_throwAway_84) (K := ?_)
      refine g_Street_41 hG (hi := by omega) (hd := d_Street_throwAway_85) (K := ?_)
      refine r_iload_n hG (hl0 := rfl) (hd := d_Street_throwAway_88) (K := ?_)
      refine r_iload hG (hl0 := rfl) (hd := d_Street_throwAway_89) (K := ?_)
      first | refine r_isub hG (hd := d_Street_throwAway_91) (K := ?_) | refine r_isubr hG (hd := d_Street_throwAway_91) (K := ?_)
      refine r_iload_n hG (hl0 := rfl) (hd := d_Street_throwAway_92) (K := ?_)
      first | refine r_iadd hG (hd := d_Street_throwAway_93) (K := ?_) | refine r_iaddr hG (hd := d_Street_throwAway_93) (K := ?_)
      refine r_iload hG (hl0 := rfl) (hd := d_Street_throwAway_94) (K := ?_)
      first | refine r_isub hG (hd := d_Street_throwAway_96) (K := ?_) | refine r_isubr hG (hd := d_Street_throwAway_96) (K := ?_)
      first | refine r_iadd hG (hd := d_Street_throwAway_97) (K := ?_) | refine r_iaddr hG (hd := d_Street_throwAway_97) (K := ?_)
      refine p_Street_41 hG (hi := by omega) (hd := d_Street_throwAway_98) (K := ?_)
      refine r_iinc hG (hl0 := rfl) (hd := d_Street_throwAway_101) (K := ?_)
      refine r_goto hG (hd := d_Street_throwAway_104) (K := ?_)
      exact r_sb hG (K) ⟨rfl, rfl, trivial⟩
    refine r_iload_n hG (hl0 := rfl) (hd := d_Street_throwAway_2) (K := ?_)
    refine r_iconst hG (hd := d_Street_throwAway_3) (K := ?_)
    refine r_icmp_ge hG (hd := d_Street_throwAway_4) (kt := fun hh => absurd hh (by omega)) (kf := fun _ => ?_)
    refine r_iload_n hG (hl0 := rfl) (hd := d_Street_throwAway_7) (K := ?_)
    refine r_if_ne hG (hd := d_Street_throwAway_8) (kt := fun h0 => ?_) (kf := fun h0 => ?_)
    · have e : foulOf S t j = S 15 t j * S 11 t 0 / 10 := if_neg (by omega)
      have h4 := mul_bound hb.1 h.2.1
      rw [e] at tail
      refine r_aload_n hG (hl0 := rfl) (hd := d_Street_throwAway_15) (K := ?_)
      refine g_Street_9 hG (hi := by omega) (hd := d_Street_throwAway_16) (K := ?_)
      refine r_iload_n hG (hl0 := rfl) (hd := d_Street_throwAway_19) (K := ?_)
      first | refine a_16 hG (hd := d_Street_throwAway_20) (hz := rfl) (hj := by omega) (hi := by omega) (K := ?_) | refine a_17 hG (hd := d_Street_throwAway_20) (hz := rfl) (hj := by omega) (hi := by omega) (K := ?_) | refine a_18 hG (hd := d_Street_throwAway_20) (hz := rfl) (hj := by omega) (hi := by omega) (K := ?_) | refine a_19 hG (hd := d_Street_throwAway_20) (hz := rfl) (hj := by omega) (hi := by omega) (K := ?_) | refine a_4 hG (hd := d_Street_throwAway_20) (hz := rfl) (hj := by omega) (hi := by omega) (K := ?_) | refine a_5 hG (hd := d_Street_throwAway_20) (hz := rfl) (hj := by omega) (hi := by omega) (K := ?_) | refine a_21 hG (hd := d_Street_throwAway_20) (hz := rfl) (hj := by omega) (hi := by omega) (K := ?_) | refine a_23 hG (hd := d_Street_throwAway_20) (hz := rfl) (hj := by omega) (hi := by omega) (K := ?_) | refine a_24 hG (hd := d_Street_throwAway_20) (hz := rfl) (hj := by omega) (hi := by omega) (K := ?_)
      refine r_aload_n hG (hl0 := rfl) (hd := d_Street_throwAway_21) (K := ?_)
      refine g_Street_28 hG (hi := by omega) (hd := d_Street_throwAway_22) (K := ?_)
      refine r_imul hG (hd := d_Street_throwAway_25) (K := ?_)
      refine r_bipush hG (hd := d_Street_throwAway_26) (K := ?_)
      refine r_idiv hG (hr0 := by first | omega | (simp [sU]; omega)) (hd := d_Street_throwAway_28) (K := ?_)
      exact r_sb hG (tail) ⟨rfl, rfl, trivial⟩
    · have e : foulOf S t j = 0 := if_pos (by omega)
      rw [e] at tail
      refine r_iconst hG (hd := d_Street_throwAway_11) (K := ?_)
      refine r_goto hG (hd := d_Street_throwAway_12) (K := ?_)
      exact r_sb hG (tail) ⟨rfl, rfl, trivial⟩
  refine r_sb hG (step 0 S (by decide) h (step 1 _ (by decide) (thrK_ok (by decide) h h) (step 2 _ (by decide) (thrK_ok (by decide) (thrK_ok (by decide) h h) (thrK_ok (by decide) h h)) ?_))) ⟨rfl, rfl, trivial⟩
  refine r_iload_n hG (hl0 := rfl) (hd := d_Street_throwAway_2) (K := ?_)
  refine r_iconst hG (hd := d_Street_throwAway_3) (K := ?_)
  refine r_icmp_ge hG (hd := d_Street_throwAway_4) (kt := fun _ => ?_) (kf := fun hh => absurd hh (by omega))
  refine r_vret hG d_Street_throwAway_107 ⟨(Nat.le_of_ble_eq_true rfl), (Nat.le_of_ble_eq_true rfl)⟩ ?_
  exact ⟨rfl, rfl⟩
theorem ct_owes {Γ : Gm} {S : St} {t : Nat} (ht : t < 12) : CT Γ y_Street_owes b_Street_owes 1 ((some FieldType.int)) (rmx 1 0 0) [rf Γ 15 t] S (dX (some (nt (3 * S 18 t 0 + S 18 t 2 - 2 * S 13 t 0))) S) := by
  refine CT.of (by first | exact plainFor_of_name (by rfl) | decide +kernel) (Nat.le_of_ble_eq_true rfl) ?_
  intro G hG
  show G (0, 0) 0 [(0, rf Γ 15 t)] [] _
  refine r_iconst hG (hd := d_Street_owes_0) (K := ?_)
  refine r_aload_n hG (hl0 := rfl) (hd := d_Street_owes_1) (K := ?_)
  refine g_Street_21 hG (hi := by omega) (hd := d_Street_owes_2) (K := ?_)
  refine r_iconst hG (hd := d_Street_owes_5) (K := ?_)
  first | refine a_16 hG (j := 0) (hd := d_Street_owes_6) (hz := rfl) (hj := by omega) (hi := by omega) (K := ?_) | refine a_17 hG (j := 0) (hd := d_Street_owes_6) (hz := rfl) (hj := by omega) (hi := by omega) (K := ?_) | refine a_18 hG (j := 0) (hd := d_Street_owes_6) (hz := rfl) (hj := by omega) (hi := by omega) (K := ?_) | refine a_19 hG (j := 0) (hd := d_Street_owes_6) (hz := rfl) (hj := by omega) (hi := by omega) (K := ?_) | refine a_4 hG (j := 0) (hd := d_Street_owes_6) (hz := rfl) (hj := by omega) (hi := by omega) (K := ?_) | refine a_5 hG (j := 0) (hd := d_Street_owes_6) (hz := rfl) (hj := by omega) (hi := by omega) (K := ?_) | refine a_21 hG (j := 0) (hd := d_Street_owes_6) (hz := rfl) (hj := by omega) (hi := by omega) (K := ?_) | refine a_23 hG (j := 0) (hd := d_Street_owes_6) (hz := rfl) (hj := by omega) (hi := by omega) (K := ?_) | refine a_24 hG (j := 0) (hd := d_Street_owes_6) (hz := rfl) (hj := by omega) (hi := by omega) (K := ?_)
  refine r_imul hG (hd := d_Street_owes_7) (K := ?_)
  refine r_aload_n hG (hl0 := rfl) (hd := d_Street_owes_8) (K := ?_)
  refine g_Street_21 hG (hi := by omega) (hd := d_Street_owes_9) (K := ?_)
  refine r_iconst hG (hd := d_Street_owes_12) (K := ?_)
  first | refine a_16 hG (j := 2) (hd := d_Street_owes_13) (hz := rfl) (hj := by omega) (hi := by omega) (K := ?_) | refine a_17 hG (j := 2) (hd := d_Street_owes_13) (hz := rfl) (hj := by omega) (hi := by omega) (K := ?_) | refine a_18 hG (j := 2) (hd := d_Street_owes_13) (hz := rfl) (hj := by omega) (hi := by omega) (K := ?_) | refine a_19 hG (j := 2) (hd := d_Street_owes_13) (hz := rfl) (hj := by omega) (hi := by omega) (K := ?_) | refine a_4 hG (j := 2) (hd := d_Street_owes_13) (hz := rfl) (hj := by omega) (hi := by omega) (K := ?_) | refine a_5 hG (j := 2) (hd := d_Street_owes_13) (hz := rfl) (hj := by omega) (hi := by omega) (K := ?_) | refine a_21 hG (j := 2) (hd := d_Street_owes_13) (hz := rfl) (hj := by omega) (hi := by omega) (K := ?_) | refine a_23 hG (j := 2) (hd := d_Street_owes_13) (hz := rfl) (hj := by omega) (hi := by omega) (K := ?_) | refine a_24 hG (j := 2) (hd := d_Street_owes_13) (hz := rfl) (hj := by omega) (hi := by omega) (K := ?_)
  first | refine r_iadd hG (hd := d_Street_owes_14) (K := ?_) | refine r_iaddr hG (hd := d_Street_owes_14) (K := ?_)
  refine r_iconst hG (hd := d_Street_owes_15) (K := ?_)
  refine r_aload_n hG (hl0 := rfl) (hd := d_Street_owes_16) (K := ?_)
  refine g_Street_44 hG (hi := by omega) (hd := d_Street_owes_17) (K := ?_)
  refine r_imul hG (hd := d_Street_owes_20) (K := ?_)
  first | refine r_isub hG (hd := d_Street_owes_21) (K := ?_) | refine r_isubr hG (hd := d_Street_owes_21) (K := ?_)
  refine r_iret hG d_Street_owes_22 ⟨(Nat.le_of_ble_eq_true rfl), (Nat.le_of_ble_eq_true rfl)⟩ ?_
  exact ⟨rfl, rfl⟩
def cpyK (S : St) (t u j : Nat) : St :=
  let S1 := sU S 15 t j (S 15 u j)
  let S2 := sU S1 16 t j (S1 16 u j)
  sU S2 17 t j (S2 17 u j)
/-- t becomes as u is -/
def cpy (S : St) (t u : Nat) : St :=
  let S1 := sU S 10 t 0 (S 10 u 0)
  let S2 := sU S1 11 t 0 (S1 11 u 0)
  let S3 := sU S2 12 t 0 (S2 12 u 0)
  cpyK (cpyK (cpyK S3 t u 0) t u 1) t u 2
theorem ct_copyBins {Γ : Gm} {S : St} {t u : Nat} (ht : t < 12) (hu : u < 12) : CT Γ y_Street_copyBins b_Street_copyBins 3 ((none : Option FieldType)) (rmx 1 0 0) [rf Γ 15 t, rf Γ 15 u] S (dX none (cpy S t u)) := by
  refine CT.of (by first | exact plainFor_of_name (by rfl) | decide +kernel) (Nat.le_of_ble_eq_true rfl) ?_
  intro G hG
  show G (0, 0) 0 [(0, rf Γ 15 t), (1, rf Γ 15 u)] [] _
  refine r_aload_n hG (hl0 := rfl) (hd := d_Street_copyBins_0) (K := ?_)
  refine r_aload_n hG (hl0 := rfl) (hd := d_Street_copyBins_1) (K := ?_)
  refine g_Street_47 hG (hi := by omega) (hd := d_Street_copyBins_2) (K := ?_)
  refine p_Street_47 hG (hi := by omega) (hd := d_Street_copyBins_5) (K := ?_)
  refine r_aload_n hG (hl0 := rfl) (hd := d_Street_copyBins_8) (K := ?_)
  refine r_aload_n hG (hl0 := rfl) (hd := d_Street_copyBins_9) (K := ?_)
  refine g_Street_28 hG (hi := by omega) (hd := d_Street_copyBins_10) (K := ?_)
  refine p_Street_28 hG (hi := by omega) (hd := d_Street_copyBins_13) (K := ?_)
  refine r_aload_n hG (hl0 := rfl) (hd := d_Street_copyBins_16) (K := ?_)
  refine r_aload_n hG (hl0 := rfl) (hd := d_Street_copyBins_17) (K := ?_)
  refine g_Street_41 hG (hi := by omega) (hd := d_Street_copyBins_18) (K := ?_)
  refine p_Street_41 hG (hi := by omega) (hd := d_Street_copyBins_21) (K := ?_)
  refine r_iconst hG (hd := d_Street_copyBins_24) (K := ?_)
  refine r_istore_n hG (hd := d_Street_copyBins_25) (K := ?_)
  have step : ∀ (j : Nat) (S : St), j < 3 → G (0, 0) 26 [(0, rf Γ 15 t), (1, rf Γ 15 u), (2, nt ((j + 1 : Nat) : Int))] [] (cpyK S t u j) → G (0, 0) 26 [(0, rf Γ 15 t), (1, rf Γ 15 u), (2, nt j)] [] S := by
    intro j S hj K
    refine r_iload_n hG (hl0 := rfl) (hd := d_Street_copyBins_26) (K := ?_)
    refine r_iconst hG (hd := d_Street_copyBins_27) (K := ?_)
    refine r_icmp_ge hG (hd := d_Street_copyBins_28) (kt := fun hh => absurd hh (by omega)) (kf := fun _ => ?_)
    refine r_aload_n hG (hl0 := rfl) (hd := d_Street_copyBins_31) (K := ?_)
    refine g_Street_9 hG (hi := by omega) (hd := d_Street_copyBins_32) (K := ?_)
    refine r_iload_n hG (hl0 := rfl) (hd := d_Street_copyBins_35) (K := ?_)
    refine r_aload_n hG (hl0 := rfl) (hd := d_Street_copyBins_36) (K := ?_)
    refine g_Street_9 hG (hi := by omega) (hd := d_Street_copyBins_37) (K := ?_)
    refine r_iload_n hG (hl0 := rfl) (hd := d_Street_copyBins_40) (K := ?_)
    first | refine a_16 hG (hd := d_Street_copyBins_41) (hz := rfl) (hj := by omega) (hi := by omega) (K := ?_) | refine a_17 hG (hd := d_Street_copyBins_41) (hz := rfl) (hj := by omega) (hi := by omega) (K := ?_) | refine a_18 hG (hd := d_Street_copyBins_41) (hz := rfl) (hj := by omega) (hi := by omega) (K := ?_) | refine a_19 hG (hd := d_Street_copyBins_41) (hz := rfl) (hj := by omega) (hi := by omega) (K := ?_) | refine a_4 hG (hd := d_Street_copyBins_41) (hz := rfl) (hj := by omega) (hi := by omega) (K := ?_) | refine a_5 hG (hd := d_Street_copyBins_41) (hz := rfl) (hj := by omega) (hi := by omega) (K := ?_) | refine a_21 hG (hd := d_Street_copyBins_41) (hz := rfl) (hj := by omega) (hi := by omega) (K := ?_) | refine a_23 hG (hd := d_Street_copyBins_41) (hz := rfl) (hj := by omega) (hi := by omega) (K := ?_) | refine a_24 hG (hd := d_Street_copyBins_41) (hz := rfl) (hj := by omega) (hi := by omega) (K := ?_)
    first | refine s_16 hG (hd := d_Street_copyBins_42) (hz := rfl) (hj := by omega) (hi := by omega) (K := ?_) | refine s_17 hG (hd := d_Street_copyBins_42) (hz := rfl) (hj := by omega) (hi := by omega) (K := ?_) | refine s_18 hG (hd := d_Street_copyBins_42) (hz := rfl) (hj := by omega) (hi := by omega) (K := ?_) | refine s_19 hG (hd := d_Street_copyBins_42) (hz := rfl) (hj := by omega) (hi := by omega) (K := ?_) | refine s_4 hG (hd := d_Street_copyBins_42) (hz := rfl) (hj := by omega) (hi := by omega) (K := ?_) | refine s_5 hG (hd := d_Street_copyBins_42) (hz := rfl) (hj := by omega) (hi := by omega) (K := ?_) | refine s_21 hG (hd := d_Street_copyBins_42) (hz := rfl) (hj := by omega) (hi := by omega) (K := ?_) | refine s_23 hG (hd := d_Street_copyBins_42) (hz := rfl) (hj := by omega) (hi := by omega) (K := ?_) | refine s_24 hG (hd := d_Street_copyBins_42) (hz := rfl) (hj := by omega) (hi := by omega) (K := ?_)
    refine r_aload_n hG (hl0 := rfl) (hd := d_Street_copyBins_43) (K := ?_)
    refine g_Street_15 hG (hi := by omega) (hd := d_Street_copyBins_44) (K := ?_)
    refine r_iload_n hG (hl0 := rfl) (hd := d_Street_copyBins_47) (K := ?_)
    refine r_aload_n hG (hl0 := rfl) (hd := d_Street_copyBins_48) (K := ?_)
    refine g_Street_15 hG (hi := by omega) (hd := d_Street_copyBins_49) (K := ?_)
    refine r_iload_n hG (hl0 := rfl) (hd := d_Street_copyBins_52) (K := ?_)
    first | refine a_16 hG (hd := d_Street_copyBins_53) (hz := rfl) (hj := by omega) (hi := by omega) (K := ?_) | refine a_17 hG (hd := d_Street_copyBins_53) (hz := rfl) (hj := by omega) (hi := by omega) (K := ?_) | refine a_18 hG (hd := d_Street_copyBins_53) (hz := rfl) (hj := by omega) (hi := by omega) (K := ?_) | refine a_19 hG (hd := d_Street_copyBins_53) (hz := rfl) (hj := by omega) (hi := by omega) (K := ?_) | refine a_4 hG (hd := d_Street_copyBins_53) (hz := rfl) (hj := by omega) (hi := by omega) (K := ?_) | refine a_5 hG (hd := d_Street_copyBins_53) (hz := rfl) (hj := by omega) (hi := by omega) (K := ?_) | refine a_21 hG (hd := d_Street_copyBins_53) (hz := rfl) (hj := by omega) (hi := by omega) (K := ?_) | refine a_23 hG (hd := d_Street_copyBins_53) (hz := rfl) (hj := by omega) (hi := by omega) (K := ?_) | refine a_24 hG (hd := d_Street_copyBins_53) (hz := rfl) (hj := by omega) (hi := by omega) (K := ?_)
    first | refine s_16 hG (hd := d_Street_copyBins_54) (hz := rfl) (hj := by omega) (hi := by omega) (K := ?_) | refine s_17 hG (hd := d_Street_copyBins_54) (hz := rfl) (hj := by omega) (hi := by omega) (K := ?_) | refine s_18 hG (hd := d_Street_copyBins_54) (hz := rfl) (hj := by omega) (hi := by omega) (K := ?_) | refine s_19 hG (hd := d_Street_copyBins_54) (hz := rfl) (hj := by omega) (hi := by omega) (K := ?_) | refine s_4 hG (hd := d_Street_copyBins_54) (hz := rfl) (hj := by omega) (hi := by omega) (K := ?_) | refine s_5 hG (hd := d_Street_copyBins_54) (hz := rfl) (hj := by omega) (hi := by omega) (K := ?_) | refine s_21 hG (hd := d_Street_copyBins_54) (hz := rfl) (hj := by omega) (hi := by omega) (K := ?_) | refine s_23 hG (hd := d_Street_copyBins_54) (hz := rfl) (hj := by omega) (hi := by omega) (K := ?_) | refine s_24 hG (hd := d_Street_copyBins_54) (hz := rfl) (hj := by omega) (hi := by omega) (K := ?_)
    refine r_aload_n hG (hl0 := rfl) (hd := d_Street_copyBins_55) (K := ?_)
    refine g_Street_18 hG (hi := by omega) (hd := d_Street_copyBins_56) (K := ?_)
    refine r_iload_n hG (hl0 := rfl) (hd := d_Street_copyBins_59) (K := ?_)
    refine r_aload_n hG (hl0 := rfl) (hd := d_Street_copyBins_60) (K := ?_)
    refine g_Street_18 hG (hi := by omega) (hd := d_Street_copyBins_61) (K := ?_)
    refine r_iload_n hG (hl0 := rfl) (hd := d_Street_copyBins_64) (K := ?_)
    first | refine a_16 hG (hd := d_Street_copyBins_65) (hz := rfl) (hj := by omega) (hi := by omega) (K := ?_) | refine a_17 hG (hd := d_Street_copyBins_65) (hz := rfl) (hj := by omega) (hi := by omega) (K := ?_) | refine a_18 hG (hd := d_Street_copyBins_65) (hz := rfl) (hj := by omega) (hi := by omega) (K := ?_) | refine a_19 hG (hd := d_Street_copyBins_65) (hz := rfl) (hj := by omega) (hi := by omega) (K := ?_) | refine a_4 hG (hd := d_Street_copyBins_65) (hz := rfl) (hj := by omega) (hi := by omega) (K := ?_) | refine a_5 hG (hd := d_Street_copyBins_65) (hz := rfl) (hj := by omega) (hi := by omega) (K := ?_) | refine a_21 hG (hd := d_Street_copyBins_65) (hz := rfl) (hj := by omega) (hi := by omega) (K := ?_) | refine a_23 hG (hd := d_Street_copyBins_65) (hz := rfl) (hj := by omega) (hi := by omega) (K := ?_) | refine a_24 hG (hd := d_Street_copyBins_65) (hz := rfl) (hj := by omega) (hi := by omega) (K := ?_)
    first | refine s_16 hG (hd := d_Street_copyBins_66) (hz := rfl) (hj := by omega) (hi := by omega) (K := ?_) | refine s_17 hG (hd := d_Street_copyBins_66) (hz := rfl) (hj := by omega) (hi := by omega) (K := ?_) | refine s_18 hG (hd := d_Street_copyBins_66) (hz := rfl) (hj := by omega) (hi := by omega) (K := ?_) | refine s_19 hG (hd := d_Street_copyBins_66) (hz := rfl) (hj := by omega) (hi := by omega) (K := ?_) | refine s_4 hG (hd := d_Street_copyBins_66) (hz := rfl) (hj := by omega) (hi := by omega) (K := ?_) | refine s_5 hG (hd := d_Street_copyBins_66) (hz := rfl) (hj := by omega) (hi := by omega) (K := ?_) | refine s_21 hG (hd := d_Street_copyBins_66) (hz := rfl) (hj := by omega) (hi := by omega) (K := ?_) | refine s_23 hG (hd := d_Street_copyBins_66) (hz := rfl) (hj := by omega) (hi := by omega) (K := ?_) | refine s_24 hG (hd := d_Street_copyBins_66) (hz := rfl) (hj := by omega) (hi := by omega) (K := ?_)
    refine r_iinc hG (hl0 := rfl) (hd := d_Street_copyBins_67) (K := ?_)
    refine r_goto hG (hd := d_Street_copyBins_70) (K := ?_)
    exact r_sb hG (K) ⟨rfl, rfl, rfl, trivial⟩
  refine r_sb hG (step 0 _ (by decide) (step 1 _ (by decide) (step 2 _ (by decide) ?_))) ⟨rfl, rfl, rfl, trivial⟩
  refine r_iload_n hG (hl0 := rfl) (hd := d_Street_copyBins_26) (K := ?_)
  refine r_iconst hG (hd := d_Street_copyBins_27) (K := ?_)
  refine r_icmp_ge hG (hd := d_Street_copyBins_28) (kt := fun _ => ?_) (kf := fun hh => absurd hh (by omega))
  refine r_vret hG d_Street_copyBins_73 ⟨(Nat.le_of_ble_eq_true rfl), (Nat.le_of_ble_eq_true rfl)⟩ ?_
  exact ⟨rfl, rfl⟩
