/-! THE SEARCH's run -/
def cmpF (S : St) (ki mi nu : Int) : St :=
  if S 40 0 0 < ki ∨ (ki = S 40 0 0 ∧ mi < S 42 0 0) ∨ (ki = S 40 0 0 ∧ mi = S 42 0 0 ∧ nu < S 41 0 0) then sU (sU (sU S 40 0 0 ki) 42 0 0 mi) 41 0 0 nu else S
theorem ct_compare {Γ : Gm} {S : St} {ki mi nu : Int} (h1 : 0 ≤ ki ∧ ki < 100000000) (h2 : 0 ≤ mi ∧ mi < 100000000) (h3 : 0 ≤ nu ∧ nu < 100000000) (h4 : 0 ≤ S 40 0 0 ∧ S 40 0 0 < 100000000) (h5 : 0 ≤ S 41 0 0 ∧ S 41 0 0 < 100000000) (h6 : 0 ≤ S 42 0 0 ∧ S 42 0 0 < 100000000) :
    CT Γ y_Search_compare b_Search_compare 5 ((none : Option FieldType)) (rmx 1 0 0) [rf Γ 6 0, nt ki, nt mi, nt nu] S (dX none (cmpF S ki mi nu)) := by
  refine CT.of (by first | exact plainFor_of_name (by rfl) | decide +kernel) (Nat.le_of_ble_eq_true rfl) ?_
  intro G hG
  show G (0, 0) 0 [(0, rf Γ 6 0), (1, nt ki), (2, nt mi), (3, nt nu)] [] _
  have tT : (S 40 0 0 < ki ∨ (ki = S 40 0 0 ∧ mi < S 42 0 0) ∨ (ki = S 40 0 0 ∧ mi = S 42 0 0 ∧ nu < S 41 0 0)) → G (0, 0) 48 [(0, rf Γ 6 0), (1, nt ki), (2, nt mi), (3, nt nu)] [] S := by
    intro hb
    refine r_iconst hG (hd := d_Search_compare_48) (K := ?_)
    refine r_goto hG (hd := d_Search_compare_49) (K := ?_)
    refine r_istore hG (hd := d_Search_compare_53) (K := ?_)
    refine r_iload hG (hl0 := rfl) (hd := d_Search_compare_55) (K := ?_)
    refine r_if_eq hG (hd := d_Search_compare_57) (kt := fun hh => absurd hh (by omega)) (kf := fun _ => ?_)
    refine r_aload_n hG (hl0 := rfl) (hd := d_Search_compare_60) (K := ?_)
    refine r_iload_n hG (hl0 := rfl) (hd := d_Search_compare_61) (K := ?_)
    refine p_Search_9 hG (hd := d_Search_compare_62) (K := ?_)
    refine r_aload_n hG (hl0 := rfl) (hd := d_Search_compare_65) (K := ?_)
    refine r_iload_n hG (hl0 := rfl) (hd := d_Search_compare_66) (K := ?_)
    refine p_Search_18 hG (hd := d_Search_compare_67) (K := ?_)
    refine r_aload_n hG (hl0 := rfl) (hd := d_Search_compare_70) (K := ?_)
    refine r_iload_n hG (hl0 := rfl) (hd := d_Search_compare_71) (K := ?_)
    refine p_Search_15 hG (hd := d_Search_compare_72) (K := ?_)
    refine r_vret hG d_Search_compare_75 ⟨(Nat.le_of_ble_eq_true rfl), (Nat.le_of_ble_eq_true rfl)⟩ ?_
    exact ⟨rfl, (if_pos hb).symm⟩
  have tF : ¬ (S 40 0 0 < ki ∨ (ki = S 40 0 0 ∧ mi < S 42 0 0) ∨ (ki = S 40 0 0 ∧ mi = S 42 0 0 ∧ nu < S 41 0 0)) → G (0, 0) 52 [(0, rf Γ 6 0), (1, nt ki), (2, nt mi), (3, nt nu)] [] S := by
    intro hb
    refine r_iconst hG (hd := d_Search_compare_52) (K := ?_)
    refine r_istore hG (hd := d_Search_compare_53) (K := ?_)
    refine r_iload hG (hl0 := rfl) (hd := d_Search_compare_55) (K := ?_)
    refine r_if_eq hG (hd := d_Search_compare_57) (kt := fun _ => ?_) (kf := fun hh => absurd hh (by omega))
    refine r_vret hG d_Search_compare_75 ⟨(Nat.le_of_ble_eq_true rfl), (Nat.le_of_ble_eq_true rfl)⟩ ?_
    exact ⟨rfl, (if_neg hb).symm⟩
  refine r_iload_n hG (hl0 := rfl) (hd := d_Search_compare_0) (K := ?_)
  refine r_aload_n hG (hl0 := rfl) (hd := d_Search_compare_1) (K := ?_)
  refine g_Search_9 hG (hd := d_Search_compare_2) (K := ?_)
  refine r_icmp_gt hG (hd := d_Search_compare_5) (kt := fun a => ?_) (kf := fun a => ?_)
  · exact tT (by omega)
  · refine r_iload_n hG (hl0 := rfl) (hd := d_Search_compare_8) (K := ?_)
    refine r_aload_n hG (hl0 := rfl) (hd := d_Search_compare_9) (K := ?_)
    refine g_Search_9 hG (hd := d_Search_compare_10) (K := ?_)
    refine r_icmp_ne hG (hd := d_Search_compare_13) (kt := fun b => ?_) (kf := fun b => ?_)
    · refine r_iload_n hG (hl0 := rfl) (hd := d_Search_compare_24) (K := ?_)
      refine r_aload_n hG (hl0 := rfl) (hd := d_Search_compare_25) (K := ?_)
      refine g_Search_9 hG (hd := d_Search_compare_26) (K := ?_)
      refine r_icmp_ne hG (hd := d_Search_compare_29) (kt := fun _ => ?_) (kf := fun hh => absurd hh (by omega))
      exact tF (by omega)
    · refine r_iload_n hG (hl0 := rfl) (hd := d_Search_compare_16) (K := ?_)
      refine r_aload_n hG (hl0 := rfl) (hd := d_Search_compare_17) (K := ?_)
      refine g_Search_18 hG (hd := d_Search_compare_18) (K := ?_)
      refine r_icmp_lt hG (hd := d_Search_compare_21) (kt := fun d => ?_) (kf := fun d => ?_)
      · exact tT (by omega)
      · refine r_iload_n hG (hl0 := rfl) (hd := d_Search_compare_24) (K := ?_)
        refine r_aload_n hG (hl0 := rfl) (hd := d_Search_compare_25) (K := ?_)
        refine g_Search_9 hG (hd := d_Search_compare_26) (K := ?_)
        refine r_icmp_ne hG (hd := d_Search_compare_29) (kt := fun hh => absurd hh (by omega)) (kf := fun _ => ?_)
        refine r_iload_n hG (hl0 := rfl) (hd := d_Search_compare_32) (K := ?_)
        refine r_aload_n hG (hl0 := rfl) (hd := d_Search_compare_33) (K := ?_)
        refine g_Search_18 hG (hd := d_Search_compare_34) (K := ?_)
        refine r_icmp_ne hG (hd := d_Search_compare_37) (kt := fun e => ?_) (kf := fun e => ?_)
        · exact tF (by omega)
        · refine r_iload_n hG (hl0 := rfl) (hd := d_Search_compare_40) (K := ?_)
          refine r_aload_n hG (hl0 := rfl) (hd := d_Search_compare_41) (K := ?_)
          refine g_Search_15 hG (hd := d_Search_compare_42) (K := ?_)
          refine r_icmp_ge hG (hd := d_Search_compare_45) (kt := fun g => ?_) (kf := fun g => ?_)
          · exact tF (by omega)
          · exact tT (by omega)
theorem cmpF_of (S : St) (ki mi nu : Int) {f : Nat} (h : f ≠ 40 ∧ f ≠ 41 ∧ f ≠ 42) : cmpF S ki mi nu f = S f := by
  unfold cmpF
  split
  · rw [sU_f h.2.1, sU_f h.2.2, sU_f h.1]
  · rfl
theorem cmpF_in {S : St} {ki mi nu : Int} (h1 : 0 ≤ ki ∧ ki < 100000000) (h2 : 0 ≤ mi ∧ mi < 100000000) (h3 : 0 ≤ nu ∧ nu < 100000000) (h4 : 0 ≤ S 40 0 0 ∧ S 40 0 0 < 100000000) (h5 : 0 ≤ S 41 0 0 ∧ S 41 0 0 < 100000000) (h6 : 0 ≤ S 42 0 0 ∧ S 42 0 0 < 100000000) :
    (0 ≤ cmpF S ki mi nu 40 0 0 ∧ cmpF S ki mi nu 40 0 0 < 100000000) ∧ (0 ≤ cmpF S ki mi nu 41 0 0 ∧ cmpF S ki mi nu 41 0 0 < 100000000) ∧ (0 ≤ cmpF S ki mi nu 42 0 0 ∧ cmpF S ki mi nu 42 0 0 < 100000000) := by
  unfold cmpF
  split
  · simp [sU, h1, h2, h3]
  · exact ⟨h4, h5, h6⟩
theorem numN_in (S : St) (w : Nat) : ∀ (m l : Nat) (a num : Int), 0 ≤ num → 0 ≤ numN S w m l a num ∧ numN S w m l a num < (num + 1) * 10 ^ m
  | 0, l, a, num, h => by
    simp only [numN]
    omega
  | m + 1, l, a, num, h => by
    have hx := nxt_lt S w a l 6 0 rfl
    have ih := numN_in S w m (clr l (nxt S w a l 6 0)) (S 10 (2 * nxt S w a l 6 0 + w) 0) (10 * num + nxt S w a l 6 0) (by omega)
    have hp : (0 : Int) < 10 ^ m := Int.pow_pos (by decide)
    simp only [numN]
    rw [Int.pow_succ]
    split
    · have h1 : (num + 1) * 1 ≤ (num + 1) * (10 ^ m * 10) := Int.mul_le_mul_of_nonneg_left (by omega) (by omega)
      omega
    · have h1 : (10 * num + nxt S w a l 6 0 + 1) * 10 ^ m ≤ (10 * (num + 1)) * 10 ^ m := Int.mul_le_mul_of_nonneg_right (by omega) (by omega)
      have e : (num + 1) * (10 ^ m * 10) = (10 * (num + 1)) * 10 ^ m := by
        rw [Int.mul_comm (10 ^ m) 10, ← Int.mul_assoc, Int.mul_comm (num + 1) 10]
      omega
theorem kilosS_in {S : St} {w i s : Nat} (hw : w < 2) (hT : ∀ t, t < 12 → okT S t) (hL : okL S i) : 0 ≤ kilosS S w i s ∧ kilosS S w i s ≤ 300 := by
  have s0 := sumK_in (s := s) hw (okL_str hL (show 0 < 2 by decide)).1 hT 6 (by decide)
  have s1 := sumK_in (s := s) hw (okL_str hL (show 1 < 2 by decide)).1 hT 6 (by decide)
  unfold kilosS
  split <;> omega
theorem bc_01 (s : Nat) : 0 ≤ bc s ∧ bc s ≤ 6 := by
  have := bI_01 s 0
  have := bI_01 s 1
  have := bI_01 s 2
  have := bI_01 s 3
  have := bI_01 s 4
  have := bI_01 s 5
  unfold bc
  omega
def stepR (S : St) (w i s : Nat) : St := if wayH S w 0 s + 2 * bc s ≤ S 20 i 0 ∧ 0 < kilosS S w i s then cmpF S (kilosS S w i s) (wayH S w 0 s + 2 * bc s) (numN S w 6 s 0 1) else S
def runN (w i : Nat) : Nat → Nat → St → St
  | 0, _, S => S
  | m + 1, s, S => runN w i m (s + 1) (stepR S w i s)
def runF (S : St) (w i n : Nat) : St := runN w i (2 ^ n - 1) 1 (sU (sU (sU S 40 0 0 0) 41 0 0 1) 42 0 0 0)
theorem stepR_of (S : St) (w i s : Nat) {f : Nat} (h : f ≠ 40 ∧ f ≠ 41 ∧ f ≠ 42) : stepR S w i s f = S f := by
  unfold stepR
  split
  · exact cmpF_of _ _ _ _ h
  · rfl
theorem runN_of (w i : Nat) {f : Nat} (h : f ≠ 40 ∧ f ≠ 41 ∧ f ≠ 42) : ∀ (m s : Nat) (S : St), runN w i m s S f = S f
  | 0, _, _ => rfl
  | m + 1, s, S => (runN_of w i h m (s + 1) _).trans (stepR_of S w i s h)
theorem runF_of (S : St) (w i n : Nat) {f : Nat} (h : f ≠ 40 ∧ f ≠ 41 ∧ f ≠ 42) : runF S w i n f = S f := by
  unfold runF
  rw [runN_of w i h, sU_f h.2.2, sU_f h.2.1, sU_f h.1]
theorem ct_searchRun {Γ : Gm} {S : St} {w i n : Nat} (hw : w < 2) (hi : i < 3) (hn : n ≤ 6) (hT : ∀ t, t < 12 → okT S t) (hL : okL S i) : CT Γ y_Search_run b_Search_run 7 ((none : Option FieldType)) (rmx 5 0 0) [rf Γ 6 0, rf Γ 20 i, rf Γ 1 w, nt n] S (dX none (runF S w i n)) := by
  have h2n := bit_two n (by omega)
  have hNle : 2 ^ n ≤ 64 := Nat.le_trans (Nat.pow_le_pow_right (by decide) hn) (by decide)
  have hN1 : 1 ≤ 2 ^ n := Nat.one_le_two_pow
  unfold runF
  generalize hN : 2 ^ n = N at h2n hNle hN1 ⊢
  refine CT.of (by first | exact plainFor_of_name (by rfl) | decide +kernel) (Nat.le_of_ble_eq_true rfl) ?_
  intro G hG
  show G (0, 0) 0 [(0, rf Γ 6 0), (1, rf Γ 20 i), (2, rf Γ 1 w), (3, nt n)] [] _
  refine r_aload_n hG (hl0 := rfl) (hd := d_Search_run_0) (K := ?_)
  refine r_iconst hG (hd := d_Search_run_1) (K := ?_)
  refine p_Search_9 hG (hd := d_Search_run_2) (K := ?_)
  refine r_aload_n hG (hl0 := rfl) (hd := d_Search_run_5) (K := ?_)
  refine r_iconst hG (hd := d_Search_run_6) (K := ?_)
  refine p_Search_15 hG (hd := d_Search_run_7) (K := ?_)
  refine r_aload_n hG (hl0 := rfl) (hd := d_Search_run_10) (K := ?_)
  refine r_iconst hG (hd := d_Search_run_11) (K := ?_)
  refine p_Search_18 hG (hd := d_Search_run_12) (K := ?_)
  refine r_iconst hG (hd := d_Search_run_15) (K := ?_)
  refine r_istore hG (hd := d_Search_run_16) (K := ?_)
  have loop : ∀ m s : Nat, s + m = N → ∀ S1 : St, (∀ t, t < 12 → okT S1 t) → okL S1 i → (0 ≤ S1 40 0 0 ∧ S1 40 0 0 < 100000000) → (0 ≤ S1 41 0 0 ∧ S1 41 0 0 < 100000000) → (0 ≤ S1 42 0 0 ∧ S1 42 0 0 < 100000000) →
      G (0, 0) 86 [] [] (runN w i m s S1) → G (0, 0) 18 [(0, rf Γ 6 0), (1, rf Γ 20 i), (2, rf Γ 1 w), (3, nt n), (4, nt s)] [] S1 := by
    intro m
    induction m with
    | zero =>
      intro s hs S1 h1 h2 h3 h4 h5 K
      refine r_iload hG (hl0 := rfl) (hd := d_Search_run_18) (K := ?_)
      refine r_iconst hG (hd := d_Search_run_20) (K := ?_)
      refine r_iload_n hG (hl0 := rfl) (hd := d_Search_run_21) (K := ?_)
      refine r_ishl hG (hd := d_Search_run_22) (K := ?_)
      refine r_top hG h2n ?_
      refine r_icmp_ge hG (hd := d_Search_run_23) (kt := fun _ => ?_) (kf := fun hh => absurd hh (by omega))
      exact r_sb hG (K) trivial
    | succ m ih =>
      intro s hs S1 h1 h2 h3 h4 h5 K
      have hs64 : s < 64 := by omega
      have hway := wayH_in (s := s) hw h1 (show 0 ≤ (0 : Int) ∧ (0 : Int) ≤ 30 by omega)
      have hbc := bc_01 s
      have hki := kilosS_in (s := s) hw h1 h2
      have hnu := numN_in S1 w 6 s 0 1 (by omega)
      have hsh := h2.1
      have next : G (0, 0) 80 [(0, rf Γ 6 0), (1, rf Γ 20 i), (2, rf Γ 1 w), (3, nt n), (4, nt s)] [] (stepR S1 w i s) := by
        have e : ∀ {f : Nat}, f ≠ 40 ∧ f ≠ 41 ∧ f ≠ 42 → stepR S1 w i s f = S1 f := fun h => stepR_of S1 w i s h
        have c3 : (0 ≤ stepR S1 w i s 40 0 0 ∧ stepR S1 w i s 40 0 0 < 100000000) ∧ (0 ≤ stepR S1 w i s 41 0 0 ∧ stepR S1 w i s 41 0 0 < 100000000) ∧ (0 ≤ stepR S1 w i s 42 0 0 ∧ stepR S1 w i s 42 0 0 < 100000000) := by
          unfold stepR
          split
          · exact cmpF_in (by omega) (by omega) (by omega) h3 h4 h5
          · exact ⟨h3, h4, h5⟩
        refine r_iinc hG (hl0 := rfl) (hd := d_Search_run_80) (K := ?_)
        refine r_goto hG (hd := d_Search_run_83) (K := ?_)
        have q := ih (s + 1) (by omega) (stepR S1 w i s) (fun t ht => okT_of (h1 t ht) (e (by decide)) (e (by decide)) (e (by decide)) (e (by decide)) (e (by decide))) (okL_of h2 (e (by decide)) (e (by decide)) (e (by decide)) (e (by decide))) c3.1 c3.2.1 c3.2.2 K
        exact r_sb hG (q) ⟨rfl, rfl, rfl, rfl, rfl, trivial⟩
      refine r_iload hG (hl0 := rfl) (hd := d_Search_run_18) (K := ?_)
      refine r_iconst hG (hd := d_Search_run_20) (K := ?_)
      refine r_iload_n hG (hl0 := rfl) (hd := d_Search_run_21) (K := ?_)
      refine r_ishl hG (hd := d_Search_run_22) (K := ?_)
      refine r_top hG h2n ?_
      refine r_icmp_ge hG (hd := d_Search_run_23) (kt := fun hh => absurd hh (by omega)) (kf := fun _ => ?_)
      refine r_iconst hG (hd := d_Search_run_26) (K := ?_)
      refine r_iload hG (hl0 := rfl) (hd := d_Search_run_27) (K := ?_)
      refine r_aload_n hG (hl0 := rfl) (hd := d_Search_run_29) (K := ?_)
      refine cSx hG w_Search_21 d_Search_run_30 (ct_wayHome hw hs64 h1 (by omega)) rfl rfl ⟨(Nat.le_of_ble_eq_true rfl), (Nat.le_of_ble_eq_true rfl)⟩ ⟨(Nat.le_of_ble_eq_true rfl), (Nat.le_of_ble_eq_true rfl)⟩ (Nat.le_of_ble_eq_true rfl) ?_
      refine r_iconst hG (hd := d_Search_run_33) (K := ?_)
      refine r_iload hG (hl0 := rfl) (hd := d_Search_run_34) (K := ?_)
      refine cSx hG w_Search_25 d_Search_run_36 (ct_bitCount hs64) rfl rfl ⟨(Nat.le_of_ble_eq_true rfl), (Nat.le_of_ble_eq_true rfl)⟩ ⟨(Nat.le_of_ble_eq_true rfl), (Nat.le_of_ble_eq_true rfl)⟩ (Nat.le_of_ble_eq_true rfl) ?_
      refine r_imul hG (hd := d_Search_run_39) (K := ?_)
      first | refine r_iadd hG (hd := d_Search_run_40) (K := ?_) | refine r_iaddr hG (hd := d_Search_run_40) (K := ?_)
      refine r_istore hG (hd := d_Search_run_41) (K := ?_)
      refine r_aload_n hG (hl0 := rfl) (hd := d_Search_run_43) (K := ?_)
      refine r_iload hG (hl0 := rfl) (hd := d_Search_run_44) (K := ?_)
      refine r_aload_n hG (hl0 := rfl) (hd := d_Search_run_46) (K := ?_)
      refine cSx hG w_Search_31 d_Search_run_47 (ct_kilosOf hw hi hs64 h1 h2) rfl rfl ⟨(Nat.le_of_ble_eq_true rfl), (Nat.le_of_ble_eq_true rfl)⟩ ⟨(Nat.le_of_ble_eq_true rfl), (Nat.le_of_ble_eq_true rfl)⟩ (Nat.le_of_ble_eq_true rfl) ?_
      refine r_istore hG (hd := d_Search_run_50) (K := ?_)
      refine r_iload hG (hl0 := rfl) (hd := d_Search_run_52) (K := ?_)
      refine r_aload_n hG (hl0 := rfl) (hd := d_Search_run_54) (K := ?_)
      refine g_Search_35 hG (hi := by omega) (hd := d_Search_run_55) (K := ?_)
      refine r_icmp_gt hG (hd := d_Search_run_58) (kt := fun h => ?_) (kf := fun h => ?_)
      · rw [show stepR S1 w i s = S1 from if_neg (by omega)] at next
        exact r_sb hG (next) ⟨rfl, rfl, rfl, rfl, rfl, trivial⟩
      · refine r_iload hG (hl0 := rfl) (hd := d_Search_run_61) (K := ?_)
        refine r_if_le hG (hd := d_Search_run_63) (kt := fun h6 => ?_) (kf := fun h6 => ?_)
        · rw [show stepR S1 w i s = S1 from if_neg (by omega)] at next
          exact r_sb hG (next) ⟨rfl, rfl, rfl, rfl, rfl, trivial⟩
        · rw [show stepR S1 w i s = cmpF S1 (kilosS S1 w i s) (wayH S1 w 0 s + 2 * bc s) (numN S1 w 6 s 0 1) from if_pos (by omega)] at next
          refine r_aload_n hG (hl0 := rfl) (hd := d_Search_run_66) (K := ?_)
          refine r_iload hG (hl0 := rfl) (hd := d_Search_run_67) (K := ?_)
          refine r_iload hG (hl0 := rfl) (hd := d_Search_run_69) (K := ?_)
          refine r_iload hG (hl0 := rfl) (hd := d_Search_run_71) (K := ?_)
          refine r_aload_n hG (hl0 := rfl) (hd := d_Search_run_73) (K := ?_)
          refine cSx hG w_Search_40 d_Search_run_74 (ct_smallestNumber hw hs64 h1) rfl rfl ⟨(Nat.le_of_ble_eq_true rfl), (Nat.le_of_ble_eq_true rfl)⟩ ⟨(Nat.le_of_ble_eq_true rfl), (Nat.le_of_ble_eq_true rfl)⟩ (Nat.le_of_ble_eq_true rfl) ?_
          refine cVv hG w_Search_44 d_Search_run_77 (ct_compare (by omega) (by omega) (by omega) h3 h4 h5) (by decide) (by decide) rc_6 rfl rfl ⟨(Nat.le_of_ble_eq_true rfl), (Nat.le_of_ble_eq_true rfl)⟩ ⟨(Nat.le_of_ble_eq_true rfl), (Nat.le_of_ble_eq_true rfl)⟩ (Nat.le_of_ble_eq_true rfl) ?_
          exact r_sb hG (next) ⟨rfl, rfl, rfl, rfl, rfl, trivial⟩
  have e : ∀ {f : Nat}, f ≠ 40 ∧ f ≠ 41 ∧ f ≠ 42 → sU (sU (sU S 40 0 0 0) 41 0 0 1) 42 0 0 0 f = S f := fun h => by rw [sU_f h.2.2, sU_f h.2.1, sU_f h.1]
  have q := loop (N - 1) 1 (by omega) (sU (sU (sU S 40 0 0 0) 41 0 0 1) 42 0 0 0) (fun t ht => okT_of (hT t ht) (e (by decide)) (e (by decide)) (e (by decide)) (e (by decide)) (e (by decide))) (okL_of hL (e (by decide)) (e (by decide)) (e (by decide)) (e (by decide))) (by simp [sU]) (by simp [sU]) (by simp [sU]) (by
    refine r_vret hG d_Search_run_86 ⟨(Nat.le_of_ble_eq_true rfl), (Nat.le_of_ble_eq_true rfl)⟩ ?_
    exact ⟨rfl, rfl⟩)
  exact r_sb hG (q) ⟨rfl, rfl, rfl, rfl, rfl, trivial⟩
