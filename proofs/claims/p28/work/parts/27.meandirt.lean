theorem mean_in {S : St} {n : Nat} (h : BL S) (hn : S 52 0 0 = (n : Int)) : ∀ k, k ≤ n → (0 ≤ cntIn S 3 k ∧ cntIn S 3 k ≤ k) ∧ 0 ≤ dirtyIn S k ∧ dirtyIn S k ≤ 40 * (k - cntIn S 3 k)
  | 0, _ => by simp [cntIn, dirtyIn]
  | k + 1, hk => by
    obtain ⟨n', a1, a2, a3, a4, a5⟩ := id h
    have ih := mean_in h hn k (by omega)
    obtain ⟨c1, c2, c3, c4, c5, c6⟩ := a4 k (by omega)
    simp only [cntIn, dirtyIn]
    split
    · next e => have := c3 e; omega
    · next e => have := c4 e; omega
theorem ct_meanDirt {Γ : Gm} {S : St} (h : BL S) : CT Γ y_Ward_meanDirt b_Ward_meanDirt 2 ((some FieldType.double)) (rmx 2 0 0) [rf Γ 0 0] S (fun v S' => ∃ x : UInt64, v = some (.double x) ∧ S' = S ∧ (Op.cmpValue (FP.dcmp x 4630826316843712512) .l).toInt ≤ 0) := by
  obtain ⟨n, a1, a2, a3, a4, a5⟩ := id h
  have hm := mean_in h a2 n (Nat.le_refl _)
  refine CT.of (by first | exact plainFor_of_name (by rfl) | decide +kernel) (Nat.le_of_ble_eq_true rfl) ?_
  intro G hG
  show G (0, 0) 0 [(0, rf Γ 0 0)] [] _
  refine r_aload_n hG (hl0 := rfl) (hd := d_Ward_meanDirt_0) (K := ?_)
  refine g_Ward_55 hG (hd := d_Ward_meanDirt_1) (K := ?_)
  refine g_Ward_238 hG (hd := d_Ward_meanDirt_4) (K := ?_)
  rw [a2]
  refine r_aload_n hG (hl0 := rfl) (hd := d_Ward_meanDirt_7) (K := ?_)
  refine g_Ward_55 hG (hd := d_Ward_meanDirt_8) (K := ?_)
  refine r_iconst hG (hd := d_Ward_meanDirt_11) (K := ?_)
  refine cVx hG w_Ward_241 d_Ward_meanDirt_12 (ct_countIn a2 a1 (by decide) a3) (by decide) (by decide) rc_9 rfl rfl ⟨(Nat.le_of_ble_eq_true rfl), (Nat.le_of_ble_eq_true rfl)⟩ ⟨(Nat.le_of_ble_eq_true rfl), (Nat.le_of_ble_eq_true rfl)⟩ (Nat.le_of_ble_eq_true rfl) ?_
  first | refine r_isub hG (hd := d_Ward_meanDirt_15) (K := ?_) | refine r_isubr hG (hd := d_Ward_meanDirt_15) (K := ?_)
  refine r_istore_n hG (hd := d_Ward_meanDirt_16) (K := ?_)
  refine r_iload_n hG (hl0 := rfl) (hd := d_Ward_meanDirt_17) (K := ?_)
  refine r_if_gt hG (hd := d_Ward_meanDirt_18) (kt := fun h => ?_) (kf := fun h => ?_)
  · obtain ⟨a, ha⟩ : ∃ a : Nat, dirtyIn S n = (a : Int) := ⟨(dirtyIn S n).toNat, by omega⟩
    obtain ⟨b, hb⟩ : ∃ b : Nat, (n : Int) - cntIn S 3 n = (b : Int) := ⟨((n : Int) - cntIn S 3 n).toNat, by omega⟩
    have ok := mean_ok b (by omega) (by omega) a (by omega)
    rw [hb]
    refine r_aload_n hG (hl0 := rfl) (hd := d_Ward_meanDirt_23) (K := ?_)
    refine g_Ward_55 hG (hd := d_Ward_meanDirt_24) (K := ?_)
    refine cVx hG w_Ward_282 d_Ward_meanDirt_27 (ct_dirtyIn a2 a1) (by decide) (by decide) rc_9 rfl rfl ⟨(Nat.le_of_ble_eq_true rfl), (Nat.le_of_ble_eq_true rfl)⟩ ⟨(Nat.le_of_ble_eq_true rfl), (Nat.le_of_ble_eq_true rfl)⟩ (Nat.le_of_ble_eq_true rfl) ?_
    rw [ha]
    refine r_i2d hG (hd := d_Ward_meanDirt_30) (K := ?_)
    refine r_iload_n hG (hl0 := rfl) (hd := d_Ward_meanDirt_31) (K := ?_)
    refine r_i2d hG (hd := d_Ward_meanDirt_32) (K := ?_)
    refine r_ddiv hG (hne := ok.1) (hd := d_Ward_meanDirt_33) (K := ?_)
    refine r_dret hG d_Ward_meanDirt_34 ⟨(Nat.le_of_ble_eq_true rfl), (Nat.le_of_ble_eq_true rfl)⟩ ?_
    exact ⟨_, rfl, rfl, ok.2⟩
  · refine r_dconst0 hG (hd := d_Ward_meanDirt_21) (K := ?_)
    refine r_dret hG d_Ward_meanDirt_22 ⟨(Nat.le_of_ble_eq_true rfl), (Nat.le_of_ble_eq_true rfl)⟩ ?_
    exact ⟨_, rfl, rfl, by decide +kernel⟩
