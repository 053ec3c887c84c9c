/-! LEAVES: Pit, Furnace, Heap, Line, Baler -/
def pitIn (S : St) (a b : Int) : St := sU (sU (sU S 70 0 0 (S 70 0 0 + a)) 71 0 0 (S 71 0 0 + b)) 73 0 0 (S 73 0 0 + a / 10)
theorem ct_pitIn {Γ : Gm} {S : St} {a b : Int} (ha : 0 ≤ a ∧ a < 2147483648) : CT Γ y_Pit_takeIn b_Pit_takeIn 3 ((none : Option FieldType)) (rmx 1 0 0) [rf Γ 14 0, nt a, nt b] S (dX none (pitIn S a b)) := by
  refine CT.of (by first | exact plainFor_of_name (by rfl) | decide +kernel) (Nat.le_of_ble_eq_true rfl) ?_
  intro G hG
  show G (0, 0) 0 [(0, rf Γ 14 0), (1, nt a), (2, nt b)] [] _
  refine r_aload_n hG (hl0 := rfl) (hd := d_Pit_takeIn_0) (K := ?_)
  refine r_dup hG (hd := d_Pit_takeIn_1) (K := ?_)
  refine g_Pit_7 hG (hd := d_Pit_takeIn_2) (K := ?_)
  refine r_iload_n hG (hl0 := rfl) (hd := d_Pit_takeIn_5) (K := ?_)
  first | refine r_iadd hG (hd := d_Pit_takeIn_6) (K := ?_) | refine r_iaddr hG (hd := d_Pit_takeIn_6) (K := ?_)
  refine p_Pit_7 hG (hd := d_Pit_takeIn_7) (K := ?_)
  refine r_aload_n hG (hl0 := rfl) (hd := d_Pit_takeIn_10) (K := ?_)
  refine r_dup hG (hd := d_Pit_takeIn_11) (K := ?_)
  refine g_Pit_13 hG (hd := d_Pit_takeIn_12) (K := ?_)
  refine r_iload_n hG (hl0 := rfl) (hd := d_Pit_takeIn_15) (K := ?_)
  first | refine r_iadd hG (hd := d_Pit_takeIn_16) (K := ?_) | refine r_iaddr hG (hd := d_Pit_takeIn_16) (K := ?_)
  refine p_Pit_13 hG (hd := d_Pit_takeIn_17) (K := ?_)
  refine r_aload_n hG (hl0 := rfl) (hd := d_Pit_takeIn_20) (K := ?_)
  refine r_dup hG (hd := d_Pit_takeIn_21) (K := ?_)
  refine g_Pit_16 hG (hd := d_Pit_takeIn_22) (K := ?_)
  refine r_iload_n hG (hl0 := rfl) (hd := d_Pit_takeIn_25) (K := ?_)
  refine r_bipush hG (hd := d_Pit_takeIn_26) (K := ?_)
  refine r_idiv hG (hr0 := by first | omega | (simp [sU]; omega)) (hd := d_Pit_takeIn_28) (K := ?_)
  first | refine r_iadd hG (hd := d_Pit_takeIn_29) (K := ?_) | refine r_iaddr hG (hd := d_Pit_takeIn_29) (K := ?_)
  refine p_Pit_16 hG (hd := d_Pit_takeIn_30) (K := ?_)
  refine r_vret hG d_Pit_takeIn_33 ⟨(Nat.le_of_ble_eq_true rfl), (Nat.le_of_ble_eq_true rfl)⟩ ?_
  exact ⟨rfl, rfl⟩
def gasF (S : St) : St := sU (sU (sU S 72 0 0 (S 72 0 0 + S 71 0 0 / 50)) 71 0 0 (S 71 0 0 - S 71 0 0 / 50)) 70 0 0 (S 70 0 0 - S 71 0 0 / 50)
theorem ct_giveGas {Γ : Gm} {S : St} (ha : 0 ≤ S 71 0 0 ∧ S 71 0 0 < 2147483648) : CT Γ y_Pit_giveGas b_Pit_giveGas 2 ((none : Option FieldType)) (rmx 1 0 0) [rf Γ 14 0] S (dX none (gasF S)) := by
  refine CT.of (by first | exact plainFor_of_name (by rfl) | decide +kernel) (Nat.le_of_ble_eq_true rfl) ?_
  intro G hG
  show G (0, 0) 0 [(0, rf Γ 14 0)] [] _
  refine r_aload_n hG (hl0 := rfl) (hd := d_Pit_giveGas_0) (K := ?_)
  refine g_Pit_13 hG (hd := d_Pit_giveGas_1) (K := ?_)
  refine r_bipush hG (hd := d_Pit_giveGas_4) (K := ?_)
  refine r_idiv hG (hr0 := by first | omega | (simp [sU]; omega)) (hd := d_Pit_giveGas_6) (K := ?_)
  refine r_istore_n hG (hd := d_Pit_giveGas_7) (K := ?_)
  refine r_aload_n hG (hl0 := rfl) (hd := d_Pit_giveGas_8) (K := ?_)
  refine r_dup hG (hd := d_Pit_giveGas_9) (K := ?_)
  refine g_Pit_19 hG (hd := d_Pit_giveGas_10) (K := ?_)
  refine r_iload_n hG (hl0 := rfl) (hd := d_Pit_giveGas_13) (K := ?_)
  first | refine r_iadd hG (hd := d_Pit_giveGas_14) (K := ?_) | refine r_iaddr hG (hd := d_Pit_giveGas_14) (K := ?_)
  refine p_Pit_19 hG (hd := d_Pit_giveGas_15) (K := ?_)
  refine r_aload_n hG (hl0 := rfl) (hd := d_Pit_giveGas_18) (K := ?_)
  refine r_dup hG (hd := d_Pit_giveGas_19) (K := ?_)
  refine g_Pit_13 hG (hd := d_Pit_giveGas_20) (K := ?_)
  refine r_iload_n hG (hl0 := rfl) (hd := d_Pit_giveGas_23) (K := ?_)
  first | refine r_isub hG (hd := d_Pit_giveGas_24) (K := ?_) | refine r_isubr hG (hd := d_Pit_giveGas_24) (K := ?_)
  refine p_Pit_13 hG (hd := d_Pit_giveGas_25) (K := ?_)
  refine r_aload_n hG (hl0 := rfl) (hd := d_Pit_giveGas_28) (K := ?_)
  refine r_dup hG (hd := d_Pit_giveGas_29) (K := ?_)
  refine g_Pit_7 hG (hd := d_Pit_giveGas_30) (K := ?_)
  refine r_iload_n hG (hl0 := rfl) (hd := d_Pit_giveGas_33) (K := ?_)
  first | refine r_isub hG (hd := d_Pit_giveGas_34) (K := ?_) | refine r_isubr hG (hd := d_Pit_giveGas_34) (K := ?_)
  refine p_Pit_7 hG (hd := d_Pit_giveGas_35) (K := ?_)
  refine r_vret hG d_Pit_giveGas_38 ⟨(Nat.le_of_ble_eq_true rfl), (Nat.le_of_ble_eq_true rfl)⟩ ?_
  exact ⟨rfl, rfl⟩
theorem ct_furStart {Γ : Gm} {S : St} : CT Γ y_Furnace_startDay b_Furnace_startDay 1 ((none : Option FieldType)) (rmx 1 0 0) [rf Γ 12 0] S (dX none (sU S 61 0 0 (S 60 0 0))) := by
  refine CT.of (by first | exact plainFor_of_name (by rfl) | decide +kernel) (Nat.le_of_ble_eq_true rfl) ?_
  intro G hG
  show G (0, 0) 0 [(0, rf Γ 12 0)] [] _
  refine r_aload_n hG (hl0 := rfl) (hd := d_Furnace_startDay_0) (K := ?_)
  refine r_aload_n hG (hl0 := rfl) (hd := d_Furnace_startDay_1) (K := ?_)
  refine g_Furnace_7 hG (hd := d_Furnace_startDay_2) (K := ?_)
  refine p_Furnace_13 hG (hd := d_Furnace_startDay_5) (K := ?_)
  refine r_vret hG d_Furnace_startDay_8 ⟨(Nat.le_of_ble_eq_true rfl), (Nat.le_of_ble_eq_true rfl)⟩ ?_
  exact ⟨rfl, rfl⟩
/-- burnt: f of the load, with f = what may still burn -/
def burn1 (S : St) (f : Int) : St := sU (sU (sU (sU S 61 0 0 (S 61 0 0 - f)) 62 0 0 (S 62 0 0 + f)) 64 0 0 (S 64 0 0 + 3 * f)) 63 0 0 (S 63 0 0 + f / 4)
def burnF (S : St) (a : Int) : St := pitIn (pitIn (burn1 S (min a (S 61 0 0))) (min a (S 61 0 0) / 4) 0) (a - min a (S 61 0 0)) ((a - min a (S 61 0 0)) / 2)
theorem ct_burn {Γ : Gm} {S : St} {a : Int} (ha : 0 ≤ a ∧ a < 1000000) (hl : 0 ≤ S 61 0 0 ∧ S 61 0 0 < 1000000) : CT Γ y_Furnace_burn b_Furnace_burn 6 ((none : Option FieldType)) (rmx 2 0 0) [rf Γ 12 0, nt a, rf Γ 14 0] S (dX none (burnF S a)) := by
  refine CT.of (by first | exact plainFor_of_name (by rfl) | decide +kernel) (Nat.le_of_ble_eq_true rfl) ?_
  intro G hG
  show G (0, 0) 0 [(0, rf Γ 12 0), (1, nt a), (2, rf Γ 14 0)] [] _
  refine r_iload_n hG (hl0 := rfl) (hd := d_Furnace_burn_0) (K := ?_)
  refine r_aload_n hG (hl0 := rfl) (hd := d_Furnace_burn_1) (K := ?_)
  refine g_Furnace_13 hG (hd := d_Furnace_burn_2) (K := ?_)
  refine r_mmin hG w_Furnace_16 d_Furnace_burn_5 ⟨(Nat.le_of_ble_eq_true rfl), (Nat.le_of_ble_eq_true rfl)⟩ ⟨(Nat.le_of_ble_eq_true rfl), (Nat.le_of_ble_eq_true rfl)⟩ (by first | omega | (simp [sU]; omega)) ?_
  refine r_istore_n hG (hd := d_Furnace_burn_8) (K := ?_)
  refine r_aload_n hG (hl0 := rfl) (hd := d_Furnace_burn_9) (K := ?_)
  refine r_dup hG (hd := d_Furnace_burn_10) (K := ?_)
  refine g_Furnace_13 hG (hd := d_Furnace_burn_11) (K := ?_)
  refine r_iload_n hG (hl0 := rfl) (hd := d_Furnace_burn_14) (K := ?_)
  first | refine r_isub hG (hd := d_Furnace_burn_15) (K := ?_) | refine r_isubr hG (hd := d_Furnace_burn_15) (K := ?_)
  refine p_Furnace_13 hG (hd := d_Furnace_burn_16) (K := ?_)
  refine r_aload_n hG (hl0 := rfl) (hd := d_Furnace_burn_19) (K := ?_)
  refine r_dup hG (hd := d_Furnace_burn_20) (K := ?_)
  refine g_Furnace_22 hG (hd := d_Furnace_burn_21) (K := ?_)
  refine r_iload_n hG (hl0 := rfl) (hd := d_Furnace_burn_24) (K := ?_)
  first | refine r_iadd hG (hd := d_Furnace_burn_25) (K := ?_) | refine r_iaddr hG (hd := d_Furnace_burn_25) (K := ?_)
  refine p_Furnace_22 hG (hd := d_Furnace_burn_26) (K := ?_)
  refine r_aload_n hG (hl0 := rfl) (hd := d_Furnace_burn_29) (K := ?_)
  refine r_dup hG (hd := d_Furnace_burn_30) (K := ?_)
  refine g_Furnace_25 hG (hd := d_Furnace_burn_31) (K := ?_)
  refine r_iconst hG (hd := d_Furnace_burn_34) (K := ?_)
  refine r_iload_n hG (hl0 := rfl) (hd := d_Furnace_burn_35) (K := ?_)
  refine r_imul hG (hd := d_Furnace_burn_36) (K := ?_)
  first | refine r_iadd hG (hd := d_Furnace_burn_37) (K := ?_) | refine r_iaddr hG (hd := d_Furnace_burn_37) (K := ?_)
  refine p_Furnace_25 hG (hd := d_Furnace_burn_38) (K := ?_)
  refine r_iload_n hG (hl0 := rfl) (hd := d_Furnace_burn_41) (K := ?_)
  refine r_iconst hG (hd := d_Furnace_burn_42) (K := ?_)
  refine r_idiv hG (hr0 := by first | omega | (simp [sU]; omega)) (hd := d_Furnace_burn_43) (K := ?_)
  refine r_istore hG (hd := d_Furnace_burn_44) (K := ?_)
  refine r_aload_n hG (hl0 := rfl) (hd := d_Furnace_burn_46) (K := ?_)
  refine r_dup hG (hd := d_Furnace_burn_47) (K := ?_)
  refine g_Furnace_28 hG (hd := d_Furnace_burn_48) (K := ?_)
  refine r_iload hG (hl0 := rfl) (hd := d_Furnace_burn_51) (K := ?_)
  first | refine r_iadd hG (hd := d_Furnace_burn_53) (K := ?_) | refine r_iaddr hG (hd := d_Furnace_burn_53) (K := ?_)
  refine p_Furnace_28 hG (hd := d_Furnace_burn_54) (K := ?_)
  refine r_aload_n hG (hl0 := rfl) (hd := d_Furnace_burn_57) (K := ?_)
  refine r_iload hG (hl0 := rfl) (hd := d_Furnace_burn_58) (K := ?_)
  refine r_iconst hG (hd := d_Furnace_burn_60) (K := ?_)
  refine cVv hG w_Furnace_31 d_Furnace_burn_61 (ct_pitIn (by omega)) (by decide) (by decide) rc_14 rfl rfl ⟨(Nat.le_of_ble_eq_true rfl), (Nat.le_of_ble_eq_true rfl)⟩ ⟨(Nat.le_of_ble_eq_true rfl), (Nat.le_of_ble_eq_true rfl)⟩ (Nat.le_of_ble_eq_true rfl) ?_
  refine r_iload_n hG (hl0 := rfl) (hd := d_Furnace_burn_64) (K := ?_)
  refine r_iload_n hG (hl0 := rfl) (hd := d_Furnace_burn_65) (K := ?_)
  first | refine r_isub hG (hd := d_Furnace_burn_66) (K := ?_) | refine r_isubr hG (hd := d_Furnace_burn_66) (K := ?_)
  refine r_istore hG (hd := d_Furnace_burn_67) (K := ?_)
  refine r_aload_n hG (hl0 := rfl) (hd := d_Furnace_burn_69) (K := ?_)
  refine r_iload hG (hl0 := rfl) (hd := d_Furnace_burn_70) (K := ?_)
  refine r_iload hG (hl0 := rfl) (hd := d_Furnace_burn_72) (K := ?_)
  refine r_iconst hG (hd := d_Furnace_burn_74) (K := ?_)
  refine r_idiv hG (hr0 := by first | omega | (simp [sU]; omega)) (hd := d_Furnace_burn_75) (K := ?_)
  refine cVv hG w_Furnace_31 d_Furnace_burn_76 (ct_pitIn (by omega)) (by decide) (by decide) rc_14 rfl rfl ⟨(Nat.le_of_ble_eq_true rfl), (Nat.le_of_ble_eq_true rfl)⟩ ⟨(Nat.le_of_ble_eq_true rfl), (Nat.le_of_ble_eq_true rfl)⟩ (Nat.le_of_ble_eq_true rfl) ?_
  refine r_vret hG d_Furnace_burn_79 ⟨(Nat.le_of_ble_eq_true rfl), (Nat.le_of_ble_eq_true rfl)⟩ ?_
  exact ⟨rfl, rfl⟩
theorem ct_lineStart {Γ : Gm} {S : St} : CT Γ y_Line_startDay b_Line_startDay 1 ((none : Option FieldType)) (rmx 1 0 0) [rf Γ 8 0] S (dX none (sU S 47 0 0 (S 46 0 0))) := by
  refine CT.of (by first | exact plainFor_of_name (by rfl) | decide +kernel) (Nat.le_of_ble_eq_true rfl) ?_
  intro G hG
  show G (0, 0) 0 [(0, rf Γ 8 0)] [] _
  refine r_aload_n hG (hl0 := rfl) (hd := d_Line_startDay_0) (K := ?_)
  refine r_aload_n hG (hl0 := rfl) (hd := d_Line_startDay_1) (K := ?_)
  refine g_Line_13 hG (hd := d_Line_startDay_2) (K := ?_)
  refine p_Line_16 hG (hd := d_Line_startDay_5) (K := ?_)
  refine r_vret hG d_Line_startDay_8 ⟨(Nat.le_of_ble_eq_true rfl), (Nat.le_of_ble_eq_true rfl)⟩ ?_
  exact ⟨rfl, rfl⟩
def outF (S : St) (d : Int) : Int := d * S 45 0 0 / 100
def handF (S : St) (d : Int) : Int := min (d - outF S d) (S 47 0 0)
def lineF (S : St) (c d : Int) : St := sU (sU (sU S 47 0 0 (S 47 0 0 - handF S d)) 50 0 0 (S 50 0 0 + (c - c * 5 / 100))) 51 0 0 (S 51 0 0 + (d - outF S d - handF S d))
def lineR (S : St) (c d : Int) : Int := outF S d + handF S d + c * 5 / 100
theorem mul_bound {a b p q : Int} (ha : 0 ≤ a ∧ a ≤ p) (hb : 0 ≤ b ∧ b ≤ q) : 0 ≤ a * b ∧ a * b ≤ p * q := ⟨Int.mul_nonneg ha.1 hb.1, Int.mul_le_mul ha.2 hb.2 hb.1 (Int.le_trans ha.1 ha.2)⟩
theorem outF_in {S : St} {d : Int} (hd : 0 ≤ d ∧ d ≤ 1000) (he : 0 ≤ S 45 0 0 ∧ S 45 0 0 ≤ 100) : 0 ≤ outF S d ∧ outF S d ≤ d := by
  have h := mul_bound hd he
  have h2 : d * S 45 0 0 ≤ d * 100 := Int.mul_le_mul_of_nonneg_left he.2 hd.1
  unfold outF
  omega
theorem ct_sort {Γ : Gm} {S : St} {c d : Int} (hc : 0 ≤ c ∧ c ≤ 1000) (hd : 0 ≤ d ∧ d ≤ 1000) (he : 0 ≤ S 45 0 0 ∧ S 45 0 0 ≤ 100) (hh : 0 ≤ S 47 0 0 ∧ S 47 0 0 ≤ 1000) : CT Γ y_Line_sort b_Line_sort 7 ((some FieldType.int)) (rmx 2 0 0) [rf Γ 8 0, nt c, nt d, rf Γ 9 0] S (dX (some (nt (lineR S c d))) (lineF S c d)) := by
  have h := mul_bound hd he
  have h2 := outF_in hd he
  unfold outF at h2
  refine CT.of (by first | exact plainFor_of_name (by rfl) | decide +kernel) (Nat.le_of_ble_eq_true rfl) ?_
  intro G hG
  show G (0, 0) 0 [(0, rf Γ 8 0), (1, nt c), (2, nt d), (3, rf Γ 9 0)] [] _
  refine r_iload_n hG (hl0 := rfl) (hd := d_Line_sort_0) (K := ?_)
  refine r_aload_n hG (hl0 := rfl) (hd := d_Line_sort_1) (K := ?_)
  refine g_Line_7 hG (hd := d_Line_sort_2) (K := ?_)
  refine r_imul hG (hd := d_Line_sort_5) (K := ?_)
  refine r_bipush hG (hd := d_Line_sort_6) (K := ?_)
  refine r_idiv hG (hr0 := by first | omega | (simp [sU]; omega)) (hd := d_Line_sort_8) (K := ?_)
  refine r_istore hG (hd := d_Line_sort_9) (K := ?_)
  refine r_iload_n hG (hl0 := rfl) (hd := d_Line_sort_11) (K := ?_)
  refine r_iload hG (hl0 := rfl) (hd := d_Line_sort_12) (K := ?_)
  first | refine r_isub hG (hd := d_Line_sort_14) (K := ?_) | refine r_isubr hG (hd := d_Line_sort_14) (K := ?_)
  refine r_aload_n hG (hl0 := rfl) (hd := d_Line_sort_15) (K := ?_)
  refine g_Line_16 hG (hd := d_Line_sort_16) (K := ?_)
  refine r_mmin hG w_Line_19 d_Line_sort_19 ⟨(Nat.le_of_ble_eq_true rfl), (Nat.le_of_ble_eq_true rfl)⟩ ⟨(Nat.le_of_ble_eq_true rfl), (Nat.le_of_ble_eq_true rfl)⟩ (by first | omega | (simp [sU]; omega)) ?_
  refine r_istore hG (hd := d_Line_sort_22) (K := ?_)
  refine r_aload_n hG (hl0 := rfl) (hd := d_Line_sort_24) (K := ?_)
  refine r_dup hG (hd := d_Line_sort_25) (K := ?_)
  refine g_Line_16 hG (hd := d_Line_sort_26) (K := ?_)
  refine r_iload hG (hl0 := rfl) (hd := d_Line_sort_29) (K := ?_)
  first | refine r_isub hG (hd := d_Line_sort_31) (K := ?_) | refine r_isubr hG (hd := d_Line_sort_31) (K := ?_)
  refine p_Line_16 hG (hd := d_Line_sort_32) (K := ?_)
  refine r_iload_n hG (hl0 := rfl) (hd := d_Line_sort_35) (K := ?_)
  refine r_iconst hG (hd := d_Line_sort_36) (K := ?_)
  refine r_imul hG (hd := d_Line_sort_37) (K := ?_)
  refine r_bipush hG (hd := d_Line_sort_38) (K := ?_)
  refine r_idiv hG (hr0 := by first | omega | (simp [sU]; omega)) (hd := d_Line_sort_40) (K := ?_)
  refine r_istore hG (hd := d_Line_sort_41) (K := ?_)
  refine r_aload_n hG (hl0 := rfl) (hd := d_Line_sort_43) (K := ?_)
  refine r_dup hG (hd := d_Line_sort_44) (K := ?_)
  refine g_Line_25 hG (hd := d_Line_sort_45) (K := ?_)
  refine r_iload_n hG (hl0 := rfl) (hd := d_Line_sort_48) (K := ?_)
  refine r_iload hG (hl0 := rfl) (hd := d_Line_sort_49) (K := ?_)
  first | refine r_isub hG (hd := d_Line_sort_51) (K := ?_) | refine r_isubr hG (hd := d_Line_sort_51) (K := ?_)
  first | refine r_iadd hG (hd := d_Line_sort_52) (K := ?_) | refine r_iaddr hG (hd := d_Line_sort_52) (K := ?_)
  refine p_Line_25 hG (hd := d_Line_sort_53) (K := ?_)
  refine r_aload_n hG (hl0 := rfl) (hd := d_Line_sort_56) (K := ?_)
  refine r_dup hG (hd := d_Line_sort_57) (K := ?_)
  refine g_Line_30 hG (hd := d_Line_sort_58) (K := ?_)
  refine r_iload_n hG (hl0 := rfl) (hd := d_Line_sort_61) (K := ?_)
  refine r_iload hG (hl0 := rfl) (hd := d_Line_sort_62) (K := ?_)
  first | refine r_isub hG (hd := d_Line_sort_64) (K := ?_) | refine r_isubr hG (hd := d_Line_sort_64) (K := ?_)
  refine r_iload hG (hl0 := rfl) (hd := d_Line_sort_65) (K := ?_)
  first | refine r_isub hG (hd := d_Line_sort_67) (K := ?_) | refine r_isubr hG (hd := d_Line_sort_67) (K := ?_)
  first | refine r_iadd hG (hd := d_Line_sort_68) (K := ?_) | refine r_iaddr hG (hd := d_Line_sort_68) (K := ?_)
  refine p_Line_30 hG (hd := d_Line_sort_69) (K := ?_)
  refine r_iload hG (hl0 := rfl) (hd := d_Line_sort_72) (K := ?_)
  refine r_iload hG (hl0 := rfl) (hd := d_Line_sort_74) (K := ?_)
  first | refine r_iadd hG (hd := d_Line_sort_76) (K := ?_) | refine r_iaddr hG (hd := d_Line_sort_76) (K := ?_)
  refine r_iload hG (hl0 := rfl) (hd := d_Line_sort_77) (K := ?_)
  first | refine r_iadd hG (hd := d_Line_sort_79) (K := ?_) | refine r_iaddr hG (hd := d_Line_sort_79) (K := ?_)
  refine r_iret hG d_Line_sort_80 ⟨(Nat.le_of_ble_eq_true rfl), (Nat.le_of_ble_eq_true rfl)⟩ ?_
  exact ⟨rfl, rfl⟩
theorem ct_heapIn {Γ : Gm} {S : St} {a b : Int} : CT Γ y_Heap_takeIn b_Heap_takeIn 3 ((none : Option FieldType)) (rmx 1 0 0) [rf Γ 13 0, nt a, nt b] S (dX none (sU (sU (sU S 65 0 0 (S 65 0 0 + a)) 66 0 0 (S 66 0 0 + b)) 69 0 0 (S 69 0 0 + (a + b)))) := by
  refine CT.of (by first | exact plainFor_of_name (by rfl) | decide +kernel) (Nat.le_of_ble_eq_true rfl) ?_
  intro G hG
  show G (0, 0) 0 [(0, rf Γ 13 0), (1, nt a), (2, nt b)] [] _
  refine r_aload_n hG (hl0 := rfl) (hd := d_Heap_takeIn_0) (K := ?_)
  refine r_dup hG (hd := d_Heap_takeIn_1) (K := ?_)
  refine g_Heap_7 hG (hd := d_Heap_takeIn_2) (K := ?_)
  refine r_iload_n hG (hl0 := rfl) (hd := d_Heap_takeIn_5) (K := ?_)
  first | refine r_iadd hG (hd := d_Heap_takeIn_6) (K := ?_) | refine r_iaddr hG (hd := d_Heap_takeIn_6) (K := ?_)
  refine p_Heap_7 hG (hd := d_Heap_takeIn_7) (K := ?_)
  refine r_aload_n hG (hl0 := rfl) (hd := d_Heap_takeIn_10) (K := ?_)
  refine r_dup hG (hd := d_Heap_takeIn_11) (K := ?_)
  refine g_Heap_13 hG (hd := d_Heap_takeIn_12) (K := ?_)
  refine r_iload_n hG (hl0 := rfl) (hd := d_Heap_takeIn_15) (K := ?_)
  first | refine r_iadd hG (hd := d_Heap_takeIn_16) (K := ?_) | refine r_iaddr hG (hd := d_Heap_takeIn_16) (K := ?_)
  refine p_Heap_13 hG (hd := d_Heap_takeIn_17) (K := ?_)
  refine r_aload_n hG (hl0 := rfl) (hd := d_Heap_takeIn_20) (K := ?_)
  refine r_dup hG (hd := d_Heap_takeIn_21) (K := ?_)
  refine g_Heap_16 hG (hd := d_Heap_takeIn_22) (K := ?_)
  refine r_iload_n hG (hl0 := rfl) (hd := d_Heap_takeIn_25) (K := ?_)
  refine r_iload_n hG (hl0 := rfl) (hd := d_Heap_takeIn_26) (K := ?_)
  first | refine r_iadd hG (hd := d_Heap_takeIn_27) (K := ?_) | refine r_iaddr hG (hd := d_Heap_takeIn_27) (K := ?_)
  first | refine r_iadd hG (hd := d_Heap_takeIn_28) (K := ?_) | refine r_iaddr hG (hd := d_Heap_takeIn_28) (K := ?_)
  refine p_Heap_16 hG (hd := d_Heap_takeIn_29) (K := ?_)
  refine r_vret hG d_Heap_takeIn_32 ⟨(Nat.le_of_ble_eq_true rfl), (Nat.le_of_ble_eq_true rfl)⟩ ?_
  exact ⟨rfl, rfl⟩
theorem ct_bkilos {Γ : Gm} {S : St} : CT Γ y_Baler_kilos b_Baler_kilos 1 ((some FieldType.int)) (rmx 1 0 0) [rf Γ 9 0] S (dX (some (nt (S 50 0 0 + S 51 0 0))) S) := by
  refine CT.of (by first | exact plainFor_of_name (by rfl) | decide +kernel) (Nat.le_of_ble_eq_true rfl) ?_
  intro G hG
  show G (0, 0) 0 [(0, rf Γ 9 0)] [] _
  refine r_aload_n hG (hl0 := rfl) (hd := d_Baler_kilos_0) (K := ?_)
  refine g_Baler_18 hG (hd := d_Baler_kilos_1) (K := ?_)
  refine r_aload_n hG (hl0 := rfl) (hd := d_Baler_kilos_4) (K := ?_)
  refine g_Baler_22 hG (hd := d_Baler_kilos_5) (K := ?_)
  first | refine r_iadd hG (hd := d_Baler_kilos_8) (K := ?_) | refine r_iaddr hG (hd := d_Baler_kilos_8) (K := ?_)
  refine r_iret hG d_Baler_kilos_9 ⟨(Nat.le_of_ble_eq_true rfl), (Nat.le_of_ble_eq_true rfl)⟩ ?_
  exact ⟨rfl, rfl⟩
def unpF (S : St) (b : Nat) : St := sU (sU (sU (sU (sU S 50 0 0 (S 50 0 0 + S 55 b 0)) 51 0 0 (S 51 0 0 + S 56 b 0)) 55 b 0 0) 56 b 0 0) 57 b 0 3
theorem ct_unpack {Γ : Gm} {S : St} {b : Nat} (hb : b < 20) : CT Γ y_Baler_unpack b_Baler_unpack 2 ((none : Option FieldType)) (rmx 1 0 0) [rf Γ 9 0, rf Γ 11 b] S (dX none (unpF S b)) := by
  refine CT.of (by first | exact plainFor_of_name (by rfl) | decide +kernel) (Nat.le_of_ble_eq_true rfl) ?_
  intro G hG
  show G (0, 0) 0 [(0, rf Γ 9 0), (1, rf Γ 11 b)] [] _
  refine r_aload_n hG (hl0 := rfl) (hd := d_Baler_unpack_0) (K := ?_)
  refine r_dup hG (hd := d_Baler_unpack_1) (K := ?_)
  refine g_Baler_18 hG (hd := d_Baler_unpack_2) (K := ?_)
  refine r_aload_n hG (hl0 := rfl) (hd := d_Baler_unpack_5) (K := ?_)
  refine g_Baler_33 hG (hi := by omega) (hd := d_Baler_unpack_6) (K := ?_)
  first | refine r_iadd hG (hd := d_Baler_unpack_9) (K := ?_) | refine r_iaddr hG (hd := d_Baler_unpack_9) (K := ?_)
  refine p_Baler_18 hG (hd := d_Baler_unpack_10) (K := ?_)
  refine r_aload_n hG (hl0 := rfl) (hd := d_Baler_unpack_13) (K := ?_)
  refine r_dup hG (hd := d_Baler_unpack_14) (K := ?_)
  refine g_Baler_22 hG (hd := d_Baler_unpack_15) (K := ?_)
  refine r_aload_n hG (hl0 := rfl) (hd := d_Baler_unpack_18) (K := ?_)
  refine g_Baler_32 hG (hi := by omega) (hd := d_Baler_unpack_19) (K := ?_)
  first | refine r_iadd hG (hd := d_Baler_unpack_22) (K := ?_) | refine r_iaddr hG (hd := d_Baler_unpack_22) (K := ?_)
  refine p_Baler_22 hG (hd := d_Baler_unpack_23) (K := ?_)
  refine r_aload_n hG (hl0 := rfl) (hd := d_Baler_unpack_26) (K := ?_)
  refine r_iconst hG (hd := d_Baler_unpack_27) (K := ?_)
  refine p_Baler_33 hG (hi := by omega) (hd := d_Baler_unpack_28) (K := ?_)
  refine r_aload_n hG (hl0 := rfl) (hd := d_Baler_unpack_31) (K := ?_)
  refine r_iconst hG (hd := d_Baler_unpack_32) (K := ?_)
  refine p_Baler_32 hG (hi := by omega) (hd := d_Baler_unpack_33) (K := ?_)
  refine r_aload_n hG (hl0 := rfl) (hd := d_Baler_unpack_36) (K := ?_)
  refine r_iconst hG (hd := d_Baler_unpack_37) (K := ?_)
  refine p_Baler_37 hG (hi := by omega) (hd := d_Baler_unpack_38) (K := ?_)
  refine r_vret hG d_Baler_unpack_41 ⟨(Nat.le_of_ble_eq_true rfl), (Nat.le_of_ble_eq_true rfl)⟩ ?_
  exact ⟨rfl, rfl⟩
def cntIn (S : St) (s : Int) : Nat → Int
  | 0 => 0
  | k + 1 => cntIn S s k + (if S 57 k 0 = s then 1 else 0)
theorem ct_countIn {Γ : Gm} {S : St} {s : Int} {n : Nat} (hn : S 52 0 0 = (n : Int)) (hn20 : n ≤ 20) (hs : 0 ≤ s ∧ s ≤ 3) (hb : ∀ b, b < 20 → 0 ≤ S 57 b 0 ∧ S 57 b 0 ≤ 3) : CT Γ y_Baler_countIn b_Baler_countIn 4 ((some FieldType.int)) (rmx 1 0 0) [rf Γ 9 0, nt s] S (dX (some (nt (cntIn S s n))) S) := by
  refine CT.of (by first | exact plainFor_of_name (by rfl) | decide +kernel) (Nat.le_of_ble_eq_true rfl) ?_
  intro G hG
  show G (0, 0) 0 [(0, rf Γ 9 0), (1, nt s)] [] _
  refine r_iconst hG (hd := d_Baler_countIn_0) (K := ?_)
  refine r_istore_n hG (hd := d_Baler_countIn_1) (K := ?_)
  refine r_iconst hG (hd := d_Baler_countIn_2) (K := ?_)
  refine r_istore_n hG (hd := d_Baler_countIn_3) (K := ?_)
  have loop : ∀ m i : Nat, i + m = n → G (0, 0) 4 [(0, rf Γ 9 0), (1, nt s), (2, nt (cntIn S s i)), (3, nt i)] [] S := by
    intro m
    induction m with
    | zero =>
      intro i hi
      have hin : i = n := by omega
      subst hin
      refine r_iload_n hG (hl0 := rfl) (hd := d_Baler_countIn_4) (K := ?_)
      refine r_aload_n hG (hl0 := rfl) (hd := d_Baler_countIn_5) (K := ?_)
      refine g_Baler_25 hG (hd := d_Baler_countIn_6) (K := ?_)
      refine r_icmp_ge hG (hd := d_Baler_countIn_9) (kt := fun _ => ?_) (kf := fun hh => absurd hh (by omega))
      refine r_iload_n hG (hl0 := rfl) (hd := d_Baler_countIn_34) (K := ?_)
      refine r_iret hG d_Baler_countIn_35 ⟨(Nat.le_of_ble_eq_true rfl), (Nat.le_of_ble_eq_true rfl)⟩ ?_
      exact ⟨rfl, rfl⟩
    | succ m ih =>
      intro i hi
      have h57 := hb i (by omega)
      refine r_iload_n hG (hl0 := rfl) (hd := d_Baler_countIn_4) (K := ?_)
      refine r_aload_n hG (hl0 := rfl) (hd := d_Baler_countIn_5) (K := ?_)
      refine g_Baler_25 hG (hd := d_Baler_countIn_6) (K := ?_)
      refine r_icmp_ge hG (hd := d_Baler_countIn_9) (kt := fun hh => absurd hh (by omega)) (kf := fun _ => ?_)
      refine r_aload_n hG (hl0 := rfl) (hd := d_Baler_countIn_12) (K := ?_)
      refine g_Baler_11 hG (hd := d_Baler_countIn_13) (K := ?_)
      refine r_iload_n hG (hl0 := rfl) (hd := d_Baler_countIn_16) (K := ?_)
      first | refine a_1 hG (hd := d_Baler_countIn_17) (hz := rfl) (hj := by omega) (hi := by omega) (K := ?_) | refine a_2 hG (hd := d_Baler_countIn_17) (hz := rfl) (hj := by omega) (hi := by omega) (K := ?_) | refine a_10 hG (hd := d_Baler_countIn_17) (hz := rfl) (hj := by omega) (hi := by omega) (K := ?_) | refine r_aald22 hG (hd := d_Baler_countIn_17) (hz := rfl) (hj := by omega) (hi := by omega) (K := ?_)
      refine g_Baler_37 hG (hi := by omega) (hd := d_Baler_countIn_18) (K := ?_)
      refine r_iload_n hG (hl0 := rfl) (hd := d_Baler_countIn_21) (K := ?_)
      refine r_icmp_ne hG (hd := d_Baler_countIn_22) (kt := fun h => ?_) (kf := fun h => ?_)
      · have e : cntIn S s (i + 1) = cntIn S s i := by simp [cntIn, h]
        refine r_iinc hG (hl0 := rfl) (hd := d_Baler_countIn_28) (K := ?_)
        refine r_goto hG (hd := d_Baler_countIn_31) (K := ?_)
        have q := ih (i + 1) (by omega)
        rw [e] at q
        exact r_sb hG (q) ⟨rfl, rfl, rfl, rfl, trivial⟩
      · have e : cntIn S s (i + 1) = cntIn S s i + 1 := by simp [cntIn, h]
        refine r_iinc hG (hl0 := rfl) (hd := d_Baler_countIn_25) (K := ?_)
        refine r_iinc hG (hl0 := rfl) (hd := d_Baler_countIn_28) (K := ?_)
        refine r_goto hG (hd := d_Baler_countIn_31) (K := ?_)
        have q := ih (i + 1) (by omega)
        rw [e] at q
        exact r_sb hG (q) ⟨rfl, rfl, rfl, rfl, trivial⟩
  exact r_sb hG (loop n 0 (by omega)) ⟨rfl, rfl, rfl, rfl, trivial⟩
