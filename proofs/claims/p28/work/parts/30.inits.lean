/-! THE CONSTRUCTORS -/
def ia (Γ : Gm) (N : Nat) : va_E := .inl (gC Γ 0, N, .inl (fun _ => iI 0))
def ob (Γ : Gm) (k : Nat) : Value := .ref (gB Γ + k)
theorem ck_Bale {Γ : Gm} {k : Nat} {S : WX} (h0 : S.1 k = .inr (0, z_Bale)) (hk : k < S.2) : CK Γ y_Bale_init b_Bale_init 1 (rmx 1 0 0) [ob Γ k] S (fun S' => S'.2 = S.2 ∧ S'.1 k = .inr (0, z_Bale) ∧ ∀ q, q ≠ k → S'.1 q = S.1 q) := by
  refine CK.of (by first | exact plainFor_of_name (by rfl) | decide +kernel) rfl (Nat.le_of_ble_eq_true rfl) ?_
  intro G hG
  show G (0, 0) 0 [(0, ob Γ k)] [] _
  refine k_aload_n hG (hl0 := rfl) (hd := d_Bale_init_0) (K := ?_)
  refine k_obj hG (m_T1 (i := 127) (by decide +kernel) (by decide +kernel)) d_Bale_init_1 ⟨Nat.le_of_ble_eq_true rfl, Nat.le_of_ble_eq_true rfl⟩ ?_
  refine k_aload_n hG (hl0 := rfl) (hd := d_Bale_init_4) (K := ?_)
  refine k_iconst hG (hd := d_Bale_init_5) (K := ?_)
  refine k_put hG (k := k) d_Bale_init_6 (h0) rfl i_Bale t_Bale_ok n_Bale (j := 2) (by decide) rfl (m_T1 (i := 132) (by decide +kernel) (by decide +kernel)) (Or.inl rfl) (t_Bale_ok 2 (by decide)) rfl rfl (by simp [z_Bale]) (by first|omega|(dsimp only; omega)) (by first|rfl|(dsimp only; omega)) ?_
  refine k_vret hG d_Bale_init_9 ⟨by first|exact Nat.le_of_ble_eq_true rfl|(simp [rmx]; omega), by first|exact Nat.le_of_ble_eq_true rfl|(simp [rmx]; omega)⟩ ?_
  exact ⟨rfl, upk_eq, fun q hq => upk_ne hq⟩
theorem ck_Furnace {Γ : Gm} {k : Nat} {S : WX} (h0 : S.1 k = .inr (3, z_Furnace)) (hk : k < S.2) : CK Γ y_Furnace_init b_Furnace_init 1 (rmx 1 0 0) [ob Γ k] S (fun S' => S'.2 = S.2 ∧ S'.1 k = .inr (3, [nt 50, nt 0, nt 0, nt 0, nt 0]) ∧ ∀ q, q ≠ k → S'.1 q = S.1 q) := by
  refine CK.of (by first | exact plainFor_of_name (by rfl) | decide +kernel) rfl (Nat.le_of_ble_eq_true rfl) ?_
  intro G hG
  show G (0, 0) 0 [(0, ob Γ k)] [] _
  refine k_aload_n hG (hl0 := rfl) (hd := d_Furnace_init_0) (K := ?_)
  refine k_obj hG (m_T1 (i := 170) (by decide +kernel) (by decide +kernel)) d_Furnace_init_1 ⟨Nat.le_of_ble_eq_true rfl, Nat.le_of_ble_eq_true rfl⟩ ?_
  refine k_aload_n hG (hl0 := rfl) (hd := d_Furnace_init_4) (K := ?_)
  refine k_bipush hG (hd := d_Furnace_init_5) (K := ?_)
  refine k_put hG (k := k) d_Furnace_init_7 (h0) rfl i_Furnace t_Furnace_ok n_Furnace (j := 0) (by decide) rfl (m_T1 (i := 171) (by decide +kernel) (by decide +kernel)) (Or.inl rfl) (t_Furnace_ok 0 (by decide)) rfl rfl (by simp [z_Furnace]) (by first|omega|(dsimp only; omega)) (by first|rfl|(dsimp only; omega)) ?_
  refine k_vret hG d_Furnace_init_10 ⟨by first|exact Nat.le_of_ble_eq_true rfl|(simp [rmx]; omega), by first|exact Nat.le_of_ble_eq_true rfl|(simp [rmx]; omega)⟩ ?_
  exact ⟨rfl, upk_eq, fun q hq => upk_ne hq⟩
theorem ck_Line {Γ : Gm} {k : Nat} {S : WX} (h0 : S.1 k = .inr (5, z_Line)) (hk : k < S.2) : CK Γ y_Line_init b_Line_init 1 (rmx 1 0 0) [ob Γ k] S (fun S' => S'.2 = S.2 ∧ S'.1 k = .inr (5, [nt 60, nt 0, nt 0]) ∧ ∀ q, q ≠ k → S'.1 q = S.1 q) := by
  refine CK.of (by first | exact plainFor_of_name (by rfl) | decide +kernel) rfl (Nat.le_of_ble_eq_true rfl) ?_
  intro G hG
  show G (0, 0) 0 [(0, ob Γ k)] [] _
  refine k_aload_n hG (hl0 := rfl) (hd := d_Line_init_0) (K := ?_)
  refine k_obj hG (m_T1 (i := 102) (by decide +kernel) (by decide +kernel)) d_Line_init_1 ⟨Nat.le_of_ble_eq_true rfl, Nat.le_of_ble_eq_true rfl⟩ ?_
  refine k_aload_n hG (hl0 := rfl) (hd := d_Line_init_4) (K := ?_)
  refine k_bipush hG (hd := d_Line_init_5) (K := ?_)
  refine k_put hG (k := k) d_Line_init_7 (h0) rfl i_Line t_Line_ok n_Line (j := 0) (by decide) rfl (m_T1 (i := 103) (by decide +kernel) (by decide +kernel)) (Or.inl rfl) (t_Line_ok 0 (by decide)) rfl rfl (by simp [z_Line]) (by first|omega|(dsimp only; omega)) (by first|rfl|(dsimp only; omega)) ?_
  refine k_vret hG d_Line_init_10 ⟨by first|exact Nat.le_of_ble_eq_true rfl|(simp [rmx]; omega), by first|exact Nat.le_of_ble_eq_true rfl|(simp [rmx]; omega)⟩ ?_
  exact ⟨rfl, upk_eq, fun q hq => upk_ne hq⟩
theorem ck_Heap {Γ : Gm} {k : Nat} {S : WX} : CK Γ y_Heap_init b_Heap_init 1 (rmx 1 0 0) [ob Γ k] S (fun S' => S' = S) := by
  refine CK.of (by first | exact plainFor_of_name (by rfl) | decide +kernel) rfl (Nat.le_of_ble_eq_true rfl) ?_
  intro G hG
  show G (0, 0) 0 [(0, ob Γ k)] [] _
  refine k_aload_n hG (hl0 := rfl) (hd := d_Heap_init_0) (K := ?_)
  refine k_obj hG (m_T1 (i := 196) (by decide +kernel) (by decide +kernel)) d_Heap_init_1 ⟨Nat.le_of_ble_eq_true rfl, Nat.le_of_ble_eq_true rfl⟩ ?_
  refine k_vret hG d_Heap_init_4 ⟨by first|exact Nat.le_of_ble_eq_true rfl|(simp [rmx]; omega), by first|exact Nat.le_of_ble_eq_true rfl|(simp [rmx]; omega)⟩ ?_
  exact rfl
theorem ck_Pit {Γ : Gm} {k : Nat} {S : WX} : CK Γ y_Pit_init b_Pit_init 1 (rmx 1 0 0) [ob Γ k] S (fun S' => S' = S) := by
  refine CK.of (by first | exact plainFor_of_name (by rfl) | decide +kernel) rfl (Nat.le_of_ble_eq_true rfl) ?_
  intro G hG
  show G (0, 0) 0 [(0, ob Γ k)] [] _
  refine k_aload_n hG (hl0 := rfl) (hd := d_Pit_init_0) (K := ?_)
  refine k_obj hG (m_T1 (i := 223) (by decide +kernel) (by decide +kernel)) d_Pit_init_1 ⟨Nat.le_of_ble_eq_true rfl, Nat.le_of_ble_eq_true rfl⟩ ?_
  refine k_vret hG d_Pit_init_4 ⟨by first|exact Nat.le_of_ble_eq_true rfl|(simp [rmx]; omega), by first|exact Nat.le_of_ble_eq_true rfl|(simp [rmx]; omega)⟩ ?_
  exact rfl
theorem ck_Search {Γ : Gm} {k : Nat} {S : WX} : CK Γ y_Search_init b_Search_init 1 (rmx 1 0 0) [ob Γ k] S (fun S' => S' = S) := by
  refine CK.of (by first | exact plainFor_of_name (by rfl) | decide +kernel) rfl (Nat.le_of_ble_eq_true rfl) ?_
  intro G hG
  show G (0, 0) 0 [(0, ob Γ k)] [] _
  refine k_aload_n hG (hl0 := rfl) (hd := d_Search_init_0) (K := ?_)
  refine k_obj hG (m_T1 (i := 74) (by decide +kernel) (by decide +kernel)) d_Search_init_1 ⟨Nat.le_of_ble_eq_true rfl, Nat.le_of_ble_eq_true rfl⟩ ?_
  refine k_vret hG d_Search_init_4 ⟨by first|exact Nat.le_of_ble_eq_true rfl|(simp [rmx]; omega), by first|exact Nat.le_of_ble_eq_true rfl|(simp [rmx]; omega)⟩ ?_
  exact rfl
theorem ck_Diary {Γ : Gm} {k : Nat} {w : Nat → va_E} (h0 : w k = .inr (2, z_Diary)) : CK Γ y_Diary_init b_Diary_init 1 (rmx 1 1 32) [ob Γ k] (w, k + 1) (fun S' => S'.2 = k + 2 ∧ S'.1 k = .inr (2, [ob Γ (k + 1)]) ∧ S'.1 (k + 1) = ia Γ 32 ∧ ∀ q, q < k → S'.1 q = w q) := by
  refine CK.of (by first | exact plainFor_of_name (by rfl) | decide +kernel) rfl (Nat.le_of_ble_eq_true rfl) ?_
  intro G hG
  show G (0, 0) 0 [(0, ob Γ k)] [] _
  refine k_aload_n hG (hl0 := rfl) (hd := d_Diary_init_0) (K := ?_)
  refine k_obj hG (m_T1 (i := 92) (by decide +kernel) (by decide +kernel)) d_Diary_init_1 ⟨Nat.le_of_ble_eq_true rfl, Nat.le_of_ble_eq_true rfl⟩ ?_
  refine k_aload_n hG (hl0 := rfl) (hd := d_Diary_init_4) (K := ?_)
  refine k_bipush hG (hd := d_Diary_init_5) (K := ?_)
  refine k_newa hG 32 rfl (by decide) d_Diary_init_7 ⟨by first|exact Nat.le_of_ble_eq_true rfl|(simp [rmx]; omega), by first|exact Nat.le_of_ble_eq_true rfl|(simp [rmx]; omega)⟩ ?_
  refine k_put hG (k := k) d_Diary_init_9 ((upk_ne (by omega)).trans h0) rfl i_Diary t_Diary_ok n_Diary (j := 0) (by decide) rfl (m_T1 (i := 93) (by decide +kernel) (by decide +kernel)) (Or.inl rfl) (t_Diary_ok 0 (by decide)) rfl rfl (by simp [z_Diary]) (by first|omega|(dsimp only; omega)) (by first|rfl|(dsimp only; omega)) ?_
  refine k_vret hG d_Diary_init_12 ⟨by first|exact Nat.le_of_ble_eq_true rfl|(simp [rmx]; omega), by first|exact Nat.le_of_ble_eq_true rfl|(simp [rmx]; omega)⟩ ?_
  exact ⟨rfl, upk_eq, (upk_ne (by omega)).trans upk_eq, fun q hq => (upk_ne (by omega)).trans (upk_ne (by omega))⟩
theorem ck_Trip {Γ : Gm} {k : Nat} {w : Nat → va_E} (h0 : w k = .inr (10, z_Trip)) : CK Γ y_Trip_init b_Trip_init 1 (rmx 1 2 4) [ob Γ k] (w, k + 1) (fun S' => S'.2 = k + 3 ∧ S'.1 k = .inr (10, [ob Γ (k + 1), ob Γ (k + 2), nt 0, nt 0, nt 0, nt 0]) ∧ S'.1 (k + 1) = ia Γ 2 ∧ S'.1 (k + 2) = ia Γ 2 ∧ ∀ q, q < k → S'.1 q = w q) := by
  refine CK.of (by first | exact plainFor_of_name (by rfl) | decide +kernel) rfl (Nat.le_of_ble_eq_true rfl) ?_
  intro G hG
  show G (0, 0) 0 [(0, ob Γ k)] [] _
  refine k_aload_n hG (hl0 := rfl) (hd := d_Trip_init_0) (K := ?_)
  refine k_obj hG (m_T1 (i := 40) (by decide +kernel) (by decide +kernel)) d_Trip_init_1 ⟨Nat.le_of_ble_eq_true rfl, Nat.le_of_ble_eq_true rfl⟩ ?_
  refine k_aload_n hG (hl0 := rfl) (hd := d_Trip_init_4) (K := ?_)
  refine k_iconst hG (hd := d_Trip_init_5) (K := ?_)
  refine k_newa hG 2 rfl (by decide) d_Trip_init_6 ⟨by first|exact Nat.le_of_ble_eq_true rfl|(simp [rmx]; omega), by first|exact Nat.le_of_ble_eq_true rfl|(simp [rmx]; omega)⟩ ?_
  refine k_put hG (k := k) d_Trip_init_8 ((upk_ne (by omega)).trans h0) rfl i_Trip t_Trip_ok n_Trip (j := 0) (by decide) rfl (m_T1 (i := 41) (by decide +kernel) (by decide +kernel)) (Or.inr ⟨rfl, rfl, by decide⟩) (t_Trip_ok 0 (by decide)) rfl rfl (by simp [z_Trip]) (by first|omega|(dsimp only; omega)) (by first|rfl|(dsimp only; omega)) ?_
  refine k_aload_n hG (hl0 := rfl) (hd := d_Trip_init_11) (K := ?_)
  refine k_iconst hG (hd := d_Trip_init_12) (K := ?_)
  refine k_newa hG 2 rfl (by decide) d_Trip_init_13 ⟨by first|exact Nat.le_of_ble_eq_true rfl|(simp [rmx]; omega), by first|exact Nat.le_of_ble_eq_true rfl|(simp [rmx]; omega)⟩ ?_
  refine k_put hG (k := k) d_Trip_init_15 ((upk_ne (by show k ≠ k + 1 + 1; omega)).trans upk_eq) rfl i_Trip t_Trip_ok n_Trip (j := 1) (by decide) rfl (m_T1 (i := 43) (by decide +kernel) (by decide +kernel)) (Or.inr ⟨rfl, rfl, by decide⟩) (t_Trip_ok 1 (by decide)) rfl rfl (by simp [z_Trip]) (by first|omega|(dsimp only; omega)) (by first|rfl|(dsimp only; omega)) ?_
  refine k_vret hG d_Trip_init_18 ⟨by first|exact Nat.le_of_ble_eq_true rfl|(simp [rmx]; omega), by first|exact Nat.le_of_ble_eq_true rfl|(simp [rmx]; omega)⟩ ?_
  refine ⟨rfl, upk_eq, ?_, ?_, fun q hq => ?_⟩
  · show upk _ _ _ _ = _
    simp [upk, ia]
  · show upk _ _ _ _ = _
    simp [upk, ia]
  · show upk _ _ _ _ = _
    simp [upk, show q ≠ k by omega, show q ≠ k + 1 by omega, show q ≠ k + 1 + 1 by omega]
theorem ck_Street {Γ : Gm} {k : Nat} {w : Nat → va_E} (h0 : w k = .inr (9, z_Street)) : CK Γ y_Street_init b_Street_init 1 (rmx 1 4 12) [ob Γ k] (w, k + 1) (fun S' => S'.2 = k + 5 ∧ S'.1 k = .inr (9, [nt 0, nt 0, nt 0, ob Γ (k + 1), ob Γ (k + 2), ob Γ (k + 3), ob Γ (k + 4), nt 0, nt 0]) ∧ (∀ i, i < 4 → S'.1 (k + 1 + i) = ia Γ 3) ∧ ∀ q, q < k → S'.1 q = w q) := by
  refine CK.of (by first | exact plainFor_of_name (by rfl) | decide +kernel) rfl (Nat.le_of_ble_eq_true rfl) ?_
  intro G hG
  show G (0, 0) 0 [(0, ob Γ k)] [] _
  refine k_aload_n hG (hl0 := rfl) (hd := d_Street_init_0) (K := ?_)
  refine k_obj hG (m_T2 (i := 5) (by decide +kernel) (by decide +kernel)) d_Street_init_1 ⟨Nat.le_of_ble_eq_true rfl, Nat.le_of_ble_eq_true rfl⟩ ?_
  refine k_aload_n hG (hl0 := rfl) (hd := d_Street_init_4) (K := ?_)
  refine k_iconst hG (hd := d_Street_init_5) (K := ?_)
  refine k_newa hG 3 rfl (by decide) d_Street_init_6 ⟨by first|exact Nat.le_of_ble_eq_true rfl|(simp [rmx]; omega), by first|exact Nat.le_of_ble_eq_true rfl|(simp [rmx]; omega)⟩ ?_
  refine k_put hG (k := k) d_Street_init_8 ((upk_ne (by omega)).trans h0) rfl i_Street t_Street_ok n_Street (j := 3) (by decide) rfl (m_T2 (i := 14) (by decide +kernel) (by decide +kernel)) (Or.inr ⟨rfl, rfl, by decide⟩) (t_Street_ok 3 (by decide)) rfl rfl (by simp [z_Street]) (by first|omega|(dsimp only; omega)) (by first|rfl|(dsimp only; omega)) ?_
  refine k_aload_n hG (hl0 := rfl) (hd := d_Street_init_11) (K := ?_)
  refine k_iconst hG (hd := d_Street_init_12) (K := ?_)
  refine k_newa hG 3 rfl (by decide) d_Street_init_13 ⟨by first|exact Nat.le_of_ble_eq_true rfl|(simp [rmx]; omega), by first|exact Nat.le_of_ble_eq_true rfl|(simp [rmx]; omega)⟩ ?_
  refine k_put hG (k := k) d_Street_init_15 ((upk_ne (by show k ≠ k + 1 + 1; omega)).trans upk_eq) rfl i_Street t_Street_ok n_Street (j := 4) (by decide) rfl (m_T2 (i := 16) (by decide +kernel) (by decide +kernel)) (Or.inr ⟨rfl, rfl, by decide⟩) (t_Street_ok 4 (by decide)) rfl rfl (by simp [z_Street]) (by first|omega|(dsimp only; omega)) (by first|rfl|(dsimp only; omega)) ?_
  refine k_aload_n hG (hl0 := rfl) (hd := d_Street_init_18) (K := ?_)
  refine k_iconst hG (hd := d_Street_init_19) (K := ?_)
  refine k_newa hG 3 rfl (by decide) d_Street_init_20 ⟨by first|exact Nat.le_of_ble_eq_true rfl|(simp [rmx]; omega), by first|exact Nat.le_of_ble_eq_true rfl|(simp [rmx]; omega)⟩ ?_
  refine k_put hG (k := k) d_Street_init_22 ((upk_ne (by show k ≠ k + 1 + 1 + 1; omega)).trans upk_eq) rfl i_Street t_Street_ok n_Street (j := 5) (by decide) rfl (m_T2 (i := 19) (by decide +kernel) (by decide +kernel)) (Or.inr ⟨rfl, rfl, by decide⟩) (t_Street_ok 5 (by decide)) rfl rfl (by simp [z_Street]) (by first|omega|(dsimp only; omega)) (by first|rfl|(dsimp only; omega)) ?_
  refine k_aload_n hG (hl0 := rfl) (hd := d_Street_init_25) (K := ?_)
  refine k_iconst hG (hd := d_Street_init_26) (K := ?_)
  refine k_newa hG 3 rfl (by decide) d_Street_init_27 ⟨by first|exact Nat.le_of_ble_eq_true rfl|(simp [rmx]; omega), by first|exact Nat.le_of_ble_eq_true rfl|(simp [rmx]; omega)⟩ ?_
  refine k_put hG (k := k) d_Street_init_29 ((upk_ne (by show k ≠ k + 1 + 1 + 1 + 1; omega)).trans upk_eq) rfl i_Street t_Street_ok n_Street (j := 6) (by decide) rfl (m_T2 (i := 22) (by decide +kernel) (by decide +kernel)) (Or.inr ⟨rfl, rfl, by decide⟩) (t_Street_ok 6 (by decide)) rfl rfl (by simp [z_Street]) (by first|omega|(dsimp only; omega)) (by first|rfl|(dsimp only; omega)) ?_
  refine k_vret hG d_Street_init_32 ⟨by first|exact Nat.le_of_ble_eq_true rfl|(simp [rmx]; omega), by first|exact Nat.le_of_ble_eq_true rfl|(simp [rmx]; omega)⟩ ?_
  refine ⟨rfl, upk_eq, fun i hi => ?_, fun q hq => ?_⟩
  · show upk _ _ _ _ = _
    rcases (show i = 0 ∨ i = 1 ∨ i = 2 ∨ i = 3 by omega) with rfl | rfl | rfl | rfl <;> simp [upk, ia, Nat.add_assoc]
  · show upk _ _ _ _ = _
    simp [upk, show q ≠ k by omega, show q ≠ k + 1 by omega, show q ≠ k + 1 + 1 by omega, show q ≠ k + 1 + 1 + 1 by omega, show q ≠ k + 1 + 1 + 1 + 1 by omega]
