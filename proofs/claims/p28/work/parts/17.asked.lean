/-! WHAT ONE ASKS -/
def stF (S : St) (t w : Nat) : Int := match w with
  | 0 => S 10 t 0
  | 1 => S 11 t 0
  | 2 => S 12 t 0
  | 3 => S 15 t 0
  | 4 => S 15 t 1
  | 5 => S 15 t 2
  | 6 => S 16 t 0
  | 7 => S 16 t 1
  | 8 => S 16 t 2
  | 9 => S 17 t 1
  | 10 => S 17 t 2
  | 11 => 3 * S 18 t 0 + S 18 t 2 - 2 * S 13 t 0
  | _ => S 14 t 0
theorem ct_ofStreet {Γ : Gm} {S : St} {n k w : Nat} (hn : S 0 0 0 = (n : Int)) (hn6 : n ≤ 6) (hk : k < n) (hw : w < 13) : CT Γ y_Ward_ofStreet b_Ward_ofStreet 4 ((some FieldType.int)) (rmx 3 0 0) [rf Γ 0 0, nt k, nt w] S (dX (some (nt (stF S (2 * k) w))) S) := by
  match w, hw with
  | 0, _ =>
    refine CT.of (by first | exact plainFor_of_name (by rfl) | decide +kernel) (Nat.le_of_ble_eq_true rfl) ?_
    intro G hG
    show G (0, 0) 0 [(0, rf Γ 0 0), (1, nt k), (2, nt ((0 : Nat) : Int))] [] _
    refine r_aload_n hG (hl0 := rfl) (hd := d_Ward_ofStreet_0) (K := ?_)
    refine r_iload_n hG (hl0 := rfl) (hd := d_Ward_ofStreet_1) (K := ?_)
    refine cVx hG w_Ward_103 d_Ward_ofStreet_2 (ct_streetAt hn hn6 hk) (by decide) (by decide) rc_0 rfl rfl ⟨(Nat.le_of_ble_eq_true rfl), (Nat.le_of_ble_eq_true rfl)⟩ ⟨(Nat.le_of_ble_eq_true rfl), (Nat.le_of_ble_eq_true rfl)⟩ (Nat.le_of_ble_eq_true rfl) ?_
    refine r_astore_n hG (hd := d_Ward_ofStreet_5) (K := ?_)
    refine r_iload_n hG (hl0 := rfl) (hd := d_Ward_ofStreet_6) (K := ?_)
    refine r_iconst hG (hd := d_Ward_ofStreet_7) (K := ?_)
    refine r_bipush hG (hd := d_Ward_ofStreet_8) (K := ?_)
    refine cSv hG w_Ward_82 d_Ward_ofStreet_10 (ct_ckV (by omega) (by omega)) rfl rfl ⟨(Nat.le_of_ble_eq_true rfl), (Nat.le_of_ble_eq_true rfl)⟩ ⟨(Nat.le_of_ble_eq_true rfl), (Nat.le_of_ble_eq_true rfl)⟩ (Nat.le_of_ble_eq_true rfl) ?_
    refine r_iload_n hG (hl0 := rfl) (hd := d_Ward_ofStreet_13) (K := ?_)
    refine r_tsIn hG (tgt := 76) (off := 62) (hd := d_Ward_ofStreet_14) (h := by decide +kernel) (K := ?_)
    refine r_aload_n hG (hl0 := rfl) (hd := d_Ward_ofStreet_76) (K := ?_)
    refine g_Ward_97 hG (hi := by omega) (hd := d_Ward_ofStreet_77) (K := ?_)
    refine r_iret hG d_Ward_ofStreet_80 ⟨(Nat.le_of_ble_eq_true rfl), (Nat.le_of_ble_eq_true rfl)⟩ ?_
    exact ⟨rfl, rfl⟩
  | 1, _ =>
    refine CT.of (by first | exact plainFor_of_name (by rfl) | decide +kernel) (Nat.le_of_ble_eq_true rfl) ?_
    intro G hG
    show G (0, 0) 0 [(0, rf Γ 0 0), (1, nt k), (2, nt ((1 : Nat) : Int))] [] _
    refine r_aload_n hG (hl0 := rfl) (hd := d_Ward_ofStreet_0) (K := ?_)
    refine r_iload_n hG (hl0 := rfl) (hd := d_Ward_ofStreet_1) (K := ?_)
    refine cVx hG w_Ward_103 d_Ward_ofStreet_2 (ct_streetAt hn hn6 hk) (by decide) (by decide) rc_0 rfl rfl ⟨(Nat.le_of_ble_eq_true rfl), (Nat.le_of_ble_eq_true rfl)⟩ ⟨(Nat.le_of_ble_eq_true rfl), (Nat.le_of_ble_eq_true rfl)⟩ (Nat.le_of_ble_eq_true rfl) ?_
    refine r_astore_n hG (hd := d_Ward_ofStreet_5) (K := ?_)
    refine r_iload_n hG (hl0 := rfl) (hd := d_Ward_ofStreet_6) (K := ?_)
    refine r_iconst hG (hd := d_Ward_ofStreet_7) (K := ?_)
    refine r_bipush hG (hd := d_Ward_ofStreet_8) (K := ?_)
    refine cSv hG w_Ward_82 d_Ward_ofStreet_10 (ct_ckV (by omega) (by omega)) rfl rfl ⟨(Nat.le_of_ble_eq_true rfl), (Nat.le_of_ble_eq_true rfl)⟩ ⟨(Nat.le_of_ble_eq_true rfl), (Nat.le_of_ble_eq_true rfl)⟩ (Nat.le_of_ble_eq_true rfl) ?_
    refine r_iload_n hG (hl0 := rfl) (hd := d_Ward_ofStreet_13) (K := ?_)
    refine r_tsIn hG (tgt := 81) (off := 67) (hd := d_Ward_ofStreet_14) (h := by decide +kernel) (K := ?_)
    refine r_aload_n hG (hl0 := rfl) (hd := d_Ward_ofStreet_81) (K := ?_)
    refine g_Ward_100 hG (hi := by omega) (hd := d_Ward_ofStreet_82) (K := ?_)
    refine r_iret hG d_Ward_ofStreet_85 ⟨(Nat.le_of_ble_eq_true rfl), (Nat.le_of_ble_eq_true rfl)⟩ ?_
    exact ⟨rfl, rfl⟩
  | 2, _ =>
    refine CT.of (by first | exact plainFor_of_name (by rfl) | decide +kernel) (Nat.le_of_ble_eq_true rfl) ?_
    intro G hG
    show G (0, 0) 0 [(0, rf Γ 0 0), (1, nt k), (2, nt ((2 : Nat) : Int))] [] _
    refine r_aload_n hG (hl0 := rfl) (hd := d_Ward_ofStreet_0) (K := ?_)
    refine r_iload_n hG (hl0 := rfl) (hd := d_Ward_ofStreet_1) (K := ?_)
    refine cVx hG w_Ward_103 d_Ward_ofStreet_2 (ct_streetAt hn hn6 hk) (by decide) (by decide) rc_0 rfl rfl ⟨(Nat.le_of_ble_eq_true rfl), (Nat.le_of_ble_eq_true rfl)⟩ ⟨(Nat.le_of_ble_eq_true rfl), (Nat.le_of_ble_eq_true rfl)⟩ (Nat.le_of_ble_eq_true rfl) ?_
    refine r_astore_n hG (hd := d_Ward_ofStreet_5) (K := ?_)
    refine r_iload_n hG (hl0 := rfl) (hd := d_Ward_ofStreet_6) (K := ?_)
    refine r_iconst hG (hd := d_Ward_ofStreet_7) (K := ?_)
    refine r_bipush hG (hd := d_Ward_ofStreet_8) (K := ?_)
    refine cSv hG w_Ward_82 d_Ward_ofStreet_10 (ct_ckV (by omega) (by omega)) rfl rfl ⟨(Nat.le_of_ble_eq_true rfl), (Nat.le_of_ble_eq_true rfl)⟩ ⟨(Nat.le_of_ble_eq_true rfl), (Nat.le_of_ble_eq_true rfl)⟩ (Nat.le_of_ble_eq_true rfl) ?_
    refine r_iload_n hG (hl0 := rfl) (hd := d_Ward_ofStreet_13) (K := ?_)
    refine r_tsIn hG (tgt := 86) (off := 72) (hd := d_Ward_ofStreet_14) (h := by decide +kernel) (K := ?_)
    refine r_aload_n hG (hl0 := rfl) (hd := d_Ward_ofStreet_86) (K := ?_)
    refine g_Ward_181 hG (hi := by omega) (hd := d_Ward_ofStreet_87) (K := ?_)
    refine r_iret hG d_Ward_ofStreet_90 ⟨(Nat.le_of_ble_eq_true rfl), (Nat.le_of_ble_eq_true rfl)⟩ ?_
    exact ⟨rfl, rfl⟩
  | 3, _ =>
    refine CT.of (by first | exact plainFor_of_name (by rfl) | decide +kernel) (Nat.le_of_ble_eq_true rfl) ?_
    intro G hG
    show G (0, 0) 0 [(0, rf Γ 0 0), (1, nt k), (2, nt ((3 : Nat) : Int))] [] _
    refine r_aload_n hG (hl0 := rfl) (hd := d_Ward_ofStreet_0) (K := ?_)
    refine r_iload_n hG (hl0 := rfl) (hd := d_Ward_ofStreet_1) (K := ?_)
    refine cVx hG w_Ward_103 d_Ward_ofStreet_2 (ct_streetAt hn hn6 hk) (by decide) (by decide) rc_0 rfl rfl ⟨(Nat.le_of_ble_eq_true rfl), (Nat.le_of_ble_eq_true rfl)⟩ ⟨(Nat.le_of_ble_eq_true rfl), (Nat.le_of_ble_eq_true rfl)⟩ (Nat.le_of_ble_eq_true rfl) ?_
    refine r_astore_n hG (hd := d_Ward_ofStreet_5) (K := ?_)
    refine r_iload_n hG (hl0 := rfl) (hd := d_Ward_ofStreet_6) (K := ?_)
    refine r_iconst hG (hd := d_Ward_ofStreet_7) (K := ?_)
    refine r_bipush hG (hd := d_Ward_ofStreet_8) (K := ?_)
    refine cSv hG w_Ward_82 d_Ward_ofStreet_10 (ct_ckV (by omega) (by omega)) rfl rfl ⟨(Nat.le_of_ble_eq_true rfl), (Nat.le_of_ble_eq_true rfl)⟩ ⟨(Nat.le_of_ble_eq_true rfl), (Nat.le_of_ble_eq_true rfl)⟩ (Nat.le_of_ble_eq_true rfl) ?_
    refine r_iload_n hG (hl0 := rfl) (hd := d_Ward_ofStreet_13) (K := ?_)
    refine r_tsIn hG (tgt := 91) (off := 77) (hd := d_Ward_ofStreet_14) (h := by decide +kernel) (K := ?_)
    refine r_aload_n hG (hl0 := rfl) (hd := d_Ward_ofStreet_91) (K := ?_)
    refine g_Ward_111 hG (hi := by omega) (hd := d_Ward_ofStreet_92) (K := ?_)
    refine r_iconst hG (hd := d_Ward_ofStreet_95) (K := ?_)
    first | refine a_16 hG (j := 0) (hd := d_Ward_ofStreet_96) (hz := rfl) (hj := by omega) (hi := by omega) (K := ?_) | refine a_17 hG (j := 0) (hd := d_Ward_ofStreet_96) (hz := rfl) (hj := by omega) (hi := by omega) (K := ?_) | refine a_18 hG (j := 0) (hd := d_Ward_ofStreet_96) (hz := rfl) (hj := by omega) (hi := by omega) (K := ?_) | refine a_19 hG (j := 0) (hd := d_Ward_ofStreet_96) (hz := rfl) (hj := by omega) (hi := by omega) (K := ?_) | refine a_4 hG (j := 0) (hd := d_Ward_ofStreet_96) (hz := rfl) (hj := by omega) (hi := by omega) (K := ?_) | refine a_5 hG (j := 0) (hd := d_Ward_ofStreet_96) (hz := rfl) (hj := by omega) (hi := by omega) (K := ?_) | refine a_21 hG (j := 0) (hd := d_Ward_ofStreet_96) (hz := rfl) (hj := by omega) (hi := by omega) (K := ?_) | refine a_23 hG (j := 0) (hd := d_Ward_ofStreet_96) (hz := rfl) (hj := by omega) (hi := by omega) (K := ?_) | refine a_24 hG (j := 0) (hd := d_Ward_ofStreet_96) (hz := rfl) (hj := by omega) (hi := by omega) (K := ?_)
    refine r_iret hG d_Ward_ofStreet_97 ⟨(Nat.le_of_ble_eq_true rfl), (Nat.le_of_ble_eq_true rfl)⟩ ?_
    exact ⟨rfl, rfl⟩
  | 4, _ =>
    refine CT.of (by first | exact plainFor_of_name (by rfl) | decide +kernel) (Nat.le_of_ble_eq_true rfl) ?_
    intro G hG
    show G (0, 0) 0 [(0, rf Γ 0 0), (1, nt k), (2, nt ((4 : Nat) : Int))] [] _
    refine r_aload_n hG (hl0 := rfl) (hd := d_Ward_ofStreet_0) (K := ?_)
    refine r_iload_n hG (hl0 := rfl) (hd := d_Ward_ofStreet_1) (K := ?_)
    refine cVx hG w_Ward_103 d_Ward_ofStreet_2 (ct_streetAt hn hn6 hk) (by decide) (by decide) rc_0 rfl rfl ⟨(Nat.le_of_ble_eq_true rfl), (Nat.le_of_ble_eq_true rfl)⟩ ⟨(Nat.le_of_ble_eq_true rfl), (Nat.le_of_ble_eq_true rfl)⟩ (Nat.le_of_ble_eq_true rfl) ?_
    refine r_astore_n hG (hd := d_Ward_ofStreet_5) (K := ?_)
    refine r_iload_n hG (hl0 := rfl) (hd := d_Ward_ofStreet_6) (K := ?_)
    refine r_iconst hG (hd := d_Ward_ofStreet_7) (K := ?_)
    refine r_bipush hG (hd := d_Ward_ofStreet_8) (K := ?_)
    refine cSv hG w_Ward_82 d_Ward_ofStreet_10 (ct_ckV (by omega) (by omega)) rfl rfl ⟨(Nat.le_of_ble_eq_true rfl), (Nat.le_of_ble_eq_true rfl)⟩ ⟨(Nat.le_of_ble_eq_true rfl), (Nat.le_of_ble_eq_true rfl)⟩ (Nat.le_of_ble_eq_true rfl) ?_
    refine r_iload_n hG (hl0 := rfl) (hd := d_Ward_ofStreet_13) (K := ?_)
    refine r_tsIn hG (tgt := 98) (off := 84) (hd := d_Ward_ofStreet_14) (h := by decide +kernel) (K := ?_)
    refine r_aload_n hG (hl0 := rfl) (hd := d_Ward_ofStreet_98) (K := ?_)
    refine g_Ward_111 hG (hi := by omega) (hd := d_Ward_ofStreet_99) (K := ?_)
    refine r_iconst hG (hd := d_Ward_ofStreet_102) (K := ?_)
    first | refine a_16 hG (j := 1) (hd := d_Ward_ofStreet_103) (hz := rfl) (hj := by omega) (hi := by omega) (K := ?_) | refine a_17 hG (j := 1) (hd := d_Ward_ofStreet_103) (hz := rfl) (hj := by omega) (hi := by omega) (K := ?_) | refine a_18 hG (j := 1) (hd := d_Ward_ofStreet_103) (hz := rfl) (hj := by omega) (hi := by omega) (K := ?_) | refine a_19 hG (j := 1) (hd := d_Ward_ofStreet_103) (hz := rfl) (hj := by omega) (hi := by omega) (K := ?_) | refine a_4 hG (j := 1) (hd := d_Ward_ofStreet_103) (hz := rfl) (hj := by omega) (hi := by omega) (K := ?_) | refine a_5 hG (j := 1) (hd := d_Ward_ofStreet_103) (hz := rfl) (hj := by omega) (hi := by omega) (K := ?_) | refine a_21 hG (j := 1) (hd := d_Ward_ofStreet_103) (hz := rfl) (hj := by omega) (hi := by omega) (K := ?_) | refine a_23 hG (j := 1) (hd := d_Ward_ofStreet_103) (hz := rfl) (hj := by omega) (hi := by omega) (K := ?_) | refine a_24 hG (j := 1) (hd := d_Ward_ofStreet_103) (hz := rfl) (hj := by omega) (hi := by omega) (K := ?_)
    refine r_iret hG d_Ward_ofStreet_104 ⟨(Nat.le_of_ble_eq_true rfl), (Nat.le_of_ble_eq_true rfl)⟩ ?_
    exact ⟨rfl, rfl⟩
  | 5, _ =>
    refine CT.of (by first | exact plainFor_of_name (by rfl) | decide +kernel) (Nat.le_of_ble_eq_true rfl) ?_
    intro G hG
    show G (0, 0) 0 [(0, rf Γ 0 0), (1, nt k), (2, nt ((5 : Nat) : Int))] [] _
    refine r_aload_n hG (hl0 := rfl) (hd := d_Ward_ofStreet_0) (K := ?_)
    refine r_iload_n hG (hl0 := rfl) (hd := d_Ward_ofStreet_1) (K := ?_)
    refine cVx hG w_Ward_103 d_Ward_ofStreet_2 (ct_streetAt hn hn6 hk) (by decide) (by decide) rc_0 rfl rfl ⟨(Nat.le_of_ble_eq_true rfl), (Nat.le_of_ble_eq_true rfl)⟩ ⟨(Nat.le_of_ble_eq_true rfl), (Nat.le_of_ble_eq_true rfl)⟩ (Nat.le_of_ble_eq_true rfl) ?_
    refine r_astore_n hG (hd := d_Ward_ofStreet_5) (K := ?_)
    refine r_iload_n hG (hl0 := rfl) (hd := d_Ward_ofStreet_6) (K := ?_)
    refine r_iconst hG (hd := d_Ward_ofStreet_7) (K := ?_)
    refine r_bipush hG (hd := d_Ward_ofStreet_8) (K := ?_)
    refine cSv hG w_Ward_82 d_Ward_ofStreet_10 (ct_ckV (by omega) (by omega)) rfl rfl ⟨(Nat.le_of_ble_eq_true rfl), (Nat.le_of_ble_eq_true rfl)⟩ ⟨(Nat.le_of_ble_eq_true rfl), (Nat.le_of_ble_eq_true rfl)⟩ (Nat.le_of_ble_eq_true rfl) ?_
    refine r_iload_n hG (hl0 := rfl) (hd := d_Ward_ofStreet_13) (K := ?_)
    refine r_tsIn hG (tgt := 105) (off := 91) (hd := d_Ward_ofStreet_14) (h := by decide +kernel) (K := ?_)
    refine r_aload_n hG (hl0 := rfl) (hd := d_Ward_ofStreet_105) (K := ?_)
    refine g_Ward_111 hG (hi := by omega) (hd := d_Ward_ofStreet_106) (K := ?_)
    refine r_iconst hG (hd := d_Ward_ofStreet_109) (K := ?_)
    first | refine a_16 hG (j := 2) (hd := d_Ward_ofStreet_110) (hz := rfl) (hj := by omega) (hi := by omega) (K := ?_) | refine a_17 hG (j := 2) (hd := d_Ward_ofStreet_110) (hz := rfl) (hj := by omega) (hi := by omega) (K := ?_) | refine a_18 hG (j := 2) (hd := d_Ward_ofStreet_110) (hz := rfl) (hj := by omega) (hi := by omega) (K := ?_) | refine a_19 hG (j := 2) (hd := d_Ward_ofStreet_110) (hz := rfl) (hj := by omega) (hi := by omega) (K := ?_) | refine a_4 hG (j := 2) (hd := d_Ward_ofStreet_110) (hz := rfl) (hj := by omega) (hi := by omega) (K := ?_) | refine a_5 hG (j := 2) (hd := d_Ward_ofStreet_110) (hz := rfl) (hj := by omega) (hi := by omega) (K := ?_) | refine a_21 hG (j := 2) (hd := d_Ward_ofStreet_110) (hz := rfl) (hj := by omega) (hi := by omega) (K := ?_) | refine a_23 hG (j := 2) (hd := d_Ward_ofStreet_110) (hz := rfl) (hj := by omega) (hi := by omega) (K := ?_) | refine a_24 hG (j := 2) (hd := d_Ward_ofStreet_110) (hz := rfl) (hj := by omega) (hi := by omega) (K := ?_)
    refine r_iret hG d_Ward_ofStreet_111 ⟨(Nat.le_of_ble_eq_true rfl), (Nat.le_of_ble_eq_true rfl)⟩ ?_
    exact ⟨rfl, rfl⟩
  | 6, _ =>
    refine CT.of (by first | exact plainFor_of_name (by rfl) | decide +kernel) (Nat.le_of_ble_eq_true rfl) ?_
    intro G hG
    show G (0, 0) 0 [(0, rf Γ 0 0), (1, nt k), (2, nt ((6 : Nat) : Int))] [] _
    refine r_aload_n hG (hl0 := rfl) (hd := d_Ward_ofStreet_0) (K := ?_)
    refine r_iload_n hG (hl0 := rfl) (hd := d_Ward_ofStreet_1) (K := ?_)
    refine cVx hG w_Ward_103 d_Ward_ofStreet_2 (ct_streetAt hn hn6 hk) (by decide) (by decide) rc_0 rfl rfl ⟨(Nat.le_of_ble_eq_true rfl), (Nat.le_of_ble_eq_true rfl)⟩ ⟨(Nat.le_of_ble_eq_true rfl), (Nat.le_of_ble_eq_true rfl)⟩ (Nat.le_of_ble_eq_true rfl) ?_
    refine r_astore_n hG (hd := d_Ward_ofStreet_5) (K := ?_)
    refine r_iload_n hG (hl0 := rfl) (hd := d_Ward_ofStreet_6) (K := ?_)
    refine r_iconst hG (hd := d_Ward_ofStreet_7) (K := ?_)
    refine r_bipush hG (hd := d_Ward_ofStreet_8) (K := ?_)
    refine cSv hG w_Ward_82 d_Ward_ofStreet_10 (ct_ckV (by omega) (by omega)) rfl rfl ⟨(Nat.le_of_ble_eq_true rfl), (Nat.le_of_ble_eq_true rfl)⟩ ⟨(Nat.le_of_ble_eq_true rfl), (Nat.le_of_ble_eq_true rfl)⟩ (Nat.le_of_ble_eq_true rfl) ?_
    refine r_iload_n hG (hl0 := rfl) (hd := d_Ward_ofStreet_13) (K := ?_)
    refine r_tsIn hG (tgt := 112) (off := 98) (hd := d_Ward_ofStreet_14) (h := by decide +kernel) (K := ?_)
    refine r_aload_n hG (hl0 := rfl) (hd := d_Ward_ofStreet_112) (K := ?_)
    refine g_Ward_208 hG (hi := by omega) (hd := d_Ward_ofStreet_113) (K := ?_)
    refine r_iconst hG (hd := d_Ward_ofStreet_116) (K := ?_)
    first | refine a_16 hG (j := 0) (hd := d_Ward_ofStreet_117) (hz := rfl) (hj := by omega) (hi := by omega) (K := ?_) | refine a_17 hG (j := 0) (hd := d_Ward_ofStreet_117) (hz := rfl) (hj := by omega) (hi := by omega) (K := ?_) | refine a_18 hG (j := 0) (hd := d_Ward_ofStreet_117) (hz := rfl) (hj := by omega) (hi := by omega) (K := ?_) | refine a_19 hG (j := 0) (hd := d_Ward_ofStreet_117) (hz := rfl) (hj := by omega) (hi := by omega) (K := ?_) | refine a_4 hG (j := 0) (hd := d_Ward_ofStreet_117) (hz := rfl) (hj := by omega) (hi := by omega) (K := ?_) | refine a_5 hG (j := 0) (hd := d_Ward_ofStreet_117) (hz := rfl) (hj := by omega) (hi := by omega) (K := ?_) | refine a_21 hG (j := 0) (hd := d_Ward_ofStreet_117) (hz := rfl) (hj := by omega) (hi := by omega) (K := ?_) | refine a_23 hG (j := 0) (hd := d_Ward_ofStreet_117) (hz := rfl) (hj := by omega) (hi := by omega) (K := ?_) | refine a_24 hG (j := 0) (hd := d_Ward_ofStreet_117) (hz := rfl) (hj := by omega) (hi := by omega) (K := ?_)
    refine r_iret hG d_Ward_ofStreet_118 ⟨(Nat.le_of_ble_eq_true rfl), (Nat.le_of_ble_eq_true rfl)⟩ ?_
    exact ⟨rfl, rfl⟩
  | 7, _ =>
    refine CT.of (by first | exact plainFor_of_name (by rfl) | decide +kernel) (Nat.le_of_ble_eq_true rfl) ?_
    intro G hG
    show G (0, 0) 0 [(0, rf Γ 0 0), (1, nt k), (2, nt ((7 : Nat) : Int))] [] _
    refine r_aload_n hG (hl0 := rfl) (hd := d_Ward_ofStreet_0) (K := ?_)
    refine r_iload_n hG (hl0 := rfl) (hd := d_Ward_ofStreet_1) (K := ?_)
    refine cVx hG w_Ward_103 d_Ward_ofStreet_2 (ct_streetAt hn hn6 hk) (by decide) (by decide) rc_0 rfl rfl ⟨(Nat.le_of_ble_eq_true rfl), (Nat.le_of_ble_eq_true rfl)⟩ ⟨(Nat.le_of_ble_eq_true rfl), (Nat.le_of_ble_eq_true rfl)⟩ (Nat.le_of_ble_eq_true rfl) ?_
    refine r_astore_n hG (hd := d_Ward_ofStreet_5) (K := ?_)
    refine r_iload_n hG (hl0 := rfl) (hd := d_Ward_ofStreet_6) (K := ?_)
    refine r_iconst hG (hd := d_Ward_ofStreet_7) (K := ?_)
    refine r_bipush hG (hd := d_Ward_ofStreet_8) (K := ?_)
    refine cSv hG w_Ward_82 d_Ward_ofStreet_10 (ct_ckV (by omega) (by omega)) rfl rfl ⟨(Nat.le_of_ble_eq_true rfl), (Nat.le_of_ble_eq_true rfl)⟩ ⟨(Nat.le_of_ble_eq_true rfl), (Nat.le_of_ble_eq_true rfl)⟩ (Nat.le_of_ble_eq_true rfl) ?_
    refine r_iload_n hG (hl0 := rfl) (hd := d_Ward_ofStreet_13) (K := ?_)
    refine r_tsIn hG (tgt := 119) (off := 105) (hd := d_Ward_ofStreet_14) (h := by decide +kernel) (K := ?_)
    refine r_aload_n hG (hl0 := rfl) (hd := d_Ward_ofStreet_119) (K := ?_)
    refine g_Ward_208 hG (hi := by omega) (hd := d_Ward_ofStreet_120) (K := ?_)
    refine r_iconst hG (hd := d_Ward_ofStreet_123) (K := ?_)
    first | refine a_16 hG (j := 1) (hd := d_Ward_ofStreet_124) (hz := rfl) (hj := by omega) (hi := by omega) (K := ?_) | refine a_17 hG (j := 1) (hd := d_Ward_ofStreet_124) (hz := rfl) (hj := by omega) (hi := by omega) (K := ?_) | refine a_18 hG (j := 1) (hd := d_Ward_ofStreet_124) (hz := rfl) (hj := by omega) (hi := by omega) (K := ?_) | refine a_19 hG (j := 1) (hd := d_Ward_ofStreet_124) (hz := rfl) (hj := by omega) (hi := by omega) (K := ?_) | refine a_4 hG (j := 1) (hd := d_Ward_ofStreet_124) (hz := rfl) (hj := by omega) (hi := by omega) (K := ?_) | refine a_5 hG (j := 1) (hd := d_Ward_ofStreet_124) (hz := rfl) (hj := by omega) (hi := by omega) (K := ?_) | refine a_21 hG (j := 1) (hd := d_Ward_ofStreet_124) (hz := rfl) (hj := by omega) (hi := by omega) (K := ?_) | refine a_23 hG (j := 1) (hd := d_Ward_ofStreet_124) (hz := rfl) (hj := by omega) (hi := by omega) (K := ?_) | refine a_24 hG (j := 1) (hd := d_Ward_ofStreet_124) (hz := rfl) (hj := by omega) (hi := by omega) (K := ?_)
    refine r_iret hG d_Ward_ofStreet_125 ⟨(Nat.le_of_ble_eq_true rfl), (Nat.le_of_ble_eq_true rfl)⟩ ?_
    exact ⟨rfl, rfl⟩
  | 8, _ =>
    refine CT.of (by first | exact plainFor_of_name (by rfl) | decide +kernel) (Nat.le_of_ble_eq_true rfl) ?_
    intro G hG
    show G (0, 0) 0 [(0, rf Γ 0 0), (1, nt k), (2, nt ((8 : Nat) : Int))] [] _
    refine r_aload_n hG (hl0 := rfl) (hd := d_Ward_ofStreet_0) (K := ?_)
    refine r_iload_n hG (hl0 := rfl) (hd := d_Ward_ofStreet_1) (K := ?_)
    refine cVx hG w_Ward_103 d_Ward_ofStreet_2 (ct_streetAt hn hn6 hk) (by decide) (by decide) rc_0 rfl rfl ⟨(Nat.le_of_ble_eq_true rfl), (Nat.le_of_ble_eq_true rfl)⟩ ⟨(Nat.le_of_ble_eq_true rfl), (Nat.le_of_ble_eq_true rfl)⟩ (Nat.le_of_ble_eq_true rfl) ?_
    refine r_astore_n hG (hd := d_Ward_ofStreet_5) (K := ?_)
    refine r_iload_n hG (hl0 := rfl) (hd := d_Ward_ofStreet_6) (K := ?_)
    refine r_iconst hG (hd := d_Ward_ofStreet_7) (K := ?_)
    refine r_bipush hG (hd := d_Ward_ofStreet_8) (K := ?_)
    refine cSv hG w_Ward_82 d_Ward_ofStreet_10 (ct_ckV (by omega) (by omega)) rfl rfl ⟨(Nat.le_of_ble_eq_true rfl), (Nat.le_of_ble_eq_true rfl)⟩ ⟨(Nat.le_of_ble_eq_true rfl), (Nat.le_of_ble_eq_true rfl)⟩ (Nat.le_of_ble_eq_true rfl) ?_
    refine r_iload_n hG (hl0 := rfl) (hd := d_Ward_ofStreet_13) (K := ?_)
    refine r_tsIn hG (tgt := 126) (off := 112) (hd := d_Ward_ofStreet_14) (h := by decide +kernel) (K := ?_)
    refine r_aload_n hG (hl0 := rfl) (hd := d_Ward_ofStreet_126) (K := ?_)
    refine g_Ward_208 hG (hi := by omega) (hd := d_Ward_ofStreet_127) (K := ?_)
    refine r_iconst hG (hd := d_Ward_ofStreet_130) (K := ?_)
    first | refine a_16 hG (j := 2) (hd := d_Ward_ofStreet_131) (hz := rfl) (hj := by omega) (hi := by omega) (K := ?_) | refine a_17 hG (j := 2) (hd := d_Ward_ofStreet_131) (hz := rfl) (hj := by omega) (hi := by omega) (K := ?_) | refine a_18 hG (j := 2) (hd := d_Ward_ofStreet_131) (hz := rfl) (hj := by omega) (hi := by omega) (K := ?_) | refine a_19 hG (j := 2) (hd := d_Ward_ofStreet_131) (hz := rfl) (hj := by omega) (hi := by omega) (K := ?_) | refine a_4 hG (j := 2) (hd := d_Ward_ofStreet_131) (hz := rfl) (hj := by omega) (hi := by omega) (K := ?_) | refine a_5 hG (j := 2) (hd := d_Ward_ofStreet_131) (hz := rfl) (hj := by omega) (hi := by omega) (K := ?_) | refine a_21 hG (j := 2) (hd := d_Ward_ofStreet_131) (hz := rfl) (hj := by omega) (hi := by omega) (K := ?_) | refine a_23 hG (j := 2) (hd := d_Ward_ofStreet_131) (hz := rfl) (hj := by omega) (hi := by omega) (K := ?_) | refine a_24 hG (j := 2) (hd := d_Ward_ofStreet_131) (hz := rfl) (hj := by omega) (hi := by omega) (K := ?_)
    refine r_iret hG d_Ward_ofStreet_132 ⟨(Nat.le_of_ble_eq_true rfl), (Nat.le_of_ble_eq_true rfl)⟩ ?_
    exact ⟨rfl, rfl⟩
  | 9, _ =>
    refine CT.of (by first | exact plainFor_of_name (by rfl) | decide +kernel) (Nat.le_of_ble_eq_true rfl) ?_
    intro G hG
    show G (0, 0) 0 [(0, rf Γ 0 0), (1, nt k), (2, nt ((9 : Nat) : Int))] [] _
    refine r_aload_n hG (hl0 := rfl) (hd := d_Ward_ofStreet_0) (K := ?_)
    refine r_iload_n hG (hl0 := rfl) (hd := d_Ward_ofStreet_1) (K := ?_)
    refine cVx hG w_Ward_103 d_Ward_ofStreet_2 (ct_streetAt hn hn6 hk) (by decide) (by decide) rc_0 rfl rfl ⟨(Nat.le_of_ble_eq_true rfl), (Nat.le_of_ble_eq_true rfl)⟩ ⟨(Nat.le_of_ble_eq_true rfl), (Nat.le_of_ble_eq_true rfl)⟩ (Nat.le_of_ble_eq_true rfl) ?_
    refine r_astore_n hG (hd := d_Ward_ofStreet_5) (K := ?_)
    refine r_iload_n hG (hl0 := rfl) (hd := d_Ward_ofStreet_6) (K := ?_)
    refine r_iconst hG (hd := d_Ward_ofStreet_7) (K := ?_)
    refine r_bipush hG (hd := d_Ward_ofStreet_8) (K := ?_)
    refine cSv hG w_Ward_82 d_Ward_ofStreet_10 (ct_ckV (by omega) (by omega)) rfl rfl ⟨(Nat.le_of_ble_eq_true rfl), (Nat.le_of_ble_eq_true rfl)⟩ ⟨(Nat.le_of_ble_eq_true rfl), (Nat.le_of_ble_eq_true rfl)⟩ (Nat.le_of_ble_eq_true rfl) ?_
    refine r_iload_n hG (hl0 := rfl) (hd := d_Ward_ofStreet_13) (K := ?_)
    refine r_tsIn hG (tgt := 133) (off := 119) (hd := d_Ward_ofStreet_14) (h := by decide +kernel) (K := ?_)
    refine r_aload_n hG (hl0 := rfl) (hd := d_Ward_ofStreet_133) (K := ?_)
    refine g_Ward_211 hG (hi := by omega) (hd := d_Ward_ofStreet_134) (K := ?_)
    refine r_iconst hG (hd := d_Ward_ofStreet_137) (K := ?_)
    first | refine a_16 hG (j := 1) (hd := d_Ward_ofStreet_138) (hz := rfl) (hj := by omega) (hi := by omega) (K := ?_) | refine a_17 hG (j := 1) (hd := d_Ward_ofStreet_138) (hz := rfl) (hj := by omega) (hi := by omega) (K := ?_) | refine a_18 hG (j := 1) (hd := d_Ward_ofStreet_138) (hz := rfl) (hj := by omega) (hi := by omega) (K := ?_) | refine a_19 hG (j := 1) (hd := d_Ward_ofStreet_138) (hz := rfl) (hj := by omega) (hi := by omega) (K := ?_) | refine a_4 hG (j := 1) (hd := d_Ward_ofStreet_138) (hz := rfl) (hj := by omega) (hi := by omega) (K := ?_) | refine a_5 hG (j := 1) (hd := d_Ward_ofStreet_138) (hz := rfl) (hj := by omega) (hi := by omega) (K := ?_) | refine a_21 hG (j := 1) (hd := d_Ward_ofStreet_138) (hz := rfl) (hj := by omega) (hi := by omega) (K := ?_) | refine a_23 hG (j := 1) (hd := d_Ward_ofStreet_138) (hz := rfl) (hj := by omega) (hi := by omega) (K := ?_) | refine a_24 hG (j := 1) (hd := d_Ward_ofStreet_138) (hz := rfl) (hj := by omega) (hi := by omega) (K := ?_)
    refine r_iret hG d_Ward_ofStreet_139 ⟨(Nat.le_of_ble_eq_true rfl), (Nat.le_of_ble_eq_true rfl)⟩ ?_
    exact ⟨rfl, rfl⟩
  | 10, _ =>
    refine CT.of (by first | exact plainFor_of_name (by rfl) | decide +kernel) (Nat.le_of_ble_eq_true rfl) ?_
    intro G hG
    show G (0, 0) 0 [(0, rf Γ 0 0), (1, nt k), (2, nt ((10 : Nat) : Int))] [] _
    refine r_aload_n hG (hl0 := rfl) (hd := d_Ward_ofStreet_0) (K := ?_)
    refine r_iload_n hG (hl0 := rfl) (hd := d_Ward_ofStreet_1) (K := ?_)
    refine cVx hG w_Ward_103 d_Ward_ofStreet_2 (ct_streetAt hn hn6 hk) (by decide) (by decide) rc_0 rfl rfl ⟨(Nat.le_of_ble_eq_true rfl), (Nat.le_of_ble_eq_true rfl)⟩ ⟨(Nat.le_of_ble_eq_true rfl), (Nat.le_of_ble_eq_true rfl)⟩ (Nat.le_of_ble_eq_true rfl) ?_
    refine r_astore_n hG (hd := d_Ward_ofStreet_5) (K := ?_)
    refine r_iload_n hG (hl0 := rfl) (hd := d_Ward_ofStreet_6) (K := ?_)
    refine r_iconst hG (hd := d_Ward_ofStreet_7) (K := ?_)
    refine r_bipush hG (hd := d_Ward_ofStreet_8) (K := ?_)
    refine cSv hG w_Ward_82 d_Ward_ofStreet_10 (ct_ckV (by omega) (by omega)) rfl rfl ⟨(Nat.le_of_ble_eq_true rfl), (Nat.le_of_ble_eq_true rfl)⟩ ⟨(Nat.le_of_ble_eq_true rfl), (Nat.le_of_ble_eq_true rfl)⟩ (Nat.le_of_ble_eq_true rfl) ?_
    refine r_iload_n hG (hl0 := rfl) (hd := d_Ward_ofStreet_13) (K := ?_)
    refine r_tsIn hG (tgt := 140) (off := 126) (hd := d_Ward_ofStreet_14) (h := by decide +kernel) (K := ?_)
    refine r_aload_n hG (hl0 := rfl) (hd := d_Ward_ofStreet_140) (K := ?_)
    refine g_Ward_211 hG (hi := by omega) (hd := d_Ward_ofStreet_141) (K := ?_)
    refine r_iconst hG (hd := d_Ward_ofStreet_144) (K := ?_)
    first | refine a_16 hG (j := 2) (hd := d_Ward_ofStreet_145) (hz := rfl) (hj := by omega) (hi := by omega) (K := ?_) | refine a_17 hG (j := 2) (hd := d_Ward_ofStreet_145) (hz := rfl) (hj := by omega) (hi := by omega) (K := ?_) | refine a_18 hG (j := 2) (hd := d_Ward_ofStreet_145) (hz := rfl) (hj := by omega) (hi := by omega) (K := ?_) | refine a_19 hG (j := 2) (hd := d_Ward_ofStreet_145) (hz := rfl) (hj := by omega) (hi := by omega) (K := ?_) | refine a_4 hG (j := 2) (hd := d_Ward_ofStreet_145) (hz := rfl) (hj := by omega) (hi := by omega) (K := ?_) | refine a_5 hG (j := 2) (hd := d_Ward_ofStreet_145) (hz := rfl) (hj := by omega) (hi := by omega) (K := ?_) | refine a_21 hG (j := 2) (hd := d_Ward_ofStreet_145) (hz := rfl) (hj := by omega) (hi := by omega) (K := ?_) | refine a_23 hG (j := 2) (hd := d_Ward_ofStreet_145) (hz := rfl) (hj := by omega) (hi := by omega) (K := ?_) | refine a_24 hG (j := 2) (hd := d_Ward_ofStreet_145) (hz := rfl) (hj := by omega) (hi := by omega) (K := ?_)
    refine r_iret hG d_Ward_ofStreet_146 ⟨(Nat.le_of_ble_eq_true rfl), (Nat.le_of_ble_eq_true rfl)⟩ ?_
    exact ⟨rfl, rfl⟩
  | 11, _ =>
    refine CT.of (by first | exact plainFor_of_name (by rfl) | decide +kernel) (Nat.le_of_ble_eq_true rfl) ?_
    intro G hG
    show G (0, 0) 0 [(0, rf Γ 0 0), (1, nt k), (2, nt ((11 : Nat) : Int))] [] _
    refine r_aload_n hG (hl0 := rfl) (hd := d_Ward_ofStreet_0) (K := ?_)
    refine r_iload_n hG (hl0 := rfl) (hd := d_Ward_ofStreet_1) (K := ?_)
    refine cVx hG w_Ward_103 d_Ward_ofStreet_2 (ct_streetAt hn hn6 hk) (by decide) (by decide) rc_0 rfl rfl ⟨(Nat.le_of_ble_eq_true rfl), (Nat.le_of_ble_eq_true rfl)⟩ ⟨(Nat.le_of_ble_eq_true rfl), (Nat.le_of_ble_eq_true rfl)⟩ (Nat.le_of_ble_eq_true rfl) ?_
    refine r_astore_n hG (hd := d_Ward_ofStreet_5) (K := ?_)
    refine r_iload_n hG (hl0 := rfl) (hd := d_Ward_ofStreet_6) (K := ?_)
    refine r_iconst hG (hd := d_Ward_ofStreet_7) (K := ?_)
    refine r_bipush hG (hd := d_Ward_ofStreet_8) (K := ?_)
    refine cSv hG w_Ward_82 d_Ward_ofStreet_10 (ct_ckV (by omega) (by omega)) rfl rfl ⟨(Nat.le_of_ble_eq_true rfl), (Nat.le_of_ble_eq_true rfl)⟩ ⟨(Nat.le_of_ble_eq_true rfl), (Nat.le_of_ble_eq_true rfl)⟩ (Nat.le_of_ble_eq_true rfl) ?_
    refine r_iload_n hG (hl0 := rfl) (hd := d_Ward_ofStreet_13) (K := ?_)
    refine r_tsIn hG (tgt := 147) (off := 133) (hd := d_Ward_ofStreet_14) (h := by decide +kernel) (K := ?_)
    refine r_aload_n hG (hl0 := rfl) (hd := d_Ward_ofStreet_147) (K := ?_)
    refine cVx hG w_Ward_213 d_Ward_ofStreet_148 (ct_owes (by omega)) (by decide) (by show _ < 12; omega) rc_15 rfl rfl ⟨(Nat.le_of_ble_eq_true rfl), (Nat.le_of_ble_eq_true rfl)⟩ ⟨(Nat.le_of_ble_eq_true rfl), (Nat.le_of_ble_eq_true rfl)⟩ (Nat.le_of_ble_eq_true rfl) ?_
    refine r_iret hG d_Ward_ofStreet_151 ⟨(Nat.le_of_ble_eq_true rfl), (Nat.le_of_ble_eq_true rfl)⟩ ?_
    exact ⟨rfl, rfl⟩
  | 12, _ =>
    refine CT.of (by first | exact plainFor_of_name (by rfl) | decide +kernel) (Nat.le_of_ble_eq_true rfl) ?_
    intro G hG
    show G (0, 0) 0 [(0, rf Γ 0 0), (1, nt k), (2, nt ((12 : Nat) : Int))] [] _
    refine r_aload_n hG (hl0 := rfl) (hd := d_Ward_ofStreet_0) (K := ?_)
    refine r_iload_n hG (hl0 := rfl) (hd := d_Ward_ofStreet_1) (K := ?_)
    refine cVx hG w_Ward_103 d_Ward_ofStreet_2 (ct_streetAt hn hn6 hk) (by decide) (by decide) rc_0 rfl rfl ⟨(Nat.le_of_ble_eq_true rfl), (Nat.le_of_ble_eq_true rfl)⟩ ⟨(Nat.le_of_ble_eq_true rfl), (Nat.le_of_ble_eq_true rfl)⟩ (Nat.le_of_ble_eq_true rfl) ?_
    refine r_astore_n hG (hd := d_Ward_ofStreet_5) (K := ?_)
    refine r_iload_n hG (hl0 := rfl) (hd := d_Ward_ofStreet_6) (K := ?_)
    refine r_iconst hG (hd := d_Ward_ofStreet_7) (K := ?_)
    refine r_bipush hG (hd := d_Ward_ofStreet_8) (K := ?_)
    refine cSv hG w_Ward_82 d_Ward_ofStreet_10 (ct_ckV (by omega) (by omega)) rfl rfl ⟨(Nat.le_of_ble_eq_true rfl), (Nat.le_of_ble_eq_true rfl)⟩ ⟨(Nat.le_of_ble_eq_true rfl), (Nat.le_of_ble_eq_true rfl)⟩ (Nat.le_of_ble_eq_true rfl) ?_
    refine r_iload_n hG (hl0 := rfl) (hd := d_Ward_ofStreet_13) (K := ?_)
    refine r_tsOut hG (tgt := 152) (hd := d_Ward_ofStreet_14) (h := by decide +kernel) (K := ?_)
    refine r_aload_n hG (hl0 := rfl) (hd := d_Ward_ofStreet_152) (K := ?_)
    refine g_Ward_216 hG (hi := by omega) (hd := d_Ward_ofStreet_153) (K := ?_)
    refine r_iret hG d_Ward_ofStreet_156 ⟨(Nat.le_of_ble_eq_true rfl), (Nat.le_of_ble_eq_true rfl)⟩ ?_
    exact ⟨rfl, rfl⟩
  | w + 13, h => exact absurd h (by omega)
def loF (S : St) (i w : Nat) : Int := match w with
  | 0 => S 20 i 0
  | 1 => S 25 i 0
  | 2 => S 25 i 1
  | 3 => S 21 i 0
  | 4 => S 22 i 0
  | 5 => S 23 i 0
  | _ => S 24 i 0
theorem ct_ofLorry {Γ : Gm} {S : St} {n k w : Nat} (hn : S 1 0 0 = (n : Int)) (hn3 : n ≤ 3) (hk : k < n) (hw : w < 7) : CT Γ y_Ward_ofLorry b_Ward_ofLorry 4 ((some FieldType.int)) (rmx 3 0 0) [rf Γ 0 0, nt k, nt w] S (dX (some (nt (loF S k w))) S) := by
  match w, hw with
  | 0, _ =>
    refine CT.of (by first | exact plainFor_of_name (by rfl) | decide +kernel) (Nat.le_of_ble_eq_true rfl) ?_
    intro G hG
    show G (0, 0) 0 [(0, rf Γ 0 0), (1, nt k), (2, nt ((0 : Nat) : Int))] [] _
    refine r_aload_n hG (hl0 := rfl) (hd := d_Ward_ofLorry_0) (K := ?_)
    refine r_iload_n hG (hl0 := rfl) (hd := d_Ward_ofLorry_1) (K := ?_)
    refine cVx hG w_Ward_126 d_Ward_ofLorry_2 (ct_lorryAt hn hn3 hk) (by decide) (by decide) rc_0 rfl rfl ⟨(Nat.le_of_ble_eq_true rfl), (Nat.le_of_ble_eq_true rfl)⟩ ⟨(Nat.le_of_ble_eq_true rfl), (Nat.le_of_ble_eq_true rfl)⟩ (Nat.le_of_ble_eq_true rfl) ?_
    refine r_astore_n hG (hd := d_Ward_ofLorry_5) (K := ?_)
    refine r_iload_n hG (hl0 := rfl) (hd := d_Ward_ofLorry_6) (K := ?_)
    refine r_iconst hG (hd := d_Ward_ofLorry_7) (K := ?_)
    refine r_bipush hG (hd := d_Ward_ofLorry_8) (K := ?_)
    refine cSv hG w_Ward_82 d_Ward_ofLorry_10 (ct_ckV (by omega) (by omega)) rfl rfl ⟨(Nat.le_of_ble_eq_true rfl), (Nat.le_of_ble_eq_true rfl)⟩ ⟨(Nat.le_of_ble_eq_true rfl), (Nat.le_of_ble_eq_true rfl)⟩ (Nat.le_of_ble_eq_true rfl) ?_
    refine r_iload_n hG (hl0 := rfl) (hd := d_Ward_ofLorry_13) (K := ?_)
    refine r_tsIn hG (tgt := 52) (off := 38) (hd := d_Ward_ofLorry_14) (h := by decide +kernel) (K := ?_)
    refine r_aload_n hG (hl0 := rfl) (hd := d_Ward_ofLorry_52) (K := ?_)
    refine g_Ward_120 hG (hi := by omega) (hd := d_Ward_ofLorry_53) (K := ?_)
    refine r_iret hG d_Ward_ofLorry_56 ⟨(Nat.le_of_ble_eq_true rfl), (Nat.le_of_ble_eq_true rfl)⟩ ?_
    exact ⟨rfl, rfl⟩
  | 1, _ =>
    refine CT.of (by first | exact plainFor_of_name (by rfl) | decide +kernel) (Nat.le_of_ble_eq_true rfl) ?_
    intro G hG
    show G (0, 0) 0 [(0, rf Γ 0 0), (1, nt k), (2, nt ((1 : Nat) : Int))] [] _
    refine r_aload_n hG (hl0 := rfl) (hd := d_Ward_ofLorry_0) (K := ?_)
    refine r_iload_n hG (hl0 := rfl) (hd := d_Ward_ofLorry_1) (K := ?_)
    refine cVx hG w_Ward_126 d_Ward_ofLorry_2 (ct_lorryAt hn hn3 hk) (by decide) (by decide) rc_0 rfl rfl ⟨(Nat.le_of_ble_eq_true rfl), (Nat.le_of_ble_eq_true rfl)⟩ ⟨(Nat.le_of_ble_eq_true rfl), (Nat.le_of_ble_eq_true rfl)⟩ (Nat.le_of_ble_eq_true rfl) ?_
    refine r_astore_n hG (hd := d_Ward_ofLorry_5) (K := ?_)
    refine r_iload_n hG (hl0 := rfl) (hd := d_Ward_ofLorry_6) (K := ?_)
    refine r_iconst hG (hd := d_Ward_ofLorry_7) (K := ?_)
    refine r_bipush hG (hd := d_Ward_ofLorry_8) (K := ?_)
    refine cSv hG w_Ward_82 d_Ward_ofLorry_10 (ct_ckV (by omega) (by omega)) rfl rfl ⟨(Nat.le_of_ble_eq_true rfl), (Nat.le_of_ble_eq_true rfl)⟩ ⟨(Nat.le_of_ble_eq_true rfl), (Nat.le_of_ble_eq_true rfl)⟩ (Nat.le_of_ble_eq_true rfl) ?_
    refine r_iload_n hG (hl0 := rfl) (hd := d_Ward_ofLorry_13) (K := ?_)
    refine r_tsIn hG (tgt := 57) (off := 43) (hd := d_Ward_ofLorry_14) (h := by decide +kernel) (K := ?_)
    refine r_aload_n hG (hl0 := rfl) (hd := d_Ward_ofLorry_57) (K := ?_)
    refine g_Ward_123 hG (hi := by omega) (hd := d_Ward_ofLorry_58) (K := ?_)
    refine r_iconst hG (hd := d_Ward_ofLorry_61) (K := ?_)
    first | refine a_16 hG (j := 0) (hd := d_Ward_ofLorry_62) (hz := rfl) (hj := by omega) (hi := by omega) (K := ?_) | refine a_17 hG (j := 0) (hd := d_Ward_ofLorry_62) (hz := rfl) (hj := by omega) (hi := by omega) (K := ?_) | refine a_18 hG (j := 0) (hd := d_Ward_ofLorry_62) (hz := rfl) (hj := by omega) (hi := by omega) (K := ?_) | refine a_19 hG (j := 0) (hd := d_Ward_ofLorry_62) (hz := rfl) (hj := by omega) (hi := by omega) (K := ?_) | refine a_4 hG (j := 0) (hd := d_Ward_ofLorry_62) (hz := rfl) (hj := by omega) (hi := by omega) (K := ?_) | refine a_5 hG (j := 0) (hd := d_Ward_ofLorry_62) (hz := rfl) (hj := by omega) (hi := by omega) (K := ?_) | refine a_21 hG (j := 0) (hd := d_Ward_ofLorry_62) (hz := rfl) (hj := by omega) (hi := by omega) (K := ?_) | refine a_23 hG (j := 0) (hd := d_Ward_ofLorry_62) (hz := rfl) (hj := by omega) (hi := by omega) (K := ?_) | refine a_24 hG (j := 0) (hd := d_Ward_ofLorry_62) (hz := rfl) (hj := by omega) (hi := by omega) (K := ?_)
    refine r_iret hG d_Ward_ofLorry_63 ⟨(Nat.le_of_ble_eq_true rfl), (Nat.le_of_ble_eq_true rfl)⟩ ?_
    exact ⟨rfl, rfl⟩
  | 2, _ =>
    refine CT.of (by first | exact plainFor_of_name (by rfl) | decide +kernel) (Nat.le_of_ble_eq_true rfl) ?_
    intro G hG
    show G (0, 0) 0 [(0, rf Γ 0 0), (1, nt k), (2, nt ((2 : Nat) : Int))] [] _
    refine r_aload_n hG (hl0 := rfl) (hd := d_Ward_ofLorry_0) (K := ?_)
    refine r_iload_n hG (hl0 := rfl) (hd := d_Ward_ofLorry_1) (K := ?_)
    refine cVx hG w_Ward_126 d_Ward_ofLorry_2 (ct_lorryAt hn hn3 hk) (by decide) (by decide) rc_0 rfl rfl ⟨(Nat.le_of_ble_eq_true rfl), (Nat.le_of_ble_eq_true rfl)⟩ ⟨(Nat.le_of_ble_eq_true rfl), (Nat.le_of_ble_eq_true rfl)⟩ (Nat.le_of_ble_eq_true rfl) ?_
    refine r_astore_n hG (hd := d_Ward_ofLorry_5) (K := ?_)
    refine r_iload_n hG (hl0 := rfl) (hd := d_Ward_ofLorry_6) (K := ?_)
    refine r_iconst hG (hd := d_Ward_ofLorry_7) (K := ?_)
    refine r_bipush hG (hd := d_Ward_ofLorry_8) (K := ?_)
    refine cSv hG w_Ward_82 d_Ward_ofLorry_10 (ct_ckV (by omega) (by omega)) rfl rfl ⟨(Nat.le_of_ble_eq_true rfl), (Nat.le_of_ble_eq_true rfl)⟩ ⟨(Nat.le_of_ble_eq_true rfl), (Nat.le_of_ble_eq_true rfl)⟩ (Nat.le_of_ble_eq_true rfl) ?_
    refine r_iload_n hG (hl0 := rfl) (hd := d_Ward_ofLorry_13) (K := ?_)
    refine r_tsIn hG (tgt := 64) (off := 50) (hd := d_Ward_ofLorry_14) (h := by decide +kernel) (K := ?_)
    refine r_aload_n hG (hl0 := rfl) (hd := d_Ward_ofLorry_64) (K := ?_)
    refine g_Ward_123 hG (hi := by omega) (hd := d_Ward_ofLorry_65) (K := ?_)
    refine r_iconst hG (hd := d_Ward_ofLorry_68) (K := ?_)
    first | refine a_16 hG (j := 1) (hd := d_Ward_ofLorry_69) (hz := rfl) (hj := by omega) (hi := by omega) (K := ?_) | refine a_17 hG (j := 1) (hd := d_Ward_ofLorry_69) (hz := rfl) (hj := by omega) (hi := by omega) (K := ?_) | refine a_18 hG (j := 1) (hd := d_Ward_ofLorry_69) (hz := rfl) (hj := by omega) (hi := by omega) (K := ?_) | refine a_19 hG (j := 1) (hd := d_Ward_ofLorry_69) (hz := rfl) (hj := by omega) (hi := by omega) (K := ?_) | refine a_4 hG (j := 1) (hd := d_Ward_ofLorry_69) (hz := rfl) (hj := by omega) (hi := by omega) (K := ?_) | refine a_5 hG (j := 1) (hd := d_Ward_ofLorry_69) (hz := rfl) (hj := by omega) (hi := by omega) (K := ?_) | refine a_21 hG (j := 1) (hd := d_Ward_ofLorry_69) (hz := rfl) (hj := by omega) (hi := by omega) (K := ?_) | refine a_23 hG (j := 1) (hd := d_Ward_ofLorry_69) (hz := rfl) (hj := by omega) (hi := by omega) (K := ?_) | refine a_24 hG (j := 1) (hd := d_Ward_ofLorry_69) (hz := rfl) (hj := by omega) (hi := by omega) (K := ?_)
    refine r_iret hG d_Ward_ofLorry_70 ⟨(Nat.le_of_ble_eq_true rfl), (Nat.le_of_ble_eq_true rfl)⟩ ?_
    exact ⟨rfl, rfl⟩
  | 3, _ =>
    refine CT.of (by first | exact plainFor_of_name (by rfl) | decide +kernel) (Nat.le_of_ble_eq_true rfl) ?_
    intro G hG
    show G (0, 0) 0 [(0, rf Γ 0 0), (1, nt k), (2, nt ((3 : Nat) : Int))] [] _
    refine r_aload_n hG (hl0 := rfl) (hd := d_Ward_ofLorry_0) (K := ?_)
    refine r_iload_n hG (hl0 := rfl) (hd := d_Ward_ofLorry_1) (K := ?_)
    refine cVx hG w_Ward_126 d_Ward_ofLorry_2 (ct_lorryAt hn hn3 hk) (by decide) (by decide) rc_0 rfl rfl ⟨(Nat.le_of_ble_eq_true rfl), (Nat.le_of_ble_eq_true rfl)⟩ ⟨(Nat.le_of_ble_eq_true rfl), (Nat.le_of_ble_eq_true rfl)⟩ (Nat.le_of_ble_eq_true rfl) ?_
    refine r_astore_n hG (hd := d_Ward_ofLorry_5) (K := ?_)
    refine r_iload_n hG (hl0 := rfl) (hd := d_Ward_ofLorry_6) (K := ?_)
    refine r_iconst hG (hd := d_Ward_ofLorry_7) (K := ?_)
    refine r_bipush hG (hd := d_Ward_ofLorry_8) (K := ?_)
    refine cSv hG w_Ward_82 d_Ward_ofLorry_10 (ct_ckV (by omega) (by omega)) rfl rfl ⟨(Nat.le_of_ble_eq_true rfl), (Nat.le_of_ble_eq_true rfl)⟩ ⟨(Nat.le_of_ble_eq_true rfl), (Nat.le_of_ble_eq_true rfl)⟩ (Nat.le_of_ble_eq_true rfl) ?_
    refine r_iload_n hG (hl0 := rfl) (hd := d_Ward_ofLorry_13) (K := ?_)
    refine r_tsIn hG (tgt := 71) (off := 57) (hd := d_Ward_ofLorry_14) (h := by decide +kernel) (K := ?_)
    refine r_aload_n hG (hl0 := rfl) (hd := d_Ward_ofLorry_71) (K := ?_)
    refine g_Ward_219 hG (hi := by omega) (hd := d_Ward_ofLorry_72) (K := ?_)
    refine r_iret hG d_Ward_ofLorry_75 ⟨(Nat.le_of_ble_eq_true rfl), (Nat.le_of_ble_eq_true rfl)⟩ ?_
    exact ⟨rfl, rfl⟩
  | 4, _ =>
    refine CT.of (by first | exact plainFor_of_name (by rfl) | decide +kernel) (Nat.le_of_ble_eq_true rfl) ?_
    intro G hG
    show G (0, 0) 0 [(0, rf Γ 0 0), (1, nt k), (2, nt ((4 : Nat) : Int))] [] _
    refine r_aload_n hG (hl0 := rfl) (hd := d_Ward_ofLorry_0) (K := ?_)
    refine r_iload_n hG (hl0 := rfl) (hd := d_Ward_ofLorry_1) (K := ?_)
    refine cVx hG w_Ward_126 d_Ward_ofLorry_2 (ct_lorryAt hn hn3 hk) (by decide) (by decide) rc_0 rfl rfl ⟨(Nat.le_of_ble_eq_true rfl), (Nat.le_of_ble_eq_true rfl)⟩ ⟨(Nat.le_of_ble_eq_true rfl), (Nat.le_of_ble_eq_true rfl)⟩ (Nat.le_of_ble_eq_true rfl) ?_
    refine r_astore_n hG (hd := d_Ward_ofLorry_5) (K := ?_)
    refine r_iload_n hG (hl0 := rfl) (hd := d_Ward_ofLorry_6) (K := ?_)
    refine r_iconst hG (hd := d_Ward_ofLorry_7) (K := ?_)
    refine r_bipush hG (hd := d_Ward_ofLorry_8) (K := ?_)
    refine cSv hG w_Ward_82 d_Ward_ofLorry_10 (ct_ckV (by omega) (by omega)) rfl rfl ⟨(Nat.le_of_ble_eq_true rfl), (Nat.le_of_ble_eq_true rfl)⟩ ⟨(Nat.le_of_ble_eq_true rfl), (Nat.le_of_ble_eq_true rfl)⟩ (Nat.le_of_ble_eq_true rfl) ?_
    refine r_iload_n hG (hl0 := rfl) (hd := d_Ward_ofLorry_13) (K := ?_)
    refine r_tsIn hG (tgt := 76) (off := 62) (hd := d_Ward_ofLorry_14) (h := by decide +kernel) (K := ?_)
    refine r_aload_n hG (hl0 := rfl) (hd := d_Ward_ofLorry_76) (K := ?_)
    refine g_Ward_222 hG (hi := by omega) (hd := d_Ward_ofLorry_77) (K := ?_)
    refine r_iret hG d_Ward_ofLorry_80 ⟨(Nat.le_of_ble_eq_true rfl), (Nat.le_of_ble_eq_true rfl)⟩ ?_
    exact ⟨rfl, rfl⟩
  | 5, _ =>
    refine CT.of (by first | exact plainFor_of_name (by rfl) | decide +kernel) (Nat.le_of_ble_eq_true rfl) ?_
    intro G hG
    show G (0, 0) 0 [(0, rf Γ 0 0), (1, nt k), (2, nt ((5 : Nat) : Int))] [] _
    refine r_aload_n hG (hl0 := rfl) (hd := d_Ward_ofLorry_0) (K := ?_)
    refine r_iload_n hG (hl0 := rfl) (hd := d_Ward_ofLorry_1) (K := ?_)
    refine cVx hG w_Ward_126 d_Ward_ofLorry_2 (ct_lorryAt hn hn3 hk) (by decide) (by decide) rc_0 rfl rfl ⟨(Nat.le_of_ble_eq_true rfl), (Nat.le_of_ble_eq_true rfl)⟩ ⟨(Nat.le_of_ble_eq_true rfl), (Nat.le_of_ble_eq_true rfl)⟩ (Nat.le_of_ble_eq_true rfl) ?_
    refine r_astore_n hG (hd := d_Ward_ofLorry_5) (K := ?_)
    refine r_iload_n hG (hl0 := rfl) (hd := d_Ward_ofLorry_6) (K := ?_)
    refine r_iconst hG (hd := d_Ward_ofLorry_7) (K := ?_)
    refine r_bipush hG (hd := d_Ward_ofLorry_8) (K := ?_)
    refine cSv hG w_Ward_82 d_Ward_ofLorry_10 (ct_ckV (by omega) (by omega)) rfl rfl ⟨(Nat.le_of_ble_eq_true rfl), (Nat.le_of_ble_eq_true rfl)⟩ ⟨(Nat.le_of_ble_eq_true rfl), (Nat.le_of_ble_eq_true rfl)⟩ (Nat.le_of_ble_eq_true rfl) ?_
    refine r_iload_n hG (hl0 := rfl) (hd := d_Ward_ofLorry_13) (K := ?_)
    refine r_tsIn hG (tgt := 81) (off := 67) (hd := d_Ward_ofLorry_14) (h := by decide +kernel) (K := ?_)
    refine r_aload_n hG (hl0 := rfl) (hd := d_Ward_ofLorry_81) (K := ?_)
    refine g_Ward_225 hG (hi := by omega) (hd := d_Ward_ofLorry_82) (K := ?_)
    refine r_iret hG d_Ward_ofLorry_85 ⟨(Nat.le_of_ble_eq_true rfl), (Nat.le_of_ble_eq_true rfl)⟩ ?_
    exact ⟨rfl, rfl⟩
  | 6, _ =>
    refine CT.of (by first | exact plainFor_of_name (by rfl) | decide +kernel) (Nat.le_of_ble_eq_true rfl) ?_
    intro G hG
    show G (0, 0) 0 [(0, rf Γ 0 0), (1, nt k), (2, nt ((6 : Nat) : Int))] [] _
    refine r_aload_n hG (hl0 := rfl) (hd := d_Ward_ofLorry_0) (K := ?_)
    refine r_iload_n hG (hl0 := rfl) (hd := d_Ward_ofLorry_1) (K := ?_)
    refine cVx hG w_Ward_126 d_Ward_ofLorry_2 (ct_lorryAt hn hn3 hk) (by decide) (by decide) rc_0 rfl rfl ⟨(Nat.le_of_ble_eq_true rfl), (Nat.le_of_ble_eq_true rfl)⟩ ⟨(Nat.le_of_ble_eq_true rfl), (Nat.le_of_ble_eq_true rfl)⟩ (Nat.le_of_ble_eq_true rfl) ?_
    refine r_astore_n hG (hd := d_Ward_ofLorry_5) (K := ?_)
    refine r_iload_n hG (hl0 := rfl) (hd := d_Ward_ofLorry_6) (K := ?_)
    refine r_iconst hG (hd := d_Ward_ofLorry_7) (K := ?_)
    refine r_bipush hG (hd := d_Ward_ofLorry_8) (K := ?_)
    refine cSv hG w_Ward_82 d_Ward_ofLorry_10 (ct_ckV (by omega) (by omega)) rfl rfl ⟨(Nat.le_of_ble_eq_true rfl), (Nat.le_of_ble_eq_true rfl)⟩ ⟨(Nat.le_of_ble_eq_true rfl), (Nat.le_of_ble_eq_true rfl)⟩ (Nat.le_of_ble_eq_true rfl) ?_
    refine r_iload_n hG (hl0 := rfl) (hd := d_Ward_ofLorry_13) (K := ?_)
    refine r_tsOut hG (tgt := 86) (hd := d_Ward_ofLorry_14) (h := by decide +kernel) (K := ?_)
    refine r_aload_n hG (hl0 := rfl) (hd := d_Ward_ofLorry_86) (K := ?_)
    refine g_Ward_228 hG (hi := by omega) (hd := d_Ward_ofLorry_87) (K := ?_)
    refine r_iret hG d_Ward_ofLorry_90 ⟨(Nat.le_of_ble_eq_true rfl), (Nat.le_of_ble_eq_true rfl)⟩ ?_
    exact ⟨rfl, rfl⟩
  | w + 7, h => exact absurd h (by omega)
def baF (S : St) (b w : Nat) : Int := match w with
  | 0 => S 55 b 0
  | 1 => S 56 b 0
  | 2 => S 57 b 0
  | _ => S 58 b 0
theorem ct_ofBale {Γ : Gm} {S : St} {n k w : Nat} (hn : S 52 0 0 = (n : Int)) (hn20 : n ≤ 20) (hk : k < n) (hw : w < 4) : CT Γ y_Ward_ofBale b_Ward_ofBale 4 ((some FieldType.int)) (rmx 3 0 0) [rf Γ 0 0, nt k, nt w] S (dX (some (nt (baF S k w))) S) := by
  match w, hw with
  | 0, _ =>
    refine CT.of (by first | exact plainFor_of_name (by rfl) | decide +kernel) (Nat.le_of_ble_eq_true rfl) ?_
    intro G hG
    show G (0, 0) 0 [(0, rf Γ 0 0), (1, nt k), (2, nt ((0 : Nat) : Int))] [] _
    refine r_aload_n hG (hl0 := rfl) (hd := d_Ward_ofBale_0) (K := ?_)
    refine r_iload_n hG (hl0 := rfl) (hd := d_Ward_ofBale_1) (K := ?_)
    refine cVx hG w_Ward_155 d_Ward_ofBale_2 (ct_baleAt hn hn20 hk) (by decide) (by decide) rc_0 rfl rfl ⟨(Nat.le_of_ble_eq_true rfl), (Nat.le_of_ble_eq_true rfl)⟩ ⟨(Nat.le_of_ble_eq_true rfl), (Nat.le_of_ble_eq_true rfl)⟩ (Nat.le_of_ble_eq_true rfl) ?_
    refine r_astore_n hG (hd := d_Ward_ofBale_5) (K := ?_)
    refine r_iload_n hG (hl0 := rfl) (hd := d_Ward_ofBale_6) (K := ?_)
    refine r_iconst hG (hd := d_Ward_ofBale_7) (K := ?_)
    refine r_iconst hG (hd := d_Ward_ofBale_8) (K := ?_)
    refine cSv hG w_Ward_82 d_Ward_ofBale_9 (ct_ckV (by omega) (by omega)) rfl rfl ⟨(Nat.le_of_ble_eq_true rfl), (Nat.le_of_ble_eq_true rfl)⟩ ⟨(Nat.le_of_ble_eq_true rfl), (Nat.le_of_ble_eq_true rfl)⟩ (Nat.le_of_ble_eq_true rfl) ?_
    refine r_iload_n hG (hl0 := rfl) (hd := d_Ward_ofBale_12) (K := ?_)
    refine r_tsIn hG (tgt := 40) (off := 27) (hd := d_Ward_ofBale_13) (h := by decide +kernel) (K := ?_)
    refine r_aload_n hG (hl0 := rfl) (hd := d_Ward_ofBale_40) (K := ?_)
    refine g_Ward_231 hG (hi := by omega) (hd := d_Ward_ofBale_41) (K := ?_)
    refine r_iret hG d_Ward_ofBale_44 ⟨(Nat.le_of_ble_eq_true rfl), (Nat.le_of_ble_eq_true rfl)⟩ ?_
    exact ⟨rfl, rfl⟩
  | 1, _ =>
    refine CT.of (by first | exact plainFor_of_name (by rfl) | decide +kernel) (Nat.le_of_ble_eq_true rfl) ?_
    intro G hG
    show G (0, 0) 0 [(0, rf Γ 0 0), (1, nt k), (2, nt ((1 : Nat) : Int))] [] _
    refine r_aload_n hG (hl0 := rfl) (hd := d_Ward_ofBale_0) (K := ?_)
    refine r_iload_n hG (hl0 := rfl) (hd := d_Ward_ofBale_1) (K := ?_)
    refine cVx hG w_Ward_155 d_Ward_ofBale_2 (ct_baleAt hn hn20 hk) (by decide) (by decide) rc_0 rfl rfl ⟨(Nat.le_of_ble_eq_true rfl), (Nat.le_of_ble_eq_true rfl)⟩ ⟨(Nat.le_of_ble_eq_true rfl), (Nat.le_of_ble_eq_true rfl)⟩ (Nat.le_of_ble_eq_true rfl) ?_
    refine r_astore_n hG (hd := d_Ward_ofBale_5) (K := ?_)
    refine r_iload_n hG (hl0 := rfl) (hd := d_Ward_ofBale_6) (K := ?_)
    refine r_iconst hG (hd := d_Ward_ofBale_7) (K := ?_)
    refine r_iconst hG (hd := d_Ward_ofBale_8) (K := ?_)
    refine cSv hG w_Ward_82 d_Ward_ofBale_9 (ct_ckV (by omega) (by omega)) rfl rfl ⟨(Nat.le_of_ble_eq_true rfl), (Nat.le_of_ble_eq_true rfl)⟩ ⟨(Nat.le_of_ble_eq_true rfl), (Nat.le_of_ble_eq_true rfl)⟩ (Nat.le_of_ble_eq_true rfl) ?_
    refine r_iload_n hG (hl0 := rfl) (hd := d_Ward_ofBale_12) (K := ?_)
    refine r_tsIn hG (tgt := 45) (off := 32) (hd := d_Ward_ofBale_13) (h := by decide +kernel) (K := ?_)
    refine r_aload_n hG (hl0 := rfl) (hd := d_Ward_ofBale_45) (K := ?_)
    refine g_Ward_166 hG (hi := by omega) (hd := d_Ward_ofBale_46) (K := ?_)
    refine r_iret hG d_Ward_ofBale_49 ⟨(Nat.le_of_ble_eq_true rfl), (Nat.le_of_ble_eq_true rfl)⟩ ?_
    exact ⟨rfl, rfl⟩
  | 2, _ =>
    refine CT.of (by first | exact plainFor_of_name (by rfl) | decide +kernel) (Nat.le_of_ble_eq_true rfl) ?_
    intro G hG
    show G (0, 0) 0 [(0, rf Γ 0 0), (1, nt k), (2, nt ((2 : Nat) : Int))] [] _
    refine r_aload_n hG (hl0 := rfl) (hd := d_Ward_ofBale_0) (K := ?_)
    refine r_iload_n hG (hl0 := rfl) (hd := d_Ward_ofBale_1) (K := ?_)
    refine cVx hG w_Ward_155 d_Ward_ofBale_2 (ct_baleAt hn hn20 hk) (by decide) (by decide) rc_0 rfl rfl ⟨(Nat.le_of_ble_eq_true rfl), (Nat.le_of_ble_eq_true rfl)⟩ ⟨(Nat.le_of_ble_eq_true rfl), (Nat.le_of_ble_eq_true rfl)⟩ (Nat.le_of_ble_eq_true rfl) ?_
    refine r_astore_n hG (hd := d_Ward_ofBale_5) (K := ?_)
    refine r_iload_n hG (hl0 := rfl) (hd := d_Ward_ofBale_6) (K := ?_)
    refine r_iconst hG (hd := d_Ward_ofBale_7) (K := ?_)
    refine r_iconst hG (hd := d_Ward_ofBale_8) (K := ?_)
    refine cSv hG w_Ward_82 d_Ward_ofBale_9 (ct_ckV (by omega) (by omega)) rfl rfl ⟨(Nat.le_of_ble_eq_true rfl), (Nat.le_of_ble_eq_true rfl)⟩ ⟨(Nat.le_of_ble_eq_true rfl), (Nat.le_of_ble_eq_true rfl)⟩ (Nat.le_of_ble_eq_true rfl) ?_
    refine r_iload_n hG (hl0 := rfl) (hd := d_Ward_ofBale_12) (K := ?_)
    refine r_tsIn hG (tgt := 50) (off := 37) (hd := d_Ward_ofBale_13) (h := by decide +kernel) (K := ?_)
    refine r_aload_n hG (hl0 := rfl) (hd := d_Ward_ofBale_50) (K := ?_)
    refine g_Ward_159 hG (hi := by omega) (hd := d_Ward_ofBale_51) (K := ?_)
    refine r_iret hG d_Ward_ofBale_54 ⟨(Nat.le_of_ble_eq_true rfl), (Nat.le_of_ble_eq_true rfl)⟩ ?_
    exact ⟨rfl, rfl⟩
  | 3, _ =>
    refine CT.of (by first | exact plainFor_of_name (by rfl) | decide +kernel) (Nat.le_of_ble_eq_true rfl) ?_
    intro G hG
    show G (0, 0) 0 [(0, rf Γ 0 0), (1, nt k), (2, nt ((3 : Nat) : Int))] [] _
    refine r_aload_n hG (hl0 := rfl) (hd := d_Ward_ofBale_0) (K := ?_)
    refine r_iload_n hG (hl0 := rfl) (hd := d_Ward_ofBale_1) (K := ?_)
    refine cVx hG w_Ward_155 d_Ward_ofBale_2 (ct_baleAt hn hn20 hk) (by decide) (by decide) rc_0 rfl rfl ⟨(Nat.le_of_ble_eq_true rfl), (Nat.le_of_ble_eq_true rfl)⟩ ⟨(Nat.le_of_ble_eq_true rfl), (Nat.le_of_ble_eq_true rfl)⟩ (Nat.le_of_ble_eq_true rfl) ?_
    refine r_astore_n hG (hd := d_Ward_ofBale_5) (K := ?_)
    refine r_iload_n hG (hl0 := rfl) (hd := d_Ward_ofBale_6) (K := ?_)
    refine r_iconst hG (hd := d_Ward_ofBale_7) (K := ?_)
    refine r_iconst hG (hd := d_Ward_ofBale_8) (K := ?_)
    refine cSv hG w_Ward_82 d_Ward_ofBale_9 (ct_ckV (by omega) (by omega)) rfl rfl ⟨(Nat.le_of_ble_eq_true rfl), (Nat.le_of_ble_eq_true rfl)⟩ ⟨(Nat.le_of_ble_eq_true rfl), (Nat.le_of_ble_eq_true rfl)⟩ (Nat.le_of_ble_eq_true rfl) ?_
    refine r_iload_n hG (hl0 := rfl) (hd := d_Ward_ofBale_12) (K := ?_)
    refine r_tsOut hG (tgt := 55) (hd := d_Ward_ofBale_13) (h := by decide +kernel) (K := ?_)
    refine r_aload_n hG (hl0 := rfl) (hd := d_Ward_ofBale_55) (K := ?_)
    refine g_Ward_233 hG (hi := by omega) (hd := d_Ward_ofBale_56) (K := ?_)
    refine r_iret hG d_Ward_ofBale_59 ⟨(Nat.le_of_ble_eq_true rfl), (Nat.le_of_ble_eq_true rfl)⟩ ?_
    exact ⟨rfl, rfl⟩
  | w + 4, h => exact absurd h (by omega)
def maF (S : St) (w : Nat) : Int := match w with
  | 0 => S 2 0 0
  | 1 => S 50 0 0
  | 2 => S 51 0 0
  | 3 => S 52 0 0
  | 4 => cntIn S 0 (S 52 0 0).toNat
  | 5 => S 65 0 0
  | 6 => S 66 0 0
  | 7 => S 67 0 0
  | 8 => S 68 0 0
  | 9 => S 70 0 0
  | 10 => S 71 0 0
  | 11 => S 72 0 0
  | 12 => S 62 0 0
  | 13 => S 63 0 0
  | 14 => S 64 0 0
  | 15 => S 3 0 0 - S 73 0 0
  | 16 => fetN S (S 1 0 0).toNat
  | _ => litN S 0 (S 0 0 0).toNat
theorem ct_many {Γ : Gm} {S : St} {ns nl nb w : Nat} (hs : S 0 0 0 = (ns : Int)) (hs6 : ns ≤ 6) (hl : S 1 0 0 = (nl : Int)) (hl3 : nl ≤ 3) (hb : S 52 0 0 = (nb : Int)) (hb20 : nb ≤ 20) (h57 : ∀ b, b < 20 → 0 ≤ S 57 b 0 ∧ S 57 b 0 ≤ 3) (hw : w < 18) : CT Γ y_Ward_many b_Ward_many 2 ((some FieldType.int)) (rmx 2 0 0) [rf Γ 0 0, nt w] S (dX (some (nt (maF S w))) S) := by
  have e4 : maF S 4 = cntIn S 0 nb := by simp only [maF]; rw [hb, Int.toNat_natCast]
  have e16 : maF S 16 = fetN S nl := by simp only [maF]; rw [hl, Int.toNat_natCast]
  have e17 : maF S 17 = litN S 0 ns := by simp only [maF]; rw [hs, Int.toNat_natCast]
  match w, hw with
  | 0, _ =>
    refine CT.of (by first | exact plainFor_of_name (by rfl) | decide +kernel) (Nat.le_of_ble_eq_true rfl) ?_
    intro G hG
    show G (0, 0) 0 [(0, rf Γ 0 0), (1, nt ((0 : Nat) : Int))] [] _
    refine r_iload_n hG (hl0 := rfl) (hd := d_Ward_many_0) (K := ?_)
    refine r_iconst hG (hd := d_Ward_many_1) (K := ?_)
    refine r_bipush hG (hd := d_Ward_many_2) (K := ?_)
    refine cSv hG w_Ward_82 d_Ward_many_4 (ct_ckV (by omega) (by omega)) rfl rfl ⟨(Nat.le_of_ble_eq_true rfl), (Nat.le_of_ble_eq_true rfl)⟩ ⟨(Nat.le_of_ble_eq_true rfl), (Nat.le_of_ble_eq_true rfl)⟩ (Nat.le_of_ble_eq_true rfl) ?_
    refine r_iload_n hG (hl0 := rfl) (hd := d_Ward_many_7) (K := ?_)
    refine r_tsIn hG (tgt := 92) (off := 84) (hd := d_Ward_many_8) (h := by decide +kernel) (K := ?_)
    refine r_aload_n hG (hl0 := rfl) (hd := d_Ward_many_92) (K := ?_)
    refine g_Ward_187 hG (hd := d_Ward_many_93) (K := ?_)
    refine r_iret hG d_Ward_many_96 ⟨(Nat.le_of_ble_eq_true rfl), (Nat.le_of_ble_eq_true rfl)⟩ ?_
    exact ⟨rfl, rfl⟩
  | 1, _ =>
    refine CT.of (by first | exact plainFor_of_name (by rfl) | decide +kernel) (Nat.le_of_ble_eq_true rfl) ?_
    intro G hG
    show G (0, 0) 0 [(0, rf Γ 0 0), (1, nt ((1 : Nat) : Int))] [] _
    refine r_iload_n hG (hl0 := rfl) (hd := d_Ward_many_0) (K := ?_)
    refine r_iconst hG (hd := d_Ward_many_1) (K := ?_)
    refine r_bipush hG (hd := d_Ward_many_2) (K := ?_)
    refine cSv hG w_Ward_82 d_Ward_many_4 (ct_ckV (by omega) (by omega)) rfl rfl ⟨(Nat.le_of_ble_eq_true rfl), (Nat.le_of_ble_eq_true rfl)⟩ ⟨(Nat.le_of_ble_eq_true rfl), (Nat.le_of_ble_eq_true rfl)⟩ (Nat.le_of_ble_eq_true rfl) ?_
    refine r_iload_n hG (hl0 := rfl) (hd := d_Ward_many_7) (K := ?_)
    refine r_tsIn hG (tgt := 97) (off := 89) (hd := d_Ward_many_8) (h := by decide +kernel) (K := ?_)
    refine r_aload_n hG (hl0 := rfl) (hd := d_Ward_many_97) (K := ?_)
    refine g_Ward_55 hG (hd := d_Ward_many_98) (K := ?_)
    refine g_Ward_236 hG (hd := d_Ward_many_101) (K := ?_)
    refine r_iret hG d_Ward_many_104 ⟨(Nat.le_of_ble_eq_true rfl), (Nat.le_of_ble_eq_true rfl)⟩ ?_
    exact ⟨rfl, rfl⟩
  | 2, _ =>
    refine CT.of (by first | exact plainFor_of_name (by rfl) | decide +kernel) (Nat.le_of_ble_eq_true rfl) ?_
    intro G hG
    show G (0, 0) 0 [(0, rf Γ 0 0), (1, nt ((2 : Nat) : Int))] [] _
    refine r_iload_n hG (hl0 := rfl) (hd := d_Ward_many_0) (K := ?_)
    refine r_iconst hG (hd := d_Ward_many_1) (K := ?_)
    refine r_bipush hG (hd := d_Ward_many_2) (K := ?_)
    refine cSv hG w_Ward_82 d_Ward_many_4 (ct_ckV (by omega) (by omega)) rfl rfl ⟨(Nat.le_of_ble_eq_true rfl), (Nat.le_of_ble_eq_true rfl)⟩ ⟨(Nat.le_of_ble_eq_true rfl), (Nat.le_of_ble_eq_true rfl)⟩ (Nat.le_of_ble_eq_true rfl) ?_
    refine r_iload_n hG (hl0 := rfl) (hd := d_Ward_many_7) (K := ?_)
    refine r_tsIn hG (tgt := 105) (off := 97) (hd := d_Ward_many_8) (h := by decide +kernel) (K := ?_)
    refine r_aload_n hG (hl0 := rfl) (hd := d_Ward_many_105) (K := ?_)
    refine g_Ward_55 hG (hd := d_Ward_many_106) (K := ?_)
    refine g_Ward_237 hG (hd := d_Ward_many_109) (K := ?_)
    refine r_iret hG d_Ward_many_112 ⟨(Nat.le_of_ble_eq_true rfl), (Nat.le_of_ble_eq_true rfl)⟩ ?_
    exact ⟨rfl, rfl⟩
  | 3, _ =>
    refine CT.of (by first | exact plainFor_of_name (by rfl) | decide +kernel) (Nat.le_of_ble_eq_true rfl) ?_
    intro G hG
    show G (0, 0) 0 [(0, rf Γ 0 0), (1, nt ((3 : Nat) : Int))] [] _
    refine r_iload_n hG (hl0 := rfl) (hd := d_Ward_many_0) (K := ?_)
    refine r_iconst hG (hd := d_Ward_many_1) (K := ?_)
    refine r_bipush hG (hd := d_Ward_many_2) (K := ?_)
    refine cSv hG w_Ward_82 d_Ward_many_4 (ct_ckV (by omega) (by omega)) rfl rfl ⟨(Nat.le_of_ble_eq_true rfl), (Nat.le_of_ble_eq_true rfl)⟩ ⟨(Nat.le_of_ble_eq_true rfl), (Nat.le_of_ble_eq_true rfl)⟩ (Nat.le_of_ble_eq_true rfl) ?_
    refine r_iload_n hG (hl0 := rfl) (hd := d_Ward_many_7) (K := ?_)
    refine r_tsIn hG (tgt := 113) (off := 105) (hd := d_Ward_many_8) (h := by decide +kernel) (K := ?_)
    refine r_aload_n hG (hl0 := rfl) (hd := d_Ward_many_113) (K := ?_)
    refine g_Ward_55 hG (hd := d_Ward_many_114) (K := ?_)
    refine g_Ward_238 hG (hd := d_Ward_many_117) (K := ?_)
    refine r_iret hG d_Ward_many_120 ⟨(Nat.le_of_ble_eq_true rfl), (Nat.le_of_ble_eq_true rfl)⟩ ?_
    exact ⟨rfl, rfl⟩
  | 4, _ =>
    refine CT.of (by first | exact plainFor_of_name (by rfl) | decide +kernel) (Nat.le_of_ble_eq_true rfl) ?_
    intro G hG
    show G (0, 0) 0 [(0, rf Γ 0 0), (1, nt ((4 : Nat) : Int))] [] _
    refine r_iload_n hG (hl0 := rfl) (hd := d_Ward_many_0) (K := ?_)
    refine r_iconst hG (hd := d_Ward_many_1) (K := ?_)
    refine r_bipush hG (hd := d_Ward_many_2) (K := ?_)
    refine cSv hG w_Ward_82 d_Ward_many_4 (ct_ckV (by omega) (by omega)) rfl rfl ⟨(Nat.le_of_ble_eq_true rfl), (Nat.le_of_ble_eq_true rfl)⟩ ⟨(Nat.le_of_ble_eq_true rfl), (Nat.le_of_ble_eq_true rfl)⟩ (Nat.le_of_ble_eq_true rfl) ?_
    refine r_iload_n hG (hl0 := rfl) (hd := d_Ward_many_7) (K := ?_)
    refine r_tsIn hG (tgt := 121) (off := 113) (hd := d_Ward_many_8) (h := by decide +kernel) (K := ?_)
    refine r_aload_n hG (hl0 := rfl) (hd := d_Ward_many_121) (K := ?_)
    refine g_Ward_55 hG (hd := d_Ward_many_122) (K := ?_)
    refine r_iconst hG (hd := d_Ward_many_125) (K := ?_)
    refine cVx hG w_Ward_241 d_Ward_many_126 (ct_countIn hb hb20 (by omega) h57) (by decide) (by decide) rc_9 rfl rfl ⟨(Nat.le_of_ble_eq_true rfl), (Nat.le_of_ble_eq_true rfl)⟩ ⟨(Nat.le_of_ble_eq_true rfl), (Nat.le_of_ble_eq_true rfl)⟩ (Nat.le_of_ble_eq_true rfl) ?_
    refine r_iret hG d_Ward_many_129 ⟨(Nat.le_of_ble_eq_true rfl), (Nat.le_of_ble_eq_true rfl)⟩ ?_
    exact ⟨by rw [e4]; rfl, rfl⟩
  | 5, _ =>
    refine CT.of (by first | exact plainFor_of_name (by rfl) | decide +kernel) (Nat.le_of_ble_eq_true rfl) ?_
    intro G hG
    show G (0, 0) 0 [(0, rf Γ 0 0), (1, nt ((5 : Nat) : Int))] [] _
    refine r_iload_n hG (hl0 := rfl) (hd := d_Ward_many_0) (K := ?_)
    refine r_iconst hG (hd := d_Ward_many_1) (K := ?_)
    refine r_bipush hG (hd := d_Ward_many_2) (K := ?_)
    refine cSv hG w_Ward_82 d_Ward_many_4 (ct_ckV (by omega) (by omega)) rfl rfl ⟨(Nat.le_of_ble_eq_true rfl), (Nat.le_of_ble_eq_true rfl)⟩ ⟨(Nat.le_of_ble_eq_true rfl), (Nat.le_of_ble_eq_true rfl)⟩ (Nat.le_of_ble_eq_true rfl) ?_
    refine r_iload_n hG (hl0 := rfl) (hd := d_Ward_many_7) (K := ?_)
    refine r_tsIn hG (tgt := 130) (off := 122) (hd := d_Ward_many_8) (h := by decide +kernel) (K := ?_)
    refine r_aload_n hG (hl0 := rfl) (hd := d_Ward_many_130) (K := ?_)
    refine g_Ward_69 hG (hd := d_Ward_many_131) (K := ?_)
    refine g_Ward_244 hG (hd := d_Ward_many_134) (K := ?_)
    refine r_iret hG d_Ward_many_137 ⟨(Nat.le_of_ble_eq_true rfl), (Nat.le_of_ble_eq_true rfl)⟩ ?_
    exact ⟨rfl, rfl⟩
  | 6, _ =>
    refine CT.of (by first | exact plainFor_of_name (by rfl) | decide +kernel) (Nat.le_of_ble_eq_true rfl) ?_
    intro G hG
    show G (0, 0) 0 [(0, rf Γ 0 0), (1, nt ((6 : Nat) : Int))] [] _
    refine r_iload_n hG (hl0 := rfl) (hd := d_Ward_many_0) (K := ?_)
    refine r_iconst hG (hd := d_Ward_many_1) (K := ?_)
    refine r_bipush hG (hd := d_Ward_many_2) (K := ?_)
    refine cSv hG w_Ward_82 d_Ward_many_4 (ct_ckV (by omega) (by omega)) rfl rfl ⟨(Nat.le_of_ble_eq_true rfl), (Nat.le_of_ble_eq_true rfl)⟩ ⟨(Nat.le_of_ble_eq_true rfl), (Nat.le_of_ble_eq_true rfl)⟩ (Nat.le_of_ble_eq_true rfl) ?_
    refine r_iload_n hG (hl0 := rfl) (hd := d_Ward_many_7) (K := ?_)
    refine r_tsIn hG (tgt := 138) (off := 130) (hd := d_Ward_many_8) (h := by decide +kernel) (K := ?_)
    refine r_aload_n hG (hl0 := rfl) (hd := d_Ward_many_138) (K := ?_)
    refine g_Ward_69 hG (hd := d_Ward_many_139) (K := ?_)
    refine g_Ward_245 hG (hd := d_Ward_many_142) (K := ?_)
    refine r_iret hG d_Ward_many_145 ⟨(Nat.le_of_ble_eq_true rfl), (Nat.le_of_ble_eq_true rfl)⟩ ?_
    exact ⟨rfl, rfl⟩
  | 7, _ =>
    refine CT.of (by first | exact plainFor_of_name (by rfl) | decide +kernel) (Nat.le_of_ble_eq_true rfl) ?_
    intro G hG
    show G (0, 0) 0 [(0, rf Γ 0 0), (1, nt ((7 : Nat) : Int))] [] _
    refine r_iload_n hG (hl0 := rfl) (hd := d_Ward_many_0) (K := ?_)
    refine r_iconst hG (hd := d_Ward_many_1) (K := ?_)
    refine r_bipush hG (hd := d_Ward_many_2) (K := ?_)
    refine cSv hG w_Ward_82 d_Ward_many_4 (ct_ckV (by omega) (by omega)) rfl rfl ⟨(Nat.le_of_ble_eq_true rfl), (Nat.le_of_ble_eq_true rfl)⟩ ⟨(Nat.le_of_ble_eq_true rfl), (Nat.le_of_ble_eq_true rfl)⟩ (Nat.le_of_ble_eq_true rfl) ?_
    refine r_iload_n hG (hl0 := rfl) (hd := d_Ward_many_7) (K := ?_)
    refine r_tsIn hG (tgt := 146) (off := 138) (hd := d_Ward_many_8) (h := by decide +kernel) (K := ?_)
    refine r_aload_n hG (hl0 := rfl) (hd := d_Ward_many_146) (K := ?_)
    refine g_Ward_69 hG (hd := d_Ward_many_147) (K := ?_)
    refine g_Ward_246 hG (hd := d_Ward_many_150) (K := ?_)
    refine r_iret hG d_Ward_many_153 ⟨(Nat.le_of_ble_eq_true rfl), (Nat.le_of_ble_eq_true rfl)⟩ ?_
    exact ⟨rfl, rfl⟩
  | 8, _ =>
    refine CT.of (by first | exact plainFor_of_name (by rfl) | decide +kernel) (Nat.le_of_ble_eq_true rfl) ?_
    intro G hG
    show G (0, 0) 0 [(0, rf Γ 0 0), (1, nt ((8 : Nat) : Int))] [] _
    refine r_iload_n hG (hl0 := rfl) (hd := d_Ward_many_0) (K := ?_)
    refine r_iconst hG (hd := d_Ward_many_1) (K := ?_)
    refine r_bipush hG (hd := d_Ward_many_2) (K := ?_)
    refine cSv hG w_Ward_82 d_Ward_many_4 (ct_ckV (by omega) (by omega)) rfl rfl ⟨(Nat.le_of_ble_eq_true rfl), (Nat.le_of_ble_eq_true rfl)⟩ ⟨(Nat.le_of_ble_eq_true rfl), (Nat.le_of_ble_eq_true rfl)⟩ (Nat.le_of_ble_eq_true rfl) ?_
    refine r_iload_n hG (hl0 := rfl) (hd := d_Ward_many_7) (K := ?_)
    refine r_tsIn hG (tgt := 154) (off := 146) (hd := d_Ward_many_8) (h := by decide +kernel) (K := ?_)
    refine r_aload_n hG (hl0 := rfl) (hd := d_Ward_many_154) (K := ?_)
    refine g_Ward_69 hG (hd := d_Ward_many_155) (K := ?_)
    refine g_Ward_249 hG (hd := d_Ward_many_158) (K := ?_)
    refine r_iret hG d_Ward_many_161 ⟨(Nat.le_of_ble_eq_true rfl), (Nat.le_of_ble_eq_true rfl)⟩ ?_
    exact ⟨rfl, rfl⟩
  | 9, _ =>
    refine CT.of (by first | exact plainFor_of_name (by rfl) | decide +kernel) (Nat.le_of_ble_eq_true rfl) ?_
    intro G hG
    show G (0, 0) 0 [(0, rf Γ 0 0), (1, nt ((9 : Nat) : Int))] [] _
    refine r_iload_n hG (hl0 := rfl) (hd := d_Ward_many_0) (K := ?_)
    refine r_iconst hG (hd := d_Ward_many_1) (K := ?_)
    refine r_bipush hG (hd := d_Ward_many_2) (K := ?_)
    refine cSv hG w_Ward_82 d_Ward_many_4 (ct_ckV (by omega) (by omega)) rfl rfl ⟨(Nat.le_of_ble_eq_true rfl), (Nat.le_of_ble_eq_true rfl)⟩ ⟨(Nat.le_of_ble_eq_true rfl), (Nat.le_of_ble_eq_true rfl)⟩ (Nat.le_of_ble_eq_true rfl) ?_
    refine r_iload_n hG (hl0 := rfl) (hd := d_Ward_many_7) (K := ?_)
    refine r_tsIn hG (tgt := 162) (off := 154) (hd := d_Ward_many_8) (h := by decide +kernel) (K := ?_)
    refine r_aload_n hG (hl0 := rfl) (hd := d_Ward_many_162) (K := ?_)
    refine g_Ward_76 hG (hd := d_Ward_many_163) (K := ?_)
    refine g_Ward_252 hG (hd := d_Ward_many_166) (K := ?_)
    refine r_iret hG d_Ward_many_169 ⟨(Nat.le_of_ble_eq_true rfl), (Nat.le_of_ble_eq_true rfl)⟩ ?_
    exact ⟨rfl, rfl⟩
  | 10, _ =>
    refine CT.of (by first | exact plainFor_of_name (by rfl) | decide +kernel) (Nat.le_of_ble_eq_true rfl) ?_
    intro G hG
    show G (0, 0) 0 [(0, rf Γ 0 0), (1, nt ((10 : Nat) : Int))] [] _
    refine r_iload_n hG (hl0 := rfl) (hd := d_Ward_many_0) (K := ?_)
    refine r_iconst hG (hd := d_Ward_many_1) (K := ?_)
    refine r_bipush hG (hd := d_Ward_many_2) (K := ?_)
    refine cSv hG w_Ward_82 d_Ward_many_4 (ct_ckV (by omega) (by omega)) rfl rfl ⟨(Nat.le_of_ble_eq_true rfl), (Nat.le_of_ble_eq_true rfl)⟩ ⟨(Nat.le_of_ble_eq_true rfl), (Nat.le_of_ble_eq_true rfl)⟩ (Nat.le_of_ble_eq_true rfl) ?_
    refine r_iload_n hG (hl0 := rfl) (hd := d_Ward_many_7) (K := ?_)
    refine r_tsIn hG (tgt := 170) (off := 162) (hd := d_Ward_many_8) (h := by decide +kernel) (K := ?_)
    refine r_aload_n hG (hl0 := rfl) (hd := d_Ward_many_170) (K := ?_)
    refine g_Ward_76 hG (hd := d_Ward_many_171) (K := ?_)
    refine g_Ward_254 hG (hd := d_Ward_many_174) (K := ?_)
    refine r_iret hG d_Ward_many_177 ⟨(Nat.le_of_ble_eq_true rfl), (Nat.le_of_ble_eq_true rfl)⟩ ?_
    exact ⟨rfl, rfl⟩
  | 11, _ =>
    refine CT.of (by first | exact plainFor_of_name (by rfl) | decide +kernel) (Nat.le_of_ble_eq_true rfl) ?_
    intro G hG
    show G (0, 0) 0 [(0, rf Γ 0 0), (1, nt ((11 : Nat) : Int))] [] _
    refine r_iload_n hG (hl0 := rfl) (hd := d_Ward_many_0) (K := ?_)
    refine r_iconst hG (hd := d_Ward_many_1) (K := ?_)
    refine r_bipush hG (hd := d_Ward_many_2) (K := ?_)
    refine cSv hG w_Ward_82 d_Ward_many_4 (ct_ckV (by omega) (by omega)) rfl rfl ⟨(Nat.le_of_ble_eq_true rfl), (Nat.le_of_ble_eq_true rfl)⟩ ⟨(Nat.le_of_ble_eq_true rfl), (Nat.le_of_ble_eq_true rfl)⟩ (Nat.le_of_ble_eq_true rfl) ?_
    refine r_iload_n hG (hl0 := rfl) (hd := d_Ward_many_7) (K := ?_)
    refine r_tsIn hG (tgt := 178) (off := 170) (hd := d_Ward_many_8) (h := by decide +kernel) (K := ?_)
    refine r_aload_n hG (hl0 := rfl) (hd := d_Ward_many_178) (K := ?_)
    refine g_Ward_76 hG (hd := d_Ward_many_179) (K := ?_)
    refine g_Ward_257 hG (hd := d_Ward_many_182) (K := ?_)
    refine r_iret hG d_Ward_many_185 ⟨(Nat.le_of_ble_eq_true rfl), (Nat.le_of_ble_eq_true rfl)⟩ ?_
    exact ⟨rfl, rfl⟩
  | 12, _ =>
    refine CT.of (by first | exact plainFor_of_name (by rfl) | decide +kernel) (Nat.le_of_ble_eq_true rfl) ?_
    intro G hG
    show G (0, 0) 0 [(0, rf Γ 0 0), (1, nt ((12 : Nat) : Int))] [] _
    refine r_iload_n hG (hl0 := rfl) (hd := d_Ward_many_0) (K := ?_)
    refine r_iconst hG (hd := d_Ward_many_1) (K := ?_)
    refine r_bipush hG (hd := d_Ward_many_2) (K := ?_)
    refine cSv hG w_Ward_82 d_Ward_many_4 (ct_ckV (by omega) (by omega)) rfl rfl ⟨(Nat.le_of_ble_eq_true rfl), (Nat.le_of_ble_eq_true rfl)⟩ ⟨(Nat.le_of_ble_eq_true rfl), (Nat.le_of_ble_eq_true rfl)⟩ (Nat.le_of_ble_eq_true rfl) ?_
    refine r_iload_n hG (hl0 := rfl) (hd := d_Ward_many_7) (K := ?_)
    refine r_tsIn hG (tgt := 186) (off := 178) (hd := d_Ward_many_8) (h := by decide +kernel) (K := ?_)
    refine r_aload_n hG (hl0 := rfl) (hd := d_Ward_many_186) (K := ?_)
    refine g_Ward_62 hG (hd := d_Ward_many_187) (K := ?_)
    refine g_Ward_260 hG (hd := d_Ward_many_190) (K := ?_)
    refine r_iret hG d_Ward_many_193 ⟨(Nat.le_of_ble_eq_true rfl), (Nat.le_of_ble_eq_true rfl)⟩ ?_
    exact ⟨rfl, rfl⟩
  | 13, _ =>
    refine CT.of (by first | exact plainFor_of_name (by rfl) | decide +kernel) (Nat.le_of_ble_eq_true rfl) ?_
    intro G hG
    show G (0, 0) 0 [(0, rf Γ 0 0), (1, nt ((13 : Nat) : Int))] [] _
    refine r_iload_n hG (hl0 := rfl) (hd := d_Ward_many_0) (K := ?_)
    refine r_iconst hG (hd := d_Ward_many_1) (K := ?_)
    refine r_bipush hG (hd := d_Ward_many_2) (K := ?_)
    refine cSv hG w_Ward_82 d_Ward_many_4 (ct_ckV (by omega) (by omega)) rfl rfl ⟨(Nat.le_of_ble_eq_true rfl), (Nat.le_of_ble_eq_true rfl)⟩ ⟨(Nat.le_of_ble_eq_true rfl), (Nat.le_of_ble_eq_true rfl)⟩ (Nat.le_of_ble_eq_true rfl) ?_
    refine r_iload_n hG (hl0 := rfl) (hd := d_Ward_many_7) (K := ?_)
    refine r_tsIn hG (tgt := 194) (off := 186) (hd := d_Ward_many_8) (h := by decide +kernel) (K := ?_)
    refine r_aload_n hG (hl0 := rfl) (hd := d_Ward_many_194) (K := ?_)
    refine g_Ward_62 hG (hd := d_Ward_many_195) (K := ?_)
    refine g_Ward_263 hG (hd := d_Ward_many_198) (K := ?_)
    refine r_iret hG d_Ward_many_201 ⟨(Nat.le_of_ble_eq_true rfl), (Nat.le_of_ble_eq_true rfl)⟩ ?_
    exact ⟨rfl, rfl⟩
  | 14, _ =>
    refine CT.of (by first | exact plainFor_of_name (by rfl) | decide +kernel) (Nat.le_of_ble_eq_true rfl) ?_
    intro G hG
    show G (0, 0) 0 [(0, rf Γ 0 0), (1, nt ((14 : Nat) : Int))] [] _
    refine r_iload_n hG (hl0 := rfl) (hd := d_Ward_many_0) (K := ?_)
    refine r_iconst hG (hd := d_Ward_many_1) (K := ?_)
    refine r_bipush hG (hd := d_Ward_many_2) (K := ?_)
    refine cSv hG w_Ward_82 d_Ward_many_4 (ct_ckV (by omega) (by omega)) rfl rfl ⟨(Nat.le_of_ble_eq_true rfl), (Nat.le_of_ble_eq_true rfl)⟩ ⟨(Nat.le_of_ble_eq_true rfl), (Nat.le_of_ble_eq_true rfl)⟩ (Nat.le_of_ble_eq_true rfl) ?_
    refine r_iload_n hG (hl0 := rfl) (hd := d_Ward_many_7) (K := ?_)
    refine r_tsIn hG (tgt := 202) (off := 194) (hd := d_Ward_many_8) (h := by decide +kernel) (K := ?_)
    refine r_aload_n hG (hl0 := rfl) (hd := d_Ward_many_202) (K := ?_)
    refine g_Ward_62 hG (hd := d_Ward_many_203) (K := ?_)
    refine g_Ward_266 hG (hd := d_Ward_many_206) (K := ?_)
    refine r_iret hG d_Ward_many_209 ⟨(Nat.le_of_ble_eq_true rfl), (Nat.le_of_ble_eq_true rfl)⟩ ?_
    exact ⟨rfl, rfl⟩
  | 15, _ =>
    refine CT.of (by first | exact plainFor_of_name (by rfl) | decide +kernel) (Nat.le_of_ble_eq_true rfl) ?_
    intro G hG
    show G (0, 0) 0 [(0, rf Γ 0 0), (1, nt ((15 : Nat) : Int))] [] _
    refine r_iload_n hG (hl0 := rfl) (hd := d_Ward_many_0) (K := ?_)
    refine r_iconst hG (hd := d_Ward_many_1) (K := ?_)
    refine r_bipush hG (hd := d_Ward_many_2) (K := ?_)
    refine cSv hG w_Ward_82 d_Ward_many_4 (ct_ckV (by omega) (by omega)) rfl rfl ⟨(Nat.le_of_ble_eq_true rfl), (Nat.le_of_ble_eq_true rfl)⟩ ⟨(Nat.le_of_ble_eq_true rfl), (Nat.le_of_ble_eq_true rfl)⟩ (Nat.le_of_ble_eq_true rfl) ?_
    refine r_iload_n hG (hl0 := rfl) (hd := d_Ward_many_7) (K := ?_)
    refine r_tsIn hG (tgt := 210) (off := 202) (hd := d_Ward_many_8) (h := by decide +kernel) (K := ?_)
    refine r_aload_n hG (hl0 := rfl) (hd := d_Ward_many_210) (K := ?_)
    refine g_Ward_169 hG (hd := d_Ward_many_211) (K := ?_)
    refine r_aload_n hG (hl0 := rfl) (hd := d_Ward_many_214) (K := ?_)
    refine g_Ward_76 hG (hd := d_Ward_many_215) (K := ?_)
    refine g_Ward_269 hG (hd := d_Ward_many_218) (K := ?_)
    first | refine r_isub hG (hd := d_Ward_many_221) (K := ?_) | refine r_isubr hG (hd := d_Ward_many_221) (K := ?_)
    refine r_iret hG d_Ward_many_222 ⟨(Nat.le_of_ble_eq_true rfl), (Nat.le_of_ble_eq_true rfl)⟩ ?_
    exact ⟨rfl, rfl⟩
  | 16, _ =>
    refine CT.of (by first | exact plainFor_of_name (by rfl) | decide +kernel) (Nat.le_of_ble_eq_true rfl) ?_
    intro G hG
    show G (0, 0) 0 [(0, rf Γ 0 0), (1, nt ((16 : Nat) : Int))] [] _
    refine r_iload_n hG (hl0 := rfl) (hd := d_Ward_many_0) (K := ?_)
    refine r_iconst hG (hd := d_Ward_many_1) (K := ?_)
    refine r_bipush hG (hd := d_Ward_many_2) (K := ?_)
    refine cSv hG w_Ward_82 d_Ward_many_4 (ct_ckV (by omega) (by omega)) rfl rfl ⟨(Nat.le_of_ble_eq_true rfl), (Nat.le_of_ble_eq_true rfl)⟩ ⟨(Nat.le_of_ble_eq_true rfl), (Nat.le_of_ble_eq_true rfl)⟩ (Nat.le_of_ble_eq_true rfl) ?_
    refine r_iload_n hG (hl0 := rfl) (hd := d_Ward_many_7) (K := ?_)
    refine r_tsIn hG (tgt := 223) (off := 215) (hd := d_Ward_many_8) (h := by decide +kernel) (K := ?_)
    refine r_aload_n hG (hl0 := rfl) (hd := d_Ward_many_223) (K := ?_)
    refine cVx hG w_Ward_272 d_Ward_many_224 (ct_fetchedEver hl hl3) (by decide) (by decide) rc_0 rfl rfl ⟨(Nat.le_of_ble_eq_true rfl), (Nat.le_of_ble_eq_true rfl)⟩ ⟨(Nat.le_of_ble_eq_true rfl), (Nat.le_of_ble_eq_true rfl)⟩ (Nat.le_of_ble_eq_true rfl) ?_
    refine r_iret hG d_Ward_many_227 ⟨(Nat.le_of_ble_eq_true rfl), (Nat.le_of_ble_eq_true rfl)⟩ ?_
    exact ⟨by rw [e16]; rfl, rfl⟩
  | 17, _ =>
    refine CT.of (by first | exact plainFor_of_name (by rfl) | decide +kernel) (Nat.le_of_ble_eq_true rfl) ?_
    intro G hG
    show G (0, 0) 0 [(0, rf Γ 0 0), (1, nt ((17 : Nat) : Int))] [] _
    refine r_iload_n hG (hl0 := rfl) (hd := d_Ward_many_0) (K := ?_)
    refine r_iconst hG (hd := d_Ward_many_1) (K := ?_)
    refine r_bipush hG (hd := d_Ward_many_2) (K := ?_)
    refine cSv hG w_Ward_82 d_Ward_many_4 (ct_ckV (by omega) (by omega)) rfl rfl ⟨(Nat.le_of_ble_eq_true rfl), (Nat.le_of_ble_eq_true rfl)⟩ ⟨(Nat.le_of_ble_eq_true rfl), (Nat.le_of_ble_eq_true rfl)⟩ (Nat.le_of_ble_eq_true rfl) ?_
    refine r_iload_n hG (hl0 := rfl) (hd := d_Ward_many_7) (K := ?_)
    refine r_tsOut hG (tgt := 228) (hd := d_Ward_many_8) (h := by decide +kernel) (K := ?_)
    refine r_aload_n hG (hl0 := rfl) (hd := d_Ward_many_228) (K := ?_)
    refine r_aload_n hG (hl0 := rfl) (hd := d_Ward_many_229) (K := ?_)
    refine g_Ward_11 hG (hd := d_Ward_many_230) (K := ?_)
    refine cVx hG w_Ward_275 d_Ward_many_233 (ct_litterIn (by decide) hs hs6) (by decide) (by decide) rc_0 rfl rfl ⟨(Nat.le_of_ble_eq_true rfl), (Nat.le_of_ble_eq_true rfl)⟩ ⟨(Nat.le_of_ble_eq_true rfl), (Nat.le_of_ble_eq_true rfl)⟩ (Nat.le_of_ble_eq_true rfl) ?_
    refine r_iret hG d_Ward_many_236 ⟨(Nat.le_of_ble_eq_true rfl), (Nat.le_of_ble_eq_true rfl)⟩ ?_
    exact ⟨by rw [e17]; rfl, rfl⟩
  | w + 18, h => exact absurd h (by omega)
def usedF (S : St) (r : Nat) : Int :=
  if r = 0 then 40 * cntIn S 1 (S 52 0 0).toNat + S 69 0 0 else if r = 1 then cleanSold S (S 52 0 0).toNat + S 67 0 0 else cleanSold S (S 52 0 0).toNat + S 67 0 0 + S 63 0 0
theorem ct_used {Γ : Gm} {S : St} {nb r : Nat} (hb : S 52 0 0 = (nb : Int)) (hb20 : nb ≤ 20) (h57 : ∀ b, b < 20 → 0 ≤ S 57 b 0 ∧ S 57 b 0 ≤ 3) (hr : r < 3) : CT Γ y_Ward_countedAsUsed b_Ward_countedAsUsed 3 ((some FieldType.int)) (rmx 2 0 0) [rf Γ 0 0, nt r] S (dX (some (nt (usedF S r))) S) := by
  unfold usedF
  rw [hb, Int.toNat_natCast]
  refine CT.of (by first | exact plainFor_of_name (by rfl) | decide +kernel) (Nat.le_of_ble_eq_true rfl) ?_
  intro G hG
  show G (0, 0) 0 [(0, rf Γ 0 0), (1, nt r)] [] _
  refine r_iload_n hG (hl0 := rfl) (hd := d_Ward_countedAsUsed_0) (K := ?_)
  refine r_if_ne hG (hd := d_Ward_countedAsUsed_1) (kt := fun h => ?_) (kf := fun h => ?_)
  · rw [if_neg (show ¬ r = 0 by omega)] at hG
    refine r_aload_n hG (hl0 := rfl) (hd := d_Ward_countedAsUsed_24) (K := ?_)
    refine g_Ward_55 hG (hd := d_Ward_countedAsUsed_25) (K := ?_)
    refine cVx hG w_Ward_413 d_Ward_countedAsUsed_28 (ct_cleanSold hb hb20 h57) (by decide) (by decide) rc_9 rfl rfl ⟨(Nat.le_of_ble_eq_true rfl), (Nat.le_of_ble_eq_true rfl)⟩ ⟨(Nat.le_of_ble_eq_true rfl), (Nat.le_of_ble_eq_true rfl)⟩ (Nat.le_of_ble_eq_true rfl) ?_
    refine r_aload_n hG (hl0 := rfl) (hd := d_Ward_countedAsUsed_31) (K := ?_)
    refine g_Ward_69 hG (hd := d_Ward_countedAsUsed_32) (K := ?_)
    refine g_Ward_246 hG (hd := d_Ward_countedAsUsed_35) (K := ?_)
    first | refine r_iadd hG (hd := d_Ward_countedAsUsed_38) (K := ?_) | refine r_iaddr hG (hd := d_Ward_countedAsUsed_38) (K := ?_)
    refine r_istore_n hG (hd := d_Ward_countedAsUsed_39) (K := ?_)
    refine r_iload_n hG (hl0 := rfl) (hd := d_Ward_countedAsUsed_40) (K := ?_)
    refine r_iconst hG (hd := d_Ward_countedAsUsed_41) (K := ?_)
    refine r_icmp_ne hG (hd := d_Ward_countedAsUsed_42) (kt := fun h1 => ?_) (kf := fun h1 => ?_)
    · rw [if_neg (show ¬ r = 1 by omega)] at hG
      refine r_iload_n hG (hl0 := rfl) (hd := d_Ward_countedAsUsed_49) (K := ?_)
      refine r_aload_n hG (hl0 := rfl) (hd := d_Ward_countedAsUsed_50) (K := ?_)
      refine g_Ward_62 hG (hd := d_Ward_countedAsUsed_51) (K := ?_)
      refine g_Ward_263 hG (hd := d_Ward_countedAsUsed_54) (K := ?_)
      first | refine r_iadd hG (hd := d_Ward_countedAsUsed_57) (K := ?_) | refine r_iaddr hG (hd := d_Ward_countedAsUsed_57) (K := ?_)
      refine r_iret hG d_Ward_countedAsUsed_58 ⟨(Nat.le_of_ble_eq_true rfl), (Nat.le_of_ble_eq_true rfl)⟩ ?_
      exact ⟨rfl, rfl⟩
    · rw [if_pos (show r = 1 by omega)] at hG
      refine r_iload_n hG (hl0 := rfl) (hd := d_Ward_countedAsUsed_45) (K := ?_)
      refine r_goto hG (hd := d_Ward_countedAsUsed_46) (K := ?_)
      refine r_iret hG d_Ward_countedAsUsed_58 ⟨(Nat.le_of_ble_eq_true rfl), (Nat.le_of_ble_eq_true rfl)⟩ ?_
      exact ⟨rfl, rfl⟩
  · rw [if_pos (show r = 0 by omega)] at hG
    refine r_bipush hG (hd := d_Ward_countedAsUsed_4) (K := ?_)
    refine r_aload_n hG (hl0 := rfl) (hd := d_Ward_countedAsUsed_6) (K := ?_)
    refine g_Ward_55 hG (hd := d_Ward_countedAsUsed_7) (K := ?_)
    refine r_iconst hG (hd := d_Ward_countedAsUsed_10) (K := ?_)
    refine cVx hG w_Ward_241 d_Ward_countedAsUsed_11 (ct_countIn hb hb20 (by omega) h57) (by decide) (by decide) rc_9 rfl rfl ⟨(Nat.le_of_ble_eq_true rfl), (Nat.le_of_ble_eq_true rfl)⟩ ⟨(Nat.le_of_ble_eq_true rfl), (Nat.le_of_ble_eq_true rfl)⟩ (Nat.le_of_ble_eq_true rfl) ?_
    refine r_imul hG (hd := d_Ward_countedAsUsed_14) (K := ?_)
    refine r_aload_n hG (hl0 := rfl) (hd := d_Ward_countedAsUsed_15) (K := ?_)
    refine g_Ward_69 hG (hd := d_Ward_countedAsUsed_16) (K := ?_)
    refine g_Ward_410 hG (hd := d_Ward_countedAsUsed_19) (K := ?_)
    first | refine r_iadd hG (hd := d_Ward_countedAsUsed_22) (K := ?_) | refine r_iaddr hG (hd := d_Ward_countedAsUsed_22) (K := ?_)
    refine r_iret hG d_Ward_countedAsUsed_23 ⟨(Nat.le_of_ble_eq_true rfl), (Nat.le_of_ble_eq_true rfl)⟩ ?_
    exact ⟨rfl, rfl⟩
def raF (S : St) (r : Nat) : Int := if fetN S (S 1 0 0).toNat ≤ 0 then 0 else 100 * usedF S r / fetN S (S 1 0 0).toNat
theorem ct_rate {Γ : Gm} {S : St} {nl nb r : Nat} (hl : S 1 0 0 = (nl : Int)) (hl3 : nl ≤ 3) (hb : S 52 0 0 = (nb : Int)) (hb20 : nb ≤ 20) (h57 : ∀ b, b < 20 → 0 ≤ S 57 b 0 ∧ S 57 b 0 ≤ 3) (hr : r < 3) (hf : 0 ≤ fetN S nl ∧ fetN S nl < 10000000) (hu : 0 ≤ usedF S r ∧ usedF S r < 10000000) : CT Γ y_Ward_rate b_Ward_rate 3 ((some FieldType.int)) (rmx 3 0 0) [rf Γ 0 0, nt r] S (dX (some (nt (raF S r))) S) := by
  unfold raF
  rw [hl, Int.toNat_natCast]
  refine CT.of (by first | exact plainFor_of_name (by rfl) | decide +kernel) (Nat.le_of_ble_eq_true rfl) ?_
  intro G hG
  show G (0, 0) 0 [(0, rf Γ 0 0), (1, nt r)] [] _
  refine r_iload_n hG (hl0 := rfl) (hd := d_Ward_rate_0) (K := ?_)
  refine r_iconst hG (hd := d_Ward_rate_1) (K := ?_)
  refine r_iconst hG (hd := d_Ward_rate_2) (K := ?_)
  refine cSv hG w_Ward_82 d_Ward_rate_3 (ct_ckV (by omega) (by omega)) rfl rfl ⟨(Nat.le_of_ble_eq_true rfl), (Nat.le_of_ble_eq_true rfl)⟩ ⟨(Nat.le_of_ble_eq_true rfl), (Nat.le_of_ble_eq_true rfl)⟩ (Nat.le_of_ble_eq_true rfl) ?_
  refine r_aload_n hG (hl0 := rfl) (hd := d_Ward_rate_6) (K := ?_)
  refine cVx hG w_Ward_272 d_Ward_rate_7 (ct_fetchedEver hl hl3) (by decide) (by decide) rc_0 rfl rfl ⟨(Nat.le_of_ble_eq_true rfl), (Nat.le_of_ble_eq_true rfl)⟩ ⟨(Nat.le_of_ble_eq_true rfl), (Nat.le_of_ble_eq_true rfl)⟩ (Nat.le_of_ble_eq_true rfl) ?_
  refine r_istore_n hG (hd := d_Ward_rate_10) (K := ?_)
  refine r_iload_n hG (hl0 := rfl) (hd := d_Ward_rate_11) (K := ?_)
  refine r_if_gt hG (hd := d_Ward_rate_12) (kt := fun h => ?_) (kf := fun h => ?_)
  · rw [if_neg (by omega)] at hG
    refine r_bipush hG (hd := d_Ward_rate_17) (K := ?_)
    refine r_aload_n hG (hl0 := rfl) (hd := d_Ward_rate_19) (K := ?_)
    refine r_iload_n hG (hl0 := rfl) (hd := d_Ward_rate_20) (K := ?_)
    refine cVx hG w_Ward_279 d_Ward_rate_21 (ct_used hb hb20 h57 hr) (by decide) (by decide) rc_0 rfl rfl ⟨(Nat.le_of_ble_eq_true rfl), (Nat.le_of_ble_eq_true rfl)⟩ ⟨(Nat.le_of_ble_eq_true rfl), (Nat.le_of_ble_eq_true rfl)⟩ (Nat.le_of_ble_eq_true rfl) ?_
    refine r_imul hG (hd := d_Ward_rate_24) (K := ?_)
    refine r_iload_n hG (hl0 := rfl) (hd := d_Ward_rate_25) (K := ?_)
    refine r_idiv hG (hr0 := by first | omega | (simp [sU]; omega)) (hd := d_Ward_rate_26) (K := ?_)
    refine r_iret hG d_Ward_rate_27 ⟨(Nat.le_of_ble_eq_true rfl), (Nat.le_of_ble_eq_true rfl)⟩ ?_
    exact ⟨rfl, rfl⟩
  · rw [if_pos (by omega)] at hG
    refine r_iconst hG (hd := d_Ward_rate_15) (K := ?_)
    refine r_iret hG d_Ward_rate_16 ⟨(Nat.le_of_ble_eq_true rfl), (Nat.le_of_ble_eq_true rfl)⟩ ?_
    exact ⟨rfl, rfl⟩
def fuF (S : St) (t j : Nat) : Int :=
  if 60 - (S 16 t j + S 17 t j) ≤ 0 then 0 else if S 15 t j ≤ 0 then -1 else if rupF (60 - (S 16 t j + S 17 t j)) (S 15 t j) ≤ 99 then rupF (60 - (S 16 t j + S 17 t j)) (S 15 t j) else -1
theorem rup_in {a b : Int} (ha : 0 ≤ a ∧ a ≤ 60) (hb : 0 < b) : 0 ≤ rupF a b ∧ rupF a b ≤ a := by
  unfold rupF
  refine ⟨Int.ediv_nonneg (by omega) (by omega), ?_⟩
  have h := Int.ediv_mul_le (a + b - 1) (show b ≠ 0 by omega)
  generalize (a + b - 1) / b = q at h ⊢
  rcases Int.lt_or_le a q with h1 | h1
  · have h2 := Int.mul_le_mul_of_nonneg_right (show a + 1 ≤ q by omega) (show 0 ≤ b by omega)
    have h3 := Int.mul_le_mul_of_nonneg_left (show 1 ≤ b by omega) ha.1
    rw [Int.add_mul] at h2
    omega
  · exact h1
theorem ct_fullIn {Γ : Gm} {S : St} {n k j : Nat} (hn : S 0 0 0 = (n : Int)) (hn6 : n ≤ 6) (hk : k < n) (hj : j < 3) (hT : okT S (2 * k)) : CT Γ y_Ward_fullIn b_Ward_fullIn 7 ((some FieldType.int)) (rmx 3 0 0) [rf Γ 0 0, nt k, nt j] S (dX (some (nt (fuF S (2 * k) j))) S) := by
  have hb := hT.2.2 j hj
  unfold fuF
  refine CT.of (by first | exact plainFor_of_name (by rfl) | decide +kernel) (Nat.le_of_ble_eq_true rfl) ?_
  intro G hG
  show G (0, 0) 0 [(0, rf Γ 0 0), (1, nt k), (2, nt j)] [] _
  refine r_aload_n hG (hl0 := rfl) (hd := d_Ward_fullIn_0) (K := ?_)
  refine r_iload_n hG (hl0 := rfl) (hd := d_Ward_fullIn_1) (K := ?_)
  refine cVx hG w_Ward_103 d_Ward_fullIn_2 (ct_streetAt hn hn6 hk) (by decide) (by decide) rc_0 rfl rfl ⟨(Nat.le_of_ble_eq_true rfl), (Nat.le_of_ble_eq_true rfl)⟩ ⟨(Nat.le_of_ble_eq_true rfl), (Nat.le_of_ble_eq_true rfl)⟩ (Nat.le_of_ble_eq_true rfl) ?_
  refine r_astore_n hG (hd := d_Ward_fullIn_5) (K := ?_)
  refine r_iload_n hG (hl0 := rfl) (hd := d_Ward_fullIn_6) (K := ?_)
  refine r_iconst hG (hd := d_Ward_fullIn_7) (K := ?_)
  refine cSv hG w_Ward_107 d_Ward_fullIn_8 (ct_ckI (by omega) (by omega)) rfl rfl ⟨(Nat.le_of_ble_eq_true rfl), (Nat.le_of_ble_eq_true rfl)⟩ ⟨(Nat.le_of_ble_eq_true rfl), (Nat.le_of_ble_eq_true rfl)⟩ (Nat.le_of_ble_eq_true rfl) ?_
  refine r_aload_n hG (hl0 := rfl) (hd := d_Ward_fullIn_11) (K := ?_)
  refine r_iload_n hG (hl0 := rfl) (hd := d_Ward_fullIn_12) (K := ?_)
  refine cVx hG w_Ward_285 d_Ward_fullIn_13 (ct_roomIn (by omega) hj) (by decide) (by show _ < 12; omega) rc_15 rfl rfl ⟨(Nat.le_of_ble_eq_true rfl), (Nat.le_of_ble_eq_true rfl)⟩ ⟨(Nat.le_of_ble_eq_true rfl), (Nat.le_of_ble_eq_true rfl)⟩ (Nat.le_of_ble_eq_true rfl) ?_
  refine r_istore hG (hd := d_Ward_fullIn_16) (K := ?_)
  refine r_iload hG (hl0 := rfl) (hd := d_Ward_fullIn_18) (K := ?_)
  refine r_if_gt hG (hd := d_Ward_fullIn_20) (kt := fun h => ?_) (kf := fun h => ?_)
  · rw [if_neg (by omega)] at hG
    refine r_aload_n hG (hl0 := rfl) (hd := d_Ward_fullIn_25) (K := ?_)
    refine g_Ward_111 hG (hi := by omega) (hd := d_Ward_fullIn_26) (K := ?_)
    refine r_iload_n hG (hl0 := rfl) (hd := d_Ward_fullIn_29) (K := ?_)
    first | refine a_16 hG (hd := d_Ward_fullIn_30) (hz := rfl) (hj := by omega) (hi := by omega) (K := ?_) | refine a_17 hG (hd := d_Ward_fullIn_30) (hz := rfl) (hj := by omega) (hi := by omega) (K := ?_) | refine a_18 hG (hd := d_Ward_fullIn_30) (hz := rfl) (hj := by omega) (hi := by omega) (K := ?_) | refine a_19 hG (hd := d_Ward_fullIn_30) (hz := rfl) (hj := by omega) (hi := by omega) (K := ?_) | refine a_4 hG (hd := d_Ward_fullIn_30) (hz := rfl) (hj := by omega) (hi := by omega) (K := ?_) | refine a_5 hG (hd := d_Ward_fullIn_30) (hz := rfl) (hj := by omega) (hi := by omega) (K := ?_) | refine a_21 hG (hd := d_Ward_fullIn_30) (hz := rfl) (hj := by omega) (hi := by omega) (K := ?_) | refine a_23 hG (hd := d_Ward_fullIn_30) (hz := rfl) (hj := by omega) (hi := by omega) (K := ?_) | refine a_24 hG (hd := d_Ward_fullIn_30) (hz := rfl) (hj := by omega) (hi := by omega) (K := ?_)
    refine r_istore hG (hd := d_Ward_fullIn_31) (K := ?_)
    refine r_iload hG (hl0 := rfl) (hd := d_Ward_fullIn_33) (K := ?_)
    refine r_if_gt hG (hd := d_Ward_fullIn_35) (kt := fun h1 => ?_) (kf := fun h1 => ?_)
    · rw [if_neg (by omega)] at hG
      have hr := rup_in (a := 60 - (S 16 (2 * k) j + S 17 (2 * k) j)) (by omega) (show 0 < S 15 (2 * k) j by omega)
      refine r_iload hG (hl0 := rfl) (hd := d_Ward_fullIn_40) (K := ?_)
      refine r_iload hG (hl0 := rfl) (hd := d_Ward_fullIn_42) (K := ?_)
      refine cSx hG w_Ward_288 d_Ward_fullIn_44 (ct_rup (by omega) (by omega)) rfl rfl ⟨(Nat.le_of_ble_eq_true rfl), (Nat.le_of_ble_eq_true rfl)⟩ ⟨(Nat.le_of_ble_eq_true rfl), (Nat.le_of_ble_eq_true rfl)⟩ (Nat.le_of_ble_eq_true rfl) ?_
      refine r_istore hG (hd := d_Ward_fullIn_47) (K := ?_)
      refine r_iload hG (hl0 := rfl) (hd := d_Ward_fullIn_49) (K := ?_)
      refine r_bipush hG (hd := d_Ward_fullIn_51) (K := ?_)
      refine r_icmp_gt hG (hd := d_Ward_fullIn_53) (kt := fun h2 => ?_) (kf := fun h2 => ?_)
      · rw [if_neg (by omega)] at hG
        refine r_iconst hG (hd := d_Ward_fullIn_61) (K := ?_)
        refine r_iret hG d_Ward_fullIn_62 ⟨(Nat.le_of_ble_eq_true rfl), (Nat.le_of_ble_eq_true rfl)⟩ ?_
        exact ⟨rfl, rfl⟩
      · rw [if_pos (by omega)] at hG
        refine r_iload hG (hl0 := rfl) (hd := d_Ward_fullIn_56) (K := ?_)
        refine r_goto hG (hd := d_Ward_fullIn_58) (K := ?_)
        refine r_iret hG d_Ward_fullIn_62 ⟨(Nat.le_of_ble_eq_true rfl), (Nat.le_of_ble_eq_true rfl)⟩ ?_
        exact ⟨rfl, rfl⟩
    · rw [if_pos (by omega)] at hG
      refine r_iconst hG (hd := d_Ward_fullIn_38) (K := ?_)
      refine r_iret hG d_Ward_fullIn_39 ⟨(Nat.le_of_ble_eq_true rfl), (Nat.le_of_ble_eq_true rfl)⟩ ?_
      exact ⟨rfl, rfl⟩
  · rw [if_pos (by omega)] at hG
    refine r_iconst hG (hd := d_Ward_fullIn_23) (K := ?_)
    refine r_iret hG d_Ward_fullIn_24 ⟨(Nat.le_of_ble_eq_true rfl), (Nat.le_of_ble_eq_true rfl)⟩ ?_
    exact ⟨rfl, rfl⟩
theorem ct_bestFetch {Γ : Gm} {S : St} {ns nl i : Nat} (hs : S 0 0 0 = (ns : Int)) (hs6 : ns ≤ 6) (hl : S 1 0 0 = (nl : Int)) (hl3 : nl ≤ 3) (hi : i < nl) (hT : ∀ t, t < 12 → okT S t) (hL : okL S i) : CT Γ y_Ward_bestFetch b_Ward_bestFetch 3 ((some FieldType.int)) (rmx 6 0 0) [rf Γ 0 0, nt i] S (dX (some (nt (runF S 0 i ns 40 0 0))) (runF S 0 i ns)) := by
  refine CT.of (by first | exact plainFor_of_name (by rfl) | decide +kernel) (Nat.le_of_ble_eq_true rfl) ?_
  intro G hG
  show G (0, 0) 0 [(0, rf Γ 0 0), (1, nt i)] [] _
  refine r_aload_n hG (hl0 := rfl) (hd := d_Ward_bestFetch_0) (K := ?_)
  refine r_iload_n hG (hl0 := rfl) (hd := d_Ward_bestFetch_1) (K := ?_)
  refine cVx hG w_Ward_126 d_Ward_bestFetch_2 (ct_lorryAt hl hl3 hi) (by decide) (by decide) rc_0 rfl rfl ⟨(Nat.le_of_ble_eq_true rfl), (Nat.le_of_ble_eq_true rfl)⟩ ⟨(Nat.le_of_ble_eq_true rfl), (Nat.le_of_ble_eq_true rfl)⟩ (Nat.le_of_ble_eq_true rfl) ?_
  refine r_astore_n hG (hd := d_Ward_bestFetch_5) (K := ?_)
  refine r_aload_n hG (hl0 := rfl) (hd := d_Ward_bestFetch_6) (K := ?_)
  refine g_Ward_34 hG (hd := d_Ward_bestFetch_7) (K := ?_)
  refine r_aload_n hG (hl0 := rfl) (hd := d_Ward_bestFetch_10) (K := ?_)
  refine r_aload_n hG (hl0 := rfl) (hd := d_Ward_bestFetch_11) (K := ?_)
  refine g_Ward_11 hG (hd := d_Ward_bestFetch_12) (K := ?_)
  refine r_aload_n hG (hl0 := rfl) (hd := d_Ward_bestFetch_15) (K := ?_)
  refine g_Ward_86 hG (hd := d_Ward_bestFetch_16) (K := ?_)
  rw [hs]
  refine cVv hG w_Ward_292 d_Ward_bestFetch_19 (ct_searchRun (by decide) (by omega) hs6 hT hL) (by decide) (by decide) rc_6 rfl rfl ⟨(Nat.le_of_ble_eq_true rfl), (Nat.le_of_ble_eq_true rfl)⟩ ⟨(Nat.le_of_ble_eq_true rfl), (Nat.le_of_ble_eq_true rfl)⟩ (Nat.le_of_ble_eq_true rfl) ?_
  refine r_aload_n hG (hl0 := rfl) (hd := d_Ward_bestFetch_22) (K := ?_)
  refine g_Ward_34 hG (hd := d_Ward_bestFetch_23) (K := ?_)
  refine g_Ward_296 hG (hd := d_Ward_bestFetch_26) (K := ?_)
  refine r_iret hG d_Ward_bestFetch_29 ⟨(Nat.le_of_ble_eq_true rfl), (Nat.le_of_ble_eq_true rfl)⟩ ?_
  exact ⟨rfl, rfl⟩
theorem ct_bestRound {Γ : Gm} {S : St} {ns nl i : Nat} (hs : S 0 0 0 = (ns : Int)) (hs6 : ns ≤ 6) (hl : S 1 0 0 = (nl : Int)) (hl3 : nl ≤ 3) (hi : i < nl) (hT : ∀ t, t < 12 → okT S t) (hL : okL S i) : CT Γ y_Ward_bestRound b_Ward_bestRound 3 ((some FieldType.int)) (rmx 6 0 0) [rf Γ 0 0, nt i] S (dX (some (nt (runF S 0 i ns 41 0 0))) (runF S 0 i ns)) := by
  refine CT.of (by first | exact plainFor_of_name (by rfl) | decide +kernel) (Nat.le_of_ble_eq_true rfl) ?_
  intro G hG
  show G (0, 0) 0 [(0, rf Γ 0 0), (1, nt i)] [] _
  refine r_aload_n hG (hl0 := rfl) (hd := d_Ward_bestRound_0) (K := ?_)
  refine r_iload_n hG (hl0 := rfl) (hd := d_Ward_bestRound_1) (K := ?_)
  refine cVx hG w_Ward_126 d_Ward_bestRound_2 (ct_lorryAt hl hl3 hi) (by decide) (by decide) rc_0 rfl rfl ⟨(Nat.le_of_ble_eq_true rfl), (Nat.le_of_ble_eq_true rfl)⟩ ⟨(Nat.le_of_ble_eq_true rfl), (Nat.le_of_ble_eq_true rfl)⟩ (Nat.le_of_ble_eq_true rfl) ?_
  refine r_astore_n hG (hd := d_Ward_bestRound_5) (K := ?_)
  refine r_aload_n hG (hl0 := rfl) (hd := d_Ward_bestRound_6) (K := ?_)
  refine g_Ward_34 hG (hd := d_Ward_bestRound_7) (K := ?_)
  refine r_aload_n hG (hl0 := rfl) (hd := d_Ward_bestRound_10) (K := ?_)
  refine r_aload_n hG (hl0 := rfl) (hd := d_Ward_bestRound_11) (K := ?_)
  refine g_Ward_11 hG (hd := d_Ward_bestRound_12) (K := ?_)
  refine r_aload_n hG (hl0 := rfl) (hd := d_Ward_bestRound_15) (K := ?_)
  refine g_Ward_86 hG (hd := d_Ward_bestRound_16) (K := ?_)
  rw [hs]
  refine cVv hG w_Ward_292 d_Ward_bestRound_19 (ct_searchRun (by decide) (by omega) hs6 hT hL) (by decide) (by decide) rc_6 rfl rfl ⟨(Nat.le_of_ble_eq_true rfl), (Nat.le_of_ble_eq_true rfl)⟩ ⟨(Nat.le_of_ble_eq_true rfl), (Nat.le_of_ble_eq_true rfl)⟩ (Nat.le_of_ble_eq_true rfl) ?_
  refine r_aload_n hG (hl0 := rfl) (hd := d_Ward_bestRound_22) (K := ?_)
  refine g_Ward_34 hG (hd := d_Ward_bestRound_23) (K := ?_)
  refine g_Ward_299 hG (hd := d_Ward_bestRound_26) (K := ?_)
  refine r_iret hG d_Ward_bestRound_29 ⟨(Nat.le_of_ble_eq_true rfl), (Nat.le_of_ble_eq_true rfl)⟩ ?_
  exact ⟨rfl, rfl⟩
