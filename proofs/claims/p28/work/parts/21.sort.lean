/-! THE LOADS are brought in; the day as a whole -/
def brF (S : St) (s c k : Nat) : St :=
  if S 34 c k + S 35 c k = 0 then S
  else if s = 0 then burnF S (S 34 c k + S 35 c k)
  else if s = 1 then prsN (S 2 0 0) (20 - (S 52 0 0).toNat) (S 52 0 0).toNat (burnF (lineF S (S 34 c k) (S 35 c k)) (lineR S (S 34 c k) (S 35 c k)))
  else sU (sU (sU S 65 0 0 (S 65 0 0 + S 34 c k)) 66 0 0 (S 66 0 0 + S 35 c k)) 69 0 0 (S 69 0 0 + (S 34 c k + S 35 c k))
/-- the hall's own numbers in order -/
def okS (S : St) : Prop := (0 ≤ S 45 0 0 ∧ S 45 0 0 ≤ 100) ∧ (0 ≤ S 46 0 0 ∧ S 46 0 0 ≤ 50) ∧ (0 ≤ S 47 0 0 ∧ S 47 0 0 ≤ 50) ∧ (0 ≤ S 60 0 0 ∧ S 60 0 0 ≤ 200) ∧ (0 ≤ S 61 0 0 ∧ S 61 0 0 ≤ 200)
theorem brF_of (S : St) (s c k : Nat) {f : Nat} (h : f < 47 ∨ 73 < f ∨ f = 57 ∨ f = 60) : brF S s c k f = S f := by
  unfold brF
  split
  · rfl
  · split
    · rw [burnF_of _ _ (by omega) (by omega)]
    · split
      · rw [prsN_of _ (by omega), burnF_of _ _ (by omega) (by omega), lineF_of _ _ _ (by omega)]
      · rw [sU_f (by omega), sU_f (by omega), sU_f (by omega)]
theorem brF_HI {S : St} {s c k dn : Nat} (h : HI S) (hs : okS S) (hC : okC S c k) (hnow : S 2 0 0 = (dn : Int)) (hdn : 1 ≤ dn) : HI (brF S s c k) ∧ HM (brF S s c k) = HM S + (S 34 c k + S 35 c k) ∧ okS (brF S s c k) := by
  obtain ⟨s1, s2, s3, s4, s5⟩ := hs
  obtain ⟨c1, c2, c3⟩ := hC
  have e : ∀ {f : Nat}, (f < 47 ∨ 73 < f ∨ f = 57 ∨ f = 60) → brF S s c k f = S f := fun h => brF_of S s c k h
  have hS : ∀ S' : St, (∀ {f : Nat}, (f < 47 ∨ 73 < f ∨ f = 57 ∨ f = 60) → S' f = S f) → (0 ≤ S' 47 0 0 ∧ S' 47 0 0 ≤ 50) → (0 ≤ S' 61 0 0 ∧ S' 61 0 0 ≤ 200) → okS S' := by
    intro S' e a b
    refine ⟨?_, ?_, a, ?_, b⟩
    · rw [e (by omega)]; exact s1
    · rw [e (by omega)]; exact s2
    · rw [e (by omega)]; exact s4
  unfold brF at e ⊢
  split at e
  · next q => exact ⟨by rw [if_pos q]; exact h, by rw [if_pos q]; omega, by rw [if_pos q]; exact ⟨s1, s2, s3, s4, s5⟩⟩
  · next q =>
    rw [if_neg q]
    split at e
    · next q2 =>
      rw [if_pos q2]
      obtain ⟨g1, g2⟩ := burnF_HI (a := S 34 c k + S 35 c k) h (by omega) s5.1
      exact ⟨g1, g2, hS _ e (by rw [burnF_of _ _ (by decide) (by decide)]; exact s3) (by rw [burnF_61]; omega)⟩
    · next q2 =>
      rw [if_neg q2]
      split at e
      · next q3 =>
        rw [if_pos q3]
        have hi := line_in (S := S) (c := S 34 c k) (d := S 35 c k) c1 (by omega) s1 s3.1
        obtain ⟨g1, g2⟩ := lineF_HI (c := S 34 c k) (d := S 35 c k) h c1 (by omega) s1 s3.1
        have l61 : lineF S (S 34 c k) (S 35 c k) 61 = S 61 := lineF_of _ _ _ (by decide)
        have l47 : lineF S (S 34 c k) (S 35 c k) 47 0 0 = S 47 0 0 - handF S (S 35 c k) := by simp [lineF, sU]
        obtain ⟨g3, g4⟩ := burnF_HI (S := lineF S (S 34 c k) (S 35 c k)) (a := lineR S (S 34 c k) (S 35 c k)) g1 hi.1 (by rw [l61]; exact s5.1)
        obtain ⟨n, hn20, hn, -⟩ := h.1
        have b52 : burnF (lineF S (S 34 c k) (S 35 c k)) (lineR S (S 34 c k) (S 35 c k)) 52 = S 52 := by rw [burnF_of _ _ (by decide) (by decide), lineF_of _ _ _ (by decide)]
        have b2 : burnF (lineF S (S 34 c k) (S 35 c k)) (lineR S (S 34 c k) (S 35 c k)) 2 = S 2 := by rw [burnF_of _ _ (by decide) (by decide), lineF_of _ _ _ (by decide)]
        obtain ⟨g5, g6⟩ := prsN_HI (day := S 2 0 0) (20 - (S 52 0 0).toNat) (S 52 0 0).toNat _ (by rw [hn, Int.toNat_natCast]; omega) g3 (by rw [b52, hn, Int.toNat_natCast]) (by rw [b2]; omega)
        refine ⟨g5, by rw [g6, g4, g2]; omega, hS _ e ?_ ?_⟩
        · rw [prsN_of _ (by decide), burnF_of _ _ (by decide) (by decide), l47]
          omega
        · rw [prsN_of _ (by decide), burnF_61, l61]
          omega
      · next q3 =>
        rw [if_neg q3]
        have f0 : ∀ {f : Nat}, f ≠ 65 ∧ f ≠ 66 ∧ f ≠ 69 → (sU (sU (sU S 65 0 0 (S 65 0 0 + S 34 c k)) 66 0 0 (S 66 0 0 + S 35 c k)) 69 0 0 (S 69 0 0 + (S 34 c k + S 35 c k))) f = S f := fun h => by rw [sU_f h.2.2, sU_f h.2.1, sU_f h.1]
        refine ⟨⟨BL_of h.1 (f0 (by decide)) (f0 (by decide)) (f0 (by decide)) (f0 (by decide)) (f0 (by decide)) (f0 (by decide)), ?_⟩, ?_, hS _ e (by rw [f0 (by decide)]; exact s3) (by rw [f0 (by decide)]; exact s5)⟩
        · obtain ⟨-, h1, h2, h3, h4, h5, h6⟩ := h
          simp only [sU]
          simp
          omega
        · unfold HM
          rw [balK_of (f0 (by decide)) (f0 (by decide))]
          simp only [sU]
          simp
          omega
theorem ct_bringIn {Γ : Gm} {S : St} {s c k dn : Nat} (hc : c < 4) (hk : k < 2) (hs3 : s < 3) (h : HI S) (hM : HM S ≤ 900000) (hs : okS S) (hC : okC S c k) (hnow : S 2 0 0 = (dn : Int)) : CT Γ y_Ward_bringIn b_Ward_bringIn 7 ((none : Option FieldType)) (rmx 3 0 0) [rf Γ 0 0, nt s, rf Γ 3 c, nt k] S (dX none (brF S s c k)) := by
  obtain ⟨s1, s2, s3, s4, s5⟩ := hs
  obtain ⟨c1, c2, c3⟩ := hC
  have hle := HI_le h
  have hi := line_in (S := S) (c := S 34 c k) (d := S 35 c k) c1 (by omega) s1 s3.1
  obtain ⟨n, hn20, hn, -⟩ := h.1
  unfold brF
  refine CT.of (by first | exact plainFor_of_name (by rfl) | decide +kernel) (Nat.le_of_ble_eq_true rfl) ?_
  intro G hG
  show G (0, 0) 0 [(0, rf Γ 0 0), (1, nt s), (2, rf Γ 3 c), (3, nt k)] [] _
  refine r_aload_n hG (hl0 := rfl) (hd := d_Ward_bringIn_0) (K := ?_)
  refine g_Ward_396 hG (hi := by omega) (hd := d_Ward_bringIn_1) (K := ?_)
  refine r_iload_n hG (hl0 := rfl) (hd := d_Ward_bringIn_4) (K := ?_)
  first | refine a_16 hG (hd := d_Ward_bringIn_5) (hz := rfl) (hj := by omega) (hi := by omega) (K := ?_) | refine a_17 hG (hd := d_Ward_bringIn_5) (hz := rfl) (hj := by omega) (hi := by omega) (K := ?_) | refine a_18 hG (hd := d_Ward_bringIn_5) (hz := rfl) (hj := by omega) (hi := by omega) (K := ?_) | refine a_19 hG (hd := d_Ward_bringIn_5) (hz := rfl) (hj := by omega) (hi := by omega) (K := ?_) | refine a_4 hG (hd := d_Ward_bringIn_5) (hz := rfl) (hj := by omega) (hi := by omega) (K := ?_) | refine a_5 hG (hd := d_Ward_bringIn_5) (hz := rfl) (hj := by omega) (hi := by omega) (K := ?_) | refine a_21 hG (hd := d_Ward_bringIn_5) (hz := rfl) (hj := by omega) (hi := by omega) (K := ?_) | refine a_23 hG (hd := d_Ward_bringIn_5) (hz := rfl) (hj := by omega) (hi := by omega) (K := ?_) | refine a_24 hG (hd := d_Ward_bringIn_5) (hz := rfl) (hj := by omega) (hi := by omega) (K := ?_)
  refine r_istore hG (hd := d_Ward_bringIn_6) (K := ?_)
  refine r_aload_n hG (hl0 := rfl) (hd := d_Ward_bringIn_8) (K := ?_)
  refine g_Ward_397 hG (hi := by omega) (hd := d_Ward_bringIn_9) (K := ?_)
  refine r_iload_n hG (hl0 := rfl) (hd := d_Ward_bringIn_12) (K := ?_)
  first | refine a_16 hG (hd := d_Ward_bringIn_13) (hz := rfl) (hj := by omega) (hi := by omega) (K := ?_) | refine a_17 hG (hd := d_Ward_bringIn_13) (hz := rfl) (hj := by omega) (hi := by omega) (K := ?_) | refine a_18 hG (hd := d_Ward_bringIn_13) (hz := rfl) (hj := by omega) (hi := by omega) (K := ?_) | refine a_19 hG (hd := d_Ward_bringIn_13) (hz := rfl) (hj := by omega) (hi := by omega) (K := ?_) | refine a_4 hG (hd := d_Ward_bringIn_13) (hz := rfl) (hj := by omega) (hi := by omega) (K := ?_) | refine a_5 hG (hd := d_Ward_bringIn_13) (hz := rfl) (hj := by omega) (hi := by omega) (K := ?_) | refine a_21 hG (hd := d_Ward_bringIn_13) (hz := rfl) (hj := by omega) (hi := by omega) (K := ?_) | refine a_23 hG (hd := d_Ward_bringIn_13) (hz := rfl) (hj := by omega) (hi := by omega) (K := ?_) | refine a_24 hG (hd := d_Ward_bringIn_13) (hz := rfl) (hj := by omega) (hi := by omega) (K := ?_)
  refine r_istore hG (hd := d_Ward_bringIn_14) (K := ?_)
  refine r_iload hG (hl0 := rfl) (hd := d_Ward_bringIn_16) (K := ?_)
  refine r_iload hG (hl0 := rfl) (hd := d_Ward_bringIn_18) (K := ?_)
  first | refine r_iadd hG (hd := d_Ward_bringIn_20) (K := ?_) | refine r_iaddr hG (hd := d_Ward_bringIn_20) (K := ?_)
  refine r_if_ne hG (hd := d_Ward_bringIn_21) (kt := fun q => ?_) (kf := fun q => ?_)
  · rw [if_neg q] at hG
    refine r_iload_n hG (hl0 := rfl) (hd := d_Ward_bringIn_25) (K := ?_)
    refine r_if_ne hG (hd := d_Ward_bringIn_26) (kt := fun q2 => ?_) (kf := fun q2 => ?_)
    · rw [if_neg (show ¬ s = 0 by omega)] at hG
      refine r_iload_n hG (hl0 := rfl) (hd := d_Ward_bringIn_48) (K := ?_)
      refine r_iconst hG (hd := d_Ward_bringIn_49) (K := ?_)
      refine r_icmp_ne hG (hd := d_Ward_bringIn_50) (kt := fun q3 => ?_) (kf := fun q3 => ?_)
      · rw [if_neg (show ¬ s = 1 by omega)] at hG
        refine r_aload_n hG (hl0 := rfl) (hd := d_Ward_bringIn_97) (K := ?_)
        refine g_Ward_69 hG (hd := d_Ward_bringIn_98) (K := ?_)
        refine r_iload hG (hl0 := rfl) (hd := d_Ward_bringIn_101) (K := ?_)
        refine r_iload hG (hl0 := rfl) (hd := d_Ward_bringIn_103) (K := ?_)
        refine cVv hG w_Ward_409 d_Ward_bringIn_105 (ct_heapIn) (by decide) (by decide) rc_13 rfl rfl ⟨(Nat.le_of_ble_eq_true rfl), (Nat.le_of_ble_eq_true rfl)⟩ ⟨(Nat.le_of_ble_eq_true rfl), (Nat.le_of_ble_eq_true rfl)⟩ (Nat.le_of_ble_eq_true rfl) ?_
        refine r_vret hG d_Ward_bringIn_108 ⟨(Nat.le_of_ble_eq_true rfl), (Nat.le_of_ble_eq_true rfl)⟩ ?_
        exact ⟨rfl, rfl⟩
      · rw [if_pos (show s = 1 by omega)] at hG
        have b2 : burnF (lineF S (S 34 c k) (S 35 c k)) (lineR S (S 34 c k) (S 35 c k)) 2 0 0 = S 2 0 0 := by rw [burnF_of _ _ (by decide) (by decide), lineF_of _ _ _ (by decide)]
        have b52 : burnF (lineF S (S 34 c k) (S 35 c k)) (lineR S (S 34 c k) (S 35 c k)) 52 0 0 = (n : Int) := by rw [burnF_of _ _ (by decide) (by decide), lineF_of _ _ _ (by decide), hn]
        have b50 : burnF (lineF S (S 34 c k) (S 35 c k)) (lineR S (S 34 c k) (S 35 c k)) 50 0 0 = S 50 0 0 + (S 34 c k - S 34 c k * 5 / 100) := by
          rw [burnF_of _ _ (by decide) (by decide)]
          simp [lineF, sU]
        have b51 : burnF (lineF S (S 34 c k) (S 35 c k)) (lineR S (S 34 c k) (S 35 c k)) 51 0 0 = S 51 0 0 + (S 35 c k - outF S (S 35 c k) - handF S (S 35 c k)) := by
          rw [burnF_of _ _ (by decide) (by decide)]
          simp [lineF, sU]
        have l61 : lineF S (S 34 c k) (S 35 c k) 61 0 0 = S 61 0 0 := by rw [lineF_of _ _ _ (by decide)]
        have o := outF_in (S := S) (d := S 35 c k) (by omega) s1
        obtain ⟨-, h1, -⟩ := h
        refine r_aload_n hG (hl0 := rfl) (hd := d_Ward_bringIn_53) (K := ?_)
        refine g_Ward_48 hG (hd := d_Ward_bringIn_54) (K := ?_)
        refine r_iload hG (hl0 := rfl) (hd := d_Ward_bringIn_57) (K := ?_)
        refine r_iload hG (hl0 := rfl) (hd := d_Ward_bringIn_59) (K := ?_)
        refine r_aload_n hG (hl0 := rfl) (hd := d_Ward_bringIn_61) (K := ?_)
        refine g_Ward_55 hG (hd := d_Ward_bringIn_62) (K := ?_)
        refine cVx hG w_Ward_402 d_Ward_bringIn_65 (ct_sort (by omega) (by omega) s1 (by omega)) (by decide) (by decide) rc_8 rfl rfl ⟨(Nat.le_of_ble_eq_true rfl), (Nat.le_of_ble_eq_true rfl)⟩ ⟨(Nat.le_of_ble_eq_true rfl), (Nat.le_of_ble_eq_true rfl)⟩ (Nat.le_of_ble_eq_true rfl) ?_
        refine r_istore hG (hd := d_Ward_bringIn_68) (K := ?_)
        refine r_aload_n hG (hl0 := rfl) (hd := d_Ward_bringIn_70) (K := ?_)
        refine g_Ward_62 hG (hd := d_Ward_bringIn_71) (K := ?_)
        refine r_iload hG (hl0 := rfl) (hd := d_Ward_bringIn_74) (K := ?_)
        refine r_aload_n hG (hl0 := rfl) (hd := d_Ward_bringIn_76) (K := ?_)
        refine g_Ward_76 hG (hd := d_Ward_bringIn_77) (K := ?_)
        refine cVv hG w_Ward_398 d_Ward_bringIn_80 (ct_burn (by omega) (by rw [l61]; omega)) (by decide) (by decide) rc_12 rfl rfl ⟨(Nat.le_of_ble_eq_true rfl), (Nat.le_of_ble_eq_true rfl)⟩ ⟨(Nat.le_of_ble_eq_true rfl), (Nat.le_of_ble_eq_true rfl)⟩ (Nat.le_of_ble_eq_true rfl) ?_
        refine r_aload_n hG (hl0 := rfl) (hd := d_Ward_bringIn_83) (K := ?_)
        refine g_Ward_55 hG (hd := d_Ward_bringIn_84) (K := ?_)
        refine r_aload_n hG (hl0 := rfl) (hd := d_Ward_bringIn_87) (K := ?_)
        refine g_Ward_187 hG (hd := d_Ward_bringIn_88) (K := ?_)
        rw [b2]
        refine cVv hG w_Ward_406 d_Ward_bringIn_91 (ct_press b52 hn20 (by rw [b50]; omega) (by rw [b51]; omega)) (by decide) (by decide) rc_9 rfl rfl ⟨(Nat.le_of_ble_eq_true rfl), (Nat.le_of_ble_eq_true rfl)⟩ ⟨(Nat.le_of_ble_eq_true rfl), (Nat.le_of_ble_eq_true rfl)⟩ (Nat.le_of_ble_eq_true rfl) ?_
        refine r_goto hG (hd := d_Ward_bringIn_94) (K := ?_)
        refine r_vret hG d_Ward_bringIn_108 ⟨(Nat.le_of_ble_eq_true rfl), (Nat.le_of_ble_eq_true rfl)⟩ ?_
        exact ⟨rfl, by rw [hn, Int.toNat_natCast]⟩
    · rw [if_pos (show s = 0 by omega)] at hG
      refine r_aload_n hG (hl0 := rfl) (hd := d_Ward_bringIn_29) (K := ?_)
      refine g_Ward_62 hG (hd := d_Ward_bringIn_30) (K := ?_)
      refine r_iload hG (hl0 := rfl) (hd := d_Ward_bringIn_33) (K := ?_)
      refine r_iload hG (hl0 := rfl) (hd := d_Ward_bringIn_35) (K := ?_)
      first | refine r_iadd hG (hd := d_Ward_bringIn_37) (K := ?_) | refine r_iaddr hG (hd := d_Ward_bringIn_37) (K := ?_)
      refine r_aload_n hG (hl0 := rfl) (hd := d_Ward_bringIn_38) (K := ?_)
      refine g_Ward_76 hG (hd := d_Ward_bringIn_39) (K := ?_)
      refine cVv hG w_Ward_398 d_Ward_bringIn_42 (ct_burn (by omega) (by omega)) (by decide) (by decide) rc_12 rfl rfl ⟨(Nat.le_of_ble_eq_true rfl), (Nat.le_of_ble_eq_true rfl)⟩ ⟨(Nat.le_of_ble_eq_true rfl), (Nat.le_of_ble_eq_true rfl)⟩ (Nat.le_of_ble_eq_true rfl) ?_
      refine r_goto hG (hd := d_Ward_bringIn_45) (K := ?_)
      refine r_vret hG d_Ward_bringIn_108 ⟨(Nat.le_of_ble_eq_true rfl), (Nat.le_of_ble_eq_true rfl)⟩ ?_
      exact ⟨rfl, rfl⟩
  · rw [if_pos q] at hG
    refine r_vret hG d_Ward_bringIn_24 ⟨(Nat.le_of_ble_eq_true rfl), (Nat.le_of_ble_eq_true rfl)⟩ ?_
    exact ⟨rfl, rfl⟩
def slC (S : St) (s i c : Nat) : St := if S 25 i c = (s : Int) then brF S s i c else S
def slN (S : St) (s : Nat) : Nat → St
  | 0 => S
  | k + 1 => slC (slC (slN S s k) s k 0) s k 1
def srtF (S : St) (n : Nat) : St := slN (slN (slN (sU (sU S 61 0 0 (S 60 0 0)) 47 0 0 (S 46 0 0)) 0 n) 1 n) 2 n
theorem slC_of (S : St) (s i c : Nat) {f : Nat} (h : f < 47 ∨ 73 < f ∨ f = 57 ∨ f = 60) : slC S s i c f = S f := by
  unfold slC
  split
  · exact brF_of S s i c h
  · rfl
theorem slN_of (S : St) (s : Nat) {f : Nat} (h : f < 47 ∨ 73 < f ∨ f = 57 ∨ f = 60) : ∀ k, slN S s k f = S f
  | 0 => rfl
  | k + 1 => by
    simp only [slN]
    rw [slC_of _ _ _ _ h, slC_of _ _ _ _ h, slN_of S s h k]
/-- what was loaded of one stream -/
def ldC (S : St) (s i c : Nat) : Int := if S 25 i c = (s : Int) then S 34 i c + S 35 i c else 0
def ldN (S : St) (s : Nat) : Nat → Int
  | 0 => 0
  | k + 1 => ldN S s k + ldC S s k 0 + ldC S s k 1
/-- what stays the same while loads are brought in -/
def okB (S : St) (n dn : Nat) : Prop := HI S ∧ okS S ∧ (∀ i, i < n → okC S i 0 ∧ okC S i 1) ∧ S 2 0 0 = (dn : Int) ∧ 1 ≤ dn
theorem slC_B {S : St} {s i c n dn : Nat} (hi : i < n) (hc : c < 2) (h : okB S n dn) : okB (slC S s i c) n dn ∧ HM (slC S s i c) = HM S + ldC S s i c := by
  obtain ⟨h1, h2, h3, h4, h5⟩ := id h
  have hC : okC S i c := by rcases (show c = 0 ∨ c = 1 by omega) with rfl | rfl; exact (h3 i hi).1; exact (h3 i hi).2
  have e : ∀ {f : Nat}, (f < 47 ∨ 73 < f ∨ f = 57 ∨ f = 60) → slC S s i c f = S f := fun h => slC_of S s i c h
  have hrest : (∀ i', i' < n → okC (slC S s i c) i' 0 ∧ okC (slC S s i c) i' 1) ∧ slC S s i c 2 0 0 = (dn : Int) := ⟨fun i' hi' => ⟨okC_of (h3 i' hi').1 (e (by omega)) (e (by omega)), okC_of (h3 i' hi').2 (e (by omega)) (e (by omega))⟩, by rw [e (by omega), h4]⟩
  have hx : HI (slC S s i c) ∧ HM (slC S s i c) = HM S + ldC S s i c ∧ okS (slC S s i c) := by
    unfold slC ldC
    split
    · exact brF_HI h1 h2 hC h4 h5
    · exact ⟨h1, by omega, h2⟩
  exact ⟨⟨hx.1, hx.2.2, hrest.1, hrest.2, h5⟩, hx.2.1⟩
theorem slN_B {S : St} {s n dn : Nat} (h : okB S n dn) : ∀ k, k ≤ n → okB (slN S s k) n dn ∧ HM (slN S s k) = HM S + ldN S s k
  | 0, _ => ⟨h, by simp [slN, ldN]⟩
  | k + 1, hk => by
    obtain ⟨a, ea⟩ := slN_B h k (by omega)
    obtain ⟨b, eb⟩ := slC_B (s := s) (i := k) (c := 0) (by omega) (by decide) a
    obtain ⟨c, ec⟩ := slC_B (s := s) (i := k) (c := 1) (by omega) (by decide) b
    have x : ∀ c, ldC (slN S s k) s k c = ldC S s k c := fun c => by
      unfold ldC
      rw [slN_of S s (by omega), slN_of S s (by omega), slN_of S s (by omega)]
    have y : ldC (slC (slN S s k) s k 0) s k 1 = ldC S s k 1 := by
      rw [← x 1]
      unfold ldC
      rw [slC_of _ _ _ _ (by omega), slC_of _ _ _ _ (by omega), slC_of _ _ _ _ (by omega)]
    refine ⟨c, ?_⟩
    simp only [slN, ldN]
    rw [ec, eb, ea, x 0, y]
    omega
theorem ldC_sum {S : St} {i c : Nat} (hL : okL S i) (hc : c < 2) : ldC S 0 i c + ldC S 1 i c + ldC S 2 i c = S 34 i c + S 35 i c := by
  obtain ⟨j, h1, h2⟩ := hL.2.1 c hc
  unfold ldC
  rw [h2]
  rcases (show j = 0 ∨ j = 1 ∨ j = 2 by omega) with rfl | rfl | rfl <;> simp
def chN (S : St) : Nat → Int
  | 0 => 0
  | k + 1 => chN S k + chS S k
theorem ldN_sum {S : St} (hL : ∀ i, i < 3 → okL S i) : ∀ k, k ≤ 3 → ldN S 0 k + ldN S 1 k + ldN S 2 k = chN S k
  | 0, _ => rfl
  | k + 1, hk => by
    have ih := ldN_sum hL k (by omega)
    have a := ldC_sum (hL k (by omega)) (show 0 < 2 by decide)
    have b := ldC_sum (hL k (by omega)) (show 1 < 2 by decide)
    simp only [ldN, chN]
    unfold chS
    omega
theorem okB_start {S : St} {n dn : Nat} (h : HI S) (hs : okS S) (hC : ∀ i, i < n → okC S i 0 ∧ okC S i 1) (hnow : S 2 0 0 = (dn : Int)) (hdn : 1 ≤ dn) : okB (sU (sU S 61 0 0 (S 60 0 0)) 47 0 0 (S 46 0 0)) n dn ∧ HM (sU (sU S 61 0 0 (S 60 0 0)) 47 0 0 (S 46 0 0)) = HM S := by
  have e : ∀ {f : Nat}, f ≠ 61 ∧ f ≠ 47 → (sU (sU S 61 0 0 (S 60 0 0)) 47 0 0 (S 46 0 0)) f = S f := fun h => by rw [sU_f h.2, sU_f h.1]
  obtain ⟨h1, h2⟩ := HI_of (S' := sU (sU S 61 0 0 (S 60 0 0)) 47 0 0 (S 46 0 0)) h (fun f a b c d => e (by omega)) (e (by decide))
  obtain ⟨s1, s2, s3, s4, s5⟩ := hs
  refine ⟨⟨h1, ⟨?_, ?_, ?_, ?_, ?_⟩, fun i hi => ⟨okC_of (hC i hi).1 (e (by decide)) (e (by decide)), okC_of (hC i hi).2 (e (by decide)) (e (by decide))⟩, by rw [e (by decide), hnow], hdn⟩, h2⟩
  · rw [e (by decide)]; exact s1
  · rw [e (by decide)]; exact s2
  · rw [sU_eq]; exact s2
  · rw [e (by decide)]; exact s4
  · rw [sU_nf (by decide), sU_eq]; exact s4
theorem srtF_of (S : St) (n : Nat) {f : Nat} (h : (f < 47 ∨ 73 < f ∨ f = 57 ∨ f = 60)) : srtF S n f = S f := by
  unfold srtF
  rw [slN_of _ _ h, slN_of _ _ h, slN_of _ _ h, sU_f (by omega), sU_f (by omega)]
theorem srtF_HI {S : St} {n dn : Nat} (hn : n ≤ 3) (h : HI S) (hs : okS S) (hL : ∀ i, i < 3 → okL S i) (hC : ∀ i, i < n → okC S i 0 ∧ okC S i 1) (hnow : S 2 0 0 = (dn : Int)) (hdn : 1 ≤ dn) : HI (srtF S n) ∧ okS (srtF S n) ∧ HM (srtF S n) = HM S + chN S n := by
  obtain ⟨a, ea⟩ := okB_start h hs hC hnow hdn
  obtain ⟨b, eb⟩ := slN_B (s := 0) a n (Nat.le_refl _)
  obtain ⟨c, ec⟩ := slN_B (s := 1) b n (Nat.le_refl _)
  obtain ⟨d, ed⟩ := slN_B (s := 2) c n (Nat.le_refl _)
  refine ⟨d.1, d.2.1, ?_⟩
  have e : ∀ {f : Nat}, f ≠ 61 ∧ f ≠ 47 → (sU (sU S 61 0 0 (S 60 0 0)) 47 0 0 (S 46 0 0)) f = S f := fun h => by rw [sU_f h.2, sU_f h.1]
  have x : ∀ (S1 : St), (∀ {f : Nat}, (f < 47 ∧ f ≠ 47) → S1 f = S f) → ∀ s k, ldN S1 s k = ldN S s k := by
    intro S1 e1 s k
    induction k with
    | zero => rfl
    | succ k ih =>
      simp only [ldN]
      rw [ih]
      unfold ldC
      rw [e1 (by omega), e1 (by omega), e1 (by omega)]
  have hsum := ldN_sum hL n hn
  have x0 : ldN (sU (sU S 61 0 0 (S 60 0 0)) 47 0 0 (S 46 0 0)) 0 n = ldN S 0 n := x _ (fun h => e (by omega)) 0 n
  have x1 : ldN (slN (sU (sU S 61 0 0 (S 60 0 0)) 47 0 0 (S 46 0 0)) 0 n) 1 n = ldN S 1 n := x _ (fun h => by rw [slN_of _ _ (by omega), e (by omega)]) 1 n
  have x2 : ldN (slN (slN (sU (sU S 61 0 0 (S 60 0 0)) 47 0 0 (S 46 0 0)) 0 n) 1 n) 2 n = ldN S 2 n := x _ (fun h => by rw [slN_of _ _ (by omega), slN_of _ _ (by omega), e (by omega)]) 2 n
  unfold srtF
  rw [ed, ec, eb, ea, x0, x1, x2]
  omega
theorem ct_sortLoads {Γ : Gm} {S : St} {n dn : Nat} (hl : S 1 0 0 = (n : Int)) (hn : n ≤ 3) (h : HI S) (hs : okS S) (hL : ∀ i, i < 3 → okL S i) (hC : ∀ i, i < n → okC S i 0 ∧ okC S i 1) (hnow : S 2 0 0 = (dn : Int)) (hdn : 1 ≤ dn) (hM : HM S + chN S n ≤ 900000) : CT Γ y_Ward_sortLoads b_Ward_sortLoads 4 ((none : Option FieldType)) (rmx 4 0 0) [rf Γ 0 0] S (dX none (srtF S n)) := by
  obtain ⟨B0, e0⟩ := okB_start h hs hC hnow hdn
  refine CT.of (by first | exact plainFor_of_name (by rfl) | decide +kernel) (Nat.le_of_ble_eq_true rfl) ?_
  intro G hG
  show G (0, 0) 0 [(0, rf Γ 0 0)] [] _
  refine r_aload_n hG (hl0 := rfl) (hd := d_Ward_sortLoads_0) (K := ?_)
  refine g_Ward_62 hG (hd := d_Ward_sortLoads_1) (K := ?_)
  refine cVv hG w_Ward_388 d_Ward_sortLoads_4 (ct_furStart) (by decide) (by decide) rc_12 rfl rfl ⟨(Nat.le_of_ble_eq_true rfl), (Nat.le_of_ble_eq_true rfl)⟩ ⟨(Nat.le_of_ble_eq_true rfl), (Nat.le_of_ble_eq_true rfl)⟩ (Nat.le_of_ble_eq_true rfl) ?_
  refine r_aload_n hG (hl0 := rfl) (hd := d_Ward_sortLoads_7) (K := ?_)
  refine g_Ward_48 hG (hd := d_Ward_sortLoads_8) (K := ?_)
  refine cVv hG w_Ward_391 d_Ward_sortLoads_11 (ct_lineStart) (by decide) (by decide) rc_8 rfl rfl ⟨(Nat.le_of_ble_eq_true rfl), (Nat.le_of_ble_eq_true rfl)⟩ ⟨(Nat.le_of_ble_eq_true rfl), (Nat.le_of_ble_eq_true rfl)⟩ (Nat.le_of_ble_eq_true rfl) ?_
  refine r_iconst hG (hd := d_Ward_sortLoads_14) (K := ?_)
  refine r_istore_n hG (hd := d_Ward_sortLoads_15) (K := ?_)
  rw [show sU S 61 0 0 (S 60 0 0) 46 0 0 = S 46 0 0 by rw [sU_nf (by decide)]]
  have chv : ∀ {S1 : St}, (∀ {f : Nat}, (f < 47 ∧ f ≠ 47) → S1 f = S f) → ∀ s k, ldN S1 s k = ldN S s k := by
    intro S1 e1 s k
    induction k with
    | zero => rfl
    | succ k ih =>
      simp only [ldN]
      rw [ih]
      unfold ldC
      rw [e1 (by omega), e1 (by omega), e1 (by omega)]
  have ld0 : ∀ s k, 0 ≤ k → k ≤ n → 0 ≤ ldN S s k ∧ ldN S s k ≤ ldN S s n := by
    have nn : ∀ s k, k < n → 0 ≤ ldC S s k 0 ∧ 0 ≤ ldC S s k 1 := by
      intro s k hk
      have a := (hC k hk).1
      have b := (hC k hk).2
      unfold okC at a b
      unfold ldC
      split <;> split <;> omega
    have mono : ∀ s m k, k + m = n → 0 ≤ ldN S s k → ldN S s k ≤ ldN S s n := by
      intro s m
      induction m with
      | zero => intro k hk _; rw [show k = n by omega]; exact Int.le_refl _
      | succ m ih =>
        intro k hk h0
        have a := nn s k (by omega)
        have b : ldN S s (k + 1) = ldN S s k + ldC S s k 0 + ldC S s k 1 := rfl
        have c := ih (k + 1) (by omega) (by omega)
        omega
    have pos : ∀ s k, k ≤ n → 0 ≤ ldN S s k := by
      intro s k
      induction k with
      | zero => intro _; exact Int.le_refl _
      | succ k ih =>
        intro hk
        have a := nn s k (by omega)
        have b : ldN S s (k + 1) = ldN S s k + ldC S s k 0 + ldC S s k 1 := rfl
        have c := ih (by omega)
        omega
    exact fun s k _ hk => ⟨pos s k hk, mono s (n - k) k (by omega) (pos s k hk)⟩
  have hsum := ldN_sum hL n hn
  have one : ∀ (s : Nat) (S1 : St), s < 3 → okB S1 n dn → (∀ {f : Nat}, (f < 47 ∧ f ≠ 47) → S1 f = S f) → HM S1 + ldN S s n ≤ 900000 → G (0, 0) 80 [(0, rf Γ 0 0), (1, nt s)] [] (slN S1 s n) → G (0, 0) 23 [(0, rf Γ 0 0), (1, nt s), (2, nt 0)] [] S1 := by
    intro s S1 hs3 hB1 e1 hM1 K
    have loop : ∀ m k : Nat, k + m = n → G (0, 0) 23 [(0, rf Γ 0 0), (1, nt s), (2, nt k)] [] (slN S1 s k) := by
      intro m
      induction m with
      | zero =>
        intro k hk
        have hkn : k = n := by omega
        subst hkn
        have h1 : slN S1 s k 1 0 0 = (k : Int) := by rw [slN_of _ _ (by omega), e1 (by omega), hl]
        refine r_iload_n hG (hl0 := rfl) (hd := d_Ward_sortLoads_23) (K := ?_)
        refine r_aload_n hG (hl0 := rfl) (hd := d_Ward_sortLoads_24) (K := ?_)
        refine g_Ward_115 hG (hd := d_Ward_sortLoads_25) (K := ?_)
        refine r_icmp_ge hG (hd := d_Ward_sortLoads_28) (kt := fun _ => ?_) (kf := fun hh => absurd hh (by omega))
        exact r_sb hG (K) ⟨rfl, rfl, trivial⟩
      | succ m ih =>
        intro k hk
        have next := ih (k + 1) (by omega)
        obtain ⟨Bk, ek⟩ := slN_B (s := s) hB1 k (by omega)
        obtain ⟨Bc, ec⟩ := slC_B (s := s) (i := k) (c := 0) (by omega) (by decide) Bk
        have l0 := ld0 s k (by omega) (by omega)
        have l1 := ld0 s (k + 1) (by omega) (by omega)
        have lk : ldN S s (k + 1) = ldN S s k + ldC S s k 0 + ldC S s k 1 := rfl
        have a0 := (hC k (by omega)).1
        have a1 := (hC k (by omega)).2
        have c0 : 0 ≤ ldC S s k 0 ∧ 0 ≤ ldC S s k 1 := by
          unfold okC at a0 a1
          unfold ldC
          split <;> split <;> omega
        have x : ∀ c, ldC (slN S1 s k) s k c = ldC S s k c := fun c => by
          unfold ldC
          rw [slN_of _ _ (by omega), slN_of _ _ (by omega), slN_of _ _ (by omega), e1 (by omega), e1 (by omega), e1 (by omega)]
        rw [chv e1] at ek
        rw [x 0] at ec
        have f25 : ∀ c, slN S1 s k 25 k c = S 25 k c := fun c => by rw [slN_of _ _ (by omega), e1 (by omega)]
        have g25 : ∀ c, slC (slN S1 s k) s k 0 25 k c = S 25 k c := fun c => by rw [slC_of _ _ _ _ (by omega), f25 c]
        have h1 : slN S1 s k 1 0 0 = (n : Int) := by rw [slN_of _ _ (by omega), e1 (by omega), hl]
        simp only [slN] at next
        generalize hT : slN S1 s k = T at Bk ek Bc ec f25 g25 h1 next ⊢
        obtain ⟨j0, hj0, hj0e⟩ := (hL k (by omega)).2.1 0 (by decide)
        obtain ⟨j1, hj1, hj1e⟩ := (hL k (by omega)).2.1 1 (by decide)
        refine r_iload_n hG (hl0 := rfl) (hd := d_Ward_sortLoads_23) (K := ?_)
        refine r_aload_n hG (hl0 := rfl) (hd := d_Ward_sortLoads_24) (K := ?_)
        refine g_Ward_115 hG (hd := d_Ward_sortLoads_25) (K := ?_)
        refine r_icmp_ge hG (hd := d_Ward_sortLoads_28) (kt := fun hh => absurd hh (by omega)) (kf := fun _ => ?_)
        refine r_iconst hG (hd := d_Ward_sortLoads_31) (K := ?_)
        refine r_istore_n hG (hd := d_Ward_sortLoads_32) (K := ?_)
        refine r_iload_n hG (hl0 := rfl) (hd := d_Ward_sortLoads_33) (K := ?_)
        refine r_iconst hG (hd := d_Ward_sortLoads_34) (K := ?_)
        refine r_icmp_ge hG (hd := d_Ward_sortLoads_35) (kt := fun hh => absurd hh (by omega)) (kf := fun _ => ?_)
        refine r_aload_n hG (hl0 := rfl) (hd := d_Ward_sortLoads_38) (K := ?_)
        refine g_Ward_20 hG (hd := d_Ward_sortLoads_39) (K := ?_)
        refine r_iload_n hG (hl0 := rfl) (hd := d_Ward_sortLoads_42) (K := ?_)
        first | refine a_1 hG (hd := d_Ward_sortLoads_43) (hz := rfl) (hj := by omega) (hi := by omega) (K := ?_) | refine a_2 hG (hd := d_Ward_sortLoads_43) (hz := rfl) (hj := by omega) (hi := by omega) (K := ?_) | refine a_10 hG (hd := d_Ward_sortLoads_43) (hz := rfl) (hj := by omega) (hi := by omega) (K := ?_) | refine r_aald22 hG (hd := d_Ward_sortLoads_43) (hz := rfl) (hj := by omega) (hi := by omega) (K := ?_)
        refine g_Ward_123 hG (hi := by omega) (hd := d_Ward_sortLoads_44) (K := ?_)
        refine r_iload_n hG (hl0 := rfl) (hd := d_Ward_sortLoads_47) (K := ?_)
        refine a_21 hG (j := 0) (hd := d_Ward_sortLoads_48) (hz := rfl) (hj := by omega) (hi := by omega) (K := ?_)
        rw [f25, hj0e]
        have half : G (0, 0) 68 [(0, rf Γ 0 0), (1, nt s), (2, nt k), (3, nt ((0 : Nat) : Int))] [] (slC T s k 0) := by
          refine r_iinc hG (hl0 := rfl) (hd := d_Ward_sortLoads_68) (K := ?_)
          refine r_goto hG (hd := d_Ward_sortLoads_71) (K := ?_)
          refine r_iload_n hG (hl0 := rfl) (hd := d_Ward_sortLoads_33) (K := ?_)
          refine r_iconst hG (hd := d_Ward_sortLoads_34) (K := ?_)
          refine r_icmp_ge hG (hd := d_Ward_sortLoads_35) (kt := fun hh => absurd hh (by omega)) (kf := fun _ => ?_)
          refine r_aload_n hG (hl0 := rfl) (hd := d_Ward_sortLoads_38) (K := ?_)
          refine g_Ward_20 hG (hd := d_Ward_sortLoads_39) (K := ?_)
          refine r_iload_n hG (hl0 := rfl) (hd := d_Ward_sortLoads_42) (K := ?_)
          first | refine a_1 hG (hd := d_Ward_sortLoads_43) (hz := rfl) (hj := by omega) (hi := by omega) (K := ?_) | refine a_2 hG (hd := d_Ward_sortLoads_43) (hz := rfl) (hj := by omega) (hi := by omega) (K := ?_) | refine a_10 hG (hd := d_Ward_sortLoads_43) (hz := rfl) (hj := by omega) (hi := by omega) (K := ?_) | refine r_aald22 hG (hd := d_Ward_sortLoads_43) (hz := rfl) (hj := by omega) (hi := by omega) (K := ?_)
          refine g_Ward_123 hG (hi := by omega) (hd := d_Ward_sortLoads_44) (K := ?_)
          refine r_iload_n hG (hl0 := rfl) (hd := d_Ward_sortLoads_47) (K := ?_)
          refine a_21 hG (j := 1) (hd := d_Ward_sortLoads_48) (hz := rfl) (hj := by omega) (hi := by omega) (K := ?_)
          rw [g25, hj1e]
          have fin : G (0, 0) 68 [(0, rf Γ 0 0), (1, nt s), (2, nt k), (3, nt ((1 : Nat) : Int))] [] (slC (slC T s k 0) s k 1) := by
            refine r_iinc hG (hl0 := rfl) (hd := d_Ward_sortLoads_68) (K := ?_)
            refine r_goto hG (hd := d_Ward_sortLoads_71) (K := ?_)
            refine r_iload_n hG (hl0 := rfl) (hd := d_Ward_sortLoads_33) (K := ?_)
            refine r_iconst hG (hd := d_Ward_sortLoads_34) (K := ?_)
            refine r_icmp_ge hG (hd := d_Ward_sortLoads_35) (kt := fun _ => ?_) (kf := fun hh => absurd hh (by omega))
            refine r_iinc hG (hl0 := rfl) (hd := d_Ward_sortLoads_74) (K := ?_)
            refine r_goto hG (hd := d_Ward_sortLoads_77) (K := ?_)
            exact r_sb hG (next) ⟨rfl, rfl, rfl, trivial⟩
          refine r_iload_n hG (hl0 := rfl) (hd := d_Ward_sortLoads_49) (K := ?_)
          refine r_icmp_ne hG (hd := d_Ward_sortLoads_50) (kt := fun h => ?_) (kf := fun h => ?_)
          · have e : slC (slC T s k 0) s k 1 = slC T s k 0 := by
              unfold slC at g25 ⊢
              rw [g25, hj1e, if_neg (by omega)]
            rw [e] at fin
            exact r_sb hG (fin) ⟨rfl, rfl, rfl, rfl, trivial⟩
          · have e : slC (slC T s k 0) s k 1 = brF (slC T s k 0) s k 1 := by
              rw [slC, g25, hj1e, if_pos (by omega)]
            rw [e] at fin
            obtain ⟨b1, b2, b3, b4, b5⟩ := Bc
            refine r_aload_n hG (hl0 := rfl) (hd := d_Ward_sortLoads_53) (K := ?_)
            refine r_iload_n hG (hl0 := rfl) (hd := d_Ward_sortLoads_54) (K := ?_)
            refine r_aload_n hG (hl0 := rfl) (hd := d_Ward_sortLoads_55) (K := ?_)
            refine g_Ward_20 hG (hd := d_Ward_sortLoads_56) (K := ?_)
            refine r_iload_n hG (hl0 := rfl) (hd := d_Ward_sortLoads_59) (K := ?_)
            first | refine a_1 hG (hd := d_Ward_sortLoads_60) (hz := rfl) (hj := by omega) (hi := by omega) (K := ?_) | refine a_2 hG (hd := d_Ward_sortLoads_60) (hz := rfl) (hj := by omega) (hi := by omega) (K := ?_) | refine a_10 hG (hd := d_Ward_sortLoads_60) (hz := rfl) (hj := by omega) (hi := by omega) (K := ?_) | refine r_aald22 hG (hd := d_Ward_sortLoads_60) (hz := rfl) (hj := by omega) (hi := by omega) (K := ?_)
            refine g_Ward_370 hG (hi := by omega) (hd := d_Ward_sortLoads_61) (K := ?_)
            refine r_iload_n hG (hl0 := rfl) (hd := d_Ward_sortLoads_64) (K := ?_)
            refine cVv hG w_Ward_392 d_Ward_sortLoads_65 (ct_bringIn (by omega) (show 1 < 2 by decide) hs3 b1 (by omega) b2 (b3 k (by omega)).2 b4) (by decide) (by decide) rc_0 rfl rfl ⟨(Nat.le_of_ble_eq_true rfl), (Nat.le_of_ble_eq_true rfl)⟩ ⟨(Nat.le_of_ble_eq_true rfl), (Nat.le_of_ble_eq_true rfl)⟩ (Nat.le_of_ble_eq_true rfl) ?_
            exact r_sb hG (fin) ⟨rfl, rfl, rfl, rfl, trivial⟩
        refine r_iload_n hG (hl0 := rfl) (hd := d_Ward_sortLoads_49) (K := ?_)
        refine r_icmp_ne hG (hd := d_Ward_sortLoads_50) (kt := fun h => ?_) (kf := fun h => ?_)
        · have e : slC T s k 0 = T := by
            rw [slC, f25, hj0e, if_neg (by omega)]
          rw [e] at half
          exact r_sb hG (half) ⟨rfl, rfl, rfl, rfl, trivial⟩
        · have e : slC T s k 0 = brF T s k 0 := by
            rw [slC, f25, hj0e, if_pos (by omega)]
          rw [e] at half
          obtain ⟨b1, b2, b3, b4, b5⟩ := Bk
          refine r_aload_n hG (hl0 := rfl) (hd := d_Ward_sortLoads_53) (K := ?_)
          refine r_iload_n hG (hl0 := rfl) (hd := d_Ward_sortLoads_54) (K := ?_)
          refine r_aload_n hG (hl0 := rfl) (hd := d_Ward_sortLoads_55) (K := ?_)
          refine g_Ward_20 hG (hd := d_Ward_sortLoads_56) (K := ?_)
          refine r_iload_n hG (hl0 := rfl) (hd := d_Ward_sortLoads_59) (K := ?_)
          first | refine a_1 hG (hd := d_Ward_sortLoads_60) (hz := rfl) (hj := by omega) (hi := by omega) (K := ?_) | refine a_2 hG (hd := d_Ward_sortLoads_60) (hz := rfl) (hj := by omega) (hi := by omega) (K := ?_) | refine a_10 hG (hd := d_Ward_sortLoads_60) (hz := rfl) (hj := by omega) (hi := by omega) (K := ?_) | refine r_aald22 hG (hd := d_Ward_sortLoads_60) (hz := rfl) (hj := by omega) (hi := by omega) (K := ?_)
          refine g_Ward_370 hG (hi := by omega) (hd := d_Ward_sortLoads_61) (K := ?_)
          refine r_iload_n hG (hl0 := rfl) (hd := d_Ward_sortLoads_64) (K := ?_)
          refine cVv hG w_Ward_392 d_Ward_sortLoads_65 (ct_bringIn (by omega) (show 0 < 2 by decide) hs3 b1 (by omega) b2 (b3 k (by omega)).1 b4) (by decide) (by decide) rc_0 rfl rfl ⟨(Nat.le_of_ble_eq_true rfl), (Nat.le_of_ble_eq_true rfl)⟩ ⟨(Nat.le_of_ble_eq_true rfl), (Nat.le_of_ble_eq_true rfl)⟩ (Nat.le_of_ble_eq_true rfl) ?_
          exact r_sb hG (half) ⟨rfl, rfl, rfl, rfl, trivial⟩
    exact r_sb hG (loop n 0 (by omega)) ⟨rfl, rfl, rfl, trivial⟩
  generalize hA : sU (sU S 61 0 0 (S 60 0 0)) 47 0 0 (S 46 0 0) = A at B0 e0 ⊢
  have eA : ∀ {f : Nat}, (f < 47 ∧ f ≠ 47) → A f = S f := fun h => by rw [← hA, sU_f (by omega), sU_f (by omega)]
  obtain ⟨B1, e1⟩ := slN_B (s := 0) B0 n (Nat.le_refl _)
  obtain ⟨B2, e2⟩ := slN_B (s := 1) B1 n (Nat.le_refl _)
  rw [chv eA] at e1
  rw [chv (fun h => by rw [slN_of _ _ (by omega), eA h])] at e2
  have l1 := ld0 1 n (by omega) (Nat.le_refl _)
  have l2 := ld0 2 n (by omega) (Nat.le_refl _)
  have step : ∀ (s : Nat) (S1 : St), s < 3 → okB S1 n dn → (∀ {f : Nat}, (f < 47 ∧ f ≠ 47) → S1 f = S f) → HM S1 + ldN S s n ≤ 900000 → G (0, 0) 16 [(0, rf Γ 0 0), (1, nt ((s + 1 : Nat) : Int))] [] (slN S1 s n) → G (0, 0) 16 [(0, rf Γ 0 0), (1, nt s)] [] S1 := by
    intro s S1 hs3 hB1 e1 hM1 K
    have t : G (0, 0) 80 [(0, rf Γ 0 0), (1, nt s)] [] (slN S1 s n) := by
      refine r_iinc hG (hl0 := rfl) (hd := d_Ward_sortLoads_80) (K := ?_)
      refine r_goto hG (hd := d_Ward_sortLoads_83) (K := ?_)
      exact r_sb hG (K) ⟨rfl, rfl, trivial⟩
    have q := one s S1 hs3 hB1 e1 hM1 t
    refine r_iload_n hG (hl0 := rfl) (hd := d_Ward_sortLoads_16) (K := ?_)
    refine r_iconst hG (hd := d_Ward_sortLoads_17) (K := ?_)
    refine r_icmp_ge hG (hd := d_Ward_sortLoads_18) (kt := fun hh => absurd hh (by omega)) (kf := fun _ => ?_)
    refine r_iconst hG (hd := d_Ward_sortLoads_21) (K := ?_)
    refine r_istore_n hG (hd := d_Ward_sortLoads_22) (K := ?_)
    exact r_sb hG (q) ⟨rfl, rfl, rfl, trivial⟩
  have q := step 0 A (by decide) B0 eA (by omega) (step 1 _ (by decide) B1 (fun h => by rw [slN_of _ _ (by omega), eA h]) (by omega) (step 2 _ (by decide) B2 (fun h => by rw [slN_of _ _ (by omega), slN_of _ _ (by omega), eA h]) (by omega) (by
    refine r_iload_n hG (hl0 := rfl) (hd := d_Ward_sortLoads_16) (K := ?_)
    refine r_iconst hG (hd := d_Ward_sortLoads_17) (K := ?_)
    refine r_icmp_ge hG (hd := d_Ward_sortLoads_18) (kt := fun _ => ?_) (kf := fun hh => absurd hh (by omega))
    refine r_vret hG d_Ward_sortLoads_86 ⟨(Nat.le_of_ble_eq_true rfl), (Nat.le_of_ble_eq_true rfl)⟩ ?_
    exact ⟨rfl, by rw [← hA]; rfl⟩)))
  exact r_sb hG (q) ⟨rfl, rfl, trivial⟩
