/-! THE LAW over a city made -/
section LB
variable {Γ : Gm} {G : Nat × Nat → Nat → List (Nat × Value) → List Value → St → Prop}
theorem law_lorries (hL : (gX Γ).2.1 < 1000) (hG : IsG Γ room_1 b_Law_law 14 "BinWardLaw" (some .boolean) (fun v _ => v = some (nt 1)) 600130 7301080 G) {ns : Nat} (hns : 1 ≤ ns ∧ ns ≤ 5) :
    ∀ m k : Nat, k + m = 2 → ∀ S : St, SU Γ S ns k → G (138, 680) 114 [(0, .ref (gX Γ).1), (1, rf Γ 0 0), (2, nt ns), (3, nt k)] [] S := by
  intro m
  induction m with
  | zero =>
    intro k hk S h
    have hk2 : k = 2 := by omega
    subst hk2
    refine r_iload_n hG (hl0 := rfl) (hd := d_Law_law_114) (K := ?_)
    refine r_iconst hG (hd := d_Law_law_115) (K := ?_)
    refine r_icmp_ge hG (hd := d_Law_law_116) (kt := fun _ => ?_) (kf := fun hh => absurd hh (by omega))
    refine r_iconst hG (hd := d_Law_law_178) (K := ?_)
    refine r_istore_n hG (hd := d_Law_law_179) (K := ?_)
    refine r_iconst hG (hd := d_Law_law_180) (K := ?_)
    refine r_istore hG (hd := d_Law_law_181) (K := ?_)
    refine r_iconst hG (hd := d_Law_law_183) (K := ?_)
    refine r_istore hG (hd := d_Law_law_184) (K := ?_)
    refine r_iconst hG (hd := d_Law_law_186) (K := ?_)
    refine r_istore hG (hd := d_Law_law_187) (K := ?_)
    exact r_sb hG (law_turns hL hG hns 40 0 (by decide) S 0 0 0 0 (SU_LI h hns) (by decide)) ⟨rfl, rfl, rfl, rfl, rfl, rfl, rfl, trivial⟩
  | succ m ih =>
    intro k hk S h
    refine r_iload_n hG (hl0 := rfl) (hd := d_Law_law_114) (K := ?_)
    refine r_iconst hG (hd := d_Law_law_115) (K := ?_)
    refine r_icmp_ge hG (hd := d_Law_law_116) (kt := fun hh => absurd hh (by omega)) (kf := fun _ => ?_)
    refine r_aload_n hG (hl0 := rfl) (hd := d_Law_law_119) (K := ?_)
    refine r_bipush hG (hd := d_Law_law_120) (K := ?_)
    refine r_aload_n hG (hl0 := rfl) (hd := d_Law_law_122) (K := ?_)
    refine r_iload_n hG (hl0 := rfl) (hd := d_Law_law_123) (K := ?_)
    refine r_bipush hG (hd := d_Law_law_124) (K := ?_)
    first | refine r_iadd hG (hd := d_Law_law_126) (K := ?_) | refine r_iaddr hG (hd := d_Law_law_126) (K := ?_)
    refine cS hG w_Law_12 d_Law_law_127 (ct_cell (k := k + 9) (by omega) hL) rfl rfl ⟨(Nat.le_of_ble_eq_true rfl), (Nat.le_of_ble_eq_true rfl)⟩ (hfL (by omega)) (Nat.le_of_ble_eq_true rfl) (fun v Sx hp => ?_); obtain ⟨z127, hv, hs⟩ := hp; subst hv; rw [hs]; clear hs
    have b1 := belF_lt z127 (k := 91) (by decide)
    refine r_bipush hG (hd := d_Law_law_130) (K := ?_)
    refine cSx hG w_Law_18 d_Law_law_132 (ct_bel (k := 91) (by decide)) rfl rfl ⟨(Nat.le_of_ble_eq_true rfl), (Nat.le_of_ble_eq_true rfl)⟩ (hfL (by omega)) (Nat.le_of_ble_eq_true rfl) ?_
    first | refine r_iadd hG (hd := d_Law_law_135) (K := ?_) | refine r_iaddr hG (hd := d_Law_law_135) (K := ?_)
    refine r_aload_n hG (hl0 := rfl) (hd := d_Law_law_136) (K := ?_)
    refine r_iload_n hG (hl0 := rfl) (hd := d_Law_law_137) (K := ?_)
    refine r_bipush hG (hd := d_Law_law_138) (K := ?_)
    first | refine r_iadd hG (hd := d_Law_law_140) (K := ?_) | refine r_iaddr hG (hd := d_Law_law_140) (K := ?_)
    refine cS hG w_Law_12 d_Law_law_141 (ct_cell (k := k + 9) (by omega) hL) rfl rfl ⟨(Nat.le_of_ble_eq_true rfl), (Nat.le_of_ble_eq_true rfl)⟩ (hfL (by omega)) (Nat.le_of_ble_eq_true rfl) (fun v Sx hp => ?_); obtain ⟨z141, hv, hs⟩ := hp; subst hv; rw [hs]; clear hs
    have b2 := belF_lt (shF z141 7) (k := 3) (by decide)
    refine r_bipush hG (hd := d_Law_law_144) (K := ?_)
    refine r_shr hG (hd := d_Law_law_146) (K := ?_)
    refine r_iconst hG (hd := d_Law_law_147) (K := ?_)
    refine cSx hG w_Law_18 d_Law_law_148 (ct_bel (k := 3) (by decide)) rfl rfl ⟨(Nat.le_of_ble_eq_true rfl), (Nat.le_of_ble_eq_true rfl)⟩ (hfL (by omega)) (Nat.le_of_ble_eq_true rfl) ?_
    refine r_aload_n hG (hl0 := rfl) (hd := d_Law_law_151) (K := ?_)
    refine r_iload_n hG (hl0 := rfl) (hd := d_Law_law_152) (K := ?_)
    refine r_bipush hG (hd := d_Law_law_153) (K := ?_)
    first | refine r_iadd hG (hd := d_Law_law_155) (K := ?_) | refine r_iaddr hG (hd := d_Law_law_155) (K := ?_)
    refine cS hG w_Law_12 d_Law_law_156 (ct_cell (k := k + 11) (by omega) hL) rfl rfl ⟨(Nat.le_of_ble_eq_true rfl), (Nat.le_of_ble_eq_true rfl)⟩ (hfL (by omega)) (Nat.le_of_ble_eq_true rfl) (fun v Sx hp => ?_); obtain ⟨z156, hv, hs⟩ := hp; subst hv; rw [hs]; clear hs
    have b3 := belF_lt z156 (k := 3) (by decide)
    refine r_iconst hG (hd := d_Law_law_159) (K := ?_)
    refine cSx hG w_Law_18 d_Law_law_160 (ct_bel (k := 3) (by decide)) rfl rfl ⟨(Nat.le_of_ble_eq_true rfl), (Nat.le_of_ble_eq_true rfl)⟩ (hfL (by omega)) (Nat.le_of_ble_eq_true rfl) ?_
    refine cVx hG w_Law_29 d_Law_law_163 (ct_lorry h.2.1.1 (by omega) (by omega) (by omega) (by omega)) (by decide) (by decide) rc_0 rfl rfl ⟨(Nat.le_of_ble_eq_true rfl), (Nat.le_of_ble_eq_true rfl)⟩ (hfL (by omega)) (Nat.le_of_ble_eq_true rfl) ?_
    refine r_iload_n hG (hl0 := rfl) (hd := d_Law_law_166) (K := ?_)
    refine r_icmp_eq hG (hd := d_Law_law_167) (kt := fun _ => ?_) (kf := fun hh => absurd hh (by omega))
    refine r_iinc hG (hl0 := rfl) (hd := d_Law_law_172) (K := ?_)
    refine r_goto hG (hd := d_Law_law_175) (K := ?_)
    exact r_sb hG (ih (k + 1) (by omega) _ (SU_lorry h (by omega) (by omega) b2 b3)) ⟨rfl, rfl, rfl, rfl, trivial⟩
theorem law_streets (hL : (gX Γ).2.1 < 1000) (hG : IsG Γ room_1 b_Law_law 14 "BinWardLaw" (some .boolean) (fun v _ => v = some (nt 1)) 600130 7301080 G) {ns : Nat} (hns : 1 ≤ ns ∧ ns ≤ 5) :
    ∀ m k : Nat, k + m = ns → ∀ S : St, SU Γ S k 0 → G (138, 680) 22 [(0, .ref (gX Γ).1), (1, rf Γ 0 0), (2, nt ns), (3, nt k)] [] S := by
  intro m
  induction m with
  | zero =>
    intro k hk S h
    have hkn : k = ns := by omega
    subst hkn
    refine r_iload_n hG (hl0 := rfl) (hd := d_Law_law_22) (K := ?_)
    refine r_iload_n hG (hl0 := rfl) (hd := d_Law_law_23) (K := ?_)
    refine r_icmp_ge hG (hd := d_Law_law_24) (kt := fun _ => ?_) (kf := fun hh => absurd hh (by omega))
    refine r_iconst hG (hd := d_Law_law_112) (K := ?_)
    refine r_istore_n hG (hd := d_Law_law_113) (K := ?_)
    exact r_sb hG (law_lorries hL hG hns 2 0 (by decide) S h) ⟨rfl, rfl, rfl, rfl, trivial⟩
  | succ m ih =>
    intro k hk S h
    refine r_iload_n hG (hl0 := rfl) (hd := d_Law_law_22) (K := ?_)
    refine r_iload_n hG (hl0 := rfl) (hd := d_Law_law_23) (K := ?_)
    refine r_icmp_ge hG (hd := d_Law_law_24) (kt := fun hh => absurd hh (by omega)) (kf := fun _ => ?_)
    refine r_aload_n hG (hl0 := rfl) (hd := d_Law_law_27) (K := ?_)
    refine r_iconst hG (hd := d_Law_law_28) (K := ?_)
    refine r_aload_n hG (hl0 := rfl) (hd := d_Law_law_29) (K := ?_)
    refine r_iload_n hG (hl0 := rfl) (hd := d_Law_law_30) (K := ?_)
    refine r_iconst hG (hd := d_Law_law_31) (K := ?_)
    first | refine r_iadd hG (hd := d_Law_law_32) (K := ?_) | refine r_iaddr hG (hd := d_Law_law_32) (K := ?_)
    refine cS hG w_Law_12 d_Law_law_33 (ct_cell (k := k + 1) (by omega) hL) rfl rfl ⟨(Nat.le_of_ble_eq_true rfl), (Nat.le_of_ble_eq_true rfl)⟩ (hfL (by omega)) (Nat.le_of_ble_eq_true rfl) (fun v Sx hp => ?_); obtain ⟨z33, hv, hs⟩ := hp; subst hv; rw [hs]; clear hs
    have b1 := belF_lt z33 (k := 30) (by decide)
    refine r_bipush hG (hd := d_Law_law_36) (K := ?_)
    refine cSx hG w_Law_18 d_Law_law_38 (ct_bel (k := 30) (by decide)) rfl rfl ⟨(Nat.le_of_ble_eq_true rfl), (Nat.le_of_ble_eq_true rfl)⟩ (hfL (by omega)) (Nat.le_of_ble_eq_true rfl) ?_
    first | refine r_iadd hG (hd := d_Law_law_41) (K := ?_) | refine r_iaddr hG (hd := d_Law_law_41) (K := ?_)
    refine r_aload_n hG (hl0 := rfl) (hd := d_Law_law_42) (K := ?_)
    refine r_iload_n hG (hl0 := rfl) (hd := d_Law_law_43) (K := ?_)
    refine r_iconst hG (hd := d_Law_law_44) (K := ?_)
    first | refine r_iadd hG (hd := d_Law_law_45) (K := ?_) | refine r_iaddr hG (hd := d_Law_law_45) (K := ?_)
    refine cS hG w_Law_12 d_Law_law_46 (ct_cell (k := k + 2) (by omega) hL) rfl rfl ⟨(Nat.le_of_ble_eq_true rfl), (Nat.le_of_ble_eq_true rfl)⟩ (hfL (by omega)) (Nat.le_of_ble_eq_true rfl) (fun v Sx hp => ?_); obtain ⟨z46, hv, hs⟩ := hp; subst hv; rw [hs]; clear hs
    have b2 := belF_lt z46 (k := 5) (by decide)
    refine r_iconst hG (hd := d_Law_law_49) (K := ?_)
    refine cSx hG w_Law_18 d_Law_law_50 (ct_bel (k := 5) (by decide)) rfl rfl ⟨(Nat.le_of_ble_eq_true rfl), (Nat.le_of_ble_eq_true rfl)⟩ (hfL (by omega)) (Nat.le_of_ble_eq_true rfl) ?_
    refine cVx hG w_Law_22 d_Law_law_53 (ct_street h.1.1 (by omega) (by omega) (by omega)) (by decide) (by decide) rc_0 rfl rfl ⟨(Nat.le_of_ble_eq_true rfl), (Nat.le_of_ble_eq_true rfl)⟩ (hfL (by omega)) (Nat.le_of_ble_eq_true rfl) ?_
    refine r_iload_n hG (hl0 := rfl) (hd := d_Law_law_56) (K := ?_)
    refine r_icmp_eq hG (hd := d_Law_law_57) (kt := fun _ => ?_) (kf := fun hh => absurd hh (by omega))
    refine r_iconst hG (hd := d_Law_law_62) (K := ?_)
    refine r_istore hG (hd := d_Law_law_63) (K := ?_)
    have hs := SU_street (p := 1 + ((belF z33 30 : Nat) : Int)) (d := ((belF z46 5 : Nat) : Int)) h (by omega) (by omega) (by omega)
    have h15 : ∀ j, streetS S k (1 + ((belF z33 30 : Nat) : Int)) ((belF z46 5 : Nat) : Int) 15 (2 * k) j = 0 := fun j => by
      rw [street_of _ _ _ _ (by decide)]
      exact h.2.2.2.2.2 k (Nat.le_refl _) j
    have habits : ∀ m' j : Nat, j + m' = 3 → ∀ S1 : St, SU Γ S1 (k + 1) 0 → (∀ j', j ≤ j' → S1 15 (2 * k) j' = 0) → G (138, 680) 65 [(0, .ref (gX Γ).1), (1, rf Γ 0 0), (2, nt ns), (3, nt k), (4, nt j)] [] S1 := by
      intro m'
      induction m' with
      | zero =>
        intro j hj S1 h1 _
        have hj3 : j = 3 := by omega
        subst hj3
        refine r_iload hG (hl0 := rfl) (hd := d_Law_law_65) (K := ?_)
        refine r_iconst hG (hd := d_Law_law_67) (K := ?_)
        refine r_icmp_ge hG (hd := d_Law_law_68) (kt := fun _ => ?_) (kf := fun hh => absurd hh (by omega))
        refine r_iinc hG (hl0 := rfl) (hd := d_Law_law_106) (K := ?_)
        refine r_goto hG (hd := d_Law_law_109) (K := ?_)
        exact r_sb hG (ih (k + 1) (by omega) S1 h1) ⟨rfl, rfl, rfl, rfl, trivial⟩
      | succ m' ih' =>
        intro j hj S1 h1 h0
        have z := h0 j (Nat.le_refl _)
        refine r_iload hG (hl0 := rfl) (hd := d_Law_law_65) (K := ?_)
        refine r_iconst hG (hd := d_Law_law_67) (K := ?_)
        refine r_icmp_ge hG (hd := d_Law_law_68) (kt := fun hh => absurd hh (by omega)) (kf := fun _ => ?_)
        refine r_aload_n hG (hl0 := rfl) (hd := d_Law_law_71) (K := ?_)
        refine r_iload_n hG (hl0 := rfl) (hd := d_Law_law_72) (K := ?_)
        refine r_iload hG (hl0 := rfl) (hd := d_Law_law_73) (K := ?_)
        refine r_aload_n hG (hl0 := rfl) (hd := d_Law_law_75) (K := ?_)
        refine r_iload_n hG (hl0 := rfl) (hd := d_Law_law_76) (K := ?_)
        refine r_iconst hG (hd := d_Law_law_77) (K := ?_)
        first | refine r_iadd hG (hd := d_Law_law_78) (K := ?_) | refine r_iaddr hG (hd := d_Law_law_78) (K := ?_)
        refine cS hG w_Law_12 d_Law_law_79 (ct_cell (k := k + 3) (by omega) hL) rfl rfl ⟨(Nat.le_of_ble_eq_true rfl), (Nat.le_of_ble_eq_true rfl)⟩ (hfL (by omega)) (Nat.le_of_ble_eq_true rfl) (fun v Sx hp => ?_); obtain ⟨z79, hv, hs⟩ := hp; subst hv; rw [hs]; clear hs
        have b3 := belF_lt (shF z79 (3 * (j : Int))) (k := 10) (by decide)
        refine r_iconst hG (hd := d_Law_law_82) (K := ?_)
        refine r_iload hG (hl0 := rfl) (hd := d_Law_law_83) (K := ?_)
        refine r_imul hG (hd := d_Law_law_85) (K := ?_)
        refine r_shr hG (hd := d_Law_law_86) (K := ?_)
        refine r_bipush hG (hd := d_Law_law_87) (K := ?_)
        refine cSx hG w_Law_18 d_Law_law_89 (ct_bel (k := 10) (by decide)) rfl rfl ⟨(Nat.le_of_ble_eq_true rfl), (Nat.le_of_ble_eq_true rfl)⟩ (hfL (by omega)) (Nat.le_of_ble_eq_true rfl) ?_
        refine cVx hG w_Law_25 d_Law_law_92 (ct_habit h1.1.1 (by omega) (by omega) (by omega) (by omega)) (by decide) (by decide) rc_0 rfl rfl ⟨(Nat.le_of_ble_eq_true rfl), (Nat.le_of_ble_eq_true rfl)⟩ (hfL (by omega)) (Nat.le_of_ble_eq_true rfl) ?_
        refine r_if_eq hG (hd := d_Law_law_95) (kt := fun _ => ?_) (kf := fun hh => absurd hh (by omega))
        refine r_iinc hG (hl0 := rfl) (hd := d_Law_law_100) (K := ?_)
        refine r_goto hG (hd := d_Law_law_103) (K := ?_)
        exact r_sb hG (ih' (j + 1) (by omega) _ (SU_habit h1 (by omega) (by omega)) (fun j' hj' => by unfold sU; rw [if_neg (fun w => by omega)]; exact h0 j' (by omega))) ⟨rfl, rfl, rfl, rfl, rfl, trivial⟩
    exact r_sb hG (habits 3 0 (by decide) _ hs (fun j' _ => h15 j')) ⟨rfl, rfl, rfl, rfl, rfl, trivial⟩
theorem law_body (hL : (gX Γ).2.1 < 1000) (hG : IsG Γ room_1 b_Law_law 14 "BinWardLaw" (some .boolean) (fun v _ => v = some (nt 1)) 600130 7301080 G) : G (138, 680) 8 [(0, .ref (gX Γ).1), (1, rf Γ 0 0)] [] (Z Γ) := by
  refine r_iconst hG (hd := d_Law_law_8) (K := ?_)
  refine r_aload_n hG (hl0 := rfl) (hd := d_Law_law_9) (K := ?_)
  refine r_iconst hG (hd := d_Law_law_10) (K := ?_)
  refine cS hG w_Law_12 d_Law_law_11 (ct_cell (k := 0) (by omega) hL) rfl rfl ⟨(Nat.le_of_ble_eq_true rfl), (Nat.le_of_ble_eq_true rfl)⟩ (hfL (by omega)) (Nat.le_of_ble_eq_true rfl) (fun v Sx hp => ?_); obtain ⟨z11, hv, hs⟩ := hp; subst hv; rw [hs]; clear hs
  have b1 := belF_lt z11 (k := 4) (by decide)
  refine r_iconst hG (hd := d_Law_law_14) (K := ?_)
  refine cSx hG w_Law_18 d_Law_law_15 (ct_bel (k := 4) (by decide)) rfl rfl ⟨(Nat.le_of_ble_eq_true rfl), (Nat.le_of_ble_eq_true rfl)⟩ (hfL (by omega)) (Nat.le_of_ble_eq_true rfl) ?_
  first | refine r_iadd hG (hd := d_Law_law_18) (K := ?_) | refine r_iaddr hG (hd := d_Law_law_18) (K := ?_)
  obtain ⟨ns, hns⟩ : ∃ ns, 2 + belF z11 4 = ns := ⟨_, rfl⟩
  rw [show (2 : Int) + ((belF z11 4 : Nat) : Int) = (ns : Int) by omega]
  refine r_istore_n hG (hd := d_Law_law_19) (K := ?_)
  refine r_iconst hG (hd := d_Law_law_20) (K := ?_)
  refine r_istore_n hG (hd := d_Law_law_21) (K := ?_)
  exact r_sb hG (law_streets hL hG (by omega) ns 0 (by omega) _ (SU_Z Γ)) ⟨rfl, rfl, rfl, rfl, trivial⟩
end LB
