/-! ALL THAT IS TOLD, in one number -/
def dg (d : Int64) (z : Int) : Int64 := d * 31 + (iI z).toInt64
def dgN (f : Nat → Int) (d : Int64) : Nat → Int64
  | 0 => d
  | k + 1 => dg (dgN f d k) (f k)
def dgS (S : St) (d : Int64) (k : Nat) : Int64 := dgN (fuF S (2 * k)) (dgN (stF S (2 * k)) d 13) 3
def dgL (S : St) (ns : Nat) (d : Int64) (i : Nat) : Int64 := dg (dg (dgN (loF S i) d 7) (runF S 0 i ns 40 0 0)) (runF S 0 i ns 41 0 0)
theorem ct_dgS {Γ : Gm} {S : St} {n k : Nat} {d : Int64} (hn : S 0 0 0 = (n : Int)) (hn6 : n ≤ 6) (hk : k < n) (hT : okT S (2 * k)) : CT Γ y_Ward_digestOfStreet b_Ward_digestOfStreet 7 ((some FieldType.long)) (rmx 4 0 0) [rf Γ 0 0, .long d, nt k] S (dX (some (.long (dgS S d k))) S) := by
  refine CT.of (by first | exact plainFor_of_name (by rfl) | decide +kernel) (Nat.le_of_ble_eq_true rfl) ?_
  intro G hG
  show G (0, 0) 0 [(0, rf Γ 0 0), (1, .long d), (3, nt k)] [] _
  refine r_lload_n hG (hl0 := rfl) (hd := d_Ward_digestOfStreet_0) (K := ?_)
  refine r_lstore hG (hd := d_Ward_digestOfStreet_1) (K := ?_)
  refine r_iconst hG (hd := d_Ward_digestOfStreet_3) (K := ?_)
  refine r_istore hG (hd := d_Ward_digestOfStreet_4) (K := ?_)
  have l2 : ∀ m j : Nat, j + m = 3 → G (0, 0) 39 [(0, rf Γ 0 0), (1, .long d), (3, nt k), (4, .long (dgN (fuF S (2 * k)) (dgN (stF S (2 * k)) d 13) j)), (6, nt j)] [] S := by
    intro m
    induction m with
    | zero =>
      intro j hj
      have hj3 : j = 3 := by omega
      subst hj3
      refine r_iload hG (hl0 := rfl) (hd := d_Ward_digestOfStreet_39) (K := ?_)
      refine r_iconst hG (hd := d_Ward_digestOfStreet_41) (K := ?_)
      refine r_icmp_ge hG (hd := d_Ward_digestOfStreet_42) (kt := fun _ => ?_) (kf := fun hh => absurd hh (by omega))
      refine r_lload hG (hl0 := rfl) (hd := d_Ward_digestOfStreet_68) (K := ?_)
      refine r_lret hG d_Ward_digestOfStreet_70 ⟨(Nat.le_of_ble_eq_true rfl), (Nat.le_of_ble_eq_true rfl)⟩ ?_
      exact ⟨rfl, rfl⟩
    | succ m ih =>
      intro j hj
      refine r_iload hG (hl0 := rfl) (hd := d_Ward_digestOfStreet_39) (K := ?_)
      refine r_iconst hG (hd := d_Ward_digestOfStreet_41) (K := ?_)
      refine r_icmp_ge hG (hd := d_Ward_digestOfStreet_42) (kt := fun hh => absurd hh (by omega)) (kf := fun _ => ?_)
      refine r_lload hG (hl0 := rfl) (hd := d_Ward_digestOfStreet_45) (K := ?_)
      refine r_ldc2 hG (v := (31 : Int64)) (hc := (m_T3 (i := 223) (by decide +kernel) (by decide +kernel))) (hd := d_Ward_digestOfStreet_47) (K := ?_)
      refine r_lmul hG (hd := d_Ward_digestOfStreet_50) (K := ?_)
      refine r_aload_n hG (hl0 := rfl) (hd := d_Ward_digestOfStreet_51) (K := ?_)
      refine r_iload_n hG (hl0 := rfl) (hd := d_Ward_digestOfStreet_52) (K := ?_)
      refine r_iload hG (hl0 := rfl) (hd := d_Ward_digestOfStreet_53) (K := ?_)
      refine cVx hG w_Ward_345 d_Ward_digestOfStreet_55 (ct_fullIn hn hn6 hk (show j < 3 by omega) hT) (by decide) (by decide) rc_0 rfl rfl ⟨(Nat.le_of_ble_eq_true rfl), (Nat.le_of_ble_eq_true rfl)⟩ ⟨(Nat.le_of_ble_eq_true rfl), (Nat.le_of_ble_eq_true rfl)⟩ (Nat.le_of_ble_eq_true rfl) ?_
      refine r_i2l hG (hd := d_Ward_digestOfStreet_58) (K := ?_)
      refine r_ladd hG (hd := d_Ward_digestOfStreet_59) (K := ?_)
      refine r_lstore hG (hd := d_Ward_digestOfStreet_60) (K := ?_)
      refine r_iinc hG (hl0 := rfl) (hd := d_Ward_digestOfStreet_62) (K := ?_)
      refine r_goto hG (hd := d_Ward_digestOfStreet_65) (K := ?_)
      exact r_sb hG (ih (j + 1) (by omega)) ⟨rfl, rfl, rfl, rfl, rfl, trivial⟩
  have l1 : ∀ m j : Nat, j + m = 13 → G (0, 0) 6 [(0, rf Γ 0 0), (1, .long d), (3, nt k), (4, .long (dgN (stF S (2 * k)) d j)), (6, nt j)] [] S := by
    intro m
    induction m with
    | zero =>
      intro j hj
      have hj3 : j = 13 := by omega
      subst hj3
      refine r_iload hG (hl0 := rfl) (hd := d_Ward_digestOfStreet_6) (K := ?_)
      refine r_bipush hG (hd := d_Ward_digestOfStreet_8) (K := ?_)
      refine r_icmp_ge hG (hd := d_Ward_digestOfStreet_10) (kt := fun _ => ?_) (kf := fun hh => absurd hh (by omega))
      refine r_iconst hG (hd := d_Ward_digestOfStreet_36) (K := ?_)
      refine r_istore hG (hd := d_Ward_digestOfStreet_37) (K := ?_)
      exact r_sb hG (l2 3 0 (by omega)) ⟨rfl, rfl, rfl, rfl, rfl, trivial⟩
    | succ m ih =>
      intro j hj
      refine r_iload hG (hl0 := rfl) (hd := d_Ward_digestOfStreet_6) (K := ?_)
      refine r_bipush hG (hd := d_Ward_digestOfStreet_8) (K := ?_)
      refine r_icmp_ge hG (hd := d_Ward_digestOfStreet_10) (kt := fun hh => absurd hh (by omega)) (kf := fun _ => ?_)
      refine r_lload hG (hl0 := rfl) (hd := d_Ward_digestOfStreet_13) (K := ?_)
      refine r_ldc2 hG (v := (31 : Int64)) (hc := (m_T3 (i := 223) (by decide +kernel) (by decide +kernel))) (hd := d_Ward_digestOfStreet_15) (K := ?_)
      refine r_lmul hG (hd := d_Ward_digestOfStreet_18) (K := ?_)
      refine r_aload_n hG (hl0 := rfl) (hd := d_Ward_digestOfStreet_19) (K := ?_)
      refine r_iload_n hG (hl0 := rfl) (hd := d_Ward_digestOfStreet_20) (K := ?_)
      refine r_iload hG (hl0 := rfl) (hd := d_Ward_digestOfStreet_21) (K := ?_)
      refine cVx hG w_Ward_342 d_Ward_digestOfStreet_23 (ct_ofStreet hn hn6 hk (show j < 13 by omega)) (by decide) (by decide) rc_0 rfl rfl ⟨(Nat.le_of_ble_eq_true rfl), (Nat.le_of_ble_eq_true rfl)⟩ ⟨(Nat.le_of_ble_eq_true rfl), (Nat.le_of_ble_eq_true rfl)⟩ (Nat.le_of_ble_eq_true rfl) ?_
      refine r_i2l hG (hd := d_Ward_digestOfStreet_26) (K := ?_)
      refine r_ladd hG (hd := d_Ward_digestOfStreet_27) (K := ?_)
      refine r_lstore hG (hd := d_Ward_digestOfStreet_28) (K := ?_)
      refine r_iinc hG (hl0 := rfl) (hd := d_Ward_digestOfStreet_30) (K := ?_)
      refine r_goto hG (hd := d_Ward_digestOfStreet_33) (K := ?_)
      exact r_sb hG (ih (j + 1) (by omega)) ⟨rfl, rfl, rfl, rfl, rfl, trivial⟩
  exact r_sb hG (l1 13 0 (by omega)) ⟨rfl, rfl, rfl, rfl, rfl, trivial⟩
theorem ct_dgL {Γ : Gm} {S : St} {ns nl i : Nat} {d : Int64} (hs : S 0 0 0 = (ns : Int)) (hs6 : ns ≤ 6) (hl : S 1 0 0 = (nl : Int)) (hl3 : nl ≤ 3) (hi : i < nl) (hT : ∀ t, t < 12 → okT S t) (hL : okL S i) : CT Γ y_Ward_digestOfLorry b_Ward_digestOfLorry 7 ((some FieldType.long)) (rmx 6 0 0) [rf Γ 0 0, .long d, nt i] S (dX (some (.long (dgL S ns d i))) (runF S 0 i ns)) := by
  refine CT.of (by first | exact plainFor_of_name (by rfl) | decide +kernel) (Nat.le_of_ble_eq_true rfl) ?_
  intro G hG
  show G (0, 0) 0 [(0, rf Γ 0 0), (1, .long d), (3, nt i)] [] _
  refine r_lload_n hG (hl0 := rfl) (hd := d_Ward_digestOfLorry_0) (K := ?_)
  refine r_lstore hG (hd := d_Ward_digestOfLorry_1) (K := ?_)
  refine r_iconst hG (hd := d_Ward_digestOfLorry_3) (K := ?_)
  refine r_istore hG (hd := d_Ward_digestOfLorry_4) (K := ?_)
  have l1 : ∀ m j : Nat, j + m = 7 → G (0, 0) 6 [(0, rf Γ 0 0), (1, .long d), (3, nt i), (4, .long (dgN (loF S i) d j)), (6, nt j)] [] S := by
    intro m
    induction m with
    | zero =>
      intro j hj
      have hj3 : j = 7 := by omega
      subst hj3
      have hi3 : i < 3 := by omega
      refine r_iload hG (hl0 := rfl) (hd := d_Ward_digestOfLorry_6) (K := ?_)
      refine r_bipush hG (hd := d_Ward_digestOfLorry_8) (K := ?_)
      refine r_icmp_ge hG (hd := d_Ward_digestOfLorry_10) (kt := fun _ => ?_) (kf := fun hh => absurd hh (by omega))
      refine r_aload_n hG (hl0 := rfl) (hd := d_Ward_digestOfLorry_36) (K := ?_)
      refine g_Ward_34 hG (hd := d_Ward_digestOfLorry_37) (K := ?_)
      refine r_aload_n hG (hl0 := rfl) (hd := d_Ward_digestOfLorry_40) (K := ?_)
      refine g_Ward_20 hG (hd := d_Ward_digestOfLorry_41) (K := ?_)
      refine r_iload_n hG (hl0 := rfl) (hd := d_Ward_digestOfLorry_44) (K := ?_)
      first | refine a_1 hG (hd := d_Ward_digestOfLorry_45) (hz := rfl) (hj := by omega) (hi := by omega) (K := ?_) | refine a_2 hG (hd := d_Ward_digestOfLorry_45) (hz := rfl) (hj := by omega) (hi := by omega) (K := ?_) | refine a_10 hG (hd := d_Ward_digestOfLorry_45) (hz := rfl) (hj := by omega) (hi := by omega) (K := ?_) | refine r_aald22 hG (hd := d_Ward_digestOfLorry_45) (hz := rfl) (hj := by omega) (hi := by omega) (K := ?_)
      refine r_aload_n hG (hl0 := rfl) (hd := d_Ward_digestOfLorry_46) (K := ?_)
      refine g_Ward_11 hG (hd := d_Ward_digestOfLorry_47) (K := ?_)
      refine r_aload_n hG (hl0 := rfl) (hd := d_Ward_digestOfLorry_50) (K := ?_)
      refine g_Ward_86 hG (hd := d_Ward_digestOfLorry_51) (K := ?_)
      rw [hs]
      refine cVv hG w_Ward_292 d_Ward_digestOfLorry_54 (ct_searchRun (w := 0) (by decide) hi3 hs6 hT hL) (by decide) (by decide) rc_6 rfl rfl ⟨(Nat.le_of_ble_eq_true rfl), (Nat.le_of_ble_eq_true rfl)⟩ ⟨(Nat.le_of_ble_eq_true rfl), (Nat.le_of_ble_eq_true rfl)⟩ (Nat.le_of_ble_eq_true rfl) ?_
      refine r_lload hG (hl0 := rfl) (hd := d_Ward_digestOfLorry_57) (K := ?_)
      refine r_ldc2 hG (v := (31 : Int64)) (hc := (m_T3 (i := 223) (by decide +kernel) (by decide +kernel))) (hd := d_Ward_digestOfLorry_59) (K := ?_)
      refine r_lmul hG (hd := d_Ward_digestOfLorry_62) (K := ?_)
      refine r_aload_n hG (hl0 := rfl) (hd := d_Ward_digestOfLorry_63) (K := ?_)
      refine g_Ward_34 hG (hd := d_Ward_digestOfLorry_64) (K := ?_)
      refine g_Ward_296 hG (hd := d_Ward_digestOfLorry_67) (K := ?_)
      refine r_i2l hG (hd := d_Ward_digestOfLorry_70) (K := ?_)
      refine r_ladd hG (hd := d_Ward_digestOfLorry_71) (K := ?_)
      refine r_lstore hG (hd := d_Ward_digestOfLorry_72) (K := ?_)
      refine r_lload hG (hl0 := rfl) (hd := d_Ward_digestOfLorry_74) (K := ?_)
      refine r_ldc2 hG (v := (31 : Int64)) (hc := (m_T3 (i := 223) (by decide +kernel) (by decide +kernel))) (hd := d_Ward_digestOfLorry_76) (K := ?_)
      refine r_lmul hG (hd := d_Ward_digestOfLorry_79) (K := ?_)
      refine r_aload_n hG (hl0 := rfl) (hd := d_Ward_digestOfLorry_80) (K := ?_)
      refine g_Ward_34 hG (hd := d_Ward_digestOfLorry_81) (K := ?_)
      refine g_Ward_299 hG (hd := d_Ward_digestOfLorry_84) (K := ?_)
      refine r_i2l hG (hd := d_Ward_digestOfLorry_87) (K := ?_)
      refine r_ladd hG (hd := d_Ward_digestOfLorry_88) (K := ?_)
      refine r_lret hG d_Ward_digestOfLorry_89 ⟨(Nat.le_of_ble_eq_true rfl), (Nat.le_of_ble_eq_true rfl)⟩ ?_
      exact ⟨rfl, rfl⟩
    | succ m ih =>
      intro j hj
      refine r_iload hG (hl0 := rfl) (hd := d_Ward_digestOfLorry_6) (K := ?_)
      refine r_bipush hG (hd := d_Ward_digestOfLorry_8) (K := ?_)
      refine r_icmp_ge hG (hd := d_Ward_digestOfLorry_10) (kt := fun hh => absurd hh (by omega)) (kf := fun _ => ?_)
      refine r_lload hG (hl0 := rfl) (hd := d_Ward_digestOfLorry_13) (K := ?_)
      refine r_ldc2 hG (v := (31 : Int64)) (hc := (m_T3 (i := 223) (by decide +kernel) (by decide +kernel))) (hd := d_Ward_digestOfLorry_15) (K := ?_)
      refine r_lmul hG (hd := d_Ward_digestOfLorry_18) (K := ?_)
      refine r_aload_n hG (hl0 := rfl) (hd := d_Ward_digestOfLorry_19) (K := ?_)
      refine r_iload_n hG (hl0 := rfl) (hd := d_Ward_digestOfLorry_20) (K := ?_)
      refine r_iload hG (hl0 := rfl) (hd := d_Ward_digestOfLorry_21) (K := ?_)
      refine cVx hG w_Ward_348 d_Ward_digestOfLorry_23 (ct_ofLorry hl hl3 hi (show j < 7 by omega)) (by decide) (by decide) rc_0 rfl rfl ⟨(Nat.le_of_ble_eq_true rfl), (Nat.le_of_ble_eq_true rfl)⟩ ⟨(Nat.le_of_ble_eq_true rfl), (Nat.le_of_ble_eq_true rfl)⟩ (Nat.le_of_ble_eq_true rfl) ?_
      refine r_i2l hG (hd := d_Ward_digestOfLorry_26) (K := ?_)
      refine r_ladd hG (hd := d_Ward_digestOfLorry_27) (K := ?_)
      refine r_lstore hG (hd := d_Ward_digestOfLorry_28) (K := ?_)
      refine r_iinc hG (hl0 := rfl) (hd := d_Ward_digestOfLorry_30) (K := ?_)
      refine r_goto hG (hd := d_Ward_digestOfLorry_33) (K := ?_)
      exact r_sb hG (ih (j + 1) (by omega)) ⟨rfl, rfl, rfl, rfl, rfl, trivial⟩
  exact r_sb hG (l1 7 0 (by omega)) ⟨rfl, rfl, rfl, rfl, rfl, trivial⟩
theorem KP_runF (S : St) (w i n : Nat) : KP S (runF S w i n) := fun f i' j h => by
  rw [runF_of S w i n (f := f) ?_]
  unfold spf at h
  simp only [List.mem_cons, List.not_mem_nil, or_false] at h
  omega
def lyS (S : St) (ns : Nat) : Nat → St
  | 0 => S
  | i + 1 => runF (lyS S ns i) 0 i ns
def lyD (S : St) (ns : Nat) (d : Int64) : Nat → Int64
  | 0 => d
  | i + 1 => dgL (lyS S ns i) ns (lyD S ns d i) i
theorem KP_lyS (S : St) (ns : Nat) : ∀ k, KP S (lyS S ns k)
  | 0 => .refl
  | k + 1 => (KP_lyS S ns k).trans (KP_runF _ 0 k ns)
theorem lyS_f (S : St) (ns : Nat) {f : Nat} (h : f ≠ 40 ∧ f ≠ 41 ∧ f ≠ 42) : ∀ k, lyS S ns k f = S f
  | 0 => rfl
  | k + 1 => (runF_of _ 0 k ns h).trans (lyS_f S ns h k)
def dgNS (S : St) (d : Int64) : Nat → Int64
  | 0 => d
  | k + 1 => dgS S (dgNS S d k) k
def dgB (S : St) (d : Int64) : Nat → Int64
  | 0 => d
  | b + 1 => dgN (baF S b) (dgB S d b) 4
def digD (S : St) (ns nl : Nat) : Int64 := lyD S ns (dgNS S (dgN (raF S) (dgN (maF S) 4812 18) 3) ns) nl
def digF (S : St) (ns nl nb dn : Nat) : Int64 := dg (dgB (lyS S ns nl) (digD S ns nl) nb) (litN (spN (lyS S ns nl) ns nl dn 3) 1 ns)
def digS (S : St) (ns nl dn : Nat) : St := spN (lyS S ns nl) ns nl dn 3
theorem ct_digest {Γ : Gm} {S : St} {ns nl nb dn : Nat} (hs : S 0 0 0 = (ns : Int)) (hns : ns ≤ 6) (hl : S 1 0 0 = (nl : Int)) (hnl : nl ≤ 3) (hnow : S 2 0 0 = (dn : Int)) (hdn : dn ≤ 100000) (hb : S 52 0 0 = (nb : Int)) (hb20 : nb ≤ 20) (h57 : ∀ b, b < 20 → 0 ≤ S 57 b 0 ∧ S 57 b 0 ≤ 3) (hT : ∀ t, t < 12 → okT S t) (hL : ∀ i, i < 3 → okL S i)
    (hf : 0 ≤ fetN S nl ∧ fetN S nl < 10000000) (hu : ∀ r, r < 3 → 0 ≤ usedF S r ∧ usedF S r < 10000000) : CT Γ y_Ward_digest b_Ward_digest 5 ((some FieldType.long)) (rmx 7 0 0) [rf Γ 0 0] S (dX (some (.long (digF S ns nl nb dn))) (digS S ns nl dn)) := by
  refine CT.of (by first | exact plainFor_of_name (by rfl) | decide +kernel) (Nat.le_of_ble_eq_true rfl) ?_
  intro G hG
  show G (0, 0) 0 [(0, rf Γ 0 0)] [] _
  refine r_ldc2 hG (v := (4812 : Int64)) (hc := (m_T3 (i := 222) (by decide +kernel) (by decide +kernel))) (hd := d_Ward_digest_0) (K := ?_)
  refine r_lstore_n hG (hd := d_Ward_digest_3) (K := ?_)
  refine r_iconst hG (hd := d_Ward_digest_4) (K := ?_)
  refine r_istore_n hG (hd := d_Ward_digest_5) (K := ?_)
  have lT : ∀ t, t < 12 → okT (lyS S ns nl) t := fun t ht => okT_of (hT t ht) (lyS_f _ _ (by decide) _) (lyS_f _ _ (by decide) _) (lyS_f _ _ (by decide) _) (lyS_f _ _ (by decide) _) (lyS_f _ _ (by decide) _)
  have lL : ∀ k i, i < 3 → okL (lyS S ns k) i := fun k i hi => (KP_lyS S ns k).kL (hL i hi)
  have bales : ∀ m b : Nat, b + m = nb → G (0, 0) 105 [(0, rf Γ 0 0), (1, .long (dgB (lyS S ns nl) (digD S ns nl) b)), (3, nt b)] [] (lyS S ns nl) := by
    intro m
    induction m with
    | zero =>
      intro b hb'
      have hbn : b = nb := by omega
      subst hbn
      have z : lyS S ns nl 52 0 0 = (b : Int) := by rw [lyS_f _ _ (by decide), hb]
      refine r_iload_n hG (hl0 := rfl) (hd := d_Ward_digest_105) (K := ?_)
      refine r_aload_n hG (hl0 := rfl) (hd := d_Ward_digest_106) (K := ?_)
      refine g_Ward_55 hG (hd := d_Ward_digest_107) (K := ?_)
      refine g_Ward_238 hG (hd := d_Ward_digest_110) (K := ?_)
      refine r_icmp_ge hG (hd := d_Ward_digest_113) (kt := fun _ => ?_) (kf := fun hh => absurd hh (by omega))
      refine r_lload_n hG (hl0 := rfl) (hd := d_Ward_digest_152) (K := ?_)
      refine r_ldc2 hG (v := (31 : Int64)) (hc := (m_T3 (i := 223) (by decide +kernel) (by decide +kernel))) (hd := d_Ward_digest_153) (K := ?_)
      refine r_lmul hG (hd := d_Ward_digest_156) (K := ?_)
      refine r_aload_n hG (hl0 := rfl) (hd := d_Ward_digest_157) (K := ?_)
      refine r_iconst hG (hd := d_Ward_digest_158) (K := ?_)
      refine cVx hG w_Ward_339 d_Ward_digest_159 (ct_wouldLie (n := 3) (by rw [lyS_f _ _ (by decide), hs]) hns (by rw [lyS_f _ _ (by decide), hl]) hnl (by rw [lyS_f _ _ (by decide), hnow]) hdn lT (lL nl) (by decide)) (by decide) (by decide) rc_0 rfl rfl ⟨(Nat.le_of_ble_eq_true rfl), (Nat.le_of_ble_eq_true rfl)⟩ ⟨(Nat.le_of_ble_eq_true rfl), (Nat.le_of_ble_eq_true rfl)⟩ (Nat.le_of_ble_eq_true rfl) ?_
      refine r_i2l hG (hd := d_Ward_digest_162) (K := ?_)
      refine r_ladd hG (hd := d_Ward_digest_163) (K := ?_)
      refine r_lret hG d_Ward_digest_164 ⟨(Nat.le_of_ble_eq_true rfl), (Nat.le_of_ble_eq_true rfl)⟩ ?_
      exact ⟨rfl, rfl⟩
    | succ m ih =>
      intro b hb'
      have z : lyS S ns nl 52 0 0 = (nb : Int) := by rw [lyS_f _ _ (by decide), hb]
      refine r_iload_n hG (hl0 := rfl) (hd := d_Ward_digest_105) (K := ?_)
      refine r_aload_n hG (hl0 := rfl) (hd := d_Ward_digest_106) (K := ?_)
      refine g_Ward_55 hG (hd := d_Ward_digest_107) (K := ?_)
      refine g_Ward_238 hG (hd := d_Ward_digest_110) (K := ?_)
      refine r_icmp_ge hG (hd := d_Ward_digest_113) (kt := fun hh => absurd hh (by omega)) (kf := fun _ => ?_)
      refine r_iconst hG (hd := d_Ward_digest_116) (K := ?_)
      refine r_istore hG (hd := d_Ward_digest_117) (K := ?_)
      have inner : ∀ m' j : Nat, j + m' = 4 → G (0, 0) 119 [(0, rf Γ 0 0), (1, .long (dgN (baF (lyS S ns nl) b) (dgB (lyS S ns nl) (digD S ns nl) b) j)), (3, nt b), (4, nt j)] [] (lyS S ns nl) := by
        intro m'
        induction m' with
        | zero =>
          intro j hj
          have hj4 : j = 4 := by omega
          subst hj4
          refine r_iload hG (hl0 := rfl) (hd := d_Ward_digest_119) (K := ?_)
          refine r_iconst hG (hd := d_Ward_digest_121) (K := ?_)
          refine r_icmp_ge hG (hd := d_Ward_digest_122) (kt := fun _ => ?_) (kf := fun hh => absurd hh (by omega))
          refine r_iinc hG (hl0 := rfl) (hd := d_Ward_digest_146) (K := ?_)
          refine r_goto hG (hd := d_Ward_digest_149) (K := ?_)
          exact r_sb hG (ih (b + 1) (by omega)) ⟨rfl, rfl, rfl, trivial⟩
        | succ m' ihj =>
          intro j hj
          refine r_iload hG (hl0 := rfl) (hd := d_Ward_digest_119) (K := ?_)
          refine r_iconst hG (hd := d_Ward_digest_121) (K := ?_)
          refine r_icmp_ge hG (hd := d_Ward_digest_122) (kt := fun hh => absurd hh (by omega)) (kf := fun _ => ?_)
          refine r_lload_n hG (hl0 := rfl) (hd := d_Ward_digest_125) (K := ?_)
          refine r_ldc2 hG (v := (31 : Int64)) (hc := (m_T3 (i := 223) (by decide +kernel) (by decide +kernel))) (hd := d_Ward_digest_126) (K := ?_)
          refine r_lmul hG (hd := d_Ward_digest_129) (K := ?_)
          refine r_aload_n hG (hl0 := rfl) (hd := d_Ward_digest_130) (K := ?_)
          refine r_iload_n hG (hl0 := rfl) (hd := d_Ward_digest_131) (K := ?_)
          refine r_iload hG (hl0 := rfl) (hd := d_Ward_digest_132) (K := ?_)
          refine cVx hG w_Ward_336 d_Ward_digest_134 (ct_ofBale z hb20 (show b < nb by omega) (show j < 4 by omega)) (by decide) (by decide) rc_0 rfl rfl ⟨(Nat.le_of_ble_eq_true rfl), (Nat.le_of_ble_eq_true rfl)⟩ ⟨(Nat.le_of_ble_eq_true rfl), (Nat.le_of_ble_eq_true rfl)⟩ (Nat.le_of_ble_eq_true rfl) ?_
          refine r_i2l hG (hd := d_Ward_digest_137) (K := ?_)
          refine r_ladd hG (hd := d_Ward_digest_138) (K := ?_)
          refine r_lstore_n hG (hd := d_Ward_digest_139) (K := ?_)
          refine r_iinc hG (hl0 := rfl) (hd := d_Ward_digest_140) (K := ?_)
          refine r_goto hG (hd := d_Ward_digest_143) (K := ?_)
          exact r_sb hG (ihj (j + 1) (by omega)) ⟨rfl, rfl, rfl, rfl, trivial⟩
      exact r_sb hG (inner 4 0 (by omega)) ⟨rfl, rfl, rfl, rfl, trivial⟩
  have lorries : ∀ m i : Nat, i + m = nl → G (0, 0) 82 [(0, rf Γ 0 0), (1, .long (lyD S ns (dgNS S (dgN (raF S) (dgN (maF S) 4812 18) 3) ns) i)), (3, nt i)] [] (lyS S ns i) := by
    intro m
    induction m with
    | zero =>
      intro i hi
      have hin : i = nl := by omega
      subst hin
      have z : lyS S ns i 1 0 0 = (i : Int) := by rw [lyS_f _ _ (by decide), hl]
      refine r_iload_n hG (hl0 := rfl) (hd := d_Ward_digest_82) (K := ?_)
      refine r_aload_n hG (hl0 := rfl) (hd := d_Ward_digest_83) (K := ?_)
      refine g_Ward_115 hG (hd := d_Ward_digest_84) (K := ?_)
      refine r_icmp_ge hG (hd := d_Ward_digest_87) (kt := fun _ => ?_) (kf := fun hh => absurd hh (by omega))
      refine r_iconst hG (hd := d_Ward_digest_103) (K := ?_)
      refine r_istore_n hG (hd := d_Ward_digest_104) (K := ?_)
      exact r_sb hG (bales nb 0 (by omega)) ⟨rfl, rfl, rfl, trivial⟩
    | succ m ih =>
      intro i hi
      have z : lyS S ns i 1 0 0 = (nl : Int) := by rw [lyS_f _ _ (by decide), hl]
      have iT : ∀ t, t < 12 → okT (lyS S ns i) t := fun t ht => okT_of (hT t ht) (lyS_f _ _ (by decide) _) (lyS_f _ _ (by decide) _) (lyS_f _ _ (by decide) _) (lyS_f _ _ (by decide) _) (lyS_f _ _ (by decide) _)
      refine r_iload_n hG (hl0 := rfl) (hd := d_Ward_digest_82) (K := ?_)
      refine r_aload_n hG (hl0 := rfl) (hd := d_Ward_digest_83) (K := ?_)
      refine g_Ward_115 hG (hd := d_Ward_digest_84) (K := ?_)
      refine r_icmp_ge hG (hd := d_Ward_digest_87) (kt := fun hh => absurd hh (by omega)) (kf := fun _ => ?_)
      refine r_aload_n hG (hl0 := rfl) (hd := d_Ward_digest_90) (K := ?_)
      refine r_lload_n hG (hl0 := rfl) (hd := d_Ward_digest_91) (K := ?_)
      refine r_iload_n hG (hl0 := rfl) (hd := d_Ward_digest_92) (K := ?_)
      refine cVx hG w_Ward_333 d_Ward_digest_93 (ct_dgL (by rw [lyS_f _ _ (by decide), hs]) hns z hnl (show i < nl by omega) iT (lL i i (by omega))) (by decide) (by decide) rc_0 rfl rfl ⟨(Nat.le_of_ble_eq_true rfl), (Nat.le_of_ble_eq_true rfl)⟩ ⟨(Nat.le_of_ble_eq_true rfl), (Nat.le_of_ble_eq_true rfl)⟩ (Nat.le_of_ble_eq_true rfl) ?_
      refine r_lstore_n hG (hd := d_Ward_digest_96) (K := ?_)
      refine r_iinc hG (hl0 := rfl) (hd := d_Ward_digest_97) (K := ?_)
      refine r_goto hG (hd := d_Ward_digest_100) (K := ?_)
      exact r_sb hG (ih (i + 1) (by omega)) ⟨rfl, rfl, rfl, trivial⟩
  have strs : ∀ m k : Nat, k + m = ns → G (0, 0) 59 [(0, rf Γ 0 0), (1, .long (dgNS S (dgN (raF S) (dgN (maF S) 4812 18) 3) k)), (3, nt k)] [] S := by
    intro m
    induction m with
    | zero =>
      intro k hk
      have hkn : k = ns := by omega
      subst hkn
      refine r_iload_n hG (hl0 := rfl) (hd := d_Ward_digest_59) (K := ?_)
      refine r_aload_n hG (hl0 := rfl) (hd := d_Ward_digest_60) (K := ?_)
      refine g_Ward_86 hG (hd := d_Ward_digest_61) (K := ?_)
      refine r_icmp_ge hG (hd := d_Ward_digest_64) (kt := fun _ => ?_) (kf := fun hh => absurd hh (by omega))
      refine r_iconst hG (hd := d_Ward_digest_80) (K := ?_)
      refine r_istore_n hG (hd := d_Ward_digest_81) (K := ?_)
      exact r_sb hG (lorries nl 0 (by omega)) ⟨rfl, rfl, rfl, trivial⟩
    | succ m ih =>
      intro k hk
      refine r_iload_n hG (hl0 := rfl) (hd := d_Ward_digest_59) (K := ?_)
      refine r_aload_n hG (hl0 := rfl) (hd := d_Ward_digest_60) (K := ?_)
      refine g_Ward_86 hG (hd := d_Ward_digest_61) (K := ?_)
      refine r_icmp_ge hG (hd := d_Ward_digest_64) (kt := fun hh => absurd hh (by omega)) (kf := fun _ => ?_)
      refine r_aload_n hG (hl0 := rfl) (hd := d_Ward_digest_67) (K := ?_)
      refine r_lload_n hG (hl0 := rfl) (hd := d_Ward_digest_68) (K := ?_)
      refine r_iload_n hG (hl0 := rfl) (hd := d_Ward_digest_69) (K := ?_)
      refine cVx hG w_Ward_329 d_Ward_digest_70 (ct_dgS hs hns (show k < ns by omega) (hT (2 * k) (by omega))) (by decide) (by decide) rc_0 rfl rfl ⟨(Nat.le_of_ble_eq_true rfl), (Nat.le_of_ble_eq_true rfl)⟩ ⟨(Nat.le_of_ble_eq_true rfl), (Nat.le_of_ble_eq_true rfl)⟩ (Nat.le_of_ble_eq_true rfl) ?_
      refine r_lstore_n hG (hd := d_Ward_digest_73) (K := ?_)
      refine r_iinc hG (hl0 := rfl) (hd := d_Ward_digest_74) (K := ?_)
      refine r_goto hG (hd := d_Ward_digest_77) (K := ?_)
      exact r_sb hG (ih (k + 1) (by omega)) ⟨rfl, rfl, rfl, trivial⟩
  have rates : ∀ m r : Nat, r + m = 3 → G (0, 0) 33 [(0, rf Γ 0 0), (1, .long (dgN (raF S) (dgN (maF S) 4812 18) r)), (3, nt r)] [] S := by
    intro m
    induction m with
    | zero =>
      intro r hr
      have hr3 : r = 3 := by omega
      subst hr3
      refine r_iload_n hG (hl0 := rfl) (hd := d_Ward_digest_33) (K := ?_)
      refine r_iconst hG (hd := d_Ward_digest_34) (K := ?_)
      refine r_icmp_ge hG (hd := d_Ward_digest_35) (kt := fun _ => ?_) (kf := fun hh => absurd hh (by omega))
      refine r_iconst hG (hd := d_Ward_digest_57) (K := ?_)
      refine r_istore_n hG (hd := d_Ward_digest_58) (K := ?_)
      exact r_sb hG (strs ns 0 (by omega)) ⟨rfl, rfl, rfl, trivial⟩
    | succ m ih =>
      intro r hr
      refine r_iload_n hG (hl0 := rfl) (hd := d_Ward_digest_33) (K := ?_)
      refine r_iconst hG (hd := d_Ward_digest_34) (K := ?_)
      refine r_icmp_ge hG (hd := d_Ward_digest_35) (kt := fun hh => absurd hh (by omega)) (kf := fun _ => ?_)
      refine r_lload_n hG (hl0 := rfl) (hd := d_Ward_digest_38) (K := ?_)
      refine r_ldc2 hG (v := (31 : Int64)) (hc := (m_T3 (i := 223) (by decide +kernel) (by decide +kernel))) (hd := d_Ward_digest_39) (K := ?_)
      refine r_lmul hG (hd := d_Ward_digest_42) (K := ?_)
      refine r_aload_n hG (hl0 := rfl) (hd := d_Ward_digest_43) (K := ?_)
      refine r_iload_n hG (hl0 := rfl) (hd := d_Ward_digest_44) (K := ?_)
      refine cVx hG w_Ward_326 d_Ward_digest_45 (ct_rate hl hnl hb hb20 h57 (show r < 3 by omega) hf (hu r (by omega))) (by decide) (by decide) rc_0 rfl rfl ⟨(Nat.le_of_ble_eq_true rfl), (Nat.le_of_ble_eq_true rfl)⟩ ⟨(Nat.le_of_ble_eq_true rfl), (Nat.le_of_ble_eq_true rfl)⟩ (Nat.le_of_ble_eq_true rfl) ?_
      refine r_i2l hG (hd := d_Ward_digest_48) (K := ?_)
      refine r_ladd hG (hd := d_Ward_digest_49) (K := ?_)
      refine r_lstore_n hG (hd := d_Ward_digest_50) (K := ?_)
      refine r_iinc hG (hl0 := rfl) (hd := d_Ward_digest_51) (K := ?_)
      refine r_goto hG (hd := d_Ward_digest_54) (K := ?_)
      exact r_sb hG (ih (r + 1) (by omega)) ⟨rfl, rfl, rfl, trivial⟩
  have manies : ∀ m w : Nat, w + m = 18 → G (0, 0) 6 [(0, rf Γ 0 0), (1, .long (dgN (maF S) 4812 w)), (3, nt w)] [] S := by
    intro m
    induction m with
    | zero =>
      intro w hw
      have hw18 : w = 18 := by omega
      subst hw18
      refine r_iload_n hG (hl0 := rfl) (hd := d_Ward_digest_6) (K := ?_)
      refine r_bipush hG (hd := d_Ward_digest_7) (K := ?_)
      refine r_icmp_ge hG (hd := d_Ward_digest_9) (kt := fun _ => ?_) (kf := fun hh => absurd hh (by omega))
      refine r_iconst hG (hd := d_Ward_digest_31) (K := ?_)
      refine r_istore_n hG (hd := d_Ward_digest_32) (K := ?_)
      exact r_sb hG (rates 3 0 (by omega)) ⟨rfl, rfl, rfl, trivial⟩
    | succ m ih =>
      intro w hw
      refine r_iload_n hG (hl0 := rfl) (hd := d_Ward_digest_6) (K := ?_)
      refine r_bipush hG (hd := d_Ward_digest_7) (K := ?_)
      refine r_icmp_ge hG (hd := d_Ward_digest_9) (kt := fun hh => absurd hh (by omega)) (kf := fun _ => ?_)
      refine r_lload_n hG (hl0 := rfl) (hd := d_Ward_digest_12) (K := ?_)
      refine r_ldc2 hG (v := (31 : Int64)) (hc := (m_T3 (i := 223) (by decide +kernel) (by decide +kernel))) (hd := d_Ward_digest_13) (K := ?_)
      refine r_lmul hG (hd := d_Ward_digest_16) (K := ?_)
      refine r_aload_n hG (hl0 := rfl) (hd := d_Ward_digest_17) (K := ?_)
      refine r_iload_n hG (hl0 := rfl) (hd := d_Ward_digest_18) (K := ?_)
      refine cVx hG w_Ward_323 d_Ward_digest_19 (ct_many hs hns hl hnl hb hb20 h57 (show w < 18 by omega)) (by decide) (by decide) rc_0 rfl rfl ⟨(Nat.le_of_ble_eq_true rfl), (Nat.le_of_ble_eq_true rfl)⟩ ⟨(Nat.le_of_ble_eq_true rfl), (Nat.le_of_ble_eq_true rfl)⟩ (Nat.le_of_ble_eq_true rfl) ?_
      refine r_i2l hG (hd := d_Ward_digest_22) (K := ?_)
      refine r_ladd hG (hd := d_Ward_digest_23) (K := ?_)
      refine r_lstore_n hG (hd := d_Ward_digest_24) (K := ?_)
      refine r_iinc hG (hl0 := rfl) (hd := d_Ward_digest_25) (K := ?_)
      refine r_goto hG (hd := d_Ward_digest_28) (K := ?_)
      exact r_sb hG (ih (w + 1) (by omega)) ⟨rfl, rfl, rfl, trivial⟩
  exact r_sb hG (manies 18 0 (by omega)) ⟨rfl, rfl, rfl, trivial⟩
