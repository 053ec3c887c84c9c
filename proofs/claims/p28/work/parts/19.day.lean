/-! A DAY: bins, rounds, what was missed -/
theorem thr_of (S : St) (t : Nat) {f : Nat} (h : f ≠ 16 ∧ f ≠ 17 ∧ f ≠ 12) : thr S t f = S f := by
  unfold thr
  rw [thrK_of _ _ _ h, thrK_of _ _ _ h, thrK_of _ _ _ h]
theorem thr_ok {S : St} {t t' : Nat} (h : okT S t) (h' : okT S t') : okT (thr S t) t' := by
  have a := thrK_ok (j := 0) (by decide) h h
  have b := thrK_ok (j := 1) (by decide) a a
  exact thrK_ok (by decide) b (thrK_ok (by decide) a (thrK_ok (by decide) h h'))
def fillF (S : St) (w : Nat) : Nat → St
  | 0 => S
  | k + 1 => thr (fillF S w k) (2 * k + w)
theorem fillF_of (S : St) (w : Nat) {f : Nat} (h : f ≠ 16 ∧ f ≠ 17 ∧ f ≠ 12) : ∀ k, fillF S w k f = S f
  | 0 => rfl
  | k + 1 => (thr_of _ _ h).trans (fillF_of S w h k)
theorem fillF_ok {S : St} {w : Nat} (hw : w < 2) (hT : ∀ t, t < 12 → okT S t) : ∀ k, k ≤ 6 → ∀ t, t < 12 → okT (fillF S w k) t
  | 0, _ => hT
  | k + 1, hk => fun t ht => thr_ok (fillF_ok hw hT k (by omega) _ (by omega)) (fillF_ok hw hT k (by omega) t ht)
theorem ct_fillBins {Γ : Gm} {S : St} {w n : Nat} (hw : w < 2) (hn : S 0 0 0 = (n : Int)) (hn6 : n ≤ 6) (hT : ∀ t, t < 12 → okT S t) : CT Γ y_Ward_fillBins b_Ward_fillBins 3 ((none : Option FieldType)) (rmx 4 0 0) [rf Γ 0 0, rf Γ 1 w] S (dX none (fillF S w n)) := by
  refine CT.of (by first | exact plainFor_of_name (by rfl) | decide +kernel) (Nat.le_of_ble_eq_true rfl) ?_
  intro G hG
  show G (0, 0) 0 [(0, rf Γ 0 0), (1, rf Γ 1 w)] [] _
  refine r_iconst hG (hd := d_Ward_fillBins_0) (K := ?_)
  refine r_istore_n hG (hd := d_Ward_fillBins_1) (K := ?_)
  have loop : ∀ m i : Nat, i + m = n → G (0, 0) 2 [(0, rf Γ 0 0), (1, rf Γ 1 w), (2, nt i)] [] (fillF S w i) := by
    intro m
    induction m with
    | zero =>
      intro i hi
      have hin : i = n := by omega
      subst hin
      have h0 : fillF S w i 0 0 0 = (i : Int) := by rw [fillF_of S w (by decide), hn]
      refine r_iload_n hG (hl0 := rfl) (hd := d_Ward_fillBins_2) (K := ?_)
      refine r_aload_n hG (hl0 := rfl) (hd := d_Ward_fillBins_3) (K := ?_)
      refine g_Ward_86 hG (hd := d_Ward_fillBins_4) (K := ?_)
      refine r_icmp_ge hG (hd := d_Ward_fillBins_7) (kt := fun _ => ?_) (kf := fun hh => absurd hh (by omega))
      refine r_vret hG d_Ward_fillBins_22 ⟨(Nat.le_of_ble_eq_true rfl), (Nat.le_of_ble_eq_true rfl)⟩ ?_
      exact ⟨rfl, rfl⟩
    | succ m ih =>
      intro i hi
      have h0 : fillF S w i 0 0 0 = (n : Int) := by rw [fillF_of S w (by decide), hn]
      refine r_iload_n hG (hl0 := rfl) (hd := d_Ward_fillBins_2) (K := ?_)
      refine r_aload_n hG (hl0 := rfl) (hd := d_Ward_fillBins_3) (K := ?_)
      refine g_Ward_86 hG (hd := d_Ward_fillBins_4) (K := ?_)
      refine r_icmp_ge hG (hd := d_Ward_fillBins_7) (kt := fun hh => absurd hh (by omega)) (kf := fun _ => ?_)
      refine r_aload_n hG (hl0 := rfl) (hd := d_Ward_fillBins_10) (K := ?_)
      refine r_iload_n hG (hl0 := rfl) (hd := d_Ward_fillBins_11) (K := ?_)
      first | refine a_1 hG (hd := d_Ward_fillBins_12) (hz := rfl) (hj := by omega) (hi := by omega) (K := ?_) | refine a_2 hG (hd := d_Ward_fillBins_12) (hz := rfl) (hj := by omega) (hi := by omega) (K := ?_) | refine a_10 hG (hd := d_Ward_fillBins_12) (hz := rfl) (hj := by omega) (hi := by omega) (K := ?_) | refine r_aald22 hG (hd := d_Ward_fillBins_12) (hz := rfl) (hj := by omega) (hi := by omega) (K := ?_)
      refine cVv hG w_Ward_367 d_Ward_fillBins_13 (ct_throwAway (show 2 * i + w < 12 by omega) (fillF_ok hw hT i (by omega) _ (by omega))) (by decide) (by show _ < 12; omega) rc_15 rfl rfl ⟨(Nat.le_of_ble_eq_true rfl), (Nat.le_of_ble_eq_true rfl)⟩ ⟨(Nat.le_of_ble_eq_true rfl), (Nat.le_of_ble_eq_true rfl)⟩ (Nat.le_of_ble_eq_true rfl) ?_
      refine r_iinc hG (hl0 := rfl) (hd := d_Ward_fillBins_16) (K := ?_)
      refine r_goto hG (hd := d_Ward_fillBins_19) (K := ?_)
      exact r_sb hG (ih (i + 1) (by omega)) ⟨rfl, rfl, rfl, trivial⟩
  exact r_sb hG (loop n 0 (by omega)) ⟨rfl, rfl, rfl, trivial⟩
/-- a street that was missed -/
def msK (S : St) (e : Nat) : St :=
  if hasM S (S 2 0 0).toNat ((2 ^ e : Nat) : Int) = 0 then sU (noteM S (S 2 0 0).toNat ((2 ^ e : Nat) : Int)) 14 (2 * e) 0 (noteM S (S 2 0 0).toNat ((2 ^ e : Nat) : Int) 14 (2 * e) 0 + 1) else S
def msN (i d : Nat) : Nat → Nat → St → St
  | 0, _, S => S
  | m + 1, q, S => msN i d m (q + 1) (msK S (S 27 (7 * i + d) q).toNat)
theorem noteM_of (S : St) (d : Nat) (m : Int) {f : Nat} (h : f ≠ 80) : noteM S d m f = S f := by
  unfold noteM
  split
  · rw [sU_f h]
  · rfl
theorem msK_of (S : St) (e : Nat) {f : Nat} (h : f ≠ 80 ∧ f ≠ 14) : msK S e f = S f := by
  unfold msK
  split
  · rw [sU_f h.2, noteM_of _ _ _ h.1]
  · rfl
theorem msN_of (i d : Nat) {f : Nat} (h : f ≠ 80 ∧ f ≠ 14) : ∀ (m q : Nat) (S : St), msN i d m q S f = S f
  | 0, _, _ => rfl
  | m + 1, q, S => (msN_of i d h m (q + 1) _).trans (msK_of S _ h)
/-- the marks behind the row's end are none -/
def okM (S : St) : Prop := ∃ N : Nat, 1 ≤ N ∧ N ≤ 1000 ∧ S 82 0 0 = (N : Int) ∧ ∀ j, N ≤ j → S 80 0 j = 0
theorem noteM_okM {S : St} {d : Nat} {m : Int} (h : okM S) : okM (noteM S d m) := by
  obtain ⟨N, h1, h2, h3, h4⟩ := h
  refine ⟨N, h1, h2, by rw [noteM_of _ _ _ (by decide), h3], fun j hj => ?_⟩
  unfold noteM
  split
  · rw [sU_nj (by omega)]
    exact h4 j hj
  · exact h4 j hj
theorem msK_okM {S : St} {e : Nat} (h : okM S) : okM (msK S e) := by
  unfold msK
  split
  · obtain ⟨N, h1, h2, h3, h4⟩ := noteM_okM (d := (S 2 0 0).toNat) (m := ((2 ^ e : Nat) : Int)) h
    exact ⟨N, h1, h2, by rw [sU_f (by decide)]; exact h3, fun j hj => by rw [sU_f (by decide)]; exact h4 j hj⟩
  · exact h
theorem msN_okM (i d : Nat) : ∀ (m q : Nat) (S : St), okM S → okM (msN i d m q S)
  | 0, _, _, h => h
  | m + 1, q, S, h => msN_okM i d m (q + 1) _ (msK_okM h)
theorem ct_noteMissed {Γ : Gm} {S : St} {i d n q0 dn : Nat} (hi : i < 3) (hd : d < 7) (hL : okL S i) (hn : S 26 i d = (n : Int)) (hn6 : n ≤ 6) (hq : S 31 i 0 = (q0 : Int)) (hq0 : q0 ≤ n) (hnow : S 2 0 0 = (dn : Int)) (hdn : dn < 100000) (hM : okM S) :
    CT Γ y_Ward_noteMissed b_Ward_noteMissed 5 ((none : Option FieldType)) (rmx 2 0 0) [rf Γ 0 0, rf Γ 20 i, nt d] S (dX none (msN i d (n - q0) q0 S)) := by
  refine CT.of (by first | exact plainFor_of_name (by rfl) | decide +kernel) (Nat.le_of_ble_eq_true rfl) ?_
  intro G hG
  show G (0, 0) 0 [(0, rf Γ 0 0), (1, rf Γ 20 i), (2, nt d)] [] _
  refine r_aload_n hG (hl0 := rfl) (hd := d_Ward_noteMissed_0) (K := ?_)
  refine g_Ward_370 hG (hi := by omega) (hd := d_Ward_noteMissed_1) (K := ?_)
  refine g_Ward_381 hG (hi := by omega) (hd := d_Ward_noteMissed_4) (K := ?_)
  rw [hq]
  have loop : ∀ m q : Nat, q + m = n → ∀ S1 : St, (∀ {f : Nat}, f ≠ 80 ∧ f ≠ 14 → S1 f = S f) → okM S1 → G (0, 0) 85 [] [] (msN i d m q S1) → G (0, 0) 8 [(0, rf Γ 0 0), (1, rf Γ 20 i), (2, nt d), (3, nt q)] [] S1 := by
    intro m
    induction m with
    | zero =>
      intro q hq S1 e hM K
      have hlen : S1 26 i d = (n : Int) := by rw [e (by decide), hn]
      refine r_iload_n hG (hl0 := rfl) (hd := d_Ward_noteMissed_8) (K := ?_)
      refine r_aload_n hG (hl0 := rfl) (hd := d_Ward_noteMissed_9) (K := ?_)
      refine g_Ward_139 hG (hi := by omega) (hd := d_Ward_noteMissed_10) (K := ?_)
      refine r_iload_n hG (hl0 := rfl) (hd := d_Ward_noteMissed_13) (K := ?_)
      first | refine a_16 hG (hd := d_Ward_noteMissed_14) (hz := rfl) (hj := by omega) (hi := by omega) (K := ?_) | refine a_17 hG (hd := d_Ward_noteMissed_14) (hz := rfl) (hj := by omega) (hi := by omega) (K := ?_) | refine a_18 hG (hd := d_Ward_noteMissed_14) (hz := rfl) (hj := by omega) (hi := by omega) (K := ?_) | refine a_19 hG (hd := d_Ward_noteMissed_14) (hz := rfl) (hj := by omega) (hi := by omega) (K := ?_) | refine a_4 hG (hd := d_Ward_noteMissed_14) (hz := rfl) (hj := by omega) (hi := by omega) (K := ?_) | refine a_5 hG (hd := d_Ward_noteMissed_14) (hz := rfl) (hj := by omega) (hi := by omega) (K := ?_) | refine a_21 hG (hd := d_Ward_noteMissed_14) (hz := rfl) (hj := by omega) (hi := by omega) (K := ?_) | refine a_23 hG (hd := d_Ward_noteMissed_14) (hz := rfl) (hj := by omega) (hi := by omega) (K := ?_) | refine a_24 hG (hd := d_Ward_noteMissed_14) (hz := rfl) (hj := by omega) (hi := by omega) (K := ?_)
      refine r_icmp_ge hG (hd := d_Ward_noteMissed_15) (kt := fun _ => ?_) (kf := fun hh => absurd hh (by omega))
      exact r_sb hG (K) trivial
    | succ m ih =>
      intro q hq S1 e hM K
      have hlen : S1 26 i d = (n : Int) := by rw [e (by decide), hn]
      have hnow1 : S1 2 0 0 = (dn : Int) := by rw [e (by decide), hnow]
      obtain ⟨x, hx6, hx⟩ := hL.2.2.2 d hd q (by omega)
      have hx1 : S1 27 (7 * i + d) q = (x : Int) := by rw [e (by decide), hx]
      obtain ⟨N, hN1, hN2, hN3, hN4⟩ := id hM
      have K : G (0, 0) 85 [] [] (msN i d m (q + 1) (msK S1 x)) := by
        have K := K
        simp only [msN] at K
        rw [hx1, Int.toNat_natCast] at K
        exact K
      have next := ih (q + 1) (by omega) (msK S1 x) (fun h => (msK_of S1 x h).trans (e h)) (msK_okM hM) K
      have t0 : (S1 2 0 0).toNat = dn := by rw [hnow1, Int.toNat_natCast]
      have h01 : hasM S1 dn ((2 ^ x : Nat) : Int) = 0 ∨ hasM S1 dn ((2 ^ x : Nat) : Int) = 1 := by
        unfold hasM
        split
        · exact Or.inr rfl
        · exact Or.inl rfl
      refine r_iload_n hG (hl0 := rfl) (hd := d_Ward_noteMissed_8) (K := ?_)
      refine r_aload_n hG (hl0 := rfl) (hd := d_Ward_noteMissed_9) (K := ?_)
      refine g_Ward_139 hG (hi := by omega) (hd := d_Ward_noteMissed_10) (K := ?_)
      refine r_iload_n hG (hl0 := rfl) (hd := d_Ward_noteMissed_13) (K := ?_)
      first | refine a_16 hG (hd := d_Ward_noteMissed_14) (hz := rfl) (hj := by omega) (hi := by omega) (K := ?_) | refine a_17 hG (hd := d_Ward_noteMissed_14) (hz := rfl) (hj := by omega) (hi := by omega) (K := ?_) | refine a_18 hG (hd := d_Ward_noteMissed_14) (hz := rfl) (hj := by omega) (hi := by omega) (K := ?_) | refine a_19 hG (hd := d_Ward_noteMissed_14) (hz := rfl) (hj := by omega) (hi := by omega) (K := ?_) | refine a_4 hG (hd := d_Ward_noteMissed_14) (hz := rfl) (hj := by omega) (hi := by omega) (K := ?_) | refine a_5 hG (hd := d_Ward_noteMissed_14) (hz := rfl) (hj := by omega) (hi := by omega) (K := ?_) | refine a_21 hG (hd := d_Ward_noteMissed_14) (hz := rfl) (hj := by omega) (hi := by omega) (K := ?_) | refine a_23 hG (hd := d_Ward_noteMissed_14) (hz := rfl) (hj := by omega) (hi := by omega) (K := ?_) | refine a_24 hG (hd := d_Ward_noteMissed_14) (hz := rfl) (hj := by omega) (hi := by omega) (K := ?_)
      refine r_icmp_ge hG (hd := d_Ward_noteMissed_15) (kt := fun hh => absurd hh (by omega)) (kf := fun _ => ?_)
      refine r_aload_n hG (hl0 := rfl) (hd := d_Ward_noteMissed_18) (K := ?_)
      refine g_Ward_384 hG (hi := by omega) (hd := d_Ward_noteMissed_19) (K := ?_)
      refine r_iload_n hG (hl0 := rfl) (hd := d_Ward_noteMissed_22) (K := ?_)
      first | refine a_1 hG (hd := d_Ward_noteMissed_23) (hz := rfl) (hj := by omega) (hi := by omega) (K := ?_) | refine a_2 hG (hd := d_Ward_noteMissed_23) (hz := rfl) (hj := by omega) (hi := by omega) (K := ?_) | refine a_10 hG (hd := d_Ward_noteMissed_23) (hz := rfl) (hj := by omega) (hi := by omega) (K := ?_) | refine r_aald22 hG (hd := d_Ward_noteMissed_23) (hz := rfl) (hj := by omega) (hi := by omega) (K := ?_)
      refine r_iload_n hG (hl0 := rfl) (hd := d_Ward_noteMissed_24) (K := ?_)
      first | refine a_16 hG (hd := d_Ward_noteMissed_25) (hz := rfl) (hj := by omega) (hi := by omega) (K := ?_) | refine a_17 hG (hd := d_Ward_noteMissed_25) (hz := rfl) (hj := by omega) (hi := by omega) (K := ?_) | refine a_18 hG (hd := d_Ward_noteMissed_25) (hz := rfl) (hj := by omega) (hi := by omega) (K := ?_) | refine a_19 hG (hd := d_Ward_noteMissed_25) (hz := rfl) (hj := by omega) (hi := by omega) (K := ?_) | refine a_4 hG (hd := d_Ward_noteMissed_25) (hz := rfl) (hj := by omega) (hi := by omega) (K := ?_) | refine a_5 hG (hd := d_Ward_noteMissed_25) (hz := rfl) (hj := by omega) (hi := by omega) (K := ?_) | refine a_21 hG (hd := d_Ward_noteMissed_25) (hz := rfl) (hj := by omega) (hi := by omega) (K := ?_) | refine a_23 hG (hd := d_Ward_noteMissed_25) (hz := rfl) (hj := by omega) (hi := by omega) (K := ?_) | refine a_24 hG (hd := d_Ward_noteMissed_25) (hz := rfl) (hj := by omega) (hi := by omega) (K := ?_)
      rw [hx1]
      refine r_istore hG (hd := d_Ward_noteMissed_26) (K := ?_)
      refine r_aload_n hG (hl0 := rfl) (hd := d_Ward_noteMissed_28) (K := ?_)
      refine g_Ward_41 hG (hd := d_Ward_noteMissed_29) (K := ?_)
      refine r_aload_n hG (hl0 := rfl) (hd := d_Ward_noteMissed_32) (K := ?_)
      refine g_Ward_187 hG (hd := d_Ward_noteMissed_33) (K := ?_)
      rw [hnow1]
      refine r_iload hG (hl0 := rfl) (hd := d_Ward_noteMissed_36) (K := ?_)
      refine cSx hG w_Ward_202 d_Ward_noteMissed_38 (ct_missed hx6) rfl rfl ⟨(Nat.le_of_ble_eq_true rfl), (Nat.le_of_ble_eq_true rfl)⟩ ⟨(Nat.le_of_ble_eq_true rfl), (Nat.le_of_ble_eq_true rfl)⟩ (Nat.le_of_ble_eq_true rfl) ?_
      refine cVx hG w_Ward_194 d_Ward_noteMissed_41 (ct_has hdn (by omega)) (by decide) (by decide) rc_7 rfl rfl ⟨(Nat.le_of_ble_eq_true rfl), (Nat.le_of_ble_eq_true rfl)⟩ ⟨(Nat.le_of_ble_eq_true rfl), (Nat.le_of_ble_eq_true rfl)⟩ (Nat.le_of_ble_eq_true rfl) ?_
      refine r_if_ne hG (hd := d_Ward_noteMissed_44) (kt := fun h => ?_) (kf := fun h => ?_)
      · have ems : msK S1 x = S1 := by
          unfold msK
          rw [t0, if_neg h]
        rw [ems] at next
        refine r_iinc hG (hl0 := rfl) (hd := d_Ward_noteMissed_79) (K := ?_)
        refine r_goto hG (hd := d_Ward_noteMissed_82) (K := ?_)
        exact r_sb hG (next) ⟨rfl, rfl, rfl, rfl, trivial⟩
      · have ems : msK S1 x = sU (noteM S1 dn ((2 ^ x : Nat) : Int)) 14 (2 * x) 0 (noteM S1 dn ((2 ^ x : Nat) : Int) 14 (2 * x) 0 + 1) := by
          unfold msK
          rw [t0, if_pos h]
        rw [ems] at next
        refine r_aload_n hG (hl0 := rfl) (hd := d_Ward_noteMissed_47) (K := ?_)
        refine g_Ward_41 hG (hd := d_Ward_noteMissed_48) (K := ?_)
        refine r_aload_n hG (hl0 := rfl) (hd := d_Ward_noteMissed_51) (K := ?_)
        refine g_Ward_187 hG (hd := d_Ward_noteMissed_52) (K := ?_)
        rw [hnow1]
        refine r_iload hG (hl0 := rfl) (hd := d_Ward_noteMissed_55) (K := ?_)
        refine cSx hG w_Ward_202 d_Ward_noteMissed_57 (ct_missed hx6) rfl rfl ⟨(Nat.le_of_ble_eq_true rfl), (Nat.le_of_ble_eq_true rfl)⟩ ⟨(Nat.le_of_ble_eq_true rfl), (Nat.le_of_ble_eq_true rfl)⟩ (Nat.le_of_ble_eq_true rfl) ?_
        refine cVv hG w_Ward_199 d_Ward_noteMissed_60 (ct_note hdn (by omega)) (by decide) (by decide) rc_7 rfl rfl ⟨(Nat.le_of_ble_eq_true rfl), (Nat.le_of_ble_eq_true rfl)⟩ ⟨(Nat.le_of_ble_eq_true rfl), (Nat.le_of_ble_eq_true rfl)⟩ (Nat.le_of_ble_eq_true rfl) ?_
        refine r_aload_n hG (hl0 := rfl) (hd := d_Ward_noteMissed_63) (K := ?_)
        refine g_Ward_11 hG (hd := d_Ward_noteMissed_64) (K := ?_)
        refine r_iload hG (hl0 := rfl) (hd := d_Ward_noteMissed_67) (K := ?_)
        first | refine a_1 hG (hd := d_Ward_noteMissed_69) (hz := rfl) (hj := by omega) (hi := by omega) (K := ?_) | refine a_2 hG (hd := d_Ward_noteMissed_69) (hz := rfl) (hj := by omega) (hi := by omega) (K := ?_) | refine a_10 hG (hd := d_Ward_noteMissed_69) (hz := rfl) (hj := by omega) (hi := by omega) (K := ?_) | refine r_aald22 hG (hd := d_Ward_noteMissed_69) (hz := rfl) (hj := by omega) (hi := by omega) (K := ?_)
        refine r_dup hG (hd := d_Ward_noteMissed_70) (K := ?_)
        refine g_Ward_216 hG (hi := by omega) (hd := d_Ward_noteMissed_71) (K := ?_)
        refine r_iconst hG (hd := d_Ward_noteMissed_74) (K := ?_)
        first | refine r_iadd hG (hd := d_Ward_noteMissed_75) (K := ?_) | refine r_iaddr hG (hd := d_Ward_noteMissed_75) (K := ?_)
        refine p_Ward_216 hG (hi := by omega) (hd := d_Ward_noteMissed_76) (K := ?_)
        refine r_iinc hG (hl0 := rfl) (hd := d_Ward_noteMissed_79) (K := ?_)
        refine r_goto hG (hd := d_Ward_noteMissed_82) (K := ?_)
        exact r_sb hG (next) ⟨rfl, rfl, rfl, rfl, trivial⟩
  refine r_istore_n hG (hd := d_Ward_noteMissed_7) (K := ?_)
  have q := loop (n - q0) q0 (by omega) S (fun _ => rfl) hM (by
    refine r_vret hG d_Ward_noteMissed_85 ⟨(Nat.le_of_ble_eq_true rfl), (Nat.le_of_ble_eq_true rfl)⟩ ?_
    exact ⟨rfl, rfl⟩)
  exact r_sb hG (q) ⟨rfl, rfl, rfl, rfl, trivial⟩
