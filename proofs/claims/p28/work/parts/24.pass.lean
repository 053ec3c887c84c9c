/-! DAYS IN A ROW, and what would lie about -/
def PassR (ns nl : Nat) : Nat → St → Int → St → Prop
  | 0, S, r, S' => r = 0 ∧ S' = S
  | k + 1, S, r, S' => ∃ S1 r1, PassR ns nl k S r1 S1 ∧ ∃ q : Nat, r = r1 + dayR q S1 ns nl ∧ S' = dayF q S1 ns nl
theorem comN_of {S S' : St} (h : S' 15 = S 15) : ∀ k, comN S' k = comN S k
  | 0 => rfl
  | k + 1 => by simp only [comN]; rw [comN_of h k]; unfold habK; rw [h]
theorem pass_all {ns nl dn : Nat} {S : St} (h : WF S ns nl dn) : ∀ (n : Nat) (r : Int) (S' : St), dn + n ≤ 400 → PassR ns nl n S r S' →
    WF S' ns nl (dn + n) ∧ HM S' = HM S + r ∧ (0 ≤ r ∧ r ≤ 900 * n) ∧ fetN S' nl = fetN S nl + r ∧ bM S' 0 6 + r + litN S' 0 ns = bM S 0 6 + litN S 0 ns + n * comN S ns ∧ ∀ {f : Nat}, ¬ dayX f → S' f = S f
  | 0, r, S', _, hp => by
    obtain ⟨rfl, rfl⟩ := hp
    exact ⟨h, by omega, by omega, by omega, by simp, fun _ => rfl⟩
  | n + 1, r, S', hn, hp => by
    obtain ⟨S1, r1, hp, q, rfl, rfl⟩ := hp
    obtain ⟨a1, a2, a3, a4, a5, a6⟩ := pass_all h n r1 S1 (by omega) hp
    obtain ⟨b1, b2, b3, b4, b5⟩ := day_all a1 (by omega) q
    have hc : comN S1 ns = comN S ns := comN_of (a6 (show ¬ dayX 15 from (by decide : ¬ (15 ∈ [2, 81, 82, 80, 16, 17, 12, 18, 34, 35, 33, 31, 32, 30, 24, 21, 22, 23, 14] ∨ (47 ≤ 15 ∧ 15 ≤ 73))))) ns
    refine ⟨b1, by omega, by omega, by omega, ?_, fun hf => (dayF_of q S1 ns nl hf).trans (a6 hf)⟩
    have e : ((n + 1 : Nat) : Int) * comN S ns = n * comN S ns + comN S ns := by
      rw [Int.natCast_add, Int.add_mul]
      simp
    rw [e]
    rw [hc] at b5
    omega
theorem ct_pass {Γ : Gm} {S : St} {ns nl dn n : Nat} (h : WF S ns nl dn) (hn : 1 ≤ n ∧ n ≤ 30) (hdn : dn + n ≤ 400) (hM : HM S + 900 * n ≤ 899000) :
    CT Γ y_Ward_pass b_Ward_pass 4 ((some FieldType.int)) (rmx 7 n (1000*n)) [rf Γ 0 0, nt n] S (fun v S' => ∃ r : Int, v = some (nt r) ∧ PassR ns nl n S r S') := by
  refine CT.of (by first | exact plainFor_of_name (by rfl) | decide +kernel) (Nat.le_of_ble_eq_true rfl) ?_
  intro G hG
  show G (0, 0) 0 [(0, rf Γ 0 0), (1, nt n)] [] _
  refine r_iload_n hG (hl0 := rfl) (hd := d_Ward_pass_0) (K := ?_)
  refine r_iconst hG (hd := d_Ward_pass_1) (K := ?_)
  refine r_bipush hG (hd := d_Ward_pass_2) (K := ?_)
  refine cSv hG w_Ward_82 d_Ward_pass_4 (ct_ckV (by omega) (by omega)) rfl rfl ⟨(Nat.le_of_ble_eq_true rfl), (Nat.le_of_ble_eq_true rfl)⟩ ⟨(Nat.le_of_ble_eq_true rfl), (Nat.le_of_ble_eq_true rfl)⟩ (Nat.le_of_ble_eq_true rfl) ?_
  refine r_iconst hG (hd := d_Ward_pass_7) (K := ?_)
  refine r_istore_n hG (hd := d_Ward_pass_8) (K := ?_)
  refine r_iconst hG (hd := d_Ward_pass_9) (K := ?_)
  refine r_istore_n hG (hd := d_Ward_pass_10) (K := ?_)
  have loop : ∀ m k : Nat, k + m = n → ∀ (r : Int) (S1 : St), PassR ns nl k S r S1 → G (k, 1000 * k) 11 [(0, rf Γ 0 0), (1, nt n), (2, nt r), (3, nt k)] [] S1 := by
    intro m
    induction m with
    | zero =>
      intro k hk r S1 hp
      have hkn : k = n := by omega
      subst hkn
      refine r_iload_n hG (hl0 := rfl) (hd := d_Ward_pass_11) (K := ?_)
      refine r_iload_n hG (hl0 := rfl) (hd := d_Ward_pass_12) (K := ?_)
      refine r_icmp_ge hG (hd := d_Ward_pass_13) (kt := fun _ => ?_) (kf := fun hh => absurd hh (by omega))
      refine r_iload_n hG (hl0 := rfl) (hd := d_Ward_pass_29) (K := ?_)
      refine r_iret hG d_Ward_pass_30 ⟨Nat.le_refl _, Nat.le_refl _⟩ ?_
      exact ⟨r, rfl, hp⟩
    | succ m ih =>
      intro k hk r S1 hP
      obtain ⟨a1, a2, a3, a4, a5, a6⟩ := pass_all h k r S1 (by omega) hP
      refine r_iload_n hG (hl0 := rfl) (hd := d_Ward_pass_11) (K := ?_)
      refine r_iload_n hG (hl0 := rfl) (hd := d_Ward_pass_12) (K := ?_)
      refine r_icmp_ge hG (hd := d_Ward_pass_13) (kt := fun hh => absurd hh (by omega)) (kf := fun _ => ?_)
      refine r_iload_n hG (hl0 := rfl) (hd := d_Ward_pass_16) (K := ?_)
      refine r_aload_n hG (hl0 := rfl) (hd := d_Ward_pass_17) (K := ?_)
      refine cVm hG w_Ward_151 d_Ward_pass_18 (ct_liveOneDay a1 (by omega) (by omega)) (by decide) (by decide) rc_0 rfl rfl ⟨(Nat.le_of_ble_eq_true rfl), (Nat.le_of_ble_eq_true rfl)⟩ ⟨by first | exact (Nat.le_of_ble_eq_true rfl) | (simp [rmx]; omega), by first | exact (Nat.le_of_ble_eq_true rfl) | (simp [rmx]; omega)⟩ (Nat.le_of_ble_eq_true rfl) (fun v Sx hp => ?_)
      obtain ⟨q, rfl, rfl⟩ := hp
      first | refine r_iadd hG (hd := d_Ward_pass_21) (K := ?_) | refine r_iaddr hG (hd := d_Ward_pass_21) (K := ?_)
      refine r_istore_n hG (hd := d_Ward_pass_22) (K := ?_)
      refine r_iinc hG (hl0 := rfl) (hd := d_Ward_pass_23) (K := ?_)
      refine r_goto hG (hd := d_Ward_pass_26) (K := ?_)
      exact r_sb hG (ih (k + 1) (by omega) (r + dayR q S1 ns nl) _ ⟨S1, r, hP, q, rfl, rfl⟩) ⟨rfl, rfl, rfl, rfl, trivial⟩
  exact r_sb hG (loop n 0 (by omega) 0 S ⟨rfl, rfl⟩) ⟨rfl, rfl, rfl, rfl, trivial⟩
/-- what only would be -/
def spf (f i : Nat) : Prop := (f ∈ [10, 11, 12, 15, 16, 17, 18] ∧ i % 2 = 1) ∨ (f ∈ [30, 31, 32, 33, 34, 35] ∧ i = 3) ∨ f ∈ [40, 41, 42]
def KP (S S' : St) : Prop := ∀ f i j, ¬ spf f i → S' f i j = S f i j
theorem KP.refl {S : St} : KP S S := fun _ _ _ _ => rfl
theorem KP.trans {S S1 S2 : St} (a : KP S S1) (b : KP S1 S2) : KP S S2 := fun f i j h => (b f i j h).trans (a f i j h)
theorem KP.put {S S' : St} {f i j : Nat} {v : Int} (a : KP S S') (h : spf f i) : KP S (sU S' f i j v) := fun f' i' j' h' => by
  have e : sU S' f i j v f' i' j' = S' f' i' j' := if_neg (fun q => h' (by rw [q.1, q.2.1]; exact h))
  exact e.trans (a f' i' j' h')
theorem KP.fld {S S' : St} (a : KP S S') {f : Nat} (h : f ∉ [10, 11, 12, 15, 16, 17, 18, 30, 31, 32, 33, 34, 35, 40, 41, 42]) : S' f = S f := by
  simp only [List.mem_cons, List.not_mem_nil, or_false] at h
  funext i j
  refine a f i j ?_
  unfold spf
  simp only [List.mem_cons, List.not_mem_nil, or_false]
  omega
theorem KP.real {S S' : St} (a : KP S S') {f : Nat} (h : f ∉ [30, 31, 32, 33, 34, 35, 40, 41, 42]) (e : Nat) : S' f (2 * e) = S f (2 * e) := by
  simp only [List.mem_cons, List.not_mem_nil, or_false] at h
  funext j
  refine a f (2 * e) j ?_
  unfold spf
  simp only [List.mem_cons, List.not_mem_nil, or_false]
  omega
theorem KP.trip {S S' : St} (a : KP S S') {f : Nat} (h : f ∉ [10, 11, 12, 15, 16, 17, 18, 40, 41, 42]) {c : Nat} (hc : c ≠ 3) : S' f c = S f c := by
  simp only [List.mem_cons, List.not_mem_nil, or_false] at h
  funext j
  refine a f c j ?_
  unfold spf
  simp only [List.mem_cons, List.not_mem_nil, or_false]
  omega
theorem KP_cpy (S : St) {t : Nat} (u : Nat) (ht : t % 2 = 1) : KP S (cpy S t u) := by
  simp only [cpy, cpyK]
  refine .put (.put (.put (.put (.put (.put (.put (.put (.put (.put (.put (.put .refl ?_) ?_) ?_) ?_) ?_) ?_) ?_) ?_) ?_) ?_) ?_) ?_ <;> exact Or.inl ⟨by decide, ht⟩
theorem KP_thrK (S : St) {t : Nat} (j : Nat) (ht : t % 2 = 1) : KP S (thrK S t j) := by
  simp only [thrK]
  refine .put (.put (.put .refl ?_) ?_) ?_ <;> exact Or.inl ⟨by decide, ht⟩
theorem KP_thr (S : St) {t : Nat} (ht : t % 2 = 1) : KP S (thr S t) := (KP_thrK S 0 ht).trans ((KP_thrK _ 1 ht).trans (KP_thrK _ 2 ht))
theorem KP_fillF (S : St) : ∀ k, KP S (fillF S 1 k)
  | 0 => .refl
  | k + 1 => (KP_fillF S k).trans (KP_thr _ (by omega))
theorem KP_loadS (S : St) {t : Nat} (j k : Nat) (ht : t % 2 = 1) : KP S (loadS S 3 t j k) := by
  simp only [loadS]
  refine .put (.put (.put (.put (.put (.put .refl ?_) ?_) ?_) ?_) ?_) ?_ <;> first | exact Or.inl ⟨by decide, ht⟩ | exact Or.inr (Or.inl ⟨by decide, rfl⟩)
theorem KP_emptyS (S : St) {t : Nat} (i : Nat) (ht : t % 2 = 1) : KP S (emptyS S 3 t i) := by
  have a : KP S (load2 S 3 t i) := (KP_loadS S _ 0 ht).trans (KP_loadS _ _ 1 ht)
  unfold emptyS
  simp only
  split
  · exact (a.put (Or.inr (Or.inl ⟨by decide, rfl⟩))).put (Or.inr (Or.inl ⟨by decide, rfl⟩))
  · exact a.put (Or.inr (Or.inl ⟨by decide, rfl⟩))
theorem KP_beginS (S : St) : KP S (beginS S 3) := by
  simp only [beginS]
  refine .put (.put (.put (.put (.put (.put (.put .refl ?_) ?_) ?_) ?_) ?_) ?_) ?_ <;> exact Or.inr (Or.inl ⟨by decide, rfl⟩)
theorem KP_drv (i d : Nat) : ∀ (m q : Nat) (S : St) (a k : Int), KP S (drv 1 3 i d m q S a k).1
  | 0, _, _, _, _ => .refl
  | m + 1, q, S, a, k => by
    simp only [drv]
    split
    · exact (KP_emptyS S i (by unfold rst; omega)).trans (KP_drv i d m (q + 1) _ _ _)
    · exact .refl
theorem KP_driveS (S : St) (i d : Nat) : KP S (driveS S 1 3 i d) := by
  unfold driveS drvE
  exact ((KP_beginS S).trans (KP_drv i d _ _ _ _ _)).put (Or.inr (Or.inl ⟨by decide, rfl⟩))
def cpN (S : St) : Nat → St
  | 0 => S
  | k + 1 => cpy (cpN S k) (2 * k + 1) (2 * k)
def spD (S : St) (d : Nat) : Nat → St
  | 0 => S
  | k + 1 => driveS (spD S d k) 1 3 k d
def spN (S : St) (ns nl dn : Nat) : Nat → St
  | 0 => cpN S ns
  | i + 1 => spD (fillF (spN S ns nl dn i) 1 ns) ((dn + (i + 1)) % 7) nl
theorem KP_cpN (S : St) : ∀ k, KP S (cpN S k)
  | 0 => .refl
  | k + 1 => (KP_cpN S k).trans (KP_cpy _ _ (by omega))
theorem KP_spD (S : St) (d : Nat) : ∀ k, KP S (spD S d k)
  | 0 => .refl
  | k + 1 => (KP_spD S d k).trans (KP_driveS _ k d)
theorem KP_spN (S : St) (ns nl dn : Nat) : ∀ n, KP S (spN S ns nl dn n)
  | 0 => KP_cpN S ns
  | n + 1 => ((KP_spN S ns nl dn n).trans (KP_fillF _ ns)).trans (KP_spD _ _ nl)
theorem cpy_ok {S : St} {t u t' : Nat} (h : okT S u) (htu : t ≠ u) (h' : okT S t') : okT (cpy S t u) t' := by
  unfold okT at h h' ⊢
  refine ⟨?_, ?_, fun j hj => ?_⟩
  · have : cpy S t u 10 t' 0 = if t' = t then S 10 u 0 else S 10 t' 0 := by simp [cpy, cpyK, sU]
    rw [this]
    split
    · exact h.1
    · exact h'.1
  · have : cpy S t u 11 t' 0 = if t' = t then S 11 u 0 else S 11 t' 0 := by simp [cpy, cpyK, sU]
    rw [this]
    split
    · exact h.2.1
    · exact h'.2.1
  · have e15 : cpy S t u 15 t' j = if t' = t then S 15 u j else S 15 t' j := by
      rcases (show j = 0 ∨ j = 1 ∨ j = 2 by omega) with rfl | rfl | rfl <;> simp [cpy, cpyK, sU, htu, Ne.symm htu]
    have e16 : cpy S t u 16 t' j = if t' = t then S 16 u j else S 16 t' j := by
      rcases (show j = 0 ∨ j = 1 ∨ j = 2 by omega) with rfl | rfl | rfl <;> simp [cpy, cpyK, sU, htu, Ne.symm htu]
    have e17 : cpy S t u 17 t' j = if t' = t then S 17 u j else S 17 t' j := by
      rcases (show j = 0 ∨ j = 1 ∨ j = 2 by omega) with rfl | rfl | rfl <;> simp [cpy, cpyK, sU, htu, Ne.symm htu]
    rw [e15, e16, e17]
    split
    · exact h.2.2 j hj
    · exact h'.2.2 j hj
theorem cpN_ok {S : St} (hT : ∀ t, t < 12 → okT S t) : ∀ k, k ≤ 6 → ∀ t, t < 12 → okT (cpN S k) t
  | 0, _ => hT
  | k + 1, hk => fun t ht => cpy_ok (cpN_ok hT k (by omega) (2 * k) (by omega)) (by omega) (cpN_ok hT k (by omega) t ht)
theorem spD_ok {S : St} {d : Nat} (hd : d < 7) (hT : ∀ t, t < 12 → okT S t) (hL : ∀ i, i < 3 → okL S i) : ∀ k, k ≤ 3 → ∀ t, t < 12 → okT (spD S d k) t
  | 0, _ => hT
  | k + 1, hk => by
    have kp := KP_spD S d k
    have hL' : okL (spD S d k) k := okL_of (hL k (by omega)) (kp.fld (by decide)) (kp.fld (by decide)) (kp.fld (by decide)) (kp.fld (by decide))
    obtain ⟨n, hn6, hn⟩ := hL'.2.2.1 d hd
    exact (driveS_all (w := 1) (c := 3) (by decide) hd (spD_ok hd hT hL k (by omega)) hL' hn hn6).2.1
theorem KP.kL {S S' : St} (a : KP S S') {i : Nat} (h : okL S i) : okL S' i := okL_of h (a.fld (by decide)) (a.fld (by decide)) (a.fld (by decide)) (a.fld (by decide))
theorem spN_ok {S : St} {ns nl dn : Nat} (hns : ns ≤ 6) (hnl : nl ≤ 3) (hT : ∀ t, t < 12 → okT S t) (hL : ∀ i, i < 3 → okL S i) : ∀ n, ∀ t, t < 12 → okT (spN S ns nl dn n) t
  | 0 => cpN_ok hT ns hns
  | n + 1 => spD_ok (by omega) (fillF_ok (by decide) (spN_ok hns hnl hT hL n) ns hns) (fun i hi => ((KP_spN S ns nl dn n).trans (KP_fillF _ ns)).kL (hL i hi)) nl hnl
theorem ct_wouldLie {Γ : Gm} {S : St} {ns nl dn n : Nat} (hs : S 0 0 0 = (ns : Int)) (hns : ns ≤ 6) (hl : S 1 0 0 = (nl : Int)) (hnl : nl ≤ 3) (hnow : S 2 0 0 = (dn : Int)) (hdn : dn ≤ 100000) (hT : ∀ t, t < 12 → okT S t) (hL : ∀ i, i < 3 → okL S i) (hn : 1 ≤ n ∧ n ≤ 30) :
    CT Γ y_Ward_wouldLie b_Ward_wouldLie 5 ((some FieldType.int)) (rmx 5 0 0) [rf Γ 0 0, nt n] S (dX (some (nt (litN (spN S ns nl dn n) 1 ns))) (spN S ns nl dn n)) := by
  refine CT.of (by first | exact plainFor_of_name (by rfl) | decide +kernel) (Nat.le_of_ble_eq_true rfl) ?_
  intro G hG
  show G (0, 0) 0 [(0, rf Γ 0 0), (1, nt n)] [] _
  refine r_iload_n hG (hl0 := rfl) (hd := d_Ward_wouldLie_0) (K := ?_)
  refine r_iconst hG (hd := d_Ward_wouldLie_1) (K := ?_)
  refine r_bipush hG (hd := d_Ward_wouldLie_2) (K := ?_)
  refine cSv hG w_Ward_82 d_Ward_wouldLie_4 (ct_ckV (by omega) (by omega)) rfl rfl ⟨(Nat.le_of_ble_eq_true rfl), (Nat.le_of_ble_eq_true rfl)⟩ ⟨(Nat.le_of_ble_eq_true rfl), (Nat.le_of_ble_eq_true rfl)⟩ (Nat.le_of_ble_eq_true rfl) ?_
  refine r_iconst hG (hd := d_Ward_wouldLie_7) (K := ?_)
  refine r_istore_n hG (hd := d_Ward_wouldLie_8) (K := ?_)
  have days : ∀ m k : Nat, k + m = n → G (0, 0) 40 [(0, rf Γ 0 0), (1, nt n), (2, nt ((k + 1 : Nat) : Int))] [] (spN S ns nl dn k) := by
    intro m
    induction m with
    | zero =>
      intro k hk
      have hkn : k = n := by omega
      subst hkn
      have kp := KP_spN S ns nl dn k
      refine r_iload_n hG (hl0 := rfl) (hd := d_Ward_wouldLie_40) (K := ?_)
      refine r_iload_n hG (hl0 := rfl) (hd := d_Ward_wouldLie_41) (K := ?_)
      refine r_icmp_gt hG (hd := d_Ward_wouldLie_42) (kt := fun _ => ?_) (kf := fun hh => absurd hh (by omega))
      refine r_aload_n hG (hl0 := rfl) (hd := d_Ward_wouldLie_108) (K := ?_)
      refine r_aload_n hG (hl0 := rfl) (hd := d_Ward_wouldLie_109) (K := ?_)
      refine g_Ward_15 hG (hd := d_Ward_wouldLie_110) (K := ?_)
      refine cVx hG w_Ward_275 d_Ward_wouldLie_113 (ct_litterIn (w := 1) (by decide) (by rw [kp.fld (by decide), hs]) hns) (by decide) (by decide) rc_0 rfl rfl ⟨(Nat.le_of_ble_eq_true rfl), (Nat.le_of_ble_eq_true rfl)⟩ ⟨(Nat.le_of_ble_eq_true rfl), (Nat.le_of_ble_eq_true rfl)⟩ (Nat.le_of_ble_eq_true rfl) ?_
      refine r_iret hG d_Ward_wouldLie_116 ⟨(Nat.le_of_ble_eq_true rfl), (Nat.le_of_ble_eq_true rfl)⟩ ?_
      exact ⟨rfl, rfl⟩
    | succ m ih =>
      intro k hk
      have kp := KP_spN S ns nl dn k
      have ok := spN_ok (dn := dn) hns hnl hT hL k
      have next := ih (k + 1) (by omega)
      simp only [spN] at next
      have h7 : (dn + (k + 1)) % 7 < 7 := by omega
      generalize hX : spN S ns nl dn k = X at kp ok next ⊢
      have x0 : X 0 0 0 = (ns : Int) := by rw [kp.fld (by decide), hs]
      have kq := kp.trans (KP_fillF X ns)
      have okF := fillF_ok (w := 1) (by decide) ok ns hns
      have y2 : fillF X 1 ns 2 0 0 = (dn : Int) := by rw [kq.fld (by decide), hnow]
      refine r_iload_n hG (hl0 := rfl) (hd := d_Ward_wouldLie_40) (K := ?_)
      refine r_iload_n hG (hl0 := rfl) (hd := d_Ward_wouldLie_41) (K := ?_)
      refine r_icmp_gt hG (hd := d_Ward_wouldLie_42) (kt := fun hh => absurd hh (by omega)) (kf := fun _ => ?_)
      refine r_aload_n hG (hl0 := rfl) (hd := d_Ward_wouldLie_45) (K := ?_)
      refine r_aload_n hG (hl0 := rfl) (hd := d_Ward_wouldLie_46) (K := ?_)
      refine g_Ward_15 hG (hd := d_Ward_wouldLie_47) (K := ?_)
      refine cVv hG w_Ward_306 d_Ward_wouldLie_50 (ct_fillBins (w := 1) (by decide) x0 hns ok) (by decide) (by decide) rc_0 rfl rfl ⟨(Nat.le_of_ble_eq_true rfl), (Nat.le_of_ble_eq_true rfl)⟩ ⟨(Nat.le_of_ble_eq_true rfl), (Nat.le_of_ble_eq_true rfl)⟩ (Nat.le_of_ble_eq_true rfl) ?_
      refine r_aload_n hG (hl0 := rfl) (hd := d_Ward_wouldLie_53) (K := ?_)
      refine g_Ward_187 hG (hd := d_Ward_wouldLie_54) (K := ?_)
      rw [y2]
      refine r_iload_n hG (hl0 := rfl) (hd := d_Ward_wouldLie_57) (K := ?_)
      first | refine r_iadd hG (hd := d_Ward_wouldLie_58) (K := ?_) | refine r_iaddr hG (hd := d_Ward_wouldLie_58) (K := ?_)
      refine r_bipush hG (hd := d_Ward_wouldLie_59) (K := ?_)
      refine cSx hG w_Ward_310 d_Ward_wouldLie_61 (ct_floorMod (by omega)) rfl rfl ⟨(Nat.le_of_ble_eq_true rfl), (Nat.le_of_ble_eq_true rfl)⟩ ⟨(Nat.le_of_ble_eq_true rfl), (Nat.le_of_ble_eq_true rfl)⟩ (Nat.le_of_ble_eq_true rfl) ?_
      rw [show ((dn : Int) + ((k + 1 : Nat) : Int)) % 7 = (((dn + (k + 1)) % 7 : Nat) : Int) by omega]
      generalize (dn + (k + 1)) % 7 = d at h7 next ⊢
      generalize hY : fillF X 1 ns = Y at next kq okF ⊢
      refine r_istore_n hG (hd := d_Ward_wouldLie_64) (K := ?_)
      refine r_iconst hG (hd := d_Ward_wouldLie_65) (K := ?_)
      refine r_istore hG (hd := d_Ward_wouldLie_66) (K := ?_)
      have inner : ∀ m' q : Nat, q + m' = nl → G (0, 0) 68 [(0, rf Γ 0 0), (1, nt n), (2, nt ((k + 1 : Nat) : Int)), (3, nt d), (4, nt q)] [] (spD Y d q) := by
        intro m'
        induction m' with
        | zero =>
          intro q hq
          have hqn : q = nl := by omega
          subst hqn
          have k1 := kq.trans (KP_spD Y d q)
          have z1 : spD Y d q 1 0 0 = (q : Int) := by rw [k1.fld (by decide), hl]
          refine r_iload hG (hl0 := rfl) (hd := d_Ward_wouldLie_68) (K := ?_)
          refine r_aload_n hG (hl0 := rfl) (hd := d_Ward_wouldLie_70) (K := ?_)
          refine g_Ward_115 hG (hd := d_Ward_wouldLie_71) (K := ?_)
          refine r_icmp_ge hG (hd := d_Ward_wouldLie_74) (kt := fun _ => ?_) (kf := fun hh => absurd hh (by omega))
          refine r_iinc hG (hl0 := rfl) (hd := d_Ward_wouldLie_102) (K := ?_)
          refine r_goto hG (hd := d_Ward_wouldLie_105) (K := ?_)
          exact r_sb hG (next) ⟨rfl, rfl, rfl, trivial⟩
        | succ m' ihq =>
          intro q hq
          have k1 := kq.trans (KP_spD Y d q)
          have z1 : spD Y d q 1 0 0 = (nl : Int) := by rw [k1.fld (by decide), hl]
          refine r_iload hG (hl0 := rfl) (hd := d_Ward_wouldLie_68) (K := ?_)
          refine r_aload_n hG (hl0 := rfl) (hd := d_Ward_wouldLie_70) (K := ?_)
          refine g_Ward_115 hG (hd := d_Ward_wouldLie_71) (K := ?_)
          refine r_icmp_ge hG (hd := d_Ward_wouldLie_74) (kt := fun hh => absurd hh (by omega)) (kf := fun _ => ?_)
          refine r_aload_n hG (hl0 := rfl) (hd := d_Ward_wouldLie_77) (K := ?_)
          refine g_Ward_27 hG (hd := d_Ward_wouldLie_78) (K := ?_)
          refine r_aload_n hG (hl0 := rfl) (hd := d_Ward_wouldLie_81) (K := ?_)
          refine g_Ward_20 hG (hd := d_Ward_wouldLie_82) (K := ?_)
          refine r_iload hG (hl0 := rfl) (hd := d_Ward_wouldLie_85) (K := ?_)
          first | refine a_1 hG (hd := d_Ward_wouldLie_87) (hz := rfl) (hj := by omega) (hi := by omega) (K := ?_) | refine a_2 hG (hd := d_Ward_wouldLie_87) (hz := rfl) (hj := by omega) (hi := by omega) (K := ?_) | refine a_10 hG (hd := d_Ward_wouldLie_87) (hz := rfl) (hj := by omega) (hi := by omega) (K := ?_) | refine r_aald22 hG (hd := d_Ward_wouldLie_87) (hz := rfl) (hj := by omega) (hi := by omega) (K := ?_)
          refine r_iload_n hG (hl0 := rfl) (hd := d_Ward_wouldLie_88) (K := ?_)
          refine r_aload_n hG (hl0 := rfl) (hd := d_Ward_wouldLie_89) (K := ?_)
          refine g_Ward_15 hG (hd := d_Ward_wouldLie_90) (K := ?_)
          refine cVv hG w_Ward_315 d_Ward_wouldLie_93 (ct_drive (w := 1) (c := 3) (by decide) (by decide) (show q < 3 by omega) h7 (spD_ok h7 okF (fun i hi => kq.kL (hL i hi)) q (by omega)) (k1.kL (hL q (by omega)))) (by decide) (by show _ < 4; omega) rc_3 rfl rfl ⟨(Nat.le_of_ble_eq_true rfl), (Nat.le_of_ble_eq_true rfl)⟩ ⟨(Nat.le_of_ble_eq_true rfl), (Nat.le_of_ble_eq_true rfl)⟩ (Nat.le_of_ble_eq_true rfl) ?_
          refine r_iinc hG (hl0 := rfl) (hd := d_Ward_wouldLie_96) (K := ?_)
          refine r_goto hG (hd := d_Ward_wouldLie_99) (K := ?_)
          exact r_sb hG (ihq (q + 1) (by omega)) ⟨rfl, rfl, rfl, rfl, rfl, trivial⟩
      exact r_sb hG (inner nl 0 (by omega)) ⟨rfl, rfl, rfl, rfl, rfl, trivial⟩
  have copies : ∀ m k : Nat, k + m = ns → G (0, 0) 9 [(0, rf Γ 0 0), (1, nt n), (2, nt k)] [] (cpN S k) := by
    intro m
    induction m with
    | zero =>
      intro k hk
      have hkn : k = ns := by omega
      subst hkn
      have z0 : cpN S k 0 0 0 = (k : Int) := by rw [(KP_cpN S k).fld (by decide), hs]
      refine r_iload_n hG (hl0 := rfl) (hd := d_Ward_wouldLie_9) (K := ?_)
      refine r_aload_n hG (hl0 := rfl) (hd := d_Ward_wouldLie_10) (K := ?_)
      refine g_Ward_86 hG (hd := d_Ward_wouldLie_11) (K := ?_)
      refine r_icmp_ge hG (hd := d_Ward_wouldLie_14) (kt := fun _ => ?_) (kf := fun hh => absurd hh (by omega))
      refine r_iconst hG (hd := d_Ward_wouldLie_38) (K := ?_)
      refine r_istore_n hG (hd := d_Ward_wouldLie_39) (K := ?_)
      exact r_sb hG (days n 0 (by omega)) ⟨rfl, rfl, rfl, trivial⟩
    | succ m ih =>
      intro k hk
      have z0 : cpN S k 0 0 0 = (ns : Int) := by rw [(KP_cpN S k).fld (by decide), hs]
      refine r_iload_n hG (hl0 := rfl) (hd := d_Ward_wouldLie_9) (K := ?_)
      refine r_aload_n hG (hl0 := rfl) (hd := d_Ward_wouldLie_10) (K := ?_)
      refine g_Ward_86 hG (hd := d_Ward_wouldLie_11) (K := ?_)
      refine r_icmp_ge hG (hd := d_Ward_wouldLie_14) (kt := fun hh => absurd hh (by omega)) (kf := fun _ => ?_)
      refine r_aload_n hG (hl0 := rfl) (hd := d_Ward_wouldLie_17) (K := ?_)
      refine g_Ward_15 hG (hd := d_Ward_wouldLie_18) (K := ?_)
      refine r_iload_n hG (hl0 := rfl) (hd := d_Ward_wouldLie_21) (K := ?_)
      first | refine a_1 hG (hd := d_Ward_wouldLie_22) (hz := rfl) (hj := by omega) (hi := by omega) (K := ?_) | refine a_2 hG (hd := d_Ward_wouldLie_22) (hz := rfl) (hj := by omega) (hi := by omega) (K := ?_) | refine a_10 hG (hd := d_Ward_wouldLie_22) (hz := rfl) (hj := by omega) (hi := by omega) (K := ?_) | refine r_aald22 hG (hd := d_Ward_wouldLie_22) (hz := rfl) (hj := by omega) (hi := by omega) (K := ?_)
      refine r_aload_n hG (hl0 := rfl) (hd := d_Ward_wouldLie_23) (K := ?_)
      refine g_Ward_11 hG (hd := d_Ward_wouldLie_24) (K := ?_)
      refine r_iload_n hG (hl0 := rfl) (hd := d_Ward_wouldLie_27) (K := ?_)
      first | refine a_1 hG (hd := d_Ward_wouldLie_28) (hz := rfl) (hj := by omega) (hi := by omega) (K := ?_) | refine a_2 hG (hd := d_Ward_wouldLie_28) (hz := rfl) (hj := by omega) (hi := by omega) (K := ?_) | refine a_10 hG (hd := d_Ward_wouldLie_28) (hz := rfl) (hj := by omega) (hi := by omega) (K := ?_) | refine r_aald22 hG (hd := d_Ward_wouldLie_28) (hz := rfl) (hj := by omega) (hi := by omega) (K := ?_)
      refine cVv hG w_Ward_302 d_Ward_wouldLie_29 (ct_copyBins (show 2 * k + 1 < 12 by omega) (show 2 * k + 0 < 12 by omega)) (by decide) (by show _ < 12; omega) rc_15 rfl rfl ⟨(Nat.le_of_ble_eq_true rfl), (Nat.le_of_ble_eq_true rfl)⟩ ⟨(Nat.le_of_ble_eq_true rfl), (Nat.le_of_ble_eq_true rfl)⟩ (Nat.le_of_ble_eq_true rfl) ?_
      refine r_iinc hG (hl0 := rfl) (hd := d_Ward_wouldLie_32) (K := ?_)
      refine r_goto hG (hd := d_Ward_wouldLie_35) (K := ?_)
      exact r_sb hG (ih (k + 1) (by omega)) ⟨rfl, rfl, rfl, trivial⟩
  exact r_sb hG (copies ns 0 (by omega)) ⟨rfl, rfl, rfl, trivial⟩
