/-! WHAT A DRIVE DOES: nothing is lost -/
def binK (S : St) (t : Nat) : Int := S 16 t 0 + S 17 t 0 + (S 16 t 1 + S 17 t 1) + (S 16 t 2 + S 17 t 2)
def bM (S : St) (w : Nat) : Nat → Int
  | 0 => 0
  | k + 1 => bM S w k + binK S (2 * k + w)
def chS (S : St) (c : Nat) : Int := S 34 c 0 + S 35 c 0 + (S 34 c 1 + S 35 c 1)
theorem binK_of {S S' : St} {t : Nat} (h16 : ∀ j, S' 16 t j = S 16 t j) (h17 : ∀ j, S' 17 t j = S 17 t j) : binK S' t = binK S t := by
  unfold binK
  rw [h16, h16, h16, h17, h17, h17]
theorem bM_upd {S S' : St} {w e : Nat} (h : ∀ q, q ≠ e → binK S' (2 * q + w) = binK S (2 * q + w)) : ∀ k, bM S' w k = bM S w k + (if e < k then binK S' (2 * e + w) - binK S (2 * e + w) else 0)
  | 0 => by simp [bM]
  | k + 1 => by
    simp only [bM]
    rw [bM_upd h k]
    rcases Nat.lt_trichotomy e k with g | g | g
    · rw [if_pos g, if_pos (by omega), h k (by omega)]
      omega
    · subst g
      rw [if_neg (by omega), if_pos (by omega)]
      omega
    · rw [if_neg (by omega), if_neg (by omega), h k (by omega)]
      omega
theorem bM_of {S S' : St} (h16 : S' 16 = S 16) (h17 : S' 17 = S 17) (w : Nat) : ∀ k, bM S' w k = bM S w k
  | 0 => rfl
  | k + 1 => by
    simp only [bM]
    rw [bM_of h16 h17 w k, binK_of (fun j => by rw [h16]) (fun j => by rw [h17])]
/-- S' is S behind some loading into c from the streets w -/
def LD (S S' : St) (w c : Nat) : Prop :=
  (∀ t j, t < 12 → j < 3 → 0 ≤ S' 16 t j ∧ S' 16 t j ≤ S 16 t j ∧ 0 ≤ S' 17 t j ∧ S' 17 t j ≤ S 17 t j) ∧ bM S' w 6 + S' 33 c 0 = bM S w 6 + S 33 c 0 ∧ chS S' c - S' 33 c 0 = chS S c - S 33 c 0 ∧
  (∀ c', c' ≠ c → ∀ k, S' 34 c' k = S 34 c' k ∧ S' 35 c' k = S 35 c' k ∧ S' 33 c' k = S 33 c' k) ∧ S 33 c 0 ≤ S' 33 c 0
theorem LD.refl {S : St} {w c : Nat} (hT : ∀ t, t < 12 → okT S t) : LD S S w c :=
  ⟨fun t j ht hj => by have := (hT t ht).2.2 j hj; omega, rfl, rfl, fun _ _ _ => ⟨rfl, rfl, rfl⟩, Int.le_refl _⟩
theorem LD.trans {S S1 S2 : St} {w c : Nat} (a : LD S S1 w c) (b : LD S1 S2 w c) : LD S S2 w c := by
  obtain ⟨a1, a2, a3, a4, a5⟩ := a
  obtain ⟨b1, b2, b3, b4, b5⟩ := b
  refine ⟨fun t j ht hj => ?_, by omega, by omega, fun c' hc k => ?_, by omega⟩
  · have := a1 t j ht hj
    have := b1 t j ht hj
    omega
  · obtain ⟨x1, x2, x3⟩ := a4 c' hc k
    obtain ⟨y1, y2, y3⟩ := b4 c' hc k
    exact ⟨y1.trans x1, y2.trans x2, y3.trans x3⟩
theorem LD.of {S S1 S2 : St} {w c : Nat} (a : LD S S1 w c) (h : ∀ {f : Nat}, f ≠ 31 ∧ f ≠ 32 ∧ f ≠ 30 → S2 f = S1 f) : LD S S2 w c := by
  obtain ⟨a1, a2, a3, a4, a5⟩ := a
  refine ⟨fun t j ht hj => ?_, ?_, ?_, fun c' hc k => ?_, ?_⟩
  · rw [h (by decide), h (by decide)]
    exact a1 t j ht hj
  · rw [bM_of (h (by decide)) (h (by decide)), h (by decide)]
    exact a2
  · unfold chS at *
    rw [h (by decide), h (by decide), h (by decide)]
    exact a3
  · rw [h (by decide), h (by decide), h (by decide)]
    exact a4 c' hc k
  · rw [h (by decide)]
    exact a5
theorem load_LD {S : St} {w c e j k : Nat} (hw : w < 2) (he : e < 6) (hj : j < 3) (hk : k < 2) (hT : ∀ t, t < 12 → okT S t) (hC : okC S c k) : LD S (loadS S c (2 * e + w) j k) w c := by
  have hl := load_in hj (hT (2 * e + w) (by omega)) hC
  have hb := (hT (2 * e + w) (by omega)).2.2 j hj
  refine ⟨fun t j' ht hj' => ?_, ?_, ?_, fun c' hc k' => ?_, ?_⟩
  · have hb' := (hT t ht).2.2 j' hj'
    rw [loadS_16, loadS_17]
    split
    · next q => obtain ⟨rfl, rfl⟩ := q; omega
    · omega
  · rw [bM_upd (S := S) (S' := loadS S c (2 * e + w) j k) (w := w) (e := e) (fun q hq => binK_of (fun j' => by rw [loadS_16, if_neg (by omega)]) (fun j' => by rw [loadS_17, if_neg (by omega)])), if_pos he, loadS_33, if_pos rfl]
    have hx : binK (loadS S c (2 * e + w) j k) (2 * e + w) = binK S (2 * e + w) - (pureL S c (2 * e + w) j k + foulL S c (2 * e + w) j k) := by
      unfold binK
      rw [loadS_16, loadS_16, loadS_16, loadS_17, loadS_17, loadS_17]
      rcases (show j = 0 ∨ j = 1 ∨ j = 2 by omega) with rfl | rfl | rfl <;> simp <;> omega
    omega
  · unfold chS
    rw [loadS_34, loadS_34, loadS_35, loadS_35, loadS_33, if_pos rfl]
    rcases (show k = 0 ∨ k = 1 by omega) with rfl | rfl <;> simp <;> omega
  · rw [loadS_34, loadS_35, if_neg (fun q => hc q.1), if_neg (fun q => hc q.1)]
    refine ⟨rfl, rfl, ?_⟩
    simp only [loadS]
    rw [sU_ni hc, sU_f (by decide), sU_f (by decide), sU_f (by decide), sU_f (by decide), sU_f (by decide)]
  · rw [loadS_33, if_pos rfl]
    omega
theorem empty_LD {S : St} {w c e i : Nat} (hw : w < 2) (he : e < 6) (hT : ∀ t, t < 12 → okT S t) (hL : okL S i) (hC : okC S c 0 ∧ okC S c 1) : LD S (emptyS S c (2 * e + w) i) w c := by
  have h0 := (okL_str hL (show 0 < 2 by decide)).1
  have h1 := (okL_str hL (show 1 < 2 by decide)).1
  have ht := hT (2 * e + w) (by omega)
  have a := load_LD hw he h0 (show 0 < 2 by decide) hT hC.1
  have b := load_LD hw he h1 (show 1 < 2 by decide) (fun t ht' => load_okT h0 ht hC.1 (hT t ht')) (load_okC h0 ht hC.1 hC.2)
  exact (a.trans b).of (fun h => emptyS_load S c _ i ⟨h.1, h.2.1⟩)
theorem emptyS_31 (S : St) (c t i : Nat) : emptyS S c t i 31 c 0 = S 31 c 0 + 1 := by
  simp only [emptyS]
  split
  · rw [sU_f (by decide), sU_eq, load2_of S c t i (by decide)]
  · rw [sU_eq, load2_of S c t i (by decide)]
theorem drv_of (w c i d : Nat) {f : Nat} (h : f ≠ 16 ∧ f ≠ 17 ∧ f ≠ 18 ∧ f ≠ 34 ∧ f ≠ 35 ∧ f ≠ 33) (h2 : f ≠ 31 ∧ f ≠ 32) : ∀ (m q : Nat) (S : St) (a k : Int), (drv w c i d m q S a k).1 f = S f
  | 0, _, _, _, _ => rfl
  | m + 1, q, S, a, k => by
    simp only [drv]
    split
    · rw [drv_of w c i d h h2 m (q + 1), emptyS_of S c _ i h h2]
    · rfl
theorem rst_in {S : St} {w i d q : Nat} (hw : w < 2) (hd : d < 7) (hq : q < 6) (hL : okL S i) : ∃ e, e < 6 ∧ rst S w i d q = 2 * e + w := by
  obtain ⟨e, he, hee⟩ := hL.2.2.2 d hd q hq
  exact ⟨e, he, by unfold rst; rw [hee, Int.toNat_natCast]⟩
theorem drv_LD {w c i d : Nat} (hw : w < 2) (hd : d < 7) : ∀ (m q : Nat) (S : St) (a k : Int), q + m ≤ 6 → (∀ t, t < 12 → okT S t) → okL S i → okC S c 0 ∧ okC S c 1 →
    LD S (drv w c i d m q S a k).1 w c ∧ (∀ t, t < 12 → okT (drv w c i d m q S a k).1 t) ∧ (okC (drv w c i d m q S a k).1 c 0 ∧ okC (drv w c i d m q S a k).1 c 1) ∧ ∃ x : Nat, x ≤ m ∧ (drv w c i d m q S a k).1 31 c 0 = S 31 c 0 + x
  | 0, q, S, a, k, _, hT, hL, hC => ⟨LD.refl hT, hT, hC, 0, Nat.le_refl _, by simp [drv]⟩
  | m + 1, q, S, a, k, hq, hT, hL, hC => by
    obtain ⟨e, he, hr⟩ := rst_in hw hd (show q < 6 by omega) hL
    simp only [drv]
    rw [hr]
    split
    · have ht := hT (2 * e + w) (by omega)
      obtain ⟨h1, h2, h3, x, h4, h5⟩ := drv_LD hw hd m (q + 1) (emptyS S c (2 * e + w) i) (S 10 (2 * e + w) 0) (k + iabs (S 10 (2 * e + w) 0 - a) + 2) (by omega) (fun t ht' => emptyS_okT ht hL hC (hT t ht')) (emptyS_okL hL) (emptyS_okC ht hL hC)
      refine ⟨(empty_LD hw he hT hL hC).trans h1, h2, h3, x + 1, by omega, ?_⟩
      rw [h5, emptyS_31]
      omega
    · exact ⟨LD.refl hT, hT, hC, 0, by omega, by simp⟩
theorem driveS_of (S : St) (w c i d : Nat) {f : Nat} (h : f ≠ 16 ∧ f ≠ 17 ∧ f ≠ 18 ∧ f ≠ 34 ∧ f ≠ 35 ∧ f ≠ 33) (h2 : f ≠ 31 ∧ f ≠ 32) (h3 : f ≠ 30) : driveS S w c i d f = S f := by
  unfold driveS drvE
  rw [sU_f h3, drv_of w c i d h h2, beginS_of S c ⟨h.2.2.2.1, h.2.2.2.2.1, h2.1, h2.2, h.2.2.2.2.2⟩]
theorem driveS_all {S : St} {w c i d n : Nat} (hw : w < 2) (hd : d < 7) (hT : ∀ t, t < 12 → okT S t) (hL : okL S i) (hn : S 26 i d = (n : Int)) (hn6 : n ≤ 6) :
    LD (beginS S c) (driveS S w c i d) w c ∧ (∀ t, t < 12 → okT (driveS S w c i d) t) ∧ (okC (driveS S w c i d) c 0 ∧ okC (driveS S w c i d) c 1) ∧ ∃ x : Nat, x ≤ n ∧ driveS S w c i d 31 c 0 = (x : Int) := by
  have hb : ∀ {f : Nat}, f ≠ 34 ∧ f ≠ 35 ∧ f ≠ 31 ∧ f ≠ 32 ∧ f ≠ 33 → beginS S c f = S f := fun h => beginS_of S c h
  have hT0 : ∀ t, t < 12 → okT (beginS S c) t := fun t ht => okT_of (hT t ht) (hb (by decide)) (hb (by decide)) (hb (by decide)) (hb (by decide)) (hb (by decide))
  have hL0 : okL (beginS S c) i := okL_of hL (hb (by decide)) (hb (by decide)) (hb (by decide)) (hb (by decide))
  have hC0 : okC (beginS S c) c 0 ∧ okC (beginS S c) c 1 := by simp [okC, beginS, sU]
  have hl : (S 26 i d).toNat = n := by rw [hn, Int.toNat_natCast]
  obtain ⟨h1, h2, h3, x, h4, h5⟩ := drv_LD hw hd n 0 (beginS S c) 0 0 (by omega) hT0 hL0 hC0
  have e : ∀ {f : Nat}, f ≠ 31 ∧ f ≠ 32 ∧ f ≠ 30 → driveS S w c i d f = (drv w c i d n 0 (beginS S c) 0 0).1 f := fun h => by
    unfold driveS drvE
    rw [hl, sU_f h.2.2]
  have e31 : driveS S w c i d 31 = (drv w c i d n 0 (beginS S c) 0 0).1 31 := by
    unfold driveS drvE
    rw [hl, sU_f (by decide)]
  refine ⟨h1.of e, fun t ht => okT_of (h2 t ht) (e (by decide)) (e (by decide)) (e (by decide)) (e (by decide)) (e (by decide)), ⟨okC_of h3.1 (e (by decide)) (e (by decide)), okC_of h3.2 (e (by decide)) (e (by decide))⟩, x, h4, ?_⟩
  rw [e31, h5]
  simp [beginS, sU]
/-- one lorry's round, with what is noted of it -/
def dvK (S : St) (i d : Nat) : St := msN i d ((S 26 i d).toNat - (noteS (driveS S 0 i i d) i d 31 i 0).toNat) (noteS (driveS S 0 i i d) i d 31 i 0).toNat (noteS (driveS S 0 i i d) i d)
def dvN (S : St) (d : Nat) : Nat → St × Int
  | 0 => (S, 0)
  | k + 1 => (dvK (dvN S d k).1 k d, (dvN S d k).2 + dvK (dvN S d k).1 k d 33 k 0)
theorem noteS_of (S : St) (i d : Nat) {f : Nat} (h : f ≠ 24 ∧ f ≠ 21 ∧ f ≠ 22 ∧ f ≠ 23) : noteS S i d f = S f := by
  simp only [noteS]
  split
  · rw [sU_f h.2.2.2, sU_f h.2.2.1, sU_f h.2.1, sU_f h.1]
  · rw [sU_f h.1]
theorem dvK_of (S : St) (i d : Nat) {f : Nat} (h : f ≠ 16 ∧ f ≠ 17 ∧ f ≠ 18 ∧ f ≠ 34 ∧ f ≠ 35 ∧ f ≠ 33) (h2 : f ≠ 31 ∧ f ≠ 32) (h3 : f ≠ 30) (h4 : f ≠ 24 ∧ f ≠ 21 ∧ f ≠ 22 ∧ f ≠ 23) (h5 : f ≠ 80 ∧ f ≠ 14) : dvK S i d f = S f := by
  unfold dvK
  rw [msN_of i d h5, noteS_of _ i d h4, driveS_of S 0 i i d h h2 h3]
theorem dvK_drive (S : St) (i d : Nat) {f : Nat} (h4 : f ≠ 24 ∧ f ≠ 21 ∧ f ≠ 22 ∧ f ≠ 23) (h5 : f ≠ 80 ∧ f ≠ 14) : dvK S i d f = driveS S 0 i i d f := by
  unfold dvK
  rw [msN_of i d h5, noteS_of _ i d h4]
theorem ct_driveRounds {Γ : Gm} {S : St} {nl dn : Nat} (hl : S 1 0 0 = (nl : Int)) (hl3 : nl ≤ 3) (hnow : S 2 0 0 = (dn : Int)) (hdn : dn < 100000) (hT : ∀ t, t < 12 → okT S t) (hL : ∀ i, i < 3 → okL S i) (hM : okM S) :
    CT Γ y_Ward_driveRounds b_Ward_driveRounds 5 ((some FieldType.int)) (rmx 5 0 0) [rf Γ 0 0] S (dX (some (nt (dvN S (dn % 7) nl).2)) (dvN S (dn % 7) nl).1) := by
  have hd7 : dn % 7 < 7 := Nat.mod_lt _ (by decide)
  refine CT.of (by first | exact plainFor_of_name (by rfl) | decide +kernel) (Nat.le_of_ble_eq_true rfl) ?_
  intro G hG
  show G (0, 0) 0 [(0, rf Γ 0 0)] [] _
  refine r_aload_n hG (hl0 := rfl) (hd := d_Ward_driveRounds_0) (K := ?_)
  refine g_Ward_187 hG (hd := d_Ward_driveRounds_1) (K := ?_)
  refine r_bipush hG (hd := d_Ward_driveRounds_4) (K := ?_)
  rw [hnow]
  refine cSx hG w_Ward_310 d_Ward_driveRounds_6 (ct_floorMod (by omega)) rfl rfl ⟨(Nat.le_of_ble_eq_true rfl), (Nat.le_of_ble_eq_true rfl)⟩ ⟨(Nat.le_of_ble_eq_true rfl), (Nat.le_of_ble_eq_true rfl)⟩ (Nat.le_of_ble_eq_true rfl) ?_
  rw [show (dn : Int) % 7 = ((dn % 7 : Nat) : Int) by omega]
  generalize dn % 7 = d at hd7 hG ⊢
  refine r_istore_n hG (hd := d_Ward_driveRounds_9) (K := ?_)
  refine r_iconst hG (hd := d_Ward_driveRounds_10) (K := ?_)
  refine r_istore_n hG (hd := d_Ward_driveRounds_11) (K := ?_)
  refine r_iconst hG (hd := d_Ward_driveRounds_12) (K := ?_)
  refine r_istore_n hG (hd := d_Ward_driveRounds_13) (K := ?_)
  have loop : ∀ m k : Nat, k + m = nl → (∀ t, t < 12 → okT (dvN S d k).1 t) → (∀ i, i < 3 → okL (dvN S d k).1 i) → okM (dvN S d k).1 → (dvN S d k).1 1 = S 1 → (dvN S d k).1 2 = S 2 →
      G (0, 0) 14 [(0, rf Γ 0 0), (1, nt d), (2, nt (dvN S d k).2), (3, nt k)] [] (dvN S d k).1 := by
    intro m
    induction m with
    | zero =>
      intro k hk h1 h2 h3 h4 h5
      have hkl : k = nl := by omega
      subst hkl
      have hl1 : (dvN S d k).1 1 0 0 = (k : Int) := by rw [h4, hl]
      refine r_iload_n hG (hl0 := rfl) (hd := d_Ward_driveRounds_14) (K := ?_)
      refine r_aload_n hG (hl0 := rfl) (hd := d_Ward_driveRounds_15) (K := ?_)
      refine g_Ward_115 hG (hd := d_Ward_driveRounds_16) (K := ?_)
      refine r_icmp_ge hG (hd := d_Ward_driveRounds_19) (kt := fun _ => ?_) (kf := fun hh => absurd hh (by omega))
      refine r_iload_n hG (hl0 := rfl) (hd := d_Ward_driveRounds_75) (K := ?_)
      refine r_iret hG d_Ward_driveRounds_76 ⟨(Nat.le_of_ble_eq_true rfl), (Nat.le_of_ble_eq_true rfl)⟩ ?_
      exact ⟨rfl, rfl⟩
    | succ m ih =>
      intro k hk h1 h2 h3 h4 h5
      have ih := ih (k + 1) (by omega)
      simp only [dvN] at ih
      have hl1 : (dvN S d k).1 1 0 0 = (nl : Int) := by rw [h4, hl]
      have hn1 : (dvN S d k).1 2 0 0 = (dn : Int) := by rw [h5, hnow]
      generalize hD : (dvN S d k).1 = D at h1 h2 h3 h4 h5 ih hl1 hn1 ⊢
      generalize (dvN S d k).2 = z at ih ⊢
      have hk3 : k < 3 := by omega
      obtain ⟨n, hn6, hn⟩ := (h2 k hk3).2.2.1 d hd7
      obtain ⟨-, a2, a3, x, a4, a5⟩ := driveS_all (w := 0) (c := k) (by decide) hd7 h1 (h2 k hk3) hn hn6
      have b26 : driveS D 0 k k d 26 = D 26 := driveS_of D 0 k k d (by decide) (by decide) (by decide)
      have c26 : noteS (driveS D 0 k k d) k d 26 k d = (n : Int) := by rw [noteS_of _ k d (by decide), b26, hn]
      have c31 : noteS (driveS D 0 k k d) k d 31 k 0 = (x : Int) := by rw [noteS_of _ k d (by decide), a5]
      have c2 : noteS (driveS D 0 k k d) k d 2 0 0 = (dn : Int) := by rw [noteS_of _ k d (by decide), driveS_of D 0 k k d (by decide) (by decide) (by decide), hn1]
      have okLn : okL (noteS (driveS D 0 k k d) k d) k := okL_of (h2 k hk3) (by rw [noteS_of _ k d (by decide), driveS_of D 0 k k d (by decide) (by decide) (by decide)]) (by rw [noteS_of _ k d (by decide), driveS_of D 0 k k d (by decide) (by decide) (by decide)]) (by rw [noteS_of _ k d (by decide), driveS_of D 0 k k d (by decide) (by decide) (by decide)]) (by rw [noteS_of _ k d (by decide), driveS_of D 0 k k d (by decide) (by decide) (by decide)])
      have okMn : okM (noteS (driveS D 0 k k d) k d) := by
        obtain ⟨N, m1, m2, m3, m4⟩ := h3
        exact ⟨N, m1, m2, by rw [noteS_of _ k d (by decide), driveS_of D 0 k k d (by decide) (by decide) (by decide), m3], fun j hj => by rw [noteS_of _ k d (by decide), driveS_of D 0 k k d (by decide) (by decide) (by decide)]; exact m4 j hj⟩
      have eK : msN k d (n - x) x (noteS (driveS D 0 k k d) k d) = dvK D k d := by
        unfold dvK
        rw [hn, c31, Int.toNat_natCast, Int.toNat_natCast]
      have e : ∀ {f : Nat}, (f ≠ 24 ∧ f ≠ 21 ∧ f ≠ 22 ∧ f ≠ 23) → (f ≠ 80 ∧ f ≠ 14) → dvK D k d f = driveS D 0 k k d f := fun h h' => dvK_drive D k d h h'
      have e2 : ∀ {f : Nat}, (f ≠ 16 ∧ f ≠ 17 ∧ f ≠ 18 ∧ f ≠ 34 ∧ f ≠ 35 ∧ f ≠ 33) → (f ≠ 31 ∧ f ≠ 32) → f ≠ 30 → (f ≠ 24 ∧ f ≠ 21 ∧ f ≠ 22 ∧ f ≠ 23) → (f ≠ 80 ∧ f ≠ 14) → dvK D k d f = D f := fun h h' h'' h4 h5 => dvK_of D k d h h' h'' h4 h5
      have next := ih (fun t ht => okT_of (a2 t ht) (e (by decide) (by decide)) (e (by decide) (by decide)) (e (by decide) (by decide)) (e (by decide) (by decide)) (e (by decide) (by decide))) (fun i hi => okL_of (h2 i hi) (e2 (by decide) (by decide) (by decide) (by decide) (by decide)) (e2 (by decide) (by decide) (by decide) (by decide) (by decide)) (e2 (by decide) (by decide) (by decide) (by decide) (by decide)) (e2 (by decide) (by decide) (by decide) (by decide) (by decide))) (by rw [← eK]; exact msN_okM k d _ _ _ okMn) (by rw [e2 (by decide) (by decide) (by decide) (by decide) (by decide), h4]) (by rw [e2 (by decide) (by decide) (by decide) (by decide) (by decide), h5])
      refine r_iload_n hG (hl0 := rfl) (hd := d_Ward_driveRounds_14) (K := ?_)
      refine r_aload_n hG (hl0 := rfl) (hd := d_Ward_driveRounds_15) (K := ?_)
      refine g_Ward_115 hG (hd := d_Ward_driveRounds_16) (K := ?_)
      refine r_icmp_ge hG (hd := d_Ward_driveRounds_19) (kt := fun hh => absurd hh (by omega)) (kf := fun _ => ?_)
      refine r_aload_n hG (hl0 := rfl) (hd := d_Ward_driveRounds_22) (K := ?_)
      refine g_Ward_20 hG (hd := d_Ward_driveRounds_23) (K := ?_)
      refine r_iload_n hG (hl0 := rfl) (hd := d_Ward_driveRounds_26) (K := ?_)
      first | refine a_1 hG (hd := d_Ward_driveRounds_27) (hz := rfl) (hj := by omega) (hi := by omega) (K := ?_) | refine a_2 hG (hd := d_Ward_driveRounds_27) (hz := rfl) (hj := by omega) (hi := by omega) (K := ?_) | refine a_10 hG (hd := d_Ward_driveRounds_27) (hz := rfl) (hj := by omega) (hi := by omega) (K := ?_) | refine r_aald22 hG (hd := d_Ward_driveRounds_27) (hz := rfl) (hj := by omega) (hi := by omega) (K := ?_)
      refine r_astore hG (hd := d_Ward_driveRounds_28) (K := ?_)
      refine r_aload hG (hl0 := rfl) (hd := d_Ward_driveRounds_30) (K := ?_)
      refine g_Ward_370 hG (hi := by omega) (hd := d_Ward_driveRounds_32) (K := ?_)
      refine r_aload hG (hl0 := rfl) (hd := d_Ward_driveRounds_35) (K := ?_)
      refine r_iload_n hG (hl0 := rfl) (hd := d_Ward_driveRounds_37) (K := ?_)
      refine r_aload_n hG (hl0 := rfl) (hd := d_Ward_driveRounds_38) (K := ?_)
      refine g_Ward_11 hG (hd := d_Ward_driveRounds_39) (K := ?_)
      refine cVv hG w_Ward_315 d_Ward_driveRounds_42 (ct_drive (by decide) (show k < 4 by omega) hk3 hd7 h1 (h2 k hk3)) (by decide) (by show _ < 4; omega) rc_3 rfl rfl ⟨(Nat.le_of_ble_eq_true rfl), (Nat.le_of_ble_eq_true rfl)⟩ ⟨(Nat.le_of_ble_eq_true rfl), (Nat.le_of_ble_eq_true rfl)⟩ (Nat.le_of_ble_eq_true rfl) ?_
      refine r_aload hG (hl0 := rfl) (hd := d_Ward_driveRounds_45) (K := ?_)
      refine r_iload_n hG (hl0 := rfl) (hd := d_Ward_driveRounds_47) (K := ?_)
      refine cVv hG w_Ward_373 d_Ward_driveRounds_48 (ct_noteTrip hk3 hd7 hn6 (by rw [b26]; exact hn)) (by decide) (by show _ < 3; omega) rc_20 rfl rfl ⟨(Nat.le_of_ble_eq_true rfl), (Nat.le_of_ble_eq_true rfl)⟩ ⟨(Nat.le_of_ble_eq_true rfl), (Nat.le_of_ble_eq_true rfl)⟩ (Nat.le_of_ble_eq_true rfl) ?_
      refine r_aload_n hG (hl0 := rfl) (hd := d_Ward_driveRounds_51) (K := ?_)
      refine r_aload hG (hl0 := rfl) (hd := d_Ward_driveRounds_52) (K := ?_)
      refine r_iload_n hG (hl0 := rfl) (hd := d_Ward_driveRounds_54) (K := ?_)
      refine cVv hG w_Ward_376 d_Ward_driveRounds_55 (ct_noteMissed hk3 hd7 okLn c26 hn6 c31 a4 c2 hdn okMn) (by decide) (by decide) rc_0 rfl rfl ⟨(Nat.le_of_ble_eq_true rfl), (Nat.le_of_ble_eq_true rfl)⟩ ⟨(Nat.le_of_ble_eq_true rfl), (Nat.le_of_ble_eq_true rfl)⟩ (Nat.le_of_ble_eq_true rfl) ?_
      rw [eK]
      refine r_iload_n hG (hl0 := rfl) (hd := d_Ward_driveRounds_58) (K := ?_)
      refine r_aload hG (hl0 := rfl) (hd := d_Ward_driveRounds_59) (K := ?_)
      refine g_Ward_370 hG (hi := by omega) (hd := d_Ward_driveRounds_61) (K := ?_)
      refine g_Ward_380 hG (hi := by omega) (hd := d_Ward_driveRounds_64) (K := ?_)
      first | refine r_iadd hG (hd := d_Ward_driveRounds_67) (K := ?_) | refine r_iaddr hG (hd := d_Ward_driveRounds_67) (K := ?_)
      refine r_istore_n hG (hd := d_Ward_driveRounds_68) (K := ?_)
      refine r_iinc hG (hl0 := rfl) (hd := d_Ward_driveRounds_69) (K := ?_)
      refine r_goto hG (hd := d_Ward_driveRounds_72) (K := ?_)
      exact r_sb hG (next) ⟨rfl, rfl, rfl, rfl, trivial⟩
  exact r_sb hG (loop nl 0 (by omega) hT hL hM rfl rfl) ⟨rfl, rfl, rfl, rfl, trivial⟩
