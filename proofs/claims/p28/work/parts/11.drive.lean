/-! THE DRIVE -/
theorem sU_f {S : St} {f i j : Nat} {v : Int} {f' : Nat} (h : f' ≠ f) : sU S f i j v f' = S f' := by
  funext a b
  exact sU_nf h
theorem beginS_of (S : St) (c : Nat) {f : Nat} (h : f ≠ 34 ∧ f ≠ 35 ∧ f ≠ 31 ∧ f ≠ 32 ∧ f ≠ 33) : beginS S c f = S f := by
  unfold beginS
  rw [sU_f h.2.2.2.2, sU_f h.2.2.2.1, sU_f h.2.2.1, sU_f h.2.1, sU_f h.1, sU_f h.2.1, sU_f h.1]
theorem okT_of {S S' : St} {t : Nat} (h : okT S t) (h10 : S' 10 = S 10) (h11 : S' 11 = S 11) (h15 : S' 15 = S 15) (h16 : S' 16 = S 16) (h17 : S' 17 = S 17) : okT S' t := by
  unfold okT at *
  rw [h10, h11, h15, h16, h17]
  exact h
theorem okC_of {S S' : St} {c k : Nat} (h : okC S c k) (h34 : S' 34 = S 34) (h35 : S' 35 = S 35) : okC S' c k := by
  unfold okC at *
  rw [h34, h35]
  exact h
theorem emptyS_of (S : St) (c t i : Nat) {f : Nat} (h : f ≠ 16 ∧ f ≠ 17 ∧ f ≠ 18 ∧ f ≠ 34 ∧ f ≠ 35 ∧ f ≠ 33) (h2 : f ≠ 31 ∧ f ≠ 32) : emptyS S c t i f = S f := by
  simp only [emptyS]
  split
  · rw [sU_f h2.2, sU_f h2.1, load2_of S c t i h]
  · rw [sU_f h2.1, load2_of S c t i h]
theorem emptyS_load (S : St) (c t i : Nat) {f : Nat} (h2 : f ≠ 31 ∧ f ≠ 32) : emptyS S c t i f = load2 S c t i f := by
  simp only [emptyS]
  split
  · rw [sU_f h2.2, sU_f h2.1]
  · rw [sU_f h2.1]
theorem emptyS_okT {S : St} {c t i t' : Nat} (hT : okT S t) (hL : okL S i) (hC : okC S c 0 ∧ okC S c 1) (h' : okT S t') : okT (emptyS S c t i) t' := by
  have e : ∀ {f : Nat}, f ≠ 31 ∧ f ≠ 32 → emptyS S c t i f = load2 S c t i f := fun h => emptyS_load S c t i h
  exact okT_of (load2_ok hT hL hC h') (e (by decide)) (e (by decide)) (e (by decide)) (e (by decide)) (e (by decide))
theorem emptyS_okC {S : St} {c t i : Nat} (hT : okT S t) (hL : okL S i) (hC : okC S c 0 ∧ okC S c 1) : okC (emptyS S c t i) c 0 ∧ okC (emptyS S c t i) c 1 := by
  have e : ∀ {f : Nat}, f ≠ 31 ∧ f ≠ 32 → emptyS S c t i f = load2 S c t i f := fun h => emptyS_load S c t i h
  have h := load2_okC hT hL hC
  exact ⟨okC_of h.1 (e (by decide)) (e (by decide)), okC_of h.2 (e (by decide)) (e (by decide))⟩
theorem emptyS_okL {S : St} {c t i i' : Nat} (h : okL S i') : okL (emptyS S c t i) i' := okL_of h (emptyS_of S c t i (by decide) (by decide)) (emptyS_of S c t i (by decide) (by decide)) (emptyS_of S c t i (by decide) (by decide)) (emptyS_of S c t i (by decide) (by decide))
def iabs (a : Int) : Int := if 0 ≤ a then a else -a
/-- the street at a place of a round, among the streets w -/
def rst (S : St) (w i d q : Nat) : Nat := 2 * (S 27 (7 * i + d) q).toNat + w
/-- the walk of a round: the state, where the lorry is, its clock -/
def drv (w c i d : Nat) : Nat → Nat → St → Int → Int → St × Int × Int
  | 0, _, S, at', ck => (S, at', ck)
  | m + 1, q, S, at', ck =>
    if ck + iabs (S 10 (rst S w i d q) 0 - at') + 2 + S 10 (rst S w i d q) 0 ≤ S 20 i 0 then
      drv w c i d m (q + 1) (emptyS S c (rst S w i d q) i) (S 10 (rst S w i d q) 0) (ck + iabs (S 10 (rst S w i d q) 0 - at') + 2)
    else (S, at', ck)
def drvE (S : St) (w c i d : Nat) : St × Int × Int := drv w c i d (S 26 i d).toNat 0 (beginS S c) 0 0
def driveS (S : St) (w c i d : Nat) : St := sU (drvE S w c i d).1 30 c 0 ((drvE S w c i d).2.2 + (drvE S w c i d).2.1)
theorem ct_drive {Γ : Gm} {S : St} {w c i d : Nat} (hw : w < 2) (hc : c < 4) (hi : i < 3) (hd : d < 7) (hT : ∀ t, t < 12 → okT S t) (hL : okL S i) : CT Γ y_Trip_drive b_Trip_drive 9 ((none : Option FieldType)) (rmx 4 0 0) [rf Γ 3 c, rf Γ 20 i, nt d, rf Γ 1 w] S (dX none (driveS S w c i d)) := by
  have hb : ∀ {f : Nat}, f ≠ 34 ∧ f ≠ 35 ∧ f ≠ 31 ∧ f ≠ 32 ∧ f ≠ 33 → beginS S c f = S f := fun h => beginS_of S c h
  have hT0 : ∀ t, t < 12 → okT (beginS S c) t := fun t ht => okT_of (hT t ht) (hb (by decide)) (hb (by decide)) (hb (by decide)) (hb (by decide)) (hb (by decide))
  have hL0 : okL (beginS S c) i := okL_of hL (hb (by decide)) (hb (by decide)) (hb (by decide)) (hb (by decide))
  have hC0 : okC (beginS S c) c 0 ∧ okC (beginS S c) c 1 := by simp [okC, beginS, sU]
  obtain ⟨n, hn6, hn⟩ := hL.2.2.1 d hd
  have e26 : beginS S c 26 = S 26 := hb (by decide)
  refine CT.of (by first | exact plainFor_of_name (by rfl) | decide +kernel) (Nat.le_of_ble_eq_true rfl) ?_
  intro G hG
  show G (0, 0) 0 [(0, rf Γ 3 c), (1, rf Γ 20 i), (2, nt d), (3, rf Γ 1 w)] [] _
  refine r_aload_n hG (hl0 := rfl) (hd := d_Trip_drive_0) (K := ?_)
  refine cVv hG w_Trip_18 d_Trip_drive_1 (ct_tripBegin hc) (by decide) (by show _ < 4; omega) rc_3 rfl rfl ⟨(Nat.le_of_ble_eq_true rfl), (Nat.le_of_ble_eq_true rfl)⟩ ⟨(Nat.le_of_ble_eq_true rfl), (Nat.le_of_ble_eq_true rfl)⟩ (Nat.le_of_ble_eq_true rfl) ?_
  refine r_iconst hG (hd := d_Trip_drive_4) (K := ?_)
  refine r_istore hG (hd := d_Trip_drive_5) (K := ?_)
  refine r_iconst hG (hd := d_Trip_drive_7) (K := ?_)
  refine r_istore hG (hd := d_Trip_drive_8) (K := ?_)
  refine r_iconst hG (hd := d_Trip_drive_10) (K := ?_)
  refine r_istore hG (hd := d_Trip_drive_11) (K := ?_)
  have loop : ∀ m q : Nat, q + m = n → ∀ (S1 : St) (at' ck : Int), (∀ t, t < 12 → okT S1 t) → okL S1 i → okC S1 c 0 ∧ okC S1 c 1 → S1 26 = S 26 → (0 ≤ at' ∧ at' ≤ 30) → (0 ≤ ck ∧ ck ≤ 120) →
      G (0, 0) 97 [(0, rf Γ 3 c), (4, nt (drv w c i d m q S1 at' ck).2.1), (5, nt (drv w c i d m q S1 at' ck).2.2)] [] (drv w c i d m q S1 at' ck).1 →
      G (0, 0) 13 [(0, rf Γ 3 c), (1, rf Γ 20 i), (2, nt d), (3, rf Γ 1 w), (4, nt at'), (5, nt ck), (6, nt q)] [] S1 := by
    intro m
    induction m with
    | zero =>
      intro q hq S1 at' ck h1 h2 h3 h4 h5 h6 K
      have hlen : S1 26 i d = (q : Int) := by rw [h4, hn]; omega
      refine r_iload hG (hl0 := rfl) (hd := d_Trip_drive_13) (K := ?_)
      refine r_aload_n hG (hl0 := rfl) (hd := d_Trip_drive_15) (K := ?_)
      refine g_Trip_21 hG (hi := by omega) (hd := d_Trip_drive_16) (K := ?_)
      refine r_iload_n hG (hl0 := rfl) (hd := d_Trip_drive_19) (K := ?_)
      first | refine a_16 hG (hd := d_Trip_drive_20) (hz := rfl) (hj := by omega) (hi := by omega) (K := ?_) | refine a_17 hG (hd := d_Trip_drive_20) (hz := rfl) (hj := by omega) (hi := by omega) (K := ?_) | refine a_18 hG (hd := d_Trip_drive_20) (hz := rfl) (hj := by omega) (hi := by omega) (K := ?_) | refine a_19 hG (hd := d_Trip_drive_20) (hz := rfl) (hj := by omega) (hi := by omega) (K := ?_) | refine a_4 hG (hd := d_Trip_drive_20) (hz := rfl) (hj := by omega) (hi := by omega) (K := ?_) | refine a_5 hG (hd := d_Trip_drive_20) (hz := rfl) (hj := by omega) (hi := by omega) (K := ?_) | refine a_21 hG (hd := d_Trip_drive_20) (hz := rfl) (hj := by omega) (hi := by omega) (K := ?_) | refine a_23 hG (hd := d_Trip_drive_20) (hz := rfl) (hj := by omega) (hi := by omega) (K := ?_) | refine a_24 hG (hd := d_Trip_drive_20) (hz := rfl) (hj := by omega) (hi := by omega) (K := ?_)
      refine r_icmp_ge hG (hd := d_Trip_drive_21) (kt := fun _ => ?_) (kf := fun hh => absurd hh (by omega))
      exact r_sb hG (K) ⟨rfl, rfl, rfl, trivial⟩
    | succ m ih =>
      intro q hq S1 at' ck h1 h2 h3 h4 h5 h6 K
      have hlen : S1 26 i d = (n : Int) := by rw [h4, hn]
      obtain ⟨e, he, hee⟩ := h2.2.2.2 d hd q (by omega)
      have hr : rst S1 w i d q = 2 * e + w := by unfold rst; rw [hee, Int.toNat_natCast]
      have hte := h1 (2 * e + w) (by omega)
      have hsh := h2.1
      have hpl := hte.1
      have hab : 0 ≤ iabs (S1 10 (2 * e + w) 0 - at') ∧ iabs (S1 10 (2 * e + w) 0 - at') ≤ 30 := by unfold iabs; split <;> omega
      refine r_iload hG (hl0 := rfl) (hd := d_Trip_drive_13) (K := ?_)
      refine r_aload_n hG (hl0 := rfl) (hd := d_Trip_drive_15) (K := ?_)
      refine g_Trip_21 hG (hi := by omega) (hd := d_Trip_drive_16) (K := ?_)
      refine r_iload_n hG (hl0 := rfl) (hd := d_Trip_drive_19) (K := ?_)
      first | refine a_16 hG (hd := d_Trip_drive_20) (hz := rfl) (hj := by omega) (hi := by omega) (K := ?_) | refine a_17 hG (hd := d_Trip_drive_20) (hz := rfl) (hj := by omega) (hi := by omega) (K := ?_) | refine a_18 hG (hd := d_Trip_drive_20) (hz := rfl) (hj := by omega) (hi := by omega) (K := ?_) | refine a_19 hG (hd := d_Trip_drive_20) (hz := rfl) (hj := by omega) (hi := by omega) (K := ?_) | refine a_4 hG (hd := d_Trip_drive_20) (hz := rfl) (hj := by omega) (hi := by omega) (K := ?_) | refine a_5 hG (hd := d_Trip_drive_20) (hz := rfl) (hj := by omega) (hi := by omega) (K := ?_) | refine a_21 hG (hd := d_Trip_drive_20) (hz := rfl) (hj := by omega) (hi := by omega) (K := ?_) | refine a_23 hG (hd := d_Trip_drive_20) (hz := rfl) (hj := by omega) (hi := by omega) (K := ?_) | refine a_24 hG (hd := d_Trip_drive_20) (hz := rfl) (hj := by omega) (hi := by omega) (K := ?_)
      refine r_icmp_ge hG (hd := d_Trip_drive_21) (kt := fun hh => absurd hh (by omega)) (kf := fun _ => ?_)
      refine r_aload_n hG (hl0 := rfl) (hd := d_Trip_drive_24) (K := ?_)
      refine r_aload_n hG (hl0 := rfl) (hd := d_Trip_drive_25) (K := ?_)
      refine g_Trip_26 hG (hi := by omega) (hd := d_Trip_drive_26) (K := ?_)
      refine r_iload_n hG (hl0 := rfl) (hd := d_Trip_drive_29) (K := ?_)
      first | refine a_1 hG (hd := d_Trip_drive_30) (hz := rfl) (hj := by omega) (hi := by omega) (K := ?_) | refine a_2 hG (hd := d_Trip_drive_30) (hz := rfl) (hj := by omega) (hi := by omega) (K := ?_) | refine a_10 hG (hd := d_Trip_drive_30) (hz := rfl) (hj := by omega) (hi := by omega) (K := ?_) | refine r_aald22 hG (hd := d_Trip_drive_30) (hz := rfl) (hj := by omega) (hi := by omega) (K := ?_)
      refine r_iload hG (hl0 := rfl) (hd := d_Trip_drive_31) (K := ?_)
      first | refine a_16 hG (hd := d_Trip_drive_33) (hz := rfl) (hj := by omega) (hi := by omega) (K := ?_) | refine a_17 hG (hd := d_Trip_drive_33) (hz := rfl) (hj := by omega) (hi := by omega) (K := ?_) | refine a_18 hG (hd := d_Trip_drive_33) (hz := rfl) (hj := by omega) (hi := by omega) (K := ?_) | refine a_19 hG (hd := d_Trip_drive_33) (hz := rfl) (hj := by omega) (hi := by omega) (K := ?_) | refine a_4 hG (hd := d_Trip_drive_33) (hz := rfl) (hj := by omega) (hi := by omega) (K := ?_) | refine a_5 hG (hd := d_Trip_drive_33) (hz := rfl) (hj := by omega) (hi := by omega) (K := ?_) | refine a_21 hG (hd := d_Trip_drive_33) (hz := rfl) (hj := by omega) (hi := by omega) (K := ?_) | refine a_23 hG (hd := d_Trip_drive_33) (hz := rfl) (hj := by omega) (hi := by omega) (K := ?_) | refine a_24 hG (hd := d_Trip_drive_33) (hz := rfl) (hj := by omega) (hi := by omega) (K := ?_)
      rw [hee]
      first | refine a_1 hG (hd := d_Trip_drive_34) (hz := rfl) (hj := by omega) (hi := by omega) (K := ?_) | refine a_2 hG (hd := d_Trip_drive_34) (hz := rfl) (hj := by omega) (hi := by omega) (K := ?_) | refine a_10 hG (hd := d_Trip_drive_34) (hz := rfl) (hj := by omega) (hi := by omega) (K := ?_) | refine r_aald22 hG (hd := d_Trip_drive_34) (hz := rfl) (hj := by omega) (hi := by omega) (K := ?_)
      refine r_astore hG (hd := d_Trip_drive_35) (K := ?_)
      refine r_iload hG (hl0 := rfl) (hd := d_Trip_drive_37) (K := ?_)
      refine r_aload hG (hl0 := rfl) (hd := d_Trip_drive_39) (K := ?_)
      refine g_Trip_30 hG (hi := by omega) (hd := d_Trip_drive_41) (K := ?_)
      refine r_iload hG (hl0 := rfl) (hd := d_Trip_drive_44) (K := ?_)
      first | refine r_isub hG (hd := d_Trip_drive_46) (K := ?_) | refine r_isubr hG (hd := d_Trip_drive_46) (K := ?_)
      refine r_mabs hG w_Trip_36 d_Trip_drive_47 ⟨(Nat.le_of_ble_eq_true rfl), (Nat.le_of_ble_eq_true rfl)⟩ ⟨(Nat.le_of_ble_eq_true rfl), (Nat.le_of_ble_eq_true rfl)⟩ (by first | omega | (simp [sU]; omega)) ?_
      first | refine r_iadd hG (hd := d_Trip_drive_50) (K := ?_) | refine r_iaddr hG (hd := d_Trip_drive_50) (K := ?_)
      refine r_iconst hG (hd := d_Trip_drive_51) (K := ?_)
      first | refine r_iadd hG (hd := d_Trip_drive_52) (K := ?_) | refine r_iaddr hG (hd := d_Trip_drive_52) (K := ?_)
      refine r_istore hG (hd := d_Trip_drive_53) (K := ?_)
      refine r_iload hG (hl0 := rfl) (hd := d_Trip_drive_55) (K := ?_)
      refine r_aload hG (hl0 := rfl) (hd := d_Trip_drive_57) (K := ?_)
      refine g_Trip_30 hG (hi := by omega) (hd := d_Trip_drive_59) (K := ?_)
      first | refine r_iadd hG (hd := d_Trip_drive_62) (K := ?_) | refine r_iaddr hG (hd := d_Trip_drive_62) (K := ?_)
      refine r_aload_n hG (hl0 := rfl) (hd := d_Trip_drive_63) (K := ?_)
      refine g_Trip_42 hG (hi := by omega) (hd := d_Trip_drive_64) (K := ?_)
      refine r_icmp_le hG (hd := d_Trip_drive_67) (kt := fun h => ?_) (kf := fun h => ?_)
      · have K := K
        rw [drv, hr, if_pos (by have h := h; unfold iabs; omega)] at K
        have hle : ck + iabs (S1 10 (2 * e + w) 0 - at') + 2 + S1 10 (2 * e + w) 0 ≤ S1 20 i 0 := by have h := h; unfold iabs; omega
        refine r_iload hG (hl0 := rfl) (hd := d_Trip_drive_73) (K := ?_)
        refine r_istore hG (hd := d_Trip_drive_75) (K := ?_)
        refine r_aload hG (hl0 := rfl) (hd := d_Trip_drive_77) (K := ?_)
        refine g_Trip_30 hG (hi := by omega) (hd := d_Trip_drive_79) (K := ?_)
        refine r_istore hG (hd := d_Trip_drive_82) (K := ?_)
        refine r_aload_n hG (hl0 := rfl) (hd := d_Trip_drive_84) (K := ?_)
        refine r_aload hG (hl0 := rfl) (hd := d_Trip_drive_85) (K := ?_)
        refine r_aload_n hG (hl0 := rfl) (hd := d_Trip_drive_87) (K := ?_)
        refine cVv hG w_Trip_45 d_Trip_drive_88 (ct_empty hc (by omega) hi hte h2 h3) (by decide) (by show _ < 4; omega) rc_3 rfl rfl ⟨(Nat.le_of_ble_eq_true rfl), (Nat.le_of_ble_eq_true rfl)⟩ ⟨(Nat.le_of_ble_eq_true rfl), (Nat.le_of_ble_eq_true rfl)⟩ (Nat.le_of_ble_eq_true rfl) ?_
        refine r_iinc hG (hl0 := rfl) (hd := d_Trip_drive_91) (K := ?_)
        refine r_goto hG (hd := d_Trip_drive_94) (K := ?_)
        have q2 := ih (q + 1) (by omega) (emptyS S1 c (2 * e + w) i) (S1 10 (2 * e + w) 0) (ck + iabs (S1 10 (2 * e + w) 0 - at') + 2) (fun t ht => emptyS_okT hte h2 h3 (h1 t ht)) (emptyS_okL h2) (emptyS_okC hte h2 h3) (by rw [emptyS_of S1 c _ i (by decide) (by decide), h4]) hpl (by omega) K
        exact r_sb hG (q2) ⟨rfl, rfl, rfl, rfl, rfl, rfl, rfl, trivial⟩
      · have K := K
        rw [drv, hr, if_neg (by have h := h; unfold iabs; omega)] at K
        refine r_goto hG (hd := d_Trip_drive_70) (K := ?_)
        exact r_sb hG (K) ⟨rfl, rfl, rfl, trivial⟩
  have l := loop n 0 (by omega) (beginS S c) 0 0 hT0 hL0 hC0 e26 (by omega) (by omega) ?_
  exact r_sb hG (l) ⟨rfl, rfl, rfl, rfl, rfl, rfl, rfl, trivial⟩
  have e : drv w c i d n 0 (beginS S c) 0 0 = drvE S w c i d := by unfold drvE; rw [hn, Int.toNat_natCast]
  rw [e]
  refine r_aload_n hG (hl0 := rfl) (hd := d_Trip_drive_97) (K := ?_)
  refine r_iload hG (hl0 := rfl) (hd := d_Trip_drive_98) (K := ?_)
  refine r_iload hG (hl0 := rfl) (hd := d_Trip_drive_100) (K := ?_)
  first | refine r_iadd hG (hd := d_Trip_drive_102) (K := ?_) | refine r_iaddr hG (hd := d_Trip_drive_102) (K := ?_)
  refine p_Trip_49 hG (hi := by omega) (hd := d_Trip_drive_103) (K := ?_)
  refine r_vret hG d_Trip_drive_106 ⟨(Nat.le_of_ble_eq_true rfl), (Nat.le_of_ble_eq_true rfl)⟩ ?_
  exact ⟨rfl, rfl⟩
