/-! THE LAW'S END: what it asks there -/
theorem hfL {a b : Nat} (h : a ≤ 600130 ∧ b ≤ 7301080) : (a, b).1 ≤ room_1.cells ∧ (a, b).2 ≤ room_1.slots := h
theorem hfM {a b x y : Nat} (h : a + x ≤ 600130 ∧ b + y ≤ 7301080) : (a, b).1 + x ≤ room_1.cells ∧ (a, b).2 + y ≤ room_1.slots := h
theorem hfN {a b : Nat} (h : a ≤ 600130 ∧ b ≤ 7301080) : (a, b).1 ≤ 600130 ∧ (a, b).2 ≤ 7301080 := h
theorem lie_le {S T : St} {ns dn n : Nat} {came swept sold : Int} (h : LJ S ns dn came swept sold) (kp : KP S T) (hn : dn + n ≤ 400) : litN (spN T ns 2 dn n) 1 ns ≤ 80000 := by
  obtain ⟨r, A', hp⟩ := pass_ex ns 2 S n
  have j := LJ_pass h hn hp
  rw [← AG_litN (sp_AG h.1 h.2.2.1 kp hn hp) ns (Nat.le_refl _)]
  have b := (bM_in j.1.2.2.2.1 6 (by decide)).1
  have e1 := j.2.2.2.1
  have e2 := j.2.2.2.2.2.2
  have hk : ((dn + n : Nat) : Int) ≤ 400 := by omega
  omega
theorem best_nn {S : St} {i n : Nat} (hT : ∀ t, t < 12 → okT S t) (hL : okL S i) : 0 ≤ runF S 0 i n 40 0 0 ∧ runF S 0 i n 40 0 0 ≤ 1000 := by
  rcases run_best S i n with ⟨a, -⟩ | ⟨s, -, -, e, hp, -, -⟩
  · omega
  · have := kilosS_in (S := S) (w := 0) (i := i) (s := s) (by decide) hT hL
    omega
section LE
variable {Γ : Gm} {G : Nat × Nat → Nat → List (Nat × Value) → List Value → St → Prop}
theorem law_end {a b : Nat} (hab : a ≤ 1000 ∧ b ≤ 1000000) (hG : IsG Γ room_1 b_Law_law 14 "BinWardLaw" (some .boolean) (fun v _ => v = some (nt 1)) 600130 7301080 G) {S : St} {ns dn : Nat} {came swept sold : Int} (h : LI S ns dn came swept sold) (hdn : dn ≤ 200) :
    G (a, b) 667 [(0, .ref (gX Γ).1), (1, rf Γ 0 0), (2, nt ns)] [] S := by
  have hj := h.j
  have hM := (LI_in h).1
  have hcn := (LI_in h).2
  obtain ⟨W, hns, hR, hcame, hHM, hsold, hpos, hcd⟩ := id hj
  obtain ⟨⟨h0, hns6⟩, ⟨h1, hnl⟩, ⟨h2, -⟩, hT, hL, hMk, hI, hS, hz, hlit⟩ := id W
  obtain ⟨nb, b1, b2, b3, b4, b5⟩ := id hI.1
  have bin := (bM_in hT 6 (by decide)).1
  have lin := litN_nn hlit ns hns6
  have hf : 0 ≤ fetN S 2 ∧ fetN S 2 < 10000000 := by omega
  have hu : ∀ r, r < 3 → 0 ≤ usedF S r ∧ usedF S r < 10000000 := fun r _ => used_in hI (by omega)
  have m17 : maF S 17 = litN S 0 ns := by show litN S 0 (S 0 0 0).toNat = _; rw [h0, Int.toNat_natCast]
  -- behind the digest
  have k1 : KP S (digS S ns 2 dn) := (KP_lyS S ns 2).trans (KP_spN _ ns 2 dn 3)
  have okl : ∀ t, t < 12 → okT (lyS S ns 2) t := fun t ht => okT_of (hT t ht) (lyS_f _ _ (by decide) _) (lyS_f _ _ (by decide) _) (lyS_f _ _ (by decide) _) (lyS_f _ _ (by decide) _) (lyS_f _ _ (by decide) _)
  have ok1 : ∀ t, t < 12 → okT (digS S ns 2 dn) t := spN_ok hns6 (by decide) okl (fun i hi => (KP_lyS S ns 2).kL (hL i hi)) 3
  generalize hS1 : digS S ns 2 dn = S1 at k1 ok1
  have j1 := LJ_KP hj k1 ok1
  obtain ⟨⟨p0, -⟩, ⟨p1, -⟩, ⟨p2, -⟩, -, pL, -⟩ := id j1.1
  -- behind what would lie
  have k2 : KP S (spN S1 ns 2 dn 30) := k1.trans (KP_spN _ ns 2 dn 30)
  have ok2 := spN_ok (nl := 2) (dn := dn) hns6 (by decide) ok1 pL 30
  have g1 := lie_grows (n := 30) W hR k1 (by omega)
  have g2 := lie_le (n := 30) hj k1 (by omega)
  generalize hlie : litN (spN S1 ns 2 dn 30) 1 ns = lie at g1 g2
  generalize hS2 : spN S1 ns 2 dn 30 = S2 at k2 ok2
  have j2 := LJ_KP hj k2 ok2
  obtain ⟨⟨q0, -⟩, ⟨q1, -⟩, ⟨q2, -⟩, -, qL, -, qI, -⟩ := id j2.1
  obtain ⟨nb2, d1, d2, d3, d4, d5⟩ := id qI.1
  have m2 : maF S2 17 = litN S 0 ns := by rw [maF_KP k2, m17]
  -- behind the best fetch
  have bb := best_nn (n := ns) ok2 (qL 0 (by decide))
  have k3 : KP S (runF S2 0 0 ns) := k2.trans (KP_runF S2 0 0 ns)
  have ok3 : ∀ t, t < 12 → okT (runF S2 0 0 ns) t := fun t ht => okT_of (ok2 t ht) (runF_of _ _ _ _ (by decide)) (runF_of _ _ _ _ (by decide)) (runF_of _ _ _ _ (by decide)) (runF_of _ _ _ _ (by decide)) (runF_of _ _ _ _ (by decide))
  generalize hS3 : runF S2 0 0 ns = S3 at k3 ok3 bb
  have j3 := LJ_KP hj k3 ok3
  obtain ⟨⟨r0, -⟩, ⟨r1, -⟩, ⟨r2, -⟩, -, rL, -, rI, -⟩ := id j3.1
  have same := dig_same (nb := nb) W hR k3 (by omega)
  have c52 : S3 52 0 0 = (nb : Int) := by rw [k3.fld (f := 52) (by decide), b2]
  have c57 : ∀ b, b < 20 → 0 ≤ S3 57 b 0 ∧ S3 57 b 0 ≤ 3 := by rw [k3.fld (f := 57) (by decide)]; exact b3
  refine r_aload_n hG (hl0 := rfl) (hd := d_Law_law_667) (K := ?_)
  refine cVx hG w_Law_86 d_Law_law_668 (ct_digest h0 hns6 h1 (by decide) h2 (by omega) b2 b1 b3 hT hL hf hu) (by decide) (by decide) rc_0 rfl rfl ⟨(Nat.le_of_ble_eq_true rfl), (Nat.le_of_ble_eq_true rfl)⟩ (hfL (by omega)) (Nat.le_of_ble_eq_true rfl) ?_
  rw [hS1]
  refine r_lstore hG (hd := d_Law_law_671) (K := ?_)
  refine r_aload_n hG (hl0 := rfl) (hd := d_Law_law_673) (K := ?_)
  refine r_bipush hG (hd := d_Law_law_674) (K := ?_)
  refine cVx hG w_Law_90 d_Law_law_676 (ct_wouldLie (n := 30) p0 hns6 p1 (by decide) p2 (by omega) ok1 pL (by decide)) (by decide) (by decide) rc_0 rfl rfl ⟨(Nat.le_of_ble_eq_true rfl), (Nat.le_of_ble_eq_true rfl)⟩ (hfL (by omega)) (Nat.le_of_ble_eq_true rfl) ?_
  rw [hlie, hS2]
  refine r_aload_n hG (hl0 := rfl) (hd := d_Law_law_679) (K := ?_)
  refine r_bipush hG (hd := d_Law_law_680) (K := ?_)
  refine cVx hG w_Law_57 d_Law_law_682 (ct_many (w := 17) q0 hns6 q1 (by decide) d2 d1 d3 (by decide)) (by decide) (by decide) rc_0 rfl rfl ⟨(Nat.le_of_ble_eq_true rfl), (Nat.le_of_ble_eq_true rfl)⟩ (hfL (by omega)) (Nat.le_of_ble_eq_true rfl) ?_
  rw [m2]
  refine r_icmp_lt hG (hd := d_Law_law_685) (kt := fun hh => absurd hh (by omega)) (kf := fun _ => ?_)
  refine r_aload_n hG (hl0 := rfl) (hd := d_Law_law_688) (K := ?_)
  refine r_iconst hG (hd := d_Law_law_689) (K := ?_)
  refine cVx hG w_Law_93 d_Law_law_690 (ct_bestFetch (i := 0) q0 hns6 q1 (by decide) (by decide) ok2 (qL 0 (by decide))) (by decide) (by decide) rc_0 rfl rfl ⟨(Nat.le_of_ble_eq_true rfl), (Nat.le_of_ble_eq_true rfl)⟩ (hfL (by omega)) (Nat.le_of_ble_eq_true rfl) ?_
  rw [hS3]
  refine r_if_lt hG (hd := d_Law_law_693) (kt := fun hh => absurd hh (by omega)) (kf := fun _ => ?_)
  refine r_aload_n hG (hl0 := rfl) (hd := d_Law_law_696) (K := ?_)
  refine cV hG w_Law_96 d_Law_law_697 (ct_meanDirt rI.1) (by decide) (by decide) rc_0 rfl rfl ⟨(Nat.le_of_ble_eq_true rfl), (Nat.le_of_ble_eq_true rfl)⟩ (hfL (by omega)) (Nat.le_of_ble_eq_true rfl) (fun v Sx hp => ?_)
  obtain ⟨x, hv, hs, hx⟩ := hp
  subst hv
  rw [hs]
  refine r_ldc2d hG (v := (4630826316843712512 : UInt64)) (hc := (m_T4 (i := 143) (by decide +kernel) (by decide +kernel))) (hd := d_Law_law_700) (K := ?_)
  refine r_dcmp hG (hd := d_Law_law_703) (K := ?_)
  refine r_top hG (z := (Op.cmpValue (FP.dcmp x 4630826316843712512) .l).toInt) (iI_of _).symm ?_
  have hx0 := Int32.le_toInt (Op.cmpValue (FP.dcmp x 4630826316843712512) .l)
  generalize (Op.cmpValue (FP.dcmp x 4630826316843712512) .l).toInt = z at hx hx0 ⊢
  refine r_if_le hG (hd := d_Law_law_704) (kt := fun _ => ?_) (kf := fun hh => absurd hh (by omega))
  refine r_aload_n hG (hl0 := rfl) (hd := d_Law_law_709) (K := ?_)
  refine cVx hG w_Law_86 d_Law_law_710 (ct_digest (nb := nb) r0 hns6 r1 (by decide) r2 (by omega) c52 b1 c57 ok3 rL (by rw [fetN_of (k3.fld (f := 24) (by decide))]; exact hf) (fun r hr => by rw [usedF_KP k3]; exact hu r hr)) (by decide) (by decide) rc_0 rfl rfl ⟨(Nat.le_of_ble_eq_true rfl), (Nat.le_of_ble_eq_true rfl)⟩ (hfL (by omega)) (Nat.le_of_ble_eq_true rfl) ?_
  rw [same]
  refine r_lload hG (hl0 := rfl) (hd := d_Law_law_713) (K := ?_)
  refine r_lcmp hG (hd := d_Law_law_715) (K := ?_)
  refine r_if_ne hG (hd := d_Law_law_716) (kt := fun hh => absurd hh (by omega)) (kf := fun _ => ?_)
  refine r_iconst hG (hd := d_Law_law_719) (K := ?_)
  refine r_goto hG (hd := d_Law_law_720) (K := ?_)
  refine r_zret hG d_Law_law_724 (hfN (by omega)) (by first | exact Or.inl rfl | exact Or.inr rfl | omega) ?_
  exact rfl
end LE
