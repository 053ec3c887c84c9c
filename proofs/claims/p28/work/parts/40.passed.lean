theorem ct_isPassed {Γ : Gm} {S : St} {ns dn n : Nat} {came swept sold : Int} (h : LI S ns dn came swept sold) (hn : 1 ≤ n ∧ n ≤ 5) (hdn : dn + n ≤ 400) :
    CT Γ y_Law_isPassed b_Law_isPassed 8 ((some FieldType.boolean)) (rmx 8 6 5015) [rf Γ 0 0, nt ns, nt n] S (fun v S' => v = some (nt 1) ∧ LI S' ns (dn + n) (came + n * comN S ns) swept sold) := by
  have hj := h.j
  have hin := LI_in h
  have h87 : S 87 0 0 = 0 := h.2.2.2.1
  obtain ⟨W, hns, hR, -⟩ := id hj
  obtain ⟨⟨w0, -⟩, ⟨w1, -⟩, ⟨w2, w2'⟩, wT, wL, -⟩ := id W
  have kp := KP_spN S ns 2 dn n
  have okB := spN_ok (ns := ns) (nl := 2) (dn := dn) (by omega) (by decide) wT wL n
  have jB := LJ_KP hj kp okB
  have hlie : ∀ B, B = spN S ns 2 dn n → litN B 1 ns = litN (spN S ns 2 dn n) 1 ns := fun B e => by rw [e]
  generalize hB : spN S ns 2 dn n = B at kp okB jB
  have b87 : B 87 0 0 = 0 := by rw [kp.fld (f := 87) (by decide)]; exact h87
  have WB := jB.1
  obtain ⟨⟨b0, -⟩, ⟨b1, -⟩, ⟨b2, -⟩, bT, bL, bM', bI, -⟩ := id WB
  obtain ⟨nb, c1, c2, c3, c4, c5⟩ := id bI.1
  have f16 : maF B 16 = fetN B 2 := by show fetN B (B 1 0 0).toNat = _; rw [b1]; rfl
  have fB := jB.2.2.2.2.2.2.1
  have hMB : HM B = HM S := (WF_KP W kp okB).2
  have hMb : fetN B 2 ≤ 80000 := by
    have := jB.2.2.2.2.1
    omega
  have llB := (litN_nn W.2.2.2.2.2.2.2.2.2)
  refine CT.of (by first | exact plainFor_of_name (by rfl) | decide +kernel) (Nat.le_of_ble_eq_true rfl) ?_
  intro G hG
  show G (0, 0) 0 [(0, rf Γ 0 0), (1, nt ns), (2, nt n)] [] _
  refine r_aload_n hG (hl0 := rfl) (hd := d_Law_isPassed_0) (K := ?_)
  refine r_iload_n hG (hl0 := rfl) (hd := d_Law_isPassed_1) (K := ?_)
  refine cVx hG w_Law_90 d_Law_isPassed_2 (ct_wouldLie (n := n) w0 (by omega) w1 (by decide) w2 (by omega) wT wL (by omega)) (by decide) (by decide) rc_0 rfl rfl ⟨(Nat.le_of_ble_eq_true rfl), (Nat.le_of_ble_eq_true rfl)⟩ ⟨(Nat.le_of_ble_eq_true rfl), (Nat.le_of_ble_eq_true rfl)⟩ (Nat.le_of_ble_eq_true rfl) ?_
  refine r_istore_n hG (hd := d_Law_isPassed_5) (K := ?_)
  refine r_aload_n hG (hl0 := rfl) (hd := d_Law_isPassed_6) (K := ?_)
  refine r_bipush hG (hd := d_Law_isPassed_7) (K := ?_)
  refine cVx hG w_Law_57 d_Law_isPassed_9 (ct_many (w := 16) (by rw [hB]; exact b0) (by omega) (by rw [hB]; exact b1) (by decide) (by rw [hB]; exact c2) c1 (by rw [hB]; exact c3) (by decide)) (by decide) (by decide) rc_0 rfl rfl ⟨(Nat.le_of_ble_eq_true rfl), (Nat.le_of_ble_eq_true rfl)⟩ ⟨(Nat.le_of_ble_eq_true rfl), (Nat.le_of_ble_eq_true rfl)⟩ (Nat.le_of_ble_eq_true rfl) ?_
  refine r_istore hG (hd := d_Law_isPassed_12) (K := ?_)
  rw [hB, f16]
  refine r_iconst hG (hd := d_Law_isPassed_14) (K := ?_)
  refine r_iload_n hG (hl0 := rfl) (hd := d_Law_isPassed_15) (K := ?_)
  refine r_imul hG (hd := d_Law_isPassed_16) (K := ?_)
  rw [show (3 : Int) * (ns : Int) = ((3 * ns : Nat) : Int) by omega]
  refine r_newfull hG b87 (3 * ns) (fun k => fuF B (2 * (k / 3)) (k % 3)) rfl (by omega) d_Law_isPassed_17 ⟨Nat.le_of_ble_eq_true rfl, by simp [rmx]; omega⟩ (fun q => ?_)
  refine r_wide hG (k := 1) (w := 15) (by dsimp only; omega) ?_
  refine r_astore hG (hd := d_Law_isPassed_19) (K := ?_)
  refine r_iconst hG (hd := d_Law_isPassed_21) (K := ?_)
  refine r_istore hG (hd := d_Law_isPassed_22) (K := ?_)
  have N0 : 0 < 3 * ns ∧ 3 * ns < 1000 := by omega
  generalize hN : 3 * ns = N at N0
  generalize hF : (fun k => fuF B (2 * (k / 3)) (k % 3)) = F
  have hFk : ∀ k, F k = fuF B (2 * (k / 3)) (k % 3) := fun k => by rw [← hF]
  have eF : ∀ k, ∀ {f : Nat}, f < 85 → FLs B q N F k f = B f := fun k f hf => FLs_of B q N F k (by omega)
  -- the state with the whole row
  have jA := LJ_up jB (eF N)
  have WA := jA.1
  have agA : AG (FLs B q N F N) 0 (cpN S ns) 1 ns := AG_start (by omega) (fun f hf e => by
    simp only [List.mem_cons, List.not_mem_nil, or_false] at hf
    rw [eF N (by omega), kp.real (f := f) (by simp only [List.mem_cons, List.not_mem_nil, or_false]; omega)])
  have alA : AL (FLs B q N F N) (cpN S ns) := by
    have kc := KP_cpN S ns
    unfold AL
    rw [eF N (by decide), eF N (by decide), eF N (by decide), eF N (by decide), kp.fld (f := 20) (by decide), kp.fld (f := 25) (by decide), kp.fld (f := 26) (by decide), kp.fld (f := 27) (by decide), kc.fld (f := 20) (by decide), kc.fld (f := 25) (by decide), kc.fld (f := 26) (by decide), kc.fld (f := 27) (by decide)]
    exact ⟨rfl, rfl, rfl, rfl⟩
  have hMA : HM (FLs B q N F N) = HM B := (HI_of bI (fun f a b _ _ => eF N (by omega)) (eF N (by decide))).2
  have cA : comN (FLs B q N F N) ns = comN S ns := by
    rw [comN_of (eF N (by decide)), comN_real (kp.real (f := 15) (by decide))]
  have fA : fetN (FLs B q N F N) 2 = fetN B 2 := fetN_of (eF N (by decide)) 2
  -- behind the days
  have after : ∀ (r : Int) (A' : St), PassR ns 2 n (FLs B q N F N) r A' → G (6, 5015) 60 [(0, rf Γ 0 0), (1, nt ns), (2, nt n), (3, nt (litN B 1 ns)), (4, nt (fetN B 2)), (5, .ref q)] [nt r] A' := by
    intro r A' hp
    obtain ⟨p1, p2, p3, p4, p5, p6⟩ := pass_all WA n r A' hdn hp
    have jP := LJ_pass jA hdn hp
    rw [cA] at jP
    have ag := AG_pass WA jA.2.2.1 agA alA n r A' hdn hp
    have hl := AG_litN ag ns (Nat.le_refl _)
    rw [hB] at hl
    obtain ⟨⟨a0, -⟩, ⟨a1, -⟩, ⟨a2, -⟩, aT, aL, aM, aI, aS, aZ, aLit⟩ := id p1
    obtain ⟨nb', d1, d2, d3, d4, d5⟩ := id aI.1
    have g16 : maF A' 16 = fetN A' 2 := by show fetN A' (A' 1 0 0).toNat = _; rw [a1]; rfl
    have g17 : maF A' 17 = litN A' 0 ns := by show litN A' 0 (A' 0 0 0).toNat = _; rw [a0, Int.toNat_natCast]
    have ll := litN_nn aLit ns (by omega)
    have lle : litN A' 0 ns ≤ 200000 := by
      have e1 := jP.2.2.2.1
      have e2 := jP.2.2.2.2.2.2.2
      have e3 := jP.2.2.2.2.2.2.1
      have e4 := (bM_in aT 6 (by decide)).1
      omega
    have h86 : A' 86 0 0 = (q : Int) := by rw [p6 (nX 86 (by decide))]; rfl
    have h87' : A' 87 0 0 = (N : Int) := by rw [p6 (nX 87 (by decide))]; rfl
    have h85 : ∀ j, j < N → A' 85 0 j = F j := fun j hj => by
      rw [p6 (nX 85 (by decide))]
      show (if j < N then F j else 0) = _
      rw [if_pos hj]
    have endd : ∀ k : Nat, G (6, 5015) 150 [] [] A' := by
      intro _
      refine r_drop hG ?_
      refine r_iconst hG (hd := d_Law_isPassed_150) (K := ?_)
      refine r_zret hG d_Law_isPassed_151 ⟨(Nat.le_of_ble_eq_true rfl), (Nat.le_of_ble_eq_true rfl)⟩ (by first | exact Or.inl rfl | exact Or.inr rfl | omega) ?_
      exact ⟨rfl, (LJ_up jP (fun hf => DR_of A' (by omega))).i rfl⟩
    refine r_istore hG (hd := d_Law_isPassed_60) (K := ?_)
    refine r_aload_n hG (hl0 := rfl) (hd := d_Law_isPassed_62) (K := ?_)
    refine r_bipush hG (hd := d_Law_isPassed_63) (K := ?_)
    refine cVx hG w_Law_57 d_Law_isPassed_65 (ct_many (w := 16) a0 (by omega) a1 (by decide) d2 d1 d3 (by decide)) (by decide) (by decide) rc_0 rfl rfl ⟨(Nat.le_of_ble_eq_true rfl), (Nat.le_of_ble_eq_true rfl)⟩ ⟨(Nat.le_of_ble_eq_true rfl), (Nat.le_of_ble_eq_true rfl)⟩ (Nat.le_of_ble_eq_true rfl) ?_
    refine r_iload hG (hl0 := rfl) (hd := d_Law_isPassed_68) (K := ?_)
    refine r_iload hG (hl0 := rfl) (hd := d_Law_isPassed_70) (K := ?_)
    first | refine r_iadd hG (hd := d_Law_isPassed_72) (K := ?_) | refine r_iaddr hG (hd := d_Law_isPassed_72) (K := ?_)
    refine r_icmp_ne hG (hd := d_Law_isPassed_73) (kt := fun hh => absurd hh (by omega)) (kf := fun _ => ?_)
    refine r_aload_n hG (hl0 := rfl) (hd := d_Law_isPassed_76) (K := ?_)
    refine r_bipush hG (hd := d_Law_isPassed_77) (K := ?_)
    refine cVx hG w_Law_57 d_Law_isPassed_79 (ct_many (w := 17) a0 (by omega) a1 (by decide) d2 d1 d3 (by decide)) (by decide) (by decide) rc_0 rfl rfl ⟨(Nat.le_of_ble_eq_true rfl), (Nat.le_of_ble_eq_true rfl)⟩ ⟨(Nat.le_of_ble_eq_true rfl), (Nat.le_of_ble_eq_true rfl)⟩ (Nat.le_of_ble_eq_true rfl) ?_
    refine r_iload_n hG (hl0 := rfl) (hd := d_Law_isPassed_82) (K := ?_)
    refine r_icmp_eq hG (hd := d_Law_isPassed_83) (kt := fun _ => ?_) (kf := fun hh => absurd hh (by omega))
    refine r_iconst hG (hd := d_Law_isPassed_88) (K := ?_)
    refine r_istore hG (hd := d_Law_isPassed_89) (K := ?_)
    have loop : ∀ m k : Nat, k + m = N → G (6, 5015) 91 [(0, rf Γ 0 0), (1, nt ns), (2, nt n), (3, nt (litN B 1 ns)), (4, nt (fetN B 2)), (5, .ref q), (6, nt r), (7, nt k)] [] A' := by
      intro m
      induction m with
      | zero =>
        intro k hk
        refine r_iload hG (hl0 := rfl) (hd := d_Law_isPassed_91) (K := ?_)
        refine r_aload hG (hl0 := rfl) (hd := d_Law_isPassed_93) (K := ?_)
        refine r_fullLen hG N h86 h87' N0 (hd := d_Law_isPassed_95) (K := ?_)
        refine r_icmp_ge hG (hd := d_Law_isPassed_96) (kt := fun _ => ?_) (kf := fun hh => absurd hh (by omega))
        exact r_sb hG (endd 0) trivial
      | succ m ih =>
        intro k hk
        refine r_iload hG (hl0 := rfl) (hd := d_Law_isPassed_91) (K := ?_)
        refine r_aload hG (hl0 := rfl) (hd := d_Law_isPassed_93) (K := ?_)
        refine r_fullLen hG N h86 h87' N0 (hd := d_Law_isPassed_95) (K := ?_)
        refine r_icmp_ge hG (hd := d_Law_isPassed_96) (kt := fun hh => absurd hh (by omega)) (kf := fun _ => ?_)
        refine r_iload hG (hl0 := rfl) (hd := d_Law_isPassed_99) (K := ?_)
        refine r_if_ne hG (hd := d_Law_isPassed_101) (kt := fun hr => ?_) (kf := fun hr => ?_)
        · exact r_sb hG (endd 0) trivial
        · have k3 : k / 3 < ns := by omega
          have j3 : k % 3 < 3 := by omega
          have okt := aT (2 * (k / 3)) (by omega)
          have fi := fu_in j3 okt
          have okt0 := bT (2 * (k / 3)) (by omega)
          have fi0 := fu_in j3 okt0
          have shift : fuF A' (2 * (k / 3)) (k % 3) = if F k < 0 then -1 else max 0 (F k - n) := by
            have x := pass_KL WA n r A' hdn hp (by omega) (k / 3) (k % 3) k3 j3
            have e15 : A' 15 = B 15 := (p6 (nX 15 (by decide))).trans (eF N (by decide))
            have e15b : FLs B q N F N 15 = B 15 := eF N (by decide)
            have eK : KL (FLs B q N F N) (2 * (k / 3)) (k % 3) = KL B (2 * (k / 3)) (k % 3) := by unfold KL; rw [eF N (by decide), eF N (by decide)]
            rw [hFk, fuF_V, fuF_V, x, e15, e15b, eK]
            have bb := okt0.2.2 (k % 3) j3
            exact fu_shift (by unfold KL; omega) bb.1 (by omega)
          refine r_aload_n hG (hl0 := rfl) (hd := d_Law_isPassed_104) (K := ?_)
          refine r_iload hG (hl0 := rfl) (hd := d_Law_isPassed_105) (K := ?_)
          refine r_iconst hG (hd := d_Law_isPassed_107) (K := ?_)
          refine r_idiv hG (hr0 := by first | omega | (simp [sU]; omega)) (hd := d_Law_isPassed_108) (K := ?_)
          rw [show (k : Int) / 3 = ((k / 3 : Nat) : Int) by omega]
          refine r_iload hG (hl0 := rfl) (hd := d_Law_isPassed_109) (K := ?_)
          refine r_iconst hG (hd := d_Law_isPassed_111) (K := ?_)
          refine r_irem hG (hr0 := by first | omega | (simp [sU]; omega)) (hd := d_Law_isPassed_112) (K := ?_)
          rw [show (k : Int) % 3 = ((k % 3 : Nat) : Int) by omega]
          have fk0 := hFk k
          have fkr : -1 ≤ F k ∧ F k ≤ 99 := by rw [fk0]; exact fi0.1
          have l85 := h85 k (by omega)
          by_cases hneg : F k < 0
          · rw [if_pos hneg] at shift
            refine cVx hG w_Law_102 d_Law_isPassed_113 (ct_fullIn a0 (by omega) k3 j3 okt) (by decide) (by decide) rc_0 rfl rfl ⟨(Nat.le_of_ble_eq_true rfl), (Nat.le_of_ble_eq_true rfl)⟩ ⟨(Nat.le_of_ble_eq_true rfl), (Nat.le_of_ble_eq_true rfl)⟩ (Nat.le_of_ble_eq_true rfl) ?_
            refine r_aload hG (hl0 := rfl) (hd := d_Law_isPassed_116) (K := ?_)
            refine r_iload hG (hl0 := rfl) (hd := d_Law_isPassed_118) (K := ?_)
            refine r_fullLd hG N h86 h87' N0 (hz := rfl) (hj := by omega) (hd := d_Law_isPassed_120) (K := ?_)
            refine r_if_ge hG (hd := d_Law_isPassed_121) (kt := fun hh => absurd hh (by omega)) (kf := fun _ => ?_)
            refine r_iconst hG (hd := d_Law_isPassed_124) (K := ?_)
            refine r_goto hG (hd := d_Law_isPassed_125) (K := ?_)
            refine r_icmp_eq hG (hd := d_Law_isPassed_139) (kt := fun _ => ?_) (kf := fun hh => absurd hh (by omega))
            refine r_iinc hG (hl0 := rfl) (hd := d_Law_isPassed_144) (K := ?_)
            refine r_goto hG (hd := d_Law_isPassed_147) (K := ?_)
            exact r_sb hG (ih (k + 1) (by omega)) ⟨rfl, rfl, rfl, rfl, rfl, rfl, rfl, rfl, trivial⟩
          · rw [if_neg hneg] at shift
            refine cVx hG w_Law_102 d_Law_isPassed_113 (ct_fullIn a0 (by omega) k3 j3 okt) (by decide) (by decide) rc_0 rfl rfl ⟨(Nat.le_of_ble_eq_true rfl), (Nat.le_of_ble_eq_true rfl)⟩ ⟨(Nat.le_of_ble_eq_true rfl), (Nat.le_of_ble_eq_true rfl)⟩ (Nat.le_of_ble_eq_true rfl) ?_
            refine r_aload hG (hl0 := rfl) (hd := d_Law_isPassed_116) (K := ?_)
            refine r_iload hG (hl0 := rfl) (hd := d_Law_isPassed_118) (K := ?_)
            refine r_fullLd hG N h86 h87' N0 (hz := rfl) (hj := by omega) (hd := d_Law_isPassed_120) (K := ?_)
            refine r_if_ge hG (hd := d_Law_isPassed_121) (kt := fun _ => ?_) (kf := fun hh => absurd hh (by omega))
            refine r_iconst hG (hd := d_Law_isPassed_128) (K := ?_)
            refine r_aload hG (hl0 := rfl) (hd := d_Law_isPassed_129) (K := ?_)
            refine r_iload hG (hl0 := rfl) (hd := d_Law_isPassed_131) (K := ?_)
            refine r_fullLd hG N h86 h87' N0 (hz := rfl) (hj := by omega) (hd := d_Law_isPassed_133) (K := ?_)
            refine r_iload_n hG (hl0 := rfl) (hd := d_Law_isPassed_134) (K := ?_)
            first | refine r_isub hG (hd := d_Law_isPassed_135) (K := ?_) | refine r_isubr hG (hd := d_Law_isPassed_135) (K := ?_)
            refine r_mmax hG w_Law_108 d_Law_isPassed_136 ⟨(Nat.le_of_ble_eq_true rfl), (Nat.le_of_ble_eq_true rfl)⟩ ⟨(Nat.le_of_ble_eq_true rfl), (Nat.le_of_ble_eq_true rfl)⟩ (by first | omega | (simp [sU]; omega)) ?_
            refine r_icmp_eq hG (hd := d_Law_isPassed_139) (kt := fun _ => ?_) (kf := fun hh => absurd hh (by omega))
            refine r_iinc hG (hl0 := rfl) (hd := d_Law_isPassed_144) (K := ?_)
            refine r_goto hG (hd := d_Law_isPassed_147) (K := ?_)
            exact r_sb hG (ih (k + 1) (by omega)) ⟨rfl, rfl, rfl, rfl, rfl, rfl, rfl, rfl, trivial⟩
    exact r_sb hG (loop N 0 (by omega)) ⟨rfl, rfl, rfl, rfl, rfl, rfl, rfl, rfl, trivial⟩
  have fill : ∀ m k : Nat, k + m = N → G (1, 15) 24 [(0, rf Γ 0 0), (1, nt ns), (2, nt n), (3, nt (litN B 1 ns)), (4, nt (fetN B 2)), (5, .ref q), (6, nt k)] [] (FLs B q N F k) := by
    intro m
    induction m with
    | zero =>
      intro k hk
      have hkN : k = N := by omega
      subst hkN
      refine r_iload hG (hl0 := rfl) (hd := d_Law_isPassed_24) (K := ?_)
      refine r_aload hG (hl0 := rfl) (hd := d_Law_isPassed_26) (K := ?_)
      refine r_fullLen hG k rfl rfl N0 (hd := d_Law_isPassed_28) (K := ?_)
      refine r_icmp_ge hG (hd := d_Law_isPassed_29) (kt := fun _ => ?_) (kf := fun hh => absurd hh (by omega))
      refine r_aload_n hG (hl0 := rfl) (hd := d_Law_isPassed_55) (K := ?_)
      refine r_iload_n hG (hl0 := rfl) (hd := d_Law_isPassed_56) (K := ?_)
      refine cVm hG w_Law_105 d_Law_isPassed_57 (ct_pass WA (by omega) hdn (by omega)) (by decide) (by decide) rc_0 rfl rfl ⟨(Nat.le_of_ble_eq_true rfl), (Nat.le_of_ble_eq_true rfl)⟩ ⟨by first | exact (Nat.le_of_ble_eq_true rfl) | (simp [rmx]; omega), by first | exact (Nat.le_of_ble_eq_true rfl) | (simp [rmx]; omega)⟩ (Nat.le_of_ble_eq_true rfl) (fun v Sx hp => ?_)
      obtain ⟨r, rfl, hp⟩ := hp
      refine r_wide hG (k := 6) (w := 5015) (by dsimp only; omega) ?_
      refine r_sb hG (after r Sx hp) ⟨rfl, rfl, rfl, rfl, rfl, rfl, trivial⟩
    | succ m ih =>
      intro k hk
      have k3 : k / 3 < ns := by omega
      have j3 : k % 3 < 3 := by omega
      refine r_iload hG (hl0 := rfl) (hd := d_Law_isPassed_24) (K := ?_)
      refine r_aload hG (hl0 := rfl) (hd := d_Law_isPassed_26) (K := ?_)
      refine r_fullLen hG N rfl rfl N0 (hd := d_Law_isPassed_28) (K := ?_)
      refine r_icmp_ge hG (hd := d_Law_isPassed_29) (kt := fun hh => absurd hh (by omega)) (kf := fun _ => ?_)
      refine r_aload hG (hl0 := rfl) (hd := d_Law_isPassed_32) (K := ?_)
      refine r_iload hG (hl0 := rfl) (hd := d_Law_isPassed_34) (K := ?_)
      refine r_aload_n hG (hl0 := rfl) (hd := d_Law_isPassed_36) (K := ?_)
      refine r_iload hG (hl0 := rfl) (hd := d_Law_isPassed_37) (K := ?_)
      refine r_iconst hG (hd := d_Law_isPassed_39) (K := ?_)
      refine r_idiv hG (hr0 := by first | omega | (simp [sU]; omega)) (hd := d_Law_isPassed_40) (K := ?_)
      rw [show (k : Int) / 3 = ((k / 3 : Nat) : Int) by omega]
      refine r_iload hG (hl0 := rfl) (hd := d_Law_isPassed_41) (K := ?_)
      refine r_iconst hG (hd := d_Law_isPassed_43) (K := ?_)
      refine r_irem hG (hr0 := by first | omega | (simp [sU]; omega)) (hd := d_Law_isPassed_44) (K := ?_)
      rw [show (k : Int) % 3 = ((k % 3 : Nat) : Int) by omega]
      have okk : okT (FLs B q N F k) (2 * (k / 3)) := okT_of (bT _ (by omega)) (eF k (by decide)) (eF k (by decide)) (eF k (by decide)) (eF k (by decide)) (eF k (by decide))
      have ek : fuF (FLs B q N F k) (2 * (k / 3)) (k % 3) = F k := by rw [hFk]; rfl
      refine cVx hG w_Law_102 d_Law_isPassed_45 (ct_fullIn (show FLs B q N F k 0 0 0 = (ns : Int) from b0) (by omega) k3 j3 okk) (by decide) (by decide) rc_0 rfl rfl ⟨(Nat.le_of_ble_eq_true rfl), (Nat.le_of_ble_eq_true rfl)⟩ ⟨(Nat.le_of_ble_eq_true rfl), (Nat.le_of_ble_eq_true rfl)⟩ (Nat.le_of_ble_eq_true rfl) ?_
      refine r_fullSt hG N N0 rfl ek (by omega) (hd := d_Law_isPassed_48) (K := ?_)
      refine r_iinc hG (hl0 := rfl) (hd := d_Law_isPassed_49) (K := ?_)
      refine r_goto hG (hd := d_Law_isPassed_52) (K := ?_)
      exact r_sb hG (ih (k + 1) (by omega)) ⟨rfl, rfl, rfl, rfl, rfl, rfl, rfl, trivial⟩
  exact r_sb hG (fill N 0 (by omega)) ⟨rfl, rfl, rfl, rfl, rfl, rfl, rfl, trivial⟩
