/-! A TURN OF THE LAW -/
section LT
variable {Γ : Gm} {G : Nat × Nat → Nat → List (Nat × Value) → List Value → St → Prop}
theorem law_turns (hL : (gX Γ).2.1 < 1000) (hG : IsG Γ room_1 b_Law_law 14 "BinWardLaw" (some .boolean) (fun v _ => v = some (nt 1)) 600130 7301080 G) {ns : Nat} (hns : 1 ≤ ns ∧ ns ≤ 5) :
    ∀ m k : Nat, k + m = 40 → ∀ (S : St) (dn : Nat) (came swept sold : Int), LI S ns dn came swept sold → dn ≤ 5 * k →
      G (138 + 6 * k, 680 + 5015 * k) 189 [(0, .ref (gX Γ).1), (1, rf Γ 0 0), (2, nt ns), (3, nt came), (4, nt swept), (5, nt sold), (6, nt k)] [] S := by
  intro m
  induction m with
  | zero =>
    intro k hk S dn came swept sold h hd
    have hk40 : k = 40 := by omega
    subst hk40
    refine r_iload hG (hl0 := rfl) (hd := d_Law_law_189) (K := ?_)
    refine r_bipush hG (hd := d_Law_law_191) (K := ?_)
    refine r_icmp_ge hG (hd := d_Law_law_193) (kt := fun _ => ?_) (kf := fun hh => absurd hh (by omega))
    exact r_sb hG (law_end (by decide) hG h (by omega)) ⟨rfl, rfl, rfl, trivial⟩
  | succ m ih =>
    intro k hk S dn came swept sold h hd
    have fin : ∀ (S' : St) (dn' : Nat) (came' swept' sold' : Int), LI S' ns dn' came' swept' sold' → dn' ≤ 5 * (k + 1) → G (138 + 6 * (k + 1), 680 + 5015 * (k + 1)) 646 [(0, .ref (gX Γ).1), (1, rf Γ 0 0), (2, nt ns), (3, nt came'), (4, nt swept'), (5, nt sold'), (6, nt k)] [] S' := by
      intro S' dn' came' swept' sold' h' hd'
      refine r_aload_n hG (hl0 := rfl) (hd := d_Law_law_646) (K := ?_)
      refine r_iload_n hG (hl0 := rfl) (hd := d_Law_law_647) (K := ?_)
      refine r_iload_n hG (hl0 := rfl) (hd := d_Law_law_648) (K := ?_)
      refine r_iload hG (hl0 := rfl) (hd := d_Law_law_649) (K := ?_)
      refine r_iload hG (hl0 := rfl) (hd := d_Law_law_651) (K := ?_)
      refine cSx hG w_Law_82 d_Law_law_653 (ct_isSound h') rfl rfl ⟨(Nat.le_of_ble_eq_true rfl), (Nat.le_of_ble_eq_true rfl)⟩ (hfL (by omega)) (Nat.le_of_ble_eq_true rfl) ?_
      refine r_if_ne hG (hd := d_Law_law_656) (kt := fun _ => ?_) (kf := fun hh => absurd hh (by omega))
      refine r_iinc hG (hl0 := rfl) (hd := d_Law_law_661) (K := ?_)
      refine r_goto hG (hd := d_Law_law_664) (K := ?_)
      exact r_sb hG (ih (k + 1) (by omega) S' dn' came' swept' sold' h' hd') ⟨rfl, rfl, rfl, rfl, rfl, rfl, rfl, trivial⟩
    have fin0 : ∀ (S' : St) (dn' : Nat) (came' swept' sold' : Int), LI S' ns dn' came' swept' sold' → dn' ≤ 5 * (k + 1) → G (138 + 6 * k, 680 + 5015 * k) 646 [(0, .ref (gX Γ).1), (1, rf Γ 0 0), (2, nt ns), (3, nt came'), (4, nt swept'), (5, nt sold'), (6, nt k)] [] S' := by
      intro S' dn' came' swept' sold' h' hd'
      exact r_wide hG (k := 138 + 6 * (k + 1)) (w := 680 + 5015 * (k + 1)) (by dsimp only; omega) (fin S' dn' came' swept' sold' h' hd')
    obtain ⟨W, -, hR, -⟩ := id h
    obtain ⟨⟨w0, w0'⟩, ⟨w1, -⟩, ⟨w2, -⟩, wT, wL, wM, wI, wS, -, wl⟩ := id W
    obtain ⟨nb, c1, c2, c3, c4, c5⟩ := id wI.1
    refine r_iload hG (hl0 := rfl) (hd := d_Law_law_189) (K := ?_)
    refine r_bipush hG (hd := d_Law_law_191) (K := ?_)
    refine r_icmp_ge hG (hd := d_Law_law_193) (kt := fun hh => absurd hh (by omega)) (kf := fun _ => ?_)
    refine r_aload_n hG (hl0 := rfl) (hd := d_Law_law_196) (K := ?_)
    refine r_iload hG (hl0 := rfl) (hd := d_Law_law_197) (K := ?_)
    refine r_bipush hG (hd := d_Law_law_199) (K := ?_)
    refine r_irem hG (hr0 := by first | omega | (simp [sU]; omega)) (hd := d_Law_law_201) (K := ?_)
    rw [show (k : Int) % 16 = ((k % 16 : Nat) : Int) by omega]
    refine cS hG w_Law_12 d_Law_law_202 (ct_cell (k := k % 16) (by omega) hL) rfl rfl ⟨(Nat.le_of_ble_eq_true rfl), (Nat.le_of_ble_eq_true rfl)⟩ (hfL (by omega)) (Nat.le_of_ble_eq_true rfl) (fun v Sx hp => ?_); obtain ⟨z202, hv, hs⟩ := hp; subst hv; rw [hs]; clear hs
    refine r_bipush hG (hd := d_Law_law_205) (K := ?_)
    refine r_iload hG (hl0 := rfl) (hd := d_Law_law_207) (K := ?_)
    refine r_imul hG (hd := d_Law_law_209) (K := ?_)
    first | refine r_iadd hG (hd := d_Law_law_210) (K := ?_) | refine r_iaddr hG (hd := d_Law_law_210) (K := ?_)
    generalize z202 + 31 * (k : Int) = x
    refine r_istore hG (hd := d_Law_law_211) (K := ?_)
    refine r_aload_n hG (hl0 := rfl) (hd := d_Law_law_213) (K := ?_)
    refine r_bipush hG (hd := d_Law_law_214) (K := ?_)
    refine r_iload hG (hl0 := rfl) (hd := d_Law_law_216) (K := ?_)
    refine r_imul hG (hd := d_Law_law_218) (K := ?_)
    refine r_iconst hG (hd := d_Law_law_219) (K := ?_)
    first | refine r_iadd hG (hd := d_Law_law_220) (K := ?_) | refine r_iaddr hG (hd := d_Law_law_220) (K := ?_)
    refine r_bipush hG (hd := d_Law_law_221) (K := ?_)
    refine r_irem hG (hr0 := by first | omega | (simp [sU]; omega)) (hd := d_Law_law_223) (K := ?_)
    rw [show (7 * (k : Int) + 4) % 16 = (((7 * k + 4) % 16 : Nat) : Int) by omega]
    refine cS hG w_Law_12 d_Law_law_224 (ct_cell (k := (7 * k + 4) % 16) (by omega) hL) rfl rfl ⟨(Nat.le_of_ble_eq_true rfl), (Nat.le_of_ble_eq_true rfl)⟩ (hfL (by omega)) (Nat.le_of_ble_eq_true rfl) (fun v Sx hp => ?_); obtain ⟨z224, hv, hs⟩ := hp; subst hv; rw [hs]; clear hs
    refine r_iconst hG (hd := d_Law_law_227) (K := ?_)
    refine r_iload hG (hl0 := rfl) (hd := d_Law_law_228) (K := ?_)
    refine r_imul hG (hd := d_Law_law_230) (K := ?_)
    first | refine r_iadd hG (hd := d_Law_law_231) (K := ?_) | refine r_iaddr hG (hd := d_Law_law_231) (K := ?_)
    generalize z224 + 5 * (k : Int) = y
    refine r_istore hG (hd := d_Law_law_232) (K := ?_)
    refine r_iload hG (hl0 := rfl) (hd := d_Law_law_234) (K := ?_)
    refine r_iload_n hG (hl0 := rfl) (hd := d_Law_law_236) (K := ?_)
    refine cSx hG w_Law_18 d_Law_law_237 (ct_bel (k := ns) (by omega)) rfl rfl ⟨(Nat.le_of_ble_eq_true rfl), (Nat.le_of_ble_eq_true rfl)⟩ (hfL (by omega)) (Nat.le_of_ble_eq_true rfl) ?_
    have hst := belF_lt y (k := ns) (by omega)
    generalize belF y ns = st at hst
    have okst := wT (2 * st) (by omega)
    refine r_istore hG (hd := d_Law_law_240) (K := ?_)
    refine r_iload hG (hl0 := rfl) (hd := d_Law_law_242) (K := ?_)
    refine r_bipush hG (hd := d_Law_law_244) (K := ?_)
    refine cSx hG w_Law_18 d_Law_law_246 (ct_bel (k := 12) (by decide)) rfl rfl ⟨(Nat.le_of_ble_eq_true rfl), (Nat.le_of_ble_eq_true rfl)⟩ (hfL (by omega)) (Nat.le_of_ble_eq_true rfl) ?_
    have hx12 := belF_lt x (k := 12) (by decide)
    -- the rest of the turns
    have c614 : G (138 + 6 * k, 680 + 5015 * k) 614 [(0, .ref (gX Γ).1), (1, rf Γ 0 0), (2, nt ns), (3, nt came), (4, nt swept), (5, nt sold), (6, nt k), (7, nt x), (8, nt y), (9, nt st)] [] S := by
      have hb := belF_lt y (k := 5) (by decide)
      refine r_iconst hG (hd := d_Law_law_614) (K := ?_)
      refine r_iload hG (hl0 := rfl) (hd := d_Law_law_615) (K := ?_)
      refine r_iconst hG (hd := d_Law_law_617) (K := ?_)
      refine cSx hG w_Law_18 d_Law_law_618 (ct_bel (k := 5) (by decide)) rfl rfl ⟨(Nat.le_of_ble_eq_true rfl), (Nat.le_of_ble_eq_true rfl)⟩ (hfL (by omega)) (Nat.le_of_ble_eq_true rfl) ?_
      first | refine r_iadd hG (hd := d_Law_law_621) (K := ?_) | refine r_iaddr hG (hd := d_Law_law_621) (K := ?_)
      obtain ⟨n, hn⟩ : ∃ n, 1 + belF y 5 = n := ⟨_, rfl⟩
      rw [show (1 : Int) + ((belF y 5 : Nat) : Int) = (n : Int) by omega]
      refine r_istore hG (hd := d_Law_law_622) (K := ?_)
      refine r_iload_n hG (hl0 := rfl) (hd := d_Law_law_624) (K := ?_)
      refine r_aload_n hG (hl0 := rfl) (hd := d_Law_law_625) (K := ?_)
      refine r_iload_n hG (hl0 := rfl) (hd := d_Law_law_626) (K := ?_)
      refine r_iload hG (hl0 := rfl) (hd := d_Law_law_627) (K := ?_)
      refine cSx hG w_Law_70 d_Law_law_629 (ct_comes (n := n) w0 (by omega)) rfl rfl ⟨(Nat.le_of_ble_eq_true rfl), (Nat.le_of_ble_eq_true rfl)⟩ (hfL (by omega)) (Nat.le_of_ble_eq_true rfl) ?_
      first | refine r_iadd hG (hd := d_Law_law_632) (K := ?_) | refine r_iaddr hG (hd := d_Law_law_632) (K := ?_)
      refine r_istore_n hG (hd := d_Law_law_633) (K := ?_)
      refine r_aload_n hG (hl0 := rfl) (hd := d_Law_law_634) (K := ?_)
      refine r_iload_n hG (hl0 := rfl) (hd := d_Law_law_635) (K := ?_)
      refine r_iload hG (hl0 := rfl) (hd := d_Law_law_636) (K := ?_)
      refine cSm hG w_Law_78 d_Law_law_638 (ct_isPassed (n := n) h (by omega) (by omega)) rfl rfl ⟨(Nat.le_of_ble_eq_true rfl), (Nat.le_of_ble_eq_true rfl)⟩ (hfM (by omega)) (Nat.le_of_ble_eq_true rfl) (fun v Sx hp => ?_)
      obtain ⟨hv, hp⟩ := hp
      subst hv
      refine r_wide hG (k := 138 + 6 * (k + 1)) (w := 680 + 5015 * (k + 1)) (by dsimp only; omega) ?_
      refine r_if_ne hG (hd := d_Law_law_641) (kt := fun _ => ?_) (kf := fun hh => absurd hh (by omega))
      exact r_sb hG (fin _ _ _ _ _ hp (by omega)) ⟨rfl, rfl, rfl, rfl, rfl, rfl, rfl, trivial⟩
    have c588 : G (138 + 6 * k, 680 + 5015 * k) 588 [(0, .ref (gX Γ).1), (1, rf Γ 0 0), (2, nt ns), (3, nt came), (4, nt swept), (5, nt sold), (6, nt k), (7, nt x), (8, nt y), (9, nt st)] [] S := by
      have hb := belF_lt (shF x 4) (k := 2) (by decide)
      refine r_iload_n hG (hl0 := rfl) (hd := d_Law_law_588) (K := ?_)
      refine r_aload_n hG (hl0 := rfl) (hd := d_Law_law_589) (K := ?_)
      refine r_iload_n hG (hl0 := rfl) (hd := d_Law_law_590) (K := ?_)
      refine r_iconst hG (hd := d_Law_law_591) (K := ?_)
      refine cSx hG w_Law_70 d_Law_law_592 (ct_comes (n := 1) w0 (by omega)) rfl rfl ⟨(Nat.le_of_ble_eq_true rfl), (Nat.le_of_ble_eq_true rfl)⟩ (hfL (by omega)) (Nat.le_of_ble_eq_true rfl) ?_
      first | refine r_iadd hG (hd := d_Law_law_595) (K := ?_) | refine r_iaddr hG (hd := d_Law_law_595) (K := ?_)
      rw [show came + ((1 : Nat) : Int) * comN S ns = came + comN S ns by omega]
      refine r_istore_n hG (hd := d_Law_law_596) (K := ?_)
      refine r_aload_n hG (hl0 := rfl) (hd := d_Law_law_597) (K := ?_)
      refine r_iload hG (hl0 := rfl) (hd := d_Law_law_598) (K := ?_)
      refine r_iconst hG (hd := d_Law_law_600) (K := ?_)
      refine r_shr hG (hd := d_Law_law_601) (K := ?_)
      refine r_iconst hG (hd := d_Law_law_602) (K := ?_)
      refine cSx hG w_Law_18 d_Law_law_603 (ct_bel (k := 2) (by decide)) rfl rfl ⟨(Nat.le_of_ble_eq_true rfl), (Nat.le_of_ble_eq_true rfl)⟩ (hfL (by omega)) (Nat.le_of_ble_eq_true rfl) ?_
      refine cSm hG w_Law_74 d_Law_law_606 (ct_isBest h hb (by omega)) rfl rfl ⟨(Nat.le_of_ble_eq_true rfl), (Nat.le_of_ble_eq_true rfl)⟩ (hfM (by omega)) (Nat.le_of_ble_eq_true rfl) (fun v Sx hp => ?_)
      obtain ⟨hv, hp⟩ := hp
      subst hv
      refine r_wide hG (k := 138 + 6 * (k + 1)) (w := 680 + 5015 * (k + 1)) (by dsimp only; omega) ?_
      refine r_if_ne hG (hd := d_Law_law_609) (kt := fun _ => ?_) (kf := fun hh => absurd hh (by omega))
      exact r_sb hG (fin _ _ _ _ _ hp (by omega)) ⟨rfl, rfl, rfl, rfl, rfl, rfl, rfl, trivial⟩
    have c443 : G (138 + 6 * k, 680 + 5015 * k) 443 [(0, .ref (gX Γ).1), (1, rf Γ 0 0), (2, nt ns), (3, nt came), (4, nt swept), (5, nt sold), (6, nt k), (7, nt x), (8, nt y), (9, nt st)] [] S := by
      have l0 := wl st (by omega)
      have l1 : S 12 (2 * st) 0 ≤ 100000 := by
        have a := litN_mono wl w0' (ns - (st + 1)) (st + 1) (by omega)
        have b := litN_nn wl st (by omega)
        have c := (bM_in wT 6 (by decide)).1
        have d1 := h.2.2.2.2.1
        have d2 := h.2.2.2.2.2.2.2
        simp only [litN] at a
        have a : litN S 0 st + S 12 (2 * st) 0 ≤ litN S 0 ns := a
        omega
      have e0 : stF S (2 * st) 2 = S 12 (2 * st) 0 := rfl
      have e1 : stF (sweepS S st) (2 * st) 2 = 0 := by
        show sweepS S st 12 (2 * st) 0 = 0
        rw [sweep_12, if_pos rfl]
      refine r_aload_n hG (hl0 := rfl) (hd := d_Law_law_443) (K := ?_)
      refine r_iload hG (hl0 := rfl) (hd := d_Law_law_444) (K := ?_)
      refine r_iconst hG (hd := d_Law_law_446) (K := ?_)
      refine cVx hG w_Law_51 d_Law_law_447 (ct_ofStreet (w := 2) w0 (by omega) hst (by decide)) (by decide) (by decide) rc_0 rfl rfl ⟨(Nat.le_of_ble_eq_true rfl), (Nat.le_of_ble_eq_true rfl)⟩ (hfL (by omega)) (Nat.le_of_ble_eq_true rfl) ?_
      refine r_istore hG (hd := d_Law_law_450) (K := ?_)
      refine r_aload_n hG (hl0 := rfl) (hd := d_Law_law_452) (K := ?_)
      refine r_iload hG (hl0 := rfl) (hd := d_Law_law_453) (K := ?_)
      refine cVx hG w_Law_54 d_Law_law_455 (ct_sweep w0 (by omega) hst (by omega)) (by decide) (by decide) rc_0 rfl rfl ⟨(Nat.le_of_ble_eq_true rfl), (Nat.le_of_ble_eq_true rfl)⟩ (hfL (by omega)) (Nat.le_of_ble_eq_true rfl) ?_
      refine r_iload hG (hl0 := rfl) (hd := d_Law_law_458) (K := ?_)
      refine r_icmp_ne hG (hd := d_Law_law_460) (kt := fun hh => absurd hh (by omega)) (kf := fun _ => ?_)
      refine r_aload_n hG (hl0 := rfl) (hd := d_Law_law_463) (K := ?_)
      refine r_iload hG (hl0 := rfl) (hd := d_Law_law_464) (K := ?_)
      refine r_iconst hG (hd := d_Law_law_466) (K := ?_)
      refine cVx hG w_Law_51 d_Law_law_467 (ct_ofStreet (w := 2) (by rw [sweep_of S st (by decide)]; exact w0) (by omega) hst (by decide)) (by decide) (by decide) rc_0 rfl rfl ⟨(Nat.le_of_ble_eq_true rfl), (Nat.le_of_ble_eq_true rfl)⟩ (hfL (by omega)) (Nat.le_of_ble_eq_true rfl) ?_
      refine r_if_eq hG (hd := d_Law_law_470) (kt := fun _ => ?_) (kf := fun hh => absurd hh (by omega))
      refine r_iload hG (hl0 := rfl) (hd := d_Law_law_475) (K := ?_)
      refine r_iload hG (hl0 := rfl) (hd := d_Law_law_477) (K := ?_)
      first | refine r_iadd hG (hd := d_Law_law_479) (K := ?_) | refine r_iaddr hG (hd := d_Law_law_479) (K := ?_)
      refine r_istore hG (hd := d_Law_law_480) (K := ?_)
      rw [e0]
      refine r_goto hG (hd := d_Law_law_482) (K := ?_)
      exact r_sb hG (fin0 _ dn _ _ _ (LI_sweep h hst) (by omega)) ⟨rfl, rfl, rfl, rfl, rfl, rfl, rfl, trivial⟩
    have c394 : G (138 + 6 * k, 680 + 5015 * k) 394 [(0, .ref (gX Γ).1), (1, rf Γ 0 0), (2, nt ns), (3, nt came), (4, nt swept), (5, nt sold), (6, nt k), (7, nt x), (8, nt y), (9, nt st)] [] S := by
      have hi := belF_lt (shF x 4) (k := 2) (by decide)
      have hd7 := belF_lt y (k := 7) (by decide)
      obtain ⟨q, hq, e⟩ := (wL (belF (shF x 4) 2) (by omega)).2.2.1 (belF y 7) hd7
      have hc := LI_clear (i := belF (shF x 4) 2) (d := belF y 7) h
      refine r_aload_n hG (hl0 := rfl) (hd := d_Law_law_394) (K := ?_)
      refine r_iload hG (hl0 := rfl) (hd := d_Law_law_395) (K := ?_)
      refine r_iconst hG (hd := d_Law_law_397) (K := ?_)
      refine r_shr hG (hd := d_Law_law_398) (K := ?_)
      refine r_iconst hG (hd := d_Law_law_399) (K := ?_)
      refine cSx hG w_Law_18 d_Law_law_400 (ct_bel (k := 2) (by decide)) rfl rfl ⟨(Nat.le_of_ble_eq_true rfl), (Nat.le_of_ble_eq_true rfl)⟩ (hfL (by omega)) (Nat.le_of_ble_eq_true rfl) ?_
      refine r_iload hG (hl0 := rfl) (hd := d_Law_law_403) (K := ?_)
      refine r_bipush hG (hd := d_Law_law_405) (K := ?_)
      refine cSx hG w_Law_18 d_Law_law_407 (ct_bel (k := 7) (by decide)) rfl rfl ⟨(Nat.le_of_ble_eq_true rfl), (Nat.le_of_ble_eq_true rfl)⟩ (hfL (by omega)) (Nat.le_of_ble_eq_true rfl) ?_
      refine cVx hG w_Law_45 d_Law_law_410 (ct_clear w1 (by decide) hi hd7) (by decide) (by decide) rc_0 rfl rfl ⟨(Nat.le_of_ble_eq_true rfl), (Nat.le_of_ble_eq_true rfl)⟩ (hfL (by omega)) (Nat.le_of_ble_eq_true rfl) ?_
      refine r_if_lt hG (hd := d_Law_law_413) (kt := fun hh => absurd hh (by omega)) (kf := fun _ => ?_)
      refine r_aload_n hG (hl0 := rfl) (hd := d_Law_law_416) (K := ?_)
      refine r_iload hG (hl0 := rfl) (hd := d_Law_law_417) (K := ?_)
      refine r_iconst hG (hd := d_Law_law_419) (K := ?_)
      refine r_shr hG (hd := d_Law_law_420) (K := ?_)
      refine r_iconst hG (hd := d_Law_law_421) (K := ?_)
      refine cSx hG w_Law_18 d_Law_law_422 (ct_bel (k := 2) (by decide)) rfl rfl ⟨(Nat.le_of_ble_eq_true rfl), (Nat.le_of_ble_eq_true rfl)⟩ (hfL (by omega)) (Nat.le_of_ble_eq_true rfl) ?_
      refine r_iload hG (hl0 := rfl) (hd := d_Law_law_425) (K := ?_)
      refine r_bipush hG (hd := d_Law_law_427) (K := ?_)
      refine cSx hG w_Law_18 d_Law_law_429 (ct_bel (k := 7) (by decide)) rfl rfl ⟨(Nat.le_of_ble_eq_true rfl), (Nat.le_of_ble_eq_true rfl)⟩ (hfL (by omega)) (Nat.le_of_ble_eq_true rfl) ?_
      refine r_iload hG (hl0 := rfl) (hd := d_Law_law_432) (K := ?_)
      refine cVx hG w_Law_48 d_Law_law_434 (ct_round (n := 0) hc.1.1.1 (by omega) hc.1.2.1.1 (by decide) hi hd7 hst (by decide) sU_eq ((hc.1.2.2.2.2.1 _ (by omega)).2.2.2 _ hd7) (fun q hq => absurd hq (by omega))) (by decide) (by decide) rc_0 rfl rfl ⟨(Nat.le_of_ble_eq_true rfl), (Nat.le_of_ble_eq_true rfl)⟩ (hfL (by omega)) (Nat.le_of_ble_eq_true rfl) ?_
      refine r_iconst hG (hd := d_Law_law_437) (K := ?_)
      refine r_icmp_eq hG (hd := d_Law_law_438) (kt := fun _ => ?_) (kf := fun hh => absurd hh (by omega))
      exact r_sb hG (fin0 _ dn _ _ _ (LI_round hc sU_eq hst) (by omega)) ⟨rfl, rfl, rfl, rfl, rfl, rfl, rfl, trivial⟩
    have c328 : G (138 + 6 * k, 680 + 5015 * k) 328 [(0, .ref (gX Γ).1), (1, rf Γ 0 0), (2, nt ns), (3, nt came), (4, nt swept), (5, nt sold), (6, nt k), (7, nt x), (8, nt y), (9, nt st)] [] S := by
      have a1 := belF_lt y (k := 101) (by decide)
      have a2 := belF_lt (shF y 3) (k := 20) (by decide)
      have a3 := belF_lt (shF y 2) (k := 90) (by decide)
      have a4 := belF_lt (shF y 6) (k := 5) (by decide)
      have h1 := LI_set (f0 := 45) (z := (belF y 101 : Nat)) h (by omega)
      have h2 := LI_set (f0 := 46) (z := (belF (shF y 3) 20 : Nat)) h1 (by omega)
      have h3 := LI_set (f0 := 60) (z := (belF (shF y 2) 90 : Nat)) h2 (by omega)
      have h4 := LI_dirt (a := 2 * st) (z := (belF (shF y 6) 5 : Nat)) h3 (by omega)
      have o0 := wS.1
      have o1 := h1.1.2.2.2.2.2.2.2.1.2.1
      have o2 := h2.1.2.2.2.2.2.2.2.1.2.2.2.1
      have o3 := (h3.1.2.2.2.1 (2 * st) (by omega)).2.1
      refine r_aload_n hG (hl0 := rfl) (hd := d_Law_law_328) (K := ?_)
      refine r_iload hG (hl0 := rfl) (hd := d_Law_law_329) (K := ?_)
      refine r_bipush hG (hd := d_Law_law_331) (K := ?_)
      refine cSx hG w_Law_18 d_Law_law_333 (ct_bel (k := 101) (by decide)) rfl rfl ⟨(Nat.le_of_ble_eq_true rfl), (Nat.le_of_ble_eq_true rfl)⟩ (hfL (by omega)) (Nat.le_of_ble_eq_true rfl) ?_
      refine cVx hG w_Law_32 d_Law_law_336 (ct_eye (by omega)) (by decide) (by decide) rc_0 rfl rfl ⟨(Nat.le_of_ble_eq_true rfl), (Nat.le_of_ble_eq_true rfl)⟩ (hfL (by omega)) (Nat.le_of_ble_eq_true rfl) ?_
      refine r_if_lt hG (hd := d_Law_law_339) (kt := fun hh => absurd hh (by omega)) (kf := fun _ => ?_)
      refine r_aload_n hG (hl0 := rfl) (hd := d_Law_law_342) (K := ?_)
      refine r_iload hG (hl0 := rfl) (hd := d_Law_law_343) (K := ?_)
      refine r_iconst hG (hd := d_Law_law_345) (K := ?_)
      refine r_shr hG (hd := d_Law_law_346) (K := ?_)
      refine r_bipush hG (hd := d_Law_law_347) (K := ?_)
      refine cSx hG w_Law_18 d_Law_law_349 (ct_bel (k := 20) (by decide)) rfl rfl ⟨(Nat.le_of_ble_eq_true rfl), (Nat.le_of_ble_eq_true rfl)⟩ (hfL (by omega)) (Nat.le_of_ble_eq_true rfl) ?_
      refine cVx hG w_Law_36 d_Law_law_352 (ct_hand (by omega)) (by decide) (by decide) rc_0 rfl rfl ⟨(Nat.le_of_ble_eq_true rfl), (Nat.le_of_ble_eq_true rfl)⟩ (hfL (by omega)) (Nat.le_of_ble_eq_true rfl) ?_
      refine r_if_lt hG (hd := d_Law_law_355) (kt := fun hh => absurd hh (by omega)) (kf := fun _ => ?_)
      refine r_aload_n hG (hl0 := rfl) (hd := d_Law_law_358) (K := ?_)
      refine r_iload hG (hl0 := rfl) (hd := d_Law_law_359) (K := ?_)
      refine r_iconst hG (hd := d_Law_law_361) (K := ?_)
      refine r_shr hG (hd := d_Law_law_362) (K := ?_)
      refine r_bipush hG (hd := d_Law_law_363) (K := ?_)
      refine cSx hG w_Law_18 d_Law_law_365 (ct_bel (k := 90) (by decide)) rfl rfl ⟨(Nat.le_of_ble_eq_true rfl), (Nat.le_of_ble_eq_true rfl)⟩ (hfL (by omega)) (Nat.le_of_ble_eq_true rfl) ?_
      refine cVx hG w_Law_39 d_Law_law_368 (ct_oven (by omega)) (by decide) (by decide) rc_0 rfl rfl ⟨(Nat.le_of_ble_eq_true rfl), (Nat.le_of_ble_eq_true rfl)⟩ (hfL (by omega)) (Nat.le_of_ble_eq_true rfl) ?_
      refine r_if_lt hG (hd := d_Law_law_371) (kt := fun hh => absurd hh (by omega)) (kf := fun _ => ?_)
      refine r_aload_n hG (hl0 := rfl) (hd := d_Law_law_374) (K := ?_)
      refine r_iload hG (hl0 := rfl) (hd := d_Law_law_375) (K := ?_)
      refine r_iload hG (hl0 := rfl) (hd := d_Law_law_377) (K := ?_)
      refine r_bipush hG (hd := d_Law_law_379) (K := ?_)
      refine r_shr hG (hd := d_Law_law_381) (K := ?_)
      refine r_iconst hG (hd := d_Law_law_382) (K := ?_)
      refine cSx hG w_Law_18 d_Law_law_383 (ct_bel (k := 5) (by decide)) rfl rfl ⟨(Nat.le_of_ble_eq_true rfl), (Nat.le_of_ble_eq_true rfl)⟩ (hfL (by omega)) (Nat.le_of_ble_eq_true rfl) ?_
      refine cVx hG w_Law_42 d_Law_law_386 (ct_dirt h3.1.1.1 (by omega) hst (by omega)) (by decide) (by decide) rc_0 rfl rfl ⟨(Nat.le_of_ble_eq_true rfl), (Nat.le_of_ble_eq_true rfl)⟩ (hfL (by omega)) (Nat.le_of_ble_eq_true rfl) ?_
      refine r_if_ge hG (hd := d_Law_law_389) (kt := fun _ => ?_) (kf := fun hh => absurd hh (by omega))
      exact r_sb hG (fin0 _ dn _ _ _ h4 (by omega)) ⟨rfl, rfl, rfl, rfl, rfl, rfl, rfl, trivial⟩
    have c300 : G (138 + 6 * k, 680 + 5015 * k) 300 [(0, .ref (gX Γ).1), (1, rf Γ 0 0), (2, nt ns), (3, nt came), (4, nt swept), (5, nt sold), (6, nt k), (7, nt x), (8, nt y), (9, nt st)] [] S := by
      have a1 := belF_lt (shF y 3) (k := 3) (by decide)
      have a2 := belF_lt (shF y 5) (k := 10) (by decide)
      have o := (okst.2.2 _ a1).1
      refine r_aload_n hG (hl0 := rfl) (hd := d_Law_law_300) (K := ?_)
      refine r_iload hG (hl0 := rfl) (hd := d_Law_law_301) (K := ?_)
      refine r_iload hG (hl0 := rfl) (hd := d_Law_law_303) (K := ?_)
      refine r_iconst hG (hd := d_Law_law_305) (K := ?_)
      refine r_shr hG (hd := d_Law_law_306) (K := ?_)
      refine r_iconst hG (hd := d_Law_law_307) (K := ?_)
      refine cSx hG w_Law_18 d_Law_law_308 (ct_bel (k := 3) (by decide)) rfl rfl ⟨(Nat.le_of_ble_eq_true rfl), (Nat.le_of_ble_eq_true rfl)⟩ (hfL (by omega)) (Nat.le_of_ble_eq_true rfl) ?_
      refine r_iload hG (hl0 := rfl) (hd := d_Law_law_311) (K := ?_)
      refine r_iconst hG (hd := d_Law_law_313) (K := ?_)
      refine r_shr hG (hd := d_Law_law_314) (K := ?_)
      refine r_bipush hG (hd := d_Law_law_315) (K := ?_)
      refine cSx hG w_Law_18 d_Law_law_317 (ct_bel (k := 10) (by decide)) rfl rfl ⟨(Nat.le_of_ble_eq_true rfl), (Nat.le_of_ble_eq_true rfl)⟩ (hfL (by omega)) (Nat.le_of_ble_eq_true rfl) ?_
      refine cVx hG w_Law_25 d_Law_law_320 (ct_habit w0 (by omega) hst a1 (by omega)) (by decide) (by decide) rc_0 rfl rfl ⟨(Nat.le_of_ble_eq_true rfl), (Nat.le_of_ble_eq_true rfl)⟩ (hfL (by omega)) (Nat.le_of_ble_eq_true rfl) ?_
      refine r_if_ge hG (hd := d_Law_law_323) (kt := fun _ => ?_) (kf := fun hh => absurd hh (by omega))
      exact r_sb hG (fin0 _ dn _ _ _ (LI_habit h (by omega)) (by omega)) ⟨rfl, rfl, rfl, rfl, rfl, rfl, rfl, trivial⟩
    have c485 : G (138 + 6 * k, 680 + 5015 * k) 485 [(0, .ref (gX Γ).1), (1, rf Γ 0 0), (2, nt ns), (3, nt came), (4, nt swept), (5, nt sold), (6, nt k), (7, nt x), (8, nt y), (9, nt st)] [] S := by
      have m3 : maF S 3 = (nb : Int) := c2
      refine r_aload_n hG (hl0 := rfl) (hd := d_Law_law_485) (K := ?_)
      refine r_iconst hG (hd := d_Law_law_486) (K := ?_)
      refine cVx hG w_Law_57 d_Law_law_487 (ct_many (w := 3) w0 (by omega) w1 (by decide) c2 c1 c3 (by decide)) (by decide) (by decide) rc_0 rfl rfl ⟨(Nat.le_of_ble_eq_true rfl), (Nat.le_of_ble_eq_true rfl)⟩ (hfL (by omega)) (Nat.le_of_ble_eq_true rfl) ?_
      rw [m3]
      by_cases hnb : nb = 0
      · refine r_if_ne hG (hd := d_Law_law_490) (kt := fun hh => absurd hh (by omega)) (kf := fun _ => ?_)
        refine r_goto hG (hd := d_Law_law_493) (K := ?_)
        exact r_sb hG (fin0 _ dn _ _ _ h (by omega)) ⟨rfl, rfl, rfl, rfl, rfl, rfl, rfl, trivial⟩
      · refine r_if_ne hG (hd := d_Law_law_490) (kt := fun _ => ?_) (kf := fun hh => absurd hh (by omega))
        refine r_iload hG (hl0 := rfl) (hd := d_Law_law_496) (K := ?_)
        refine r_aload_n hG (hl0 := rfl) (hd := d_Law_law_498) (K := ?_)
        refine r_iconst hG (hd := d_Law_law_499) (K := ?_)
        refine cVx hG w_Law_57 d_Law_law_500 (ct_many (w := 3) w0 (by omega) w1 (by decide) c2 c1 c3 (by decide)) (by decide) (by decide) rc_0 rfl rfl ⟨(Nat.le_of_ble_eq_true rfl), (Nat.le_of_ble_eq_true rfl)⟩ (hfL (by omega)) (Nat.le_of_ble_eq_true rfl) ?_
        rw [m3]
        have hb := belF_lt y (k := nb) (by omega)
        refine cSx hG w_Law_18 d_Law_law_503 (ct_bel (k := nb) (by omega)) rfl rfl ⟨(Nat.le_of_ble_eq_true rfl), (Nat.le_of_ble_eq_true rfl)⟩ (hfL (by omega)) (Nat.le_of_ble_eq_true rfl) ?_
        generalize belF y nb = b at hb
        have e0 : baF S b 0 = S 55 b 0 := rfl
        have e1 : baF S b 1 = S 56 b 0 := rfl
        have e2 : baF S b 2 = S 57 b 0 := rfl
        obtain ⟨d1, d2, d3, d4, d5, d6⟩ := c4 b hb
        have d7 := c3 b (by omega)
        have c564 : ∀ S1 : St, LI S1 ns dn came swept sold → S1 52 0 0 = (nb : Int) → (0 ≤ S1 57 b 0 ∧ S1 57 b 0 ≤ 3) → G (138 + 6 * k, 680 + 5015 * k) 564 [(0, .ref (gX Γ).1), (1, rf Γ 0 0), (2, nt ns), (3, nt came), (4, nt swept), (5, nt sold), (6, nt k), (11, nt b)] [] S1 := by
          intro S1 h1 n1 r1
          have f2 : baF S1 b 2 = S1 57 b 0 := rfl
          by_cases hs : S1 57 b 0 = 2
          · obtain ⟨g1, g2⟩ := LI_open h1 n1 hb hs
            refine r_aload_n hG (hl0 := rfl) (hd := d_Law_law_564) (K := ?_)
            refine r_iload hG (hl0 := rfl) (hd := d_Law_law_565) (K := ?_)
            refine r_iconst hG (hd := d_Law_law_567) (K := ?_)
            refine cVx hG w_Law_60 d_Law_law_568 (ct_ofBale (w := 2) n1 c1 hb (by decide)) (by decide) (by decide) rc_0 rfl rfl ⟨(Nat.le_of_ble_eq_true rfl), (Nat.le_of_ble_eq_true rfl)⟩ (hfL (by omega)) (Nat.le_of_ble_eq_true rfl) ?_
            refine r_iconst hG (hd := d_Law_law_571) (K := ?_)
            refine r_icmp_ne hG (hd := d_Law_law_572) (kt := fun hh => absurd hh (by omega)) (kf := fun _ => ?_)
            refine r_aload_n hG (hl0 := rfl) (hd := d_Law_law_575) (K := ?_)
            refine r_iload hG (hl0 := rfl) (hd := d_Law_law_576) (K := ?_)
            refine cVx hG w_Law_67 d_Law_law_578 (ct_opn n1 c1 hb hs) (by decide) (by decide) rc_0 rfl rfl ⟨(Nat.le_of_ble_eq_true rfl), (Nat.le_of_ble_eq_true rfl)⟩ (hfL (by omega)) (Nat.le_of_ble_eq_true rfl) ?_
            refine r_bipush hG (hd := d_Law_law_581) (K := ?_)
            refine r_icmp_ge hG (hd := d_Law_law_583) (kt := fun _ => ?_) (kf := fun hh => absurd hh (by omega))
            exact r_sb hG (fin0 _ dn _ _ _ g1 (by omega)) ⟨rfl, rfl, rfl, rfl, rfl, rfl, rfl, trivial⟩
          · refine r_aload_n hG (hl0 := rfl) (hd := d_Law_law_564) (K := ?_)
            refine r_iload hG (hl0 := rfl) (hd := d_Law_law_565) (K := ?_)
            refine r_iconst hG (hd := d_Law_law_567) (K := ?_)
            refine cVx hG w_Law_60 d_Law_law_568 (ct_ofBale (w := 2) n1 c1 hb (by decide)) (by decide) (by decide) rc_0 rfl rfl ⟨(Nat.le_of_ble_eq_true rfl), (Nat.le_of_ble_eq_true rfl)⟩ (hfL (by omega)) (Nat.le_of_ble_eq_true rfl) ?_
            refine r_iconst hG (hd := d_Law_law_571) (K := ?_)
            refine r_icmp_ne hG (hd := d_Law_law_572) (kt := fun _ => ?_) (kf := fun hh => absurd hh (by omega))
            exact r_sb hG (fin0 _ dn _ _ _ h1 (by omega)) ⟨rfl, rfl, rfl, rfl, rfl, rfl, rfl, trivial⟩
        refine r_istore hG (hd := d_Law_law_506) (K := ?_)
        refine r_aload_n hG (hl0 := rfl) (hd := d_Law_law_508) (K := ?_)
        refine r_iload hG (hl0 := rfl) (hd := d_Law_law_509) (K := ?_)
        refine r_iconst hG (hd := d_Law_law_511) (K := ?_)
        refine cVx hG w_Law_60 d_Law_law_512 (ct_ofBale (w := 0) c2 c1 hb (by decide)) (by decide) (by decide) rc_0 rfl rfl ⟨(Nat.le_of_ble_eq_true rfl), (Nat.le_of_ble_eq_true rfl)⟩ (hfL (by omega)) (Nat.le_of_ble_eq_true rfl) ?_
        refine r_aload_n hG (hl0 := rfl) (hd := d_Law_law_515) (K := ?_)
        refine r_iload hG (hl0 := rfl) (hd := d_Law_law_516) (K := ?_)
        refine r_iconst hG (hd := d_Law_law_518) (K := ?_)
        refine cVx hG w_Law_60 d_Law_law_519 (ct_ofBale (w := 1) c2 c1 hb (by decide)) (by decide) (by decide) rc_0 rfl rfl ⟨(Nat.le_of_ble_eq_true rfl), (Nat.le_of_ble_eq_true rfl)⟩ (hfL (by omega)) (Nat.le_of_ble_eq_true rfl) ?_
        first | refine r_iadd hG (hd := d_Law_law_522) (K := ?_) | refine r_iaddr hG (hd := d_Law_law_522) (K := ?_)
        refine r_istore hG (hd := d_Law_law_523) (K := ?_)
        refine r_aload_n hG (hl0 := rfl) (hd := d_Law_law_525) (K := ?_)
        refine r_iload hG (hl0 := rfl) (hd := d_Law_law_526) (K := ?_)
        refine r_iconst hG (hd := d_Law_law_528) (K := ?_)
        refine cVx hG w_Law_60 d_Law_law_529 (ct_ofBale (w := 2) c2 c1 hb (by decide)) (by decide) (by decide) rc_0 rfl rfl ⟨(Nat.le_of_ble_eq_true rfl), (Nat.le_of_ble_eq_true rfl)⟩ (hfL (by omega)) (Nat.le_of_ble_eq_true rfl) ?_
        by_cases h57 : S 57 b 0 = 0
        · have a1 := belF_lt (shF y 4) (k := 20) (by decide)
          refine r_if_ne hG (hd := d_Law_law_532) (kt := fun hh => absurd hh (by omega)) (kf := fun _ => ?_)
          refine r_aload_n hG (hl0 := rfl) (hd := d_Law_law_535) (K := ?_)
          refine r_iload hG (hl0 := rfl) (hd := d_Law_law_536) (K := ?_)
          refine r_iload hG (hl0 := rfl) (hd := d_Law_law_538) (K := ?_)
          refine r_iconst hG (hd := d_Law_law_540) (K := ?_)
          refine r_shr hG (hd := d_Law_law_541) (K := ?_)
          refine r_bipush hG (hd := d_Law_law_542) (K := ?_)
          refine cSx hG w_Law_18 d_Law_law_544 (ct_bel (k := 20) (by decide)) rfl rfl ⟨(Nat.le_of_ble_eq_true rfl), (Nat.le_of_ble_eq_true rfl)⟩ (hfL (by omega)) (Nat.le_of_ble_eq_true rfl) ?_
          refine r_iconst hG (hd := d_Law_law_547) (K := ?_)
          refine cVx hG w_Law_63 d_Law_law_548 (ct_sell c2 c1 hb (by omega) (by decide) h57 (by omega)) (by decide) (by decide) rc_0 rfl rfl ⟨(Nat.le_of_ble_eq_true rfl), (Nat.le_of_ble_eq_true rfl)⟩ (hfL (by omega)) (Nat.le_of_ble_eq_true rfl) ?_
          by_cases hl : S 56 b 0 ≤ ((belF (shF y 4) 20 : Nat) : Int)
          · have eS : sellS S b ((belF (shF y 4) 20 : Nat) : Int) 5 = sU (sU S 57 b 0 1) 3 0 0 (S 3 0 0 + 5) := if_pos hl
            rw [if_pos hl, eS]
            have hsold := LI_bale (S' := sU (sU S 57 b 0 1) 3 0 0 (S 3 0 0 + 5)) (v := 1) h c2 hb h57 (Or.inl rfl) (fun hf => by rw [sU_f hf.2, sU_f hf.1]) (fun q => by
              rw [sU_f (by decide)]
              unfold sU
              by_cases hq : q = b <;> simp [hq])
            rw [if_pos rfl] at hsold
            refine r_if_eq hG (hd := d_Law_law_551) (kt := fun hh => absurd hh (by omega)) (kf := fun _ => ?_)
            refine r_iload hG (hl0 := rfl) (hd := d_Law_law_554) (K := ?_)
            refine r_iload hG (hl0 := rfl) (hd := d_Law_law_556) (K := ?_)
            first | refine r_iadd hG (hd := d_Law_law_558) (K := ?_) | refine r_iaddr hG (hd := d_Law_law_558) (K := ?_)
            rw [show sold + (baF S b 0 + baF S b 1) = sold + 40 by omega]
            refine r_istore hG (hd := d_Law_law_559) (K := ?_)
            refine r_goto hG (hd := d_Law_law_561) (K := ?_)
            exact r_sb hG (fin0 _ dn _ _ _ hsold (by omega)) ⟨rfl, rfl, rfl, rfl, rfl, rfl, rfl, trivial⟩
          · have eS : sellS S b ((belF (shF y 4) 20 : Nat) : Int) 5 = sU (sU S 57 b 0 2) 3 0 0 (S 3 0 0 + -15) := if_neg hl
            rw [if_neg hl, eS]
            have e57 : ∀ q, sU (sU S 57 b 0 2) 3 0 0 (S 3 0 0 + -15) 57 q 0 = if q = b then 2 else S 57 q 0 := fun q => by
              rw [sU_f (by decide)]
              unfold sU
              by_cases hq : q = b <;> simp [hq]
            have hret := LI_bale (S' := sU (sU S 57 b 0 2) 3 0 0 (S 3 0 0 + -15)) (v := 2) h c2 hb h57 (Or.inr rfl) (fun hf => by rw [sU_f hf.2, sU_f hf.1]) e57
            rw [if_neg (by decide), Int.add_zero] at hret
            refine r_if_eq hG (hd := d_Law_law_551) (kt := fun _ => ?_) (kf := fun hh => absurd hh (by omega))
            exact r_sb hG (c564 _ hret (by rw [sU_f (by decide), sU_f (by decide)]; exact c2) (by rw [e57, if_pos rfl]; decide)) ⟨rfl, rfl, rfl, rfl, rfl, rfl, rfl, rfl, trivial⟩
        · refine r_if_ne hG (hd := d_Law_law_532) (kt := fun _ => ?_) (kf := fun hh => absurd hh (by omega))
          exact r_sb hG (c564 S h c2 d7) ⟨rfl, rfl, rfl, rfl, rfl, rfl, rfl, rfl, trivial⟩
    obtain ⟨q, hq⟩ : ∃ q, belF x 12 = q := ⟨_, rfl⟩
    rw [hq] at hx12
    rw [hq]
    rcases (show q = 0 ∨ q = 1 ∨ q = 2 ∨ q = 3 ∨ q = 4 ∨ q = 5 ∨ q = 6 ∨ q = 7 ∨ q = 8 ∨ q = 9 ∨ q = 10 ∨ q = 11 by omega) with rfl | rfl | rfl | rfl | rfl | rfl | rfl | rfl | rfl | rfl | rfl | rfl
    · refine r_tsIn hG (tgt := 300) (off := 51) (hd := d_Law_law_249) (h := by decide +kernel) (K := ?_)
      exact r_sb hG (c300) ⟨rfl, rfl, rfl, rfl, rfl, rfl, rfl, rfl, rfl, rfl, trivial⟩
    · refine r_tsIn hG (tgt := 328) (off := 79) (hd := d_Law_law_249) (h := by decide +kernel) (K := ?_)
      exact r_sb hG (c328) ⟨rfl, rfl, rfl, rfl, rfl, rfl, rfl, rfl, rfl, rfl, trivial⟩
    · refine r_tsIn hG (tgt := 394) (off := 145) (hd := d_Law_law_249) (h := by decide +kernel) (K := ?_)
      exact r_sb hG (c394) ⟨rfl, rfl, rfl, rfl, rfl, rfl, rfl, rfl, rfl, rfl, trivial⟩
    · refine r_tsIn hG (tgt := 394) (off := 145) (hd := d_Law_law_249) (h := by decide +kernel) (K := ?_)
      exact r_sb hG (c394) ⟨rfl, rfl, rfl, rfl, rfl, rfl, rfl, rfl, rfl, rfl, trivial⟩
    · refine r_tsIn hG (tgt := 443) (off := 194) (hd := d_Law_law_249) (h := by decide +kernel) (K := ?_)
      exact r_sb hG (c443) ⟨rfl, rfl, rfl, rfl, rfl, rfl, rfl, rfl, rfl, rfl, trivial⟩
    · refine r_tsIn hG (tgt := 485) (off := 236) (hd := d_Law_law_249) (h := by decide +kernel) (K := ?_)
      exact r_sb hG (c485) ⟨rfl, rfl, rfl, rfl, rfl, rfl, rfl, rfl, rfl, rfl, trivial⟩
    · refine r_tsIn hG (tgt := 485) (off := 236) (hd := d_Law_law_249) (h := by decide +kernel) (K := ?_)
      exact r_sb hG (c485) ⟨rfl, rfl, rfl, rfl, rfl, rfl, rfl, rfl, rfl, rfl, trivial⟩
    · refine r_tsIn hG (tgt := 588) (off := 339) (hd := d_Law_law_249) (h := by decide +kernel) (K := ?_)
      exact r_sb hG (c588) ⟨rfl, rfl, rfl, rfl, rfl, rfl, rfl, rfl, rfl, rfl, trivial⟩
    · refine r_tsIn hG (tgt := 588) (off := 339) (hd := d_Law_law_249) (h := by decide +kernel) (K := ?_)
      exact r_sb hG (c588) ⟨rfl, rfl, rfl, rfl, rfl, rfl, rfl, rfl, rfl, rfl, trivial⟩
    · refine r_tsOut hG (tgt := 614) (hd := d_Law_law_249) (h := by decide +kernel) (K := ?_)
      exact r_sb hG (c614) ⟨rfl, rfl, rfl, rfl, rfl, rfl, rfl, rfl, rfl, rfl, trivial⟩
    · refine r_tsOut hG (tgt := 614) (hd := d_Law_law_249) (h := by decide +kernel) (K := ?_)
      exact r_sb hG (c614) ⟨rfl, rfl, rfl, rfl, rfl, rfl, rfl, rfl, rfl, rfl, trivial⟩
    · refine r_tsOut hG (tgt := 614) (hd := d_Law_law_249) (h := by decide +kernel) (K := ?_)
      exact r_sb hG (c614) ⟨rfl, rfl, rfl, rfl, rfl, rfl, rfl, rfl, rfl, rfl, trivial⟩
end LT
