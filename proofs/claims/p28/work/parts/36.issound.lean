theorem used_in {S : St} {r : Nat} (h : HI S) (hM : HM S ≤ 900000) : 0 ≤ usedF S r ∧ usedF S r < 10000000 := by
  have le := HI_le h
  obtain ⟨n, a1, a2, a3, a4, a5⟩ := id h.1
  have nn := BL_nn h.1
  have c1 := cnt_in S 1 n
  have cs : ∀ k, k ≤ 20 → 0 ≤ cleanSold S k ∧ cleanSold S k ≤ balK S k := by
    intro k
    induction k with
    | zero => intro _; simp [cleanSold, balK]
    | succ k ih =>
      intro hk
      have ih := ih (by omega)
      have x := nn k (by omega)
      simp only [cleanSold, balK]
      split <;> omega
  have cn := cs n a1
  have bl := balK_le nn (show 20 ≤ 20 by decide) (20 - n) n (by omega)
  have hb20 : balK S 20 ≤ HM S := by
    obtain ⟨-, x2, x3, x4, x5, x6, x7⟩ := h
    unfold HM
    omega
  obtain ⟨-, x2, x3, x4, x5, x6, x7⟩ := h
  unfold usedF
  rw [a2, Int.toNat_natCast]
  split
  · omega
  · split <;> omega
theorem used_21 {S : St} (h : HI S) : usedF S 1 ≤ usedF S 2 := by
  obtain ⟨-, x2, x3, x4, x5, x6, x7⟩ := h
  show (if (1 : Nat) = 0 then _ else if (1 : Nat) = 1 then _ else _) ≤ (if (2 : Nat) = 0 then _ else if (2 : Nat) = 1 then _ else _)
  rw [if_neg (by decide), if_pos rfl, if_neg (by decide), if_neg (by decide)]
  omega
theorem ra_in {S : St} {r nl : Nat} (hl : S 1 0 0 = (nl : Int)) (hf : 0 ≤ fetN S nl) (hu : 0 ≤ usedF S r ∧ usedF S r < 10000000) : 0 ≤ raF S r ∧ raF S r ≤ 1000000000 := by
  unfold raF
  rw [hl, Int.toNat_natCast]
  split
  · omega
  · refine ⟨Int.ediv_nonneg (by omega) (by omega), ?_⟩
    have := Int.ediv_le_self (fetN S nl) (show 0 ≤ 100 * usedF S r by omega)
    omega
theorem ct_isSound {Γ : Gm} {S : St} {ns dn : Nat} {came swept sold : Int} (h : LI S ns dn came swept sold) : CT Γ y_Law_isSound b_Law_isSound 12 ((some FieldType.boolean)) (rmx 4 0 0) [rf Γ 0 0, nt ns, nt came, nt swept, nt sold] S (dX (some (nt 1)) S) := by
  have hin := LI_in h
  obtain ⟨W, hns, hR, h87, hcame, hHM, hsold, hpos, hcd⟩ := h
  obtain ⟨⟨h0, hns6⟩, ⟨h1, hnl⟩, ⟨h2, hdn⟩, hT, hL, hMk, hI, hS, hz, hlit⟩ := W
  obtain ⟨nb, b1, b2, b3, b4, b5⟩ := id hI.1
  have nn := BL_nn hI.1
  have le := HI_le hI
  have m0 : maF S 0 = (dn : Int) := h2
  have m1 : maF S 1 = S 50 0 0 := rfl
  have m2 : maF S 2 = S 51 0 0 := rfl
  have m3 : maF S 3 = (nb : Int) := b2
  have m4 : maF S 4 = cntIn S 0 nb := by show cntIn S 0 (S 52 0 0).toNat = _; rw [b2, Int.toNat_natCast]
  have m5 : maF S 5 = S 65 0 0 := rfl
  have m6 : maF S 6 = S 66 0 0 := rfl
  have m7 : maF S 7 = S 67 0 0 := rfl
  have m8 : maF S 8 = S 68 0 0 := rfl
  have m9 : maF S 9 = S 70 0 0 := rfl
  have m10 : maF S 10 = S 71 0 0 := rfl
  have m11 : maF S 11 = S 72 0 0 := rfl
  have m12 : maF S 12 = S 62 0 0 := rfl
  have m13 : maF S 13 = S 63 0 0 := rfl
  have m14 : maF S 14 = S 64 0 0 := rfl
  have m16 : maF S 16 = fetN S 2 := by show fetN S (S 1 0 0).toNat = _; rw [h1]; rfl
  have m17 : maF S 17 = litN S 0 ns := by show litN S 0 (S 0 0 0).toNat = _; rw [h0, Int.toNat_natCast]
  have l0 : loF S 0 6 = S 24 0 0 := rfl
  have l1 : loF S 1 6 = S 24 1 0 := rfl
  have f2 : fetN S 2 = S 24 0 0 + S 24 1 0 := by simp [fetN]
  have bend := bM_end hz (6 - ns) ns (by omega) (Nat.le_refl _)
  have kend := balK_end hI.1 b2 (20 - nb) nb (by omega) (Nat.le_refl _)
  have sle := sold_le hI.1 20 (Nat.le_refl _)
  have bin := bM_in hT
  have lin := litN_nn hlit
  have mono : ∀ k, k ≤ ns → litN S 0 k ≤ litN S 0 ns := fun k hk => litN_mono hlit hns6 (ns - k) k (by omega)
  have lmax : litN S 0 ns ≤ 80000 := by
    have := (bin 6 (by decide)).1
    omega
  have bkm : ∀ k, k ≤ nb → 0 ≤ balK S k ∧ balK S k ≤ 80000 := fun k hk => by
    have a := balK_le nn (show 20 ≤ 20 by decide) (20 - k) k (by omega)
    have b := balK_nn nn k (by omega)
    have c : balK S 20 ≤ HM S := by
      obtain ⟨-, x2, x3, x4, x5, x6, x7⟩ := hI
      unfold HM
      omega
    omega
  refine CT.of (by first | exact plainFor_of_name (by rfl) | decide +kernel) (Nat.le_of_ble_eq_true rfl) ?_
  intro G hG
  show G (0, 0) 0 [(0, rf Γ 0 0), (1, nt ns), (2, nt came), (3, nt swept), (4, nt sold)] [] _
  -- the end
  have fin : G (0, 0) 252 [(0, rf Γ 0 0), (1, nt ns), (2, nt came), (3, nt swept), (4, nt sold), (5, nt (bM S 0 ns)), (6, nt (litN S 0 ns)), (7, nt (balK S nb)), (8, nt (cntIn S 0 nb))] [] S := by
    have hHM2 : HM S = balK S 20 + S 50 0 0 + S 51 0 0 + S 65 0 0 + S 66 0 0 + S 67 0 0 + S 68 0 0 + S 70 0 0 + S 72 0 0 + S 62 0 0 - S 63 0 0 := rfl
    obtain ⟨-, x2, x3, x4, x5, x6, x7⟩ := id hI
    have u1 := used_in (r := 1) hI (by omega)
    have u2 := used_in (r := 2) hI (by omega)
    have u12 := raF_mono (used_21 hI)
    have q1 := ra_in h1 hpos.2.1 u1
    have q2 := ra_in h1 hpos.2.1 u2
    have hfm : fetN S 2 < 10000000 := by omega
    have c4 := cnt_in S 0 nb
    have c1 := cnt_in S 1 20
    have lnn := lin ns (by omega)
    refine r_iload hG (hl0 := rfl) (hd := d_Law_isSound_252) (K := ?_)
    refine r_aload_n hG (hl0 := rfl) (hd := d_Law_isSound_254) (K := ?_)
    refine r_bipush hG (hd := d_Law_isSound_255) (K := ?_)
    refine cVx hG w_Law_57 d_Law_isSound_257 (ct_many (w := 17) h0 hns6 h1 hnl b2 b1 b3 (by decide)) (by decide) (by decide) rc_0 rfl rfl ⟨(Nat.le_of_ble_eq_true rfl), (Nat.le_of_ble_eq_true rfl)⟩ ⟨(Nat.le_of_ble_eq_true rfl), (Nat.le_of_ble_eq_true rfl)⟩ (Nat.le_of_ble_eq_true rfl) ?_
    refine r_icmp_ne hG (hd := d_Law_isSound_260) (kt := fun hh => absurd hh (by omega)) (kf := fun _ => ?_)
    refine r_iload hG (hl0 := rfl) (hd := d_Law_isSound_263) (K := ?_)
    refine r_aload_n hG (hl0 := rfl) (hd := d_Law_isSound_265) (K := ?_)
    refine r_iconst hG (hd := d_Law_isSound_266) (K := ?_)
    refine cVx hG w_Law_57 d_Law_isSound_267 (ct_many (w := 4) h0 hns6 h1 hnl b2 b1 b3 (by decide)) (by decide) (by decide) rc_0 rfl rfl ⟨(Nat.le_of_ble_eq_true rfl), (Nat.le_of_ble_eq_true rfl)⟩ ⟨(Nat.le_of_ble_eq_true rfl), (Nat.le_of_ble_eq_true rfl)⟩ (Nat.le_of_ble_eq_true rfl) ?_
    refine r_icmp_ne hG (hd := d_Law_isSound_270) (kt := fun hh => absurd hh (by omega)) (kf := fun _ => ?_)
    refine r_iload_n hG (hl0 := rfl) (hd := d_Law_isSound_273) (K := ?_)
    refine r_iload hG (hl0 := rfl) (hd := d_Law_isSound_274) (K := ?_)
    refine r_iload hG (hl0 := rfl) (hd := d_Law_isSound_276) (K := ?_)
    first | refine r_iadd hG (hd := d_Law_isSound_278) (K := ?_) | refine r_iaddr hG (hd := d_Law_isSound_278) (K := ?_)
    refine r_iload_n hG (hl0 := rfl) (hd := d_Law_isSound_279) (K := ?_)
    first | refine r_iadd hG (hd := d_Law_isSound_280) (K := ?_) | refine r_iaddr hG (hd := d_Law_isSound_280) (K := ?_)
    refine r_aload_n hG (hl0 := rfl) (hd := d_Law_isSound_281) (K := ?_)
    refine r_bipush hG (hd := d_Law_isSound_282) (K := ?_)
    refine cVx hG w_Law_57 d_Law_isSound_284 (ct_many (w := 16) h0 hns6 h1 hnl b2 b1 b3 (by decide)) (by decide) (by decide) rc_0 rfl rfl ⟨(Nat.le_of_ble_eq_true rfl), (Nat.le_of_ble_eq_true rfl)⟩ ⟨(Nat.le_of_ble_eq_true rfl), (Nat.le_of_ble_eq_true rfl)⟩ (Nat.le_of_ble_eq_true rfl) ?_
    first | refine r_iadd hG (hd := d_Law_isSound_287) (K := ?_) | refine r_iaddr hG (hd := d_Law_isSound_287) (K := ?_)
    refine r_icmp_ne hG (hd := d_Law_isSound_288) (kt := fun hh => absurd hh (by omega)) (kf := fun _ => ?_)
    refine r_aload_n hG (hl0 := rfl) (hd := d_Law_isSound_291) (K := ?_)
    refine r_bipush hG (hd := d_Law_isSound_292) (K := ?_)
    refine cVx hG w_Law_57 d_Law_isSound_294 (ct_many (w := 16) h0 hns6 h1 hnl b2 b1 b3 (by decide)) (by decide) (by decide) rc_0 rfl rfl ⟨(Nat.le_of_ble_eq_true rfl), (Nat.le_of_ble_eq_true rfl)⟩ ⟨(Nat.le_of_ble_eq_true rfl), (Nat.le_of_ble_eq_true rfl)⟩ (Nat.le_of_ble_eq_true rfl) ?_
    refine r_aload_n hG (hl0 := rfl) (hd := d_Law_isSound_297) (K := ?_)
    refine r_iconst hG (hd := d_Law_isSound_298) (K := ?_)
    refine r_bipush hG (hd := d_Law_isSound_299) (K := ?_)
    refine cVx hG w_Law_116 d_Law_isSound_301 (ct_ofLorry (k := 0) (w := 6) h1 hnl (by decide) (by decide)) (by decide) (by decide) rc_0 rfl rfl ⟨(Nat.le_of_ble_eq_true rfl), (Nat.le_of_ble_eq_true rfl)⟩ ⟨(Nat.le_of_ble_eq_true rfl), (Nat.le_of_ble_eq_true rfl)⟩ (Nat.le_of_ble_eq_true rfl) ?_
    refine r_aload_n hG (hl0 := rfl) (hd := d_Law_isSound_304) (K := ?_)
    refine r_iconst hG (hd := d_Law_isSound_305) (K := ?_)
    refine r_bipush hG (hd := d_Law_isSound_306) (K := ?_)
    refine cVx hG w_Law_116 d_Law_isSound_308 (ct_ofLorry (k := 1) (w := 6) h1 hnl (by decide) (by decide)) (by decide) (by decide) rc_0 rfl rfl ⟨(Nat.le_of_ble_eq_true rfl), (Nat.le_of_ble_eq_true rfl)⟩ ⟨(Nat.le_of_ble_eq_true rfl), (Nat.le_of_ble_eq_true rfl)⟩ (Nat.le_of_ble_eq_true rfl) ?_
    first | refine r_iadd hG (hd := d_Law_isSound_311) (K := ?_) | refine r_iaddr hG (hd := d_Law_isSound_311) (K := ?_)
    refine r_icmp_eq hG (hd := d_Law_isSound_312) (kt := fun _ => ?_) (kf := fun hh => absurd hh (by omega))
    refine r_iload hG (hl0 := rfl) (hd := d_Law_isSound_317) (K := ?_)
    refine r_aload_n hG (hl0 := rfl) (hd := d_Law_isSound_319) (K := ?_)
    refine r_iconst hG (hd := d_Law_isSound_320) (K := ?_)
    refine cVx hG w_Law_57 d_Law_isSound_321 (ct_many (w := 1) h0 hns6 h1 hnl b2 b1 b3 (by decide)) (by decide) (by decide) rc_0 rfl rfl ⟨(Nat.le_of_ble_eq_true rfl), (Nat.le_of_ble_eq_true rfl)⟩ ⟨(Nat.le_of_ble_eq_true rfl), (Nat.le_of_ble_eq_true rfl)⟩ (Nat.le_of_ble_eq_true rfl) ?_
    first | refine r_iadd hG (hd := d_Law_isSound_324) (K := ?_) | refine r_iaddr hG (hd := d_Law_isSound_324) (K := ?_)
    refine r_aload_n hG (hl0 := rfl) (hd := d_Law_isSound_325) (K := ?_)
    refine r_iconst hG (hd := d_Law_isSound_326) (K := ?_)
    refine cVx hG w_Law_57 d_Law_isSound_327 (ct_many (w := 2) h0 hns6 h1 hnl b2 b1 b3 (by decide)) (by decide) (by decide) rc_0 rfl rfl ⟨(Nat.le_of_ble_eq_true rfl), (Nat.le_of_ble_eq_true rfl)⟩ ⟨(Nat.le_of_ble_eq_true rfl), (Nat.le_of_ble_eq_true rfl)⟩ (Nat.le_of_ble_eq_true rfl) ?_
    first | refine r_iadd hG (hd := d_Law_isSound_330) (K := ?_) | refine r_iaddr hG (hd := d_Law_isSound_330) (K := ?_)
    refine r_aload_n hG (hl0 := rfl) (hd := d_Law_isSound_331) (K := ?_)
    refine r_iconst hG (hd := d_Law_isSound_332) (K := ?_)
    refine cVx hG w_Law_57 d_Law_isSound_333 (ct_many (w := 5) h0 hns6 h1 hnl b2 b1 b3 (by decide)) (by decide) (by decide) rc_0 rfl rfl ⟨(Nat.le_of_ble_eq_true rfl), (Nat.le_of_ble_eq_true rfl)⟩ ⟨(Nat.le_of_ble_eq_true rfl), (Nat.le_of_ble_eq_true rfl)⟩ (Nat.le_of_ble_eq_true rfl) ?_
    first | refine r_iadd hG (hd := d_Law_isSound_336) (K := ?_) | refine r_iaddr hG (hd := d_Law_isSound_336) (K := ?_)
    refine r_aload_n hG (hl0 := rfl) (hd := d_Law_isSound_337) (K := ?_)
    refine r_bipush hG (hd := d_Law_isSound_338) (K := ?_)
    refine cVx hG w_Law_57 d_Law_isSound_340 (ct_many (w := 6) h0 hns6 h1 hnl b2 b1 b3 (by decide)) (by decide) (by decide) rc_0 rfl rfl ⟨(Nat.le_of_ble_eq_true rfl), (Nat.le_of_ble_eq_true rfl)⟩ ⟨(Nat.le_of_ble_eq_true rfl), (Nat.le_of_ble_eq_true rfl)⟩ (Nat.le_of_ble_eq_true rfl) ?_
    first | refine r_iadd hG (hd := d_Law_isSound_343) (K := ?_) | refine r_iaddr hG (hd := d_Law_isSound_343) (K := ?_)
    refine r_aload_n hG (hl0 := rfl) (hd := d_Law_isSound_344) (K := ?_)
    refine r_bipush hG (hd := d_Law_isSound_345) (K := ?_)
    refine cVx hG w_Law_57 d_Law_isSound_347 (ct_many (w := 7) h0 hns6 h1 hnl b2 b1 b3 (by decide)) (by decide) (by decide) rc_0 rfl rfl ⟨(Nat.le_of_ble_eq_true rfl), (Nat.le_of_ble_eq_true rfl)⟩ ⟨(Nat.le_of_ble_eq_true rfl), (Nat.le_of_ble_eq_true rfl)⟩ (Nat.le_of_ble_eq_true rfl) ?_
    first | refine r_iadd hG (hd := d_Law_isSound_350) (K := ?_) | refine r_iaddr hG (hd := d_Law_isSound_350) (K := ?_)
    refine r_aload_n hG (hl0 := rfl) (hd := d_Law_isSound_351) (K := ?_)
    refine r_bipush hG (hd := d_Law_isSound_352) (K := ?_)
    refine cVx hG w_Law_57 d_Law_isSound_354 (ct_many (w := 8) h0 hns6 h1 hnl b2 b1 b3 (by decide)) (by decide) (by decide) rc_0 rfl rfl ⟨(Nat.le_of_ble_eq_true rfl), (Nat.le_of_ble_eq_true rfl)⟩ ⟨(Nat.le_of_ble_eq_true rfl), (Nat.le_of_ble_eq_true rfl)⟩ (Nat.le_of_ble_eq_true rfl) ?_
    first | refine r_iadd hG (hd := d_Law_isSound_357) (K := ?_) | refine r_iaddr hG (hd := d_Law_isSound_357) (K := ?_)
    refine r_aload_n hG (hl0 := rfl) (hd := d_Law_isSound_358) (K := ?_)
    refine r_bipush hG (hd := d_Law_isSound_359) (K := ?_)
    refine cVx hG w_Law_57 d_Law_isSound_361 (ct_many (w := 9) h0 hns6 h1 hnl b2 b1 b3 (by decide)) (by decide) (by decide) rc_0 rfl rfl ⟨(Nat.le_of_ble_eq_true rfl), (Nat.le_of_ble_eq_true rfl)⟩ ⟨(Nat.le_of_ble_eq_true rfl), (Nat.le_of_ble_eq_true rfl)⟩ (Nat.le_of_ble_eq_true rfl) ?_
    first | refine r_iadd hG (hd := d_Law_isSound_364) (K := ?_) | refine r_iaddr hG (hd := d_Law_isSound_364) (K := ?_)
    refine r_aload_n hG (hl0 := rfl) (hd := d_Law_isSound_365) (K := ?_)
    refine r_bipush hG (hd := d_Law_isSound_366) (K := ?_)
    refine cVx hG w_Law_57 d_Law_isSound_368 (ct_many (w := 11) h0 hns6 h1 hnl b2 b1 b3 (by decide)) (by decide) (by decide) rc_0 rfl rfl ⟨(Nat.le_of_ble_eq_true rfl), (Nat.le_of_ble_eq_true rfl)⟩ ⟨(Nat.le_of_ble_eq_true rfl), (Nat.le_of_ble_eq_true rfl)⟩ (Nat.le_of_ble_eq_true rfl) ?_
    first | refine r_iadd hG (hd := d_Law_isSound_371) (K := ?_) | refine r_iaddr hG (hd := d_Law_isSound_371) (K := ?_)
    refine r_aload_n hG (hl0 := rfl) (hd := d_Law_isSound_372) (K := ?_)
    refine r_bipush hG (hd := d_Law_isSound_373) (K := ?_)
    refine cVx hG w_Law_57 d_Law_isSound_375 (ct_many (w := 12) h0 hns6 h1 hnl b2 b1 b3 (by decide)) (by decide) (by decide) rc_0 rfl rfl ⟨(Nat.le_of_ble_eq_true rfl), (Nat.le_of_ble_eq_true rfl)⟩ ⟨(Nat.le_of_ble_eq_true rfl), (Nat.le_of_ble_eq_true rfl)⟩ (Nat.le_of_ble_eq_true rfl) ?_
    first | refine r_iadd hG (hd := d_Law_isSound_378) (K := ?_) | refine r_iaddr hG (hd := d_Law_isSound_378) (K := ?_)
    refine r_aload_n hG (hl0 := rfl) (hd := d_Law_isSound_379) (K := ?_)
    refine r_bipush hG (hd := d_Law_isSound_380) (K := ?_)
    refine cVx hG w_Law_57 d_Law_isSound_382 (ct_many (w := 13) h0 hns6 h1 hnl b2 b1 b3 (by decide)) (by decide) (by decide) rc_0 rfl rfl ⟨(Nat.le_of_ble_eq_true rfl), (Nat.le_of_ble_eq_true rfl)⟩ ⟨(Nat.le_of_ble_eq_true rfl), (Nat.le_of_ble_eq_true rfl)⟩ (Nat.le_of_ble_eq_true rfl) ?_
    first | refine r_isub hG (hd := d_Law_isSound_385) (K := ?_) | refine r_isubr hG (hd := d_Law_isSound_385) (K := ?_)
    refine r_istore hG (hd := d_Law_isSound_386) (K := ?_)
    refine r_iload hG (hl0 := rfl) (hd := d_Law_isSound_388) (K := ?_)
    refine r_aload_n hG (hl0 := rfl) (hd := d_Law_isSound_390) (K := ?_)
    refine r_bipush hG (hd := d_Law_isSound_391) (K := ?_)
    refine cVx hG w_Law_57 d_Law_isSound_393 (ct_many (w := 16) h0 hns6 h1 hnl b2 b1 b3 (by decide)) (by decide) (by decide) rc_0 rfl rfl ⟨(Nat.le_of_ble_eq_true rfl), (Nat.le_of_ble_eq_true rfl)⟩ ⟨(Nat.le_of_ble_eq_true rfl), (Nat.le_of_ble_eq_true rfl)⟩ (Nat.le_of_ble_eq_true rfl) ?_
    refine r_iload_n hG (hl0 := rfl) (hd := d_Law_isSound_396) (K := ?_)
    first | refine r_iadd hG (hd := d_Law_isSound_397) (K := ?_) | refine r_iaddr hG (hd := d_Law_isSound_397) (K := ?_)
    refine r_icmp_ne hG (hd := d_Law_isSound_398) (kt := fun hh => absurd hh (by omega)) (kf := fun _ => ?_)
    refine r_aload_n hG (hl0 := rfl) (hd := d_Law_isSound_401) (K := ?_)
    refine r_bipush hG (hd := d_Law_isSound_402) (K := ?_)
    refine cVx hG w_Law_57 d_Law_isSound_404 (ct_many (w := 10) h0 hns6 h1 hnl b2 b1 b3 (by decide)) (by decide) (by decide) rc_0 rfl rfl ⟨(Nat.le_of_ble_eq_true rfl), (Nat.le_of_ble_eq_true rfl)⟩ ⟨(Nat.le_of_ble_eq_true rfl), (Nat.le_of_ble_eq_true rfl)⟩ (Nat.le_of_ble_eq_true rfl) ?_
    refine r_aload_n hG (hl0 := rfl) (hd := d_Law_isSound_407) (K := ?_)
    refine r_bipush hG (hd := d_Law_isSound_408) (K := ?_)
    refine cVx hG w_Law_57 d_Law_isSound_410 (ct_many (w := 9) h0 hns6 h1 hnl b2 b1 b3 (by decide)) (by decide) (by decide) rc_0 rfl rfl ⟨(Nat.le_of_ble_eq_true rfl), (Nat.le_of_ble_eq_true rfl)⟩ ⟨(Nat.le_of_ble_eq_true rfl), (Nat.le_of_ble_eq_true rfl)⟩ (Nat.le_of_ble_eq_true rfl) ?_
    refine r_icmp_gt hG (hd := d_Law_isSound_413) (kt := fun hh => absurd hh (by omega)) (kf := fun _ => ?_)
    refine r_iload hG (hl0 := rfl) (hd := d_Law_isSound_416) (K := ?_)
    refine r_iload hG (hl0 := rfl) (hd := d_Law_isSound_418) (K := ?_)
    refine r_icmp_gt hG (hd := d_Law_isSound_420) (kt := fun hh => absurd hh (by omega)) (kf := fun _ => ?_)
    refine r_aload_n hG (hl0 := rfl) (hd := d_Law_isSound_423) (K := ?_)
    refine r_bipush hG (hd := d_Law_isSound_424) (K := ?_)
    refine cVx hG w_Law_57 d_Law_isSound_426 (ct_many (w := 14) h0 hns6 h1 hnl b2 b1 b3 (by decide)) (by decide) (by decide) rc_0 rfl rfl ⟨(Nat.le_of_ble_eq_true rfl), (Nat.le_of_ble_eq_true rfl)⟩ ⟨(Nat.le_of_ble_eq_true rfl), (Nat.le_of_ble_eq_true rfl)⟩ (Nat.le_of_ble_eq_true rfl) ?_
    refine r_iconst hG (hd := d_Law_isSound_429) (K := ?_)
    refine r_aload_n hG (hl0 := rfl) (hd := d_Law_isSound_430) (K := ?_)
    refine r_bipush hG (hd := d_Law_isSound_431) (K := ?_)
    refine cVx hG w_Law_57 d_Law_isSound_433 (ct_many (w := 12) h0 hns6 h1 hnl b2 b1 b3 (by decide)) (by decide) (by decide) rc_0 rfl rfl ⟨(Nat.le_of_ble_eq_true rfl), (Nat.le_of_ble_eq_true rfl)⟩ ⟨(Nat.le_of_ble_eq_true rfl), (Nat.le_of_ble_eq_true rfl)⟩ (Nat.le_of_ble_eq_true rfl) ?_
    refine r_imul hG (hd := d_Law_isSound_436) (K := ?_)
    refine r_icmp_ne hG (hd := d_Law_isSound_437) (kt := fun hh => absurd hh (by omega)) (kf := fun _ => ?_)
    refine r_aload_n hG (hl0 := rfl) (hd := d_Law_isSound_440) (K := ?_)
    refine r_iconst hG (hd := d_Law_isSound_441) (K := ?_)
    refine cVx hG w_Law_120 d_Law_isSound_442 (ct_rate (r := 2) h1 hnl b2 b1 b3 (by decide) ⟨hpos.2.1, hfm⟩ u2) (by decide) (by decide) rc_0 rfl rfl ⟨(Nat.le_of_ble_eq_true rfl), (Nat.le_of_ble_eq_true rfl)⟩ ⟨(Nat.le_of_ble_eq_true rfl), (Nat.le_of_ble_eq_true rfl)⟩ (Nat.le_of_ble_eq_true rfl) ?_
    refine r_aload_n hG (hl0 := rfl) (hd := d_Law_isSound_445) (K := ?_)
    refine r_iconst hG (hd := d_Law_isSound_446) (K := ?_)
    refine cVx hG w_Law_120 d_Law_isSound_447 (ct_rate (r := 1) h1 hnl b2 b1 b3 (by decide) ⟨hpos.2.1, hfm⟩ u1) (by decide) (by decide) rc_0 rfl rfl ⟨(Nat.le_of_ble_eq_true rfl), (Nat.le_of_ble_eq_true rfl)⟩ ⟨(Nat.le_of_ble_eq_true rfl), (Nat.le_of_ble_eq_true rfl)⟩ (Nat.le_of_ble_eq_true rfl) ?_
    refine r_icmp_lt hG (hd := d_Law_isSound_450) (kt := fun hh => absurd hh (by omega)) (kf := fun _ => ?_)
    refine r_aload_n hG (hl0 := rfl) (hd := d_Law_isSound_453) (K := ?_)
    refine r_iconst hG (hd := d_Law_isSound_454) (K := ?_)
    refine cVx hG w_Law_57 d_Law_isSound_455 (ct_many (w := 3) h0 hns6 h1 hnl b2 b1 b3 (by decide)) (by decide) (by decide) rc_0 rfl rfl ⟨(Nat.le_of_ble_eq_true rfl), (Nat.le_of_ble_eq_true rfl)⟩ ⟨(Nat.le_of_ble_eq_true rfl), (Nat.le_of_ble_eq_true rfl)⟩ (Nat.le_of_ble_eq_true rfl) ?_
    refine r_bipush hG (hd := d_Law_isSound_458) (K := ?_)
    refine r_icmp_gt hG (hd := d_Law_isSound_460) (kt := fun hh => absurd hh (by omega)) (kf := fun _ => ?_)
    refine r_iconst hG (hd := d_Law_isSound_463) (K := ?_)
    refine r_goto hG (hd := d_Law_isSound_464) (K := ?_)
    refine r_zret hG d_Law_isSound_468 ⟨(Nat.le_of_ble_eq_true rfl), (Nat.le_of_ble_eq_true rfl)⟩ (by first | exact Or.inl rfl | exact Or.inr rfl | omega) ?_
    exact ⟨rfl, rfl⟩
  have bales : ∀ m k : Nat, k + m = nb → G (0, 0) 143 [(0, rf Γ 0 0), (1, nt ns), (2, nt came), (3, nt swept), (4, nt sold), (5, nt (bM S 0 ns)), (6, nt (litN S 0 ns)), (7, nt (balK S k)), (8, nt (cntIn S 0 k)), (9, nt k)] [] S := by
    intro m
    induction m with
    | zero =>
      intro k hk
      have hkn : k = nb := by omega
      subst hkn
      refine r_iload hG (hl0 := rfl) (hd := d_Law_isSound_143) (K := ?_)
      refine r_aload_n hG (hl0 := rfl) (hd := d_Law_isSound_145) (K := ?_)
      refine r_iconst hG (hd := d_Law_isSound_146) (K := ?_)
      refine cVx hG w_Law_57 d_Law_isSound_147 (ct_many (w := 3) h0 hns6 h1 hnl b2 b1 b3 (by decide)) (by decide) (by decide) rc_0 rfl rfl ⟨(Nat.le_of_ble_eq_true rfl), (Nat.le_of_ble_eq_true rfl)⟩ ⟨(Nat.le_of_ble_eq_true rfl), (Nat.le_of_ble_eq_true rfl)⟩ (Nat.le_of_ble_eq_true rfl) ?_
      refine r_icmp_ge hG (hd := d_Law_isSound_150) (kt := fun _ => ?_) (kf := fun hh => absurd hh (by omega))
      exact r_sb hG (fin) ⟨rfl, rfl, rfl, rfl, rfl, rfl, rfl, rfl, rfl, trivial⟩
    | succ m ih =>
      intro k hk
      obtain ⟨d1, d2, d3, d4, d5, d6⟩ := b4 k (by omega)
      have d7 := b3 k (by omega)
      have w0 : baF S k 0 = S 55 k 0 := rfl
      have w1 : baF S k 1 = S 56 k 0 := rfl
      have w2 : baF S k 2 = S 57 k 0 := rfl
      have w3 : baF S k 3 = S 58 k 0 := rfl
      have nx := ih (k + 1) (by omega)
      simp only [balK, cntIn] at nx
      have goon : ∀ its st : Int, its = S 55 k 0 + S 56 k 0 → st = S 57 k 0 → G (0, 0) 196 [(0, rf Γ 0 0), (1, nt ns), (2, nt came), (3, nt swept), (4, nt sold), (5, nt (bM S 0 ns)), (6, nt (litN S 0 ns)), (7, nt (balK S k)), (8, nt (cntIn S 0 k)), (9, nt k), (10, nt its), (11, nt st)] [] S := by
        intro its st e1 e2
        subst e1 e2
        have bk := bkm k (by omega)
        refine r_aload_n hG (hl0 := rfl) (hd := d_Law_isSound_196) (K := ?_)
        refine r_iload hG (hl0 := rfl) (hd := d_Law_isSound_197) (K := ?_)
        refine r_iconst hG (hd := d_Law_isSound_199) (K := ?_)
        refine cVx hG w_Law_60 d_Law_isSound_200 (ct_ofBale (w := 3) b2 b1 (show k < nb by omega) (by decide)) (by decide) (by decide) rc_0 rfl rfl ⟨(Nat.le_of_ble_eq_true rfl), (Nat.le_of_ble_eq_true rfl)⟩ ⟨(Nat.le_of_ble_eq_true rfl), (Nat.le_of_ble_eq_true rfl)⟩ (Nat.le_of_ble_eq_true rfl) ?_
        refine r_aload_n hG (hl0 := rfl) (hd := d_Law_isSound_203) (K := ?_)
        refine r_iconst hG (hd := d_Law_isSound_204) (K := ?_)
        refine cVx hG w_Law_57 d_Law_isSound_205 (ct_many (w := 0) h0 hns6 h1 hnl b2 b1 b3 (by decide)) (by decide) (by decide) rc_0 rfl rfl ⟨(Nat.le_of_ble_eq_true rfl), (Nat.le_of_ble_eq_true rfl)⟩ ⟨(Nat.le_of_ble_eq_true rfl), (Nat.le_of_ble_eq_true rfl)⟩ (Nat.le_of_ble_eq_true rfl) ?_
        refine r_icmp_gt hG (hd := d_Law_isSound_208) (kt := fun hh => absurd hh (by omega)) (kf := fun _ => ?_)
        refine r_aload_n hG (hl0 := rfl) (hd := d_Law_isSound_211) (K := ?_)
        refine r_iload hG (hl0 := rfl) (hd := d_Law_isSound_212) (K := ?_)
        refine r_iconst hG (hd := d_Law_isSound_214) (K := ?_)
        refine cVx hG w_Law_60 d_Law_isSound_215 (ct_ofBale (w := 3) b2 b1 (show k < nb by omega) (by decide)) (by decide) (by decide) rc_0 rfl rfl ⟨(Nat.le_of_ble_eq_true rfl), (Nat.le_of_ble_eq_true rfl)⟩ ⟨(Nat.le_of_ble_eq_true rfl), (Nat.le_of_ble_eq_true rfl)⟩ (Nat.le_of_ble_eq_true rfl) ?_
        refine r_iconst hG (hd := d_Law_isSound_218) (K := ?_)
        refine r_icmp_ge hG (hd := d_Law_isSound_219) (kt := fun _ => ?_) (kf := fun hh => absurd hh (by omega))
        refine r_iload hG (hl0 := rfl) (hd := d_Law_isSound_224) (K := ?_)
        refine r_iload hG (hl0 := rfl) (hd := d_Law_isSound_226) (K := ?_)
        first | refine r_iadd hG (hd := d_Law_isSound_228) (K := ?_) | refine r_iaddr hG (hd := d_Law_isSound_228) (K := ?_)
        refine r_istore hG (hd := d_Law_isSound_229) (K := ?_)
        refine r_iload hG (hl0 := rfl) (hd := d_Law_isSound_231) (K := ?_)
        refine r_iload hG (hl0 := rfl) (hd := d_Law_isSound_233) (K := ?_)
        refine r_if_ne hG (hd := d_Law_isSound_235) (kt := fun hh => ?_) (kf := fun hh => ?_)
        · rw [if_neg hh] at nx
          refine r_iconst hG (hd := d_Law_isSound_242) (K := ?_)
          first | refine r_iadd hG (hd := d_Law_isSound_243) (K := ?_) | refine r_iaddr hG (hd := d_Law_isSound_243) (K := ?_)
          refine r_istore hG (hd := d_Law_isSound_244) (K := ?_)
          refine r_iinc hG (hl0 := rfl) (hd := d_Law_isSound_246) (K := ?_)
          refine r_goto hG (hd := d_Law_isSound_249) (K := ?_)
          exact r_sb hG (nx) ⟨rfl, rfl, rfl, rfl, rfl, rfl, rfl, rfl, rfl, rfl, trivial⟩
        · rw [if_pos hh] at nx
          refine r_iconst hG (hd := d_Law_isSound_238) (K := ?_)
          refine r_goto hG (hd := d_Law_isSound_239) (K := ?_)
          first | refine r_iadd hG (hd := d_Law_isSound_243) (K := ?_) | refine r_iaddr hG (hd := d_Law_isSound_243) (K := ?_)
          refine r_istore hG (hd := d_Law_isSound_244) (K := ?_)
          refine r_iinc hG (hl0 := rfl) (hd := d_Law_isSound_246) (K := ?_)
          refine r_goto hG (hd := d_Law_isSound_249) (K := ?_)
          exact r_sb hG (nx) ⟨rfl, rfl, rfl, rfl, rfl, rfl, rfl, rfl, rfl, rfl, trivial⟩
      by_cases h3 : S 57 k 0 = 3
      · have d3 := d3 h3
        refine r_iload hG (hl0 := rfl) (hd := d_Law_isSound_143) (K := ?_)
        refine r_aload_n hG (hl0 := rfl) (hd := d_Law_isSound_145) (K := ?_)
        refine r_iconst hG (hd := d_Law_isSound_146) (K := ?_)
        refine cVx hG w_Law_57 d_Law_isSound_147 (ct_many (w := 3) h0 hns6 h1 hnl b2 b1 b3 (by decide)) (by decide) (by decide) rc_0 rfl rfl ⟨(Nat.le_of_ble_eq_true rfl), (Nat.le_of_ble_eq_true rfl)⟩ ⟨(Nat.le_of_ble_eq_true rfl), (Nat.le_of_ble_eq_true rfl)⟩ (Nat.le_of_ble_eq_true rfl) ?_
        refine r_icmp_ge hG (hd := d_Law_isSound_150) (kt := fun hh => absurd hh (by omega)) (kf := fun _ => ?_)
        refine r_aload_n hG (hl0 := rfl) (hd := d_Law_isSound_153) (K := ?_)
        refine r_iload hG (hl0 := rfl) (hd := d_Law_isSound_154) (K := ?_)
        refine r_iconst hG (hd := d_Law_isSound_156) (K := ?_)
        refine cVx hG w_Law_60 d_Law_isSound_157 (ct_ofBale (w := 0) b2 b1 (show k < nb by omega) (by decide)) (by decide) (by decide) rc_0 rfl rfl ⟨(Nat.le_of_ble_eq_true rfl), (Nat.le_of_ble_eq_true rfl)⟩ ⟨(Nat.le_of_ble_eq_true rfl), (Nat.le_of_ble_eq_true rfl)⟩ (Nat.le_of_ble_eq_true rfl) ?_
        refine r_aload_n hG (hl0 := rfl) (hd := d_Law_isSound_160) (K := ?_)
        refine r_iload hG (hl0 := rfl) (hd := d_Law_isSound_161) (K := ?_)
        refine r_iconst hG (hd := d_Law_isSound_163) (K := ?_)
        refine cVx hG w_Law_60 d_Law_isSound_164 (ct_ofBale (w := 1) b2 b1 (show k < nb by omega) (by decide)) (by decide) (by decide) rc_0 rfl rfl ⟨(Nat.le_of_ble_eq_true rfl), (Nat.le_of_ble_eq_true rfl)⟩ ⟨(Nat.le_of_ble_eq_true rfl), (Nat.le_of_ble_eq_true rfl)⟩ (Nat.le_of_ble_eq_true rfl) ?_
        first | refine r_iadd hG (hd := d_Law_isSound_167) (K := ?_) | refine r_iaddr hG (hd := d_Law_isSound_167) (K := ?_)
        refine r_istore hG (hd := d_Law_isSound_168) (K := ?_)
        refine r_aload_n hG (hl0 := rfl) (hd := d_Law_isSound_170) (K := ?_)
        refine r_iload hG (hl0 := rfl) (hd := d_Law_isSound_171) (K := ?_)
        refine r_iconst hG (hd := d_Law_isSound_173) (K := ?_)
        refine cVx hG w_Law_60 d_Law_isSound_174 (ct_ofBale (w := 2) b2 b1 (show k < nb by omega) (by decide)) (by decide) (by decide) rc_0 rfl rfl ⟨(Nat.le_of_ble_eq_true rfl), (Nat.le_of_ble_eq_true rfl)⟩ ⟨(Nat.le_of_ble_eq_true rfl), (Nat.le_of_ble_eq_true rfl)⟩ (Nat.le_of_ble_eq_true rfl) ?_
        refine r_istore hG (hd := d_Law_isSound_177) (K := ?_)
        refine r_iload hG (hl0 := rfl) (hd := d_Law_isSound_179) (K := ?_)
        refine r_iload hG (hl0 := rfl) (hd := d_Law_isSound_181) (K := ?_)
        refine r_iconst hG (hd := d_Law_isSound_183) (K := ?_)
        refine r_icmp_ne hG (hd := d_Law_isSound_184) (kt := fun hh => absurd hh (by omega)) (kf := fun _ => ?_)
        refine r_iconst hG (hd := d_Law_isSound_187) (K := ?_)
        refine r_goto hG (hd := d_Law_isSound_188) (K := ?_)
        refine r_icmp_ne hG (hd := d_Law_isSound_193) (kt := fun hh => absurd hh (by omega)) (kf := fun _ => ?_)
        exact r_sb hG (goon _ _ rfl rfl) ⟨rfl, rfl, rfl, rfl, rfl, rfl, rfl, rfl, rfl, rfl, rfl, rfl, trivial⟩
      · have d4 := d4 h3
        refine r_iload hG (hl0 := rfl) (hd := d_Law_isSound_143) (K := ?_)
        refine r_aload_n hG (hl0 := rfl) (hd := d_Law_isSound_145) (K := ?_)
        refine r_iconst hG (hd := d_Law_isSound_146) (K := ?_)
        refine cVx hG w_Law_57 d_Law_isSound_147 (ct_many (w := 3) h0 hns6 h1 hnl b2 b1 b3 (by decide)) (by decide) (by decide) rc_0 rfl rfl ⟨(Nat.le_of_ble_eq_true rfl), (Nat.le_of_ble_eq_true rfl)⟩ ⟨(Nat.le_of_ble_eq_true rfl), (Nat.le_of_ble_eq_true rfl)⟩ (Nat.le_of_ble_eq_true rfl) ?_
        refine r_icmp_ge hG (hd := d_Law_isSound_150) (kt := fun hh => absurd hh (by omega)) (kf := fun _ => ?_)
        refine r_aload_n hG (hl0 := rfl) (hd := d_Law_isSound_153) (K := ?_)
        refine r_iload hG (hl0 := rfl) (hd := d_Law_isSound_154) (K := ?_)
        refine r_iconst hG (hd := d_Law_isSound_156) (K := ?_)
        refine cVx hG w_Law_60 d_Law_isSound_157 (ct_ofBale (w := 0) b2 b1 (show k < nb by omega) (by decide)) (by decide) (by decide) rc_0 rfl rfl ⟨(Nat.le_of_ble_eq_true rfl), (Nat.le_of_ble_eq_true rfl)⟩ ⟨(Nat.le_of_ble_eq_true rfl), (Nat.le_of_ble_eq_true rfl)⟩ (Nat.le_of_ble_eq_true rfl) ?_
        refine r_aload_n hG (hl0 := rfl) (hd := d_Law_isSound_160) (K := ?_)
        refine r_iload hG (hl0 := rfl) (hd := d_Law_isSound_161) (K := ?_)
        refine r_iconst hG (hd := d_Law_isSound_163) (K := ?_)
        refine cVx hG w_Law_60 d_Law_isSound_164 (ct_ofBale (w := 1) b2 b1 (show k < nb by omega) (by decide)) (by decide) (by decide) rc_0 rfl rfl ⟨(Nat.le_of_ble_eq_true rfl), (Nat.le_of_ble_eq_true rfl)⟩ ⟨(Nat.le_of_ble_eq_true rfl), (Nat.le_of_ble_eq_true rfl)⟩ (Nat.le_of_ble_eq_true rfl) ?_
        first | refine r_iadd hG (hd := d_Law_isSound_167) (K := ?_) | refine r_iaddr hG (hd := d_Law_isSound_167) (K := ?_)
        refine r_istore hG (hd := d_Law_isSound_168) (K := ?_)
        refine r_aload_n hG (hl0 := rfl) (hd := d_Law_isSound_170) (K := ?_)
        refine r_iload hG (hl0 := rfl) (hd := d_Law_isSound_171) (K := ?_)
        refine r_iconst hG (hd := d_Law_isSound_173) (K := ?_)
        refine cVx hG w_Law_60 d_Law_isSound_174 (ct_ofBale (w := 2) b2 b1 (show k < nb by omega) (by decide)) (by decide) (by decide) rc_0 rfl rfl ⟨(Nat.le_of_ble_eq_true rfl), (Nat.le_of_ble_eq_true rfl)⟩ ⟨(Nat.le_of_ble_eq_true rfl), (Nat.le_of_ble_eq_true rfl)⟩ (Nat.le_of_ble_eq_true rfl) ?_
        refine r_istore hG (hd := d_Law_isSound_177) (K := ?_)
        refine r_iload hG (hl0 := rfl) (hd := d_Law_isSound_179) (K := ?_)
        refine r_iload hG (hl0 := rfl) (hd := d_Law_isSound_181) (K := ?_)
        refine r_iconst hG (hd := d_Law_isSound_183) (K := ?_)
        refine r_icmp_ne hG (hd := d_Law_isSound_184) (kt := fun _ => ?_) (kf := fun hh => absurd hh (by omega))
        refine r_bipush hG (hd := d_Law_isSound_191) (K := ?_)
        refine r_icmp_ne hG (hd := d_Law_isSound_193) (kt := fun hh => absurd hh (by omega)) (kf := fun _ => ?_)
        exact r_sb hG (goon _ _ rfl rfl) ⟨rfl, rfl, rfl, rfl, rfl, rfl, rfl, rfl, rfl, rfl, rfl, rfl, trivial⟩
  have strs : ∀ m k : Nat, k + m = ns → G (0, 0) 9 [(0, rf Γ 0 0), (1, nt ns), (2, nt came), (3, nt swept), (4, nt sold), (5, nt (bM S 0 k)), (6, nt (litN S 0 k)), (7, nt k)] [] S := by
    intro m
    induction m with
    | zero =>
      intro k hk
      have hkn : k = ns := by omega
      subst hkn
      refine r_iload hG (hl0 := rfl) (hd := d_Law_isSound_9) (K := ?_)
      refine r_iload_n hG (hl0 := rfl) (hd := d_Law_isSound_11) (K := ?_)
      refine r_icmp_ge hG (hd := d_Law_isSound_12) (kt := fun _ => ?_) (kf := fun hh => absurd hh (by omega))
      refine r_iconst hG (hd := d_Law_isSound_134) (K := ?_)
      refine r_istore hG (hd := d_Law_isSound_135) (K := ?_)
      refine r_iconst hG (hd := d_Law_isSound_137) (K := ?_)
      refine r_istore hG (hd := d_Law_isSound_138) (K := ?_)
      refine r_iconst hG (hd := d_Law_isSound_140) (K := ?_)
      refine r_istore hG (hd := d_Law_isSound_141) (K := ?_)
      exact r_sb hG (bales nb 0 (by omega)) ⟨rfl, rfl, rfl, rfl, rfl, rfl, rfl, rfl, rfl, rfl, trivial⟩
    | succ m ih =>
      intro k hk
      have okt := hT (2 * k) (by omega)
      have nx := ih (k + 1) (by omega)
      have k0 := hz.1 k (by omega)
      have goin : ∀ its : Int, ∀ j : Nat, j < 3 → its = S 16 (2 * k) j + S 17 (2 * k) j → G (0, 0) 115 [(0, rf Γ 0 0), (1, nt ns), (2, nt came), (3, nt swept), (4, nt sold), (5, nt (bM S 0 k + strB S (2 * k) j)), (6, nt (litN S 0 k + S 12 (2 * k) 0)), (7, nt k), (8, nt j), (9, nt its)] [] S → G (0, 0) 70 [(0, rf Γ 0 0), (1, nt ns), (2, nt came), (3, nt swept), (4, nt sold), (5, nt (bM S 0 k + strB S (2 * k) j)), (6, nt (litN S 0 k + S 12 (2 * k) 0)), (7, nt k), (8, nt j), (9, nt its)] [] S := by
        intro its j hj e K
        have fi := fu_in hj okt
        have bb := okt.2.2 j hj
        by_cases h60 : its = 60
        · have f0 := fi.2.mpr (by omega)
          refine r_iload hG (hl0 := rfl) (hd := d_Law_isSound_70) (K := ?_)
          refine r_if_lt hG (hd := d_Law_isSound_72) (kt := fun hh => absurd hh (by omega)) (kf := fun _ => ?_)
          refine r_iload hG (hl0 := rfl) (hd := d_Law_isSound_75) (K := ?_)
          refine r_bipush hG (hd := d_Law_isSound_77) (K := ?_)
          refine r_icmp_gt hG (hd := d_Law_isSound_79) (kt := fun hh => absurd hh (by omega)) (kf := fun _ => ?_)
          refine r_aload_n hG (hl0 := rfl) (hd := d_Law_isSound_82) (K := ?_)
          refine r_iload hG (hl0 := rfl) (hd := d_Law_isSound_83) (K := ?_)
          refine r_iload hG (hl0 := rfl) (hd := d_Law_isSound_85) (K := ?_)
          refine cVx hG w_Law_102 d_Law_isSound_87 (ct_fullIn h0 hns6 (show k < ns by omega) hj okt) (by decide) (by decide) rc_0 rfl rfl ⟨(Nat.le_of_ble_eq_true rfl), (Nat.le_of_ble_eq_true rfl)⟩ ⟨(Nat.le_of_ble_eq_true rfl), (Nat.le_of_ble_eq_true rfl)⟩ (Nat.le_of_ble_eq_true rfl) ?_
          refine r_if_ne hG (hd := d_Law_isSound_90) (kt := fun hh => absurd hh (by omega)) (kf := fun _ => ?_)
          refine r_iconst hG (hd := d_Law_isSound_93) (K := ?_)
          refine r_goto hG (hd := d_Law_isSound_94) (K := ?_)
          refine r_iload hG (hl0 := rfl) (hd := d_Law_isSound_98) (K := ?_)
          refine r_bipush hG (hd := d_Law_isSound_100) (K := ?_)
          refine r_icmp_ne hG (hd := d_Law_isSound_102) (kt := fun hh => absurd hh (by omega)) (kf := fun _ => ?_)
          refine r_iconst hG (hd := d_Law_isSound_105) (K := ?_)
          refine r_goto hG (hd := d_Law_isSound_106) (K := ?_)
          refine r_icmp_eq hG (hd := d_Law_isSound_110) (kt := fun _ => ?_) (kf := fun hh => absurd hh (by omega))
          exact r_sb hG (K) ⟨rfl, rfl, rfl, rfl, rfl, rfl, rfl, rfl, rfl, rfl, trivial⟩
        · have f0 : fuF S (2 * k) j ≠ 0 := fun q => h60 (by have := fi.2.mp q; omega)
          refine r_iload hG (hl0 := rfl) (hd := d_Law_isSound_70) (K := ?_)
          refine r_if_lt hG (hd := d_Law_isSound_72) (kt := fun hh => absurd hh (by omega)) (kf := fun _ => ?_)
          refine r_iload hG (hl0 := rfl) (hd := d_Law_isSound_75) (K := ?_)
          refine r_bipush hG (hd := d_Law_isSound_77) (K := ?_)
          refine r_icmp_gt hG (hd := d_Law_isSound_79) (kt := fun hh => absurd hh (by omega)) (kf := fun _ => ?_)
          refine r_aload_n hG (hl0 := rfl) (hd := d_Law_isSound_82) (K := ?_)
          refine r_iload hG (hl0 := rfl) (hd := d_Law_isSound_83) (K := ?_)
          refine r_iload hG (hl0 := rfl) (hd := d_Law_isSound_85) (K := ?_)
          refine cVx hG w_Law_102 d_Law_isSound_87 (ct_fullIn h0 hns6 (show k < ns by omega) hj okt) (by decide) (by decide) rc_0 rfl rfl ⟨(Nat.le_of_ble_eq_true rfl), (Nat.le_of_ble_eq_true rfl)⟩ ⟨(Nat.le_of_ble_eq_true rfl), (Nat.le_of_ble_eq_true rfl)⟩ (Nat.le_of_ble_eq_true rfl) ?_
          refine r_if_ne hG (hd := d_Law_isSound_90) (kt := fun _ => ?_) (kf := fun hh => absurd hh (by omega))
          refine r_iconst hG (hd := d_Law_isSound_97) (K := ?_)
          refine r_iload hG (hl0 := rfl) (hd := d_Law_isSound_98) (K := ?_)
          refine r_bipush hG (hd := d_Law_isSound_100) (K := ?_)
          refine r_icmp_ne hG (hd := d_Law_isSound_102) (kt := fun _ => ?_) (kf := fun hh => absurd hh (by omega))
          refine r_iconst hG (hd := d_Law_isSound_109) (K := ?_)
          refine r_icmp_eq hG (hd := d_Law_isSound_110) (kt := fun _ => ?_) (kf := fun hh => absurd hh (by omega))
          exact r_sb hG (K) ⟨rfl, rfl, rfl, rfl, rfl, rfl, rfl, rfl, rfl, rfl, trivial⟩
      refine r_iload hG (hl0 := rfl) (hd := d_Law_isSound_9) (K := ?_)
      refine r_iload_n hG (hl0 := rfl) (hd := d_Law_isSound_11) (K := ?_)
      refine r_icmp_ge hG (hd := d_Law_isSound_12) (kt := fun hh => absurd hh (by omega)) (kf := fun _ => ?_)
      refine r_iload hG (hl0 := rfl) (hd := d_Law_isSound_15) (K := ?_)
      refine r_aload_n hG (hl0 := rfl) (hd := d_Law_isSound_17) (K := ?_)
      refine r_iload hG (hl0 := rfl) (hd := d_Law_isSound_18) (K := ?_)
      refine r_iconst hG (hd := d_Law_isSound_20) (K := ?_)
      refine cVx hG w_Law_51 d_Law_isSound_21 (ct_ofStreet (w := 2) h0 hns6 (show k < ns by omega) (by decide)) (by decide) (by decide) rc_0 rfl rfl ⟨(Nat.le_of_ble_eq_true rfl), (Nat.le_of_ble_eq_true rfl)⟩ ⟨(Nat.le_of_ble_eq_true rfl), (Nat.le_of_ble_eq_true rfl)⟩ (Nat.le_of_ble_eq_true rfl) ?_
      first | refine r_iadd hG (hd := d_Law_isSound_24) (K := ?_) | refine r_iaddr hG (hd := d_Law_isSound_24) (K := ?_)
      refine r_istore hG (hd := d_Law_isSound_25) (K := ?_)
      refine r_iconst hG (hd := d_Law_isSound_27) (K := ?_)
      refine r_istore hG (hd := d_Law_isSound_28) (K := ?_)
      have p3 : G (0, 0) 30 [(0, rf Γ 0 0), (1, nt ns), (2, nt came), (3, nt swept), (4, nt sold), (5, nt (bM S 0 k + strB S (2 * k) 3)), (6, nt (litN S 0 k + S 12 (2 * k) 0)), (7, nt k), (8, nt 3)] [] S := by
        refine r_iload hG (hl0 := rfl) (hd := d_Law_isSound_30) (K := ?_)
        refine r_iconst hG (hd := d_Law_isSound_32) (K := ?_)
        refine r_icmp_ge hG (hd := d_Law_isSound_33) (kt := fun _ => ?_) (kf := fun hh => absurd hh (by omega))
        refine r_iinc hG (hl0 := rfl) (hd := d_Law_isSound_128) (K := ?_)
        refine r_goto hG (hd := d_Law_isSound_131) (K := ?_)
        exact r_sb hG (nx) ⟨rfl, rfl, rfl, rfl, rfl, rfl, rfl, rfl, trivial⟩
      have p2 : G (0, 0) 30 [(0, rf Γ 0 0), (1, nt ns), (2, nt came), (3, nt swept), (4, nt sold), (5, nt (bM S 0 k + strB S (2 * k) 2)), (6, nt (litN S 0 k + S 12 (2 * k) 0)), (7, nt k), (8, nt 2)] [] S := by
        refine r_iload hG (hl0 := rfl) (hd := d_Law_isSound_30) (K := ?_)
        refine r_iconst hG (hd := d_Law_isSound_32) (K := ?_)
        refine r_icmp_ge hG (hd := d_Law_isSound_33) (kt := fun hh => absurd hh (by omega)) (kf := fun _ => ?_)
        refine r_aload_n hG (hl0 := rfl) (hd := d_Law_isSound_36) (K := ?_)
        refine r_iload hG (hl0 := rfl) (hd := d_Law_isSound_37) (K := ?_)
        refine r_bipush hG (hd := d_Law_isSound_39) (K := ?_)
        refine r_iload hG (hl0 := rfl) (hd := d_Law_isSound_41) (K := ?_)
        first | refine r_iadd hG (hd := d_Law_isSound_43) (K := ?_) | refine r_iaddr hG (hd := d_Law_isSound_43) (K := ?_)
        refine cVx hG w_Law_51 d_Law_isSound_44 (ct_ofStreet (w := 8) h0 hns6 (show k < ns by omega) (by decide)) (by decide) (by decide) rc_0 rfl rfl ⟨(Nat.le_of_ble_eq_true rfl), (Nat.le_of_ble_eq_true rfl)⟩ ⟨(Nat.le_of_ble_eq_true rfl), (Nat.le_of_ble_eq_true rfl)⟩ (Nat.le_of_ble_eq_true rfl) ?_
        refine r_iload hG (hl0 := rfl) (hd := d_Law_isSound_47) (K := ?_)
        refine r_if_le hG (hd := d_Law_isSound_49) (kt := fun hh => absurd hh (by omega)) (kf := fun _ => ?_)
        refine r_aload_n hG (hl0 := rfl) (hd := d_Law_isSound_52) (K := ?_)
        refine r_iload hG (hl0 := rfl) (hd := d_Law_isSound_53) (K := ?_)
        refine r_bipush hG (hd := d_Law_isSound_55) (K := ?_)
        refine r_iload hG (hl0 := rfl) (hd := d_Law_isSound_57) (K := ?_)
        first | refine r_iadd hG (hd := d_Law_isSound_59) (K := ?_) | refine r_iaddr hG (hd := d_Law_isSound_59) (K := ?_)
        refine cVx hG w_Law_51 d_Law_isSound_60 (ct_ofStreet (w := 10) h0 hns6 (show k < ns by omega) (by decide)) (by decide) (by decide) rc_0 rfl rfl ⟨(Nat.le_of_ble_eq_true rfl), (Nat.le_of_ble_eq_true rfl)⟩ ⟨(Nat.le_of_ble_eq_true rfl), (Nat.le_of_ble_eq_true rfl)⟩ (Nat.le_of_ble_eq_true rfl) ?_
        refine r_goto hG (hd := d_Law_isSound_63) (K := ?_)
        first | refine r_iadd hG (hd := d_Law_isSound_67) (K := ?_) | refine r_iaddr hG (hd := d_Law_isSound_67) (K := ?_)
        refine r_istore hG (hd := d_Law_isSound_68) (K := ?_)
        refine r_sb hG (goin (S 16 (2 * k) 2 + S 17 (2 * k) 2) 2 (by decide) rfl ?_) ⟨rfl, rfl, rfl, rfl, rfl, rfl, rfl, rfl, rfl, rfl, trivial⟩
        refine r_iload hG (hl0 := rfl) (hd := d_Law_isSound_115) (K := ?_)
        refine r_iload hG (hl0 := rfl) (hd := d_Law_isSound_117) (K := ?_)
        first | refine r_iadd hG (hd := d_Law_isSound_119) (K := ?_) | refine r_iaddr hG (hd := d_Law_isSound_119) (K := ?_)
        refine r_istore hG (hd := d_Law_isSound_120) (K := ?_)
        refine r_iinc hG (hl0 := rfl) (hd := d_Law_isSound_122) (K := ?_)
        refine r_goto hG (hd := d_Law_isSound_125) (K := ?_)
        have e : bM S 0 k + strB S (2 * k) 2 + (S 16 (2 * k) 2 + S 17 (2 * k) 2) = bM S 0 k + strB S (2 * k) 3 := by simp [strB, binK]; omega
        rw [e]
        exact r_sb hG (p3) ⟨rfl, rfl, rfl, rfl, rfl, rfl, rfl, rfl, rfl, trivial⟩
      have p1 : G (0, 0) 30 [(0, rf Γ 0 0), (1, nt ns), (2, nt came), (3, nt swept), (4, nt sold), (5, nt (bM S 0 k + strB S (2 * k) 1)), (6, nt (litN S 0 k + S 12 (2 * k) 0)), (7, nt k), (8, nt 1)] [] S := by
        refine r_iload hG (hl0 := rfl) (hd := d_Law_isSound_30) (K := ?_)
        refine r_iconst hG (hd := d_Law_isSound_32) (K := ?_)
        refine r_icmp_ge hG (hd := d_Law_isSound_33) (kt := fun hh => absurd hh (by omega)) (kf := fun _ => ?_)
        refine r_aload_n hG (hl0 := rfl) (hd := d_Law_isSound_36) (K := ?_)
        refine r_iload hG (hl0 := rfl) (hd := d_Law_isSound_37) (K := ?_)
        refine r_bipush hG (hd := d_Law_isSound_39) (K := ?_)
        refine r_iload hG (hl0 := rfl) (hd := d_Law_isSound_41) (K := ?_)
        first | refine r_iadd hG (hd := d_Law_isSound_43) (K := ?_) | refine r_iaddr hG (hd := d_Law_isSound_43) (K := ?_)
        refine cVx hG w_Law_51 d_Law_isSound_44 (ct_ofStreet (w := 7) h0 hns6 (show k < ns by omega) (by decide)) (by decide) (by decide) rc_0 rfl rfl ⟨(Nat.le_of_ble_eq_true rfl), (Nat.le_of_ble_eq_true rfl)⟩ ⟨(Nat.le_of_ble_eq_true rfl), (Nat.le_of_ble_eq_true rfl)⟩ (Nat.le_of_ble_eq_true rfl) ?_
        refine r_iload hG (hl0 := rfl) (hd := d_Law_isSound_47) (K := ?_)
        refine r_if_le hG (hd := d_Law_isSound_49) (kt := fun hh => absurd hh (by omega)) (kf := fun _ => ?_)
        refine r_aload_n hG (hl0 := rfl) (hd := d_Law_isSound_52) (K := ?_)
        refine r_iload hG (hl0 := rfl) (hd := d_Law_isSound_53) (K := ?_)
        refine r_bipush hG (hd := d_Law_isSound_55) (K := ?_)
        refine r_iload hG (hl0 := rfl) (hd := d_Law_isSound_57) (K := ?_)
        first | refine r_iadd hG (hd := d_Law_isSound_59) (K := ?_) | refine r_iaddr hG (hd := d_Law_isSound_59) (K := ?_)
        refine cVx hG w_Law_51 d_Law_isSound_60 (ct_ofStreet (w := 9) h0 hns6 (show k < ns by omega) (by decide)) (by decide) (by decide) rc_0 rfl rfl ⟨(Nat.le_of_ble_eq_true rfl), (Nat.le_of_ble_eq_true rfl)⟩ ⟨(Nat.le_of_ble_eq_true rfl), (Nat.le_of_ble_eq_true rfl)⟩ (Nat.le_of_ble_eq_true rfl) ?_
        refine r_goto hG (hd := d_Law_isSound_63) (K := ?_)
        first | refine r_iadd hG (hd := d_Law_isSound_67) (K := ?_) | refine r_iaddr hG (hd := d_Law_isSound_67) (K := ?_)
        refine r_istore hG (hd := d_Law_isSound_68) (K := ?_)
        refine r_sb hG (goin (S 16 (2 * k) 1 + S 17 (2 * k) 1) 1 (by decide) rfl ?_) ⟨rfl, rfl, rfl, rfl, rfl, rfl, rfl, rfl, rfl, rfl, trivial⟩
        refine r_iload hG (hl0 := rfl) (hd := d_Law_isSound_115) (K := ?_)
        refine r_iload hG (hl0 := rfl) (hd := d_Law_isSound_117) (K := ?_)
        first | refine r_iadd hG (hd := d_Law_isSound_119) (K := ?_) | refine r_iaddr hG (hd := d_Law_isSound_119) (K := ?_)
        refine r_istore hG (hd := d_Law_isSound_120) (K := ?_)
        refine r_iinc hG (hl0 := rfl) (hd := d_Law_isSound_122) (K := ?_)
        refine r_goto hG (hd := d_Law_isSound_125) (K := ?_)
        have e : bM S 0 k + strB S (2 * k) 1 + (S 16 (2 * k) 1 + S 17 (2 * k) 1) = bM S 0 k + strB S (2 * k) 2 := by simp [strB]; omega
        rw [e]
        exact r_sb hG (p2) ⟨rfl, rfl, rfl, rfl, rfl, rfl, rfl, rfl, rfl, trivial⟩
      have p0 : G (0, 0) 30 [(0, rf Γ 0 0), (1, nt ns), (2, nt came), (3, nt swept), (4, nt sold), (5, nt (bM S 0 k + strB S (2 * k) 0)), (6, nt (litN S 0 k + S 12 (2 * k) 0)), (7, nt k), (8, nt 0)] [] S := by
        refine r_iload hG (hl0 := rfl) (hd := d_Law_isSound_30) (K := ?_)
        refine r_iconst hG (hd := d_Law_isSound_32) (K := ?_)
        refine r_icmp_ge hG (hd := d_Law_isSound_33) (kt := fun hh => absurd hh (by omega)) (kf := fun _ => ?_)
        refine r_aload_n hG (hl0 := rfl) (hd := d_Law_isSound_36) (K := ?_)
        refine r_iload hG (hl0 := rfl) (hd := d_Law_isSound_37) (K := ?_)
        refine r_bipush hG (hd := d_Law_isSound_39) (K := ?_)
        refine r_iload hG (hl0 := rfl) (hd := d_Law_isSound_41) (K := ?_)
        first | refine r_iadd hG (hd := d_Law_isSound_43) (K := ?_) | refine r_iaddr hG (hd := d_Law_isSound_43) (K := ?_)
        refine cVx hG w_Law_51 d_Law_isSound_44 (ct_ofStreet (w := 6) h0 hns6 (show k < ns by omega) (by decide)) (by decide) (by decide) rc_0 rfl rfl ⟨(Nat.le_of_ble_eq_true rfl), (Nat.le_of_ble_eq_true rfl)⟩ ⟨(Nat.le_of_ble_eq_true rfl), (Nat.le_of_ble_eq_true rfl)⟩ (Nat.le_of_ble_eq_true rfl) ?_
        refine r_iload hG (hl0 := rfl) (hd := d_Law_isSound_47) (K := ?_)
        refine r_if_le hG (hd := d_Law_isSound_49) (kt := fun _ => ?_) (kf := fun hh => absurd hh (by omega))
        refine r_iconst hG (hd := d_Law_isSound_66) (K := ?_)
        first | refine r_iadd hG (hd := d_Law_isSound_67) (K := ?_) | refine r_iaddr hG (hd := d_Law_isSound_67) (K := ?_)
        refine r_istore hG (hd := d_Law_isSound_68) (K := ?_)
        refine r_sb hG (goin (S 16 (2 * k) 0 + 0) 0 (by decide) (by rw [k0]) ?_) ⟨rfl, rfl, rfl, rfl, rfl, rfl, rfl, rfl, rfl, rfl, trivial⟩
        refine r_iload hG (hl0 := rfl) (hd := d_Law_isSound_115) (K := ?_)
        refine r_iload hG (hl0 := rfl) (hd := d_Law_isSound_117) (K := ?_)
        first | refine r_iadd hG (hd := d_Law_isSound_119) (K := ?_) | refine r_iaddr hG (hd := d_Law_isSound_119) (K := ?_)
        refine r_istore hG (hd := d_Law_isSound_120) (K := ?_)
        refine r_iinc hG (hl0 := rfl) (hd := d_Law_isSound_122) (K := ?_)
        refine r_goto hG (hd := d_Law_isSound_125) (K := ?_)
        have e : bM S 0 k + strB S (2 * k) 0 + (S 16 (2 * k) 0 + 0) = bM S 0 k + strB S (2 * k) 1 := by simp [strB, k0]
        rw [e]
        exact r_sb hG (p1) ⟨rfl, rfl, rfl, rfl, rfl, rfl, rfl, rfl, rfl, trivial⟩
      have e : bM S 0 k + strB S (2 * k) 0 = bM S 0 k := by simp [strB]
      rw [e] at p0
      exact r_sb hG (p0) ⟨rfl, rfl, rfl, rfl, rfl, rfl, rfl, rfl, rfl, trivial⟩
  refine r_iconst hG (hd := d_Law_isSound_0) (K := ?_)
  refine r_istore hG (hd := d_Law_isSound_1) (K := ?_)
  refine r_iconst hG (hd := d_Law_isSound_3) (K := ?_)
  refine r_istore hG (hd := d_Law_isSound_4) (K := ?_)
  refine r_iconst hG (hd := d_Law_isSound_6) (K := ?_)
  refine r_istore hG (hd := d_Law_isSound_7) (K := ?_)
  exact r_sb hG (strs ns 0 (by omega)) ⟨rfl, rfl, rfl, rfl, rfl, rfl, rfl, rfl, trivial⟩
