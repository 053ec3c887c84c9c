/-! THE BEST ROUND OF NOW fetches that -/
def byP : Nat → Int
  | 0 => 0
  | q + 1 => (10 : Int) ^ q
theorem byP_in : ∀ p, p ≤ 6 → (0 ≤ byP p ∧ byP p ≤ 100000) ∧ (p ≠ 0 → 1 ≤ byP p)
  | 0, _ => by decide
  | 1, _ => by decide
  | 2, _ => by decide
  | 3, _ => by decide
  | 4, _ => by decide
  | 5, _ => by decide
  | 6, _ => by decide
  | p + 7, h => absurd h (by omega)
theorem byP_div : ∀ p, p ≤ 5 → byP (p + 1) / 10 = byP p
  | 0, _ => by decide
  | 1, _ => by decide
  | 2, _ => by decide
  | 3, _ => by decide
  | 4, _ => by decide
  | 5, _ => by decide
  | p + 6, h => absurd h (by omega)
theorem ten_pow {m n : Nat} (h : m ≤ n) : (10 : Int) ^ m ≤ 10 ^ n := by
  obtain ⟨k, rfl⟩ : ∃ k, n = m + k := ⟨n - m, by omega⟩
  rw [Int.pow_add]
  have a : (1 : Int) ≤ 10 ^ k := by
    have := Int.pow_pos (n := 10) (m := k) (by decide)
    omega
  have b : (0 : Int) ≤ 10 ^ m := Int.pow_nonneg (by decide)
  have := Int.mul_le_mul_of_nonneg_left a b
  omega
theorem dig_in {L : List Nat} (hL : ∀ e, e ∈ L → e < 10) (h5 : L.length ≤ 5) : 1 ≤ dig 1 L ∧ dig 1 L < 200000 := by
  have a := dig_ge L 1 (by decide)
  have b := dig_lt L 1 hL (by decide)
  have c := ten_pow h5
  have d : (1 : Int) ≤ 10 ^ L.length := by
    have := Int.pow_pos (n := 10) (m := L.length) (by decide)
    omega
  have e : (10 : Int) ^ 5 = 100000 := by decide
  omega
theorem dig_told {L : List Nat} (hL : ∀ e, e ∈ L → e < 10) (q : Nat) :
    (q < L.length → 10 ≤ dig 1 L / byP (q + 1) ∧ dig 1 L / byP (q + 1) % 10 = (L.getD (L.length - (q + 1)) 0 : Nat)) ∧ (L.length ≤ q → dig 1 L / byP (q + 1) < 10) := by
  refine ⟨fun h => ?_, fun h => ?_⟩
  · have dv := dig_div hL q (by omega)
    show 10 ≤ dig 1 L / 10 ^ q ∧ dig 1 L / 10 ^ q % 10 = _
    rw [dv]
    have st := dig_step hL (t := L.length - (q + 1)) (by omega)
    rw [show L.length - (q + 1) + 1 = L.length - q by omega] at st
    refine ⟨?_, st.2⟩
    have g := dig_ge (L.take (L.length - q)) 1 (by decide)
    rw [List.length_take, Nat.min_eq_left (by omega)] at g
    have t := ten_pow (m := 1) (n := L.length - q) (by omega)
    omega
  · show dig 1 L / 10 ^ q < 10
    have b := dig_lt L 1 hL (by decide)
    have c := ten_pow h
    have d : (0 : Int) < 10 ^ q := Int.pow_pos (by decide)
    refine Int.ediv_lt_of_lt_mul d ?_
    omega
theorem getD_mem {L : List Nat} {t : Nat} (h : t < L.length) : L.getD t 0 ∈ L := by
  rw [List.getD_eq_getElem?_getD, List.getElem?_eq_getElem h]
  exact List.getElem_mem h
theorem getD_ne {L : List Nat} (h : L.Nodup) {t q : Nat} (ht : t < L.length) (hq : q < t) : L.getD q 0 ≠ L.getD t 0 := by
  rw [List.getD_eq_getElem?_getD, List.getD_eq_getElem?_getD, List.getElem?_eq_getElem ht, List.getElem?_eq_getElem (by omega)]
  intro z
  have := (List.getElem_inj h).mp z
  omega
theorem ct_isBest {Γ : Gm} {S : St} {ns dn i : Nat} {came swept sold : Int} (h : LI S ns dn came swept sold) (hi : i < 2) (hdn : dn + 1 ≤ 400) :
    CT Γ y_Law_isBest b_Law_isBest 8 ((some FieldType.boolean)) (rmx 8 1 1000) [rf Γ 0 0, nt i] S (fun v S' => v = some (nt 1) ∧ LI S' ns (dn + 1) (came + comN S ns) swept sold) := by
  have hj := h.j
  have h87 : S 87 0 0 = 0 := h.2.2.2.1
  obtain ⟨W, hns, hR, -⟩ := id hj
  obtain ⟨⟨w0, -⟩, ⟨w1, -⟩, ⟨w2, w2'⟩, wT, wL, wM, wI, -⟩ := id W
  obtain ⟨nb, c1, c2, c3, c4, c5⟩ := id wI.1
  have hd7 : (dn + 1) % 7 < 7 := by omega
  obtain ⟨d, hd⟩ : ∃ d, (dn + 1) % 7 = d := ⟨_, rfl⟩
  obtain ⟨S1, hS1⟩ : ∃ S1, runF S 0 i ns = S1 := ⟨_, rfl⟩
  have E := E0_runF S i ns
  have again := runF_again S i ns
  have bp := run_best S i ns
  have kp := KP_runF S 0 i ns
  rw [hS1] at E again bp kp
  have e1 : ∀ {f : Nat}, f ≠ 40 ∧ f ≠ 41 ∧ f ≠ 42 → S1 f = S f := fun hf => E.fld hf
  have okS1 : ∀ t, t < 12 → okT S1 t := fun t ht => okT_of (wT t ht) (e1 (by decide)) (e1 (by decide)) (e1 (by decide)) (e1 (by decide)) (e1 (by decide))
  have j1 := LJ_KP hj kp okS1
  have okL1 := j1.1.2.2.2.2.1
  have n1 : S1 0 0 0 = (ns : Int) := by rw [e1 (by decide), w0]
  have l1 : S1 1 0 0 = ((2 : Nat) : Int) := by rw [e1 (by decide), w1]
  have j2 := LJ_clear (i := i) (d := d) j1
  have j3 := LJ_clear (i := 1 - i) (d := d) j2
  generalize hS3 : sU (sU S1 26 i d 0) 26 (1 - i) d 0 = S3 at j3
  have e3 : ∀ {f : Nat}, f ≠ 26 → S3 f = S1 f := fun hf => by rw [← hS3, sU_f hf, sU_f hf]
  have z3 : S3 26 i d = 0 := by rw [← hS3]; unfold sU; rw [if_neg (fun q => by omega), if_pos ⟨rfl, rfl, rfl⟩]
  have z3o : S3 26 (1 - i) d = 0 := by rw [← hS3, sU_eq]
  obtain ⟨q0, hq0, f0⟩ := (okL1 i (by omega)).2.2.1 d (by omega)
  obtain ⟨q1, hq1, f1⟩ := (j2.1.2.2.2.2.1 (1 - i) (by omega)).2.2.1 d (by omega)
  obtain ⟨t0, ht0, g0⟩ := (okL1 i (by omega)).2.1 0 (by decide)
  obtain ⟨t1, ht1, g1⟩ := (okL1 i (by omega)).2.1 1 (by decide)
  have HM1 := LI_in h
  have had : 0 ≤ S1 24 i 0 ∧ S1 24 i 0 ≤ 90000 := by
    rw [e1 (by decide)]
    have a := h.2.2.2.2.2.1
    have b := h.2.2.2.2.2.2.2.1
    have f2 : fetN S 2 = S 24 0 0 + S 24 1 0 := by simp [fetN]
    rcases (show i = 0 ∨ i = 1 by omega) with rfl | rfl <;> omega
  refine CT.of (by first | exact plainFor_of_name (by rfl) | decide +kernel) (Nat.le_of_ble_eq_true rfl) ?_
  intro G hG
  show G (0, 0) 0 [(0, rf Γ 0 0), (1, nt i)] [] _
  have body : ∀ (L : List Nat) (best most : Int), best = dig 1 L → L.length ≤ 5 → (∀ e, e ∈ L → e < ns) → L.Nodup → 0 ≤ most ∧ most ≤ 1000 → (∀ q, most ≤ dayR q (TO S3 i d L L.length) ns 2 ∧ S1 24 i 0 + most ≤ dayF q (TO S3 i d L L.length) ns 2 24 i 0 ∧ (L.length ≠ 0 → dayF q (TO S3 i d L L.length) ns 2 22 i 0 = (L.length : Nat) ∧ 0 ≤ dayF q (TO S3 i d L L.length) ns 2 21 i 0 ∧ dayF q (TO S3 i d L L.length) ns 2 21 i 0 ≤ dayF q (TO S3 i d L L.length) ns 2 20 i 0)) →
      G (0, 0) 56 [(0, rf Γ 0 0), (1, nt i), (2, nt d), (3, nt best), (4, nt most), (5, nt (S1 24 i 0))] [] S1 := by
    intro L best most hb h5 hL hnd hm hday
    have hL10 : ∀ e, e ∈ L → e < 10 := fun e he => by have := hL e he; omega
    have bin := dig_in hL10 h5
    have told := dig_told hL10
    rw [← hb] at bin told
    have jT : ∀ t, t ≤ L.length → LJ (TO S3 i d L t) ns dn came swept sold := fun t ht => LJ_TO j3 z3 hL t ht (by omega)
    obtain ⟨k, hk⟩ : ∃ k, L.length = k := ⟨_, rfl⟩
    rw [hk] at hday told h5
    have tail : G (0, 0) 132 [(0, rf Γ 0 0), (1, nt i), (2, nt d), (3, nt best), (4, nt most), (5, nt (S1 24 i 0)), (6, nt k), (7, nt 0)] [] (TO S3 i d L k) := by
      have jk := jT k (by omega)
      have eT : ∀ {f : Nat}, f ≠ 26 ∧ f ≠ 27 → TO S3 i d L k f = S3 f := fun hf => TO_of S3 i d L hf k
      generalize TO S3 i d L k = T at hday jk eT
      have cT : comN T ns = comN S ns := comN_of (((eT (by decide)).trans (e3 (by decide))).trans (e1 (by decide))) ns
      have T87 : T 87 0 0 = 0 := by rw [eT (by decide), e3 (by decide), e1 (by decide)]; exact h87
      have bT := (bM_in jk.1.2.2.2.1 6 (by decide)).1
      have lT := litN_nn jk.1.2.2.2.2.2.2.2.2.2 ns (by omega)
      have k1 := jk.2.2.2.1
      have k2 := jk.2.2.2.2.1
      have k3 := jk.2.2.2.2.2.2
      refine r_aload_n hG (hl0 := rfl) (hd := d_Law_isBest_132) (K := ?_)
      refine r_iconst hG (hd := d_Law_isBest_133) (K := ?_)
      refine cVm hG w_Law_105 d_Law_isBest_134 (ct_pass jk.1 (by decide) hdn (by omega)) (by decide) (by decide) rc_0 rfl rfl ⟨(Nat.le_of_ble_eq_true rfl), (Nat.le_of_ble_eq_true rfl)⟩ ⟨by first | exact (Nat.le_of_ble_eq_true rfl) | (simp [rmx]; omega), by first | exact (Nat.le_of_ble_eq_true rfl) | (simp [rmx]; omega)⟩ (Nat.le_of_ble_eq_true rfl) (fun v Sx hp => ?_)
      obtain ⟨r, rfl, hp⟩ := hp
      have jP := LJ_pass jk hdn hp
      obtain ⟨x1, x2, x3, x4, x5, x6⟩ := pass_all jk.1 1 r Sx hdn hp
      obtain ⟨Sa, ra, ⟨ha, hs⟩, q, hr, hs'⟩ := hp
      rw [ha, hs] at hr
      rw [hs] at hs'
      obtain ⟨y1, y2, y3⟩ := hday q
      rw [← hs'] at y2 y3
      have lx : Sx 1 0 0 = ((2 : Nat) : Int) := x1.2.1.1
      have bX := (bM_in x1.2.2.2.1 6 (by decide)).1
      have lX := litN_nn x1.2.2.2.2.2.2.2.2.2 ns (by omega)
      have m1 := jP.2.2.2.1
      have m3 := jP.2.2.2.2.2.2
      have fX : fetN Sx 2 = Sx 24 0 0 + Sx 24 1 0 := by simp [fetN]
      have o20 := (x1.2.2.2.2.1 i (by omega)).1
      rw [cT, show came + ((1 : Nat) : Int) * comN S ns = came + comN S ns by omega] at jP m1 m3
      have X24 : 0 ≤ Sx 24 i 0 ∧ Sx 24 i 0 ≤ 90000 := by
        rcases (show i = 0 ∨ i = 1 by omega) with rfl | rfl <;> omega
      have q6 : loF Sx i 6 = Sx 24 i 0 := rfl
      have q4 : loF Sx i 4 = Sx 22 i 0 := rfl
      have q3 : loF Sx i 3 = Sx 21 i 0 := rfl
      have q0 : loF Sx i 0 = Sx 20 i 0 := rfl
      have fin : LI Sx ns (dn + 1) (came + comN S ns) swept sold := jP.i (by rw [x6 (nX 87 (by decide))]; exact T87)
      refine r_wide hG (k := 1) (w := 1000) (by dsimp only; omega) ?_
      refine r_iload hG (hl0 := rfl) (hd := d_Law_isBest_137) (K := ?_)
      refine r_icmp_lt hG (hd := d_Law_isBest_139) (kt := fun hh => absurd hh (by omega)) (kf := fun _ => ?_)
      refine r_aload_n hG (hl0 := rfl) (hd := d_Law_isBest_142) (K := ?_)
      refine r_iload_n hG (hl0 := rfl) (hd := d_Law_isBest_143) (K := ?_)
      refine r_bipush hG (hd := d_Law_isBest_144) (K := ?_)
      refine cVx hG w_Law_116 d_Law_isBest_146 (ct_ofLorry (w := 6) lx (by decide) hi (by decide)) (by decide) (by decide) rc_0 rfl rfl ⟨(Nat.le_of_ble_eq_true rfl), (Nat.le_of_ble_eq_true rfl)⟩ ⟨(Nat.le_of_ble_eq_true rfl), (Nat.le_of_ble_eq_true rfl)⟩ (Nat.le_of_ble_eq_true rfl) ?_
      refine r_iload hG (hl0 := rfl) (hd := d_Law_isBest_149) (K := ?_)
      refine r_iload hG (hl0 := rfl) (hd := d_Law_isBest_151) (K := ?_)
      first | refine r_iadd hG (hd := d_Law_isBest_153) (K := ?_) | refine r_iaddr hG (hd := d_Law_isBest_153) (K := ?_)
      refine r_icmp_ge hG (hd := d_Law_isBest_154) (kt := fun _ => ?_) (kf := fun hh => absurd hh (by omega))
      refine r_iload hG (hl0 := rfl) (hd := d_Law_isBest_159) (K := ?_)
      by_cases hk0 : k = 0
      · refine r_if_eq hG (hd := d_Law_isBest_161) (kt := fun _ => ?_) (kf := fun hh => absurd hh (by omega))
        refine r_iconst hG (hd := d_Law_isBest_190) (K := ?_)
        refine r_goto hG (hd := d_Law_isBest_191) (K := ?_)
        refine r_zret hG d_Law_isBest_195 ⟨(Nat.le_of_ble_eq_true rfl), (Nat.le_of_ble_eq_true rfl)⟩ (by first | exact Or.inl rfl | exact Or.inr rfl | omega) ?_
        exact ⟨rfl, fin⟩
      · obtain ⟨u1, u2, u3⟩ := y3 hk0
        refine r_if_eq hG (hd := d_Law_isBest_161) (kt := fun hh => absurd hh (by omega)) (kf := fun _ => ?_)
        refine r_aload_n hG (hl0 := rfl) (hd := d_Law_isBest_164) (K := ?_)
        refine r_iload_n hG (hl0 := rfl) (hd := d_Law_isBest_165) (K := ?_)
        refine r_iconst hG (hd := d_Law_isBest_166) (K := ?_)
        refine cVx hG w_Law_116 d_Law_isBest_167 (ct_ofLorry (w := 4) lx (by decide) hi (by decide)) (by decide) (by decide) rc_0 rfl rfl ⟨(Nat.le_of_ble_eq_true rfl), (Nat.le_of_ble_eq_true rfl)⟩ ⟨(Nat.le_of_ble_eq_true rfl), (Nat.le_of_ble_eq_true rfl)⟩ (Nat.le_of_ble_eq_true rfl) ?_
        refine r_iload hG (hl0 := rfl) (hd := d_Law_isBest_170) (K := ?_)
        refine r_icmp_ne hG (hd := d_Law_isBest_172) (kt := fun hh => absurd hh (by omega)) (kf := fun _ => ?_)
        refine r_aload_n hG (hl0 := rfl) (hd := d_Law_isBest_175) (K := ?_)
        refine r_iload_n hG (hl0 := rfl) (hd := d_Law_isBest_176) (K := ?_)
        refine r_iconst hG (hd := d_Law_isBest_177) (K := ?_)
        refine cVx hG w_Law_116 d_Law_isBest_178 (ct_ofLorry (w := 3) lx (by decide) hi (by decide)) (by decide) (by decide) rc_0 rfl rfl ⟨(Nat.le_of_ble_eq_true rfl), (Nat.le_of_ble_eq_true rfl)⟩ ⟨(Nat.le_of_ble_eq_true rfl), (Nat.le_of_ble_eq_true rfl)⟩ (Nat.le_of_ble_eq_true rfl) ?_
        refine r_aload_n hG (hl0 := rfl) (hd := d_Law_isBest_181) (K := ?_)
        refine r_iload_n hG (hl0 := rfl) (hd := d_Law_isBest_182) (K := ?_)
        refine r_iconst hG (hd := d_Law_isBest_183) (K := ?_)
        refine cVx hG w_Law_116 d_Law_isBest_184 (ct_ofLorry (w := 0) lx (by decide) hi (by decide)) (by decide) (by decide) rc_0 rfl rfl ⟨(Nat.le_of_ble_eq_true rfl), (Nat.le_of_ble_eq_true rfl)⟩ ⟨(Nat.le_of_ble_eq_true rfl), (Nat.le_of_ble_eq_true rfl)⟩ (Nat.le_of_ble_eq_true rfl) ?_
        refine r_icmp_gt hG (hd := d_Law_isBest_187) (kt := fun hh => absurd hh (by omega)) (kf := fun _ => ?_)
        refine r_iconst hG (hd := d_Law_isBest_190) (K := ?_)
        refine r_goto hG (hd := d_Law_isBest_191) (K := ?_)
        refine r_zret hG d_Law_isBest_195 ⟨(Nat.le_of_ble_eq_true rfl), (Nat.le_of_ble_eq_true rfl)⟩ (by first | exact Or.inl rfl | exact Or.inr rfl | omega) ?_
        exact ⟨rfl, fin⟩
    have loop : ∀ p, p ≤ 6 → G (0, 0) 85 [(0, rf Γ 0 0), (1, nt i), (2, nt d), (3, nt best), (4, nt most), (5, nt (S1 24 i 0)), (6, nt ((k - p : Nat) : Int)), (7, nt (byP p))] [] (TO S3 i d L (k - p)) := by
      intro p
      induction p with
      | zero =>
        intro _
        have b0 : byP 0 = 0 := rfl
        rw [b0]
        refine r_iload hG (hl0 := rfl) (hd := d_Law_isBest_85) (K := ?_)
        refine r_if_le hG (hd := d_Law_isBest_87) (kt := fun _ => ?_) (kf := fun hh => absurd hh (by omega))
        exact r_sb hG (tail) ⟨rfl, rfl, rfl, rfl, rfl, rfl, rfl, rfl, trivial⟩
      | succ q ih =>
        intro hq
        have bq := byP_in (q + 1) hq
        have dv := byP_div q (by omega)
        have tq := told q
        have ih := ih (by omega)
        obtain ⟨B, hB⟩ : ∃ B, byP (q + 1) = B := ⟨_, rfl⟩
        obtain ⟨t, ht⟩ : ∃ t, k - (q + 1) = t := ⟨_, rfl⟩
        rw [hB] at bq dv tq
        rw [hB, ht]
        rw [ht] at tq
        obtain ⟨X, hX⟩ : ∃ X, best / B = X := ⟨_, rfl⟩
        rw [hX] at tq
        have X0 : 0 ≤ X ∧ X ≤ 200000 := by
          rw [← hX]
          exact ⟨Int.ediv_nonneg (by omega) (by omega), Int.le_trans (Int.ediv_le_self _ (by omega)) (by omega)⟩
        by_cases hqk : q < k
        · obtain ⟨v1, v2⟩ := tq.1 hqk
          rw [show k - q = t + 1 by omega] at ih
          have jt := jT t (by omega)
          have et : ∀ {f : Nat}, f ≠ 26 ∧ f ≠ 27 → TO S3 i d L t f = S3 f := fun hf => TO_of S3 i d L hf t
          have he := hL _ (getD_mem (L := L) (t := t) (by omega))
          have h26 := TO_26 S3 i d L z3 t
          have hno : ∀ q, q < t → TO S3 i d L t 27 (7 * i + d) q ≠ ((L.getD t 0 : Nat) : Int) := fun q hq => by
            rw [TO_27, if_pos ⟨rfl, hq⟩]
            have := getD_ne hnd (t := t) (q := q) (by omega) hq
            omega
          refine r_iload hG (hl0 := rfl) (hd := d_Law_isBest_85) (K := ?_)
          refine r_if_le hG (hd := d_Law_isBest_87) (kt := fun hh => absurd hh (by omega)) (kf := fun _ => ?_)
          refine r_iload_n hG (hl0 := rfl) (hd := d_Law_isBest_90) (K := ?_)
          refine r_iload hG (hl0 := rfl) (hd := d_Law_isBest_91) (K := ?_)
          refine r_idiv hG (hr0 := by first | omega | (simp [sU]; omega)) (hd := d_Law_isBest_93) (K := ?_)
          rw [hX]
          refine r_bipush hG (hd := d_Law_isBest_94) (K := ?_)
          refine r_icmp_lt hG (hd := d_Law_isBest_96) (kt := fun hh => absurd hh (by omega)) (kf := fun _ => ?_)
          refine r_aload_n hG (hl0 := rfl) (hd := d_Law_isBest_99) (K := ?_)
          refine r_iload_n hG (hl0 := rfl) (hd := d_Law_isBest_100) (K := ?_)
          refine r_iload_n hG (hl0 := rfl) (hd := d_Law_isBest_101) (K := ?_)
          refine r_iload_n hG (hl0 := rfl) (hd := d_Law_isBest_102) (K := ?_)
          refine r_iload hG (hl0 := rfl) (hd := d_Law_isBest_103) (K := ?_)
          refine r_idiv hG (hr0 := by first | omega | (simp [sU]; omega)) (hd := d_Law_isBest_105) (K := ?_)
          rw [hX]
          refine r_bipush hG (hd := d_Law_isBest_106) (K := ?_)
          refine r_irem hG (hr0 := by first | omega | (simp [sU]; omega)) (hd := d_Law_isBest_108) (K := ?_)
          rw [v2]
          refine cVx hG w_Law_48 d_Law_isBest_109 (ct_round jt.1.1.1 (by omega) jt.1.2.1.1 (by decide) hi (by omega) he (by omega) h26 ((jt.1.2.2.2.2.1 i (by omega)).2.2.2 d (by omega)) hno) (by decide) (by decide) rc_0 rfl rfl ⟨(Nat.le_of_ble_eq_true rfl), (Nat.le_of_ble_eq_true rfl)⟩ ⟨(Nat.le_of_ble_eq_true rfl), (Nat.le_of_ble_eq_true rfl)⟩ (Nat.le_of_ble_eq_true rfl) ?_
          refine r_iinc hG (hl0 := rfl) (hd := d_Law_isBest_112) (K := ?_)
          refine r_iload hG (hl0 := rfl) (hd := d_Law_isBest_115) (K := ?_)
          refine r_icmp_eq hG (hd := d_Law_isBest_117) (kt := fun _ => ?_) (kf := fun hh => absurd hh (by omega))
          refine r_iload hG (hl0 := rfl) (hd := d_Law_isBest_122) (K := ?_)
          refine r_bipush hG (hd := d_Law_isBest_124) (K := ?_)
          refine r_idiv hG (hr0 := by first | omega | (simp [sU]; omega)) (hd := d_Law_isBest_126) (K := ?_)
          rw [dv]
          refine r_istore hG (hd := d_Law_isBest_127) (K := ?_)
          refine r_goto hG (hd := d_Law_isBest_129) (K := ?_)
          exact r_sb hG (ih) ⟨rfl, rfl, rfl, rfl, rfl, rfl, rfl, rfl, trivial⟩
        · have v1 := tq.2 (by omega)
          rw [show k - q = t by omega] at ih
          refine r_iload hG (hl0 := rfl) (hd := d_Law_isBest_85) (K := ?_)
          refine r_if_le hG (hd := d_Law_isBest_87) (kt := fun hh => absurd hh (by omega)) (kf := fun _ => ?_)
          refine r_iload_n hG (hl0 := rfl) (hd := d_Law_isBest_90) (K := ?_)
          refine r_iload hG (hl0 := rfl) (hd := d_Law_isBest_91) (K := ?_)
          refine r_idiv hG (hr0 := by first | omega | (simp [sU]; omega)) (hd := d_Law_isBest_93) (K := ?_)
          rw [hX]
          refine r_bipush hG (hd := d_Law_isBest_94) (K := ?_)
          refine r_icmp_lt hG (hd := d_Law_isBest_96) (kt := fun _ => ?_) (kf := fun hh => absurd hh (by omega))
          refine r_iload hG (hl0 := rfl) (hd := d_Law_isBest_122) (K := ?_)
          refine r_bipush hG (hd := d_Law_isBest_124) (K := ?_)
          refine r_idiv hG (hr0 := by first | omega | (simp [sU]; omega)) (hd := d_Law_isBest_126) (K := ?_)
          rw [dv]
          refine r_istore hG (hd := d_Law_isBest_127) (K := ?_)
          refine r_goto hG (hd := d_Law_isBest_129) (K := ?_)
          exact r_sb hG (ih) ⟨rfl, rfl, rfl, rfl, rfl, rfl, rfl, rfl, trivial⟩
    have l6 := loop 6 (by decide)
    rw [show k - 6 = 0 by omega, show byP 6 = 100000 by decide] at l6
    refine r_aload_n hG (hl0 := rfl) (hd := d_Law_isBest_56) (K := ?_)
    refine r_iload_n hG (hl0 := rfl) (hd := d_Law_isBest_57) (K := ?_)
    refine r_iload_n hG (hl0 := rfl) (hd := d_Law_isBest_58) (K := ?_)
    refine cVx hG w_Law_45 d_Law_isBest_59 (ct_clear l1 (by decide) hi (by omega)) (by decide) (by decide) rc_0 rfl rfl ⟨(Nat.le_of_ble_eq_true rfl), (Nat.le_of_ble_eq_true rfl)⟩ ⟨(Nat.le_of_ble_eq_true rfl), (Nat.le_of_ble_eq_true rfl)⟩ (Nat.le_of_ble_eq_true rfl) ?_
    refine r_if_lt hG (hd := d_Law_isBest_62) (kt := fun hh => absurd hh (by omega)) (kf := fun _ => ?_)
    refine r_aload_n hG (hl0 := rfl) (hd := d_Law_isBest_65) (K := ?_)
    refine r_iconst hG (hd := d_Law_isBest_66) (K := ?_)
    refine r_iload_n hG (hl0 := rfl) (hd := d_Law_isBest_67) (K := ?_)
    first | refine r_isub hG (hd := d_Law_isBest_68) (K := ?_) | refine r_isubr hG (hd := d_Law_isBest_68) (K := ?_)
    rw [show (1 : Int) - (i : Int) = ((1 - i : Nat) : Int) by omega]
    refine r_iload_n hG (hl0 := rfl) (hd := d_Law_isBest_69) (K := ?_)
    refine cVx hG w_Law_45 d_Law_isBest_70 (ct_clear (by rw [sU_f (by decide)]; exact l1) (by decide) (by omega) (by omega)) (by decide) (by decide) rc_0 rfl rfl ⟨(Nat.le_of_ble_eq_true rfl), (Nat.le_of_ble_eq_true rfl)⟩ ⟨(Nat.le_of_ble_eq_true rfl), (Nat.le_of_ble_eq_true rfl)⟩ (Nat.le_of_ble_eq_true rfl) ?_
    rw [hS3]
    refine r_if_ge hG (hd := d_Law_isBest_73) (kt := fun _ => ?_) (kf := fun hh => absurd hh (by omega))
    refine r_iconst hG (hd := d_Law_isBest_78) (K := ?_)
    refine r_istore hG (hd := d_Law_isBest_79) (K := ?_)
    refine r_ldc hG (k := 100000) (hc := (m_T4 (i := 138) (by decide +kernel) (by decide +kernel))) (hv := rfl) (hd := d_Law_isBest_81) (K := ?_)
    refine r_istore hG (hd := d_Law_isBest_83) (K := ?_)
    exact r_sb hG (l6) ⟨rfl, rfl, rfl, rfl, rfl, rfl, rfl, rfl, trivial⟩
  refine r_aload_n hG (hl0 := rfl) (hd := d_Law_isBest_0) (K := ?_)
  refine r_iconst hG (hd := d_Law_isBest_1) (K := ?_)
  refine cVx hG w_Law_57 d_Law_isBest_2 (ct_many (w := 0) w0 (by omega) w1 (by decide) c2 c1 c3 (by decide)) (by decide) (by decide) rc_0 rfl rfl ⟨(Nat.le_of_ble_eq_true rfl), (Nat.le_of_ble_eq_true rfl)⟩ ⟨(Nat.le_of_ble_eq_true rfl), (Nat.le_of_ble_eq_true rfl)⟩ (Nat.le_of_ble_eq_true rfl) ?_
  rw [show maF S 0 = (dn : Int) from w2]
  refine r_iconst hG (hd := d_Law_isBest_5) (K := ?_)
  first | refine r_iadd hG (hd := d_Law_isBest_6) (K := ?_) | refine r_iaddr hG (hd := d_Law_isBest_6) (K := ?_)
  refine r_bipush hG (hd := d_Law_isBest_7) (K := ?_)
  refine r_irem hG (hr0 := by first | omega | (simp [sU]; omega)) (hd := d_Law_isBest_9) (K := ?_)
  rw [show ((dn : Int) + 1) % 7 = (d : Int) by omega]
  refine r_istore_n hG (hd := d_Law_isBest_10) (K := ?_)
  refine r_aload_n hG (hl0 := rfl) (hd := d_Law_isBest_11) (K := ?_)
  refine r_iload_n hG (hl0 := rfl) (hd := d_Law_isBest_12) (K := ?_)
  refine cVx hG w_Law_113 d_Law_isBest_13 (ct_bestRound w0 (by omega) w1 (by decide) hi wT (wL i (by omega))) (by decide) (by decide) rc_0 rfl rfl ⟨(Nat.le_of_ble_eq_true rfl), (Nat.le_of_ble_eq_true rfl)⟩ ⟨(Nat.le_of_ble_eq_true rfl), (Nat.le_of_ble_eq_true rfl)⟩ (Nat.le_of_ble_eq_true rfl) ?_
  rw [hS1]
  refine r_istore_n hG (hd := d_Law_isBest_16) (K := ?_)
  refine r_aload_n hG (hl0 := rfl) (hd := d_Law_isBest_17) (K := ?_)
  refine r_iload_n hG (hl0 := rfl) (hd := d_Law_isBest_18) (K := ?_)
  refine cVx hG w_Law_93 d_Law_isBest_19 (ct_bestFetch n1 (by omega) l1 (by decide) hi okS1 (okL1 i (by omega))) (by decide) (by decide) rc_0 rfl rfl ⟨(Nat.le_of_ble_eq_true rfl), (Nat.le_of_ble_eq_true rfl)⟩ ⟨(Nat.le_of_ble_eq_true rfl), (Nat.le_of_ble_eq_true rfl)⟩ (Nat.le_of_ble_eq_true rfl) ?_
  rw [again]
  refine r_istore hG (hd := d_Law_isBest_22) (K := ?_)
  refine r_aload_n hG (hl0 := rfl) (hd := d_Law_isBest_24) (K := ?_)
  refine r_iload_n hG (hl0 := rfl) (hd := d_Law_isBest_25) (K := ?_)
  refine r_bipush hG (hd := d_Law_isBest_26) (K := ?_)
  refine cVx hG w_Law_116 d_Law_isBest_28 (ct_ofLorry (w := 6) l1 (by decide) hi (by decide)) (by decide) (by decide) rc_0 rfl rfl ⟨(Nat.le_of_ble_eq_true rfl), (Nat.le_of_ble_eq_true rfl)⟩ ⟨(Nat.le_of_ble_eq_true rfl), (Nat.le_of_ble_eq_true rfl)⟩ (Nat.le_of_ble_eq_true rfl) ?_
  refine r_istore hG (hd := d_Law_isBest_31) (K := ?_)
  rw [show loF S1 i 6 = S1 24 i 0 from rfl]
  rcases bp with ⟨b0, b1⟩ | ⟨s, hs1, hs2, hk, hpos, hnum, hway⟩
  · have B := body [] 1 0 rfl (by decide) (fun e he => by cases he) List.nodup_nil (by decide) (fun q => by
      have pr : PassR ns 2 1 S3 (0 + dayR q S3 ns 2) (dayF q S3 ns 2) := ⟨S3, 0, ⟨rfl, rfl⟩, q, rfl, rfl⟩
      have a := (pass_all j3.1 1 _ _ hdn pr).2.2.1.1
      have b := day24 j3.1 (by omega) q i
      rw [e3 (by decide)] at b
      refine ⟨?_, ?_, fun z => absurd rfl z⟩
      · show 0 ≤ dayR q S3 ns 2
        omega
      · show S1 24 i 0 + 0 ≤ dayF q S3 ns 2 24 i 0
        omega)
    rw [b0, b1]
    refine r_iload_n hG (hl0 := rfl) (hd := d_Law_isBest_33) (K := ?_)
    refine r_iconst hG (hd := d_Law_isBest_34) (K := ?_)
    refine r_icmp_ne hG (hd := d_Law_isBest_35) (kt := fun hh => absurd hh (by omega)) (kf := fun _ => ?_)
    refine r_iconst hG (hd := d_Law_isBest_38) (K := ?_)
    refine r_goto hG (hd := d_Law_isBest_39) (K := ?_)
    refine r_iload hG (hl0 := rfl) (hd := d_Law_isBest_43) (K := ?_)
    refine r_if_ne hG (hd := d_Law_isBest_45) (kt := fun hh => absurd hh (by omega)) (kf := fun _ => ?_)
    refine r_iconst hG (hd := d_Law_isBest_48) (K := ?_)
    refine r_goto hG (hd := d_Law_isBest_49) (K := ?_)
    refine r_icmp_ne hG (hd := d_Law_isBest_53) (kt := fun hh => absurd hh (by omega)) (kf := fun _ => ?_)
    exact r_sb hG (B) ⟨rfl, rfl, rfl, rfl, rfl, rfl, trivial⟩
  · have p32 : 2 ^ ns ≤ 2 ^ 5 := Nat.pow_le_pow_right (by decide) hns.2
    have s32 : s < 32 := Nat.lt_of_lt_of_le hs2 p32
    have b5 := bc_5 s s32
    obtain ⟨o1, o2, o3⟩ := ord_in (S := S) (w := 0) 6 s 0 (by omega) (by omega)
    have hbz := bc_zero s (by omega)
    have b01 := (bc_01 s).1
    have kb : kilosS S 0 i s ≤ 1000 := by
      have := kilosS_in (S := S) (w := 0) (i := i) (s := s) (by decide) wT (wL i (by omega))
      omega
    have hLns : ∀ e, e ∈ ordL S 0 6 s 0 → e < ns := fun e he => by
      have z := (o2 e he).2
      refine Nat.not_le.mp fun q => ?_
      have t : s < 2 ^ e := Nat.lt_of_lt_of_le hs2 (Nat.pow_le_pow_right (by decide) q)
      rw [Nat.testBit_lt_two_pow t] at z
      cases z
    rw [numN_dig] at hnum
    generalize hL : ordL S 0 6 s 0 = L at o1 o2 o3 hLns hnum
    have hlen : L.length ≤ 5 := by omega
    have dg1 := dig_ge L 1 (by decide)
    have tp := ten_pow (m := 1) (n := L.length) (by omega)
    have dgi := dig_in (L := L) (fun e he => by have := hLns e he; omega) hlen
    have B := body L (S1 41 0 0) (S1 40 0 0) hnum hlen hLns o3 (by omega) (fun q => by
      have jT := LJ_TO j3 z3 hLns L.length (Nat.le_refl _) (by omega)
      have eT : ∀ {f : Nat}, (f ≠ 26 ∧ f ≠ 27) → (f ≠ 40 ∧ f ≠ 41 ∧ f ≠ 42) → TO S3 i d L L.length f = S f := fun hf hg => ((TO_of S3 i d L hf _).trans (e3 hf.1)).trans (e1 hg)
      obtain ⟨v1, v2, v3, v4, v5⟩ := best_day (S := S) (A := TO S3 i d L L.length) (s := s) (j0 := t0) (j1 := t1) jT.1 (by omega) q hi ht0 ht1 wT (by omega) (by omega) (by omega) (eT (by decide) (by decide)) (by rw [← e1 (by decide)]; exact g0) (by rw [← e1 (by decide)]; exact g1) (eT (by decide) (by decide)) (eT (by decide) (by decide)) (eT (by decide) (by decide)) (by rw [hd, hL]; exact TO_26 S3 i d L z3 _) (fun t ht => by rw [hL] at ht; rw [hd, hL, TO_27, if_pos ⟨rfl, ht⟩]) (by rw [eT (by decide) (by decide)]; exact hway) (by rw [hd, TO_26o S3 i d L (by omega)]; exact z3o)
      rw [TO_of S3 i d L (by decide), e3 (by decide)] at v2
      rw [hk]
      refine ⟨v1, v2, fun _ => ⟨by rw [v3]; omega, v4.1, ?_⟩⟩
      rw [v5]
      exact v4.2)
    refine r_iload_n hG (hl0 := rfl) (hd := d_Law_isBest_33) (K := ?_)
    refine r_iconst hG (hd := d_Law_isBest_34) (K := ?_)
    refine r_icmp_ne hG (hd := d_Law_isBest_35) (kt := fun _ => ?_) (kf := fun hh => absurd hh (by omega))
    refine r_iconst hG (hd := d_Law_isBest_42) (K := ?_)
    refine r_iload hG (hl0 := rfl) (hd := d_Law_isBest_43) (K := ?_)
    refine r_if_ne hG (hd := d_Law_isBest_45) (kt := fun _ => ?_) (kf := fun hh => absurd hh (by omega))
    refine r_iconst hG (hd := d_Law_isBest_52) (K := ?_)
    refine r_icmp_ne hG (hd := d_Law_isBest_53) (kt := fun hh => absurd hh (by omega)) (kf := fun _ => ?_)
    exact r_sb hG (B) ⟨rfl, rfl, rfl, rfl, rfl, rfl, trivial⟩
