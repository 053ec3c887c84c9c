/-! ONE DAY -/
def dayA (q : Nat) (S : St) : St := if S 82 0 0 ≤ S 2 0 0 + 1 then sU (sU (sU S 2 0 0 (S 2 0 0 + 1)) 81 0 0 q) 82 0 0 (2 * S 82 0 0) else sU S 2 0 0 (S 2 0 0 + 1)
theorem dayA_of (q : Nat) (S : St) {f : Nat} (h : f ≠ 2 ∧ f ≠ 81 ∧ f ≠ 82) : dayA q S f = S f := by
  unfold dayA
  split
  · rw [sU_f h.2.2, sU_f h.2.1, sU_f h.1]
  · rw [sU_f h.1]
theorem dayA_2 (q : Nat) (S : St) : dayA q S 2 = sU S 2 0 0 (S 2 0 0 + 1) 2 := by
  unfold dayA
  split
  · rw [sU_f (by decide), sU_f (by decide)]
  · rfl
def dayD (q : Nat) (S : St) (ns nl : Nat) : St × Int := dvN (fillF (dayA q S) 0 ns) ((S 2 0 0 + 1) % 7).toNat nl
def dayF (q : Nat) (S : St) (ns nl : Nat) : St := gasF (ripF (srtF (dayD q S ns nl).1 nl))
def dayR (q : Nat) (S : St) (ns nl : Nat) : Int := (dayD q S ns nl).2
theorem HI_now {S S' : St} (h : HI S) (he : ∀ {f : Nat}, f ≠ 2 ∧ f ≠ 81 ∧ f ≠ 82 → S' f = S f) (h2 : S' 2 0 0 = S 2 0 0 + 1) : HI S' ∧ HM S' = HM S := by
  refine ⟨?_, ?_⟩
  · obtain ⟨⟨n, a1, a2, a3, a4, a5⟩, h⟩ := h
    refine ⟨⟨n, a1, by rw [he (by decide)]; exact a2, by rw [he (by decide)]; exact a3, fun b hb => ?_, by rw [he (by decide), he (by decide), he (by decide)]; exact a5⟩, ?_⟩
    · obtain ⟨c1, c2, c3, c4, c5, c6⟩ := a4 b hb
      rw [he (by decide), he (by decide), he (by decide), he (by decide), h2]
      exact ⟨c1, c2, c3, c4, c5, by omega⟩
    · rw [he (by decide), he (by decide), he (by decide), he (by decide), he (by decide), he (by decide), he (by decide), he (by decide), he (by decide), he (by decide), he (by decide), he (by decide), he (by decide)]
      exact h
  · unfold HM
    rw [balK_of (he (by decide)) (he (by decide)), he (by decide), he (by decide), he (by decide), he (by decide), he (by decide), he (by decide), he (by decide), he (by decide), he (by decide), he (by decide)]
theorem ripF_of (S : St) {f : Nat} (h : f ≠ 65 ∧ f ≠ 67 ∧ f ≠ 68) : ripF S f = S f := by
  unfold ripF
  rw [sU_f h.1, sU_f h.2.1, sU_f h.2.2]
theorem gasF_of (S : St) {f : Nat} (h : f ≠ 70 ∧ f ≠ 71 ∧ f ≠ 72) : gasF S f = S f := by
  unfold gasF
  rw [sU_f h.1, sU_f h.2.1, sU_f h.2.2]
theorem ripF_HI {S : St} (h : HI S) : HI (ripF S) ∧ HM (ripF S) = HM S := by
  have e : ∀ {f : Nat}, f ≠ 65 ∧ f ≠ 67 ∧ f ≠ 68 → ripF S f = S f := fun h => ripF_of S h
  have r68 : ripF S 68 0 0 = S 68 0 0 + rupF (S 65 0 0) 10 := by simp [ripF, sU]
  have r67 : ripF S 67 0 0 = S 67 0 0 + S 65 0 0 / 20 := by simp [ripF, sU]
  have r65 : ripF S 65 0 0 = S 65 0 0 - (rupF (S 65 0 0) 10 + S 65 0 0 / 20) := by simp [ripF, sU]
  obtain ⟨h1, h2, h3, h4⟩ := h
  have hr : rupF (S 65 0 0) 10 = (S 65 0 0 + 10 - 1) / 10 := by unfold rupF; simp
  refine ⟨⟨BL_of h1 (e (by decide)) (e (by decide)) (e (by decide)) (e (by decide)) (e (by decide)) (e (by decide)), by rw [e (by decide), e (by decide)]; exact h2, ?_, ?_⟩, ?_⟩
  · rw [r68, r67, r65, e (by decide), e (by decide), hr]
    omega
  · rw [e (by decide), e (by decide), e (by decide), e (by decide), e (by decide), e (by decide)]
    exact h4
  · unfold HM
    rw [balK_of (e (by decide)) (e (by decide)), r68, r67, r65, e (by decide), e (by decide), e (by decide), e (by decide), e (by decide), e (by decide), e (by decide)]
    omega
theorem gasF_HI {S : St} (h : HI S) : HI (gasF S) ∧ HM (gasF S) = HM S := by
  have e : ∀ {f : Nat}, f ≠ 70 ∧ f ≠ 71 ∧ f ≠ 72 → gasF S f = S f := fun h => gasF_of S h
  have r72 : gasF S 72 0 0 = S 72 0 0 + S 71 0 0 / 50 := by simp [gasF, sU]
  have r71 : gasF S 71 0 0 = S 71 0 0 - S 71 0 0 / 50 := by simp [gasF, sU]
  have r70 : gasF S 70 0 0 = S 70 0 0 - S 71 0 0 / 50 := by simp [gasF, sU]
  obtain ⟨h1, h2, h3, h4, h5, h6, h7⟩ := h
  refine ⟨⟨BL_of h1 (e (by decide)) (e (by decide)) (e (by decide)) (e (by decide)) (e (by decide)) (e (by decide)), by rw [e (by decide), e (by decide)]; exact h2, ?_, ?_, ?_, ?_⟩, ?_⟩
  · rw [e (by decide), e (by decide), e (by decide), e (by decide), e (by decide)]
    exact h3
  · rw [r71, r70]
    omega
  · rw [r72]
    omega
  · rw [e (by decide), e (by decide), e (by decide)]
    exact ⟨h6, h7⟩
  · unfold HM
    rw [balK_of (e (by decide)) (e (by decide)), r72, r70, e (by decide), e (by decide), e (by decide), e (by decide), e (by decide), e (by decide), e (by decide), e (by decide)]
    omega
/-- which numbers a day changes -/
def dayX (f : Nat) : Prop := f ∈ [2, 81, 82, 80, 16, 17, 12, 18, 34, 35, 33, 31, 32, 30, 24, 21, 22, 23, 14] ∨ (47 ≤ f ∧ f ≤ 73)
theorem dayF_of (q : Nat) (S : St) (ns nl : Nat) {f : Nat} (h : ¬ dayX f) : dayF q S ns nl f = S f := by
  unfold dayX at h
  simp only [List.mem_cons, List.not_mem_nil, or_false] at h
  unfold dayF dayD
  rw [gasF_of _ (by omega), ripF_of _ (by omega), srtF_of _ _ (by omega), dvN_of _ _ (by omega) (by omega) (by omega) (by omega) (by omega), fillF_of _ _ (by omega), dayA_of _ _ (by omega)]
/-- what stands in the midst of a day -/
theorem day_mid {S : St} {ns nl dn : Nat} (h : WF S ns nl dn) (hdn : dn < 400) (q : Nat) :
    let A := fillF (dayA q S) 0 ns
    let D := (dayD q S ns nl).1
    (A 1 0 0 = (nl : Int) ∧ A 2 0 0 = ((dn + 1 : Nat) : Int)) ∧ (dayA q S 0 0 0 = (ns : Int)) ∧ (∀ t, t < 12 → okT (dayA q S) t) ∧ (∀ t, t < 12 → okT A t) ∧ (∀ i, i < 3 → okL A i) ∧ okM A ∧
      ((S 2 0 0 + 1) % 7).toNat = (dn + 1) % 7 ∧ (∀ t, t < 12 → okT D t) ∧ (∀ i, i < 3 → okL D i) ∧ okM D ∧ (∀ i, i < nl → okC D i 0 ∧ okC D i 1) ∧ HI D ∧ HM D = HM S ∧ okS D ∧ D 1 0 0 = (nl : Int) ∧ D 2 0 0 = ((dn + 1 : Nat) : Int) ∧ chN D nl = dayR q S ns nl ∧ (0 ≤ dayR q S ns nl ∧ dayR q S ns nl ≤ 900) ∧
      fetN D nl = fetN S nl + dayR q S ns nl ∧ bM D 0 6 + dayR q S ns nl + litN D 0 ns = bM S 0 6 + litN S 0 ns + comN S ns ∧ zr D ns ∧ ∀ e, e < 6 → S 12 (2 * e) 0 ≤ D 12 (2 * e) 0 := by
  obtain ⟨⟨h0, hns⟩, ⟨h1, hnl⟩, ⟨h2, -⟩, hT, hL, hM, hI, hS, hz, hlit⟩ := h
  have eA : ∀ {f : Nat}, (f ≠ 2 ∧ f ≠ 81 ∧ f ≠ 82) → (f ≠ 16 ∧ f ≠ 17 ∧ f ≠ 12) → fillF (dayA q S) 0 ns f = S f := fun a b => (fillF_of _ _ b _).trans (dayA_of q S a)
  have A2 : fillF (dayA q S) 0 ns 2 0 0 = ((dn + 1 : Nat) : Int) := by
    rw [fillF_of _ _ (by decide), dayA_2, sU_eq, h2]
    omega
  have hT' : ∀ t, t < 12 → okT (dayA q S) t := fun t ht => okT_of (hT t ht) (dayA_of _ _ (by decide)) (dayA_of _ _ (by decide)) (dayA_of _ _ (by decide)) (dayA_of _ _ (by decide)) (dayA_of _ _ (by decide))
  have hTA := fillF_ok (w := 0) (by decide) hT' ns hns
  have hLA : ∀ i, i < 3 → okL (fillF (dayA q S) 0 ns) i := fun i hi => okL_of (hL i hi) (eA (by decide) (by decide)) (eA (by decide) (by decide)) (eA (by decide) (by decide)) (eA (by decide) (by decide))
  have hMA : okM (fillF (dayA q S) 0 ns) := by
    obtain ⟨N, m1, m2, m3, m4⟩ := hM
    have e80 : fillF (dayA q S) 0 ns 80 = S 80 := eA (by decide) (by decide)
    have e82 : fillF (dayA q S) 0 ns 82 = dayA q S 82 := fillF_of _ _ (by decide) _
    by_cases hg : S 82 0 0 ≤ S 2 0 0 + 1
    · refine ⟨2 * N, by omega, by omega, ?_, fun j hj => by rw [e80]; exact m4 j (by omega)⟩
      rw [e82]
      unfold dayA
      rw [if_pos hg, sU_eq]
      omega
    · refine ⟨N, m1, m2, ?_, fun j hj => by rw [e80]; exact m4 j (by omega)⟩
      rw [e82]
      unfold dayA
      rw [if_neg hg, sU_f (by decide)]
      exact m3
  have hd : ((S 2 0 0 + 1) % 7).toNat = (dn + 1) % 7 := by omega
  have hd7 : (dn + 1) % 7 < 7 := by omega
  obtain ⟨d1, d2, d3, d4, d5, d6, d7, d8, d9⟩ := dvN_all (nl := nl) hd7 hnl hTA hLA hMA nl (Nat.le_refl _)
  obtain ⟨b1, b2, b3⟩ := fillF_bal hns hT' ns (Nat.le_refl _)
  have b4 := fillF_170 hns hT' (fun t ht => by rw [dayA_of _ _ (by decide)]; exact hz.1 t ht) ns (Nat.le_refl _)
  have eD : ∀ {f : Nat}, (f ≠ 16 ∧ f ≠ 17 ∧ f ≠ 18 ∧ f ≠ 34 ∧ f ≠ 35 ∧ f ≠ 33) → (f ≠ 31 ∧ f ≠ 32) → f ≠ 30 → (f ≠ 24 ∧ f ≠ 21 ∧ f ≠ 22 ∧ f ≠ 23) → (f ≠ 80 ∧ f ≠ 14) → (dayD q S ns nl).1 f = fillF (dayA q S) 0 ns f := fun a b c d e => dvN_of _ _ a b c d e _
  have eD2 : dayD q S ns nl = dvN (fillF (dayA q S) 0 ns) ((dn + 1) % 7) nl := by unfold dayD; rw [hd]
  have eR : dayR q S ns nl = (dvN (fillF (dayA q S) 0 ns) ((dn + 1) % 7) nl).2 := by unfold dayR; rw [eD2]
  have hI1 := HI_now (S' := dayA q S) hI (fun h => dayA_of q S h) (by rw [dayA_2, sU_eq])
  have hD50 : ∀ f, 50 ≤ f → f ≤ 72 → f ≠ 60 → f ≠ 61 → (dayD q S ns nl).1 f = dayA q S f := fun f a b _ _ => (eD (by omega) (by omega) (by omega) (by omega) (by omega)).trans (fillF_of _ _ (by omega) _)
  have hD := HI_of (S' := (dayD q S ns nl).1) hI1.1 hD50 ((eD (by decide) (by decide) (by decide) (by decide) (by decide)).trans (fillF_of _ _ (by decide) _))
  have e12 : (dayD q S ns nl).1 12 = fillF (dayA q S) 0 ns 12 := eD (by decide) (by decide) (by decide) (by decide) (by decide)
  have eS : ∀ {f : Nat}, 45 ≤ f ∧ f ≤ 61 → (dayD q S ns nl).1 f = S f := fun a => (eD (by omega) (by omega) (by omega) (by omega) (by omega)).trans (eA (by omega) (by omega))
  have fA : fetN (fillF (dayA q S) 0 ns) nl = fetN S nl := by
    rw [fetN_upd (S := S) (i := 0) (fun q _ => by rw [eA (by decide) (by decide)]), eA (by decide) (by decide)]
    split <;> omega
  have bA : bM (dayA q S) 0 6 = bM S 0 6 := bM_of (dayA_of _ _ (by decide)) (dayA_of _ _ (by decide)) 0 6
  have lA : litN (dayA q S) 0 ns = litN S 0 ns := litN_of (dayA_of _ _ (by decide)) 0 ns
  have cA : comN (dayA q S) ns = comN S ns := by
    have : ∀ k, comN (dayA q S) k = comN S k := by
      intro k
      induction k with
      | zero => rfl
      | succ k ih => simp only [comN]; rw [ih]; unfold habK; rw [dayA_of _ _ (by decide)]
    exact this ns
  have lD : litN (dayD q S ns nl).1 0 ns = litN (fillF (dayA q S) 0 ns) 0 ns := litN_of e12 0 ns
  rw [← eD2] at d1 d2 d3 d4 d5 d6 d7 d8 d9
  have eR' : (dayD q S ns nl).2 = dayR q S ns nl := rfl
  rw [eR'] at d5 d6 d7 d9
  refine ⟨⟨by rw [eA (by decide) (by decide), h1], A2⟩, by rw [dayA_of _ _ (by decide), h0], hT', hTA, hLA, hMA, hd, d1, d2, d3, d4, hD.1, hD.2.trans hI1.2, ?_, by rw [eD (by decide) (by decide) (by decide) (by decide) (by decide), eA (by decide) (by decide), h1], by rw [eD (by decide) (by decide) (by decide) (by decide) (by decide), A2], d6, by omega, by omega, by omega, ?_, fun t ht => ?_⟩
  · unfold okS at hS ⊢
    rw [eS (by decide), eS (by decide), eS (by decide), eS (by decide), eS (by decide)]
    exact hS
  · refine ⟨fun t ht => ?_, fun k hk hk6 => ⟨fun j hj => ?_, ?_⟩⟩
    · have x := d8 (2 * t) 0 (by omega) (by decide)
      rw [b4 t ht] at x
      omega
    · have x := d8 (2 * k) j (by omega) hj
      have y := b3 k hk j
      have z := (hz.2 k hk hk6).1 j hj
      rw [y.1, y.2.1, dayA_of _ _ (by decide), dayA_of _ _ (by decide), z.1, z.2] at x
      omega
    · rw [e12, (b3 k hk 0).2.2, dayA_of _ _ (by decide)]
      exact (hz.2 k hk hk6).2
  · rw [e12]
    have x := (b2 (2 * t) (by omega)).1
    rw [dayA_of _ _ (by decide)] at x
    exact x
/-- a day keeps what there is -/
theorem day_all {S : St} {ns nl dn : Nat} (h : WF S ns nl dn) (hdn : dn < 400) (q : Nat) : WF (dayF q S ns nl) ns nl (dn + 1) ∧ HM (dayF q S ns nl) = HM S + dayR q S ns nl ∧ (0 ≤ dayR q S ns nl ∧ dayR q S ns nl ≤ 900) ∧
    fetN (dayF q S ns nl) nl = fetN S nl + dayR q S ns nl ∧ bM (dayF q S ns nl) 0 6 + dayR q S ns nl + litN (dayF q S ns nl) 0 ns = bM S 0 6 + litN S 0 ns + comN S ns := by
  obtain ⟨m1, m2, m3, m4, m5, m6, m7, m8, m9, m10, m11, m12, m13, m14, m15, m16, m17, m18, m19, m20, m21, m22⟩ := day_mid h hdn q
  obtain ⟨⟨h0, hns⟩, ⟨h1, hnl⟩, ⟨h2, -⟩, hT, hL, hM, hI, hS, hz, hlit⟩ := h
  have s := srtF_HI hnl m12 m14 m9 m11 m16 (by omega)
  have r := ripF_HI s.1
  have g := gasF_HI r.1
  have e : ∀ {f : Nat}, f < 47 ∨ 73 < f → dayF q S ns nl f = (dayD q S ns nl).1 f := fun a => (gasF_of _ (by omega)).trans ((ripF_of _ (by omega)).trans (srtF_of _ _ (by omega)))
  have es : ∀ {f : Nat}, f < 62 → dayF q S ns nl f = srtF (dayD q S ns nl).1 nl f := fun a => (gasF_of _ (by omega)).trans (ripF_of _ (by omega))
  have eo : ∀ {f : Nat}, ¬ dayX f → dayF q S ns nl f = S f := fun a => dayF_of q S ns nl a
  have nX : ∀ {f : Nat}, ¬ (f ∈ [2, 81, 82, 80, 16, 17, 12, 18, 34, 35, 33, 31, 32, 30, 24, 21, 22, 23, 14] ∨ (47 ≤ f ∧ f ≤ 73)) → ¬ dayX f := fun a => a
  refine ⟨⟨⟨by rw [eo (nX (by decide)), h0], hns⟩, ⟨by rw [eo (nX (by decide)), h1], hnl⟩, ⟨by rw [e (by decide), m16], by omega⟩, fun t ht => okT_of (m8 t ht) (e (by decide)) (e (by decide)) (e (by decide)) (e (by decide)) (e (by decide)), fun i hi => okL_of (m9 i hi) (e (by decide)) (e (by decide)) (e (by decide)) (e (by decide)), ?_, g.1, ?_, ?_, fun t ht => by rw [e (by decide)]; exact Int.le_trans (hlit t ht) (m22 t ht)⟩, ?_, m18, ?_, ?_⟩
  · obtain ⟨N, a, b, c, d⟩ := m10
    exact ⟨N, a, b, by rw [e (by decide)]; exact c, fun j hj => by rw [e (by decide)]; exact d j hj⟩
  · have s2 := s.2.1
    unfold okS at s2 ⊢
    rw [es (by decide), es (by decide), es (by decide), es (by decide), es (by decide)]
    exact s2
  · refine ⟨fun t ht => by rw [e (by decide)]; exact m21.1 t ht, fun k hk hk6 => ⟨fun j hj => ?_, ?_⟩⟩
    · rw [e (by decide), e (by decide)]
      exact (m21.2 k hk hk6).1 j hj
    · rw [e (by decide)]
      exact (m21.2 k hk hk6).2
  · have : HM (dayF q S ns nl) = HM (ripF (srtF (dayD q S ns nl).1 nl)) := g.2
    rw [this, r.2, s.2.2, m13, m17]
  · rw [fetN_upd (S := (dayD q S ns nl).1) (i := 0) (fun q _ => by rw [e (by decide)]), e (by decide)]
    split <;> omega
  · rw [bM_of (e (by decide)) (e (by decide)), litN_of (e (by decide))]
    exact m20
theorem ct_liveOneDay {Γ : Gm} {S : St} {ns nl dn : Nat} (h : WF S ns nl dn) (hdn : dn < 400) (hM : HM S ≤ 899000) : CT Γ y_Ward_liveOneDay b_Ward_liveOneDay 2 ((some FieldType.int)) (rmx 6 1 1000) [rf Γ 0 0] S (fun v S' => ∃ q : Nat, v = some (nt (dayR q S ns nl)) ∧ S' = dayF q S ns nl) := by
  have W := h
  obtain ⟨⟨h0, hns⟩, ⟨h1, hnl⟩, ⟨h2, -⟩, hT, hL, ⟨N, n1, n2, n3, n4⟩, hI, hS, hz, hlit⟩ := h
  refine CT.of (by first | exact plainFor_of_name (by rfl) | decide +kernel) (Nat.le_of_ble_eq_true rfl) ?_
  intro G hG
  show G (0, 0) 0 [(0, rf Γ 0 0)] [] _
  refine r_aload_n hG (hl0 := rfl) (hd := d_Ward_liveOneDay_0) (K := ?_)
  refine r_dup hG (hd := d_Ward_liveOneDay_1) (K := ?_)
  refine g_Ward_187 hG (hd := d_Ward_liveOneDay_2) (K := ?_)
  refine r_iconst hG (hd := d_Ward_liveOneDay_5) (K := ?_)
  first | refine r_iadd hG (hd := d_Ward_liveOneDay_6) (K := ?_) | refine r_iaddr hG (hd := d_Ward_liveOneDay_6) (K := ?_)
  refine p_Ward_187 hG (hd := d_Ward_liveOneDay_7) (K := ?_)
  refine r_aload_n hG (hl0 := rfl) (hd := d_Ward_liveOneDay_10) (K := ?_)
  refine g_Ward_41 hG (hd := d_Ward_liveOneDay_11) (K := ?_)
  refine r_aload_n hG (hl0 := rfl) (hd := d_Ward_liveOneDay_14) (K := ?_)
  refine g_Ward_187 hG (hd := d_Ward_liveOneDay_15) (K := ?_)
  rw [sU_eq]
  refine cVm hG w_Ward_351 d_Ward_liveOneDay_18 (ct_reach (N := N) (by omega) (by rw [sU_f (by decide), n3]) (by omega) (by rw [sU_f (by decide)]; exact n4)) (by decide) (by decide) rc_7 rfl rfl ⟨(Nat.le_of_ble_eq_true rfl), (Nat.le_of_ble_eq_true rfl)⟩ ⟨by first | exact (Nat.le_of_ble_eq_true rfl) | (simp [rmx]; omega), by first | exact (Nat.le_of_ble_eq_true rfl) | (simp [rmx]; omega)⟩ (Nat.le_of_ble_eq_true rfl) (fun v Sx hp => ?_)
  obtain ⟨rfl, q, rfl⟩ := hp
  have eA : (if (N : Int) ≤ S 2 0 0 + 1 then sU (sU (sU S 2 0 0 (S 2 0 0 + 1)) 81 0 0 q) 82 0 0 ((2 * N : Nat) : Int) else sU S 2 0 0 (S 2 0 0 + 1)) = dayA q S := by
    unfold dayA
    rw [n3]
    rfl
  rw [eA]
  obtain ⟨m1, m2, m3, m4, m5, m6, m7, m8, m9, m10, m11, m12, m13, m14, m15, m16, m17, m18, m19, m20, m21, m22⟩ := day_mid W hdn q
  have hDe : dayD q S ns nl = dvN (fillF (dayA q S) 0 ns) ((dn + 1) % 7) nl := by unfold dayD; rw [m7]
  refine r_aload_n hG (hl0 := rfl) (hd := d_Ward_liveOneDay_21) (K := ?_)
  refine r_aload_n hG (hl0 := rfl) (hd := d_Ward_liveOneDay_22) (K := ?_)
  refine g_Ward_11 hG (hd := d_Ward_liveOneDay_23) (K := ?_)
  refine cVv hG w_Ward_306 d_Ward_liveOneDay_26 (ct_fillBins (w := 0) (by decide) m2 hns m3) (by decide) (by decide) rc_0 rfl rfl ⟨(Nat.le_of_ble_eq_true rfl), (Nat.le_of_ble_eq_true rfl)⟩ ⟨(Nat.le_of_ble_eq_true rfl), (Nat.le_of_ble_eq_true rfl)⟩ (Nat.le_of_ble_eq_true rfl) ?_
  refine r_aload_n hG (hl0 := rfl) (hd := d_Ward_liveOneDay_29) (K := ?_)
  refine cVx hG w_Ward_355 d_Ward_liveOneDay_30 (ct_driveRounds m1.1 hnl m1.2 (by omega) m4 m5 m6) (by decide) (by decide) rc_0 rfl rfl ⟨(Nat.le_of_ble_eq_true rfl), (Nat.le_of_ble_eq_true rfl)⟩ ⟨(Nat.le_of_ble_eq_true rfl), (Nat.le_of_ble_eq_true rfl)⟩ (Nat.le_of_ble_eq_true rfl) ?_
  rw [← hDe]
  have s := srtF_HI hnl m12 m14 m9 m11 m16 (by omega)
  have r := ripF_HI s.1
  have sl := HI_le s.1
  have rl := HI_le r.1
  have r71 := r.1.2.2.2.1
  refine r_istore_n hG (hd := d_Ward_liveOneDay_33) (K := ?_)
  refine r_aload_n hG (hl0 := rfl) (hd := d_Ward_liveOneDay_34) (K := ?_)
  refine cVv hG w_Ward_358 d_Ward_liveOneDay_35 (ct_sortLoads m15 hnl m12 m14 m9 m11 m16 (by omega) (by omega)) (by decide) (by decide) rc_0 rfl rfl ⟨(Nat.le_of_ble_eq_true rfl), (Nat.le_of_ble_eq_true rfl)⟩ ⟨(Nat.le_of_ble_eq_true rfl), (Nat.le_of_ble_eq_true rfl)⟩ (Nat.le_of_ble_eq_true rfl) ?_
  refine r_aload_n hG (hl0 := rfl) (hd := d_Ward_liveOneDay_38) (K := ?_)
  refine g_Ward_69 hG (hd := d_Ward_liveOneDay_39) (K := ?_)
  refine cVv hG w_Ward_361 d_Ward_liveOneDay_42 (ct_ripen (by have := s.1.2.2.1; omega)) (by decide) (by decide) rc_13 rfl rfl ⟨(Nat.le_of_ble_eq_true rfl), (Nat.le_of_ble_eq_true rfl)⟩ ⟨(Nat.le_of_ble_eq_true rfl), (Nat.le_of_ble_eq_true rfl)⟩ (Nat.le_of_ble_eq_true rfl) ?_
  refine r_aload_n hG (hl0 := rfl) (hd := d_Ward_liveOneDay_45) (K := ?_)
  refine g_Ward_76 hG (hd := d_Ward_liveOneDay_46) (K := ?_)
  refine cVv hG w_Ward_364 d_Ward_liveOneDay_49 (ct_giveGas (by omega)) (by decide) (by decide) rc_14 rfl rfl ⟨(Nat.le_of_ble_eq_true rfl), (Nat.le_of_ble_eq_true rfl)⟩ ⟨(Nat.le_of_ble_eq_true rfl), (Nat.le_of_ble_eq_true rfl)⟩ (Nat.le_of_ble_eq_true rfl) ?_
  refine r_iload_n hG (hl0 := rfl) (hd := d_Ward_liveOneDay_52) (K := ?_)
  refine r_iret hG d_Ward_liveOneDay_53 ⟨(Nat.le_of_ble_eq_true rfl), (Nat.le_of_ble_eq_true rfl)⟩ ?_
  exact ⟨q, rfl, rfl⟩
