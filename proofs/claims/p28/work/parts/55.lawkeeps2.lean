/-! WHAT THE LAW'S TURNS KEEP: swept, sold, opened -/
theorem litN_clr {S S' : St} {k : Nat} (h : ∀ e, S' 12 (2 * e) 0 = if e = k then 0 else S 12 (2 * e) 0) : ∀ n, litN S' 0 n = litN S 0 n - (if k < n then S 12 (2 * k) 0 else 0)
  | 0 => by simp [litN]
  | n + 1 => by
    simp only [litN, Nat.add_zero]
    rw [litN_clr h n, h n]
    by_cases hk : n = k
    · subst hk
      rw [if_pos rfl, if_neg (by omega), if_pos (by omega)]
      omega
    · rw [if_neg hk]
      by_cases hk2 : k < n
      · rw [if_pos hk2, if_pos (by omega)]
        omega
      · rw [if_neg hk2, if_neg (by omega)]
        omega
theorem sweep_of (S : St) (k : Nat) {f : Nat} (h : f ≠ 12 ∧ f ≠ 70 ∧ f ≠ 71 ∧ f ≠ 73) : sweepS S k f = S f := by
  unfold sweepS pitIn
  rw [sU_f h.2.2.2, sU_f h.2.2.1, sU_f h.2.1, sU_f h.1]
theorem sweep_12 (S : St) (k e : Nat) : sweepS S k 12 (2 * e) 0 = if e = k then 0 else S 12 (2 * e) 0 := by
  unfold sweepS pitIn
  rw [sU_f (by decide), sU_f (by decide), sU_f (by decide)]
  unfold sU
  by_cases h : e = k
  · subst h; simp
  · rw [if_neg (fun q => h (by omega)), if_neg h]
theorem LI_sweep {S : St} {ns dn k : Nat} {came swept sold : Int} (h : LI S ns dn came swept sold) (hk : k < ns) : LI (sweepS S k) ns dn came (swept + S 12 (2 * k) 0) sold := by
  obtain ⟨W, hns, hR, h87, h1, h2, h3, h4, h5⟩ := h
  obtain ⟨⟨w0, hns6⟩, ⟨w1, hnl⟩, ⟨w2, hdn⟩, hT, hL, ⟨N, n1, n2, n3, n4⟩, hI, hS, hz, hlit⟩ := W
  have e : ∀ {f : Nat}, f ≠ 12 ∧ f ≠ 70 ∧ f ≠ 71 ∧ f ≠ 73 → sweepS S k f = S f := fun hf => sweep_of S k hf
  have e12 := sweep_12 S k
  have s70 : sweepS S k 70 0 0 = S 70 0 0 + S 12 (2 * k) 0 := by simp [sweepS, pitIn, sU]
  have s71 : sweepS S k 71 0 0 = S 71 0 0 + S 12 (2 * k) 0 / 2 := by simp [sweepS, pitIn, sU]
  have l0 := hlit k (by omega)
  have ln := litN_clr e12 ns
  rw [if_pos hk] at ln
  generalize sweepS S k = S' at e e12 s70 s71 ln ⊢
  have hM : HM S' = HM S + S 12 (2 * k) 0 := by
    unfold HM
    rw [balK_of (e (by decide)) (e (by decide)), e (f := 50) (by decide), e (f := 51) (by decide), e (f := 62) (by decide), e (f := 63) (by decide), e (f := 65) (by decide), e (f := 66) (by decide), e (f := 67) (by decide), e (f := 68) (by decide), e (f := 72) (by decide), s70]
    omega
  refine ⟨⟨⟨by rw [e (f := 0) (by decide), w0], hns6⟩, ⟨by rw [e (f := 1) (by decide), w1], hnl⟩, ⟨by rw [e (f := 2) (by decide), w2], hdn⟩, fun t ht => okT_of (hT t ht) (e (by decide)) (e (by decide)) (e (by decide)) (e (by decide)) (e (by decide)), fun i hi => okL_of (hL i hi) (e (by decide)) (e (by decide)) (e (by decide)) (e (by decide)), ⟨N, n1, n2, by rw [e (f := 82) (by decide), n3], by rw [e (f := 80) (by decide)]; exact n4⟩, ?_, ?_, ?_, fun q hq => ?_⟩, hns, okR_of hR (e (by decide)), by rw [e (f := 87) (by decide)]; exact h87, ?_, ?_, ?_, ?_, h5⟩
  · obtain ⟨b1, b2, b3, b4, b5, b6, b7⟩ := hI
    refine ⟨BL_of b1 (e (by decide)) (e (by decide)) (e (by decide)) (e (by decide)) (e (by decide)) (e (by decide)), ?_, ?_, ?_, ?_, ?_, ?_⟩
    · rw [e (f := 50) (by decide), e (f := 51) (by decide)]; exact b2
    · rw [e (f := 65) (by decide), e (f := 66) (by decide), e (f := 67) (by decide), e (f := 68) (by decide), e (f := 69) (by decide)]; exact b3
    · rw [s70, s71]; omega
    · rw [e (f := 72) (by decide)]; exact b5
    · rw [e (f := 63) (by decide), e (f := 62) (by decide)]; exact b6
    · rw [e (f := 64) (by decide), e (f := 62) (by decide)]; exact b7
  · unfold okS at hS ⊢
    rw [e (f := 45) (by decide), e (f := 46) (by decide), e (f := 47) (by decide), e (f := 60) (by decide), e (f := 61) (by decide)]
    exact hS
  · refine ⟨by rw [e (f := 17) (by decide)]; exact hz.1, fun q hq hq6 => ⟨by rw [e (f := 16) (by decide), e (f := 17) (by decide)]; exact (hz.2 q hq hq6).1, ?_⟩⟩
    rw [e12, if_neg (by omega)]
    exact (hz.2 q hq hq6).2
  · rw [e12]
    split
    · exact Int.le_refl _
    · exact hlit q hq
  · rw [bM_of (e (by decide)) (e (by decide)), ln, fetN_of (e (by decide))]
    omega
  · rw [hM, fetN_of (e (by decide))]
    omega
  · rw [cntIn_of (e (by decide))]
    exact h3
  · rw [fetN_of (e (by decide)), e (f := 24) (by decide)]
    omega
theorem cnt_upd {S S' : St} {b : Nat} {v s : Int} (h : ∀ q, S' 57 q 0 = if q = b then v else S 57 q 0) : ∀ n, cntIn S' s n = cntIn S s n + (if b < n then (if v = s then 1 else 0) - (if S 57 b 0 = s then 1 else 0) else 0)
  | 0 => by simp [cntIn]
  | n + 1 => by
    simp only [cntIn]
    rw [cnt_upd h n, h n]
    by_cases hb : n = b
    · subst hb
      rw [if_neg (Nat.lt_irrefl n), if_pos rfl, if_pos (Nat.lt_succ_self n)]
      omega
    · rw [if_neg hb]
      by_cases hb2 : b < n
      · rw [if_pos hb2, if_pos (show b < n + 1 by omega)]
        omega
      · rw [if_neg hb2, if_neg (show ¬ b < n + 1 by omega)]
        omega
/-- a stored bale is sold, or returned -/
theorem LI_bale {S S' : St} {ns dn nb b : Nat} {came swept sold v : Int} (h : LI S ns dn came swept sold) (hn : S 52 0 0 = (nb : Int)) (hb : b < nb) (h0 : S 57 b 0 = 0) (hv : v = 1 ∨ v = 2) (e : ∀ {f : Nat}, f ≠ 57 ∧ f ≠ 3 → S' f = S f) (e57 : ∀ q, S' 57 q 0 = if q = b then v else S 57 q 0) : LI S' ns dn came swept (sold + (if v = 1 then 40 else 0)) := by
  obtain ⟨W, hns, hR, h87, h1, h2, h3, h4, h5⟩ := h
  obtain ⟨⟨w0, hns6⟩, ⟨w1, hnl⟩, ⟨w2, hdn⟩, hT, hL, ⟨N, n1, n2, n3, n4⟩, hI, hS, hz, hlit⟩ := W
  have hM : HM S' = HM S := by
    unfold HM
    rw [balK_of (e (by decide)) (e (by decide)), e (f := 50) (by decide), e (f := 51) (by decide), e (f := 62) (by decide), e (f := 63) (by decide), e (f := 65) (by decide), e (f := 66) (by decide), e (f := 67) (by decide), e (f := 68) (by decide), e (f := 72) (by decide), e (f := 70) (by decide)]
  obtain ⟨b1, b2⟩ := hI
  obtain ⟨n, a1, a2, a3, a4, a5⟩ := id b1
  have hnn : n = nb := by omega
  subst hnn
  refine ⟨⟨⟨by rw [e (f := 0) (by decide), w0], hns6⟩, ⟨by rw [e (f := 1) (by decide), w1], hnl⟩, ⟨by rw [e (f := 2) (by decide), w2], hdn⟩, fun t ht => okT_of (hT t ht) (e (by decide)) (e (by decide)) (e (by decide)) (e (by decide)) (e (by decide)), fun i hi => okL_of (hL i hi) (e (by decide)) (e (by decide)) (e (by decide)) (e (by decide)), ⟨N, n1, n2, by rw [e (f := 82) (by decide), n3], by rw [e (f := 80) (by decide)]; exact n4⟩, ⟨?_, ?_⟩, ?_, ?_, fun q hq => by rw [e (f := 12) (by decide)]; exact hlit q hq⟩, hns, okR_of hR (e (by decide)), by rw [e (f := 87) (by decide)]; exact h87, ?_, ?_, ?_, ?_, h5⟩
  · refine ⟨n, a1, by rw [e (f := 52) (by decide), a2], fun q hq => ?_, fun q hq => ?_, fun q hq hq2 => ?_⟩
    · rw [e57]
      split
      · omega
      · exact a3 q hq
    · rw [e (f := 55) (by decide), e (f := 56) (by decide), e (f := 58) (by decide), e (f := 2) (by decide), e57]
      have := a4 q hq
      split
      · next z =>
        subst z
        omega
      · exact this
    · rw [e (f := 55) (by decide), e (f := 56) (by decide), e57, if_neg (by omega)]
      exact a5 q hq hq2
  · rw [e (f := 50) (by decide), e (f := 51) (by decide), e (f := 65) (by decide), e (f := 66) (by decide), e (f := 67) (by decide), e (f := 68) (by decide), e (f := 69) (by decide), e (f := 70) (by decide), e (f := 71) (by decide), e (f := 72) (by decide), e (f := 63) (by decide), e (f := 62) (by decide), e (f := 64) (by decide)]
    exact b2
  · unfold okS at hS ⊢
    rw [e (f := 45) (by decide), e (f := 46) (by decide), e (f := 47) (by decide), e (f := 60) (by decide), e (f := 61) (by decide)]
    exact hS
  · unfold zr at hz ⊢
    rw [e (f := 17) (by decide), e (f := 16) (by decide), e (f := 12) (by decide)]
    exact hz
  · rw [bM_of (e (by decide)) (e (by decide)), litN_of (e (by decide)), fetN_of (e (by decide))]
    exact h1
  · rw [hM, fetN_of (e (by decide))]
    exact h2
  · have c := cnt_upd (s := 1) e57 20
    rw [if_pos (show b < 20 by omega), h0, if_neg (show ¬ (0 : Int) = 1 by decide)] at c
    rw [c]
    rcases hv with rfl | rfl
    · rw [if_pos rfl, if_pos rfl]; omega
    · rw [if_neg (by decide), if_neg (by decide)]; omega
  · rw [fetN_of (e (by decide)), e (f := 24) (by decide)]
    exact h4
theorem bal_upd {S S' : St} {b : Nat} (h : ∀ q, S' 55 q 0 + S' 56 q 0 = if q = b then 0 else S 55 q 0 + S 56 q 0) : ∀ n, balK S' n = balK S n - (if b < n then S 55 b 0 + S 56 b 0 else 0)
  | 0 => by simp [balK]
  | n + 1 => by
    simp only [balK]
    have hn := h n
    rw [bal_upd h n]
    by_cases hb : n = b
    · subst hb
      rw [if_pos rfl] at hn
      rw [if_neg (Nat.lt_irrefl n), if_pos (Nat.lt_succ_self n)]
      omega
    · rw [if_neg hb] at hn
      by_cases hb2 : b < n
      · rw [if_pos hb2, if_pos (show b < n + 1 by omega)]
        omega
      · rw [if_neg hb2, if_neg (show ¬ b < n + 1 by omega)]
        omega
/-- a returned bale is opened -/
theorem LI_open {S : St} {ns dn nb b : Nat} {came swept sold : Int} (h : LI S ns dn came swept sold) (hn : S 52 0 0 = (nb : Int)) (hb : b < nb) (h0 : S 57 b 0 = 2) : LI (unpF S b) ns dn came swept sold ∧ (40 ≤ unpF S b 50 0 0 + unpF S b 51 0 0 ∧ unpF S b 50 0 0 + unpF S b 51 0 0 ≤ 90000) := by
  have hin := LI_in h
  obtain ⟨W, hns, hR, h87, h1, h2, h3, h4, h5⟩ := h
  obtain ⟨⟨w0, hns6⟩, ⟨w1, hnl⟩, ⟨w2, hdn⟩, hT, hL, ⟨N, n1, n2, n3, n4⟩, hI, hS, hz, hlit⟩ := W
  obtain ⟨b1, b2⟩ := hI
  obtain ⟨n, a1, a2, a3, a4, a5⟩ := id b1
  have hnn : n = nb := by omega
  subst hnn
  have hab := a4 b hb
  have e : ∀ {f : Nat}, f ≠ 50 ∧ f ≠ 51 ∧ f ≠ 55 ∧ f ≠ 56 ∧ f ≠ 57 → unpF S b f = S f := fun hf => by
    unfold unpF
    rw [sU_f hf.2.2.2.2, sU_f hf.2.2.2.1, sU_f hf.2.2.1, sU_f hf.2.1, sU_f hf.1]
  have e50 : unpF S b 50 0 0 = S 50 0 0 + S 55 b 0 := by simp [unpF, sU]
  have e51 : unpF S b 51 0 0 = S 51 0 0 + S 56 b 0 := by simp [unpF, sU]
  have e55 : ∀ q, unpF S b 55 q 0 = if q = b then 0 else S 55 q 0 := fun q => by
    unfold unpF
    rw [sU_f (by decide), sU_f (by decide)]
    unfold sU
    by_cases hq : q = b <;> simp [hq]
  have e56 : ∀ q, unpF S b 56 q 0 = if q = b then 0 else S 56 q 0 := fun q => by
    unfold unpF
    rw [sU_f (by decide)]
    unfold sU
    by_cases hq : q = b <;> simp [hq]
  have e57 : ∀ q, unpF S b 57 q 0 = if q = b then 3 else S 57 q 0 := fun q => by
    unfold unpF sU
    by_cases hq : q = b <;> simp [hq]
  generalize unpF S b = S' at e e50 e51 e55 e56 e57 ⊢
  have bu := bal_upd (S := S) (S' := S') (b := b) (fun q => by rw [e55, e56]; split <;> omega) 20
  rw [if_pos (show b < 20 by omega)] at bu
  have hM : HM S' = HM S := by
    unfold HM
    rw [bu, e50, e51, e (f := 62) (by decide), e (f := 63) (by decide), e (f := 65) (by decide), e (f := 66) (by decide), e (f := 67) (by decide), e (f := 68) (by decide), e (f := 72) (by decide), e (f := 70) (by decide)]
    omega
  refine ⟨⟨⟨⟨by rw [e (f := 0) (by decide), w0], hns6⟩, ⟨by rw [e (f := 1) (by decide), w1], hnl⟩, ⟨by rw [e (f := 2) (by decide), w2], hdn⟩, fun t ht => okT_of (hT t ht) (e (by decide)) (e (by decide)) (e (by decide)) (e (by decide)) (e (by decide)), fun i hi => okL_of (hL i hi) (e (by decide)) (e (by decide)) (e (by decide)) (e (by decide)), ⟨N, n1, n2, by rw [e (f := 82) (by decide), n3], by rw [e (f := 80) (by decide)]; exact n4⟩, ⟨?_, ?_, ?_⟩, ?_, ?_, fun q hq => by rw [e (f := 12) (by decide)]; exact hlit q hq⟩, hns, okR_of hR (e (by decide)), by rw [e (f := 87) (by decide)]; exact h87, ?_, ?_, ?_, ?_, h5⟩, ?_⟩
  · refine ⟨n, a1, by rw [e (f := 52) (by decide), a2], fun q hq => ?_, fun q hq => ?_, fun q hq hq2 => ?_⟩
    · rw [e57]
      split
      · omega
      · exact a3 q hq
    · rw [e (f := 58) (by decide), e (f := 2) (by decide), e55, e56, e57]
      have := a4 q hq
      split
      · next z =>
        subst z
        omega
      · exact this
    · have hq3 : ¬ q = b := by omega
      rw [e55, e56, e57, if_neg hq3, if_neg hq3, if_neg hq3]
      exact a5 q hq hq2
  · rw [e50, e51]
    omega
  · rw [e (f := 65) (by decide), e (f := 66) (by decide), e (f := 67) (by decide), e (f := 68) (by decide), e (f := 69) (by decide), e (f := 70) (by decide), e (f := 71) (by decide), e (f := 72) (by decide), e (f := 63) (by decide), e (f := 62) (by decide), e (f := 64) (by decide)]
    exact b2.2
  · unfold okS at hS ⊢
    rw [e (f := 45) (by decide), e (f := 46) (by decide), e (f := 47) (by decide), e (f := 60) (by decide), e (f := 61) (by decide)]
    exact hS
  · unfold zr at hz ⊢
    rw [e (f := 17) (by decide), e (f := 16) (by decide), e (f := 12) (by decide)]
    exact hz
  · rw [bM_of (e (by decide)) (e (by decide)), litN_of (e (by decide)), fetN_of (e (by decide))]
    exact h1
  · rw [hM, fetN_of (e (by decide))]
    exact h2
  · have c := cnt_upd (s := 1) e57 20
    rw [if_pos (show b < 20 by omega), h0, if_neg (show ¬ (3 : Int) = 1 by decide), if_neg (show ¬ (2 : Int) = 1 by decide)] at c
    omega
  · rw [fetN_of (e (by decide)), e (f := 24) (by decide)]
    exact h4
  · rw [e50, e51]
    have bl := balK_le (S := S) (BL_nn b1) (n := 20) (by decide) 20 0 (by decide)
    have b0 : balK S 0 = 0 := rfl
    obtain ⟨c1, c2, c3, c4, c5, c6⟩ := b2
    unfold HM at hin
    omega
