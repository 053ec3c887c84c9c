/-! DAYS ON WHICH NOTHING IS FETCHED; what the law holds, kept -/
def KL (S : St) (t j : Nat) : Int := S 16 t j + S 17 t j
theorem thrK_KL {S : St} {t j : Nat} (hj : j < 3) (h : okT S t) (u i : Nat) : KL (thrK S t j) u i = if u = t ∧ i = j then min 60 (KL S t j + S 15 t j) else KL S u i := by
  have hf := foul_in hj h
  have hb := h.2.2 j hj
  unfold KL
  rw [thrK_16, thrK_17]
  split
  · omega
  · rfl
theorem thr_KL {S : St} {t j : Nat} (hj : j < 3) (h : okT S t) (u : Nat) : KL (thr S t) u j = if u = t then min 60 (KL S t j + S 15 t j) else KL S u j := by
  have o1 := thrK_ok (j := 0) (by decide) h h
  have o2 := thrK_ok (j := 1) (by decide) o1 o1
  have e1 : thrK S t 0 15 = S 15 := thrK_of S t 0 (by decide)
  have e2 : thrK (thrK S t 0) t 1 15 = S 15 := (thrK_of (thrK S t 0) t 1 (by decide)).trans e1
  unfold thr
  rw [thrK_KL (by decide) o2, thrK_KL (by decide) o1, thrK_KL (by decide) o1, thrK_KL (by decide) h, thrK_KL (by decide) h, thrK_KL (by decide) h, e2, e1]
  rcases (show j = 0 ∨ j = 1 ∨ j = 2 by omega) with rfl | rfl | rfl <;> by_cases hu : u = t <;> simp [hu]
theorem fill_KL {S : St} {j : Nat} (hj : j < 3) (hT : ∀ t, t < 12 → okT S t) : ∀ k, k ≤ 6 → ∀ e, KL (fillF S 0 k) (2 * e) j = if e < k then min 60 (KL S (2 * e) j + S 15 (2 * e) j) else KL S (2 * e) j
  | 0, _, e => by simp [fillF]
  | k + 1, hk, e => by
    have ih := fill_KL hj hT k (by omega)
    have ok := fillF_ok (w := 0) (by decide) hT k (by omega) (2 * k + 0) (by omega)
    simp only [fillF]
    rw [thr_KL hj ok, fillF_of S 0 (by decide) k]
    by_cases he : e = k
    · subst he
      rw [if_pos (show 2 * e = 2 * e + 0 from rfl), if_pos (by omega)]
      have := ih e
      rw [if_neg (by omega)] at this
      show min 60 (KL (fillF S 0 e) (2 * e) j + S 15 (2 * e) j) = _
      rw [this]
    · rw [if_neg (by omega), ih e]
      by_cases h2 : e < k
      · rw [if_pos h2, if_pos (by omega)]
      · rw [if_neg h2, if_neg (by omega)]
theorem bM_gap {D A : St} (h : ∀ t j, t < 12 → j < 3 → D 16 t j ≤ A 16 t j ∧ D 17 t j ≤ A 17 t j) {e j : Nat} (hj : j < 3) : ∀ k, k ≤ 6 → bM D 0 k ≤ bM A 0 k ∧ (e < k → bM D 0 k + (KL A (2 * e) j - KL D (2 * e) j) ≤ bM A 0 k)
  | 0, _ => by simp [bM]
  | k + 1, hk => by
    obtain ⟨i1, i2⟩ := bM_gap (e := e) h hj k (by omega)
    have a := h (2 * k + 0) 0 (by omega) (by decide)
    have b := h (2 * k + 0) 1 (by omega) (by decide)
    have c := h (2 * k + 0) 2 (by omega) (by decide)
    simp only [bM, binK]
    refine ⟨by omega, fun he => ?_⟩
    by_cases hek : e = k
    · subst hek
      unfold KL
      rcases (show j = 0 ∨ j = 1 ∨ j = 2 by omega) with rfl | rfl | rfl <;> simp only [Nat.add_zero] at * <;> omega
    · have := i2 (by omega)
      omega
theorem day_KL {S : St} {ns nl dn : Nat} (W : WF S ns nl dn) (hdn : dn < 400) (q : Nat) : (∀ e j, e < 6 → j < 3 → KL (dayF q S ns nl) (2 * e) j ≤ 60) ∧ (dayR q S ns nl = 0 → ∀ e j, e < ns → j < 3 → KL (dayF q S ns nl) (2 * e) j = min 60 (KL S (2 * e) j + S 15 (2 * e) j)) := by
  obtain ⟨m1, m2, m3, m4, m5, m6, m7, m8, m9, m10, m11, m12, m13, m14, m15, m16, m17, m18, m19, m20, m21, m22⟩ := day_mid W hdn q
  obtain ⟨⟨h0, hns⟩, ⟨h1, hnl⟩, ⟨h2, -⟩, hT, hL, hM, hI, hS, hz, hlit⟩ := W
  have e : ∀ t j, KL (dayF q S ns nl) t j = KL (dayD q S ns nl).1 t j := fun t j => by
    unfold KL dayF
    rw [gasF_of _ (by decide), gasF_of _ (by decide), ripF_of _ (by decide), ripF_of _ (by decide), srtF_of _ _ (by decide), srtF_of _ _ (by decide)]
  refine ⟨fun e' j he hj => ?_, fun hr e' j he hj => ?_⟩
  · rw [e]
    have := (m8 (2 * e') (by omega)).2.2 j hj
    unfold KL
    omega
  · have hd7 : (dn + 1) % 7 < 7 := by omega
    obtain ⟨d1, d2, d3, d4, d5, d6, d7, d8, d9⟩ := dvN_all (nl := nl) hd7 hnl m4 m5 m6 nl (Nat.le_refl _)
    have eD2 : dayD q S ns nl = dvN (fillF (dayA q S) 0 ns) ((dn + 1) % 7) nl := by unfold dayD; rw [m7]
    rw [← eD2] at d5 d8
    have hr2 : (dayD q S ns nl).2 = 0 := hr
    rw [hr2] at d5
    have g := (bM_gap (D := (dayD q S ns nl).1) (A := fillF (dayA q S) 0 ns) (fun t j ht hj => ⟨(d8 t j ht hj).2.1, (d8 t j ht hj).2.2.2⟩) (e := e') hj 6 (by decide)).2 (by omega)
    have g2 : KL (dayD q S ns nl).1 (2 * e') j ≤ KL (fillF (dayA q S) 0 ns) (2 * e') j := by
      have := d8 (2 * e') j (by omega) hj
      unfold KL
      omega
    have f := fill_KL hj m3 ns hns e'
    rw [if_pos he] at f
    have k0 : KL (dayA q S) (2 * e') j = KL S (2 * e') j := by unfold KL; rw [dayA_of _ _ (by decide), dayA_of _ _ (by decide)]
    rw [k0, dayA_of _ _ (by decide)] at f
    rw [e, ← f]
    omega
theorem pass_KL {A : St} {ns nl dn : Nat} (W : WF A ns nl dn) : ∀ (n : Nat) (r : Int) (A' : St), dn + n ≤ 400 → PassR ns nl n A r A' → r = 0 → ∀ e j, e < ns → j < 3 → KL A' (2 * e) j = min 60 (KL A (2 * e) j + n * A 15 (2 * e) j)
  | 0, r, A', _, hp, hr, e, j, he, hj => by
    obtain ⟨-, rfl⟩ := hp
    have := (W.2.2.2.1 (2 * e) (by have := W.1.2; omega)).2.2 j hj
    simp only [Int.natCast_zero, Int.zero_mul]
    unfold KL
    omega
  | n + 1, r, A', hn, hp, hr, e, j, he, hj => by
    obtain ⟨S1, r1, hp, q, rfl, rfl⟩ := hp
    obtain ⟨a1, a2, a3, a4, a5, a6⟩ := pass_all W n r1 S1 (by omega) hp
    obtain ⟨b1, b2, b3, b4, b5⟩ := day_all a1 (by omega) q
    have ih := pass_KL W n r1 S1 (by omega) hp (by omega) e j he hj
    have x := (day_KL a1 (by omega) q).2 (by omega) e j he hj
    have e15 : S1 15 = A 15 := a6 (nX 15 (by decide))
    have hh := ((W.2.2.2.1 (2 * e) (by have := W.1.2; omega)).2.2 j hj).1
    rw [x, ih, e15]
    have e2 : ((n + 1 : Nat) : Int) * A 15 (2 * e) j = n * A 15 (2 * e) j + A 15 (2 * e) j := by
      rw [Int.natCast_add, Int.add_mul]
      simp
    have e3 : 0 ≤ (n : Int) * A 15 (2 * e) j := Int.mul_nonneg (by omega) hh.1
    rw [e2]
    omega
def fuV (K h : Int) : Int := if 60 - K ≤ 0 then 0 else if h ≤ 0 then -1 else if rupF (60 - K) h ≤ 99 then rupF (60 - K) h else -1
theorem fuF_V (S : St) (t j : Nat) : fuF S t j = fuV (KL S t j) (S 15 t j) := rfl
theorem fu_shift {K h n : Int} (hK : 0 ≤ K ∧ K ≤ 60) (hh : 0 ≤ h ∧ h ≤ 9) (hn : 0 ≤ n) : fuV (min 60 (K + n * h)) h = if fuV K h < 0 then -1 else max 0 (fuV K h - n) := by
  have hnh : 0 ≤ n * h := Int.mul_nonneg hn hh.1
  by_cases h1 : 60 - K ≤ 0
  · have v1 : fuV K h = 0 := if_pos h1
    have v2 : fuV (min 60 (K + n * h)) h = 0 := if_pos (by omega)
    rw [v1, v2, if_neg (by omega)]
    omega
  · by_cases h2 : h ≤ 0
    · have h0 : h = 0 := by omega
      subst h0
      have v1 : fuV K 0 = -1 := (if_neg h1).trans (if_pos (Int.le_refl 0))
      have e : min 60 (K + n * 0) = K := by rw [Int.mul_zero]; omega
      rw [e, v1, if_pos (by decide)]
    · have r1 := rup_in (a := 60 - K) (b := h) (by omega) (by omega)
      have v1 : fuV K h = rupF (60 - K) h := ((if_neg h1).trans (if_neg h2)).trans (if_pos (by omega))
      rw [v1, if_neg (show ¬ rupF (60 - K) h < 0 by omega)]
      by_cases h3 : 60 - min 60 (K + n * h) ≤ 0
      · have v2 : fuV (min 60 (K + n * h)) h = 0 := if_pos h3
        rw [v2]
        have hle : rupF (60 - K) h ≤ n := by
          unfold rupF
          have : (60 - K + h - 1) / h < n + 1 := by
            apply Int.ediv_lt_of_lt_mul (by omega)
            rw [Int.add_mul]
            omega
          omega
        omega
      · have e1 : 60 - min 60 (K + n * h) = 60 - K - n * h := by omega
        have e2 : rupF (60 - K - n * h) h = rupF (60 - K) h - n := by
          unfold rupF
          have := Int.add_mul_ediv_right (60 - K + h - 1) (-n) (show h ≠ 0 by omega)
          rw [Int.neg_mul] at this
          rw [show 60 - K - n * h + h - 1 = 60 - K + h - 1 + -(n * h) by omega, this]
          omega
        have r2 := (rup_in (a := 60 - K - n * h) (b := h) (by omega) (by omega)).1
        have v2 : fuV (min 60 (K + n * h)) h = rupF (60 - K - n * h) h := by
          unfold fuV
          rw [if_neg h3, if_neg h2, e1, if_pos (by omega)]
        rw [v2, e2]
        omega
