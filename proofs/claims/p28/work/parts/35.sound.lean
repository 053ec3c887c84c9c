/-! WHAT THE LAW HOLDS at every turn, and that it finds it so -/
def okR (S : St) (ns : Nat) : Prop := ∀ i, i < 3 → ∀ d, d < 7 → ∀ q, q < 6 → ∃ e : Nat, e < ns ∧ S 27 (7 * i + d) q = (e : Int)
def LI (S : St) (ns dn : Nat) (came swept sold : Int) : Prop := WF S ns 2 dn ∧ (1 ≤ ns ∧ ns ≤ 5) ∧ okR S ns ∧ S 87 0 0 = 0 ∧ came = bM S 0 6 + litN S 0 ns + swept + fetN S 2 ∧ HM S = fetN S 2 + swept ∧ sold = 40 * cntIn S 1 20 ∧ (0 ≤ swept ∧ 0 ≤ fetN S 2 ∧ 0 ≤ S 24 0 0 ∧ 0 ≤ S 24 1 0) ∧ came ≤ 200 * dn
theorem fu_in {S : St} {t j : Nat} (hj : j < 3) (h : okT S t) : (-1 ≤ fuF S t j ∧ fuF S t j ≤ 99) ∧ (fuF S t j = 0 ↔ S 16 t j + S 17 t j = 60) := by
  have hb := h.2.2 j hj
  unfold fuF
  by_cases h1 : 60 - (S 16 t j + S 17 t j) ≤ 0
  · rw [if_pos h1]
    omega
  · rw [if_neg h1]
    by_cases h2 : S 15 t j ≤ 0
    · rw [if_pos h2]
      omega
    · rw [if_neg h2]
      have r1 := (rup_in (a := 60 - (S 16 t j + S 17 t j)) (b := S 15 t j) (by omega) (by omega)).1
      have r2 : 1 ≤ rupF (60 - (S 16 t j + S 17 t j)) (S 15 t j) := by
        unfold rupF
        exact (Int.le_ediv_iff_mul_le (by omega)).mpr (by omega)
      split <;> omega
def strB (S : St) (t j : Nat) : Int := match j with
  | 0 => 0
  | 1 => S 16 t 0 + S 17 t 0
  | 2 => S 16 t 0 + S 17 t 0 + (S 16 t 1 + S 17 t 1)
  | _ => binK S t
theorem binK_in {S : St} {t : Nat} (h : okT S t) : 0 ≤ binK S t ∧ binK S t ≤ 180 := by
  have a := h.2.2 0 (by decide)
  have b := h.2.2 1 (by decide)
  have c := h.2.2 2 (by decide)
  unfold binK
  omega
theorem bM_in {S : St} (hT : ∀ t, t < 12 → okT S t) : ∀ k, k ≤ 6 → 0 ≤ bM S 0 k ∧ bM S 0 k ≤ 180 * k
  | 0, _ => by simp [bM]
  | k + 1, hk => by
    have ih := bM_in hT k (by omega)
    have h := binK_in (hT (2 * k + 0) (by omega))
    simp only [bM]
    omega
theorem litN_nn {S : St} (hl : ∀ e, e < 6 → 0 ≤ S 12 (2 * e) 0) : ∀ k, k ≤ 6 → 0 ≤ litN S 0 k
  | 0, _ => by simp [litN]
  | k + 1, hk => by
    have ih := litN_nn hl k (by omega)
    have h := hl k (by omega)
    simp only [litN]
    show 0 ≤ litN S 0 k + S 12 (2 * k) 0
    omega
theorem litN_mono {S : St} (hl : ∀ e, e < 6 → 0 ≤ S 12 (2 * e) 0) {n : Nat} (hn : n ≤ 6) : ∀ m k, k + m = n → litN S 0 k ≤ litN S 0 n
  | 0, k, h => by rw [show k = n by omega]; exact Int.le_refl _
  | m + 1, k, h => by
    have ih := litN_mono hl hn m (k + 1) (by omega)
    have hx := hl k (by omega)
    simp only [litN] at ih
    have ih : litN S 0 k + S 12 (2 * k) 0 ≤ litN S 0 n := ih
    omega
theorem bM_end {S : St} {ns : Nat} (h : zr S ns) : ∀ m k, k + m = 6 → ns ≤ k → bM S 0 6 = bM S 0 k
  | 0, k, hk, _ => by rw [show k = 6 by omega]
  | m + 1, k, hk, hn => by
    rw [bM_end h m (k + 1) (by omega) (by omega)]
    have z := (h.2 k hn (by omega)).1
    simp only [bM]
    show bM S 0 k + binK S (2 * k) = _
    unfold binK
    have a := z 0 (by decide)
    have b := z 1 (by decide)
    have c := z 2 (by decide)
    omega
theorem balK_end {S : St} {n : Nat} (h : BL S) (hn : S 52 0 0 = (n : Int)) : ∀ m k, k + m = 20 → n ≤ k → balK S 20 = balK S k
  | 0, k, hk, _ => by rw [show k = 20 by omega]
  | m + 1, k, hk, hnk => by
    rw [balK_end h hn m (k + 1) (by omega) (by omega)]
    obtain ⟨n', a1, a2, a3, a4, a5⟩ := id h
    have z := a5 k (by omega) (by omega)
    simp only [balK]
    omega
theorem balK_le {S : St} (h : ∀ b, b < 20 → 0 ≤ S 55 b 0 ∧ 0 ≤ S 56 b 0) {n : Nat} (hn : n ≤ 20) : ∀ m k, k + m = n → balK S k ≤ balK S n
  | 0, k, e => by rw [show k = n by omega]; exact Int.le_refl _
  | m + 1, k, e => by
    have ih := balK_le h hn m (k + 1) (by omega)
    have hx := h k (by omega)
    simp only [balK] at ih
    omega
theorem cnt_in (S : St) (s : Int) : ∀ k, 0 ≤ cntIn S s k ∧ cntIn S s k ≤ k
  | 0 => by simp [cntIn]
  | k + 1 => by
    have ih := cnt_in S s k
    simp only [cntIn]
    split <;> omega
theorem sold_le {S : St} (h : BL S) : ∀ k, k ≤ 20 → 40 * cntIn S 1 k ≤ balK S k
  | 0, _ => by simp [cntIn, balK]
  | k + 1, hk => by
    have ih := sold_le h k (by omega)
    have nn := BL_nn h k (by omega)
    obtain ⟨n', a1, a2, a3, a4, a5⟩ := id h
    simp only [cntIn, balK]
    split
    · next e =>
      have hkn : k < n' := Nat.not_le.mp fun q => by
        have := (a5 k q (by omega)).2.2
        omega
      have := (a4 k hkn).2.2.2.1 (by omega)
      omega
    · omega
theorem LI_in {S : St} {ns dn : Nat} {came swept sold : Int} (h : LI S ns dn came swept sold) : (0 ≤ HM S ∧ HM S ≤ 80000) ∧ 0 ≤ came := by
  obtain ⟨W, hns, hR, h87, h1, h2, h3, h4, h5⟩ := h
  have b := (bM_in W.2.2.2.1 6 (by decide)).1
  have l := litN_nn W.2.2.2.2.2.2.2.2.2 ns (by omega)
  have hd := W.2.2.1.2
  omega
theorem raF_mono {S : St} {a b : Nat} (h : usedF S a ≤ usedF S b) : raF S a ≤ raF S b := by
  unfold raF
  split
  · exact Int.le_refl _
  · exact Int.ediv_le_ediv (by omega) (by omega)
