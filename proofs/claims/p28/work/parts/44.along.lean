/-- the drive along the order leaves nothing out; it fetches at least what was reckoned -/
theorem along {S : St} {c i d j0 j1 : Nat} (h0 : j0 < 3) (h1 : j1 < 3) (hS : ∀ t, t < 12 → okT S t) : ∀ (m q l : Nat) (X : St) (a ck : Int), l < 64 → bc l ≤ m → (∀ e, e < 6 → X 10 (2 * e) 0 = S 10 (2 * e) 0) → (∀ e, e < 6 → l.testBit e = true → ∀ j, j < 3 → KL S (2 * e) j ≤ KL X (2 * e) j) →
    (∀ t, t < (ordL S 0 m l a).length → X 27 (7 * i + d) (q + t) = ((ordL S 0 m l a).getD t 0 : Nat)) → ck + wayH S 0 a l + 2 * bc l ≤ X 20 i 0 → (∀ t, t < 12 → okT X t) → okL X i → okC X c 0 ∧ okC X c 1 → X 25 i 0 = (j0 : Int) → X 25 i 1 = (j1 : Int) →
    (drv 0 c i d (ordL S 0 m l a).length q X a ck).2.2 + (drv 0 c i d (ordL S 0 m l a).length q X a ck).2.1 = ck + wayH S 0 a l + 2 * bc l ∧ (drv 0 c i d (ordL S 0 m l a).length q X a ck).1 31 c 0 = X 31 c 0 + bc l ∧
    (if j1 = j0 then min 300 (chK X c 0 + chK X c 1 + sumK S 0 l j0 6) else min 150 (chK X c 0 + sumK S 0 l j0 6) + min 150 (chK X c 1 + sumK S 0 l j1 6)) ≤ chK (drv 0 c i d (ordL S 0 m l a).length q X a ck).1 c 0 + chK (drv 0 c i d (ordL S 0 m l a).length q X a ck).1 c 1 := by
  have base : ∀ (q l : Nat) (X : St) (a ck : Int), l = 0 → ck + a = ck + wayH S 0 a l + 2 * bc l ∧ X 31 c 0 = X 31 c 0 + bc l ∧ (if j1 = j0 then min 300 (chK X c 0 + chK X c 1 + sumK S 0 l j0 6) else min 150 (chK X c 0 + sumK S 0 l j0 6) + min 150 (chK X c 1 + sumK S 0 l j1 6)) ≤ chK X c 0 + chK X c 1 := by
    intro q l X a ck hl
    subst hl
    have b0 : bc 0 = 0 := by decide
    have s0 : ∀ j, sumK S 0 0 j 6 = 0 := fun j => by simp [sumK]
    rw [wayH_zero, b0, s0, s0]
    refine ⟨by omega, by omega, ?_⟩
    split <;> omega
  intro m
  induction m with
  | zero =>
    intro q l X a ck hl hb hP hK hR hT okT' okL' okC' e0 e1
    have hl0 : l = 0 := (bc_zero l hl).mp (by have := (bc_01 l).1; omega)
    simp only [ordL, List.length_nil, drv]
    exact base q l X a ck hl0
  | succ m ih =>
    intro q l X a ck hl hb hP hK hR hT okT' okL' okC' e0 e1
    by_cases hl0 : l = 0
    · simp only [ordL, if_pos hl0, List.length_nil, drv]
      exact base q l X a ck hl0
    · have ok := nxt_ok (S := S) (w := 0) (a := a) hl hl0
      have e6 := nxt_lt S 0 a l 6 0 (by decide)
      simp only [ordL, if_neg hl0, Nat.add_zero] at hR ⊢
      generalize nxt S 0 a l 6 0 = e at ok e6 hR ⊢
      have hr0 := hR 0 (by simp)
      simp only [Nat.add_zero, List.getD_cons_zero] at hr0
      have cb := clr_bc l hl e e6 ok.1
      have bz := (bc_01 (clr l e)).1
      have hp := hP e e6
      have wg := way_ge (S := S) (w := 0) (s := clr l e) (a := S 10 (2 * e) 0)
      have w2 : iabs (S 10 (2 * e) 0 - a) + wayH S 0 (S 10 (2 * e) 0) (clr l e) = wayH S 0 a l := ok.2
      have rs : rst X 0 i d q = 2 * e := by unfold rst; rw [hr0, Int.toNat_natCast]; rfl
      simp only [List.length_cons, drv]
      rw [rs, hp, if_pos (by omega)]
      have em := empty_ch (t := 2 * e) (c := c) h0 h1 e0 e1 (okT' (2 * e) (by omega)) okC'
      have x20 : emptyS X c (2 * e) i 20 = X 20 := emptyS_of X c _ i (by decide) (by decide)
      have x25 : emptyS X c (2 * e) i 25 = X 25 := emptyS_of X c _ i (by decide) (by decide)
      have x27 : emptyS X c (2 * e) i 27 = X 27 := emptyS_of X c _ i (by decide) (by decide)
      have x10 : emptyS X c (2 * e) i 10 = X 10 := emptyS_of X c _ i (by decide) (by decide)
      have x31 := emptyS_31 X c (2 * e) i
      have kS := hK e e6 ok.1
      have sc0 := sum_clr S 0 j0 l e hl e6 ok.1
      have sc1 := sum_clr S 0 j1 l e hl e6 ok.1
      rw [Nat.add_zero] at sc0 sc1
      have nn0 := (sumK_in (S := S) (w := 0) (s := clr l e) (by decide) h0 hS 6 (by decide)).1
      have nn1 := (sumK_in (S := S) (w := 0) (s := clr l e) (by decide) h1 hS 6 (by decide)).1
      rw [sc0] at nn0
      rw [sc1] at nn1
      have okT2 : ∀ t, t < 12 → okT (emptyS X c (2 * e) i) t := fun t ht => emptyS_okT (okT' (2 * e) (by omega)) okL' okC' (okT' t ht)
      have okC2 := emptyS_okC (t := 2 * e) (okT' (2 * e) (by omega)) okL' okC'
      have okL2 : okL (emptyS X c (2 * e) i) i := emptyS_okL okL'
      generalize emptyS X c (2 * e) i = Y at em x20 x25 x27 x10 x31 okT2 okC2 okL2 ⊢
      obtain ⟨i1, i2, i3⟩ := ih (q + 1) (clr l e) Y (S 10 (2 * e) 0) (ck + iabs (S 10 (2 * e) 0 - a) + 2) (clr_lt hl) (by omega) (fun e' he' => by rw [x10]; exact hP e' he') (fun e' he' hb' j hj => by
        rw [clr_bit l hl e e6 e' he'] at hb'
        have hne : e' ≠ e := fun z => by subst z; simp at hb'
        rw [em.2 (2 * e') (by omega) j]
        exact hK e' he' (by revert hb'; cases l.testBit e' <;> simp) j hj) (fun t ht => by
        rw [x27]
        have := hR (t + 1) (by simp only [List.length_cons]; omega)
        rw [show q + 1 + t = q + (t + 1) by omega, this]
        rfl) (by rw [x20]; omega) okT2 okL2 okC2 (by rw [x25]; exact e0) (by rw [x25]; exact e1)
      refine ⟨by rw [i1]; omega, by rw [i2, x31]; omega, Int.le_trans ?_ i3⟩
      rw [em.1.1, em.1.2, sc0, sc1]
      have k0 := kS j0 h0
      have k1 := kS j1 h1
      have c0 := okC'.1
      have c1 := okC'.2
      unfold okC at c0 c1
      have cc0 : chK X c 0 = X 34 c 0 + X 35 c 0 := rfl
      have cc1 : chK X c 1 = X 34 c 1 + X 35 c 1 := rfl
      by_cases hj : j1 = j0
      · rw [if_pos hj, if_pos hj, if_pos hj]
        omega
      · rw [if_neg hj, if_neg hj, if_neg hj]
        omega
