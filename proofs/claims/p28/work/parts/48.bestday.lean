/-! THE DAY of the best round -/
theorem drive_none {S : St} {i d : Nat} (h : S 26 i d = 0) : (∀ {f : Nat}, f ∈ [16, 17, 24] → driveS S 0 i i d f = S f) ∧ driveS S 0 i i d 33 i 0 = 0 := by
  have hd : driveS S 0 i i d = sU (beginS S i) 30 i 0 (0 + 0) := by
    unfold driveS drvE
    rw [h]
    rfl
  rw [hd]
  refine ⟨fun {f} hf => ?_, ?_⟩
  · simp only [List.mem_cons, List.not_mem_nil, or_false] at hf
    rw [sU_f (by omega), beginS_of S i (by omega)]
  · rw [sU_nf (by decide)]
    simp [beginS, sU]
theorem dvK_none {S : St} {i d : Nat} (h : S 26 i d = 0) : dvK S i d 16 = S 16 ∧ dvK S i d 17 = S 17 ∧ dvK S i d 33 i 0 = 0 := by
  have n := drive_none h
  rw [dvK_drive S i d (by decide) (by decide), dvK_drive S i d (by decide) (by decide), dvK_drive S i d (by decide) (by decide)]
  exact ⟨n.1 (by decide), n.1 (by decide), n.2⟩
/-- what a round along the order makes -/
theorem dvK_best {S D : St} {i d s j0 j1 : Nat} (h0 : j0 < 3) (h1 : j1 < 3) (hS : ∀ t, t < 12 → okT S t) (hs : s < 64) (hb : bc s ≤ 6) (e25 : D 25 = S 25) (e0 : S 25 i 0 = (j0 : Int)) (e1 : S 25 i 1 = (j1 : Int)) (hP : ∀ e, e < 6 → D 10 (2 * e) 0 = S 10 (2 * e) 0) (hK : ∀ e, e < 6 → ∀ j, j < 3 → KL S (2 * e) j ≤ KL D (2 * e) j)
    (hn : D 26 i d = ((ordL S 0 6 s 0).length : Nat)) (hr : ∀ t, t < (ordL S 0 6 s 0).length → D 27 (7 * i + d) t = ((ordL S 0 6 s 0).getD t 0 : Nat)) (hT : ∀ t, t < 12 → okT D t) (hL : okL D i) (hw : wayH S 0 0 s + 2 * bc s ≤ D 20 i 0) (hs0 : s ≠ 0) :
    kilosS S 0 i s ≤ chS (dvK D i d) i ∧ dvK D i d 22 i 0 = bc s ∧ (0 ≤ dvK D i d 21 i 0 ∧ dvK D i d 21 i 0 ≤ D 20 i 0) := by
  have o := ord_in (S := S) (w := 0) 6 s 0 hs hb
  have bX : ∀ {f : Nat}, f ≠ 34 ∧ f ≠ 35 ∧ f ≠ 31 ∧ f ≠ 32 ∧ f ≠ 33 → beginS D i f = D f := fun h => beginS_of D i h
  have hC : okC (beginS D i) i 0 ∧ okC (beginS D i) i 1 := by simp [okC, beginS, sU]
  have c0 : chK (beginS D i) i 0 = 0 := by simp [chK, beginS, sU]
  have c1 : chK (beginS D i) i 1 = 0 := by simp [chK, beginS, sU]
  have b31 : beginS D i 31 i 0 = 0 := by simp [beginS, sU]
  obtain ⟨a1, a2, a3⟩ := along (S := S) (c := i) (i := i) (d := d) h0 h1 hS 6 0 s (beginS D i) 0 0 hs hb (fun e he => by rw [bX (by decide)]; exact hP e he) (fun e he _ j hj => by unfold KL; rw [bX (by decide), bX (by decide)]; exact hK e he j hj) (fun t ht => by rw [bX (by decide), Nat.zero_add]; exact hr t ht) (by rw [bX (by decide)]; omega) (fun t ht => okT_of (hT t ht) (bX (by decide)) (bX (by decide)) (bX (by decide)) (bX (by decide)) (bX (by decide))) (okL_of hL (bX (by decide)) (bX (by decide)) (bX (by decide)) (bX (by decide))) hC (by rw [bX (by decide), e25]; exact e0) (by rw [bX (by decide), e25]; exact e1)
  have hd : driveS D 0 i i d = sU (drv 0 i i d (ordL S 0 6 s 0).length 0 (beginS D i) 0 0).1 30 i 0 ((drv 0 i i d (ordL S 0 6 s 0).length 0 (beginS D i) 0 0).2.2 + (drv 0 i i d (ordL S 0 6 s 0).length 0 (beginS D i) 0 0).2.1) := by
    unfold driveS drvE
    rw [hn, Int.toNat_natCast]
  generalize drv 0 i i d (ordL S 0 6 s 0).length 0 (beginS D i) 0 0 = R at a1 a2 a3 hd
  rw [c0, c1] at a3
  rw [b31] at a2
  have hlen : 0 < D 26 i d := by
    rw [hn, o.1]
    have := (bc_01 s).1
    have := (bc_zero s hs).mp
    have h2 : bc s ≠ 0 := fun q => hs0 ((bc_zero s hs).mp q)
    omega
  have d26 : driveS D 0 i i d 26 = D 26 := driveS_of D 0 i i d (by decide) (by decide) (by decide)
  have e22 : dvK D i d 22 i 0 = driveS D 0 i i d 31 i 0 := by
    unfold dvK
    rw [msN_of i d (by decide)]
    simp only [noteS]
    rw [if_pos (by rw [d26]; exact hlen)]
    simp [sU]
  have e21 : dvK D i d 21 i 0 = driveS D 0 i i d 30 i 0 := by
    unfold dvK
    rw [msN_of i d (by decide)]
    simp only [noteS]
    rw [if_pos (by rw [d26]; exact hlen)]
    simp [sU]
  refine ⟨?_, ?_, ?_⟩
  · have ec : chS (dvK D i d) i = chK R.1 i 0 + chK R.1 i 1 := by
      unfold chS chK
      rw [dvK_drive D i d (by decide) (by decide), dvK_drive D i d (by decide) (by decide), hd, sU_f (by decide), sU_f (by decide)]
    rw [ec]
    refine Int.le_trans ?_ a3
    unfold kilosS
    rw [e0, e1, Int.toNat_natCast, Int.toNat_natCast]
    by_cases hj : j1 = j0
    · rw [if_pos hj, if_pos (by rw [hj])]
      omega
    · rw [if_neg hj, if_neg (by omega)]
      omega
  · rw [e22, hd, sU_nf (by decide), a2]
    omega
  · have wg := way_ge (S := S) (w := 0) (s := s) (a := 0)
    have bz := (bc_01 s).1
    rw [e21, hd, sU_eq, a1]
    omega
