/-! THE LAW'S OWN ROWS: the script, its row of numbers, a city made -/
theorem wi_wl {Γ : Gm} {S : WX} (hA : ∀ x, gA Γ x = gB Γ + x) (h : WI Γ S 138 (.inr (11, [ob Γ 1, ob Γ 2, nt 0, ob Γ 3, nt 0, ob Γ 4, ob Γ 7, ob Γ 8, ob Γ 10, ob Γ 11, ob Γ 33, ob Γ 34, ob Γ 35, nt 0, nt 0])) (ra Γ 1 6 (aX Γ 0) 6) (ra Γ 1 6 (aX Γ 1) 6) (ra Γ 2 3 (lX Γ) 3)) : wn Γ S = wl Γ (Z Γ) := by
  obtain ⟨h1, h2, h3, h4, h5, h6⟩ := h
  have c0 : CLk Γ 0 = .inr (11, [ob Γ 1, ob Γ 2, nt 0, ob Γ 3, nt 0, ob Γ 4, ob Γ 7, ob Γ 8, ob Γ 10, ob Γ 11, ob Γ 33, ob Γ 34, ob Γ 35, nt 0, nt 0]) := by
    rw [show (0 : Nat) = off 0 0 from rfl, clk (by decide) (by decide)]
    simp [CL, Z, rf, ob, hA, off]
  have c1 : CLk Γ 1 = ra Γ 1 6 (aX Γ 0) 6 := by
    rw [show CLk Γ 1 = CL Γ (Z Γ) 1 0 from clk (k := 1) (i := 0) (by decide) (by decide)]
    unfold ra
    rw [pa_all]
    simp only [CL, hA]
    rfl
  have c2 : CLk Γ 2 = ra Γ 1 6 (aX Γ 1) 6 := by
    rw [show CLk Γ 2 = CL Γ (Z Γ) 1 1 from clk (k := 1) (i := 1) (by decide) (by decide)]
    unfold ra
    rw [pa_all]
    simp only [CL, hA]
    rfl
  have c3 : CLk Γ 3 = ra Γ 2 3 (lX Γ) 3 := by
    rw [show CLk Γ 3 = CL Γ (Z Γ) 2 0 from clk (k := 2) (i := 0) (by decide) (by decide)]
    unfold ra
    rw [pa_all]
    simp only [CL, hA]
    rfl
  have hall : ∀ q, q < 138 → S.1 q = CLk Γ q := by
    intro q hq
    by_cases g : 3 < q
    · exact h6 q g hq
    · rcases (show q = 0 ∨ q = 1 ∨ q = 2 ∨ q = 3 by omega) with rfl | rfl | rfl | rfl
      · rw [h2, c0]
      · rw [h3, c1]
      · rw [h4, c2]
      · rw [h5, c3]
  have hfl : fl Γ (Z Γ) = [] := rfl
  unfold wl
  rw [hfl, List.append_nil]
  unfold wn wm
  rw [h1]
  apply List.map_congr_left
  intro q hq
  have hq := List.mem_range.mp hq
  rw [hall q hq]
  have ha : adr Γ (Z Γ) q = gB Γ + q := by
    unfold adr
    split
    · next e =>
      subst e
      show ((gA Γ 9 : Nat) : Int).toNat = _
      rw [Int.toNat_natCast, hA]
    · exact hA q
  rw [ha]
  rfl
section LR
variable {Γ : Gm} {R : Room} {cc : ByteArray} {nL : Nat} {own : String} {ret : Option FieldType} {post : Option Value → St → Prop} {mc ms : Nat} {G : Nat × Nat → Nat → List (Nat × Value) → List Value → St → Prop} {cs : Nat × Nat} {pc n : Nat} {ls : List (Nat × Value)} {st : List Value} {S : St}
theorem r_slen (hG : IsG Γ R cc nL own ret post mc ms G) (hd : Dc cc pc .arraylength 1 n) (hL : (gX Γ).2.1 < 1000) (K : G cs n ls (nt ((gX Γ).2.1 : Int) :: st) S) : G cs pc ls (.ref (gX Γ).1 :: st) S := by
  obtain ⟨p, e, s, m, args, below, meth, c, Q, hx, hb, hml, hown, hts, hK, hB, hX, hr, rfl⟩ := hG
  obtain ⟨hd, rfl⟩ := hd
  intro H locs la hP hD hS hl
  refine va_slen hx hb hX.1.1 (Nat.lt_of_lt_of_le hX.1.2 hB) (fun q => absurd hX.1.2 (Nat.not_lt.mpr q)) hS hd ?_
  have K := K H locs la hP hD hS hl
  have e1 : iI ((gX Γ).2.1 : Int) = Int32.ofNat (gX Γ).2.1 := by rw [iI_nI (by omega), Int.toNat_natCast]; rfl
  unfold nt at K
  rw [e1] at K
  exact K
theorem r_sld (hG : IsG Γ R cc nL own ret post mc ms G) {j : Nat} {z : Int} (hd : Dc cc pc .iaload 1 n) (hz : z = (j : Int)) (hj : j < (gX Γ).2.1) (hL : (gX Γ).2.1 < 1000) (K : G cs n ls (nt ((gX Γ).2.2 j).toInt :: st) S) : G cs pc ls (nt z :: .ref (gX Γ).1 :: st) S := by
  obtain ⟨p, e, s, m, args, below, meth, c, Q, hx, hb, hml, hown, hts, hK, hB, hX, hr, rfl⟩ := hG
  obtain ⟨hd, rfl⟩ := hd
  subst hz
  intro H locs la hP hD hS hl
  obtain ⟨h1, h2⟩ := iI_in hj (by omega)
  refine va_sld hx hb hX.1.1 (Nat.lt_of_lt_of_le hX.1.2 hB) (fun q => absurd hX.1.2 (Nat.not_lt.mpr q)) hS h1 hd ?_
  have K := K H locs la hP hD hS hl
  unfold nt at K
  rw [iI_of] at K
  rw [h2]
  exact K
/-- a raw number has a name -/
theorem r_name (hG : IsG Γ R cc nL own ret post mc ms G) {x : Int32} (K : ∀ z : Int, x = iI z → G cs pc ls (nt z :: st) S) : G cs pc ls (.int x :: st) S := by
  have K := K x.toInt (iI_of x).symm
  unfold nt at K
  rw [iI_of] at K
  exact K
theorem r_lcmp (hG : IsG Γ R cc nL own ret post mc ms G) {x : Int64} (hd : Dc cc pc .lcmp 1 n) (K : G cs n ls (nt 0 :: st) S) : G cs pc ls (.long x :: .long x :: st) S := by
  obtain ⟨p, e, s, m, args, below, meth, c, Q, hx, hb, hml, hown, hts, hK, hB, hX, hr, rfl⟩ := hG
  obtain ⟨hd, rfl⟩ := hd
  intro H locs la hP hD hS hl
  have K := K H locs la hP hD hS hl
  refine W.lcmp hx hb hd ?_
  have e0 : lg_cmp x x = iI 0 := by simp [lg_cmp, iI]
  rw [e0]
  exact K
end LR
theorem and_pos (a : Int32) : 0 ≤ (a &&& 2147483647).toInt := by
  have h : ((a &&& 2147483647).toBitVec).msb = false := by
    rw [Int32.toBitVec_and, BitVec.msb_and, show (2147483647 : Int32).toBitVec.msb = false by decide, Bool.and_false]
  show 0 ≤ ((a &&& 2147483647).toBitVec).toInt
  rw [BitVec.toInt_eq_msb_cond, h]
  simp
theorem ct_below {Γ : Gm} {S : St} {v : Int} {k : Nat} (hk : 0 < k ∧ k < 1000) : CT Γ y_Law_below b_Law_below 2 ((some FieldType.int)) (rmx 1 0 0) [nt v, nt k] S (fun r S' => ∃ q : Nat, q < k ∧ r = some (nt q) ∧ S' = S) := by
  refine CT.of (by first | exact plainFor_of_name (by rfl) | decide +kernel) (Nat.le_of_ble_eq_true rfl) ?_
  intro G hG
  show G (0, 0) 0 [(0, nt v), (1, nt k)] [] _
  refine r_iload_n hG (hl0 := rfl) (hd := d_Law_below_0) (K := ?_)
  refine r_ldc hG (k := 2147483647) (hc := (m_T4 (i := 23) (by decide +kernel) (by decide +kernel))) (hv := rfl) (hd := d_Law_below_1) (K := ?_)
  refine r_iand hG (hd := d_Law_below_3) (K := ?_)
  have hp := and_pos (iI v)
  have hle : (iI v &&& iI 2147483647).toInt < 2147483648 := by
    have := Int32.toInt_lt (iI v &&& iI 2147483647)
    omega
  refine r_top hG (z := (iI v &&& iI 2147483647).toInt) (iI_of _).symm ?_
  have hp : 0 ≤ (iI v &&& iI 2147483647).toInt := hp
  generalize (iI v &&& iI 2147483647).toInt = z at hp hle ⊢
  refine r_iload_n hG (hl0 := rfl) (hd := d_Law_below_4) (K := ?_)
  refine r_irem hG (hr0 := by first | omega | (simp [sU]; omega)) (hd := d_Law_below_5) (K := ?_)
  refine r_iret hG d_Law_below_6 ⟨(Nat.le_of_ble_eq_true rfl), (Nat.le_of_ble_eq_true rfl)⟩ ?_
  refine ⟨(z % k).toNat, ?_, ?_, rfl⟩
  · have := Int.emod_lt_of_pos z (show (0 : Int) < k by omega)
    have := Int.emod_nonneg z (show (k : Int) ≠ 0 by omega)
    omega
  · have := Int.emod_nonneg z (show (k : Int) ≠ 0 by omega)
    rw [Int.toNat_of_nonneg this]
    rfl
theorem ct_cell {Γ : Gm} {S : St} {k : Nat} (hk : k < 1000) (hL : (gX Γ).2.1 < 1000) : CT Γ y_Law_cell b_Law_cell 2 ((some FieldType.int)) (rmx 1 0 0) [.ref (gX Γ).1, nt k] S (fun r S' => ∃ z : Int, r = some (nt z) ∧ S' = S) := by
  refine CT.of (by first | exact plainFor_of_name (by rfl) | decide +kernel) (Nat.le_of_ble_eq_true rfl) ?_
  intro G hG
  show G (0, 0) 0 [(0, .ref (gX Γ).1), (1, nt k)] [] _
  refine r_iload_n hG (hl0 := rfl) (hd := d_Law_cell_0) (K := ?_)
  refine r_aload_n hG (hl0 := rfl) (hd := d_Law_cell_1) (K := ?_)
  refine r_slen hG (hd := d_Law_cell_2) (hL := hL) (K := ?_)
  refine r_icmp_ge hG (hd := d_Law_cell_3) (kt := fun h => ?_) (kf := fun h => ?_)
  · refine r_ldc hG (k := 790386105) (hc := (m_T4 (i := 27) (by decide +kernel) (by decide +kernel))) (hv := rfl) (hd := d_Law_cell_12) (K := ?_)
    refine r_iload_n hG (hl0 := rfl) (hd := d_Law_cell_14) (K := ?_)
    refine r_iconst hG (hd := d_Law_cell_15) (K := ?_)
    first | refine r_iadd hG (hd := d_Law_cell_16) (K := ?_) | refine r_iaddr hG (hd := d_Law_cell_16) (K := ?_)
    refine r_imul hG (hd := d_Law_cell_17) (K := ?_)
    refine r_iret hG d_Law_cell_18 ⟨(Nat.le_of_ble_eq_true rfl), (Nat.le_of_ble_eq_true rfl)⟩ ?_
    exact ⟨_, rfl, rfl⟩
  · refine r_aload_n hG (hl0 := rfl) (hd := d_Law_cell_6) (K := ?_)
    refine r_iload_n hG (hl0 := rfl) (hd := d_Law_cell_7) (K := ?_)
    refine r_sld hG (hd := d_Law_cell_8) (hz := rfl) (hj := by omega) (hL := hL) (K := ?_)
    refine r_goto hG (hd := d_Law_cell_9) (K := ?_)
    refine r_iret hG d_Law_cell_18 ⟨(Nat.le_of_ble_eq_true rfl), (Nat.le_of_ble_eq_true rfl)⟩ ?_
    exact ⟨_, rfl, rfl⟩
