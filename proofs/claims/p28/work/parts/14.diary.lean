/-! THE DIARY: its row of numbers may be another one later -/
theorem wl_putM (Γ : Gm) {S : St} {j : Nat} {z : Int} : (wl Γ S).set 9 ((S 81 0 0).toNat, CL Γ (sU S 80 0 j z) 25 0) = wl Γ (sU S 80 0 j z) := by
  refine wl_set Γ (by decide) ?_ (fun n hn hne => ?_) ?_
  · unfold fl
    rw [sU_nf (by decide), sU_nf (by decide)]
    simp only [sU_nf (show (85 : Nat) ≠ 80 by decide)]
  · obtain ⟨k', i', h1, h2, h3, h4⟩ := nm_in hn
    rw [h3]
    refine ⟨?_, (CL_congr Γ fun f' j' hf' => ?_).symm⟩
    · unfold adr
      rw [sU_nf (by decide)]
    · by_cases hff : f' = 80
      · subst hff
        have hk : k' = 25 := hf'.symm
        subst hk
        exact absurd h4.symm hne
      · exact (sU_nf hff).symm
  · rfl
section DX
variable {Γ : Gm} {R : Room} {cc : ByteArray} {nL : Nat} {own : String} {ret : Option FieldType} {post : Option Value → St → Prop} {mc ms : Nat} {G : Nat × Nat → Nat → List (Nat × Value) → List Value → St → Prop} {cs : Nat × Nat} {pc n : Nat} {ls : List (Nat × Value)} {st stk : List Value} {S S1 : St}
theorem r_aldM (hG : IsG Γ R cc nL own ret post mc ms G) {j : Nat} {z : Int} (hd : Dc cc pc .iaload 1 n) (hz : z = (j : Int)) (hj : (j : Int) < S 82 0 0) (hN : S 82 0 0 < 1000000) (K : G cs n ls (nt (S 80 0 j) :: st) S) : G cs pc ls (nt z :: .ref (S 81 0 0).toNat :: st) S := by
  obtain ⟨p, e, s, m, args, below, meth, c, Q, hx, hb, hml, hown, hts, hK, hB, hX, hr, rfl⟩ := hG
  obtain ⟨hd, rfl⟩ := hd
  subst hz
  intro H locs la hP hD hS hl
  obtain ⟨h1, h2⟩ := iI_in (N := (S 82 0 0).toNat) (show j < _ by omega) (by omega)
  refine va_iald (D := gD Γ) (cl := classes) (ws := wl Γ S) hx hb hK hP 9 0 (wl_marks Γ S) rfl h1 hd ?_
  rw [h2]
  exact K H locs la hP hD hS hl
theorem r_astM (hG : IsG Γ R cc nL own ret post mc ms G) {j : Nat} {z : Int} {x : Int32} (hd : Dc cc pc .iastore 1 n) (hz : z = (j : Int)) (hj : (j : Int) < S 82 0 0) (hN : S 82 0 0 < 1000000) (K : G cs n ls st (sU S 80 0 j x.toInt)) : G cs pc ls (.int x :: nt z :: .ref (S 81 0 0).toNat :: st) S := by
  obtain ⟨p, e, s, m, args, below, meth, c, Q, hx, hb, hml, hown, hts, hK, hB, hX, hr, rfl⟩ := hG
  obtain ⟨hd, rfl⟩ := hd
  subst hz
  intro H locs la hP hD hS hl
  obtain ⟨h1, h2⟩ := iI_in (N := (S 82 0 0).toNat) (show j < _ by omega) (by omega)
  refine va_iast (D := gD Γ) (cl := classes) (ws := wl Γ S) hx hb hK hP hD hS 9 0 (wl_marks Γ S) rfl h1 hd (fun H1 locs1 hP1 hD1 hS1 => ?_)
  have e2 : (upd (fun j => iI (S 80 0 j)) j x) = (fun q => iI (sU S 80 0 j x.toInt 80 0 q)) := by
    funext q
    by_cases h : q = j
    · subst h; simp [sU, upd, iI_of]
    · simp [sU, upd, h]
  rw [h2, e2] at hP1 hD1
  have e3 : (wl Γ S).set 9 ((S 81 0 0).toNat, .inl (gC Γ 0, (S 82 0 0).toNat, .inl (fun q => iI (sU S 80 0 j x.toInt 80 0 q)))) = wl Γ (sU S 80 0 j x.toInt) := wl_putM Γ (S := S) (j := j) (z := x.toInt)
  rw [e3] at hP1 hD1
  exact K H1 locs1 la hP1 hD1 hS1 hl
theorem r_alenM (hG : IsG Γ R cc nL own ret post mc ms G) (hd : Dc cc pc .arraylength 1 n) (h0 : 0 ≤ S 82 0 0) (K : G cs n ls (nt (S 82 0 0) :: st) S) : G cs pc ls (.ref (S 81 0 0).toNat :: st) S := by
  obtain ⟨p, e, s, m, args, below, meth, c, Q, hx, hb, hml, hown, hts, hK, hB, hX, hr, rfl⟩ := hG
  obtain ⟨hd, rfl⟩ := hd
  intro H locs la hP hD hS hl
  have e2 : Int32.ofNat (S 82 0 0).toNat = iI (S 82 0 0) := by rw [iI_nI h0]; rfl
  exact va_alen (D := gD Γ) (cl := classes) (ws := wl Γ S) hx hb hK hP 9 0 (wl_marks Γ S) rfl e2 hd (K H locs la hP hD hS hl)
theorem r_ifr_eq (hG : IsG Γ R cc nL own ret post mc ms G) {x : Int32} {tgt : Nat} (hd : Dj cc pc (.ifCond .eq) tgt n) (kt : x = 0 → G cs tgt ls st S) (kf : ¬ x = 0 → G cs n ls st S) : G cs pc ls (.int x :: st) S := by
  obtain ⟨p, e, s, m, args, below, meth, c, Q, hx, hb, hml, hown, hts, hK, hB, hX, hr, rfl⟩ := hG
  obtain ⟨off, hd, ht, rfl⟩ := hd
  intro H locs la hP hD hS hl
  exact lv_if_eq hx hb hd ht (fun h => kt h H locs la hP hD hS hl) (fun h => kf h H locs la hP hD hS hl)
end DX
theorem ct_missed {Γ : Gm} {S : St} {i : Nat} (hi : i < 6) : CT Γ y_Diary_missed b_Diary_missed 1 ((some FieldType.int)) (rmx 1 0 0) [nt i] S (dX (some (nt ((2 ^ i : Nat) : Int))) S) := by
  refine CT.of (by first | exact plainFor_of_name (by rfl) | decide +kernel) (Nat.le_of_ble_eq_true rfl) ?_
  intro G hG
  show G (0, 0) 0 [(0, nt i)] [] _
  refine r_iconst hG (hd := d_Diary_missed_0) (K := ?_)
  refine r_iload_n hG (hl0 := rfl) (hd := d_Diary_missed_1) (K := ?_)
  refine r_ishl hG (hd := d_Diary_missed_2) (K := ?_)
  refine r_top hG (bit_two i (by omega)) ?_
  refine r_iret hG d_Diary_missed_3 ⟨(Nat.le_of_ble_eq_true rfl), (Nat.le_of_ble_eq_true rfl)⟩ ?_
  exact ⟨rfl, rfl⟩
/-- whether a mark stands on a day -/
def hasM (S : St) (d : Nat) (m : Int) : Int := if (d : Int) < S 82 0 0 ∧ iI (S 80 0 d) &&& iI m ≠ 0 then 1 else 0
theorem ct_has {Γ : Gm} {S : St} {d : Nat} {m : Int} (hd : d < 100000) (hN : 0 ≤ S 82 0 0 ∧ S 82 0 0 < 1000000) : CT Γ y_Diary_has b_Diary_has 3 ((some FieldType.boolean)) (rmx 1 0 0) [rf Γ 7 0, nt d, nt m] S (dX (some (nt (hasM S d m))) S) := by
  refine CT.of (by first | exact plainFor_of_name (by rfl) | decide +kernel) (Nat.le_of_ble_eq_true rfl) ?_
  intro G hG
  show G (0, 0) 0 [(0, rf Γ 7 0), (1, nt d), (2, nt m)] [] _
  refine r_iload_n hG (hl0 := rfl) (hd := d_Diary_has_0) (K := ?_)
  refine r_if_lt hG (hd := d_Diary_has_1) (kt := fun hh => absurd hh (by omega)) (kf := fun _ => ?_)
  refine r_iload_n hG (hl0 := rfl) (hd := d_Diary_has_4) (K := ?_)
  refine r_aload_n hG (hl0 := rfl) (hd := d_Diary_has_5) (K := ?_)
  refine g_Diary_9 hG (hd := d_Diary_has_6) (K := ?_)
  refine r_alenM hG (hd := d_Diary_has_9) (h0 := hN.1) (K := ?_)
  refine r_icmp_ge hG (hd := d_Diary_has_10) (kt := fun h => ?_) (kf := fun h => ?_)
  · refine r_iconst hG (hd := d_Diary_has_28) (K := ?_)
    refine r_zret hG d_Diary_has_29 ⟨(Nat.le_of_ble_eq_true rfl), (Nat.le_of_ble_eq_true rfl)⟩ (by first | exact Or.inl rfl | exact Or.inr rfl | omega) ?_
    exact ⟨by rw [hasM, if_neg (by omega)], rfl⟩
  · refine r_aload_n hG (hl0 := rfl) (hd := d_Diary_has_13) (K := ?_)
    refine g_Diary_9 hG (hd := d_Diary_has_14) (K := ?_)
    refine r_iload_n hG (hl0 := rfl) (hd := d_Diary_has_17) (K := ?_)
    refine r_aldM hG (hd := d_Diary_has_18) (hz := rfl) (hj := by omega) (hN := hN.2) (K := ?_)
    refine r_iload_n hG (hl0 := rfl) (hd := d_Diary_has_19) (K := ?_)
    refine r_iand hG (hd := d_Diary_has_20) (K := ?_)
    refine r_ifr_eq hG (hd := d_Diary_has_21) (kt := fun h2 => ?_) (kf := fun h2 => ?_)
    · refine r_iconst hG (hd := d_Diary_has_28) (K := ?_)
      refine r_zret hG d_Diary_has_29 ⟨(Nat.le_of_ble_eq_true rfl), (Nat.le_of_ble_eq_true rfl)⟩ (by first | exact Or.inl rfl | exact Or.inr rfl | omega) ?_
      exact ⟨by rw [hasM, if_neg (fun q => q.2 h2)], rfl⟩
    · refine r_iconst hG (hd := d_Diary_has_24) (K := ?_)
      refine r_goto hG (hd := d_Diary_has_25) (K := ?_)
      refine r_zret hG d_Diary_has_29 ⟨(Nat.le_of_ble_eq_true rfl), (Nat.le_of_ble_eq_true rfl)⟩ (by first | exact Or.inl rfl | exact Or.inr rfl | omega) ?_
      exact ⟨by rw [hasM, if_pos ⟨h, h2⟩], rfl⟩
def noteM (S : St) (d : Nat) (m : Int) : St := if (d : Int) < S 82 0 0 then sU S 80 0 d (iI (S 80 0 d) ||| iI m).toInt else S
theorem ct_note {Γ : Gm} {S : St} {d : Nat} {m : Int} (hd : d < 100000) (hN : 0 ≤ S 82 0 0 ∧ S 82 0 0 < 1000000) : CT Γ y_Diary_note b_Diary_note 3 ((none : Option FieldType)) (rmx 1 0 0) [rf Γ 7 0, nt d, nt m] S (dX none (noteM S d m)) := by
  refine CT.of (by first | exact plainFor_of_name (by rfl) | decide +kernel) (Nat.le_of_ble_eq_true rfl) ?_
  intro G hG
  show G (0, 0) 0 [(0, rf Γ 7 0), (1, nt d), (2, nt m)] [] _
  refine r_iload_n hG (hl0 := rfl) (hd := d_Diary_note_0) (K := ?_)
  refine r_if_lt hG (hd := d_Diary_note_1) (kt := fun hh => absurd hh (by omega)) (kf := fun _ => ?_)
  refine r_iload_n hG (hl0 := rfl) (hd := d_Diary_note_4) (K := ?_)
  refine r_aload_n hG (hl0 := rfl) (hd := d_Diary_note_5) (K := ?_)
  refine g_Diary_9 hG (hd := d_Diary_note_6) (K := ?_)
  refine r_alenM hG (hd := d_Diary_note_9) (h0 := hN.1) (K := ?_)
  refine r_icmp_ge hG (hd := d_Diary_note_10) (kt := fun h => ?_) (kf := fun h => ?_)
  · refine r_vret hG d_Diary_note_23 ⟨(Nat.le_of_ble_eq_true rfl), (Nat.le_of_ble_eq_true rfl)⟩ ?_
    exact ⟨rfl, by rw [noteM, if_neg (by omega)]⟩
  · refine r_aload_n hG (hl0 := rfl) (hd := d_Diary_note_13) (K := ?_)
    refine g_Diary_9 hG (hd := d_Diary_note_14) (K := ?_)
    refine r_iload_n hG (hl0 := rfl) (hd := d_Diary_note_17) (K := ?_)
    refine r_dup2 hG (hd := d_Diary_note_18) (K := ?_)
    refine r_aldM hG (hd := d_Diary_note_19) (hz := rfl) (hj := by omega) (hN := hN.2) (K := ?_)
    refine r_iload_n hG (hl0 := rfl) (hd := d_Diary_note_20) (K := ?_)
    refine r_ior hG (hd := d_Diary_note_21) (K := ?_)
    refine r_astM hG (hd := d_Diary_note_22) (hz := rfl) (hj := by omega) (hN := hN.2) (K := ?_)
    refine r_vret hG d_Diary_note_23 ⟨(Nat.le_of_ble_eq_true rfl), (Nat.le_of_ble_eq_true rfl)⟩ ?_
    exact ⟨rfl, by rw [noteM, if_pos (by omega)]⟩
/-! a longer row, with what was in the old one -/
theorem AC_w : Cond.methodLink "java/util/Arrays" 304 Lib.Math.min.name ∈ tg ∧ Cond.methodLink "java/util/Arrays" 150 arraycopyName ∈ tg ∧ Cond.native arraycopyName ∈ tg ∧ Cond.static arraycopyName ∈ tg ∧ Cond.initialized "java/lang/System" ∈ tg ∧ Cond.arrayClass .int ∈ tg :=
  ⟨m_T4 (i := 57) (by decide +kernel) (by decide +kernel), m_T4 (i := 58) (by decide +kernel) (by decide +kernel), m_T4 (i := 60) (by decide +kernel) (by decide +kernel), m_T4 (i := 59) (by decide +kernel) (by decide +kernel), m_T1 (i := 22) (by decide +kernel) (by decide +kernel), m_T1 (i := 68) (by decide +kernel) (by decide +kernel)⟩
