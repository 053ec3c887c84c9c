/-! WHAT THE LAW'S TURNS KEEP -/
def belF (v : Int) (k : Nat) : Nat := ((iI v &&& iI 2147483647).toInt % (k : Int)).toNat
theorem belF_lt (v : Int) {k : Nat} (h : 0 < k) : belF v k < k := by
  unfold belF
  have := Int.emod_lt_of_pos (iI v &&& iI 2147483647).toInt (show (0 : Int) < k by omega)
  have := Int.emod_nonneg (iI v &&& iI 2147483647).toInt (show (k : Int) ≠ 0 by omega)
  omega
theorem ct_bel {Γ : Gm} {S : St} {v : Int} {k : Nat} (hk : 0 < k ∧ k < 1000) : CT Γ y_Law_below b_Law_below 2 ((some FieldType.int)) (rmx 1 0 0) [nt v, nt k] S (dX (some (nt (belF v k))) S) := by
  refine CT.of (by first | exact plainFor_of_name (by rfl) | decide +kernel) (Nat.le_of_ble_eq_true rfl) ?_
  intro G hG
  show G (0, 0) 0 [(0, nt v), (1, nt k)] [] _
  refine r_iload_n hG (hl0 := rfl) (hd := d_Law_below_0) (K := ?_)
  refine r_ldc hG (k := 2147483647) (hc := (m_T4 (i := 23) (by decide +kernel) (by decide +kernel))) (hv := rfl) (hd := d_Law_below_1) (K := ?_)
  refine r_iand hG (hd := d_Law_below_3) (K := ?_)
  have hp := and_pos (iI v)
  have hle : (iI v &&& iI 2147483647).toInt < 2147483648 := by
    have := Int32.toInt_lt (iI v &&& iI 2147483647)
    omega
  refine r_top hG (z := (iI v &&& iI 2147483647).toInt) (iI_of _).symm ?_
  have hp : 0 ≤ (iI v &&& iI 2147483647).toInt := hp
  have hb : ((belF v k : Nat) : Int) = (iI v &&& iI 2147483647).toInt % (k : Int) := by
    unfold belF
    exact Int.toNat_of_nonneg (Int.emod_nonneg _ (by omega))
  generalize (iI v &&& iI 2147483647).toInt = z at hp hle hb ⊢
  refine r_iload_n hG (hl0 := rfl) (hd := d_Law_below_4) (K := ?_)
  refine r_irem hG (hr0 := by first | omega | (simp [sU]; omega)) (hd := d_Law_below_5) (K := ?_)
  refine r_iret hG d_Law_below_6 ⟨(Nat.le_of_ble_eq_true rfl), (Nat.le_of_ble_eq_true rfl)⟩ ?_
  exact ⟨by rw [hb]; rfl, rfl⟩
section SHR
variable {Γ : Gm} {R : Room} {cc : ByteArray} {nL : Nat} {own : String} {ret : Option FieldType} {post : Option Value → St → Prop} {mc ms : Nat} {G : Nat × Nat → Nat → List (Nat × Value) → List Value → St → Prop} {cs : Nat × Nat} {pc n : Nat} {ls : List (Nat × Value)} {st : List Value} {S : St}
def shF (a b : Int) : Int := (iI a >>> (iI b &&& 31)).toInt
theorem r_shr (hG : IsG Γ R cc nL own ret post mc ms G) {a b : Int} (hd : Dc cc pc .ishr 1 n) (K : G cs n ls (nt (shF a b) :: st) S) : G cs pc ls (nt b :: nt a :: st) S := by
  refine r_ishr hG hd ?_
  have e : nt (shF a b) = .int (iI a >>> (iI b &&& 31)) := by
    unfold nt shF
    rw [iI_of]
  rw [← e]
  exact K
end SHR
theorem LI_told {S S' : St} {ns dn : Nat} {came swept sold : Int} (h : LI S ns dn came swept sold) (e : ∀ {f : Nat}, (f ≠ 11 ∧ f ≠ 15 ∧ f ≠ 26 ∧ f ≠ 27 ∧ f ≠ 45 ∧ f ≠ 46 ∧ f ≠ 60) → S' f = S f) (hT' : ∀ t, t < 12 → okT S' t) (hL' : ∀ i, i < 3 → okL S' i) (hR' : okR S' ns) (hS' : okS S') : LI S' ns dn came swept sold := by
  obtain ⟨W, hns, hR, h87, h1, h2, h3, h4, h5⟩ := h
  obtain ⟨⟨w0, hns6⟩, ⟨w1, hnl⟩, ⟨w2, hdn⟩, hT, hL, ⟨N, n1, n2, n3, n4⟩, hI, hS, hz, hlit⟩ := W
  have hI' := HI_of hI (fun f a b _ _ => e (by omega)) (e (f := 2) (by decide))
  refine ⟨⟨⟨by rw [e (f := 0) (by decide), w0], hns6⟩, ⟨by rw [e (f := 1) (by decide), w1], hnl⟩, ⟨by rw [e (f := 2) (by decide), w2], hdn⟩, hT', hL', ⟨N, n1, n2, by rw [e (f := 82) (by decide), n3], by rw [e (f := 80) (by decide)]; exact n4⟩, hI'.1, hS', ?_, fun k hk => by rw [e (f := 12) (by decide)]; exact hlit k hk⟩, hns, hR', by rw [e (f := 87) (by decide)]; exact h87, ?_, ?_, ?_, ?_, h5⟩
  · unfold zr at hz ⊢
    rw [e (f := 17) (by decide), e (f := 16) (by decide), e (f := 12) (by decide)]
    exact hz
  · rw [bM_of (e (by decide)) (e (by decide)), litN_of (e (by decide)), fetN_of (e (by decide))]
    exact h1
  · rw [hI'.2, fetN_of (e (by decide))]
    exact h2
  · rw [cntIn_of (e (by decide))]
    exact h3
  · rw [fetN_of (e (by decide)), e (f := 24) (by decide)]
    exact h4
theorem okT_habit {S : St} {a j t : Nat} {z : Int} (hz : 0 ≤ z ∧ z ≤ 9) (h : okT S t) : okT (sU S 15 a j z) t := by
  unfold okT at h ⊢
  rw [sU_f (f' := 10) (by decide), sU_f (f' := 11) (by decide), sU_f (f' := 16) (by decide), sU_f (f' := 17) (by decide)]
  refine ⟨h.1, h.2.1, fun i hi => ⟨?_, (h.2.2 i hi).2⟩⟩
  unfold sU
  split
  · exact hz
  · exact (h.2.2 i hi).1
theorem okT_dirt {S : St} {a t : Nat} {z : Int} (hz : 0 ≤ z ∧ z ≤ 4) (h : okT S t) : okT (sU S 11 a 0 z) t := by
  unfold okT at h ⊢
  rw [sU_f (f' := 10) (by decide), sU_f (f' := 15) (by decide), sU_f (f' := 16) (by decide), sU_f (f' := 17) (by decide)]
  refine ⟨h.1, ?_, h.2.2⟩
  unfold sU
  split
  · exact hz
  · exact h.2.1
theorem LI_habit {S : St} {ns dn a j : Nat} {came swept sold z : Int} (h : LI S ns dn came swept sold) (hz : 0 ≤ z ∧ z ≤ 9) : LI (sU S 15 a j z) ns dn came swept sold := by
  have e : ∀ {f : Nat}, (f ≠ 11 ∧ f ≠ 15 ∧ f ≠ 26 ∧ f ≠ 27 ∧ f ≠ 45 ∧ f ≠ 46 ∧ f ≠ 60) → sU S 15 a j z f = S f := fun hf => sU_f hf.2.1
  exact LI_told h e (fun t ht => okT_habit hz (h.1.2.2.2.1 t ht)) (fun i hi => okL_of (h.1.2.2.2.2.1 i hi) (sU_f (by decide)) (sU_f (by decide)) (sU_f (by decide)) (sU_f (by decide))) (okR_of h.2.2.1 (sU_f (by decide))) h.1.2.2.2.2.2.2.2.1
theorem LI_dirt {S : St} {ns dn a : Nat} {came swept sold z : Int} (h : LI S ns dn came swept sold) (hz : 0 ≤ z ∧ z ≤ 4) : LI (sU S 11 a 0 z) ns dn came swept sold := by
  have e : ∀ {f : Nat}, (f ≠ 11 ∧ f ≠ 15 ∧ f ≠ 26 ∧ f ≠ 27 ∧ f ≠ 45 ∧ f ≠ 46 ∧ f ≠ 60) → sU S 11 a 0 z f = S f := fun hf => sU_f hf.1
  exact LI_told h e (fun t ht => okT_dirt hz (h.1.2.2.2.1 t ht)) (fun i hi => okL_of (h.1.2.2.2.2.1 i hi) (sU_f (by decide)) (sU_f (by decide)) (sU_f (by decide)) (sU_f (by decide))) (okR_of h.2.2.1 (sU_f (by decide))) h.1.2.2.2.2.2.2.2.1
theorem LI_set {S : St} {ns dn f0 : Nat} {came swept sold z : Int} (h : LI S ns dn came swept sold) (hf0 : f0 = 45 ∧ 0 ≤ z ∧ z ≤ 100 ∨ f0 = 46 ∧ 0 ≤ z ∧ z ≤ 50 ∨ f0 = 60 ∧ 0 ≤ z ∧ z ≤ 200) : LI (sU S f0 0 0 z) ns dn came swept sold := by
  have e : ∀ {f : Nat}, (f ≠ 11 ∧ f ≠ 15 ∧ f ≠ 26 ∧ f ≠ 27 ∧ f ≠ 45 ∧ f ≠ 46 ∧ f ≠ 60) → sU S f0 0 0 z f = S f := fun hf => sU_f (by omega)
  have g : ∀ {f : Nat}, f ≠ 45 ∧ f ≠ 46 ∧ f ≠ 60 → sU S f0 0 0 z f = S f := fun hf => sU_f (by omega)
  refine LI_told h e (fun t ht => okT_of (h.1.2.2.2.1 t ht) (g (by decide)) (g (by decide)) (g (by decide)) (g (by decide)) (g (by decide))) (fun i hi => okL_of (h.1.2.2.2.2.1 i hi) (g (by decide)) (g (by decide)) (g (by decide)) (g (by decide))) (okR_of h.2.2.1 (g (by decide))) ?_
  obtain ⟨s1, s2, s3, s4, s5⟩ := h.1.2.2.2.2.2.2.2.1
  rcases hf0 with ⟨rfl, hz⟩ | ⟨rfl, hz⟩ | ⟨rfl, hz⟩
  · refine ⟨by rw [sU_eq]; exact hz, ?_, ?_, ?_, ?_⟩ <;> (rw [sU_f (by decide)]; assumption)
  · refine ⟨?_, by rw [sU_eq]; exact hz, ?_, ?_, ?_⟩ <;> (rw [sU_f (by decide)]; assumption)
  · refine ⟨?_, ?_, ?_, by rw [sU_eq]; exact hz, ?_⟩ <;> (rw [sU_f (by decide)]; assumption)
theorem LI_clear {S : St} {ns dn i d : Nat} {came swept sold : Int} (h : LI S ns dn came swept sold) : LI (sU S 26 i d 0) ns dn came swept sold :=
  (LJ_clear h.j).i (by rw [sU_f (by decide)]; exact h.2.2.2.1)
theorem LI_round {S : St} {ns dn i d e : Nat} {came swept sold : Int} (h : LI S ns dn came swept sold) (h0 : S 26 i d = 0) (he : e < ns) : LI (addR S i d e 0) ns dn came swept sold :=
  LJ.i (LJ_TO (i := i) (d := d) (L := [e]) h.j h0 (fun q hq => by rw [List.mem_singleton.mp hq]; exact he) 1 (Nat.le_refl _) (by decide)) (by rw [addR_of S i d e 0 (f := 87) (by decide)]; exact h.2.2.2.1)
