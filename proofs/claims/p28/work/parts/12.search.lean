/-! THE SEARCH, and the JDK's bitCount and floorMod -/
section SX
variable {Γ : Gm} {R : Room} {cc : ByteArray} {nL : Nat} {own : String} {ret : Option FieldType} {post : Option Value → St → Prop} {mc ms : Nat} {G : Nat × Nat → Nat → List (Nat × Value) → List Value → St → Prop} {cs : Nat × Nat} {pc n : Nat} {ls : List (Nat × Value)} {st stk : List Value} {S S1 : St}
theorem r_ifr_ge (hG : IsG Γ R cc nL own ret post mc ms G) {x : Int32} {tgt : Nat} (hd : Dj cc pc (.ifCond .ge) tgt n) (h : 0 ≤ x) (K : G cs tgt ls st S) : G cs pc ls (.int x :: st) S := by
  obtain ⟨p, e, s, m, args, below, meth, c, Q, hx, hb, hml, hown, hts, hK, hB, hX, hr, rfl⟩ := hG
  obtain ⟨off, hd, ht, rfl⟩ := hd
  intro H locs la hP hD hS hl
  exact lv_if_ge hx hb hd ht (fun _ => K H locs la hP hD hS hl) (fun q => absurd h q)
theorem r_top (hG : IsG Γ R cc nL own ret post mc ms G) {x : Int32} {z : Int} (h : x = iI z) (K : G cs pc ls (nt z :: st) S) : G cs pc ls (.int x :: st) S := by
  subst h; exact K
end SX
theorem xor_nn {x y : Int32} (hx : 0 ≤ x.toInt) (hy : 0 ≤ y.toInt) : 0 ≤ (x ^^^ y).toInt := by
  have h1 : x.toBitVec.msb = false := by
    rw [BitVec.msb_eq_toInt]
    exact decide_eq_false (by have : x.toBitVec.toInt = x.toInt := rfl; omega)
  have h2 : y.toBitVec.msb = false := by
    rw [BitVec.msb_eq_toInt]
    exact decide_eq_false (by have : y.toBitVec.toInt = y.toInt := rfl; omega)
  have h3 : (x ^^^ y).toBitVec.msb = false := by
    rw [Int32.toBitVec_xor, BitVec.msb_xor, h1, h2]
    rfl
  rw [BitVec.msb_eq_toInt] at h3
  have h4 := of_decide_eq_false h3
  have : (x ^^^ y).toBitVec.toInt = (x ^^^ y).toInt := rfl
  omega
theorem ct_floorMod {Γ : Gm} {S : St} {a : Int} (ha : 0 ≤ a ∧ a < 2147483648) : CT Γ y_Math_floorMod b_Math_floorMod 3 ((some FieldType.int)) (rmx 1 0 0) [nt a, nt 7] S (dX (some (nt (a % 7))) S) := by
  have h : (0 : Int32) ≤ iI a ^^^ iI 7 := by
    rw [Int32.le_iff_toInt_le]
    exact xor_nn (by rw [iI_toInt (by omega)]; omega) (by rw [iI_toInt (by omega)]; omega)
  refine CT.of (by first | exact plainFor_of_name (by rfl) | decide +kernel) (Nat.le_of_ble_eq_true rfl) ?_
  intro G hG
  show G (0, 0) 0 [(0, nt a), (1, nt 7)] [] _
  refine r_iload_n hG (hl0 := rfl) (hd := d_Math_floorMod_0) (K := ?_)
  refine r_iload_n hG (hl0 := rfl) (hd := d_Math_floorMod_1) (K := ?_)
  refine r_irem hG (hr0 := by first | omega | (simp [sU]; omega)) (hd := d_Math_floorMod_2) (K := ?_)
  refine r_istore_n hG (hd := d_Math_floorMod_3) (K := ?_)
  refine r_iload_n hG (hl0 := rfl) (hd := d_Math_floorMod_4) (K := ?_)
  refine r_iload_n hG (hl0 := rfl) (hd := d_Math_floorMod_5) (K := ?_)
  refine r_ixor hG (hd := d_Math_floorMod_6) (K := ?_)
  refine r_ifr_ge hG (hd := d_Math_floorMod_7) (h := h) (K := ?_)
  refine r_iload_n hG (hl0 := rfl) (hd := d_Math_floorMod_18) (K := ?_)
  refine r_iret hG d_Math_floorMod_19 ⟨(Nat.le_of_ble_eq_true rfl), (Nat.le_of_ble_eq_true rfl)⟩ ?_
  exact ⟨rfl, rfl⟩
def bI (s i : Nat) : Int := if s.testBit i then 1 else 0
def bc (s : Nat) : Int := bI s 0 + bI s 1 + bI s 2 + bI s 3 + bI s 4 + bI s 5
def clr (s i : Nat) : Nat := if s.testBit i then s - 2 ^ i else s
theorem bit_in : ∀ s, s < 64 → ∀ i, i < 6 → (iI ((s : Nat) : Int) >>> (iI ((i : Nat) : Int) &&& 31)) &&& iI 1 = iI (bI s i) := by decide +kernel
theorem bit_clr : ∀ s, s < 64 → ∀ i, i < 6 → iI ((s : Nat) : Int) &&& ((iI 1 <<< (iI ((i : Nat) : Int) &&& 31)) ^^^ iI (-1)) = iI ((clr s i : Nat) : Int) := by decide +kernel
theorem bit_two : ∀ n, n < 7 → iI 1 <<< (iI ((n : Nat) : Int) &&& 31) = iI ((2 ^ n : Nat) : Int) := by decide +kernel
theorem bI_01 (s i : Nat) : bI s i = 0 ∨ bI s i = 1 := by unfold bI; split <;> simp
theorem clr_lt {s i : Nat} (h : s < 64) : clr s i < 64 := by
  have := Nat.sub_le s (2 ^ i)
  unfold clr
  split <;> omega
def ushr (x k : Int32) : Int32 := (x.toUInt32 >>> (k.toUInt32 &&& Int32.toUInt32 31)).toInt32
def bcA (x : Int32) : Int32 := x - (ushr x (iI 1) &&& iI 1431655765)
def bcB (x : Int32) : Int32 := (x &&& iI 858993459) + (ushr x (iI 2) &&& iI 858993459)
def bcC (x : Int32) : Int32 := (x + ushr x (iI 4)) &&& iI 252645135
def bcD (x : Int32) : Int32 := x + ushr x (iI 8)
def bcE (x : Int32) : Int32 := x + ushr x (iI 16)
theorem bc_ok : ∀ s, s < 64 → bcE (bcD (bcC (bcB (bcA (iI ((s : Nat) : Int)))))) &&& iI 63 = iI (bc s) := by decide +kernel
theorem ct_bitCount {Γ : Gm} {S : St} {s : Nat} (hs : s < 64) : CT Γ y_Integer_bitCount b_Integer_bitCount 1 ((some FieldType.int)) (rmx 1 0 0) [nt s] S (dX (some (nt (bc s))) S) := by
  refine CT.of (by first | exact plainFor_of_name (by rfl) | decide +kernel) (Nat.le_of_ble_eq_true rfl) ?_
  intro G hG
  show G (0, 0) 0 [(0, nt s)] [] _
  refine r_iload_n hG (hl0 := rfl) (hd := d_Integer_bitCount_0) (K := ?_)
  refine r_iload_n hG (hl0 := rfl) (hd := d_Integer_bitCount_1) (K := ?_)
  refine r_iconst hG (hd := d_Integer_bitCount_2) (K := ?_)
  refine r_iushr hG (hd := d_Integer_bitCount_3) (K := ?_)
  refine r_ldcw hG (k := 1431655765) (hc := (m_T3 (i := 148) (by decide +kernel) (by decide +kernel))) (hv := rfl) (hd := d_Integer_bitCount_4) (K := ?_)
  refine r_iand hG (hd := d_Integer_bitCount_7) (K := ?_)
  first | refine r_isub hG (hd := d_Integer_bitCount_8) (K := ?_) | refine r_isubr hG (hd := d_Integer_bitCount_8) (K := ?_)
  refine r_istore_n hG (hd := d_Integer_bitCount_9) (K := ?_)
  refine r_iload_n hG (hl0 := rfl) (hd := d_Integer_bitCount_10) (K := ?_)
  refine r_ldcw hG (k := 858993459) (hc := (m_T3 (i := 149) (by decide +kernel) (by decide +kernel))) (hv := rfl) (hd := d_Integer_bitCount_11) (K := ?_)
  refine r_iand hG (hd := d_Integer_bitCount_14) (K := ?_)
  refine r_iload_n hG (hl0 := rfl) (hd := d_Integer_bitCount_15) (K := ?_)
  refine r_iconst hG (hd := d_Integer_bitCount_16) (K := ?_)
  refine r_iushr hG (hd := d_Integer_bitCount_17) (K := ?_)
  refine r_ldcw hG (k := 858993459) (hc := (m_T3 (i := 149) (by decide +kernel) (by decide +kernel))) (hv := rfl) (hd := d_Integer_bitCount_18) (K := ?_)
  refine r_iand hG (hd := d_Integer_bitCount_21) (K := ?_)
  first | refine r_iadd hG (hd := d_Integer_bitCount_22) (K := ?_) | refine r_iaddr hG (hd := d_Integer_bitCount_22) (K := ?_)
  refine r_istore_n hG (hd := d_Integer_bitCount_23) (K := ?_)
  refine r_iload_n hG (hl0 := rfl) (hd := d_Integer_bitCount_24) (K := ?_)
  refine r_iload_n hG (hl0 := rfl) (hd := d_Integer_bitCount_25) (K := ?_)
  refine r_iconst hG (hd := d_Integer_bitCount_26) (K := ?_)
  refine r_iushr hG (hd := d_Integer_bitCount_27) (K := ?_)
  first | refine r_iadd hG (hd := d_Integer_bitCount_28) (K := ?_) | refine r_iaddr hG (hd := d_Integer_bitCount_28) (K := ?_)
  refine r_ldcw hG (k := 252645135) (hc := (m_T3 (i := 150) (by decide +kernel) (by decide +kernel))) (hv := rfl) (hd := d_Integer_bitCount_29) (K := ?_)
  refine r_iand hG (hd := d_Integer_bitCount_32) (K := ?_)
  refine r_istore_n hG (hd := d_Integer_bitCount_33) (K := ?_)
  refine r_iload_n hG (hl0 := rfl) (hd := d_Integer_bitCount_34) (K := ?_)
  refine r_iload_n hG (hl0 := rfl) (hd := d_Integer_bitCount_35) (K := ?_)
  refine r_bipush hG (hd := d_Integer_bitCount_36) (K := ?_)
  refine r_iushr hG (hd := d_Integer_bitCount_38) (K := ?_)
  first | refine r_iadd hG (hd := d_Integer_bitCount_39) (K := ?_) | refine r_iaddr hG (hd := d_Integer_bitCount_39) (K := ?_)
  refine r_istore_n hG (hd := d_Integer_bitCount_40) (K := ?_)
  refine r_iload_n hG (hl0 := rfl) (hd := d_Integer_bitCount_41) (K := ?_)
  refine r_iload_n hG (hl0 := rfl) (hd := d_Integer_bitCount_42) (K := ?_)
  refine r_bipush hG (hd := d_Integer_bitCount_43) (K := ?_)
  refine r_iushr hG (hd := d_Integer_bitCount_45) (K := ?_)
  first | refine r_iadd hG (hd := d_Integer_bitCount_46) (K := ?_) | refine r_iaddr hG (hd := d_Integer_bitCount_46) (K := ?_)
  refine r_istore_n hG (hd := d_Integer_bitCount_47) (K := ?_)
  refine r_iload_n hG (hl0 := rfl) (hd := d_Integer_bitCount_48) (K := ?_)
  refine r_bipush hG (hd := d_Integer_bitCount_49) (K := ?_)
  refine r_iand hG (hd := d_Integer_bitCount_51) (K := ?_)
  refine r_iret hG d_Integer_bitCount_52 ⟨(Nat.le_of_ble_eq_true rfl), (Nat.le_of_ble_eq_true rfl)⟩ ?_
  exact ⟨congrArg (fun x => some (Value.int x)) (bc_ok s hs), rfl⟩
theorem ct_isIn {Γ : Gm} {S : St} {s i : Nat} (hs : s < 64) (hi : i < 6) : CT Γ y_Search_isIn b_Search_isIn 2 ((some FieldType.boolean)) (rmx 1 0 0) [nt i, nt s] S (dX (some (nt (bI s i))) S) := by
  refine CT.of (by first | exact plainFor_of_name (by rfl) | decide +kernel) (Nat.le_of_ble_eq_true rfl) ?_
  intro G hG
  show G (0, 0) 0 [(0, nt i), (1, nt s)] [] _
  refine r_iload_n hG (hl0 := rfl) (hd := d_Search_isIn_0) (K := ?_)
  refine r_iload_n hG (hl0 := rfl) (hd := d_Search_isIn_1) (K := ?_)
  refine r_ishr hG (hd := d_Search_isIn_2) (K := ?_)
  refine r_iconst hG (hd := d_Search_isIn_3) (K := ?_)
  refine r_iand hG (hd := d_Search_isIn_4) (K := ?_)
  refine r_top hG (bit_in s hs i hi) ?_
  have h01 := bI_01 s i
  refine r_iconst hG (hd := d_Search_isIn_5) (K := ?_)
  refine r_icmp_ne hG (hd := d_Search_isIn_6) (kt := fun h => ?_) (kf := fun h => ?_)
  · refine r_iconst hG (hd := d_Search_isIn_13) (K := ?_)
    refine r_zret hG d_Search_isIn_14 ⟨(Nat.le_of_ble_eq_true rfl), (Nat.le_of_ble_eq_true rfl)⟩ (by first | exact Or.inl rfl | exact Or.inr rfl | omega) ?_
    exact ⟨by rw [show bI s i = 0 by omega], rfl⟩
  · refine r_iconst hG (hd := d_Search_isIn_9) (K := ?_)
    refine r_goto hG (hd := d_Search_isIn_10) (K := ?_)
    refine r_zret hG d_Search_isIn_14 ⟨(Nat.le_of_ble_eq_true rfl), (Nat.le_of_ble_eq_true rfl)⟩ (by first | exact Or.inl rfl | exact Or.inr rfl | omega) ?_
    exact ⟨by rw [show bI s i = 1 by omega], rfl⟩
theorem bI_t {s i : Nat} (h : bI s i ≠ 0) : s.testBit i = true := by
  unfold bI at h
  split at h
  · assumption
  · exact absurd rfl h
theorem bI_f {s i : Nat} (h : bI s i = 0) : s.testBit i = false := by
  unfold bI at h
  split at h
  · exact absurd h (by decide)
  · next e => exact Bool.not_eq_true _ ▸ e
/-- the farthest of a and the places of a set -/
def farN (S : St) (w s : Nat) (a : Int) : Nat → Int
  | 0 => a
  | k + 1 => if s.testBit k then max (farN S w s a k) (S 10 (2 * k + w) 0) else farN S w s a k
def wayH (S : St) (w : Nat) (a : Int) (s : Nat) : Int := 2 * farN S w s a 6 - a
theorem farN_in {S : St} {w s : Nat} {a : Int} (hw : w < 2) (hT : ∀ t, t < 12 → okT S t) (ha : 0 ≤ a ∧ a ≤ 30) : ∀ k, k ≤ 6 → a ≤ farN S w s a k ∧ farN S w s a k ≤ 30
  | 0, _ => ⟨Int.le_refl _, ha.2⟩
  | k + 1, hk => by
    have ih := farN_in (s := s) hw hT ha k (by omega)
    have hp := (hT (2 * k + w) (by omega)).1
    simp only [farN]
    split <;> omega
theorem ct_wayHome {Γ : Gm} {S : St} {w s : Nat} {a : Int} (hw : w < 2) (hs : s < 64) (hT : ∀ t, t < 12 → okT S t) (ha : 0 ≤ a ∧ a ≤ 30) : CT Γ y_Search_wayHome b_Search_wayHome 5 ((some FieldType.int)) (rmx 2 0 0) [nt a, nt s, rf Γ 1 w] S (dX (some (nt (wayH S w a s))) S) := by
  refine CT.of (by first | exact plainFor_of_name (by rfl) | decide +kernel) (Nat.le_of_ble_eq_true rfl) ?_
  intro G hG
  show G (0, 0) 0 [(0, nt a), (1, nt s), (2, rf Γ 1 w)] [] _
  refine r_iload_n hG (hl0 := rfl) (hd := d_Search_wayHome_0) (K := ?_)
  refine r_istore_n hG (hd := d_Search_wayHome_1) (K := ?_)
  refine r_iconst hG (hd := d_Search_wayHome_2) (K := ?_)
  refine r_istore hG (hd := d_Search_wayHome_3) (K := ?_)
  have loop : ∀ m k : Nat, k + m = 6 → G (0, 0) 5 [(0, nt a), (1, nt s), (2, rf Γ 1 w), (3, nt (farN S w s a k)), (4, nt k)] [] S := by
    intro m
    induction m with
    | zero =>
      intro k hk
      have hk6 : k = 6 := by omega
      subst hk6
      refine r_iload hG (hl0 := rfl) (hd := d_Search_wayHome_5) (K := ?_)
      refine r_aload_n hG (hl0 := rfl) (hd := d_Search_wayHome_7) (K := ?_)
      refine r_alen1 hG (hi := by omega) (hd := d_Search_wayHome_8) (K := ?_)
      refine r_icmp_ge hG (hd := d_Search_wayHome_9) (kt := fun _ => ?_) (kf := fun hh => absurd hh (by omega))
      refine r_iconst hG (hd := d_Search_wayHome_39) (K := ?_)
      refine r_iload_n hG (hl0 := rfl) (hd := d_Search_wayHome_40) (K := ?_)
      refine r_imul hG (hd := d_Search_wayHome_41) (K := ?_)
      refine r_iload_n hG (hl0 := rfl) (hd := d_Search_wayHome_42) (K := ?_)
      first | refine r_isub hG (hd := d_Search_wayHome_43) (K := ?_) | refine r_isubr hG (hd := d_Search_wayHome_43) (K := ?_)
      refine r_iret hG d_Search_wayHome_44 ⟨(Nat.le_of_ble_eq_true rfl), (Nat.le_of_ble_eq_true rfl)⟩ ?_
      exact ⟨rfl, rfl⟩
    | succ m ih =>
      intro k hk
      have hf := farN_in (s := s) hw hT ha k (by omega)
      have hp := (hT (2 * k + w) (by omega)).1
      have h01 := bI_01 s k
      refine r_iload hG (hl0 := rfl) (hd := d_Search_wayHome_5) (K := ?_)
      refine r_aload_n hG (hl0 := rfl) (hd := d_Search_wayHome_7) (K := ?_)
      refine r_alen1 hG (hi := by omega) (hd := d_Search_wayHome_8) (K := ?_)
      refine r_icmp_ge hG (hd := d_Search_wayHome_9) (kt := fun hh => absurd hh (by omega)) (kf := fun _ => ?_)
      refine r_iload hG (hl0 := rfl) (hd := d_Search_wayHome_12) (K := ?_)
      refine r_iload_n hG (hl0 := rfl) (hd := d_Search_wayHome_14) (K := ?_)
      refine cSx hG w_Search_48 d_Search_wayHome_15 (ct_isIn hs (show k < 6 by omega)) rfl rfl ⟨(Nat.le_of_ble_eq_true rfl), (Nat.le_of_ble_eq_true rfl)⟩ ⟨(Nat.le_of_ble_eq_true rfl), (Nat.le_of_ble_eq_true rfl)⟩ (Nat.le_of_ble_eq_true rfl) ?_
      refine r_if_eq hG (hd := d_Search_wayHome_18) (kt := fun h => ?_) (kf := fun h => ?_)
      · have e : farN S w s a (k + 1) = farN S w s a k := by simp [farN, bI_f h]
        have q := ih (k + 1) (by omega)
        rw [e] at q
        refine r_iinc hG (hl0 := rfl) (hd := d_Search_wayHome_33) (K := ?_)
        refine r_goto hG (hd := d_Search_wayHome_36) (K := ?_)
        exact r_sb hG (q) ⟨rfl, rfl, rfl, rfl, rfl, trivial⟩
      · have e : farN S w s a (k + 1) = max (farN S w s a k) (S 10 (2 * k + w) 0) := by simp [farN, bI_t h]
        have q := ih (k + 1) (by omega)
        rw [e] at q
        refine r_iload_n hG (hl0 := rfl) (hd := d_Search_wayHome_21) (K := ?_)
        refine r_aload_n hG (hl0 := rfl) (hd := d_Search_wayHome_22) (K := ?_)
        refine r_iload hG (hl0 := rfl) (hd := d_Search_wayHome_23) (K := ?_)
        first | refine a_1 hG (hd := d_Search_wayHome_25) (hz := rfl) (hj := by omega) (hi := by omega) (K := ?_) | refine a_2 hG (hd := d_Search_wayHome_25) (hz := rfl) (hj := by omega) (hi := by omega) (K := ?_) | refine a_10 hG (hd := d_Search_wayHome_25) (hz := rfl) (hj := by omega) (hi := by omega) (K := ?_) | refine r_aald22 hG (hd := d_Search_wayHome_25) (hz := rfl) (hj := by omega) (hi := by omega) (K := ?_)
        refine g_Search_67 hG (hi := by omega) (hd := d_Search_wayHome_26) (K := ?_)
        refine r_mmax hG w_Search_70 d_Search_wayHome_29 ⟨(Nat.le_of_ble_eq_true rfl), (Nat.le_of_ble_eq_true rfl)⟩ ⟨(Nat.le_of_ble_eq_true rfl), (Nat.le_of_ble_eq_true rfl)⟩ (by first | omega | (simp [sU]; omega)) ?_
        refine r_istore_n hG (hd := d_Search_wayHome_32) (K := ?_)
        refine r_iinc hG (hl0 := rfl) (hd := d_Search_wayHome_33) (K := ?_)
        refine r_goto hG (hd := d_Search_wayHome_36) (K := ?_)
        exact r_sb hG (q) ⟨rfl, rfl, rfl, rfl, rfl, trivial⟩
  exact r_sb hG (loop 6 0 (by omega)) ⟨rfl, rfl, rfl, rfl, rfl, trivial⟩
def sumK (S : St) (w s j : Nat) : Nat → Int
  | 0 => 0
  | k + 1 => if s.testBit k then sumK S w s j k + (S 16 (2 * k + w) j + S 17 (2 * k + w) j) else sumK S w s j k
theorem sumK_in {S : St} {w s j : Nat} (hw : w < 2) (hj : j < 3) (hT : ∀ t, t < 12 → okT S t) : ∀ k, k ≤ 6 → 0 ≤ sumK S w s j k ∧ sumK S w s j k ≤ 60 * k
  | 0, _ => ⟨Int.le_refl _, Int.le_refl _⟩
  | k + 1, hk => by
    have ih := sumK_in (s := s) hw hj hT k (by omega)
    have hp := (hT (2 * k + w) (by omega)).2.2 j hj
    simp only [sumK]
    split <;> omega
def kilosS (S : St) (w i s : Nat) : Int :=
  if S 25 i 0 = S 25 i 1 then min (sumK S w s (S 25 i 0).toNat 6) 300 else min (sumK S w s (S 25 i 0).toNat 6) 150 + min (sumK S w s (S 25 i 1).toNat 6) 150
theorem ct_kilosOf {Γ : Gm} {S : St} {w i s : Nat} (hw : w < 2) (hi : i < 3) (hs : s < 64) (hT : ∀ t, t < 12 → okT S t) (hL : okL S i) : CT Γ y_Search_kilosOf b_Search_kilosOf 6 ((some FieldType.int)) (rmx 2 0 0) [rf Γ 20 i, nt s, rf Γ 1 w] S (dX (some (nt (kilosS S w i s))) S) := by
  obtain ⟨h0, e0⟩ := okL_str hL (show 0 < 2 by decide)
  obtain ⟨h1, e1⟩ := okL_str hL (show 1 < 2 by decide)
  have s0 := sumK_in (s := s) hw h0 hT 6 (by decide)
  have s1 := sumK_in (s := s) hw h1 hT 6 (by decide)
  unfold kilosS
  generalize hj0 : (S 25 i 0).toNat = j0 at h0 e0 s0 ⊢
  generalize hj1 : (S 25 i 1).toNat = j1 at h1 e1 s1 ⊢
  refine CT.of (by first | exact plainFor_of_name (by rfl) | decide +kernel) (Nat.le_of_ble_eq_true rfl) ?_
  intro G hG
  show G (0, 0) 0 [(0, rf Γ 20 i), (1, nt s), (2, rf Γ 1 w)] [] _
  refine r_iconst hG (hd := d_Search_kilosOf_0) (K := ?_)
  refine r_istore_n hG (hd := d_Search_kilosOf_1) (K := ?_)
  refine r_iconst hG (hd := d_Search_kilosOf_2) (K := ?_)
  refine r_istore hG (hd := d_Search_kilosOf_3) (K := ?_)
  refine r_iconst hG (hd := d_Search_kilosOf_5) (K := ?_)
  refine r_istore hG (hd := d_Search_kilosOf_6) (K := ?_)
  have loop : ∀ m k : Nat, k + m = 6 → G (0, 0) 8 [(0, rf Γ 20 i), (1, nt s), (2, rf Γ 1 w), (3, nt (sumK S w s j0 k)), (4, nt (sumK S w s j1 k)), (5, nt k)] [] S := by
    intro m
    induction m with
    | zero =>
      intro k hk
      have hk6 : k = 6 := by omega
      subst hk6
      refine r_iload hG (hl0 := rfl) (hd := d_Search_kilosOf_8) (K := ?_)
      refine r_aload_n hG (hl0 := rfl) (hd := d_Search_kilosOf_10) (K := ?_)
      refine r_alen1 hG (hi := by omega) (hd := d_Search_kilosOf_11) (K := ?_)
      refine r_icmp_ge hG (hd := d_Search_kilosOf_12) (kt := fun _ => ?_) (kf := fun hh => absurd hh (by omega))
      refine r_aload_n hG (hl0 := rfl) (hd := d_Search_kilosOf_64) (K := ?_)
      refine g_Search_52 hG (hi := by omega) (hd := d_Search_kilosOf_65) (K := ?_)
      refine r_iconst hG (hd := d_Search_kilosOf_68) (K := ?_)
      refine a_21 hG (j := 0) (hd := d_Search_kilosOf_69) (hz := rfl) (hj := by omega) (hi := hi) (K := ?_)
      refine r_aload_n hG (hl0 := rfl) (hd := d_Search_kilosOf_70) (K := ?_)
      refine g_Search_52 hG (hi := by omega) (hd := d_Search_kilosOf_71) (K := ?_)
      refine r_iconst hG (hd := d_Search_kilosOf_74) (K := ?_)
      refine a_21 hG (j := 1) (hd := d_Search_kilosOf_75) (hz := rfl) (hj := by omega) (hi := hi) (K := ?_)
      refine r_icmp_ne hG (hd := d_Search_kilosOf_76) (kt := fun h => ?_) (kf := fun h => ?_)
      · refine r_iload_n hG (hl0 := rfl) (hd := d_Search_kilosOf_87) (K := ?_)
        refine r_sipush hG (hd := d_Search_kilosOf_88) (K := ?_)
        refine r_mmin hG w_Search_61 d_Search_kilosOf_91 ⟨(Nat.le_of_ble_eq_true rfl), (Nat.le_of_ble_eq_true rfl)⟩ ⟨(Nat.le_of_ble_eq_true rfl), (Nat.le_of_ble_eq_true rfl)⟩ (by first | omega | (simp [sU]; omega)) ?_
        refine r_iload hG (hl0 := rfl) (hd := d_Search_kilosOf_94) (K := ?_)
        refine r_sipush hG (hd := d_Search_kilosOf_96) (K := ?_)
        refine r_mmin hG w_Search_61 d_Search_kilosOf_99 ⟨(Nat.le_of_ble_eq_true rfl), (Nat.le_of_ble_eq_true rfl)⟩ ⟨(Nat.le_of_ble_eq_true rfl), (Nat.le_of_ble_eq_true rfl)⟩ (by first | omega | (simp [sU]; omega)) ?_
        first | refine r_iadd hG (hd := d_Search_kilosOf_102) (K := ?_) | refine r_iaddr hG (hd := d_Search_kilosOf_102) (K := ?_)
        refine r_iret hG d_Search_kilosOf_103 ⟨(Nat.le_of_ble_eq_true rfl), (Nat.le_of_ble_eq_true rfl)⟩ ?_
        exact ⟨by rw [if_neg h]; rfl, rfl⟩
      · refine r_iload_n hG (hl0 := rfl) (hd := d_Search_kilosOf_79) (K := ?_)
        refine r_sipush hG (hd := d_Search_kilosOf_80) (K := ?_)
        refine r_mmin hG w_Search_61 d_Search_kilosOf_83 ⟨(Nat.le_of_ble_eq_true rfl), (Nat.le_of_ble_eq_true rfl)⟩ ⟨(Nat.le_of_ble_eq_true rfl), (Nat.le_of_ble_eq_true rfl)⟩ (by first | omega | (simp [sU]; omega)) ?_
        refine r_iret hG d_Search_kilosOf_86 ⟨(Nat.le_of_ble_eq_true rfl), (Nat.le_of_ble_eq_true rfl)⟩ ?_
        exact ⟨by rw [if_pos h]; rfl, rfl⟩
    | succ m ih =>
      intro k hk
      have h01 := bI_01 s k
      refine r_iload hG (hl0 := rfl) (hd := d_Search_kilosOf_8) (K := ?_)
      refine r_aload_n hG (hl0 := rfl) (hd := d_Search_kilosOf_10) (K := ?_)
      refine r_alen1 hG (hi := by omega) (hd := d_Search_kilosOf_11) (K := ?_)
      refine r_icmp_ge hG (hd := d_Search_kilosOf_12) (kt := fun hh => absurd hh (by omega)) (kf := fun _ => ?_)
      refine r_iload hG (hl0 := rfl) (hd := d_Search_kilosOf_15) (K := ?_)
      refine r_iload_n hG (hl0 := rfl) (hd := d_Search_kilosOf_17) (K := ?_)
      refine cSx hG w_Search_48 d_Search_kilosOf_18 (ct_isIn hs (show k < 6 by omega)) rfl rfl ⟨(Nat.le_of_ble_eq_true rfl), (Nat.le_of_ble_eq_true rfl)⟩ ⟨(Nat.le_of_ble_eq_true rfl), (Nat.le_of_ble_eq_true rfl)⟩ (Nat.le_of_ble_eq_true rfl) ?_
      refine r_if_eq hG (hd := d_Search_kilosOf_21) (kt := fun h => ?_) (kf := fun h => ?_)
      · have e : ∀ j, sumK S w s j (k + 1) = sumK S w s j k := fun j => by simp [sumK, bI_f h]
        have q := ih (k + 1) (by omega)
        rw [e, e] at q
        refine r_iinc hG (hl0 := rfl) (hd := d_Search_kilosOf_58) (K := ?_)
        refine r_goto hG (hd := d_Search_kilosOf_61) (K := ?_)
        exact r_sb hG (q) ⟨rfl, rfl, rfl, rfl, rfl, rfl, trivial⟩
      · have e : ∀ j, sumK S w s j (k + 1) = sumK S w s j k + (S 16 (2 * k + w) j + S 17 (2 * k + w) j) := fun j => by simp [sumK, bI_t h]
        have q := ih (k + 1) (by omega)
        rw [e, e] at q
        refine r_iload_n hG (hl0 := rfl) (hd := d_Search_kilosOf_24) (K := ?_)
        refine r_aload_n hG (hl0 := rfl) (hd := d_Search_kilosOf_25) (K := ?_)
        refine r_iload hG (hl0 := rfl) (hd := d_Search_kilosOf_26) (K := ?_)
        first | refine a_1 hG (hd := d_Search_kilosOf_28) (hz := rfl) (hj := by omega) (hi := by omega) (K := ?_) | refine a_2 hG (hd := d_Search_kilosOf_28) (hz := rfl) (hj := by omega) (hi := by omega) (K := ?_) | refine a_10 hG (hd := d_Search_kilosOf_28) (hz := rfl) (hj := by omega) (hi := by omega) (K := ?_) | refine r_aald22 hG (hd := d_Search_kilosOf_28) (hz := rfl) (hj := by omega) (hi := by omega) (K := ?_)
        refine r_aload_n hG (hl0 := rfl) (hd := d_Search_kilosOf_29) (K := ?_)
        refine g_Search_52 hG (hi := by omega) (hd := d_Search_kilosOf_30) (K := ?_)
        refine r_iconst hG (hd := d_Search_kilosOf_33) (K := ?_)
        refine a_21 hG (j := 0) (hd := d_Search_kilosOf_34) (hz := rfl) (hj := by omega) (hi := hi) (K := ?_)
        rw [e0]
        refine cVx hG w_Search_56 d_Search_kilosOf_35 (ct_kilosIn (show 2 * k + w < 12 by omega) h0) (by decide) (by show _ < 12; omega) rc_15 rfl rfl ⟨(Nat.le_of_ble_eq_true rfl), (Nat.le_of_ble_eq_true rfl)⟩ ⟨(Nat.le_of_ble_eq_true rfl), (Nat.le_of_ble_eq_true rfl)⟩ (Nat.le_of_ble_eq_true rfl) ?_
        first | refine r_iadd hG (hd := d_Search_kilosOf_38) (K := ?_) | refine r_iaddr hG (hd := d_Search_kilosOf_38) (K := ?_)
        refine r_istore_n hG (hd := d_Search_kilosOf_39) (K := ?_)
        refine r_iload hG (hl0 := rfl) (hd := d_Search_kilosOf_40) (K := ?_)
        refine r_aload_n hG (hl0 := rfl) (hd := d_Search_kilosOf_42) (K := ?_)
        refine r_iload hG (hl0 := rfl) (hd := d_Search_kilosOf_43) (K := ?_)
        first | refine a_1 hG (hd := d_Search_kilosOf_45) (hz := rfl) (hj := by omega) (hi := by omega) (K := ?_) | refine a_2 hG (hd := d_Search_kilosOf_45) (hz := rfl) (hj := by omega) (hi := by omega) (K := ?_) | refine a_10 hG (hd := d_Search_kilosOf_45) (hz := rfl) (hj := by omega) (hi := by omega) (K := ?_) | refine r_aald22 hG (hd := d_Search_kilosOf_45) (hz := rfl) (hj := by omega) (hi := by omega) (K := ?_)
        refine r_aload_n hG (hl0 := rfl) (hd := d_Search_kilosOf_46) (K := ?_)
        refine g_Search_52 hG (hi := by omega) (hd := d_Search_kilosOf_47) (K := ?_)
        refine r_iconst hG (hd := d_Search_kilosOf_50) (K := ?_)
        refine a_21 hG (j := 1) (hd := d_Search_kilosOf_51) (hz := rfl) (hj := by omega) (hi := hi) (K := ?_)
        rw [e1]
        refine cVx hG w_Search_56 d_Search_kilosOf_52 (ct_kilosIn (show 2 * k + w < 12 by omega) h1) (by decide) (by show _ < 12; omega) rc_15 rfl rfl ⟨(Nat.le_of_ble_eq_true rfl), (Nat.le_of_ble_eq_true rfl)⟩ ⟨(Nat.le_of_ble_eq_true rfl), (Nat.le_of_ble_eq_true rfl)⟩ (Nat.le_of_ble_eq_true rfl) ?_
        first | refine r_iadd hG (hd := d_Search_kilosOf_55) (K := ?_) | refine r_iaddr hG (hd := d_Search_kilosOf_55) (K := ?_)
        refine r_istore hG (hd := d_Search_kilosOf_56) (K := ?_)
        refine r_iinc hG (hl0 := rfl) (hd := d_Search_kilosOf_58) (K := ?_)
        refine r_goto hG (hd := d_Search_kilosOf_61) (K := ?_)
        exact r_sb hG (q) ⟨rfl, rfl, rfl, rfl, rfl, rfl, trivial⟩
  exact r_sb hG (loop 6 0 (by omega)) ⟨rfl, rfl, rfl, rfl, rfl, rfl, trivial⟩
/-- the next street of a shortest order -/
def nxt (S : St) (w : Nat) (a : Int) (l : Nat) : Nat → Nat → Nat
  | 0, _ => 0
  | m + 1, k => if l.testBit k ∧ iabs (S 10 (2 * k + w) 0 - a) + wayH S w (S 10 (2 * k + w) 0) (clr l k) = wayH S w a l then k else nxt S w a l m (k + 1)
theorem wayH_in {S : St} {w s : Nat} {a : Int} (hw : w < 2) (hT : ∀ t, t < 12 → okT S t) (ha : 0 ≤ a ∧ a ≤ 30) : 0 ≤ wayH S w a s ∧ wayH S w a s ≤ 60 := by
  have h := farN_in (s := s) hw hT ha 6 (by decide)
  unfold wayH
  omega
theorem nxt_lt (S : St) (w : Nat) (a : Int) (l : Nat) : ∀ m k, k + m = 6 → nxt S w a l m k < 6
  | 0, _, _ => by simp [nxt]
  | m + 1, k, h => by
    simp only [nxt]
    split
    · omega
    · exact nxt_lt S w a l m (k + 1) (by omega)
theorem ct_smallestNext {Γ : Gm} {S : St} {w l : Nat} {a : Int} (hw : w < 2) (hl : l < 64) (hT : ∀ t, t < 12 → okT S t) (ha : 0 ≤ a ∧ a ≤ 30) : CT Γ y_Search_smallestNext b_Search_smallestNext 7 ((some FieldType.int)) (rmx 3 0 0) [nt a, nt l, rf Γ 1 w] S (dX (some (nt (nxt S w a l 6 0))) S) := by
  have hw0 := wayH_in (s := l) hw hT ha
  refine CT.of (by first | exact plainFor_of_name (by rfl) | decide +kernel) (Nat.le_of_ble_eq_true rfl) ?_
  intro G hG
  show G (0, 0) 0 [(0, nt a), (1, nt l), (2, rf Γ 1 w)] [] _
  refine r_iload_n hG (hl0 := rfl) (hd := d_Search_smallestNext_0) (K := ?_)
  refine r_iload_n hG (hl0 := rfl) (hd := d_Search_smallestNext_1) (K := ?_)
  refine r_aload_n hG (hl0 := rfl) (hd := d_Search_smallestNext_2) (K := ?_)
  refine cSx hG w_Search_21 d_Search_smallestNext_3 (ct_wayHome hw hl hT ha) rfl rfl ⟨(Nat.le_of_ble_eq_true rfl), (Nat.le_of_ble_eq_true rfl)⟩ ⟨(Nat.le_of_ble_eq_true rfl), (Nat.le_of_ble_eq_true rfl)⟩ (Nat.le_of_ble_eq_true rfl) ?_
  refine r_istore_n hG (hd := d_Search_smallestNext_6) (K := ?_)
  refine r_iconst hG (hd := d_Search_smallestNext_7) (K := ?_)
  refine r_istore hG (hd := d_Search_smallestNext_8) (K := ?_)
  have loop : ∀ m k : Nat, k + m = 6 → nxt S w a l m k = nxt S w a l 6 0 → G (0, 0) 10 [(0, nt a), (1, nt l), (2, rf Γ 1 w), (3, nt (wayH S w a l)), (4, nt k)] [] S := by
    intro m
    induction m with
    | zero =>
      intro k hk hn
      refine r_iload hG (hl0 := rfl) (hd := d_Search_smallestNext_10) (K := ?_)
      refine r_aload_n hG (hl0 := rfl) (hd := d_Search_smallestNext_12) (K := ?_)
      refine r_alen1 hG (hi := by omega) (hd := d_Search_smallestNext_13) (K := ?_)
      refine r_icmp_ge hG (hd := d_Search_smallestNext_14) (kt := fun _ => ?_) (kf := fun hh => absurd hh (by omega))
      refine r_iconst hG (hd := d_Search_smallestNext_74) (K := ?_)
      refine r_iret hG d_Search_smallestNext_75 ⟨(Nat.le_of_ble_eq_true rfl), (Nat.le_of_ble_eq_true rfl)⟩ ?_
      exact ⟨by rw [← hn]; rfl, rfl⟩
    | succ m ih =>
      intro k hk hn
      have hp := (hT (2 * k + w) (by omega)).1
      have h01 := bI_01 l k
      have hc := clr_lt (i := k) hl
      have hw1 := wayH_in (s := clr l k) hw hT hp
      refine r_iload hG (hl0 := rfl) (hd := d_Search_smallestNext_10) (K := ?_)
      refine r_aload_n hG (hl0 := rfl) (hd := d_Search_smallestNext_12) (K := ?_)
      refine r_alen1 hG (hi := by omega) (hd := d_Search_smallestNext_13) (K := ?_)
      refine r_icmp_ge hG (hd := d_Search_smallestNext_14) (kt := fun hh => absurd hh (by omega)) (kf := fun _ => ?_)
      refine r_iload hG (hl0 := rfl) (hd := d_Search_smallestNext_17) (K := ?_)
      refine r_iload_n hG (hl0 := rfl) (hd := d_Search_smallestNext_19) (K := ?_)
      refine cSx hG w_Search_48 d_Search_smallestNext_20 (ct_isIn hl (show k < 6 by omega)) rfl rfl ⟨(Nat.le_of_ble_eq_true rfl), (Nat.le_of_ble_eq_true rfl)⟩ ⟨(Nat.le_of_ble_eq_true rfl), (Nat.le_of_ble_eq_true rfl)⟩ (Nat.le_of_ble_eq_true rfl) ?_
      refine r_if_eq hG (hd := d_Search_smallestNext_23) (kt := fun h => ?_) (kf := fun h => ?_)
      · have e : nxt S w a l (m + 1) k = nxt S w a l m (k + 1) := by simp [nxt, bI_f h]
        rw [e] at hn
        refine r_iinc hG (hl0 := rfl) (hd := d_Search_smallestNext_68) (K := ?_)
        refine r_goto hG (hd := d_Search_smallestNext_71) (K := ?_)
        exact r_sb hG (ih (k + 1) (by omega) hn) ⟨rfl, rfl, rfl, rfl, rfl, trivial⟩
      · have hbt := bI_t h
        refine r_aload_n hG (hl0 := rfl) (hd := d_Search_smallestNext_26) (K := ?_)
        refine r_iload hG (hl0 := rfl) (hd := d_Search_smallestNext_27) (K := ?_)
        first | refine a_1 hG (hd := d_Search_smallestNext_29) (hz := rfl) (hj := by omega) (hi := by omega) (K := ?_) | refine a_2 hG (hd := d_Search_smallestNext_29) (hz := rfl) (hj := by omega) (hi := by omega) (K := ?_) | refine a_10 hG (hd := d_Search_smallestNext_29) (hz := rfl) (hj := by omega) (hi := by omega) (K := ?_) | refine r_aald22 hG (hd := d_Search_smallestNext_29) (hz := rfl) (hj := by omega) (hi := by omega) (K := ?_)
        refine g_Search_67 hG (hi := by omega) (hd := d_Search_smallestNext_30) (K := ?_)
        refine r_istore hG (hd := d_Search_smallestNext_33) (K := ?_)
        refine r_iload hG (hl0 := rfl) (hd := d_Search_smallestNext_35) (K := ?_)
        refine r_iload_n hG (hl0 := rfl) (hd := d_Search_smallestNext_37) (K := ?_)
        first | refine r_isub hG (hd := d_Search_smallestNext_38) (K := ?_) | refine r_isubr hG (hd := d_Search_smallestNext_38) (K := ?_)
        refine r_mabs hG w_Search_76 d_Search_smallestNext_39 ⟨(Nat.le_of_ble_eq_true rfl), (Nat.le_of_ble_eq_true rfl)⟩ ⟨(Nat.le_of_ble_eq_true rfl), (Nat.le_of_ble_eq_true rfl)⟩ (by first | omega | (simp [sU]; omega)) ?_
        refine r_iload hG (hl0 := rfl) (hd := d_Search_smallestNext_42) (K := ?_)
        refine r_iload_n hG (hl0 := rfl) (hd := d_Search_smallestNext_44) (K := ?_)
        refine r_iconst hG (hd := d_Search_smallestNext_45) (K := ?_)
        refine r_iload hG (hl0 := rfl) (hd := d_Search_smallestNext_46) (K := ?_)
        refine r_ishl hG (hd := d_Search_smallestNext_48) (K := ?_)
        refine r_iconst hG (hd := d_Search_smallestNext_49) (K := ?_)
        refine r_ixor hG (hd := d_Search_smallestNext_50) (K := ?_)
        refine r_iand hG (hd := d_Search_smallestNext_51) (K := ?_)
        refine r_top hG (bit_clr l hl k (by omega)) ?_
        have hab : 0 ≤ iabs (S 10 (2 * k + w) 0 - a) ∧ iabs (S 10 (2 * k + w) 0 - a) ≤ 30 := by unfold iabs; split <;> omega
        refine r_aload_n hG (hl0 := rfl) (hd := d_Search_smallestNext_52) (K := ?_)
        refine cSx hG w_Search_21 d_Search_smallestNext_53 (ct_wayHome hw hc hT hp) rfl rfl ⟨(Nat.le_of_ble_eq_true rfl), (Nat.le_of_ble_eq_true rfl)⟩ ⟨(Nat.le_of_ble_eq_true rfl), (Nat.le_of_ble_eq_true rfl)⟩ (Nat.le_of_ble_eq_true rfl) ?_
        first | refine r_iadd hG (hd := d_Search_smallestNext_56) (K := ?_) | refine r_iaddr hG (hd := d_Search_smallestNext_56) (K := ?_)
        refine r_istore hG (hd := d_Search_smallestNext_57) (K := ?_)
        refine r_iload hG (hl0 := rfl) (hd := d_Search_smallestNext_59) (K := ?_)
        refine r_iload_n hG (hl0 := rfl) (hd := d_Search_smallestNext_61) (K := ?_)
        refine r_icmp_ne hG (hd := d_Search_smallestNext_62) (kt := fun h2 => ?_) (kf := fun h2 => ?_)
        · have e : nxt S w a l (m + 1) k = nxt S w a l m (k + 1) := by
            simp only [nxt]
            exact if_neg (fun q => h2 q.2)
          rw [e] at hn
          refine r_iinc hG (hl0 := rfl) (hd := d_Search_smallestNext_68) (K := ?_)
          refine r_goto hG (hd := d_Search_smallestNext_71) (K := ?_)
          exact r_sb hG (ih (k + 1) (by omega) hn) ⟨rfl, rfl, rfl, rfl, rfl, trivial⟩
        · have e : nxt S w a l (m + 1) k = k := by
            simp only [nxt]
            exact if_pos ⟨hbt, h2⟩
          refine r_iload hG (hl0 := rfl) (hd := d_Search_smallestNext_65) (K := ?_)
          refine r_iret hG d_Search_smallestNext_67 ⟨(Nat.le_of_ble_eq_true rfl), (Nat.le_of_ble_eq_true rfl)⟩ ?_
          exact ⟨by rw [← hn, e]; rfl, rfl⟩
  exact r_sb hG (loop 6 0 (by omega) rfl) ⟨rfl, rfl, rfl, rfl, rfl, trivial⟩
/-- the digits of a shortest order behind num -/
def numN (S : St) (w : Nat) : Nat → Nat → Int → Int → Int
  | 0, _, _, num => num
  | m + 1, l, a, num => if l = 0 then num else numN S w m (clr l (nxt S w a l 6 0)) (S 10 (2 * nxt S w a l 6 0 + w) 0) (10 * num + nxt S w a l 6 0)
theorem ct_smallestNumber {Γ : Gm} {S : St} {w s : Nat} (hw : w < 2) (hs : s < 64) (hT : ∀ t, t < 12 → okT S t) : CT Γ y_Search_smallestNumber b_Search_smallestNumber 7 ((some FieldType.int)) (rmx 4 0 0) [nt s, rf Γ 1 w] S (dX (some (nt (numN S w 6 s 0 1))) S) := by
  refine CT.of (by first | exact plainFor_of_name (by rfl) | decide +kernel) (Nat.le_of_ble_eq_true rfl) ?_
  intro G hG
  show G (0, 0) 0 [(0, nt s), (1, rf Γ 1 w)] [] _
  refine r_iconst hG (hd := d_Search_smallestNumber_0) (K := ?_)
  refine r_istore_n hG (hd := d_Search_smallestNumber_1) (K := ?_)
  refine r_iconst hG (hd := d_Search_smallestNumber_2) (K := ?_)
  refine r_istore_n hG (hd := d_Search_smallestNumber_3) (K := ?_)
  refine r_iload_n hG (hl0 := rfl) (hd := d_Search_smallestNumber_4) (K := ?_)
  refine r_istore hG (hd := d_Search_smallestNumber_5) (K := ?_)
  refine r_iconst hG (hd := d_Search_smallestNumber_7) (K := ?_)
  refine r_istore hG (hd := d_Search_smallestNumber_8) (K := ?_)
  have loop : ∀ m k : Nat, k + m = 6 → ∀ (l : Nat) (a num : Int), l < 64 → (0 ≤ a ∧ a ≤ 30) → numN S w m l a num = numN S w 6 s 0 1 → G (0, 0) 10 [(1, rf Γ 1 w), (2, nt num), (3, nt a), (4, nt l), (5, nt k)] [] S := by
    intro m
    induction m with
    | zero =>
      intro k hk l a num hl ha hn
      refine r_iload hG (hl0 := rfl) (hd := d_Search_smallestNumber_10) (K := ?_)
      refine r_aload_n hG (hl0 := rfl) (hd := d_Search_smallestNumber_12) (K := ?_)
      refine r_alen1 hG (hi := by omega) (hd := d_Search_smallestNumber_13) (K := ?_)
      refine r_icmp_ge hG (hd := d_Search_smallestNumber_14) (kt := fun _ => ?_) (kf := fun hh => absurd hh (by omega))
      refine r_iload_n hG (hl0 := rfl) (hd := d_Search_smallestNumber_64) (K := ?_)
      refine r_iret hG d_Search_smallestNumber_65 ⟨(Nat.le_of_ble_eq_true rfl), (Nat.le_of_ble_eq_true rfl)⟩ ?_
      exact ⟨by rw [← hn]; rfl, rfl⟩
    | succ m ih =>
      intro k hk l a num hl ha hn
      refine r_iload hG (hl0 := rfl) (hd := d_Search_smallestNumber_10) (K := ?_)
      refine r_aload_n hG (hl0 := rfl) (hd := d_Search_smallestNumber_12) (K := ?_)
      refine r_alen1 hG (hi := by omega) (hd := d_Search_smallestNumber_13) (K := ?_)
      refine r_icmp_ge hG (hd := d_Search_smallestNumber_14) (kt := fun hh => absurd hh (by omega)) (kf := fun _ => ?_)
      refine r_iload hG (hl0 := rfl) (hd := d_Search_smallestNumber_17) (K := ?_)
      refine r_if_eq hG (hd := d_Search_smallestNumber_19) (kt := fun h => ?_) (kf := fun h => ?_)
      · have e : numN S w (m + 1) l a num = num := by
          simp only [numN]
          exact if_pos (by omega)
        refine r_iload_n hG (hl0 := rfl) (hd := d_Search_smallestNumber_64) (K := ?_)
        refine r_iret hG d_Search_smallestNumber_65 ⟨(Nat.le_of_ble_eq_true rfl), (Nat.le_of_ble_eq_true rfl)⟩ ?_
        exact ⟨by rw [← hn, e]; rfl, rfl⟩
      · have e : numN S w (m + 1) l a num = numN S w m (clr l (nxt S w a l 6 0)) (S 10 (2 * nxt S w a l 6 0 + w) 0) (10 * num + nxt S w a l 6 0) := by
          simp only [numN]
          exact if_neg (by omega)
        rw [e] at hn
        have hx := nxt_lt S w a l 6 0 rfl
        have hp := (hT (2 * nxt S w a l 6 0 + w) (by omega)).1
        refine r_iload_n hG (hl0 := rfl) (hd := d_Search_smallestNumber_22) (K := ?_)
        refine r_iload hG (hl0 := rfl) (hd := d_Search_smallestNumber_23) (K := ?_)
        refine r_aload_n hG (hl0 := rfl) (hd := d_Search_smallestNumber_25) (K := ?_)
        refine cSx hG w_Search_73 d_Search_smallestNumber_26 (ct_smallestNext hw hl hT ha) rfl rfl ⟨(Nat.le_of_ble_eq_true rfl), (Nat.le_of_ble_eq_true rfl)⟩ ⟨(Nat.le_of_ble_eq_true rfl), (Nat.le_of_ble_eq_true rfl)⟩ (Nat.le_of_ble_eq_true rfl) ?_
        refine r_istore hG (hd := d_Search_smallestNumber_29) (K := ?_)
        generalize hE : nxt S w a l 6 0 = E at hn hx hp ⊢
        refine r_bipush hG (hd := d_Search_smallestNumber_31) (K := ?_)
        refine r_iload_n hG (hl0 := rfl) (hd := d_Search_smallestNumber_33) (K := ?_)
        refine r_imul hG (hd := d_Search_smallestNumber_34) (K := ?_)
        refine r_iload hG (hl0 := rfl) (hd := d_Search_smallestNumber_35) (K := ?_)
        first | refine r_iadd hG (hd := d_Search_smallestNumber_37) (K := ?_) | refine r_iaddr hG (hd := d_Search_smallestNumber_37) (K := ?_)
        refine r_istore_n hG (hd := d_Search_smallestNumber_38) (K := ?_)
        refine r_aload_n hG (hl0 := rfl) (hd := d_Search_smallestNumber_39) (K := ?_)
        refine r_iload hG (hl0 := rfl) (hd := d_Search_smallestNumber_40) (K := ?_)
        first | refine a_1 hG (hd := d_Search_smallestNumber_42) (hz := rfl) (hj := by omega) (hi := by omega) (K := ?_) | refine a_2 hG (hd := d_Search_smallestNumber_42) (hz := rfl) (hj := by omega) (hi := by omega) (K := ?_) | refine a_10 hG (hd := d_Search_smallestNumber_42) (hz := rfl) (hj := by omega) (hi := by omega) (K := ?_) | refine r_aald22 hG (hd := d_Search_smallestNumber_42) (hz := rfl) (hj := by omega) (hi := by omega) (K := ?_)
        refine g_Search_67 hG (hi := by omega) (hd := d_Search_smallestNumber_43) (K := ?_)
        refine r_istore_n hG (hd := d_Search_smallestNumber_46) (K := ?_)
        refine r_iload hG (hl0 := rfl) (hd := d_Search_smallestNumber_47) (K := ?_)
        refine r_iconst hG (hd := d_Search_smallestNumber_49) (K := ?_)
        refine r_iload hG (hl0 := rfl) (hd := d_Search_smallestNumber_50) (K := ?_)
        refine r_ishl hG (hd := d_Search_smallestNumber_52) (K := ?_)
        refine r_iconst hG (hd := d_Search_smallestNumber_53) (K := ?_)
        refine r_ixor hG (hd := d_Search_smallestNumber_54) (K := ?_)
        refine r_iand hG (hd := d_Search_smallestNumber_55) (K := ?_)
        refine r_top hG (bit_clr l hl E hx) ?_
        refine r_istore hG (hd := d_Search_smallestNumber_56) (K := ?_)
        refine r_iinc hG (hl0 := rfl) (hd := d_Search_smallestNumber_58) (K := ?_)
        refine r_goto hG (hd := d_Search_smallestNumber_61) (K := ?_)
        exact r_sb hG (ih (k + 1) (by omega) (clr l E) _ _ (clr_lt hl) hp hn) ⟨rfl, rfl, rfl, rfl, rfl, trivial⟩
  exact r_sb hG (loop 6 0 (by omega) s 0 1 hs (by omega) rfl) ⟨rfl, rfl, rfl, rfl, rfl, trivial⟩
