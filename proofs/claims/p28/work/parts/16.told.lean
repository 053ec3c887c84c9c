/-! WHAT IS TOLD AND DONE -/
section TX
variable {Γ : Gm} {R : Room} {cc : ByteArray} {nL : Nat} {own : String} {ret : Option FieldType} {post : Option Value → St → Prop} {mc ms : Nat} {G : Nat × Nat → Nat → List (Nat × Value) → List Value → St → Prop} {cs : Nat × Nat} {pc n : Nat} {ls : List (Nat × Value)} {st stk : List Value} {S S1 : St}
theorem r_tsIn (hG : IsG Γ R cc nL own ret post mc ms G) {dflt lo hi off z : Int} {offs : Array Int} {len tgt : Nat} (hd : Dc cc pc (.tableswitch dflt lo hi offs) len n) (h : (¬ (iI z).toInt < lo ∧ ¬ hi < (iI z).toInt) ∧ offs[((iI z).toInt - lo).toNat]? = some off ∧ (pc : Int) + off = (tgt : Int)) (K : G cs tgt ls st S) : G cs pc ls (nt z :: st) S := by
  obtain ⟨p, e, s, m, args, below, meth, c, Q, hx, hb, hml, hown, hts, hK, hB, hX, hr, rfl⟩ := hG
  obtain ⟨hd, rfl⟩ := hd
  intro H locs la hP hD hS hl
  exact lv_tableIn hx hb hd h.1.1 h.1.2 h.2.1 h.2.2 (K H locs la hP hD hS hl)
theorem r_tsOut (hG : IsG Γ R cc nL own ret post mc ms G) {dflt lo hi z : Int} {offs : Array Int} {len tgt : Nat} (hd : Dc cc pc (.tableswitch dflt lo hi offs) len n) (h : ((iI z).toInt < lo ∨ hi < (iI z).toInt) ∧ (pc : Int) + dflt = (tgt : Int)) (K : G cs tgt ls st S) : G cs pc ls (nt z :: st) S := by
  obtain ⟨p, e, s, m, args, below, meth, c, Q, hx, hb, hml, hown, hts, hK, hB, hX, hr, rfl⟩ := hG
  obtain ⟨hd, rfl⟩ := hd
  intro H locs la hP hD hS hl
  exact lv_tableOut hx hb hd h.1 h.2 (K H locs la hP hD hS hl)
end TX
theorem ct_ckI {Γ : Gm} {S : St} {a b : Int} (h : 0 ≤ a ∧ a < b) (hb : b < 2147483648) : CT Γ y_Ward_checkIndex b_Ward_checkIndex 2 ((none : Option FieldType)) (rmx 1 0 0) [nt a, nt b] S (dX none S) := by
  refine CT.of (by first | exact plainFor_of_name (by rfl) | decide +kernel) (Nat.le_of_ble_eq_true rfl) ?_
  intro G hG
  show G (0, 0) 0 [(0, nt a), (1, nt b)] [] _
  refine r_iload_n hG (hl0 := rfl) (hd := d_Ward_checkIndex_0) (K := ?_)
  refine r_if_lt hG (hd := d_Ward_checkIndex_1) (kt := fun hh => absurd hh (by omega)) (kf := fun _ => ?_)
  refine r_iload_n hG (hl0 := rfl) (hd := d_Ward_checkIndex_4) (K := ?_)
  refine r_iload_n hG (hl0 := rfl) (hd := d_Ward_checkIndex_5) (K := ?_)
  refine r_icmp_lt hG (hd := d_Ward_checkIndex_6) (kt := fun _ => ?_) (kf := fun hh => absurd hh (by omega))
  refine r_vret hG d_Ward_checkIndex_20 ⟨(Nat.le_of_ble_eq_true rfl), (Nat.le_of_ble_eq_true rfl)⟩ ?_
  exact ⟨rfl, rfl⟩
theorem ct_ckV {Γ : Gm} {S : St} {a lo hi : Int} (h : lo ≤ a ∧ a ≤ hi) (hb : 0 ≤ lo ∧ hi < 2147483648) : CT Γ y_Ward_checkValue b_Ward_checkValue 3 ((none : Option FieldType)) (rmx 1 0 0) [nt a, nt lo, nt hi] S (dX none S) := by
  refine CT.of (by first | exact plainFor_of_name (by rfl) | decide +kernel) (Nat.le_of_ble_eq_true rfl) ?_
  intro G hG
  show G (0, 0) 0 [(0, nt a), (1, nt lo), (2, nt hi)] [] _
  refine r_iload_n hG (hl0 := rfl) (hd := d_Ward_checkValue_0) (K := ?_)
  refine r_iload_n hG (hl0 := rfl) (hd := d_Ward_checkValue_1) (K := ?_)
  refine r_icmp_lt hG (hd := d_Ward_checkValue_2) (kt := fun hh => absurd hh (by omega)) (kf := fun _ => ?_)
  refine r_iload_n hG (hl0 := rfl) (hd := d_Ward_checkValue_5) (K := ?_)
  refine r_iload_n hG (hl0 := rfl) (hd := d_Ward_checkValue_6) (K := ?_)
  refine r_icmp_le hG (hd := d_Ward_checkValue_7) (kt := fun _ => ?_) (kf := fun hh => absurd hh (by omega))
  refine r_vret hG d_Ward_checkValue_21 ⟨(Nat.le_of_ble_eq_true rfl), (Nat.le_of_ble_eq_true rfl)⟩ ?_
  exact ⟨rfl, rfl⟩
theorem ct_streetAt {Γ : Gm} {S : St} {n k : Nat} (hn : S 0 0 0 = (n : Int)) (hn6 : n ≤ 6) (hk : k < n) : CT Γ y_Ward_streetAt b_Ward_streetAt 2 ((some (FieldType.object "BinWard$Street"))) (rmx 2 0 0) [rf Γ 0 0, nt k] S (dX (some (rf Γ 15 (2 * k))) S) := by
  refine CT.of (by first | exact plainFor_of_name (by rfl) | decide +kernel) (Nat.le_of_ble_eq_true rfl) ?_
  intro G hG
  show G (0, 0) 0 [(0, rf Γ 0 0), (1, nt k)] [] _
  refine r_iload_n hG (hl0 := rfl) (hd := d_Ward_streetAt_0) (K := ?_)
  refine r_aload_n hG (hl0 := rfl) (hd := d_Ward_streetAt_1) (K := ?_)
  refine g_Ward_86 hG (hd := d_Ward_streetAt_2) (K := ?_)
  refine cSv hG w_Ward_107 d_Ward_streetAt_5 (ct_ckI (by omega) (by omega)) rfl rfl ⟨(Nat.le_of_ble_eq_true rfl), (Nat.le_of_ble_eq_true rfl)⟩ ⟨(Nat.le_of_ble_eq_true rfl), (Nat.le_of_ble_eq_true rfl)⟩ (Nat.le_of_ble_eq_true rfl) ?_
  refine r_aload_n hG (hl0 := rfl) (hd := d_Ward_streetAt_8) (K := ?_)
  refine g_Ward_11 hG (hd := d_Ward_streetAt_9) (K := ?_)
  refine r_iload_n hG (hl0 := rfl) (hd := d_Ward_streetAt_12) (K := ?_)
  first | refine a_1 hG (hd := d_Ward_streetAt_13) (hz := rfl) (hj := by omega) (hi := by omega) (K := ?_) | refine a_2 hG (hd := d_Ward_streetAt_13) (hz := rfl) (hj := by omega) (hi := by omega) (K := ?_) | refine a_10 hG (hd := d_Ward_streetAt_13) (hz := rfl) (hj := by omega) (hi := by omega) (K := ?_) | refine r_aald22 hG (hd := d_Ward_streetAt_13) (hz := rfl) (hj := by omega) (hi := by omega) (K := ?_)
  refine r_aret hG d_Ward_streetAt_14 ⟨(Nat.le_of_ble_eq_true rfl), (Nat.le_of_ble_eq_true rfl)⟩ (Or.inl ⟨_, rfl⟩) ⟨_, rfl⟩ ?_
  exact ⟨rfl, rfl⟩
theorem ct_lorryAt {Γ : Gm} {S : St} {n k : Nat} (hn : S 1 0 0 = (n : Int)) (hn3 : n ≤ 3) (hk : k < n) : CT Γ y_Ward_lorryAt b_Ward_lorryAt 2 ((some (FieldType.object "BinWard$Lorry"))) (rmx 2 0 0) [rf Γ 0 0, nt k] S (dX (some (rf Γ 20 k)) S) := by
  refine CT.of (by first | exact plainFor_of_name (by rfl) | decide +kernel) (Nat.le_of_ble_eq_true rfl) ?_
  intro G hG
  show G (0, 0) 0 [(0, rf Γ 0 0), (1, nt k)] [] _
  refine r_iload_n hG (hl0 := rfl) (hd := d_Ward_lorryAt_0) (K := ?_)
  refine r_aload_n hG (hl0 := rfl) (hd := d_Ward_lorryAt_1) (K := ?_)
  refine g_Ward_115 hG (hd := d_Ward_lorryAt_2) (K := ?_)
  refine cSv hG w_Ward_107 d_Ward_lorryAt_5 (ct_ckI (by omega) (by omega)) rfl rfl ⟨(Nat.le_of_ble_eq_true rfl), (Nat.le_of_ble_eq_true rfl)⟩ ⟨(Nat.le_of_ble_eq_true rfl), (Nat.le_of_ble_eq_true rfl)⟩ (Nat.le_of_ble_eq_true rfl) ?_
  refine r_aload_n hG (hl0 := rfl) (hd := d_Ward_lorryAt_8) (K := ?_)
  refine g_Ward_20 hG (hd := d_Ward_lorryAt_9) (K := ?_)
  refine r_iload_n hG (hl0 := rfl) (hd := d_Ward_lorryAt_12) (K := ?_)
  first | refine a_1 hG (hd := d_Ward_lorryAt_13) (hz := rfl) (hj := by omega) (hi := by omega) (K := ?_) | refine a_2 hG (hd := d_Ward_lorryAt_13) (hz := rfl) (hj := by omega) (hi := by omega) (K := ?_) | refine a_10 hG (hd := d_Ward_lorryAt_13) (hz := rfl) (hj := by omega) (hi := by omega) (K := ?_) | refine r_aald22 hG (hd := d_Ward_lorryAt_13) (hz := rfl) (hj := by omega) (hi := by omega) (K := ?_)
  refine r_aret hG d_Ward_lorryAt_14 ⟨(Nat.le_of_ble_eq_true rfl), (Nat.le_of_ble_eq_true rfl)⟩ (Or.inl ⟨_, rfl⟩) ⟨_, rfl⟩ ?_
  exact ⟨rfl, rfl⟩
theorem ct_baleAt {Γ : Gm} {S : St} {n k : Nat} (hn : S 52 0 0 = (n : Int)) (hn20 : n ≤ 20) (hk : k < n) : CT Γ y_Ward_baleAt b_Ward_baleAt 2 ((some (FieldType.object "BinWard$Bale"))) (rmx 2 0 0) [rf Γ 0 0, nt k] S (dX (some (rf Γ 11 k)) S) := by
  refine CT.of (by first | exact plainFor_of_name (by rfl) | decide +kernel) (Nat.le_of_ble_eq_true rfl) ?_
  intro G hG
  show G (0, 0) 0 [(0, rf Γ 0 0), (1, nt k)] [] _
  refine r_iload_n hG (hl0 := rfl) (hd := d_Ward_baleAt_0) (K := ?_)
  refine r_aload_n hG (hl0 := rfl) (hd := d_Ward_baleAt_1) (K := ?_)
  refine g_Ward_55 hG (hd := d_Ward_baleAt_2) (K := ?_)
  refine g_Ward_238 hG (hd := d_Ward_baleAt_5) (K := ?_)
  refine cSv hG w_Ward_107 d_Ward_baleAt_8 (ct_ckI (by omega) (by omega)) rfl rfl ⟨(Nat.le_of_ble_eq_true rfl), (Nat.le_of_ble_eq_true rfl)⟩ ⟨(Nat.le_of_ble_eq_true rfl), (Nat.le_of_ble_eq_true rfl)⟩ (Nat.le_of_ble_eq_true rfl) ?_
  refine r_aload_n hG (hl0 := rfl) (hd := d_Ward_baleAt_11) (K := ?_)
  refine g_Ward_55 hG (hd := d_Ward_baleAt_12) (K := ?_)
  refine g_Ward_416 hG (hd := d_Ward_baleAt_15) (K := ?_)
  refine r_iload_n hG (hl0 := rfl) (hd := d_Ward_baleAt_18) (K := ?_)
  first | refine a_1 hG (hd := d_Ward_baleAt_19) (hz := rfl) (hj := by omega) (hi := by omega) (K := ?_) | refine a_2 hG (hd := d_Ward_baleAt_19) (hz := rfl) (hj := by omega) (hi := by omega) (K := ?_) | refine a_10 hG (hd := d_Ward_baleAt_19) (hz := rfl) (hj := by omega) (hi := by omega) (K := ?_) | refine r_aald22 hG (hd := d_Ward_baleAt_19) (hz := rfl) (hj := by omega) (hi := by omega) (K := ?_)
  refine r_aret hG d_Ward_baleAt_20 ⟨(Nat.le_of_ble_eq_true rfl), (Nat.le_of_ble_eq_true rfl)⟩ (Or.inl ⟨_, rfl⟩) ⟨_, rfl⟩ ?_
  exact ⟨rfl, rfl⟩
def rupF (a b : Int) : Int := (a + b - 1) / b
theorem ct_rup {Γ : Gm} {S : St} {a b : Int} (ha : 0 ≤ a ∧ a < 1000000000) (hb : 0 < b ∧ b < 1000) : CT Γ y_Ward_roundedUp b_Ward_roundedUp 2 ((some FieldType.int)) (rmx 1 0 0) [nt a, nt b] S (dX (some (nt (rupF a b))) S) := by
  refine CT.of (by first | exact plainFor_of_name (by rfl) | decide +kernel) (Nat.le_of_ble_eq_true rfl) ?_
  intro G hG
  show G (0, 0) 0 [(0, nt a), (1, nt b)] [] _
  refine r_iload_n hG (hl0 := rfl) (hd := d_Ward_roundedUp_0) (K := ?_)
  refine r_if_gt hG (hd := d_Ward_roundedUp_1) (kt := fun _ => ?_) (kf := fun hh => absurd hh (by omega))
  refine r_iload_n hG (hl0 := rfl) (hd := d_Ward_roundedUp_8) (K := ?_)
  refine r_iload_n hG (hl0 := rfl) (hd := d_Ward_roundedUp_9) (K := ?_)
  first | refine r_iadd hG (hd := d_Ward_roundedUp_10) (K := ?_) | refine r_iaddr hG (hd := d_Ward_roundedUp_10) (K := ?_)
  refine r_iconst hG (hd := d_Ward_roundedUp_11) (K := ?_)
  first | refine r_isub hG (hd := d_Ward_roundedUp_12) (K := ?_) | refine r_isubr hG (hd := d_Ward_roundedUp_12) (K := ?_)
  refine r_iload_n hG (hl0 := rfl) (hd := d_Ward_roundedUp_13) (K := ?_)
  refine r_idiv hG (hr0 := by first | omega | (simp [sU]; omega)) (hd := d_Ward_roundedUp_14) (K := ?_)
  refine r_iret hG d_Ward_roundedUp_15 ⟨(Nat.le_of_ble_eq_true rfl), (Nat.le_of_ble_eq_true rfl)⟩ ?_
  exact ⟨rfl, rfl⟩
def ripF (S : St) : St :=
  let S1 := sU S 68 0 0 (S 68 0 0 + rupF (S 65 0 0) 10)
  let S2 := sU S1 67 0 0 (S1 67 0 0 + S 65 0 0 / 20)
  sU S2 65 0 0 (S2 65 0 0 - (rupF (S 65 0 0) 10 + S 65 0 0 / 20))
theorem ct_ripen {Γ : Gm} {S : St} (h : 0 ≤ S 65 0 0 ∧ S 65 0 0 < 1000000000) : CT Γ y_Heap_ripen b_Heap_ripen 3 ((none : Option FieldType)) (rmx 2 0 0) [rf Γ 13 0] S (dX none (ripF S)) := by
  refine CT.of (by first | exact plainFor_of_name (by rfl) | decide +kernel) (Nat.le_of_ble_eq_true rfl) ?_
  intro G hG
  show G (0, 0) 0 [(0, rf Γ 13 0)] [] _
  refine r_aload_n hG (hl0 := rfl) (hd := d_Heap_ripen_0) (K := ?_)
  refine g_Heap_7 hG (hd := d_Heap_ripen_1) (K := ?_)
  refine r_bipush hG (hd := d_Heap_ripen_4) (K := ?_)
  refine cNx hG w_Heap_19 d_Heap_ripen_6 (ct_rup h (by omega)) rfl rfl ⟨(Nat.le_of_ble_eq_true rfl), (Nat.le_of_ble_eq_true rfl)⟩ ⟨(Nat.le_of_ble_eq_true rfl), (Nat.le_of_ble_eq_true rfl)⟩ (Nat.le_of_ble_eq_true rfl) ?_
  refine r_istore_n hG (hd := d_Heap_ripen_9) (K := ?_)
  refine r_aload_n hG (hl0 := rfl) (hd := d_Heap_ripen_10) (K := ?_)
  refine g_Heap_7 hG (hd := d_Heap_ripen_11) (K := ?_)
  refine r_bipush hG (hd := d_Heap_ripen_14) (K := ?_)
  refine r_idiv hG (hr0 := by first | omega | (simp [sU]; omega)) (hd := d_Heap_ripen_16) (K := ?_)
  refine r_istore_n hG (hd := d_Heap_ripen_17) (K := ?_)
  refine r_aload_n hG (hl0 := rfl) (hd := d_Heap_ripen_18) (K := ?_)
  refine r_dup hG (hd := d_Heap_ripen_19) (K := ?_)
  refine g_Heap_25 hG (hd := d_Heap_ripen_20) (K := ?_)
  refine r_iload_n hG (hl0 := rfl) (hd := d_Heap_ripen_23) (K := ?_)
  first | refine r_iadd hG (hd := d_Heap_ripen_24) (K := ?_) | refine r_iaddr hG (hd := d_Heap_ripen_24) (K := ?_)
  refine p_Heap_25 hG (hd := d_Heap_ripen_25) (K := ?_)
  refine r_aload_n hG (hl0 := rfl) (hd := d_Heap_ripen_28) (K := ?_)
  refine r_dup hG (hd := d_Heap_ripen_29) (K := ?_)
  refine g_Heap_28 hG (hd := d_Heap_ripen_30) (K := ?_)
  refine r_iload_n hG (hl0 := rfl) (hd := d_Heap_ripen_33) (K := ?_)
  first | refine r_iadd hG (hd := d_Heap_ripen_34) (K := ?_) | refine r_iaddr hG (hd := d_Heap_ripen_34) (K := ?_)
  refine p_Heap_28 hG (hd := d_Heap_ripen_35) (K := ?_)
  refine r_aload_n hG (hl0 := rfl) (hd := d_Heap_ripen_38) (K := ?_)
  refine r_dup hG (hd := d_Heap_ripen_39) (K := ?_)
  refine g_Heap_7 hG (hd := d_Heap_ripen_40) (K := ?_)
  refine r_iload_n hG (hl0 := rfl) (hd := d_Heap_ripen_43) (K := ?_)
  refine r_iload_n hG (hl0 := rfl) (hd := d_Heap_ripen_44) (K := ?_)
  first | refine r_iadd hG (hd := d_Heap_ripen_45) (K := ?_) | refine r_iaddr hG (hd := d_Heap_ripen_45) (K := ?_)
  first | refine r_isub hG (hd := d_Heap_ripen_46) (K := ?_) | refine r_isubr hG (hd := d_Heap_ripen_46) (K := ?_)
  refine p_Heap_7 hG (hd := d_Heap_ripen_47) (K := ?_)
  refine r_vret hG d_Heap_ripen_50 ⟨(Nat.le_of_ble_eq_true rfl), (Nat.le_of_ble_eq_true rfl)⟩ ?_
  exact ⟨rfl, rfl⟩
def fetN (S : St) : Nat → Int
  | 0 => 0
  | k + 1 => fetN S k + S 24 k 0
theorem ct_fetchedEver {Γ : Gm} {S : St} {n : Nat} (hn : S 1 0 0 = (n : Int)) (hn3 : n ≤ 3) : CT Γ y_Ward_fetchedEver b_Ward_fetchedEver 3 ((some FieldType.int)) (rmx 1 0 0) [rf Γ 0 0] S (dX (some (nt (fetN S n))) S) := by
  refine CT.of (by first | exact plainFor_of_name (by rfl) | decide +kernel) (Nat.le_of_ble_eq_true rfl) ?_
  intro G hG
  show G (0, 0) 0 [(0, rf Γ 0 0)] [] _
  refine r_iconst hG (hd := d_Ward_fetchedEver_0) (K := ?_)
  refine r_istore_n hG (hd := d_Ward_fetchedEver_1) (K := ?_)
  refine r_iconst hG (hd := d_Ward_fetchedEver_2) (K := ?_)
  refine r_istore_n hG (hd := d_Ward_fetchedEver_3) (K := ?_)
  have loop : ∀ m i : Nat, i + m = n → G (0, 0) 4 [(0, rf Γ 0 0), (1, nt (fetN S i)), (2, nt i)] [] S := by
    intro m
    induction m with
    | zero =>
      intro i hi
      have hin : i = n := by omega
      subst hin
      refine r_iload_n hG (hl0 := rfl) (hd := d_Ward_fetchedEver_4) (K := ?_)
      refine r_aload_n hG (hl0 := rfl) (hd := d_Ward_fetchedEver_5) (K := ?_)
      refine g_Ward_115 hG (hd := d_Ward_fetchedEver_6) (K := ?_)
      refine r_icmp_ge hG (hd := d_Ward_fetchedEver_9) (kt := fun _ => ?_) (kf := fun hh => absurd hh (by omega))
      refine r_iload_n hG (hl0 := rfl) (hd := d_Ward_fetchedEver_30) (K := ?_)
      refine r_iret hG d_Ward_fetchedEver_31 ⟨(Nat.le_of_ble_eq_true rfl), (Nat.le_of_ble_eq_true rfl)⟩ ?_
      exact ⟨rfl, rfl⟩
    | succ m ih =>
      intro i hi
      refine r_iload_n hG (hl0 := rfl) (hd := d_Ward_fetchedEver_4) (K := ?_)
      refine r_aload_n hG (hl0 := rfl) (hd := d_Ward_fetchedEver_5) (K := ?_)
      refine g_Ward_115 hG (hd := d_Ward_fetchedEver_6) (K := ?_)
      refine r_icmp_ge hG (hd := d_Ward_fetchedEver_9) (kt := fun hh => absurd hh (by omega)) (kf := fun _ => ?_)
      refine r_iload_n hG (hl0 := rfl) (hd := d_Ward_fetchedEver_12) (K := ?_)
      refine r_aload_n hG (hl0 := rfl) (hd := d_Ward_fetchedEver_13) (K := ?_)
      refine g_Ward_20 hG (hd := d_Ward_fetchedEver_14) (K := ?_)
      refine r_iload_n hG (hl0 := rfl) (hd := d_Ward_fetchedEver_17) (K := ?_)
      first | refine a_1 hG (hd := d_Ward_fetchedEver_18) (hz := rfl) (hj := by omega) (hi := by omega) (K := ?_) | refine a_2 hG (hd := d_Ward_fetchedEver_18) (hz := rfl) (hj := by omega) (hi := by omega) (K := ?_) | refine a_10 hG (hd := d_Ward_fetchedEver_18) (hz := rfl) (hj := by omega) (hi := by omega) (K := ?_) | refine r_aald22 hG (hd := d_Ward_fetchedEver_18) (hz := rfl) (hj := by omega) (hi := by omega) (K := ?_)
      refine g_Ward_228 hG (hi := by omega) (hd := d_Ward_fetchedEver_19) (K := ?_)
      first | refine r_iadd hG (hd := d_Ward_fetchedEver_22) (K := ?_) | refine r_iaddr hG (hd := d_Ward_fetchedEver_22) (K := ?_)
      refine r_istore_n hG (hd := d_Ward_fetchedEver_23) (K := ?_)
      refine r_iinc hG (hl0 := rfl) (hd := d_Ward_fetchedEver_24) (K := ?_)
      refine r_goto hG (hd := d_Ward_fetchedEver_27) (K := ?_)
      exact r_sb hG (ih (i + 1) (by omega)) ⟨rfl, rfl, rfl, trivial⟩
  exact r_sb hG (loop n 0 (by omega)) ⟨rfl, rfl, rfl, trivial⟩
def litN (S : St) (w : Nat) : Nat → Int
  | 0 => 0
  | k + 1 => litN S w k + S 12 (2 * k + w) 0
theorem ct_litterIn {Γ : Gm} {S : St} {w n : Nat} (hw : w < 2) (hn : S 0 0 0 = (n : Int)) (hn6 : n ≤ 6) : CT Γ y_Ward_litterIn b_Ward_litterIn 4 ((some FieldType.int)) (rmx 1 0 0) [rf Γ 0 0, rf Γ 1 w] S (dX (some (nt (litN S w n))) S) := by
  refine CT.of (by first | exact plainFor_of_name (by rfl) | decide +kernel) (Nat.le_of_ble_eq_true rfl) ?_
  intro G hG
  show G (0, 0) 0 [(0, rf Γ 0 0), (1, rf Γ 1 w)] [] _
  refine r_iconst hG (hd := d_Ward_litterIn_0) (K := ?_)
  refine r_istore_n hG (hd := d_Ward_litterIn_1) (K := ?_)
  refine r_iconst hG (hd := d_Ward_litterIn_2) (K := ?_)
  refine r_istore_n hG (hd := d_Ward_litterIn_3) (K := ?_)
  have loop : ∀ m i : Nat, i + m = n → G (0, 0) 4 [(0, rf Γ 0 0), (1, rf Γ 1 w), (2, nt (litN S w i)), (3, nt i)] [] S := by
    intro m
    induction m with
    | zero =>
      intro i hi
      have hin : i = n := by omega
      subst hin
      refine r_iload_n hG (hl0 := rfl) (hd := d_Ward_litterIn_4) (K := ?_)
      refine r_aload_n hG (hl0 := rfl) (hd := d_Ward_litterIn_5) (K := ?_)
      refine g_Ward_86 hG (hd := d_Ward_litterIn_6) (K := ?_)
      refine r_icmp_ge hG (hd := d_Ward_litterIn_9) (kt := fun _ => ?_) (kf := fun hh => absurd hh (by omega))
      refine r_iload_n hG (hl0 := rfl) (hd := d_Ward_litterIn_27) (K := ?_)
      refine r_iret hG d_Ward_litterIn_28 ⟨(Nat.le_of_ble_eq_true rfl), (Nat.le_of_ble_eq_true rfl)⟩ ?_
      exact ⟨rfl, rfl⟩
    | succ m ih =>
      intro i hi
      refine r_iload_n hG (hl0 := rfl) (hd := d_Ward_litterIn_4) (K := ?_)
      refine r_aload_n hG (hl0 := rfl) (hd := d_Ward_litterIn_5) (K := ?_)
      refine g_Ward_86 hG (hd := d_Ward_litterIn_6) (K := ?_)
      refine r_icmp_ge hG (hd := d_Ward_litterIn_9) (kt := fun hh => absurd hh (by omega)) (kf := fun _ => ?_)
      refine r_iload_n hG (hl0 := rfl) (hd := d_Ward_litterIn_12) (K := ?_)
      refine r_aload_n hG (hl0 := rfl) (hd := d_Ward_litterIn_13) (K := ?_)
      refine r_iload_n hG (hl0 := rfl) (hd := d_Ward_litterIn_14) (K := ?_)
      first | refine a_1 hG (hd := d_Ward_litterIn_15) (hz := rfl) (hj := by omega) (hi := by omega) (K := ?_) | refine a_2 hG (hd := d_Ward_litterIn_15) (hz := rfl) (hj := by omega) (hi := by omega) (K := ?_) | refine a_10 hG (hd := d_Ward_litterIn_15) (hz := rfl) (hj := by omega) (hi := by omega) (K := ?_) | refine r_aald22 hG (hd := d_Ward_litterIn_15) (hz := rfl) (hj := by omega) (hi := by omega) (K := ?_)
      refine g_Ward_181 hG (hi := by omega) (hd := d_Ward_litterIn_16) (K := ?_)
      first | refine r_iadd hG (hd := d_Ward_litterIn_19) (K := ?_) | refine r_iaddr hG (hd := d_Ward_litterIn_19) (K := ?_)
      refine r_istore_n hG (hd := d_Ward_litterIn_20) (K := ?_)
      refine r_iinc hG (hl0 := rfl) (hd := d_Ward_litterIn_21) (K := ?_)
      refine r_goto hG (hd := d_Ward_litterIn_24) (K := ?_)
      exact r_sb hG (ih (i + 1) (by omega)) ⟨rfl, rfl, rfl, rfl, trivial⟩
  exact r_sb hG (loop n 0 (by omega)) ⟨rfl, rfl, rfl, rfl, trivial⟩
def streetS (S : St) (n : Nat) (p d : Int) : St := sU (sU (sU S 10 (2 * n) 0 p) 11 (2 * n) 0 d) 0 0 0 ((n : Int) + 1)
theorem ct_street {Γ : Gm} {S : St} {n : Nat} {p d : Int} (hn : S 0 0 0 = (n : Int)) (hn6 : n < 6) (hp : 1 ≤ p ∧ p ≤ 30) (hd : 0 ≤ d ∧ d ≤ 4) : CT Γ y_Ward_street b_Ward_street 4 ((some FieldType.int)) (rmx 2 0 0) [rf Γ 0 0, nt p, nt d] S (dX (some (nt n)) (streetS S n p d)) := by
  refine CT.of (by first | exact plainFor_of_name (by rfl) | decide +kernel) (Nat.le_of_ble_eq_true rfl) ?_
  intro G hG
  show G (0, 0) 0 [(0, rf Γ 0 0), (1, nt p), (2, nt d)] [] _
  refine r_iload_n hG (hl0 := rfl) (hd := d_Ward_street_0) (K := ?_)
  refine r_iconst hG (hd := d_Ward_street_1) (K := ?_)
  refine r_bipush hG (hd := d_Ward_street_2) (K := ?_)
  refine cSv hG w_Ward_82 d_Ward_street_4 (ct_ckV hp (by omega)) rfl rfl ⟨(Nat.le_of_ble_eq_true rfl), (Nat.le_of_ble_eq_true rfl)⟩ ⟨(Nat.le_of_ble_eq_true rfl), (Nat.le_of_ble_eq_true rfl)⟩ (Nat.le_of_ble_eq_true rfl) ?_
  refine r_iload_n hG (hl0 := rfl) (hd := d_Ward_street_7) (K := ?_)
  refine r_iconst hG (hd := d_Ward_street_8) (K := ?_)
  refine r_iconst hG (hd := d_Ward_street_9) (K := ?_)
  refine cSv hG w_Ward_82 d_Ward_street_10 (ct_ckV hd (by omega)) rfl rfl ⟨(Nat.le_of_ble_eq_true rfl), (Nat.le_of_ble_eq_true rfl)⟩ ⟨(Nat.le_of_ble_eq_true rfl), (Nat.le_of_ble_eq_true rfl)⟩ (Nat.le_of_ble_eq_true rfl) ?_
  refine r_aload_n hG (hl0 := rfl) (hd := d_Ward_street_13) (K := ?_)
  refine g_Ward_86 hG (hd := d_Ward_street_14) (K := ?_)
  refine r_bipush hG (hd := d_Ward_street_17) (K := ?_)
  refine r_icmp_lt hG (hd := d_Ward_street_19) (kt := fun _ => ?_) (kf := fun hh => absurd hh (by omega))
  refine r_aload_n hG (hl0 := rfl) (hd := d_Ward_street_32) (K := ?_)
  refine g_Ward_11 hG (hd := d_Ward_street_33) (K := ?_)
  refine r_aload_n hG (hl0 := rfl) (hd := d_Ward_street_36) (K := ?_)
  refine g_Ward_86 hG (hd := d_Ward_street_37) (K := ?_)
  rw [hn]
  first | refine a_1 hG (hd := d_Ward_street_40) (hz := rfl) (hj := by omega) (hi := by omega) (K := ?_) | refine a_2 hG (hd := d_Ward_street_40) (hz := rfl) (hj := by omega) (hi := by omega) (K := ?_) | refine a_10 hG (hd := d_Ward_street_40) (hz := rfl) (hj := by omega) (hi := by omega) (K := ?_) | refine r_aald22 hG (hd := d_Ward_street_40) (hz := rfl) (hj := by omega) (hi := by omega) (K := ?_)
  refine r_astore_n hG (hd := d_Ward_street_41) (K := ?_)
  refine r_aload_n hG (hl0 := rfl) (hd := d_Ward_street_42) (K := ?_)
  refine r_iload_n hG (hl0 := rfl) (hd := d_Ward_street_43) (K := ?_)
  refine p_Ward_97 hG (hi := by omega) (hd := d_Ward_street_44) (K := ?_)
  refine r_aload_n hG (hl0 := rfl) (hd := d_Ward_street_47) (K := ?_)
  refine r_iload_n hG (hl0 := rfl) (hd := d_Ward_street_48) (K := ?_)
  refine p_Ward_100 hG (hi := by omega) (hd := d_Ward_street_49) (K := ?_)
  refine r_aload_n hG (hl0 := rfl) (hd := d_Ward_street_52) (K := ?_)
  refine r_dup hG (hd := d_Ward_street_53) (K := ?_)
  refine g_Ward_86 hG (hd := d_Ward_street_54) (K := ?_)
  rw [show (sU (sU S 10 (2 * n + 0) 0 p) 11 (2 * n + 0) 0 d) 0 0 0 = (n : Int) by rw [sU_nf (by decide), sU_nf (by decide), hn]]
  refine r_iconst hG (hd := d_Ward_street_57) (K := ?_)
  first | refine r_iadd hG (hd := d_Ward_street_58) (K := ?_) | refine r_iaddr hG (hd := d_Ward_street_58) (K := ?_)
  refine p_Ward_86 hG (hd := d_Ward_street_59) (K := ?_)
  refine r_aload_n hG (hl0 := rfl) (hd := d_Ward_street_62) (K := ?_)
  refine g_Ward_86 hG (hd := d_Ward_street_63) (K := ?_)
  rw [sU_eq]
  refine r_iconst hG (hd := d_Ward_street_66) (K := ?_)
  first | refine r_isub hG (hd := d_Ward_street_67) (K := ?_) | refine r_isubr hG (hd := d_Ward_street_67) (K := ?_)
  refine r_iret hG d_Ward_street_68 ⟨(Nat.le_of_ble_eq_true rfl), (Nat.le_of_ble_eq_true rfl)⟩ ?_
  exact ⟨by rw [show (n : Int) + 1 - 1 = n by omega]; rfl, rfl⟩
theorem ct_habit {Γ : Gm} {S : St} {n k j : Nat} {z : Int} (hn : S 0 0 0 = (n : Int)) (hn6 : n ≤ 6) (hk : k < n) (hj : j < 3) (hz : 0 ≤ z ∧ z ≤ 9) : CT Γ y_Ward_habit b_Ward_habit 6 ((some FieldType.int)) (rmx 3 0 0) [rf Γ 0 0, nt k, nt j, nt z] S (dX (some (nt (S 15 (2 * k) j))) (sU S 15 (2 * k) j z)) := by
  refine CT.of (by first | exact plainFor_of_name (by rfl) | decide +kernel) (Nat.le_of_ble_eq_true rfl) ?_
  intro G hG
  show G (0, 0) 0 [(0, rf Γ 0 0), (1, nt k), (2, nt j), (3, nt z)] [] _
  refine r_aload_n hG (hl0 := rfl) (hd := d_Ward_habit_0) (K := ?_)
  refine r_iload_n hG (hl0 := rfl) (hd := d_Ward_habit_1) (K := ?_)
  refine cVx hG w_Ward_103 d_Ward_habit_2 (ct_streetAt hn hn6 hk) (by decide) (by decide) rc_0 rfl rfl ⟨(Nat.le_of_ble_eq_true rfl), (Nat.le_of_ble_eq_true rfl)⟩ ⟨(Nat.le_of_ble_eq_true rfl), (Nat.le_of_ble_eq_true rfl)⟩ (Nat.le_of_ble_eq_true rfl) ?_
  refine r_astore hG (hd := d_Ward_habit_5) (K := ?_)
  refine r_iload_n hG (hl0 := rfl) (hd := d_Ward_habit_7) (K := ?_)
  refine r_iconst hG (hd := d_Ward_habit_8) (K := ?_)
  refine cSv hG w_Ward_107 d_Ward_habit_9 (ct_ckI (by omega) (by omega)) rfl rfl ⟨(Nat.le_of_ble_eq_true rfl), (Nat.le_of_ble_eq_true rfl)⟩ ⟨(Nat.le_of_ble_eq_true rfl), (Nat.le_of_ble_eq_true rfl)⟩ (Nat.le_of_ble_eq_true rfl) ?_
  refine r_iload_n hG (hl0 := rfl) (hd := d_Ward_habit_12) (K := ?_)
  refine r_iconst hG (hd := d_Ward_habit_13) (K := ?_)
  refine r_bipush hG (hd := d_Ward_habit_14) (K := ?_)
  refine cSv hG w_Ward_82 d_Ward_habit_16 (ct_ckV hz (by omega)) rfl rfl ⟨(Nat.le_of_ble_eq_true rfl), (Nat.le_of_ble_eq_true rfl)⟩ ⟨(Nat.le_of_ble_eq_true rfl), (Nat.le_of_ble_eq_true rfl)⟩ (Nat.le_of_ble_eq_true rfl) ?_
  refine r_aload hG (hl0 := rfl) (hd := d_Ward_habit_19) (K := ?_)
  refine g_Ward_111 hG (hi := by omega) (hd := d_Ward_habit_21) (K := ?_)
  refine r_iload_n hG (hl0 := rfl) (hd := d_Ward_habit_24) (K := ?_)
  first | refine a_16 hG (hd := d_Ward_habit_25) (hz := rfl) (hj := by omega) (hi := by omega) (K := ?_) | refine a_17 hG (hd := d_Ward_habit_25) (hz := rfl) (hj := by omega) (hi := by omega) (K := ?_) | refine a_18 hG (hd := d_Ward_habit_25) (hz := rfl) (hj := by omega) (hi := by omega) (K := ?_) | refine a_19 hG (hd := d_Ward_habit_25) (hz := rfl) (hj := by omega) (hi := by omega) (K := ?_) | refine a_4 hG (hd := d_Ward_habit_25) (hz := rfl) (hj := by omega) (hi := by omega) (K := ?_) | refine a_5 hG (hd := d_Ward_habit_25) (hz := rfl) (hj := by omega) (hi := by omega) (K := ?_) | refine a_21 hG (hd := d_Ward_habit_25) (hz := rfl) (hj := by omega) (hi := by omega) (K := ?_) | refine a_23 hG (hd := d_Ward_habit_25) (hz := rfl) (hj := by omega) (hi := by omega) (K := ?_) | refine a_24 hG (hd := d_Ward_habit_25) (hz := rfl) (hj := by omega) (hi := by omega) (K := ?_)
  refine r_istore hG (hd := d_Ward_habit_26) (K := ?_)
  refine r_aload hG (hl0 := rfl) (hd := d_Ward_habit_28) (K := ?_)
  refine g_Ward_111 hG (hi := by omega) (hd := d_Ward_habit_30) (K := ?_)
  refine r_iload_n hG (hl0 := rfl) (hd := d_Ward_habit_33) (K := ?_)
  refine r_iload_n hG (hl0 := rfl) (hd := d_Ward_habit_34) (K := ?_)
  first | refine s_16 hG (hd := d_Ward_habit_35) (hz := rfl) (hj := by omega) (hi := by omega) (K := ?_) | refine s_17 hG (hd := d_Ward_habit_35) (hz := rfl) (hj := by omega) (hi := by omega) (K := ?_) | refine s_18 hG (hd := d_Ward_habit_35) (hz := rfl) (hj := by omega) (hi := by omega) (K := ?_) | refine s_19 hG (hd := d_Ward_habit_35) (hz := rfl) (hj := by omega) (hi := by omega) (K := ?_) | refine s_4 hG (hd := d_Ward_habit_35) (hz := rfl) (hj := by omega) (hi := by omega) (K := ?_) | refine s_5 hG (hd := d_Ward_habit_35) (hz := rfl) (hj := by omega) (hi := by omega) (K := ?_) | refine s_21 hG (hd := d_Ward_habit_35) (hz := rfl) (hj := by omega) (hi := by omega) (K := ?_) | refine s_23 hG (hd := d_Ward_habit_35) (hz := rfl) (hj := by omega) (hi := by omega) (K := ?_) | refine s_24 hG (hd := d_Ward_habit_35) (hz := rfl) (hj := by omega) (hi := by omega) (K := ?_)
  refine r_iload hG (hl0 := rfl) (hd := d_Ward_habit_36) (K := ?_)
  refine r_iret hG d_Ward_habit_38 ⟨(Nat.le_of_ble_eq_true rfl), (Nat.le_of_ble_eq_true rfl)⟩ ?_
  exact ⟨rfl, rfl⟩
theorem ct_dirt {Γ : Gm} {S : St} {n k : Nat} {z : Int} (hn : S 0 0 0 = (n : Int)) (hn6 : n ≤ 6) (hk : k < n) (hz : 0 ≤ z ∧ z ≤ 4) : CT Γ y_Ward_dirt b_Ward_dirt 5 ((some FieldType.int)) (rmx 3 0 0) [rf Γ 0 0, nt k, nt z] S (dX (some (nt (S 11 (2 * k) 0))) (sU S 11 (2 * k) 0 z)) := by
  refine CT.of (by first | exact plainFor_of_name (by rfl) | decide +kernel) (Nat.le_of_ble_eq_true rfl) ?_
  intro G hG
  show G (0, 0) 0 [(0, rf Γ 0 0), (1, nt k), (2, nt z)] [] _
  refine r_aload_n hG (hl0 := rfl) (hd := d_Ward_dirt_0) (K := ?_)
  refine r_iload_n hG (hl0 := rfl) (hd := d_Ward_dirt_1) (K := ?_)
  refine cVx hG w_Ward_103 d_Ward_dirt_2 (ct_streetAt hn hn6 hk) (by decide) (by decide) rc_0 rfl rfl ⟨(Nat.le_of_ble_eq_true rfl), (Nat.le_of_ble_eq_true rfl)⟩ ⟨(Nat.le_of_ble_eq_true rfl), (Nat.le_of_ble_eq_true rfl)⟩ (Nat.le_of_ble_eq_true rfl) ?_
  refine r_astore_n hG (hd := d_Ward_dirt_5) (K := ?_)
  refine r_iload_n hG (hl0 := rfl) (hd := d_Ward_dirt_6) (K := ?_)
  refine r_iconst hG (hd := d_Ward_dirt_7) (K := ?_)
  refine r_iconst hG (hd := d_Ward_dirt_8) (K := ?_)
  refine cSv hG w_Ward_82 d_Ward_dirt_9 (ct_ckV hz (by omega)) rfl rfl ⟨(Nat.le_of_ble_eq_true rfl), (Nat.le_of_ble_eq_true rfl)⟩ ⟨(Nat.le_of_ble_eq_true rfl), (Nat.le_of_ble_eq_true rfl)⟩ (Nat.le_of_ble_eq_true rfl) ?_
  refine r_aload_n hG (hl0 := rfl) (hd := d_Ward_dirt_12) (K := ?_)
  refine g_Ward_100 hG (hi := by omega) (hd := d_Ward_dirt_13) (K := ?_)
  refine r_istore hG (hd := d_Ward_dirt_16) (K := ?_)
  refine r_aload_n hG (hl0 := rfl) (hd := d_Ward_dirt_18) (K := ?_)
  refine r_iload_n hG (hl0 := rfl) (hd := d_Ward_dirt_19) (K := ?_)
  refine p_Ward_100 hG (hi := by omega) (hd := d_Ward_dirt_20) (K := ?_)
  refine r_iload hG (hl0 := rfl) (hd := d_Ward_dirt_23) (K := ?_)
  refine r_iret hG d_Ward_dirt_25 ⟨(Nat.le_of_ble_eq_true rfl), (Nat.le_of_ble_eq_true rfl)⟩ ?_
  exact ⟨rfl, rfl⟩
def lorryS (S : St) (n : Nat) (h a b : Int) : St := sU (sU (sU (sU S 20 n 0 h) 25 n 0 a) 25 n 1 b) 1 0 0 ((n : Int) + 1)
theorem ct_lorry {Γ : Gm} {S : St} {n : Nat} {h a b : Int} (hn : S 1 0 0 = (n : Int)) (hn3 : n < 3) (hh : 10 ≤ h ∧ h ≤ 120) (ha : 0 ≤ a ∧ a ≤ 2) (hb : 0 ≤ b ∧ b ≤ 2) : CT Γ y_Ward_lorry b_Ward_lorry 5 ((some FieldType.int)) (rmx 2 0 0) [rf Γ 0 0, nt h, nt a, nt b] S (dX (some (nt n)) (lorryS S n h a b)) := by
  refine CT.of (by first | exact plainFor_of_name (by rfl) | decide +kernel) (Nat.le_of_ble_eq_true rfl) ?_
  intro G hG
  show G (0, 0) 0 [(0, rf Γ 0 0), (1, nt h), (2, nt a), (3, nt b)] [] _
  refine r_iload_n hG (hl0 := rfl) (hd := d_Ward_lorry_0) (K := ?_)
  refine r_bipush hG (hd := d_Ward_lorry_1) (K := ?_)
  refine r_bipush hG (hd := d_Ward_lorry_3) (K := ?_)
  refine cSv hG w_Ward_82 d_Ward_lorry_5 (ct_ckV hh (by omega)) rfl rfl ⟨(Nat.le_of_ble_eq_true rfl), (Nat.le_of_ble_eq_true rfl)⟩ ⟨(Nat.le_of_ble_eq_true rfl), (Nat.le_of_ble_eq_true rfl)⟩ (Nat.le_of_ble_eq_true rfl) ?_
  refine r_iload_n hG (hl0 := rfl) (hd := d_Ward_lorry_8) (K := ?_)
  refine r_iconst hG (hd := d_Ward_lorry_9) (K := ?_)
  refine r_iconst hG (hd := d_Ward_lorry_10) (K := ?_)
  refine cSv hG w_Ward_82 d_Ward_lorry_11 (ct_ckV ha (by omega)) rfl rfl ⟨(Nat.le_of_ble_eq_true rfl), (Nat.le_of_ble_eq_true rfl)⟩ ⟨(Nat.le_of_ble_eq_true rfl), (Nat.le_of_ble_eq_true rfl)⟩ (Nat.le_of_ble_eq_true rfl) ?_
  refine r_iload_n hG (hl0 := rfl) (hd := d_Ward_lorry_14) (K := ?_)
  refine r_iconst hG (hd := d_Ward_lorry_15) (K := ?_)
  refine r_iconst hG (hd := d_Ward_lorry_16) (K := ?_)
  refine cSv hG w_Ward_82 d_Ward_lorry_17 (ct_ckV hb (by omega)) rfl rfl ⟨(Nat.le_of_ble_eq_true rfl), (Nat.le_of_ble_eq_true rfl)⟩ ⟨(Nat.le_of_ble_eq_true rfl), (Nat.le_of_ble_eq_true rfl)⟩ (Nat.le_of_ble_eq_true rfl) ?_
  refine r_aload_n hG (hl0 := rfl) (hd := d_Ward_lorry_20) (K := ?_)
  refine g_Ward_115 hG (hd := d_Ward_lorry_21) (K := ?_)
  refine r_iconst hG (hd := d_Ward_lorry_24) (K := ?_)
  refine r_icmp_lt hG (hd := d_Ward_lorry_25) (kt := fun _ => ?_) (kf := fun hh => absurd hh (by omega))
  refine r_aload_n hG (hl0 := rfl) (hd := d_Ward_lorry_38) (K := ?_)
  refine g_Ward_20 hG (hd := d_Ward_lorry_39) (K := ?_)
  refine r_aload_n hG (hl0 := rfl) (hd := d_Ward_lorry_42) (K := ?_)
  refine g_Ward_115 hG (hd := d_Ward_lorry_43) (K := ?_)
  rw [hn]
  first | refine a_1 hG (hd := d_Ward_lorry_46) (hz := rfl) (hj := by omega) (hi := by omega) (K := ?_) | refine a_2 hG (hd := d_Ward_lorry_46) (hz := rfl) (hj := by omega) (hi := by omega) (K := ?_) | refine a_10 hG (hd := d_Ward_lorry_46) (hz := rfl) (hj := by omega) (hi := by omega) (K := ?_) | refine r_aald22 hG (hd := d_Ward_lorry_46) (hz := rfl) (hj := by omega) (hi := by omega) (K := ?_)
  refine r_astore hG (hd := d_Ward_lorry_47) (K := ?_)
  refine r_aload hG (hl0 := rfl) (hd := d_Ward_lorry_49) (K := ?_)
  refine r_iload_n hG (hl0 := rfl) (hd := d_Ward_lorry_51) (K := ?_)
  refine p_Ward_120 hG (hi := by omega) (hd := d_Ward_lorry_52) (K := ?_)
  refine r_aload hG (hl0 := rfl) (hd := d_Ward_lorry_55) (K := ?_)
  refine g_Ward_123 hG (hi := by omega) (hd := d_Ward_lorry_57) (K := ?_)
  refine r_iconst hG (hd := d_Ward_lorry_60) (K := ?_)
  refine r_iload_n hG (hl0 := rfl) (hd := d_Ward_lorry_61) (K := ?_)
  refine s_21 hG (j := 0) (hd := d_Ward_lorry_62) (hz := rfl) (hj := by omega) (hi := by omega) (K := ?_)
  refine r_aload hG (hl0 := rfl) (hd := d_Ward_lorry_63) (K := ?_)
  refine g_Ward_123 hG (hi := by omega) (hd := d_Ward_lorry_65) (K := ?_)
  refine r_iconst hG (hd := d_Ward_lorry_68) (K := ?_)
  refine r_iload_n hG (hl0 := rfl) (hd := d_Ward_lorry_69) (K := ?_)
  refine s_21 hG (j := 1) (hd := d_Ward_lorry_70) (hz := rfl) (hj := by omega) (hi := by omega) (K := ?_)
  refine r_aload_n hG (hl0 := rfl) (hd := d_Ward_lorry_71) (K := ?_)
  refine r_dup hG (hd := d_Ward_lorry_72) (K := ?_)
  refine g_Ward_115 hG (hd := d_Ward_lorry_73) (K := ?_)
  rw [show (sU (sU (sU S 20 n 0 h) 25 n 0 a) 25 n 1 b) 1 0 0 = (n : Int) by rw [sU_nf (by decide), sU_nf (by decide), sU_nf (by decide), hn]]
  refine r_iconst hG (hd := d_Ward_lorry_76) (K := ?_)
  first | refine r_iadd hG (hd := d_Ward_lorry_77) (K := ?_) | refine r_iaddr hG (hd := d_Ward_lorry_77) (K := ?_)
  refine p_Ward_115 hG (hd := d_Ward_lorry_78) (K := ?_)
  refine r_aload_n hG (hl0 := rfl) (hd := d_Ward_lorry_81) (K := ?_)
  refine g_Ward_115 hG (hd := d_Ward_lorry_82) (K := ?_)
  rw [sU_eq]
  refine r_iconst hG (hd := d_Ward_lorry_85) (K := ?_)
  first | refine r_isub hG (hd := d_Ward_lorry_86) (K := ?_) | refine r_isubr hG (hd := d_Ward_lorry_86) (K := ?_)
  refine r_iret hG d_Ward_lorry_87 ⟨(Nat.le_of_ble_eq_true rfl), (Nat.le_of_ble_eq_true rfl)⟩ ?_
  exact ⟨by rw [show (n : Int) + 1 - 1 = n by omega]; rfl, rfl⟩
theorem ct_round {Γ : Gm} {S : St} {ns nl i d e n : Nat} (hns : S 0 0 0 = (ns : Int)) (hns6 : ns ≤ 6) (hnl : S 1 0 0 = (nl : Int)) (hnl3 : nl ≤ 3) (hi : i < nl) (hd : d < 7) (he : e < ns) (hn : n < 6) (hl : S 26 i d = (n : Int)) (hr : ∀ q, q < 6 → ∃ e : Nat, e < 6 ∧ S 27 (7 * i + d) q = (e : Int)) (hno : ∀ q, q < n → S 27 (7 * i + d) q ≠ (e : Int)) :
    CT Γ y_Ward_round b_Ward_round 5 ((some FieldType.int)) (rmx 3 0 0) [rf Γ 0 0, nt i, nt d, nt e] S (dX (some (nt ((n : Int) + 1))) (addR S i d e n)) := by
  refine CT.of (by first | exact plainFor_of_name (by rfl) | decide +kernel) (Nat.le_of_ble_eq_true rfl) ?_
  intro G hG
  show G (0, 0) 0 [(0, rf Γ 0 0), (1, nt i), (2, nt d), (3, nt e)] [] _
  refine r_aload_n hG (hl0 := rfl) (hd := d_Ward_round_0) (K := ?_)
  refine r_iload_n hG (hl0 := rfl) (hd := d_Ward_round_1) (K := ?_)
  refine cVx hG w_Ward_126 d_Ward_round_2 (ct_lorryAt hnl hnl3 hi) (by decide) (by decide) rc_0 rfl rfl ⟨(Nat.le_of_ble_eq_true rfl), (Nat.le_of_ble_eq_true rfl)⟩ ⟨(Nat.le_of_ble_eq_true rfl), (Nat.le_of_ble_eq_true rfl)⟩ (Nat.le_of_ble_eq_true rfl) ?_
  refine r_astore hG (hd := d_Ward_round_5) (K := ?_)
  refine r_iload_n hG (hl0 := rfl) (hd := d_Ward_round_7) (K := ?_)
  refine r_bipush hG (hd := d_Ward_round_8) (K := ?_)
  refine cSv hG w_Ward_107 d_Ward_round_10 (ct_ckI (by omega) (by omega)) rfl rfl ⟨(Nat.le_of_ble_eq_true rfl), (Nat.le_of_ble_eq_true rfl)⟩ ⟨(Nat.le_of_ble_eq_true rfl), (Nat.le_of_ble_eq_true rfl)⟩ (Nat.le_of_ble_eq_true rfl) ?_
  refine r_iload_n hG (hl0 := rfl) (hd := d_Ward_round_13) (K := ?_)
  refine r_aload_n hG (hl0 := rfl) (hd := d_Ward_round_14) (K := ?_)
  refine g_Ward_86 hG (hd := d_Ward_round_15) (K := ?_)
  refine cSv hG w_Ward_107 d_Ward_round_18 (ct_ckI (by omega) (by omega)) rfl rfl ⟨(Nat.le_of_ble_eq_true rfl), (Nat.le_of_ble_eq_true rfl)⟩ ⟨(Nat.le_of_ble_eq_true rfl), (Nat.le_of_ble_eq_true rfl)⟩ (Nat.le_of_ble_eq_true rfl) ?_
  refine r_aload hG (hl0 := rfl) (hd := d_Ward_round_21) (K := ?_)
  refine r_iload_n hG (hl0 := rfl) (hd := d_Ward_round_23) (K := ?_)
  refine r_iload_n hG (hl0 := rfl) (hd := d_Ward_round_24) (K := ?_)
  refine cVx hG w_Ward_130 d_Ward_round_25 (ct_comesTo_no (by omega) hd (by omega) (by omega) hl hr hno) (by decide) (by show _ < 3; omega) rc_20 rfl rfl ⟨(Nat.le_of_ble_eq_true rfl), (Nat.le_of_ble_eq_true rfl)⟩ ⟨(Nat.le_of_ble_eq_true rfl), (Nat.le_of_ble_eq_true rfl)⟩ (Nat.le_of_ble_eq_true rfl) ?_
  refine r_if_eq hG (hd := d_Ward_round_28) (kt := fun _ => ?_) (kf := fun hh => absurd hh (by omega))
  refine r_aload hG (hl0 := rfl) (hd := d_Ward_round_41) (K := ?_)
  refine r_iload_n hG (hl0 := rfl) (hd := d_Ward_round_43) (K := ?_)
  refine r_iload_n hG (hl0 := rfl) (hd := d_Ward_round_44) (K := ?_)
  refine cVv hG w_Ward_136 d_Ward_round_45 (ct_addToRound (by omega) hd hn hl) (by decide) (by show _ < 3; omega) rc_20 rfl rfl ⟨(Nat.le_of_ble_eq_true rfl), (Nat.le_of_ble_eq_true rfl)⟩ ⟨(Nat.le_of_ble_eq_true rfl), (Nat.le_of_ble_eq_true rfl)⟩ (Nat.le_of_ble_eq_true rfl) ?_
  refine r_aload hG (hl0 := rfl) (hd := d_Ward_round_48) (K := ?_)
  refine g_Ward_139 hG (hi := by omega) (hd := d_Ward_round_50) (K := ?_)
  refine r_iload_n hG (hl0 := rfl) (hd := d_Ward_round_53) (K := ?_)
  first | refine a_16 hG (hd := d_Ward_round_54) (hz := rfl) (hj := by omega) (hi := by omega) (K := ?_) | refine a_17 hG (hd := d_Ward_round_54) (hz := rfl) (hj := by omega) (hi := by omega) (K := ?_) | refine a_18 hG (hd := d_Ward_round_54) (hz := rfl) (hj := by omega) (hi := by omega) (K := ?_) | refine a_19 hG (hd := d_Ward_round_54) (hz := rfl) (hj := by omega) (hi := by omega) (K := ?_) | refine a_4 hG (hd := d_Ward_round_54) (hz := rfl) (hj := by omega) (hi := by omega) (K := ?_) | refine a_5 hG (hd := d_Ward_round_54) (hz := rfl) (hj := by omega) (hi := by omega) (K := ?_) | refine a_21 hG (hd := d_Ward_round_54) (hz := rfl) (hj := by omega) (hi := by omega) (K := ?_) | refine a_23 hG (hd := d_Ward_round_54) (hz := rfl) (hj := by omega) (hi := by omega) (K := ?_) | refine a_24 hG (hd := d_Ward_round_54) (hz := rfl) (hj := by omega) (hi := by omega) (K := ?_)
  refine r_iret hG d_Ward_round_55 ⟨(Nat.le_of_ble_eq_true rfl), (Nat.le_of_ble_eq_true rfl)⟩ ?_
  exact ⟨by rw [addR, sU_eq]; rfl, rfl⟩
theorem ct_clear {Γ : Gm} {S : St} {nl i d : Nat} (hnl : S 1 0 0 = (nl : Int)) (hnl3 : nl ≤ 3) (hi : i < nl) (hd : d < 7) : CT Γ y_Ward_clear b_Ward_clear 5 ((some FieldType.int)) (rmx 3 0 0) [rf Γ 0 0, nt i, nt d] S (dX (some (nt (S 26 i d))) (sU S 26 i d 0)) := by
  refine CT.of (by first | exact plainFor_of_name (by rfl) | decide +kernel) (Nat.le_of_ble_eq_true rfl) ?_
  intro G hG
  show G (0, 0) 0 [(0, rf Γ 0 0), (1, nt i), (2, nt d)] [] _
  refine r_aload_n hG (hl0 := rfl) (hd := d_Ward_clear_0) (K := ?_)
  refine r_iload_n hG (hl0 := rfl) (hd := d_Ward_clear_1) (K := ?_)
  refine cVx hG w_Ward_126 d_Ward_clear_2 (ct_lorryAt hnl hnl3 hi) (by decide) (by decide) rc_0 rfl rfl ⟨(Nat.le_of_ble_eq_true rfl), (Nat.le_of_ble_eq_true rfl)⟩ ⟨(Nat.le_of_ble_eq_true rfl), (Nat.le_of_ble_eq_true rfl)⟩ (Nat.le_of_ble_eq_true rfl) ?_
  refine r_astore_n hG (hd := d_Ward_clear_5) (K := ?_)
  refine r_iload_n hG (hl0 := rfl) (hd := d_Ward_clear_6) (K := ?_)
  refine r_bipush hG (hd := d_Ward_clear_7) (K := ?_)
  refine cSv hG w_Ward_107 d_Ward_clear_9 (ct_ckI (by omega) (by omega)) rfl rfl ⟨(Nat.le_of_ble_eq_true rfl), (Nat.le_of_ble_eq_true rfl)⟩ ⟨(Nat.le_of_ble_eq_true rfl), (Nat.le_of_ble_eq_true rfl)⟩ (Nat.le_of_ble_eq_true rfl) ?_
  refine r_aload_n hG (hl0 := rfl) (hd := d_Ward_clear_12) (K := ?_)
  refine g_Ward_139 hG (hi := by omega) (hd := d_Ward_clear_13) (K := ?_)
  refine r_iload_n hG (hl0 := rfl) (hd := d_Ward_clear_16) (K := ?_)
  first | refine a_16 hG (hd := d_Ward_clear_17) (hz := rfl) (hj := by omega) (hi := by omega) (K := ?_) | refine a_17 hG (hd := d_Ward_clear_17) (hz := rfl) (hj := by omega) (hi := by omega) (K := ?_) | refine a_18 hG (hd := d_Ward_clear_17) (hz := rfl) (hj := by omega) (hi := by omega) (K := ?_) | refine a_19 hG (hd := d_Ward_clear_17) (hz := rfl) (hj := by omega) (hi := by omega) (K := ?_) | refine a_4 hG (hd := d_Ward_clear_17) (hz := rfl) (hj := by omega) (hi := by omega) (K := ?_) | refine a_5 hG (hd := d_Ward_clear_17) (hz := rfl) (hj := by omega) (hi := by omega) (K := ?_) | refine a_21 hG (hd := d_Ward_clear_17) (hz := rfl) (hj := by omega) (hi := by omega) (K := ?_) | refine a_23 hG (hd := d_Ward_clear_17) (hz := rfl) (hj := by omega) (hi := by omega) (K := ?_) | refine a_24 hG (hd := d_Ward_clear_17) (hz := rfl) (hj := by omega) (hi := by omega) (K := ?_)
  refine r_istore hG (hd := d_Ward_clear_18) (K := ?_)
  refine r_aload_n hG (hl0 := rfl) (hd := d_Ward_clear_20) (K := ?_)
  refine g_Ward_139 hG (hi := by omega) (hd := d_Ward_clear_21) (K := ?_)
  refine r_iload_n hG (hl0 := rfl) (hd := d_Ward_clear_24) (K := ?_)
  refine r_iconst hG (hd := d_Ward_clear_25) (K := ?_)
  first | refine s_16 hG (hd := d_Ward_clear_26) (hz := rfl) (hj := by omega) (hi := by omega) (K := ?_) | refine s_17 hG (hd := d_Ward_clear_26) (hz := rfl) (hj := by omega) (hi := by omega) (K := ?_) | refine s_18 hG (hd := d_Ward_clear_26) (hz := rfl) (hj := by omega) (hi := by omega) (K := ?_) | refine s_19 hG (hd := d_Ward_clear_26) (hz := rfl) (hj := by omega) (hi := by omega) (K := ?_) | refine s_4 hG (hd := d_Ward_clear_26) (hz := rfl) (hj := by omega) (hi := by omega) (K := ?_) | refine s_5 hG (hd := d_Ward_clear_26) (hz := rfl) (hj := by omega) (hi := by omega) (K := ?_) | refine s_21 hG (hd := d_Ward_clear_26) (hz := rfl) (hj := by omega) (hi := by omega) (K := ?_) | refine s_23 hG (hd := d_Ward_clear_26) (hz := rfl) (hj := by omega) (hi := by omega) (K := ?_) | refine s_24 hG (hd := d_Ward_clear_26) (hz := rfl) (hj := by omega) (hi := by omega) (K := ?_)
  refine r_iload hG (hl0 := rfl) (hd := d_Ward_clear_27) (K := ?_)
  refine r_iret hG d_Ward_clear_29 ⟨(Nat.le_of_ble_eq_true rfl), (Nat.le_of_ble_eq_true rfl)⟩ ?_
  exact ⟨rfl, rfl⟩
theorem ct_eye {Γ : Gm} {S : St} {z : Int} (hz : 0 ≤ z ∧ z ≤ 100) : CT Γ y_Ward_eye b_Ward_eye 3 ((some FieldType.int)) (rmx 2 0 0) [rf Γ 0 0, nt z] S (dX (some (nt (S 45 0 0))) (sU S 45 0 0 z)) := by
  refine CT.of (by first | exact plainFor_of_name (by rfl) | decide +kernel) (Nat.le_of_ble_eq_true rfl) ?_
  intro G hG
  show G (0, 0) 0 [(0, rf Γ 0 0), (1, nt z)] [] _
  refine r_iload_n hG (hl0 := rfl) (hd := d_Ward_eye_0) (K := ?_)
  refine r_iconst hG (hd := d_Ward_eye_1) (K := ?_)
  refine r_bipush hG (hd := d_Ward_eye_2) (K := ?_)
  refine cSv hG w_Ward_82 d_Ward_eye_4 (ct_ckV hz (by omega)) rfl rfl ⟨(Nat.le_of_ble_eq_true rfl), (Nat.le_of_ble_eq_true rfl)⟩ ⟨(Nat.le_of_ble_eq_true rfl), (Nat.le_of_ble_eq_true rfl)⟩ (Nat.le_of_ble_eq_true rfl) ?_
  refine r_aload_n hG (hl0 := rfl) (hd := d_Ward_eye_7) (K := ?_)
  refine g_Ward_48 hG (hd := d_Ward_eye_8) (K := ?_)
  refine g_Ward_142 hG (hd := d_Ward_eye_11) (K := ?_)
  refine r_istore_n hG (hd := d_Ward_eye_14) (K := ?_)
  refine r_aload_n hG (hl0 := rfl) (hd := d_Ward_eye_15) (K := ?_)
  refine g_Ward_48 hG (hd := d_Ward_eye_16) (K := ?_)
  refine r_iload_n hG (hl0 := rfl) (hd := d_Ward_eye_19) (K := ?_)
  refine p_Ward_142 hG (hd := d_Ward_eye_20) (K := ?_)
  refine r_iload_n hG (hl0 := rfl) (hd := d_Ward_eye_23) (K := ?_)
  refine r_iret hG d_Ward_eye_24 ⟨(Nat.le_of_ble_eq_true rfl), (Nat.le_of_ble_eq_true rfl)⟩ ?_
  exact ⟨rfl, rfl⟩
theorem ct_hand {Γ : Gm} {S : St} {z : Int} (hz : 0 ≤ z ∧ z ≤ 50) : CT Γ y_Ward_hand b_Ward_hand 3 ((some FieldType.int)) (rmx 2 0 0) [rf Γ 0 0, nt z] S (dX (some (nt (S 46 0 0))) (sU S 46 0 0 z)) := by
  refine CT.of (by first | exact plainFor_of_name (by rfl) | decide +kernel) (Nat.le_of_ble_eq_true rfl) ?_
  intro G hG
  show G (0, 0) 0 [(0, rf Γ 0 0), (1, nt z)] [] _
  refine r_iload_n hG (hl0 := rfl) (hd := d_Ward_hand_0) (K := ?_)
  refine r_iconst hG (hd := d_Ward_hand_1) (K := ?_)
  refine r_bipush hG (hd := d_Ward_hand_2) (K := ?_)
  refine cSv hG w_Ward_82 d_Ward_hand_4 (ct_ckV hz (by omega)) rfl rfl ⟨(Nat.le_of_ble_eq_true rfl), (Nat.le_of_ble_eq_true rfl)⟩ ⟨(Nat.le_of_ble_eq_true rfl), (Nat.le_of_ble_eq_true rfl)⟩ (Nat.le_of_ble_eq_true rfl) ?_
  refine r_aload_n hG (hl0 := rfl) (hd := d_Ward_hand_7) (K := ?_)
  refine g_Ward_48 hG (hd := d_Ward_hand_8) (K := ?_)
  refine g_Ward_145 hG (hd := d_Ward_hand_11) (K := ?_)
  refine r_istore_n hG (hd := d_Ward_hand_14) (K := ?_)
  refine r_aload_n hG (hl0 := rfl) (hd := d_Ward_hand_15) (K := ?_)
  refine g_Ward_48 hG (hd := d_Ward_hand_16) (K := ?_)
  refine r_iload_n hG (hl0 := rfl) (hd := d_Ward_hand_19) (K := ?_)
  refine p_Ward_145 hG (hd := d_Ward_hand_20) (K := ?_)
  refine r_iload_n hG (hl0 := rfl) (hd := d_Ward_hand_23) (K := ?_)
  refine r_iret hG d_Ward_hand_24 ⟨(Nat.le_of_ble_eq_true rfl), (Nat.le_of_ble_eq_true rfl)⟩ ?_
  exact ⟨rfl, rfl⟩
theorem ct_oven {Γ : Gm} {S : St} {z : Int} (hz : 0 ≤ z ∧ z ≤ 200) : CT Γ y_Ward_oven b_Ward_oven 3 ((some FieldType.int)) (rmx 2 0 0) [rf Γ 0 0, nt z] S (dX (some (nt (S 60 0 0))) (sU S 60 0 0 z)) := by
  refine CT.of (by first | exact plainFor_of_name (by rfl) | decide +kernel) (Nat.le_of_ble_eq_true rfl) ?_
  intro G hG
  show G (0, 0) 0 [(0, rf Γ 0 0), (1, nt z)] [] _
  refine r_iload_n hG (hl0 := rfl) (hd := d_Ward_oven_0) (K := ?_)
  refine r_iconst hG (hd := d_Ward_oven_1) (K := ?_)
  refine r_sipush hG (hd := d_Ward_oven_2) (K := ?_)
  refine cSv hG w_Ward_82 d_Ward_oven_5 (ct_ckV hz (by omega)) rfl rfl ⟨(Nat.le_of_ble_eq_true rfl), (Nat.le_of_ble_eq_true rfl)⟩ ⟨(Nat.le_of_ble_eq_true rfl), (Nat.le_of_ble_eq_true rfl)⟩ (Nat.le_of_ble_eq_true rfl) ?_
  refine r_aload_n hG (hl0 := rfl) (hd := d_Ward_oven_8) (K := ?_)
  refine g_Ward_62 hG (hd := d_Ward_oven_9) (K := ?_)
  refine g_Ward_148 hG (hd := d_Ward_oven_12) (K := ?_)
  refine r_istore_n hG (hd := d_Ward_oven_15) (K := ?_)
  refine r_aload_n hG (hl0 := rfl) (hd := d_Ward_oven_16) (K := ?_)
  refine g_Ward_62 hG (hd := d_Ward_oven_17) (K := ?_)
  refine r_iload_n hG (hl0 := rfl) (hd := d_Ward_oven_20) (K := ?_)
  refine p_Ward_148 hG (hd := d_Ward_oven_21) (K := ?_)
  refine r_iload_n hG (hl0 := rfl) (hd := d_Ward_oven_24) (K := ?_)
  refine r_iret hG d_Ward_oven_25 ⟨(Nat.le_of_ble_eq_true rfl), (Nat.le_of_ble_eq_true rfl)⟩ ?_
  exact ⟨rfl, rfl⟩
def sellS (S : St) (b : Nat) (lim pr : Int) : St := if S 56 b 0 ≤ lim then sU (sU S 57 b 0 1) 3 0 0 (S 3 0 0 + pr) else sU (sU S 57 b 0 2) 3 0 0 (S 3 0 0 + -15)
theorem ct_sell {Γ : Gm} {S : St} {n b : Nat} {lim pr : Int} (hn : S 52 0 0 = (n : Int)) (hn20 : n ≤ 20) (hb : b < n) (hl : 0 ≤ lim ∧ lim ≤ 40) (hp : 1 ≤ pr ∧ pr ≤ 99) (hs : S 57 b 0 = 0) (hd : 0 ≤ S 56 b 0 ∧ S 56 b 0 ≤ 100) : CT Γ y_Ward_sell b_Ward_sell 6 ((some FieldType.boolean)) (rmx 3 0 0) [rf Γ 0 0, nt b, nt lim, nt pr] S (dX (some (nt (if S 56 b 0 ≤ lim then 1 else 0))) (sellS S b lim pr)) := by
  unfold sellS
  refine CT.of (by first | exact plainFor_of_name (by rfl) | decide +kernel) (Nat.le_of_ble_eq_true rfl) ?_
  intro G hG
  show G (0, 0) 0 [(0, rf Γ 0 0), (1, nt b), (2, nt lim), (3, nt pr)] [] _
  refine r_aload_n hG (hl0 := rfl) (hd := d_Ward_sell_0) (K := ?_)
  refine r_iload_n hG (hl0 := rfl) (hd := d_Ward_sell_1) (K := ?_)
  refine cVx hG w_Ward_155 d_Ward_sell_2 (ct_baleAt hn hn20 hb) (by decide) (by decide) rc_0 rfl rfl ⟨(Nat.le_of_ble_eq_true rfl), (Nat.le_of_ble_eq_true rfl)⟩ ⟨(Nat.le_of_ble_eq_true rfl), (Nat.le_of_ble_eq_true rfl)⟩ (Nat.le_of_ble_eq_true rfl) ?_
  refine r_astore hG (hd := d_Ward_sell_5) (K := ?_)
  refine r_iload_n hG (hl0 := rfl) (hd := d_Ward_sell_7) (K := ?_)
  refine r_iconst hG (hd := d_Ward_sell_8) (K := ?_)
  refine r_bipush hG (hd := d_Ward_sell_9) (K := ?_)
  refine cSv hG w_Ward_82 d_Ward_sell_11 (ct_ckV hl (by omega)) rfl rfl ⟨(Nat.le_of_ble_eq_true rfl), (Nat.le_of_ble_eq_true rfl)⟩ ⟨(Nat.le_of_ble_eq_true rfl), (Nat.le_of_ble_eq_true rfl)⟩ (Nat.le_of_ble_eq_true rfl) ?_
  refine r_iload_n hG (hl0 := rfl) (hd := d_Ward_sell_14) (K := ?_)
  refine r_iconst hG (hd := d_Ward_sell_15) (K := ?_)
  refine r_bipush hG (hd := d_Ward_sell_16) (K := ?_)
  refine cSv hG w_Ward_82 d_Ward_sell_18 (ct_ckV hp (by omega)) rfl rfl ⟨(Nat.le_of_ble_eq_true rfl), (Nat.le_of_ble_eq_true rfl)⟩ ⟨(Nat.le_of_ble_eq_true rfl), (Nat.le_of_ble_eq_true rfl)⟩ (Nat.le_of_ble_eq_true rfl) ?_
  refine r_aload hG (hl0 := rfl) (hd := d_Ward_sell_21) (K := ?_)
  refine g_Ward_159 hG (hi := by omega) (hd := d_Ward_sell_23) (K := ?_)
  refine r_if_eq hG (hd := d_Ward_sell_26) (kt := fun _ => ?_) (kf := fun hh => absurd hh (by omega))
  refine r_aload hG (hl0 := rfl) (hd := d_Ward_sell_39) (K := ?_)
  refine g_Ward_166 hG (hi := by omega) (hd := d_Ward_sell_41) (K := ?_)
  refine r_iload_n hG (hl0 := rfl) (hd := d_Ward_sell_44) (K := ?_)
  refine r_icmp_gt hG (hd := d_Ward_sell_45) (kt := fun h => ?_) (kf := fun h => ?_)
  · refine r_iconst hG (hd := d_Ward_sell_52) (K := ?_)
    refine r_istore hG (hd := d_Ward_sell_53) (K := ?_)
    refine r_aload hG (hl0 := rfl) (hd := d_Ward_sell_55) (K := ?_)
    refine r_iload hG (hl0 := rfl) (hd := d_Ward_sell_57) (K := ?_)
    refine r_if_eq hG (hd := d_Ward_sell_59) (kt := fun _ => ?_) (kf := fun hh => absurd hh (by omega))
    refine r_iconst hG (hd := d_Ward_sell_66) (K := ?_)
    refine p_Ward_159 hG (hi := by omega) (hd := d_Ward_sell_67) (K := ?_)
    refine r_aload_n hG (hl0 := rfl) (hd := d_Ward_sell_70) (K := ?_)
    refine r_dup hG (hd := d_Ward_sell_71) (K := ?_)
    refine g_Ward_169 hG (hd := d_Ward_sell_72) (K := ?_)
    refine r_iload hG (hl0 := rfl) (hd := d_Ward_sell_75) (K := ?_)
    refine r_if_eq hG (hd := d_Ward_sell_77) (kt := fun _ => ?_) (kf := fun hh => absurd hh (by omega))
    refine r_bipush hG (hd := d_Ward_sell_84) (K := ?_)
    first | refine r_iadd hG (hd := d_Ward_sell_86) (K := ?_) | refine r_iaddr hG (hd := d_Ward_sell_86) (K := ?_)
    refine p_Ward_169 hG (hd := d_Ward_sell_87) (K := ?_)
    refine r_iload hG (hl0 := rfl) (hd := d_Ward_sell_90) (K := ?_)
    refine r_zret hG d_Ward_sell_92 ⟨(Nat.le_of_ble_eq_true rfl), (Nat.le_of_ble_eq_true rfl)⟩ (by first | exact Or.inl rfl | exact Or.inr rfl | omega) ?_
    exact ⟨by rw [if_neg (by omega)], by rw [if_neg (by omega), sU_nf (by decide)]⟩
  · refine r_iconst hG (hd := d_Ward_sell_48) (K := ?_)
    refine r_goto hG (hd := d_Ward_sell_49) (K := ?_)
    refine r_istore hG (hd := d_Ward_sell_53) (K := ?_)
    refine r_aload hG (hl0 := rfl) (hd := d_Ward_sell_55) (K := ?_)
    refine r_iload hG (hl0 := rfl) (hd := d_Ward_sell_57) (K := ?_)
    refine r_if_eq hG (hd := d_Ward_sell_59) (kt := fun hh => absurd hh (by omega)) (kf := fun _ => ?_)
    refine r_iconst hG (hd := d_Ward_sell_62) (K := ?_)
    refine r_goto hG (hd := d_Ward_sell_63) (K := ?_)
    refine p_Ward_159 hG (hi := by omega) (hd := d_Ward_sell_67) (K := ?_)
    refine r_aload_n hG (hl0 := rfl) (hd := d_Ward_sell_70) (K := ?_)
    refine r_dup hG (hd := d_Ward_sell_71) (K := ?_)
    refine g_Ward_169 hG (hd := d_Ward_sell_72) (K := ?_)
    refine r_iload hG (hl0 := rfl) (hd := d_Ward_sell_75) (K := ?_)
    refine r_if_eq hG (hd := d_Ward_sell_77) (kt := fun hh => absurd hh (by omega)) (kf := fun _ => ?_)
    refine r_iload_n hG (hl0 := rfl) (hd := d_Ward_sell_80) (K := ?_)
    refine r_goto hG (hd := d_Ward_sell_81) (K := ?_)
    first | refine r_iadd hG (hd := d_Ward_sell_86) (K := ?_) | refine r_iaddr hG (hd := d_Ward_sell_86) (K := ?_)
    refine p_Ward_169 hG (hd := d_Ward_sell_87) (K := ?_)
    refine r_iload hG (hl0 := rfl) (hd := d_Ward_sell_90) (K := ?_)
    refine r_zret hG d_Ward_sell_92 ⟨(Nat.le_of_ble_eq_true rfl), (Nat.le_of_ble_eq_true rfl)⟩ (by first | exact Or.inl rfl | exact Or.inr rfl | omega) ?_
    exact ⟨by rw [if_pos (by omega)], by rw [if_pos (by omega), sU_nf (by decide)]⟩
theorem ct_opn {Γ : Gm} {S : St} {n b : Nat} (hn : S 52 0 0 = (n : Int)) (hn20 : n ≤ 20) (hb : b < n) (hs : S 57 b 0 = 2) : CT Γ y_Ward_opn b_Ward_opn 3 ((some FieldType.int)) (rmx 3 0 0) [rf Γ 0 0, nt b] S (dX (some (nt (unpF S b 50 0 0 + unpF S b 51 0 0))) (unpF S b)) := by
  refine CT.of (by first | exact plainFor_of_name (by rfl) | decide +kernel) (Nat.le_of_ble_eq_true rfl) ?_
  intro G hG
  show G (0, 0) 0 [(0, rf Γ 0 0), (1, nt b)] [] _
  refine r_aload_n hG (hl0 := rfl) (hd := d_Ward_opn_0) (K := ?_)
  refine r_iload_n hG (hl0 := rfl) (hd := d_Ward_opn_1) (K := ?_)
  refine cVx hG w_Ward_155 d_Ward_opn_2 (ct_baleAt hn hn20 hb) (by decide) (by decide) rc_0 rfl rfl ⟨(Nat.le_of_ble_eq_true rfl), (Nat.le_of_ble_eq_true rfl)⟩ ⟨(Nat.le_of_ble_eq_true rfl), (Nat.le_of_ble_eq_true rfl)⟩ (Nat.le_of_ble_eq_true rfl) ?_
  refine r_astore_n hG (hd := d_Ward_opn_5) (K := ?_)
  refine r_aload_n hG (hl0 := rfl) (hd := d_Ward_opn_6) (K := ?_)
  refine g_Ward_159 hG (hi := by omega) (hd := d_Ward_opn_7) (K := ?_)
  refine r_iconst hG (hd := d_Ward_opn_10) (K := ?_)
  refine r_icmp_eq hG (hd := d_Ward_opn_11) (kt := fun _ => ?_) (kf := fun hh => absurd hh (by omega))
  refine r_aload_n hG (hl0 := rfl) (hd := d_Ward_opn_24) (K := ?_)
  refine g_Ward_55 hG (hd := d_Ward_opn_25) (K := ?_)
  refine r_aload_n hG (hl0 := rfl) (hd := d_Ward_opn_28) (K := ?_)
  refine cVv hG w_Ward_174 d_Ward_opn_29 (ct_unpack (by omega)) (by decide) (by decide) rc_9 rfl rfl ⟨(Nat.le_of_ble_eq_true rfl), (Nat.le_of_ble_eq_true rfl)⟩ ⟨(Nat.le_of_ble_eq_true rfl), (Nat.le_of_ble_eq_true rfl)⟩ (Nat.le_of_ble_eq_true rfl) ?_
  refine r_aload_n hG (hl0 := rfl) (hd := d_Ward_opn_32) (K := ?_)
  refine g_Ward_55 hG (hd := d_Ward_opn_33) (K := ?_)
  refine cVx hG w_Ward_178 d_Ward_opn_36 (ct_bkilos) (by decide) (by decide) rc_9 rfl rfl ⟨(Nat.le_of_ble_eq_true rfl), (Nat.le_of_ble_eq_true rfl)⟩ ⟨(Nat.le_of_ble_eq_true rfl), (Nat.le_of_ble_eq_true rfl)⟩ (Nat.le_of_ble_eq_true rfl) ?_
  refine r_iret hG d_Ward_opn_39 ⟨(Nat.le_of_ble_eq_true rfl), (Nat.le_of_ble_eq_true rfl)⟩ ?_
  exact ⟨rfl, rfl⟩
def sweepS (S : St) (k : Nat) : St := pitIn (sU S 12 (2 * k) 0 0) (S 12 (2 * k) 0) (S 12 (2 * k) 0 / 2)
theorem ct_sweep {Γ : Gm} {S : St} {n k : Nat} (hn : S 0 0 0 = (n : Int)) (hn6 : n ≤ 6) (hk : k < n) (hl : 0 ≤ S 12 (2 * k) 0 ∧ S 12 (2 * k) 0 < 1000000000) : CT Γ y_Ward_sweep b_Ward_sweep 4 ((some FieldType.int)) (rmx 3 0 0) [rf Γ 0 0, nt k] S (dX (some (nt (S 12 (2 * k) 0))) (sweepS S k)) := by
  refine CT.of (by first | exact plainFor_of_name (by rfl) | decide +kernel) (Nat.le_of_ble_eq_true rfl) ?_
  intro G hG
  show G (0, 0) 0 [(0, rf Γ 0 0), (1, nt k)] [] _
  refine r_aload_n hG (hl0 := rfl) (hd := d_Ward_sweep_0) (K := ?_)
  refine r_iload_n hG (hl0 := rfl) (hd := d_Ward_sweep_1) (K := ?_)
  refine cVx hG w_Ward_103 d_Ward_sweep_2 (ct_streetAt hn hn6 hk) (by decide) (by decide) rc_0 rfl rfl ⟨(Nat.le_of_ble_eq_true rfl), (Nat.le_of_ble_eq_true rfl)⟩ ⟨(Nat.le_of_ble_eq_true rfl), (Nat.le_of_ble_eq_true rfl)⟩ (Nat.le_of_ble_eq_true rfl) ?_
  refine r_astore_n hG (hd := d_Ward_sweep_5) (K := ?_)
  refine r_aload_n hG (hl0 := rfl) (hd := d_Ward_sweep_6) (K := ?_)
  refine g_Ward_181 hG (hi := by omega) (hd := d_Ward_sweep_7) (K := ?_)
  refine r_istore_n hG (hd := d_Ward_sweep_10) (K := ?_)
  refine r_aload_n hG (hl0 := rfl) (hd := d_Ward_sweep_11) (K := ?_)
  refine r_iconst hG (hd := d_Ward_sweep_12) (K := ?_)
  refine p_Ward_181 hG (hi := by omega) (hd := d_Ward_sweep_13) (K := ?_)
  refine r_aload_n hG (hl0 := rfl) (hd := d_Ward_sweep_16) (K := ?_)
  refine g_Ward_76 hG (hd := d_Ward_sweep_17) (K := ?_)
  refine r_iload_n hG (hl0 := rfl) (hd := d_Ward_sweep_20) (K := ?_)
  refine r_iload_n hG (hl0 := rfl) (hd := d_Ward_sweep_21) (K := ?_)
  refine r_iconst hG (hd := d_Ward_sweep_22) (K := ?_)
  refine r_idiv hG (hr0 := by first | omega | (simp [sU]; omega)) (hd := d_Ward_sweep_23) (K := ?_)
  refine cVv hG w_Ward_184 d_Ward_sweep_24 (ct_pitIn (by omega)) (by decide) (by decide) rc_14 rfl rfl ⟨(Nat.le_of_ble_eq_true rfl), (Nat.le_of_ble_eq_true rfl)⟩ ⟨(Nat.le_of_ble_eq_true rfl), (Nat.le_of_ble_eq_true rfl)⟩ (Nat.le_of_ble_eq_true rfl) ?_
  refine r_iload_n hG (hl0 := rfl) (hd := d_Ward_sweep_27) (K := ?_)
  refine r_iret hG d_Ward_sweep_28 ⟨(Nat.le_of_ble_eq_true rfl), (Nat.le_of_ble_eq_true rfl)⟩ ?_
  exact ⟨rfl, rfl⟩
