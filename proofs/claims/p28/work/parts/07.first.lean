/-! contracts whose end is one: the value and the state -/
abbrev dX (v0 : Option Value) (S1 : St) : Option Value → St → Prop := fun v S' => v = v0 ∧ S' = S1
section CD
variable {Γ : Gm} {R : Room} {cc : ByteArray} {nL : Nat} {own : String} {ret : Option FieldType} {post : Option Value → St → Prop} {mc ms : Nat} {G : Nat × Nat → Nat → List (Nat × Value) → List Value → St → Prop} {cs : Nat × Nat} {pc n : Nat} {ls : List (Nat × Value)} {st stk : List Value} {S S1 : St}
theorem cVx (hG : IsG Γ R cc nL own ret post mc ms G) {idx na nY k i kk : Nat} {y : MethodName} {bts : ByteArray} {rY : Option FieldType} {As : List Value} {v0 : Value} (hw : kwV own idx y bts nY rY na) (hd : Dc cc pc (.invokevirtual idx) 3 n) (hc : CT Γ y bts nY rY (rmx kk 0 0) (rf Γ k i :: As) S (dX (some v0) S1))
(hk : k < 25) (hi : i < cnt k) (hcl : rcv k y.cls) (hs : stk = As.reverse ++ rf Γ k i :: st) (hna : As.length = na) (hR : kk + 1 ≤ R.frames ∧ 8 + (nY + 11) + 30 * kk ≤ R.locals) (hf : cs.1 ≤ R.cells ∧ cs.2 ≤ R.slots) (hst : (st.map fun v => v.category).sum ≤ 8)
(K : G cs n ls (v0 :: st) S1) : G cs pc ls stk S :=
cV hG hw hd hc hk hi hcl hs hna hR hf hst (fun v S' hp => by obtain ⟨rfl, rfl⟩ := hp; exact K)
theorem cVv (hG : IsG Γ R cc nL own ret post mc ms G) {idx na nY k i kk : Nat} {y : MethodName} {bts : ByteArray} {rY : Option FieldType} {As : List Value} (hw : kwV own idx y bts nY rY na) (hd : Dc cc pc (.invokevirtual idx) 3 n) (hc : CT Γ y bts nY rY (rmx kk 0 0) (rf Γ k i :: As) S (dX none S1))
(hk : k < 25) (hi : i < cnt k) (hcl : rcv k y.cls) (hs : stk = As.reverse ++ rf Γ k i :: st) (hna : As.length = na) (hR : kk + 1 ≤ R.frames ∧ 8 + (nY + 11) + 30 * kk ≤ R.locals) (hf : cs.1 ≤ R.cells ∧ cs.2 ≤ R.slots) (hst : (st.map fun v => v.category).sum ≤ 8)
(K : G cs n ls st S1) : G cs pc ls stk S :=
cV hG hw hd hc hk hi hcl hs hna hR hf hst (fun v S' hp => by obtain ⟨rfl, rfl⟩ := hp; exact K)
theorem cSx (hG : IsG Γ R cc nL own ret post mc ms G) {idx na nY kk : Nat} {y : MethodName} {bts : ByteArray} {rY : Option FieldType} {As : List Value} {v0 : Value} (hw : kwS own idx y bts nY rY na) (hd : Dc cc pc (.invokestatic idx) 3 n) (hc : CT Γ y bts nY rY (rmx kk 0 0) As S (dX (some v0) S1))
(hs : stk = As.reverse ++ st) (hna : As.length = na) (hR : kk + 1 ≤ R.frames ∧ 8 + (nY + 11) + 30 * kk ≤ R.locals) (hf : cs.1 ≤ R.cells ∧ cs.2 ≤ R.slots) (hst : (st.map fun v => v.category).sum ≤ 8)
(K : G cs n ls (v0 :: st) S1) : G cs pc ls stk S :=
cS hG hw hd hc hs hna hR hf hst (fun v S' hp => by obtain ⟨rfl, rfl⟩ := hp; exact K)
theorem cSv (hG : IsG Γ R cc nL own ret post mc ms G) {idx na nY kk : Nat} {y : MethodName} {bts : ByteArray} {rY : Option FieldType} {As : List Value} (hw : kwS own idx y bts nY rY na) (hd : Dc cc pc (.invokestatic idx) 3 n) (hc : CT Γ y bts nY rY (rmx kk 0 0) As S (dX none S1))
(hs : stk = As.reverse ++ st) (hna : As.length = na) (hR : kk + 1 ≤ R.frames ∧ 8 + (nY + 11) + 30 * kk ≤ R.locals) (hf : cs.1 ≤ R.cells ∧ cs.2 ≤ R.slots) (hst : (st.map fun v => v.category).sum ≤ 8)
(K : G cs n ls st S1) : G cs pc ls stk S :=
cS hG hw hd hc hs hna hR hf hst (fun v S' hp => by obtain ⟨rfl, rfl⟩ := hp; exact K)
theorem cNx (hG : IsG Γ R cc nL own ret post mc ms G) {idx na nY kk : Nat} {host : String} {y : MethodName} {bts : ByteArray} {rY : Option FieldType} {As : List Value} {v0 : Value} (hw : kwN own idx y host bts nY rY na) (hd : Dc cc pc (.invokestatic idx) 3 n) (hc : CT Γ y bts nY rY (rmx kk 0 0) As S (dX (some v0) S1))
(hs : stk = As.reverse ++ st) (hna : As.length = na) (hR : kk + 1 ≤ R.frames ∧ 8 + (nY + 11) + 30 * kk ≤ R.locals) (hf : cs.1 ≤ R.cells ∧ cs.2 ≤ R.slots) (hst : (st.map fun v => v.category).sum ≤ 8)
(K : G cs n ls (v0 :: st) S1) : G cs pc ls stk S :=
cN hG hw hd hc hs hna hR hf hst (fun v S' hp => by obtain ⟨rfl, rfl⟩ := hp; exact K)
theorem r_sb (hG : IsG Γ R cc nL own ret post mc ms G) {l : List (Nat × Value)} (K : G cs pc l st S) (h : subL ls l) : G cs pc ls st S := r_sub hG h K
end CD
theorem ct_kilosIn {Γ : Gm} {S : St} {t j : Nat} (ht : t < 12) (hj : j < 3) : CT Γ y_Street_kilosIn b_Street_kilosIn 2 ((some FieldType.int)) (rmx 1 0 0) [rf Γ 15 t, nt j] S (dX (some (nt (S 16 t j + S 17 t j))) S) := by
  refine CT.of (by first | exact plainFor_of_name (by rfl) | decide +kernel) (Nat.le_of_ble_eq_true rfl) ?_
  intro G hG
  show G (0, 0) 0 [(0, rf Γ 15 t), (1, nt j)] [] _
  refine r_aload_n hG (hl0 := rfl) (hd := d_Street_kilosIn_0) (K := ?_)
  refine g_Street_15 hG (hi := by omega) (hd := d_Street_kilosIn_1) (K := ?_)
  refine r_iload_n hG (hl0 := rfl) (hd := d_Street_kilosIn_4) (K := ?_)
  first | refine a_16 hG (hd := d_Street_kilosIn_5) (hz := rfl) (hj := by omega) (hi := by omega) (K := ?_) | refine a_17 hG (hd := d_Street_kilosIn_5) (hz := rfl) (hj := by omega) (hi := by omega) (K := ?_) | refine a_18 hG (hd := d_Street_kilosIn_5) (hz := rfl) (hj := by omega) (hi := by omega) (K := ?_) | refine a_19 hG (hd := d_Street_kilosIn_5) (hz := rfl) (hj := by omega) (hi := by omega) (K := ?_) | refine a_4 hG (hd := d_Street_kilosIn_5) (hz := rfl) (hj := by omega) (hi := by omega) (K := ?_) | refine a_5 hG (hd := d_Street_kilosIn_5) (hz := rfl) (hj := by omega) (hi := by omega) (K := ?_) | refine a_21 hG (hd := d_Street_kilosIn_5) (hz := rfl) (hj := by omega) (hi := by omega) (K := ?_) | refine a_23 hG (hd := d_Street_kilosIn_5) (hz := rfl) (hj := by omega) (hi := by omega) (K := ?_) | refine a_24 hG (hd := d_Street_kilosIn_5) (hz := rfl) (hj := by omega) (hi := by omega) (K := ?_)
  refine r_aload_n hG (hl0 := rfl) (hd := d_Street_kilosIn_6) (K := ?_)
  refine g_Street_18 hG (hi := by omega) (hd := d_Street_kilosIn_7) (K := ?_)
  refine r_iload_n hG (hl0 := rfl) (hd := d_Street_kilosIn_10) (K := ?_)
  first | refine a_16 hG (hd := d_Street_kilosIn_11) (hz := rfl) (hj := by omega) (hi := by omega) (K := ?_) | refine a_17 hG (hd := d_Street_kilosIn_11) (hz := rfl) (hj := by omega) (hi := by omega) (K := ?_) | refine a_18 hG (hd := d_Street_kilosIn_11) (hz := rfl) (hj := by omega) (hi := by omega) (K := ?_) | refine a_19 hG (hd := d_Street_kilosIn_11) (hz := rfl) (hj := by omega) (hi := by omega) (K := ?_) | refine a_4 hG (hd := d_Street_kilosIn_11) (hz := rfl) (hj := by omega) (hi := by omega) (K := ?_) | refine a_5 hG (hd := d_Street_kilosIn_11) (hz := rfl) (hj := by omega) (hi := by omega) (K := ?_) | refine a_21 hG (hd := d_Street_kilosIn_11) (hz := rfl) (hj := by omega) (hi := by omega) (K := ?_) | refine a_23 hG (hd := d_Street_kilosIn_11) (hz := rfl) (hj := by omega) (hi := by omega) (K := ?_) | refine a_24 hG (hd := d_Street_kilosIn_11) (hz := rfl) (hj := by omega) (hi := by omega) (K := ?_)
  first | refine r_iadd hG (hd := d_Street_kilosIn_12) (K := ?_) | refine r_iaddr hG (hd := d_Street_kilosIn_12) (K := ?_)
  refine r_iret hG d_Street_kilosIn_13 ⟨(Nat.le_of_ble_eq_true rfl), (Nat.le_of_ble_eq_true rfl)⟩ ?_
  exact ⟨rfl, rfl⟩
theorem ct_roomIn {Γ : Gm} {S : St} {t j : Nat} (ht : t < 12) (hj : j < 3) : CT Γ y_Street_roomIn b_Street_roomIn 2 ((some FieldType.int)) (rmx 2 0 0) [rf Γ 15 t, nt j] S (dX (some (nt (60 - (S 16 t j + S 17 t j)))) S) := by
  refine CT.of (by first | exact plainFor_of_name (by rfl) | decide +kernel) (Nat.le_of_ble_eq_true rfl) ?_
  intro G hG
  show G (0, 0) 0 [(0, rf Γ 15 t), (1, nt j)] [] _
  refine r_bipush hG (hd := d_Street_roomIn_0) (K := ?_)
  refine r_aload_n hG (hl0 := rfl) (hd := d_Street_roomIn_2) (K := ?_)
  refine r_iload_n hG (hl0 := rfl) (hd := d_Street_roomIn_3) (K := ?_)
  refine cVx hG w_Street_24 d_Street_roomIn_4 (ct_kilosIn ht hj) (by decide) (by show _ < 12; omega) rc_15 rfl rfl ⟨(Nat.le_of_ble_eq_true rfl), (Nat.le_of_ble_eq_true rfl)⟩ ⟨(Nat.le_of_ble_eq_true rfl), (Nat.le_of_ble_eq_true rfl)⟩ (Nat.le_of_ble_eq_true rfl) ?_
  first | refine r_isub hG (hd := d_Street_roomIn_7) (K := ?_) | refine r_isubr hG (hd := d_Street_roomIn_7) (K := ?_)
  refine r_iret hG d_Street_roomIn_8 ⟨(Nat.le_of_ble_eq_true rfl), (Nat.le_of_ble_eq_true rfl)⟩ ?_
  exact ⟨rfl, rfl⟩
