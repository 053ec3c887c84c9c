/-! made by wip/p28/gen/calls.py -/
theorem MM_ini : Cond.initialized "java/lang/Math" ∈ tg := (m_T1 (i := 19) (by decide +kernel) (by decide +kernel))
theorem MM_min : Cond.static Lib.Math.min.name ∈ tg ∧ Cond.code Lib.Math.min.name Lib.Math.min.code 2 (some .int) ∈ tg := ⟨(m_T3 (i := 159) (by decide +kernel) (by decide +kernel)), (m_T3 (i := 160) (by decide +kernel) (by decide +kernel))⟩
theorem MM_max : Cond.static Lib.Math.max.name ∈ tg ∧ Cond.code Lib.Math.max.name Lib.Math.max.code 2 (some .int) ∈ tg := ⟨(m_T3 (i := 143) (by decide +kernel) (by decide +kernel)), (m_T3 (i := 144) (by decide +kernel) (by decide +kernel))⟩
theorem MM_abs : Cond.static Lib.Math.abs.name ∈ tg ∧ Cond.code Lib.Math.abs.name Lib.Math.abs.code 1 (some .int) ∈ tg := ⟨(m_T3 (i := 168) (by decide +kernel) (by decide +kernel)), (m_T3 (i := 169) (by decide +kernel) (by decide +kernel))⟩
/-! CALLS, and the JDK's small ones -/
def kwV (own : String) (idx : Nat) (y : MethodName) (bts : ByteArray) (nY : Nat) (rY : Option FieldType) (na : Nat) : Prop :=
  Cond.methodLink own idx y ∈ tg ∧ Cond.instanceMethod y ∈ tg ∧ Cond.selects y.cls y y ∈ tg ∧ Cond.initialized y.cls ∈ tg ∧ Cond.code y bts nY rY ∈ tg ∧ (y.cls ≠ "java/lang/invoke/MethodHandle" ∧ y.cls ≠ "java/lang/invoke/VarHandle") ∧ (parseMethodDescriptor y.desc).map (fun d => d.parameters.length) = some na
def kwS (own : String) (idx : Nat) (y : MethodName) (bts : ByteArray) (nY : Nat) (rY : Option FieldType) (na : Nat) : Prop :=
  Cond.methodLink own idx y ∈ tg ∧ Cond.static y ∈ tg ∧ Cond.initialized y.cls ∈ tg ∧ Cond.code y bts nY rY ∈ tg ∧ (y.cls ≠ "java/lang/invoke/MethodHandle" ∧ y.cls ≠ "java/lang/invoke/VarHandle") ∧ (parseMethodDescriptor y.desc).map (fun d => d.parameters.length) = some na
def kwN (own : String) (idx : Nat) (y : MethodName) (host : String) (bts : ByteArray) (nY : Nat) (rY : Option FieldType) (na : Nat) : Prop :=
  (∀ U : State, NW U → va_Nw (.methodLinkNest own idx y host) U) ∧ Cond.static y ∈ tg ∧ Cond.initialized y.cls ∈ tg ∧ Cond.code y bts nY rY ∈ tg ∧ (y.cls ≠ "java/lang/invoke/MethodHandle" ∧ y.cls ≠ "java/lang/invoke/VarHandle") ∧ (parseMethodDescriptor y.desc).map (fun d => d.parameters.length) = some na
def rcv (k : Nat) (C : String) : Prop := ∃ (ci : Nat) (T : u_T) (N : Nat), classes[ci]? = some (C, T, N) ∧ ∀ (Γ : Gm) (S : St) (i : Nat), ∃ fs, CL Γ S k i = .inr (ci, fs)
theorem WD.blind {Γ : Gm} {S : St} {As : List Value} : FrameBlind (va_Pc As (WD Γ S)) := fun a U g mk q => ⟨q.1, va_K.moved (u := U) (U := U.calling g mk a) (Vm.Alike.refl U.vm) q.2.1, q.2.2.1, q.2.2.2.1, q.2.2.2.2.1, va_X.moved (u := U) (U := U.calling g mk a) (Vm.Alike.refl U.vm) q.2.2.2.2.2.1, q.2.2.2.2.2.2.1, va_Nw.same (u := U) (U := U.calling g mk a) rfl rfl q.2.2.2.2.2.2.2⟩
section CR
variable {Γ : Gm} {R : Room} {cc : ByteArray} {nL : Nat} {own : String} {ret : Option FieldType} {post : Option Value → St → Prop} {mc ms : Nat} {G : Nat × Nat → Nat → List (Nat × Value) → List Value → St → Prop} {cs : Nat × Nat} {pc n : Nat} {ls : List (Nat × Value)} {st stk : List Value} {S : St}
theorem run_out {p : Program} {e : Env} {s : State} {m : MethodId} {args : Array Value} {below : List Frame} {meth : Method} {c : Code} {Q : State → Prop} {H : Heap} {locs : List Loc} {k w x y : Nat} {la : Array Slot} {postY : Option Value → St → Prop} {pc : Nat}
    (hr : va_Run p (gL Γ) e R s m args below meth c H locs k w x y (F0 m pc la stk) st (fun s oc t => (∃ (v : Option Value) (S' : St), oc = .returned v ∧ postY v S' ∧ WD Γ S' t) ∧ va_F (gF Γ) s t) (gF Γ)) (hS : va_S (gF Γ) s.heap H locs)
    (K : ∀ v S', postY v S' → ∀ (H : Heap) (locs : List Loc), va_P (gD Γ) classes (wl Γ S') H → va_D (gF Γ) (wl Γ S') → va_S (gF Γ) s.heap H locs → W p (gL Γ) e R s m args below meth c H locs (k + x) (w + y) Q (F0 m (pc + 3) la (v.toList ++ st))) : W p (gL Γ) e R s m args below meth c H locs k w Q (F0 m pc la stk) := by
  intro T hT X
  obtain ⟨v, st₀, t, T', L, h0, X', hL, e1, e2, ⟨⟨v', S', hv, hp, hW⟩, hF⟩, stp⟩ := hr T hT X
  cases hv
  obtain ⟨hz, hk⟩ := hF
  rw [h0] at hz hk
  obtain ⟨t2, a1, b1⟩ := K v S' hp T'.heap (locs ++ L) (by rw [e1]; exact hW.2.1) hW.2.2.1
    ⟨Nat.le_trans hS.1 (by rw [e1]; exact hz), fun q h1 h2 => by rw [e1, hk q (Nat.lt_of_lt_of_le h1 hS.1) h2]; exact hS.2.1 q h1 h2, fun q hq => by
      rcases List.mem_append.mp hq with h | h
      · exact hS.2.2 q h
      · exact hL q h⟩ T' rfl X'
  exact ⟨t2, stp t2 a1, b1⟩
theorem cVm (hG : IsG Γ R cc nL own ret post mc ms G) {idx na nY k i kk xc xs : Nat} {y : MethodName} {bts : ByteArray} {rY : Option FieldType} {As : List Value} {postY : Option Value → St → Prop} (hw : kwV own idx y bts nY rY na) (hd : Dc cc pc (.invokevirtual idx) 3 n) (hc : CT Γ y bts nY rY (rmx kk xc xs) (rf Γ k i :: As) S postY)
    (hk : k < 25) (hi : i < cnt k) (hcl : rcv k y.cls) (hs : stk = As.reverse ++ rf Γ k i :: st) (hna : As.length = na) (hR : kk + 1 ≤ R.frames ∧ 8 + (nY + 11) + 30 * kk ≤ R.locals) (hf : cs.1 + xc ≤ R.cells ∧ cs.2 + xs ≤ R.slots) (hst : (st.map fun v => v.category).sum ≤ 8)
    (K : ∀ v S', postY v S' → G (cs.1 + xc, cs.2 + xs) n ls (v.toList ++ st) S') : G cs pc ls stk S := by
  obtain ⟨p, e, s, m, args, below, meth, c, Q, hx, hb, hml, hown, hts, hK, hB, hX, hr, rfl⟩ := hG
  obtain ⟨hd, rfl⟩ := hd
  obtain ⟨w1, w2, w3, w4, w5, w6, w7⟩ := hw
  obtain ⟨ci, T, N, hc1, hc2⟩ := hcl
  obtain ⟨fs, hfs⟩ := hc2 Γ S i
  intro H locs la hP hD hS hl
  have cb : CallB R s args own idx y bts nY rY (.code y bts nY rY :: tg) (rmx kk xc xs) xc xs na := callB_of na hts (tg_goodIn w5) rfl rfl rfl (hts _ w4) (hts _ w1) ⟨w6.1, w6.2, w7⟩ hR
  have run := va_runV (e := e) (below := below) (meth := meth) (b := gA Γ (off k i)) (C := y.cls) (As := As) (rest := st) (g := F0 m pc la stk) (H := H) (locs := locs) (cells := cs.1) (slots := cs.2) ⟨hx, hb, hml, hown, hts⟩ hc ⟨cb, hts _ w2, hts _ w3⟩
    ⟨WD.blind, va_recv hK hP hc1 (by rw [wl_at Γ S hk hi, hfs]), fun U hU hW => ⟨rfl, WD.to hK hX hB hP hD hS hU hW⟩⟩ rfl hna hl.1 hs (lv_room hst) hd hf
  exact run_out run hS (fun v S' hp H' locs' hP' hD' hS' => K v S' hp H' locs' la hP' hD' hS' hl)
theorem cV (hG : IsG Γ R cc nL own ret post mc ms G) {idx na nY k i kk : Nat} {y : MethodName} {bts : ByteArray} {rY : Option FieldType} {As : List Value} {postY : Option Value → St → Prop} (hw : kwV own idx y bts nY rY na) (hd : Dc cc pc (.invokevirtual idx) 3 n) (hc : CT Γ y bts nY rY (rmx kk 0 0) (rf Γ k i :: As) S postY)
    (hk : k < 25) (hi : i < cnt k) (hcl : rcv k y.cls) (hs : stk = As.reverse ++ rf Γ k i :: st) (hna : As.length = na) (hR : kk + 1 ≤ R.frames ∧ 8 + (nY + 11) + 30 * kk ≤ R.locals) (hf : cs.1 ≤ R.cells ∧ cs.2 ≤ R.slots) (hst : (st.map fun v => v.category).sum ≤ 8)
    (K : ∀ v S', postY v S' → G cs n ls (v.toList ++ st) S') : G cs pc ls stk S :=
  cVm hG hw hd hc hk hi hcl hs hna hR hf hst K
theorem cSm (hG : IsG Γ R cc nL own ret post mc ms G) {idx na nY kk xc xs : Nat} {y : MethodName} {bts : ByteArray} {rY : Option FieldType} {As : List Value} {postY : Option Value → St → Prop} (hw : kwS own idx y bts nY rY na) (hd : Dc cc pc (.invokestatic idx) 3 n) (hc : CT Γ y bts nY rY (rmx kk xc xs) As S postY)
    (hs : stk = As.reverse ++ st) (hna : As.length = na) (hR : kk + 1 ≤ R.frames ∧ 8 + (nY + 11) + 30 * kk ≤ R.locals) (hf : cs.1 + xc ≤ R.cells ∧ cs.2 + xs ≤ R.slots) (hst : (st.map fun v => v.category).sum ≤ 8)
    (K : ∀ v S', postY v S' → G (cs.1 + xc, cs.2 + xs) n ls (v.toList ++ st) S') : G cs pc ls stk S := by
  obtain ⟨p, e, s, m, args, below, meth, c, Q, hx, hb, hml, hown, hts, hK, hB, hX, hr, rfl⟩ := hG
  obtain ⟨hd, rfl⟩ := hd
  obtain ⟨w1, w2, w4, w5, w6, w7⟩ := hw
  intro H locs la hP hD hS hl
  have cb : CallB R s args own idx y bts nY rY (.code y bts nY rY :: tg) (rmx kk xc xs) xc xs na := callB_of na hts (tg_goodIn w5) rfl rfl rfl (hts _ w4) (hts _ w1) ⟨w6.1, w6.2, w7⟩ hR
  have run := va_runS (e := e) (below := below) (meth := meth) (As := As) (rest := st) (g := F0 m pc la stk) (H := H) (locs := locs) (cells := cs.1) (slots := cs.2) ⟨hx, hb, hml, hown, hts⟩ hc ⟨cb, hts _ w2⟩
    ⟨WD.blind, fun U hU hW => ⟨rfl, WD.to hK hX hB hP hD hS hU hW⟩⟩ rfl hna hl.1 hs (lv_room hst) hd hf
  exact run_out run hS (fun v S' hp H' locs' hP' hD' hS' => K v S' hp H' locs' la hP' hD' hS' hl)
theorem cS (hG : IsG Γ R cc nL own ret post mc ms G) {idx na nY kk : Nat} {y : MethodName} {bts : ByteArray} {rY : Option FieldType} {As : List Value} {postY : Option Value → St → Prop} (hw : kwS own idx y bts nY rY na) (hd : Dc cc pc (.invokestatic idx) 3 n) (hc : CT Γ y bts nY rY (rmx kk 0 0) As S postY)
    (hs : stk = As.reverse ++ st) (hna : As.length = na) (hR : kk + 1 ≤ R.frames ∧ 8 + (nY + 11) + 30 * kk ≤ R.locals) (hf : cs.1 ≤ R.cells ∧ cs.2 ≤ R.slots) (hst : (st.map fun v => v.category).sum ≤ 8)
    (K : ∀ v S', postY v S' → G cs n ls (v.toList ++ st) S') : G cs pc ls stk S :=
  cSm hG hw hd hc hs hna hR hf hst K
theorem cN (hG : IsG Γ R cc nL own ret post mc ms G) {idx na nY kk : Nat} {host : String} {y : MethodName} {bts : ByteArray} {rY : Option FieldType} {As : List Value} {postY : Option Value → St → Prop} (hw : kwN own idx y host bts nY rY na) (hd : Dc cc pc (.invokestatic idx) 3 n) (hc : CT Γ y bts nY rY (rmx kk 0 0) As S postY)
    (hs : stk = As.reverse ++ st) (hna : As.length = na) (hR : kk + 1 ≤ R.frames ∧ 8 + (nY + 11) + 30 * kk ≤ R.locals) (hf : cs.1 ≤ R.cells ∧ cs.2 ≤ R.slots) (hst : (st.map fun v => v.category).sum ≤ 8)
    (K : ∀ v S', postY v S' → G cs n ls (v.toList ++ st) S') : G cs pc ls stk S := by
  obtain ⟨p, e, s, m, args, below, meth, c, Q, hx, hb, hml, hown, hts, hK, hB, hX, hr, rfl⟩ := hG
  obtain ⟨hd, rfl⟩ := hd
  obtain ⟨w1, w2, w4, w5, w6, w7⟩ := hw
  intro H locs la hP hD hS hl
  have hnl : va_Nw (.methodLinkNest own idx y host) s := w1 s hX.2
  have cb : va_CN R s args own idx y host bts nY rY (.code y bts nY rY :: tg) (rmx kk 0 0) 0 0 na := va_cnB na hts (tg_goodIn w5) rfl rfl rfl hnl (hts _ w4) ⟨w6.1, w6.2, w7⟩ hR
  have run := va_runSN (e := e) (below := below) (meth := meth) (As := As) (rest := st) (g := F0 m pc la stk) (H := H) (locs := locs) (cells := cs.1) (slots := cs.2) ⟨hx, hb, hml, hown, hts⟩ hc ⟨cb, hts _ w2, trivial⟩
    ⟨WD.blind, fun U hU hW => ⟨rfl, WD.to hK hX hB hP hD hS hU hW⟩⟩ rfl hna hl.1 hs (lv_room hst) hd hf
  exact run_out run hS (fun v S' hp H' locs' hP' hD' hS' => K v S' hp H' locs' la hP' hD' hS' hl)
theorem r_mmin (hG : IsG Γ R cc nL own ret post mc ms G) {idx : Nat} {a b : Int} (hlk : Cond.methodLink own idx Lib.Math.min.name ∈ tg) (hd : Dc cc pc (.invokestatic idx) 3 n) (hR : 1 ≤ R.frames ∧ (st.map fun v => v.category).sum + 13 ≤ R.locals) (hf : cs.1 ≤ R.cells ∧ cs.2 ≤ R.slots)
    (hr0 : (-2147483648 ≤ a ∧ a < 2147483648) ∧ (-2147483648 ≤ b ∧ b < 2147483648)) (K : G cs n ls (nt (min a b) :: st) S) : G cs pc ls (nt b :: nt a :: st) S := by
  obtain ⟨p, e, s, m, args, below, meth, c, Q, hx, hb, hml, hown, hts, hK, hB, hX, hr, rfl⟩ := hG
  obtain ⟨hd, rfl⟩ := hd
  intro H locs la hP hD hS hl
  refine va_mmin hx hb (hml.trans hl.1.symm) hown (hts _ hlk) (hts _ MM_min.1) (hts _ MM_ini) (hts _ MM_min.2) hR.1 hR.2 hf.1 hf.2 hd ?_
  have e2 : (if iI b < iI a then iI b else iI a) = iI (min a b) := by
    by_cases h : b < a
    · rw [if_pos ((iI_lt hr0.2 hr0.1).mpr h), Int.min_eq_right (by omega)]
    · rw [if_neg (fun q => h ((iI_lt hr0.2 hr0.1).mp q)), Int.min_eq_left (by omega)]
  rw [e2]
  exact K H locs la hP hD hS hl
theorem r_mmax (hG : IsG Γ R cc nL own ret post mc ms G) {idx : Nat} {a b : Int} (hlk : Cond.methodLink own idx Lib.Math.max.name ∈ tg) (hd : Dc cc pc (.invokestatic idx) 3 n) (hR : 1 ≤ R.frames ∧ (st.map fun v => v.category).sum + 13 ≤ R.locals) (hf : cs.1 ≤ R.cells ∧ cs.2 ≤ R.slots)
    (hr0 : (-2147483648 ≤ a ∧ a < 2147483648) ∧ (-2147483648 ≤ b ∧ b < 2147483648)) (K : G cs n ls (nt (max a b) :: st) S) : G cs pc ls (nt b :: nt a :: st) S := by
  obtain ⟨p, e, s, m, args, below, meth, c, Q, hx, hb, hml, hown, hts, hK, hB, hX, hr, rfl⟩ := hG
  obtain ⟨hd, rfl⟩ := hd
  intro H locs la hP hD hS hl
  refine va_mmax hx hb (hml.trans hl.1.symm) hown (hts _ hlk) (hts _ MM_max.1) (hts _ MM_ini) (hts _ MM_max.2) hR.1 hR.2 hf.1 hf.2 hd ?_
  have e2 : (if iI a < iI b then iI b else iI a) = iI (max a b) := by
    by_cases h : a < b
    · rw [if_pos ((iI_lt hr0.1 hr0.2).mpr h), Int.max_eq_right (by omega)]
    · rw [if_neg (fun q => h ((iI_lt hr0.1 hr0.2).mp q)), Int.max_eq_left (by omega)]
  rw [e2]
  exact K H locs la hP hD hS hl
theorem r_mabs (hG : IsG Γ R cc nL own ret post mc ms G) {idx : Nat} {a : Int} (hlk : Cond.methodLink own idx Lib.Math.abs.name ∈ tg) (hd : Dc cc pc (.invokestatic idx) 3 n) (hR : 1 ≤ R.frames ∧ (st.map fun v => v.category).sum + 13 ≤ R.locals) (hf : cs.1 ≤ R.cells ∧ cs.2 ≤ R.slots)
    (hr0 : -2147483648 ≤ a ∧ a < 2147483648) (K : G cs n ls (nt (if 0 ≤ a then a else -a) :: st) S) : G cs pc ls (nt a :: st) S := by
  obtain ⟨p, e, s, m, args, below, meth, c, Q, hx, hb, hml, hown, hts, hK, hB, hX, hr, rfl⟩ := hG
  obtain ⟨hd, rfl⟩ := hd
  intro H locs la hP hD hS hl
  refine va_mabs hx hb (hml.trans hl.1.symm) hown (hts _ hlk) (hts _ MM_abs.1) (hts _ MM_ini) (hts _ MM_abs.2) hR.1 hR.2 hf.1 hf.2 hd ?_
  have h0 : (0 : Int32) = iI 0 := rfl
  have e2 : (if (0 : Int32) ≤ iI a then iI a else 0 - iI a) = iI (if 0 ≤ a then a else -a) := by
    by_cases h : 0 ≤ a
    · rw [if_pos (by rw [h0]; exact (iI_le (by omega) hr0).mpr h), if_pos h]
    · rw [if_neg (fun q => h (by rw [h0] at q; exact (iI_le (by omega) hr0).mp q)), if_neg h, h0, ← iI_sub, Int.zero_sub]
  rw [e2]
  exact K H locs la hP hD hS hl

end CR
