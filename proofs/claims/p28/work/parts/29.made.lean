/-! MAKING: the contract of a constructor, the call of one, a row of rows -/
def CK (Γ : Gm) (y : MethodName) (bts : ByteArray) (nY : Nat) (rm : Room) (As : List Value) (S : WX) (post : WX → Prop) : Prop :=
  Met (gL Γ) y (.code y bts nY none :: tg) rm (va_Pc As (WK Γ S)) (fun _ s oc t => (∃ (v : Option Value) (S' : WX), oc = .returned v ∧ v = none ∧ post S' ∧ WK Γ S' t) ∧ va_F (gF Γ) s t) rm.cells rm.slots (gF Γ)
theorem WK.blind {Γ : Gm} {S : WX} {As : List Value} : FrameBlind (va_Pc As (WK Γ S)) := fun a U g mk q => ⟨q.1, va_K.moved (u := U) (U := U.calling g mk a) (Vm.Alike.refl U.vm) q.2.1, q.2.2.1, q.2.2.2.1, ⟨va_X.moved (u := U) (U := U.calling g mk a) (Vm.Alike.refl U.vm) q.2.2.2.2.1.1, q.2.2.2.2.1.2⟩, NK.same (u := U) (U := U.calling g mk a) rfl q.2.2.2.2.2⟩
theorem WK.to {Γ : Gm} {S : WX} {s t : State} {H : Heap} {locs : List Loc} (hK : va_K (gD Γ) classes (tys Γ) s) (hX : (va_X (gX Γ).1 (gX Γ).2.1 (gX Γ).2.2 s s.heap ∧ (gX Γ).1 < gB Γ) ∧ NK s) (hB : gB Γ ≤ s.heap.size) (hP : va_P (gD Γ) classes (wn Γ S) H) (hD : H.size = gB Γ + S.2) (hS : va_S (gF Γ) s.heap H locs) (ht : t.heap = H) (hW : s.WarmedH t.vm) : WK Γ S t := by
  obtain ⟨hX, hN⟩ := hX
  refine ⟨va_K.moved hW.alike hK, by rw [ht]; exact hP, by rw [ht]; exact hD, ⟨va_X.moved hW.alike (va_X.kept hX.1 ?_), hX.2⟩, NK.warm hW hN⟩
  rw [ht]
  exact hS.2.1 _ (Nat.lt_of_lt_of_le hX.2 hB) (fun q => absurd hX.2 (Nat.not_lt.mpr q))
theorem CK.of {Γ : Gm} {y : MethodName} {bts : ByteArray} {nY : Nat} {rm : Room} {As : List Value} {S : WX} {post : WX → Prop} (hy : plainFor y = true) (hini : y.name = "<init>") (hlen : (lg_sl As).length ≤ nY)
    (h : ∀ G, IsK Γ rm bts nY y.cls none post rm.cells rm.slots G → G (0, 0) 0 (lv_args 0 As) [] S) : CK Γ y bts nY rm As S post := by
  refine ofWF (cc := bts) (maxL := nY) (ret := none) hy rfl ?_
  intro p e s m args below meth c s₁ B hml hv
  obtain ⟨rfl, hK, hP, hD, ⟨hX, hXl⟩, hN⟩ := hv
  have hts0 := atoms_spec (ws := .code y bts nY none :: tg) B.pre
  have hts : ∀ w ∈ tg, w.before As.toArray s = true := fun w hw => hts0 w (List.mem_cons_of_mem _ hw)
  have hlocks := B.notSynchronized
  have hr0 := B.returns
  have hb := B.bytes
  have hx := B.exec
  have hin : meth.name = "<init>" := (name_of_methodNamed B.named B.method).1.trans hini
  have hB : gB Γ ≤ s.heap.size := by rw [hD]; exact Nat.le_add_right _ _
  have hl := lv_entry As (n := nY) hlen
  rw [lg_entry_eq]
  generalize (lg_sl As ++ List.replicate (nY - (lg_sl As).length) Slot.unset).toArray = la at hl ⊢
  refine h _ ⟨p, e, s, m, As.toArray, below, meth, c, MQ below _ As.toArray s rm.cells rm.slots (gF Γ), hx, hb, hml, findClass_of_methodNamed B.named, hts, hK, hB, ⟨⟨⟨hX, hXl⟩, hN⟩, fun _ => hin⟩, ?_, rfl⟩ s.heap [] la hP hD va_S.rf hl
  intro k n pc S' H locs la' hP' hD' hS' hk hn hdg hret hpost
  refine W.widen hk hn ?_
  exact W.vret hx hb hr0 (fun t ht hW => ⟨⟨none, S', rfl, rfl, hpost, WK.to hK ⟨⟨hX, hXl⟩, hN⟩ hB hP' hD' hS' ht hW⟩, hS'.F ht⟩) hS'.2.2 hdg hlocks
section KC
variable {Γ : Gm} {R : Room} {cc : ByteArray} {nL : Nat} {own : String} {ret : Option FieldType} {post : WX → Prop} {mc ms : Nat} {G : Nat × Nat → Nat → List (Nat × Value) → List Value → WX → Prop} {cs : Nat × Nat} {pc n : Nat} {ls : List (Nat × Value)} {st : List Value} {S : WX}
theorem run_outK {p : Program} {e : Env} {s : State} {m : MethodId} {args : Array Value} {below : List Frame} {meth : Method} {c : Code} {Q : State → Prop} {H : Heap} {locs : List Loc} {k w x y : Nat} {la : Array Slot} {stk : List Value} {postY : WX → Prop} {pc : Nat}
    (hr : va_Run p (gL Γ) e R s m args below meth c H locs k w x y (F0 m pc la stk) st (fun s oc t => (∃ (v : Option Value) (S' : WX), oc = .returned v ∧ v = none ∧ postY S' ∧ WK Γ S' t) ∧ va_F (gF Γ) s t) (gF Γ)) (hS : va_S (gF Γ) s.heap H locs)
    (K : ∀ S', postY S' → ∀ (H : Heap) (locs : List Loc), va_P (gD Γ) classes (wn Γ S') H → H.size = gB Γ + S'.2 → va_S (gF Γ) s.heap H locs → W p (gL Γ) e R s m args below meth c H locs (k + x) (w + y) Q (F0 m (pc + 3) la st)) : W p (gL Γ) e R s m args below meth c H locs k w Q (F0 m pc la stk) := by
  intro T hT X
  obtain ⟨v, st₀, t, T', L, h0, X', hL, e1, e2, ⟨⟨v', S', hv, hv2, hp, hW⟩, hF⟩, stp⟩ := hr T hT X
  subst hv2
  cases hv
  obtain ⟨hz, hk⟩ := hF
  rw [h0] at hz hk
  obtain ⟨t2, a1, b1⟩ := K S' hp T'.heap (locs ++ L) (by rw [e1]; exact hW.2.1) (by rw [e1]; exact hW.2.2.1)
    ⟨Nat.le_trans hS.1 (by rw [e1]; exact hz), fun q h1 h2 => by rw [e1, hk q (Nat.lt_of_lt_of_le h1 hS.1) h2]; exact hS.2.1 q h1 h2, fun q hq => by
      rcases List.mem_append.mp hq with h | h
      · exact hS.2.2 q h
      · exact hL q h⟩ T' rfl X'
  exact ⟨t2, stp t2 a1, b1⟩
theorem k_init (hG : IsK Γ R cc nL own ret post mc ms G) {idx nY kk xc xs a : Nat} {y : MethodName} {bts : ByteArray} {postY : WX → Prop} (w1 : Cond.methodLink own idx y ∈ tg) (w2 : Cond.instanceMethod y ∈ tg) (w3 : Cond.initialized y.cls ∈ tg) (w4 : Cond.code y bts nY none ∈ tg) (w5 : Cond.code y bts nY none ∈ tg) (w6 : y.cls ≠ "java/lang/invoke/MethodHandle" ∧ y.cls ≠ "java/lang/invoke/VarHandle") (w7 : (parseMethodDescriptor y.desc).map (fun d => d.parameters.length) = some 0) (w8 : y.name = "<init>")
    (hd : Dc cc pc (.invokespecial idx) 3 n) (hc : CK Γ y bts nY (rmx kk xc xs) [.ref a] S postY) (hR : kk + 1 ≤ R.frames ∧ 8 + (nY + 11) + 30 * kk ≤ R.locals) (hf : cs.1 + xc ≤ R.cells ∧ cs.2 + xs ≤ R.slots) (hst : (st.map fun v => v.category).sum ≤ 8)
    (K : ∀ S', postY S' → G (cs.1 + xc, cs.2 + xs) n ls st S') : G cs pc ls (.ref a :: st) S := by
  obtain ⟨p, e, s, m, args, below, meth, c, Q, hx, hb, hml, hown, hts, hK, hB, hX, hr, rfl⟩ := hG
  obtain ⟨hd, rfl⟩ := hd
  intro H locs la hP hD hS hl
  have cb : CallB R s args own idx y bts nY none (.code y bts nY none :: tg) (rmx kk xc xs) xc xs 0 := callB_of 0 hts (tg_goodIn w5) rfl rfl rfl (hts _ w3) (hts _ w1) ⟨w6.1, w6.2, w7⟩ hR
  have run := va_runI (e := e) (below := below) (meth := meth) (As := []) (rest := st) (g := F0 m pc la (.ref a :: st)) (H := H) (locs := locs) (cells := cs.1) (slots := cs.2) ⟨hx, hb, hml, hown, hts⟩ hc ⟨cb, w8, hts _ w2⟩
    ⟨WK.blind, fun U hU hW => ⟨rfl, WK.to hK hX.1 hB hP hD hS hU hW⟩⟩ rfl rfl hl.1 rfl (lv_room hst) hd hf
  exact run_outK run hS (fun S' hp H' locs' hP' hD' hS' => K S' hp H' locs' la hP' hD' hS' hl)
theorem k_initN (hG : IsK Γ R cc nL own ret post mc ms G) {idx nY kk xc xs a : Nat} {host : String} {y : MethodName} {bts : ByteArray} {postY : WX → Prop} (w1 : (own, idx, y, host) ∈ nkL) (w2 : Cond.instanceMethod y ∈ tg) (w3 : Cond.initialized y.cls ∈ tg) (w4 : Cond.code y bts nY none ∈ tg) (w6 : y.cls ≠ "java/lang/invoke/MethodHandle" ∧ y.cls ≠ "java/lang/invoke/VarHandle") (w7 : (parseMethodDescriptor y.desc).map (fun d => d.parameters.length) = some 0) (w8 : y.name = "<init>")
    (hd : Dc cc pc (.invokespecial idx) 3 n) (hc : CK Γ y bts nY (rmx kk xc xs) [.ref a] S postY) (hR : kk + 1 ≤ R.frames ∧ 8 + (nY + 11) + 30 * kk ≤ R.locals) (hf : cs.1 + xc ≤ R.cells ∧ cs.2 + xs ≤ R.slots) (hst : (st.map fun v => v.category).sum ≤ 8)
    (K : ∀ S', postY S' → G (cs.1 + xc, cs.2 + xs) n ls st S') : G cs pc ls (.ref a :: st) S := by
  obtain ⟨p, e, s, m, args, below, meth, c, Q, hx, hb, hml, hown, hts, hK, hB, hX, hr, rfl⟩ := hG
  obtain ⟨hd, rfl⟩ := hd
  intro H locs la hP hD hS hl
  have cb : va_CN R s args own idx y host bts nY none (.code y bts nY none :: tg) (rmx kk xc xs) xc xs 0 := va_cnB 0 hts (tg_goodIn w4) rfl rfl rfl (hX.1.2.1 _ w1) (hts _ w3) ⟨w6.1, w6.2, w7⟩ hR
  have run := va_runIN (e := e) (below := below) (meth := meth) (As := []) (rest := st) (g := F0 m pc la (.ref a :: st)) (H := H) (locs := locs) (cells := cs.1) (slots := cs.2) ⟨hx, hb, hml, hown, hts⟩ hc ⟨cb, w8, hts _ w2⟩
    ⟨WK.blind, fun U hU hW => ⟨rfl, WK.to hK hX.1 hB hP hD hS hU hW⟩⟩ rfl rfl hl.1 rfl (lv_room hst) hd hf
  exact run_outK run hS (fun S' hp H' locs' hP' hD' hS' => K S' hp H' locs' la hP' hD' hS' hl)
/-- seven rows of six, and the row of them -/
def mul8 (Γ : Gm) (S : WX) : WX := (fun q => if q = S.2 then .inl (gC Γ 4, 7, .inr (.inr (.inr (.inr (fun j => some (gB Γ + (S.2 + 1 + (14 * (j / 7) + j % 7)))))))) else if S.2 < q ∧ q < S.2 + 8 then .inl (gC Γ 0, 6, .inl (fun _ => iI 0)) else S.1 q, S.2 + 8)
theorem k_multi (hG : IsK Γ R cc nL own ret post mc ms G) {idx : Nat} (hcl : Cond.classLink own idx "[[I" ∈ tg) (hd : Dc cc pc (.multianewarray idx 2) 4 n) (hf : cs.1 + 8 ≤ R.cells ∧ cs.2 + 49 ≤ R.slots) (K : G (cs.1 + 8, cs.2 + 49) n ls (.ref (gB Γ + S.2) :: st) (mul8 Γ S)) : G cs pc ls (nt 6 :: nt 7 :: st) S := by
  obtain ⟨p, e, s, m, args, below, meth, c, Q, hx, hb, hml, hown, hts, hK, hB, hX, hr, rfl⟩ := hG
  obtain ⟨hd, rfl⟩ := hd
  intro H locs la hP hD hS hl
  intro T hT X
  obtain ⟨vm₁, cA, comp, hW, hfA, hfC, -, -, X1, step⟩ := Stand.multianewarray2F X hx (own := own) (index := idx) (ty := .int) hown (hts _ hcl) (show (Cond.arrayOver (.array .int)).before args s = true from hX.1.2.2.2.1) (hts _ (m_T1 (i := 68) (by decide +kernel) (by decide +kernel)))
    (g := F0 m pc la (nt 6 :: nt 7 :: st)) rfl (by rw [hb]; exact hd) (n := iI 7) (k := iI 6) (rest := st) rfl (by decide) (by decide) (by decide) (by decide) (by decide) rfl rfl hf.1 hf.2
  have h7 : (iI 7).toNatClampNeg = 7 := by decide
  have h6 : (iI 6).toNatClampNeg = 6 := by decide
  rw [h7, h6] at X1 step
  have hcA : cA = gC Γ 4 := Option.some.inj (hfA.symm.trans (hK.2 4 _ rfl).2)
  have hcC : comp = gC Γ 0 := Option.some.inj (hfC.symm.trans (hK.2 0 _ rfl).2)
  subst hcA hcC
  obtain ⟨f1, f2, f3, f4⟩ := Jvm.Free.Multi.fill_facts (T.setVm vm₁) (gC Γ 4) (gC Γ 0) 7 6 (defaultValue .int) 7
  have fo := fun (a : Addr) (ha : a < T.heap.size) => Jvm.Free.Multi.fill_old (T.setVm vm₁) (gC Γ 4) (gC Γ 0) 7 6 (defaultValue .int) (a := a) ha 7
  have fi := fun (j : Nat) (hj : j < 7) => Jvm.Free.Multi.fill_inner (T.setVm vm₁) (gC Γ 4) (gC Γ 0) 7 6 (defaultValue .int) 7 j hj
  have hz : (T.setVm vm₁).heap.size = gB Γ + S.2 := by show T.heap.size = _; rw [hT]; exact hD
  generalize hF : Jvm.Free.Multi.fill (T.setVm vm₁) (gC Γ 4) (gC Γ 0) 7 6 (defaultValue .int) 7 = F at X1 step f1 f2 fo fi
  rw [hz] at f1 f2 fi
  have hz2 : T.heap.size = gB Γ + S.2 := by rw [hT]; exact hD
  rw [hz2] at fo step
  have o1 : ∀ q, q < gB Γ + S.2 → F.heap[q]? = H[q]? := fun q hq => by rw [fo q hq, ← hT]; rfl
  have hP1 : va_P (gD Γ) classes (wn Γ (mul8 Γ S)) F.heap := by
    intro k q hq
    obtain ⟨hk, rfl⟩ := wn_out hq
    have hk : k < S.2 + 8 := hk
    show va_at _ _ (gB Γ + k, if k = S.2 then _ else if S.2 < k ∧ k < S.2 + 8 then _ else S.1 k) _
    by_cases h1 : k = S.2
    · rw [if_pos h1, h1]
      show F.heap[_]? = some (vp_cell _ _)
      have v1 : Jvm.Free.Multi.outerC (gC Γ 4) 7 (gB Γ + S.2) 7 = vp_cell (gC Γ 4) (7, .inr (.inr (.inr (.inr (fun j => some (gB Γ + (S.2 + 1 + j))))))) := by rfl
      have v2 : vp_cell (gC Γ 4) (7, .inr (.inr (.inr (.inr (fun j => some (gB Γ + (S.2 + 1 + j))))))) = vp_cell (gC Γ 4) (7, .inr (.inr (.inr (.inr (fun j => some (gB Γ + (S.2 + 1 + (14 * (j / 7) + j % 7)))))))) := by
        rw [vp_cell_q, vp_cell_q]
        unfold arrV
        congr 1
      rw [f2, v1, v2]
    · rw [if_neg h1]
      by_cases h2 : S.2 < k ∧ k < S.2 + 8
      · rw [if_pos h2]
        show F.heap[_]? = some (vp_cell _ _)
        have := fi (k - S.2 - 1) (by omega)
        rw [show gB Γ + S.2 + 1 + (k - S.2 - 1) = gB Γ + k by omega] at this
        rw [this]
        congr 1
      · rw [if_neg h2]
        have hk2 : k < S.2 := by omega
        have := hP k _ (wn_get (S := S) hk2)
        exact this.kept (o1 _ (by show gB Γ + k < _; omega))
  obtain ⟨t, a1, b1⟩ := K F.heap locs la hP1 (by rw [f1]; show _ = gB Γ + (S.2 + 8); omega) (k_S hS hD (by rw [f1]; omega) o1) hl F rfl X1
  exact ⟨t, step t a1, b1⟩
end KC
