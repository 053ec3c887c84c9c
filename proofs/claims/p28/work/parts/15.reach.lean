/-- Arrays.copyOf of a row of N numbers to 2 N -/
theorem cp_met (l : Launch) (D : va_G) (cI : ClassId) (a0 N sz : Nat) (f : Nat → Int32) (hN : 1 ≤ N ∧ N ≤ 500) : Met l y_Arrays_copyOf (.code y_Arrays_copyOf b_Arrays_copyOf 3 (some (.array .int)) :: tg) (rmx 2 1 1000)
    (va_Pc [.ref a0, nt ((2 * N : Nat) : Int)] (fun U => U.heap.size = sz ∧ va_P D classes [(a0, .inl (cI, N, .inl f))] U.heap ∧ va_K D classes [(cI, .int)] U))
    (va_Qr (fun u : ClassId => True) (fun u q t => va_P D classes [(a0, .inl (cI, N, .inl f)), (q, .inl (u, 2 * N, .inl (va_cpy f (fun _ => 0) 0 0 N)))] t.heap ∧ va_K D classes [(cI, .int), (u, .int)] t ∧ va_D (va_A [(a0, .inl (cI, N, .inl f))] sz) [(a0, .inl (cI, N, .inl f)), (q, .inl (u, 2 * N, .inl (va_cpy f (fun _ => 0) 0 0 N)))] ∧ sz ≤ q) (va_A [(a0, .inl (cI, N, .inl f))] sz)) 1 1000 (va_A [(a0, .inl (cI, N, .inl f))] sz) := by
  refine ofWF (cc := b_Arrays_copyOf) (maxL := 3) (ret := some (.array .int)) (plainFor_of_name (by rfl)) rfl ?_
  intro p e s m args below meth c s₁ B hml hv
  obtain ⟨rfl, hsz, hP, hK⟩ := hv
  have hx := B.exec
  have hb := B.bytes
  have hr := B.returns
  have hts0 := atoms_spec (ws := .code y_Arrays_copyOf b_Arrays_copyOf 3 (some (.array .int)) :: tg) B.pre
  have hts : ∀ w ∈ tg, w.before [Value.ref a0, nt ((2 * N : Nat) : Int)].toArray s = true := fun w hw => hts0 w (List.mem_cons_of_mem _ hw)
  have hown : s.vm.findClass "java/util/Arrays" = some m.cls := findClass_of_methodNamed B.named
  have hlocks := B.notSynchronized
  subst hsz
  have hal : a0 < s.heap.size := (hP 0 _ rfl).lt
  have hD : va_D (va_A [(a0, .inl (cI, N, .inl f))] s.heap.size) [(a0, .inl (cI, N, .inl f))] := ⟨fun i j x y hi hj _ => by
      have h1 := (List.getElem?_eq_some_iff.mp hi).1
      have h2 := (List.getElem?_eq_some_iff.mp hj).1
      simp at h1 h2
      omega, fun k q hq => va_A.in hq⟩
  generalize hAe : va_A [(a0, .inl (cI, N, .inl f))] s.heap.size = A at hD ⊢
  have hA : ∀ q : Nat, s.heap.size ≤ q → A q := fun q h => by rw [← hAe]; exact Or.inr h
  have hS : va_S A s.heap s.heap [] := va_S.rf
  have hl := lv_entry ([.ref a0, nt ((2 * N : Nat) : Int)]) (n := 3) (Nat.le_of_ble_eq_true rfl)
  rw [lg_entry_eq]
  generalize (lg_sl ([.ref a0, nt ((2 * N : Nat) : Int)]) ++ List.replicate (3 - (lg_sl ([.ref a0, nt ((2 * N : Nat) : Int)])).length) Slot.unset).toArray = ls at hl ⊢
  have hl : lv_has ls 3 [(0, .ref a0), (1, .int (iI ((2 * N : Nat) : Int)))] := hl
  have e2 : iI ((2 * N : Nat) : Int) = nI (2 * N) := by rw [iI_nI (by omega), Int.toNat_natCast]
  rw [e2] at hl
  refine lv_iload_n hx hb d_Arrays_copyOf_0.1 rfl (lv_at hl 1 rfl) ?_
  refine lv_aload_n hx hb d_Arrays_copyOf_1.1 rfl (lv_at hl 0 rfl) ?_
  refine va_alen hx hb hK hP 0 0 rfl rfl (v := nI N) rfl d_Arrays_copyOf_2.1 ?_
  obtain ⟨off3, hd3, ht3, -⟩ := d_Arrays_copyOf_3
  refine lv_icmp_ne hx hb hd3 ht3 (fun _ => ?_) (fun h => absurd ((nI_eq (by omega) (by omega)).mp h) (by omega))
  refine lv_iload_n hx hb d_Arrays_copyOf_14.1 rfl (lv_at hl 1 rfl) ?_
  refine va_newa (atype := .int) (ty := .int) (N' := 2 * N) (a0 := (2 * N, .inl (fun _ => 0))) hx hb (hts _ AC_w.2.2.2.2.2) rfl hK hP hD hS hA (fun cA => rfl) (nI_pos (by omega)) (nI_clamp (by omega)) (by show 2 * N * 4 ≤ 536870912; omega) (Nat.le_of_ble_eq_true rfl) (by show 0 + 2 * N ≤ 1000; omega) d_Arrays_copyOf_15.1 (fun q cA H1 hK hP hD hS => ?_)
  have hP : va_P D classes [(a0, .inl (cI, N, .inl f)), (q, .inl (cA, 2 * N, .inl (fun _ => 0)))] H1 := hP
  have hD : va_D A [(a0, .inl (cI, N, .inl f)), (q, .inl (cA, 2 * N, .inl (fun _ => 0)))] := hD
  have hK : va_K D classes [(cI, .int), (cA, .int)] s := hK
  have hqge : s.heap.size ≤ q := by
    have h1 := hD.2 1 _ rfl
    rw [← hAe] at h1
    rcases h1 with ⟨k, e, h1⟩ | h1
    · exfalso
      have hk : k = 0 := by
        have := (List.getElem?_eq_some_iff.mp h1).1
        simp at this
        omega
      subst hk
      have h3 : (a0, (.inl (cI, N, .inl f) : va_E)) = (q, e) := Option.some.inj h1
      have h4 : a0 = q := congrArg Prod.fst h3
      have := hD.1 0 1 _ _ rfl rfl h4
      omega
    · exact h1
  refine W.widen (k := 1) (n := 1000) (by omega) (by omega) ?_
  refine lv_astore_n (lv' := [(2, .ref q), (0, .ref a0), (1, .int (nI (2 * N)))]) hx hb d_Arrays_copyOf_17.1 rfl hl (by decide) rfl (fun ls hl => ?_)
  refine lv_aload_n hx hb d_Arrays_copyOf_18.1 rfl (lv_at hl 1 rfl) ?_
  refine lv_iconst (v := 0) hx hb d_Arrays_copyOf_19.1 (by decide) ?_
  refine lv_aload_n hx hb d_Arrays_copyOf_20.1 rfl (lv_at hl 0 rfl) ?_
  refine lv_iconst (v := 0) hx hb d_Arrays_copyOf_21.1 (by decide) ?_
  refine lv_aload_n hx hb d_Arrays_copyOf_22.1 rfl (lv_at hl 1 rfl) ?_
  refine va_alen hx hb hK hP 0 0 rfl rfl (v := nI N) rfl d_Arrays_copyOf_23.1 ?_
  refine lv_iload_n hx hb d_Arrays_copyOf_24.1 rfl (lv_at hl 2 rfl) ?_
  refine va_mmin hx hb (hml.trans hl.1.symm) hown (hts _ AC_w.1) (hts _ MM_min.1) (hts _ MM_ini) (hts _ MM_min.2) (Nat.le_of_ble_eq_true rfl) (Nat.le_of_ble_eq_true rfl) (Nat.le_of_ble_eq_true rfl) (Nat.le_of_ble_eq_true rfl) d_Arrays_copyOf_25.1 ?_
  rw [if_neg (nI_nlt (show N ≤ 2 * N by omega) (by omega))]
  have z0 : (0 : Int32).toNatClampNeg = 0 := rfl
  have zN : (nI N).toNatClampNeg = N := nI_clamp (by omega)
  refine va_copyi hx hb (hml.trans hl.1.symm) hown (hts _ AC_w.2.1) (hts _ AC_w.2.2.1) (hts _ AC_w.2.2.2.1) (hts _ AC_w.2.2.2.2.1) hK hP hD hS 0 1 0 1 rfl rfl rfl rfl rfl (by decide) (by decide) (nI_pos (by omega)) (by rw [z0, zN]; omega) (by rw [z0, zN]; omega) (fun i _ => rfl) (Nat.le_of_ble_eq_true rfl) (Nat.le_of_ble_eq_true rfl) d_Arrays_copyOf_28.1 (fun H2 locs2 hP hD hS => ?_)
  rw [z0, zN] at hP hD
  have hP : va_P D classes [(a0, .inl (cI, N, .inl f)), (q, .inl (cA, 2 * N, .inl (va_cpy f (fun _ => 0) 0 0 N)))] H2 := hP
  have hD : va_D A [(a0, .inl (cI, N, .inl f)), (q, .inl (cA, 2 * N, .inl (va_cpy f (fun _ => 0) 0 0 N)))] := hD
  refine lv_aload_n hx hb d_Arrays_copyOf_31.1 rfl (lv_at hl 0 rfl) ?_
  exact W.aret hx hb hr (Or.inr ⟨_, rfl⟩) (Or.inr ⟨_, rfl⟩) (fun t ht hW => ⟨⟨cA, q, rfl, trivial, by rw [ht]; exact hP, va_K.moved hW.alike hK, hD, hqge⟩, hS.F ht⟩) hS.2.2 d_Arrays_copyOf_32.1
theorem w_pick {D : va_G} {cl : List vw_C} {A : Nat → Prop} {ws ws' : va_W} {H : Heap} (f : Nat → Nat) (h : ∀ n q, ws'[n]? = some q → ws[f n]? = some q) (inj : ∀ i j, i < ws'.length → j < ws'.length → f i = f j → i = j) (hP : va_P D cl ws H) (hD : va_D A ws) : va_P D cl ws' H ∧ va_D A ws' :=
  ⟨fun k q hq => hP (f k) q (h k q hq), fun i j p q hi hj hpq => inj i j (List.getElem?_eq_some_iff.mp hi).1 (List.getElem?_eq_some_iff.mp hj).1 (hD.1 _ _ p q (h i p hi) (h j q hj) hpq), fun k q hq => hD.2 (f k) q (h k q hq)⟩
theorem wl_other (Γ : Gm) (S : St) (x y : Int) {n : Nat} (h8 : n ≠ 8) (h9 : n ≠ 9) : (wl Γ (sU (sU S 81 0 0 x) 82 0 0 y))[n]? = (wl Γ S)[n]? := by
  have hfl : fl Γ (sU (sU S 81 0 0 x) 82 0 0 y) = fl Γ S := by
    unfold fl
    simp [sU]
  unfold wl
  rw [hfl]
  by_cases hn : n < 138
  · rw [List.getElem?_append_left (by rw [wm_len]; exact hn), List.getElem?_append_left (by rw [wm_len]; exact hn), wm_get Γ _ hn, wm_get Γ _ hn]
    obtain ⟨k', i', h1, h2, h3, h4⟩ := nm_in hn
    rw [h3]
    have e1 : adr Γ (sU (sU S 81 0 0 x) 82 0 0 y) n = adr Γ S n := by
      unfold adr
      rw [if_neg h9, if_neg h9]
    have e2 : CL Γ (sU (sU S 81 0 0 x) 82 0 0 y) k' i' = CL Γ S k' i' := (CL_congr Γ fun f' j' hf' => by
      have hf' : fk f' = k' := hf'
      have n1 : f' ≠ 81 := fun q => by
        subst q
        have hk : k' = 7 := hf'.symm
        subst hk
        exact h8 h4.symm
      have n2 : f' ≠ 82 := fun q => by
        subst q
        have hk : k' = 25 := hf'.symm
        subst hk
        exact h9 h4.symm
      rw [sU_nf n2, sU_nf n1]).symm
    rw [e1, e2]
  · rw [List.getElem?_append_right (by rw [wm_len]; omega), List.getElem?_append_right (by rw [wm_len]; omega), wm_len, wm_len]
theorem AR_l : Cond.fieldLink "BinWard$Diary" 9 "BinWard$Diary" "marks" "[I" ∈ tg := (m_T1 (i := 93) (by decide +kernel) (by decide +kernel))
theorem r_grow {Γ : Gm} {R : Room} {cc : ByteArray} {nL : Nat} {ret : Option FieldType} {post : Option Value → St → Prop} {mc ms : Nat} {G : Nat × Nat → Nat → List (Nat × Value) → List Value → St → Prop} {cs : Nat × Nat} {pc n n2 : Nat} {ls : List (Nat × Value)} {st : List Value} {S : St}
    (hG : IsG Γ R cc nL "BinWard$Diary" ret post mc ms G) {N : Nat} (hd : Dc cc pc (.invokestatic 15) 3 n) (hd2 : Dc cc n (.putfield 9) 3 n2) (hN : S 82 0 0 = (N : Int)) (hN2 : 1 ≤ N ∧ N ≤ 500) (hz : ∀ j, N ≤ j → S 80 0 j = 0) (hR : 2 + 1 ≤ R.frames ∧ 8 + (3 + 11) + 30 * 2 ≤ R.locals) (hf : cs.1 + 1 ≤ R.cells ∧ cs.2 + 1000 ≤ R.slots)
    (hst : ((rf Γ 7 0 :: st).map fun v => v.category).sum ≤ 8) (K : ∀ q : Nat, G (cs.1 + 1, cs.2 + 1000) n2 ls st (sU (sU S 81 0 0 q) 82 0 0 ((2 * N : Nat) : Int))) : G cs pc ls (nt ((2 * N : Nat) : Int) :: .ref (S 81 0 0).toNat :: rf Γ 7 0 :: st) S := by
  obtain ⟨p, e, s, m, args, below, meth, c, Q, hx, hb, hml, hown, hts, hK, hB, hX, hr, rfl⟩ := hG
  obtain ⟨hd, rfl⟩ := hd
  obtain ⟨hd2, rfl⟩ := hd2
  intro H locs la hP hD hS hl
  obtain ⟨w1, w2, w4, w5, w6, w7⟩ := w_Diary_15
  have h9 : (wl Γ S)[9]? = some ((S 81 0 0).toNat, .inl (gC Γ 0, N, .inl (fun j => iI (S 80 0 j)))) := by
    rw [wl_marks]
    show some (_, (Sum.inl (gC Γ 0, (S 82 0 0).toNat, Sum.inl (fun j => iI (S 80 0 j))) : va_E)) = _
    rw [hN, Int.toNat_natCast]
  generalize ha0 : (S 81 0 0).toNat = a0 at h9 ⊢
  have hPc : va_P (gD Γ) classes [(a0, .inl (gC Γ 0, N, .inl (fun j => iI (S 80 0 j))))] H := fun k q hq => by
    have hk : k = 0 := by
      have := (List.getElem?_eq_some_iff.mp hq).1
      simp at this
      omega
    subst hk
    cases hq
    exact hP 9 _ h9
  have hKc : va_K (gD Γ) classes [(gC Γ 0, .int)] s := hK.sub (tys' := [(gC Γ 0, .int)]) [0] rfl
  have cb : CallB R s args "BinWard$Diary" 15 y_Arrays_copyOf b_Arrays_copyOf 3 (some (.array .int)) (.code y_Arrays_copyOf b_Arrays_copyOf 3 (some (.array .int)) :: tg) (rmx 2 1 1000) 1 1000 2 := callB_of 2 hts (tg_goodIn w5) rfl rfl rfl (hts _ w4) (hts _ w1) ⟨w6.1, w6.2, w7⟩ hR
  have run := va_runS (e := e) (below := below) (meth := meth) (As := [.ref a0, nt ((2 * N : Nat) : Int)]) (rest := rf Γ 7 0 :: st) (g := F0 m pc la (nt ((2 * N : Nat) : Int) :: .ref a0 :: rf Γ 7 0 :: st)) (H := H) (locs := locs) (cells := cs.1) (slots := cs.2) ⟨hx, hb, hml, hown, hts⟩ (cp_met (gL Γ) (gD Γ) (gC Γ 0) a0 N H.size (fun j => iI (S 80 0 j)) hN2) ⟨cb, hts _ w2⟩
    ⟨fun a U g mk q => ⟨q.1, q.2.1, q.2.2.1, va_K.moved (u := U) (U := U.calling g mk a) (Vm.Alike.refl U.vm) q.2.2.2⟩, fun U hU hW => ⟨rfl, by rw [hU], by rw [hU]; exact hPc, va_K.moved hW.alike hKc⟩⟩ rfl rfl hl.1 rfl (lv_room hst) hd hf
  have hgF : ∀ q, va_A [(a0, (.inl (gC Γ 0, N, .inl (fun j => iI (S 80 0 j))) : va_E))] H.size q → gF Γ q := by
    intro q h
    rcases h with ⟨k, x, h⟩ | h
    · have hk : k = 0 := by
        have := (List.getElem?_eq_some_iff.mp h).1
        simp at this
        omega
      subst hk
      cases h
      exact hD.2 9 _ h9
    · exact Nat.le_trans hB (Nat.le_trans hS.1 h)
  refine va_callr run hS (fun q _ h => hgF q h) hgF (fun u ra t H1 locs1 ht hvm hw hB1 hz1 hk1 hS1 => ?_)
  obtain ⟨hP1, hK1, hD1, hge⟩ := hB1
  rw [ht] at hP1
  have hu : u = gC Γ 0 := by
    have r1 : t.vm.findClass ("[" ++ (FieldType.int).toString) = some u := (hK1.2 1 _ rfl).2
    have r2 : s.vm.findClass ("[" ++ (FieldType.int).toString) = some (gC Γ 0) := (hK.2 0 _ rfl).2
    rw [hvm.findClass] at r1
    exact Option.some.inj (r1.symm.trans r2)
  subst hu
  have hP2 : va_P (gD Γ) classes (wl Γ S) H1 := fun k q hq => by
    refine (hP k q hq).kept ?_
    by_cases hqa : q.1 = a0
    · have c1 : H1[a0]? = some (vp_cell (gC Γ 0) (N, .inl (fun j => iI (S 80 0 j)))) := hP1 0 _ rfl
      have c2 : H[a0]? = some (vp_cell (gC Γ 0) (N, .inl (fun j => iI (S 80 0 j)))) := hPc 0 _ rfl
      rw [hqa, c1, c2]
    · refine hk1 q.1 (hP k q hq).lt (fun h => ?_)
      rcases h with ⟨k2, x, h⟩ | h
      · have hk : k2 = 0 := by
          have := (List.getElem?_eq_some_iff.mp h).1
          simp at this
          omega
        subst hk
        cases h
        exact hqa rfl
      · exact absurd (hP k q hq).lt (Nat.not_lt.mpr h)
  have hP3 : va_P (gD Γ) classes (wl Γ S ++ [(ra, .inl (gC Γ 0, 2 * N, .inl (va_cpy (fun j => iI (S 80 0 j)) (fun _ => 0) 0 0 N)))]) H1 := va_P.app hP2 (fun k q hq => by
    have hk : k = 0 := by
      have := (List.getElem?_eq_some_iff.mp hq).1
      simp at this
      omega
    subst hk
    cases hq
    exact hP1 1 _ rfl)
  have hD3 : va_D (gF Γ) (wl Γ S ++ [(ra, .inl (gC Γ 0, 2 * N, .inl (va_cpy (fun j => iI (S 80 0 j)) (fun _ => 0) 0 0 N)))]) := by
    refine va_D.app hD ⟨fun i j x y hi hj _ => ?_, fun k q hq => ?_⟩ (fun i j x y hx hy hxy => ?_)
    · have h1 := (List.getElem?_eq_some_iff.mp hi).1
      have h2 := (List.getElem?_eq_some_iff.mp hj).1
      simp at h1 h2
      omega
    · have hk : k = 0 := by
        have := (List.getElem?_eq_some_iff.mp hq).1
        simp at this
        omega
      subst hk
      cases hq
      exact hgF ra (hD1.2 1 _ rfl)
    · have hj : j = 0 := by
        have := (List.getElem?_eq_some_iff.mp hy).1
        simp at this
        omega
      subst hj
      cases hy
      have h1 := (hP i x hx).lt
      have h2 : x.1 = ra := hxy
      omega
  have he8 : (wl Γ S ++ [(ra, (.inl (gC Γ 0, 2 * N, .inl (va_cpy (fun j => iI (S 80 0 j)) (fun _ => 0) 0 0 N)) : va_E))])[8]? = some (gA Γ 8, .inr (2, [.ref a0])) := by
    have h8 := wl_at Γ S (k := 7) (i := 0) (by decide) (by decide)
    have h8 : (wl Γ S)[8]? = some (gA Γ 8, .inr (2, [.ref (S 81 0 0).toNat])) := h8
    rw [ha0] at h8
    rw [List.getElem?_append_left (List.getElem?_eq_some_iff.mp h8).1]
    exact h8
  refine va_put (D := gD Γ) (cl := classes) (ws := wl Γ S ++ [(ra, .inl (gC Γ 0, 2 * N, .inl (va_cpy (fun j => iI (S 80 0 j)) (fun _ => 0) 0 0 N)))]) (C := R_Diary) (T := F_Diary) (N := 1) (v := .ref ra) (ty := .array .int) hx hb hts i_Diary t_Diary t_Diary_ok n_Diary hown hK hP3 hD3 hS1 8 he8 rfl 0 (by decide) (hts _ AR_l) (fun _ h => h) rfl (by decide +kernel) rfl rfl (by show 0 < 1; decide) hd2 (fun H2 locs2 hP4 hD4 hS4 => ?_)
  have hlen : 138 ≤ (wl Γ S).length := by
    unfold wl
    rw [List.length_append, wm_len]
    omega
  have hlen2 : (wl Γ (sU (sU S 81 0 0 ra) 82 0 0 ((2 * N : Nat) : Int))).length = (wl Γ S).length := by
    have hfl : fl Γ (sU (sU S 81 0 0 ra) 82 0 0 ((2 * N : Nat) : Int)) = fl Γ S := by
      unfold fl
      simp [sU]
    unfold wl
    rw [List.length_append, List.length_append, wm_len, wm_len, hfl]
  have hcp : va_cpy (fun j => iI (S 80 0 j)) (fun _ => 0) 0 0 N = fun j => iI (S 80 0 j) := by
    funext j
    unfold va_cpy
    by_cases hj : j < N
    · rw [if_pos ⟨Nat.zero_le _, by omega⟩]
      simp
    · rw [if_neg (by omega), hz j (by omega)]
      rfl
  have hall := w_pick (ws' := wl Γ (sU (sU S 81 0 0 ra) 82 0 0 ((2 * N : Nat) : Int))) (fun n => if n = 9 then (wl Γ S).length else n) (fun n q hq => ?_) (fun i j hi hj hij => ?_) hP4 hD4
  · exact K ra H2 locs2 la hall.1 hall.2 hS4 hl
  · by_cases h9' : n = 9
    · subst h9'
      rw [if_pos rfl, List.getElem?_set_ne (by omega), List.getElem?_append_right (Nat.le_refl _), Nat.sub_self]
      rw [wl_marks] at hq
      rw [← hq]
      show some (ra, (Sum.inl (gC Γ 0, 2 * N, Sum.inl (va_cpy (fun j => iI (S 80 0 j)) (fun _ => 0) 0 0 N)) : va_E)) = some (((sU (sU S 81 0 0 ra) 82 0 0 ((2 * N : Nat) : Int)) 81 0 0).toNat, (Sum.inl (gC Γ 0, ((sU (sU S 81 0 0 ra) 82 0 0 ((2 * N : Nat) : Int)) 82 0 0).toNat, Sum.inl (fun j => iI ((sU (sU S 81 0 0 ra) 82 0 0 ((2 * N : Nat) : Int)) 80 0 j))) : va_E))
      rw [hcp, sU_eq, sU_nf (by decide), sU_eq, Int.toNat_natCast, Int.toNat_natCast, sU_f (by decide), sU_f (by decide)]
    · rw [if_neg h9']
      by_cases h8 : n = 8
      · subst h8
        have h8' := wl_at Γ (sU (sU S 81 0 0 ra) 82 0 0 ((2 * N : Nat) : Int)) (k := 7) (i := 0) (by decide) (by decide)
        have h8' : (wl Γ (sU (sU S 81 0 0 ra) 82 0 0 ((2 * N : Nat) : Int)))[8]? = some (gA Γ 8, .inr (2, [.ref ((sU (sU S 81 0 0 ra) 82 0 0 ((2 * N : Nat) : Int)) 81 0 0).toNat])) := h8'
        rw [sU_nf (by decide), sU_eq, Int.toNat_natCast] at h8'
        rw [List.getElem?_set_self (by rw [List.length_append]; omega), ← hq, h8']
        rfl
      · rw [List.getElem?_set_ne (Ne.symm h8), List.getElem?_append_left (by rw [← hlen2]; exact (List.getElem?_eq_some_iff.mp hq).1), ← wl_other Γ S ra ((2 * N : Nat) : Int) h8 h9']
        exact hq
  · rw [hlen2] at hi hj
    by_cases h1 : i = 9 <;> by_cases h2 : j = 9 <;> simp [h1, h2] at hij ⊢ <;> omega
/-- there is room for the day -/
theorem ct_reach {Γ : Gm} {S : St} {d : Int} {N : Nat} (hd : 0 ≤ d ∧ d ≤ 500) (hN : S 82 0 0 = (N : Int)) (hN1 : 1 ≤ N ∧ N ≤ 1000) (hz : ∀ j, N ≤ j → S 80 0 j = 0) : CT Γ y_Diary_reach b_Diary_reach 2 ((none : Option FieldType)) (rmx 4 1 1000) [rf Γ 7 0, nt d] S (fun v S' => v = none ∧ ∃ q : Nat, S' = if (N : Int) ≤ d then sU (sU S 81 0 0 q) 82 0 0 ((2 * N : Nat) : Int) else S) := by
  have h82 : 0 ≤ S 82 0 0 := by omega
  refine CT.of (by first | exact plainFor_of_name (by rfl) | decide +kernel) (Nat.le_of_ble_eq_true rfl) ?_
  intro G hG
  show G (0, 0) 0 [(0, rf Γ 7 0), (1, nt d)] [] _
  refine r_iload_n hG (hl0 := rfl) (hd := d_Diary_reach_0) (K := ?_)
  refine r_aload_n hG (hl0 := rfl) (hd := d_Diary_reach_1) (K := ?_)
  refine g_Diary_9 hG (hd := d_Diary_reach_2) (K := ?_)
  refine r_alenM hG (hd := d_Diary_reach_5) (h0 := h82) (K := ?_)
  refine r_icmp_lt hG (hd := d_Diary_reach_6) (kt := fun h => ?_) (kf := fun h => ?_)
  · refine r_vret hG d_Diary_reach_38 ⟨(Nat.le_of_ble_eq_true rfl), (Nat.le_of_ble_eq_true rfl)⟩ ?_
    exact ⟨rfl, 0, by rw [if_neg (by omega)]⟩
  · refine r_aload_n hG (hl0 := rfl) (hd := d_Diary_reach_9) (K := ?_)
    refine g_Diary_9 hG (hd := d_Diary_reach_10) (K := ?_)
    refine r_alenM hG (hd := d_Diary_reach_13) (h0 := h82) (K := ?_)
    refine r_sipush hG (hd := d_Diary_reach_14) (K := ?_)
    refine r_icmp_gt hG (hd := d_Diary_reach_17) (kt := fun hh => absurd hh (by omega)) (kf := fun _ => ?_)
    refine r_aload_n hG (hl0 := rfl) (hd := d_Diary_reach_20) (K := ?_)
    refine r_aload_n hG (hl0 := rfl) (hd := d_Diary_reach_21) (K := ?_)
    refine g_Diary_9 hG (hd := d_Diary_reach_22) (K := ?_)
    refine r_iconst hG (hd := d_Diary_reach_25) (K := ?_)
    refine r_aload_n hG (hl0 := rfl) (hd := d_Diary_reach_26) (K := ?_)
    refine g_Diary_9 hG (hd := d_Diary_reach_27) (K := ?_)
    refine r_alenM hG (hd := d_Diary_reach_30) (h0 := h82) (K := ?_)
    rw [hN]
    refine r_imul hG (hd := d_Diary_reach_31) (K := ?_)
    rw [show (2 : Int) * (N : Int) = ((2 * N : Nat) : Int) by omega]
    refine r_grow hG d_Diary_reach_32 d_Diary_reach_35 hN (by omega) hz ⟨Nat.le_of_ble_eq_true rfl, Nat.le_of_ble_eq_true rfl⟩ ⟨Nat.le_of_ble_eq_true rfl, Nat.le_of_ble_eq_true rfl⟩ (Nat.le_of_ble_eq_true rfl) (fun q => ?_)
    refine r_vret hG d_Diary_reach_38 ⟨(Nat.le_of_ble_eq_true rfl), (Nat.le_of_ble_eq_true rfl)⟩ ?_
    exact ⟨rfl, q, by rw [if_pos (by omega)]⟩
