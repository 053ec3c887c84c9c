/-! THE START -/
theorem lw_T1 {i : Nat} {w : Cond} (h : tables_1_1[i]? = some w) : w ∈ lw_tbl := List.mem_append_right _ (List.mem_append_left _ (List.mem_of_getElem? h))
theorem lw_T2 {i : Nat} {w : Cond} (h : tables_1_2[i]? = some w) : w ∈ lw_tbl := List.mem_append_right _ (List.mem_append_right _ (List.mem_append_left _ (List.mem_of_getElem? h)))
theorem lw_T3 {i : Nat} {w : Cond} (h : tables_1_3[i]? = some w) : w ∈ lw_tbl := List.mem_append_right _ (List.mem_append_right _ (List.mem_append_right _ (List.mem_append_left _ (List.mem_of_getElem? h))))
theorem lw_T4 {i : Nat} {w : Cond} (h : tables_1_4[i]? = some w) : w ∈ lw_tbl := List.mem_append_right _ (List.mem_append_right _ (List.mem_append_right _ (List.mem_append_right _ (List.mem_of_getElem? h))))
section ST
variable {Γ : Gm} {GK : Nat × Nat → Nat → List (Nat × Value) → List Value → WX → Prop} {G : Nat × Nat → Nat → List (Nat × Value) → List Value → St → Prop}
theorem law_made (hA : ∀ x, gA Γ x = gB Γ + x) (hG : IsK Γ room_1 b_Law_law 14 "BinWardLaw" (some .boolean) (fun _ => True) 600130 7301080 GK) (w : Nat → va_E)
    (next : ∀ S' : WX, WI Γ S' 138 (.inr (11, [ob Γ 1, ob Γ 2, nt 0, ob Γ 3, nt 0, ob Γ 4, ob Γ 7, ob Γ 8, ob Γ 10, ob Γ 11, ob Γ 33, ob Γ 34, ob Γ 35, nt 0, nt 0])) (ra Γ 1 6 (aX Γ 0) 6) (ra Γ 1 6 (aX Γ 1) 6) (ra Γ 2 3 (lX Γ) 3) → GK (138, 680) 7 [(0, .ref (gX Γ).1)] [ob Γ 0] S') : GK (0, 0) 0 [(0, .ref (gX Γ).1)] [] (w, 0) := by
  refine k_new hG (ci := 11) (fs := z_Ward) (m_T1 (i := 23) (by decide +kernel) (by decide +kernel)) (m_T1 (i := 24) (by decide +kernel) (by decide +kernel)) (m_T1 (i := 1) (by decide +kernel) (by decide +kernel)) rfl i_Ward t_Ward t_Ward_ok z_Ward_ok d_Law_law_0 ⟨Nat.le_of_ble_eq_true rfl, Nat.le_of_ble_eq_true rfl⟩ ?_
  refine k_dup hG (hd := d_Law_law_3) (K := ?_)
  refine k_init hG (m_T1 (i := 25) (by decide +kernel) (by decide +kernel)) (m_T1 (i := 26) (by decide +kernel) (by decide +kernel)) (m_T1 (i := 1) (by decide +kernel) (by decide +kernel)) (m_T1 (i := 27) (by decide +kernel) (by decide +kernel)) (m_T1 (i := 27) (by decide +kernel) (by decide +kernel)) ⟨by decide, by decide⟩ (by decide +kernel) rfl d_Law_law_4 (ck_Ward hA upk_eq) ⟨Nat.le_of_ble_eq_true rfl, Nat.le_of_ble_eq_true rfl⟩ ⟨by first|exact Nat.le_of_ble_eq_true rfl|(simp [rmx]; omega), by first|exact Nat.le_of_ble_eq_true rfl|(simp [rmx]; omega)⟩ (Nat.le_of_ble_eq_true rfl) (fun S1 hp => ?_)
  exact next S1 hp
theorem law_from7 (hL : (gX Γ).2.1 < 1000) (hG : IsG Γ room_1 b_Law_law 14 "BinWardLaw" (some .boolean) (fun v _ => v = some (nt 1)) 600130 7301080 G) : G (138, 680) 7 [(0, .ref (gX Γ).1)] [rf Γ 0 0] (Z Γ) := by
  refine r_astore_n hG (hd := d_Law_law_7) (K := ?_)
  exact r_sb hG (law_body hL hG) ⟨rfl, rfl, trivial⟩
end ST
theorem ret_bool {i : Instr} {v : Option Value} (h : isRet (some .boolean) i v) : i = .ireturn := by
  rcases h with ⟨h, -⟩ | ⟨-, h, -⟩ | ⟨h, -⟩ | ⟨h, -⟩ | ⟨⟨rt, h, h2⟩, -⟩ | ⟨h, -⟩
  · cases h
  · exact h
  · cases h
  · cases h
  · cases h
    rcases h2 with ⟨n, h2⟩ | ⟨t, h2⟩ <;> cases h2
  · cases h
theorem nt_1 : nt 1 = .int 1 := congrArg Value.int (by decide)
theorem start_of {p : Program} {e : Env} {s : State} {m : MethodId} {below : List Frame} {meth : Method} {c : Code} {Γ : Gm} (hx : p.tables.exec = Jvm.exec) (hb : c.code = code) (hr : meth.sig.returnType = ret) (hml : c.maxLocals = 14) (hown : s.vm.findClass R_law = some m.cls) (hts : ∀ w ∈ tg, w.before #[Value.ref (gX Γ).1] s = true) (hlocks : meth.locks = false)
    (hgb : gB Γ = s.heap.size) (hA : ∀ x, gA Γ x = gB Γ + x) (hK : va_K (gD Γ) classes (tys Γ) s) (hX : va_X (gX Γ).1 (gX Γ).2.1 (gX Γ).2.2 s s.heap) (hbl : (gX Γ).1 < gB Γ) (hN : NK s) (hL : (gX Γ).2.1 < 1000) :
    W p (gL Γ) e room_1 s m #[Value.ref (gX Γ).1] below meth c s.heap [] 0 0 (lw_Z below #[Value.ref (gX Γ).1] s) (entryFrame m ([Value.ref (gX Γ).1] : List Value).toArray 14) := by
  have hl := lv_entry ([.ref (gX Γ).1]) (n := 14) (Nat.le_of_ble_eq_true rfl)
  rw [lg_entry_eq]
  generalize (lg_sl ([.ref (gX Γ).1]) ++ List.replicate (14 - (lg_sl ([.ref (gX Γ).1])).length) Slot.unset).toArray = la at hl ⊢
  have hl : lv_has la 14 [(0, .ref (gX Γ).1)] := hl
  have hB : gB Γ ≤ s.heap.size := by rw [hgb]; exact Nat.le_refl _
  have hG : IsG Γ room_1 b_Law_law 14 "BinWardLaw" (some .boolean) (fun v _ => v = some (nt 1)) 600130 7301080 (fun cs pc ls st S => ∀ (H : Heap) (locs : List Loc) (la : Array Slot), va_P (gD Γ) classes (wl Γ S) H → va_D (gF Γ) (wl Γ S) → va_S (gF Γ) s.heap H locs → lv_has la 14 ls → W p (gL Γ) e room_1 s m #[Value.ref (gX Γ).1] below meth c H locs cs.1 cs.2 (lw_Z below #[Value.ref (gX Γ).1] s) (F0 m pc la st)) := by
    refine ⟨p, e, s, m, #[Value.ref (gX Γ).1], below, meth, c, lw_Z below #[Value.ref (gX Γ).1] s, hx, hb, hml, hown, hts, hK, hB, ⟨⟨hX, hbl⟩, hN.2.2.2⟩, ?_, rfl⟩
    intro k n pc i v S H locs la hP hD hS hk hn hdec hret hv
    have hi := ret_bool hret
    subst hi
    subst hv
    refine va_forget (fun q hq => ?_) ?_
    · rw [← hgb]
      exact hS.2.2 q hq
    · refine W.widen hk hn ?_
      show W p (gL Γ) e room_1 s m #[Value.ref (gX Γ).1] below meth c H [] 600130 7301080 (lw_Z below #[Value.ref (gX Γ).1] s) (F0 m pc la [nt 1])
      rw [nt_1]
      exact lw_ret (d0 := s.drawn) (Drawn.sameBut.refl s.drawn lw_cs) hx hb hr hlocks hdec
  have g7 := law_from7 hL hG
  have hGK : IsK Γ room_1 b_Law_law 14 "BinWardLaw" (some .boolean) (fun _ => True) 600130 7301080 (fun cs pc ls st S => ∀ (H : Heap) (locs : List Loc) (la : Array Slot), va_P (gD Γ) classes (wn Γ S) H → H.size = gB Γ + S.2 → va_S (gF Γ) s.heap H locs → lv_has la 14 ls → W p (gL Γ) e room_1 s m #[Value.ref (gX Γ).1] below meth c H locs cs.1 cs.2 (lw_Z below #[Value.ref (gX Γ).1] s) (F0 m pc la st)) := by
    refine ⟨p, e, s, m, #[Value.ref (gX Γ).1], below, meth, c, lw_Z below #[Value.ref (gX Γ).1] s, hx, hb, hml, hown, hts, hK, hB, ⟨⟨⟨hX, hbl⟩, hN⟩, fun h => absurd rfl h⟩, ?_, rfl⟩
    intro k n pc S H locs la hP hD hS hk hn hdec hret hv
    cases hret
  have k0 := law_made hA hGK (fun _ => .inr (0, [])) (fun S' hp => by
    have ew := wi_wl hA hp
    have e0 : rf Γ 0 0 = ob Γ 0 := by
      show Value.ref (gA Γ 0) = .ref (gB Γ + 0)
      rw [hA]
    intro H locs la hP hD hS hl
    have wd := wn_D Γ S'
    rw [ew] at hP wd
    rw [← e0]
    exact g7 H locs la hP wd hS hl)
  exact k0 s.heap [] la (fun k q h => by simp [wn] at h) hgb.symm va_S.rf hl
set_option maxHeartbeats 4000000 in
/-- from the entry, for every script of at most 260 ints, the law comes to its end with true -/
theorem whole_start {p : Program} {e : Env} {s : State} {m : MethodId} {below : List Frame} {meth : Method} {c : Code} (l : Launch) (hflags : l.flags = flags0) {b L : Nat} {xs : Nat → Int32} (hL : L ≤ 260) (C0 : lw_At p s m meth c b L xs) : W p l e room_1 s m #[Value.ref b] below meth c s.heap [] 0 0 (lw_Z below #[Value.ref b] s) (entryFrame m ([Value.ref b] : List Value).toArray 14) := by
  obtain ⟨hx, hb, hr, hml, hown, hts0, hX, hbl, hlocks, hgv⟩ := id C0
  have hts : ∀ w ∈ tg, w.before #[Value.ref b] s = true := fun w hw => hts0 w (List.mem_filter.mp hw).1
  obtain ⟨c0, iS0, hKn0⟩ := u_known (C := R_Bale) (T := F_Bale) (N := 4) (n := 4) hts i_Bale (hts _ (m_T1 (i := 123) (by decide +kernel) (by decide +kernel)))
  obtain ⟨c1, iS1, hKn1⟩ := u_known (C := R_Baler) (T := F_Baler) (N := 4) (n := 4) hts i_Baler (hts _ (m_T1 (i := 116) (by decide +kernel) (by decide +kernel)))
  obtain ⟨c2, iS2, hKn2⟩ := u_known (C := R_Diary) (T := F_Diary) (N := 1) (n := 1) hts i_Diary (hts _ (m_T1 (i := 88) (by decide +kernel) (by decide +kernel)))
  obtain ⟨c3, iS3, hKn3⟩ := u_known (C := R_Furnace) (T := F_Furnace) (N := 5) (n := 5) hts i_Furnace (hts _ (m_T1 (i := 166) (by decide +kernel) (by decide +kernel)))
  obtain ⟨c4, iS4, hKn4⟩ := u_known (C := R_Heap) (T := F_Heap) (N := 5) (n := 5) hts i_Heap (hts _ (m_T1 (i := 192) (by decide +kernel) (by decide +kernel)))
  obtain ⟨c5, iS5, hKn5⟩ := u_known (C := R_Line) (T := F_Line) (N := 3) (n := 3) hts i_Line (hts _ (m_T1 (i := 98) (by decide +kernel) (by decide +kernel)))
  obtain ⟨c6, iS6, hKn6⟩ := u_known (C := R_Lorry) (T := F_Lorry) (N := 9) (n := 9) hts i_Lorry (hts _ (m_T2 (i := 45) (by decide +kernel) (by decide +kernel)))
  obtain ⟨c7, iS7, hKn7⟩ := u_known (C := R_Pit) (T := F_Pit) (N := 4) (n := 4) hts i_Pit (hts _ (m_T1 (i := 219) (by decide +kernel) (by decide +kernel)))
  obtain ⟨c8, iS8, hKn8⟩ := u_known (C := R_Search) (T := F_Search) (N := 3) (n := 3) hts i_Search (hts _ (m_T1 (i := 70) (by decide +kernel) (by decide +kernel)))
  obtain ⟨c9, iS9, hKn9⟩ := u_known (C := R_Street) (T := F_Street) (N := 9) (n := 9) hts i_Street (hts _ (m_T2 (i := 1) (by decide +kernel) (by decide +kernel)))
  obtain ⟨c10, iS10, hKn10⟩ := u_known (C := R_Trip) (T := F_Trip) (N := 6) (n := 6) hts i_Trip (hts _ (m_T1 (i := 36) (by decide +kernel) (by decide +kernel)))
  obtain ⟨c11, iS11, hKn11⟩ := u_known (C := R_Ward) (T := F_Ward) (N := 15) (n := 15) hts i_Ward (hts _ (m_T1 (i := 24) (by decide +kernel) (by decide +kernel)))
  have hKc : ∀ (k : Nat) (q : vw_C), classes[k]? = some q → u_Kn s q.1 q.2.1 q.2.2 ([c0, c1, c2, c3, c4, c5, c6, c7, c8, c9, c10, c11].getD k c0) ([iS0, iS1, iS2, iS3, iS4, iS5, iS6, iS7, iS8, iS9, iS10, iS11].getD k iS0) := by
    intro k q hq
    match k, hq with
    | 0, hq => cases hq; exact hKn0
    | 1, hq => cases hq; exact hKn1
    | 2, hq => cases hq; exact hKn2
    | 3, hq => cases hq; exact hKn3
    | 4, hq => cases hq; exact hKn4
    | 5, hq => cases hq; exact hKn5
    | 6, hq => cases hq; exact hKn6
    | 7, hq => cases hq; exact hKn7
    | 8, hq => cases hq; exact hKn8
    | 9, hq => cases hq; exact hKn9
    | 10, hq => cases hq; exact hKn10
    | 11, hq => cases hq; exact hKn11
    | k + 12, hq => simp [classes] at hq
  obtain ⟨a0, k0, p0, f0, g0, d0⟩ := Cond.arrayClass_spec (hts0 (Cond.arrayClass .int) (lw_T1 (i := 68) (by decide +kernel)))
  have ao1 := hts0 (Cond.arrayOver (.object "BinWard$Street")) (lw_T1 (i := 32) (by decide +kernel))
  obtain ⟨p1, a1, k1, f1, -, g1, d1, h1⟩ := Cond.arrayOver_spec ao1
  have ao2 := hts0 (Cond.arrayOver (.object "BinWard$Lorry")) (lw_T1 (i := 34) (by decide +kernel))
  obtain ⟨p2, a2, k2, f2, -, g2, d2, h2⟩ := Cond.arrayOver_spec ao2
  have ao3 := hts0 (Cond.arrayOver (.object "BinWard$Bale")) (lw_T1 (i := 122) (by decide +kernel))
  obtain ⟨p3, a3, k3, f3, -, g3, d3, h3⟩ := Cond.arrayOver_spec ao3
  have ao4 := hts0 (Cond.arrayOver (.array .int)) (lw_T2 (i := 51) (by decide +kernel))
  obtain ⟨p4, a4, k4, f4, g4, d4, h4⟩ := Cond.arrayOver_specA ao4
  have hTy : ∀ (k : Nat) (q : ClassId × FieldType), ([(a0, .int), (a1, .object "BinWard$Street"), (a2, .object "BinWard$Lorry"), (a3, .object "BinWard$Bale"), (a4, .array .int)] : List (ClassId × FieldType))[k]? = some q → ArrOfT s q.1 q.2 ∧ va_RA s q.1 q.2 := by
    intro k q hq
    match k, hq with
    | 0, hq => cases hq; exact ⟨fun N z => ⟨(fun k h => by cases h), k0, g0, p0, d0⟩, f0⟩
    | 1, hq => cases hq; exact ⟨fun N z => ⟨(fun k h => by cases h), k1, g1, p1, d1⟩, k1, p1, g1, d1, f1, h1⟩
    | 2, hq => cases hq; exact ⟨fun N z => ⟨(fun k h => by cases h), k2, g2, p2, d2⟩, k2, p2, g2, d2, f2, h2⟩
    | 3, hq => cases hq; exact ⟨fun N z => ⟨(fun k h => by cases h), k3, g3, p3, d3⟩, k3, p3, g3, d3, f3, h3⟩
    | 4, hq => cases hq; exact ⟨fun N z => ⟨(fun k h => by cases h), k4, g4, p4, d4⟩, h4⟩
    | k + 5, hq => simp at hq
  have hnk : ∀ q ∈ nkL, va_Nw (.methodLinkNest q.1 q.2.1 q.2.2.1 q.2.2.2) s := List.forall_mem_cons.mpr ⟨va_Nw.of rfl (hts0 _ (lw_T1 (i := 37) (by decide +kernel))), List.forall_mem_cons.mpr ⟨va_Nw.of rfl (hts0 _ (lw_T1 (i := 71) (by decide +kernel))), List.forall_mem_cons.mpr ⟨va_Nw.of rfl (hts0 _ (lw_T1 (i := 89) (by decide +kernel))), List.forall_mem_cons.mpr ⟨va_Nw.of rfl (hts0 _ (lw_T1 (i := 99) (by decide +kernel))), List.forall_mem_cons.mpr ⟨va_Nw.of rfl (hts0 _ (lw_T1 (i := 124) (by decide +kernel))), List.forall_mem_cons.mpr ⟨va_Nw.of rfl (hts0 _ (lw_T1 (i := 167) (by decide +kernel))), List.forall_mem_cons.mpr ⟨va_Nw.of rfl (hts0 _ (lw_T1 (i := 193) (by decide +kernel))), List.forall_mem_cons.mpr ⟨va_Nw.of rfl (hts0 _ (lw_T1 (i := 220) (by decide +kernel))), List.forall_mem_cons.mpr ⟨va_Nw.of rfl (hts0 _ (lw_T2 (i := 2) (by decide +kernel))), List.forall_mem_cons.mpr ⟨va_Nw.of rfl (hts0 _ (lw_T2 (i := 46) (by decide +kernel))), List.forall_mem_cons.mpr ⟨va_Nw.of rfl (hts0 _ (lw_T2 (i := 53) (by decide +kernel))), fun _ h => absurd h List.not_mem_nil⟩⟩⟩⟩⟩⟩⟩⟩⟩⟩⟩
  have hNK : NK s := ⟨hnk, ⟨va_AO.of ao1, va_AO.of ao2, va_AO.of ao3⟩, ao4, va_Nw.of rfl (hts0 _ (lw_T4 (i := 124) (by decide +kernel)))⟩
  exact start_of (Γ := (l, (fun k => [c0, c1, c2, c3, c4, c5, c6, c7, c8, c9, c10, c11].getD k c0, fun k => [iS0, iS1, iS2, iS3, iS4, iS5, iS6, iS7, iS8, iS9, iS10, iS11].getD k iS0), fun k => [a0, a1, a2, a3, a4].getD k a0, s.heap.size, fun k => s.heap.size + k, b, L, xs)) hx hb hr hml hown hts hlocks rfl (fun _ => rfl) ⟨hKc, hTy⟩ hX hbl hNK (by show L < 1000; omega)
