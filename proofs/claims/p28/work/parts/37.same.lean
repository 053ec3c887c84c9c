/-! THE SPARE STREETS go the way of the real ones -/
def AG (A : St) (w : Nat) (B : St) (w' n : Nat) : Prop := ∀ e, e < n → (A 10 (2 * e + w) 0 = B 10 (2 * e + w') 0 ∧ A 11 (2 * e + w) 0 = B 11 (2 * e + w') 0 ∧ A 12 (2 * e + w) 0 = B 12 (2 * e + w') 0) ∧ ∀ j, j < 3 → A 15 (2 * e + w) j = B 15 (2 * e + w') j ∧ A 16 (2 * e + w) j = B 16 (2 * e + w') j ∧ A 17 (2 * e + w) j = B 17 (2 * e + w') j
def AC (A : St) (c : Nat) (B : St) (c' : Nat) : Prop := ∀ k, k < 2 → A 34 c k = B 34 c' k ∧ A 35 c k = B 35 c' k
def AL (A B : St) : Prop := A 20 = B 20 ∧ A 25 = B 25 ∧ A 26 = B 26 ∧ A 27 = B 27
theorem AG.of {A B A' B' : St} {w w' n : Nat} (h : AG A w B w' n) (ha : ∀ f, f ∈ [10, 11, 12, 15, 16, 17] → A' f = A f) (hb : ∀ f, f ∈ [10, 11, 12, 15, 16, 17] → B' f = B f) : AG A' w B' w' n := by
  intro e he
  rw [ha 10 (by decide), ha 11 (by decide), ha 12 (by decide), ha 15 (by decide), ha 16 (by decide), ha 17 (by decide), hb 10 (by decide), hb 11 (by decide), hb 12 (by decide), hb 15 (by decide), hb 16 (by decide), hb 17 (by decide)]
  exact h e he
theorem AG_thrK {A B : St} {w w' n e j : Nat} (h : AG A w B w' n) (he : e < n) (hj : j < 3) : AG (thrK A (2 * e + w) j) w (thrK B (2 * e + w') j) w' n := by
  obtain ⟨⟨p1, p2, p3⟩, p4⟩ := h e he
  obtain ⟨b1, b2, b3⟩ := p4 j hj
  have hf : foulOf A (2 * e + w) j = foulOf B (2 * e + w') j := by unfold foulOf; rw [b1, p2]
  intro e' he'
  obtain ⟨⟨q1, q2, q3⟩, q4⟩ := h e' he'
  rw [thrK_of (f := 10) A _ _ (by decide), thrK_of (f := 10) B _ _ (by decide), thrK_of (f := 11) A _ _ (by decide), thrK_of (f := 11) B _ _ (by decide), thrK_of (f := 15) A _ _ (by decide), thrK_of (f := 15) B _ _ (by decide)]
  refine ⟨⟨q1, q2, ?_⟩, fun j' hj' => ⟨(q4 j' hj').1, ?_, ?_⟩⟩
  · rw [thrK_12, thrK_12]
    by_cases hh : e' = e
    · subst hh
      rw [if_pos rfl, if_pos rfl, p3, b1, b2, b3, hf]
    · rw [if_neg (by omega), if_neg (by omega)]
      exact q3
  · rw [thrK_16, thrK_16]
    by_cases hh : e' = e ∧ j' = j
    · obtain ⟨rfl, rfl⟩ := hh
      rw [if_pos ⟨rfl, rfl⟩, if_pos ⟨rfl, rfl⟩, b1, b2, b3, hf]
    · rw [if_neg (fun q => hh ⟨by omega, q.2⟩), if_neg (fun q => hh ⟨by omega, q.2⟩)]
      exact (q4 j' hj').2.1
  · rw [thrK_17, thrK_17]
    by_cases hh : e' = e ∧ j' = j
    · obtain ⟨rfl, rfl⟩ := hh
      rw [if_pos ⟨rfl, rfl⟩, if_pos ⟨rfl, rfl⟩, b1, b2, b3, hf]
    · rw [if_neg (fun q => hh ⟨by omega, q.2⟩), if_neg (fun q => hh ⟨by omega, q.2⟩)]
      exact (q4 j' hj').2.2
theorem AG_fillF {A B : St} {w w' n : Nat} (h : AG A w B w' n) : ∀ k, k ≤ n → AG (fillF A w k) w (fillF B w' k) w' n
  | 0, _ => h
  | k + 1, hk => by
    have ih := AG_fillF h k (by omega)
    simp only [fillF, thr]
    exact AG_thrK (AG_thrK (AG_thrK ih (by omega) (by decide)) (by omega) (by decide)) (by omega) (by decide)
theorem AG_loadS {A B : St} {w w' n e j k c c' : Nat} (h : AG A w B w' n) (hc : AC A c B c') (he : e < n) (hj : j < 3) (hk : k < 2) : AG (loadS A c (2 * e + w) j k) w (loadS B c' (2 * e + w') j k) w' n ∧ AC (loadS A c (2 * e + w) j k) c (loadS B c' (2 * e + w') j k) c' := by
  obtain ⟨b1, b2, b3⟩ := (h e he).2 j hj
  obtain ⟨c1, c2⟩ := hc k hk
  have hp : pureL A c (2 * e + w) j k = pureL B c' (2 * e + w') j k := by unfold pureL; rw [b2, c1, c2]
  have hf : foulL A c (2 * e + w) j k = foulL B c' (2 * e + w') j k := by unfold foulL; rw [b3, c1, c2, hp]
  refine ⟨fun e' he' => ?_, fun k' hk' => ?_⟩
  · obtain ⟨q0, q4⟩ := h e' he'
    rw [loadS_of A _ _ _ _ (by decide), loadS_of B _ _ _ _ (by decide), loadS_of A _ _ _ _ (by decide), loadS_of B _ _ _ _ (by decide), loadS_of A _ _ _ _ (by decide), loadS_of B _ _ _ _ (by decide), loadS_of A _ _ _ _ (by decide), loadS_of B _ _ _ _ (by decide)]
    refine ⟨q0, fun j' hj' => ⟨(q4 j' hj').1, ?_, ?_⟩⟩
    · rw [loadS_16, loadS_16]
      by_cases hh : e' = e ∧ j' = j
      · obtain ⟨rfl, rfl⟩ := hh
        rw [if_pos ⟨rfl, rfl⟩, if_pos ⟨rfl, rfl⟩, b2, hp]
      · rw [if_neg (fun q => hh ⟨by omega, q.2⟩), if_neg (fun q => hh ⟨by omega, q.2⟩)]
        exact (q4 j' hj').2.1
    · rw [loadS_17, loadS_17]
      by_cases hh : e' = e ∧ j' = j
      · obtain ⟨rfl, rfl⟩ := hh
        rw [if_pos ⟨rfl, rfl⟩, if_pos ⟨rfl, rfl⟩, b3, hf]
      · rw [if_neg (fun q => hh ⟨by omega, q.2⟩), if_neg (fun q => hh ⟨by omega, q.2⟩)]
        exact (q4 j' hj').2.2
  · rw [loadS_34, loadS_34, loadS_35, loadS_35]
    by_cases hh : k' = k
    · subst hh
      rw [if_pos ⟨rfl, rfl⟩, if_pos ⟨rfl, rfl⟩, if_pos ⟨rfl, rfl⟩, if_pos ⟨rfl, rfl⟩, c1, c2, hp, hf]
      exact ⟨rfl, rfl⟩
    · rw [if_neg (fun q => hh q.2), if_neg (fun q => hh q.2), if_neg (fun q => hh q.2), if_neg (fun q => hh q.2)]
      exact hc k' hk'
theorem AG_emptyS {A B : St} {w w' n e i c c' : Nat} (h : AG A w B w' n) (hc : AC A c B c') (hl : AL A B) (he : e < n) (hL : okL A i) : AG (emptyS A c (2 * e + w) i) w (emptyS B c' (2 * e + w') i) w' n ∧ AC (emptyS A c (2 * e + w) i) c (emptyS B c' (2 * e + w') i) c' := by
  obtain ⟨j0, h0, e0⟩ := hL.2.1 0 (by decide)
  obtain ⟨j1, h1, e1⟩ := hL.2.1 1 (by decide)
  have t0 : (A 25 i 0).toNat = j0 := by rw [e0, Int.toNat_natCast]
  have t1 : (A 25 i 1).toNat = j1 := by rw [e1, Int.toNat_natCast]
  have u0 : (B 25 i 0).toNat = j0 := by rw [← hl.2.1, t0]
  have u1 : (B 25 i 1).toNat = j1 := by rw [← hl.2.1, t1]
  have a := AG_loadS (k := 0) h hc he h0 (by decide)
  have b := AG_loadS (k := 1) a.1 a.2 he h1 (by decide)
  have eA : load2 A c (2 * e + w) i = loadS (loadS A c (2 * e + w) j0 0) c (2 * e + w) j1 1 := by unfold load2; rw [t0, t1]
  have eB : load2 B c' (2 * e + w') i = loadS (loadS B c' (2 * e + w') j0 0) c' (2 * e + w') j1 1 := by unfold load2; rw [u0, u1]
  rw [← eA, ← eB] at b
  refine ⟨b.1.of (fun f hf => emptyS_load _ _ _ _ ?_) (fun f hf => emptyS_load _ _ _ _ ?_), fun k hk => ?_⟩
  · simp only [List.mem_cons, List.not_mem_nil, or_false] at hf; omega
  · simp only [List.mem_cons, List.not_mem_nil, or_false] at hf; omega
  · rw [emptyS_load _ _ _ _ (by decide), emptyS_load _ _ _ _ (by decide), emptyS_load _ _ _ _ (by decide), emptyS_load _ _ _ _ (by decide)]
    exact b.2 k hk
theorem AL_empty {A B : St} {c t i c' t' i' : Nat} (h : AL A B) : AL (emptyS A c t i) (emptyS B c' t' i') := by
  unfold AL
  rw [emptyS_of A _ _ _ (by decide) (by decide), emptyS_of A _ _ _ (by decide) (by decide), emptyS_of A _ _ _ (by decide) (by decide), emptyS_of A _ _ _ (by decide) (by decide), emptyS_of B _ _ _ (by decide) (by decide), emptyS_of B _ _ _ (by decide) (by decide), emptyS_of B _ _ _ (by decide) (by decide), emptyS_of B _ _ _ (by decide) (by decide)]
  exact h
theorem AG_drv {w w' n c c' i d : Nat} : ∀ (m q : Nat) (A B : St) (a k : Int), q + m ≤ 6 → AG A w B w' n → AC A c B c' → AL A B → okL A i → (∀ q, q < 6 → ∃ e : Nat, e < n ∧ A 27 (7 * i + d) q = (e : Int)) →
    AG (drv w c i d m q A a k).1 w (drv w' c' i d m q B a k).1 w' n ∧ (drv w c i d m q A a k).2 = (drv w' c' i d m q B a k).2
  | 0, _, _, _, _, _, _, h, _, _, _, _ => ⟨h, rfl⟩
  | m + 1, q, A, B, a, k, hq, h, hc, hl, hL, hr => by
    obtain ⟨e, he, hx⟩ := hr q (by omega)
    have rA : rst A w i d q = 2 * e + w := by unfold rst; rw [hx, Int.toNat_natCast]
    have rB : rst B w' i d q = 2 * e + w' := by unfold rst; rw [← hl.2.2.2, hx, Int.toNat_natCast]
    have h10 := (h e he).1.1
    simp only [drv]
    rw [rA, rB, ← h10, ← hl.1]
    split
    · have x := AG_emptyS h hc hl he hL
      exact AG_drv m (q + 1) _ _ _ _ (by omega) x.1 x.2 (AL_empty hl) (emptyS_okL hL) (by rw [emptyS_of A _ _ _ (by decide) (by decide)]; exact hr)
    · exact ⟨h, rfl⟩
theorem AG_driveS {A B : St} {w w' n c c' i d : Nat} (h : AG A w B w' n) (hl : AL A B) (hL : okL A i) (hd : d < 7) (hr : ∀ q, q < 6 → ∃ e : Nat, e < n ∧ A 27 (7 * i + d) q = (e : Int)) : AG (driveS A w c i d) w (driveS B w' c' i d) w' n := by
  obtain ⟨m, hm, e26⟩ := hL.2.2.1 d hd
  have hb : ∀ (S : St) (c : Nat) (f : Nat), f ∈ [10, 11, 12, 15, 16, 17, 20, 25, 26, 27] → beginS S c f = S f := fun S c f hf => beginS_of S c (by
    simp only [List.mem_cons, List.not_mem_nil, or_false] at hf; omega)
  have m1 : (A 26 i d).toNat = m := by rw [e26, Int.toNat_natCast]
  have m2 : (B 26 i d).toNat = m := by rw [← hl.2.2.1, m1]
  have hc : AC (beginS A c) c (beginS B c') c' := by
    intro k hk
    rcases (show k = 0 ∨ k = 1 by omega) with rfl | rfl <;> simp [beginS, sU]
  have h0 : AG (beginS A c) w (beginS B c') w' n := h.of (fun f hf => hb A c f (by simp only [List.mem_cons, List.not_mem_nil, or_false] at hf ⊢; omega)) (fun f hf => hb B c' f (by simp only [List.mem_cons, List.not_mem_nil, or_false] at hf ⊢; omega))
  have hl0 : AL (beginS A c) (beginS B c') := by
    unfold AL
    rw [hb A c 20 (by decide), hb A c 25 (by decide), hb A c 26 (by decide), hb A c 27 (by decide), hb B c' 20 (by decide), hb B c' 25 (by decide), hb B c' 26 (by decide), hb B c' 27 (by decide)]
    exact hl
  have hL0 : okL (beginS A c) i := okL_of hL (hb A c 20 (by decide)) (hb A c 25 (by decide)) (hb A c 26 (by decide)) (hb A c 27 (by decide))
  have x := AG_drv (d := d) m 0 _ _ 0 0 (by omega) h0 hc hl0 hL0 (by rw [hb A c 27 (by decide)]; exact hr)
  refine x.1.of (fun f hf => ?_) (fun f hf => ?_)
  · unfold driveS drvE
    rw [m1, sU_f (by simp only [List.mem_cons, List.not_mem_nil, or_false] at hf; omega)]
  · unfold driveS drvE
    rw [m2, sU_f (by simp only [List.mem_cons, List.not_mem_nil, or_false] at hf; omega)]
theorem AL.of {A B A' B' : St} (h : AL A B) (ha : ∀ f, f ∈ [20, 25, 26, 27] → A' f = A f) (hb : ∀ f, f ∈ [20, 25, 26, 27] → B' f = B f) : AL A' B' := by
  unfold AL
  rw [ha 20 (by decide), ha 25 (by decide), ha 26 (by decide), ha 27 (by decide), hb 20 (by decide), hb 25 (by decide), hb 26 (by decide), hb 27 (by decide)]
  exact h
theorem AG_days {A B : St} {n d : Nat} (hd : d < 7) (h : AG A 0 B 1 n) (hl : AL A B) (hL : ∀ i, i < 3 → okL A i) (hr : okR A n) : ∀ k, k ≤ 3 → AG (dvN A d k).1 0 (spD B d k) 1 n
  | 0, _ => h
  | k + 1, hk => by
    have ih := AG_days hd h hl hL hr k (by omega)
    have kp := KP_spD B d k
    have eA : ∀ f, f ∈ [20, 25, 26, 27] → (dvN A d k).1 f = A f := fun f hf => by
      simp only [List.mem_cons, List.not_mem_nil, or_false] at hf
      exact dvN_of A d (by omega) (by omega) (by omega) (by omega) (by omega) k
    have eB : ∀ f, f ∈ [20, 25, 26, 27] → spD B d k f = B f := fun f hf => kp.fld (by simp only [List.mem_cons, List.not_mem_nil, or_false] at hf ⊢; omega)
    have x := AG_driveS (c := k) (c' := 3) ih (hl.of eA eB) (okL_of (hL k (by omega)) (eA 20 (by decide)) (eA 25 (by decide)) (eA 26 (by decide)) (eA 27 (by decide))) hd (by rw [eA 27 (by decide)]; exact hr k (by omega) d hd)
    simp only [dvN, spD]
    exact x.of (fun f hf => dvK_drive _ _ _ (by simp only [List.mem_cons, List.not_mem_nil, or_false] at hf; omega) (by simp only [List.mem_cons, List.not_mem_nil, or_false] at hf; omega)) (fun f hf => rfl)
theorem AG_day {A B : St} {ns nl dn q : Nat} (W : WF A ns nl dn) (h : AG A 0 B 1 ns) (hl : AL A B) (hr : okR A ns) : AG (dayF q A ns nl) 0 (spD (fillF B 1 ns) ((dn + 1) % 7) nl) 1 ns := by
  obtain ⟨⟨h0, hns⟩, ⟨h1, hnl⟩, ⟨h2, -⟩, hT, hL, hM, hI, hS, hz, hlit⟩ := W
  have eA : ∀ f, f ∈ [10, 11, 12, 15, 16, 17, 20, 25, 26, 27] → dayA q A f = A f := fun f hf => dayA_of q A (by simp only [List.mem_cons, List.not_mem_nil, or_false] at hf; omega)
  have a1 : AG (dayA q A) 0 B 1 ns := h.of (fun f hf => eA f (by simp only [List.mem_cons, List.not_mem_nil, or_false] at hf ⊢; omega)) (fun _ _ => rfl)
  have a2 := AG_fillF a1 ns (Nat.le_refl _)
  have fA : ∀ (S : St) (w : Nat) (f : Nat), f ∈ [20, 25, 26, 27] → fillF S w ns f = S f := fun S w f hf => fillF_of S w (by simp only [List.mem_cons, List.not_mem_nil, or_false] at hf; omega) ns
  have hl1 : AL (fillF (dayA q A) 0 ns) (fillF B 1 ns) := hl.of (fun f hf => (fA _ _ f hf).trans (eA f (by simp only [List.mem_cons, List.not_mem_nil, or_false] at hf ⊢; omega))) (fun f hf => fA _ _ f hf)
  have e : ∀ f, f ∈ [20, 25, 26, 27] → fillF (dayA q A) 0 ns f = A f := fun f hf => (fA _ _ f hf).trans (eA f (by simp only [List.mem_cons, List.not_mem_nil, or_false] at hf ⊢; omega))
  have hL1 : ∀ i, i < 3 → okL (fillF (dayA q A) 0 ns) i := fun i hi => okL_of (hL i hi) (e 20 (by decide)) (e 25 (by decide)) (e 26 (by decide)) (e 27 (by decide))
  have hr1 : okR (fillF (dayA q A) 0 ns) ns := by
    unfold okR
    rw [e 27 (by decide)]
    exact hr
  have hd : ((A 2 0 0 + 1) % 7).toNat = (dn + 1) % 7 := by omega
  have a3 := AG_days (d := (dn + 1) % 7) (by omega) a2 hl1 hL1 hr1 nl hnl
  refine a3.of (fun f hf => ?_) (fun _ _ => rfl)
  simp only [List.mem_cons, List.not_mem_nil, or_false] at hf
  unfold dayF dayD
  rw [hd, gasF_of _ (by omega), ripF_of _ (by omega), srtF_of _ _ (by omega)]
theorem AG_litN {A B : St} {n : Nat} (h : AG A 0 B 1 n) : ∀ k, k ≤ n → litN A 0 k = litN B 1 k
  | 0, _ => rfl
  | k + 1, hk => by
    simp only [litN]
    rw [AG_litN h k (by omega), (h k (by omega)).1.2.2]
theorem okR_of {S S' : St} {ns : Nat} (h : okR S ns) (e : S' 27 = S 27) : okR S' ns := by
  unfold okR
  rw [e]
  exact h
theorem nX (f : Nat) (h : ¬ (f ∈ [2, 81, 82, 80, 16, 17, 12, 18, 34, 35, 33, 31, 32, 30, 24, 21, 22, 23, 14] ∨ (47 ≤ f ∧ f ≤ 73))) : ¬ dayX f := h
theorem AG_pass {A S : St} {ns nl dn : Nat} (W : WF A ns nl dn) (hr : okR A ns) (h : AG A 0 (cpN S ns) 1 ns) (hl : AL A (cpN S ns)) : ∀ (n : Nat) (r : Int) (A' : St), dn + n ≤ 400 → PassR ns nl n A r A' → AG A' 0 (spN S ns nl dn n) 1 ns
  | 0, r, A', _, hp => by
    obtain ⟨rfl, rfl⟩ := hp
    exact h
  | n + 1, r, A', hn, hp => by
    obtain ⟨S1, r1, hp, q, rfl, rfl⟩ := hp
    have ih := AG_pass W hr h hl n r1 S1 (by omega) hp
    obtain ⟨a1, a2, a3, a4, a5, a6⟩ := pass_all W n r1 S1 (by omega) hp
    have kp := KP_spN S ns nl dn n
    have kc := KP_cpN S ns
    have e1 : ∀ f, f ∈ [20, 25, 26, 27] → S1 f = A f := fun f hf => a6 (nX f (by simp only [List.mem_cons, List.not_mem_nil, or_false] at hf ⊢; omega))
    have e2 : ∀ f, f ∈ [20, 25, 26, 27] → spN S ns nl dn n f = cpN S ns f := fun f hf => (kp.fld (by simp only [List.mem_cons, List.not_mem_nil, or_false] at hf ⊢; omega)).trans (kc.fld (by simp only [List.mem_cons, List.not_mem_nil, or_false] at hf ⊢; omega)).symm
    have x := AG_day (q := q) a1 ih (hl.of e1 e2) (okR_of hr (e1 27 (by decide)))
    simp only [spN]
    rw [show dn + (n + 1) = dn + n + 1 by omega]
    exact x
