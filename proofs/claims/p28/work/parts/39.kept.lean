/-! WHAT THE LAW HOLDS, kept by asking and by days -/
def LJ (S : St) (ns dn : Nat) (came swept sold : Int) : Prop := WF S ns 2 dn ∧ (1 ≤ ns ∧ ns ≤ 5) ∧ okR S ns ∧ came = bM S 0 6 + litN S 0 ns + swept + fetN S 2 ∧ HM S = fetN S 2 + swept ∧ sold = 40 * cntIn S 1 20 ∧ (0 ≤ swept ∧ 0 ≤ fetN S 2 ∧ 0 ≤ S 24 0 0 ∧ 0 ≤ S 24 1 0) ∧ came ≤ 200 * dn
theorem LI.j {S : St} {ns dn : Nat} {came swept sold : Int} (h : LI S ns dn came swept sold) : LJ S ns dn came swept sold := ⟨h.1, h.2.1, h.2.2.1, h.2.2.2.2⟩
theorem LJ.i {S : St} {ns dn : Nat} {came swept sold : Int} (h : LJ S ns dn came swept sold) (h87 : S 87 0 0 = 0) : LI S ns dn came swept sold := ⟨h.1, h.2.1, h.2.2.1, h87, h.2.2.2⟩
theorem bM_real {S S' : St} (h16 : ∀ e, S' 16 (2 * e) = S 16 (2 * e)) (h17 : ∀ e, S' 17 (2 * e) = S 17 (2 * e)) : ∀ k, bM S' 0 k = bM S 0 k
  | 0 => rfl
  | k + 1 => by
    simp only [bM, binK, Nat.add_zero]
    rw [bM_real h16 h17 k, h16, h17]
theorem litN_real {S S' : St} (h12 : ∀ e, S' 12 (2 * e) = S 12 (2 * e)) : ∀ k, litN S' 0 k = litN S 0 k
  | 0 => rfl
  | k + 1 => by
    simp only [litN, Nat.add_zero]
    rw [litN_real h12 k, h12]
theorem fetN_of {S S' : St} (h : S' 24 = S 24) : ∀ k, fetN S' k = fetN S k
  | 0 => rfl
  | k + 1 => by simp only [fetN]; rw [fetN_of h k, h]
theorem cntIn_of {S S' : St} (h : S' 57 = S 57) (s : Int) : ∀ k, cntIn S' s k = cntIn S s k
  | 0 => rfl
  | k + 1 => by simp only [cntIn]; rw [cntIn_of h s k, h]
theorem comN_real {S S' : St} (h : ∀ e, S' 15 (2 * e) = S 15 (2 * e)) : ∀ k, comN S' k = comN S k
  | 0 => rfl
  | k + 1 => by simp only [comN, habK]; rw [comN_real h k, h]
theorem WF_KP {S S' : St} {ns nl dn : Nat} (W : WF S ns nl dn) (kp : KP S S') (hT' : ∀ t, t < 12 → okT S' t) : WF S' ns nl dn ∧ HM S' = HM S := by
  obtain ⟨⟨h0, hns⟩, ⟨h1, hnl⟩, ⟨h2, hdn⟩, hT, hL, ⟨N, n1, n2, n3, n4⟩, hI, hS, hz, hlit⟩ := W
  have hI' := HI_of hI (fun f a b _ _ => kp.fld (f := f) (by simp only [List.mem_cons, List.not_mem_nil, or_false]; omega)) (kp.fld (f := 2) (by decide))
  refine ⟨⟨⟨by rw [kp.fld (f := 0) (by decide), h0], hns⟩, ⟨by rw [kp.fld (f := 1) (by decide), h1], hnl⟩, ⟨by rw [kp.fld (f := 2) (by decide), h2], hdn⟩, hT', fun i hi => kp.kL (hL i hi), ⟨N, n1, n2, by rw [kp.fld (f := 82) (by decide), n3], by rw [kp.fld (f := 80) (by decide)]; exact n4⟩, hI'.1, ?_, ⟨fun e he => ?_, fun k hk hk6 => ⟨fun j hj => ?_, ?_⟩⟩, fun e he => ?_⟩, hI'.2⟩
  · unfold okS at hS ⊢
    rw [kp.fld (f := 45) (by decide), kp.fld (f := 46) (by decide), kp.fld (f := 47) (by decide), kp.fld (f := 60) (by decide), kp.fld (f := 61) (by decide)]
    exact hS
  · rw [kp.real (f := 17) (by decide)]; exact hz.1 e he
  · rw [kp.real (f := 16) (by decide), kp.real (f := 17) (by decide)]; exact (hz.2 k hk hk6).1 j hj
  · rw [kp.real (f := 12) (by decide)]; exact (hz.2 k hk hk6).2
  · rw [kp.real (f := 12) (by decide)]; exact hlit e he
theorem LJ_KP {S S' : St} {ns dn : Nat} {came swept sold : Int} (h : LJ S ns dn came swept sold) (kp : KP S S') (hT' : ∀ t, t < 12 → okT S' t) : LJ S' ns dn came swept sold := by
  obtain ⟨W, hns, hR, h1, h2, h3, h4, h5⟩ := h
  have W' := WF_KP W kp hT'
  refine ⟨W'.1, hns, okR_of hR (kp.fld (f := 27) (by decide)), ?_, ?_, ?_, ?_, h5⟩
  · rw [bM_real (kp.real (f := 16) (by decide)) (kp.real (f := 17) (by decide)), litN_real (kp.real (f := 12) (by decide)), fetN_of (kp.fld (f := 24) (by decide))]
    exact h1
  · rw [W'.2, fetN_of (kp.fld (f := 24) (by decide))]
    exact h2
  · rw [cntIn_of (kp.fld (f := 57) (by decide))]
    exact h3
  · rw [fetN_of (kp.fld (f := 24) (by decide)), kp.fld (f := 24) (by decide)]
    exact h4
/-- all but the law's own row is the same -/
theorem WF_up {S S' : St} {ns nl dn : Nat} (W : WF S ns nl dn) (e : ∀ {f : Nat}, f < 85 → S' f = S f) : WF S' ns nl dn := by
  obtain ⟨⟨h0, hns⟩, ⟨h1, hnl⟩, ⟨h2, hdn⟩, hT, hL, ⟨N, n1, n2, n3, n4⟩, hI, hS, hz, hlit⟩ := W
  have hI' := HI_of hI (fun f a b _ _ => e (by omega)) (e (f := 2) (by decide))
  refine ⟨⟨by rw [e (by decide), h0], hns⟩, ⟨by rw [e (by decide), h1], hnl⟩, ⟨by rw [e (by decide), h2], hdn⟩, fun t ht => okT_of (hT t ht) (e (by decide)) (e (by decide)) (e (by decide)) (e (by decide)) (e (by decide)), fun i hi => okL_of (hL i hi) (e (by decide)) (e (by decide)) (e (by decide)) (e (by decide)), ⟨N, n1, n2, by rw [e (by decide), n3], by rw [e (by decide)]; exact n4⟩, hI'.1, ?_, ?_, fun k hk => by rw [e (by decide)]; exact hlit k hk⟩
  · unfold okS at hS ⊢
    rw [e (by decide), e (by decide), e (by decide), e (by decide), e (by decide)]
    exact hS
  · unfold zr at hz ⊢
    rw [e (by decide), e (by decide), e (by decide)]
    exact hz
theorem LJ_up {S S' : St} {ns dn : Nat} {came swept sold : Int} (h : LJ S ns dn came swept sold) (e : ∀ {f : Nat}, f < 85 → S' f = S f) : LJ S' ns dn came swept sold := by
  obtain ⟨W, hns, hR, h1, h2, h3, h4, h5⟩ := h
  have hI' := HI_of (S' := S') W.2.2.2.2.2.2.1 (fun f a b _ _ => e (by omega)) (e (f := 2) (by decide))
  refine ⟨WF_up W e, hns, okR_of hR (e (by decide)), ?_, ?_, ?_, ?_, h5⟩
  · rw [bM_of (e (by decide)) (e (by decide)), litN_of (e (by decide)), fetN_of (e (by decide))]
    exact h1
  · rw [hI'.2, fetN_of (e (by decide))]
    exact h2
  · rw [cntIn_of (e (by decide))]
    exact h3
  · rw [fetN_of (e (by decide)), e (f := 24) (by decide)]
    exact h4
theorem day57 (q : Nat) (S : St) (ns nl : Nat) : dayF q S ns nl 57 = S 57 := by
  unfold dayF dayD
  rw [gasF_of _ (by decide), ripF_of _ (by decide), srtF_of _ _ (by decide), dvN_of _ _ (by decide) (by decide) (by decide) (by decide) (by decide), fillF_of _ _ (by decide), dayA_of _ _ (by decide)]
theorem pass57 {ns nl : Nat} {A : St} : ∀ (n : Nat) (r : Int) (A' : St), PassR ns nl n A r A' → A' 57 = A 57
  | 0, r, A', hp => by obtain ⟨-, rfl⟩ := hp; rfl
  | n + 1, r, A', hp => by
    obtain ⟨S1, r1, hp, q, rfl, rfl⟩ := hp
    exact (day57 q S1 ns nl).trans (pass57 n r1 S1 hp)
theorem dvN_24 {S : St} {d nl : Nat} (hd : d < 7) (hnl : nl ≤ 3) (hT : ∀ t, t < 12 → okT S t) (hL : ∀ i, i < 3 → okL S i) (hM : okM S) : ∀ k, k ≤ nl → ∀ c, S 24 c 0 ≤ (dvN S d k).1 24 c 0
  | 0, _, _ => Int.le_refl _
  | k + 1, hk, c => by
    have x := dvN_all hd hnl hT hL hM k (by omega)
    obtain ⟨n, hn, e⟩ := (x.2.1 k (by omega)).2.2.1 d hd
    obtain ⟨a1, a2, a3, a4, a5, a6, a7, a8⟩ := dvK_all (by omega) hd x.1 (x.2.1 k (by omega)) e hn
    have ih := dvN_24 hd hnl hT hL hM k (by omega) c
    simp only [dvN]
    rw [a8]
    split
    · next z => subst z; omega
    · exact ih
theorem day24 {S : St} {ns nl dn : Nat} (h : WF S ns nl dn) (hdn : dn < 400) (q c : Nat) : S 24 c 0 ≤ dayF q S ns nl 24 c 0 := by
  obtain ⟨m1, m2, m3, m4, m5, m6, m7, -⟩ := day_mid h hdn q
  unfold dayF dayD
  rw [gasF_of _ (by decide), ripF_of _ (by decide), srtF_of _ _ (by decide), m7]
  have x := dvN_24 (nl := nl) (Nat.mod_lt (dn + 1) (by decide)) h.2.1.2 m4 m5 m6 nl (Nat.le_refl _) c
  rw [show fillF (dayA q S) 0 ns 24 = S 24 from (fillF_of _ _ (by decide) _).trans (dayA_of q S (by decide))] at x
  exact x
theorem pass24 {ns nl dn : Nat} {A : St} (h : WF A ns nl dn) : ∀ (n : Nat) (r : Int) (A' : St), dn + n ≤ 400 → PassR ns nl n A r A' → ∀ c, A 24 c 0 ≤ A' 24 c 0
  | 0, r, A', _, hp, c => by obtain ⟨-, rfl⟩ := hp; exact Int.le_refl _
  | n + 1, r, A', hn, hp, c => by
    obtain ⟨S1, r1, hp, q, rfl, rfl⟩ := hp
    have a := pass_all h n r1 S1 (by omega) hp
    exact Int.le_trans (pass24 h n r1 S1 (by omega) hp c) (day24 a.1 (by omega) q c)
theorem LJ_pass {A A' : St} {ns dn n : Nat} {r came swept sold : Int} (h : LJ A ns dn came swept sold) (hn : dn + n ≤ 400) (hp : PassR ns 2 n A r A') : LJ A' ns (dn + n) (came + n * comN A ns) swept sold := by
  obtain ⟨W, hns, hR, h1, h2, h3, h4, h5⟩ := h
  obtain ⟨a1, a2, a3, a4, a5, a6⟩ := pass_all W n r A' hn hp
  have c := comN_in (by omega : ns ≤ 6) W.2.2.2.1 ns (Nat.le_refl _)
  have hc : (n : Int) * comN A ns ≤ 200 * n := by
    have := Int.mul_le_mul_of_nonneg_left (show comN A ns ≤ 200 by omega) (show 0 ≤ (n : Int) by omega)
    omega
  refine ⟨a1, hns, okR_of hR (a6 (nX 27 (by decide))), by omega, by omega, ?_, ⟨h4.1, by omega, Int.le_trans h4.2.2.1 (pass24 W n r A' hn hp 0), Int.le_trans h4.2.2.2 (pass24 W n r A' hn hp 1)⟩, ?_⟩
  · rw [cntIn_of (pass57 n r A' hp)]
    exact h3
  · omega
theorem cpN_at (S : St) : ∀ k, k ≤ 6 → ∀ e, e < k → ((cpN S k 10 (2 * e + 1) 0 = S 10 (2 * e) 0 ∧ cpN S k 11 (2 * e + 1) 0 = S 11 (2 * e) 0 ∧ cpN S k 12 (2 * e + 1) 0 = S 12 (2 * e) 0) ∧ ∀ j, j < 3 → cpN S k 15 (2 * e + 1) j = S 15 (2 * e) j ∧ cpN S k 16 (2 * e + 1) j = S 16 (2 * e) j ∧ cpN S k 17 (2 * e + 1) j = S 17 (2 * e) j)
  | 0, _, e, he => absurd he (by omega)
  | k + 1, hk, e, he => by
    have kp := KP_cpN S k
    simp only [cpN]
    have hne : ¬ 2 * k = 2 * k + 1 := by omega
    by_cases hek : e = k
    · subst hek
      refine ⟨⟨?_, ?_, ?_⟩, fun j hj => ?_⟩
      · simp only [cpy, cpyK, sU]
        simp [kp.real (f := 10) (by decide)]
      · simp only [cpy, cpyK, sU]
        simp [kp.real (f := 11) (by decide)]
      · simp only [cpy, cpyK, sU]
        simp [kp.real (f := 12) (by decide)]
      · rcases (show j = 0 ∨ j = 1 ∨ j = 2 by omega) with rfl | rfl | rfl <;> simp [cpy, cpyK, sU, kp.real (f := 15) (by decide), kp.real (f := 16) (by decide), kp.real (f := 17) (by decide)]
    · have ih := cpN_at S k (by omega) e (by omega)
      have hx : ¬ 2 * e + 1 = 2 * k + 1 := by omega
      have keep : ∀ f j, cpy (cpN S k) (2 * k + 1) (2 * k) f (2 * e + 1) j = cpN S k f (2 * e + 1) j := by
        intro f j
        simp [cpy, cpyK, sU, show ¬ 2 * e = 2 * k by omega]
      simp only [keep]
      exact ih
theorem AG_start {S A : St} {ns : Nat} (hns : ns ≤ 6) (h : ∀ f, f ∈ [10, 11, 12, 15, 16, 17] → ∀ e, A f (2 * e) = S f (2 * e)) : AG A 0 (cpN S ns) 1 ns := by
  intro e he
  obtain ⟨⟨p1, p2, p3⟩, p4⟩ := cpN_at S ns hns e he
  simp only [Nat.add_zero]
  rw [p1, p2, p3, h 10 (by decide), h 11 (by decide), h 12 (by decide)]
  refine ⟨⟨rfl, rfl, rfl⟩, fun j hj => ?_⟩
  obtain ⟨q1, q2, q3⟩ := p4 j hj
  rw [q1, q2, q3, h 15 (by decide), h 16 (by decide), h 17 (by decide)]
  exact ⟨rfl, rfl, rfl⟩
