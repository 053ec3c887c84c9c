theorem day_two {A : St} {ns dn : Nat} (W : WF A ns 2 dn) (hdn : dn < 400) (q : Nat) :
    let F := fillF (dayA q A) 0 ns
    let d := (dn + 1) % 7
    let D1 := dvK F 0 d
    let D2 := dvK D1 1 d
    (∀ t, t < 12 → okT F t) ∧ (∀ i, i < 3 → okL F i) ∧ (∀ t, t < 12 → okT D1 t) ∧ (∀ i, i < 3 → okL D1 i) ∧ dayR q A ns 2 = D1 33 0 0 + D2 33 1 0 ∧ (∀ {f : Nat}, f ∈ [20, 21, 22, 24] → dayF q A ns 2 f = D2 f) ∧ (∀ {f : Nat}, f ∈ [20, 21, 22, 24, 25, 26, 27, 10] → F f = A f) ∧ (∀ e j, e < 6 → j < 3 → KL A (2 * e) j ≤ KL F (2 * e) j) ∧
      (0 ≤ D1 33 0 0 ∧ 0 ≤ D2 33 1 0) ∧ (∀ c, D1 24 c 0 = if c = 0 then F 24 0 0 + D1 33 0 0 else F 24 c 0) ∧ (∀ c, D2 24 c 0 = if c = 1 then D1 24 1 0 + D2 33 1 0 else D1 24 c 0) ∧ chS D1 0 = D1 33 0 0 ∧ chS D2 1 = D2 33 1 0 := by
  obtain ⟨m1, m2, m3, m4, m5, m6, m7, -⟩ := day_mid W hdn q
  obtain ⟨⟨h0, hns⟩, ⟨h1, hnl⟩, ⟨h2, -⟩, hT, hL, hM, hI, hS, hz, hlit⟩ := W
  have hd7 : (dn + 1) % 7 < 7 := by omega
  have x := dvN_all (nl := 2) hd7 (by decide) m4 m5 m6 1 (by decide)
  have eN : (dvN (fillF (dayA q A) 0 ns) ((dn + 1) % 7) 1).1 = dvK (fillF (dayA q A) 0 ns) 0 ((dn + 1) % 7) := rfl
  rw [eN] at x
  obtain ⟨n0, n06, e0⟩ := (m5 0 (by decide)).2.2.1 ((dn + 1) % 7) hd7
  obtain ⟨n1, n16, e1⟩ := (x.2.1 1 (by decide)).2.2.1 ((dn + 1) % 7) hd7
  obtain ⟨a1, a2, a3, a4, a5, a6, a7, a8⟩ := dvK_all (i := 0) (by decide) hd7 m4 (m5 0 (by decide)) e0 n06
  obtain ⟨b1, b2, b3, b4, b5, b6, b7, b8⟩ := dvK_all (i := 1) (by decide) hd7 x.1 (x.2.1 1 (by decide)) e1 n16
  have eF : ∀ {f : Nat}, f ∈ [20, 21, 22, 24, 25, 26, 27, 10] → fillF (dayA q A) 0 ns f = A f := fun {f} hf => by
    simp only [List.mem_cons, List.not_mem_nil, or_false] at hf
    exact (fillF_of _ _ (by omega) _).trans (dayA_of q A (by omega))
  have bal := (fillF_bal hns m3 ns (Nat.le_refl _)).2.1
  refine ⟨m4, m5, x.1, x.2.1, ?_, fun {f} hf => ?_, eF, fun e j he hj => ?_, ⟨a5.1, b5.1⟩, a8, b8, a4, b4⟩
  · unfold dayR dayD
    rw [m7]
    exact congrArg (fun z => z + dvK (dvK (fillF (dayA q A) 0 ns) 0 ((dn + 1) % 7)) 1 ((dn + 1) % 7) 33 1 0) (Int.zero_add _)
  · simp only [List.mem_cons, List.not_mem_nil, or_false] at hf
    unfold dayF dayD
    rw [m7, gasF_of _ (by omega), ripF_of _ (by omega), srtF_of _ _ (by omega)]
    rfl
  · have y := (bal (2 * e) (by omega)).2 j hj
    rw [dayA_of _ _ (by decide), dayA_of _ _ (by decide)] at y
    unfold KL
    omega
