/-- the day with the best round told to lorry i, and none to the other -/
theorem best_day {S A : St} {ns dn i s j0 j1 : Nat} (W : WF A ns 2 dn) (hdn : dn < 400) (q : Nat) (hi : i < 2) (h0 : j0 < 3) (h1 : j1 < 3) (hS : ∀ t, t < 12 → okT S t) (hs : s < 64) (hb : bc s ≤ 6) (hs0 : s ≠ 0) (e25 : A 25 = S 25) (e0 : S 25 i 0 = (j0 : Int)) (e1 : S 25 i 1 = (j1 : Int)) (e10 : A 10 = S 10) (e16 : A 16 = S 16) (e17 : A 17 = S 17)
    (hn : A 26 i ((dn + 1) % 7) = ((ordL S 0 6 s 0).length : Nat)) (hr : ∀ t, t < (ordL S 0 6 s 0).length → A 27 (7 * i + (dn + 1) % 7) t = ((ordL S 0 6 s 0).getD t 0 : Nat)) (hw : wayH S 0 0 s + 2 * bc s ≤ A 20 i 0) (ho : A 26 (1 - i) ((dn + 1) % 7) = 0) :
    kilosS S 0 i s ≤ dayR q A ns 2 ∧ A 24 i 0 + kilosS S 0 i s ≤ dayF q A ns 2 24 i 0 ∧ dayF q A ns 2 22 i 0 = bc s ∧ (0 ≤ dayF q A ns 2 21 i 0 ∧ dayF q A ns 2 21 i 0 ≤ A 20 i 0) ∧ dayF q A ns 2 20 = A 20 := by
  obtain ⟨p1, p2, p3, p4, p5, p6, p7, p8, p9, p10, p11, p12, p13⟩ := day_two W hdn q
  generalize hF : fillF (dayA q A) 0 ns = F at p1 p2 p3 p4 p5 p6 p7 p8 p9 p10 p11 p12 p13
  generalize hd : (dn + 1) % 7 = d at hn hr ho p1 p2 p3 p4 p5 p6 p7 p8 p9 p10 p11 p12 p13
  have hK : ∀ e, e < 6 → ∀ j, j < 3 → KL S (2 * e) j ≤ KL F (2 * e) j := fun e he j hj => by
    have := p8 e j he hj
    unfold KL at this ⊢
    rw [e16, e17] at this
    exact this
  have same : ∀ {f : Nat}, f ∈ [20, 25, 26, 27, 10] → dvK F 0 d f = F f := fun {f} hf => by
    simp only [List.mem_cons, List.not_mem_nil, or_false] at hf
    exact dvK_of F 0 d (by omega) (by omega) (by omega) (by omega) (by omega)
  rcases (show i = 0 ∨ i = 1 by omega) with rfl | rfl
  · obtain ⟨b1, b2, b3⟩ := dvK_best (D := F) (d := d) h0 h1 hS hs hb ((p7 (f := 25) (by decide)).trans e25) e0 e1 (fun e _ => by rw [p7 (f := 10) (by decide), e10]) hK (by rw [p7 (f := 26) (by decide)]; exact hn) (fun t ht => by rw [p7 (f := 27) (by decide)]; exact hr t ht) p1 (p2 0 (by decide)) (by rw [p7 (f := 20) (by decide)]; exact hw) hs0
    have k26 : dvK F 0 d 26 1 d = 0 := by rw [same (f := 26) (by decide), p7 (f := 26) (by decide)]; exact ho
    have keep : ∀ {f : Nat}, f ∈ [21, 22] → dvK (dvK F 0 d) 1 d f 0 0 = dvK F 0 d f 0 0 := fun {f} hf => by
      simp only [List.mem_cons, List.not_mem_nil, or_false] at hf
      have ed : driveS (dvK F 0 d) 0 1 1 d f = dvK F 0 d f := driveS_of _ 0 1 1 d (by omega) (by omega) (by omega)
      unfold dvK
      rw [msN_of 1 d (by omega)]
      change noteS (driveS (dvK F 0 d) 0 1 1 d) 1 d f 0 0 = _
      simp only [noteS]
      split
      · rcases hf with rfl | rfl <;> (simp only [sU]; simp; rw [ed]; rfl)
      · rw [sU_f (by omega), ed]; rfl
    refine ⟨by omega, ?_, ?_, ?_, ?_⟩
    · have x1 := p11 0
      have x2 := p10 0
      rw [if_neg (by decide)] at x1
      rw [if_pos rfl, p7 (f := 24) (by decide)] at x2
      rw [p6 (f := 24) (by decide), x1, x2]
      omega
    · rw [p6 (f := 22) (by decide), keep (by decide), b2]
    · rw [p6 (f := 21) (by decide), keep (by decide)]
      rw [p7 (f := 20) (by decide)] at b3
      exact b3
    · rw [p6 (f := 20) (by decide), dvK_of _ 1 d (by decide) (by decide) (by decide) (by decide) (by decide), same (f := 20) (by decide), p7 (f := 20) (by decide)]
  · have n0 := dvK_none (S := F) (i := 0) (d := d) (by rw [p7 (f := 26) (by decide)]; exact ho)
    obtain ⟨b1, b2, b3⟩ := dvK_best (D := dvK F 0 d) (d := d) h0 h1 hS hs hb ((same (f := 25) (by decide)).trans ((p7 (f := 25) (by decide)).trans e25)) e0 e1 (fun e _ => by rw [same (f := 10) (by decide), p7 (f := 10) (by decide), e10]) (fun e he j hj => by
      have := hK e he j hj
      unfold KL at this ⊢
      rw [n0.1, n0.2.1]
      exact this) (by rw [same (f := 26) (by decide), p7 (f := 26) (by decide)]; exact hn) (fun t ht => by rw [same (f := 27) (by decide), p7 (f := 27) (by decide)]; exact hr t ht) p3 (p4 1 (by decide)) (by rw [same (f := 20) (by decide), p7 (f := 20) (by decide)]; exact hw) hs0
    refine ⟨by omega, ?_, ?_, ?_, ?_⟩
    · have x1 := p11 1
      have x2 := p10 1
      rw [if_pos rfl] at x1
      rw [if_neg (by decide), p7 (f := 24) (by decide)] at x2
      rw [p6 (f := 24) (by decide), x1, x2]
      omega
    · rw [p6 (f := 22) (by decide), b2]
    · rw [p6 (f := 21) (by decide)]
      rw [same (f := 20) (by decide), p7 (f := 20) (by decide)] at b3
      exact b3
    · rw [p6 (f := 20) (by decide), dvK_of _ 1 d (by decide) (by decide) (by decide) (by decide) (by decide), same (f := 20) (by decide), p7 (f := 20) (by decide)]
