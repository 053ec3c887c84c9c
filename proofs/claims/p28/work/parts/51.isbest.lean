/-! THE BEST ROUND TOLD, and its day -/
theorem bc_5 : ∀ s, s < 32 → bc s ≤ 5 := by decide +kernel
/-- the rounds of one lorry's day told, so many streets -/
def TO (S : St) (i d : Nat) (L : List Nat) : Nat → St
  | 0 => S
  | t + 1 => addR (TO S i d L t) i d (L.getD t 0) t
theorem addR_of (S : St) (i d e n : Nat) {f : Nat} (h : f ≠ 26 ∧ f ≠ 27) : addR S i d e n f = S f := by
  unfold addR
  rw [sU_f h.1, sU_f h.2]
theorem TO_of (S : St) (i d : Nat) (L : List Nat) {f : Nat} (h : f ≠ 26 ∧ f ≠ 27) : ∀ t, TO S i d L t f = S f
  | 0 => rfl
  | t + 1 => (addR_of _ i d _ t h).trans (TO_of S i d L h t)
theorem TO_26 (S : St) (i d : Nat) (L : List Nat) (h0 : S 26 i d = 0) : ∀ t, TO S i d L t 26 i d = (t : Int)
  | 0 => h0
  | t + 1 => by
    show addR _ i d _ t 26 i d = _
    unfold addR
    rw [sU_eq]
    omega
theorem TO_26o (S : St) (i d : Nat) (L : List Nat) {i' d' : Nat} (h : ¬ (i' = i ∧ d' = d)) : ∀ t, TO S i d L t 26 i' d' = S 26 i' d'
  | 0 => rfl
  | t + 1 => by
    rw [← TO_26o S i d L h t]
    show addR _ i d _ t 26 i' d' = _
    unfold addR sU
    rw [if_neg (fun q => h q.2), if_neg (fun q => by omega)]
theorem TO_27 (S : St) (i d : Nat) (L : List Nat) : ∀ t r q, TO S i d L t 27 r q = if r = 7 * i + d ∧ q < t then ((L.getD q 0 : Nat) : Int) else S 27 r q
  | 0, r, q => by rw [if_neg (by omega)]; rfl
  | t + 1, r, q => by
    have ih := TO_27 S i d L t r q
    show addR _ i d _ t 27 r q = _
    unfold addR
    rw [sU_nf (by decide)]
    unfold sU
    by_cases h : r = 7 * i + d ∧ q = t
    · rw [if_pos ⟨rfl, h.1, h.2⟩, if_pos ⟨h.1, by omega⟩, h.2]
    · rw [if_neg (fun z => h z.2), ih]
      by_cases h2 : r = 7 * i + d ∧ q < t
      · rw [if_pos h2, if_pos ⟨h2.1, by omega⟩]
      · rw [if_neg h2, if_neg (fun z => h2 ⟨z.1, by omega⟩)]
/-- other rounds: all else is kept -/
theorem LJ_rows {S S' : St} {ns dn : Nat} {came swept sold : Int} (h : LJ S ns dn came swept sold) (e : ∀ {f : Nat}, f ≠ 26 ∧ f ≠ 27 → S' f = S f) (h26 : ∀ i, i < 3 → ∀ d, d < 7 → ∃ n : Nat, n ≤ 6 ∧ S' 26 i d = (n : Int)) (hR' : okR S' ns) : LJ S' ns dn came swept sold := by
  obtain ⟨W, hns, hR, h1, h2, h3, h4, h5⟩ := h
  obtain ⟨⟨w0, hns6⟩, ⟨w1, hnl⟩, ⟨w2, hdn⟩, hT, hL, ⟨N, n1, n2, n3, n4⟩, hI, hS, hz, hlit⟩ := W
  have hI' := HI_of hI (fun f a b _ _ => e (by omega)) (e (f := 2) (by decide))
  refine ⟨⟨⟨by rw [e (f := 0) (by decide), w0], hns6⟩, ⟨by rw [e (f := 1) (by decide), w1], hnl⟩, ⟨by rw [e (f := 2) (by decide), w2], hdn⟩, fun t ht => okT_of (hT t ht) (e (by decide)) (e (by decide)) (e (by decide)) (e (by decide)) (e (by decide)), fun i hi => ?_, ⟨N, n1, n2, by rw [e (f := 82) (by decide), n3], by rw [e (f := 80) (by decide)]; exact n4⟩, hI'.1, ?_, ?_, fun k hk => by rw [e (f := 12) (by decide)]; exact hlit k hk⟩, hns, hR', ?_, ?_, ?_, ?_, h5⟩
  · obtain ⟨l1, l2, l3, l4⟩ := hL i hi
    refine ⟨by rw [e (f := 20) (by decide)]; exact l1, by rw [e (f := 25) (by decide)]; exact l2, h26 i hi, fun d hd q hq => ?_⟩
    obtain ⟨x, hx, hy⟩ := hR' i hi d hd q hq
    exact ⟨x, by omega, hy⟩
  · unfold okS at hS ⊢
    rw [e (f := 45) (by decide), e (f := 46) (by decide), e (f := 47) (by decide), e (f := 60) (by decide), e (f := 61) (by decide)]
    exact hS
  · unfold zr at hz ⊢
    rw [e (f := 17) (by decide), e (f := 16) (by decide), e (f := 12) (by decide)]
    exact hz
  · rw [bM_of (e (by decide)) (e (by decide)), litN_of (e (by decide)), fetN_of (e (by decide))]
    exact h1
  · rw [hI'.2, fetN_of (e (by decide))]
    exact h2
  · rw [cntIn_of (e (by decide))]
    exact h3
  · rw [fetN_of (e (by decide)), e (f := 24) (by decide)]
    exact h4
theorem LJ_clear {S : St} {ns dn i d : Nat} {came swept sold : Int} (h : LJ S ns dn came swept sold) : LJ (sU S 26 i d 0) ns dn came swept sold := by
  refine LJ_rows h (fun hf => sU_f hf.1) (fun i' hi d' hd => ?_) (okR_of h.2.2.1 (sU_f (by decide)))
  obtain ⟨n, hn, e⟩ := (h.1.2.2.2.2.1 i' hi).2.2.1 d' hd
  by_cases hh : i' = i ∧ d' = d
  · obtain ⟨rfl, rfl⟩ := hh
    exact ⟨0, by omega, sU_eq⟩
  · exact ⟨n, hn, by unfold sU; rw [if_neg (fun q => hh q.2)]; exact e⟩
theorem LJ_TO {S : St} {ns dn i d : Nat} {L : List Nat} {came swept sold : Int} (h : LJ S ns dn came swept sold) (h0 : S 26 i d = 0) (hL : ∀ e, e ∈ L → e < ns) (t : Nat) (ht : t ≤ L.length) (h6 : t ≤ 6) : LJ (TO S i d L t) ns dn came swept sold := by
  refine LJ_rows h (fun hf => TO_of S i d L hf t) (fun i' hi d' hd => ?_) (fun i' hi d' hd q hq => ?_)
  · obtain ⟨n, hn, e⟩ := (h.1.2.2.2.2.1 i' hi).2.2.1 d' hd
    by_cases hh : i' = i ∧ d' = d
    · obtain ⟨rfl, rfl⟩ := hh
      exact ⟨t, h6, TO_26 S _ _ L h0 t⟩
    · exact ⟨n, hn, by rw [TO_26o S i d L hh]; exact e⟩
  · rw [TO_27]
    split
    · next z =>
      refine ⟨L.getD q 0, hL _ ?_, rfl⟩
      rw [List.getD_eq_getElem?_getD, List.getElem?_eq_getElem (by omega)]
      exact List.getElem_mem _
    · exact h.2.2.1 i' hi d' hd q hq
