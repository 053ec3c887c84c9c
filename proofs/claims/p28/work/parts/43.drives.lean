/-! THE DRIVE ALONG THE ORDER -/
def chK (S : St) (c k : Nat) : Int := S 34 c k + S 35 c k
theorem load_ch {X : St} {c t j k : Nat} (hj : j < 3) (hT : okT X t) (hC : okC X c k) : (∀ k', chK (loadS X c t j k) c k' = if k' = k then min 150 (chK X c k + KL X t j) else chK X c k') ∧ ∀ u i, KL (loadS X c t j k) u i = if u = t ∧ i = j then KL X t j - (min 150 (chK X c k + KL X t j) - chK X c k) else KL X u i := by
  have hb := hT.2.2 j hj
  unfold okC at hC
  refine ⟨fun k' => ?_, fun u i => ?_⟩
  · unfold chK KL
    rw [loadS_34, loadS_35]
    by_cases h : k' = k
    · subst h
      rw [if_pos ⟨rfl, rfl⟩, if_pos ⟨rfl, rfl⟩, if_pos rfl]
      unfold foulL pureL
      omega
    · rw [if_neg (fun q => h q.2), if_neg (fun q => h q.2), if_neg h]
  · unfold chK KL
    rw [loadS_16, loadS_17]
    by_cases h : u = t ∧ i = j
    · rw [if_pos h, if_pos h, if_pos h]
      unfold foulL pureL
      omega
    · rw [if_neg h, if_neg h, if_neg h]
theorem empty_ch {X : St} {c t i j0 j1 : Nat} (h0 : j0 < 3) (h1 : j1 < 3) (e0 : X 25 i 0 = (j0 : Int)) (e1 : X 25 i 1 = (j1 : Int)) (hT : okT X t) (hC : okC X c 0 ∧ okC X c 1) :
    (chK (emptyS X c t i) c 0 = min 150 (chK X c 0 + KL X t j0) ∧ chK (emptyS X c t i) c 1 = (if j1 = j0 then min 150 (chK X c 1 + (KL X t j0 - (min 150 (chK X c 0 + KL X t j0) - chK X c 0))) else min 150 (chK X c 1 + KL X t j1))) ∧ ∀ u, u ≠ t → ∀ j, KL (emptyS X c t i) u j = KL X u j := by
  have t0 : (X 25 i 0).toNat = j0 := by rw [e0, Int.toNat_natCast]
  have t1 : (X 25 i 1).toNat = j1 := by rw [e1, Int.toNat_natCast]
  have a := load_ch (k := 0) h0 hT hC.1
  have okT1 : okT (loadS X c t j0 0) t := by
    have := load_in h0 hT hC.1
    have hb := hT.2.2
    unfold okT at hT ⊢
    rw [loadS_of X _ _ _ _ (by decide), loadS_of X _ _ _ _ (by decide), loadS_of X _ _ _ _ (by decide)]
    refine ⟨hT.1, hT.2.1, fun j hj => ⟨(hb j hj).1, ?_⟩⟩
    have hj2 := (hb j hj).2
    rw [loadS_16, loadS_17]
    split
    · next e => obtain ⟨-, rfl⟩ := e; omega
    · exact hj2
  have okC1 : okC (loadS X c t j0 0) c 1 := by
    unfold okC
    rw [loadS_34, loadS_35, if_neg (fun q => by omega), if_neg (fun q => by omega)]
    exact hC.2
  have b := load_ch (k := 1) h1 okT1 okC1
  have eE : ∀ {f : Nat}, (f ≠ 31 ∧ f ≠ 32) → emptyS X c t i f = loadS (loadS X c t j0 0) c t j1 1 f := fun h => by
    rw [emptyS_load X c t i h]
    unfold load2
    rw [t0, t1]
  have eC : ∀ k, chK (emptyS X c t i) c k = chK (loadS (loadS X c t j0 0) c t j1 1) c k := fun k => by unfold chK; rw [eE (by decide), eE (by decide)]
  have eK : ∀ u j, KL (emptyS X c t i) u j = KL (loadS (loadS X c t j0 0) c t j1 1) u j := fun u j => by unfold KL; rw [eE (by decide), eE (by decide)]
  refine ⟨⟨?_, ?_⟩, fun u hu j => ?_⟩
  · rw [eC, b.1, if_neg (by decide), a.1, if_pos rfl]
  · rw [eC, b.1, if_pos rfl, a.1, if_neg (by decide), a.2]
    by_cases h : j1 = j0
    · rw [if_pos ⟨rfl, h⟩, if_pos h]
    · rw [if_neg (fun q => h q.2), if_neg h]
  · rw [eK, b.2, if_neg (fun q => hu q.1), a.2, if_neg (fun q => hu q.1)]
