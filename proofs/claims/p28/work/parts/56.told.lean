/-! THE CITY TOLD: streets, habits and lorries before the first turn -/
def SU (Γ : Gm) (S : St) (ns nl : Nat) : Prop := (S 0 0 0 = (ns : Int) ∧ ns ≤ 6) ∧ (S 1 0 0 = (nl : Int) ∧ nl ≤ 3) ∧ (∀ t, t < 12 → okT S t) ∧ (∀ i, i < 3 → okL S i) ∧ (∀ f, (f ≠ 0 ∧ f ≠ 1 ∧ f ≠ 10 ∧ f ≠ 11 ∧ f ≠ 15 ∧ f ≠ 20 ∧ f ≠ 25) → S f = Z Γ f) ∧ ∀ e, ns ≤ e → ∀ j, S 15 (2 * e) j = 0
theorem SU_Z (Γ : Gm) : SU Γ (Z Γ) 0 0 := by
  refine ⟨⟨rfl, by decide⟩, ⟨rfl, by decide⟩, fun t _ => ?_, fun i _ => ?_, fun f _ => rfl, fun e _ j => rfl⟩
  · simp [okT, Z]
  · refine ⟨by simp [Z], fun c _ => ⟨0, by decide, rfl⟩, fun d _ => ⟨0, by decide, rfl⟩, fun d _ q _ => ⟨0, by decide, rfl⟩⟩
theorem street_of (S : St) (n : Nat) (p d : Int) {f : Nat} (h : f ≠ 0 ∧ f ≠ 10 ∧ f ≠ 11) : streetS S n p d f = S f := by
  unfold streetS
  rw [sU_f h.1, sU_f h.2.2, sU_f h.2.1]
theorem SU_street {Γ : Gm} {S : St} {n nl : Nat} {p d : Int} (h : SU Γ S n nl) (hn : n < 6) (hp : 1 ≤ p ∧ p ≤ 30) (hd : 0 ≤ d ∧ d ≤ 4) : SU Γ (streetS S n p d) (n + 1) nl := by
  obtain ⟨⟨h0, h6⟩, ⟨h1, h3⟩, hT, hL, hZ, h15⟩ := h
  have e : ∀ {f : Nat}, f ≠ 0 ∧ f ≠ 10 ∧ f ≠ 11 → streetS S n p d f = S f := fun hf => street_of S n p d hf
  have e10 : ∀ t, streetS S n p d 10 t 0 = if t = 2 * n then p else S 10 t 0 := fun t => by
    unfold streetS
    rw [sU_f (by decide), sU_f (by decide)]
    unfold sU
    by_cases z : t = 2 * n <;> simp [z]
  have e11 : ∀ t, streetS S n p d 11 t 0 = if t = 2 * n then d else S 11 t 0 := fun t => by
    unfold streetS
    rw [sU_f (by decide)]
    unfold sU
    by_cases z : t = 2 * n <;> simp [z]
  refine ⟨⟨by unfold streetS; rw [sU_eq]; omega, by omega⟩, ⟨by rw [e (by decide), h1], h3⟩, fun t ht => ?_, fun i hi => okL_of (hL i hi) (e (by decide)) (e (by decide)) (e (by decide)) (e (by decide)), fun f hf => (e (by omega)).trans (hZ f hf), fun q hq j => by rw [e (by decide)]; exact h15 q (by omega) j⟩
  have ok := hT t ht
  unfold okT at ok ⊢
  rw [e10, e11, e (f := 15) (by decide), e (f := 16) (by decide), e (f := 17) (by decide)]
  refine ⟨?_, ?_, ok.2.2⟩
  · split
    · omega
    · exact ok.1
  · split
    · exact hd
    · exact ok.2.1
theorem SU_habit {Γ : Gm} {S : St} {n nl k j : Nat} {z : Int} (h : SU Γ S n nl) (hk : k < n) (hz : 0 ≤ z ∧ z ≤ 9) : SU Γ (sU S 15 (2 * k) j z) n nl := by
  obtain ⟨⟨h0, h6⟩, ⟨h1, h3⟩, hT, hL, hZ, h15⟩ := h
  have e : ∀ {f : Nat}, f ≠ 15 → sU S 15 (2 * k) j z f = S f := fun hf => sU_f hf
  refine ⟨⟨by rw [e (by decide), h0], h6⟩, ⟨by rw [e (by decide), h1], h3⟩, fun t ht => okT_habit hz (hT t ht), fun i hi => okL_of (hL i hi) (e (by decide)) (e (by decide)) (e (by decide)) (e (by decide)), fun f hf => (e (by omega)).trans (hZ f hf), fun q hq j' => ?_⟩
  unfold sU
  rw [if_neg (fun w => by omega)]
  exact h15 q hq j'
theorem lorry_of (S : St) (n : Nat) (h a b : Int) {f : Nat} (hf : f ≠ 1 ∧ f ≠ 20 ∧ f ≠ 25) : lorryS S n h a b f = S f := by
  unfold lorryS
  rw [sU_f hf.1, sU_f hf.2.2, sU_f hf.2.2, sU_f hf.2.1]
theorem SU_lorry {Γ : Gm} {S : St} {ns n a b : Nat} {hh : Int} (h : SU Γ S ns n) (hn : n < 3) (hp : 10 ≤ hh ∧ hh ≤ 120) (ha : a < 3) (hb : b < 3) : SU Γ (lorryS S n hh a b) ns (n + 1) := by
  obtain ⟨⟨h0, h6⟩, ⟨h1, h3⟩, hT, hL, hZ, h15⟩ := h
  have e : ∀ {f : Nat}, f ≠ 1 ∧ f ≠ 20 ∧ f ≠ 25 → lorryS S n hh a b f = S f := fun hf => lorry_of S n hh a b hf
  have e20 : ∀ i, lorryS S n hh a b 20 i 0 = if i = n then hh else S 20 i 0 := fun i => by
    unfold lorryS
    rw [sU_f (by decide), sU_f (by decide), sU_f (by decide)]
    unfold sU
    by_cases z : i = n <;> simp [z]
  have e25 : ∀ i c, lorryS S n hh a b 25 i c = if i = n ∧ c = 1 then (b : Int) else if i = n ∧ c = 0 then (a : Int) else S 25 i c := fun i c => by
    unfold lorryS
    rw [sU_f (by decide)]
    unfold sU
    rw [if_neg (show ¬ (25 = 20 ∧ i = n ∧ c = 0) from fun w => absurd w.1 (by decide))]
    by_cases z : i = n ∧ c = 1
    · rw [if_pos ⟨rfl, z⟩, if_pos z]
    · rw [if_neg (fun w => z w.2), if_neg z]
      by_cases z2 : i = n ∧ c = 0
      · rw [if_pos ⟨rfl, z2⟩, if_pos z2]
      · rw [if_neg (fun w => z2 w.2), if_neg z2]
  refine ⟨⟨by rw [e (by decide), h0], h6⟩, ⟨by unfold lorryS; rw [sU_eq]; omega, by omega⟩, fun t ht => okT_of (hT t ht) (e (by decide)) (e (by decide)) (e (by decide)) (e (by decide)) (e (by decide)), fun i hi => ?_, fun f hf => (e (by omega)).trans (hZ f hf), fun q hq j => by rw [e (by decide)]; exact h15 q hq j⟩
  obtain ⟨o1, o2, o3, o4⟩ := hL i hi
  refine ⟨?_, fun c hc => ?_, ?_, ?_⟩
  · rw [e20]
    split
    · omega
    · exact o1
  · rw [e25]
    split
    · exact ⟨b, hb, rfl⟩
    · split
      · exact ⟨a, ha, rfl⟩
      · exact o2 c hc
  · rw [e (f := 26) (by decide)]; exact o3
  · rw [e (f := 27) (by decide)]; exact o4
theorem balK_zero {S : St} (h : ∀ b, S 55 b 0 = 0 ∧ S 56 b 0 = 0) : ∀ k, balK S k = 0
  | 0 => rfl
  | k + 1 => by simp only [balK]; rw [balK_zero h k, (h k).1, (h k).2]; rfl
theorem cnt_zero {S : St} (h : ∀ b, S 57 b 0 = 0) : ∀ k, cntIn S 1 k = 0
  | 0 => rfl
  | k + 1 => by simp only [cntIn]; rw [cnt_zero h k, h, if_neg (by decide)]; rfl
theorem lit_zero {S : St} (h : ∀ e, S 12 e 0 = 0) : ∀ k, litN S 0 k = 0
  | 0 => rfl
  | k + 1 => by simp only [litN]; rw [lit_zero h k, h]; rfl
theorem bM_zero {S : St} (h : ∀ e j, S 16 e j = 0 ∧ S 17 e j = 0) : ∀ k, bM S 0 k = 0
  | 0 => rfl
  | k + 1 => by simp only [bM, binK]; rw [bM_zero h k]; simp [h]
theorem SU_LI {Γ : Gm} {S : St} {ns : Nat} (h : SU Γ S ns 2) (hns : 1 ≤ ns ∧ ns ≤ 5) : LI S ns 0 0 0 0 := by
  obtain ⟨⟨h0, h6⟩, ⟨h1, h3⟩, hT, hL, hZ, h15⟩ := h
  have z : ∀ f, (f ≠ 0 ∧ f ≠ 1 ∧ f ≠ 10 ∧ f ≠ 11 ∧ f ≠ 15 ∧ f ≠ 20 ∧ f ≠ 25 ∧ f ≠ 45 ∧ f ≠ 60 ∧ f ≠ 81 ∧ f ≠ 82) → ∀ i j, S f i j = 0 := fun f hf i j => by
    rw [hZ f (by omega)]
    unfold Z
    rw [if_neg hf.2.2.2.2.2.2.2.1, if_neg hf.2.2.2.2.2.2.2.2.1, if_neg hf.2.2.2.2.2.2.2.2.2.1, if_neg hf.2.2.2.2.2.2.2.2.2.2]
  have z45 : S 45 0 0 = 60 := by rw [hZ 45 (by decide)]; rfl
  have z60 : S 60 0 0 = 50 := by rw [hZ 60 (by decide)]; rfl
  have z82 : S 82 0 0 = ((32 : Nat) : Int) := by rw [hZ 82 (by decide)]; rfl
  have hM : HM S = 0 := by
    unfold HM
    rw [balK_zero (fun b => ⟨z 55 (by decide) b 0, z 56 (by decide) b 0⟩), z 50 (by decide), z 51 (by decide), z 65 (by decide), z 66 (by decide), z 67 (by decide), z 68 (by decide), z 70 (by decide), z 72 (by decide), z 62 (by decide), z 63 (by decide)]
    rfl
  have hf : fetN S 2 = 0 := by simp only [fetN]; rw [z 24 (by decide), z 24 (by decide)]; rfl
  refine ⟨⟨⟨h0, h6⟩, ⟨h1, by decide⟩, ⟨by rw [z 2 (by decide)]; rfl, by decide⟩, hT, hL, ⟨32, by decide, by decide, z82, fun j _ => z 80 (by decide) 0 j⟩, ⟨⟨0, by decide, by rw [z 52 (by decide)]; rfl, fun b _ => by rw [z 57 (by decide)]; decide, fun b hb => absurd hb (by omega), fun b _ _ => ⟨z 55 (by decide) b 0, z 56 (by decide) b 0, z 57 (by decide) b 0⟩⟩, ?_⟩, ?_, ?_, fun e _ => by rw [z 12 (by decide)]; decide⟩, hns, fun i _ d _ q _ => ⟨0, by omega, by rw [z 27 (by decide)]; rfl⟩, z 87 (by decide) 0 0, ?_, ?_, ?_, ?_, by decide⟩
  · rw [z 50 (by decide), z 51 (by decide), z 65 (by decide), z 66 (by decide), z 67 (by decide), z 68 (by decide), z 69 (by decide), z 70 (by decide), z 71 (by decide), z 72 (by decide), z 62 (by decide), z 63 (by decide), z 64 (by decide)]
    decide
  · unfold okS
    rw [z45, z60, z 46 (by decide), z 47 (by decide), z 61 (by decide)]
    decide
  · exact ⟨fun e _ => z 17 (by decide) _ _, fun k _ _ => ⟨fun j _ => ⟨z 16 (by decide) _ _, z 17 (by decide) _ _⟩, z 12 (by decide) _ _⟩⟩
  · rw [bM_zero (fun e j => ⟨z 16 (by decide) e j, z 17 (by decide) e j⟩), lit_zero (fun e => z 12 (by decide) e 0), hf]
    rfl
  · rw [hM, hf]
    rfl
  · rw [cnt_zero (fun b => z 57 (by decide) b 0)]
    rfl
  · rw [hf, z 24 (by decide), z 24 (by decide)]
    decide
