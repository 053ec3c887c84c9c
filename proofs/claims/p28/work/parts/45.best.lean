/-! WHAT THE SEARCH FINDS is a set's -/
theorem farN_of {S S' : St} (h : S' 10 = S 10) (w s : Nat) (a : Int) : ∀ k, farN S' w s a k = farN S w s a k
  | 0 => rfl
  | k + 1 => by simp only [farN]; rw [farN_of h w s a k, h]
theorem wayH_of {S S' : St} (h : S' 10 = S 10) (w : Nat) (a : Int) (s : Nat) : wayH S' w a s = wayH S w a s := by
  unfold wayH
  rw [farN_of h]
theorem nxt_of {S S' : St} (h : S' 10 = S 10) (w : Nat) (a : Int) (l : Nat) : ∀ m k, nxt S' w a l m k = nxt S w a l m k
  | 0, _ => rfl
  | m + 1, k => by simp only [nxt]; rw [nxt_of h w a l m (k + 1), wayH_of h, wayH_of h, h]
theorem numN_of {S S' : St} (h : S' 10 = S 10) (w : Nat) : ∀ m l a num, numN S' w m l a num = numN S w m l a num
  | 0, _, _, _ => rfl
  | m + 1, l, a, num => by simp only [numN]; rw [nxt_of h, h, numN_of h w m]
theorem sumK_of {S S' : St} (h16 : S' 16 = S 16) (h17 : S' 17 = S 17) (w s j : Nat) : ∀ k, sumK S' w s j k = sumK S w s j k
  | 0 => rfl
  | k + 1 => by simp only [sumK]; rw [sumK_of h16 h17 w s j k, h16, h17]
theorem kilosS_of {S S' : St} (h16 : S' 16 = S 16) (h17 : S' 17 = S 17) (h25 : S' 25 = S 25) (w i s : Nat) : kilosS S' w i s = kilosS S w i s := by
  unfold kilosS
  rw [h25, sumK_of h16 h17, sumK_of h16 h17]
def bestP (S : St) (i N : Nat) (R : St) : Prop := (R 40 0 0 = 0 ∧ R 41 0 0 = 1) ∨ ∃ s, 1 ≤ s ∧ s < N ∧ R 40 0 0 = kilosS S 0 i s ∧ 0 < kilosS S 0 i s ∧ R 41 0 0 = numN S 0 6 s 0 1 ∧ wayH S 0 0 s + 2 * bc s ≤ S 20 i 0
theorem step_best {S S1 : St} {i N s : Nat} (e : ∀ {f : Nat}, f ≠ 40 ∧ f ≠ 41 ∧ f ≠ 42 → S1 f = S f) (hs : 1 ≤ s ∧ s < N) (h : bestP S i N S1) : bestP S i N (stepR S1 0 i s) := by
  unfold stepR
  rw [wayH_of (e (f := 10) (by decide)), kilosS_of (e (f := 16) (by decide)) (e (f := 17) (by decide)) (e (f := 25) (by decide)), numN_of (e (f := 10) (by decide)), e (f := 20) (by decide)]
  split
  · next hc =>
    unfold cmpF
    split
    · refine Or.inr ⟨s, hs.1, hs.2, ?_, hc.2, ?_, hc.1⟩
      · rw [sU_nf (by decide), sU_nf (by decide), sU_eq]
      · rw [sU_eq]
    · exact h
  · exact h
theorem run_best' {S : St} {i N : Nat} : ∀ (m s : Nat) (S1 : St), 1 ≤ s → s + m = N → (∀ {f : Nat}, f ≠ 40 ∧ f ≠ 41 ∧ f ≠ 42 → S1 f = S f) → bestP S i N S1 → bestP S i N (runN 0 i m s S1)
  | 0, _, _, _, _, _, h => h
  | m + 1, s, S1, hs, hN, e, h => run_best' m (s + 1) _ (by omega) (by omega) (fun hf => (stepR_of S1 0 i s hf).trans (e hf)) (step_best e ⟨hs, by omega⟩ h)
theorem run_best (S : St) (i n : Nat) : bestP S i (2 ^ n) (runF S 0 i n) := by
  unfold runF
  have h1 : 1 ≤ 2 ^ n := Nat.one_le_two_pow
  refine run_best' (2 ^ n - 1) 1 _ (Nat.le_refl _) (by omega) (fun hf => by rw [sU_f hf.2.2, sU_f hf.2.1, sU_f hf.1]) (Or.inl ⟨?_, ?_⟩)
  · rw [sU_nf (by decide), sU_nf (by decide), sU_eq]
  · rw [sU_nf (by decide), sU_eq]
