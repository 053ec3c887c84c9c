/-! A SEARCH BEHIND A SEARCH finds the same -/
def E0 (S S' : St) : Prop := ∀ f i j, ¬ ((f = 40 ∨ f = 41 ∨ f = 42) ∧ i = 0 ∧ j = 0) → S' f i j = S f i j
theorem E0.fld {S S' : St} (h : E0 S S') {f : Nat} (hf : f ≠ 40 ∧ f ≠ 41 ∧ f ≠ 42) : S' f = S f := by
  funext i j
  exact h f i j (fun q => by omega)
theorem E0_step (S : St) (i s : Nat) : E0 S (stepR S 0 i s) := by
  intro f i' j' h
  unfold stepR
  split
  · unfold cmpF
    split
    · simp only [sU]
      rw [if_neg (fun q => h ⟨by omega, q.2⟩), if_neg (fun q => h ⟨by omega, q.2⟩), if_neg (fun q => h ⟨by omega, q.2⟩)]
    · rfl
  · rfl
theorem E0_run (i : Nat) : ∀ (m s : Nat) (S : St), E0 S (runN 0 i m s S)
  | 0, _, _ => fun _ _ _ _ => rfl
  | m + 1, s, S => fun f i' j' h => (E0_run i m (s + 1) _ f i' j' h).trans (E0_step S i s f i' j' h)
theorem E0_runF (S : St) (i n : Nat) : E0 S (runF S 0 i n) := by
  intro f i' j' h
  unfold runF
  rw [E0_run i _ _ _ f i' j' h]
  simp only [sU]
  rw [if_neg (fun q => h ⟨by omega, q.2⟩), if_neg (fun q => h ⟨by omega, q.2⟩), if_neg (fun q => h ⟨by omega, q.2⟩)]
theorem runF_E0 {S S' : St} (h : E0 S S') (i n : Nat) : runF S' 0 i n = runF S 0 i n := by
  unfold runF
  congr 1
  funext f i' j'
  simp only [sU]
  by_cases c : (f = 40 ∨ f = 41 ∨ f = 42) ∧ i' = 0 ∧ j' = 0
  · obtain ⟨c1, rfl, rfl⟩ := c
    rcases c1 with rfl | rfl | rfl <;> simp
  · rw [h f i' j' c]
theorem runF_again (S : St) (i n : Nat) : runF (runF S 0 i n) 0 i n = runF S 0 i n := runF_E0 (E0_runF S i n) i n
