/-! THE BEST SET'S ORDER: it drives the shortest way -/
theorem clr_bit : ∀ l, l < 64 → ∀ e, e < 6 → ∀ q, q < 6 → (clr l e).testBit q = (l.testBit q && !(Nat.beq q e)) := by decide +kernel
theorem clr_bc : ∀ l, l < 64 → ∀ e, e < 6 → l.testBit e = true → bc (clr l e) = bc l - 1 := by decide +kernel
theorem some_bit : ∀ l, l < 64 → l ≠ 0 → ∃ q, q < 6 ∧ l.testBit q = true := by decide +kernel
theorem far_up {S : St} {w s : Nat} {a : Int} : ∀ k, a ≤ farN S w s a k ∧ ∀ q, q < k → s.testBit q = true → S 10 (2 * q + w) 0 ≤ farN S w s a k
  | 0 => ⟨Int.le_refl _, fun q hq => absurd hq (by omega)⟩
  | k + 1 => by
    obtain ⟨h1, h2⟩ := far_up (S := S) (w := w) (s := s) (a := a) k
    simp only [farN]
    by_cases hb : s.testBit k = true
    · rw [if_pos hb]
      refine ⟨by omega, fun q hq hqb => ?_⟩
      by_cases hqk : q = k
      · subst hqk; omega
      · have := h2 q (by omega) hqb; omega
    · rw [if_neg hb]
      refine ⟨h1, fun q hq hqb => ?_⟩
      by_cases hqk : q = k
      · subst hqk; exact absurd hqb hb
      · exact h2 q (by omega) hqb
theorem far_dn {S : St} {w s : Nat} {a M : Int} (ha : a ≤ M) : ∀ k, (∀ q, q < k → s.testBit q = true → S 10 (2 * q + w) 0 ≤ M) → farN S w s a k ≤ M
  | 0, _ => ha
  | k + 1, h => by
    have ih := far_dn ha k (fun q hq hb => h q (by omega) hb)
    simp only [farN]
    by_cases hb : s.testBit k = true
    · rw [if_pos hb]
      have := h k (by omega) hb
      omega
    · rw [if_neg hb]; exact ih
theorem far_arg {S : St} {w l : Nat} : ∀ k, (∃ q, q < k ∧ l.testBit q = true) → ∃ e, e < k ∧ l.testBit e = true ∧ ∀ q, q < k → l.testBit q = true → S 10 (2 * q + w) 0 ≤ S 10 (2 * e + w) 0
  | 0, h => by obtain ⟨q, hq, -⟩ := h; omega
  | k + 1, h => by
    by_cases hx : ∃ q, q < k ∧ l.testBit q = true
    · obtain ⟨e, he, heb, hm⟩ := far_arg (S := S) (w := w) k hx
      by_cases hk : l.testBit k = true ∧ S 10 (2 * e + w) 0 ≤ S 10 (2 * k + w) 0
      · refine ⟨k, by omega, hk.1, fun q hq hqb => ?_⟩
        by_cases hqk : q = k
        · subst hqk; exact Int.le_refl _
        · exact Int.le_trans (hm q (by omega) hqb) hk.2
      · refine ⟨e, by omega, heb, fun q hq hqb => ?_⟩
        by_cases hqk : q = k
        · subst hqk
          have : ¬ S 10 (2 * e + w) 0 ≤ S 10 (2 * q + w) 0 := fun z => hk ⟨hqb, z⟩
          omega
        · exact hm q (by omega) hqb
    · obtain ⟨q, hq, hqb⟩ := h
      have hqk : q = k := Nat.le_antisymm (by omega) (Nat.not_lt.mp fun z => hx ⟨q, z, hqb⟩)
      subst hqk
      refine ⟨q, by omega, hqb, fun p hp hpb => ?_⟩
      have : p = q := Nat.le_antisymm (by omega) (Nat.not_lt.mp fun z => hx ⟨p, z, hpb⟩)
      subst this
      exact Int.le_refl _
/-- it is right to go there -/
def nxP (S : St) (w : Nat) (a : Int) (l e : Nat) : Prop := l.testBit e = true ∧ iabs (S 10 (2 * e + w) 0 - a) + wayH S w (S 10 (2 * e + w) 0) (clr l e) = wayH S w a l
theorem nxt_P {S : St} {w l : Nat} {a : Int} : ∀ m k, k + m = 6 → (∃ e, k ≤ e ∧ e < 6 ∧ nxP S w a l e) → nxP S w a l (nxt S w a l m k)
  | 0, k, h, hx => by obtain ⟨e, h1, h2, -⟩ := hx; omega
  | m + 1, k, h, hx => by
    simp only [nxt]
    by_cases hp : nxP S w a l k
    · rw [if_pos (show l.testBit k = true ∧ _ from hp)]
      exact hp
    · rw [if_neg (show ¬ (l.testBit k = true ∧ _) from hp)]
      obtain ⟨e, h1, h2, h3⟩ := hx
      refine nxt_P m (k + 1) (by omega) ⟨e, ?_, h2, h3⟩
      by_cases hek : e = k
      · subst hek; exact absurd h3 hp
      · omega
theorem nxt_ok {S : St} {w l : Nat} {a : Int} (hl : l < 64) (h0 : l ≠ 0) : nxP S w a l (nxt S w a l 6 0) := by
  obtain ⟨e, he, heb, hm⟩ := far_arg (S := S) (w := w) (l := l) 6 (some_bit l hl h0)
  refine nxt_P 6 0 (by decide) ⟨e, Nat.zero_le _, he, heb, ?_⟩
  have u1 := far_up (S := S) (w := w) (s := l) (a := a) 6
  have u2 := u1.2 e he heb
  have d1 := far_dn (S := S) (w := w) (s := l) (a := a) (M := max a (S 10 (2 * e + w) 0)) (by omega) 6 (fun q hq hb => by have := hm q hq hb; omega)
  have v1 := far_up (S := S) (w := w) (s := clr l e) (a := S 10 (2 * e + w) 0) 6
  have v2 := far_dn (S := S) (w := w) (s := clr l e) (a := S 10 (2 * e + w) 0) (M := S 10 (2 * e + w) 0) (Int.le_refl _) 6 (fun q hq hb => by
    rw [clr_bit l hl e he q hq] at hb
    exact hm q hq (by revert hb; cases l.testBit q <;> simp))
  unfold wayH iabs
  split <;> omega
/-- the sum over a set without one street -/
theorem sum_clr (S : St) (w j l e : Nat) (hl : l < 64) (he : e < 6) (hb : l.testBit e = true) : sumK S w (clr l e) j 6 = sumK S w l j 6 - KL S (2 * e + w) j := by
  have c := clr_bit l hl e he
  have c0 := c 0 (by decide)
  have c1 := c 1 (by decide)
  have c2 := c 2 (by decide)
  have c3 := c 3 (by decide)
  have c4 := c 4 (by decide)
  have c5 := c 5 (by decide)
  simp only [sumK, c0, c1, c2, c3, c4, c5]
  unfold KL
  rcases (show e = 0 ∨ e = 1 ∨ e = 2 ∨ e = 3 ∨ e = 4 ∨ e = 5 by omega) with rfl | rfl | rfl | rfl | rfl | rfl <;> simp [hb, Nat.beq] <;> (repeat' split) <;> omega
