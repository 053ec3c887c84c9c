/-! THE DIGITS of the best round -/
theorem dig_app : ∀ (L : List Nat) (num : Int) (e : Nat), dig num (L ++ [e]) = 10 * dig num L + e
  | [], _, _ => rfl
  | x :: L, num, e => by
    simp only [List.cons_append, dig]
    exact dig_app L _ e
theorem dig_ge : ∀ (L : List Nat) (num : Int), 1 ≤ num → num * 10 ^ L.length ≤ dig num L
  | [], num, _ => by simp [dig]
  | x :: L, num, h => by
    simp only [dig, List.length_cons]
    have ih := dig_ge L (10 * num + x) (by omega)
    have e : num * 10 ^ (L.length + 1) ≤ (10 * num + x) * 10 ^ L.length := by
      rw [Int.pow_succ, Int.mul_comm (10 ^ L.length) 10, ← Int.mul_assoc]
      exact Int.mul_le_mul_of_nonneg_right (by omega) (Int.pow_nonneg (by decide))
    exact Int.le_trans e ih
theorem dig_lt : ∀ (L : List Nat) (num : Int), (∀ e, e ∈ L → e < 10) → 0 ≤ num → dig num L < (num + 1) * 10 ^ L.length
  | [], num, _, _ => by simp [dig]; omega
  | x :: L, num, h, h0 => by
    simp only [dig, List.length_cons]
    have hx := h x List.mem_cons_self
    have ih := dig_lt L (10 * num + x) (fun e he => h e (List.mem_cons_of_mem _ he)) (by omega)
    have e : (10 * num + x + 1) * 10 ^ L.length ≤ (num + 1) * 10 ^ (L.length + 1) := by
      rw [Int.pow_succ, Int.mul_comm (10 ^ L.length) 10, ← Int.mul_assoc]
      exact Int.mul_le_mul_of_nonneg_right (by omega) (Int.pow_nonneg (by decide))
    exact Int.lt_of_lt_of_le ih e
theorem dig_step {L : List Nat} (hL : ∀ e, e ∈ L → e < 10) {t : Nat} (ht : t < L.length) : dig 1 (L.take (t + 1)) / 10 = dig 1 (L.take t) ∧ dig 1 (L.take (t + 1)) % 10 = (L.getD t 0 : Nat) := by
  have e1 : L.take (t + 1) = L.take t ++ [L.getD t 0] := by
    rw [List.take_succ, List.getElem?_eq_getElem ht, List.getD_eq_getElem?_getD, List.getElem?_eq_getElem ht]
    rfl
  have hx : L.getD t 0 < 10 := by
    rw [List.getD_eq_getElem?_getD, List.getElem?_eq_getElem ht]
    exact hL _ (List.getElem_mem ht)
  rw [e1, dig_app]
  omega
theorem dig_div {L : List Nat} (hL : ∀ e, e ∈ L → e < 10) : ∀ p, p ≤ L.length → dig 1 L / 10 ^ p = dig 1 (L.take (L.length - p))
  | 0, _ => by simp
  | p + 1, h => by
    have ih := dig_div hL p (by omega)
    have st := (dig_step hL (t := L.length - (p + 1)) (by omega)).1
    rw [show L.length - (p + 1) + 1 = L.length - p by omega] at st
    rw [Int.pow_succ, ← Int.ediv_ediv_of_nonneg (Int.pow_nonneg (by decide)), ih, st]
