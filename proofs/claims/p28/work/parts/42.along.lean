/-! ALONG THE ORDER: nothing is left out, and what is fetched -/
def ordL (S : St) (w : Nat) : Nat → Nat → Int → List Nat
  | 0, _, _ => []
  | m + 1, l, a => if l = 0 then [] else nxt S w a l 6 0 :: ordL S w m (clr l (nxt S w a l 6 0)) (S 10 (2 * nxt S w a l 6 0 + w) 0)
def dig (num : Int) : List Nat → Int
  | [] => num
  | e :: l => dig (10 * num + e) l
theorem numN_dig (S : St) (w : Nat) : ∀ (m l : Nat) (a num : Int), numN S w m l a num = dig num (ordL S w m l a)
  | 0, _, _, _ => rfl
  | m + 1, l, a, num => by
    simp only [numN, ordL]
    by_cases h : l = 0
    · rw [if_pos h, if_pos h]; rfl
    · rw [if_neg h, if_neg h]
      simp only [dig]
      exact numN_dig S w m _ _ _
theorem bc_zero : ∀ l, l < 64 → (bc l = 0 ↔ l = 0) := by decide +kernel
theorem ord_in {S : St} {w : Nat} : ∀ (m l : Nat) (a : Int), l < 64 → bc l ≤ m → ((ordL S w m l a).length : Int) = bc l ∧ (∀ e, e ∈ ordL S w m l a → e < 6 ∧ l.testBit e = true) ∧ (ordL S w m l a).Nodup
  | 0, l, a, hl, hb => by
    have h0 := (bc_01 l).1
    simp only [ordL]
    exact ⟨by simp; omega, fun e he => (by cases he), List.nodup_nil⟩
  | m + 1, l, a, hl, hb => by
    simp only [ordL]
    by_cases h : l = 0
    · rw [if_pos h]
      have := (bc_zero l hl).mpr h
      exact ⟨by simp; omega, fun e he => (by cases he), List.nodup_nil⟩
    · rw [if_neg h]
      have ok := nxt_ok (S := S) (w := w) (a := a) hl h
      have e6 := nxt_lt S w a l 6 0 (by decide)
      generalize nxt S w a l 6 0 = e at ok e6 ⊢
      have cb := clr_bc l hl e e6 ok.1
      obtain ⟨i1, i2, i3⟩ := ord_in (S := S) (w := w) m (clr l e) (S 10 (2 * e + w) 0) (clr_lt hl) (by omega)
      refine ⟨by simp only [List.length_cons]; omega, fun q hq => ?_, List.nodup_cons.mpr ⟨fun hq => ?_, i3⟩⟩
      · rcases List.mem_cons.mp hq with rfl | hq
        · exact ⟨e6, ok.1⟩
        · obtain ⟨q6, qb⟩ := i2 q hq
          rw [clr_bit l hl e e6 q q6] at qb
          exact ⟨q6, by revert qb; cases l.testBit q <;> simp⟩
      · obtain ⟨q6, qb⟩ := i2 e hq
        rw [clr_bit l hl e e6 e e6] at qb
        simp at qb
/-- what would be fetched yet -/
def PhA (c0 c1 r0 r1 : Int) : Int := min 150 (c0 + r0) + min 150 (c1 + r1)
def PhB (c0 c1 r : Int) : Int := min 300 (c0 + c1 + r)
theorem wayH_zero (S : St) (w : Nat) (a : Int) : wayH S w a 0 = a := by
  have u := far_up (S := S) (w := w) (s := 0) (a := a) 6
  have d := far_dn (S := S) (w := w) (s := 0) (a := a) (Int.le_refl _) 6 (fun q _ hb => by simp at hb)
  unfold wayH
  omega
theorem way_ge {S : St} {w s : Nat} {a : Int} : a ≤ wayH S w a s := by
  have u := (far_up (S := S) (w := w) (s := s) (a := a) 6).1
  unfold wayH
  omega
