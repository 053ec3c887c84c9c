/-! A NEW CITY -/
def Z (Γ : Gm) : St := fun f _ _ => if f = 45 then 60 else if f = 60 then 50 else if f = 81 then (gA Γ 9 : Int) else if f = 82 then 32 else 0
def CLk (Γ : Gm) (q : Nat) : va_E := CL Γ (Z Γ) (nmL.getD q (99, 0)).1 (nmL.getD q (99, 0)).2
theorem clk {Γ : Gm} {k i : Nat} (hk : k < 26) (hi : i < cnt k) : CLk Γ (off k i) = CL Γ (Z Γ) k i := by
  unfold CLk
  rw [nm_getD hk hi]
def aX (Γ : Gm) (w : Nat) : Nat → Nat := fun j => gB Γ + (36 + 5 * (2 * j + w))
def lX (Γ : Gm) : Nat → Nat := fun j => gB Γ + (96 + 14 * j)
def WI (Γ : Gm) (S : WX) (n : Nat) (e0 e1 e2 e3 : va_E) : Prop := S.2 = n ∧ S.1 0 = e0 ∧ S.1 1 = e1 ∧ S.1 2 = e2 ∧ S.1 3 = e3 ∧ ∀ q, 3 < q → q < n → S.1 q = CLk Γ q
section WIS
variable {Γ : Gm} {S S1 : WX} {n n' : Nat} {e e0 e1 e2 e3 : va_E}
theorem WI.put0 (h : WI Γ S n e0 e1 e2 e3) : WI Γ (upk S.1 0 e, S.2) n e e1 e2 e3 := by
  have u : ∀ q, q ≠ 0 → upk S.1 0 e q = S.1 q := fun q hq => upk_ne hq
  exact ⟨h.1, (show upk S.1 0 e 0 = e from upk_eq), (u 1 (by decide)).trans h.2.2.1, (u 2 (by decide)).trans h.2.2.2.1, (u 3 (by decide)).trans h.2.2.2.2.1, fun q h1 h2 => (u q (by omega)).trans (h.2.2.2.2.2 q h1 h2)⟩
theorem WI.put1 (h : WI Γ S n e0 e1 e2 e3) : WI Γ (upk S.1 1 e, S.2) n e0 e e2 e3 := by
  have u : ∀ q, q ≠ 1 → upk S.1 1 e q = S.1 q := fun q hq => upk_ne hq
  exact ⟨h.1, (u 0 (by decide)).trans h.2.1, (show upk S.1 1 e 1 = e from upk_eq), (u 2 (by decide)).trans h.2.2.2.1, (u 3 (by decide)).trans h.2.2.2.2.1, fun q h1 h2 => (u q (by omega)).trans (h.2.2.2.2.2 q h1 h2)⟩
theorem WI.put2 (h : WI Γ S n e0 e1 e2 e3) : WI Γ (upk S.1 2 e, S.2) n e0 e1 e e3 := by
  have u : ∀ q, q ≠ 2 → upk S.1 2 e q = S.1 q := fun q hq => upk_ne hq
  exact ⟨h.1, (u 0 (by decide)).trans h.2.1, (u 1 (by decide)).trans h.2.2.1, (show upk S.1 2 e 2 = e from upk_eq), (u 3 (by decide)).trans h.2.2.2.2.1, fun q h1 h2 => (u q (by omega)).trans (h.2.2.2.2.2 q h1 h2)⟩
theorem WI.put3 (h : WI Γ S n e0 e1 e2 e3) : WI Γ (upk S.1 3 e, S.2) n e0 e1 e2 e := by
  have u : ∀ q, q ≠ 3 → upk S.1 3 e q = S.1 q := fun q hq => upk_ne hq
  exact ⟨h.1, (u 0 (by decide)).trans h.2.1, (u 1 (by decide)).trans h.2.2.1, (u 2 (by decide)).trans h.2.2.2.1, (show upk S.1 3 e 3 = e from upk_eq), fun q h1 h2 => (u q (by omega)).trans (h.2.2.2.2.2 q h1 h2)⟩
theorem WI.grow (h : WI Γ S n e0 e1 e2 e3) (hn : 4 ≤ n) (h1 : S1.2 = n') (h2 : ∀ q, q < n → S1.1 q = S.1 q) (h3 : ∀ q, n ≤ q → q < n' → S1.1 q = CLk Γ q) : WI Γ S1 n' e0 e1 e2 e3 :=
  ⟨h1, (h2 0 (by omega)).trans h.2.1, (h2 1 (by omega)).trans h.2.2.1, (h2 2 (by omega)).trans h.2.2.2.1, (h2 3 (by omega)).trans h.2.2.2.2.1, fun q q1 q2 => by
    by_cases hq : q < n
    · exact (h2 q hq).trans (h.2.2.2.2.2 q q1 hq)
    · exact h3 q (by omega) q2⟩
theorem WI.one (h : WI Γ S n e0 e1 e2 e3) (h1 : S1.2 = n + 1) (h2 : ∀ q, q < n → S1.1 q = S.1 q) (hn : 4 ≤ n) (h3 : S1.1 n = CLk Γ n) : WI Γ S1 (n + 1) e0 e1 e2 e3 := h.grow hn h1 h2 (fun q q1 q2 => by rw [show q = n by omega]; exact h3)
theorem c4 (hA : ∀ x, gA Γ x = gB Γ + x) : CLk Γ 4 = trO Γ 4 := by
  rw [show (4 : Nat) = off 3 3 from rfl, clk (by decide) (by decide)]
  simp [CL, rf, ob, hA, off, trO, Z]
theorem c5 (hA : ∀ x, gA Γ x = gB Γ + x) : CLk Γ 5 = ia Γ 2 := by
  rw [show (5 : Nat) = off 4 3 from rfl, clk (by decide) (by decide)]
  simp [CL, ia, Z]
theorem c6 (hA : ∀ x, gA Γ x = gB Γ + x) : CLk Γ 6 = ia Γ 2 := by
  rw [show (6 : Nat) = off 5 3 from rfl, clk (by decide) (by decide)]
  simp [CL, ia, Z]
theorem c7 (hA : ∀ x, gA Γ x = gB Γ + x) : CLk Γ 7 = .inr (8, z_Search) := by
  rw [show (7 : Nat) = off 6 0 from rfl, clk (by decide) (by decide)]
  simp [CL, Z, z_Search]
theorem c8 (hA : ∀ x, gA Γ x = gB Γ + x) : CLk Γ 8 = .inr (2, [ob Γ 9]) := by
  rw [show (8 : Nat) = off 7 0 from rfl, clk (by decide) (by decide)]
  simp [CL, Z, ob, hA]
  rfl
theorem c9 (hA : ∀ x, gA Γ x = gB Γ + x) : CLk Γ 9 = ia Γ 32 := by
  rw [show (9 : Nat) = off 25 0 from rfl, clk (by decide) (by decide)]
  simp [CL, Z, ia]
theorem c10 (hA : ∀ x, gA Γ x = gB Γ + x) : CLk Γ 10 = .inr (5, [nt 60, nt 0, nt 0]) := by
  rw [show (10 : Nat) = off 8 0 from rfl, clk (by decide) (by decide)]
  simp [CL, Z]
theorem c11 (hA : ∀ x, gA Γ x = gB Γ + x) : CLk Γ 11 = .inr (1, [nt 0, nt 0, ob Γ 12, nt 0]) := by
  rw [show (11 : Nat) = off 9 0 from rfl, clk (by decide) (by decide)]
  simp [CL, Z, rf, ob, hA, off]
theorem c12 (hA : ∀ x, gA Γ x = gB Γ + x) : CLk Γ 12 = ra Γ 3 20 (fun j => gB Γ + (11 + 2 + j)) 20 := by
  rw [show (12 : Nat) = off 10 0 from rfl, clk (by decide) (by decide)]
  simp [CL, ra, pa_all, hA, off]
theorem c13 (hA : ∀ x, gA Γ x = gB Γ + x) {i : Nat} (hi : i < 20) : CLk Γ (13 + i) = .inr (0, z_Bale) := by
  rw [show 13 + i = off 11 i from rfl, clk (by decide) hi]
  simp [CL, Z, z_Bale]
theorem c33 (hA : ∀ x, gA Γ x = gB Γ + x) : CLk Γ 33 = .inr (3, [nt 50, nt 0, nt 0, nt 0, nt 0]) := by
  rw [show (33 : Nat) = off 12 0 from rfl, clk (by decide) (by decide)]
  simp [CL, Z]
theorem c34 (hA : ∀ x, gA Γ x = gB Γ + x) : CLk Γ 34 = .inr (4, z_Heap) := by
  rw [show (34 : Nat) = off 13 0 from rfl, clk (by decide) (by decide)]
  simp [CL, Z, z_Heap]
theorem c35 (hA : ∀ x, gA Γ x = gB Γ + x) : CLk Γ 35 = .inr (7, z_Pit) := by
  rw [show (35 : Nat) = off 14 0 from rfl, clk (by decide) (by decide)]
  simp [CL, Z, z_Pit]
theorem cst (hA : ∀ x, gA Γ x = gB Γ + x) {t : Nat} (ht : t < 12) : CLk Γ (36 + 5 * t) = .inr (9, [nt 0, nt 0, nt 0, ob Γ (36 + 5 * t + 1), ob Γ (36 + 5 * t + 2), ob Γ (36 + 5 * t + 3), ob Γ (36 + 5 * t + 4), nt 0, nt 0]) := by
  rw [show CLk Γ (36 + 5 * t) = CL Γ (Z Γ) 15 t from clk (k := 15) (i := t) (by decide) ht]
  simp [CL, Z, rf, ob, hA, off]
  omega
theorem csa (hA : ∀ x, gA Γ x = gB Γ + x) {t i : Nat} (ht : t < 12) (hi : i < 4) : CLk Γ (36 + 5 * t + 1 + i) = ia Γ 3 := by
  rcases (show i = 0 ∨ i = 1 ∨ i = 2 ∨ i = 3 by omega) with rfl | rfl | rfl | rfl
  · rw [show 36 + 5 * t + 1 + 0 = off 16 t by show _ = 37 + 5 * t; omega, clk (by decide) ht]
    simp [CL, Z, ia]
  · rw [show 36 + 5 * t + 1 + 1 = off 17 t by show _ = 38 + 5 * t; omega, clk (by decide) ht]
    simp [CL, Z, ia]
  · rw [show 36 + 5 * t + 1 + 2 = off 18 t by show _ = 39 + 5 * t; omega, clk (by decide) ht]
    simp [CL, Z, ia]
  · rw [show 36 + 5 * t + 1 + 3 = off 19 t by show _ = 40 + 5 * t; omega, clk (by decide) ht]
    simp [CL, Z, ia]
theorem WI.trip (hA : ∀ x, gA Γ x = gB Γ + x) {w : Nat → va_E} (h : WI Γ S 4 e0 e1 e2 e3) (hp : S1.2 = 4 + 3 ∧ S1.1 4 = .inr (10, [ob Γ (4 + 1), ob Γ (4 + 2), nt 0, nt 0, nt 0, nt 0]) ∧ S1.1 (4 + 1) = ia Γ 2 ∧ S1.1 (4 + 2) = ia Γ 2 ∧ ∀ q, q < 4 → S1.1 q = w q) (hw : ∀ {q}, q < 4 → w q = S.1 q) : WI Γ S1 7 e0 e1 e2 e3 :=
  h.grow (by decide) hp.1 (fun q hq => (hp.2.2.2.2 q hq).trans (hw hq)) (fun q q1 q2 => by
    rcases (show q = 4 ∨ q = 5 ∨ q = 6 by omega) with rfl | rfl | rfl
    · exact hp.2.1.trans (c4 hA).symm
    · exact hp.2.2.1.trans (c5 hA).symm
    · exact hp.2.2.2.1.trans (c6 hA).symm)
theorem WI.diary (hA : ∀ x, gA Γ x = gB Γ + x) {w : Nat → va_E} (h : WI Γ S 8 e0 e1 e2 e3) (hp : S1.2 = 8 + 2 ∧ S1.1 8 = .inr (2, [ob Γ (8 + 1)]) ∧ S1.1 (8 + 1) = ia Γ 32 ∧ ∀ q, q < 8 → S1.1 q = w q) (hw : ∀ {q}, q < 8 → w q = S.1 q) : WI Γ S1 10 e0 e1 e2 e3 :=
  h.grow (by decide) hp.1 (fun q hq => (hp.2.2.2 q hq).trans (hw hq)) (fun q q1 q2 => by
    rcases (show q = 8 ∨ q = 9 by omega) with rfl | rfl
    · exact hp.2.1.trans (c8 hA).symm
    · exact hp.2.2.1.trans (c9 hA).symm)
theorem WI.baler (hA : ∀ x, gA Γ x = gB Γ + x) {w : Nat → va_E} (h : WI Γ S 11 e0 e1 e2 e3) (hp : S1.2 = 11 + 22 ∧ S1.1 11 = .inr (1, [nt 0, nt 0, ob Γ (11 + 1), nt 0]) ∧ S1.1 (11 + 1) = ra Γ 3 20 (fun j => gB Γ + (11 + 2 + j)) 20 ∧ (∀ i, i < 20 → S1.1 (11 + 2 + i) = .inr (0, z_Bale)) ∧ ∀ q, q < 11 → S1.1 q = w q) (hw : ∀ {q}, q < 11 → w q = S.1 q) : WI Γ S1 33 e0 e1 e2 e3 :=
  h.grow (by decide) hp.1 (fun q hq => (hp.2.2.2.2 q hq).trans (hw hq)) (fun q q1 q2 => by
    by_cases h1 : q = 11
    · subst h1; exact hp.2.1.trans (c11 hA).symm
    · by_cases h2 : q = 12
      · subst h2; exact hp.2.2.1.trans (c12 hA).symm
      · obtain ⟨i, rfl⟩ : ∃ i, q = 13 + i := ⟨q - 13, by omega⟩
        exact (hp.2.2.2.1 i (by omega)).trans (c13 hA (by omega)).symm)
theorem WI.street (hA : ∀ x, gA Γ x = gB Γ + x) {t : Nat} {w : Nat → va_E} (h : WI Γ S n e0 e1 e2 e3) (ht : n = 36 + 5 * t) (ht2 : t < 12) (hp : S1.2 = n + 5 ∧ S1.1 n = .inr (9, [nt 0, nt 0, nt 0, ob Γ (n + 1), ob Γ (n + 2), ob Γ (n + 3), ob Γ (n + 4), nt 0, nt 0]) ∧ (∀ i, i < 4 → S1.1 (n + 1 + i) = ia Γ 3) ∧ ∀ q, q < n → S1.1 q = w q) (hw : ∀ {q}, q < n → w q = S.1 q) : WI Γ S1 (n + 5) e0 e1 e2 e3 :=
  h.grow (by omega) hp.1 (fun q hq => (hp.2.2.2 q hq).trans (hw hq)) (fun q q1 q2 => by
    subst ht
    by_cases h1 : q = 36 + 5 * t
    · subst h1; exact hp.2.1.trans (cst hA ht2).symm
    · obtain ⟨i, rfl⟩ : ∃ i, q = 36 + 5 * t + 1 + i := ⟨q - (36 + 5 * t + 1), by omega⟩
      exact (hp.2.2.1 i (by omega)).trans (csa hA ht2 (by omega)).symm)
theorem WI.lorry (hA : ∀ x, gA Γ x = gB Γ + x) {i : Nat} {w : Nat → va_E} (h : WI Γ S (96 + 14 * i) e0 e1 e2 e3) (hi : i < 3) (hp : S1.2 = 96 + 14 * i + 14 ∧ S1.1 (96 + 14 * i) = loO Γ (96 + 14 * i) ∧ S1.1 (96 + 14 * i + 1) = ia Γ 2 ∧ S1.1 (96 + 14 * i + 2) = .inl (gC Γ 4, 7, .inr (.inr (.inr (.inr (fun j => some (gB Γ + (96 + 14 * i + 3 + (14 * (j / 7) + j % 7)))))))) ∧ (∀ j, j < 7 → S1.1 (96 + 14 * i + 3 + j) = ia Γ 6) ∧ S1.1 (96 + 14 * i + 10) = ia Γ 7 ∧ S1.1 (96 + 14 * i + 11) = trO Γ (96 + 14 * i + 11) ∧ S1.1 (96 + 14 * i + 12) = ia Γ 2 ∧ S1.1 (96 + 14 * i + 13) = ia Γ 2 ∧ ∀ q, q < 96 + 14 * i → S1.1 q = w q) (hw : ∀ {q}, q < 96 + 14 * i → w q = S.1 q) : WI Γ S1 (96 + 14 * (i + 1)) e0 e1 e2 e3 := by
  obtain ⟨p1, p2, p3, p4, p5, p6, p7, p8, p9, p10⟩ := hp
  have hoff3 : ∀ j : Nat, j < 3 → off 3 j = 107 + 14 * j := fun j hj => by
    show (if j = 3 then 4 else 107 + 14 * j) = _
    rw [if_neg (by omega)]
  have hoff4 : ∀ j : Nat, j < 3 → off 4 j = 108 + 14 * j := fun j hj => by
    show (if j = 3 then 5 else 108 + 14 * j) = _
    rw [if_neg (by omega)]
  have hoff5 : ∀ j : Nat, j < 3 → off 5 j = 109 + 14 * j := fun j hj => by
    show (if j = 3 then 6 else 109 + 14 * j) = _
    rw [if_neg (by omega)]
  refine h.grow (by omega) (by rw [p1]; omega) (fun q hq => (p10 q hq).trans (hw hq)) (fun q q1 q2 => ?_)
  have hi4 : i < 4 := by omega
  by_cases x0 : q = 96 + 14 * i
  · subst x0
    rw [p2, show CLk Γ (96 + 14 * i) = CL Γ (Z Γ) 20 i from clk (k := 20) (by decide) hi]
    have a3 : off 3 i = 107 + 14 * i := hoff3 i hi
    simp [CL, Z, rf, hA, loO, ob, a3]
    simp [off]
    omega
  by_cases x1 : q = 96 + 14 * i + 1
  · subst x1
    rw [p3, show 96 + 14 * i + 1 = off 21 i by show _ = 97 + 14 * i; omega, clk (by decide) hi]
    simp [CL, Z, ia]
  by_cases x2 : q = 96 + 14 * i + 2
  · subst x2
    rw [p4, show 96 + 14 * i + 2 = off 22 i by show _ = 98 + 14 * i; omega, clk (by decide) hi]
    simp only [CL, hA]
    congr 7
    funext j
    congr 2
    show _ = 99 + 14 * ((7 * i + j) / 7) + (7 * i + j) % 7
    omega
  by_cases x10 : q = 96 + 14 * i + 10
  · subst x10
    rw [p6, show 96 + 14 * i + 10 = off 24 i by show _ = 106 + 14 * i; omega, clk (by decide) hi]
    simp [CL, Z, ia]
  by_cases x11 : q = 96 + 14 * i + 11
  · subst x11
    rw [p7, show 96 + 14 * i + 11 = off 3 i by rw [hoff3 i hi]; omega, clk (by decide) (show i < 4 from hi4), hoff3 i hi]
    simp [CL, Z, rf, hA, trO, ob, hoff4 i hi, hoff5 i hi]
    omega
  by_cases x12 : q = 96 + 14 * i + 12
  · subst x12
    rw [p8, show 96 + 14 * i + 12 = off 4 i by rw [hoff4 i hi]; omega, clk (by decide) (show i < 4 from hi4)]
    simp [CL, Z, ia]
  by_cases x13 : q = 96 + 14 * i + 13
  · subst x13
    rw [p9, show 96 + 14 * i + 13 = off 5 i by rw [hoff5 i hi]; omega, clk (by decide) (show i < 4 from hi4)]
    simp [CL, Z, ia]
  obtain ⟨j, rfl⟩ : ∃ j, q = 96 + 14 * i + 3 + j := ⟨q - (96 + 14 * i + 3), by omega⟩
  have hj : j < 7 := by omega
  rw [p5 j hj, show 96 + 14 * i + 3 + j = off 23 (7 * i + j) by show _ = 99 + 14 * ((7 * i + j) / 7) + (7 * i + j) % 7; omega, clk (by decide) (show 7 * i + j < 21 by omega)]
  simp [CL, Z, ia]
end WIS

theorem ck_Ward {Γ : Gm} {w : Nat → va_E} (hA : ∀ x, gA Γ x = gB Γ + x) (h0 : w 0 = .inr (11, z_Ward)) : CK Γ y_Ward_init b_Ward_init 2 (rmx 3 137 665) [ob Γ 0] (w, 1) (fun S' => WI Γ S' 138 (.inr (11, [ob Γ 1, ob Γ 2, nt 0, ob Γ 3, nt 0, ob Γ 4, ob Γ 7, ob Γ 8, ob Γ 10, ob Γ 11, ob Γ 33, ob Γ 34, ob Γ 35, nt 0, nt 0])) (ra Γ 1 6 (aX Γ 0) 6) (ra Γ 1 6 (aX Γ 1) 6) (ra Γ 2 3 (lX Γ) 3)) := by
  refine CK.of (by first | exact plainFor_of_name (by rfl) | decide +kernel) rfl (Nat.le_of_ble_eq_true rfl) ?_
  intro G hG
  show G (0, 0) 0 [(0, ob Γ 0)] [] _
  have lor : ∀ m i : Nat, i + m = 3 → ∀ S : WX, WI Γ S (96 + 14 * i) (.inr (11, [ob Γ 1, ob Γ 2, nt 0, ob Γ 3, nt 0, ob Γ 4, ob Γ 7, ob Γ 8, ob Γ 10, ob Γ 11, ob Γ 33, ob Γ 34, ob Γ 35, nt 0, nt 0])) (ra Γ 1 6 (aX Γ 0) 6) (ra Γ 1 6 (aX Γ 1) 6) (ra Γ 2 3 (lX Γ) i) → G (95 + 14 * i, 434 + 77 * i) 160 [(0, ob Γ 0), (1, nt i)] [] S := by
    intro m
    induction m with
    | zero =>
      intro i hi S h
      have hi3 : i = 3 := by omega
      subst hi3
      refine k_iload_n hG (hl0 := rfl) (hd := d_Ward_init_160) (K := ?_)
      refine k_iconst hG (hd := d_Ward_init_161) (K := ?_)
      refine k_icmp_ge hG (hd := d_Ward_init_162) (kt := fun _ => ?_) (kf := fun hh => absurd hh (by omega))
      refine k_vret hG d_Ward_init_184 ⟨by first|exact Nat.le_of_ble_eq_true rfl|(simp [rmx]; omega), by first|exact Nat.le_of_ble_eq_true rfl|(simp [rmx]; omega)⟩ ?_
      exact h
    | succ m ih =>
      intro i hi S h
      obtain ⟨W, nW⟩ := S
      have h2 : nW = 96 + 14 * i := h.1
      subst h2
      refine k_iload_n hG (hl0 := rfl) (hd := d_Ward_init_160) (K := ?_)
      refine k_iconst hG (hd := d_Ward_init_161) (K := ?_)
      refine k_icmp_ge hG (hd := d_Ward_init_162) (kt := fun hh => absurd hh (by omega)) (kf := fun _ => ?_)
      refine k_aload_n hG (hl0 := rfl) (hd := d_Ward_init_165) (K := ?_)
      refine k_get hG (k := 0) d_Ward_init_166 (h.2.1) rfl i_Ward (j := 3) (by decide) rfl (m_T2 (i := 99) (by decide +kernel) (by decide +kernel)) rfl (by first|omega|(dsimp only; omega)) (by first|rfl|(dsimp only; omega)) ?_
      refine k_iload_n hG (hl0 := rfl) (hd := d_Ward_init_169) (K := ?_)
      refine k_new hG (ci := 6) (fs := z_Lorry) (m_T1 (i := 33) (by decide +kernel) (by decide +kernel)) (m_T2 (i := 45) (by decide +kernel) (by decide +kernel)) (m_T1 (i := 12) (by decide +kernel) (by decide +kernel)) rfl i_Lorry t_Lorry t_Lorry_ok z_Lorry_ok d_Ward_init_170 ⟨by first|exact Nat.le_of_ble_eq_true rfl|(simp [rmx]; omega), by first|exact Nat.le_of_ble_eq_true rfl|(simp [rmx]; omega)⟩ ?_
      refine k_dup hG (hd := d_Ward_init_173) (K := ?_)
      refine k_initN hG (host := "BinWard") (List.mem_of_getElem? (i := 9) rfl) (m_T2 (i := 47) (by decide +kernel) (by decide +kernel)) (m_T1 (i := 12) (by decide +kernel) (by decide +kernel)) (m_T2 (i := 48) (by decide +kernel) (by decide +kernel)) ⟨by decide, by decide⟩ (by decide +kernel) rfl d_Ward_init_174 (ck_Lorry (k := 96 + 14 * i) upk_eq) ⟨Nat.le_of_ble_eq_true rfl, Nat.le_of_ble_eq_true rfl⟩ ⟨by first|exact Nat.le_of_ble_eq_true rfl|(simp [rmx]; omega), by first|exact Nat.le_of_ble_eq_true rfl|(simp [rmx]; omega)⟩ (Nat.le_of_ble_eq_true rfl) (fun S1 hp => ?_)
      obtain ⟨N, nN⟩ := S1
      have g := h.lorry hA (by omega) hp (fun hq => upk_ne (Nat.ne_of_lt hq))
      refine k_aast hG 2 i g.2.2.2.2.1 rfl hp.2.1 rfl rfl (by omega) (by decide) (by rw [g.1]; omega) ⟨rfl, rfl⟩ d_Ward_init_177 ?_
      refine k_iinc hG (hl0 := rfl) (hd := d_Ward_init_178) (K := ?_)
      refine k_goto hG (hd := d_Ward_init_181) (K := ?_)
      refine k_sub hG (l := [(0, ob Γ 0), (1, nt ((i + 1 : Nat) : Int))]) ⟨rfl, rfl, trivial⟩ ?_
      refine k_wide hG (k := 95 + 14 * (i + 1)) (w := 434 + 77 * (i + 1)) (by dsimp only; omega) ?_
      refine ih (i + 1) (by omega) _ ?_
      have u : va_up (pa (lX Γ) 3 i) i (some (gB Γ + (96 + 14 * i))) = pa (lX Γ) 3 (i + 1) := pa_up (lX Γ) 3 i
      rw [u]
      exact g.put3
  have str : ∀ m i : Nat, i + m = 6 → ∀ S : WX, WI Γ S (36 + 10 * i) (.inr (11, [ob Γ 1, ob Γ 2, nt 0, ob Γ 3, nt 0, ob Γ 4, ob Γ 7, ob Γ 8, ob Γ 10, ob Γ 11, ob Γ 33, ob Γ 34, ob Γ 35, nt 0, nt 0])) (ra Γ 1 6 (aX Γ 0) i) (ra Γ 1 6 (aX Γ 1) i) (ra Γ 2 3 (lX Γ) 0) → G (35 + 10 * i, 182 + 42 * i) 120 [(0, ob Γ 0), (1, nt i)] [] S := by
    intro m
    induction m with
    | zero =>
      intro i hi S h
      have hi3 : i = 6 := by omega
      subst hi3
      refine k_iload_n hG (hl0 := rfl) (hd := d_Ward_init_120) (K := ?_)
      refine k_bipush hG (hd := d_Ward_init_121) (K := ?_)
      refine k_icmp_ge hG (hd := d_Ward_init_123) (kt := fun _ => ?_) (kf := fun hh => absurd hh (by omega))
      refine k_iconst hG (hd := d_Ward_init_158) (K := ?_)
      refine k_istore_n hG (hd := d_Ward_init_159) (K := ?_)
      refine k_sub hG (l := [(0, ob Γ 0), (1, nt ((0 : Nat) : Int))]) ⟨rfl, rfl, trivial⟩ ?_
      exact lor 3 0 (by omega) S h
    | succ m ih =>
      intro i hi S h
      obtain ⟨W, nW⟩ := S
      have h2 : nW = 36 + 10 * i := h.1
      subst h2
      refine k_iload_n hG (hl0 := rfl) (hd := d_Ward_init_120) (K := ?_)
      refine k_bipush hG (hd := d_Ward_init_121) (K := ?_)
      refine k_icmp_ge hG (hd := d_Ward_init_123) (kt := fun hh => absurd hh (by omega)) (kf := fun _ => ?_)
      refine k_aload_n hG (hl0 := rfl) (hd := d_Ward_init_126) (K := ?_)
      refine k_get hG (k := 0) d_Ward_init_127 (h.2.1) rfl i_Ward (j := 0) (by decide) rfl (m_T2 (i := 96) (by decide +kernel) (by decide +kernel)) rfl (by first|omega|(dsimp only; omega)) (by first|rfl|(dsimp only; omega)) ?_
      refine k_iload_n hG (hl0 := rfl) (hd := d_Ward_init_130) (K := ?_)
      refine k_new hG (ci := 9) (fs := z_Street) (m_T1 (i := 31) (by decide +kernel) (by decide +kernel)) (m_T2 (i := 1) (by decide +kernel) (by decide +kernel)) (m_T1 (i := 11) (by decide +kernel) (by decide +kernel)) rfl i_Street t_Street t_Street_ok z_Street_ok d_Ward_init_131 ⟨by first|exact Nat.le_of_ble_eq_true rfl|(simp [rmx]; omega), by first|exact Nat.le_of_ble_eq_true rfl|(simp [rmx]; omega)⟩ ?_
      refine k_dup hG (hd := d_Ward_init_134) (K := ?_)
      refine k_initN hG (host := "BinWard") (List.mem_of_getElem? (i := 8) rfl) (m_T2 (i := 3) (by decide +kernel) (by decide +kernel)) (m_T1 (i := 11) (by decide +kernel) (by decide +kernel)) (m_T2 (i := 4) (by decide +kernel) (by decide +kernel)) ⟨by decide, by decide⟩ (by decide +kernel) rfl d_Ward_init_135 (ck_Street (k := 36 + 10 * i) upk_eq) ⟨Nat.le_of_ble_eq_true rfl, Nat.le_of_ble_eq_true rfl⟩ ⟨by first|exact Nat.le_of_ble_eq_true rfl|(simp [rmx]; omega), by first|exact Nat.le_of_ble_eq_true rfl|(simp [rmx]; omega)⟩ (Nat.le_of_ble_eq_true rfl) (fun S1 hp => ?_)
      obtain ⟨N, nN⟩ := S1
      have g := h.street hA (t := 2 * i) (by omega) (by omega) hp (fun hq => upk_ne (Nat.ne_of_lt hq))
      have hn : nN = 36 + 10 * i + 5 := hp.1
      refine k_aast hG 1 i g.2.2.1 rfl hp.2.1 rfl rfl (by omega) (by decide) (by dsimp only; omega) ⟨rfl, rfl⟩ d_Ward_init_138 ?_
      have u : va_up (pa (aX Γ 0) 6 i) i (some (gB Γ + (36 + 10 * i))) = pa (aX Γ 0) 6 (i + 1) := by
        rw [show gB Γ + (36 + 10 * i) = aX Γ 0 i by unfold aX; omega]
        exact pa_up (aX Γ 0) 6 i
      rw [u]
      have g := g.put1 (e := ra Γ 1 6 (aX Γ 0) (i + 1))
      change G _ 139 _ _ (upk N 1 (ra Γ 1 6 (aX Γ 0) (i + 1)), nN)
      have g : WI Γ (upk N 1 (ra Γ 1 6 (aX Γ 0) (i + 1)), nN) _ _ _ _ _ := g
      generalize upk N 1 (ra Γ 1 6 (aX Γ 0) (i + 1)) = V at g ⊢
      subst hn
      clear hp
      refine k_aload_n hG (hl0 := rfl) (hd := d_Ward_init_139) (K := ?_)
      refine k_get hG (k := 0) d_Ward_init_140 (g.2.1) rfl i_Ward (j := 1) (by decide) rfl (m_T2 (i := 97) (by decide +kernel) (by decide +kernel)) rfl (by first|omega|(dsimp only; omega)) (by first|rfl|(dsimp only; omega)) ?_
      refine k_iload_n hG (hl0 := rfl) (hd := d_Ward_init_143) (K := ?_)
      refine k_new hG (ci := 9) (fs := z_Street) (m_T1 (i := 31) (by decide +kernel) (by decide +kernel)) (m_T2 (i := 1) (by decide +kernel) (by decide +kernel)) (m_T1 (i := 11) (by decide +kernel) (by decide +kernel)) rfl i_Street t_Street t_Street_ok z_Street_ok d_Ward_init_144 ⟨by first|exact Nat.le_of_ble_eq_true rfl|(simp [rmx]; omega), by first|exact Nat.le_of_ble_eq_true rfl|(simp [rmx]; omega)⟩ ?_
      refine k_dup hG (hd := d_Ward_init_147) (K := ?_)
      refine k_initN hG (host := "BinWard") (List.mem_of_getElem? (i := 8) rfl) (m_T2 (i := 3) (by decide +kernel) (by decide +kernel)) (m_T1 (i := 11) (by decide +kernel) (by decide +kernel)) (m_T2 (i := 4) (by decide +kernel) (by decide +kernel)) ⟨by decide, by decide⟩ (by decide +kernel) rfl d_Ward_init_148 (ck_Street (k := 36 + 10 * i + 5) upk_eq) ⟨Nat.le_of_ble_eq_true rfl, Nat.le_of_ble_eq_true rfl⟩ ⟨by first|exact Nat.le_of_ble_eq_true rfl|(simp [rmx]; omega), by first|exact Nat.le_of_ble_eq_true rfl|(simp [rmx]; omega)⟩ (Nat.le_of_ble_eq_true rfl) (fun S1 hp => ?_)
      obtain ⟨N2, nN2⟩ := S1
      have g2 := g.street hA (t := 2 * i + 1) (by omega) (by omega) hp (fun hq => upk_ne (Nat.ne_of_lt hq))
      have hn2 : nN2 = 36 + 10 * i + 5 + 5 := hp.1
      refine k_aast hG 1 i g2.2.2.2.1 rfl hp.2.1 rfl rfl (by omega) (by decide) (by dsimp only; omega) ⟨rfl, rfl⟩ d_Ward_init_151 ?_
      have u2 : va_up (pa (aX Γ 1) 6 i) i (some (gB Γ + (36 + 10 * i + 5))) = pa (aX Γ 1) 6 (i + 1) := by
        rw [show gB Γ + (36 + 10 * i + 5) = aX Γ 1 i by unfold aX; omega]
        exact pa_up (aX Γ 1) 6 i
      rw [u2]
      have g2 := g2.put2 (e := ra Γ 1 6 (aX Γ 1) (i + 1))
      refine k_iinc hG (hl0 := rfl) (hd := d_Ward_init_152) (K := ?_)
      refine k_goto hG (hd := d_Ward_init_155) (K := ?_)
      refine k_sub hG (l := [(0, ob Γ 0), (1, nt ((i + 1 : Nat) : Int))]) ⟨rfl, rfl, trivial⟩ ?_
      refine k_wide hG (k := 35 + 10 * (i + 1)) (w := 182 + 42 * (i + 1)) (by dsimp only; omega) ?_
      refine ih (i + 1) (by omega) _ ?_
      rw [show 36 + 10 * (i + 1) = 36 + 10 * i + 5 + 5 by omega]
      exact g2
  have s_pit : ∀ S : WX, WI Γ S 35 (.inr (11, [ob Γ 1, ob Γ 2, nt 0, ob Γ 3, nt 0, ob Γ 4, ob Γ 7, ob Γ 8, ob Γ 10, ob Γ 11, ob Γ 33, ob Γ 34, .null, nt 0, nt 0])) (ra Γ 1 6 (aX Γ 0) 0) (ra Γ 1 6 (aX Γ 1) 0) (ra Γ 2 3 (lX Γ) 0) → G (34, 178) 107 [(0, ob Γ 0)] [] S := by
    intro S h
    obtain ⟨W, nW⟩ := S
    have h2 : nW = 35 := h.1
    subst h2
    refine k_aload_n hG (hl0 := rfl) (hd := d_Ward_init_107) (K := ?_)
    refine k_new hG (ci := 7) (fs := z_Pit) (m_T1 (i := 218) (by decide +kernel) (by decide +kernel)) (m_T1 (i := 219) (by decide +kernel) (by decide +kernel)) (m_T1 (i := 10) (by decide +kernel) (by decide +kernel)) rfl i_Pit t_Pit t_Pit_ok z_Pit_ok d_Ward_init_108 ⟨by first|exact Nat.le_of_ble_eq_true rfl|(simp [rmx]; omega), by first|exact Nat.le_of_ble_eq_true rfl|(simp [rmx]; omega)⟩ ?_
    refine k_dup hG (hd := d_Ward_init_111) (K := ?_)
    refine k_initN hG (host := "BinWard") (List.mem_of_getElem? (i := 7) rfl) (m_T1 (i := 221) (by decide +kernel) (by decide +kernel)) (m_T1 (i := 10) (by decide +kernel) (by decide +kernel)) (m_T1 (i := 222) (by decide +kernel) (by decide +kernel)) ⟨by decide, by decide⟩ (by decide +kernel) rfl d_Ward_init_112 (ck_Pit (k := 35)) ⟨Nat.le_of_ble_eq_true rfl, Nat.le_of_ble_eq_true rfl⟩ ⟨by first|exact Nat.le_of_ble_eq_true rfl|(simp [rmx]; omega), by first|exact Nat.le_of_ble_eq_true rfl|(simp [rmx]; omega)⟩ (Nat.le_of_ble_eq_true rfl) (fun S1 hp => ?_)
    subst hp
    have g := h.one (S1 := (upk W 35 (.inr (7, z_Pit)), 36)) rfl (fun q hq => upk_ne (by omega)) (by decide) ((upk_eq (w := W) (k := 35) (e := .inr (7, z_Pit))).trans (c35 hA).symm)
    refine k_put hG (k := 0) d_Ward_init_115 (g.2.1) rfl i_Ward t_Ward_ok n_Ward (j := 12) (by decide) rfl (m_T2 (i := 108) (by decide +kernel) (by decide +kernel)) (Or.inr ⟨rfl, rfl, by decide⟩) (t_Ward_ok 12 (by decide)) rfl rfl (by simp [z_Ward]) (by first|omega|(dsimp only; omega)) (by first|rfl|(dsimp only; omega)) ?_
    refine k_iconst hG (hd := d_Ward_init_118) (K := ?_)
    refine k_istore_n hG (hd := d_Ward_init_119) (K := ?_)
    refine k_sub hG (l := [(0, ob Γ 0), (1, nt ((0 : Nat) : Int))]) ⟨rfl, rfl, trivial⟩ ?_
    exact str 6 0 (by omega) _ g.put0
  have s_heap : ∀ S : WX, WI Γ S 34 (.inr (11, [ob Γ 1, ob Γ 2, nt 0, ob Γ 3, nt 0, ob Γ 4, ob Γ 7, ob Γ 8, ob Γ 10, ob Γ 11, ob Γ 33, .null, .null, nt 0, nt 0])) (ra Γ 1 6 (aX Γ 0) 0) (ra Γ 1 6 (aX Γ 1) 0) (ra Γ 2 3 (lX Γ) 0) → G (33, 173) 96 [(0, ob Γ 0)] [] S := by
    intro S h
    obtain ⟨W, nW⟩ := S
    have h2 : nW = 34 := h.1
    subst h2
    refine k_aload_n hG (hl0 := rfl) (hd := d_Ward_init_96) (K := ?_)
    refine k_new hG (ci := 4) (fs := z_Heap) (m_T1 (i := 191) (by decide +kernel) (by decide +kernel)) (m_T1 (i := 192) (by decide +kernel) (by decide +kernel)) (m_T1 (i := 9) (by decide +kernel) (by decide +kernel)) rfl i_Heap t_Heap t_Heap_ok z_Heap_ok d_Ward_init_97 ⟨by first|exact Nat.le_of_ble_eq_true rfl|(simp [rmx]; omega), by first|exact Nat.le_of_ble_eq_true rfl|(simp [rmx]; omega)⟩ ?_
    refine k_dup hG (hd := d_Ward_init_100) (K := ?_)
    refine k_initN hG (host := "BinWard") (List.mem_of_getElem? (i := 6) rfl) (m_T1 (i := 194) (by decide +kernel) (by decide +kernel)) (m_T1 (i := 9) (by decide +kernel) (by decide +kernel)) (m_T1 (i := 195) (by decide +kernel) (by decide +kernel)) ⟨by decide, by decide⟩ (by decide +kernel) rfl d_Ward_init_101 (ck_Heap (k := 34)) ⟨Nat.le_of_ble_eq_true rfl, Nat.le_of_ble_eq_true rfl⟩ ⟨by first|exact Nat.le_of_ble_eq_true rfl|(simp [rmx]; omega), by first|exact Nat.le_of_ble_eq_true rfl|(simp [rmx]; omega)⟩ (Nat.le_of_ble_eq_true rfl) (fun S1 hp => ?_)
    subst hp
    have g := h.one (S1 := (upk W 34 (.inr (4, z_Heap)), 35)) rfl (fun q hq => upk_ne (by omega)) (by decide) ((upk_eq (w := W) (k := 34) (e := .inr (4, z_Heap))).trans (c34 hA).symm)
    refine k_put hG (k := 0) d_Ward_init_104 (g.2.1) rfl i_Ward t_Ward_ok n_Ward (j := 11) (by decide) rfl (m_T2 (i := 107) (by decide +kernel) (by decide +kernel)) (Or.inr ⟨rfl, rfl, by decide⟩) (t_Ward_ok 11 (by decide)) rfl rfl (by simp [z_Ward]) (by first|omega|(dsimp only; omega)) (by first|rfl|(dsimp only; omega)) ?_
    exact s_pit _ g.put0
  have s_fur : ∀ S : WX, WI Γ S 33 (.inr (11, [ob Γ 1, ob Γ 2, nt 0, ob Γ 3, nt 0, ob Γ 4, ob Γ 7, ob Γ 8, ob Γ 10, ob Γ 11, .null, .null, .null, nt 0, nt 0])) (ra Γ 1 6 (aX Γ 0) 0) (ra Γ 1 6 (aX Γ 1) 0) (ra Γ 2 3 (lX Γ) 0) → G (32, 168) 85 [(0, ob Γ 0)] [] S := by
    intro S h
    obtain ⟨W, nW⟩ := S
    have h2 : nW = 33 := h.1
    subst h2
    refine k_aload_n hG (hl0 := rfl) (hd := d_Ward_init_85) (K := ?_)
    refine k_new hG (ci := 3) (fs := z_Furnace) (m_T1 (i := 165) (by decide +kernel) (by decide +kernel)) (m_T1 (i := 166) (by decide +kernel) (by decide +kernel)) (m_T1 (i := 8) (by decide +kernel) (by decide +kernel)) rfl i_Furnace t_Furnace t_Furnace_ok z_Furnace_ok d_Ward_init_86 ⟨by first|exact Nat.le_of_ble_eq_true rfl|(simp [rmx]; omega), by first|exact Nat.le_of_ble_eq_true rfl|(simp [rmx]; omega)⟩ ?_
    refine k_dup hG (hd := d_Ward_init_89) (K := ?_)
    refine k_initN hG (host := "BinWard") (List.mem_of_getElem? (i := 5) rfl) (m_T1 (i := 168) (by decide +kernel) (by decide +kernel)) (m_T1 (i := 8) (by decide +kernel) (by decide +kernel)) (m_T1 (i := 169) (by decide +kernel) (by decide +kernel)) ⟨by decide, by decide⟩ (by decide +kernel) rfl d_Ward_init_90 (ck_Furnace (k := 33) (show upk W 33 _ 33 = _ from upk_eq) (by dsimp only; omega)) ⟨Nat.le_of_ble_eq_true rfl, Nat.le_of_ble_eq_true rfl⟩ ⟨by first|exact Nat.le_of_ble_eq_true rfl|(simp [rmx]; omega), by first|exact Nat.le_of_ble_eq_true rfl|(simp [rmx]; omega)⟩ (Nat.le_of_ble_eq_true rfl) (fun S1 hp => ?_)
    obtain ⟨N, nN⟩ := S1
    have g := h.one (S1 := (N, nN)) hp.1 (fun q hq => (hp.2.2 q (by omega)).trans (upk_ne (by omega))) (by decide) (hp.2.1.trans (c33 hA).symm)
    refine k_put hG (k := 0) d_Ward_init_93 (g.2.1) rfl i_Ward t_Ward_ok n_Ward (j := 10) (by decide) rfl (m_T2 (i := 106) (by decide +kernel) (by decide +kernel)) (Or.inr ⟨rfl, rfl, by decide⟩) (t_Ward_ok 10 (by decide)) rfl rfl (by simp [z_Ward]) (by first|omega|(dsimp only; omega)) (by first|rfl|(dsimp only; omega)) ?_
    exact s_heap _ g.put0
  have s_bal : ∀ S : WX, WI Γ S 11 (.inr (11, [ob Γ 1, ob Γ 2, nt 0, ob Γ 3, nt 0, ob Γ 4, ob Γ 7, ob Γ 8, ob Γ 10, .null, .null, .null, .null, nt 0, nt 0])) (ra Γ 1 6 (aX Γ 0) 0) (ra Γ 1 6 (aX Γ 1) 0) (ra Γ 2 3 (lX Γ) 0) → G (10, 64) 74 [(0, ob Γ 0)] [] S := by
    intro S h
    obtain ⟨W, nW⟩ := S
    have h2 : nW = 11 := h.1
    subst h2
    refine k_aload_n hG (hl0 := rfl) (hd := d_Ward_init_74) (K := ?_)
    refine k_new hG (ci := 1) (fs := z_Baler) (m_T1 (i := 115) (by decide +kernel) (by decide +kernel)) (m_T1 (i := 116) (by decide +kernel) (by decide +kernel)) (m_T1 (i := 6) (by decide +kernel) (by decide +kernel)) rfl i_Baler t_Baler t_Baler_ok z_Baler_ok d_Ward_init_75 ⟨by first|exact Nat.le_of_ble_eq_true rfl|(simp [rmx]; omega), by first|exact Nat.le_of_ble_eq_true rfl|(simp [rmx]; omega)⟩ ?_
    refine k_dup hG (hd := d_Ward_init_78) (K := ?_)
    refine k_init hG (m_T1 (i := 117) (by decide +kernel) (by decide +kernel)) (m_T1 (i := 118) (by decide +kernel) (by decide +kernel)) (m_T1 (i := 6) (by decide +kernel) (by decide +kernel)) (m_T1 (i := 119) (by decide +kernel) (by decide +kernel)) (m_T1 (i := 119) (by decide +kernel) (by decide +kernel)) ⟨by decide, by decide⟩ (by decide +kernel) rfl d_Ward_init_79 (ck_Baler (k := 11) upk_eq) ⟨Nat.le_of_ble_eq_true rfl, Nat.le_of_ble_eq_true rfl⟩ ⟨by first|exact Nat.le_of_ble_eq_true rfl|(simp [rmx]; omega), by first|exact Nat.le_of_ble_eq_true rfl|(simp [rmx]; omega)⟩ (Nat.le_of_ble_eq_true rfl) (fun S1 hp => ?_)
    obtain ⟨N, nN⟩ := S1
    have g := h.baler hA hp (fun hq => upk_ne (Nat.ne_of_lt hq))
    refine k_put hG (k := 0) d_Ward_init_82 (g.2.1) rfl i_Ward t_Ward_ok n_Ward (j := 9) (by decide) rfl (m_T2 (i := 105) (by decide +kernel) (by decide +kernel)) (Or.inr ⟨rfl, rfl, by decide⟩) (t_Ward_ok 9 (by decide)) rfl rfl (by simp [z_Ward]) (by first|omega|(dsimp only; omega)) (by first|rfl|(dsimp only; omega)) ?_
    exact s_fur _ g.put0
  have s_lin : ∀ S : WX, WI Γ S 10 (.inr (11, [ob Γ 1, ob Γ 2, nt 0, ob Γ 3, nt 0, ob Γ 4, ob Γ 7, ob Γ 8, .null, .null, .null, .null, .null, nt 0, nt 0])) (ra Γ 1 6 (aX Γ 0) 0) (ra Γ 1 6 (aX Γ 1) 0) (ra Γ 2 3 (lX Γ) 0) → G (9, 61) 63 [(0, ob Γ 0)] [] S := by
    intro S h
    obtain ⟨W, nW⟩ := S
    have h2 : nW = 10 := h.1
    subst h2
    refine k_aload_n hG (hl0 := rfl) (hd := d_Ward_init_63) (K := ?_)
    refine k_new hG (ci := 5) (fs := z_Line) (m_T1 (i := 97) (by decide +kernel) (by decide +kernel)) (m_T1 (i := 98) (by decide +kernel) (by decide +kernel)) (m_T1 (i := 5) (by decide +kernel) (by decide +kernel)) rfl i_Line t_Line t_Line_ok z_Line_ok d_Ward_init_64 ⟨by first|exact Nat.le_of_ble_eq_true rfl|(simp [rmx]; omega), by first|exact Nat.le_of_ble_eq_true rfl|(simp [rmx]; omega)⟩ ?_
    refine k_dup hG (hd := d_Ward_init_67) (K := ?_)
    refine k_initN hG (host := "BinWard") (List.mem_of_getElem? (i := 3) rfl) (m_T1 (i := 100) (by decide +kernel) (by decide +kernel)) (m_T1 (i := 5) (by decide +kernel) (by decide +kernel)) (m_T1 (i := 101) (by decide +kernel) (by decide +kernel)) ⟨by decide, by decide⟩ (by decide +kernel) rfl d_Ward_init_68 (ck_Line (k := 10) (show upk W 10 _ 10 = _ from upk_eq) (by dsimp only; omega)) ⟨Nat.le_of_ble_eq_true rfl, Nat.le_of_ble_eq_true rfl⟩ ⟨by first|exact Nat.le_of_ble_eq_true rfl|(simp [rmx]; omega), by first|exact Nat.le_of_ble_eq_true rfl|(simp [rmx]; omega)⟩ (Nat.le_of_ble_eq_true rfl) (fun S1 hp => ?_)
    obtain ⟨N, nN⟩ := S1
    have g := h.one (S1 := (N, nN)) hp.1 (fun q hq => (hp.2.2 q (by omega)).trans (upk_ne (by omega))) (by decide) (hp.2.1.trans (c10 hA).symm)
    refine k_put hG (k := 0) d_Ward_init_71 (g.2.1) rfl i_Ward t_Ward_ok n_Ward (j := 8) (by decide) rfl (m_T2 (i := 104) (by decide +kernel) (by decide +kernel)) (Or.inr ⟨rfl, rfl, by decide⟩) (t_Ward_ok 8 (by decide)) rfl rfl (by simp [z_Ward]) (by first|omega|(dsimp only; omega)) (by first|rfl|(dsimp only; omega)) ?_
    exact s_bal _ g.put0
  have s_dia : ∀ S : WX, WI Γ S 8 (.inr (11, [ob Γ 1, ob Γ 2, nt 0, ob Γ 3, nt 0, ob Γ 4, ob Γ 7, .null, .null, .null, .null, .null, .null, nt 0, nt 0])) (ra Γ 1 6 (aX Γ 0) 0) (ra Γ 1 6 (aX Γ 1) 0) (ra Γ 2 3 (lX Γ) 0) → G (7, 28) 52 [(0, ob Γ 0)] [] S := by
    intro S h
    obtain ⟨W, nW⟩ := S
    have h2 : nW = 8 := h.1
    subst h2
    refine k_aload_n hG (hl0 := rfl) (hd := d_Ward_init_52) (K := ?_)
    refine k_new hG (ci := 2) (fs := z_Diary) (m_T1 (i := 87) (by decide +kernel) (by decide +kernel)) (m_T1 (i := 88) (by decide +kernel) (by decide +kernel)) (m_T1 (i := 4) (by decide +kernel) (by decide +kernel)) rfl i_Diary t_Diary t_Diary_ok z_Diary_ok d_Ward_init_53 ⟨by first|exact Nat.le_of_ble_eq_true rfl|(simp [rmx]; omega), by first|exact Nat.le_of_ble_eq_true rfl|(simp [rmx]; omega)⟩ ?_
    refine k_dup hG (hd := d_Ward_init_56) (K := ?_)
    refine k_initN hG (host := "BinWard") (List.mem_of_getElem? (i := 2) rfl) (m_T1 (i := 90) (by decide +kernel) (by decide +kernel)) (m_T1 (i := 4) (by decide +kernel) (by decide +kernel)) (m_T1 (i := 91) (by decide +kernel) (by decide +kernel)) ⟨by decide, by decide⟩ (by decide +kernel) rfl d_Ward_init_57 (ck_Diary (k := 8) upk_eq) ⟨Nat.le_of_ble_eq_true rfl, Nat.le_of_ble_eq_true rfl⟩ ⟨by first|exact Nat.le_of_ble_eq_true rfl|(simp [rmx]; omega), by first|exact Nat.le_of_ble_eq_true rfl|(simp [rmx]; omega)⟩ (Nat.le_of_ble_eq_true rfl) (fun S1 hp => ?_)
    obtain ⟨N, nN⟩ := S1
    have g := h.diary hA hp (fun hq => upk_ne (Nat.ne_of_lt hq))
    refine k_put hG (k := 0) d_Ward_init_60 (g.2.1) rfl i_Ward t_Ward_ok n_Ward (j := 7) (by decide) rfl (m_T2 (i := 103) (by decide +kernel) (by decide +kernel)) (Or.inr ⟨rfl, rfl, by decide⟩) (t_Ward_ok 7 (by decide)) rfl rfl (by simp [z_Ward]) (by first|omega|(dsimp only; omega)) (by first|rfl|(dsimp only; omega)) ?_
    exact s_lin _ g.put0
  have s_sea : ∀ S : WX, WI Γ S 7 (.inr (11, [ob Γ 1, ob Γ 2, nt 0, ob Γ 3, nt 0, ob Γ 4, .null, .null, .null, .null, .null, .null, .null, nt 0, nt 0])) (ra Γ 1 6 (aX Γ 0) 0) (ra Γ 1 6 (aX Γ 1) 0) (ra Γ 2 3 (lX Γ) 0) → G (6, 25) 41 [(0, ob Γ 0)] [] S := by
    intro S h
    obtain ⟨W, nW⟩ := S
    have h2 : nW = 7 := h.1
    subst h2
    refine k_aload_n hG (hl0 := rfl) (hd := d_Ward_init_41) (K := ?_)
    refine k_new hG (ci := 8) (fs := z_Search) (m_T1 (i := 69) (by decide +kernel) (by decide +kernel)) (m_T1 (i := 70) (by decide +kernel) (by decide +kernel)) (m_T1 (i := 3) (by decide +kernel) (by decide +kernel)) rfl i_Search t_Search t_Search_ok z_Search_ok d_Ward_init_42 ⟨by first|exact Nat.le_of_ble_eq_true rfl|(simp [rmx]; omega), by first|exact Nat.le_of_ble_eq_true rfl|(simp [rmx]; omega)⟩ ?_
    refine k_dup hG (hd := d_Ward_init_45) (K := ?_)
    refine k_initN hG (host := "BinWard") (List.mem_of_getElem? (i := 1) rfl) (m_T1 (i := 72) (by decide +kernel) (by decide +kernel)) (m_T1 (i := 3) (by decide +kernel) (by decide +kernel)) (m_T1 (i := 73) (by decide +kernel) (by decide +kernel)) ⟨by decide, by decide⟩ (by decide +kernel) rfl d_Ward_init_46 (ck_Search (k := 7)) ⟨Nat.le_of_ble_eq_true rfl, Nat.le_of_ble_eq_true rfl⟩ ⟨by first|exact Nat.le_of_ble_eq_true rfl|(simp [rmx]; omega), by first|exact Nat.le_of_ble_eq_true rfl|(simp [rmx]; omega)⟩ (Nat.le_of_ble_eq_true rfl) (fun S1 hp => ?_)
    subst hp
    have g := h.one (S1 := (upk W 7 (.inr (8, z_Search)), 8)) rfl (fun q hq => upk_ne (by omega)) (by decide) ((upk_eq (w := W) (k := 7) (e := .inr (8, z_Search))).trans (c7 hA).symm)
    refine k_put hG (k := 0) d_Ward_init_49 (g.2.1) rfl i_Ward t_Ward_ok n_Ward (j := 6) (by decide) rfl (m_T2 (i := 102) (by decide +kernel) (by decide +kernel)) (Or.inr ⟨rfl, rfl, by decide⟩) (t_Ward_ok 6 (by decide)) rfl rfl (by simp [z_Ward]) (by first|omega|(dsimp only; omega)) (by first|rfl|(dsimp only; omega)) ?_
    exact s_dia _ g.put0
  have s_tri : ∀ S : WX, WI Γ S 4 (.inr (11, [ob Γ 1, ob Γ 2, nt 0, ob Γ 3, nt 0, .null, .null, .null, .null, .null, .null, .null, .null, nt 0, nt 0])) (ra Γ 1 6 (aX Γ 0) 0) (ra Γ 1 6 (aX Γ 1) 0) (ra Γ 2 3 (lX Γ) 0) → G (3, 15) 30 [(0, ob Γ 0)] [] S := by
    intro S h
    obtain ⟨W, nW⟩ := S
    have h2 : nW = 4 := h.1
    subst h2
    refine k_aload_n hG (hl0 := rfl) (hd := d_Ward_init_30) (K := ?_)
    refine k_new hG (ci := 10) (fs := z_Trip) (m_T1 (i := 35) (by decide +kernel) (by decide +kernel)) (m_T1 (i := 36) (by decide +kernel) (by decide +kernel)) (m_T1 (i := 2) (by decide +kernel) (by decide +kernel)) rfl i_Trip t_Trip t_Trip_ok z_Trip_ok d_Ward_init_31 ⟨by first|exact Nat.le_of_ble_eq_true rfl|(simp [rmx]; omega), by first|exact Nat.le_of_ble_eq_true rfl|(simp [rmx]; omega)⟩ ?_
    refine k_dup hG (hd := d_Ward_init_34) (K := ?_)
    refine k_initN hG (host := "BinWard") (List.mem_of_getElem? (i := 0) rfl) (m_T1 (i := 38) (by decide +kernel) (by decide +kernel)) (m_T1 (i := 2) (by decide +kernel) (by decide +kernel)) (m_T1 (i := 39) (by decide +kernel) (by decide +kernel)) ⟨by decide, by decide⟩ (by decide +kernel) rfl d_Ward_init_35 (ck_Trip (k := 4) upk_eq) ⟨Nat.le_of_ble_eq_true rfl, Nat.le_of_ble_eq_true rfl⟩ ⟨by first|exact Nat.le_of_ble_eq_true rfl|(simp [rmx]; omega), by first|exact Nat.le_of_ble_eq_true rfl|(simp [rmx]; omega)⟩ (Nat.le_of_ble_eq_true rfl) (fun S1 hp => ?_)
    obtain ⟨N, nN⟩ := S1
    have g := h.trip hA hp (fun hq => upk_ne (Nat.ne_of_lt hq))
    refine k_put hG (k := 0) d_Ward_init_38 (g.2.1) rfl i_Ward t_Ward_ok n_Ward (j := 5) (by decide) rfl (m_T2 (i := 101) (by decide +kernel) (by decide +kernel)) (Or.inr ⟨rfl, rfl, by decide⟩) (t_Ward_ok 5 (by decide)) rfl rfl (by simp [z_Ward]) (by first|omega|(dsimp only; omega)) (by first|rfl|(dsimp only; omega)) ?_
    exact s_sea _ g.put0
  have v1 : (upk w 1 (ra Γ 1 6 (aX Γ 0) 0)) 0 = .inr (11, z_Ward) := (upk_ne (by decide)).trans h0
  have v2 : (upk (upk (upk w 1 (ra Γ 1 6 (aX Γ 0) 0)) 0 (.inr (11, z_Ward.set 0 (ob Γ 1)))) 2 (ra Γ 1 6 (aX Γ 1) 0)) 0 = (.inr (11, z_Ward.set 0 (ob Γ 1))) := (upk_ne (by decide)).trans upk_eq
  have v3 : (upk (upk (upk (upk (upk w 1 (ra Γ 1 6 (aX Γ 0) 0)) 0 (.inr (11, z_Ward.set 0 (ob Γ 1)))) 2 (ra Γ 1 6 (aX Γ 1) 0)) 0 (.inr (11, (z_Ward.set 0 (ob Γ 1)).set 1 (ob Γ 2)))) 3 (ra Γ 2 3 (lX Γ) 0)) 0 = (.inr (11, (z_Ward.set 0 (ob Γ 1)).set 1 (ob Γ 2))) := (upk_ne (by decide)).trans upk_eq
  refine k_aload_n hG (hl0 := rfl) (hd := d_Ward_init_0) (K := ?_)
  refine k_obj hG (m_T1 (i := 28) (by decide +kernel) (by decide +kernel)) d_Ward_init_1 ⟨Nat.le_of_ble_eq_true rfl, Nat.le_of_ble_eq_true rfl⟩ ?_
  refine k_aload_n hG (hl0 := rfl) (hd := d_Ward_init_4) (K := ?_)
  refine k_bipush hG (hd := d_Ward_init_5) (K := ?_)
  refine k_anewp hG 1 6 rfl (fun U h => h.2.1.1) (m_T1 (i := 31) (by decide +kernel) (by decide +kernel)) (aX Γ 0) rfl (by decide) d_Ward_init_7 ⟨by first|exact Nat.le_of_ble_eq_true rfl|(simp [rmx]; omega), by first|exact Nat.le_of_ble_eq_true rfl|(simp [rmx]; omega)⟩ ?_
  refine k_put hG (k := 0) d_Ward_init_10 (v1) rfl i_Ward t_Ward_ok n_Ward (j := 0) (by decide) rfl (m_T2 (i := 96) (by decide +kernel) (by decide +kernel)) (Or.inr ⟨rfl, rfl, by decide⟩) (t_Ward_ok 0 (by decide)) rfl rfl (by simp [z_Ward]) (by first|omega|(dsimp only; omega)) (by first|rfl|(dsimp only; omega)) ?_
  refine k_aload_n hG (hl0 := rfl) (hd := d_Ward_init_13) (K := ?_)
  refine k_bipush hG (hd := d_Ward_init_14) (K := ?_)
  refine k_anewp hG 1 6 rfl (fun U h => h.2.1.1) (m_T1 (i := 31) (by decide +kernel) (by decide +kernel)) (aX Γ 1) rfl (by decide) d_Ward_init_16 ⟨by first|exact Nat.le_of_ble_eq_true rfl|(simp [rmx]; omega), by first|exact Nat.le_of_ble_eq_true rfl|(simp [rmx]; omega)⟩ ?_
  refine k_put hG (k := 0) d_Ward_init_19 (v2) rfl i_Ward t_Ward_ok n_Ward (j := 1) (by decide) rfl (m_T2 (i := 97) (by decide +kernel) (by decide +kernel)) (Or.inr ⟨rfl, rfl, by decide⟩) (t_Ward_ok 1 (by decide)) rfl rfl (by simp [z_Ward]) (by first|omega|(dsimp only; omega)) (by first|rfl|(dsimp only; omega)) ?_
  refine k_aload_n hG (hl0 := rfl) (hd := d_Ward_init_22) (K := ?_)
  refine k_iconst hG (hd := d_Ward_init_23) (K := ?_)
  refine k_anewp hG 2 3 rfl (fun U h => h.2.1.2.1) (m_T1 (i := 33) (by decide +kernel) (by decide +kernel)) (lX Γ) rfl (by decide) d_Ward_init_24 ⟨by first|exact Nat.le_of_ble_eq_true rfl|(simp [rmx]; omega), by first|exact Nat.le_of_ble_eq_true rfl|(simp [rmx]; omega)⟩ ?_
  refine k_put hG (k := 0) d_Ward_init_27 (v3) rfl i_Ward t_Ward_ok n_Ward (j := 3) (by decide) rfl (m_T2 (i := 99) (by decide +kernel) (by decide +kernel)) (Or.inr ⟨rfl, rfl, by decide⟩) (t_Ward_ok 3 (by decide)) rfl rfl (by simp [z_Ward]) (by first|omega|(dsimp only; omega)) (by first|rfl|(dsimp only; omega)) ?_
  refine s_tri _ ⟨rfl, rfl, rfl, rfl, rfl, fun q h1 h2 => absurd h2 (by omega)⟩
