/-! THE WORLD: a city's cells, by names (kind, index); its numbers: a state (field, index, place) -/
abbrev St : Type := Nat → Nat → Nat → Int
def iI (z : Int) : Int32 := Int32.ofInt z
def nt (z : Int) : Value := .int (iI z)
def sU (S : St) (f i j : Nat) (v : Int) : St := fun f' i' j' => if f' = f ∧ i' = i ∧ j' = j then v else S f' i' j'
theorem sU_eq {S : St} {f i j : Nat} {v : Int} : sU S f i j v f i j = v := by simp [sU]
theorem sU_nf {S : St} {f i j f' i' j' : Nat} {v : Int} (h : f' ≠ f) : sU S f i j v f' i' j' = S f' i' j' := if_neg (fun q => h q.1)
theorem sU_ni {S : St} {f i j f' i' j' : Nat} {v : Int} (h : i' ≠ i) : sU S f i j v f' i' j' = S f' i' j' := if_neg (fun q => h q.2.1)
theorem sU_nj {S : St} {f i j f' i' j' : Nat} {v : Int} (h : j' ≠ j) : sU S f i j v f' i' j' = S f' i' j' := if_neg (fun q => h q.2.2)
abbrev Gm : Type := Launch × va_G × (Nat → ClassId) × Nat × (Nat → Nat) × Nat × Nat × (Nat → Int32)
abbrev gL (Γ : Gm) : Launch := Γ.1
abbrev gD (Γ : Gm) : va_G := Γ.2.1
abbrev gC (Γ : Gm) : Nat → ClassId := Γ.2.2.1
abbrev gB (Γ : Gm) : Nat := Γ.2.2.2.1
abbrev gA (Γ : Gm) : Nat → Nat := Γ.2.2.2.2.1
abbrev gX (Γ : Gm) : Nat × Nat × (Nat → Int32) := Γ.2.2.2.2.2
def gF (Γ : Gm) : Nat → Prop := fun q => gB Γ ≤ q
def off (k i : Nat) : Nat := match k with
  | 0 => 0
  | 1 => 1 + i
  | 2 => 3
  | 3 => if i = 3 then 4 else 107 + 14 * i
  | 4 => if i = 3 then 5 else 108 + 14 * i
  | 5 => if i = 3 then 6 else 109 + 14 * i
  | 6 => 7
  | 7 => 8
  | 8 => 10
  | 9 => 11
  | 10 => 12
  | 11 => 13 + i
  | 12 => 33
  | 13 => 34
  | 14 => 35
  | 15 => 36 + 5 * i
  | 16 => 37 + 5 * i
  | 17 => 38 + 5 * i
  | 18 => 39 + 5 * i
  | 19 => 40 + 5 * i
  | 20 => 96 + 14 * i
  | 21 => 97 + 14 * i
  | 22 => 98 + 14 * i
  | 23 => 99 + 14 * (i / 7) + i % 7
  | 24 => 106 + 14 * i
  | 25 => 9
  | _ => 138
def cnt (k : Nat) : Nat := [1,2,1,4,4,4,1,1,1,1,1,20,1,1,1,12,12,12,12,12,3,3,3,21,3,1].getD k 0
def nmL : List (Nat × Nat) := [(0, 0), (1, 0), (1, 1), (2, 0), (3, 3), (4, 3), (5, 3), (6, 0), (7, 0), (25, 0), (8, 0), (9, 0), (10, 0), (11, 0), (11, 1), (11, 2), (11, 3), (11, 4), (11, 5), (11, 6), (11, 7), (11, 8), (11, 9), (11, 10), (11, 11), (11, 12), (11, 13), (11, 14), (11, 15), (11, 16), (11, 17), (11, 18), (11, 19), (12, 0), (13, 0), (14, 0), (15, 0), (16, 0), (17, 0), (18, 0), (19, 0), (15, 1), (16, 1), (17, 1), (18, 1), (19, 1), (15, 2), (16, 2), (17, 2), (18, 2), (19, 2), (15, 3), (16, 3), (17, 3), (18, 3), (19, 3), (15, 4), (16, 4), (17, 4), (18, 4), (19, 4), (15, 5), (16, 5), (17, 5), (18, 5), (19, 5), (15, 6), (16, 6), (17, 6), (18, 6), (19, 6), (15, 7), (16, 7), (17, 7), (18, 7), (19, 7), (15, 8), (16, 8), (17, 8), (18, 8), (19, 8), (15, 9), (16, 9), (17, 9), (18, 9), (19, 9), (15, 10), (16, 10), (17, 10), (18, 10), (19, 10), (15, 11), (16, 11), (17, 11), (18, 11), (19, 11), (20, 0), (21, 0), (22, 0), (23, 0), (23, 1), (23, 2), (23, 3), (23, 4), (23, 5), (23, 6), (24, 0), (3, 0), (4, 0), (5, 0), (20, 1), (21, 1), (22, 1), (23, 7), (23, 8), (23, 9), (23, 10), (23, 11), (23, 12), (23, 13), (24, 1), (3, 1), (4, 1), (5, 1), (20, 2), (21, 2), (22, 2), (23, 14), (23, 15), (23, 16), (23, 17), (23, 18), (23, 19), (23, 20), (24, 2), (3, 2), (4, 2), (5, 2)]
theorem nm_ok : ∀ k, k < 26 → ∀ i, i < cnt k → nmL[off k i]? = some (k, i) := by decide +kernel
theorem nm_len : nmL.length = 138 := by decide +kernel
theorem nm_9 : ∀ k, k < 25 → ∀ i, i < cnt k → off k i ≠ 9 := by decide +kernel
def fkL : List Nat := [0, 0, 0, 0, 99, 99, 99, 99, 99, 99, 15, 15, 15, 15, 15, 16, 17, 18, 19, 99, 20, 20, 20, 20, 20, 21, 24, 23, 99, 99, 3, 3, 3, 3, 4, 5, 99, 99, 99, 99, 6, 6, 6, 99, 99, 8, 8, 8, 99, 99, 9, 9, 9, 99, 99, 11, 11, 11, 11, 99, 12, 12, 12, 12, 12, 13, 13, 13, 13, 13, 14, 14, 14, 14, 99, 99, 99, 99, 99, 99, 25, 7, 25, 99, 99, 99, 99, 99, 99, 99]
def fk (f : Nat) : Nat := fkL.getD f 99
def rf (Γ : Gm) (k i : Nat) : Value := .ref (gA Γ (off k i))
/-- the cell of a name -/
def CL (Γ : Gm) (S : St) (k i : Nat) : va_E := match k with
  | 0 => .inr (11, [rf Γ 1 0, rf Γ 1 1, nt (S 0 i 0), rf Γ 2 0, nt (S 1 i 0), rf Γ 3 3, rf Γ 6 0, rf Γ 7 0, rf Γ 8 0, rf Γ 9 0, rf Γ 12 0, rf Γ 13 0, rf Γ 14 0, nt (S 2 i 0), nt (S 3 i 0)])
  | 1 => .inl (gC Γ 1, 6, .inr (.inr (.inr (.inr (fun j => some (gA Γ (off 15 (2 * j + i))))))))
  | 2 => .inl (gC Γ 2, 3, .inr (.inr (.inr (.inr (fun j => some (gA Γ (off 20 j)))))))
  | 3 => .inr (10, [rf Γ 4 i, rf Γ 5 i, nt (S 30 i 0), nt (S 31 i 0), nt (S 32 i 0), nt (S 33 i 0)])
  | 4 => .inl (gC Γ 0, 2, .inl (fun j => iI (S 34 i j)))
  | 5 => .inl (gC Γ 0, 2, .inl (fun j => iI (S 35 i j)))
  | 6 => .inr (8, [nt (S 40 i 0), nt (S 41 i 0), nt (S 42 i 0)])
  | 7 => .inr (2, [.ref (S 81 i 0).toNat])
  | 8 => .inr (5, [nt (S 45 i 0), nt (S 46 i 0), nt (S 47 i 0)])
  | 9 => .inr (1, [nt (S 50 i 0), nt (S 51 i 0), rf Γ 10 0, nt (S 52 i 0)])
  | 10 => .inl (gC Γ 3, 20, .inr (.inr (.inr (.inr (fun j => some (gA Γ (off 11 j)))))))
  | 11 => .inr (0, [nt (S 55 i 0), nt (S 56 i 0), nt (S 57 i 0), nt (S 58 i 0)])
  | 12 => .inr (3, [nt (S 60 i 0), nt (S 61 i 0), nt (S 62 i 0), nt (S 63 i 0), nt (S 64 i 0)])
  | 13 => .inr (4, [nt (S 65 i 0), nt (S 66 i 0), nt (S 67 i 0), nt (S 68 i 0), nt (S 69 i 0)])
  | 14 => .inr (7, [nt (S 70 i 0), nt (S 71 i 0), nt (S 72 i 0), nt (S 73 i 0)])
  | 15 => .inr (9, [nt (S 10 i 0), nt (S 11 i 0), nt (S 12 i 0), rf Γ 16 i, rf Γ 17 i, rf Γ 18 i, rf Γ 19 i, nt (S 13 i 0), nt (S 14 i 0)])
  | 16 => .inl (gC Γ 0, 3, .inl (fun j => iI (S 15 i j)))
  | 17 => .inl (gC Γ 0, 3, .inl (fun j => iI (S 16 i j)))
  | 18 => .inl (gC Γ 0, 3, .inl (fun j => iI (S 17 i j)))
  | 19 => .inl (gC Γ 0, 3, .inl (fun j => iI (S 18 i j)))
  | 20 => .inr (6, [nt (S 20 i 0), rf Γ 21 i, rf Γ 22 i, rf Γ 24 i, rf Γ 3 i, nt (S 21 i 0), nt (S 22 i 0), nt (S 23 i 0), nt (S 24 i 0)])
  | 21 => .inl (gC Γ 0, 2, .inl (fun j => iI (S 25 i j)))
  | 22 => .inl (gC Γ 4, 7, .inr (.inr (.inr (.inr (fun j => some (gA Γ (off 23 (7 * i + j))))))))
  | 23 => .inl (gC Γ 0, 6, .inl (fun j => iI (S 27 i j)))
  | 24 => .inl (gC Γ 0, 7, .inl (fun j => iI (S 26 i j)))
  | 25 => .inl (gC Γ 0, (S 82 i 0).toNat, .inl (fun j => iI (S 80 i j)))
  | _ => .inr (0, [])
theorem CL_congr (Γ : Gm) {S S' : St} {k i : Nat} (h : ∀ f j, fk f = k → S f i j = S' f i j) : CL Γ S k i = CL Γ S' k i := by
  match k, h with
  | 0, h => simp only [CL, h 0 0 rfl, h 1 0 rfl, h 2 0 rfl, h 3 0 rfl]
  | 1, h => rfl
  | 2, h => rfl
  | 3, h => simp only [CL, h 30 0 rfl, h 31 0 rfl, h 32 0 rfl, h 33 0 rfl]
  | 4, h => simp only [CL, (show (fun j => iI (S 34 i j)) = (fun j => iI (S' 34 i j)) from funext fun j => congrArg iI (h 34 j rfl))]
  | 5, h => simp only [CL, (show (fun j => iI (S 35 i j)) = (fun j => iI (S' 35 i j)) from funext fun j => congrArg iI (h 35 j rfl))]
  | 6, h => simp only [CL, h 40 0 rfl, h 41 0 rfl, h 42 0 rfl]
  | 7, h => simp only [CL, h 81 0 rfl]
  | 8, h => simp only [CL, h 45 0 rfl, h 46 0 rfl, h 47 0 rfl]
  | 9, h => simp only [CL, h 50 0 rfl, h 51 0 rfl, h 52 0 rfl]
  | 10, h => rfl
  | 11, h => simp only [CL, h 55 0 rfl, h 56 0 rfl, h 57 0 rfl, h 58 0 rfl]
  | 12, h => simp only [CL, h 60 0 rfl, h 61 0 rfl, h 62 0 rfl, h 63 0 rfl, h 64 0 rfl]
  | 13, h => simp only [CL, h 65 0 rfl, h 66 0 rfl, h 67 0 rfl, h 68 0 rfl, h 69 0 rfl]
  | 14, h => simp only [CL, h 70 0 rfl, h 71 0 rfl, h 72 0 rfl, h 73 0 rfl]
  | 15, h => simp only [CL, h 10 0 rfl, h 11 0 rfl, h 12 0 rfl, h 13 0 rfl, h 14 0 rfl]
  | 16, h => simp only [CL, (show (fun j => iI (S 15 i j)) = (fun j => iI (S' 15 i j)) from funext fun j => congrArg iI (h 15 j rfl))]
  | 17, h => simp only [CL, (show (fun j => iI (S 16 i j)) = (fun j => iI (S' 16 i j)) from funext fun j => congrArg iI (h 16 j rfl))]
  | 18, h => simp only [CL, (show (fun j => iI (S 17 i j)) = (fun j => iI (S' 17 i j)) from funext fun j => congrArg iI (h 17 j rfl))]
  | 19, h => simp only [CL, (show (fun j => iI (S 18 i j)) = (fun j => iI (S' 18 i j)) from funext fun j => congrArg iI (h 18 j rfl))]
  | 20, h => simp only [CL, h 20 0 rfl, h 21 0 rfl, h 22 0 rfl, h 23 0 rfl, h 24 0 rfl]
  | 21, h => simp only [CL, (show (fun j => iI (S 25 i j)) = (fun j => iI (S' 25 i j)) from funext fun j => congrArg iI (h 25 j rfl))]
  | 22, h => rfl
  | 23, h => simp only [CL, (show (fun j => iI (S 27 i j)) = (fun j => iI (S' 27 i j)) from funext fun j => congrArg iI (h 27 j rfl))]
  | 24, h => simp only [CL, (show (fun j => iI (S 26 i j)) = (fun j => iI (S' 26 i j)) from funext fun j => congrArg iI (h 26 j rfl))]
  | 25, h => simp only [CL, (show (fun j => iI (S 80 i j)) = (fun j => iI (S' 80 i j)) from funext fun j => congrArg iI (h 80 j rfl)), h 82 0 rfl]
  | k + 26, h => rfl
/-- the address of the cell at a place -/
def adr (Γ : Gm) (S : St) (n : Nat) : Nat := if n = 9 then (S 81 0 0).toNat else gA Γ n
/-- the law's own row of numbers, while it is there -/
def fl (Γ : Gm) (S : St) : va_W := if S 87 0 0 = 0 then [] else [((S 86 0 0).toNat, .inl (gC Γ 0, (S 87 0 0).toNat, .inl (fun j => iI (S 85 0 j))))]
def wm (Γ : Gm) (S : St) : va_W := (List.range 138).map (fun n => (adr Γ S n, CL Γ S (nmL.getD n (99, 0)).1 (nmL.getD n (99, 0)).2))
def wl (Γ : Gm) (S : St) : va_W := wm Γ S ++ fl Γ S
theorem wm_len (Γ : Gm) (S : St) : (wm Γ S).length = 138 := by simp [wm]
theorem wm_get (Γ : Gm) (S : St) {n : Nat} (h : n < 138) : (wm Γ S)[n]? = some (adr Γ S n, CL Γ S (nmL.getD n (99, 0)).1 (nmL.getD n (99, 0)).2) := by
  unfold wm
  rw [List.getElem?_map, List.getElem?_range h]
  rfl
theorem off_lt {k i : Nat} (hk : k < 26) (hi : i < cnt k) : off k i < 138 := by
  have h := nm_ok k hk i hi
  have h2 := (List.getElem?_eq_some_iff.mp h).1
  rw [nm_len] at h2
  exact h2
theorem nm_getD {k i : Nat} (hk : k < 26) (hi : i < cnt k) : nmL.getD (off k i) (99, 0) = (k, i) := by
  rw [List.getD_eq_getElem?_getD, nm_ok k hk i hi]
  rfl
theorem wl_at (Γ : Gm) (S : St) {k i : Nat} (hk : k < 25) (hi : i < cnt k) : (wl Γ S)[off k i]? = some (gA Γ (off k i), CL Γ S k i) := by
  have hl := off_lt (by omega : k < 26) hi
  unfold wl
  rw [List.getElem?_append_left (by rw [wm_len]; exact hl), wm_get Γ S hl, nm_getD (by omega) hi]
  simp only [adr, if_neg (nm_9 k hk i hi)]
theorem wl_marks (Γ : Gm) (S : St) : (wl Γ S)[9]? = some ((S 81 0 0).toNat, CL Γ S 25 0) := by
  unfold wl
  rw [List.getElem?_append_left (by rw [wm_len]; decide), wm_get Γ S (by decide)]
  rfl
theorem wl_full (Γ : Gm) (S : St) (h : S 87 0 0 ≠ 0) : (wl Γ S)[138]? = some ((S 86 0 0).toNat, .inl (gC Γ 0, (S 87 0 0).toNat, .inl (fun j => iI (S 85 0 j)))) := by
  unfold wl
  rw [List.getElem?_append_right (by rw [wm_len]; decide), wm_len]
  simp [fl, h]
/-- another state whose cells differ at one place only -/
theorem wl_set (Γ : Gm) {S S' : St} {n0 : Nat} {e : Nat × va_E} (hn : n0 < 138) (hf : fl Γ S' = fl Γ S)
    (h : ∀ n, n < 138 → n ≠ n0 → adr Γ S' n = adr Γ S n ∧ CL Γ S' (nmL.getD n (99, 0)).1 (nmL.getD n (99, 0)).2 = CL Γ S (nmL.getD n (99, 0)).1 (nmL.getD n (99, 0)).2)
    (he : (adr Γ S' n0, CL Γ S' (nmL.getD n0 (99, 0)).1 (nmL.getD n0 (99, 0)).2) = e) : (wl Γ S).set n0 e = wl Γ S' := by
  have hl := wm_len Γ S
  unfold wl
  rw [List.set_append_left _ _ (by omega), hf]
  congr 1
  apply List.ext_getElem?
  intro n
  by_cases h1 : n < 138
  · rw [wm_get Γ S' h1, List.getElem?_set]
    by_cases h2 : n0 = n
    · subst h2
      rw [if_pos rfl, if_pos (by rw [hl]; exact hn), ← he]
    · rw [if_neg h2, wm_get Γ S h1, (h n h1 (Ne.symm h2)).1, (h n h1 (Ne.symm h2)).2]
  · rw [List.getElem?_eq_none (by simp [hl]; omega), List.getElem?_eq_none (by rw [wm_len]; omega)]
theorem nm_in {n : Nat} (h : n < 138) : ∃ k i, k < 26 ∧ i < cnt k ∧ nmL.getD n (99, 0) = (k, i) ∧ off k i = n := by
  have e : ∀ n, n < 138 → (nmL.getD n (99, 0)).1 < 26 ∧ (nmL.getD n (99, 0)).2 < cnt (nmL.getD n (99, 0)).1 ∧ off (nmL.getD n (99, 0)).1 (nmL.getD n (99, 0)).2 = n := by decide +kernel
  obtain ⟨h1, h2, h3⟩ := e n h
  exact ⟨_, _, h1, h2, rfl, h3⟩
/-- the state where a number of a name is another: only that name's cell is another -/
theorem wl_put (Γ : Gm) {S : St} {k i f j : Nat} {z : Int} {e : va_E} (hk : k < 25) (hi : i < cnt k) (hf : fk f = k) (hf1 : f < 80) (he : CL Γ (sU S f i j z) k i = e) :
    (wl Γ S).set (off k i) (gA Γ (off k i), e) = wl Γ (sU S f i j z) := by
  refine wl_set Γ (off_lt (by omega) hi) ?_ (fun n hn hne => ?_) ?_
  · unfold fl
    rw [sU_nf (by omega), sU_nf (by omega)]
    simp only [sU_nf (show (85 : Nat) ≠ f by omega)]
  · obtain ⟨k', i', h1, h2, h3, h4⟩ := nm_in hn
    rw [h3]
    refine ⟨?_, (CL_congr Γ fun f' j' hf' => ?_).symm⟩
    · unfold adr
      rw [sU_nf (by omega)]
    · by_cases hff : f' = f
      · subst hff
        by_cases hii : i' = i
        · subst hii
          have hkk : k' = k := by rw [← hf]; exact hf'.symm
          exact absurd (show n = off k i' by rw [← h4, hkk]) hne
        · exact (sU_ni hii).symm
      · exact (sU_nf hff).symm
  · rw [nm_getD (by omega) hi, ← he]
    simp only [adr, if_neg (nm_9 k hk i hi)]

theorem cs_0 (Γ : Gm) (S : St) (i : Nat) (z : Int) : CL Γ (sU S 0 i 0 z) 0 i = .inr (11, [rf Γ 1 0, rf Γ 1 1, nt z, rf Γ 2 0, nt (S 1 i 0), rf Γ 3 3, rf Γ 6 0, rf Γ 7 0, rf Γ 8 0, rf Γ 9 0, rf Γ 12 0, rf Γ 13 0, rf Γ 14 0, nt (S 2 i 0), nt (S 3 i 0)]) := by simp [CL, sU]
theorem cs_1 (Γ : Gm) (S : St) (i : Nat) (z : Int) : CL Γ (sU S 1 i 0 z) 0 i = .inr (11, [rf Γ 1 0, rf Γ 1 1, nt (S 0 i 0), rf Γ 2 0, nt z, rf Γ 3 3, rf Γ 6 0, rf Γ 7 0, rf Γ 8 0, rf Γ 9 0, rf Γ 12 0, rf Γ 13 0, rf Γ 14 0, nt (S 2 i 0), nt (S 3 i 0)]) := by simp [CL, sU]
theorem cs_2 (Γ : Gm) (S : St) (i : Nat) (z : Int) : CL Γ (sU S 2 i 0 z) 0 i = .inr (11, [rf Γ 1 0, rf Γ 1 1, nt (S 0 i 0), rf Γ 2 0, nt (S 1 i 0), rf Γ 3 3, rf Γ 6 0, rf Γ 7 0, rf Γ 8 0, rf Γ 9 0, rf Γ 12 0, rf Γ 13 0, rf Γ 14 0, nt z, nt (S 3 i 0)]) := by simp [CL, sU]
theorem cs_3 (Γ : Gm) (S : St) (i : Nat) (z : Int) : CL Γ (sU S 3 i 0 z) 0 i = .inr (11, [rf Γ 1 0, rf Γ 1 1, nt (S 0 i 0), rf Γ 2 0, nt (S 1 i 0), rf Γ 3 3, rf Γ 6 0, rf Γ 7 0, rf Γ 8 0, rf Γ 9 0, rf Γ 12 0, rf Γ 13 0, rf Γ 14 0, nt (S 2 i 0), nt z]) := by simp [CL, sU]
theorem cs_10 (Γ : Gm) (S : St) (i : Nat) (z : Int) : CL Γ (sU S 10 i 0 z) 15 i = .inr (9, [nt z, nt (S 11 i 0), nt (S 12 i 0), rf Γ 16 i, rf Γ 17 i, rf Γ 18 i, rf Γ 19 i, nt (S 13 i 0), nt (S 14 i 0)]) := by simp [CL, sU]
theorem cs_11 (Γ : Gm) (S : St) (i : Nat) (z : Int) : CL Γ (sU S 11 i 0 z) 15 i = .inr (9, [nt (S 10 i 0), nt z, nt (S 12 i 0), rf Γ 16 i, rf Γ 17 i, rf Γ 18 i, rf Γ 19 i, nt (S 13 i 0), nt (S 14 i 0)]) := by simp [CL, sU]
theorem cs_12 (Γ : Gm) (S : St) (i : Nat) (z : Int) : CL Γ (sU S 12 i 0 z) 15 i = .inr (9, [nt (S 10 i 0), nt (S 11 i 0), nt z, rf Γ 16 i, rf Γ 17 i, rf Γ 18 i, rf Γ 19 i, nt (S 13 i 0), nt (S 14 i 0)]) := by simp [CL, sU]
theorem cs_13 (Γ : Gm) (S : St) (i : Nat) (z : Int) : CL Γ (sU S 13 i 0 z) 15 i = .inr (9, [nt (S 10 i 0), nt (S 11 i 0), nt (S 12 i 0), rf Γ 16 i, rf Γ 17 i, rf Γ 18 i, rf Γ 19 i, nt z, nt (S 14 i 0)]) := by simp [CL, sU]
theorem cs_14 (Γ : Gm) (S : St) (i : Nat) (z : Int) : CL Γ (sU S 14 i 0 z) 15 i = .inr (9, [nt (S 10 i 0), nt (S 11 i 0), nt (S 12 i 0), rf Γ 16 i, rf Γ 17 i, rf Γ 18 i, rf Γ 19 i, nt (S 13 i 0), nt z]) := by simp [CL, sU]
theorem cs_20 (Γ : Gm) (S : St) (i : Nat) (z : Int) : CL Γ (sU S 20 i 0 z) 20 i = .inr (6, [nt z, rf Γ 21 i, rf Γ 22 i, rf Γ 24 i, rf Γ 3 i, nt (S 21 i 0), nt (S 22 i 0), nt (S 23 i 0), nt (S 24 i 0)]) := by simp [CL, sU]
theorem cs_21 (Γ : Gm) (S : St) (i : Nat) (z : Int) : CL Γ (sU S 21 i 0 z) 20 i = .inr (6, [nt (S 20 i 0), rf Γ 21 i, rf Γ 22 i, rf Γ 24 i, rf Γ 3 i, nt z, nt (S 22 i 0), nt (S 23 i 0), nt (S 24 i 0)]) := by simp [CL, sU]
theorem cs_22 (Γ : Gm) (S : St) (i : Nat) (z : Int) : CL Γ (sU S 22 i 0 z) 20 i = .inr (6, [nt (S 20 i 0), rf Γ 21 i, rf Γ 22 i, rf Γ 24 i, rf Γ 3 i, nt (S 21 i 0), nt z, nt (S 23 i 0), nt (S 24 i 0)]) := by simp [CL, sU]
theorem cs_23 (Γ : Gm) (S : St) (i : Nat) (z : Int) : CL Γ (sU S 23 i 0 z) 20 i = .inr (6, [nt (S 20 i 0), rf Γ 21 i, rf Γ 22 i, rf Γ 24 i, rf Γ 3 i, nt (S 21 i 0), nt (S 22 i 0), nt z, nt (S 24 i 0)]) := by simp [CL, sU]
theorem cs_24 (Γ : Gm) (S : St) (i : Nat) (z : Int) : CL Γ (sU S 24 i 0 z) 20 i = .inr (6, [nt (S 20 i 0), rf Γ 21 i, rf Γ 22 i, rf Γ 24 i, rf Γ 3 i, nt (S 21 i 0), nt (S 22 i 0), nt (S 23 i 0), nt z]) := by simp [CL, sU]
theorem cs_30 (Γ : Gm) (S : St) (i : Nat) (z : Int) : CL Γ (sU S 30 i 0 z) 3 i = .inr (10, [rf Γ 4 i, rf Γ 5 i, nt z, nt (S 31 i 0), nt (S 32 i 0), nt (S 33 i 0)]) := by simp [CL, sU]
theorem cs_31 (Γ : Gm) (S : St) (i : Nat) (z : Int) : CL Γ (sU S 31 i 0 z) 3 i = .inr (10, [rf Γ 4 i, rf Γ 5 i, nt (S 30 i 0), nt z, nt (S 32 i 0), nt (S 33 i 0)]) := by simp [CL, sU]
theorem cs_32 (Γ : Gm) (S : St) (i : Nat) (z : Int) : CL Γ (sU S 32 i 0 z) 3 i = .inr (10, [rf Γ 4 i, rf Γ 5 i, nt (S 30 i 0), nt (S 31 i 0), nt z, nt (S 33 i 0)]) := by simp [CL, sU]
theorem cs_33 (Γ : Gm) (S : St) (i : Nat) (z : Int) : CL Γ (sU S 33 i 0 z) 3 i = .inr (10, [rf Γ 4 i, rf Γ 5 i, nt (S 30 i 0), nt (S 31 i 0), nt (S 32 i 0), nt z]) := by simp [CL, sU]
theorem cs_40 (Γ : Gm) (S : St) (i : Nat) (z : Int) : CL Γ (sU S 40 i 0 z) 6 i = .inr (8, [nt z, nt (S 41 i 0), nt (S 42 i 0)]) := by simp [CL, sU]
theorem cs_41 (Γ : Gm) (S : St) (i : Nat) (z : Int) : CL Γ (sU S 41 i 0 z) 6 i = .inr (8, [nt (S 40 i 0), nt z, nt (S 42 i 0)]) := by simp [CL, sU]
theorem cs_42 (Γ : Gm) (S : St) (i : Nat) (z : Int) : CL Γ (sU S 42 i 0 z) 6 i = .inr (8, [nt (S 40 i 0), nt (S 41 i 0), nt z]) := by simp [CL, sU]
theorem cs_45 (Γ : Gm) (S : St) (i : Nat) (z : Int) : CL Γ (sU S 45 i 0 z) 8 i = .inr (5, [nt z, nt (S 46 i 0), nt (S 47 i 0)]) := by simp [CL, sU]
theorem cs_46 (Γ : Gm) (S : St) (i : Nat) (z : Int) : CL Γ (sU S 46 i 0 z) 8 i = .inr (5, [nt (S 45 i 0), nt z, nt (S 47 i 0)]) := by simp [CL, sU]
theorem cs_47 (Γ : Gm) (S : St) (i : Nat) (z : Int) : CL Γ (sU S 47 i 0 z) 8 i = .inr (5, [nt (S 45 i 0), nt (S 46 i 0), nt z]) := by simp [CL, sU]
theorem cs_50 (Γ : Gm) (S : St) (i : Nat) (z : Int) : CL Γ (sU S 50 i 0 z) 9 i = .inr (1, [nt z, nt (S 51 i 0), rf Γ 10 0, nt (S 52 i 0)]) := by simp [CL, sU]
theorem cs_51 (Γ : Gm) (S : St) (i : Nat) (z : Int) : CL Γ (sU S 51 i 0 z) 9 i = .inr (1, [nt (S 50 i 0), nt z, rf Γ 10 0, nt (S 52 i 0)]) := by simp [CL, sU]
theorem cs_52 (Γ : Gm) (S : St) (i : Nat) (z : Int) : CL Γ (sU S 52 i 0 z) 9 i = .inr (1, [nt (S 50 i 0), nt (S 51 i 0), rf Γ 10 0, nt z]) := by simp [CL, sU]
theorem cs_55 (Γ : Gm) (S : St) (i : Nat) (z : Int) : CL Γ (sU S 55 i 0 z) 11 i = .inr (0, [nt z, nt (S 56 i 0), nt (S 57 i 0), nt (S 58 i 0)]) := by simp [CL, sU]
theorem cs_56 (Γ : Gm) (S : St) (i : Nat) (z : Int) : CL Γ (sU S 56 i 0 z) 11 i = .inr (0, [nt (S 55 i 0), nt z, nt (S 57 i 0), nt (S 58 i 0)]) := by simp [CL, sU]
theorem cs_57 (Γ : Gm) (S : St) (i : Nat) (z : Int) : CL Γ (sU S 57 i 0 z) 11 i = .inr (0, [nt (S 55 i 0), nt (S 56 i 0), nt z, nt (S 58 i 0)]) := by simp [CL, sU]
theorem cs_58 (Γ : Gm) (S : St) (i : Nat) (z : Int) : CL Γ (sU S 58 i 0 z) 11 i = .inr (0, [nt (S 55 i 0), nt (S 56 i 0), nt (S 57 i 0), nt z]) := by simp [CL, sU]
theorem cs_60 (Γ : Gm) (S : St) (i : Nat) (z : Int) : CL Γ (sU S 60 i 0 z) 12 i = .inr (3, [nt z, nt (S 61 i 0), nt (S 62 i 0), nt (S 63 i 0), nt (S 64 i 0)]) := by simp [CL, sU]
theorem cs_61 (Γ : Gm) (S : St) (i : Nat) (z : Int) : CL Γ (sU S 61 i 0 z) 12 i = .inr (3, [nt (S 60 i 0), nt z, nt (S 62 i 0), nt (S 63 i 0), nt (S 64 i 0)]) := by simp [CL, sU]
theorem cs_62 (Γ : Gm) (S : St) (i : Nat) (z : Int) : CL Γ (sU S 62 i 0 z) 12 i = .inr (3, [nt (S 60 i 0), nt (S 61 i 0), nt z, nt (S 63 i 0), nt (S 64 i 0)]) := by simp [CL, sU]
theorem cs_63 (Γ : Gm) (S : St) (i : Nat) (z : Int) : CL Γ (sU S 63 i 0 z) 12 i = .inr (3, [nt (S 60 i 0), nt (S 61 i 0), nt (S 62 i 0), nt z, nt (S 64 i 0)]) := by simp [CL, sU]
theorem cs_64 (Γ : Gm) (S : St) (i : Nat) (z : Int) : CL Γ (sU S 64 i 0 z) 12 i = .inr (3, [nt (S 60 i 0), nt (S 61 i 0), nt (S 62 i 0), nt (S 63 i 0), nt z]) := by simp [CL, sU]
theorem cs_65 (Γ : Gm) (S : St) (i : Nat) (z : Int) : CL Γ (sU S 65 i 0 z) 13 i = .inr (4, [nt z, nt (S 66 i 0), nt (S 67 i 0), nt (S 68 i 0), nt (S 69 i 0)]) := by simp [CL, sU]
theorem cs_66 (Γ : Gm) (S : St) (i : Nat) (z : Int) : CL Γ (sU S 66 i 0 z) 13 i = .inr (4, [nt (S 65 i 0), nt z, nt (S 67 i 0), nt (S 68 i 0), nt (S 69 i 0)]) := by simp [CL, sU]
theorem cs_67 (Γ : Gm) (S : St) (i : Nat) (z : Int) : CL Γ (sU S 67 i 0 z) 13 i = .inr (4, [nt (S 65 i 0), nt (S 66 i 0), nt z, nt (S 68 i 0), nt (S 69 i 0)]) := by simp [CL, sU]
theorem cs_68 (Γ : Gm) (S : St) (i : Nat) (z : Int) : CL Γ (sU S 68 i 0 z) 13 i = .inr (4, [nt (S 65 i 0), nt (S 66 i 0), nt (S 67 i 0), nt z, nt (S 69 i 0)]) := by simp [CL, sU]
theorem cs_69 (Γ : Gm) (S : St) (i : Nat) (z : Int) : CL Γ (sU S 69 i 0 z) 13 i = .inr (4, [nt (S 65 i 0), nt (S 66 i 0), nt (S 67 i 0), nt (S 68 i 0), nt z]) := by simp [CL, sU]
theorem cs_70 (Γ : Gm) (S : St) (i : Nat) (z : Int) : CL Γ (sU S 70 i 0 z) 14 i = .inr (7, [nt z, nt (S 71 i 0), nt (S 72 i 0), nt (S 73 i 0)]) := by simp [CL, sU]
theorem cs_71 (Γ : Gm) (S : St) (i : Nat) (z : Int) : CL Γ (sU S 71 i 0 z) 14 i = .inr (7, [nt (S 70 i 0), nt z, nt (S 72 i 0), nt (S 73 i 0)]) := by simp [CL, sU]
theorem cs_72 (Γ : Gm) (S : St) (i : Nat) (z : Int) : CL Γ (sU S 72 i 0 z) 14 i = .inr (7, [nt (S 70 i 0), nt (S 71 i 0), nt z, nt (S 73 i 0)]) := by simp [CL, sU]
theorem cs_73 (Γ : Gm) (S : St) (i : Nat) (z : Int) : CL Γ (sU S 73 i 0 z) 14 i = .inr (7, [nt (S 70 i 0), nt (S 71 i 0), nt (S 72 i 0), nt z]) := by simp [CL, sU]
theorem cs_34 (Γ : Gm) (S : St) (i j : Nat) (z : Int) : CL Γ (sU S 34 i j z) 4 i = .inl (gC Γ 0, 2, .inl (upd (fun q => iI (S 34 i q)) j (iI z))) := by
  show (Sum.inl (gC Γ 0, 2, Sum.inl (fun q => iI (sU S 34 i j z 34 i q))) : va_E) = _
  have e : (fun q => iI (sU S 34 i j z 34 i q)) = upd (fun q => iI (S 34 i q)) j (iI z) := by
    funext q; by_cases h : q = j
    · subst h; simp [sU, upd]
    · simp [sU, upd, h]
  rw [e]
theorem cs_35 (Γ : Gm) (S : St) (i j : Nat) (z : Int) : CL Γ (sU S 35 i j z) 5 i = .inl (gC Γ 0, 2, .inl (upd (fun q => iI (S 35 i q)) j (iI z))) := by
  show (Sum.inl (gC Γ 0, 2, Sum.inl (fun q => iI (sU S 35 i j z 35 i q))) : va_E) = _
  have e : (fun q => iI (sU S 35 i j z 35 i q)) = upd (fun q => iI (S 35 i q)) j (iI z) := by
    funext q; by_cases h : q = j
    · subst h; simp [sU, upd]
    · simp [sU, upd, h]
  rw [e]
theorem cs_15 (Γ : Gm) (S : St) (i j : Nat) (z : Int) : CL Γ (sU S 15 i j z) 16 i = .inl (gC Γ 0, 3, .inl (upd (fun q => iI (S 15 i q)) j (iI z))) := by
  show (Sum.inl (gC Γ 0, 3, Sum.inl (fun q => iI (sU S 15 i j z 15 i q))) : va_E) = _
  have e : (fun q => iI (sU S 15 i j z 15 i q)) = upd (fun q => iI (S 15 i q)) j (iI z) := by
    funext q; by_cases h : q = j
    · subst h; simp [sU, upd]
    · simp [sU, upd, h]
  rw [e]
theorem cs_16 (Γ : Gm) (S : St) (i j : Nat) (z : Int) : CL Γ (sU S 16 i j z) 17 i = .inl (gC Γ 0, 3, .inl (upd (fun q => iI (S 16 i q)) j (iI z))) := by
  show (Sum.inl (gC Γ 0, 3, Sum.inl (fun q => iI (sU S 16 i j z 16 i q))) : va_E) = _
  have e : (fun q => iI (sU S 16 i j z 16 i q)) = upd (fun q => iI (S 16 i q)) j (iI z) := by
    funext q; by_cases h : q = j
    · subst h; simp [sU, upd]
    · simp [sU, upd, h]
  rw [e]
theorem cs_17 (Γ : Gm) (S : St) (i j : Nat) (z : Int) : CL Γ (sU S 17 i j z) 18 i = .inl (gC Γ 0, 3, .inl (upd (fun q => iI (S 17 i q)) j (iI z))) := by
  show (Sum.inl (gC Γ 0, 3, Sum.inl (fun q => iI (sU S 17 i j z 17 i q))) : va_E) = _
  have e : (fun q => iI (sU S 17 i j z 17 i q)) = upd (fun q => iI (S 17 i q)) j (iI z) := by
    funext q; by_cases h : q = j
    · subst h; simp [sU, upd]
    · simp [sU, upd, h]
  rw [e]
theorem cs_18 (Γ : Gm) (S : St) (i j : Nat) (z : Int) : CL Γ (sU S 18 i j z) 19 i = .inl (gC Γ 0, 3, .inl (upd (fun q => iI (S 18 i q)) j (iI z))) := by
  show (Sum.inl (gC Γ 0, 3, Sum.inl (fun q => iI (sU S 18 i j z 18 i q))) : va_E) = _
  have e : (fun q => iI (sU S 18 i j z 18 i q)) = upd (fun q => iI (S 18 i q)) j (iI z) := by
    funext q; by_cases h : q = j
    · subst h; simp [sU, upd]
    · simp [sU, upd, h]
  rw [e]
theorem cs_25 (Γ : Gm) (S : St) (i j : Nat) (z : Int) : CL Γ (sU S 25 i j z) 21 i = .inl (gC Γ 0, 2, .inl (upd (fun q => iI (S 25 i q)) j (iI z))) := by
  show (Sum.inl (gC Γ 0, 2, Sum.inl (fun q => iI (sU S 25 i j z 25 i q))) : va_E) = _
  have e : (fun q => iI (sU S 25 i j z 25 i q)) = upd (fun q => iI (S 25 i q)) j (iI z) := by
    funext q; by_cases h : q = j
    · subst h; simp [sU, upd]
    · simp [sU, upd, h]
  rw [e]
theorem cs_27 (Γ : Gm) (S : St) (i j : Nat) (z : Int) : CL Γ (sU S 27 i j z) 23 i = .inl (gC Γ 0, 6, .inl (upd (fun q => iI (S 27 i q)) j (iI z))) := by
  show (Sum.inl (gC Γ 0, 6, Sum.inl (fun q => iI (sU S 27 i j z 27 i q))) : va_E) = _
  have e : (fun q => iI (sU S 27 i j z 27 i q)) = upd (fun q => iI (S 27 i q)) j (iI z) := by
    funext q; by_cases h : q = j
    · subst h; simp [sU, upd]
    · simp [sU, upd, h]
  rw [e]
theorem cs_26 (Γ : Gm) (S : St) (i j : Nat) (z : Int) : CL Γ (sU S 26 i j z) 24 i = .inl (gC Γ 0, 7, .inl (upd (fun q => iI (S 26 i q)) j (iI z))) := by
  show (Sum.inl (gC Γ 0, 7, Sum.inl (fun q => iI (sU S 26 i j z 26 i q))) : va_E) = _
  have e : (fun q => iI (sU S 26 i j z 26 i q)) = upd (fun q => iI (S 26 i q)) j (iI z) := by
    funext q; by_cases h : q = j
    · subst h; simp [sU, upd]
    · simp [sU, upd, h]
  rw [e]
