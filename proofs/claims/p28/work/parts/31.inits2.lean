/-! THE CONSTRUCTORS that make others -/
/-- a row of references, from the first on filled -/
def pa (X : Nat → Nat) (N i : Nat) : Nat → Option Nat := fun j => if i ≤ j ∧ j < N then none else some (X j)
theorem pa_up (X : Nat → Nat) (N i : Nat) : va_up (pa X N i) i (some (X i)) = pa X N (i + 1) := by
  funext j
  unfold va_up pa
  by_cases h : j = i
  · subst h
    rw [if_pos rfl, if_neg (by omega)]
  · simp only [h, if_false]
    by_cases h2 : i ≤ j ∧ j < N
    · rw [if_pos h2, if_pos (by omega)]
    · rw [if_neg h2, if_neg (by omega)]
theorem pa_all (X : Nat → Nat) (N : Nat) : pa X N N = fun j => some (X j) := by
  funext j
  unfold pa
  rw [if_neg (by omega)]
def ra (Γ : Gm) (t N : Nat) (X : Nat → Nat) (i : Nat) : va_E := .inl (gC Γ t, N, .inr (.inr (.inr (.inr (pa X N i)))))
section KD
variable {Γ : Gm} {R : Room} {cc : ByteArray} {nL : Nat} {own : String} {ret : Option FieldType} {post : WX → Prop} {mc ms : Nat} {G : Nat × Nat → Nat → List (Nat × Value) → List Value → WX → Prop} {cs : Nat × Nat} {pc n : Nat} {ls : List (Nat × Value)} {st : List Value} {S : WX}
theorem k_anewp (hG : IsK Γ R cc nL own ret post mc ms G) {z : Int} {idx : Nat} {C : String} (t N : Nat) (ht : (tys Γ)[t]? = some (gC Γ t, .object C)) (hao : ∀ U, NK U → va_AO C U) (hcl : Cond.classLink own idx C ∈ tg) (X : Nat → Nat) (hz : z = (N : Int)) (hN : N < 1000) (hd : Dc cc pc (.anewarray idx) 3 n) (hf : cs.1 + 1 ≤ R.cells ∧ cs.2 + N ≤ R.slots) (K : G (cs.1 + 1, cs.2 + N) n ls (ob Γ S.2 :: st) (upk S.1 S.2 (ra Γ t N X 0), S.2 + 1)) : G cs pc ls (nt z :: st) S := by
  refine k_anew hG t N ht hao hcl hz hN hd hf ?_
  obtain ⟨p, e, s, m, args, below, meth, c, Q, hx, hb, hml, hown, hts, hK, hB, hX, hr, rfl⟩ := hG
  intro H locs la hP hD hS hl
  refine K H locs la (fun k q hq => ?_) hD hS hl
  obtain ⟨hk, rfl⟩ := wn_out hq
  have hp := hP k _ (wn_get hk)
  by_cases h : k = S.2
  · subst h
    show va_at _ _ (_, upk S.1 S.2 _ S.2) _
    have hp : va_at (gD Γ) classes (_, upk S.1 S.2 _ S.2) H := hp
    rw [upk_eq] at hp ⊢
    have hp : H[gB Γ + S.2]? = some (vp_cell _ _) := hp
    show H[gB Γ + S.2]? = some (vp_cell _ _)
    rw [hp, vp_cell_q, vp_cell_q]
    congr 1
    unfold arrV
    congr 1
    apply Array.ext (by simp)
    intro i h1 h2
    have hi : i < N := by simpa using h1
    simp [pa, hi]
  · show va_at _ _ (_, upk S.1 S.2 _ k) _
    have hp : va_at (gD Γ) classes (_, upk S.1 S.2 _ k) H := hp
    rw [upk_ne h] at hp ⊢
    exact hp
end KD
def loO (Γ : Gm) (k : Nat) : va_E := .inr (6, [nt 0, ob Γ (k + 1), ob Γ (k + 2), ob Γ (k + 10), ob Γ (k + 11), nt 0, nt 0, nt 0, nt 0])
def trO (Γ : Gm) (k : Nat) : va_E := .inr (10, [ob Γ (k + 1), ob Γ (k + 2), nt 0, nt 0, nt 0, nt 0])
theorem ck_Lorry {Γ : Gm} {k : Nat} {w : Nat → va_E} (h0 : w k = .inr (6, z_Lorry)) : CK Γ y_Lorry_init b_Lorry_init 1 (rmx 2 13 68) [ob Γ k] (w, k + 1) (fun S' => S'.2 = k + 14 ∧ S'.1 k = loO Γ k ∧ S'.1 (k + 1) = ia Γ 2 ∧ S'.1 (k + 2) = .inl (gC Γ 4, 7, .inr (.inr (.inr (.inr (fun j => some (gB Γ + (k + 3 + (14 * (j / 7) + j % 7)))))))) ∧ (∀ i, i < 7 → S'.1 (k + 3 + i) = ia Γ 6) ∧ S'.1 (k + 10) = ia Γ 7 ∧ S'.1 (k + 11) = trO Γ (k + 11) ∧ S'.1 (k + 12) = ia Γ 2 ∧ S'.1 (k + 13) = ia Γ 2 ∧ ∀ q, q < k → S'.1 q = w q) := by
  refine CK.of (by first | exact plainFor_of_name (by rfl) | decide +kernel) rfl (Nat.le_of_ble_eq_true rfl) ?_
  intro G hG
  show G (0, 0) 0 [(0, ob Γ k)] [] _
  refine k_aload_n hG (hl0 := rfl) (hd := d_Lorry_init_0) (K := ?_)
  refine k_obj hG (m_T2 (i := 49) (by decide +kernel) (by decide +kernel)) d_Lorry_init_1 ⟨Nat.le_of_ble_eq_true rfl, Nat.le_of_ble_eq_true rfl⟩ ?_
  refine k_aload_n hG (hl0 := rfl) (hd := d_Lorry_init_4) (K := ?_)
  refine k_iconst hG (hd := d_Lorry_init_5) (K := ?_)
  refine k_newa hG 2 rfl (by decide) d_Lorry_init_6 ⟨by first|exact Nat.le_of_ble_eq_true rfl|(simp [rmx]; omega), by first|exact Nat.le_of_ble_eq_true rfl|(simp [rmx]; omega)⟩ ?_
  refine k_put hG (k := k) d_Lorry_init_8 ((upk_ne (by omega)).trans h0) rfl i_Lorry t_Lorry_ok n_Lorry (j := 1) (by decide) rfl (m_T2 (i := 57) (by decide +kernel) (by decide +kernel)) (Or.inr ⟨rfl, rfl, by decide⟩) (t_Lorry_ok 1 (by decide)) rfl rfl (by simp [z_Lorry]) (by first|omega|(dsimp only; omega)) (by first|rfl|(dsimp only; omega)) ?_
  refine k_aload_n hG (hl0 := rfl) (hd := d_Lorry_init_11) (K := ?_)
  refine k_bipush hG (hd := d_Lorry_init_12) (K := ?_)
  refine k_bipush hG (hd := d_Lorry_init_14) (K := ?_)
  refine k_multi hG (m_T2 (i := 50) (by decide +kernel) (by decide +kernel)) d_Lorry_init_16 ⟨by first|exact Nat.le_of_ble_eq_true rfl|(simp [rmx]; omega), by first|exact Nat.le_of_ble_eq_true rfl|(simp [rmx]; omega)⟩ ?_
  have m0 : (mul8 Γ (upk (upk w (k + 1) (.inl (gC Γ 0, 2, .inl (fun _ => iI 0)))) k (.inr (6, z_Lorry.set 1 (.ref (gB Γ + (k + 1))))), k + 1 + 1)).1 k = .inr (6, z_Lorry.set 1 (.ref (gB Γ + (k + 1)))) := by
    simp [mul8, upk, show ¬ k = k + 1 + 1 by omega, show ¬ k + 1 + 1 < k by omega]
  have m1 : (mul8 Γ (upk (upk w (k + 1) (.inl (gC Γ 0, 2, .inl (fun _ => iI 0)))) k (.inr (6, z_Lorry.set 1 (.ref (gB Γ + (k + 1))))), k + 1 + 1)).1 (k + 1) = ia Γ 2 := by
    simp [mul8, upk, ia, show ¬ k + 1 = k + 1 + 1 by omega, show ¬ k + 1 + 1 < k + 1 by omega]
  have m2 : (mul8 Γ (upk (upk w (k + 1) (.inl (gC Γ 0, 2, .inl (fun _ => iI 0)))) k (.inr (6, z_Lorry.set 1 (.ref (gB Γ + (k + 1))))), k + 1 + 1)).1 (k + 2) = .inl (gC Γ 4, 7, .inr (.inr (.inr (.inr (fun j => some (gB Γ + (k + 3 + (14 * (j / 7) + j % 7)))))))) := by
    simp [mul8, Nat.add_assoc]
  have m3 : ∀ i, i < 7 → (mul8 Γ (upk (upk w (k + 1) (.inl (gC Γ 0, 2, .inl (fun _ => iI 0)))) k (.inr (6, z_Lorry.set 1 (.ref (gB Γ + (k + 1))))), k + 1 + 1)).1 (k + 3 + i) = ia Γ 6 := by
    intro i hi
    show (if _ then _ else if _ then _ else _) = _
    rw [if_neg (by show ¬ k + 3 + i = k + 1 + 1; omega), if_pos (by show k + 1 + 1 < k + 3 + i ∧ k + 3 + i < k + 1 + 1 + 8; omega)]
    rfl
  have m4 : ∀ q, q < k → (mul8 Γ (upk (upk w (k + 1) (.inl (gC Γ 0, 2, .inl (fun _ => iI 0)))) k (.inr (6, z_Lorry.set 1 (.ref (gB Γ + (k + 1))))), k + 1 + 1)).1 q = w q := by
    intro q hq
    simp [mul8, upk, show ¬ q = k + 1 + 1 by omega, show ¬ k + 1 + 1 < q by omega, show ¬ q = k by omega, show ¬ q = k + 1 by omega]
  have m5 : (mul8 Γ (upk (upk w (k + 1) (.inl (gC Γ 0, 2, .inl (fun _ => iI 0)))) k (.inr (6, z_Lorry.set 1 (.ref (gB Γ + (k + 1))))), k + 1 + 1)).2 = k + 10 := rfl
  change G _ 20 _ (.ref (gB Γ + (k + 2)) :: _) _
  generalize mul8 Γ (upk (upk w (k + 1) (.inl (gC Γ 0, 2, .inl (fun _ => iI 0)))) k (.inr (6, z_Lorry.set 1 (.ref (gB Γ + (k + 1))))), k + 1 + 1) = M at m0 m1 m2 m3 m4 m5
  obtain ⟨M, nM⟩ := M
  dsimp only at m0 m1 m2 m3 m4 m5
  subst m5
  refine k_put hG (k := k) d_Lorry_init_20 (m0) rfl i_Lorry t_Lorry_ok n_Lorry (j := 2) (by decide) rfl (m_T2 (i := 61) (by decide +kernel) (by decide +kernel)) (Or.inr ⟨rfl, rfl, by decide⟩) (t_Lorry_ok 2 (by decide)) rfl rfl (by simp [z_Lorry]) (by first|omega|(dsimp only; omega)) (by first|rfl|(dsimp only; omega)) ?_
  refine k_aload_n hG (hl0 := rfl) (hd := d_Lorry_init_23) (K := ?_)
  refine k_bipush hG (hd := d_Lorry_init_24) (K := ?_)
  refine k_newa hG 7 rfl (by decide) d_Lorry_init_26 ⟨by first|exact Nat.le_of_ble_eq_true rfl|(simp [rmx]; omega), by first|exact Nat.le_of_ble_eq_true rfl|(simp [rmx]; omega)⟩ ?_
  refine k_put hG (k := k) d_Lorry_init_28 ((upk_ne (by omega)).trans upk_eq) rfl i_Lorry t_Lorry_ok n_Lorry (j := 3) (by decide) rfl (m_T2 (i := 64) (by decide +kernel) (by decide +kernel)) (Or.inr ⟨rfl, rfl, by decide⟩) (t_Lorry_ok 3 (by decide)) rfl rfl (by simp [z_Lorry]) (by first|omega|(dsimp only; omega)) (by first|rfl|(dsimp only; omega)) ?_
  refine k_aload_n hG (hl0 := rfl) (hd := d_Lorry_init_31) (K := ?_)
  refine k_new hG (ci := 10) (fs := z_Trip) (m_T2 (i := 52) (by decide +kernel) (by decide +kernel)) (m_T1 (i := 36) (by decide +kernel) (by decide +kernel)) (m_T1 (i := 2) (by decide +kernel) (by decide +kernel)) rfl i_Trip t_Trip t_Trip_ok z_Trip_ok d_Lorry_init_32 ⟨by first|exact Nat.le_of_ble_eq_true rfl|(simp [rmx]; omega), by first|exact Nat.le_of_ble_eq_true rfl|(simp [rmx]; omega)⟩ ?_
  refine k_dup hG (hd := d_Lorry_init_35) (K := ?_)
  refine k_initN hG (host := "BinWard") (List.mem_of_getElem? (i := 10) rfl) (m_T1 (i := 38) (by decide +kernel) (by decide +kernel)) (m_T1 (i := 2) (by decide +kernel) (by decide +kernel)) (m_T1 (i := 39) (by decide +kernel) (by decide +kernel)) ⟨by decide, by decide⟩ (by decide +kernel) rfl d_Lorry_init_36 (ck_Trip (k := k + 11) upk_eq) ⟨Nat.le_of_ble_eq_true rfl, Nat.le_of_ble_eq_true rfl⟩ ⟨by first|exact Nat.le_of_ble_eq_true rfl|(simp [rmx]; omega), by first|exact Nat.le_of_ble_eq_true rfl|(simp [rmx]; omega)⟩ (Nat.le_of_ble_eq_true rfl) (fun S1 hp => ?_)
  obtain ⟨s1, s2, s3, s4, s5⟩ := hp
  obtain ⟨N, nN⟩ := S1
  dsimp only at s1 s2 s3 s4 s5
  subst s1
  have c0 : N k = .inr (6, ((z_Lorry.set 1 (.ref (gB Γ + (k + 1)))).set 2 (.ref (gB Γ + (k + 2)))).set 3 (.ref (gB Γ + (k + 10)))) := by
    rw [s5 k (by omega)]
    simp [upk, show ¬ k = k + 10 by omega, show ¬ k = k + 10 + 1 by omega]
  refine k_put hG (k := k) d_Lorry_init_39 (c0) rfl i_Lorry t_Lorry_ok n_Lorry (j := 4) (by decide) rfl (m_T2 (i := 67) (by decide +kernel) (by decide +kernel)) (Or.inr ⟨rfl, rfl, by decide⟩) (t_Lorry_ok 4 (by decide)) rfl rfl (by simp [z_Lorry]) (by first|omega|(dsimp only; omega)) (by first|rfl|(dsimp only; omega)) ?_
  refine k_vret hG d_Lorry_init_42 ⟨by first|exact Nat.le_of_ble_eq_true rfl|(simp [rmx]; omega), by first|exact Nat.le_of_ble_eq_true rfl|(simp [rmx]; omega)⟩ ?_
  refine ⟨rfl, upk_eq, ?_, ?_, fun i hi => ?_, ?_, ?_, ?_, ?_, fun q hq => ?_⟩
  · dsimp only
    rw [upk_ne (by omega), s5 _ (by omega)]
    simp [upk, m1, show ¬ k + 1 = k + 10 by omega, show ¬ k + 1 = k + 10 + 1 by omega]
  · dsimp only
    rw [upk_ne (by omega), s5 _ (by omega)]
    simp [upk, m2, show ¬ k + 2 = k + 10 by omega, show ¬ k + 2 = k + 10 + 1 by omega]
  · dsimp only
    rw [upk_ne (by omega), s5 _ (by omega)]
    simp [upk, m3 i hi, show ¬ k + 3 + i = k by omega, show ¬ k + 3 + i = k + 10 by omega, show ¬ k + 3 + i = k + 10 + 1 by omega]
  · dsimp only
    rw [upk_ne (by omega), s5 _ (by omega)]
    simp [upk, ia]
  · dsimp only
    rw [upk_ne (by omega)]
    exact s2
  · dsimp only
    rw [upk_ne (by omega)]
    exact s3
  · dsimp only
    rw [upk_ne (by omega)]
    exact s4
  · dsimp only
    rw [upk_ne (by omega), s5 _ (by omega)]
    simp [upk, m4 q hq, show ¬ q = k by omega, show ¬ q = k + 10 by omega, show ¬ q = k + 10 + 1 by omega]
theorem ck_Baler {Γ : Gm} {k : Nat} {w : Nat → va_E} (h0 : w k = .inr (1, z_Baler)) : CK Γ y_Baler_init b_Baler_init 2 (rmx 2 21 100) [ob Γ k] (w, k + 1) (fun S' => S'.2 = k + 22 ∧ S'.1 k = .inr (1, [nt 0, nt 0, ob Γ (k + 1), nt 0]) ∧ S'.1 (k + 1) = ra Γ 3 20 (fun j => gB Γ + (k + 2 + j)) 20 ∧ (∀ i, i < 20 → S'.1 (k + 2 + i) = .inr (0, z_Bale)) ∧ ∀ q, q < k → S'.1 q = w q) := by
  refine CK.of (by first | exact plainFor_of_name (by rfl) | decide +kernel) rfl (Nat.le_of_ble_eq_true rfl) ?_
  intro G hG
  show G (0, 0) 0 [(0, ob Γ k)] [] _
  refine k_aload_n hG (hl0 := rfl) (hd := d_Baler_init_0) (K := ?_)
  refine k_obj hG (m_T1 (i := 120) (by decide +kernel) (by decide +kernel)) d_Baler_init_1 ⟨Nat.le_of_ble_eq_true rfl, Nat.le_of_ble_eq_true rfl⟩ ?_
  refine k_aload_n hG (hl0 := rfl) (hd := d_Baler_init_4) (K := ?_)
  refine k_bipush hG (hd := d_Baler_init_5) (K := ?_)
  refine k_anewp hG 3 20 rfl (fun U h => h.2.1.2.2) (m_T1 (i := 121) (by decide +kernel) (by decide +kernel)) (fun j => gB Γ + (k + 2 + j)) rfl (by decide) d_Baler_init_7 ⟨by first|exact Nat.le_of_ble_eq_true rfl|(simp [rmx]; omega), by first|exact Nat.le_of_ble_eq_true rfl|(simp [rmx]; omega)⟩ ?_
  refine k_put hG (k := k) d_Baler_init_10 ((upk_ne (by omega)).trans h0) rfl i_Baler t_Baler_ok n_Baler (j := 2) (by decide) rfl (m_T1 (i := 152) (by decide +kernel) (by decide +kernel)) (Or.inr ⟨rfl, rfl, by decide⟩) (t_Baler_ok 2 (by decide)) rfl rfl (by simp [z_Baler]) (by first|omega|(dsimp only; omega)) (by first|rfl|(dsimp only; omega)) ?_
  refine k_iconst hG (hd := d_Baler_init_13) (K := ?_)
  refine k_istore_n hG (hd := d_Baler_init_14) (K := ?_)
  have loop : ∀ m i : Nat, i + m = 20 → ∀ S : WX, S.2 = k + 2 + i → S.1 k = .inr (1, [nt 0, nt 0, ob Γ (k + 1), nt 0]) → S.1 (k + 1) = ra Γ 3 20 (fun j => gB Γ + (k + 2 + j)) i → (∀ j, j < i → S.1 (k + 2 + j) = .inr (0, z_Bale)) → (∀ q, q < k → S.1 q = w q) → G (1 + i, 20 + 4 * i) 15 [(0, ob Γ k), (1, nt i)] [] S := by
    intro m
    induction m with
    | zero =>
      intro i hi S h2 a1 a2 a3 a4
      have hi20 : i = 20 := by omega
      subst hi20
      refine k_iload_n hG (hl0 := rfl) (hd := d_Baler_init_15) (K := ?_)
      refine k_bipush hG (hd := d_Baler_init_16) (K := ?_)
      refine k_icmp_ge hG (hd := d_Baler_init_18) (kt := fun _ => ?_) (kf := fun hh => absurd hh (by omega))
      refine k_vret hG d_Baler_init_40 ⟨by first|exact Nat.le_of_ble_eq_true rfl|(simp [rmx]; omega), by first|exact Nat.le_of_ble_eq_true rfl|(simp [rmx]; omega)⟩ ?_
      exact ⟨h2, a1, a2, a3, a4⟩
    | succ m ih =>
      intro i hi S h2 a1 a2 a3 a4
      obtain ⟨W, nW⟩ := S
      dsimp only at h2 a1 a2 a3 a4
      subst h2
      refine k_iload_n hG (hl0 := rfl) (hd := d_Baler_init_15) (K := ?_)
      refine k_bipush hG (hd := d_Baler_init_16) (K := ?_)
      refine k_icmp_ge hG (hd := d_Baler_init_18) (kt := fun hh => absurd hh (by omega)) (kf := fun _ => ?_)
      refine k_aload_n hG (hl0 := rfl) (hd := d_Baler_init_21) (K := ?_)
      refine k_get hG (k := k) d_Baler_init_22 (a1) rfl i_Baler (j := 2) (by decide) rfl (m_T1 (i := 152) (by decide +kernel) (by decide +kernel)) rfl (by first|omega|(dsimp only; omega)) (by first|rfl|(dsimp only; omega)) ?_
      refine k_iload_n hG (hl0 := rfl) (hd := d_Baler_init_25) (K := ?_)
      refine k_new hG (ci := 0) (fs := z_Bale) (m_T1 (i := 121) (by decide +kernel) (by decide +kernel)) (m_T1 (i := 123) (by decide +kernel) (by decide +kernel)) (m_T1 (i := 7) (by decide +kernel) (by decide +kernel)) rfl i_Bale t_Bale t_Bale_ok z_Bale_ok d_Baler_init_26 ⟨by first|exact Nat.le_of_ble_eq_true rfl|(simp [rmx]; omega), by first|exact Nat.le_of_ble_eq_true rfl|(simp [rmx]; omega)⟩ ?_
      refine k_dup hG (hd := d_Baler_init_29) (K := ?_)
      refine k_initN hG (host := "BinWard") (List.mem_of_getElem? (i := 4) rfl) (m_T1 (i := 125) (by decide +kernel) (by decide +kernel)) (m_T1 (i := 7) (by decide +kernel) (by decide +kernel)) (m_T1 (i := 126) (by decide +kernel) (by decide +kernel)) ⟨by decide, by decide⟩ (by decide +kernel) rfl d_Baler_init_30 (ck_Bale (k := k + 2 + i) upk_eq (by dsimp only; omega)) ⟨Nat.le_of_ble_eq_true rfl, Nat.le_of_ble_eq_true rfl⟩ ⟨by first|exact Nat.le_of_ble_eq_true rfl|(simp [rmx]; omega), by first|exact Nat.le_of_ble_eq_true rfl|(simp [rmx]; omega)⟩ (Nat.le_of_ble_eq_true rfl) (fun S1 hp => ?_)
      obtain ⟨s1, s2, s3⟩ := hp
      obtain ⟨N, nN⟩ := S1
      dsimp only at s1 s2 s3
      subst s1
      have b2 : N (k + 1) = ra Γ 3 20 (fun j => gB Γ + (k + 2 + j)) i := by rw [s3 _ (by omega), upk_ne (by omega), a2]
      refine k_aast hG 3 i b2 rfl s2 rfl rfl (by omega) (by decide) (by dsimp only; omega) ⟨rfl, rfl⟩ d_Baler_init_33 ?_
      rw [show va_up (pa (fun j => gB Γ + (k + 2 + j)) 20 i) i (some (gB Γ + (k + 2 + i))) = pa (fun j => gB Γ + (k + 2 + j)) 20 (i + 1) from pa_up _ _ _]
      refine k_iinc hG (hl0 := rfl) (hd := d_Baler_init_34) (K := ?_)
      refine k_goto hG (hd := d_Baler_init_37) (K := ?_)
      refine k_sub hG (l := [(0, ob Γ k), (1, nt ((i + 1 : Nat) : Int))]) ⟨rfl, rfl, trivial⟩ ?_
      refine k_wide hG (k := 1 + (i + 1)) (w := 20 + 4 * (i + 1)) (by dsimp only; omega) ?_
      refine ih (i + 1) (by omega) _ rfl ?_ upk_eq (fun j hj => ?_) (fun q hq => ?_)
      · dsimp only
        rw [upk_ne (by omega), s3 _ (by omega), upk_ne (by omega), a1]
      · dsimp only
        rw [upk_ne (by omega)]
        by_cases hji : j = i
        · rw [hji, s2]
        · rw [s3 _ (by omega), upk_ne (by omega), a3 j (by omega)]
      · dsimp only
        rw [upk_ne (by omega), s3 _ (by omega), upk_ne (by omega), a4 q hq]
  refine k_sub hG (l := [(0, ob Γ k), (1, nt ((0 : Nat) : Int))]) ⟨rfl, rfl, trivial⟩ ?_
  refine loop 20 0 (by omega) _ rfl upk_eq ?_ (fun j hj => absurd hj (by omega)) (fun q hq => ?_)
  · dsimp only
    rw [upk_ne (by omega), upk_eq]
  · dsimp only
    rw [upk_ne (by omega), upk_ne (by omega)]
