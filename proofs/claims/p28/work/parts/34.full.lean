/-! THE LAW'S ROW OF NUMBERS, while it is there -/
def FLs (S : St) (q N : Nat) (F : Nat → Int) (k : Nat) : St := fun f i j => if f = 85 then (if j < k then F j else 0) else if f = 86 then (q : Int) else if f = 87 then (N : Int) else S f i j
def DR (S : St) : St := fun f i j => if f = 87 then 0 else S f i j
theorem FLs_of (S : St) (q N : Nat) (F : Nat → Int) (k : Nat) {f : Nat} (h : f ≠ 85 ∧ f ≠ 86 ∧ f ≠ 87) : FLs S q N F k f = S f := by
  funext i j
  unfold FLs
  rw [if_neg h.1, if_neg h.2.1, if_neg h.2.2]
theorem DR_of (S : St) {f : Nat} (h : f ≠ 87) : DR S f = S f := by
  funext i j
  unfold DR
  rw [if_neg h]
theorem wm_of (Γ : Gm) {S S' : St} (h : ∀ {f : Nat}, f < 85 → S' f = S f) : wm Γ S' = wm Γ S := by
  unfold wm
  apply List.map_congr_left
  intro n hn
  have hn := List.mem_range.mp hn
  obtain ⟨k, i, h1, h2, h3, h4⟩ := nm_in hn
  rw [h3]
  have e1 : adr Γ S' n = adr Γ S n := by unfold adr; rw [h (by decide)]
  have e2 : CL Γ S' k i = CL Γ S k i := by
    refine CL_congr Γ (fun f j hf => ?_)
    by_cases hf5 : f < 85
    · rw [h hf5]
    · have : fk f = 99 := by
        unfold fk
        by_cases h9 : f < 90
        · rcases (show f = 85 ∨ f = 86 ∨ f = 87 ∨ f = 88 ∨ f = 89 by omega) with rfl | rfl | rfl | rfl | rfl <;> rfl
        · rw [List.getD_eq_getElem?_getD, List.getElem?_eq_none (by show 90 ≤ f; omega)]
          rfl
      omega
  rw [e1, e2]
theorem wl_FLs (Γ : Gm) (S : St) (q N : Nat) (F : Nat → Int) (k : Nat) (hN : N ≠ 0) : wl Γ (FLs S q N F k) = wm Γ S ++ [(q, .inl (gC Γ 0, N, .inl (fun j => iI (if j < k then F j else 0))))] := by
  unfold wl
  rw [wm_of Γ (S := S) (fun h => FLs_of S q N F k (by omega))]
  have : fl Γ (FLs S q N F k) = [(q, .inl (gC Γ 0, N, .inl (fun j => iI (if j < k then F j else 0))))] := by
    unfold fl
    rw [if_neg (show ¬ FLs S q N F k 87 0 0 = 0 by show ¬ ((N : Nat) : Int) = 0; omega)]
    rfl
  rw [this]
section LF
variable {Γ : Gm} {R : Room} {cc : ByteArray} {nL : Nat} {own : String} {ret : Option FieldType} {post : Option Value → St → Prop} {mc ms : Nat} {G : Nat × Nat → Nat → List (Nat × Value) → List Value → St → Prop} {cs : Nat × Nat} {pc n : Nat} {ls : List (Nat × Value)} {st : List Value} {S : St}
theorem r_drop (hG : IsG Γ R cc nL own ret post mc ms G) (K : G cs pc ls st (DR S)) : G cs pc ls st S := by
  obtain ⟨p, e, s, m, args, below, meth, c, Q, hx, hb, hml, hown, hts, hK, hB, hX, hr, rfl⟩ := hG
  intro H locs la hP hD hS hl
  have e1 : wl Γ (DR S) = wm Γ S := by
    unfold wl
    rw [wm_of Γ (S := S) (fun h => DR_of S (by omega))]
    show _ ++ fl Γ (DR S) = _
    have : fl Γ (DR S) = [] := rfl
    rw [this, List.append_nil]
  refine K H locs la ?_ ?_ hS hl
  · rw [e1]
    intro k q hq
    exact hP k q (by unfold wl; rw [List.getElem?_append_left (List.getElem?_eq_some_iff.mp hq).1]; exact hq)
  · rw [e1]
    have up : ∀ {k : Nat} {q : Nat × va_E}, (wm Γ S)[k]? = some q → (wl Γ S)[k]? = some q := fun hq => by unfold wl; rw [List.getElem?_append_left (List.getElem?_eq_some_iff.mp hq).1]; exact hq
    exact ⟨fun i j p q hi hj => hD.1 i j p q (up hi) (up hj), fun k q hq => hD.2 k q (up hq)⟩
theorem r_newfull (hG : IsG Γ R cc nL own ret post mc ms G) (h0 : S 87 0 0 = 0) {z : Int} (N : Nat) (F : Nat → Int) (hz : z = (N : Int)) (hN : 0 < N ∧ N < 1000) (hd : Dc cc pc (.newarray .int) 2 n) (hf : cs.1 + 1 ≤ R.cells ∧ cs.2 + N ≤ R.slots) (K : ∀ q : Nat, G (cs.1 + 1, cs.2 + N) n ls (.ref q :: st) (FLs S q N F 0)) : G cs pc ls (nt z :: st) S := by
  obtain ⟨p, e, s, m, args, below, meth, c, Q, hx, hb, hml, hown, hts, hK, hB, hX, hr, rfl⟩ := hG
  obtain ⟨hd, rfl⟩ := hd
  subst hz
  intro H locs la hP hD hS hl
  have e1 : iI (N : Int) = nI N := by rw [iI_nI (by omega), Int.toNat_natCast]
  refine va_newaK (atype := .int) hx hb (hts _ (m_T1 (i := 68) (by decide +kernel) (by decide +kernel))) rfl hd rfl (by rw [e1]; exact nI_pos (by omega)) (by rw [e1]; exact nI_clamp (by omega)) (by show N * 4 ≤ _; omega) hf.1 hf.2 rfl fun H1 cA e1 z1 o1 hAr hNm => ?_
  have hcA : cA = gC Γ 0 := Option.some.inj (hNm.symm.trans (hK.2 0 _ rfl).2)
  subst hcA
  have hw : wl Γ S = wm Γ S := by
    unfold wl fl
    rw [if_pos h0, List.append_nil]
  rw [hw] at hP hD
  have e2 : wl Γ (FLs S H.size N F 0) = wm Γ S ++ [(H.size, .inl (gC Γ 0, N, .inl (fun _ => iI 0)))] := by
    rw [wl_FLs Γ S H.size N F 0 (by omega)]
    simp
  refine K H.size H1 locs la ?_ ?_ (k_S hS rfl (by omega) o1) hl
  · rw [e2]
    refine (hP.kept (fun k x hx => o1 x.1 ((hP k x hx).lt))).app (fun k x hx => ?_)
    have hz : k < 1 := (List.getElem?_eq_some_iff.mp hx).1
    rw [show k = 0 by omega] at hx
    cases hx
    exact e1
  · rw [e2]
    exact hD.push hP rfl (Nat.le_trans hB hS.1)
theorem r_fullLen (hG : IsG Γ R cc nL own ret post mc ms G) {q : Nat} (N : Nat) (h86 : S 86 0 0 = (q : Int)) (h87 : S 87 0 0 = (N : Int)) (hN : 0 < N ∧ N < 1000) (hd : Dc cc pc .arraylength 1 n) (K : G cs n ls (nt (N : Int) :: st) S) : G cs pc ls (.ref q :: st) S := by
  obtain ⟨p, e, s, m, args, below, meth, c, Q, hx, hb, hml, hown, hts, hK, hB, hX, hr, rfl⟩ := hG
  obtain ⟨hd, rfl⟩ := hd
  intro H locs la hP hD hS hl
  have e2 : Int32.ofNat N = iI (N : Int) := by rw [iI_nI (by omega), Int.toNat_natCast]; rfl
  have h9 : (wl Γ S)[138]? = some (q, .inl (gC Γ 0, N, .inl (fun j => iI (S 85 0 j)))) := by
    rw [wl_full Γ S (by omega), h86, h87, Int.toNat_natCast, Int.toNat_natCast]
  exact va_alen (D := gD Γ) (cl := classes) (ws := wl Γ S) hx hb hK hP 138 0 h9 rfl e2 hd (K H locs la hP hD hS hl)
theorem r_fullLd (hG : IsG Γ R cc nL own ret post mc ms G) {q j : Nat} {z : Int} (N : Nat) (h86 : S 86 0 0 = (q : Int)) (h87 : S 87 0 0 = (N : Int)) (hN : 0 < N ∧ N < 1000) (hz : z = (j : Int)) (hj : j < N) (hd : Dc cc pc .iaload 1 n) (K : G cs n ls (nt (S 85 0 j) :: st) S) : G cs pc ls (nt z :: .ref q :: st) S := by
  obtain ⟨p, e, s, m, args, below, meth, c, Q, hx, hb, hml, hown, hts, hK, hB, hX, hr, rfl⟩ := hG
  obtain ⟨hd, rfl⟩ := hd
  subst hz
  intro H locs la hP hD hS hl
  obtain ⟨h1, h2⟩ := iI_in hj (by omega)
  have h9 : (wl Γ S)[138]? = some (q, .inl (gC Γ 0, N, .inl (fun j => iI (S 85 0 j)))) := by
    rw [wl_full Γ S (by omega), h86, h87, Int.toNat_natCast, Int.toNat_natCast]
  refine va_iald (D := gD Γ) (cl := classes) (ws := wl Γ S) hx hb hK hP 138 0 h9 rfl h1 hd ?_
  rw [h2]
  exact K H locs la hP hD hS hl
theorem r_fullSt (hG : IsG Γ R cc nL own ret post mc ms G) {q k : Nat} {z x : Int} {F : Nat → Int} (N : Nat) (hN : 0 < N ∧ N < 1000) (hz : z = (k : Int)) (hx0 : x = F k) (hk : k < N) (hd : Dc cc pc .iastore 1 n) (K : G cs n ls st (FLs S q N F (k + 1))) : G cs pc ls (nt x :: nt z :: .ref q :: st) (FLs S q N F k) := by
  obtain ⟨p, e, s, m, args, below, meth, c, Q, hx, hb, hml, hown, hts, hK, hB, hX, hr, rfl⟩ := hG
  obtain ⟨hd, rfl⟩ := hd
  subst hz hx0
  intro H locs la hP hD hS hl
  obtain ⟨h1, h2⟩ := iI_in hk (by omega)
  rw [wl_FLs Γ S q N F k (by omega)] at hP hD
  have h9 : (wm Γ S ++ [(q, (.inl (gC Γ 0, N, .inl (fun j => iI (if j < k then F j else 0))) : va_E))])[138]? = some (q, .inl (gC Γ 0, N, .inl (fun j => iI (if j < k then F j else 0)))) := by
    rw [List.getElem?_append_right (by rw [wm_len]; decide), wm_len]
    rfl
  refine va_iast (D := gD Γ) (cl := classes) hx hb hK hP hD hS 138 0 h9 rfl h1 hd (fun H1 locs1 hP1 hD1 hS1 => ?_)
  have e3 : (wm Γ S ++ [(q, (.inl (gC Γ 0, N, .inl (fun j => iI (if j < k then F j else 0))) : va_E))]).set 138 (q, .inl (gC Γ 0, N, .inl (upd (fun j => iI (if j < k then F j else 0)) (iI (k : Int)).toNatClampNeg (iI (F k))))) = wl Γ (FLs S q N F (k + 1)) := by
    rw [wl_FLs Γ S q N F (k + 1) (by omega), List.set_append_right _ _ (by rw [wm_len]; decide), wm_len, h2]
    have e4 : upd (fun j => iI (if j < k then F j else 0)) k (iI (F k)) = (fun j => iI (if j < k + 1 then F j else 0)) := by
      funext j
      by_cases hj : j = k
      · subst hj; simp [upd]
      · by_cases hj2 : j < k
        · simp [upd, hj, hj2, show j < k + 1 by omega]
        · simp [upd, hj, hj2, show ¬ j < k + 1 by omega]
    rw [e4]
    rfl
  rw [e3] at hP1 hD1
  exact K H1 locs1 la hP1 hD1 hS1 hl
end LF
/-- what comes in so many days -/
def strK (S : St) (t j : Nat) : Int := match j with
  | 0 => 0
  | 1 => S 15 t 0
  | 2 => S 15 t 0 + S 15 t 1
  | _ => habK S t
theorem comN_in {S : St} {n : Nat} (hn : n ≤ 6) (hT : ∀ t, t < 12 → okT S t) : ∀ k, k ≤ n → 0 ≤ comN S k ∧ comN S k ≤ 27 * k
  | 0, _ => by simp [comN]
  | k + 1, hk => by
    have ih := comN_in hn hT k (by omega)
    have h := (hT (2 * k) (by omega)).2.2
    have a := h 0 (by decide)
    have b := h 1 (by decide)
    have c := h 2 (by decide)
    simp only [comN, habK]
    omega
theorem ct_comes {Γ : Gm} {S : St} {ns n : Nat} (hs : S 0 0 0 = (ns : Int)) (hns : ns ≤ 6) : CT Γ y_Law_comes b_Law_comes 6 ((some FieldType.int)) (rmx 4 0 0) [rf Γ 0 0, nt ns, nt n] S (dX (some (nt (n * comN S ns))) S) := by
  refine CT.of (by first | exact plainFor_of_name (by rfl) | decide +kernel) (Nat.le_of_ble_eq_true rfl) ?_
  intro G hG
  show G (0, 0) 0 [(0, rf Γ 0 0), (1, nt ns), (2, nt n)] [] _
  refine r_iconst hG (hd := d_Law_comes_0) (K := ?_)
  refine r_istore_n hG (hd := d_Law_comes_1) (K := ?_)
  refine r_iconst hG (hd := d_Law_comes_2) (K := ?_)
  refine r_istore hG (hd := d_Law_comes_3) (K := ?_)
  have outer : ∀ m k : Nat, k + m = ns → G (0, 0) 5 [(0, rf Γ 0 0), (1, nt ns), (2, nt n), (3, nt (n * comN S k)), (4, nt k)] [] S := by
    intro m
    induction m with
    | zero =>
      intro k hk
      have hkn : k = ns := by omega
      subst hkn
      refine r_iload hG (hl0 := rfl) (hd := d_Law_comes_5) (K := ?_)
      refine r_iload_n hG (hl0 := rfl) (hd := d_Law_comes_7) (K := ?_)
      refine r_icmp_ge hG (hd := d_Law_comes_8) (kt := fun _ => ?_) (kf := fun hh => absurd hh (by omega))
      refine r_iload_n hG (hl0 := rfl) (hd := d_Law_comes_47) (K := ?_)
      refine r_iret hG d_Law_comes_48 ⟨(Nat.le_of_ble_eq_true rfl), (Nat.le_of_ble_eq_true rfl)⟩ ?_
      exact ⟨rfl, rfl⟩
    | succ m ih =>
      intro k hk
      refine r_iload hG (hl0 := rfl) (hd := d_Law_comes_5) (K := ?_)
      refine r_iload_n hG (hl0 := rfl) (hd := d_Law_comes_7) (K := ?_)
      refine r_icmp_ge hG (hd := d_Law_comes_8) (kt := fun hh => absurd hh (by omega)) (kf := fun _ => ?_)
      refine r_iconst hG (hd := d_Law_comes_11) (K := ?_)
      refine r_istore hG (hd := d_Law_comes_12) (K := ?_)
      have inner : ∀ m' j : Nat, j + m' = 3 → G (0, 0) 14 [(0, rf Γ 0 0), (1, nt ns), (2, nt n), (3, nt (n * comN S k + n * strK S (2 * k) j)), (4, nt k), (5, nt j)] [] S := by
        intro m'
        induction m' with
        | zero =>
          intro j hj
          have hj3 : j = 3 := by omega
          subst hj3
          refine r_iload hG (hl0 := rfl) (hd := d_Law_comes_14) (K := ?_)
          refine r_iconst hG (hd := d_Law_comes_16) (K := ?_)
          refine r_icmp_ge hG (hd := d_Law_comes_17) (kt := fun _ => ?_) (kf := fun hh => absurd hh (by omega))
          refine r_iinc hG (hl0 := rfl) (hd := d_Law_comes_41) (K := ?_)
          refine r_goto hG (hd := d_Law_comes_44) (K := ?_)
          have e : (n : Int) * comN S k + n * strK S (2 * k) 3 = n * comN S (k + 1) := by
            rw [← Int.mul_add]
            rfl
          rw [e]
          exact r_sb hG (ih (k + 1) (by omega)) ⟨rfl, rfl, rfl, rfl, rfl, trivial⟩
        | succ m' ihj =>
          intro j hj
          have nx := ihj (j + 1) (by omega)
          have e : (n : Int) * comN S k + n * strK S (2 * k) j + n * stF S (2 * k) (3 + j) = n * comN S k + n * strK S (2 * k) (j + 1) := by
            rw [Int.add_assoc, ← Int.mul_add]
            congr 2
            rcases (show j = 0 ∨ j = 1 ∨ j = 2 by omega) with rfl | rfl | rfl <;> simp [strK, stF, habK]
          rw [← e] at nx
          refine r_iload hG (hl0 := rfl) (hd := d_Law_comes_14) (K := ?_)
          refine r_iconst hG (hd := d_Law_comes_16) (K := ?_)
          refine r_icmp_ge hG (hd := d_Law_comes_17) (kt := fun hh => absurd hh (by omega)) (kf := fun _ => ?_)
          refine r_iload_n hG (hl0 := rfl) (hd := d_Law_comes_20) (K := ?_)
          refine r_iload_n hG (hl0 := rfl) (hd := d_Law_comes_21) (K := ?_)
          refine r_aload_n hG (hl0 := rfl) (hd := d_Law_comes_22) (K := ?_)
          refine r_iload hG (hl0 := rfl) (hd := d_Law_comes_23) (K := ?_)
          refine r_iconst hG (hd := d_Law_comes_25) (K := ?_)
          refine r_iload hG (hl0 := rfl) (hd := d_Law_comes_26) (K := ?_)
          first | refine r_iadd hG (hd := d_Law_comes_28) (K := ?_) | refine r_iaddr hG (hd := d_Law_comes_28) (K := ?_)
          rw [show (3 : Int) + (j : Int) = ((3 + j : Nat) : Int) by omega]
          refine cVx hG w_Law_51 d_Law_comes_29 (ct_ofStreet hs hns (show k < ns by omega) (show 3 + j < 13 by omega)) (by decide) (by decide) rc_0 rfl rfl ⟨(Nat.le_of_ble_eq_true rfl), (Nat.le_of_ble_eq_true rfl)⟩ ⟨(Nat.le_of_ble_eq_true rfl), (Nat.le_of_ble_eq_true rfl)⟩ (Nat.le_of_ble_eq_true rfl) ?_
          refine r_imul hG (hd := d_Law_comes_32) (K := ?_)
          first | refine r_iadd hG (hd := d_Law_comes_33) (K := ?_) | refine r_iaddr hG (hd := d_Law_comes_33) (K := ?_)
          refine r_istore_n hG (hd := d_Law_comes_34) (K := ?_)
          refine r_iinc hG (hl0 := rfl) (hd := d_Law_comes_35) (K := ?_)
          refine r_goto hG (hd := d_Law_comes_38) (K := ?_)
          exact r_sb hG (nx) ⟨rfl, rfl, rfl, rfl, rfl, rfl, trivial⟩
      have z := inner 3 0 (by omega)
      have e0 : (n : Int) * comN S k + n * strK S (2 * k) 0 = n * comN S k := by simp [strK]
      rw [e0] at z
      exact r_sb hG (z) ⟨rfl, rfl, rfl, rfl, rfl, rfl, trivial⟩
  have z := outer ns 0 (by omega)
  have e0 : (n : Int) * comN S 0 = 0 := by simp [comN]
  rw [e0] at z
  exact r_sb hG (z) ⟨rfl, rfl, rfl, rfl, rfl, trivial⟩
