/-! THE ROWS: an instruction a row, over a world of names. G pc locals stack state: the walk may go on there -/
theorem iI_add (a b : Int) : iI (a + b) = iI a + iI b := by unfold iI; exact Int32.ofInt_add ..
theorem iI_sub (a b : Int) : iI (a - b) = iI a - iI b := by unfold iI; exact Int32.ofInt_sub ..
theorem iI_mul (a b : Int) : iI (a * b) = iI a * iI b := by unfold iI; exact Int32.ofInt_mul ..
theorem iI_neg (a : Int) : iI (-a) = -iI a := by unfold iI; exact Int32.ofInt_neg ..
theorem iI_toInt {a : Int} (h : -2147483648 ≤ a ∧ a < 2147483648) : (iI a).toInt = a := by
  unfold iI
  exact Int32.toInt_ofInt_of_le (by omega) (by omega)
theorem iI_of (x : Int32) : iI x.toInt = x := by unfold iI; exact Int32.ofInt_toInt x
theorem iI_eq {a b : Int} (ha : -2147483648 ≤ a ∧ a < 2147483648) (hb : -2147483648 ≤ b ∧ b < 2147483648) : iI a = iI b ↔ a = b := by
  rw [← Int32.toInt_inj, iI_toInt ha, iI_toInt hb]
theorem iI_le {a b : Int} (ha : -2147483648 ≤ a ∧ a < 2147483648) (hb : -2147483648 ≤ b ∧ b < 2147483648) : iI a ≤ iI b ↔ a ≤ b := by
  rw [Int32.le_iff_toInt_le, iI_toInt ha, iI_toInt hb]
theorem iI_lt {a b : Int} (ha : -2147483648 ≤ a ∧ a < 2147483648) (hb : -2147483648 ≤ b ∧ b < 2147483648) : iI a < iI b ↔ a < b := by
  rw [Int32.lt_iff_toInt_lt, iI_toInt ha, iI_toInt hb]
theorem iI_nI {a : Int} (h : 0 ≤ a) : iI a = nI a.toNat := by
  unfold iI nI
  rw [← Int32.ofInt_eq_ofNat, Int.toNat_of_nonneg h]
theorem iI_ne0 {b : Int} (h : 0 < b ∧ b < 2147483648) : ¬ iI b = 0 := fun q => by
  have := (iI_eq (a := b) (b := 0) (by omega) (by omega)).mp q
  omega
theorem iI_div {a b : Int} (ha : 0 ≤ a ∧ a < 2147483648) (hb : 0 < b ∧ b < 2147483648) : iI a / iI b = iI (a / b) := by
  rw [iI_nI ha.1, iI_nI (show 0 ≤ b by omega), pk_div (by omega) (by omega) (by omega), iI_nI (Int.ediv_nonneg ha.1 (by omega))]
  have h1 : ((a.toNat / b.toNat : Nat) : Int) = a / b := by rw [Int.natCast_ediv, Int.toNat_of_nonneg ha.1, Int.toNat_of_nonneg (by omega)]
  rw [← h1, Int.toNat_natCast]
theorem iI_rem {a b : Int} (ha : 0 ≤ a ∧ a < 2147483648) (hb : 0 < b ∧ b < 2147483648) : iI a - iI a / iI b * iI b = iI (a % b) := by
  rw [iI_div ha hb, ← iI_mul, ← iI_sub]
  congr 1
  have := Int.mul_ediv_add_emod a b
  rw [Int.mul_comm] at this
  omega
def lk (ls : List (Nat × Value)) (i : Nat) : Option Value := match ls with
  | [] => none
  | q :: l => bif Nat.beq q.1 i then some q.2 else lk l i
theorem lk_mem {ls : List (Nat × Value)} {i : Nat} {v : Value} (h : lk ls i = some v) : (i, v) ∈ ls := by
  induction ls with
  | nil => cases h
  | cons q l ih =>
    unfold lk at h
    cases hq : Nat.beq q.1 i with
    | true =>
      rw [hq] at h
      have e1 : q.1 = i := Nat.eq_of_beq_eq_true hq
      have e2 : q.2 = v := Option.some.inj h
      rw [← e1, ← e2]
      exact List.mem_cons_self
    | false =>
      rw [hq] at h
      exact List.mem_cons_of_mem _ (ih h)
def fK (p : Nat × Value → Bool) (l : List (Nat × Value)) (k : List (Nat × Value) → Prop) : Prop := match l with
  | [] => k []
  | q :: l => match p q with
    | true => fK p l (fun l' => k (q :: l'))
    | false => fK p l k
theorem fK_out {p : Nat × Value → Bool} {l : List (Nat × Value)} : ∀ {k : List (Nat × Value) → Prop}, fK p l k → k (l.filter p) := by
  induction l with
  | nil => exact fun h => h
  | cons q l ih =>
    intro k h
    unfold fK at h
    cases hq : p q with
    | true =>
      rw [hq] at h
      rw [List.filter_cons_of_pos hq]
      exact ih h
    | false =>
      rw [hq] at h
      rw [List.filter_cons_of_neg (by rw [hq]; decide)]
      exact ih h
def kp1 (i : Nat) (q : Nat × Value) : Bool := bif Nat.beq q.1 i then false else bif Nat.beq (q.1 + 1) i then Nat.beq q.2.category 1 else true
def kp2 (i : Nat) (q : Nat × Value) : Bool := bif Nat.beq q.1 i then false else bif Nat.beq q.1 (i + 1) then false else bif Nat.beq (q.1 + 1) i then Nat.beq q.2.category 1 else true
theorem kp_cat {v : Value} (h : Nat.beq v.category 1 = true) : ¬ v.category = 2 := by
  have := Nat.eq_of_beq_eq_true h
  omega
theorem beq_f {a b : Nat} (h : Nat.beq a b = false) : ¬ a = b := fun e => by
  subst e
  rw [Nat.beq_refl] at h
  cases h
theorem kp1_sub {i : Nat} {v : Value} (l : List (Nat × Value)) : ∀ q, q ∈ (i, v) :: l.filter (kp1 i) → q ∈ (i, v) :: l.filter (fun q => !(q.1 == i) && !(q.1 + 1 == i && q.2.category == 2)) := by
  intro q hq
  rcases List.mem_cons.mp hq with h | h
  · rw [h]; exact List.mem_cons_self
  · obtain ⟨h1, h2⟩ := List.mem_filter.mp h
    refine List.mem_cons_of_mem _ (List.mem_filter.mpr ⟨h1, ?_⟩)
    unfold kp1 at h2
    cases e1 : Nat.beq q.1 i with
    | true => rw [e1] at h2; cases h2
    | false =>
      rw [e1] at h2
      have n1 := beq_f e1
      cases e2 : Nat.beq (q.1 + 1) i with
      | true =>
        rw [e2] at h2
        have n2 := kp_cat h2
        simp [n1, n2]
      | false =>
        have n2 := beq_f e2
        simp [n1, n2]
theorem kp2_sub {i : Nat} {v : Value} (l : List (Nat × Value)) : ∀ q, q ∈ (i, v) :: l.filter (kp2 i) → q ∈ (i, v) :: l.filter (fun q => !(q.1 == i) && (!(q.1 == i + 1) && !(q.1 + 1 == i && q.2.category == 2))) := by
  intro q hq
  rcases List.mem_cons.mp hq with h | h
  · rw [h]; exact List.mem_cons_self
  · obtain ⟨h1, h2⟩ := List.mem_filter.mp h
    refine List.mem_cons_of_mem _ (List.mem_filter.mpr ⟨h1, ?_⟩)
    unfold kp2 at h2
    cases e1 : Nat.beq q.1 i with
    | true => rw [e1] at h2; cases h2
    | false =>
      rw [e1] at h2
      have n1 := beq_f e1
      cases e3 : Nat.beq q.1 (i + 1) with
      | true => rw [e3] at h2; cases h2
      | false =>
        rw [e3] at h2
        have n3 := beq_f e3
        cases e2 : Nat.beq (q.1 + 1) i with
        | true =>
          rw [e2] at h2
          have n2 := kp_cat h2
          simp [n1, n2, n3]
        | false =>
          have n2 := beq_f e2
          simp [n1, n2, n3]
theorem lv_mono {la : Array Slot} {nL : Nat} {l l' : List (Nat × Value)} (h : lv_has la nL l) (hs : ∀ q, q ∈ l' → q ∈ l) : lv_has la nL l' := ⟨h.1, h.2.1, fun q hq => h.2.2 q (hs q hq)⟩
def isRet (ret : Option FieldType) (i : Instr) (v : Option Value) : Prop :=
  (ret = some .int ∧ i = .ireturn ∧ ∃ x : Int32, v = some (.int x)) ∨ (ret = some .boolean ∧ i = .ireturn ∧ ∃ x : Int32, v = some (.int x) ∧ narrow .boolean (.int x) = .int x) ∨
  (ret = some .long ∧ i = .lreturn ∧ ∃ x : Int64, v = some (.long x)) ∨ (ret = some .double ∧ i = .dreturn ∧ ∃ x : UInt64, v = some (.double x)) ∨
  ((∃ rt : FieldType, ret = some rt ∧ ((∃ n, rt = .object n) ∨ ∃ t, rt = .array t)) ∧ i = .areturn ∧ ∃ a : Nat, v = some (.ref a)) ∨ (ret = none ∧ i = .return_ ∧ v = none)
abbrev tys (Γ : Gm) : List (ClassId × FieldType) := [(gC Γ 0, .int), (gC Γ 1, .object "BinWard$Street"), (gC Γ 2, .object "BinWard$Lorry"), (gC Γ 3, .object "BinWard$Bale"), (gC Γ 4, .array .int)]
/-- a link between nest mates, which a callee needs said of its own start -/
def NW (U : State) : Prop := va_Nw (.methodLinkNest "BinWard$Heap" 19 y_Ward_roundedUp "BinWard") U
/-- the world at a machine's state -/
def WD (Γ : Gm) (S : St) (U : State) : Prop := va_K (gD Γ) classes (tys Γ) U ∧ va_P (gD Γ) classes (wl Γ S) U.heap ∧ va_D (gF Γ) (wl Γ S) ∧ gB Γ ≤ U.heap.size ∧ va_X (gX Γ).1 (gX Γ).2.1 (gX Γ).2.2 U U.heap ∧ (gX Γ).1 < gB Γ ∧ NW U
/-- G is the walk of a method of code cc with nL locals, of class own, in a room R; at its end post holds -/
def IsG (Γ : Gm) (R : Room) (cc : ByteArray) (nL : Nat) (own : String) (ret : Option FieldType) (post : Option Value → St → Prop) (mc ms : Nat) (G : Nat × Nat → Nat → List (Nat × Value) → List Value → St → Prop) : Prop :=
  ∃ (p : Program) (e : Env) (s : State) (m : MethodId) (args : Array Value) (below : List Frame) (meth : Method) (c : Code) (Q : State → Prop),
    p.tables.exec = Jvm.exec ∧ c.code = cc ∧ c.maxLocals = nL ∧ s.vm.findClass own = some m.cls ∧ (∀ w ∈ tg, w.before args s = true) ∧ va_K (gD Γ) classes (tys Γ) s ∧ gB Γ ≤ s.heap.size ∧
    ((va_X (gX Γ).1 (gX Γ).2.1 (gX Γ).2.2 s s.heap ∧ (gX Γ).1 < gB Γ) ∧ NW s) ∧
    (∀ (k n pc : Nat) (i : Instr) (v : Option Value) (S : St) (H : Heap) (locs : List Loc) (la : Array Slot), va_P (gD Γ) classes (wl Γ S) H → va_D (gF Γ) (wl Γ S) → va_S (gF Γ) s.heap H locs → k ≤ mc → n ≤ ms → decode cc pc = .ok (i, 1) → isRet ret i v → post v S →
      W p (gL Γ) e R s m args below meth c H locs k n Q (F0 m pc la v.toList)) ∧
    G = fun cs pc ls st S => ∀ (H : Heap) (locs : List Loc) (la : Array Slot), va_P (gD Γ) classes (wl Γ S) H → va_D (gF Γ) (wl Γ S) → va_S (gF Γ) s.heap H locs → lv_has la nL ls → W p (gL Γ) e R s m args below meth c H locs cs.1 cs.2 Q (F0 m pc la st)
section RW
variable {Γ : Gm} {R : Room} {cc : ByteArray} {nL : Nat} {own : String} {ret : Option FieldType} {post : Option Value → St → Prop} {mc ms : Nat} {G : Nat × Nat → Nat → List (Nat × Value) → List Value → St → Prop} {cs : Nat × Nat} {pc n : Nat} {ls : List (Nat × Value)} {st : List Value} {S : St}

theorem r_iconst (hG : IsG Γ R cc nL own ret post mc ms G) {k : Int} (hd : Dc cc pc (.iconst k) 1 n) (K : G cs n ls (nt k :: st) S) : G cs pc ls (st) S := by
  obtain ⟨p, e, s, m, args, below, meth, c, Q, hx, hb, hml, hown, hts, hK, hB, hX, hr, rfl⟩ := hG
  obtain ⟨hd, rfl⟩ := hd
  intro H locs la hP hD hS hl
  have K := K H locs la hP hD hS hl
  exact lv_iconst (v := iI k) hx hb hd rfl K
theorem r_bipush (hG : IsG Γ R cc nL own ret post mc ms G) {k : Int} (hv : (Int8.ofInt k).toInt32 = iI k := by decide) (hd : Dc cc pc (.bipush k) 2 n) (K : G cs n ls (nt k :: st) S) : G cs pc ls (st) S := by
  obtain ⟨p, e, s, m, args, below, meth, c, Q, hx, hb, hml, hown, hts, hK, hB, hX, hr, rfl⟩ := hG
  obtain ⟨hd, rfl⟩ := hd
  intro H locs la hP hD hS hl
  have K := K H locs la hP hD hS hl
  exact lv_bipush hx hb hd hv K
theorem r_sipush (hG : IsG Γ R cc nL own ret post mc ms G) {k : Int} (hv : (Int16.ofInt k).toInt32 = iI k := by decide) (hd : Dc cc pc (.sipush k) 3 n) (K : G cs n ls (nt k :: st) S) : G cs pc ls (st) S := by
  obtain ⟨p, e, s, m, args, below, meth, c, Q, hx, hb, hml, hown, hts, hK, hB, hX, hr, rfl⟩ := hG
  obtain ⟨hd, rfl⟩ := hd
  intro H locs la hP hD hS hl
  have K := K H locs la hP hD hS hl
  exact lv_sipush hx hb hd hv K
theorem r_ldc (hG : IsG Γ R cc nL own ret post mc ms G) {i : Nat} {v : Int32} {k : Int} (hc : Cond.constant own i v ∈ tg) (hv : v = iI k) (hd : Dc cc pc (.ldc i) 2 n) (K : G cs n ls (nt k :: st) S) : G cs pc ls (st) S := by
  obtain ⟨p, e, s, m, args, below, meth, c, Q, hx, hb, hml, hown, hts, hK, hB, hX, hr, rfl⟩ := hG
  obtain ⟨hd, rfl⟩ := hd
  intro H locs la hP hD hS hl
  have K := K H locs la hP hD hS hl
  subst hv
  exact lv_ldc hx hb hown (hts _ hc) hd K
theorem r_ldcw (hG : IsG Γ R cc nL own ret post mc ms G) {i : Nat} {v : Int32} {k : Int} (hc : Cond.constant own i v ∈ tg) (hv : v = iI k) (hd : Dc cc pc (.ldc_w i) 3 n) (K : G cs n ls (nt k :: st) S) : G cs pc ls (st) S := by
  obtain ⟨p, e, s, m, args, below, meth, c, Q, hx, hb, hml, hown, hts, hK, hB, hX, hr, rfl⟩ := hG
  obtain ⟨hd, rfl⟩ := hd
  intro H locs la hP hD hS hl
  have K := K H locs la hP hD hS hl
  subst hv
  exact lv_ldcw hx hb hown (hts _ hc) hd K
theorem r_ldc2 (hG : IsG Γ R cc nL own ret post mc ms G) {i : Nat} {v : Int64} (hc : Cond.constantLong own i v ∈ tg) (hd : Dc cc pc (.ldc2_w i) 3 n) (K : G cs n ls (.long v :: st) S) : G cs pc ls (st) S := by
  obtain ⟨p, e, s, m, args, below, meth, c, Q, hx, hb, hml, hown, hts, hK, hB, hX, hr, rfl⟩ := hG
  obtain ⟨hd, rfl⟩ := hd
  intro H locs la hP hD hS hl
  have K := K H locs la hP hD hS hl
  exact lv_ldc2 hx hb hown (hts _ hc) hd K
theorem r_ldc2d (hG : IsG Γ R cc nL own ret post mc ms G) {i : Nat} {v : UInt64} (hc : Cond.constantDouble own i v ∈ tg) (hd : Dc cc pc (.ldc2_w i) 3 n) (K : G cs n ls (.double v :: st) S) : G cs pc ls (st) S := by
  obtain ⟨p, e, s, m, args, below, meth, c, Q, hx, hb, hml, hown, hts, hK, hB, hX, hr, rfl⟩ := hG
  obtain ⟨hd, rfl⟩ := hd
  intro H locs la hP hD hS hl
  have K := K H locs la hP hD hS hl
  exact lv_ldc2d hx hb hown (hts _ hc) hd K
theorem r_iload_n (hG : IsG Γ R cc nL own ret post mc ms G) {k : Fin 4} {v : Value} (hl0 : lk ls k.val = some v) (hv : ∃ x, v = .int x := by exact ⟨_, rfl⟩) (hd : Dc cc pc (.iload_n k) 1 n) (K : G cs n ls (v :: st) S) : G cs pc ls (st) S := by
  obtain ⟨p, e, s, m, args, below, meth, c, Q, hx, hb, hml, hown, hts, hK, hB, hX, hr, rfl⟩ := hG
  obtain ⟨hd, rfl⟩ := hd
  intro H locs la hP hD hS hl
  have K := K H locs la hP hD hS hl
  obtain ⟨x, rfl⟩ := hv
  exact lv_iload_n hx hb hd rfl (hl.2.2 _ (lk_mem hl0)) K
theorem r_iload (hG : IsG Γ R cc nL own ret post mc ms G) {k : Nat} {v : Value} (hl0 : lk ls k = some v) (hv : ∃ x, v = .int x := by exact ⟨_, rfl⟩) (hd : Dc cc pc (.iload k) 2 n) (K : G cs n ls (v :: st) S) : G cs pc ls (st) S := by
  obtain ⟨p, e, s, m, args, below, meth, c, Q, hx, hb, hml, hown, hts, hK, hB, hX, hr, rfl⟩ := hG
  obtain ⟨hd, rfl⟩ := hd
  intro H locs la hP hD hS hl
  have K := K H locs la hP hD hS hl
  obtain ⟨x, rfl⟩ := hv
  exact lv_iload hx hb hd (hl.2.2 _ (lk_mem hl0)) K
theorem r_aload_n (hG : IsG Γ R cc nL own ret post mc ms G) {k : Fin 4} {v : Value} (hl0 : lk ls k.val = some v) (hv : ∃ x, v = .ref x := by exact ⟨_, rfl⟩) (hd : Dc cc pc (.aload_n k) 1 n) (K : G cs n ls (v :: st) S) : G cs pc ls (st) S := by
  obtain ⟨p, e, s, m, args, below, meth, c, Q, hx, hb, hml, hown, hts, hK, hB, hX, hr, rfl⟩ := hG
  obtain ⟨hd, rfl⟩ := hd
  intro H locs la hP hD hS hl
  have K := K H locs la hP hD hS hl
  obtain ⟨x, rfl⟩ := hv
  exact lv_aload_n hx hb hd rfl (hl.2.2 _ (lk_mem hl0)) K
theorem r_aload (hG : IsG Γ R cc nL own ret post mc ms G) {k : Nat} {v : Value} (hl0 : lk ls k = some v) (hv : ∃ x, v = .ref x := by exact ⟨_, rfl⟩) (hd : Dc cc pc (.aload k) 2 n) (K : G cs n ls (v :: st) S) : G cs pc ls (st) S := by
  obtain ⟨p, e, s, m, args, below, meth, c, Q, hx, hb, hml, hown, hts, hK, hB, hX, hr, rfl⟩ := hG
  obtain ⟨hd, rfl⟩ := hd
  intro H locs la hP hD hS hl
  have K := K H locs la hP hD hS hl
  obtain ⟨x, rfl⟩ := hv
  exact lv_aload hx hb hd (hl.2.2 _ (lk_mem hl0)) K
theorem r_lload_n (hG : IsG Γ R cc nL own ret post mc ms G) {k : Fin 4} {x : Int64} (hl0 : lk ls k.val = some (.long x)) (hd : Dc cc pc (.lload_n k) 1 n) (K : G cs n ls (.long x :: st) S) : G cs pc ls (st) S := by
  obtain ⟨p, e, s, m, args, below, meth, c, Q, hx, hb, hml, hown, hts, hK, hB, hX, hr, rfl⟩ := hG
  obtain ⟨hd, rfl⟩ := hd
  intro H locs la hP hD hS hl
  have K := K H locs la hP hD hS hl
  exact lv_lload_n hx hb hd rfl (hl.2.2 _ (lk_mem hl0)) K
theorem r_lload (hG : IsG Γ R cc nL own ret post mc ms G) {k : Nat} {x : Int64} (hl0 : lk ls k = some (.long x)) (hd : Dc cc pc (.lload k) 2 n) (K : G cs n ls (.long x :: st) S) : G cs pc ls (st) S := by
  obtain ⟨p, e, s, m, args, below, meth, c, Q, hx, hb, hml, hown, hts, hK, hB, hX, hr, rfl⟩ := hG
  obtain ⟨hd, rfl⟩ := hd
  intro H locs la hP hD hS hl
  have K := K H locs la hP hD hS hl
  exact lv_lload hx hb hd (hl.2.2 _ (lk_mem hl0)) K
theorem r_iadd (hG : IsG Γ R cc nL own ret post mc ms G) {a b : Int} (hd : Dc cc pc .iadd 1 n) (K : G cs n ls (nt (a + b) :: st) S) : G cs pc ls (nt b :: nt a :: st) S := by
  obtain ⟨p, e, s, m, args, below, meth, c, Q, hx, hb, hml, hown, hts, hK, hB, hX, hr, rfl⟩ := hG
  obtain ⟨hd, rfl⟩ := hd
  intro H locs la hP hD hS hl
  have K := K H locs la hP hD hS hl
  refine lv_iadd hx hb hd ?_
  rw [← iI_add]
  exact K
theorem r_isub (hG : IsG Γ R cc nL own ret post mc ms G) {a b : Int} (hd : Dc cc pc .isub 1 n) (K : G cs n ls (nt (a - b) :: st) S) : G cs pc ls (nt b :: nt a :: st) S := by
  obtain ⟨p, e, s, m, args, below, meth, c, Q, hx, hb, hml, hown, hts, hK, hB, hX, hr, rfl⟩ := hG
  obtain ⟨hd, rfl⟩ := hd
  intro H locs la hP hD hS hl
  have K := K H locs la hP hD hS hl
  refine lv_isub hx hb hd ?_
  rw [← iI_sub]
  exact K
theorem r_imul (hG : IsG Γ R cc nL own ret post mc ms G) {a b : Int} (hd : Dc cc pc .imul 1 n) (K : G cs n ls (nt (a * b) :: st) S) : G cs pc ls (nt b :: nt a :: st) S := by
  obtain ⟨p, e, s, m, args, below, meth, c, Q, hx, hb, hml, hown, hts, hK, hB, hX, hr, rfl⟩ := hG
  obtain ⟨hd, rfl⟩ := hd
  intro H locs la hP hD hS hl
  have K := K H locs la hP hD hS hl
  refine lv_imul hx hb hd ?_
  rw [← iI_mul]
  exact K
theorem r_ineg (hG : IsG Γ R cc nL own ret post mc ms G) {a : Int} (hd : Dc cc pc .ineg 1 n) (K : G cs n ls (nt (-a) :: st) S) : G cs pc ls (nt a :: st) S := by
  obtain ⟨p, e, s, m, args, below, meth, c, Q, hx, hb, hml, hown, hts, hK, hB, hX, hr, rfl⟩ := hG
  obtain ⟨hd, rfl⟩ := hd
  intro H locs la hP hD hS hl
  have K := K H locs la hP hD hS hl
  refine lv_ineg hx hb hd ?_
  rw [← iI_neg]
  exact K
theorem r_idiv (hG : IsG Γ R cc nL own ret post mc ms G) {a b : Int} (hr0 : (0 ≤ a ∧ a < 2147483648) ∧ (0 < b ∧ b < 2147483648)) (hd : Dc cc pc .idiv 1 n) (K : G cs n ls (nt (a / b) :: st) S) : G cs pc ls (nt b :: nt a :: st) S := by
  obtain ⟨p, e, s, m, args, below, meth, c, Q, hx, hb, hml, hown, hts, hK, hB, hX, hr, rfl⟩ := hG
  obtain ⟨hd, rfl⟩ := hd
  intro H locs la hP hD hS hl
  have K := K H locs la hP hD hS hl
  refine lv_idiv hx hb hd (iI_ne0 hr0.2) ?_
  rw [iI_div hr0.1 hr0.2]
  exact K
theorem r_irem (hG : IsG Γ R cc nL own ret post mc ms G) {a b : Int} (hr0 : (0 ≤ a ∧ a < 2147483648) ∧ (0 < b ∧ b < 2147483648)) (hd : Dc cc pc .irem 1 n) (K : G cs n ls (nt (a % b) :: st) S) : G cs pc ls (nt b :: nt a :: st) S := by
  obtain ⟨p, e, s, m, args, below, meth, c, Q, hx, hb, hml, hown, hts, hK, hB, hX, hr, rfl⟩ := hG
  obtain ⟨hd, rfl⟩ := hd
  intro H locs la hP hD hS hl
  have K := K H locs la hP hD hS hl
  refine lv_irem hx hb hd (iI_ne0 hr0.2) ?_
  rw [iI_rem hr0.1 hr0.2]
  exact K
theorem r_iand (hG : IsG Γ R cc nL own ret post mc ms G) {x y : Int32} (hd : Dc cc pc .iand 1 n) (K : G cs n ls (.int (x &&& y) :: st) S) : G cs pc ls (.int y :: .int x :: st) S := by
  obtain ⟨p, e, s, m, args, below, meth, c, Q, hx, hb, hml, hown, hts, hK, hB, hX, hr, rfl⟩ := hG
  obtain ⟨hd, rfl⟩ := hd
  intro H locs la hP hD hS hl
  have K := K H locs la hP hD hS hl
  exact lv_iand hx hb hd K
theorem r_ior (hG : IsG Γ R cc nL own ret post mc ms G) {x y : Int32} (hd : Dc cc pc .ior 1 n) (K : G cs n ls (.int (x ||| y) :: st) S) : G cs pc ls (.int y :: .int x :: st) S := by
  obtain ⟨p, e, s, m, args, below, meth, c, Q, hx, hb, hml, hown, hts, hK, hB, hX, hr, rfl⟩ := hG
  obtain ⟨hd, rfl⟩ := hd
  intro H locs la hP hD hS hl
  have K := K H locs la hP hD hS hl
  exact lv_ior hx hb hd K
theorem r_ixor (hG : IsG Γ R cc nL own ret post mc ms G) {x y : Int32} (hd : Dc cc pc .ixor 1 n) (K : G cs n ls (.int (x ^^^ y) :: st) S) : G cs pc ls (.int y :: .int x :: st) S := by
  obtain ⟨p, e, s, m, args, below, meth, c, Q, hx, hb, hml, hown, hts, hK, hB, hX, hr, rfl⟩ := hG
  obtain ⟨hd, rfl⟩ := hd
  intro H locs la hP hD hS hl
  have K := K H locs la hP hD hS hl
  exact lv_ixor hx hb hd K
theorem r_ishl (hG : IsG Γ R cc nL own ret post mc ms G) {x y : Int32} (hd : Dc cc pc .ishl 1 n) (K : G cs n ls (.int (x <<< (y &&& 31)) :: st) S) : G cs pc ls (.int y :: .int x :: st) S := by
  obtain ⟨p, e, s, m, args, below, meth, c, Q, hx, hb, hml, hown, hts, hK, hB, hX, hr, rfl⟩ := hG
  obtain ⟨hd, rfl⟩ := hd
  intro H locs la hP hD hS hl
  have K := K H locs la hP hD hS hl
  exact lv_ishl hx hb hd K
theorem r_ishr (hG : IsG Γ R cc nL own ret post mc ms G) {x y : Int32} (hd : Dc cc pc .ishr 1 n) (K : G cs n ls (.int (x >>> (y &&& 31)) :: st) S) : G cs pc ls (.int y :: .int x :: st) S := by
  obtain ⟨p, e, s, m, args, below, meth, c, Q, hx, hb, hml, hown, hts, hK, hB, hX, hr, rfl⟩ := hG
  obtain ⟨hd, rfl⟩ := hd
  intro H locs la hP hD hS hl
  have K := K H locs la hP hD hS hl
  exact lv_ishr hx hb hd K
theorem r_iushr (hG : IsG Γ R cc nL own ret post mc ms G) {x y : Int32} (hd : Dc cc pc .iushr 1 n) (K : G cs n ls (.int ((x.toUInt32 >>> (y.toUInt32 &&& Int32.toUInt32 31)).toInt32) :: st) S) : G cs pc ls (.int y :: .int x :: st) S := by
  obtain ⟨p, e, s, m, args, below, meth, c, Q, hx, hb, hml, hown, hts, hK, hB, hX, hr, rfl⟩ := hG
  obtain ⟨hd, rfl⟩ := hd
  intro H locs la hP hD hS hl
  have K := K H locs la hP hD hS hl
  exact lv_iushr hx hb hd rfl K
theorem r_iaddr (hG : IsG Γ R cc nL own ret post mc ms G) {x y : Int32} (hd : Dc cc pc .iadd 1 n) (K : G cs n ls (.int (x + y) :: st) S) : G cs pc ls (.int y :: .int x :: st) S := by
  obtain ⟨p, e, s, m, args, below, meth, c, Q, hx, hb, hml, hown, hts, hK, hB, hX, hr, rfl⟩ := hG
  obtain ⟨hd, rfl⟩ := hd
  intro H locs la hP hD hS hl
  have K := K H locs la hP hD hS hl
  exact lv_iadd hx hb hd K
theorem r_isubr (hG : IsG Γ R cc nL own ret post mc ms G) {x y : Int32} (hd : Dc cc pc .isub 1 n) (K : G cs n ls (.int (x - y) :: st) S) : G cs pc ls (.int y :: .int x :: st) S := by
  obtain ⟨p, e, s, m, args, below, meth, c, Q, hx, hb, hml, hown, hts, hK, hB, hX, hr, rfl⟩ := hG
  obtain ⟨hd, rfl⟩ := hd
  intro H locs la hP hD hS hl
  have K := K H locs la hP hD hS hl
  exact lv_isub hx hb hd K
theorem r_iremr (hG : IsG Γ R cc nL own ret post mc ms G) {x y : Int32} (h0 : ¬ y = 0) (hd : Dc cc pc .irem 1 n) (K : G cs n ls (.int (x - x / y * y) :: st) S) : G cs pc ls (.int y :: .int x :: st) S := by
  obtain ⟨p, e, s, m, args, below, meth, c, Q, hx, hb, hml, hown, hts, hK, hB, hX, hr, rfl⟩ := hG
  obtain ⟨hd, rfl⟩ := hd
  intro H locs la hP hD hS hl
  have K := K H locs la hP hD hS hl
  exact lv_irem hx hb hd h0 K
theorem r_i2l (hG : IsG Γ R cc nL own ret post mc ms G) {x : Int32} (hd : Dc cc pc .i2l 1 n) (K : G cs n ls (.long x.toInt64 :: st) S) : G cs pc ls (.int x :: st) S := by
  obtain ⟨p, e, s, m, args, below, meth, c, Q, hx, hb, hml, hown, hts, hK, hB, hX, hr, rfl⟩ := hG
  obtain ⟨hd, rfl⟩ := hd
  intro H locs la hP hD hS hl
  have K := K H locs la hP hD hS hl
  exact lv_i2l hx hb hd rfl K
theorem r_ladd (hG : IsG Γ R cc nL own ret post mc ms G) {x y : Int64} (hd : Dc cc pc .ladd 1 n) (K : G cs n ls (.long (x + y) :: st) S) : G cs pc ls (.long y :: .long x :: st) S := by
  obtain ⟨p, e, s, m, args, below, meth, c, Q, hx, hb, hml, hown, hts, hK, hB, hX, hr, rfl⟩ := hG
  obtain ⟨hd, rfl⟩ := hd
  intro H locs la hP hD hS hl
  have K := K H locs la hP hD hS hl
  exact lv_ladd hx hb hd K
theorem r_lmul (hG : IsG Γ R cc nL own ret post mc ms G) {x y : Int64} (hd : Dc cc pc .lmul 1 n) (K : G cs n ls (.long (x * y) :: st) S) : G cs pc ls (.long y :: .long x :: st) S := by
  obtain ⟨p, e, s, m, args, below, meth, c, Q, hx, hb, hml, hown, hts, hK, hB, hX, hr, rfl⟩ := hG
  obtain ⟨hd, rfl⟩ := hd
  intro H locs la hP hD hS hl
  have K := K H locs la hP hD hS hl
  exact lv_lmul hx hb hd K
theorem r_dup (hG : IsG Γ R cc nL own ret post mc ms G) {v : Value} (hv : v.category = 1 := by rfl) (hd : Dc cc pc .dup 1 n) (K : G cs n ls (v :: v :: st) S) : G cs pc ls (v :: st) S := by
  obtain ⟨p, e, s, m, args, below, meth, c, Q, hx, hb, hml, hown, hts, hK, hB, hX, hr, rfl⟩ := hG
  obtain ⟨hd, rfl⟩ := hd
  intro H locs la hP hD hS hl
  have K := K H locs la hP hD hS hl
  exact lv_dup hx hb hd hv K
theorem r_pop (hG : IsG Γ R cc nL own ret post mc ms G) {v : Value} (hv : v.category = 1 := by rfl) (hd : Dc cc pc .pop 1 n) (K : G cs n ls (st) S) : G cs pc ls (v :: st) S := by
  obtain ⟨p, e, s, m, args, below, meth, c, Q, hx, hb, hml, hown, hts, hK, hB, hX, hr, rfl⟩ := hG
  obtain ⟨hd, rfl⟩ := hd
  intro H locs la hP hD hS hl
  have K := K H locs la hP hD hS hl
  exact lv_pop hx hb hd hv K
theorem r_dup2 (hG : IsG Γ R cc nL own ret post mc ms G) {v w : Value} (hv : v.category = 1 := by rfl) (hw : w.category = 1 := by rfl) (hd : Dc cc pc .dup2 1 n) (K : G cs n ls (v :: w :: v :: w :: st) S) : G cs pc ls (v :: w :: st) S := by
  obtain ⟨p, e, s, m, args, below, meth, c, Q, hx, hb, hml, hown, hts, hK, hB, hX, hr, rfl⟩ := hG
  obtain ⟨hd, rfl⟩ := hd
  intro H locs la hP hD hS hl
  have K := K H locs la hP hD hS hl
  exact lv_dup2_11 hx hb hd hv hw K
theorem r_i2d (hG : IsG Γ R cc nL own ret post mc ms G) {x : Int32} (hd : Dc cc pc .i2d 1 n) (K : G cs n ls (.double (FP.i2d x) :: st) S) : G cs pc ls (.int x :: st) S := by
  obtain ⟨p, e, s, m, args, below, meth, c, Q, hx, hb, hml, hown, hts, hK, hB, hX, hr, rfl⟩ := hG
  obtain ⟨hd, rfl⟩ := hd
  intro H locs la hP hD hS hl
  have K := K H locs la hP hD hS hl
  exact lv_i2d hx hb hd K
theorem r_ddiv (hG : IsG Γ R cc nL own ret post mc ms G) {x y : UInt64} (hne : vf_n64 (FP.ddiv x y)) (hd : Dc cc pc .ddiv 1 n) (K : G cs n ls (.double (FP.ddiv x y) :: st) S) : G cs pc ls (.double y :: .double x :: st) S := by
  obtain ⟨p, e, s, m, args, below, meth, c, Q, hx, hb, hml, hown, hts, hK, hB, hX, hr, rfl⟩ := hG
  obtain ⟨hd, rfl⟩ := hd
  intro H locs la hP hD hS hl
  have K := K H locs la hP hD hS hl
  exact lv_ddiv hx hb hd hne K
theorem r_dcmp (hG : IsG Γ R cc nL own ret post mc ms G) {x y : UInt64} {q : CmpOp} (hd : Dc cc pc (.dcmp q) 1 n) (K : G cs n ls (.int (Op.cmpValue (FP.dcmp x y) q) :: st) S) : G cs pc ls (.double y :: .double x :: st) S := by
  obtain ⟨p, e, s, m, args, below, meth, c, Q, hx, hb, hml, hown, hts, hK, hB, hX, hr, rfl⟩ := hG
  obtain ⟨hd, rfl⟩ := hd
  intro H locs la hP hD hS hl
  have K := K H locs la hP hD hS hl
  exact lv_dcmp hx hb hd K
theorem r_dconst0 (hG : IsG Γ R cc nL own ret post mc ms G)  (hd : Dc cc pc (.dconst 0) 1 n) (K : G cs n ls (.double FP.dconst0 :: st) S) : G cs pc ls (st) S := by
  obtain ⟨p, e, s, m, args, below, meth, c, Q, hx, hb, hml, hown, hts, hK, hB, hX, hr, rfl⟩ := hG
  obtain ⟨hd, rfl⟩ := hd
  intro H locs la hP hD hS hl
  have K := K H locs la hP hD hS hl
  exact lv_dconst0 hx hb hd K
theorem r_istore_n (hG : IsG Γ R cc nL own ret post mc ms G) {k : Fin 4} {v : Value} (hv : ∃ x, v = .int x := by exact ⟨_, rfl⟩) (hd : Dc cc pc (.istore_n k) 1 n) (hi : k.val < nL := by decide) (K : fK (kp1 k.val) ls (fun l => G cs n ((k.val, v) :: l) st S)) : G cs pc ls (v :: st) S := by
  obtain ⟨p, e, s, m, args, below, meth, c, Q, hx, hb, hml, hown, hts, hK, hB, hX, hr, rfl⟩ := hG
  obtain ⟨hd, rfl⟩ := hd
  intro H locs la hP hD hS hl
  obtain ⟨x, rfl⟩ := hv
  refine lv_istore_n hx hb hd rfl hl hi rfl (fun la' hl' => ?_)
  exact fK_out K H locs la' hP hD hS (lv_mono hl' (kp1_sub _))
theorem r_istore (hG : IsG Γ R cc nL own ret post mc ms G) {k : Nat} {v : Value} (hv : ∃ x, v = .int x := by exact ⟨_, rfl⟩) (hd : Dc cc pc (.istore k) 2 n) (hi : k < nL := by decide) (K : fK (kp1 k) ls (fun l => G cs n ((k, v) :: l) st S)) : G cs pc ls (v :: st) S := by
  obtain ⟨p, e, s, m, args, below, meth, c, Q, hx, hb, hml, hown, hts, hK, hB, hX, hr, rfl⟩ := hG
  obtain ⟨hd, rfl⟩ := hd
  intro H locs la hP hD hS hl
  obtain ⟨x, rfl⟩ := hv
  refine lv_istore hx hb hd hl hi rfl (fun la' hl' => ?_)
  exact fK_out K H locs la' hP hD hS (lv_mono hl' (kp1_sub _))
theorem r_astore_n (hG : IsG Γ R cc nL own ret post mc ms G) {k : Fin 4} {v : Value} (hv : ∃ x, v = .ref x := by exact ⟨_, rfl⟩) (hd : Dc cc pc (.astore_n k) 1 n) (hi : k.val < nL := by decide) (K : fK (kp1 k.val) ls (fun l => G cs n ((k.val, v) :: l) st S)) : G cs pc ls (v :: st) S := by
  obtain ⟨p, e, s, m, args, below, meth, c, Q, hx, hb, hml, hown, hts, hK, hB, hX, hr, rfl⟩ := hG
  obtain ⟨hd, rfl⟩ := hd
  intro H locs la hP hD hS hl
  obtain ⟨x, rfl⟩ := hv
  refine lv_astore_n hx hb hd rfl hl hi rfl (fun la' hl' => ?_)
  exact fK_out K H locs la' hP hD hS (lv_mono hl' (kp1_sub _))
theorem r_astore (hG : IsG Γ R cc nL own ret post mc ms G) {k : Nat} {v : Value} (hv : ∃ x, v = .ref x := by exact ⟨_, rfl⟩) (hd : Dc cc pc (.astore k) 2 n) (hi : k < nL := by decide) (K : fK (kp1 k) ls (fun l => G cs n ((k, v) :: l) st S)) : G cs pc ls (v :: st) S := by
  obtain ⟨p, e, s, m, args, below, meth, c, Q, hx, hb, hml, hown, hts, hK, hB, hX, hr, rfl⟩ := hG
  obtain ⟨hd, rfl⟩ := hd
  intro H locs la hP hD hS hl
  obtain ⟨x, rfl⟩ := hv
  refine lv_astore hx hb hd hl hi rfl (fun la' hl' => ?_)
  exact fK_out K H locs la' hP hD hS (lv_mono hl' (kp1_sub _))
theorem r_lstore_n (hG : IsG Γ R cc nL own ret post mc ms G) {k : Fin 4} {x : Int64} (hd : Dc cc pc (.lstore_n k) 1 n) (hi : k.val + 1 < nL := by decide) (K : fK (kp2 k.val) ls (fun l => G cs n ((k.val, .long x) :: l) st S)) : G cs pc ls (.long x :: st) S := by
  obtain ⟨p, e, s, m, args, below, meth, c, Q, hx, hb, hml, hown, hts, hK, hB, hX, hr, rfl⟩ := hG
  obtain ⟨hd, rfl⟩ := hd
  intro H locs la hP hD hS hl
  refine lv_lstore_n hx hb hd rfl hl hi rfl (fun la' hl' => ?_)
  exact fK_out K H locs la' hP hD hS (lv_mono hl' (kp2_sub _))
theorem r_lstore (hG : IsG Γ R cc nL own ret post mc ms G) {k : Nat} {x : Int64} (hd : Dc cc pc (.lstore k) 2 n) (hi : k + 1 < nL := by decide) (K : fK (kp2 k) ls (fun l => G cs n ((k, .long x) :: l) st S)) : G cs pc ls (.long x :: st) S := by
  obtain ⟨p, e, s, m, args, below, meth, c, Q, hx, hb, hml, hown, hts, hK, hB, hX, hr, rfl⟩ := hG
  obtain ⟨hd, rfl⟩ := hd
  intro H locs la hP hD hS hl
  refine lv_lstore hx hb hd hl hi rfl (fun la' hl' => ?_)
  exact fK_out K H locs la' hP hD hS (lv_mono hl' (kp2_sub _))
theorem r_iinc (hG : IsG Γ R cc nL own ret post mc ms G) {k : Nat} {z a : Int} (hd : Dc cc pc (.iinc k z) 3 n) (hl0 : lk ls k = some (nt a)) (hi : k < nL := by decide) (K : fK (kp1 k) ls (fun l => G cs n ((k, nt (a + z)) :: l) st S)) : G cs pc ls st S := by
  obtain ⟨p, e, s, m, args, below, meth, c, Q, hx, hb, hml, hown, hts, hK, hB, hX, hr, rfl⟩ := hG
  obtain ⟨hd, rfl⟩ := hd
  intro H locs la hP hD hS hl
  obtain ⟨q, hq⟩ := List.getElem?_of_mem (lk_mem hl0)
  refine lv_iinc (v := iI (a + z)) hx hb hd hl hq (by rw [iI_add]; rfl) hi rfl (fun la' hl' => ?_)
  exact fK_out K H locs la' hP hD hS (lv_mono hl' (kp1_sub _))
theorem r_icmp_eq (hG : IsG Γ R cc nL own ret post mc ms G) {a b : Int} {tgt : Nat} (hd : Dj cc pc (.if_icmp .eq) tgt n) (hr0 : (-2147483648 ≤ a ∧ a < 2147483648) ∧ (-2147483648 ≤ b ∧ b < 2147483648) := by omega) (kt : a = b → G cs tgt ls st S) (kf : a ≠ b → G cs n ls st S) : G cs pc ls (nt b :: nt a :: st) S := by
  obtain ⟨p, e, s, m, args, below, meth, c, Q, hx, hb, hml, hown, hts, hK, hB, hX, hr, rfl⟩ := hG
  obtain ⟨off, hd, ht, rfl⟩ := hd
  intro H locs la hP hD hS hl
  refine lv_icmp_eq hx hb hd ht (fun h => ?_) (fun h => ?_)
  · exact kt (by have h := h; simp only [iI_eq hr0.1 hr0.2, iI_le hr0.1 hr0.2, iI_lt hr0.1 hr0.2, iI_le hr0.2 hr0.1, iI_lt hr0.2 hr0.1] at h; omega) H locs la hP hD hS hl
  · exact kf (by have h := h; simp only [iI_eq hr0.1 hr0.2, iI_le hr0.1 hr0.2, iI_lt hr0.1 hr0.2, iI_le hr0.2 hr0.1, iI_lt hr0.2 hr0.1] at h; omega) H locs la hP hD hS hl
theorem r_if_eq (hG : IsG Γ R cc nL own ret post mc ms G) {a : Int} {tgt : Nat} (hd : Dj cc pc (.ifCond .eq) tgt n) (hr0 : -2147483648 ≤ a ∧ a < 2147483648 := by omega) (kt : a = 0 → G cs tgt ls st S) (kf : a ≠ 0 → G cs n ls st S) : G cs pc ls (nt a :: st) S := by
  obtain ⟨p, e, s, m, args, below, meth, c, Q, hx, hb, hml, hown, hts, hK, hB, hX, hr, rfl⟩ := hG
  obtain ⟨off, hd, ht, rfl⟩ := hd
  intro H locs la hP hD hS hl
  have h0 : (0 : Int32) = iI 0 := rfl
  have hr1 : (-2147483648 : Int) ≤ 0 ∧ (0 : Int) < 2147483648 := by omega
  refine lv_if_eq hx hb hd ht (fun h => ?_) (fun h => ?_)
  · exact kt (by have h := h; rw [h0] at h; simp only [iI_eq hr0 hr1, iI_le hr0 hr1, iI_lt hr0 hr1, iI_le hr1 hr0, iI_lt hr1 hr0] at h; omega) H locs la hP hD hS hl
  · exact kf (by have h := h; rw [h0] at h; simp only [iI_eq hr0 hr1, iI_le hr0 hr1, iI_lt hr0 hr1, iI_le hr1 hr0, iI_lt hr1 hr0] at h; omega) H locs la hP hD hS hl
theorem r_icmp_ne (hG : IsG Γ R cc nL own ret post mc ms G) {a b : Int} {tgt : Nat} (hd : Dj cc pc (.if_icmp .ne) tgt n) (hr0 : (-2147483648 ≤ a ∧ a < 2147483648) ∧ (-2147483648 ≤ b ∧ b < 2147483648) := by omega) (kt : a ≠ b → G cs tgt ls st S) (kf : a = b → G cs n ls st S) : G cs pc ls (nt b :: nt a :: st) S := by
  obtain ⟨p, e, s, m, args, below, meth, c, Q, hx, hb, hml, hown, hts, hK, hB, hX, hr, rfl⟩ := hG
  obtain ⟨off, hd, ht, rfl⟩ := hd
  intro H locs la hP hD hS hl
  refine lv_icmp_ne hx hb hd ht (fun h => ?_) (fun h => ?_)
  · exact kt (by have h := h; simp only [iI_eq hr0.1 hr0.2, iI_le hr0.1 hr0.2, iI_lt hr0.1 hr0.2, iI_le hr0.2 hr0.1, iI_lt hr0.2 hr0.1] at h; omega) H locs la hP hD hS hl
  · exact kf (by have h := h; simp only [iI_eq hr0.1 hr0.2, iI_le hr0.1 hr0.2, iI_lt hr0.1 hr0.2, iI_le hr0.2 hr0.1, iI_lt hr0.2 hr0.1] at h; omega) H locs la hP hD hS hl
theorem r_if_ne (hG : IsG Γ R cc nL own ret post mc ms G) {a : Int} {tgt : Nat} (hd : Dj cc pc (.ifCond .ne) tgt n) (hr0 : -2147483648 ≤ a ∧ a < 2147483648 := by omega) (kt : a ≠ 0 → G cs tgt ls st S) (kf : a = 0 → G cs n ls st S) : G cs pc ls (nt a :: st) S := by
  obtain ⟨p, e, s, m, args, below, meth, c, Q, hx, hb, hml, hown, hts, hK, hB, hX, hr, rfl⟩ := hG
  obtain ⟨off, hd, ht, rfl⟩ := hd
  intro H locs la hP hD hS hl
  have h0 : (0 : Int32) = iI 0 := rfl
  have hr1 : (-2147483648 : Int) ≤ 0 ∧ (0 : Int) < 2147483648 := by omega
  refine lv_if_ne hx hb hd ht (fun h => ?_) (fun h => ?_)
  · exact kt (by have h := h; rw [h0] at h; simp only [iI_eq hr0 hr1, iI_le hr0 hr1, iI_lt hr0 hr1, iI_le hr1 hr0, iI_lt hr1 hr0] at h; omega) H locs la hP hD hS hl
  · exact kf (by have h := h; rw [h0] at h; simp only [iI_eq hr0 hr1, iI_le hr0 hr1, iI_lt hr0 hr1, iI_le hr1 hr0, iI_lt hr1 hr0] at h; omega) H locs la hP hD hS hl
theorem r_icmp_lt (hG : IsG Γ R cc nL own ret post mc ms G) {a b : Int} {tgt : Nat} (hd : Dj cc pc (.if_icmp .lt) tgt n) (hr0 : (-2147483648 ≤ a ∧ a < 2147483648) ∧ (-2147483648 ≤ b ∧ b < 2147483648) := by omega) (kt : a < b → G cs tgt ls st S) (kf : b ≤ a → G cs n ls st S) : G cs pc ls (nt b :: nt a :: st) S := by
  obtain ⟨p, e, s, m, args, below, meth, c, Q, hx, hb, hml, hown, hts, hK, hB, hX, hr, rfl⟩ := hG
  obtain ⟨off, hd, ht, rfl⟩ := hd
  intro H locs la hP hD hS hl
  refine lv_icmp_lt hx hb hd ht (fun h => ?_) (fun h => ?_)
  · exact kt (by have h := h; simp only [iI_eq hr0.1 hr0.2, iI_le hr0.1 hr0.2, iI_lt hr0.1 hr0.2, iI_le hr0.2 hr0.1, iI_lt hr0.2 hr0.1] at h; omega) H locs la hP hD hS hl
  · exact kf (by have h := h; simp only [iI_eq hr0.1 hr0.2, iI_le hr0.1 hr0.2, iI_lt hr0.1 hr0.2, iI_le hr0.2 hr0.1, iI_lt hr0.2 hr0.1] at h; omega) H locs la hP hD hS hl
theorem r_if_lt (hG : IsG Γ R cc nL own ret post mc ms G) {a : Int} {tgt : Nat} (hd : Dj cc pc (.ifCond .lt) tgt n) (hr0 : -2147483648 ≤ a ∧ a < 2147483648 := by omega) (kt : a < 0 → G cs tgt ls st S) (kf : 0 ≤ a → G cs n ls st S) : G cs pc ls (nt a :: st) S := by
  obtain ⟨p, e, s, m, args, below, meth, c, Q, hx, hb, hml, hown, hts, hK, hB, hX, hr, rfl⟩ := hG
  obtain ⟨off, hd, ht, rfl⟩ := hd
  intro H locs la hP hD hS hl
  have h0 : (0 : Int32) = iI 0 := rfl
  have hr1 : (-2147483648 : Int) ≤ 0 ∧ (0 : Int) < 2147483648 := by omega
  refine lv_if_lt hx hb hd ht (fun h => ?_) (fun h => ?_)
  · exact kt (by have h := h; rw [h0] at h; simp only [iI_eq hr0 hr1, iI_le hr0 hr1, iI_lt hr0 hr1, iI_le hr1 hr0, iI_lt hr1 hr0] at h; omega) H locs la hP hD hS hl
  · exact kf (by have h := h; rw [h0] at h; simp only [iI_eq hr0 hr1, iI_le hr0 hr1, iI_lt hr0 hr1, iI_le hr1 hr0, iI_lt hr1 hr0] at h; omega) H locs la hP hD hS hl
theorem r_icmp_ge (hG : IsG Γ R cc nL own ret post mc ms G) {a b : Int} {tgt : Nat} (hd : Dj cc pc (.if_icmp .ge) tgt n) (hr0 : (-2147483648 ≤ a ∧ a < 2147483648) ∧ (-2147483648 ≤ b ∧ b < 2147483648) := by omega) (kt : b ≤ a → G cs tgt ls st S) (kf : a < b → G cs n ls st S) : G cs pc ls (nt b :: nt a :: st) S := by
  obtain ⟨p, e, s, m, args, below, meth, c, Q, hx, hb, hml, hown, hts, hK, hB, hX, hr, rfl⟩ := hG
  obtain ⟨off, hd, ht, rfl⟩ := hd
  intro H locs la hP hD hS hl
  refine lv_icmp_ge hx hb hd ht (fun h => ?_) (fun h => ?_)
  · exact kt (by have h := h; simp only [iI_eq hr0.1 hr0.2, iI_le hr0.1 hr0.2, iI_lt hr0.1 hr0.2, iI_le hr0.2 hr0.1, iI_lt hr0.2 hr0.1] at h; omega) H locs la hP hD hS hl
  · exact kf (by have h := h; simp only [iI_eq hr0.1 hr0.2, iI_le hr0.1 hr0.2, iI_lt hr0.1 hr0.2, iI_le hr0.2 hr0.1, iI_lt hr0.2 hr0.1] at h; omega) H locs la hP hD hS hl
theorem r_if_ge (hG : IsG Γ R cc nL own ret post mc ms G) {a : Int} {tgt : Nat} (hd : Dj cc pc (.ifCond .ge) tgt n) (hr0 : -2147483648 ≤ a ∧ a < 2147483648 := by omega) (kt : 0 ≤ a → G cs tgt ls st S) (kf : a < 0 → G cs n ls st S) : G cs pc ls (nt a :: st) S := by
  obtain ⟨p, e, s, m, args, below, meth, c, Q, hx, hb, hml, hown, hts, hK, hB, hX, hr, rfl⟩ := hG
  obtain ⟨off, hd, ht, rfl⟩ := hd
  intro H locs la hP hD hS hl
  have h0 : (0 : Int32) = iI 0 := rfl
  have hr1 : (-2147483648 : Int) ≤ 0 ∧ (0 : Int) < 2147483648 := by omega
  refine lv_if_ge hx hb hd ht (fun h => ?_) (fun h => ?_)
  · exact kt (by have h := h; rw [h0] at h; simp only [iI_eq hr0 hr1, iI_le hr0 hr1, iI_lt hr0 hr1, iI_le hr1 hr0, iI_lt hr1 hr0] at h; omega) H locs la hP hD hS hl
  · exact kf (by have h := h; rw [h0] at h; simp only [iI_eq hr0 hr1, iI_le hr0 hr1, iI_lt hr0 hr1, iI_le hr1 hr0, iI_lt hr1 hr0] at h; omega) H locs la hP hD hS hl
theorem r_icmp_gt (hG : IsG Γ R cc nL own ret post mc ms G) {a b : Int} {tgt : Nat} (hd : Dj cc pc (.if_icmp .gt) tgt n) (hr0 : (-2147483648 ≤ a ∧ a < 2147483648) ∧ (-2147483648 ≤ b ∧ b < 2147483648) := by omega) (kt : b < a → G cs tgt ls st S) (kf : a ≤ b → G cs n ls st S) : G cs pc ls (nt b :: nt a :: st) S := by
  obtain ⟨p, e, s, m, args, below, meth, c, Q, hx, hb, hml, hown, hts, hK, hB, hX, hr, rfl⟩ := hG
  obtain ⟨off, hd, ht, rfl⟩ := hd
  intro H locs la hP hD hS hl
  refine lv_icmp_gt hx hb hd ht (fun h => ?_) (fun h => ?_)
  · exact kt (by have h := h; simp only [iI_eq hr0.1 hr0.2, iI_le hr0.1 hr0.2, iI_lt hr0.1 hr0.2, iI_le hr0.2 hr0.1, iI_lt hr0.2 hr0.1] at h; omega) H locs la hP hD hS hl
  · exact kf (by have h := h; simp only [iI_eq hr0.1 hr0.2, iI_le hr0.1 hr0.2, iI_lt hr0.1 hr0.2, iI_le hr0.2 hr0.1, iI_lt hr0.2 hr0.1] at h; omega) H locs la hP hD hS hl
theorem r_if_gt (hG : IsG Γ R cc nL own ret post mc ms G) {a : Int} {tgt : Nat} (hd : Dj cc pc (.ifCond .gt) tgt n) (hr0 : -2147483648 ≤ a ∧ a < 2147483648 := by omega) (kt : 0 < a → G cs tgt ls st S) (kf : a ≤ 0 → G cs n ls st S) : G cs pc ls (nt a :: st) S := by
  obtain ⟨p, e, s, m, args, below, meth, c, Q, hx, hb, hml, hown, hts, hK, hB, hX, hr, rfl⟩ := hG
  obtain ⟨off, hd, ht, rfl⟩ := hd
  intro H locs la hP hD hS hl
  have h0 : (0 : Int32) = iI 0 := rfl
  have hr1 : (-2147483648 : Int) ≤ 0 ∧ (0 : Int) < 2147483648 := by omega
  refine lv_if_gt hx hb hd ht (fun h => ?_) (fun h => ?_)
  · exact kt (by have h := h; rw [h0] at h; simp only [iI_eq hr0 hr1, iI_le hr0 hr1, iI_lt hr0 hr1, iI_le hr1 hr0, iI_lt hr1 hr0] at h; omega) H locs la hP hD hS hl
  · exact kf (by have h := h; rw [h0] at h; simp only [iI_eq hr0 hr1, iI_le hr0 hr1, iI_lt hr0 hr1, iI_le hr1 hr0, iI_lt hr1 hr0] at h; omega) H locs la hP hD hS hl
theorem r_icmp_le (hG : IsG Γ R cc nL own ret post mc ms G) {a b : Int} {tgt : Nat} (hd : Dj cc pc (.if_icmp .le) tgt n) (hr0 : (-2147483648 ≤ a ∧ a < 2147483648) ∧ (-2147483648 ≤ b ∧ b < 2147483648) := by omega) (kt : a ≤ b → G cs tgt ls st S) (kf : b < a → G cs n ls st S) : G cs pc ls (nt b :: nt a :: st) S := by
  obtain ⟨p, e, s, m, args, below, meth, c, Q, hx, hb, hml, hown, hts, hK, hB, hX, hr, rfl⟩ := hG
  obtain ⟨off, hd, ht, rfl⟩ := hd
  intro H locs la hP hD hS hl
  refine lv_icmp_le hx hb hd ht (fun h => ?_) (fun h => ?_)
  · exact kt (by have h := h; simp only [iI_eq hr0.1 hr0.2, iI_le hr0.1 hr0.2, iI_lt hr0.1 hr0.2, iI_le hr0.2 hr0.1, iI_lt hr0.2 hr0.1] at h; omega) H locs la hP hD hS hl
  · exact kf (by have h := h; simp only [iI_eq hr0.1 hr0.2, iI_le hr0.1 hr0.2, iI_lt hr0.1 hr0.2, iI_le hr0.2 hr0.1, iI_lt hr0.2 hr0.1] at h; omega) H locs la hP hD hS hl
theorem r_if_le (hG : IsG Γ R cc nL own ret post mc ms G) {a : Int} {tgt : Nat} (hd : Dj cc pc (.ifCond .le) tgt n) (hr0 : -2147483648 ≤ a ∧ a < 2147483648 := by omega) (kt : a ≤ 0 → G cs tgt ls st S) (kf : 0 < a → G cs n ls st S) : G cs pc ls (nt a :: st) S := by
  obtain ⟨p, e, s, m, args, below, meth, c, Q, hx, hb, hml, hown, hts, hK, hB, hX, hr, rfl⟩ := hG
  obtain ⟨off, hd, ht, rfl⟩ := hd
  intro H locs la hP hD hS hl
  have h0 : (0 : Int32) = iI 0 := rfl
  have hr1 : (-2147483648 : Int) ≤ 0 ∧ (0 : Int) < 2147483648 := by omega
  refine lv_if_le hx hb hd ht (fun h => ?_) (fun h => ?_)
  · exact kt (by have h := h; rw [h0] at h; simp only [iI_eq hr0 hr1, iI_le hr0 hr1, iI_lt hr0 hr1, iI_le hr1 hr0, iI_lt hr1 hr0] at h; omega) H locs la hP hD hS hl
  · exact kf (by have h := h; rw [h0] at h; simp only [iI_eq hr0 hr1, iI_le hr0 hr1, iI_lt hr0 hr1, iI_le hr1 hr0, iI_lt hr1 hr0] at h; omega) H locs la hP hD hS hl
theorem r_goto (hG : IsG Γ R cc nL own ret post mc ms G) {tgt : Nat} (hd : Dj cc pc .goto tgt n) (K : G cs tgt ls st S) : G cs pc ls st S := by
  obtain ⟨p, e, s, m, args, below, meth, c, Q, hx, hb, hml, hown, hts, hK, hB, hX, hr, rfl⟩ := hG
  obtain ⟨off, hd, ht, rfl⟩ := hd
  intro H locs la hP hD hS hl
  exact lv_goto hx hb hd ht (K H locs la hP hD hS hl)
theorem r_iret (hG : IsG Γ R cc nL own (some .int) post mc ms G) {x : Int32} (hd : Dc cc pc .ireturn 1 n) (hm : cs.1 ≤ mc ∧ cs.2 ≤ ms) (hp : post (some (.int x)) S) : G cs pc ls [.int x] S := by
  obtain ⟨p, e, s, m, args, below, meth, c, Q, hx, hb, hml, hown, hts, hK, hB, hX, hr, rfl⟩ := hG
  obtain ⟨hd, rfl⟩ := hd
  intro H locs la hP hD hS hl
  exact hr _ _ _ _ (some (.int x)) S H locs la hP hD hS hm.1 hm.2 hd (Or.inl ⟨rfl, rfl, _, rfl⟩) hp
theorem r_zret (hG : IsG Γ R cc nL own (some .boolean) post mc ms G) {a : Int} (hd : Dc cc pc .ireturn 1 n) (hm : cs.1 ≤ mc ∧ cs.2 ≤ ms) (h01 : a = 0 ∨ a = 1) (hp : post (some (nt a)) S) : G cs pc ls [nt a] S := by
  obtain ⟨p, e, s, m, args, below, meth, c, Q, hx, hb, hml, hown, hts, hK, hB, hX, hr, rfl⟩ := hG
  obtain ⟨hd, rfl⟩ := hd
  intro H locs la hP hD hS hl
  exact hr _ _ _ _ (some (nt a)) S H locs la hP hD hS hm.1 hm.2 hd (Or.inr (Or.inl ⟨rfl, rfl, _, rfl, by rcases h01 with rfl | rfl <;> decide⟩)) hp
theorem r_lret (hG : IsG Γ R cc nL own (some .long) post mc ms G) {x : Int64} (hd : Dc cc pc .lreturn 1 n) (hm : cs.1 ≤ mc ∧ cs.2 ≤ ms) (hp : post (some (.long x)) S) : G cs pc ls [.long x] S := by
  obtain ⟨p, e, s, m, args, below, meth, c, Q, hx, hb, hml, hown, hts, hK, hB, hX, hr, rfl⟩ := hG
  obtain ⟨hd, rfl⟩ := hd
  intro H locs la hP hD hS hl
  exact hr _ _ _ _ (some (.long x)) S H locs la hP hD hS hm.1 hm.2 hd (Or.inr (Or.inr (Or.inl ⟨rfl, rfl, _, rfl⟩))) hp
theorem r_dret (hG : IsG Γ R cc nL own (some .double) post mc ms G) {x : UInt64} (hd : Dc cc pc .dreturn 1 n) (hm : cs.1 ≤ mc ∧ cs.2 ≤ ms) (hp : post (some (.double x)) S) : G cs pc ls [.double x] S := by
  obtain ⟨p, e, s, m, args, below, meth, c, Q, hx, hb, hml, hown, hts, hK, hB, hX, hr, rfl⟩ := hG
  obtain ⟨hd, rfl⟩ := hd
  intro H locs la hP hD hS hl
  exact hr _ _ _ _ (some (.double x)) S H locs la hP hD hS hm.1 hm.2 hd (Or.inr (Or.inr (Or.inr (Or.inl ⟨rfl, rfl, _, rfl⟩)))) hp
theorem r_aret {rt : FieldType} (hG : IsG Γ R cc nL own (some rt) post mc ms G) {v : Value} (hd : Dc cc pc .areturn 1 n) (hm : cs.1 ≤ mc ∧ cs.2 ≤ ms) (hrt : (∃ n, rt = .object n) ∨ ∃ t, rt = .array t) (hv : ∃ x, v = .ref x) (hp : post (some v) S) : G cs pc ls [v] S := by
  obtain ⟨p, e, s, m, args, below, meth, c, Q, hx, hb, hml, hown, hts, hK, hB, hX, hr, rfl⟩ := hG
  obtain ⟨hd, rfl⟩ := hd
  obtain ⟨x, rfl⟩ := hv
  intro H locs la hP hD hS hl
  exact hr _ _ _ _ (some (.ref x)) S H locs la hP hD hS hm.1 hm.2 hd (Or.inr (Or.inr (Or.inr (Or.inr (Or.inl ⟨⟨rt, rfl, hrt⟩, rfl, _, rfl⟩))))) hp
theorem r_vret (hG : IsG Γ R cc nL own none post mc ms G) (hd : Dc cc pc .return_ 1 n) (hm : cs.1 ≤ mc ∧ cs.2 ≤ ms) (hp : post none S) : G cs pc ls [] S := by
  obtain ⟨p, e, s, m, args, below, meth, c, Q, hx, hb, hml, hown, hts, hK, hB, hX, hr, rfl⟩ := hG
  obtain ⟨hd, rfl⟩ := hd
  intro H locs la hP hD hS hl
  exact hr _ _ _ _ none S H locs la hP hD hS hm.1 hm.2 hd (Or.inr (Or.inr (Or.inr (Or.inr (Or.inr ⟨rfl, rfl, rfl⟩))))) hp
/-- fewer locals are known -/
def subL (ls : List (Nat × Value)) (l : List (Nat × Value)) : Prop := match l with
  | [] => True
  | q :: l => lk ls q.1 = some q.2 ∧ subL ls l
theorem subL_mem {ls l : List (Nat × Value)} (h : subL ls l) : ∀ q, q ∈ l → q ∈ ls := by
  induction l with
  | nil => intro q hq; cases hq
  | cons a l ih =>
    intro q hq
    rcases List.mem_cons.mp hq with e | e
    · rw [e]; exact lk_mem h.1
    · exact ih h.2 q e
theorem r_sub (hG : IsG Γ R cc nL own ret post mc ms G) {l : List (Nat × Value)} (h : subL ls l) (K : G cs pc l st S) : G cs pc ls st S := by
  obtain ⟨p, e, s, m, args, below, meth, c, Q, hx, hb, hml, hown, hts, hK, hB, hX, hr, rfl⟩ := hG
  intro H locs la hP hD hS hl
  exact K H locs la hP hD hS (lv_mono hl (subL_mem h))
/-- more room is counted than was used -/
theorem r_wide (hG : IsG Γ R cc nL own ret post mc ms G) {k w : Nat} (h : cs.1 ≤ k ∧ cs.2 ≤ w) (K : G (k, w) pc ls st S) : G cs pc ls st S := by
  obtain ⟨p, e, s, m, args, below, meth, c, Q, hx, hb, hml, hown, hts, hK, hB, hX, hr, rfl⟩ := hG
  intro H locs la hP hD hS hl
  exact W.widen h.1 h.2 (K H locs la hP hD hS hl)
theorem r_get (hG : IsG Γ R cc nL own ret post mc ms G) {idx k i j ci N : Nat} {C : String} {T : u_T} {fs : List Value} {v : Value} (hd : Dc cc pc (.getfield idx) 3 n) (hk : k < 25) (hi : i < cnt k) (he : CL Γ S k i = .inr (ci, fs)) (hc : classes[ci]? = some (C, T, N)) (hin : ∀ w ∈ u_ws C T N, w ∈ tg) (hj : j < N) (hT : (T j).1 = C) (hlk : Cond.fieldLink own idx C (T j).2.1 (T j).2.2.1 ∈ tg) (hv : fs[j]? = some v)
    (K : G cs n ls (v :: st) S) : G cs pc ls (rf Γ k i :: st) S := by
  obtain ⟨p, e, s, m, args, below, meth, c, Q, hx, hb, hml, hown, hts, hK, hB, hX, hr, rfl⟩ := hG
  obtain ⟨hd, rfl⟩ := hd
  intro H locs la hP hD hS hl
  exact va_get (D := gD Γ) (cl := classes) (ws := wl Γ S) hx hb hts hin hown hK hP (off k i) (by rw [wl_at Γ S hk hi, he]) hc j hj (hts _ hlk) (by rw [hT]; exact fun _ h => h) hv hd (K H locs la hP hD hS hl)
theorem r_put (hG : IsG Γ R cc nL own ret post mc ms G) {idx k i j ci N f q : Nat} {C : String} {T : u_T} {t : Nat → FieldType} {fs : List Value} {z : Int} (hd : Dc cc pc (.putfield idx) 3 n) (hk : k < 25) (hi : i < cnt k) (he : CL Γ S k i = .inr (ci, fs)) (hc : classes[ci]? = some (C, T, N)) (hin : ∀ w ∈ u_ws C T N, w ∈ tg) (hty : ∀ k, k < N → parseFieldDescriptor (T k).2.2.1 = some (t k)) (hnm : ∀ a, a < N → ∀ b, b < N → a ≠ b → (T a).2.1 ≠ (T b).2.1)
    (hj : j < N) (hT : (T j).1 = C) (hlk : Cond.fieldLink own idx C (T j).2.1 (T j).2.2.1 ∈ tg) (hfin : (T j).2.2.2 = false) (hdesc : parseFieldDescriptor (T j).2.2.1 = some .int) (hl0 : j < fs.length) (hf : fk f = k) (hf1 : f < 80) (hcs : CL Γ (sU S f i q z) k i = .inr (ci, fs.set j (nt z)))
    (K : G cs n ls st (sU S f i q z)) : G cs pc ls (nt z :: rf Γ k i :: st) S := by
  obtain ⟨p, e, s, m, args, below, meth, c, Q, hx, hb, hml, hown, hts, hK, hB, hX, hr, rfl⟩ := hG
  obtain ⟨hd, rfl⟩ := hd
  intro H locs la hP hD hS hl
  refine va_put (D := gD Γ) (cl := classes) (ws := wl Γ S) (v := nt z) (ty := .int) hx hb hts hin t hty hnm hown hK hP hD hS (off k i) (by rw [wl_at Γ S hk hi, he]) hc j hj (hts _ hlk) (by rw [hT]; exact fun _ h => h) hfin hdesc rfl rfl hl0 hd (fun H1 locs1 hP1 hD1 hS1 => ?_)
  rw [wl_put Γ hk hi hf hf1 hcs] at hP1 hD1
  exact K H1 locs1 la hP1 hD1 hS1 hl
theorem iI_in {N j : Nat} (hj : j < N) (hN : N < 2147483648) : vp_in (iI (j : Int)) N ∧ (iI (j : Int)).toNatClampNeg = j := by
  have e : iI (j : Int) = nI j := by rw [iI_nI (by omega), Int.toNat_natCast]
  rw [e]
  exact ⟨vp_in_nI hj (by omega), nI_clamp (by omega)⟩
theorem r_iald (hG : IsG Γ R cc nL own ret post mc ms G) {k i N f j : Nat} {z : Int} (hd : Dc cc pc .iaload 1 n) (hz : z = (j : Int)) (hj : j < N) (hN : N < 2147483648) (hk : k < 25) (hi : i < cnt k) (he : CL Γ S k i = .inl (gC Γ 0, N, .inl (fun q => iI (S f i q))))
    (K : G cs n ls (nt (S f i j) :: st) S) : G cs pc ls (nt z :: rf Γ k i :: st) S := by
  obtain ⟨p, e, s, m, args, below, meth, c, Q, hx, hb, hml, hown, hts, hK, hB, hX, hr, rfl⟩ := hG
  obtain ⟨hd, rfl⟩ := hd
  subst hz
  intro H locs la hP hD hS hl
  obtain ⟨h1, h2⟩ := iI_in hj hN
  refine va_iald (D := gD Γ) (cl := classes) (ws := wl Γ S) hx hb hK hP (off k i) 0 (by rw [wl_at Γ S hk hi, he]) rfl h1 hd ?_
  rw [h2]
  exact K H locs la hP hD hS hl
theorem r_iast (hG : IsG Γ R cc nL own ret post mc ms G) {k i N f j : Nat} {z x : Int} (hd : Dc cc pc .iastore 1 n) (hz : z = (j : Int)) (hj : j < N) (hN : N < 2147483648) (hk : k < 25) (hi : i < cnt k) (he : CL Γ S k i = .inl (gC Γ 0, N, .inl (fun q => iI (S f i q)))) (hf : fk f = k) (hf1 : f < 80) (hcs : CL Γ (sU S f i j x) k i = .inl (gC Γ 0, N, .inl (upd (fun q => iI (S f i q)) j (iI x))))
    (K : G cs n ls st (sU S f i j x)) : G cs pc ls (nt x :: nt z :: rf Γ k i :: st) S := by
  obtain ⟨p, e, s, m, args, below, meth, c, Q, hx, hb, hml, hown, hts, hK, hB, hX, hr, rfl⟩ := hG
  obtain ⟨hd, rfl⟩ := hd
  subst hz
  intro H locs la hP hD hS hl
  obtain ⟨h1, h2⟩ := iI_in hj hN
  refine va_iast (D := gD Γ) (cl := classes) (ws := wl Γ S) hx hb hK hP hD hS (off k i) 0 (by rw [wl_at Γ S hk hi, he]) rfl h1 hd (fun H1 locs1 hP1 hD1 hS1 => ?_)
  rw [h2, wl_put Γ hk hi hf hf1 hcs] at hP1 hD1
  exact K H1 locs1 la hP1 hD1 hS1 hl
theorem r_aald (hG : IsG Γ R cc nL own ret post mc ms G) {k i N j q t0 : Nat} {C : String} {g : Nat → Nat} {z : Int} (hd : Dc cc pc .aaload 1 n) (hz : z = (j : Int)) (hj : j < N) (hN : N < 2147483648) (hk : k < 25) (hi : i < cnt k) (ht : (tys Γ)[t0]? = some (gC Γ q, .object C)) (he : CL Γ S k i = .inl (gC Γ q, N, .inr (.inr (.inr (.inr (fun j => some (gA Γ (g j))))))))
    (K : G cs n ls (.ref (gA Γ (g j)) :: st) S) : G cs pc ls (nt z :: rf Γ k i :: st) S := by
  obtain ⟨p, e, s, m, args, below, meth, c, Q, hx, hb, hml, hown, hts, hK, hB, hX, hr, rfl⟩ := hG
  obtain ⟨hd, rfl⟩ := hd
  subst hz
  intro H locs la hP hD hS hl
  obtain ⟨h1, h2⟩ := iI_in hj hN
  refine va_aldq (D := gD Γ) (cl := classes) (ws := wl Γ S) hx hb hK hP (off k i) t0 (by rw [wl_at Γ S hk hi, he]) ht h1 hd ?_
  rw [h2]
  exact K H locs la hP hD hS hl
/-- rounds[day]: a row of an array of rows -/
theorem r_aald22 (hG : IsG Γ R cc nL own ret post mc ms G) {i j : Nat} {z : Int} (hd : Dc cc pc .aaload 1 n) (hz : z = (j : Int)) (hj : j < 7) (hi : i < 3) (K : G cs n ls (rf Γ 23 (7 * i + j) :: st) S) : G cs pc ls (nt z :: rf Γ 22 i :: st) S := by
  obtain ⟨p, e, s, m, args, below, meth, c, Q, hx, hb, hml, hown, hts, hK, hB, hX, hr, rfl⟩ := hG
  obtain ⟨hd, rfl⟩ := hd
  subst hz
  intro H locs la hP hD hS hl
  obtain ⟨h1, h2⟩ := iI_in hj (by decide)
  have hq := hP (off 22 i) _ (wl_at Γ S (k := 22) (by decide) hi)
  refine W.aald (v := rf Γ 23 (7 * i + j)) (ty := .array .int) hx hb hq ((hK.2 4 _ rfl).1 7 (fun j => va_rf (some (gA Γ (off 23 (7 * i + j)))))) rfl (fun q => by cases q) ?_ ?_ rfl rfl hd (K H locs la hP hD hS hl)
  · show ¬ (_ < 0 ∨ (arrV _ _ _).slots.size ≤ _)
    rw [arrV_size]
    exact h1
  · show (arrV _ _ _).slots[_]? = _
    rw [h2, arrV_read _ _ hj]
    rfl
theorem r_alen1 (hG : IsG Γ R cc nL own ret post mc ms G) {i : Nat} (hd : Dc cc pc .arraylength 1 n) (hi : i < 2) (K : G cs n ls (nt 6 :: st) S) : G cs pc ls (rf Γ 1 i :: st) S := by
  obtain ⟨p, e, s, m, args, below, meth, c, Q, hx, hb, hml, hown, hts, hK, hB, hX, hr, rfl⟩ := hG
  obtain ⟨hd, rfl⟩ := hd
  intro H locs la hP hD hS hl
  exact va_alen (D := gD Γ) (cl := classes) (ws := wl Γ S) hx hb hK hP (off 1 i) 1 (wl_at Γ S (k := 1) (by decide) hi) rfl rfl hd (K H locs la hP hD hS hl)
end RW
/-- a contract: y, called with As in the state S, comes back with post; in the room rm -/
def CT (Γ : Gm) (y : MethodName) (bts : ByteArray) (nY : Nat) (rY : Option FieldType) (rm : Room) (As : List Value) (S : St) (post : Option Value → St → Prop) : Prop :=
  Met (gL Γ) y (.code y bts nY rY :: tg) rm (va_Pc As (WD Γ S)) (fun _ s oc t => (∃ (v : Option Value) (S' : St), oc = .returned v ∧ post v S' ∧ WD Γ S' t) ∧ va_F (gF Γ) s t) rm.cells rm.slots (gF Γ)
def rmx (k mc ms : Nat) : Room := { frames := k, cells := mc, slots := ms, locals := 30 * k }
theorem tg_goodIn {w0 : Cond} (h0 : w0 ∈ tg) : GoodIn tg (w0 :: tg) := by
  intro w hw
  rcases List.mem_cons.mp hw with h | h
  · rw [h]; exact ⟨h0, good_of_word (List.mem_filter.mp h0).2⟩
  · exact ⟨h, good_of_word (List.mem_filter.mp h).2⟩
theorem WD.to {Γ : Gm} {S : St} {s t : State} {H : Heap} {locs : List Loc} (hK : va_K (gD Γ) classes (tys Γ) s) (hX : (va_X (gX Γ).1 (gX Γ).2.1 (gX Γ).2.2 s s.heap ∧ (gX Γ).1 < gB Γ) ∧ NW s) (hB : gB Γ ≤ s.heap.size) (hP : va_P (gD Γ) classes (wl Γ S) H) (hD : va_D (gF Γ) (wl Γ S)) (hS : va_S (gF Γ) s.heap H locs) (ht : t.heap = H) (hW : s.WarmedH t.vm) : WD Γ S t := by
  obtain ⟨hX, hN⟩ := hX
  refine ⟨va_K.moved hW.alike hK, by rw [ht]; exact hP, hD, by rw [ht]; exact Nat.le_trans hB hS.1, va_X.moved hW.alike (va_X.kept hX.1 ?_), hX.2, va_Nw.warmM hW hN⟩
  rw [ht]
  exact hS.2.1 _ (Nat.lt_of_lt_of_le hX.2 hB) (fun q => absurd hX.2 (Nat.not_lt.mpr q))
theorem ofWF {l : Launch} {y : MethodName} {ws ws' : List Cond} {rm : Room} {Pc : Array Value → State → Prop} {Qc : Array Value → State → Outcome → State → Prop} {mc ms : Nat} {free : Addr → Prop} {cc : ByteArray} {maxL : Nat} {ret : Option FieldType}
    (hy : plainFor y = true) (hw : ws = Cond.code y cc maxL ret :: ws')
    (body : ∀ p e s m args below meth c s₁, BodyLoose p l y (headSpec ws rm) cc maxL ret e s m args below meth c s₁ → c.maxLocals = maxL → Pc args s →
      W p l e (headSpec ws rm).room s m args below meth c s.heap [] 0 0 (MQ below Qc args s mc ms free) (entryFrame m args maxL)) : Met l y ws rm Pc Qc mc ms free := by
  refine MetFree.of_bodySF (code := cc) (maxLocals := maxL) (ret := ret) hy ?_ ?_
  · intro args s m h hn
    obtain ⟨meth, c, h1, h2, h3, h4, h5, h6, -, -⟩ := Cond.code_spec hn (atoms_spec (ws := ws) h _ (by rw [hw]; exact List.mem_cons_self))
    exact ⟨meth, c, h1, h2, h3, h4, h5, h6⟩
  · intro p e s m args below meth c s₁ B hml hP _
    have hh0 : s₁.heap = s.heap := by rw [B.state]; rfl
    obtain ⟨t, a1, o, b1, b2, b3⟩ := body p e s m args below meth c s₁ B hml hP s₁ hh0 (Stand.of_body B)
    exact ⟨t, o, a1, b1, b2, ⟨b3.1, b3.2⟩⟩
theorem CT.of {Γ : Gm} {y : MethodName} {bts : ByteArray} {nY : Nat} {rY : Option FieldType} {rm : Room} {As : List Value} {S : St} {post : Option Value → St → Prop} (hy : plainFor y = true) (hlen : (lg_sl As).length ≤ nY)
    (h : ∀ G, IsG Γ rm bts nY y.cls rY post rm.cells rm.slots G → G (0, 0) 0 (lv_args 0 As) [] S) : CT Γ y bts nY rY rm As S post := by
  refine ofWF (cc := bts) (maxL := nY) (ret := rY) hy rfl ?_
  intro p e s m args below meth c s₁ B hml hv
  obtain ⟨rfl, hK, hP, hD, hB, hX, hXl, hN⟩ := hv
  have hts0 := atoms_spec (ws := .code y bts nY rY :: tg) B.pre
  have hts : ∀ w ∈ tg, w.before As.toArray s = true := fun w hw => hts0 w (List.mem_cons_of_mem _ hw)
  have hlocks := B.notSynchronized
  have hr0 := B.returns
  have hb := B.bytes
  have hx := B.exec
  have hl := lv_entry As (n := nY) hlen
  rw [lg_entry_eq]
  generalize (lg_sl As ++ List.replicate (nY - (lg_sl As).length) Slot.unset).toArray = la at hl ⊢
  refine h _ ⟨p, e, s, m, As.toArray, below, meth, c, MQ below _ As.toArray s rm.cells rm.slots (gF Γ), hx, hb, hml, findClass_of_methodNamed B.named, hts, hK, hB, ⟨⟨hX, hXl⟩, hN⟩, ?_, rfl⟩ s.heap [] la hP hD va_S.rf hl
  intro k n pc i v S' H locs la' hP' hD' hS' hk hn hdg hret hpost
  have hq : ∀ t : State, t.heap = H → s.WarmedH t.vm → ∀ v', v' = v → (∃ (v : Option Value) (S' : St), Outcome.returned v' = .returned v ∧ post v S' ∧ WD Γ S' t) ∧ va_F (gF Γ) s t := by
    intro t ht hW v' hv'
    subst hv'
    exact ⟨⟨_, S', rfl, hpost, WD.to hK ⟨⟨hX, hXl⟩, hN⟩ hB hP' hD' hS' ht hW⟩, hS'.F ht⟩
  refine W.widen hk hn ?_
  rcases hret with ⟨h1, h2, x, h3⟩ | ⟨h1, h2, x, h3, h4⟩ | ⟨h1, h2, x, h3⟩ | ⟨h1, h2, x, h3⟩ | ⟨⟨rt, h1, h5⟩, h2, x, h3⟩ | ⟨h1, h2, h3⟩
  · subst h1 h2 h3
    exact W.iret hx hb hr0 (fun t ht hW => hq t ht hW _ rfl) hS'.2.2 hdg hlocks
  · subst h1 h2 h3
    exact W.zret hx hb hr0 h4 (fun t ht hW => hq t ht hW _ rfl) hS'.2.2 hdg hlocks
  · subst h1 h2 h3
    exact W.lret hx hb hr0 (fun t ht hW => hq t ht hW _ rfl) hS'.2.2 hdg hlocks
  · subst h1 h2 h3
    exact W.dret hx hb hr0 (fun t ht hW => hq t ht hW _ rfl) hS'.2.2 hdg hlocks
  · subst h1 h2 h3
    exact W.aret hx hb hr0 h5 (Or.inr ⟨_, rfl⟩) (fun t ht hW => hq t ht hW _ rfl) hS'.2.2 hdg hlocks
  · subst h1 h2 h3
    exact W.vret hx hb hr0 (fun t ht hW => hq t ht hW _ rfl) hS'.2.2 hdg hlocks

