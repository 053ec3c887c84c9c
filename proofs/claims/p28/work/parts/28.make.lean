/-! MAKING A CITY: a world that grows, its cells in the order of their addresses (wip/p28/gen/make.py) -/
abbrev WX : Type := (Nat → va_E) × Nat
def upk (w : Nat → va_E) (k : Nat) (e : va_E) : Nat → va_E := fun q => if q = k then e else w q
theorem upk_eq {w : Nat → va_E} {k : Nat} {e : va_E} : upk w k e k = e := if_pos rfl
theorem upk_ne {w : Nat → va_E} {k q : Nat} {e : va_E} (h : q ≠ k) : upk w k e q = w q := if_neg h
def wn (Γ : Gm) (S : WX) : va_W := (List.range S.2).map (fun k => (gB Γ + k, S.1 k))
theorem wn_get {Γ : Gm} {S : WX} {k : Nat} (h : k < S.2) : (wn Γ S)[k]? = some (gB Γ + k, S.1 k) := by
  unfold wn
  rw [List.getElem?_map, List.getElem?_range h]
  rfl
theorem wn_out {Γ : Gm} {S : WX} {k : Nat} {q : Nat × va_E} (h : (wn Γ S)[k]? = some q) : k < S.2 ∧ q = (gB Γ + k, S.1 k) := by
  have hk : k < S.2 := by
    have := (List.getElem?_eq_some_iff.mp h).1
    simpa [wn] using this
  rw [wn_get hk] at h
  exact ⟨hk, (Option.some.inj h).symm⟩
theorem wn_D (Γ : Gm) (S : WX) : va_D (gF Γ) (wn Γ S) := by
  refine ⟨fun i j p q hi hj hpq => ?_, fun k q hq => ?_⟩
  · obtain ⟨-, rfl⟩ := wn_out hi
    obtain ⟨-, rfl⟩ := wn_out hj
    simp at hpq
    omega
  · obtain ⟨-, rfl⟩ := wn_out hq
    exact Nat.le_add_right _ _
theorem wn_ext {Γ : Gm} {l : va_W} {S : WX} (h1 : l.length = S.2) (h : ∀ k, k < S.2 → l[k]? = some (gB Γ + k, S.1 k)) : l = wn Γ S := by
  apply List.ext_getElem?
  intro k
  by_cases hk : k < S.2
  · rw [h k hk, wn_get hk]
  · rw [List.getElem?_eq_none (by omega), List.getElem?_eq_none (by simp [wn]; omega)]
theorem wn_len (Γ : Gm) (S : WX) : (wn Γ S).length = S.2 := by simp [wn]
theorem wn_set {Γ : Gm} {S : WX} {k : Nat} {e : va_E} (h : k < S.2) : (wn Γ S).set k (gB Γ + k, e) = wn Γ (upk S.1 k e, S.2) := by
  refine wn_ext (by simp [wn]) (fun q hq => ?_)
  rw [List.getElem?_set]
  by_cases hkq : k = q
  · subst hkq
    rw [if_pos rfl, if_pos (by rw [wn_len]; exact h)]
    simp [upk]
  · rw [if_neg hkq, wn_get (show q < S.2 from hq)]
    simp [upk, Ne.symm hkq]
theorem wn_push {Γ : Gm} {S : WX} {e : va_E} : wn Γ S ++ [(gB Γ + S.2, e)] = wn Γ (upk S.1 S.2 e, S.2 + 1) := by
  refine wn_ext (by simp [wn]) (fun q hq => ?_)
  by_cases hl : q < S.2
  · rw [List.getElem?_append_left (by rw [wn_len]; exact hl), wn_get hl]
    simp [upk, Nat.ne_of_lt hl]
  · have : q = S.2 := by
      have : q < S.2 + 1 := hq
      omega
    subst this
    rw [List.getElem?_append_right (by rw [wn_len]; exact Nat.le_refl _), wn_len, Nat.sub_self]
    simp [upk]
theorem wn_congr {Γ : Gm} {w w' : Nat → va_E} {n : Nat} (h : ∀ k, k < n → w k = w' k) : wn Γ (w, n) = wn Γ (w', n) := wn_ext (wn_len _ _) (fun k hk => by rw [wn_get (show k < (w, n).2 from hk)]; exact congrArg _ (congrArg _ (h k hk)))
def nkL : List (String × Nat × MethodName × String) := [("BinWard", 26, ({ cls := "BinWard$Trip", name := "<init>", desc := "()V" } : Jvm.MethodName), "BinWard"), ("BinWard", 33, ({ cls := "BinWard$Search", name := "<init>", desc := "()V" } : Jvm.MethodName), "BinWard"), ("BinWard", 40, ({ cls := "BinWard$Diary", name := "<init>", desc := "()V" } : Jvm.MethodName), "BinWard"), ("BinWard", 47, ({ cls := "BinWard$Line", name := "<init>", desc := "()V" } : Jvm.MethodName), "BinWard"), ("BinWard$Baler", 17, ({ cls := "BinWard$Bale", name := "<init>", desc := "()V" } : Jvm.MethodName), "BinWard"), ("BinWard", 61, ({ cls := "BinWard$Furnace", name := "<init>", desc := "()V" } : Jvm.MethodName), "BinWard"), ("BinWard", 68, ({ cls := "BinWard$Heap", name := "<init>", desc := "()V" } : Jvm.MethodName), "BinWard"), ("BinWard", 75, ({ cls := "BinWard$Pit", name := "<init>", desc := "()V" } : Jvm.MethodName), "BinWard"), ("BinWard", 80, ({ cls := "BinWard$Street", name := "<init>", desc := "()V" } : Jvm.MethodName), "BinWard"), ("BinWard", 81, ({ cls := "BinWard$Lorry", name := "<init>", desc := "()V" } : Jvm.MethodName), "BinWard"), ("BinWard$Lorry", 25, ({ cls := "BinWard$Trip", name := "<init>", desc := "()V" } : Jvm.MethodName), "BinWard")]

def NK (U : State) : Prop := (∀ q ∈ nkL, va_Nw (.methodLinkNest q.1 q.2.1 q.2.2.1 q.2.2.2) U) ∧ (va_AO "BinWard$Street" U ∧ va_AO "BinWard$Lorry" U ∧ va_AO "BinWard$Bale" U) ∧ va_Nw (.arrayOver (.array .int)) U ∧ NW U
theorem ao_moved {s U : State} (h : s.vm.Alike U.vm) (h0 : va_Nw (.arrayOver (.array .int)) s) : va_Nw (.arrayOver (.array .int)) U := by
  have e := Cond.arrayOver_setVmC (args := #[]) (s := s) h (.array .int)
  exact (show (Cond.arrayOver (.array .int)).before #[] U = (Cond.arrayOver (.array .int)).before #[] (s.setVm U.vm) from rfl).trans (e.trans h0)
theorem NK.warm {s U : State} (hW : s.WarmedH U.vm) (h : NK s) : NK U := ⟨fun q hq => va_Nw.warmM hW (h.1 q hq), ⟨va_AO.moved hW.alike h.2.1.1, va_AO.moved hW.alike h.2.1.2.1, va_AO.moved hW.alike h.2.1.2.2⟩, ao_moved hW.alike h.2.2.1, va_Nw.warmM hW h.2.2.2⟩
theorem NK.same {u U : State} (e : u.vm = U.vm) (h : NK u) : NK U := ⟨fun q hq => va_Nw.same rfl e (h.1 q hq), ⟨va_AO.moved (by rw [e]; exact Vm.Alike.refl _) h.2.1.1, va_AO.moved (by rw [e]; exact Vm.Alike.refl _) h.2.1.2.1, va_AO.moved (by rw [e]; exact Vm.Alike.refl _) h.2.1.2.2⟩, ao_moved (by rw [e]; exact Vm.Alike.refl _) h.2.2.1, va_Nw.same rfl e h.2.2.2⟩
def z_Bale : List Value := [nt 0, nt 0, nt 0, nt 0]
theorem z_Bale_ok : ∀ j, j < 4 → defaultValue (t_Bale j) = vp_V z_Bale j := fun j hj => match j, hj with
  | 0, _ => rfl
  | 1, _ => rfl
  | 2, _ => rfl
  | 3, _ => rfl
  | _ + 4, h => absurd h (by omega)
def z_Baler : List Value := [nt 0, nt 0, .null, nt 0]
theorem z_Baler_ok : ∀ j, j < 4 → defaultValue (t_Baler j) = vp_V z_Baler j := fun j hj => match j, hj with
  | 0, _ => rfl
  | 1, _ => rfl
  | 2, _ => rfl
  | 3, _ => rfl
  | _ + 4, h => absurd h (by omega)
def z_Diary : List Value := [.null]
theorem z_Diary_ok : ∀ j, j < 1 → defaultValue (t_Diary j) = vp_V z_Diary j := fun j hj => match j, hj with
  | 0, _ => rfl
  | _ + 1, h => absurd h (by omega)
def z_Furnace : List Value := [nt 0, nt 0, nt 0, nt 0, nt 0]
theorem z_Furnace_ok : ∀ j, j < 5 → defaultValue (t_Furnace j) = vp_V z_Furnace j := fun j hj => match j, hj with
  | 0, _ => rfl
  | 1, _ => rfl
  | 2, _ => rfl
  | 3, _ => rfl
  | 4, _ => rfl
  | _ + 5, h => absurd h (by omega)
def z_Heap : List Value := [nt 0, nt 0, nt 0, nt 0, nt 0]
theorem z_Heap_ok : ∀ j, j < 5 → defaultValue (t_Heap j) = vp_V z_Heap j := fun j hj => match j, hj with
  | 0, _ => rfl
  | 1, _ => rfl
  | 2, _ => rfl
  | 3, _ => rfl
  | 4, _ => rfl
  | _ + 5, h => absurd h (by omega)
def z_Line : List Value := [nt 0, nt 0, nt 0]
theorem z_Line_ok : ∀ j, j < 3 → defaultValue (t_Line j) = vp_V z_Line j := fun j hj => match j, hj with
  | 0, _ => rfl
  | 1, _ => rfl
  | 2, _ => rfl
  | _ + 3, h => absurd h (by omega)
def z_Lorry : List Value := [nt 0, .null, .null, .null, .null, nt 0, nt 0, nt 0, nt 0]
theorem z_Lorry_ok : ∀ j, j < 9 → defaultValue (t_Lorry j) = vp_V z_Lorry j := fun j hj => match j, hj with
  | 0, _ => rfl
  | 1, _ => rfl
  | 2, _ => rfl
  | 3, _ => rfl
  | 4, _ => rfl
  | 5, _ => rfl
  | 6, _ => rfl
  | 7, _ => rfl
  | 8, _ => rfl
  | _ + 9, h => absurd h (by omega)
def z_Pit : List Value := [nt 0, nt 0, nt 0, nt 0]
theorem z_Pit_ok : ∀ j, j < 4 → defaultValue (t_Pit j) = vp_V z_Pit j := fun j hj => match j, hj with
  | 0, _ => rfl
  | 1, _ => rfl
  | 2, _ => rfl
  | 3, _ => rfl
  | _ + 4, h => absurd h (by omega)
def z_Search : List Value := [nt 0, nt 0, nt 0]
theorem z_Search_ok : ∀ j, j < 3 → defaultValue (t_Search j) = vp_V z_Search j := fun j hj => match j, hj with
  | 0, _ => rfl
  | 1, _ => rfl
  | 2, _ => rfl
  | _ + 3, h => absurd h (by omega)
def z_Street : List Value := [nt 0, nt 0, nt 0, .null, .null, .null, .null, nt 0, nt 0]
theorem z_Street_ok : ∀ j, j < 9 → defaultValue (t_Street j) = vp_V z_Street j := fun j hj => match j, hj with
  | 0, _ => rfl
  | 1, _ => rfl
  | 2, _ => rfl
  | 3, _ => rfl
  | 4, _ => rfl
  | 5, _ => rfl
  | 6, _ => rfl
  | 7, _ => rfl
  | 8, _ => rfl
  | _ + 9, h => absurd h (by omega)
def z_Trip : List Value := [.null, .null, nt 0, nt 0, nt 0, nt 0]
theorem z_Trip_ok : ∀ j, j < 6 → defaultValue (t_Trip j) = vp_V z_Trip j := fun j hj => match j, hj with
  | 0, _ => rfl
  | 1, _ => rfl
  | 2, _ => rfl
  | 3, _ => rfl
  | 4, _ => rfl
  | 5, _ => rfl
  | _ + 6, h => absurd h (by omega)
def z_Ward : List Value := [.null, .null, nt 0, .null, nt 0, .null, .null, .null, .null, .null, .null, .null, .null, nt 0, nt 0]
theorem z_Ward_ok : ∀ j, j < 15 → defaultValue (t_Ward j) = vp_V z_Ward j := fun j hj => match j, hj with
  | 0, _ => rfl
  | 1, _ => rfl
  | 2, _ => rfl
  | 3, _ => rfl
  | 4, _ => rfl
  | 5, _ => rfl
  | 6, _ => rfl
  | 7, _ => rfl
  | 8, _ => rfl
  | 9, _ => rfl
  | 10, _ => rfl
  | 11, _ => rfl
  | 12, _ => rfl
  | 13, _ => rfl
  | 14, _ => rfl
  | _ + 15, h => absurd h (by omega)

def WK (Γ : Gm) (S : WX) (U : State) : Prop := va_K (gD Γ) classes (tys Γ) U ∧ va_P (gD Γ) classes (wn Γ S) U.heap ∧ U.heap.size = gB Γ + S.2 ∧ (va_X (gX Γ).1 (gX Γ).2.1 (gX Γ).2.2 U U.heap ∧ (gX Γ).1 < gB Γ) ∧ NK U
def IsK (Γ : Gm) (R : Room) (cc : ByteArray) (nL : Nat) (own : String) (ret : Option FieldType) (post : WX → Prop) (mc ms : Nat) (G : Nat × Nat → Nat → List (Nat × Value) → List Value → WX → Prop) : Prop :=
  ∃ (p : Program) (e : Env) (s : State) (m : MethodId) (args : Array Value) (below : List Frame) (meth : Method) (c : Code) (Q : State → Prop),
    p.tables.exec = Jvm.exec ∧ c.code = cc ∧ c.maxLocals = nL ∧ s.vm.findClass own = some m.cls ∧ (∀ w ∈ tg, w.before args s = true) ∧ va_K (gD Γ) classes (tys Γ) s ∧ gB Γ ≤ s.heap.size ∧
    (((va_X (gX Γ).1 (gX Γ).2.1 (gX Γ).2.2 s s.heap ∧ (gX Γ).1 < gB Γ) ∧ NK s) ∧ (own ≠ "BinWardLaw" → meth.name = "<init>")) ∧
    (∀ (k n pc : Nat) (S : WX) (H : Heap) (locs : List Loc) (la : Array Slot), va_P (gD Γ) classes (wn Γ S) H → H.size = gB Γ + S.2 → va_S (gF Γ) s.heap H locs → k ≤ mc → n ≤ ms → decode cc pc = .ok (.return_, 1) → ret = none → post S →
      W p (gL Γ) e R s m args below meth c H locs k n Q (F0 m pc la [])) ∧
    G = fun cs pc ls st S => ∀ (H : Heap) (locs : List Loc) (la : Array Slot), va_P (gD Γ) classes (wn Γ S) H → H.size = gB Γ + S.2 → va_S (gF Γ) s.heap H locs → lv_has la nL ls → W p (gL Γ) e R s m args below meth c H locs cs.1 cs.2 Q (F0 m pc la st)
section KW
variable {Γ : Gm} {R : Room} {cc : ByteArray} {nL : Nat} {own : String} {ret : Option FieldType} {post : WX → Prop} {mc ms : Nat} {G : Nat × Nat → Nat → List (Nat × Value) → List Value → WX → Prop} {cs : Nat × Nat} {pc n : Nat} {ls : List (Nat × Value)} {st : List Value} {S : WX}
theorem k_iconst (hG : IsK Γ R cc nL own ret post mc ms G) {k : Int} (hd : Dc cc pc (.iconst k) 1 n) (K : G cs n ls (nt k :: st) S) : G cs pc ls (st) S := by
  obtain ⟨p, e, s, m, args, below, meth, c, Q, hx, hb, hml, hown, hts, hK, hB, hX, hr, rfl⟩ := hG
  obtain ⟨hd, rfl⟩ := hd
  intro H locs la hP hD hS hl
  have K := K H locs la hP hD hS hl
  exact lv_iconst (v := iI k) hx hb hd rfl K
theorem k_bipush (hG : IsK Γ R cc nL own ret post mc ms G) {k : Int} (hv : (Int8.ofInt k).toInt32 = iI k := by decide) (hd : Dc cc pc (.bipush k) 2 n) (K : G cs n ls (nt k :: st) S) : G cs pc ls (st) S := by
  obtain ⟨p, e, s, m, args, below, meth, c, Q, hx, hb, hml, hown, hts, hK, hB, hX, hr, rfl⟩ := hG
  obtain ⟨hd, rfl⟩ := hd
  intro H locs la hP hD hS hl
  have K := K H locs la hP hD hS hl
  exact lv_bipush hx hb hd hv K
theorem k_aload_n (hG : IsK Γ R cc nL own ret post mc ms G) {k : Fin 4} {v : Value} (hl0 : lk ls k.val = some v) (hv : ∃ x, v = .ref x := by exact ⟨_, rfl⟩) (hd : Dc cc pc (.aload_n k) 1 n) (K : G cs n ls (v :: st) S) : G cs pc ls (st) S := by
  obtain ⟨p, e, s, m, args, below, meth, c, Q, hx, hb, hml, hown, hts, hK, hB, hX, hr, rfl⟩ := hG
  obtain ⟨hd, rfl⟩ := hd
  intro H locs la hP hD hS hl
  have K := K H locs la hP hD hS hl
  obtain ⟨x, rfl⟩ := hv
  exact lv_aload_n hx hb hd rfl (hl.2.2 _ (lk_mem hl0)) K
theorem k_iload_n (hG : IsK Γ R cc nL own ret post mc ms G) {k : Fin 4} {v : Value} (hl0 : lk ls k.val = some v) (hv : ∃ x, v = .int x := by exact ⟨_, rfl⟩) (hd : Dc cc pc (.iload_n k) 1 n) (K : G cs n ls (v :: st) S) : G cs pc ls (st) S := by
  obtain ⟨p, e, s, m, args, below, meth, c, Q, hx, hb, hml, hown, hts, hK, hB, hX, hr, rfl⟩ := hG
  obtain ⟨hd, rfl⟩ := hd
  intro H locs la hP hD hS hl
  have K := K H locs la hP hD hS hl
  obtain ⟨x, rfl⟩ := hv
  exact lv_iload_n hx hb hd rfl (hl.2.2 _ (lk_mem hl0)) K
theorem k_dup (hG : IsK Γ R cc nL own ret post mc ms G) {v : Value} (hv : v.category = 1 := by rfl) (hd : Dc cc pc .dup 1 n) (K : G cs n ls (v :: v :: st) S) : G cs pc ls (v :: st) S := by
  obtain ⟨p, e, s, m, args, below, meth, c, Q, hx, hb, hml, hown, hts, hK, hB, hX, hr, rfl⟩ := hG
  obtain ⟨hd, rfl⟩ := hd
  intro H locs la hP hD hS hl
  have K := K H locs la hP hD hS hl
  exact lv_dup hx hb hd hv K
theorem k_istore_n (hG : IsK Γ R cc nL own ret post mc ms G) {k : Fin 4} {v : Value} (hv : ∃ x, v = .int x := by exact ⟨_, rfl⟩) (hd : Dc cc pc (.istore_n k) 1 n) (hi : k.val < nL := by decide) (K : fK (kp1 k.val) ls (fun l => G cs n ((k.val, v) :: l) st S)) : G cs pc ls (v :: st) S := by
  obtain ⟨p, e, s, m, args, below, meth, c, Q, hx, hb, hml, hown, hts, hK, hB, hX, hr, rfl⟩ := hG
  obtain ⟨hd, rfl⟩ := hd
  intro H locs la hP hD hS hl
  obtain ⟨x, rfl⟩ := hv
  refine lv_istore_n hx hb hd rfl hl hi rfl (fun la' hl' => ?_)
  exact fK_out K H locs la' hP hD hS (lv_mono hl' (kp1_sub _))
theorem k_iinc (hG : IsK Γ R cc nL own ret post mc ms G) {k : Nat} {z a : Int} (hd : Dc cc pc (.iinc k z) 3 n) (hl0 : lk ls k = some (nt a)) (hi : k < nL := by decide) (K : fK (kp1 k) ls (fun l => G cs n ((k, nt (a + z)) :: l) st S)) : G cs pc ls st S := by
  obtain ⟨p, e, s, m, args, below, meth, c, Q, hx, hb, hml, hown, hts, hK, hB, hX, hr, rfl⟩ := hG
  obtain ⟨hd, rfl⟩ := hd
  intro H locs la hP hD hS hl
  obtain ⟨q, hq⟩ := List.getElem?_of_mem (lk_mem hl0)
  refine lv_iinc (v := iI (a + z)) hx hb hd hl hq (by rw [iI_add]; rfl) hi rfl (fun la' hl' => ?_)
  exact fK_out K H locs la' hP hD hS (lv_mono hl' (kp1_sub _))
theorem k_icmp_ge (hG : IsK Γ R cc nL own ret post mc ms G) {a b : Int} {tgt : Nat} (hd : Dj cc pc (.if_icmp .ge) tgt n) (hr0 : (-2147483648 ≤ a ∧ a < 2147483648) ∧ (-2147483648 ≤ b ∧ b < 2147483648) := by omega) (kt : b ≤ a → G cs tgt ls st S) (kf : a < b → G cs n ls st S) : G cs pc ls (nt b :: nt a :: st) S := by
  obtain ⟨p, e, s, m, args, below, meth, c, Q, hx, hb, hml, hown, hts, hK, hB, hX, hr, rfl⟩ := hG
  obtain ⟨off, hd, ht, rfl⟩ := hd
  intro H locs la hP hD hS hl
  refine lv_icmp_ge hx hb hd ht (fun h => ?_) (fun h => ?_)
  · exact kt (by have h := h; simp only [iI_eq hr0.1 hr0.2, iI_le hr0.1 hr0.2, iI_lt hr0.1 hr0.2, iI_le hr0.2 hr0.1, iI_lt hr0.2 hr0.1] at h; omega) H locs la hP hD hS hl
  · exact kf (by have h := h; simp only [iI_eq hr0.1 hr0.2, iI_le hr0.1 hr0.2, iI_lt hr0.1 hr0.2, iI_le hr0.2 hr0.1, iI_lt hr0.2 hr0.1] at h; omega) H locs la hP hD hS hl
theorem k_goto (hG : IsK Γ R cc nL own ret post mc ms G) {tgt : Nat} (hd : Dj cc pc .goto tgt n) (K : G cs tgt ls st S) : G cs pc ls st S := by
  obtain ⟨p, e, s, m, args, below, meth, c, Q, hx, hb, hml, hown, hts, hK, hB, hX, hr, rfl⟩ := hG
  obtain ⟨off, hd, ht, rfl⟩ := hd
  intro H locs la hP hD hS hl
  exact lv_goto hx hb hd ht (K H locs la hP hD hS hl)
theorem k_sub (hG : IsK Γ R cc nL own ret post mc ms G) {l : List (Nat × Value)} (h : subL ls l) (K : G cs pc l st S) : G cs pc ls st S := by
  obtain ⟨p, e, s, m, args, below, meth, c, Q, hx, hb, hml, hown, hts, hK, hB, hX, hr, rfl⟩ := hG
  intro H locs la hP hD hS hl
  exact K H locs la hP hD hS (lv_mono hl (subL_mem h))

theorem k_wide (hG : IsK Γ R cc nL own ret post mc ms G) {k w : Nat} (h : cs.1 ≤ k ∧ cs.2 ≤ w) (K : G (k, w) pc ls st S) : G cs pc ls st S := by
  obtain ⟨p, e, s, m, args, below, meth, c, Q, hx, hb, hml, hown, hts, hK, hB, hX, hr, rfl⟩ := hG
  intro H locs la hP hD hS hl
  exact W.widen h.1 h.2 (K H locs la hP hD hS hl)
/-- the same cells by another word -/
theorem k_same (hG : IsK Γ R cc nL own ret post mc ms G) {S' : WX} (h : wn Γ S = wn Γ S') (K : G cs pc ls st S') : G cs pc ls st S := by
  obtain ⟨p, e, s, m, args, below, meth, c, Q, hx, hb, hml, hown, hts, hK, hB, hX, hr, rfl⟩ := hG
  intro H locs la hP hD hS hl
  have h2 : S.2 = S'.2 := by rw [← wn_len Γ S, h, wn_len]
  exact K H locs la (by rw [← h]; exact hP) (by rw [← h2]; exact hD) hS hl
theorem k_vret (hG : IsK Γ R cc nL own none post mc ms G) (hd : Dc cc pc .return_ 1 n) (hm : cs.1 ≤ mc ∧ cs.2 ≤ ms) (hp : post S) : G cs pc ls [] S := by
  obtain ⟨p, e, s, m, args, below, meth, c, Q, hx, hb, hml, hown, hts, hK, hB, hX, hr, rfl⟩ := hG
  obtain ⟨hd, rfl⟩ := hd
  intro H locs la hP hD hS hl
  exact hr _ _ _ S H locs la hP hD hS hm.1 hm.2 hd rfl hp
theorem k_obj (hG : IsK Γ R cc nL own ret post mc ms G) {idx a : Nat} (hlk : Cond.methodLink own idx Lib.objectInit ∈ tg) (hd : Dc cc pc (.invokespecial idx) 3 n) (hR : 1 ≤ R.frames ∧ (st.map fun v => v.category).sum + 12 ≤ R.locals) (K : G cs n ls st S) : G cs pc ls (.ref a :: st) S := by
  obtain ⟨p, e, s, m, args, below, meth, c, Q, hx, hb, hml, hown, hts, hK, hB, hX, hr, rfl⟩ := hG
  obtain ⟨hd, rfl⟩ := hd
  intro H locs la hP hD hS hl
  refine W.objInit hx hb hown (hts _ hlk) (hts (.instanceMethod Lib.objectInit) (m_T1 (i := 29) (by decide +kernel) (by decide +kernel))) (hts (.code Lib.objectInit ⟨#[0xb1]⟩ 1 none) (m_T1 (i := 30) (by decide +kernel) (by decide +kernel))) rfl (by rw [hml]; exact hl.1) rfl hd hR.1 (by show 2 * 0 + _ + 12 ≤ _; omega) ?_
  exact K H locs la hP hD hS hl
theorem k_grow {D : va_G} {Γ : Gm} {S : WX} {H H1 : Heap} {e : va_E} (hP : va_P D classes (wn Γ S) H) (hD : H.size = gB Γ + S.2) (o1 : ∀ q, q < gB Γ + S.2 → H1[q]? = H[q]?) (h : va_at D classes (gB Γ + S.2, e) H1) : va_P D classes (wn Γ (upk S.1 S.2 e, S.2 + 1)) H1 := by
  rw [← wn_push]
  refine (hP.kept (fun k x hx => ?_)).app (fun k x hx => ?_)
  · obtain ⟨hk, rfl⟩ := wn_out hx
    exact o1 _ (by show gB Γ + k < _; omega)
  · have hz : k < 1 := (List.getElem?_eq_some_iff.mp hx).1
    rw [show k = 0 by omega] at hx
    cases hx
    exact h
theorem k_S {A : Nat → Prop} {H0 H H1 : Heap} {locs : List Loc} {k : Nat} (hS : va_S A H0 H locs) (hD : H.size = k) (z1 : k ≤ H1.size) (o1 : ∀ q, q < k → H1[q]? = H[q]?) : va_S A H0 H1 locs :=
  ⟨Nat.le_trans hS.1 (by omega), fun x h1 h2 => (o1 x (by have := hS.1; omega)).trans (hS.2.1 x h1 h2), hS.2.2⟩
theorem k_new (hG : IsK Γ R cc nL own ret post mc ms G) {idx ci N : Nat} {C : String} {T : u_T} {fs : List Value} (hcl : Cond.classLink own idx C ∈ tg) (hinst : Cond.instantiable C N ∈ tg) (hini : Cond.initialized C ∈ tg) (hc : classes[ci]? = some (C, T, N)) (hin : ∀ w ∈ u_ws C T N, w ∈ tg) (t' : Nat → FieldType) (hty : ∀ k, k < N → parseFieldDescriptor (T k).2.2.1 = some (t' k)) (hfs : ∀ j, j < N → defaultValue (t' j) = vp_V fs j)
    (hd : Dc cc pc (.new idx) 3 n) (hf : cs.1 + 1 ≤ R.cells ∧ cs.2 + N ≤ R.slots) (K : G (cs.1 + 1, cs.2 + N) n ls (.ref (gB Γ + S.2) :: st) (upk S.1 S.2 (.inr (ci, fs)), S.2 + 1)) : G cs pc ls st S := by
  obtain ⟨p, e, s, m, args, below, meth, c, Q, hx, hb, hml, hown, hts, hK, hB, hX, hr, rfl⟩ := hG
  obtain ⟨hd, rfl⟩ := hd
  intro H locs la hP hD hS hl
  have hKn := hK.1 ci _ hc
  refine W.newcK hx hb hown (hts _ hcl) (hts _ hinst) (hts _ hini) rfl hd hf.1 hf.2 hKn.2.1 hD fun H1 kC hkC e1 z1 o1 => ?_
  exact K H1 locs la (k_grow hP hD o1 ⟨_, hc, (u_born t' hts hin hKn hkC e1 hty).to hfs⟩) (by show H1.size = gB Γ + (S.2 + 1); omega) (k_S hS hD (by omega) o1) hl
theorem k_newa (hG : IsK Γ R cc nL own ret post mc ms G) {z : Int} (N : Nat) (hz : z = (N : Int)) (hN : N < 1000) (hd : Dc cc pc (.newarray .int) 2 n) (hf : cs.1 + 1 ≤ R.cells ∧ cs.2 + N ≤ R.slots) (K : G (cs.1 + 1, cs.2 + N) n ls (.ref (gB Γ + S.2) :: st) (upk S.1 S.2 (.inl (gC Γ 0, N, .inl (fun _ => iI 0))), S.2 + 1)) : G cs pc ls (nt z :: st) S := by
  obtain ⟨p, e, s, m, args, below, meth, c, Q, hx, hb, hml, hown, hts, hK, hB, hX, hr, rfl⟩ := hG
  obtain ⟨hd, rfl⟩ := hd
  subst hz
  intro H locs la hP hD hS hl
  have e1 : iI (N : Int) = nI N := by rw [iI_nI (by omega), Int.toNat_natCast]
  refine va_newaK (atype := .int) hx hb (hts _ (m_T1 (i := 68) (by decide +kernel) (by decide +kernel))) rfl hd rfl (by rw [e1]; exact nI_pos (by omega)) (by rw [e1]; exact nI_clamp (by omega)) (by show N * 4 ≤ _; omega) hf.1 hf.2 hD fun H1 cA e1 z1 o1 hAr hNm => ?_
  have hcA : cA = gC Γ 0 := Option.some.inj (hNm.symm.trans (hK.2 0 _ rfl).2)
  subst hcA
  exact K H1 locs la (k_grow hP hD o1 e1) (by show H1.size = gB Γ + (S.2 + 1); omega) (k_S hS hD (by omega) o1) hl
theorem k_anew (hG : IsK Γ R cc nL own ret post mc ms G) {z : Int} {idx : Nat} {C : String} (t N : Nat) (ht : (tys Γ)[t]? = some (gC Γ t, .object C)) (hao : ∀ U, NK U → va_AO C U) (hcl : Cond.classLink own idx C ∈ tg) (hz : z = (N : Int)) (hN : N < 1000) (hd : Dc cc pc (.anewarray idx) 3 n) (hf : cs.1 + 1 ≤ R.cells ∧ cs.2 + N ≤ R.slots) (K : G (cs.1 + 1, cs.2 + N) n ls (.ref (gB Γ + S.2) :: st) (upk S.1 S.2 (.inl (gC Γ t, N, .inr (.inr (.inr (.inr (fun _ => none)))))), S.2 + 1)) : G cs pc ls (nt z :: st) S := by
  obtain ⟨p, e, s, m, args, below, meth, c, Q, hx, hb, hml, hown, hts, hK, hB, hX, hr, rfl⟩ := hG
  obtain ⟨hd, rfl⟩ := hd
  subst hz
  intro H locs la hP hD hS hl
  have e1 : iI (N : Int) = nI N := by rw [iI_nI (by omega), Int.toNat_natCast]
  have e2 : (iI (N : Int)).toNatClampNeg = N := by rw [e1]; exact nI_clamp (by omega)
  refine W.anew hx hb hown (hts _ hcl) (va_AO.use (hao s hX.1.2)) rfl hd rfl (by rw [e1]; exact nI_pos (by omega)) (by rw [e2]; omega) hf.1 (by rw [e2]; exact hf.2) fun cA kA comp f1 f2 f3 f4 => ?_
  rw [e2]
  have hcA : cA = gC Γ t := by
    obtain ⟨k1, c1, -, -, -, g⟩ := (hK.2 t _ ht).2
    exact Option.some.inj (f1.symm.trans g)
  subst hcA
  generalize hH1 : H.push ({ cls := gC Γ t, slots := Array.replicate N .null, vm := .none } : Cell) = H1
  have z1 : H1.size = H.size + 1 := by rw [← hH1, Array.size_push]
  have e3 : H1[gB Γ + S.2]? = some (arrV (gC Γ t) N (fun _ => .null)) := by rw [← hD, ← hH1, Array.getElem?_push_size, ← arrV_new]
  have o1 : ∀ q : Nat, q < gB Γ + S.2 → H1[q]? = H[q]? := fun q hq => by rw [← hH1, Array.getElem?_push, if_neg (by omega)]
  rw [hD]
  exact K H1 locs la (k_grow hP hD o1 e3) (by show H1.size = gB Γ + (S.2 + 1); omega) (k_S hS hD (by omega) o1) hl
theorem k_put (hG : IsK Γ R cc nL own ret post mc ms G) {idx k j ci N a : Nat} {C : String} {T : u_T} {t : Nat → FieldType} {fs : List Value} {v : Value} {ty : FieldType} (hd : Dc cc pc (.putfield idx) 3 n) (he : S.1 k = .inr (ci, fs)) (hc : classes[ci]? = some (C, T, N)) (hin : ∀ w ∈ u_ws C T N, w ∈ tg) (hty : ∀ k, k < N → parseFieldDescriptor (T k).2.2.1 = some (t k)) (hnm : ∀ a, a < N → ∀ b, b < N → a ≠ b → (T a).2.1 ≠ (T b).2.1)
    (hj : j < N) (hT : (T j).1 = C) (hlk : Cond.fieldLink own idx C (T j).2.1 (T j).2.2.1 ∈ tg) (hfin : (T j).2.2.2 = false ∨ ((T j).2.2.2 = true ∧ C = own ∧ own ≠ "BinWardLaw")) (hdesc : parseFieldDescriptor (T j).2.2.1 = some ty) (hnr : narrow ty v = v) (hfit : fits ty v = true) (hl0 : j < fs.length) (hk : k < S.2) (ha : a = gB Γ + k)
    (K : G cs n ls st (upk S.1 k (.inr (ci, fs.set j v)), S.2)) : G cs pc ls (v :: .ref a :: st) S := by
  obtain ⟨p, e, s, m, args, below, meth, c, Q, hx, hb, hml, hown, hts, hK, hB, hX, hr, rfl⟩ := hG
  obtain ⟨hd, rfl⟩ := hd
  subst ha
  intro H locs la hP hD hS hl
  have hq := hP k _ (wn_get (S := S) hk)
  rw [he] at hq
  obtain ⟨r, h1, cell, q1, q2, q3, q4⟩ := hq
  have hr' : r = (C, T, N) := Option.some.inj (h1.symm.trans hc)
  subst hr'
  have hap := va_apart (own := own) hts hin t hty hnm hK hc
  obtain ⟨hSl, hfc, kC, hkC, hkind⟩ := hK.1 ci _ hc
  obtain ⟨cf, kf, fi, f, hi, hsl⟩ := hSl j hj
  have hlay := hts _ (hin _ (u_in_lay hj))
  have hst := (u_facts hfc hkC (u_lays hts hin hj) hi).1
  have hi2 : s.fieldFound? C (T j).2.1 (T j).2.2.1 = some (cf, kf, fi, f) := by rw [← hT]; exact hi
  have out : ∀ H' : Heap, H'[gB Γ + k]? = some (cell.setSlot f.slot v) → H'.size = H.size → (∀ q, q ≠ gB Γ + k → H'[q]? = H[q]?) → W p (gL Γ) e R s m args below meth c H' (locs ++ [⟨gB Γ + k, f.slot⟩]) cs.1 cs.2 Q (F0 m (pc + 3) la st) := by
    intro H' e1 e2 e3
    rw [hsl] at e1 ⊢
    have hP1 := hP.set (wn_D Γ S) (by rw [wn_get hk, he]) (e := .inr (ci, fs.set j v)) ⟨_, hc, t_OB.to (V := updV (vp_V fs) j v) ⟨_, e1, q2, q3, t_set q4 hap hj v⟩ (fun i _ => vp_updV_set hl0 v i)⟩ e3
    rw [wn_set hk] at hP1
    exact K H' _ la hP1 (by show H'.size = gB Γ + S.2; omega) (hS.put e2 e3 (Nat.le_add_right _ _)) hl
  unfold u_lay at hlay
  rcases hfin with hfin | ⟨hfin, hCo, hno⟩
  · rw [if_neg (by rw [hfin]; decide)] at hlay
    exact W.putK hx hb (f := f) ⟨hown, hts _ hlk, ⟨_, _, _, hi2⟩, hst⟩ (by rw [q2]; exact u_store hfc hkC hkind hlay hi hdesc hnr hfit) q1 q3 (by rw [hsl]; exact k2_hasslot (q4 j hj)) rfl rfl hd out
  · rw [if_pos hfin] at hlay
    have hcf : m.cls = cf := by
      obtain ⟨_, _, c', _, _, _, -, -, hf', -, -, -, hown2, -⟩ := Cond.laysFinal_spec hlay
      have e1 : c' = cf := by have := hi.symm.trans hf'; simp at this; exact this.1.symm
      rw [hT, hCo] at hown2
      rw [← e1]
      exact Option.some.inj (hown.symm.trans hown2)
    exact W.putFinK hx hb hown (hts _ hlk) hi2 hst hcf (hX.2 hno) (by rw [q2]; exact u_fits hfc hkC hkind (Or.inr hlay) hi hdesc hnr hfit) q1 q3 (by rw [hsl]; exact k2_hasslot (q4 j hj)) rfl rfl hd out
theorem k_get (hG : IsK Γ R cc nL own ret post mc ms G) {idx k j ci N a : Nat} {C : String} {T : u_T} {fs : List Value} {v : Value} (hd : Dc cc pc (.getfield idx) 3 n) (he : S.1 k = .inr (ci, fs)) (hc : classes[ci]? = some (C, T, N)) (hin : ∀ w ∈ u_ws C T N, w ∈ tg) (hj : j < N) (hT : (T j).1 = C) (hlk : Cond.fieldLink own idx C (T j).2.1 (T j).2.2.1 ∈ tg) (hv : fs[j]? = some v) (hk : k < S.2) (ha : a = gB Γ + k)
    (K : G cs n ls (v :: st) S) : G cs pc ls (.ref a :: st) S := by
  obtain ⟨p, e, s, m, args, below, meth, c, Q, hx, hb, hml, hown, hts, hK, hB, hX, hr, rfl⟩ := hG
  obtain ⟨hd, rfl⟩ := hd
  subst ha
  intro H locs la hP hD hS hl
  exact va_get (D := gD Γ) (cl := classes) (ws := wn Γ S) hx hb hts hin hown hK hP k (by rw [wn_get hk, he]) hc j hj (hts _ hlk) (by rw [hT]; exact fun _ h => h) hv hd (K H locs la hP hD hS hl)
theorem k_aast (hG : IsK Γ R cc nL own ret post mc ms G) {z : Int} {a v k kv ci N : Nat} {r : vw_C} {vs : List Value} {f : Nat → Option Nat} (t j : Nat) (he : S.1 k = .inl (gC Γ t, N, .inr (.inr (.inr (.inr f))))) (ht : (tys Γ)[t]? = some (gC Γ t, .object r.1)) (hv : S.1 kv = .inr (ci, vs)) (hc : classes[ci]? = some r) (hz : z = (j : Int)) (hj : j < N) (hN : N < 1000) (hk : k < S.2 ∧ kv < S.2) (ha : a = gB Γ + k ∧ v = gB Γ + kv) (hd : Dc cc pc .aastore 1 n)
    (K : G cs n ls st (upk S.1 k (.inl (gC Γ t, N, .inr (.inr (.inr (.inr (va_up f j (some v))))))), S.2)) : G cs pc ls (.ref v :: nt z :: .ref a :: st) S := by
  obtain ⟨p, e, s, m, args, below, meth, c, Q, hx, hb, hml, hown, hts, hK, hB, hX, hr, rfl⟩ := hG
  obtain ⟨hd, rfl⟩ := hd
  obtain ⟨rfl, rfl⟩ := ha
  subst hz
  intro H locs la hP hD hS hl
  obtain ⟨h1, h2⟩ := iI_in hj (by omega)
  have hPk := hP k _ (wn_get (S := S) hk.1)
  have hPv := hP kv _ (wn_get (S := S) hk.2)
  rw [he] at hPk
  rw [hv] at hPv
  obtain ⟨r', hr', cellV, g1, g2, g3, -⟩ := hPv
  have hcls := (hK.1 ci r hc).2
  obtain ⟨kA, comp, k1, k2, k3, -⟩ := (hK.2 t _ ht).2
  have hcomp : comp = (gD Γ).1 ci := Option.some.inj (k3.symm.trans hcls.1)
  subst hcomp
  obtain ⟨kC, hkC, -⟩ := hcls.2
  refine W.aast hx hb hPk (fun q h => by cases h) (fun h => by cases h) k1 k2 rfl hkC ⟨fun q => h1 (Or.inl q), by show _ < (arrV _ _ _).slots.size; rw [arrV_size, h2]; exact hj⟩ g1 (fun q h => by rw [g3] at h; cases h) (by rw [g2]; exact hkC) (by rw [g2]; exact va_assign hcls) rfl rfl hd fun H1 e z oq => ?_
  have hP1 := hP.set (wn_D Γ S) (by rw [wn_get hk.1, he]) (e := .inl (gC Γ t, N, .inr (.inr (.inr (.inr (va_up f j (some (gB Γ + kv)))))))) ?_ oq
  · rw [wn_set hk.1] at hP1
    exact K H1 _ la hP1 (by show H1.size = gB Γ + S.2; omega) (hS.put z oq (Nat.le_add_right _ _)) hl
  · show H1[_]? = some (vp_cell _ _)
    rw [e, vp_cell_q, vp_cell_q, arrV_store, h2]
    congr 2
    funext q
    by_cases hq : q = j
    · subst hq
      simp [updV, va_up, va_rf]
    · simp [updV, va_up, hq]
end KW
