/-! WHAT IS TOLD, told again: asking leaves it -/
theorem KP.symm {S S' : St} (h : KP S S') : KP S' S := fun f i j hn => (h f i j hn).symm
theorem farK {S S' : St} (h : ∀ e, S' 10 (2 * e) = S 10 (2 * e)) (s : Nat) (a : Int) : ∀ k, farN S' 0 s a k = farN S 0 s a k
  | 0 => rfl
  | k + 1 => by simp only [farN, Nat.add_zero]; rw [farK h s a k, h]
theorem wayK {S S' : St} (h : ∀ e, S' 10 (2 * e) = S 10 (2 * e)) (a : Int) (s : Nat) : wayH S' 0 a s = wayH S 0 a s := by
  unfold wayH
  rw [farK h]
theorem nxtK {S S' : St} (h : ∀ e, S' 10 (2 * e) = S 10 (2 * e)) (a : Int) (l : Nat) : ∀ m k, nxt S' 0 a l m k = nxt S 0 a l m k
  | 0, _ => rfl
  | m + 1, k => by simp only [nxt, Nat.add_zero, nxtK h a l m (k + 1), wayK h, h]
theorem numK {S S' : St} (h : ∀ e, S' 10 (2 * e) = S 10 (2 * e)) : ∀ m l a num, numN S' 0 m l a num = numN S 0 m l a num
  | 0, _, _, _ => rfl
  | m + 1, l, a, num => by simp only [numN, Nat.add_zero]; rw [nxtK h, h, numK h m]
theorem sumKK {S S' : St} (h16 : ∀ e, S' 16 (2 * e) = S 16 (2 * e)) (h17 : ∀ e, S' 17 (2 * e) = S 17 (2 * e)) (s j : Nat) : ∀ k, sumK S' 0 s j k = sumK S 0 s j k
  | 0 => rfl
  | k + 1 => by simp only [sumK, Nat.add_zero]; rw [sumKK h16 h17 s j k, h16, h17]
theorem kilosK {S S' : St} (h : KP S S') (i s : Nat) : kilosS S' 0 i s = kilosS S 0 i s := by
  unfold kilosS
  rw [h.fld (f := 25) (by decide), sumKK (h.real (f := 16) (by decide)) (h.real (f := 17) (by decide)), sumKK (h.real (f := 16) (by decide)) (h.real (f := 17) (by decide))]
def QP (S T : St) : Prop := KP S T ∧ T 40 0 0 = S 40 0 0 ∧ T 41 0 0 = S 41 0 0 ∧ T 42 0 0 = S 42 0 0
theorem KP_stepR (S : St) (i s : Nat) : KP S (stepR S 0 i s) := fun f i' j h => by
  rw [stepR_of S 0 i s (f := f) ?_]
  unfold spf at h
  simp only [List.mem_cons, List.not_mem_nil, or_false] at h
  omega
theorem QP_step {S T : St} (h : QP S T) (i s : Nat) : QP (stepR S 0 i s) (stepR T 0 i s) := by
  refine ⟨((KP_stepR S i s).symm.trans h.1).trans (KP_stepR T i s), ?_⟩
  obtain ⟨k, a, b, c⟩ := h
  unfold stepR
  rw [wayK (k.real (f := 10) (by decide)), kilosK k, numK (k.real (f := 10) (by decide)), k.fld (f := 20) (by decide)]
  split
  · unfold cmpF
    rw [a, b, c]
    split
    · simp [sU]
    · exact ⟨a, b, c⟩
  · exact ⟨a, b, c⟩
theorem QP_run (i : Nat) : ∀ (m s : Nat) (S T : St), QP S T → QP (runN 0 i m s S) (runN 0 i m s T)
  | 0, _, _, _, h => h
  | m + 1, s, _, _, h => QP_run i m (s + 1) _ _ (QP_step h i s)
theorem QP_runF {S T : St} (h : KP S T) (i n : Nat) : QP (runF S 0 i n) (runF T 0 i n) := by
  unfold runF
  refine QP_run i _ _ _ _ ⟨?_, ?_, ?_, ?_⟩
  · have z : ∀ X : St, KP X (sU (sU (sU X 40 0 0 0) 41 0 0 1) 42 0 0 0) := fun X => ((KP.refl.put (Or.inr (Or.inr (by decide)))).put (Or.inr (Or.inr (by decide)))).put (Or.inr (Or.inr (by decide)))
    exact ((z S).symm.trans h).trans (z T)
  · simp [sU]
  · simp [sU]
  · simp [sU]
theorem stF_KP {S T : St} (h : KP S T) (k : Nat) : stF T (2 * k) = stF S (2 * k) := by
  funext w
  unfold stF
  rw [h.real (f := 10) (by decide), h.real (f := 11) (by decide), h.real (f := 12) (by decide), h.real (f := 13) (by decide), h.real (f := 14) (by decide), h.real (f := 15) (by decide), h.real (f := 16) (by decide), h.real (f := 17) (by decide), h.real (f := 18) (by decide)]
theorem fuF_KP {S T : St} (h : KP S T) (k : Nat) : fuF T (2 * k) = fuF S (2 * k) := by
  funext j
  unfold fuF
  rw [h.real (f := 15) (by decide), h.real (f := 16) (by decide), h.real (f := 17) (by decide)]
theorem loF_KP {S T : St} (h : KP S T) (i : Nat) : loF T i = loF S i := by
  funext w
  unfold loF
  rw [h.fld (f := 20) (by decide), h.fld (f := 21) (by decide), h.fld (f := 22) (by decide), h.fld (f := 23) (by decide), h.fld (f := 24) (by decide), h.fld (f := 25) (by decide)]
theorem baF_KP {S T : St} (h : KP S T) (b : Nat) : baF T b = baF S b := by
  funext w
  unfold baF
  rw [h.fld (f := 55) (by decide), h.fld (f := 56) (by decide), h.fld (f := 57) (by decide), h.fld (f := 58) (by decide)]
theorem maF_KP {S T : St} (h : KP S T) : maF T = maF S := by
  funext w
  unfold maF
  rw [h.fld (f := 0) (by decide), h.fld (f := 1) (by decide), h.fld (f := 2) (by decide), h.fld (f := 3) (by decide), h.fld (f := 50) (by decide), h.fld (f := 51) (by decide), h.fld (f := 52) (by decide), h.fld (f := 62) (by decide), h.fld (f := 63) (by decide), h.fld (f := 64) (by decide), h.fld (f := 65) (by decide), h.fld (f := 66) (by decide), h.fld (f := 67) (by decide), h.fld (f := 68) (by decide), h.fld (f := 70) (by decide), h.fld (f := 71) (by decide), h.fld (f := 72) (by decide), h.fld (f := 73) (by decide), cntIn_of (h.fld (f := 57) (by decide)), fetN_of (h.fld (f := 24) (by decide)), litN_real (h.real (f := 12) (by decide))]
theorem clean_of {S T : St} (h : T 57 = S 57) (h5 : T 55 = S 55) : ∀ k, cleanSold T k = cleanSold S k
  | 0 => rfl
  | k + 1 => by simp only [cleanSold]; rw [clean_of h h5 k, h, h5]
theorem usedF_KP {S T : St} (h : KP S T) (r : Nat) : usedF T r = usedF S r := by
  unfold usedF
  rw [h.fld (f := 52) (by decide), h.fld (f := 69) (by decide), h.fld (f := 67) (by decide), h.fld (f := 63) (by decide), cntIn_of (h.fld (f := 57) (by decide)), clean_of (h.fld (f := 57) (by decide)) (h.fld (f := 55) (by decide))]
theorem raF_KP {S T : St} (h : KP S T) : raF T = raF S := by
  funext r
  unfold raF
  rw [usedF_KP h, h.fld (f := 1) (by decide), fetN_of (h.fld (f := 24) (by decide))]
theorem dgNS_KP {S T : St} (h : KP S T) (d : Int64) : ∀ k, dgNS T d k = dgNS S d k
  | 0 => rfl
  | k + 1 => by
    simp only [dgNS]
    rw [dgNS_KP h d k]
    unfold dgS
    rw [stF_KP h, fuF_KP h]
theorem dgB_KP {S T : St} (h : KP S T) (d : Int64) : ∀ k, dgB T d k = dgB S d k
  | 0 => rfl
  | k + 1 => by
    simp only [dgB]
    rw [dgB_KP h d k, baF_KP h]
theorem ly_KP {S T : St} (h : KP S T) (ns k : Nat) : KP (lyS S ns k) (lyS T ns k) := ((KP_lyS S ns k).symm.trans h).trans (KP_lyS T ns k)
theorem lyD_KP {S T : St} (h : KP S T) (ns : Nat) (d : Int64) : ∀ k, lyD T ns d k = lyD S ns d k
  | 0 => rfl
  | k + 1 => by
    simp only [lyD]
    rw [lyD_KP h ns d k]
    unfold dgL
    have q := QP_runF (ly_KP h ns k) k ns
    rw [loF_KP (ly_KP h ns k), q.2.1, q.2.2.1]
/-- some days from here -/
theorem pass_ex (ns nl : Nat) (A : St) : ∀ n, ∃ r A', PassR ns nl n A r A'
  | 0 => ⟨0, A, rfl, rfl⟩
  | n + 1 => by
    obtain ⟨r, A', h⟩ := pass_ex ns nl A n
    exact ⟨_, _, A', r, h, 0, rfl, rfl⟩
theorem sp_AG {S T : St} {ns nl dn n : Nat} (W : WF S ns nl dn) (hr : okR S ns) (kp : KP S T) (hn : dn + n ≤ 400) {r : Int} {A' : St} (hp : PassR ns nl n S r A') : AG A' 0 (spN T ns nl dn n) 1 ns := by
  refine AG_pass W hr (AG_start W.1.2 (fun f hf e => ?_)) ?_ n r A' hn hp
  · simp only [List.mem_cons, List.not_mem_nil, or_false] at hf
    exact (kp.real (f := f) (by simp only [List.mem_cons, List.not_mem_nil, or_false]; omega) e).symm
  · have kc := kp.trans (KP_cpN T ns)
    unfold AL
    rw [kc.fld (f := 20) (by decide), kc.fld (f := 25) (by decide), kc.fld (f := 26) (by decide), kc.fld (f := 27) (by decide)]
    exact ⟨rfl, rfl, rfl, rfl⟩
theorem sp_same {S T U : St} {ns nl dn n : Nat} (W : WF S ns nl dn) (hr : okR S ns) (k1 : KP S T) (k2 : KP S U) (hn : dn + n ≤ 400) : litN (spN T ns nl dn n) 1 ns = litN (spN U ns nl dn n) 1 ns := by
  obtain ⟨r, A', hp⟩ := pass_ex ns nl S n
  exact (AG_litN (sp_AG W hr k1 hn hp) ns (Nat.le_refl _)).symm.trans (AG_litN (sp_AG W hr k2 hn hp) ns (Nat.le_refl _))
theorem dig_same {S T : St} {ns nl nb dn : Nat} (W : WF S ns nl dn) (hr : okR S ns) (kp : KP S T) (hn : dn + 3 ≤ 400) : digF T ns nl nb dn = digF S ns nl nb dn := by
  unfold digF digD
  have kl := ly_KP kp ns nl
  rw [sp_same (T := lyS T ns nl) (U := lyS S ns nl) W hr (kp.trans (KP_lyS T ns nl)) (KP_lyS S ns nl) hn, dgB_KP kl, lyD_KP kp, dgNS_KP kp, raF_KP kp, maF_KP kp]
/-- litter only grows -/
theorem day12 {S : St} {ns nl dn : Nat} (h : WF S ns nl dn) (hdn : dn < 400) (q : Nat) (e : Nat) (he : e < 6) : S 12 (2 * e) 0 ≤ dayF q S ns nl 12 (2 * e) 0 := by
  obtain ⟨m1, m2, m3, m4, m5, m6, m7, m8, m9, m10, m11, m12, m13, m14, m15, m16, m17, m18, m19, m20, m21, m22⟩ := day_mid h hdn q
  have := m22 e he
  unfold dayF
  rw [gasF_of _ (by decide), ripF_of _ (by decide), srtF_of _ _ (by decide)]
  exact this
theorem pass12 {ns nl dn : Nat} {A : St} (h : WF A ns nl dn) : ∀ (n : Nat) (r : Int) (A' : St), dn + n ≤ 400 → PassR ns nl n A r A' → ∀ e, e < 6 → A 12 (2 * e) 0 ≤ A' 12 (2 * e) 0
  | 0, r, A', _, hp, e, he => by obtain ⟨-, rfl⟩ := hp; exact Int.le_refl _
  | n + 1, r, A', hn, hp, e, he => by
    obtain ⟨S1, r1, hp, q, rfl, rfl⟩ := hp
    have a := pass_all h n r1 S1 (by omega) hp
    exact Int.le_trans (pass12 h n r1 S1 (by omega) hp e he) (day12 a.1 (by omega) q e he)
theorem litN_le {S T : St} (h : ∀ e, e < 6 → S 12 (2 * e) 0 ≤ T 12 (2 * e) 0) : ∀ k, k ≤ 6 → litN S 0 k ≤ litN T 0 k
  | 0, _ => Int.le_refl _
  | k + 1, hk => by
    have a := litN_le h k (by omega)
    have b := h k (by omega)
    simp only [litN, Nat.add_zero]
    omega
theorem lie_grows {S T : St} {ns nl dn n : Nat} (W : WF S ns nl dn) (hr : okR S ns) (kp : KP S T) (hn : dn + n ≤ 400) : litN S 0 ns ≤ litN (spN T ns nl dn n) 1 ns := by
  obtain ⟨r, A', hp⟩ := pass_ex ns nl S n
  rw [← AG_litN (sp_AG W hr kp hn hp) ns (Nat.le_refl _)]
  exact litN_le (fun e he => pass12 W n r A' hn hp e he) ns W.1.2
