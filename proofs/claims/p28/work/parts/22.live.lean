/-! A DAY AS A WHOLE, and days in a row -/
def zr (S : St) (n : Nat) : Prop := (∀ e, e < 6 → S 17 (2 * e) 0 = 0) ∧ ∀ k, n ≤ k → k < 6 → (∀ j, j < 3 → S 16 (2 * k) j = 0 ∧ S 17 (2 * k) j = 0) ∧ S 12 (2 * k) 0 = 0
def WF (S : St) (ns nl dn : Nat) : Prop := (S 0 0 0 = (ns : Int) ∧ ns ≤ 6) ∧ (S 1 0 0 = (nl : Int) ∧ nl ≤ 3) ∧ (S 2 0 0 = (dn : Int) ∧ dn ≤ 400) ∧ (∀ t, t < 12 → okT S t) ∧ (∀ i, i < 3 → okL S i) ∧ okM S ∧ HI S ∧ okS S ∧ zr S ns ∧ ∀ e, e < 6 → 0 ≤ S 12 (2 * e) 0
/-- what a lorry's round makes -/
theorem dvK_all {S : St} {i d n : Nat} (hi : i < 3) (hd : d < 7) (hT : ∀ t, t < 12 → okT S t) (hL : okL S i) (hn : S 26 i d = (n : Int)) (hn6 : n ≤ 6) :
    (∀ t, t < 12 → okT (dvK S i d) t) ∧ (okC (dvK S i d) i 0 ∧ okC (dvK S i d) i 1) ∧ bM (dvK S i d) 0 6 + dvK S i d 33 i 0 = bM S 0 6 ∧ chS (dvK S i d) i = dvK S i d 33 i 0 ∧ (0 ≤ dvK S i d 33 i 0 ∧ dvK S i d 33 i 0 ≤ 300) ∧
    (∀ c', c' ≠ i → ∀ k, dvK S i d 34 c' k = S 34 c' k ∧ dvK S i d 35 c' k = S 35 c' k ∧ dvK S i d 33 c' k = S 33 c' k) ∧ (∀ t j, t < 12 → j < 3 → 0 ≤ dvK S i d 16 t j ∧ dvK S i d 16 t j ≤ S 16 t j ∧ 0 ≤ dvK S i d 17 t j ∧ dvK S i d 17 t j ≤ S 17 t j) ∧
    (∀ q, dvK S i d 24 q 0 = if q = i then S 24 i 0 + dvK S i d 33 i 0 else S 24 q 0) := by
  obtain ⟨a1, a2, a3, x, a4, a5⟩ := driveS_all (w := 0) (c := i) (by decide) hd hT hL hn hn6
  have e : ∀ {f : Nat}, (f ≠ 24 ∧ f ≠ 21 ∧ f ≠ 22 ∧ f ≠ 23) → (f ≠ 80 ∧ f ≠ 14) → dvK S i d f = driveS S 0 i i d f := fun h h' => dvK_drive S i d h h'
  have hb : ∀ {f : Nat}, f ≠ 34 ∧ f ≠ 35 ∧ f ≠ 31 ∧ f ≠ 32 ∧ f ≠ 33 → beginS S i f = S f := fun h => beginS_of S i h
  obtain ⟨b1, b2, b3, b4, b5⟩ := a1
  have z33 : beginS S i 33 i 0 = 0 := by simp [beginS, sU]
  have zch : chS (beginS S i) i = 0 := by simp [chS, beginS, sU]
  have hM : bM (beginS S i) 0 6 = bM S 0 6 := bM_of (hb (by decide)) (hb (by decide)) 0 6
  have e33 := e (f := 33) (by decide) (by decide)
  have hch : chS (dvK S i d) i = chS (driveS S 0 i i d) i := by
    unfold chS
    rw [e (by decide) (by decide), e (by decide) (by decide)]
  have hbm : bM (dvK S i d) 0 6 = bM (driveS S 0 i i d) 0 6 := bM_of (e (by decide) (by decide)) (e (by decide) (by decide)) 0 6
  have c0 := a3.1
  have c1 := a3.2
  unfold okC at c0 c1
  have hchv : chS (driveS S 0 i i d) i = driveS S 0 i i d 34 i 0 + driveS S 0 i i d 35 i 0 + (driveS S 0 i i d 34 i 1 + driveS S 0 i i d 35 i 1) := rfl
  refine ⟨fun t ht => okT_of (a2 t ht) (e (by decide) (by decide)) (e (by decide) (by decide)) (e (by decide) (by decide)) (e (by decide) (by decide)) (e (by decide) (by decide)), ⟨okC_of a3.1 (e (by decide) (by decide)) (e (by decide) (by decide)), okC_of a3.2 (e (by decide) (by decide)) (e (by decide) (by decide))⟩, ?_, ?_, ?_, fun c' hc k => ?_, fun t j ht hj => ?_, fun q => ?_⟩
  · rw [hbm, e33]
    omega
  · rw [hch, e33]
    omega
  · rw [e33]
    omega
  · rw [e (by decide) (by decide), e (by decide) (by decide), e33]
    obtain ⟨x1, x2, x3⟩ := b4 c' hc k
    rw [x1, x2, x3]
    simp [beginS, sU, hc]
  · rw [e (by decide) (by decide), e (by decide) (by decide)]
    have h := b1 t j ht hj
    rw [hb (by decide), hb (by decide)] at h
    exact h
  · unfold dvK
    rw [msN_of i d (by decide), msN_of i d (by decide), noteS_of _ i d (show (33 : Nat) ≠ 24 ∧ (33 : Nat) ≠ 21 ∧ (33 : Nat) ≠ 22 ∧ (33 : Nat) ≠ 23 by decide)]
    simp only [noteS]
    have d24 : driveS S 0 i i d 24 = S 24 := driveS_of S 0 i i d (by decide) (by decide) (by decide)
    split
    · rw [sU_f (by decide), sU_f (by decide), sU_f (by decide)]
      split
      · next h => subst h; rw [sU_eq, d24]
      · next h => rw [sU_ni h, d24]
    · split
      · next h => subst h; rw [sU_eq, d24]
      · next h => rw [sU_ni h, d24]
theorem fetN_upd {S S' : St} {i : Nat} (h : ∀ q, q ≠ i → S' 24 q 0 = S 24 q 0) : ∀ k, fetN S' k = fetN S k + (if i < k then S' 24 i 0 - S 24 i 0 else 0)
  | 0 => by simp [fetN]
  | k + 1 => by
    simp only [fetN]
    rw [fetN_upd h k]
    rcases Nat.lt_trichotomy i k with g | g | g
    · rw [if_pos g, if_pos (by omega), h k (by omega)]
      omega
    · subst g
      rw [if_neg (by omega), if_pos (by omega)]
      omega
    · rw [if_neg (by omega), if_neg (by omega), h k (by omega)]
      omega
theorem chN_of {S S' : St} : ∀ k, (∀ q, q < k → chS S' q = chS S q) → chN S' k = chN S k
  | 0, _ => rfl
  | k + 1, h => by
    simp only [chN]
    rw [chN_of k (fun q hq => h q (by omega)), h k (by omega)]
theorem dvN_of (S : St) (d : Nat) {f : Nat} (h : f ≠ 16 ∧ f ≠ 17 ∧ f ≠ 18 ∧ f ≠ 34 ∧ f ≠ 35 ∧ f ≠ 33) (h2 : f ≠ 31 ∧ f ≠ 32) (h3 : f ≠ 30) (h4 : f ≠ 24 ∧ f ≠ 21 ∧ f ≠ 22 ∧ f ≠ 23) (h5 : f ≠ 80 ∧ f ≠ 14) : ∀ k, (dvN S d k).1 f = S f
  | 0 => rfl
  | k + 1 => (dvK_of _ k d h h2 h3 h4 h5).trans (dvN_of S d h h2 h3 h4 h5 k)
theorem dvN_all {S : St} {d nl : Nat} (hd : d < 7) (hnl : nl ≤ 3) (hT : ∀ t, t < 12 → okT S t) (hL : ∀ i, i < 3 → okL S i) (hM : okM S) : ∀ k, k ≤ nl →
    (∀ t, t < 12 → okT (dvN S d k).1 t) ∧ (∀ i, i < 3 → okL (dvN S d k).1 i) ∧ okM (dvN S d k).1 ∧ (∀ i, i < k → okC (dvN S d k).1 i 0 ∧ okC (dvN S d k).1 i 1) ∧ bM (dvN S d k).1 0 6 + (dvN S d k).2 = bM S 0 6 ∧ chN (dvN S d k).1 k = (dvN S d k).2 ∧
    (0 ≤ (dvN S d k).2 ∧ (dvN S d k).2 ≤ 300 * k) ∧ (∀ t j, t < 12 → j < 3 → 0 ≤ (dvN S d k).1 16 t j ∧ (dvN S d k).1 16 t j ≤ S 16 t j ∧ 0 ≤ (dvN S d k).1 17 t j ∧ (dvN S d k).1 17 t j ≤ S 17 t j) ∧ fetN (dvN S d k).1 nl = fetN S nl + (dvN S d k).2
  | 0, _ => by
    refine ⟨hT, hL, hM, fun i hi => absurd hi (by omega), by simp [dvN], rfl, by simp [dvN], fun t j ht hj => ?_, by simp [dvN]⟩
    have := (hT t ht).2.2 j hj
    simp only [dvN]
    omega
  | k + 1, hk => by
    obtain ⟨h1, h2, h3, h4, h5, h6, h7, h8, h9⟩ := dvN_all hd hnl hT hL hM k (by omega)
    simp only [dvN]
    generalize hD : (dvN S d k).1 = D at h1 h2 h3 h4 h5 h6 h8 h9 ⊢
    generalize (dvN S d k).2 = z at h5 h6 h7 h9 ⊢
    have hk3 : k < 3 := by omega
    obtain ⟨n, hn6, hn⟩ := (h2 k hk3).2.2.1 d hd
    obtain ⟨a1, a2, a3, a4, a5, a6, a7, a8⟩ := dvK_all hk3 hd h1 (h2 k hk3) hn hn6
    have e2 : ∀ {f : Nat}, (f ≠ 16 ∧ f ≠ 17 ∧ f ≠ 18 ∧ f ≠ 34 ∧ f ≠ 35 ∧ f ≠ 33) → (f ≠ 31 ∧ f ≠ 32) → f ≠ 30 → (f ≠ 24 ∧ f ≠ 21 ∧ f ≠ 22 ∧ f ≠ 23) → (f ≠ 80 ∧ f ≠ 14) → dvK D k d f = D f := fun h h' h'' h4 h5 => dvK_of D k d h h' h'' h4 h5
    have okMn : okM (dvK D k d) := by
      unfold dvK
      refine msN_okM k d _ _ _ ?_
      obtain ⟨N, m1, m2, m3, m4⟩ := h3
      exact ⟨N, m1, m2, by rw [noteS_of _ k d (by decide), driveS_of D 0 k k d (by decide) (by decide) (by decide), m3], fun j hj => by rw [noteS_of _ k d (by decide), driveS_of D 0 k k d (by decide) (by decide) (by decide)]; exact m4 j hj⟩
    have hc : ∀ q, q ≠ k → chS (dvK D k d) q = chS D q := fun q hq => by
      unfold chS
      rw [(a6 q hq 0).1, (a6 q hq 0).2.1, (a6 q hq 1).1, (a6 q hq 1).2.1]
    refine ⟨a1, fun i hi => okL_of (h2 i hi) (e2 (by decide) (by decide) (by decide) (by decide) (by decide)) (e2 (by decide) (by decide) (by decide) (by decide) (by decide)) (e2 (by decide) (by decide) (by decide) (by decide) (by decide)) (e2 (by decide) (by decide) (by decide) (by decide) (by decide)), okMn, fun i hi => ?_, by omega, ?_, by omega, fun t j ht hj => ?_, ?_⟩
    · by_cases hik : i = k
      · subst hik; exact a2
      · have h := h4 i (by omega)
        unfold okC at h ⊢
        rw [(a6 i hik 0).1, (a6 i hik 0).2.1, (a6 i hik 1).1, (a6 i hik 1).2.1]
        exact h
    · simp only [chN]
      rw [chN_of (S := D) k (fun q hq => hc q (by omega)), h6, a4]
    · have := a7 t j ht hj
      have := h8 t j ht hj
      omega
    · rw [fetN_upd (S := D) (i := k) (fun q hq => by rw [a8, if_neg hq]), if_pos (by omega), a8, if_pos rfl]
      omega
/-- what comes in a day, by the habits -/
def habK (S : St) (t : Nat) : Int := S 15 t 0 + S 15 t 1 + S 15 t 2
def comN (S : St) : Nat → Int
  | 0 => 0
  | k + 1 => comN S k + habK S (2 * k)
theorem thrK_bal {S : St} {t j : Nat} (hj : j < 3) (h : okT S t) : binK (thrK S t j) t + thrK S t j 12 t 0 = binK S t + S 12 t 0 + S 15 t j ∧ S 12 t 0 ≤ thrK S t j 12 t 0 ∧ ∀ q, q < 3 → S 16 t q ≤ thrK S t j 16 t q ∧ S 17 t q ≤ thrK S t j 17 t q := by
  have hf := foul_in hj h
  have hb := h.2.2 j hj
  refine ⟨?_, ?_, fun q hq => ?_⟩
  · unfold binK
    rw [thrK_16, thrK_16, thrK_16, thrK_17, thrK_17, thrK_17, thrK_12, if_pos rfl]
    rcases (show j = 0 ∨ j = 1 ∨ j = 2 by omega) with rfl | rfl | rfl <;> simp <;> omega
  · rw [thrK_12, if_pos rfl]
    omega
  · rw [thrK_16, thrK_17]
    split
    · next e => obtain ⟨-, rfl⟩ := e; omega
    · omega
theorem thr_bal {S : St} {t : Nat} (h : okT S t) : binK (thr S t) t + thr S t 12 t 0 = binK S t + S 12 t 0 + habK S t ∧ S 12 t 0 ≤ thr S t 12 t 0 ∧ (∀ q, q < 3 → S 16 t q ≤ thr S t 16 t q ∧ S 17 t q ≤ thr S t 17 t q) ∧ ∀ u, u ≠ t → ∀ q, thr S t 16 u q = S 16 u q ∧ thr S t 17 u q = S 17 u q ∧ thr S t 12 u 0 = S 12 u 0 := by
  have o1 := thrK_ok (j := 0) (by decide) h h
  have o2 := thrK_ok (j := 1) (by decide) o1 o1
  obtain ⟨a1, a2, a3⟩ := thrK_bal (j := 0) (by decide) h
  obtain ⟨b1, b2, b3⟩ := thrK_bal (j := 1) (by decide) o1
  obtain ⟨c1, c2, c3⟩ := thrK_bal (j := 2) (by decide) o2
  have e1 : thrK S t 0 15 = S 15 := thrK_of S t 0 (by decide)
  have e2 : thrK (thrK S t 0) t 1 15 = S 15 := (thrK_of (thrK S t 0) t 1 (by decide)).trans e1
  rw [e1] at b1
  rw [e2] at c1
  unfold thr
  refine ⟨by unfold habK; omega, by omega, fun q hq => ?_, fun u hu q => ?_⟩
  · have := a3 q hq
    have := b3 q hq
    have := c3 q hq
    omega
  · simp [thrK_16, thrK_17, thrK_12, hu]
theorem thr_170 (S : St) (t u : Nat) (h : okT S t) (h0 : S 17 u 0 = 0) : thr S t 17 u 0 = 0 := by
  have hb := h.2.2 0 (by decide)
  have f0 : foulOf S t 0 = 0 := rfl
  have g : thrK S t 0 17 u 0 = 0 := by
    rw [thrK_17, f0]
    split
    · next e => obtain ⟨rfl, -⟩ := e; omega
    · exact h0
  have g1 : thrK (thrK S t 0) t 1 17 u 0 = 0 := by rw [thrK_17, if_neg (by omega)]; exact g
  unfold thr
  rw [thrK_17, if_neg (by omega)]
  exact g1
theorem litN_upd {S S' : St} {w e : Nat} (h : ∀ q, q ≠ e → S' 12 (2 * q + w) 0 = S 12 (2 * q + w) 0) : ∀ k, litN S' w k = litN S w k + (if e < k then S' 12 (2 * e + w) 0 - S 12 (2 * e + w) 0 else 0)
  | 0 => by simp [litN]
  | k + 1 => by
    simp only [litN]
    rw [litN_upd h k]
    rcases Nat.lt_trichotomy e k with g | g | g
    · rw [if_pos g, if_pos (by omega), h k (by omega)]
      omega
    · subst g
      rw [if_neg (by omega), if_pos (by omega)]
      omega
    · rw [if_neg (by omega), if_neg (by omega), h k (by omega)]
      omega
theorem litN_of {S S' : St} (h : S' 12 = S 12) (w : Nat) : ∀ k, litN S' w k = litN S w k
  | 0 => rfl
  | k + 1 => by
    simp only [litN]
    rw [litN_of h w k, h]
theorem fillF_bal {S : St} {n : Nat} (hn : n ≤ 6) (hT : ∀ t, t < 12 → okT S t) : ∀ k, k ≤ n → bM (fillF S 0 k) 0 6 + litN (fillF S 0 k) 0 n = bM S 0 6 + litN S 0 n + comN S k ∧ (∀ t, t < 12 → S 12 t 0 ≤ fillF S 0 k 12 t 0 ∧ ∀ q, q < 3 → S 16 t q ≤ fillF S 0 k 16 t q ∧ S 17 t q ≤ fillF S 0 k 17 t q) ∧
    (∀ e, k ≤ e → ∀ q, fillF S 0 k 16 (2 * e) q = S 16 (2 * e) q ∧ fillF S 0 k 17 (2 * e) q = S 17 (2 * e) q ∧ fillF S 0 k 12 (2 * e) 0 = S 12 (2 * e) 0)
  | 0, _ => ⟨by simp [fillF, comN], fun t _ => ⟨Int.le_refl _, fun q _ => ⟨Int.le_refl _, Int.le_refl _⟩⟩, fun _ _ _ => ⟨rfl, rfl, rfl⟩⟩
  | k + 1, hk => by
    obtain ⟨ih1, ih2, ih3⟩ := fillF_bal hn hT k (by omega)
    have ok := fillF_ok (w := 0) (by decide) hT k (by omega)
    have h15 : fillF S 0 k 15 = S 15 := fillF_of S 0 (by decide) k
    simp only [fillF, comN]
    generalize fillF S 0 k = D at ih1 ih2 ih3 ok h15 ⊢
    obtain ⟨a1, a2, a3, a4⟩ := thr_bal (ok (2 * k + 0) (by omega))
    refine ⟨?_, fun t ht => ?_, fun e he q => ?_⟩
    · rw [bM_upd (S := D) (e := k) (fun q hq => binK_of (fun j => (a4 (2 * q + 0) (by omega) j).1) (fun j => (a4 (2 * q + 0) (by omega) j).2.1)), litN_upd (S := D) (e := k) (fun q hq => (a4 (2 * q + 0) (by omega) 0).2.2), if_pos (by omega), if_pos (by omega)]
      have hx : habK D (2 * k + 0) = habK S (2 * k) := by unfold habK; rw [h15]; rfl
      rw [hx] at a1
      omega
    · have h2 := ih2 t ht
      by_cases htk : t = 2 * k + 0
      · subst htk
        refine ⟨by omega, fun q hq => ?_⟩
        have := h2.2 q hq
        have := a3 q hq
        omega
      · refine ⟨by rw [(a4 t htk 0).2.2]; exact h2.1, fun q hq => ?_⟩
        rw [(a4 t htk q).1, (a4 t htk q).2.1]
        exact h2.2 q hq
    · obtain ⟨x1, x2, x3⟩ := a4 (2 * e) (by omega) q
      obtain ⟨y1, y2, y3⟩ := ih3 e (by omega) q
      exact ⟨x1.trans y1, x2.trans y2, (a4 (2 * e) (by omega) 0).2.2.trans y3⟩
theorem fillF_170 {S : St} {n : Nat} (hn : n ≤ 6) (hT : ∀ t, t < 12 → okT S t) (h0 : ∀ e, e < 6 → S 17 (2 * e) 0 = 0) : ∀ k, k ≤ n → ∀ e, e < 6 → fillF S 0 k 17 (2 * e) 0 = 0
  | 0, _ => h0
  | k + 1, hk => fun e he => thr_170 _ _ _ (fillF_ok (w := 0) (by decide) hT k (by omega) _ (by omega)) (fillF_170 hn hT h0 k (by omega) e he)
