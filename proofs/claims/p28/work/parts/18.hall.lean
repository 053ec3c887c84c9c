/-! THE HALL: what is in it, and that nothing is lost -/
def balK (S : St) : Nat → Int
  | 0 => 0
  | k + 1 => balK S k + (S 55 k 0 + S 56 k 0)
def HM (S : St) : Int := balK S 20 + S 50 0 0 + S 51 0 0 + S 65 0 0 + S 66 0 0 + S 67 0 0 + S 68 0 0 + S 70 0 0 + S 72 0 0 + S 62 0 0 - S 63 0 0
def BL (S : St) : Prop := ∃ n : Nat, n ≤ 20 ∧ S 52 0 0 = (n : Int) ∧ (∀ b, b < 20 → 0 ≤ S 57 b 0 ∧ S 57 b 0 ≤ 3) ∧
  (∀ b, b < n → 0 ≤ S 55 b 0 ∧ 0 ≤ S 56 b 0 ∧ (S 57 b 0 = 3 → S 55 b 0 + S 56 b 0 = 0) ∧ (S 57 b 0 ≠ 3 → S 55 b 0 + S 56 b 0 = 40) ∧ 1 ≤ S 58 b 0 ∧ S 58 b 0 ≤ S 2 0 0) ∧
  ∀ b, n ≤ b → b < 20 → S 55 b 0 = 0 ∧ S 56 b 0 = 0 ∧ S 57 b 0 = 0
def HI (S : St) : Prop := BL S ∧ (0 ≤ S 50 0 0 ∧ 0 ≤ S 51 0 0) ∧ (0 ≤ S 65 0 0 ∧ 0 ≤ S 66 0 0 ∧ 0 ≤ S 67 0 0 ∧ 0 ≤ S 68 0 0 ∧ S 69 0 0 = S 65 0 0 + S 66 0 0 + S 67 0 0 + S 68 0 0) ∧ (0 ≤ S 71 0 0 ∧ S 71 0 0 ≤ S 70 0 0) ∧ 0 ≤ S 72 0 0 ∧ (0 ≤ S 63 0 0 ∧ 4 * S 63 0 0 ≤ S 62 0 0) ∧ S 64 0 0 = 3 * S 62 0 0
theorem balK_of {S S' : St} (h55 : S' 55 = S 55) (h56 : S' 56 = S 56) : ∀ k, balK S' k = balK S k
  | 0 => rfl
  | k + 1 => by simp only [balK]; rw [balK_of h55 h56 k, h55, h56]
theorem BL_of {S S' : St} (h : BL S) (h52 : S' 52 = S 52) (h55 : S' 55 = S 55) (h56 : S' 56 = S 56) (h57 : S' 57 = S 57) (h58 : S' 58 = S 58) (h2 : S' 2 = S 2) : BL S' := by
  unfold BL at *
  rw [h52, h55, h56, h57, h58, h2]
  exact h
theorem HI_of {S S' : St} (h : HI S) (he : ∀ f, 50 ≤ f → f ≤ 72 → f ≠ 60 → f ≠ 61 → S' f = S f) (h2 : S' 2 = S 2) : HI S' ∧ HM S' = HM S := by
  have e : ∀ f, 50 ≤ f → f ≤ 72 → f ≠ 60 → f ≠ 61 → S' f = S f := he
  refine ⟨⟨BL_of h.1 (e _ (by decide) (by decide) (by decide) (by decide)) (e _ (by decide) (by decide) (by decide) (by decide)) (e _ (by decide) (by decide) (by decide) (by decide)) (e _ (by decide) (by decide) (by decide) (by decide)) (e _ (by decide) (by decide) (by decide) (by decide)) h2, ?_⟩, ?_⟩
  · rw [e 50 (by decide) (by decide) (by decide) (by decide), e 51 (by decide) (by decide) (by decide) (by decide), e 65 (by decide) (by decide) (by decide) (by decide), e 66 (by decide) (by decide) (by decide) (by decide), e 67 (by decide) (by decide) (by decide) (by decide), e 68 (by decide) (by decide) (by decide) (by decide), e 69 (by decide) (by decide) (by decide) (by decide), e 70 (by decide) (by decide) (by decide) (by decide), e 71 (by decide) (by decide) (by decide) (by decide), e 72 (by decide) (by decide) (by decide) (by decide), e 62 (by decide) (by decide) (by decide) (by decide), e 63 (by decide) (by decide) (by decide) (by decide), e 64 (by decide) (by decide) (by decide) (by decide)]
    exact h.2
  · unfold HM
    rw [balK_of (e 55 (by decide) (by decide) (by decide) (by decide)) (e 56 (by decide) (by decide) (by decide) (by decide)), e 50 (by decide) (by decide) (by decide) (by decide), e 51 (by decide) (by decide) (by decide) (by decide), e 65 (by decide) (by decide) (by decide) (by decide), e 66 (by decide) (by decide) (by decide) (by decide), e 67 (by decide) (by decide) (by decide) (by decide), e 68 (by decide) (by decide) (by decide) (by decide), e 70 (by decide) (by decide) (by decide) (by decide), e 72 (by decide) (by decide) (by decide) (by decide), e 62 (by decide) (by decide) (by decide) (by decide), e 63 (by decide) (by decide) (by decide) (by decide)]
theorem balK_nn {S : St} (h : ∀ b, b < 20 → 0 ≤ S 55 b 0 ∧ 0 ≤ S 56 b 0) : ∀ k, k ≤ 20 → 0 ≤ balK S k
  | 0, _ => Int.le_refl _
  | k + 1, hk => by
    have := balK_nn h k (by omega)
    have := h k (by omega)
    simp only [balK]
    omega
theorem BL_nn {S : St} (h : BL S) : ∀ b, b < 20 → 0 ≤ S 55 b 0 ∧ 0 ≤ S 56 b 0 := by
  obtain ⟨n, hn, -, -, h1, h2⟩ := h
  intro b hb
  rcases Nat.lt_or_ge b n with q | q
  · exact ⟨(h1 b q).1, (h1 b q).2.1⟩
  · have := h2 b q hb
    omega
/-- each part is no more than all -/
theorem HI_le {S : St} (h : HI S) : 0 ≤ balK S 20 ∧ S 50 0 0 + S 51 0 0 ≤ HM S ∧ S 65 0 0 ≤ HM S ∧ S 69 0 0 ≤ HM S ∧ S 70 0 0 ≤ HM S ∧ 0 ≤ HM S ∧ S 63 0 0 ≤ HM S ∧ S 67 0 0 ≤ HM S := by
  have hb := balK_nn (BL_nn h.1) 20 (by decide)
  obtain ⟨-, h1, h2, h3, h4, h5, h6⟩ := h
  unfold HM
  omega
theorem pitIn_of (S : St) (a b : Int) {f : Nat} (h : f ≠ 70 ∧ f ≠ 71 ∧ f ≠ 73) : pitIn S a b f = S f := by
  unfold pitIn
  rw [sU_f h.2.2, sU_f h.2.1, sU_f h.1]
theorem pitIn_HI {S : St} {a b : Int} (h : HI S) (ha : 0 ≤ a) (hb : 0 ≤ b ∧ b ≤ a) : HI (pitIn S a b) ∧ HM (pitIn S a b) = HM S + a := by
  have e : ∀ {f : Nat}, f ≠ 70 ∧ f ≠ 71 ∧ f ≠ 73 → pitIn S a b f = S f := fun h => pitIn_of S a b h
  refine ⟨⟨BL_of h.1 (e (by decide)) (e (by decide)) (e (by decide)) (e (by decide)) (e (by decide)) (e (by decide)), ?_⟩, ?_⟩
  · obtain ⟨-, h1, h2, h3, h4, h5, h6⟩ := h
    simp only [pitIn, sU]
    simp
    omega
  · unfold HM
    rw [balK_of (e (by decide)) (e (by decide))]
    simp only [pitIn, sU]
    simp
    omega
theorem burn1_of (S : St) (x : Int) {f : Nat} (h : f ≠ 61 ∧ f ≠ 62 ∧ f ≠ 63 ∧ f ≠ 64) : burn1 S x f = S f := by
  unfold burn1
  rw [sU_f h.2.2.1, sU_f h.2.2.2, sU_f h.2.1, sU_f h.1]
theorem burn1_HI {S : St} {x : Int} (h : HI S) (hx : 0 ≤ x) : HI (burn1 S x) ∧ HM (burn1 S x) = HM S + (x - x / 4) := by
  have e : ∀ {f : Nat}, f ≠ 61 ∧ f ≠ 62 ∧ f ≠ 63 ∧ f ≠ 64 → burn1 S x f = S f := fun h => burn1_of S x h
  refine ⟨⟨BL_of h.1 (e (by decide)) (e (by decide)) (e (by decide)) (e (by decide)) (e (by decide)) (e (by decide)), ?_⟩, ?_⟩
  · obtain ⟨-, h1, h2, h3, h4, h5, h6⟩ := h
    simp only [burn1, sU]
    simp
    omega
  · unfold HM
    rw [balK_of (e (by decide)) (e (by decide))]
    simp only [burn1, sU]
    simp
    omega
theorem burnF_of (S : St) (a : Int) {f : Nat} (h : f ≠ 61 ∧ f ≠ 62 ∧ f ≠ 63 ∧ f ≠ 64) (h2 : f ≠ 70 ∧ f ≠ 71 ∧ f ≠ 73) : burnF S a f = S f := by
  unfold burnF
  rw [pitIn_of _ _ _ h2, pitIn_of _ _ _ h2, burn1_of _ _ h]
theorem burnF_61 (S : St) (a : Int) : burnF S a 61 0 0 = S 61 0 0 - min a (S 61 0 0) := by
  unfold burnF
  rw [pitIn_of _ _ _ (by decide), pitIn_of _ _ _ (by decide)]
  simp [burn1, sU]
theorem burnF_HI {S : St} {a : Int} (h : HI S) (ha : 0 ≤ a) (hl : 0 ≤ S 61 0 0) : HI (burnF S a) ∧ HM (burnF S a) = HM S + a := by
  obtain ⟨h1, e1⟩ := burn1_HI (x := min a (S 61 0 0)) h (by omega)
  obtain ⟨h2, e2⟩ := pitIn_HI (a := min a (S 61 0 0) / 4) (b := 0) h1 (by omega) (by omega)
  obtain ⟨h3, e3⟩ := pitIn_HI (a := a - min a (S 61 0 0)) (b := (a - min a (S 61 0 0)) / 2) h2 (by omega) (by omega)
  refine ⟨h3, ?_⟩
  unfold burnF
  rw [e3, e2, e1]
  omega
theorem lineF_of (S : St) (c d : Int) {f : Nat} (h : f ≠ 47 ∧ f ≠ 50 ∧ f ≠ 51) : lineF S c d f = S f := by
  unfold lineF
  rw [sU_f h.2.2, sU_f h.2.1, sU_f h.1]
theorem line_in {S : St} {c d : Int} (hc : 0 ≤ c) (hd : 0 ≤ d ∧ d ≤ 1000) (he : 0 ≤ S 45 0 0 ∧ S 45 0 0 ≤ 100) (hh : 0 ≤ S 47 0 0) : 0 ≤ lineR S c d ∧ lineR S c d ≤ c + d ∧ 0 ≤ d - outF S d - handF S d ∧ 0 ≤ handF S d ∧ handF S d ≤ S 47 0 0 := by
  have h := outF_in hd he
  unfold lineR handF
  omega
theorem lineF_HI {S : St} {c d : Int} (h : HI S) (hc : 0 ≤ c) (hd : 0 ≤ d ∧ d ≤ 1000) (he : 0 ≤ S 45 0 0 ∧ S 45 0 0 ≤ 100) (hh : 0 ≤ S 47 0 0) : HI (lineF S c d) ∧ HM (lineF S c d) = HM S + (c + d - lineR S c d) := by
  have e : ∀ {f : Nat}, f ≠ 47 ∧ f ≠ 50 ∧ f ≠ 51 → lineF S c d f = S f := fun h => lineF_of S c d h
  have hi := line_in hc hd he hh
  have h50 : lineF S c d 50 0 0 = S 50 0 0 + (c - c * 5 / 100) := by simp [lineF, sU]
  have h51 : lineF S c d 51 0 0 = S 51 0 0 + (d - outF S d - handF S d) := by simp [lineF, sU]
  refine ⟨⟨BL_of h.1 (e (by decide)) (e (by decide)) (e (by decide)) (e (by decide)) (e (by decide)) (e (by decide)), ?_⟩, ?_⟩
  · obtain ⟨-, h1, h2, h3, h4, h5, h6⟩ := h
    rw [h50, h51, e (by decide), e (by decide), e (by decide), e (by decide), e (by decide), e (by decide), e (by decide), e (by decide), e (by decide), e (by decide), e (by decide)]
    refine ⟨by omega, h2, h3, h4, h5, h6⟩
  · unfold HM
    rw [balK_of (e (by decide)) (e (by decide)), h50, h51, e (by decide), e (by decide), e (by decide), e (by decide), e (by decide), e (by decide), e (by decide), e (by decide)]
    unfold lineR
    omega
theorem balK_upd {S S' : St} {b : Nat} (h55 : ∀ q, q ≠ b → S' 55 q 0 = S 55 q 0) (h56 : ∀ q, q ≠ b → S' 56 q 0 = S 56 q 0) : ∀ k, balK S' k = balK S k + (if b < k then S' 55 b 0 + S' 56 b 0 - (S 55 b 0 + S 56 b 0) else 0)
  | 0 => by simp [balK]
  | k + 1 => by
    simp only [balK]
    rw [balK_upd h55 h56 k]
    rcases Nat.lt_trichotomy b k with h | h | h
    · rw [if_pos h, if_pos (by omega), h55 k (by omega), h56 k (by omega)]
      omega
    · subst h
      rw [if_neg (by omega), if_pos (by omega)]
      omega
    · rw [if_neg (by omega), if_neg (by omega), h55 k (by omega), h56 k (by omega)]
      omega
theorem prs_of (S : St) (b : Nat) (day : Int) {f : Nat} (h : f ≠ 50 ∧ f ≠ 51 ∧ f ≠ 52 ∧ f ≠ 55 ∧ f ≠ 56 ∧ f ≠ 58) : prs S b day f = S f := by
  simp only [prs]
  rw [sU_f h.2.2.1, sU_f h.1, sU_f h.2.1, sU_f h.2.2.2.2.2, sU_f h.2.2.2.1, sU_f h.2.2.2.2.1]
theorem prs_55 (S : St) (b : Nat) (day : Int) (q : Nat) : prs S b day 55 q 0 = if q = b then 40 - S 51 0 0 * 40 / (S 50 0 0 + S 51 0 0) else S 55 q 0 := by simp [prs, sU]
theorem prs_56 (S : St) (b : Nat) (day : Int) (q : Nat) : prs S b day 56 q 0 = if q = b then S 51 0 0 * 40 / (S 50 0 0 + S 51 0 0) else S 56 q 0 := by simp [prs, sU]
theorem prs_58 (S : St) (b : Nat) (day : Int) (q : Nat) : prs S b day 58 q 0 = if q = b then day else S 58 q 0 := by simp [prs, sU]
theorem prs_HI {S : St} {b : Nat} {day : Int} (h : HI S) (hb : S 52 0 0 = (b : Int)) (hb20 : b < 20) (hday : day = S 2 0 0 ∧ 1 ≤ day) (hk : 40 ≤ S 50 0 0 + S 51 0 0) : HI (prs S b day) ∧ HM (prs S b day) = HM S := by
  obtain ⟨⟨n, hn20, hn, g1, g2, g3⟩, h1, h2, h3, h4, h5, h6⟩ := h
  have hnb : n = b := by omega
  subst hnb
  have hd := bale_in h1.1 h1.2 hk
  have e : ∀ {f : Nat}, f ≠ 50 ∧ f ≠ 51 ∧ f ≠ 52 ∧ f ≠ 55 ∧ f ≠ 56 ∧ f ≠ 58 → prs S n day f = S f := fun h => prs_of S n day h
  have z := g3 n (Nat.le_refl _) hb20
  refine ⟨⟨⟨n + 1, by omega, by rw [prs_52, hn]; rfl, ?_, ?_, ?_⟩, ?_⟩, ?_⟩
  · rw [e (by decide)]; exact g1
  · intro b hb
    rw [prs_55, prs_56, prs_58, e (by decide), e (by decide)]
    by_cases hbn : b = n
    · subst hbn
      rw [if_pos rfl, if_pos rfl, if_pos rfl]
      omega
    · rw [if_neg hbn, if_neg hbn, if_neg hbn]
      exact g2 b (by omega)
  · intro b hb hb2
    rw [prs_55, prs_56, e (by decide), if_neg (by omega), if_neg (by omega)]
    exact g3 b (by omega) hb2
  · rw [prs_50, prs_51, e (by decide), e (by decide), e (by decide), e (by decide), e (by decide), e (by decide), e (by decide), e (by decide), e (by decide), e (by decide), e (by decide)]
    exact ⟨by omega, h2, h3, h4, h5, h6⟩
  · unfold HM
    rw [balK_upd (S := S) (S' := prs S n day) (b := n) (fun q hq => by rw [prs_55, if_neg hq]) (fun q hq => by rw [prs_56, if_neg hq]), if_pos hb20, prs_55, prs_56, if_pos rfl, if_pos rfl, prs_50, prs_51, e (by decide), e (by decide), e (by decide), e (by decide), e (by decide), e (by decide), e (by decide), e (by decide)]
    omega
theorem prsN_HI {day : Int} : ∀ (m b : Nat) (S : St), b + m = 20 → HI S → S 52 0 0 = (b : Int) → (day = S 2 0 0 ∧ 1 ≤ day) → HI (prsN day m b S) ∧ HM (prsN day m b S) = HM S
  | 0, _, S, _, h, _, _ => ⟨h, rfl⟩
  | m + 1, b, S, hb, h, h52, hday => by
    simp only [prsN]
    split
    · next hk =>
      obtain ⟨h1, e1⟩ := prs_HI h h52 (by omega) hday hk
      obtain ⟨h2, e2⟩ := prsN_HI m (b + 1) (prs S b day) (by omega) h1 (by rw [prs_52, h52]; rfl) (by rw [prs_of S b day (by decide)]; exact hday)
      exact ⟨h2, e2.trans e1⟩
    · exact ⟨h, rfl⟩
theorem prsN_of (day : Int) {f : Nat} (hf : f ≠ 50 ∧ f ≠ 51 ∧ f ≠ 52 ∧ f ≠ 55 ∧ f ≠ 56 ∧ f ≠ 58) : ∀ (m b : Nat) (S : St), prsN day m b S f = S f
  | 0, _, _ => rfl
  | m + 1, b, S => by
    simp only [prsN]
    split
    · rw [prsN_of day hf m (b + 1), prs_of S b day hf]
    · rfl
