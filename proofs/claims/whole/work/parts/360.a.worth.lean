/-! A WORD'S WORTH to the base 27 -/
def tz_w (f : Nat → Nat) : Nat → Nat
  | 0 => 0
  | m + 1 => 27 * tz_w f m + (f m - 96)
theorem tw_one (f g : Nat → Nat) : ∀ m m', (∀ i, i < m → 97 ≤ f i ∧ f i ≤ 122) → (∀ i, i < m' → 97 ≤ g i ∧ g i ≤ 122) → tz_w f m = tz_w g m' → m = m' ∧ ∀ i, i < m → f i = g i
  | 0, 0, _, _, _ => ⟨rfl, fun i h => by omega⟩
  | 0, m' + 1, hf, hg, h => by
    have := hg m' (by omega)
    simp only [tz_w] at h
    omega
  | m + 1, 0, hf, hg, h => by
    have := hf m (by omega)
    simp only [tz_w] at h
    omega
  | m + 1, m' + 1, hf, hg, h => by
    have h1 := hf m (by omega)
    have h2 := hg m' (by omega)
    simp only [tz_w] at h
    obtain ⟨e1, e2⟩ := tw_one f g m m' (fun i hi => hf i (by omega)) (fun i hi => hg i (by omega)) (by omega)
    subst e1
    refine ⟨rfl, fun i hi => ?_⟩
    rcases Nat.lt_or_ge i m with g1 | g1
    · exact e2 i g1
    · rw [show i = m by omega]
      omega
theorem tw_lt (f : Nat → Nat) : ∀ m, (∀ i, i < m → 97 ≤ f i ∧ f i ≤ 122) → tz_w f m < 27 ^ m
  | 0, _ => Nat.one_pos
  | m + 1, hf => by
    have h1 := tw_lt f m (fun i hi => hf i (by omega))
    have h2 := hf m (by omega)
    unfold tz_w
    rw [Nat.pow_succ]
    omega
def wv (w : Nat) : Nat := tz_w (fun i => (tz_wd w).getD i 0) (tz_wd w).length
theorem wv_let : ∀ w, w < 12 → (tz_wd w).length ≤ 6 ∧ ∀ i, i < (tz_wd w).length → 97 ≤ (tz_wd w).getD i 0 ∧ (tz_wd w).getD i 0 ≤ 122 := by decide
theorem wv_val : wv 0 = 223456 ∧ wv 1 = 168984 ∧ wv 2 = 8863997 ∧ wv 3 = 21568592 ∧ wv 4 = 315904 ∧ wv 5 = 3488 ∧ wv 6 = 423 ∧ wv 7 = 1111 ∧ wv 8 = 10631 ∧ wv 9 = 237470 ∧ wv 10 = 2774 ∧ wv 11 = 388978 := by decide
theorem wv_pos : ∀ w, w < 12 → 1 ≤ (tz_wd w).length := by decide
/-- a run of letters is the word w just where its worth is -/
theorem wv_iff {bs : Nat → Nat} {p e w : Nat} (hw : w < 12) (hl : ∀ i, p ≤ i → i < e → tz_le (bs i)) : tz_w (fun i => bs (p + i)) (e - p) = wv w ↔ tz_sl bs p e = tz_wd w := by
  obtain ⟨-, h2⟩ := wv_let w hw
  constructor
  · intro h
    obtain ⟨e1, e2⟩ := tw_one _ _ (e - p) (tz_wd w).length (fun i hi => hl (p + i) (by omega) (by omega)) h2 h
    have e3 := (ws_sl (bs := bs) (w := w) (p := p)).mp (fun j hj => e2 j (by omega))
    rw [← e1] at e3
    unfold tz_sl at e3 ⊢
    rw [show p + (e - p) - p = e - p by omega] at e3
    exact e3
  · intro h
    have hlen : e - p = (tz_wd w).length := by rw [← h]; simp [tz_sl]
    unfold wv
    rw [hlen]
    have h3 : ∀ j, j < (tz_wd w).length → bs (p + j) = (tz_wd w).getD j 0 := (ws_sl (bs := bs) (w := w) (p := p)).mpr (by
      have hpos := wv_pos w hw
      rw [← show e = p + (tz_wd w).length by omega]
      exact h)
    have : ∀ m, m ≤ (tz_wd w).length → tz_w (fun i => bs (p + i)) m = tz_w (fun i => (tz_wd w).getD i 0) m := by
      intro m
      induction m with
      | zero => intro _; rfl
      | succ m ih =>
        intro hm
        unfold tz_w
        rw [ih (by omega)]
        show 27 * _ + (bs (p + m) - 96) = _
        rw [h3 m (by omega)]
    exact this _ (Nat.le_refl _)
