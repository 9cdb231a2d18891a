/-! PURE PART, BASE: reads and writes at small places, guards, loops -/
theorem pr_lit (n : Nat) : (no_index (OfNat.ofNat n) : Int32) = nI (OfNat.ofNat n) := rfl
theorem pr_rd {I : rk_I} {o N i : Nat} (h : i < N) (hN : N < 2147483648) : rk_rd I o N (nI i) = some (I o i) := by
  unfold rk_rd
  rw [if_neg (nI_in h (by omega)), nI_clamp (by omega)]
theorem pr_wr {I : rk_I} {o N i : Nat} {x : Int32} (h : i < N) (hN : N < 2147483648) : rk_wr I o N (nI i) x = some (rk_ui I o i x) := by
  unfold rk_wr
  rw [if_neg (nI_in h (by omega)), nI_clamp (by omega)]
theorem pr_rdR {R : rk_R} {o N i : Nat} (h : i < N) (hN : N < 2147483648) : rk_rdR R o N (nI i) = some (R o i) := by
  unfold rk_rdR
  rw [if_neg (nI_in h (by omega)), nI_clamp (by omega)]
theorem pr_wrR {R : rk_R} {o N i v : Nat} (h : i < N) (hN : N < 2147483648) : rk_wrR R o N (nI i) v = some (rk_ur R o i (some v)) := by
  unfold rk_wrR
  rw [if_neg (nI_in h (by omega)), nI_clamp (by omega)]
theorem pr_rdD {S : rk_Sh} {I : rk_I} {o N i : Nat} (hS : S o = (20, N)) (h : i < N) (hN : N < 2147483648) : rk_rdD S I o (nI i) = some (I o i) := by
  unfold rk_rdD
  rw [hS, if_pos rfl, pr_rd h hN]
theorem pr_wrD {S : rk_Sh} {I : rk_I} {o N i : Nat} {x : Int32} (hS : S o = (20, N)) (h : i < N) (hN : N < 2147483648) : rk_wrD S I o (nI i) x = some (rk_ui I o i x) := by
  unfold rk_wrD
  rw [hS, if_pos rfl, pr_wr h hN]
theorem pr_dr {S : rk_Sh} {ci N o : Nat} (hS : S o = (ci, N)) : rk_dr S ci N (some o) = some o := by
  show (if S o = (ci, N) then some o else none) = some o
  rw [if_pos hS]
theorem pr_ck {S : rk_Sh} {t N o : Nat} (hS : S o = (t, N)) : rk_ck S o t N = some () := by
  unfold rk_ck
  rw [if_pos hS]
theorem pr_ckR {R : rk_R} {o i q : Nat} (h : R o i = some q) : rk_ckR R o i q = some () := by
  unfold rk_ckR
  rw [if_pos h]
theorem pr_al {S : rk_Sh} {o N : Nat} (hS : S o = (20, N)) : rk_al S o = some N := by
  unfold rk_al
  rw [hS, if_pos rfl]
theorem pr_nck {n : Nat} (h : n < 900000) : rk_nck n = some () := by
  unfold rk_nck
  rw [if_pos h]
theorem pr_layC {S : rk_Sh} {R : rk_R} (h : rk_LC S R) : rk_layC S R = some () := by
  unfold rk_layC
  rw [if_pos h]
theorem pr_layM {S : rk_Sh} {R : rk_R} (h : rk_LM S R) : rk_layM S R = some () := by
  unfold rk_layM
  rw [if_pos h]
theorem pr_cp {I : rk_I} {a na b nb sp dp n : Nat} (h1 : sp + n ≤ na) (h2 : dp + n ≤ nb) (h3 : na < 1073741824) (h4 : nb < 1073741824) : rk_cp I a na b nb (nI sp) (nI dp) (nI n) = some (fun k => if k = b then va_cpy (I a) (I b) sp dp n else I k) := by
  unfold rk_cp
  rw [nI_clamp (by omega), nI_clamp (by omega), nI_clamp (by omega), if_neg]
  rintro (h | h | h | h | h)
  · exact nI_pos (by omega) h
  · exact nI_pos (by omega) h
  · exact nI_pos (by omega) h
  · omega
  · omega
theorem pr_sb {α β : Type} (a : α) (f : α → Option β) : (some a).bind f = f a := rfl
theorem pr_b2 {α β γ : Type} (x : α) (y : β) (f : α → β → Option γ) : rk_b2 (some (x, y)) f = f x y := rfl
theorem pr_b3 {α β γ δ : Type} (x : α) (y : β) (z : γ) (f : α → β → γ → Option δ) : rk_b3 (some (x, y, z)) f = f x y z := rfl
theorem pr_b4 {α β γ δ ε : Type} (x : α) (y : β) (z : γ) (w : δ) (f : α → β → γ → δ → Option ε) : rk_b4 (some (x, y, z, w)) f = f x y z w := rfl
theorem pr_b5 {α β γ δ ε ζ : Type} (x : α) (y : β) (z : γ) (w : δ) (v : ε) (f : α → β → γ → δ → ε → Option ζ) : rk_b5 (some (x, y, z, w, v)) f = f x y z w v := rfl
theorem pr_b6 {α β γ δ ε ζ η : Type} (x : α) (y : β) (z : γ) (w : δ) (v : ε) (u : ζ) (f : α → β → γ → δ → ε → ζ → Option η) : rk_b6 (some (x, y, z, w, v, u)) f = f x y z w v u := rfl
theorem pr_oc0 {α : Type} (a : α) (f : Nat → α) : rk_oc none a f = a := rfl
theorem pr_oc1 {α : Type} (o : Nat) (a : α) (f : Nat → α) : rk_oc (some o) a f = f o := rfl
theorem pr_sc0 {α β γ : Type} (x : α) (f : α → γ) (g : β → γ) : rk_sc (.inl x) f g = f x := rfl
theorem pr_sc1 {α β γ : Type} (x : β) (f : α → γ) (g : β → γ) : rk_sc (.inr x) f g = g x := rfl
theorem pr_is {c : Prop} [Decidable c] {α : Type} {a b x : α} (h : c) (e : a = x) : (if c then a else b) = x := by rw [if_pos h, e]
theorem pr_no {c : Prop} [Decidable c] {α : Type} {a b x : α} (h : ¬ c) (e : b = x) : (if c then a else b) = x := by rw [if_neg h, e]
/-- a for loop: states by their number -/
theorem pr_for {α β : Type} {f : α → Option (α ⊕ β)} (P : Nat → α → Prop) (N : Nat) (T : β → Prop) (hs : ∀ k a, k < N → P k a → (∃ a', f a = some (.inl a') ∧ P (k + 1) a') ∨ ∃ b, f a = some (.inr b) ∧ T b) (he : ∀ a, P N a → ∃ b, f a = some (.inr b) ∧ T b) : ∀ (m k : Nat) (a : α), m + k = N → P k a → ∃ b, rk_while f a = some b ∧ T b
  | 0, k, a, hk, h => by
    have e : k = N := by omega
    subst e
    obtain ⟨b, h1, h2⟩ := he a h
    exact ⟨b, rk_while_out h1, h2⟩
  | m + 1, k, a, hk, h => by
    rcases hs k a (by omega) h with ⟨a', h1, h2⟩ | ⟨b, h1, h2⟩
    · obtain ⟨b, g1, g2⟩ := pr_for P N T hs he m (k + 1) a' (by omega) h2
      exact ⟨b, (rk_while_in h1).trans g1, g2⟩
    · exact ⟨b, rk_while_out h1, h2⟩
theorem pr_for0 {α β : Type} {f : α → Option (α ⊕ β)} (P : Nat → α → Prop) (N : Nat) (T : β → Prop) (a : α) (h0 : P 0 a) (hs : ∀ k a, k < N → P k a → (∃ a', f a = some (.inl a') ∧ P (k + 1) a') ∨ ∃ b, f a = some (.inr b) ∧ T b) (he : ∀ a, P N a → ∃ b, f a = some (.inr b) ∧ T b) : ∃ b, rk_while f a = some b ∧ T b :=
  pr_for P N T hs he N 0 a (by omega) h0
/-- a for loop with its states told -/
theorem pr_run {α β : Type} {f : α → Option (α ⊕ β)} (st : Nat → α) (N : Nat) {b : β} (hs : ∀ k, k < N → f (st k) = some (.inl (st (k + 1)))) (he : f (st N) = some (.inr b)) : rk_while f (st 0) = some b := by
  obtain ⟨b', h1, h2⟩ := pr_for0 (f := f) (fun k a => a = st k) N (fun z => z = b) (st 0) rfl (fun k a hk h => Or.inl ⟨_, by rw [h]; exact hs k hk, rfl⟩) (fun a h => ⟨b, by rw [h]; exact he, rfl⟩)
  rw [h1, h2]
/-- a while loop of the fuel sort -/
theorem pr_lfor {α β : Type} {f : α → Option (α ⊕ β)} (P : Nat → α → Prop) (N : Nat) (T : β → Prop) (hs : ∀ k a, k < N → P k a → (∃ a', f a = some (.inl a') ∧ P (k + 1) a') ∨ ∃ b, f a = some (.inr b) ∧ T b) (he : ∀ a, P N a → ∃ b, f a = some (.inr b) ∧ T b) : ∀ (m k : Nat) (a : α) (z : Nat), m + k = N → m < z → P k a → ∃ b, rk_loop f z a = some b ∧ T b
  | 0, k, a, z + 1, hk, hz, h => by
    have e : k = N := by omega
    subst e
    obtain ⟨b, h1, h2⟩ := he a h
    exact ⟨b, by show (f a).bind _ = _; rw [h1]; rfl, h2⟩
  | m + 1, k, a, z + 1, hk, hz, h => by
    rcases hs k a (by omega) h with ⟨a', h1, h2⟩ | ⟨b, h1, h2⟩
    · obtain ⟨b, g1, g2⟩ := pr_lfor P N T hs he m (k + 1) a' z (by omega) (by omega) h2
      exact ⟨b, by show (f a).bind _ = _; rw [h1]; exact g1, g2⟩
    · exact ⟨b, by show (f a).bind _ = _; rw [h1]; rfl, h2⟩
/-! comparisons of small numbers with written ones; nI e - 1 is a place or NONE -/
theorem pr_m1 : (-1 : Int32) = nI 0 - 1 := by decide
theorem pr_toM {e : Nat} (h : e < 2147483648) : (nI e - 1).toInt = (e : Int) - 1 := by
  have h1 : (nI e).toInt = (e : Int) := nI_toInt (by omega)
  have h2 : (1 : Int32).toInt = 1 := by decide
  rw [fb_subI (by omega) (by omega)]
  omega
theorem pr_Meq {e a : Nat} (h : e < 2147483648) (ha : a < 2147483648) : (nI e - 1 = nI a - 1) ↔ e = a := by
  rw [fa_eq, pr_toM h, pr_toM ha]
  omega
theorem pr_M0 {e : Nat} (h : e < 2147483648) : (nI e - 1 = -1) ↔ e = 0 := by rw [pr_m1, pr_Meq h (by omega)]
theorem pr_Ms (e : Nat) : nI (e + 1) - 1 = nI e := nI_pred e
theorem pr_n1 {a : Nat} (h : a < 2147483648) : ¬ nI a = -1 := by
  rw [fa_eq, nI_toInt (by omega)]
  have : (-1 : Int32).toInt = -1 := by decide
  omega
/-! longs out of ints -/
theorem pr_in (x l h : Int64) : f_X10_in x l h = some (if l ≤ x ∧ x ≤ h then 1 else 0) := by
  unfold f_X10_in
  by_cases h1 : lg_cmp x l < 0
  · rw [if_pos h1, if_neg]
    rintro ⟨h2, -⟩
    rw [lg_cmp_lt] at h1
    rw [fa_le64] at h2
    rw [fa_lt64] at h1
    omega
  · rw [if_neg h1]
    rw [lg_cmp_lt, fa_lt64] at h1
    by_cases h3 : 0 < lg_cmp x h
    · rw [if_pos h3, if_neg]
      rintro ⟨-, h2⟩
      rw [lg_cmp_gt, fa_lt64] at h3
      rw [fa_le64] at h2
      omega
    · rw [if_neg h3, if_pos]
      rw [lg_cmp_gt, fa_lt64] at h3
      rw [fa_le64, fa_le64]
      omega
/-- an int between two: by its own value -/
theorem pr_inI {x : Int32} {l h : Int64} {a b : Int} (hl : l.toInt = a) (hh : h.toInt = b) : f_X10_in x.toInt64 l h = some (if a ≤ x.toInt ∧ x.toInt ≤ b then 1 else 0) := by
  rw [pr_in]
  congr 1
  by_cases h1 : a ≤ x.toInt ∧ x.toInt ≤ b
  · rw [if_pos h1, if_pos]
    rw [fa_le64, fa_le64, Int32.toInt_toInt64, hl, hh]
    exact h1
  · rw [if_neg h1, if_neg]
    rw [fa_le64, fa_le64, Int32.toInt_toInt64, hl, hh]
    exact h1
theorem pr_bl0 : rk_bl 0 = some 0 := by decide
theorem pr_bl1 : rk_bl 1 = some 1 := by decide
/-- an int is small, or outside -/
theorem pr_tri (x : Int32) (n : Nat) (hn : n ≤ 2147483647) : (∃ j, j < n ∧ x = nI j) ∨ (x.toInt < 0 ∨ (n : Int) ≤ x.toInt) := by
  rcases pk_ix x (n := n) (by omega) with h | h | ⟨j, h1, h2⟩
  · right; left
    have : (0 : Int32).toInt = 0 := by decide
    rw [fa_lt] at h
    omega
  · right; right
    rw [fa_le, nI_toInt (by omega)] at h
    exact h
  · exact Or.inl ⟨j, h1, h2⟩
theorem pr_z : (0 : Int32).toInt = 0 := by decide
/-- both sides' 0 <= x < n -/
theorem pr_inN {x : Int32} {h : Int64} {n : Nat} (hn : n ≤ 2147483647) (hh : h.toInt = (n : Int) - 1) : (∃ j, j < n ∧ x = nI j ∧ f_X10_in x.toInt64 0 h = some 1) ∨ ((x.toInt < 0 ∨ (n : Int) ≤ x.toInt) ∧ f_X10_in x.toInt64 0 h = some 0) := by
  have h0 : (0 : Int64).toInt = 0 := by decide
  rcases pr_tri x n hn with ⟨j, h1, h2⟩ | h1
  · left
    refine ⟨j, h1, h2, ?_⟩
    have : x.toInt = (j : Int) := by rw [h2, nI_toInt (by omega)]
    rw [pr_inI h0 hh, if_pos (by omega)]
  · right
    refine ⟨h1, ?_⟩
    rw [pr_inI h0 hh, if_neg (by omega)]
/-- the class's own order of asking: below 0, from n on -/
theorem pr_lo {x : Int32} {n : Nat} {M : Int32} {α : Type} {a b c : α} (hM : M.toInt = (n : Int)) (h : x.toInt < 0 ∨ (n : Int) ≤ x.toInt) (e : a = b) : (if x < 0 then a else if M ≤ x then b else c) = a := by
  by_cases h1 : x < 0
  · rw [if_pos h1]
  · rw [if_neg h1]
    rw [fa_lt, pr_z] at h1
    rw [if_pos (by rw [fa_le, hM]; omega), e]
theorem pr_hi {j n : Nat} {M : Int32} {α : Type} {a b c : α} (hM : M.toInt = (n : Int)) (h : j < n) (hn : n ≤ 2147483647) : (if nI j < 0 then a else if M ≤ nI j then b else c) = c := by
  rw [if_neg (nI_pos (by omega)), if_neg]
  rw [fa_le, hM, nI_toInt (by omega)]
  omega
/-- the last number that is fit -/
theorem pr_loT {x : Int32} {n : Nat} {M : Int32} {α : Type} {a b c : α} (hM : M.toInt = (n : Int) - 1) (h : x.toInt < 0 ∨ (n : Int) ≤ x.toInt) (e : a = b) : (if x < 0 then a else if M < x then b else c) = a := by
  by_cases h1 : x < 0
  · rw [if_pos h1]
  · rw [if_neg h1]
    rw [fa_lt, pr_z] at h1
    rw [if_pos (by rw [fa_lt, hM]; omega), e]
theorem pr_hiT {j n : Nat} {M : Int32} {α : Type} {a b c : α} (hM : M.toInt = (n : Int) - 1) (h : j < n) (hn : n ≤ 2147483647) : (if nI j < 0 then a else if M < nI j then b else c) = c := by
  rw [if_neg (nI_pos (by omega)), if_neg]
  rw [fa_lt, hM, nI_toInt (by omega)]
  omega
/-! the guards of both sides -/
theorem pg_hand (a : Int32) : (∃ j, j < 10 ∧ a = nI j ∧ f_X9_isHand a = some 1 ∧ f_X10_isHand a = some 1) ∨ ((a.toInt < 0 ∨ 10 ≤ a.toInt) ∧ f_X9_isHand a = some 0 ∧ f_X10_isHand a = some 0) := by
  rcases pr_inN (x := a) (h := 9) (n := 10) (by omega) (by decide) with ⟨j, h1, rfl, h3⟩ | ⟨h1, h3⟩
  · left
    refine ⟨j, h1, rfl, ?_, ?_⟩
    · exact pr_hi (n := 10) (by decide) h1 (by omega)
    · unfold f_X10_isHand; rw [h3]; exact pr_bl1
  · right
    refine ⟨h1, ?_, ?_⟩
    · exact pr_lo (n := 10) (by decide) h1 rfl
    · unfold f_X10_isHand; rw [h3]; exact pr_bl0
theorem pg_hour (a : Int32) : (∃ j, j < 1000 ∧ a = nI j ∧ f_X9_isHour a = some 1 ∧ f_X10_isHour a = some 1) ∨ ((a.toInt < 0 ∨ 1000 ≤ a.toInt) ∧ f_X9_isHour a = some 0 ∧ f_X10_isHour a = some 0) := by
  rcases pr_inN (x := a) (h := 999) (n := 1000) (by omega) (by decide) with ⟨j, h1, rfl, h3⟩ | ⟨h1, h3⟩
  · left
    refine ⟨j, h1, rfl, ?_, ?_⟩
    · exact pr_hiT (n := 1000) (by decide) h1 (by omega)
    · unfold f_X10_isHour; rw [h3]; exact pr_bl1
  · right
    refine ⟨h1, ?_, ?_⟩
    · exact pr_loT (n := 1000) (by decide) h1 rfl
    · unfold f_X10_isHour; rw [h3]; exact pr_bl0
theorem pg_kind (a : Int32) : (∃ j, j < 6 ∧ a = nI j ∧ f_X9_isKind a = some 1 ∧ f_X10_in a.toInt64 0 5 = some 1) ∨ ((a.toInt < 0 ∨ 6 ≤ a.toInt) ∧ f_X9_isKind a = some 0 ∧ f_X10_in a.toInt64 0 5 = some 0) := by
  rcases pr_inN (x := a) (h := 5) (n := 6) (by omega) (by decide) with ⟨j, h1, rfl, h3⟩ | ⟨h1, h3⟩
  · exact Or.inl ⟨j, h1, rfl, pr_hi (n := 6) (by decide) h1 (by omega), h3⟩
  · exact Or.inr ⟨h1, pr_lo (n := 6) (by decide) h1 rfl, h3⟩
theorem pg_coin (a : Int32) : (∃ j, j < 1000000 ∧ a = nI j ∧ f_X9_isCoin a = some 1 ∧ f_X10_in a.toInt64 0 999999 = some 1) ∨ ((a.toInt < 0 ∨ 1000000 ≤ a.toInt) ∧ f_X9_isCoin a = some 0 ∧ f_X10_in a.toInt64 0 999999 = some 0) := by
  rcases pr_inN (x := a) (h := 999999) (n := 1000000) (by omega) (by decide) with ⟨j, h1, rfl, h3⟩ | ⟨h1, h3⟩
  · exact Or.inl ⟨j, h1, rfl, pr_hiT (n := 1000000) (by decide) h1 (by omega), h3⟩
  · exact Or.inr ⟨h1, pr_loT (n := 1000000) (by decide) h1 rfl, h3⟩
theorem pg_amount (a : Int32) : (∃ j, 1 ≤ j ∧ j < 1000 ∧ a = nI j ∧ f_X9_isAmount a = some 1 ∧ f_X10_in a.toInt64 1 999 = some 1) ∨ (f_X9_isAmount a = some 0 ∧ f_X10_in a.toInt64 1 999 = some 0) := by
  have e1 : (1 : Int64).toInt = 1 := by decide
  have e2 : (999 : Int64).toInt = 999 := by decide
  have f1 : (1 : Int32).toInt = 1 := by decide
  have f2 : (999 : Int32).toInt = 999 := by decide
  unfold f_X9_isAmount
  rw [pr_inI e1 e2]
  simp only [fa_lt, f1, f2]
  rcases pr_tri a 1000 (by omega) with ⟨j, h1, h2⟩ | h1
  · have h3 : a.toInt = (j : Int) := by rw [h2, nI_toInt (by omega)]
    rcases Nat.eq_zero_or_pos j with h0 | h0
    · right
      exact ⟨if_pos (by omega), by rw [if_neg (by omega)]⟩
    · left
      exact ⟨j, h0, h1, h2, by rw [if_neg (by omega), if_neg (by omega)], by rw [if_pos (by omega)]⟩
  · right
    refine ⟨?_, by rw [if_neg (by omega)]⟩
    by_cases h4 : a.toInt < 1
    · rw [if_pos h4]
    · rw [if_neg h4, if_pos (by omega)]
theorem pg_place (a : Int32) : (∃ e, e < 1001 ∧ a = nI e - 1 ∧ f_X9_isHourOrNone a = some 1 ∧ f_X10_in a.toInt64 (-1) 999 = some 1) ∨ (f_X9_isHourOrNone a = some 0 ∧ f_X10_in a.toInt64 (-1) 999 = some 0) := by
  have e1 : (-1 : Int64).toInt = -1 := by decide
  have e2 : (999 : Int64).toInt = 999 := by decide
  have f1 : (-1 : Int32).toInt = -1 := by decide
  unfold f_X9_isHourOrNone
  rw [pr_inI e1 e2]
  by_cases h : a = -1
  · left
    refine ⟨0, by omega, h.trans pr_m1, if_pos h, ?_⟩
    rw [h, f1]
    rfl
  · rw [if_neg h]
    have h' : a.toInt ≠ -1 := fun e => h (by rw [fa_eq, f1]; exact e)
    rcases pg_hour a with ⟨j, h1, h2, h3, h4⟩ | ⟨h1, h3, h4⟩
    · left
      have h5 : a.toInt = (j : Int) := by rw [h2, nI_toInt (by omega)]
      refine ⟨j + 1, by omega, by rw [h2, pr_Ms], ?_, by rw [if_pos (by omega)]⟩
      rw [h3]; rfl
    · right
      refine ⟨?_, by rw [if_neg (by omega)]⟩
      rw [h3]; rfl
/-- 0 .. n - 1 in the class's order, for the told things: what, part -/
theorem pg_what (a : Int32) {h : Int64} (n : Nat) (hn : n ≤ 2147483647) (hh : h.toInt = (n : Int) - 1) : (∃ j, j < n ∧ a = nI j ∧ f_X10_in a.toInt64 0 h = some 1) ∨ ((a.toInt < 0 ∨ (n : Int) ≤ a.toInt) ∧ f_X10_in a.toInt64 0 h = some 0) := pr_inN hn hh
