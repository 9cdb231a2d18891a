/-! THE STATE OF BOTH SIDES. sv k i of sale k: 0 kind, 1 cargo, 2 seller, 3 buyer, 4 amount, 5 price, 6 hour, 7 the paper's hour and 1 (0: none), 8 paid; cv k i of cargo k: 0 amount, 1 first hand, 2 3 4 hours and 1 (0: none) -/
abbrev pv_V : Type := Nat → Nat → Nat
def pv_B (c s : Nat) (sv cv : pv_V) : Prop := c ≤ 4 ∧ s ≤ 24 ∧ (∀ k, k < s → sv k 0 < 6 ∧ sv k 1 < c ∧ sv k 2 < 10 ∧ sv k 3 < 10 ∧ sv k 2 ≠ sv k 3 ∧ 1 ≤ sv k 4 ∧ sv k 4 < 1000 ∧ sv k 5 < 1000 ∧ sv k 6 < 1000 ∧ sv k 7 < 1001 ∧ sv k 8 < 1000000) ∧ ∀ k, k < c → 1 ≤ cv k 0 ∧ cv k 0 < 1000 ∧ cv k 1 < 10 ∧ ∀ j, j < 3 → cv k (2 + j) < 1001
/-- the places of the class's own objects -/
def pv_O (n c s : Nat) (oc os : Nat → Nat) : Prop := (∀ k, k < c → 57 ≤ oc k ∧ oc k + 2 < n) ∧ (∀ k, k < s → 57 ≤ os k ∧ os k < n) ∧ (∀ i j, i < c → j < c → oc i = oc j → i = j) ∧ ∀ i j, i < s → j < s → os i = os j → i = j
def pv_CS (s : Nat) (oc os : Nat → Nat) (sv : pv_V) (S : rk_Sh) (I : rk_I) (R : rk_R) : Prop := ∀ k, k < s → R 2 k = some (os k) ∧ S (os k) = (5, 11) ∧ R (os k) 1 = some (oc (sv k 1)) ∧ I (os k) 0 = nI (sv k 0) ∧ I (os k) 2 = nI (sv k 2) ∧ I (os k) 3 = nI (sv k 3) ∧ I (os k) 4 = nI (sv k 4) ∧ I (os k) 5 = nI (sv k 5) ∧ I (os k) 6 = nI (sv k 6) ∧ I (os k) 7 = nI (sv k 7) - 1 ∧ I (os k) 8 = nI (sv k 8)
def pv_CC (c : Nat) (oc : Nat → Nat) (cv : pv_V) (S : rk_Sh) (I : rk_I) (R : rk_R) : Prop := ∀ k, k < c → R 1 k = some (oc k) ∧ S (oc k) = (0, 5) ∧ S (oc k + 1) = (20, 3) ∧ S (oc k + 2) = (20, 3) ∧ R (oc k) 3 = some (oc k + 1) ∧ R (oc k) 4 = some (oc k + 2) ∧ I (oc k) 0 = nI k ∧ I (oc k) 1 = nI (cv k 0) ∧ I (oc k) 2 = nI (cv k 1) ∧ ∀ j, j < 3 → I (oc k + 1) j = nI (cv k (2 + j)) - 1
/-- the class's side -/
def pv_X (n c s : Nat) (oc os : Nat → Nat) (sv cv : pv_V) (S : rk_Sh) (I : rk_I) (R : rk_R) : Prop := pv_O n c s oc os ∧ I 0 1 = nI c ∧ I 0 3 = nI s ∧ pv_CS s oc os sv S I R ∧ pv_CC c oc cv S I R
def pv_MS (s : Nat) (sv : pv_V) (I : rk_I) : Prop := ∀ k, k < s → I 38 k = nI (sv k 0) ∧ I 39 k = nI (sv k 1) ∧ I 40 k = nI (sv k 2) ∧ I 41 k = nI (sv k 3) ∧ I 42 k = nI (sv k 4) ∧ I 43 k = nI (sv k 5) ∧ I 44 k = nI (sv k 6) ∧ I 45 k = nI (sv k 7) - 1 ∧ I 46 k = nI (sv k 8)
def pv_MC (c : Nat) (cv : pv_V) (I : rk_I) : Prop := ∀ k, k < c → I 35 k = nI (cv k 0) ∧ I 36 k = nI (cv k 1) ∧ ∀ j, j < 3 → I 37 (3 * k + j) = nI (cv k (2 + j)) - 1
/-- the reference's side -/
def pv_Y (c s : Nat) (sv cv : pv_V) (I : rk_I) : Prop := I 31 10 = nI c ∧ I 31 20 = nI s ∧ pv_MS s sv I ∧ pv_MC c cv I
/-- the tape -/
def pv_F (I : rk_I) : Prop := ∃ b, b ≤ 160 ∧ I 4 1 = nI b ∧ I 31 6 = nI b ∧ ∀ i, i < b → ∃ x, x < 256 ∧ I 5 i = nI x ∧ I 34 i = nI x
/-- the sheets -/
def pv_H (I : rk_I) : Prop := ∀ q, q < 4 → (I (20 + 2 * q) 1 = -1 ∧ I 53 q = 0) ∨ (I 53 q = 1 ∧ ∃ a m, a < 3 ∧ m ≤ 40 ∧ I (20 + 2 * q) 1 = nI a ∧ I 54 q = nI a ∧ I (20 + 2 * q) 2 = nI m ∧ I 55 q = nI m ∧ ∀ i, i < m → I (21 + 2 * q) i = I 56 (40 * q + i))
/-- the image -/
def pv_G (c s t : Nat) (oc os : Nat → Nat) (I : rk_I) : Prop := ∃ h ic is ir, h ≤ 1 ∧ I 0 13 = nI h ∧ I 31 38 = nI h ∧ ic ≤ c ∧ I 0 14 = nI ic ∧ I 31 39 = nI ic ∧ is ≤ s ∧ I 0 15 = nI is ∧ I 31 40 = nI is ∧ ir < t ∧ I 0 16 = nI ir ∧ I 31 41 = nI ir ∧ (∀ k, k < is → ∃ p q, p < 1001 ∧ q < 1000000 ∧ I (os k) 9 = nI p - 1 ∧ I 51 k = nI p - 1 ∧ I (os k) 10 = nI q ∧ I 52 k = nI q) ∧ ∀ k, k < ic → ∀ j, j < 3 → ∃ p, p < 1001 ∧ I (oc k + 2) j = nI p - 1 ∧ I 50 (3 * k + j) = nI p - 1
/-! TEXTS: bytes, tokens, codes -/
def tz_bl (x : Nat) : Prop := x = 32 ∨ x = 10
def tz_le (x : Nat) : Prop := 97 ≤ x ∧ x ≤ 122
def tz_di (x : Nat) : Prop := 48 ≤ x ∧ x ≤ 57
def tz_si (x : Nat) : Prop := x = 40 ∨ x = 41 ∨ x = 59 ∨ x = 43 ∨ x = 45 ∨ x = 42 ∨ x = 60 ∨ x = 61
def tz_wd : Nat → List Nat
  | 0 => [107, 105, 110, 100]
  | 1 => [104, 111, 117, 114]
  | 2 => [112, 114, 105, 99, 101]
  | 3 => [97, 109, 111, 117, 110, 116]
  | 4 => [112, 97, 105, 100]
  | 5 => [100, 117, 101]
  | 6 => [111, 114]
  | 7 => [97, 110, 100]
  | 8 => [110, 111, 116]
  | 9 => [108, 97, 116, 101]
  | 10 => [99, 117, 116]
  | _ => [115, 116, 111, 112]
def tz_sl (bs : Nat → Nat) (p e : Nat) : List Nat := (List.range (e - p)).map (fun i => bs (p + i))
def tz_nm (bs : Nat → Nat) (p : Nat) : Nat → Nat
  | 0 => 0
  | m + 1 => 10 * tz_nm bs p m + (bs (p + m) - 48)
/-- which token stands from p to e -/
def tz_tk (bs : Nat → Nat) (sz p e t : Nat) : Prop :=
  (tz_le (bs p) ∧ (∀ i, p ≤ i → i < e → tz_le (bs i)) ∧ (e < sz → ¬ tz_le (bs e)) ∧ ((∃ w, w < 12 ∧ tz_sl bs p e = tz_wd w ∧ t = w) ∨ ((∀ w, w < 12 → tz_sl bs p e ≠ tz_wd w) ∧ t = 21))) ∨
  (tz_di (bs p) ∧ (∀ i, p ≤ i → i < e → tz_di (bs i)) ∧ (e < sz → ¬ tz_di (bs e)) ∧ ((e - p ≤ 4 ∧ t = 100 + tz_nm bs p (e - p)) ∨ (4 < e - p ∧ t = 21))) ∨
  (¬ tz_le (bs p) ∧ ¬ tz_di (bs p) ∧ e = p + 1 ∧ ((tz_si (bs p) ∧ t = bs p) ∨ (¬ tz_si (bs p) ∧ t = 21)))
/-- the bytes bs (sz of them) are the tokens tk at the places pl; token j begins its search at st j; tc of them, then the end -/
def tz_T (bs : Nat → Nat) (sz : Nat) (tk pl st : Nat → Nat) (tc : Nat) : Prop :=
  st 0 = 0 ∧ (∀ j, j < tc → st j ≤ pl j ∧ pl j < sz ∧ (∀ i, st j ≤ i → i < pl j → tz_bl (bs i)) ∧ ¬ tz_bl (bs (pl j)) ∧ pl j < st (j + 1) ∧ st (j + 1) ≤ sz ∧ tz_tk bs sz (pl j) (st (j + 1)) (tk j)) ∧ st tc ≤ sz ∧ (∀ i, st tc ≤ i → i < sz → tz_bl (bs i)) ∧ pl tc = sz ∧ tk tc = 20
/-! THE GRAMMAR: a fault at a token, or the next token and the codes -/
abbrev gp_R : Type := Nat ⊕ (Nat × List Nat)
def gp_b (r : gp_R) (f : Nat → List Nat → gp_R) : gp_R := match r with
  | .inl x => .inl x
  | .inr q => f q.1 q.2
/-- which tokens join at a level: 0 or, 1 and, 3 + -, 4 * -/
def gp_j (t lv : Nat) : Bool := match lv with
  | 0 => t == 6
  | 1 => t == 7
  | 3 => t == 43 || t == 45
  | 4 => t == 42
  | _ => false
def gp_l (tk : Nat → Nat) (g : Nat → gp_R) (lv : Nat) : Nat → Nat → List Nat → gp_R
  | 0, a, cs => .inr (a, cs)
  | m + 1, a, cs => if gp_j (tk a) lv then gp_b (g (a + 1)) (fun a' c' => gp_l tk g lv m a' (cs ++ c' ++ [tk a])) else .inr (a, cs)
def gp (tk : Nat → Nat) : Nat → Nat → Nat → Nat → gp_R
  | 0, _, _, a => .inl a
  | k + 1, lv, op, a =>
    if lv = 2 then
      if tk a = 8 then
        if op < 5 then gp_b (gp tk k 2 (op + 1) (a + 1)) (fun a' c' => .inr (a', c' ++ [8])) else .inl a
      else gp_b (gp tk k 3 op a) (fun a1 c1 => if tk a1 = 60 ∨ tk a1 = 61 then gp_b (gp tk k 3 op (a1 + 1)) (fun a2 c2 => .inr (a2, c1 ++ c2 ++ [tk a1])) else .inr (a1, c1))
    else if lv = 5 then
      if tk a < 6 ∨ 100 ≤ tk a then .inr (a + 1, [tk a])
      else if tk a = 45 then
        if op < 5 then gp_b (gp tk k 5 (op + 1) (a + 1)) (fun a' c' => .inr (a', c' ++ [22])) else .inl a
      else if tk a = 40 then
        if op < 5 then gp_b (gp tk k 0 (op + 1) (a + 1)) (fun a' c' => if tk a' = 41 then .inr (a' + 1, c') else .inl a') else .inl a
      else .inl a
    else gp_b (gp tk k (lv + 1) op a) (fun a1 c1 => gp_l tk (gp tk k (lv + 1) op) lv 160 a1 c1)
/-- one part of a text: key, what is said, the sign behind it -/
def gp_p (tk : Nat → Nat) (j a : Nat) : gp_R := if tk a = 9 + j then gp_b (gp tk 36 0 0 (a + 1)) (fun a' c' => if tk a' = 59 then .inr (a' + 1, c') else .inl a') else .inl a
/-- a text: a fault at a token, or the codes of its parts -/
def gp_t (tk : Nat → Nat) : Nat ⊕ (List Nat × List Nat × List Nat) := match gp_p tk 0 0 with
  | .inl f => .inl f
  | .inr q0 => match gp_p tk 1 q0.1 with
    | .inl f => .inl f
    | .inr q1 => match gp_p tk 2 q1.1 with
      | .inl f => .inl f
      | .inr q2 => if tk q2.1 = 20 then .inr (q0.2, q1.2, q2.2) else .inl q2.1
/-- bytes by (sz of them) are the text whose codes are cd (N of them), whose ends are en -/
def pv_K (by_ : Nat → Int32) (sz : Nat) (cd : Nat → Int32) (N : Nat) (en : Nat → Int32) : Prop := ∃ (bs tk pl st : Nat → Nat) (tc : Nat) (c0 c1 c2 : List Nat), sz ≤ 160 ∧ (∀ i, i < sz → bs i < 256 ∧ by_ i = nI (bs i)) ∧ tz_T bs sz tk pl st tc ∧ gp_t tk = .inr (c0, c1, c2) ∧ N = c0.length + c1.length + c2.length ∧ N ≤ 160 ∧ (∀ i, i < N → cd i = nI ((c0 ++ c1 ++ c2).getD i 0)) ∧ en 0 = nI c0.length ∧ en 1 = nI (c0.length + c1.length) ∧ en 2 = nI N
def pv_T (n t r : Nat) (ot : Nat → Nat) (S : rk_Sh) (I : rk_I) (R : rk_R) : Prop := 1 ≤ t ∧ t ≤ 6 ∧ I 0 5 = nI t ∧ I 31 3 = nI t ∧ r < t ∧ I 0 6 = nI r ∧ I 31 4 = nI r ∧ ∀ k, k < t → R 3 k = some (ot k) ∧ (ot k = 28 ∨ (57 ≤ ot k ∧ ot k + 2 < n)) ∧ S (ot k) = (7, 2) ∧ R (ot k) 0 = some (ot k + 1) ∧ R (ot k) 1 = some (ot k + 2) ∧ S (ot k + 2) = (20, 3) ∧ ∃ N sz, S (ot k + 1) = (20, N) ∧ I 33 k = nI sz ∧ pv_K (fun i => I 32 (160 * k + i)) sz (I (ot k + 1)) N (I (ot k + 2))
/-- THE INVARIANT -/
def iv (n : Nat) (S : rk_Sh) (I : rk_I) (R : rk_R) : Prop := ∃ (c s t r : Nat) (oc os ot : Nat → Nat) (sv cv : pv_V), rk_LC S R ∧ rk_LM S R ∧ 57 ≤ n ∧ n ≤ 57 + 3 * c + s + 3 * t ∧ pv_B c s sv cv ∧ pv_X n c s oc os sv cv S I R ∧ pv_Y c s sv cv I ∧ pv_T n t r ot S I R ∧ pv_F I ∧ pv_H I ∧ pv_G c s t oc os I
/-! WHAT A CALL MAY WRITE AS IT LIKES (scratch): all other cells keep -/
def kp (k i : Nat) : Prop := k ≠ 6 ∧ k ≠ 7 ∧ k ≠ 8 ∧ k ≠ 9 ∧ k ≠ 10 ∧ k ≠ 11 ∧ k ≠ 12 ∧ k ≠ 13 ∧ k ≠ 15 ∧ k ≠ 16 ∧ k ≠ 17 ∧ k ≠ 19 ∧ k ≠ 47 ∧ k ≠ 48 ∧ k ≠ 49 ∧ (k = 4 → i ≤ 1) ∧ (k = 31 → i < 23 ∨ 38 ≤ i)
def kI (I I' : rk_I) : Prop := ∀ k i, kp k i → I' k i = I k i
def kR (R R' : rk_R) : Prop := ∀ k i, k ≠ 14 → ¬ (k = 16 ∧ i = 1) → R' k i = R k i
theorem kI_r (I : rk_I) : kI I I := fun _ _ _ => rfl
theorem kR_r (R : rk_R) : kR R R := fun _ _ _ _ => rfl
theorem kI_t {I I' I'' : rk_I} (h : kI I I') (h2 : kI I' I'') : kI I I'' := fun k i hk => (h2 k i hk).trans (h k i hk)
theorem kR_t {R R' R'' : rk_R} (h : kR R R') (h2 : kR R' R'') : kR R R'' := fun k i hk hk2 => (h2 k i hk hk2).trans (h k i hk hk2)
theorem kI_big {I I' : rk_I} (h : kI I I') {k : Nat} (hk : 57 ≤ k) : I' k = I k := by
  funext i
  exact h k i (by unfold kp; omega)
theorem kI_at {I I' : rk_I} (h : kI I I') (k : Nat) (hk : ∀ i, kp k i) : I' k = I k := by
  funext i
  exact h k i (hk i)
theorem kR_big {R R' : rk_R} (h : kR R R') {k : Nat} (hk : k ≠ 14) (hk2 : k ≠ 16) : R' k = R k := by
  funext i
  exact h k i hk (fun z => hk2 z.1)
theorem kLC {S : rk_Sh} {R R' : rk_R} (h : rk_LC S R) (hk : kR R R') : rk_LC S R' := by
  refine ⟨h.1, fun k i q hq => ?_⟩
  have h1 := h.2 k i q hq
  rw [hk k i ?_ ?_]
  · exact h1
  · rintro rfl
    cases hq
  · rintro ⟨rfl, rfl⟩
    cases hq
theorem kLM {S : rk_Sh} {R R' : rk_R} (h : rk_LM S R) (hk : kR R R') : rk_LM S R' := by
  refine ⟨h.1, fun k i q hq => ?_⟩
  have h1 := h.2 k i q hq
  rw [hk k i ?_ ?_]
  · exact h1
  · rintro rfl
    cases hq
  · rintro ⟨rfl, rfl⟩
    cases hq
theorem kX {n c s : Nat} {oc os : Nat → Nat} {sv cv : pv_V} {S : rk_Sh} {I I' : rk_I} {R R' : rk_R} (h : pv_X n c s oc os sv cv S I R) (hI : kI I I') (hR : kR R R') : pv_X n c s oc os sv cv S I' R' := by
  obtain ⟨hO, h1, h2, h3, h4⟩ := h
  refine ⟨hO, by rw [hI 0 1 (by unfold kp; omega)]; exact h1, by rw [hI 0 3 (by unfold kp; omega)]; exact h2, fun k hk => ?_, fun k hk => ?_⟩
  · have := (hO.2.1 k hk).1
    rw [kI_big hI (by omega : 57 ≤ os k), kR_big hR (by omega : os k ≠ 14) (by omega), kR_big hR (by omega : 2 ≠ 14) (by omega)]
    exact h3 k hk
  · have := (hO.1 k hk).1
    rw [kI_big hI (by omega : 57 ≤ oc k), kI_big hI (by omega : 57 ≤ oc k + 1), kR_big hR (by omega : oc k ≠ 14) (by omega), kR_big hR (by omega : 1 ≠ 14) (by omega)]
    exact h4 k hk
theorem kY {c s : Nat} {sv cv : pv_V} {I I' : rk_I} (h : pv_Y c s sv cv I) (hI : kI I I') : pv_Y c s sv cv I' := by
  obtain ⟨h1, h2, h3, h4⟩ := h
  have e : ∀ k, 32 ≤ k → k < 47 → I' k = I k := fun k a b => kI_at hI k (fun i => by unfold kp; omega)
  refine ⟨by rw [hI 31 10 (by unfold kp; omega)]; exact h1, by rw [hI 31 20 (by unfold kp; omega)]; exact h2, fun k hk => ?_, fun k hk => ?_⟩
  · rw [e 38 (by omega) (by omega), e 39 (by omega) (by omega), e 40 (by omega) (by omega), e 41 (by omega) (by omega), e 42 (by omega) (by omega), e 43 (by omega) (by omega), e 44 (by omega) (by omega), e 45 (by omega) (by omega), e 46 (by omega) (by omega)]
    exact h3 k hk
  · rw [e 35 (by omega) (by omega), e 36 (by omega) (by omega), e 37 (by omega) (by omega)]
    exact h4 k hk
theorem kF {I I' : rk_I} (h : pv_F I) (hI : kI I I') : pv_F I' := by
  obtain ⟨b, h1, h2, h3, h4⟩ := h
  refine ⟨b, h1, by rw [hI 4 1 (by unfold kp; omega)]; exact h2, by rw [hI 31 6 (by unfold kp; omega)]; exact h3, fun i hi => ?_⟩
  rw [hI 5 i (by unfold kp; omega), hI 34 i (by unfold kp; omega)]
  exact h4 i hi
theorem kH {I I' : rk_I} (h : pv_H I) (hI : kI I I') : pv_H I' := by
  intro q hq
  have e1 : I' (20 + 2 * q) = I (20 + 2 * q) := kI_at hI _ (fun i => by unfold kp; omega)
  have e2 : I' (21 + 2 * q) = I (21 + 2 * q) := kI_at hI _ (fun i => by unfold kp; omega)
  have e3 : I' 53 = I 53 := kI_at hI _ (fun i => by unfold kp; omega)
  have e4 : I' 54 = I 54 := kI_at hI _ (fun i => by unfold kp; omega)
  have e5 : I' 55 = I 55 := kI_at hI _ (fun i => by unfold kp; omega)
  have e6 : I' 56 = I 56 := kI_at hI _ (fun i => by unfold kp; omega)
  rw [e1, e2, e3, e4, e5, e6]
  exact h q hq
theorem kG {n c s t : Nat} {oc os : Nat → Nat} {I I' : rk_I} (h : pv_G c s t oc os I) (hO : pv_O n c s oc os) (hI : kI I I') : pv_G c s t oc os I' := by
  obtain ⟨x, ic, is, ir, h1, h2, h3, h4, h5, h6, h7, h8, h9, h10, h11, h12, h13, h14⟩ := h
  refine ⟨x, ic, is, ir, h1, ?_, ?_, h4, ?_, ?_, h7, ?_, ?_, h10, ?_, ?_, fun k hk => ?_, fun k hk j hj => ?_⟩
  · rw [hI 0 13 (by unfold kp; omega)]; exact h2
  · rw [hI 31 38 (by unfold kp; omega)]; exact h3
  · rw [hI 0 14 (by unfold kp; omega)]; exact h5
  · rw [hI 31 39 (by unfold kp; omega)]; exact h6
  · rw [hI 0 15 (by unfold kp; omega)]; exact h8
  · rw [hI 31 40 (by unfold kp; omega)]; exact h9
  · rw [hI 0 16 (by unfold kp; omega)]; exact h11
  · rw [hI 31 41 (by unfold kp; omega)]; exact h12
  · have := (hO.2.1 k (by omega)).1
    rw [kI_big hI (by omega : 57 ≤ os k), hI 51 k (by unfold kp; omega), hI 52 k (by unfold kp; omega)]
    exact h13 k hk
  · have := (hO.1 k (by omega)).1
    rw [kI_big hI (by omega : 57 ≤ oc k + 2), hI 50 _ (by unfold kp; omega)]
    exact h14 k hk j hj
theorem kT {n t r : Nat} {ot : Nat → Nat} {S : rk_Sh} {I I' : rk_I} {R R' : rk_R} (h : pv_T n t r ot S I R) (hI : kI I I') (hR : kR R R') : pv_T n t r ot S I' R' := by
  obtain ⟨h1, h2, h3, h4, h5, h6, h7, h8⟩ := h
  refine ⟨h1, h2, by rw [hI 0 5 (by unfold kp; omega)]; exact h3, by rw [hI 31 3 (by unfold kp; omega)]; exact h4, h5, by rw [hI 0 6 (by unfold kp; omega)]; exact h6, by rw [hI 31 4 (by unfold kp; omega)]; exact h7, fun k hk => ?_⟩
  have g := h8 k hk
  have hb := g.2.1
  have e1 : I' (ot k + 1) = I (ot k + 1) := kI_at hI _ (fun i => by unfold kp; omega)
  have e2 : I' (ot k + 2) = I (ot k + 2) := kI_at hI _ (fun i => by unfold kp; omega)
  have e3 : I' 33 = I 33 := kI_at hI _ (fun i => by unfold kp; omega)
  have e4 : I' 32 = I 32 := kI_at hI _ (fun i => by unfold kp; omega)
  rw [e1, e2, e3, e4, kR_big hR (by omega : ot k ≠ 14) (by omega), kR_big hR (by omega : 3 ≠ 14) (by omega)]
  exact g
theorem iv_k {n : Nat} {S : rk_Sh} {I I' : rk_I} {R R' : rk_R} (h : iv n S I R) (hI : kI I I') (hR : kR R R') : iv n S I' R' := by
  obtain ⟨c, s, t, r, oc, os, ot, sv, cv, h1, h2, h3, h4, h5, h6, h7, h8, h9, h10, h11⟩ := h
  exact ⟨c, s, t, r, oc, os, ot, sv, cv, kLC h1 hR, kLM h2 hR, h3, h4, h5, kX h6 hI hR, kY h7 hI, kT h8 hI hR, kF h9 hI, kH h10 hI, kG h11 h6.1 hI⟩
