/-! WHAT THE REFERENCE SEES AT A TOKEN -/
theorem lg_eq (x y : Int64) : lg_cmp x y = 0 ↔ x = y := by
  unfold lg_cmp
  by_cases h1 : x > y
  · rw [if_pos h1]
    constructor
    · intro e; exact absurd e (by decide)
    · intro e
      subst e
      have h1' := (fa_lt64 x x).mp h1
      omega
  · rw [if_neg h1]
    by_cases h2 : x = y
    · rw [if_pos h2]
      exact ⟨fun _ => h2, fun _ => rfl⟩
    · rw [if_neg h2]
      exact ⟨fun e => absurd e (by decide), fun e => absurd e h2⟩
section MS
variable {tk pl st : Nat → Nat} {tc j : Nat} {I : rk_I} {J : rk_J}
theorem wv_one : ∀ v, v < 12 → ∀ w, w < 12 → wv v = wv w → v = w := by decide
theorem mn_word (h : mN tk pl st tc j I J) (h0 : I 31 30 = 0) {w : Nat} (hw : w < 12) {x : Int64} (hx : x = lN (wv w)) : f_X10_isWord I J x = some (if tk j = w then 1 else 0) := by
  subst hx
  unfold f_X10_isWord
  rw [if_pos h0]
  have hc := lg_eq (J 31 27) (lN (wv w))
  rcases h.2.2 with ⟨a, b, c⟩ | ⟨a, b⟩ | ⟨a, b⟩ | ⟨a, a2, b, c⟩ | ⟨a, b, c⟩
  · rw [if_pos b]
    by_cases he : tk j = w
    · rw [if_pos he, if_pos (hc.mpr (by rw [c, he]))]
    · rw [if_neg he, if_neg (fun z => he (wv_one _ a _ hw ((fb_lN_inj (mk_lt _ a) (mk_lt _ hw)).mp (by rw [← c]; exact hc.mp z))))]
  · rw [if_neg (by rw [b]; decide), if_neg (by omega)]
  · rcases b with b | ⟨b, c⟩
    · rw [if_neg (by rw [b]; decide), if_neg (by omega)]
    · rw [if_pos b, if_neg (fun z => c w hw (hc.mp z)), if_neg (by omega)]
  · rw [if_neg (by rw [b]; decide), if_neg (by omega)]
  · rw [if_neg (by rw [b]; decide), if_neg (by unfold tz_si at a; omega)]
theorem mn_sign (h : mN tk pl st tc j I J) (h0 : I 31 30 = 0) {s : Nat} (hs : tz_si s) {x : Int32} (hx : x = nI s) : f_X10_isSign I J x = some (if tk j = s then 1 else 0) := by
  subst hx
  unfold tz_si at hs
  unfold f_X10_isSign
  rw [if_pos h0, nI_l (by omega)]
  have hc := lg_eq (J 31 27) (lN s)
  rcases h.2.2 with ⟨a, b, c⟩ | ⟨a, b⟩ | ⟨a, b⟩ | ⟨a, a2, b, c⟩ | ⟨a, b, c⟩
  · rw [if_neg (by rw [b]; decide), if_neg (by omega)]
  · rw [if_neg (by rw [b]; decide), if_neg (by omega)]
  · rcases b with b | ⟨b, c⟩
    · rw [if_neg (by rw [b]; decide), if_neg (by omega)]
    · rw [if_neg (by rw [b]; decide), if_neg (by omega)]
  · rw [if_neg (by rw [b]; decide), if_neg (by omega)]
  · unfold tz_si at a
    rw [if_pos b]
    by_cases he : tk j = s
    · rw [if_pos he, if_pos (hc.mpr (by rw [c, he]))]
    · rw [if_neg he, if_neg (fun z => he ((fb_lN_inj (by omega) (by omega)).mp (by rw [← c]; exact hc.mp z)))]
theorem mn_wordF (h0 : I 31 30 = 1) (x : Int64) : f_X10_isWord I J x = some 0 := by
  unfold f_X10_isWord
  rw [if_neg (by rw [h0]; decide)]
theorem mn_signF (h0 : I 31 30 = 1) (x : Int32) : f_X10_isSign I J x = some 0 := by
  unfold f_X10_isSign
  rw [if_neg (by rw [h0]; decide)]
theorem mn_failF (h0 : I 31 30 = 1) : f_X10_fail I = some I := by
  unfold f_X10_fail
  rw [if_neg (by rw [h0]; decide)]
theorem mn_fail (h : mN tk pl st tc j I J) (h0 : I 31 30 = 0) : f_X10_fail I = some (rk_ui (rk_ui I 31 30 1) 31 31 (nI (pl j))) := by
  unfold f_X10_fail
  rw [if_pos h0, pr_sb, pr_sb, ui_n (by omega), h.1]
end MS
/-! THE STACK MACHINE, by lists -/
def ev_p (s : List Int32) : Int32 := s.headD 0
def ev_j (x : Nat) (a b : Int32) : Int32 := if x = 6 then (if a = 0 then (if b = 0 then 0 else 1) else 1) else if x = 7 then (if a = 0 then 0 else (if b = 0 then 0 else 1)) else if x = 43 then a + b else if x = 45 then a - b else if x = 60 then (if b ≤ a then 0 else 1) else if x = 61 then (if a = b then 1 else 0) else a * b
def ev_s (nm : Nat → Int32) (s : List Int32) (x : Nat) : List Int32 := if 100 ≤ x then nI (x - 100) :: s else if x < 6 then nm x :: s else if x = 8 then (if ev_p s = 0 then 1 else 0) :: s.tail else if x = 22 then (- ev_p s) :: s.tail else ev_j x (ev_p s.tail) (ev_p s) :: s.tail.tail
def ev (nm : Nat → Int32) (c : List Nat) (s : List Int32) : List Int32 := c.foldl (ev_s nm) s
/-- the codes c say v -/
def eV (nm : Nat → Int32) (c : List Nat) (v : Int32) : Prop := ∀ s, ev nm c s = v :: s
theorem eV_1 {nm : Nat → Int32} {x : Nat} {v : Int32} (h : ∀ s, ev_s nm s x = v :: s) : eV nm [x] v := fun s => h s
theorem eV_u {nm : Nat → Int32} {c : List Nat} {v w : Int32} {x : Nat} (h : eV nm c v) (hx : ∀ s, ev_s nm (v :: s) x = w :: s) : eV nm (c ++ [x]) w := fun s => by
  have := h s
  unfold ev at this ⊢
  rw [List.foldl_append, this]
  exact hx s
theorem eV_b {nm : Nat → Int32} {c d : List Nat} {v u w : Int32} {x : Nat} (h : eV nm c v) (h2 : eV nm d u) (hx : ∀ s, ev_s nm (u :: v :: s) x = w :: s) : eV nm (c ++ d ++ [x]) w := fun s => by
  have h1 := h s
  have h3 := h2 (v :: s)
  unfold ev at h1 h3 ⊢
  rw [List.foldl_append, List.foldl_append, h1, h3]
  exact hx s
