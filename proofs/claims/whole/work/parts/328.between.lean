/-! between: both sides against one walk through the hours. B t: the least, the greatest held at the hours from lo to t at which something passes, and at lo -/
def bt_B (H : Nat → Nat) (ev : Nat → Bool) (wh lo : Nat) : Nat → Nat
  | 0 => H lo
  | j + 1 => if ev (lo + j + 1) then (if wh = 0 then min (bt_B H ev wh lo j) (H (lo + j + 1)) else max (bt_B H ev wh lo j) (H (lo + j + 1))) else bt_B H ev wh lo j
theorem bt_skip {H : Nat → Nat} {ev : Nat → Bool} {wh lo : Nat} : ∀ (i j : Nat), (∀ x, j < x → x ≤ j + i → ev (lo + x) = false) → bt_B H ev wh lo (j + i) = bt_B H ev wh lo j := by
  intro i
  induction i with
  | zero => intro j _; rfl
  | succ i ih =>
    intro j h
    have e := h (j + i + 1) (by omega) (by omega)
    show (if ev (lo + (j + i) + 1) then _ else _) = _
    rw [show lo + (j + i) + 1 = lo + (j + i + 1) by omega, e]
    simp only [Bool.false_eq_true, if_false]
    exact ih j (fun x a b => h x a (by omega))
