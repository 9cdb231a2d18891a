/-! THE REFERENCE'S READER says what the codes of gp say -/
section RM
variable {bs : Nat → Nat} {sz off : Nat} {tk pl st : Nat → Nat} {tc : Nat} {nm : Nat → Int32}
theorem rq_main (hT : tz_T bs sz tk pl st tc) (htc : tc ≤ 160) : ∀ (k lv op a K : Nat) (I : rk_I) (J : rk_J), lv ≤ 5 → op ≤ 5 → 6 * (5 - op) + (6 - lv) ≤ k → k ≤ K → rS bs sz off tk pl st tc nm a op I J → rQ bs sz off tk pl st tc nm a op I J (gp tk k lv op a) (f_gM K lv I J) := by
  intro k
  induction k with
  | zero =>
    intro lv op a K I J h1 h2 h3
    omega
  | succ k ih =>
    intro lv op a K I J h1 h2 h3 h4 h
    obtain ⟨K, rfl⟩ : ∃ K', K = K' + 1 := ⟨K - 1, by omega⟩
    rcases (by omega : lv = 0 ∨ lv = 1 ∨ lv = 2 ∨ lv = 3 ∨ lv = 4 ∨ lv = 5) with rfl | rfl | rfl | rfl | rfl | rfl
    · exact rc_either (rec := f_gM K) hT htc (fun a I J h => ih 1 op a K I J (by omega) h2 (by omega) (by omega) h) h
    · exact rc_both (rec := f_gM K) hT htc (fun a I J h => ih 2 op a K I J (by omega) h2 (by omega) (by omega) h) h
    · exact rc_not (rec := f_gM K) hT h2 (fun ho a I J h => ih 2 (op + 1) a K I J (by omega) (by omega) (by omega) (by omega) h) (fun a I J h => ih 3 op a K I J (by omega) h2 (by omega) (by omega) h) h
    · exact rc_added (rec := f_gM K) hT htc (fun a I J h => ih 4 op a K I J (by omega) h2 (by omega) (by omega) h) h
    · exact rc_term (rec := f_gM K) hT htc (fun a I J h => ih 5 op a K I J (by omega) h2 (by omega) (by omega) h) h
    · exact rc_one (rec := f_gM K) hT h2 (fun ho a I J h => ih 5 (op + 1) a K I J (by omega) (by omega) (by omega) (by omega) h) (fun ho a I J h => ih 0 (op + 1) a K I J (by omega) (by omega) (by omega) (by omega) h) h
end RM
