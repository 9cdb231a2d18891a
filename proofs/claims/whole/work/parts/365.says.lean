/-! THE REFERENCE'S READER: at token j, in op brackets, no fault: rS; a fault at token f: rF -/
def nE (nm : Nat → Int32) (I : rk_I) : Prop := ∃ k, k < 24 ∧ I 31 32 = nI k ∧ nm 0 = I 38 k ∧ nm 1 = I 31 33 ∧ nm 2 = I 43 k ∧ nm 3 = I 42 k ∧ nm 4 = I 46 k ∧ nm 5 = I 43 k * I 42 k
def rR (I I' : rk_I) : Prop := ∀ q i, ¬ (q = 31 ∧ (i = 25 ∨ i = 26 ∨ i = 28 ∨ i = 29 ∨ i = 30 ∨ i = 31)) → I' q i = I q i
def rS (bs : Nat → Nat) (sz off : Nat) (tk pl st : Nat → Nat) (tc : Nat) (nm : Nat → Int32) (j op : Nat) (I : rk_I) (J : rk_J) : Prop := mB bs sz off I ∧ j ≤ tc ∧ mN tk pl st tc j I J ∧ I 31 30 = 0 ∧ I 31 29 = nI op ∧ nE nm I
def rF (pl : Nat → Nat) (f : Nat) (I : rk_I) : Prop := I 31 30 = 1 ∧ I 31 31 = nI (pl f)
theorem rR_t {I I' I'' : rk_I} (h : rR I I') (h2 : rR I' I'') : rR I I'' := fun q i a => (h2 q i a).trans (h q i a)
theorem rR_r (I : rk_I) : rR I I := fun _ _ _ => rfl
theorem mJ_r (J : rk_J) : mJ J J := fun _ _ _ => rfl
theorem mJ_t {J J' J'' : rk_J} (h : mJ J J') (h2 : mJ J' J'') : mJ J J'' := fun q i a => (h2 q i a).trans (h q i a)
theorem rR_m {I I' : rk_I} (h : mR I I') : rR I I' := fun q i a => h q i (by omega)
theorem rR_u {I : rk_I} {i : Nat} {x : Int32} (h : i = 25 ∨ i = 26 ∨ i = 28 ∨ i = 29 ∨ i = 30 ∨ i = 31) : rR I (rk_ui I 31 i x) := fun q j a => by
  by_cases hq : q = 31
  · subst hq
    rw [ui_n (fun e => a ⟨rfl, by rw [e]; exact h⟩)]
  · rw [ui_o hq]
theorem nE_R {nm : Nat → Int32} {I I' : rk_I} (h : nE nm I) (hr : rR I I') : nE nm I' := by
  obtain ⟨k, h1, h2, h3⟩ := h
  refine ⟨k, h1, by rw [hr 31 32 (by omega)]; exact h2, ?_⟩
  rw [hr 38 k (by omega), hr 31 33 (by omega), hr 43 k (by omega), hr 42 k (by omega), hr 46 k (by omega)]
  exact h3
section RS
variable {bs : Nat → Nat} {sz off : Nat} {tk pl st : Nat → Nat} {tc : Nat} {nm : Nat → Int32} {j op : Nat} {I : rk_I} {J : rk_J}
theorem mB_RR {I' : rk_I} (h : mB bs sz off I) (hr : rR I I') : mB bs sz off I' := by
  obtain ⟨h1, h2, h3, h4, h5⟩ := h
  refine ⟨h1, h2, by rw [hr 31 23 (by omega)]; exact h3, by rw [hr 31 24 (by omega)]; exact h4, fun i hi => ?_⟩
  rw [hr 32 _ (by omega)]
  exact h5 i hi
theorem rs_29 (h : rS bs sz off tk pl st tc nm j op I J) (op' : Nat) : rS bs sz off tk pl st tc nm j op' (rk_ui I 31 29 (nI op')) J := by
  obtain ⟨h1, h2, ⟨h3, h4, h5⟩, h6, h7, h8⟩ := h
  have hr : rR I (rk_ui I 31 29 (nI op')) := rR_u (by omega)
  refine ⟨mB_RR h1 hr, h2, ⟨?_, fun a b => ?_, ?_⟩, ?_, ui_s, nE_R h8 hr⟩
  · rw [ui_n (by omega)]; exact h3
  · rw [ui_n (by omega)]; exact h4 a b
  · rw [ui_n (by omega)]; exact h5
  · rw [ui_n (by omega)]; exact h6
theorem rs_next (hT : tz_T bs sz tk pl st tc) (h : rS bs sz off tk pl st tc nm j op I J) (hj : tk j ≠ 20) (hk : tk j ≠ 21) : ∃ I' J', f_X10_next I J = some (I', J') ∧ rS bs sz off tk pl st tc nm (j + 1) op I' J' ∧ rR I I' ∧ mJ J J' := by
  obtain ⟨h1, h2, h3, h6, h7, h8⟩ := h
  have hlt : j < tc := by
    rcases Nat.lt_or_ge j tc with g | g
    · exact g
    · have : j = tc := by omega
      rw [this] at hj
      exact absurd hT.2.2.2.2.2 hj
  obtain ⟨I', J', e, g1, g2, g3⟩ := mn_next (J := J) hT h1 (j := j + 1) hlt (h3.2.1 hlt hk)
  refine ⟨I', J', e, ⟨mB_R h1 g2, hlt, g1, ?_, ?_, nE_R h8 (rR_m g2)⟩, rR_m g2, g3⟩
  · rw [g2 31 30 (by omega)]; exact h6
  · rw [g2 31 29 (by omega)]; exact h7
theorem rs_fail (h : rS bs sz off tk pl st tc nm j op I J) : ∃ I', f_X10_fail I = some I' ∧ rF pl j I' ∧ rR I I' := by
  refine ⟨_, mn_fail h.2.2.1 h.2.2.2.1, ⟨?_, ui_s⟩, rR_t (rR_u (by omega)) (rR_u (by omega))⟩
  rw [ui_n (by omega), ui_s]
theorem rs_opens (hT : tz_T bs sz tk pl st tc) (h : rS bs sz off tk pl st tc nm j op I J) (hj : tk j ≠ 20) (hk : tk j ≠ 21) (hop : op ≤ 5) : (op < 5 ∧ ∃ I' J', f_X10_opens I J = some (1, I', J') ∧ rS bs sz off tk pl st tc nm (j + 1) (op + 1) I' J' ∧ rR I I' ∧ mJ J J') ∨ (¬ op < 5 ∧ ∃ I', f_X10_opens I J = some (0, I', J) ∧ rF pl j I' ∧ rR I I') := by
  have h29 := h.2.2.2.2.1
  by_cases hc : op < 5
  · left
    obtain ⟨I', J', e, g1, g2, g3⟩ := rs_next hT (rs_29 h (op + 1)) hj hk
    refine ⟨hc, I', J', ?_, g1, rR_t (rR_u (by omega)) g2, g3⟩
    unfold f_X10_opens
    rw [h29, if_neg (show ¬ nI op = 5 from fun z => by have := (nI_eq (b := 5) (by omega) (by omega)).mp z; omega), pr_sb, nI_1, e]
    rfl
  · right
    obtain ⟨I', e, g1, g2⟩ := rs_fail h
    refine ⟨hc, I', ?_, g1, g2⟩
    unfold f_X10_opens
    rw [h29, if_pos (show nI op = 5 by rw [show op = 5 by omega]; rfl), e]
    rfl
theorem rs_close (h : rS bs sz off tk pl st tc nm j (op + 1) I J) (hop : op < 5) : rS bs sz off tk pl st tc nm j op (rk_ui I 31 29 (I 31 29 - 1)) J := by
  rw [h.2.2.2.2.1, show (1 : Int32) = nI 1 from rfl, pk_sub (by omega), Nat.add_sub_cancel]
  exact rs_29 h op
theorem rf_29 {f : Nat} {x : Int32} (h : rF pl f I) : rF pl f (rk_ui I 31 29 x) := ⟨by rw [ui_n (by omega)]; exact h.1, by rw [ui_n (by omega)]; exact h.2⟩
end RS
/-- what a reading from token j does -/
def rQ (bs : Nat → Nat) (sz off : Nat) (tk pl st : Nat → Nat) (tc : Nat) (nm : Nat → Int32) (j op : Nat) (I : rk_I) (J : rk_J) (r : gp_R) (o : Option (Int32 × rk_I × rk_J)) : Prop := match r with
  | .inl f => ∃ v I' J', o = some (v, I', J') ∧ rF pl f I' ∧ rR I I' ∧ mJ J J'
  | .inr q => ∃ v I' J', o = some (v, I', J') ∧ rS bs sz off tk pl st tc nm q.1 op I' J' ∧ rR I I' ∧ mJ J J' ∧ eV nm q.2 v ∧ j ≤ q.1
