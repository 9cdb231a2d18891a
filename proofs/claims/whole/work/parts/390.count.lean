/-! HOW MANY BITS: both sides -/
def bc_n (b : Nat) : Nat := fb_ct (fun k => b.testBit k) 12
theorem bc_J : ∀ x, x < 64 → ∀ y, y < 64 → f_J6_bitCount_0f7a4 (nI (64 * x + y)) = some (nI (bc_n (64 * x + y))) := by decide +kernel
theorem bc_low : ∀ x, x < 64 → ∀ y, y < 64 → (64 * x + y ≠ 0 → bc_n ((64 * x + y) &&& (64 * x + y - 1)) + 1 = bc_n (64 * x + y)) := by decide +kernel
theorem bc_c {b : Nat} (hb : b < 4096) : f_J6_bitCount_0f7a4 (nI b) = some (nI (bc_n b)) := by
  have h := bc_J (b / 64) (by omega) (b % 64) (by omega)
  rwa [show 64 * (b / 64) + b % 64 = b by omega] at h
theorem bc_l {b : Nat} (hb : b < 4096) (h0 : b ≠ 0) : bc_n (b &&& (b - 1)) + 1 = bc_n b := by
  have h := bc_low (b / 64) (by omega) (b % 64) (by omega)
  rw [show 64 * (b / 64) + b % 64 = b by omega] at h
  exact h h0
theorem bc_12 (b : Nat) : bc_n b ≤ 12 := fb_ct_le _ 12
theorem bc_loop : ∀ (N v c : Nat), v < 4096 → bc_n v = N → rk_while (fun a9 : Int32 × Int32 => f_X10_bitsOf_l4 a9.1 a9.2) (nI c, nI v) = some (nI (c + N), 0)
  | N, v, c, hv, hN => by
    by_cases h0 : v = 0
    · subst h0
      have : N = 0 := by rw [← hN]; decide
      subst this
      refine rk_while_out ?_
      show f_X10_bitsOf_l4 (nI c) (nI 0) = _
      unfold f_X10_bitsOf_l4
      rw [if_pos (show nI 0 = 0 from rfl)]
      rfl
    · have h1 := bc_l hv h0
      have h2 : v &&& (v - 1) ≤ v := Nat.and_le_left
      obtain ⟨N', rfl⟩ : ∃ N', N = N' + 1 := ⟨bc_n (v &&& (v - 1)), by omega⟩
      have h3 := bc_loop N' (v &&& (v - 1)) (c + 1) (by omega) (by omega)
      rw [show c + (N' + 1) = c + 1 + N' by omega]
      refine (rk_while_in (a' := (nI (c + 1), nI (v &&& (v - 1)))) ?_).trans h3
      show f_X10_bitsOf_l4 (nI c) (nI v) = _
      unfold f_X10_bitsOf_l4
      rw [if_neg (nI_ne0 (by omega) (by omega)), nI_1, show (1 : Int32) = nI 1 from rfl, pk_sub (by omega), fa_and]
theorem bc_m {b : Nat} (hb : b < 4096) : f_X10_bitsOf (nI b) = some (nI (bc_n b)) := by
  unfold f_X10_bitsOf
  rw [show ((0 : Int32), nI b) = (nI 0, nI b) from rfl, bc_loop (bc_n b) b 0 hb rfl, cq_b2, Nat.zero_add]
theorem bc_or (z k : Nat) : bc_n (z ||| 2 ^ k) ≤ bc_n z + 1 := by
  unfold bc_n
  by_cases hk : k < 12
  · have h := fb_ct_upd (fun i => z.testBit i) true hk
    rw [fb_ct_cong (q := fun i => if i = k then true else z.testBit i) (fun i _ => by
      rw [fb_bit_set]
      by_cases e : i = k
      · simp [e]
      · simp [e])]
    simp only [if_true] at h
    omega
  · rw [fb_ct_cong (q := fun i => z.testBit i) (fun i hi => by
      rw [fb_bit_set]
      simp [show ¬ i = k by omega])]
    omega
theorem bc_sub {z y : Nat} (h : ∀ k, z.testBit k = true → y.testBit k = true) : bc_n z ≤ bc_n y ∧ z ≤ y := by
  refine ⟨fb_ct_sub (fun k _ hk => h k hk), ?_⟩
  have e : z &&& y = z := by
    apply Nat.eq_of_testBit_eq
    intro i
    rw [Nat.testBit_and]
    cases hz : z.testBit i with
    | false => rfl
    | true => rw [h i hz]; rfl
  rw [← e]
  exact Nat.and_le_right
/-- the least by count, then as a number: -1 where none is -/
def bs_B (P : Nat → Prop) (v : Int32) : Prop := (v = -1 ∧ ∀ z, ¬ P z) ∨ ∃ z, z < 4096 ∧ v = nI z ∧ P z ∧ ∀ y, P y → bc_n z < bc_n y ∨ (bc_n z = bc_n y ∧ z ≤ y)
theorem bs_cong {P Q : Nat → Prop} {v : Int32} (h : ∀ z, P z ↔ Q z) (hb : bs_B P v) : bs_B Q v := by
  rcases hb with ⟨h1, h2⟩ | ⟨z, h1, h2, h3, h4⟩
  · exact Or.inl ⟨h1, fun z hz => h2 z ((h z).mpr hz)⟩
  · exact Or.inr ⟨z, h1, h2, (h z).mp h3, fun y hy => h4 y ((h y).mpr hy)⟩
theorem bs_one {P Q : Nat → Prop} {v w : Int32} (h : bs_B P v) (h2 : bs_B Q w) (a : ∀ z, P z → Q z) (b : ∀ y, Q y → ∃ z, P z ∧ (bc_n z < bc_n y ∨ (bc_n z = bc_n y ∧ z ≤ y))) : v = w := by
  rcases h with ⟨h1, h3⟩ | ⟨z, h1, h3, h4, h5⟩
  · rcases h2 with ⟨g1, g3⟩ | ⟨y, g1, g3, g4, g5⟩
    · rw [h1, g1]
    · obtain ⟨z, hz, -⟩ := b y g4
      exact absurd hz (h3 z)
  · rcases h2 with ⟨g1, g3⟩ | ⟨y, g1, g3, g4, g5⟩
    · exact absurd (a z h4) (g3 z)
    · obtain ⟨z', hz', hzo⟩ := b y g4
      have q1 := h5 z' hz'
      have q2 := g5 z (a z h4)
      have : z = y := by omega
      rw [h3, g3, this]
/-- the class takes one more -/
theorem bs_offer {P : Nat → Prop} {z : Nat} {I : rk_I} (hz : z < 4096) (h : bs_B P (I 16 3)) : ∃ I', f_X4_offer I (nI z) = some I' ∧ bs_B (fun y => P y ∨ y = z) (I' 16 3) ∧ ∀ q i, ¬ (q = 16 ∧ i = 3) → I' q i = I q i := by
  have hset : ∀ q i, ¬ (q = 16 ∧ i = 3) → rk_ui I 16 3 (nI z) q i = I q i := fun q i hq => by
    by_cases e : q = 16
    · subst e
      rw [ui_n (fun z => hq ⟨rfl, z⟩)]
    · rw [ui_o e]
  unfold f_X4_offer
  rcases h with ⟨h1, h2⟩ | ⟨w, h1, h2, h3, h4⟩
  · rw [if_pos h1]
    refine ⟨rk_ui I 16 3 (nI z), ?_, ?_, hset⟩
    · unfold f_X4_offer_j24
      rw [if_pos (by decide), pr_sb]
    · rw [ui_s]
      refine Or.inr ⟨z, hz, rfl, Or.inr rfl, fun y hy => ?_⟩
      rcases hy with hy | hy
      · exact absurd hy (h2 y)
      · rw [hy]; omega
  · have b1 := bc_12 z
    have b2 := bc_12 w
    have sub : (nI (bc_n z) - nI (bc_n w)).toInt = (bc_n z : Int) - bc_n w := pk_sub_toInt (by omega) (by omega)
    rw [if_neg (by rw [h2]; exact pr_n1 (by omega)), bc_c hz, pr_sb, h2, bc_c h1, pr_sb]
    unfold f_X4_offer_j24
    by_cases c1 : bc_n z < bc_n w
    · rw [if_pos (show nI (bc_n z) - nI (bc_n w) < 0 by rw [fa_lt, sub, pr_z]; omega), pr_sb]
      refine ⟨_, rfl, ?_, hset⟩
      rw [ui_s]
      refine Or.inr ⟨z, hz, rfl, Or.inr rfl, fun y hy => ?_⟩
      rcases hy with hy | hy
      · have := h4 y hy; omega
      · rw [hy]; omega
    · rw [if_neg (show ¬ nI (bc_n z) - nI (bc_n w) < 0 by rw [fa_lt, sub, pr_z]; omega)]
      by_cases c2 : bc_n z = bc_n w
      · rw [if_pos (show nI (bc_n z) - nI (bc_n w) = 0 by rw [fa_eq, sub, pr_z]; omega), h2]
        by_cases c3 : w ≤ z
        · rw [if_pos (nI_le c3 (by omega))]
          refine ⟨I, rfl, ?_, fun _ _ _ => rfl⟩
          rw [h2]
          refine Or.inr ⟨w, h1, rfl, Or.inl h3, fun y hy => ?_⟩
          rcases hy with hy | hy
          · exact h4 y hy
          · rw [hy]; omega
        · rw [if_neg (nI_ge (by omega) (by omega)), pr_sb]
          refine ⟨_, rfl, ?_, hset⟩
          rw [ui_s]
          refine Or.inr ⟨z, hz, rfl, Or.inr rfl, fun y hy => ?_⟩
          rcases hy with hy | hy
          · have := h4 y hy; omega
          · rw [hy]; omega
      · rw [if_neg (show ¬ nI (bc_n z) - nI (bc_n w) = 0 by rw [fa_eq, sub, pr_z]; omega)]
        refine ⟨I, rfl, ?_, fun _ _ _ => rfl⟩
        rw [h2]
        refine Or.inr ⟨w, h1, rfl, Or.inl h3, fun y hy => ?_⟩
        rcases hy with hy | hy
        · exact h4 y hy
        · rw [hy]; omega
