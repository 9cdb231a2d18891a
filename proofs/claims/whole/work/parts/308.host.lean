/-! two, taken, feed, count -/
theorem pr_wl {α β γ : Type} {f : α → Option (α ⊕ β)} {a : α} {m : Nat} {g : β → Option γ} {r : γ} (h : (rk_loop f m a).bind g = some r) : (rk_while f a).bind g = some r := by
  cases hl : rk_loop f m a with
  | none => rw [hl] at h; cases h
  | some b => rw [hl] at h; rw [rk_while_of hl]; exact h
/-- kind k is u, or stands under it -/
def up_u (k u : Nat) : Bool := k == u || u == 0 || (k == 3 && u == 1) || (k == 4 && u == 2) || (k == 5 && (u == 3 || u == 1))
theorem pc_under0 : ∀ k, k < 6 → ∀ u, u < 6 → ((rk_loop (fun a9 : Int32 × Int32 => f_X9_isUnder_l4 (nI u) a9.1 a9.2) 7 (nI k, 0)).bind fun q9 => rk_sc q9 (fun b9 => rk_p2 b9 (fun _ _ => (some (0 : Int32)))) (fun q8 => some q8)) = some (if up_u k u then 1 else 0) := by decide +kernel
theorem pm_under0 : ∀ k, k < 6 → ∀ u, u < 6 → ((rk_loop (fun a9 : Int32 => f_X10_isUnder_l2 (nI u) a9) 7 (nI k)).bind fun x1 => if x1 = nI u then some (1 : Int32) else some 0) = some (if up_u k u then 1 else 0) := by decide +kernel
theorem pc_under {k u : Nat} (hk : k < 6) (hu : u < 6) : f_X9_isUnder (nI k) (nI u) = some (if up_u k u then 1 else 0) := pr_wl (pc_under0 k hk u hu)
theorem pm_under {k u : Nat} (hk : k < 6) (hu : u < 6) : f_X10_isUnder (nI k) (nI u) = some (if up_u k u then 1 else 0) := pr_wl (pm_under0 k hk u hu)
theorem ck_taken {n : Nat} {S : rk_Sh} {I : rk_I} {R : rk_R} (h : iv n S I R) (a b : Int32) : ∃ v, f_X9_taken S I R a b = some v ∧ f_X10_taken I a b = some v := by
  obtain ⟨c, s, t, r, oc, os, ot, sv, cv, h1, h2, h3, h4, h5, ⟨hO, x1, x2, x3, x4⟩, h7, h8, h9, h10, h11⟩ := h
  have hs := h5.2.1
  unfold f_X9_taken f_X10_taken
  rcases pg_kind b with ⟨u, u1, rfl, u3, u4⟩ | ⟨-, u3, u4⟩
  · rw [u3, pr_sb, if_neg (by decide), u4, pr_sb, if_neg (by decide)]
    rcases pg_sale (I' := I) hs x2 (fun k hk => (x3 k hk).1) h7.2.1 a with ⟨k, g1, rfl, g3, g4⟩ | ⟨g3, g4⟩
    · have b0 := (h5.2.2.1 k g1).1
      obtain ⟨-, y1, y2, y3, y4, y5, y6, y7, y8, y9, y10⟩ := x3 k g1
      obtain ⟨m0, m1, m2, m3, m4, m5, m6, m7, m8⟩ := h7.2.2.1 k g1
      rw [g3, pr_sb, pr_oc1, pr_ck y1, pr_sb, g4, pr_sb, if_neg (by decide), y3, pc_under b0 u1, pr_sb, pr_rd (by omega) (by omega), m0, pr_sb, pm_under b0 u1, pr_sb, pr_rd (by omega) (by omega), m5, y7]
      by_cases e1 : (if up_u (sv k 0) u then (1 : Int32) else 0) = 0
      · rw [if_pos e1, if_pos e1]
        exact ⟨_, rfl, rfl⟩
      · rw [if_neg e1, if_neg e1]
        exact ⟨_, rfl, rfl⟩
    · rw [g3, g4]
      exact ⟨_, rfl, rfl⟩
  · rw [u3, u4]
    exact ⟨_, rfl, rfl⟩
theorem pc_upper (x : Int32) : (∃ w, w < 2147483648 ∧ x = nI w ∧ f_X9_upperOf x = some (nI (w / 1000)) ∧ f_X9_lowerOf x = some (nI (w % 1000))) ∨ (x.toInt < 0 ∧ f_X9_upperOf x = some (-1) ∧ f_X9_lowerOf x = some (-1)) := by
  unfold f_X9_upperOf f_X9_lowerOf
  by_cases h : 0 ≤ x
  · left
    obtain ⟨w, w1, rfl⟩ := nI_of (x := x) (by rw [fa_lt, pr_z]; rw [fa_le, pr_z] at h; omega)
    refine ⟨w, by omega, rfl, ?_, ?_⟩
    · rw [if_pos h, show (1000 : Int32) = nI 1000 from rfl, pr_dv (by omega) (by omega) (by omega)]
    · rw [if_pos h, show (1000 : Int32) = nI 1000 from rfl, pr_md (by omega) (by omega) (by omega)]
  · right
    rw [if_neg h, if_neg h]
    rw [fa_le, pr_z] at h
    exact ⟨by omega, rfl, rfl⟩
/-- a hand and an hour in one number -/
theorem pg_pair (x : Int32) : (∃ w, w < 10000 ∧ x = nI w ∧ f_X9_upperOf x = some (nI (w / 1000)) ∧ f_X9_lowerOf x = some (nI (w % 1000)) ∧ f_X9_isHand (nI (w / 1000)) = some 1 ∧ f_X10_in x.toInt64 0 9999 = some 1) ∨ ((∃ z, f_X9_upperOf x = some z ∧ f_X9_isHand z = some 0) ∧ f_X10_in x.toInt64 0 9999 = some 0) := by
  rcases pr_inN (x := x) (h := 9999) (n := 10000) (by omega) (by decide) with ⟨j, h1, rfl, h3⟩ | ⟨h1, h3⟩
  · left
    have e1 : f_X9_upperOf (nI j) = some (nI (j / 1000)) := by
      unfold f_X9_upperOf
      rw [if_pos (nI_pos' (by omega)), show (1000 : Int32) = nI 1000 from rfl, pr_dv (by omega) (by omega) (by omega)]
    have e2 : f_X9_lowerOf (nI j) = some (nI (j % 1000)) := by
      unfold f_X9_lowerOf
      rw [if_pos (nI_pos' (by omega)), show (1000 : Int32) = nI 1000 from rfl, pr_md (by omega) (by omega) (by omega)]
    exact ⟨j, h1, rfl, e1, e2, pr_hi (n := 10) (by decide) (by omega) (by omega), h3⟩
  · right
    refine ⟨?_, h3⟩
    rcases pc_upper x with ⟨w, w1, rfl, w2, -⟩ | ⟨w1, w2, -⟩
    · refine ⟨_, w2, pr_lo (n := 10) (by decide) ?_ rfl⟩
      rw [nI_toInt (by omega)]
      rw [nI_toInt (by omega)] at h1
      right
      omega
    · exact ⟨_, w2, by decide⟩
theorem ck_two {n : Nat} {S : rk_Sh} {I : rk_I} {R : rk_R} (h : iv n S I R) (a b d : Int32) : ∃ v, f_X9_two S I R a b d = some v ∧ f_X10_two I a b d = some v := by
  obtain ⟨c, s, t, r, oc, os, ot, sv, cv, h1, h2, h3, h4, h5, ⟨hO, x1, x2, x3, x4⟩, h7, h8, h9, h10, h11⟩ := h
  have hs := h5.2.1
  have hu : ∀ x, ∃ z, f_X9_upperOf x = some z := fun x => by
    rcases pc_upper x with ⟨w, -, -, w2, -⟩ | ⟨-, w2, -⟩ <;> exact ⟨_, w2⟩
  unfold f_X9_two f_X10_two
  rcases pg_sale (I' := I) hs x2 (fun k hk => (x3 k hk).1) h7.2.1 a with ⟨k, g1, rfl, g3, g4⟩ | ⟨g3, g4⟩
  · have b0 := (h5.2.2.1 k g1).1
    obtain ⟨-, y1, -, y3, -⟩ := x3 k g1
    have m0 := (h7.2.2.1 k g1).1
    rcases pg_pair b with ⟨w, w1, rfl, w2, w3, w4, w5⟩ | ⟨⟨z, z1, z2⟩, w5⟩
    · rcases pg_pair d with ⟨q, q1, rfl, q2, q3, q4, q5⟩ | ⟨⟨z, z1, z2⟩, q5⟩
      · have dw : nI w / 1000 = nI (w / 1000) := pr_dv (d := 1000) (by omega) (by omega) (by omega)
        have dq : nI q / 1000 = nI (q / 1000) := pr_dv (d := 1000) (by omega) (by omega) (by omega)
        have rw' : rk_md (nI w) 1000 = nI (w % 1000) := pr_md (d := 1000) (by omega) (by omega) (by omega)
        have rq' : rk_md (nI q) 1000 = nI (q % 1000) := pr_md (d := 1000) (by omega) (by omega) (by omega)
        have P1 : ∀ v, (if nI (w / 1000) = nI (q / 1000) then some (-2) else (rk_ck S (os k) 5 11).bind fun _ => (f_X9_isUnder (I (os k) 0) 3).bind fun x5 => if x5 = 0 then some (-13) else (f_X9_lowerOf (nI w)).bind fun x6 => (f_X9_lowerOf (nI q)).bind fun x7 => if x6 = x7 then some (rk_min (nI (w / 1000)) (nI (q / 1000))) else (f_X9_lowerOf (nI w)).bind fun x8 => (f_X9_lowerOf (nI q)).bind fun x9 => if x9 ≤ x8 then some (nI (q / 1000)) else some (nI (w / 1000))) = some v → (f_X9_saleAt I R (nI k)).bind (fun q1 => (f_X9_upperOf (nI w)).bind fun x1 => (f_X9_upperOf (nI q)).bind fun x2 => rk_oc q1 (some (-2)) (fun o1 => (f_X9_isHand x1).bind fun x3 => if x3 = 0 then some (-2) else (f_X9_isHand x2).bind fun x4 => if x4 = 0 then some (-2) else if x1 = x2 then some (-2) else (rk_ck S o1 5 11).bind fun _ => (f_X9_isUnder (I o1 0) 3).bind fun x5 => if x5 = 0 then some (-13) else (f_X9_lowerOf (nI w)).bind fun x6 => (f_X9_lowerOf (nI q)).bind fun x7 => if x6 = x7 then some (rk_min x1 x2) else (f_X9_lowerOf (nI w)).bind fun x8 => (f_X9_lowerOf (nI q)).bind fun x9 => if x9 ≤ x8 then some x2 else some x1)) = some v := fun v hv => by
          rw [g3, pr_sb, w2, pr_sb, q2, pr_sb, pr_oc1, w4, pr_sb, if_neg (by decide), q4, pr_sb, if_neg (by decide)]
          exact hv
        have P2 : ∀ v, (if nI (w / 1000) = nI (q / 1000) then some (-2) else (f_X10_isUnder (nI (sv k 0)) 3).bind fun x5 => if x5 = 0 then some (-13) else if nI (w % 1000) - nI (q % 1000) < 0 then some (nI (w / 1000)) else if nI (w % 1000) - nI (q % 1000) = 0 then (if nI q ≤ nI w then some (nI (q / 1000)) else some (nI (w / 1000))) else some (nI (q / 1000))) = some v → (f_X10_isSale I (nI k)).bind (fun x1 => if x1 = 0 then some (-2) else (f_X10_in (nI w).toInt64 0 9999).bind fun x2 => if x2 = 0 then some (-2) else (f_X10_in (nI q).toInt64 0 9999).bind fun x3 => if x3 = 0 then some (-2) else if (nI w / 1000) = (nI q / 1000) then some (-2) else (rk_rd I 38 24 (nI k)).bind fun x4 => (f_X10_isUnder x4 3).bind fun x5 => if x5 = 0 then some (-13) else if ((rk_md (nI w) 1000) - (rk_md (nI q) 1000)) < 0 then some (nI w / 1000) else if ((rk_md (nI w) 1000) - (rk_md (nI q) 1000)) = 0 then (if nI q ≤ nI w then some (nI q / 1000) else some (nI w / 1000)) else some (nI q / 1000)) = some v := fun v hv => by
          rw [g4, pr_sb, if_neg (by decide), w5, pr_sb, if_neg (by decide), q5, pr_sb, if_neg (by decide), dw, dq, rw', rq', pr_rd (by omega) (by omega), m0, pr_sb]
          exact hv
        have c1 : (nI (w % 1000) - nI (q % 1000) < 0) ↔ w % 1000 < q % 1000 := by
          rw [fa_lt, pk_sub_toInt (by omega) (by omega), pr_z]
          omega
        have c2 : (nI (w % 1000) - nI (q % 1000) = 0) ↔ w % 1000 = q % 1000 := by
          rw [fa_eq, pk_sub_toInt (by omega) (by omega), pr_z]
          omega
        by_cases e0 : w / 1000 = q / 1000
        · exact ⟨-2, P1 _ (if_pos (by rw [e0])), P2 _ (if_pos (by rw [e0]))⟩
        · have e0' : ¬ nI (w / 1000) = nI (q / 1000) := fun z => e0 ((nI_eq (by omega) (by omega)).mp z)
          have u1 := pc_under (u := 3) b0 (by omega)
          have u2 := pm_under (u := 3) b0 (by omega)
          have ck : rk_ck S (os k) 5 11 = some () := pr_ck y1
          by_cases e1 : up_u (sv k 0) 3 = true
          · rw [if_pos e1] at u1 u2
            by_cases e2 : w % 1000 = q % 1000
            · refine ⟨nI (min (w / 1000) (q / 1000)), P1 _ ?_, P2 _ ?_⟩
              · rw [if_neg e0', ck, pr_sb, y3, show (3 : Int32) = nI 3 from rfl, u1, pr_sb, if_neg (by decide), w3, pr_sb, q3, pr_sb, if_pos (by rw [e2])]
                unfold rk_min
                by_cases h : q / 1000 < w / 1000
                · rw [if_pos (nI_lt h (by omega)), Nat.min_eq_right (by omega)]
                · rw [if_neg (nI_nlt (by omega) (by omega)), Nat.min_eq_left (by omega)]
              · rw [if_neg e0', show (3 : Int32) = nI 3 from rfl, u2, pr_sb, if_neg (by decide), if_neg (fun z => by have := c1.mp z; omega), if_pos (c2.mpr e2)]
                by_cases e3 : q ≤ w
                · rw [if_pos (nI_le e3 (by omega)), Nat.min_eq_right (by omega)]
                · rw [if_neg (nI_ge (by omega) (by omega)), Nat.min_eq_left (by omega)]
            · have e2' : ¬ nI (w % 1000) = nI (q % 1000) := fun z => e2 ((nI_eq (by omega) (by omega)).mp z)
              refine ⟨if q % 1000 ≤ w % 1000 then nI (q / 1000) else nI (w / 1000), P1 _ ?_, P2 _ ?_⟩
              · rw [if_neg e0', ck, pr_sb, y3, show (3 : Int32) = nI 3 from rfl, u1, pr_sb, if_neg (by decide), w3, pr_sb, q3, pr_sb, if_neg e2', pr_sb, pr_sb]
                by_cases e3 : q % 1000 ≤ w % 1000
                · rw [if_pos (nI_le e3 (by omega)), if_pos e3]
                · rw [if_neg (nI_ge (by omega) (by omega)), if_neg e3]
              · rw [if_neg e0', show (3 : Int32) = nI 3 from rfl, u2, pr_sb, if_neg (by decide)]
                by_cases e3 : q % 1000 ≤ w % 1000
                · rw [if_neg (fun z => by have := c1.mp z; omega), if_neg (fun z => e2 (c2.mp z)), if_pos e3]
                · rw [if_pos (c1.mpr (by omega)), if_neg e3]
          · rw [if_neg e1] at u1 u2
            refine ⟨-13, P1 _ ?_, P2 _ ?_⟩
            · rw [if_neg e0', ck, pr_sb, y3, show (3 : Int32) = nI 3 from rfl, u1]; rfl
            · rw [if_neg e0', show (3 : Int32) = nI 3 from rfl, u2]; rfl
      · refine ⟨-2, ?_, ?_⟩
        · rw [g3, pr_sb, w2, pr_sb, z1, pr_sb, pr_oc1, w4, pr_sb, if_neg (by decide), z2]; rfl
        · rw [g4, pr_sb, if_neg (by decide), w5, pr_sb, if_neg (by decide), q5]; rfl
    · obtain ⟨y, hy⟩ := hu d
      refine ⟨-2, ?_, ?_⟩
      · rw [g3, pr_sb, z1, pr_sb, hy, pr_sb, pr_oc1, z2]; rfl
      · rw [g4, pr_sb, if_neg (by decide), w5]; rfl
  · obtain ⟨y, hy⟩ := hu b
    obtain ⟨y', hy'⟩ := hu d
    refine ⟨-2, ?_, ?_⟩
    · rw [g3, hy, hy']; rfl
    · rw [g4]; rfl
