/-! OPERATIONS of the store that may fail: none where the machine would throw. -/
def rk_rd (I : rk_I) (o N : Nat) (i : Int32) : Option Int32 := if i < 0 ∨ N ≤ i.toNatClampNeg then none else some (I o i.toNatClampNeg)
def rk_wr (I : rk_I) (o N : Nat) (i x : Int32) : Option rk_I := if i < 0 ∨ N ≤ i.toNatClampNeg then none else some (rk_ui I o i.toNatClampNeg x)
def rk_rdD (S : rk_Sh) (I : rk_I) (o : Nat) (i : Int32) : Option Int32 := if (S o).1 = 20 then rk_rd I o (S o).2 i else none
def rk_wrD (S : rk_Sh) (I : rk_I) (o : Nat) (i x : Int32) : Option rk_I := if (S o).1 = 20 then rk_wr I o (S o).2 i x else none
def rk_bl (x : Int32) : Option Int32 := if x = 0 ∨ x = 1 then some x else none
def rk_rdR (R : rk_R) (o N : Nat) (i : Int32) : Option (Option Nat) := if i < 0 ∨ N ≤ i.toNatClampNeg then none else some (R o i.toNatClampNeg)
def rk_wrR (R : rk_R) (o N : Nat) (i : Int32) (v : Nat) : Option rk_R := if i < 0 ∨ N ≤ i.toNatClampNeg then none else some (rk_ur R o i.toNatClampNeg (some v))
def rk_div (x z : Int32) : Option Int32 := if z = 0 then none else some (x / z)
def rk_rem (x z : Int32) : Option Int32 := if z = 0 then none else some (x - x / z * z)
def rk_ldiv (x z : Int64) : Option Int64 := if z = 0 then none else some (x / z)
def rk_lrem (x z : Int64) : Option Int64 := if z = 0 then none else some (x - x / z * z)
def rk_al (S : rk_Sh) (o : Nat) : Option Nat := if (S o).1 = 20 then some (S o).2 else none
/-- a reference that is no null, to an object of a class -/
def rk_dr (S : rk_Sh) (ci N : Nat) (q : Option Nat) : Option Nat := match q with
  | some o => if S o = (ci, N) then some o else none
  | none => none
def rk_cp (I : rk_I) (a na b nb : Nat) (sp dp n : Int32) : Option rk_I := if sp < 0 ∨ dp < 0 ∨ n < 0 ∨ na < sp.toNatClampNeg + n.toNatClampNeg ∨ nb < dp.toNatClampNeg + n.toNatClampNeg then none else some (fun k => if k = b then va_cpy (I a) (I b) sp.toNatClampNeg dp.toNatClampNeg n.toNatClampNeg else I k)
def rk_oc {α : Type} (q : Option Nat) (a : α) (f : Nat → α) : α := match q with
  | some o => f o
  | none => a
def rk_sc {α β γ : Type} (b : α ⊕ β) (f : α → γ) (g : β → γ) : γ := match b with
  | .inl x => f x
  | .inr y => g y
theorem rk_rd_sp {I : rk_I} {o N : Nat} {i x : Int32} (h : rk_rd I o N i = some x) : vp_in i N ∧ I o i.toNatClampNeg = x := by
  unfold rk_rd at h
  split at h
  · cases h
  · rename_i hc; exact ⟨hc, Option.some.inj h⟩
theorem rk_wr_sp {I I1 : rk_I} {o N : Nat} {i x : Int32} (h : rk_wr I o N i x = some I1) : vp_in i N ∧ rk_ui I o i.toNatClampNeg x = I1 := by
  unfold rk_wr at h
  split at h
  · cases h
  · rename_i hc; exact ⟨hc, Option.some.inj h⟩
theorem rk_rdD_sp {S : rk_Sh} {I : rk_I} {o : Nat} {i x : Int32} (h : rk_rdD S I o i = some x) : S o = (20, (S o).2) ∧ rk_rd I o (S o).2 i = some x := by
  unfold rk_rdD at h
  split at h
  · rename_i hc; exact ⟨Prod.ext hc rfl, h⟩
  · cases h
theorem rk_wrD_sp {S : rk_Sh} {I I1 : rk_I} {o : Nat} {i x : Int32} (h : rk_wrD S I o i x = some I1) : S o = (20, (S o).2) ∧ rk_wr I o (S o).2 i x = some I1 := by
  unfold rk_wrD at h
  split at h
  · rename_i hc; exact ⟨Prod.ext hc rfl, h⟩
  · cases h
theorem rk_bl_sp {x z : Int32} (h : rk_bl x = some z) : x = z ∧ (z = 0 ∨ z = 1) := by
  unfold rk_bl at h
  split at h
  · rename_i hc; cases h; exact ⟨rfl, hc⟩
  · cases h
theorem rk_rdR_sp {R : rk_R} {o N : Nat} {i : Int32} {x : Option Nat} (h : rk_rdR R o N i = some x) : vp_in i N ∧ R o i.toNatClampNeg = x := by
  unfold rk_rdR at h
  split at h
  · cases h
  · rename_i hc; exact ⟨hc, Option.some.inj h⟩
theorem rk_wrR_sp {R R1 : rk_R} {o N : Nat} {i : Int32} {v : Nat} (h : rk_wrR R o N i v = some R1) : vp_in i N ∧ rk_ur R o i.toNatClampNeg (some v) = R1 := by
  unfold rk_wrR at h
  split at h
  · cases h
  · rename_i hc; exact ⟨hc, Option.some.inj h⟩
theorem rk_al_sp {S : rk_Sh} {o N : Nat} (h : rk_al S o = some N) : S o = (20, N) := by
  unfold rk_al at h
  split at h
  · rename_i hc; cases h; exact Prod.ext hc rfl
  · cases h
theorem rk_dr_sp {S : rk_Sh} {ci N : Nat} {q : Option Nat} {o : Nat} (h : rk_dr S ci N q = some o) : q = some o ∧ S o = (ci, N) := by
  unfold rk_dr at h
  split at h
  · split at h
    · rename_i hc; cases h; exact ⟨rfl, hc⟩
    · cases h
  · cases h
theorem rk_cp_sp {I I1 : rk_I} {a na b nb : Nat} {sp dp n : Int32} (h : rk_cp I a na b nb sp dp n = some I1) : (¬ sp < 0 ∧ ¬ dp < 0 ∧ ¬ n < 0 ∧ sp.toNatClampNeg + n.toNatClampNeg ≤ na ∧ dp.toNatClampNeg + n.toNatClampNeg ≤ nb) ∧ (fun k => if k = b then va_cpy (I a) (I b) sp.toNatClampNeg dp.toNatClampNeg n.toNatClampNeg else I k) = I1 := by
  unfold rk_cp at h
  split at h
  · cases h
  · rename_i hc
    refine ⟨⟨fun z => hc (Or.inl z), fun z => hc (Or.inr (Or.inl z)), fun z => hc (Or.inr (Or.inr (Or.inl z))), Nat.not_lt.mp fun z => hc (Or.inr (Or.inr (Or.inr (Or.inl z)))), Nat.not_lt.mp fun z => hc (Or.inr (Or.inr (Or.inr (Or.inr z))))⟩, Option.some.inj h⟩
/-! BINDS, and how a walk takes them apart -/
theorem rk_bd {α β : Type} {a : Option α} {f : α → Option β} {r : β} (h : a.bind f = some r) : ∃ x, a = some x ∧ f x = some r := by
  cases a with
  | none => cases h
  | some x => exact ⟨x, rfl, h⟩
def rk_b2 {α β γ : Type} (a : Option (α × β)) (f : α → β → Option γ) : Option γ := a.bind fun r => f r.1 r.2
def rk_b3 {α β γ δ : Type} (a : Option (α × β × γ)) (f : α → β → γ → Option δ) : Option δ := a.bind fun r => f r.1 r.2.1 r.2.2
def rk_b4 {α β γ δ ε : Type} (a : Option (α × β × γ × δ)) (f : α → β → γ → δ → Option ε) : Option ε := a.bind fun r => f r.1 r.2.1 r.2.2.1 r.2.2.2
def rk_b5 {α β γ δ ε ζ : Type} (a : Option (α × β × γ × δ × ε)) (f : α → β → γ → δ → ε → Option ζ) : Option ζ := a.bind fun r => f r.1 r.2.1 r.2.2.1 r.2.2.2.1 r.2.2.2.2
def rk_b6 {α β γ δ ε ζ η : Type} (a : Option (α × β × γ × δ × ε × ζ)) (f : α → β → γ → δ → ε → ζ → Option η) : Option η := a.bind fun r => f r.1 r.2.1 r.2.2.1 r.2.2.2.1 r.2.2.2.2.1 r.2.2.2.2.2
theorem rk_bd2 {α β γ : Type} {a : Option (α × β)} {f : α → β → Option γ} {r : γ} (h : rk_b2 a f = some r) : ∃ x y, a = some (x, y) ∧ f x y = some r := by
  obtain ⟨⟨x, y⟩, h1, h2⟩ := rk_bd h
  exact ⟨x, y, h1, h2⟩
theorem rk_bd3 {α β γ δ : Type} {a : Option (α × β × γ)} {f : α → β → γ → Option δ} {r : δ} (h : rk_b3 a f = some r) : ∃ x y z, a = some (x, y, z) ∧ f x y z = some r := by
  obtain ⟨⟨x, y, z⟩, h1, h2⟩ := rk_bd h
  exact ⟨x, y, z, h1, h2⟩
theorem rk_bd4 {α β γ δ ε : Type} {a : Option (α × β × γ × δ)} {f : α → β → γ → δ → Option ε} {r : ε} (h : rk_b4 a f = some r) : ∃ x y z w, a = some (x, y, z, w) ∧ f x y z w = some r := by
  obtain ⟨⟨x, y, z, w⟩, h1, h2⟩ := rk_bd h
  exact ⟨x, y, z, w, h1, h2⟩
theorem rk_bd5 {α β γ δ ε ζ : Type} {a : Option (α × β × γ × δ × ε)} {f : α → β → γ → δ → ε → Option ζ} {r : ζ} (h : rk_b5 a f = some r) : ∃ x y z w v, a = some (x, y, z, w, v) ∧ f x y z w v = some r := by
  obtain ⟨⟨x, y, z, w, v⟩, h1, h2⟩ := rk_bd h
  exact ⟨x, y, z, w, v, h1, h2⟩
theorem rk_bd6 {α β γ δ ε ζ η : Type} {a : Option (α × β × γ × δ × ε × ζ)} {f : α → β → γ → δ → ε → ζ → Option η} {r : η} (h : rk_b6 a f = some r) : ∃ x y z w v u, a = some (x, y, z, w, v, u) ∧ f x y z w v u = some r := by
  obtain ⟨⟨x, y, z, w, v, u⟩, h1, h2⟩ := rk_bd h
  exact ⟨x, y, z, w, v, u, h1, h2⟩
theorem rk_it {c : Prop} {_ : Decidable c} {α : Type} {a b : Option α} {r : α} (h : (if c then a else b) = some r) (hc : c) : a = some r := by rwa [if_pos hc] at h
theorem rk_if {c : Prop} {_ : Decidable c} {α : Type} {a b : Option α} {r : α} (h : (if c then a else b) = some r) (hc : ¬ c) : b = some r := by rwa [if_neg hc] at h
/-! LOOPS -/
def rk_loop {α β : Type} (f : α → Option (α ⊕ β)) : Nat → α → Option β
  | 0, _ => none
  | m + 1, a => (f a).bind fun r => rk_sc r (fun a' => rk_loop f m a') some
theorem rk_loop_mono {α β : Type} {f : α → Option (α ⊕ β)} : ∀ {m : Nat} {a : α} {b : β}, rk_loop f m a = some b → rk_loop f (m + 1) a = some b := by
  intro m
  induction m with
  | zero => intro a b h; cases h
  | succ m ih =>
    intro a b h
    obtain ⟨r, h1, h2⟩ := rk_bd h
    show (f a).bind _ = _
    rw [h1]
    cases r with
    | inl a' => exact ih h2
    | inr b' => exact h2
theorem rk_loop_le {α β : Type} {f : α → Option (α ⊕ β)} {m k : Nat} {a : α} {b : β} (hk : m ≤ k) (h : rk_loop f m a = some b) : rk_loop f k a = some b := by
  induction k with
  | zero => rw [Nat.le_zero.mp hk] at h; exact h
  | succ k ih =>
    rcases Nat.lt_or_ge k m with h1 | h1
    · rw [show k + 1 = m by omega]; exact h
    · exact rk_loop_mono (ih h1)
theorem rk_loop_one {α β : Type} {f : α → Option (α ⊕ β)} {m k : Nat} {a : α} {b c : β} (h : rk_loop f m a = some b) (h2 : rk_loop f k a = some c) : b = c := by
  have e1 := rk_loop_le (Nat.le_max_left m k) h
  have e2 := rk_loop_le (Nat.le_max_right m k) h2
  exact Option.some.inj (e1.symm.trans e2)
noncomputable def rk_while {α β : Type} (f : α → Option (α ⊕ β)) (a : α) : Option β := @dite _ (∃ m b, rk_loop f m a = some b) (Classical.propDecidable _) (fun h => some h.choose_spec.choose) (fun _ => none)
theorem rk_while_sp {α β : Type} {f : α → Option (α ⊕ β)} {a : α} {b : β} (h : rk_while f a = some b) : ∃ m, rk_loop f m a = some b := by
  unfold rk_while at h
  split at h
  · rename_i hc
    cases h
    exact ⟨_, hc.choose_spec.choose_spec⟩
  · cases h
theorem rk_while_of {α β : Type} {f : α → Option (α ⊕ β)} {a : α} {b : β} {m : Nat} (h : rk_loop f m a = some b) : rk_while f a = some b := by
  have hc : ∃ m b, rk_loop f m a = some b := ⟨m, b, h⟩
  unfold rk_while
  rw [dif_pos hc]
  exact congrArg some (rk_loop_one hc.choose_spec.choose_spec h)
theorem rk_while_in {α β : Type} {f : α → Option (α ⊕ β)} {a a' : α} (h : f a = some (.inl a')) : rk_while f a = rk_while f a' := by
  cases hb : rk_while f a' with
  | some b =>
    obtain ⟨m, hm⟩ := rk_while_sp hb
    exact rk_while_of (m := m + 1) (by show (f a).bind _ = _; rw [h]; exact hm)
  | none =>
    cases ha : rk_while f a with
    | none => rfl
    | some b =>
      obtain ⟨m, hm⟩ := rk_while_sp ha
      cases m with
      | zero => cases hm
      | succ m =>
        have hm : (f a).bind _ = some b := hm
        rw [h] at hm
        have hm : rk_loop f m a' = some b := hm
        rw [rk_while_of hm] at hb
        cases hb
theorem rk_while_out {α β : Type} {f : α → Option (α ⊕ β)} {a : α} {b : β} (h : f a = some (.inr b)) : rk_while f a = some b :=
  rk_while_of (m := 1) (by show (f a).bind _ = _; rw [h]; rfl)
/-- a loop's rule: an invariant, a measure -/
theorem rk_while_inv {α β : Type} {f : α → Option (α ⊕ β)} (P : α → Prop) (μ : α → Nat) (T : β → Prop) (hs : ∀ a, P a → (∃ a', f a = some (.inl a') ∧ P a' ∧ μ a' < μ a) ∨ ∃ b, f a = some (.inr b) ∧ T b) : ∀ a, P a → ∃ b, rk_while f a = some b ∧ T b := by
  have key : ∀ k a, μ a < k → P a → ∃ b, rk_while f a = some b ∧ T b := by
    intro k
    induction k with
    | zero => intro a h; omega
    | succ k ih =>
      intro a hk hP
      rcases hs a hP with ⟨a', h1, h2, h3⟩ | ⟨b, h1, h2⟩
      · obtain ⟨b, g1, g2⟩ := ih a' (by omega) h2
        exact ⟨b, (rk_while_in h1).trans g1, g2⟩
      · exact ⟨b, rk_while_out h1, h2⟩
  exact fun a h => key (μ a + 1) a (Nat.lt_succ_self _) h
def rk_nx {α β : Type} (f : α → Option (α ⊕ β)) (m : Nat) (b : β) (r : α ⊕ β) : Prop := match r with
  | .inl a' => rk_loop f m a' = some b
  | .inr b' => b' = b
theorem rk_loop_s {α β : Type} {f : α → Option (α ⊕ β)} {m : Nat} {a : α} {b : β} (h : rk_loop f (m + 1) a = some b) : ∃ r, f a = some r ∧ rk_nx f m b r := by
  obtain ⟨r, h1, h2⟩ := rk_bd h
  refine ⟨r, h1, ?_⟩
  cases r with
  | inl a' => exact h2
  | inr b' => exact Option.some.inj h2
section RK
variable {G : rk_G} {l : Launch} {y : MethodName} {cc : ByteArray} {ml : Nat} {rt : Option FieldType} {d kc ks pc : Nat} {lv : List (Option Value)} {st : List Value} {n : Nat} {S : rk_Sh} {I : rk_I} {J : rk_J} {R : rk_R} {Q : rk_Q}
theorem AW_rd {o N : Nat} {i x : Int32} (hd : decode cc pc = .ok (.iaload, 1)) (hS : S o = (20, N)) (e : rk_rd I o N i = some x) (k : AW G l y cc ml rt d kc ks (pc + 1) (lv) (.int x :: st) n S I J R Q) :
    AW G l y cc ml rt d kc ks (pc) (lv) (.int i :: .ref o :: st) n S I J R Q := by
  obtain ⟨g1, rfl⟩ := rk_rd_sp e
  exact AW_iald hd hS g1 k
theorem AW_rdz {o N : Nat} {i x : Int32} (hd : decode cc pc = .ok (.baload, 1)) (hS : S o = (21, N)) (e : rk_rd I o N i = some x) (k : AW G l y cc ml rt d kc ks (pc + 1) (lv) (.int x :: st) n S I J R Q) :
    AW G l y cc ml rt d kc ks (pc) (lv) (.int i :: .ref o :: st) n S I J R Q := by
  obtain ⟨g1, rfl⟩ := rk_rd_sp e
  exact AW_zald hd hS g1 k
theorem AW_rdD {o : Nat} {i x : Int32} (hd : decode cc pc = .ok (.iaload, 1)) (e : rk_rdD S I o i = some x) (k : AW G l y cc ml rt d kc ks (pc + 1) (lv) (.int x :: st) n S I J R Q) :
    AW G l y cc ml rt d kc ks (pc) (lv) (.int i :: .ref o :: st) n S I J R Q := by
  obtain ⟨g0, e⟩ := rk_rdD_sp e
  exact AW_rd hd g0 e k
theorem AW_wr {o N : Nat} {i x : Int32} {I1 : rk_I} (hd : decode cc pc = .ok (.iastore, 1)) (hS : S o = (20, N)) (e : rk_wr I o N i x = some I1) (k : AW G l y cc ml rt d kc ks (pc + 1) (lv) (st) n S I1 J R Q) :
    AW G l y cc ml rt d kc ks (pc) (lv) (.int x :: .int i :: .ref o :: st) n S I J R Q := by
  obtain ⟨g1, rfl⟩ := rk_wr_sp e
  exact AW_iast hd hS g1 k
theorem AW_wrz {o N : Nat} {i x : Int32} {I1 : rk_I} (hd : decode cc pc = .ok (.bastore, 1)) (hS : S o = (21, N)) (hx : x = 0 ∨ x = 1) (e : rk_wr I o N i x = some I1) (k : AW G l y cc ml rt d kc ks (pc + 1) (lv) (st) n S I1 J R Q) :
    AW G l y cc ml rt d kc ks (pc) (lv) (.int x :: .int i :: .ref o :: st) n S I J R Q := by
  obtain ⟨g1, rfl⟩ := rk_wr_sp e
  exact AW_zast hd hS g1 (by rcases hx with rfl | rfl <;> rfl) k
theorem AW_wrD {o : Nat} {i x : Int32} {I1 : rk_I} (hd : decode cc pc = .ok (.iastore, 1)) (e : rk_wrD S I o i x = some I1) (k : AW G l y cc ml rt d kc ks (pc + 1) (lv) (st) n S I1 J R Q) :
    AW G l y cc ml rt d kc ks (pc) (lv) (.int x :: .int i :: .ref o :: st) n S I J R Q := by
  obtain ⟨g0, e⟩ := rk_wrD_sp e
  exact AW_wr hd g0 e k
theorem AW_rdR {o t N : Nat} {i : Int32} {q : Option Nat} (hd : decode cc pc = .ok (.aaload, 1)) (hS : S o = (t, N)) (ht : 22 ≤ t ∧ t < 26) (e : rk_rdR R o N i = some q) (k : AW G l y cc ml rt d kc ks (pc + 1) (lv) (rk_o q :: st) n S I J R Q) :
    AW G l y cc ml rt d kc ks (pc) (lv) (.int i :: .ref o :: st) n S I J R Q := by
  obtain ⟨g1, g2⟩ := rk_rdR_sp e
  cases q with
  | none => exact AW_aaldN hd hS ht g1 g2 k
  | some q => exact AW_aald hd hS ht g1 g2 k
theorem AW_wrR {o t N v ci M : Nat} {i : Int32} {R1 : rk_R} (hd : decode cc pc = .ok (.aastore, 1)) (hS : S o = (t, N)) (ht : (t, ci) = (22, 0) ∨ (t, ci) = (23, 5) ∨ (t, ci) = (24, 7) ∨ (t, ci) = (25, 6)) (hv : S v = (ci, M)) (e : rk_wrR R o N i v = some R1) (k : AW G l y cc ml rt d kc ks (pc + 1) (lv) (st) n S I J R1 Q) :
    AW G l y cc ml rt d kc ks (pc) (lv) (.ref v :: .int i :: .ref o :: st) n S I J R Q := by
  obtain ⟨g1, rfl⟩ := rk_wrR_sp e
  exact AW_aast hd hS ht hv g1 k
theorem AW_getQ {ix ci i o N : Nat} {fin : Bool} {q : Option Nat} (hd : decode cc pc = .ok (.getfield ix, 3)) (hF : rk_fl y.cls ix ci i fin) (hs : rk_sort (rk_ty ci i) = 2) (hS : S o = (ci, N)) (hi : i < N) (e : some (R o i) = some q) (k : AW G l y cc ml rt d kc ks (pc + 3) (lv) (rk_o q :: st) n S I J R Q) :
    AW G l y cc ml rt d kc ks (pc) (lv) (.ref o :: st) n S I J R Q := by
  have e := Option.some.inj e
  cases q with
  | none => exact AW_getN hd hF hs hS hi e k
  | some q => exact AW_getR hd hF hs hS hi e k
theorem AW_puI {ix ci i o N : Nat} {x : Int32} {I1 : rk_I} (hd : decode cc pc = .ok (.putfield ix, 3)) (hF : rk_fl y.cls ix ci i false) (hs : rk_ty ci i = .int) (hS : S o = (ci, N)) (hi : i < N) (e : some (rk_ui I o i x) = some I1) (k : AW G l y cc ml rt d kc ks (pc + 3) (lv) (st) n S I1 J R Q) :
    AW G l y cc ml rt d kc ks (pc) (lv) (.int x :: .ref o :: st) n S I J R Q := by
  cases e
  exact AW_putI hd hF hs hS hi k
theorem AW_puZ {ix ci i o N : Nat} {x : Int32} {I1 : rk_I} (hd : decode cc pc = .ok (.putfield ix, 3)) (hF : rk_fl y.cls ix ci i false) (hs : rk_ty ci i = .boolean) (hS : S o = (ci, N)) (hi : i < N) (hx : x = 0 ∨ x = 1) (e : some (rk_ui I o i x) = some I1) (k : AW G l y cc ml rt d kc ks (pc + 3) (lv) (st) n S I1 J R Q) :
    AW G l y cc ml rt d kc ks (pc) (lv) (.int x :: .ref o :: st) n S I J R Q := by
  cases e
  exact AW_putIZ hd hF hs hS hi hx k
theorem AW_puJ {ix ci i o N : Nat} {x : Int64} {J1 : rk_J} (hd : decode cc pc = .ok (.putfield ix, 3)) (hF : rk_fl y.cls ix ci i false) (hs : rk_ty ci i = .long) (hS : S o = (ci, N)) (hi : i < N) (e : some (rk_uj J o i x) = some J1) (k : AW G l y cc ml rt d kc ks (pc + 3) (lv) (st) n S I J1 R Q) :
    AW G l y cc ml rt d kc ks (pc) (lv) (.long x :: .ref o :: st) n S I J R Q := by
  cases e
  exact AW_putJ hd hF hs hS hi k
theorem AW_puR {ix ci i o N : Nat} {x : Nat} {cn : String} {R1 : rk_R} (hd : decode cc pc = .ok (.putfield ix, 3)) (hF : rk_fl y.cls ix ci i false) (hs : rk_ty ci i = .object cn) (hS : S o = (ci, N)) (hi : i < N) (e : some (rk_ur R o i (some x)) = some R1) (k : AW G l y cc ml rt d kc ks (pc + 3) (lv) (st) n S I J R1 Q) :
    AW G l y cc ml rt d kc ks (pc) (lv) (.ref x :: .ref o :: st) n S I J R Q := by
  cases e
  exact AW_putR hd hF hs hS hi k
theorem AW_puA {ix ci i o N : Nat} {x : Nat} {cn : FieldType} {R1 : rk_R} (hd : decode cc pc = .ok (.putfield ix, 3)) (hF : rk_fl y.cls ix ci i false) (hs : rk_ty ci i = .array cn) (hS : S o = (ci, N)) (hi : i < N) (e : some (rk_ur R o i (some x)) = some R1) (k : AW G l y cc ml rt d kc ks (pc + 3) (lv) (st) n S I J R1 Q) :
    AW G l y cc ml rt d kc ks (pc) (lv) (.ref x :: .ref o :: st) n S I J R Q := by
  cases e
  exact AW_putRA hd hF hs hS hi k
theorem AW_puIF {ix ci i o N : Nat} {x : Int32} {I1 : rk_I} (hd : decode cc pc = .ok (.putfield ix, 3)) (hF : rk_fl y.cls ix ci i true) (hs : rk_ty ci i = .int) (hS : S o = (ci, N)) (hi : i < N) (hmn : y.name = "<init>") (hcl : rk_cn ci = y.cls) (e : some (rk_ui I o i x) = some I1) (k : AW G l y cc ml rt d kc ks (pc + 3) (lv) (st) n S I1 J R Q) :
    AW G l y cc ml rt d kc ks (pc) (lv) (.int x :: .ref o :: st) n S I J R Q := by
  cases e
  exact AW_putIF hd hF hs hS hi hmn hcl k
theorem AW_puZF {ix ci i o N : Nat} {x : Int32} {I1 : rk_I} (hd : decode cc pc = .ok (.putfield ix, 3)) (hF : rk_fl y.cls ix ci i true) (hs : rk_ty ci i = .boolean) (hS : S o = (ci, N)) (hi : i < N) (hmn : y.name = "<init>") (hcl : rk_cn ci = y.cls) (hx : x = 0 ∨ x = 1) (e : some (rk_ui I o i x) = some I1) (k : AW G l y cc ml rt d kc ks (pc + 3) (lv) (st) n S I1 J R Q) :
    AW G l y cc ml rt d kc ks (pc) (lv) (.int x :: .ref o :: st) n S I J R Q := by
  cases e
  exact AW_putIZF hd hF hs hS hi hmn hcl hx k
theorem AW_puJF {ix ci i o N : Nat} {x : Int64} {J1 : rk_J} (hd : decode cc pc = .ok (.putfield ix, 3)) (hF : rk_fl y.cls ix ci i true) (hs : rk_ty ci i = .long) (hS : S o = (ci, N)) (hi : i < N) (hmn : y.name = "<init>") (hcl : rk_cn ci = y.cls) (e : some (rk_uj J o i x) = some J1) (k : AW G l y cc ml rt d kc ks (pc + 3) (lv) (st) n S I J1 R Q) :
    AW G l y cc ml rt d kc ks (pc) (lv) (.long x :: .ref o :: st) n S I J R Q := by
  cases e
  exact AW_putJF hd hF hs hS hi hmn hcl k
theorem AW_puRF {ix ci i o N : Nat} {x : Nat} {cn : String} {R1 : rk_R} (hd : decode cc pc = .ok (.putfield ix, 3)) (hF : rk_fl y.cls ix ci i true) (hs : rk_ty ci i = .object cn) (hS : S o = (ci, N)) (hi : i < N) (hmn : y.name = "<init>") (hcl : rk_cn ci = y.cls) (e : some (rk_ur R o i (some x)) = some R1) (k : AW G l y cc ml rt d kc ks (pc + 3) (lv) (st) n S I J R1 Q) :
    AW G l y cc ml rt d kc ks (pc) (lv) (.ref x :: .ref o :: st) n S I J R Q := by
  cases e
  exact AW_putRF hd hF hs hS hi hmn hcl k
theorem AW_puAF {ix ci i o N : Nat} {x : Nat} {cn : FieldType} {R1 : rk_R} (hd : decode cc pc = .ok (.putfield ix, 3)) (hF : rk_fl y.cls ix ci i true) (hs : rk_ty ci i = .array cn) (hS : S o = (ci, N)) (hi : i < N) (hmn : y.name = "<init>") (hcl : rk_cn ci = y.cls) (e : some (rk_ur R o i (some x)) = some R1) (k : AW G l y cc ml rt d kc ks (pc + 3) (lv) (st) n S I J R1 Q) :
    AW G l y cc ml rt d kc ks (pc) (lv) (.ref x :: .ref o :: st) n S I J R Q := by
  cases e
  exact AW_putRAF hd hF hs hS hi hmn hcl k
theorem AW_divN {x z w : Int32} (hd : decode cc pc = .ok (.idiv, 1)) (e : rk_div x z = some w) (k : AW G l y cc ml rt d kc ks (pc + 1) (lv) (.int w :: st) n S I J R Q) :
    AW G l y cc ml rt d kc ks (pc) (lv) (.int z :: .int x :: st) n S I J R Q := by
  unfold rk_div at e
  split at e
  · cases e
  · cases e; exact AW_idiv hd ‹_› k
theorem AW_remN {x z w : Int32} (hd : decode cc pc = .ok (.irem, 1)) (e : rk_rem x z = some w) (k : AW G l y cc ml rt d kc ks (pc + 1) (lv) (.int w :: st) n S I J R Q) :
    AW G l y cc ml rt d kc ks (pc) (lv) (.int z :: .int x :: st) n S I J R Q := by
  unfold rk_rem at e
  split at e
  · cases e
  · cases e; exact AW_irem hd ‹_› k
theorem AW_ldivN {x z w : Int64} (hd : decode cc pc = .ok (.ldiv, 1)) (e : rk_ldiv x z = some w) (k : AW G l y cc ml rt d kc ks (pc + 1) (lv) (.long w :: st) n S I J R Q) :
    AW G l y cc ml rt d kc ks (pc) (lv) (.long z :: .long x :: st) n S I J R Q := by
  unfold rk_ldiv at e
  split at e
  · cases e
  · cases e; exact AW_ldiv hd ‹_› k
theorem AW_lremN {x z w : Int64} (hd : decode cc pc = .ok (.lrem, 1)) (e : rk_lrem x z = some w) (k : AW G l y cc ml rt d kc ks (pc + 1) (lv) (.long w :: st) n S I J R Q) :
    AW G l y cc ml rt d kc ks (pc) (lv) (.long z :: .long x :: st) n S I J R Q := by
  unfold rk_lrem at e
  split at e
  · cases e
  · cases e; exact AW_lrem hd ‹_› k
theorem AW_alenD {o N : Nat} (hd : decode cc pc = .ok (.arraylength, 1)) (e : rk_al S o = some N) (k : AW G l y cc ml rt d kc ks (pc + 1) (lv) (.int (Int32.ofNat N) :: st) n S I J R Q) :
    AW G l y cc ml rt d kc ks (pc) (lv) (.ref o :: st) n S I J R Q := by
  exact AW_alen hd (rk_al_sp e) rfl rfl k
theorem AW_aloadO_n0 {r : List (Option Value)} {q : Option Nat} (hd : decode cc pc = .ok (.aload_n 0, 1)) (k : AW G l y cc ml rt d kc ks (pc + 1) (some (rk_o q) :: r) (rk_o q :: st) n S I J R Q) :
    AW G l y cc ml rt d kc ks (pc) (some (rk_o q) :: r) (st) n S I J R Q := by
  cases q with
  | none => exact AW_aloadN_n0 hd k
  | some o => exact AW_aload_n0 hd k
theorem AW_astoreO_n0 {z : Option Value} {r : List (Option Value)} {q : Option Nat} (hd : decode cc pc = .ok (.astore_n 0, 1)) (hm : 0 < ml)  (k : AW G l y cc ml rt d kc ks (pc + 1) (some (rk_o q) :: r) (st) n S I J R Q) :
    AW G l y cc ml rt d kc ks (pc) (z :: r) (rk_o q :: st) n S I J R Q := by
  cases q with
  | none => exact AW_astoreN_n0 hd hm  k
  | some o => exact AW_astore_n0 hd hm  k
theorem AW_aloadO_n1 {a0 : Option Value} {r : List (Option Value)} {q : Option Nat} (hd : decode cc pc = .ok (.aload_n 1, 1)) (k : AW G l y cc ml rt d kc ks (pc + 1) (a0 :: some (rk_o q) :: r) (rk_o q :: st) n S I J R Q) :
    AW G l y cc ml rt d kc ks (pc) (a0 :: some (rk_o q) :: r) (st) n S I J R Q := by
  cases q with
  | none => exact AW_aloadN_n1 hd k
  | some o => exact AW_aload_n1 hd k
theorem AW_astoreO_n1 {a0 z : Option Value} {r : List (Option Value)} {q : Option Nat} (hd : decode cc pc = .ok (.astore_n 1, 1)) (hm : 1 < ml) (hp : rk_one a0 = true) (k : AW G l y cc ml rt d kc ks (pc + 1) (a0 :: some (rk_o q) :: r) (st) n S I J R Q) :
    AW G l y cc ml rt d kc ks (pc) (a0 :: z :: r) (rk_o q :: st) n S I J R Q := by
  cases q with
  | none => exact AW_astoreN_n1 hd hm hp k
  | some o => exact AW_astore_n1 hd hm hp k
theorem AW_aloadO_n2 {a0 a1 : Option Value} {r : List (Option Value)} {q : Option Nat} (hd : decode cc pc = .ok (.aload_n 2, 1)) (k : AW G l y cc ml rt d kc ks (pc + 1) (a0 :: a1 :: some (rk_o q) :: r) (rk_o q :: st) n S I J R Q) :
    AW G l y cc ml rt d kc ks (pc) (a0 :: a1 :: some (rk_o q) :: r) (st) n S I J R Q := by
  cases q with
  | none => exact AW_aloadN_n2 hd k
  | some o => exact AW_aload_n2 hd k
theorem AW_astoreO_n2 {a0 a1 z : Option Value} {r : List (Option Value)} {q : Option Nat} (hd : decode cc pc = .ok (.astore_n 2, 1)) (hm : 2 < ml) (hp : rk_one a1 = true) (k : AW G l y cc ml rt d kc ks (pc + 1) (a0 :: a1 :: some (rk_o q) :: r) (st) n S I J R Q) :
    AW G l y cc ml rt d kc ks (pc) (a0 :: a1 :: z :: r) (rk_o q :: st) n S I J R Q := by
  cases q with
  | none => exact AW_astoreN_n2 hd hm hp k
  | some o => exact AW_astore_n2 hd hm hp k
theorem AW_aloadO_n3 {a0 a1 a2 : Option Value} {r : List (Option Value)} {q : Option Nat} (hd : decode cc pc = .ok (.aload_n 3, 1)) (k : AW G l y cc ml rt d kc ks (pc + 1) (a0 :: a1 :: a2 :: some (rk_o q) :: r) (rk_o q :: st) n S I J R Q) :
    AW G l y cc ml rt d kc ks (pc) (a0 :: a1 :: a2 :: some (rk_o q) :: r) (st) n S I J R Q := by
  cases q with
  | none => exact AW_aloadN_n3 hd k
  | some o => exact AW_aload_n3 hd k
theorem AW_astoreO_n3 {a0 a1 a2 z : Option Value} {r : List (Option Value)} {q : Option Nat} (hd : decode cc pc = .ok (.astore_n 3, 1)) (hm : 3 < ml) (hp : rk_one a2 = true) (k : AW G l y cc ml rt d kc ks (pc + 1) (a0 :: a1 :: a2 :: some (rk_o q) :: r) (st) n S I J R Q) :
    AW G l y cc ml rt d kc ks (pc) (a0 :: a1 :: a2 :: z :: r) (rk_o q :: st) n S I J R Q := by
  cases q with
  | none => exact AW_astoreN_n3 hd hm hp k
  | some o => exact AW_astore_n3 hd hm hp k
theorem AW_aloadO_4 {a0 a1 a2 a3 : Option Value} {r : List (Option Value)} {q : Option Nat} (hd : decode cc pc = .ok (.aload 4, 2)) (k : AW G l y cc ml rt d kc ks (pc + 2) (a0 :: a1 :: a2 :: a3 :: some (rk_o q) :: r) (rk_o q :: st) n S I J R Q) :
    AW G l y cc ml rt d kc ks (pc) (a0 :: a1 :: a2 :: a3 :: some (rk_o q) :: r) (st) n S I J R Q := by
  cases q with
  | none => exact AW_aloadN_4 hd k
  | some o => exact AW_aload_4 hd k
theorem AW_astoreO_4 {a0 a1 a2 a3 z : Option Value} {r : List (Option Value)} {q : Option Nat} (hd : decode cc pc = .ok (.astore 4, 2)) (hm : 4 < ml) (hp : rk_one a3 = true) (k : AW G l y cc ml rt d kc ks (pc + 2) (a0 :: a1 :: a2 :: a3 :: some (rk_o q) :: r) (st) n S I J R Q) :
    AW G l y cc ml rt d kc ks (pc) (a0 :: a1 :: a2 :: a3 :: z :: r) (rk_o q :: st) n S I J R Q := by
  cases q with
  | none => exact AW_astoreN_4 hd hm hp k
  | some o => exact AW_astore_4 hd hm hp k
theorem AW_aloadO_5 {a0 a1 a2 a3 a4 : Option Value} {r : List (Option Value)} {q : Option Nat} (hd : decode cc pc = .ok (.aload 5, 2)) (k : AW G l y cc ml rt d kc ks (pc + 2) (a0 :: a1 :: a2 :: a3 :: a4 :: some (rk_o q) :: r) (rk_o q :: st) n S I J R Q) :
    AW G l y cc ml rt d kc ks (pc) (a0 :: a1 :: a2 :: a3 :: a4 :: some (rk_o q) :: r) (st) n S I J R Q := by
  cases q with
  | none => exact AW_aloadN_5 hd k
  | some o => exact AW_aload_5 hd k
theorem AW_astoreO_5 {a0 a1 a2 a3 a4 z : Option Value} {r : List (Option Value)} {q : Option Nat} (hd : decode cc pc = .ok (.astore 5, 2)) (hm : 5 < ml) (hp : rk_one a4 = true) (k : AW G l y cc ml rt d kc ks (pc + 2) (a0 :: a1 :: a2 :: a3 :: a4 :: some (rk_o q) :: r) (st) n S I J R Q) :
    AW G l y cc ml rt d kc ks (pc) (a0 :: a1 :: a2 :: a3 :: a4 :: z :: r) (rk_o q :: st) n S I J R Q := by
  cases q with
  | none => exact AW_astoreN_5 hd hm hp k
  | some o => exact AW_astore_5 hd hm hp k
theorem AW_aloadO_6 {a0 a1 a2 a3 a4 a5 : Option Value} {r : List (Option Value)} {q : Option Nat} (hd : decode cc pc = .ok (.aload 6, 2)) (k : AW G l y cc ml rt d kc ks (pc + 2) (a0 :: a1 :: a2 :: a3 :: a4 :: a5 :: some (rk_o q) :: r) (rk_o q :: st) n S I J R Q) :
    AW G l y cc ml rt d kc ks (pc) (a0 :: a1 :: a2 :: a3 :: a4 :: a5 :: some (rk_o q) :: r) (st) n S I J R Q := by
  cases q with
  | none => exact AW_aloadN_6 hd k
  | some o => exact AW_aload_6 hd k
theorem AW_astoreO_6 {a0 a1 a2 a3 a4 a5 z : Option Value} {r : List (Option Value)} {q : Option Nat} (hd : decode cc pc = .ok (.astore 6, 2)) (hm : 6 < ml) (hp : rk_one a5 = true) (k : AW G l y cc ml rt d kc ks (pc + 2) (a0 :: a1 :: a2 :: a3 :: a4 :: a5 :: some (rk_o q) :: r) (st) n S I J R Q) :
    AW G l y cc ml rt d kc ks (pc) (a0 :: a1 :: a2 :: a3 :: a4 :: a5 :: z :: r) (rk_o q :: st) n S I J R Q := by
  cases q with
  | none => exact AW_astoreN_6 hd hm hp k
  | some o => exact AW_astore_6 hd hm hp k
theorem AW_aloadO_7 {a0 a1 a2 a3 a4 a5 a6 : Option Value} {r : List (Option Value)} {q : Option Nat} (hd : decode cc pc = .ok (.aload 7, 2)) (k : AW G l y cc ml rt d kc ks (pc + 2) (a0 :: a1 :: a2 :: a3 :: a4 :: a5 :: a6 :: some (rk_o q) :: r) (rk_o q :: st) n S I J R Q) :
    AW G l y cc ml rt d kc ks (pc) (a0 :: a1 :: a2 :: a3 :: a4 :: a5 :: a6 :: some (rk_o q) :: r) (st) n S I J R Q := by
  cases q with
  | none => exact AW_aloadN_7 hd k
  | some o => exact AW_aload_7 hd k
theorem AW_astoreO_7 {a0 a1 a2 a3 a4 a5 a6 z : Option Value} {r : List (Option Value)} {q : Option Nat} (hd : decode cc pc = .ok (.astore 7, 2)) (hm : 7 < ml) (hp : rk_one a6 = true) (k : AW G l y cc ml rt d kc ks (pc + 2) (a0 :: a1 :: a2 :: a3 :: a4 :: a5 :: a6 :: some (rk_o q) :: r) (st) n S I J R Q) :
    AW G l y cc ml rt d kc ks (pc) (a0 :: a1 :: a2 :: a3 :: a4 :: a5 :: a6 :: z :: r) (rk_o q :: st) n S I J R Q := by
  cases q with
  | none => exact AW_astoreN_7 hd hm hp k
  | some o => exact AW_astore_7 hd hm hp k
theorem AW_aloadO_8 {a0 a1 a2 a3 a4 a5 a6 a7 : Option Value} {r : List (Option Value)} {q : Option Nat} (hd : decode cc pc = .ok (.aload 8, 2)) (k : AW G l y cc ml rt d kc ks (pc + 2) (a0 :: a1 :: a2 :: a3 :: a4 :: a5 :: a6 :: a7 :: some (rk_o q) :: r) (rk_o q :: st) n S I J R Q) :
    AW G l y cc ml rt d kc ks (pc) (a0 :: a1 :: a2 :: a3 :: a4 :: a5 :: a6 :: a7 :: some (rk_o q) :: r) (st) n S I J R Q := by
  cases q with
  | none => exact AW_aloadN_8 hd k
  | some o => exact AW_aload_8 hd k
theorem AW_astoreO_8 {a0 a1 a2 a3 a4 a5 a6 a7 z : Option Value} {r : List (Option Value)} {q : Option Nat} (hd : decode cc pc = .ok (.astore 8, 2)) (hm : 8 < ml) (hp : rk_one a7 = true) (k : AW G l y cc ml rt d kc ks (pc + 2) (a0 :: a1 :: a2 :: a3 :: a4 :: a5 :: a6 :: a7 :: some (rk_o q) :: r) (st) n S I J R Q) :
    AW G l y cc ml rt d kc ks (pc) (a0 :: a1 :: a2 :: a3 :: a4 :: a5 :: a6 :: a7 :: z :: r) (rk_o q :: st) n S I J R Q := by
  cases q with
  | none => exact AW_astoreN_8 hd hm hp k
  | some o => exact AW_astore_8 hd hm hp k
theorem AW_aloadO_9 {a0 a1 a2 a3 a4 a5 a6 a7 a8 : Option Value} {r : List (Option Value)} {q : Option Nat} (hd : decode cc pc = .ok (.aload 9, 2)) (k : AW G l y cc ml rt d kc ks (pc + 2) (a0 :: a1 :: a2 :: a3 :: a4 :: a5 :: a6 :: a7 :: a8 :: some (rk_o q) :: r) (rk_o q :: st) n S I J R Q) :
    AW G l y cc ml rt d kc ks (pc) (a0 :: a1 :: a2 :: a3 :: a4 :: a5 :: a6 :: a7 :: a8 :: some (rk_o q) :: r) (st) n S I J R Q := by
  cases q with
  | none => exact AW_aloadN_9 hd k
  | some o => exact AW_aload_9 hd k
theorem AW_astoreO_9 {a0 a1 a2 a3 a4 a5 a6 a7 a8 z : Option Value} {r : List (Option Value)} {q : Option Nat} (hd : decode cc pc = .ok (.astore 9, 2)) (hm : 9 < ml) (hp : rk_one a8 = true) (k : AW G l y cc ml rt d kc ks (pc + 2) (a0 :: a1 :: a2 :: a3 :: a4 :: a5 :: a6 :: a7 :: a8 :: some (rk_o q) :: r) (st) n S I J R Q) :
    AW G l y cc ml rt d kc ks (pc) (a0 :: a1 :: a2 :: a3 :: a4 :: a5 :: a6 :: a7 :: a8 :: z :: r) (rk_o q :: st) n S I J R Q := by
  cases q with
  | none => exact AW_astoreN_9 hd hm hp k
  | some o => exact AW_astore_9 hd hm hp k
theorem AW_aloadO_10 {a0 a1 a2 a3 a4 a5 a6 a7 a8 a9 : Option Value} {r : List (Option Value)} {q : Option Nat} (hd : decode cc pc = .ok (.aload 10, 2)) (k : AW G l y cc ml rt d kc ks (pc + 2) (a0 :: a1 :: a2 :: a3 :: a4 :: a5 :: a6 :: a7 :: a8 :: a9 :: some (rk_o q) :: r) (rk_o q :: st) n S I J R Q) :
    AW G l y cc ml rt d kc ks (pc) (a0 :: a1 :: a2 :: a3 :: a4 :: a5 :: a6 :: a7 :: a8 :: a9 :: some (rk_o q) :: r) (st) n S I J R Q := by
  cases q with
  | none => exact AW_aloadN_10 hd k
  | some o => exact AW_aload_10 hd k
theorem AW_astoreO_10 {a0 a1 a2 a3 a4 a5 a6 a7 a8 a9 z : Option Value} {r : List (Option Value)} {q : Option Nat} (hd : decode cc pc = .ok (.astore 10, 2)) (hm : 10 < ml) (hp : rk_one a9 = true) (k : AW G l y cc ml rt d kc ks (pc + 2) (a0 :: a1 :: a2 :: a3 :: a4 :: a5 :: a6 :: a7 :: a8 :: a9 :: some (rk_o q) :: r) (st) n S I J R Q) :
    AW G l y cc ml rt d kc ks (pc) (a0 :: a1 :: a2 :: a3 :: a4 :: a5 :: a6 :: a7 :: a8 :: a9 :: z :: r) (rk_o q :: st) n S I J R Q := by
  cases q with
  | none => exact AW_astoreN_10 hd hm hp k
  | some o => exact AW_astore_10 hd hm hp k
theorem AW_aloadO_11 {a0 a1 a2 a3 a4 a5 a6 a7 a8 a9 a10 : Option Value} {r : List (Option Value)} {q : Option Nat} (hd : decode cc pc = .ok (.aload 11, 2)) (k : AW G l y cc ml rt d kc ks (pc + 2) (a0 :: a1 :: a2 :: a3 :: a4 :: a5 :: a6 :: a7 :: a8 :: a9 :: a10 :: some (rk_o q) :: r) (rk_o q :: st) n S I J R Q) :
    AW G l y cc ml rt d kc ks (pc) (a0 :: a1 :: a2 :: a3 :: a4 :: a5 :: a6 :: a7 :: a8 :: a9 :: a10 :: some (rk_o q) :: r) (st) n S I J R Q := by
  cases q with
  | none => exact AW_aloadN_11 hd k
  | some o => exact AW_aload_11 hd k
theorem AW_astoreO_11 {a0 a1 a2 a3 a4 a5 a6 a7 a8 a9 a10 z : Option Value} {r : List (Option Value)} {q : Option Nat} (hd : decode cc pc = .ok (.astore 11, 2)) (hm : 11 < ml) (hp : rk_one a10 = true) (k : AW G l y cc ml rt d kc ks (pc + 2) (a0 :: a1 :: a2 :: a3 :: a4 :: a5 :: a6 :: a7 :: a8 :: a9 :: a10 :: some (rk_o q) :: r) (st) n S I J R Q) :
    AW G l y cc ml rt d kc ks (pc) (a0 :: a1 :: a2 :: a3 :: a4 :: a5 :: a6 :: a7 :: a8 :: a9 :: a10 :: z :: r) (rk_o q :: st) n S I J R Q := by
  cases q with
  | none => exact AW_astoreN_11 hd hm hp k
  | some o => exact AW_astore_11 hd hm hp k
theorem AW_aloadO_12 {a0 a1 a2 a3 a4 a5 a6 a7 a8 a9 a10 a11 : Option Value} {r : List (Option Value)} {q : Option Nat} (hd : decode cc pc = .ok (.aload 12, 2)) (k : AW G l y cc ml rt d kc ks (pc + 2) (a0 :: a1 :: a2 :: a3 :: a4 :: a5 :: a6 :: a7 :: a8 :: a9 :: a10 :: a11 :: some (rk_o q) :: r) (rk_o q :: st) n S I J R Q) :
    AW G l y cc ml rt d kc ks (pc) (a0 :: a1 :: a2 :: a3 :: a4 :: a5 :: a6 :: a7 :: a8 :: a9 :: a10 :: a11 :: some (rk_o q) :: r) (st) n S I J R Q := by
  cases q with
  | none => exact AW_aloadN_12 hd k
  | some o => exact AW_aload_12 hd k
theorem AW_astoreO_12 {a0 a1 a2 a3 a4 a5 a6 a7 a8 a9 a10 a11 z : Option Value} {r : List (Option Value)} {q : Option Nat} (hd : decode cc pc = .ok (.astore 12, 2)) (hm : 12 < ml) (hp : rk_one a11 = true) (k : AW G l y cc ml rt d kc ks (pc + 2) (a0 :: a1 :: a2 :: a3 :: a4 :: a5 :: a6 :: a7 :: a8 :: a9 :: a10 :: a11 :: some (rk_o q) :: r) (st) n S I J R Q) :
    AW G l y cc ml rt d kc ks (pc) (a0 :: a1 :: a2 :: a3 :: a4 :: a5 :: a6 :: a7 :: a8 :: a9 :: a10 :: a11 :: z :: r) (rk_o q :: st) n S I J R Q := by
  cases q with
  | none => exact AW_astoreN_12 hd hm hp k
  | some o => exact AW_astore_12 hd hm hp k
theorem AW_aloadO_13 {a0 a1 a2 a3 a4 a5 a6 a7 a8 a9 a10 a11 a12 : Option Value} {r : List (Option Value)} {q : Option Nat} (hd : decode cc pc = .ok (.aload 13, 2)) (k : AW G l y cc ml rt d kc ks (pc + 2) (a0 :: a1 :: a2 :: a3 :: a4 :: a5 :: a6 :: a7 :: a8 :: a9 :: a10 :: a11 :: a12 :: some (rk_o q) :: r) (rk_o q :: st) n S I J R Q) :
    AW G l y cc ml rt d kc ks (pc) (a0 :: a1 :: a2 :: a3 :: a4 :: a5 :: a6 :: a7 :: a8 :: a9 :: a10 :: a11 :: a12 :: some (rk_o q) :: r) (st) n S I J R Q := by
  cases q with
  | none => exact AW_aloadN_13 hd k
  | some o => exact AW_aload_13 hd k
theorem AW_astoreO_13 {a0 a1 a2 a3 a4 a5 a6 a7 a8 a9 a10 a11 a12 z : Option Value} {r : List (Option Value)} {q : Option Nat} (hd : decode cc pc = .ok (.astore 13, 2)) (hm : 13 < ml) (hp : rk_one a12 = true) (k : AW G l y cc ml rt d kc ks (pc + 2) (a0 :: a1 :: a2 :: a3 :: a4 :: a5 :: a6 :: a7 :: a8 :: a9 :: a10 :: a11 :: a12 :: some (rk_o q) :: r) (st) n S I J R Q) :
    AW G l y cc ml rt d kc ks (pc) (a0 :: a1 :: a2 :: a3 :: a4 :: a5 :: a6 :: a7 :: a8 :: a9 :: a10 :: a11 :: a12 :: z :: r) (rk_o q :: st) n S I J R Q := by
  cases q with
  | none => exact AW_astoreN_13 hd hm hp k
  | some o => exact AW_astore_13 hd hm hp k
theorem AW_aloadO_14 {a0 a1 a2 a3 a4 a5 a6 a7 a8 a9 a10 a11 a12 a13 : Option Value} {r : List (Option Value)} {q : Option Nat} (hd : decode cc pc = .ok (.aload 14, 2)) (k : AW G l y cc ml rt d kc ks (pc + 2) (a0 :: a1 :: a2 :: a3 :: a4 :: a5 :: a6 :: a7 :: a8 :: a9 :: a10 :: a11 :: a12 :: a13 :: some (rk_o q) :: r) (rk_o q :: st) n S I J R Q) :
    AW G l y cc ml rt d kc ks (pc) (a0 :: a1 :: a2 :: a3 :: a4 :: a5 :: a6 :: a7 :: a8 :: a9 :: a10 :: a11 :: a12 :: a13 :: some (rk_o q) :: r) (st) n S I J R Q := by
  cases q with
  | none => exact AW_aloadN_14 hd k
  | some o => exact AW_aload_14 hd k
theorem AW_astoreO_14 {a0 a1 a2 a3 a4 a5 a6 a7 a8 a9 a10 a11 a12 a13 z : Option Value} {r : List (Option Value)} {q : Option Nat} (hd : decode cc pc = .ok (.astore 14, 2)) (hm : 14 < ml) (hp : rk_one a13 = true) (k : AW G l y cc ml rt d kc ks (pc + 2) (a0 :: a1 :: a2 :: a3 :: a4 :: a5 :: a6 :: a7 :: a8 :: a9 :: a10 :: a11 :: a12 :: a13 :: some (rk_o q) :: r) (st) n S I J R Q) :
    AW G l y cc ml rt d kc ks (pc) (a0 :: a1 :: a2 :: a3 :: a4 :: a5 :: a6 :: a7 :: a8 :: a9 :: a10 :: a11 :: a12 :: a13 :: z :: r) (rk_o q :: st) n S I J R Q := by
  cases q with
  | none => exact AW_astoreN_14 hd hm hp k
  | some o => exact AW_astore_14 hd hm hp k
theorem AW_aloadO_15 {a0 a1 a2 a3 a4 a5 a6 a7 a8 a9 a10 a11 a12 a13 a14 : Option Value} {r : List (Option Value)} {q : Option Nat} (hd : decode cc pc = .ok (.aload 15, 2)) (k : AW G l y cc ml rt d kc ks (pc + 2) (a0 :: a1 :: a2 :: a3 :: a4 :: a5 :: a6 :: a7 :: a8 :: a9 :: a10 :: a11 :: a12 :: a13 :: a14 :: some (rk_o q) :: r) (rk_o q :: st) n S I J R Q) :
    AW G l y cc ml rt d kc ks (pc) (a0 :: a1 :: a2 :: a3 :: a4 :: a5 :: a6 :: a7 :: a8 :: a9 :: a10 :: a11 :: a12 :: a13 :: a14 :: some (rk_o q) :: r) (st) n S I J R Q := by
  cases q with
  | none => exact AW_aloadN_15 hd k
  | some o => exact AW_aload_15 hd k
theorem AW_astoreO_15 {a0 a1 a2 a3 a4 a5 a6 a7 a8 a9 a10 a11 a12 a13 a14 z : Option Value} {r : List (Option Value)} {q : Option Nat} (hd : decode cc pc = .ok (.astore 15, 2)) (hm : 15 < ml) (hp : rk_one a14 = true) (k : AW G l y cc ml rt d kc ks (pc + 2) (a0 :: a1 :: a2 :: a3 :: a4 :: a5 :: a6 :: a7 :: a8 :: a9 :: a10 :: a11 :: a12 :: a13 :: a14 :: some (rk_o q) :: r) (st) n S I J R Q) :
    AW G l y cc ml rt d kc ks (pc) (a0 :: a1 :: a2 :: a3 :: a4 :: a5 :: a6 :: a7 :: a8 :: a9 :: a10 :: a11 :: a12 :: a13 :: a14 :: z :: r) (rk_o q :: st) n S I J R Q := by
  cases q with
  | none => exact AW_astoreN_15 hd hm hp k
  | some o => exact AW_astore_15 hd hm hp k
theorem AW_acmS_eq {q r tq Nq tr Nr : Nat} {off : Int} (tgt : Nat) (hd : decode cc pc = .ok (.if_acmp .eq off, 3)) (ht : (pc : Int) + off = (tgt : Int)) (hq : S q = (tq, Nq)) (hq2 : tq < 99) (hr : S r = (tr, Nr)) (hr2 : tr < 99) (kt : q = r → AW G l y cc ml rt d kc ks (tgt) (lv) (st) n S I J R Q) (kf : ¬ q = r → AW G l y cc ml rt d kc ks (pc + 3) (lv) (st) n S I J R Q) :
    AW G l y cc ml rt d kc ks (pc) (lv) (.ref r :: .ref q :: st) n S I J R Q := by
  intro p e Rm s m args below meth c H locs cells slots ls C h1 h2 h3 h4
  have g1 := rk_At_lt h1 hq hq2
  have g2 := rk_At_lt h1 hr hr2
  have g3 := h1.2.2.1
  exact (AW_acmp_eq tgt hd ht (by omega) (by omega) kt kf) _ _ _ _ _ _ _ _ _ _ _ _ _ ls C h1 h2 h3 h4
theorem AW_acmS_ne {q r tq Nq tr Nr : Nat} {off : Int} (tgt : Nat) (hd : decode cc pc = .ok (.if_acmp .ne off, 3)) (ht : (pc : Int) + off = (tgt : Int)) (hq : S q = (tq, Nq)) (hq2 : tq < 99) (hr : S r = (tr, Nr)) (hr2 : tr < 99) (kt : ¬ q = r → AW G l y cc ml rt d kc ks (tgt) (lv) (st) n S I J R Q) (kf : q = r → AW G l y cc ml rt d kc ks (pc + 3) (lv) (st) n S I J R Q) :
    AW G l y cc ml rt d kc ks (pc) (lv) (.ref r :: .ref q :: st) n S I J R Q := by
  intro p e Rm s m args below meth c H locs cells slots ls C h1 h2 h3 h4
  have g1 := rk_At_lt h1 hq hq2
  have g2 := rk_At_lt h1 hr hr2
  have g3 := h1.2.2.1
  exact (AW_acmp_ne tgt hd ht (by omega) (by omega) kt kf) _ _ _ _ _ _ _ _ _ _ _ _ _ ls C h1 h2 h3 h4
theorem AW_copy {ix a na b nb : Nat} {sp dp n9 : Int32} {I1 : rk_I} (hd : decode cc pc = .ok (.invokestatic ix, 3)) (hl : Cond.methodLink y.cls ix arraycopyName ∈ lw_tk ∧ Cond.native arraycopyName ∈ lw_tk ∧ Cond.static arraycopyName ∈ lw_tk ∧ Cond.initialized "java/lang/System" ∈ lw_tk) (hSa : S a = (20, na)) (hSb : S b = (20, nb)) (e9 : rk_cp I a na b nb sp dp n9 = some I1) (hdd : 1 ≤ d) (hr : (st.map fun v => v.category).sum ≤ 8) (k : AW G l y cc ml rt d kc ks (pc + 3) (lv) (st) n S I1 J R Q) :
    AW G l y cc ml rt d kc ks (pc) (lv) (.int n9 :: .int dp :: .ref b :: .int sp :: .ref a :: st) n S I J R Q := by
  intro p e Rm s m args below meth c H locs cells slots ls C h1 h2 h3 h4
  obtain ⟨⟨g1, g2, g3, g4, g5⟩, rfl⟩ := rk_cp_sp e9
  have c9 : ∀ (vs : List Value), ((vs.map (rk_v G.1)).map fun v => v.category) = vs.map fun v => v.category := fun vs => by rw [List.map_map]; exact List.map_congr_left (fun v _ => rk_cat _ v)
  have f1 := C.2.2.2.2.2.2.2.2.2.2.1
  have f2 := C.2.2.2.2.2.2.2.2.2.2.2.1
  have f3 : nativeFrameWords "java/lang/System" "arraycopy" 5 + 11 ≤ 50 := by decide
  have nn : ∀ z : Int32, ¬ z < 0 → z.toInt = (z.toNatClampNeg : Int) := by
    intro z hz
    have hz0 : (0 : Int) ≤ z.toInt := by
      have := Int32.not_lt.mp hz
      simpa using Int32.le_iff_toInt_le.mp this
    show z.toInt = ((z.toInt.toNat : Nat) : Int)
    omega
  have pa := rk_row h1 hSa (by omega) (by omega)
  have pb := rk_row h1 hSb (by omega) (by omega)
  have hca : H[G.1 a]? = some (vp_cell (G.2.2.2.2.1 20) (na, .inl (I a))) := h1.1 a _ pa
  have hcb : H[G.1 b]? = some (vp_cell (G.2.2.2.2.1 20) (nb, .inl (I b))) := h1.1 b _ pb
  have hA : rk_A G (G.1 b) := (rk_D_ok (S := S) (I := I) (J := J) (R := R) C.2.2.2.2.2.2.2.2.2.2.2.2.1 h1.2.2.1).2 b _ pb
  obtain ⟨-, k0, hk0, cm0, hkk0⟩ := (C.2.2.2.2.2.2.2.1.2 0 _ rfl).1 na (fun j => .int (I a j))
  intro T hT X
  obtain ⟨vm', X', step⟩ := X.arraycopy C.1 C.2.2.2.2.1 (C.2.2.2.2.2.1 _ hl.1) (C.2.2.2.2.2.1 _ hl.2.1) (C.2.2.2.2.2.1 _ hl.2.2.1) (C.2.2.2.2.2.1 _ hl.2.2.2) (src := G.1 a) (dst := G.1 b) (cs := vp_cell (G.2.2.2.2.1 20) (na, .inl (I a))) (cd := vp_cell (G.2.2.2.2.1 20) (nb, .inl (I b))) (srcPos := sp) (destPos := dp) (n := n9) (by rw [hT]; exact hca) (by rw [hT]; exact hcb)
    (fun _ h => by cases h) (fun _ h => by cases h) (fun h => by cases h) (fun h => by cases h) hk0 hk0 hkk0 hkk0 (by simp [refKind]) g1 g2 g3
    (by rw [nn sp g1, nn n9 g3]; show ¬ _ > ((arrV _ na (fun j => .int (I a j))).slots.size : Int); rw [arrV_size]; omega)
    (by rw [nn dp g2, nn n9 g3]; show ¬ _ > ((arrV _ nb (fun j => .int (I b j))).slots.size : Int); rw [arrV_size]; omega)
    (fun vm₁ _ i hi => by
      have e : (vp_cell (G.2.2.2.2.1 20) (na, .inl (I a))).slots.getD (sp.toNatClampNeg + i) .null = .int (I a (sp.toNatClampNeg + i)) := by
        show (arrV _ na (fun j => .int (I a j))).slots.getD _ _ = _
        rw [Array.getD_eq_getD_getElem?, arrV_read _ _ (by omega)]
        rfl
      exact ⟨by rw [e]; rfl, by rw [e]; exact trivial⟩)
    (g := F0 m pc ls (.int n9 :: .int dp :: .ref (G.1 b) :: .int sp :: .ref (G.1 a) :: st.map (rk_v G.1))) rfl (by rw [C.2.2.2.1]; exact h3.1) (rest := st.map (rk_v G.1)) rfl (by rw [C.2.1]; exact hd) (by omega) (by rw [c9]; show 2 * 0 + _ + _ ≤ _; omega)
  have e1 : copied (vp_cell (G.2.2.2.2.1 20) (na, .inl (I a))) (vp_cell (G.2.2.2.2.1 20) (nb, .inl (I b))) sp dp n9 = vp_cell (G.2.2.2.2.1 20) (nb, .inl (va_cpy (I a) (I b) sp.toNatClampNeg dp.toNatClampNeg n9.toNatClampNeg)) := va_copied (fun z => .int z) _ _ (I a) (I b) g4
  rw [e1] at X' step
  have hlt : G.1 b < H.size := (Array.getElem?_eq_some_iff.mp hcb).1
  have oq : ∀ q : Nat, q ≠ G.1 b → (H.setIfInBounds (G.1 b) (vp_cell (G.2.2.2.2.1 20) (nb, .inl (va_cpy (I a) (I b) sp.toNatClampNeg dp.toNatClampNeg n9.toNatClampNeg))))[q]? = H[q]? := fun q hq => by simp [Array.getElem?_setIfInBounds, Ne.symm hq]
  have hb2 : (fun k => if k = b then va_cpy (I a) (I b) sp.toNatClampNeg dp.toNatClampNeg n9.toNatClampNeg else I k) b = va_cpy (I a) (I b) sp.toNatClampNeg dp.toNatClampNeg n9.toNatClampNeg := if_pos rfl
  have h1' := rk_At_set (I' := fun k => if k = b then va_cpy (I a) (I b) sp.toNatClampNeg dp.toNatClampNeg n9.toNatClampNeg else I k) (J' := J) (R' := R) (e := .inl (G.2.2.2.2.1 20, nb, .inl (va_cpy (I a) (I b) sp.toNatClampNeg dp.toNatClampNeg n9.toNatClampNeg))) C.2.2.2.2.2.2.2.2.2.2.2.2.1 h1 pb (show (H.setIfInBounds (G.1 b) _)[G.1 b]? = some _ by simp [Array.getElem?_setIfInBounds, hlt]) (by simp) oq (by rw [rk_cell_row hSb (by omega) (by omega), if_pos rfl]) (fun j hj => ⟨if_neg hj, rfl, rfl⟩)
  obtain ⟨t, a1, b1⟩ := k p e Rm s m args below meth c _ _ _ _ ls C h1' ⟨by simp; exact h2.1, fun q z1 z2 => by
      rw [oq q (fun e => z2 (by rw [e]; exact hA))]
      exact h2.2.1 q z1 z2, fun q hq => by
      rcases List.mem_append.mp hq with h | h
      · exact h2.2.2 q h
      · obtain ⟨z, -, hz⟩ := List.mem_map.mp h
        rw [← hz]
        exact hA⟩ h3 h4 _ (by rw [← hT]; rfl) X'
  exact ⟨t, step t a1, b1⟩
end RK
