/-! WRAPPERS of the rules, and what the walks by program need -/
def rk_us (x z : Int32) : Int32 := (x.toUInt32 >>> (z.toUInt32 &&& Int32.toUInt32 31)).toInt32
def rk_lus (x : Int64) (z : Int32) : Int64 := (x.toUInt64 >>> (z.toInt64.toUInt64 &&& Int64.toUInt64 63)).toInt64
def rk_lsl (x : Int64) (z : Int32) : Int64 := x <<< (z.toInt64 &&& 63)
def rk_lsr (x : Int64) (z : Int32) : Int64 := x >>> (z.toInt64 &&& 63)
def rk_md (x z : Int32) : Int32 := x - x / z * z
def rk_ic (x : Int32) : Int32 := (x.toUInt32 % 65536).toInt32
def rk_max (x y : Int32) : Int32 := if x < y then y else x
def rk_min (x y : Int32) : Int32 := if y < x then y else x
def rk_abs (x : Int32) : Int32 := if 0 ≤ x then x else 0 - x
def rk_lmax (x y : Int64) : Int64 := if y < x then x else y
def rk_ch (x : Int32) : Option Int32 := if rk_ic x = x then some x else none
def rk_ck (S : rk_Sh) (o t N : Nat) : Option Unit := if S o = (t, N) then some () else none
theorem rk_ck_sp {S : rk_Sh} {o t N : Nat} {u : Unit} (h : rk_ck S o t N = some u) : S o = (t, N) := by
  unfold rk_ck at h
  split at h
  · assumption
  · cases h
def rk_ckR (R : rk_R) (o i q : Nat) : Option Unit := if R o i = some q then some () else none
theorem rk_ckR_sp {R : rk_R} {o i q : Nat} {u : Unit} (h : rk_ckR R o i q = some u) : R o i = some q := by
  unfold rk_ckR at h
  split at h
  · assumption
  · cases h
def rk_ckn (n k : Nat) : Option Unit := if n = k then some () else none
theorem rk_ckn_sp {n k : Nat} {u : Unit} (h : rk_ckn n k = some u) : n = k := by
  unfold rk_ckn at h
  split at h
  · assumption
  · cases h
def rk_nck (n : Nat) : Option Unit := if n < 900000 then some () else none
theorem rk_nck_sp {n : Nat} {u : Unit} (h : rk_nck n = some u) : n < 900000 := by
  unfold rk_nck at h
  split at h
  · assumption
  · cases h
def rk_nwa (v : Int32) (B : Nat) : Option Nat := if v < 0 ∨ B < v.toNatClampNeg then none else some v.toNatClampNeg
theorem rk_nwa_sp {v : Int32} {B N : Nat} (h : rk_nwa v B = some N) : ¬ v < 0 ∧ v.toNatClampNeg = N ∧ N ≤ B := by
  unfold rk_nwa at h
  split at h
  · cases h
  · rename_i hc
    cases h
    exact ⟨fun z => hc (Or.inl z), rfl, Nat.not_lt.mp fun z => hc (Or.inr z)⟩
def rk_p1 {α γ : Type} (b : α) (f : α → γ) : γ := f b
def rk_p2 {α β γ : Type} (b : α × β) (f : α → β → γ) : γ := f b.1 b.2
def rk_p3 {α β γ δ : Type} (b : α × β × γ) (f : α → β → γ → δ) : δ := f b.1 b.2.1 b.2.2
def rk_p4 {α β γ δ ε : Type} (b : α × β × γ × δ) (f : α → β → γ → δ → ε) : ε := f b.1 b.2.1 b.2.2.1 b.2.2.2
def rk_p5 {α0 α1 α2 α3 α4 γ : Type} (b : α0 × α1 × α2 × α3 × α4) (f : α0 → α1 → α2 → α3 → α4 → γ) : γ := f b.1 b.2.1 b.2.2.1 b.2.2.2.1 b.2.2.2.2
theorem rk_scp5 {α0 α1 α2 α3 α4 β γ : Type} {x0 : α0} {x1 : α1} {x2 : α2} {x3 : α3} {x4 : α4} {f : α0 → α1 → α2 → α3 → α4 → γ} {g : β → γ} {r : γ} (h : rk_sc (.inl (x0, x1, x2, x3, x4)) (fun b => rk_p5 b f) g = r) : f x0 x1 x2 x3 x4 = r := h
def rk_p6 {α0 α1 α2 α3 α4 α5 γ : Type} (b : α0 × α1 × α2 × α3 × α4 × α5) (f : α0 → α1 → α2 → α3 → α4 → α5 → γ) : γ := f b.1 b.2.1 b.2.2.1 b.2.2.2.1 b.2.2.2.2.1 b.2.2.2.2.2
theorem rk_scp6 {α0 α1 α2 α3 α4 α5 β γ : Type} {x0 : α0} {x1 : α1} {x2 : α2} {x3 : α3} {x4 : α4} {x5 : α5} {f : α0 → α1 → α2 → α3 → α4 → α5 → γ} {g : β → γ} {r : γ} (h : rk_sc (.inl (x0, x1, x2, x3, x4, x5)) (fun b => rk_p6 b f) g = r) : f x0 x1 x2 x3 x4 x5 = r := h
def rk_p7 {α0 α1 α2 α3 α4 α5 α6 γ : Type} (b : α0 × α1 × α2 × α3 × α4 × α5 × α6) (f : α0 → α1 → α2 → α3 → α4 → α5 → α6 → γ) : γ := f b.1 b.2.1 b.2.2.1 b.2.2.2.1 b.2.2.2.2.1 b.2.2.2.2.2.1 b.2.2.2.2.2.2
theorem rk_scp7 {α0 α1 α2 α3 α4 α5 α6 β γ : Type} {x0 : α0} {x1 : α1} {x2 : α2} {x3 : α3} {x4 : α4} {x5 : α5} {x6 : α6} {f : α0 → α1 → α2 → α3 → α4 → α5 → α6 → γ} {g : β → γ} {r : γ} (h : rk_sc (.inl (x0, x1, x2, x3, x4, x5, x6)) (fun b => rk_p7 b f) g = r) : f x0 x1 x2 x3 x4 x5 x6 = r := h
def rk_p8 {α0 α1 α2 α3 α4 α5 α6 α7 γ : Type} (b : α0 × α1 × α2 × α3 × α4 × α5 × α6 × α7) (f : α0 → α1 → α2 → α3 → α4 → α5 → α6 → α7 → γ) : γ := f b.1 b.2.1 b.2.2.1 b.2.2.2.1 b.2.2.2.2.1 b.2.2.2.2.2.1 b.2.2.2.2.2.2.1 b.2.2.2.2.2.2.2
theorem rk_scp8 {α0 α1 α2 α3 α4 α5 α6 α7 β γ : Type} {x0 : α0} {x1 : α1} {x2 : α2} {x3 : α3} {x4 : α4} {x5 : α5} {x6 : α6} {x7 : α7} {f : α0 → α1 → α2 → α3 → α4 → α5 → α6 → α7 → γ} {g : β → γ} {r : γ} (h : rk_sc (.inl (x0, x1, x2, x3, x4, x5, x6, x7)) (fun b => rk_p8 b f) g = r) : f x0 x1 x2 x3 x4 x5 x6 x7 = r := h
def rk_p9 {α0 α1 α2 α3 α4 α5 α6 α7 α8 γ : Type} (b : α0 × α1 × α2 × α3 × α4 × α5 × α6 × α7 × α8) (f : α0 → α1 → α2 → α3 → α4 → α5 → α6 → α7 → α8 → γ) : γ := f b.1 b.2.1 b.2.2.1 b.2.2.2.1 b.2.2.2.2.1 b.2.2.2.2.2.1 b.2.2.2.2.2.2.1 b.2.2.2.2.2.2.2.1 b.2.2.2.2.2.2.2.2
theorem rk_scp9 {α0 α1 α2 α3 α4 α5 α6 α7 α8 β γ : Type} {x0 : α0} {x1 : α1} {x2 : α2} {x3 : α3} {x4 : α4} {x5 : α5} {x6 : α6} {x7 : α7} {x8 : α8} {f : α0 → α1 → α2 → α3 → α4 → α5 → α6 → α7 → α8 → γ} {g : β → γ} {r : γ} (h : rk_sc (.inl (x0, x1, x2, x3, x4, x5, x6, x7, x8)) (fun b => rk_p9 b f) g = r) : f x0 x1 x2 x3 x4 x5 x6 x7 x8 = r := h
def rk_b7 {α0 α1 α2 α3 α4 α5 α6 γ : Type} (a : Option (α0 × α1 × α2 × α3 × α4 × α5 × α6)) (f : α0 → α1 → α2 → α3 → α4 → α5 → α6 → Option γ) : Option γ := a.bind fun b => f b.1 b.2.1 b.2.2.1 b.2.2.2.1 b.2.2.2.2.1 b.2.2.2.2.2.1 b.2.2.2.2.2.2
theorem rk_bd7 {α0 α1 α2 α3 α4 α5 α6 γ : Type} {a : Option (α0 × α1 × α2 × α3 × α4 × α5 × α6)} {f : α0 → α1 → α2 → α3 → α4 → α5 → α6 → Option γ} {r : γ} (h : rk_b7 a f = some r) : ∃ x0 x1 x2 x3 x4 x5 x6, a = some (x0, x1, x2, x3, x4, x5, x6) ∧ f x0 x1 x2 x3 x4 x5 x6 = some r := by
  obtain ⟨⟨x0, x1, x2, x3, x4, x5, x6⟩, h1, h2⟩ := rk_bd h
  exact ⟨x0, x1, x2, x3, x4, x5, x6, h1, h2⟩
def rk_b8 {α0 α1 α2 α3 α4 α5 α6 α7 γ : Type} (a : Option (α0 × α1 × α2 × α3 × α4 × α5 × α6 × α7)) (f : α0 → α1 → α2 → α3 → α4 → α5 → α6 → α7 → Option γ) : Option γ := a.bind fun b => f b.1 b.2.1 b.2.2.1 b.2.2.2.1 b.2.2.2.2.1 b.2.2.2.2.2.1 b.2.2.2.2.2.2.1 b.2.2.2.2.2.2.2
theorem rk_bd8 {α0 α1 α2 α3 α4 α5 α6 α7 γ : Type} {a : Option (α0 × α1 × α2 × α3 × α4 × α5 × α6 × α7)} {f : α0 → α1 → α2 → α3 → α4 → α5 → α6 → α7 → Option γ} {r : γ} (h : rk_b8 a f = some r) : ∃ x0 x1 x2 x3 x4 x5 x6 x7, a = some (x0, x1, x2, x3, x4, x5, x6, x7) ∧ f x0 x1 x2 x3 x4 x5 x6 x7 = some r := by
  obtain ⟨⟨x0, x1, x2, x3, x4, x5, x6, x7⟩, h1, h2⟩ := rk_bd h
  exact ⟨x0, x1, x2, x3, x4, x5, x6, x7, h1, h2⟩
theorem rk_scp0 {β γ : Type} {f : Unit → γ} {g : β → γ} {r : γ} (h : rk_sc (.inl ()) f g = r) : f () = r := h
theorem rk_scp1 {α β γ : Type} {x : α} {f : α → γ} {g : β → γ} {r : γ} (h : rk_sc (.inl x) (fun b => rk_p1 b f) g = r) : f x = r := h
theorem rk_scp2 {α α2 β γ : Type} {x : α} {y : α2} {f : α → α2 → γ} {g : β → γ} {r : γ} (h : rk_sc (.inl (x, y)) (fun b => rk_p2 b f) g = r) : f x y = r := h
theorem rk_scp3 {α α2 α3 β γ : Type} {x : α} {y : α2} {z : α3} {f : α → α2 → α3 → γ} {g : β → γ} {r : γ} (h : rk_sc (.inl (x, y, z)) (fun b => rk_p3 b f) g = r) : f x y z = r := h
theorem rk_scp4 {α α2 α3 α4 β γ : Type} {x : α} {y : α2} {z : α3} {w : α4} {f : α → α2 → α3 → α4 → γ} {g : β → γ} {r : γ} (h : rk_sc (.inl (x, y, z, w)) (fun b => rk_p4 b f) g = r) : f x y z w = r := h
theorem rk_sc_r {α β γ : Type} {x : β} {f : α → γ} {g : β → γ} {r : γ} (h : rk_sc (.inr x) f g = r) : g x = r := h
theorem rk_oc_n {α : Type} {a : α} {f : Nat → α} {r : α} (h : rk_oc none a f = r) : a = r := h
theorem rk_oc_s {α : Type} {o : Nat} {a : α} {f : Nat → α} {r : α} (h : rk_oc (some o) a f = r) : f o = r := h
theorem rk_o_cat (q : Option Nat) : (rk_o q).category = 1 := by cases q <;> rfl
theorem rk_oneO (q : Option Nat) : rk_one (some (rk_o q)) = true := by cases q <;> rfl
/-- the fixed cells: the class's, the reference's -/
def rk_cS : Nat → Nat × Nat := fun k => match k with
  | 0 => (8, 17)
  | 1 => (22, 4)
  | 2 => (23, 24)
  | 3 => (24, 6)
  | 4 => (2, 10)
  | 5 => (20, 160)
  | 6 => (20, 161)
  | 7 => (20, 161)
  | 8 => (20, 160)
  | 9 => (20, 3)
  | 10 => (3, 2)
  | 11 => (20, 160)
  | 12 => (1, 5)
  | 13 => (20, 10)
  | 14 => (23, 24)
  | 15 => (20, 24)
  | 16 => (4, 4)
  | 17 => (20, 10)
  | 18 => (25, 4)
  | 19 => (20, 10)
  | 20 => (6, 3)
  | 21 => (20, 40)
  | 22 => (6, 3)
  | 23 => (20, 40)
  | 24 => (6, 3)
  | 25 => (20, 40)
  | 26 => (6, 3)
  | 27 => (20, 40)
  | _ => (0, 0)
def rk_cR : Nat → Nat → Option Nat := fun k i => match k, i with
  | 0, 0 => some 1
  | 0, 2 => some 2
  | 0, 4 => some 3
  | 0, 7 => some 4
  | 0, 8 => some 10
  | 0, 9 => some 12
  | 0, 10 => some 16
  | 0, 11 => some 18
  | 0, 12 => some 19
  | 4, 0 => some 5
  | 4, 2 => some 6
  | 4, 3 => some 7
  | 4, 7 => some 8
  | 4, 9 => some 9
  | 10, 0 => some 11
  | 12, 0 => some 13
  | 12, 1 => some 14
  | 12, 2 => some 15
  | 16, 0 => some 17
  | 18, 0 => some 20
  | 18, 1 => some 22
  | 18, 2 => some 24
  | 18, 3 => some 26
  | 20, 0 => some 21
  | 22, 0 => some 23
  | 24, 0 => some 25
  | 26, 0 => some 27
  | _, _ => none
def rk_LC (S : rk_Sh) (R : rk_R) : Prop := (∀ k, k < 28 → S k = rk_cS k) ∧ ∀ k i q, rk_cR k i = some q → R k i = some q
def rk_mS : Nat → Nat × Nat := fun k => match k with
  | 31 => (9, 46)
  | 32 => (20, 960)
  | 33 => (20, 6)
  | 34 => (20, 160)
  | 35 => (20, 4)
  | 36 => (20, 4)
  | 37 => (20, 12)
  | 38 => (20, 24)
  | 39 => (20, 24)
  | 40 => (20, 24)
  | 41 => (20, 24)
  | 42 => (20, 24)
  | 43 => (20, 24)
  | 44 => (20, 24)
  | 45 => (20, 24)
  | 46 => (20, 24)
  | 47 => (20, 10)
  | 48 => (20, 24)
  | 49 => (20, 10)
  | 50 => (20, 12)
  | 51 => (20, 24)
  | 52 => (20, 24)
  | 53 => (21, 4)
  | 54 => (20, 4)
  | 55 => (20, 4)
  | 56 => (20, 160)
  | _ => (0, 0)
def rk_mR : Nat → Nat → Option Nat := fun k i => match k, i with
  | 31, 1 => some 32
  | 31, 2 => some 33
  | 31, 5 => some 34
  | 31, 7 => some 35
  | 31, 8 => some 36
  | 31, 9 => some 37
  | 31, 11 => some 38
  | 31, 12 => some 39
  | 31, 13 => some 40
  | 31, 14 => some 41
  | 31, 15 => some 42
  | 31, 16 => some 43
  | 31, 17 => some 44
  | 31, 18 => some 45
  | 31, 19 => some 46
  | 31, 21 => some 47
  | 31, 22 => some 48
  | 31, 34 => some 49
  | 31, 35 => some 50
  | 31, 36 => some 51
  | 31, 37 => some 52
  | 31, 42 => some 53
  | 31, 43 => some 54
  | 31, 44 => some 55
  | 31, 45 => some 56
  | _, _ => none
def rk_LM (S : rk_Sh) (R : rk_R) : Prop := (∀ k, 31 ≤ k → k < 57 → S k = rk_mS k) ∧ ∀ k i q, rk_mR k i = some q → R k i = some q
noncomputable def rk_layC (S : rk_Sh) (R : rk_R) : Option Unit := @ite _ (rk_LC S R) (Classical.propDecidable _) (some ()) none
noncomputable def rk_layM (S : rk_Sh) (R : rk_R) : Option Unit := @ite _ (rk_LM S R) (Classical.propDecidable _) (some ()) none
theorem rk_layC_sp {S : rk_Sh} {R : rk_R} {u : Unit} (h : rk_layC S R = some u) : rk_LC S R := by
  unfold rk_layC at h
  split at h
  · assumption
  · cases h
theorem rk_layM_sp {S : rk_Sh} {R : rk_R} {u : Unit} (h : rk_layM S R = some u) : rk_LM S R := by
  unfold rk_layM at h
  split at h
  · assumption
  · cases h
theorem rk_LC_ur {S : rk_Sh} {R R1 : rk_R} {o i : Nat} {v : Option Nat} (h : rk_LC S R) (e : some (rk_ur R o i v) = some R1) (hc : rk_cR o i = none) : rk_LC S R1 := by
  cases e
  refine ⟨h.1, fun k j q hq => ?_⟩
  unfold rk_ur
  by_cases hk : k = o
  · by_cases hj : j = i
    · subst hk; subst hj; rw [hc] at hq; cases hq
    · rw [if_pos hk, if_neg hj]; exact h.2 k j q hq
  · rw [if_neg hk]; exact h.2 k j q hq
theorem rk_LC_wr {S : rk_Sh} {R R1 : rk_R} {o N v : Nat} {i : Int32} (h : rk_LC S R) (e : rk_wrR R o N i v = some R1) (hc : ∀ j, rk_cR o j = none) : rk_LC S R1 := by
  obtain ⟨-, rfl⟩ := rk_wrR_sp e
  exact rk_LC_ur h rfl (hc _)
theorem rk_inW {ws : List Cond} (ps : List Nat) (h : (∀ w ∈ ws, w ∈ ps.filterMap (fun i => tables_1[i]?))) (h2 : (ws.all lw_ok) = true) : ∀ w ∈ ws, w ∈ lw_tk := by
  intro w hw
  have := h w hw
  obtain ⟨i, -, hi⟩ := List.mem_filterMap.mp this
  exact rk_tk i hi (List.all_eq_true.mp h2 w hw)
theorem rk_tp {w : Cond} (i : Nat) (h : (k2_sels lw_privs)[i]? = some w) (h2 : lw_ok w = true) : w ∈ lw_tk := List.mem_filter.mpr ⟨List.mem_append_left _ (List.mem_of_getElem? h), h2⟩
theorem rk_dv_0 : ∀ j, j < 5 → defaultValue (rk_ty 0 j) = rk_fv (fun z => z) (fun _ _ => 0) (fun _ _ => 0) (fun _ _ => none) 0 (rk_sort (rk_ty 0 j)) j := by
  intro j hj
  have : ∀ j : Fin 5, defaultValue (rk_ty 0 j) = rk_fv (fun z => z) (fun _ _ => 0) (fun _ _ => 0) (fun _ _ => none) 0 (rk_sort (rk_ty 0 j)) j := by decide
  exact this ⟨j, hj⟩
theorem rk_dv_1 : ∀ j, j < 5 → defaultValue (rk_ty 1 j) = rk_fv (fun z => z) (fun _ _ => 0) (fun _ _ => 0) (fun _ _ => none) 0 (rk_sort (rk_ty 1 j)) j := by
  intro j hj
  have : ∀ j : Fin 5, defaultValue (rk_ty 1 j) = rk_fv (fun z => z) (fun _ _ => 0) (fun _ _ => 0) (fun _ _ => none) 0 (rk_sort (rk_ty 1 j)) j := by decide
  exact this ⟨j, hj⟩
theorem rk_dv_2 : ∀ j, j < 10 → defaultValue (rk_ty 2 j) = rk_fv (fun z => z) (fun _ _ => 0) (fun _ _ => 0) (fun _ _ => none) 0 (rk_sort (rk_ty 2 j)) j := by
  intro j hj
  have : ∀ j : Fin 10, defaultValue (rk_ty 2 j) = rk_fv (fun z => z) (fun _ _ => 0) (fun _ _ => 0) (fun _ _ => none) 0 (rk_sort (rk_ty 2 j)) j := by decide
  exact this ⟨j, hj⟩
theorem rk_dv_3 : ∀ j, j < 2 → defaultValue (rk_ty 3 j) = rk_fv (fun z => z) (fun _ _ => 0) (fun _ _ => 0) (fun _ _ => none) 0 (rk_sort (rk_ty 3 j)) j := by
  intro j hj
  have : ∀ j : Fin 2, defaultValue (rk_ty 3 j) = rk_fv (fun z => z) (fun _ _ => 0) (fun _ _ => 0) (fun _ _ => none) 0 (rk_sort (rk_ty 3 j)) j := by decide
  exact this ⟨j, hj⟩
theorem rk_dv_4 : ∀ j, j < 4 → defaultValue (rk_ty 4 j) = rk_fv (fun z => z) (fun _ _ => 0) (fun _ _ => 0) (fun _ _ => none) 0 (rk_sort (rk_ty 4 j)) j := by
  intro j hj
  have : ∀ j : Fin 4, defaultValue (rk_ty 4 j) = rk_fv (fun z => z) (fun _ _ => 0) (fun _ _ => 0) (fun _ _ => none) 0 (rk_sort (rk_ty 4 j)) j := by decide
  exact this ⟨j, hj⟩
theorem rk_dv_5 : ∀ j, j < 11 → defaultValue (rk_ty 5 j) = rk_fv (fun z => z) (fun _ _ => 0) (fun _ _ => 0) (fun _ _ => none) 0 (rk_sort (rk_ty 5 j)) j := by
  intro j hj
  have : ∀ j : Fin 11, defaultValue (rk_ty 5 j) = rk_fv (fun z => z) (fun _ _ => 0) (fun _ _ => 0) (fun _ _ => none) 0 (rk_sort (rk_ty 5 j)) j := by decide
  exact this ⟨j, hj⟩
theorem rk_dv_6 : ∀ j, j < 3 → defaultValue (rk_ty 6 j) = rk_fv (fun z => z) (fun _ _ => 0) (fun _ _ => 0) (fun _ _ => none) 0 (rk_sort (rk_ty 6 j)) j := by
  intro j hj
  have : ∀ j : Fin 3, defaultValue (rk_ty 6 j) = rk_fv (fun z => z) (fun _ _ => 0) (fun _ _ => 0) (fun _ _ => none) 0 (rk_sort (rk_ty 6 j)) j := by decide
  exact this ⟨j, hj⟩
theorem rk_dv_7 : ∀ j, j < 2 → defaultValue (rk_ty 7 j) = rk_fv (fun z => z) (fun _ _ => 0) (fun _ _ => 0) (fun _ _ => none) 0 (rk_sort (rk_ty 7 j)) j := by
  intro j hj
  have : ∀ j : Fin 2, defaultValue (rk_ty 7 j) = rk_fv (fun z => z) (fun _ _ => 0) (fun _ _ => 0) (fun _ _ => none) 0 (rk_sort (rk_ty 7 j)) j := by decide
  exact this ⟨j, hj⟩
theorem rk_dv_8 : ∀ j, j < 17 → defaultValue (rk_ty 8 j) = rk_fv (fun z => z) (fun _ _ => 0) (fun _ _ => 0) (fun _ _ => none) 0 (rk_sort (rk_ty 8 j)) j := by
  intro j hj
  have : ∀ j : Fin 17, defaultValue (rk_ty 8 j) = rk_fv (fun z => z) (fun _ _ => 0) (fun _ _ => 0) (fun _ _ => none) 0 (rk_sort (rk_ty 8 j)) j := by decide
  exact this ⟨j, hj⟩
theorem rk_dv_9 : ∀ j, j < 46 → defaultValue (rk_ty 9 j) = rk_fv (fun z => z) (fun _ _ => 0) (fun _ _ => 0) (fun _ _ => none) 0 (rk_sort (rk_ty 9 j)) j := by
  intro j hj
  have : ∀ j : Fin 46, defaultValue (rk_ty 9 j) = rk_fv (fun z => z) (fun _ _ => 0) (fun _ _ => 0) (fun _ _ => none) 0 (rk_sort (rk_ty 9 j)) j := by decide
  exact this ⟨j, hj⟩
def rk_qi (x : Int32) (n : Nat) (S : rk_Sh) (I : rk_I) (J : rk_J) (R : rk_R) (P : Prop) : rk_Q := fun v n' S' I' J' R' => some (.int x) = v ∧ n = n' ∧ S = S' ∧ I = I' ∧ J = J' ∧ R = R' ∧ P
def rk_ql (x : Int64) (n : Nat) (S : rk_Sh) (I : rk_I) (J : rk_J) (R : rk_R) (P : Prop) : rk_Q := fun v n' S' I' J' R' => some (.long x) = v ∧ n = n' ∧ S = S' ∧ I = I' ∧ J = J' ∧ R = R' ∧ P
def rk_qv (n : Nat) (S : rk_Sh) (I : rk_I) (J : rk_J) (R : rk_R) (P : Prop) : rk_Q := fun v n' S' I' J' R' => none = v ∧ n = n' ∧ S = S' ∧ I = I' ∧ J = J' ∧ R = R' ∧ P
def rk_qo (q : Option Nat) (n : Nat) (S : rk_Sh) (I : rk_I) (J : rk_J) (R : rk_R) (P : Prop) : rk_Q := fun v n' S' I' J' R' => some (rk_o q) = v ∧ n = n' ∧ S = S' ∧ I = I' ∧ J = J' ∧ R = R' ∧ P
def rk_qr (q : Nat) (n : Nat) (S : rk_Sh) (I : rk_I) (J : rk_J) (R : rk_R) (P : Prop) : rk_Q := fun v n' S' I' J' R' => some (.ref q) = v ∧ n = n' ∧ S = S' ∧ I = I' ∧ J = J' ∧ R = R' ∧ P
section RK
variable {G : rk_G} {l : Launch} {y : MethodName} {cc : ByteArray} {ml : Nat} {rt : Option FieldType} {d kc ks pc : Nat} {lv : List (Option Value)} {st : List Value} {n : Nat} {S : rk_Sh} {I : rk_I} {J : rk_J} {R : rk_R} {Q : rk_Q}
theorem AW_us {x z : Int32} (hd : decode cc pc = .ok (.iushr, 1))  (k : AW G l y cc ml rt d kc ks (pc + 1) lv (.int (rk_us x z) :: st) n S I J R Q) : AW G l y cc ml rt d kc ks (pc) lv (.int z :: .int x :: st) n S I J R Q := AW_iushr hd k
theorem AW_md {x z : Int32} (hd : decode cc pc = .ok (.irem, 1)) (hz : ¬ z = 0) (k : AW G l y cc ml rt d kc ks (pc + 1) lv (.int (rk_md x z) :: st) n S I J R Q) : AW G l y cc ml rt d kc ks (pc) lv (.int z :: .int x :: st) n S I J R Q := AW_irem hd hz k
theorem AW_lsl {x : Int64} {z : Int32} (hd : decode cc pc = .ok (.lshl, 1))  (k : AW G l y cc ml rt d kc ks (pc + 1) lv (.long (rk_lsl x z) :: st) n S I J R Q) : AW G l y cc ml rt d kc ks (pc) lv (.int z :: .long x :: st) n S I J R Q := AW_lshl hd k
theorem AW_lsr {x : Int64} {z : Int32} (hd : decode cc pc = .ok (.lshr, 1))  (k : AW G l y cc ml rt d kc ks (pc + 1) lv (.long (rk_lsr x z) :: st) n S I J R Q) : AW G l y cc ml rt d kc ks (pc) lv (.int z :: .long x :: st) n S I J R Q := AW_lshr hd k
theorem AW_lus {x : Int64} {z : Int32} (hd : decode cc pc = .ok (.lushr, 1))  (k : AW G l y cc ml rt d kc ks (pc + 1) lv (.long (rk_lus x z) :: st) n S I J R Q) : AW G l y cc ml rt d kc ks (pc) lv (.int z :: .long x :: st) n S I J R Q := AW_lushr hd k
theorem AW_ic {x : Int32} (hd : decode cc pc = .ok (.i2c, 1))  (k : AW G l y cc ml rt d kc ks (pc + 1) lv (.int (rk_ic x) :: st) n S I J R Q) : AW G l y cc ml rt d kc ks (pc) lv (.int x :: st) n S I J R Q := AW_i2c hd k
theorem AW_cr {v x : Int32} (hd : decode cc pc = .ok (.ireturn, 1)) (hr : rt = some .char) (e : rk_ch v = some x) (hq : Q (some (.int x)) n S I J R) : AW G l y cc ml rt d kc ks pc lv [.int v] n S I J R Q := by
  unfold rk_ch at e
  split at e
  · rename_i hc
    cases e
    exact AW_cret hd hr (by have := pk_nc v; unfold rk_ic at hc; rw [hc] at this; exact this) hq
  · cases e
theorem AW_mmax {x z : Int32} {ix : Nat} (hd : decode cc pc = .ok (.invokestatic ix, 3)) (hl : Cond.methodLink y.cls ix Lib.Math.max.name ∈ lw_tk ∧ Cond.static Lib.Math.max.name ∈ lw_tk ∧ Cond.initialized "java/lang/Math" ∈ lw_tk ∧ Cond.code Lib.Math.max.name Lib.Math.max.code 2 (some .int) ∈ lw_tk) (hdd : 1 ≤ d) (hr : (st.map fun v => v.category).sum ≤ 8) (k : AW G l y cc ml rt d kc ks (pc + 3) lv (.int (rk_max x z) :: st) n S I J R Q) : AW G l y cc ml rt d kc ks (pc) lv (.int z :: .int x :: st) n S I J R Q := by
  intro p e Rm s m args below meth c H locs cells slots ls C h1 h2 h3 h4
  have c9 : ∀ (vs : List Value), ((vs.map (rk_v G.1)).map fun v => v.category) = vs.map fun v => v.category := fun vs => by rw [List.map_map]; exact List.map_congr_left (fun v _ => rk_cat _ v)
  have f1 := C.2.2.2.2.2.2.2.2.2.2.1
  have f2 := C.2.2.2.2.2.2.2.2.2.2.2.1
  exact va_mmax C.1 C.2.1 (by rw [C.2.2.2.1]; exact h3.1.symm) C.2.2.2.2.1 (C.2.2.2.2.2.1 _ hl.1) (C.2.2.2.2.2.1 _ hl.2.1) (C.2.2.2.2.2.1 _ hl.2.2.1) (C.2.2.2.2.2.1 _ hl.2.2.2) (by omega) (by rw [c9]; omega) (by omega) (by omega) hd (k p e Rm s m args below meth c H locs cells slots ls C h1 h2 h3 h4)
theorem AW_mmin {x z : Int32} {ix : Nat} (hd : decode cc pc = .ok (.invokestatic ix, 3)) (hl : Cond.methodLink y.cls ix Lib.Math.min.name ∈ lw_tk ∧ Cond.static Lib.Math.min.name ∈ lw_tk ∧ Cond.initialized "java/lang/Math" ∈ lw_tk ∧ Cond.code Lib.Math.min.name Lib.Math.min.code 2 (some .int) ∈ lw_tk) (hdd : 1 ≤ d) (hr : (st.map fun v => v.category).sum ≤ 8) (k : AW G l y cc ml rt d kc ks (pc + 3) lv (.int (rk_min x z) :: st) n S I J R Q) : AW G l y cc ml rt d kc ks (pc) lv (.int z :: .int x :: st) n S I J R Q := by
  intro p e Rm s m args below meth c H locs cells slots ls C h1 h2 h3 h4
  have c9 : ∀ (vs : List Value), ((vs.map (rk_v G.1)).map fun v => v.category) = vs.map fun v => v.category := fun vs => by rw [List.map_map]; exact List.map_congr_left (fun v _ => rk_cat _ v)
  have f1 := C.2.2.2.2.2.2.2.2.2.2.1
  have f2 := C.2.2.2.2.2.2.2.2.2.2.2.1
  exact va_mmin C.1 C.2.1 (by rw [C.2.2.2.1]; exact h3.1.symm) C.2.2.2.2.1 (C.2.2.2.2.2.1 _ hl.1) (C.2.2.2.2.2.1 _ hl.2.1) (C.2.2.2.2.2.1 _ hl.2.2.1) (C.2.2.2.2.2.1 _ hl.2.2.2) (by omega) (by rw [c9]; omega) (by omega) (by omega) hd (k p e Rm s m args below meth c H locs cells slots ls C h1 h2 h3 h4)
theorem AW_mabs {x : Int32} {ix : Nat} (hd : decode cc pc = .ok (.invokestatic ix, 3)) (hl : Cond.methodLink y.cls ix Lib.Math.abs.name ∈ lw_tk ∧ Cond.static Lib.Math.abs.name ∈ lw_tk ∧ Cond.initialized "java/lang/Math" ∈ lw_tk ∧ Cond.code Lib.Math.abs.name Lib.Math.abs.code 1 (some .int) ∈ lw_tk) (hdd : 1 ≤ d) (hr : (st.map fun v => v.category).sum ≤ 8) (k : AW G l y cc ml rt d kc ks (pc + 3) lv (.int (rk_abs x) :: st) n S I J R Q) : AW G l y cc ml rt d kc ks (pc) lv (.int x :: st) n S I J R Q := by
  intro p e Rm s m args below meth c H locs cells slots ls C h1 h2 h3 h4
  have c9 : ∀ (vs : List Value), ((vs.map (rk_v G.1)).map fun v => v.category) = vs.map fun v => v.category := fun vs => by rw [List.map_map]; exact List.map_congr_left (fun v _ => rk_cat _ v)
  have f1 := C.2.2.2.2.2.2.2.2.2.2.1
  have f2 := C.2.2.2.2.2.2.2.2.2.2.2.1
  exact va_mabs C.1 C.2.1 (by rw [C.2.2.2.1]; exact h3.1.symm) C.2.2.2.2.1 (C.2.2.2.2.2.1 _ hl.1) (C.2.2.2.2.2.1 _ hl.2.1) (C.2.2.2.2.2.1 _ hl.2.2.1) (C.2.2.2.2.2.1 _ hl.2.2.2) (by omega) (by rw [c9]; omega) (by omega) (by omega) hd (k p e Rm s m args below meth c H locs cells slots ls C h1 h2 h3 h4)
theorem AW_mlmax {x z : Int64} {ix : Nat} (hd : decode cc pc = .ok (.invokestatic ix, 3)) (hl : Cond.methodLink y.cls ix Lib.MathLoose.max_long.x ∈ lw_tk ∧ Cond.static Lib.MathLoose.max_long.x ∈ lw_tk ∧ Cond.initialized "java/lang/Math" ∈ lw_tk ∧ Cond.code Lib.MathLoose.max_long.x Lib.MathLoose.max_long.code 4 (some .long) ∈ lw_tk) (hdd : 1 ≤ d) (hr : (st.map fun v => v.category).sum ≤ 8) (k : AW G l y cc ml rt d kc ks (pc + 3) lv (.long (rk_lmax x z) :: st) n S I J R Q) : AW G l y cc ml rt d kc ks (pc) lv (.long z :: .long x :: st) n S I J R Q := by
  intro p e Rm s m args below meth c H locs cells slots ls C h1 h2 h3 h4
  have c9 : ∀ (vs : List Value), ((vs.map (rk_v G.1)).map fun v => v.category) = vs.map fun v => v.category := fun vs => by rw [List.map_map]; exact List.map_congr_left (fun v _ => rk_cat _ v)
  have f1 := C.2.2.2.2.2.2.2.2.2.2.1
  have f2 := C.2.2.2.2.2.2.2.2.2.2.2.1
  exact va_mmax_long C.1 C.2.1 (by rw [C.2.2.2.1]; exact h3.1.symm) C.2.2.2.2.1 (C.2.2.2.2.2.1 _ hl.1) (C.2.2.2.2.2.1 _ hl.2.1) (C.2.2.2.2.2.1 _ hl.2.2.1) (C.2.2.2.2.2.1 _ hl.2.2.2) (by omega) (by rw [c9]; omega) (by omega) (by omega) hd (k p e Rm s m args below meth c H locs cells slots ls C h1 h2 h3 h4)
theorem AW_nwO {ix ci N : Nat} {S1 : rk_Sh} {I1 : rk_I} {J1 : rk_J} {R1 : rk_R} (hd : decode cc pc = .ok (.new ix, 3)) (hF : rk_cl y.cls ix ci N) (hn : n < 900000) (e1 : some (rk_sh S n ci N) = some S1) (e2 : some (rk_zi I n) = some I1) (e3 : some (rk_zj J n) = some J1) (e4 : some (rk_zr R n) = some R1) (k : AW G l y cc ml rt d kc ks (pc + 3) lv (.ref n :: st) (n + 1) S1 I1 J1 R1 Q) : AW G l y cc ml rt d (kc + 1) (ks + N) (pc) lv (st) n S I J R Q := by
  cases e1; cases e2; cases e3; cases e4
  exact AW_new hd hF hn k
theorem AW_nwI {v : Int32} {N : Nat} {S1 : rk_Sh} {I1 : rk_I} {J1 : rk_J} {R1 : rk_R} (hd : decode cc pc = .ok (.newarray .int, 2)) (hw : Cond.arrayClass .int ∈ lw_tk) (hv : ¬ v < 0) (hN : v.toNatClampNeg = N) (hb : N ≤ 100000) (hn : n < 900000) (e1 : some (rk_sh S n 20 N) = some S1) (e2 : some (rk_zi I n) = some I1) (e3 : some (rk_zj J n) = some J1) (e4 : some (rk_zr R n) = some R1) (k : AW G l y cc ml rt d kc ks (pc + 2) lv (.ref n :: st) (n + 1) S1 I1 J1 R1 Q) : AW G l y cc ml rt d (kc + 1) (ks + N) (pc) lv (.int v :: st) n S I J R Q := by
  cases e1; cases e2; cases e3; cases e4
  exact AW_newI hd hw hv hN hb hn k
theorem AW_nwZ {v : Int32} {N : Nat} {S1 : rk_Sh} {I1 : rk_I} {J1 : rk_J} {R1 : rk_R} (hd : decode cc pc = .ok (.newarray .boolean, 2)) (hw : Cond.arrayClass .boolean ∈ lw_tk) (hv : ¬ v < 0) (hN : v.toNatClampNeg = N) (hb : N ≤ 100000) (hn : n < 900000) (e1 : some (rk_sh S n 21 N) = some S1) (e2 : some (rk_zi I n) = some I1) (e3 : some (rk_zj J n) = some J1) (e4 : some (rk_zr R n) = some R1) (k : AW G l y cc ml rt d kc ks (pc + 2) lv (.ref n :: st) (n + 1) S1 I1 J1 R1 Q) : AW G l y cc ml rt d (kc + 1) (ks + N) (pc) lv (.int v :: st) n S I J R Q := by
  cases e1; cases e2; cases e3; cases e4
  exact AW_newZ hd hw hv hN hb hn k
theorem AW_nwB {v : Int32} {N B : Nat} {S1 : rk_Sh} {I1 : rk_I} {J1 : rk_J} {R1 : rk_R} (hd : decode cc pc = .ok (.newarray .int, 2)) (hw : Cond.arrayClass .int ∈ lw_tk) (hv : ¬ v < 0) (hN : v.toNatClampNeg = N) (hb : N ≤ B) (hB : B ≤ 100000) (hn : n < 900000) (e1 : some (rk_sh S n 20 N) = some S1) (e2 : some (rk_zi I n) = some I1) (e3 : some (rk_zj J n) = some J1) (e4 : some (rk_zr R n) = some R1) (k : AW G l y cc ml rt d kc ks (pc + 2) lv (.ref n :: st) (n + 1) S1 I1 J1 R1 Q) : AW G l y cc ml rt d (kc + 1) (ks + B) (pc) lv (.int v :: st) n S I J R Q := by
  cases e1; cases e2; cases e3; cases e4
  exact AW_newIle hd hw hv hN hb hB hn k
theorem AW_nwQ {ix t ci : Nat} {v : Int32} {N : Nat} {S1 : rk_Sh} {I1 : rk_I} {J1 : rk_J} {R1 : rk_R} (hd : decode cc pc = .ok (.anewarray ix, 3)) (ht : (t, ci) = (22, 0) ∨ (t, ci) = (23, 5) ∨ (t, ci) = (24, 7) ∨ (t, ci) = (25, 6)) (hw : Cond.classLink y.cls ix (rk_cn ci) ∈ lw_tk ∧ Cond.arrayOver (.object (rk_cn ci)) ∈ rk_nw) (hv : ¬ v < 0) (hN : v.toNatClampNeg = N) (hb : N ≤ 100000) (hn : n < 900000) (e1 : some (rk_sh S n t N) = some S1) (e2 : some (rk_zi I n) = some I1) (e3 : some (rk_zj J n) = some J1) (e4 : some (rk_zr R n) = some R1) (k : AW G l y cc ml rt d kc ks (pc + 3) lv (.ref n :: st) (n + 1) S1 I1 J1 R1 Q) : AW G l y cc ml rt d (kc + 1) (ks + N) (pc) lv (.int v :: st) n S I J R Q := by
  cases e1; cases e2; cases e3; cases e4
  exact AW_newQ (M := 0) hd ht hw hv hN hb hn k
theorem AW_cln {ix o N : Nat} {S1 : rk_Sh} {I1 : rk_I} {J1 : rk_J} {R1 : rk_R} (hd : decode cc pc = .ok (.invokevirtual ix, 3)) (hl : rk_cln y.cls ix) (hS : S o = (20, N)) (hdd : 1 ≤ d) (hr : (st.map fun v => v.category).sum ≤ 8) (hn : n < 900000) (e1 : some (rk_sh S n 20 N) = some S1) (e2 : some (fun k => if k = n then I o else I k) = some I1) (e3 : some (rk_zj J n) = some J1) (e4 : some (rk_zr R n) = some R1) (k : AW G l y cc ml rt d kc ks (pc + 3) lv (.ref n :: st) (n + 1) S1 I1 J1 R1 Q) : AW G l y cc ml rt d (kc + 1) (ks + N) (pc) lv (.ref o :: st) n S I J R Q := by
  cases e1; cases e2; cases e3; cases e4
  exact AW_clone hd hl hS hdd hr hn k
theorem AW_iI0v {o : Nat} {y' : MethodName} {cc' : ByteArray} {ml' d' kc' ks' ix n1 : Nat}  {S1 : rk_Sh} {I1 : rk_I} {J1 : rk_J} {R1 : rk_R} {P : Prop} (hC : CW G l y' cc' ml' none d' kc' ks' [.ref o] n S I J R (rk_qv n1 S1 I1 J1 R1 P)) (hd : decode cc pc = .ok (.invokespecial ix, 3)) (hl : rk_li y.cls ix y' cc' ml' 0) (hdd : d' + 1 ≤ d) (hml : ml' ≤ 45) (hr : (st.map fun v => v.category).sum ≤ 8) (k : P → AW G l y cc ml rt d kc ks (pc + 3) lv (st) n1 S1 I1 J1 R1 Q) : AW G l y cc ml rt d (kc + kc') (ks + ks') pc lv (.ref o :: st) n S I J R Q :=
  AW_invI0 hC hd hl hdd hml hr (fun v n' S' I' J' R' hq => by
    obtain ⟨rfl, rfl, rfl, rfl, rfl, rfl, hP⟩ := hq
    exact k hP)
theorem AW_iI2vz {a1 a2 : Value} {o : Nat} {y' : MethodName} {cc' : ByteArray} {ml' d' ix n1 : Nat}  {S1 : rk_Sh} {I1 : rk_I} {J1 : rk_J} {R1 : rk_R} {P : Prop} (hC : CW G l y' cc' ml' none d' 0 0 [.ref o, a1, a2] n S I J R (rk_qv n1 S1 I1 J1 R1 P)) (hd : decode cc pc = .ok (.invokespecial ix, 3)) (hl : rk_li y.cls ix y' cc' ml' 2) (hdd : d' + 1 ≤ d) (hml : ml' ≤ 45) (hr : (st.map fun v => v.category).sum ≤ 8) (k : P → AW G l y cc ml rt d kc ks (pc + 3) lv (st) n1 S1 I1 J1 R1 Q) : AW G l y cc ml rt d kc ks pc lv (a2 :: a1 :: .ref o :: st) n S I J R Q :=
  AW_invI2z hC hd hl hdd hml hr (fun v n' S' I' J' R' hq => by
    obtain ⟨rfl, rfl, rfl, rfl, rfl, rfl, hP⟩ := hq
    exact k hP)
theorem AW_iI3v {a1 a2 a3 : Value} {o : Nat} {y' : MethodName} {cc' : ByteArray} {ml' d' kc' ks' ix n1 : Nat}  {S1 : rk_Sh} {I1 : rk_I} {J1 : rk_J} {R1 : rk_R} {P : Prop} (hC : CW G l y' cc' ml' none d' kc' ks' [.ref o, a1, a2, a3] n S I J R (rk_qv n1 S1 I1 J1 R1 P)) (hd : decode cc pc = .ok (.invokespecial ix, 3)) (hl : rk_li y.cls ix y' cc' ml' 3) (hdd : d' + 1 ≤ d) (hml : ml' ≤ 45) (hr : (st.map fun v => v.category).sum ≤ 8) (k : P → AW G l y cc ml rt d kc ks (pc + 3) lv (st) n1 S1 I1 J1 R1 Q) : AW G l y cc ml rt d (kc + kc') (ks + ks') pc lv (a3 :: a2 :: a1 :: .ref o :: st) n S I J R Q :=
  AW_invI3 hC hd hl hdd hml hr (fun v n' S' I' J' R' hq => by
    obtain ⟨rfl, rfl, rfl, rfl, rfl, rfl, hP⟩ := hq
    exact k hP)
theorem AW_iI7vz {a1 a2 a3 a4 a5 a6 a7 : Value} {o : Nat} {y' : MethodName} {cc' : ByteArray} {ml' d' ix n1 : Nat}  {S1 : rk_Sh} {I1 : rk_I} {J1 : rk_J} {R1 : rk_R} {P : Prop} (hC : CW G l y' cc' ml' none d' 0 0 [.ref o, a1, a2, a3, a4, a5, a6, a7] n S I J R (rk_qv n1 S1 I1 J1 R1 P)) (hd : decode cc pc = .ok (.invokespecial ix, 3)) (hl : rk_li y.cls ix y' cc' ml' 7) (hdd : d' + 1 ≤ d) (hml : ml' ≤ 45) (hr : (st.map fun v => v.category).sum ≤ 8) (k : P → AW G l y cc ml rt d kc ks (pc + 3) lv (st) n1 S1 I1 J1 R1 Q) : AW G l y cc ml rt d kc ks pc lv (a7 :: a6 :: a5 :: a4 :: a3 :: a2 :: a1 :: .ref o :: st) n S I J R Q :=
  AW_invI7z hC hd hl hdd hml hr (fun v n' S' I' J' R' hq => by
    obtain ⟨rfl, rfl, rfl, rfl, rfl, rfl, hP⟩ := hq
    exact k hP)
theorem AW_iN0v {o : Nat} {host : String} {y' : MethodName} {cc' : ByteArray} {ml' d' kc' ks' ix n1 : Nat}  {S1 : rk_Sh} {I1 : rk_I} {J1 : rk_J} {R1 : rk_R} {P : Prop} (hC : CW G l y' cc' ml' none d' kc' ks' [.ref o] n S I J R (rk_qv n1 S1 I1 J1 R1 P)) (hd : decode cc pc = .ok (.invokespecial ix, 3)) (hl : rk_ln y.cls host ix y' cc' ml' 0) (hdd : d' + 1 ≤ d) (hml : ml' ≤ 45) (hr : (st.map fun v => v.category).sum ≤ 8) (k : P → AW G l y cc ml rt d kc ks (pc + 3) lv (st) n1 S1 I1 J1 R1 Q) : AW G l y cc ml rt d (kc + kc') (ks + ks') pc lv (.ref o :: st) n S I J R Q :=
  AW_invN0 hC hd hl hdd hml hr (fun v n' S' I' J' R' hq => by
    obtain ⟨rfl, rfl, rfl, rfl, rfl, rfl, hP⟩ := hq
    exact k hP)
theorem AW_iS1iz {a1 : Value}  {y' : MethodName} {cc' : ByteArray} {ml' d' ix n1 : Nat} {rt' : Option FieldType} {x : Int32} {S1 : rk_Sh} {I1 : rk_I} {J1 : rk_J} {R1 : rk_R} {P : Prop} (hC : CW G l y' cc' ml' rt' d' 0 0 [a1] n S I J R (rk_qi x n1 S1 I1 J1 R1 P)) (hd : decode cc pc = .ok (.invokestatic ix, 3)) (hl : rk_ls y.cls ix y' cc' ml' rt' 1) (hdd : d' + 1 ≤ d) (hml : ml' ≤ 45) (hr : (st.map fun v => v.category).sum ≤ 8) (k : P → AW G l y cc ml rt d kc ks (pc + 3) lv (.int x :: st) n1 S1 I1 J1 R1 Q) : AW G l y cc ml rt d kc ks pc lv (a1 :: st) n S I J R Q :=
  AW_invS1z hC hd hl hdd hml hr (fun v n' S' I' J' R' hq => by
    obtain ⟨rfl, rfl, rfl, rfl, rfl, rfl, hP⟩ := hq
    exact k hP)
theorem AW_iS2iz {a1 a2 : Value}  {y' : MethodName} {cc' : ByteArray} {ml' d' ix n1 : Nat} {rt' : Option FieldType} {x : Int32} {S1 : rk_Sh} {I1 : rk_I} {J1 : rk_J} {R1 : rk_R} {P : Prop} (hC : CW G l y' cc' ml' rt' d' 0 0 [a1, a2] n S I J R (rk_qi x n1 S1 I1 J1 R1 P)) (hd : decode cc pc = .ok (.invokestatic ix, 3)) (hl : rk_ls y.cls ix y' cc' ml' rt' 2) (hdd : d' + 1 ≤ d) (hml : ml' ≤ 45) (hr : (st.map fun v => v.category).sum ≤ 8) (k : P → AW G l y cc ml rt d kc ks (pc + 3) lv (.int x :: st) n1 S1 I1 J1 R1 Q) : AW G l y cc ml rt d kc ks pc lv (a2 :: a1 :: st) n S I J R Q :=
  AW_invS2z hC hd hl hdd hml hr (fun v n' S' I' J' R' hq => by
    obtain ⟨rfl, rfl, rfl, rfl, rfl, rfl, hP⟩ := hq
    exact k hP)
theorem AW_iS2lz {a1 a2 : Value}  {y' : MethodName} {cc' : ByteArray} {ml' d' ix n1 : Nat} {rt' : Option FieldType} {x : Int64} {S1 : rk_Sh} {I1 : rk_I} {J1 : rk_J} {R1 : rk_R} {P : Prop} (hC : CW G l y' cc' ml' rt' d' 0 0 [a1, a2] n S I J R (rk_ql x n1 S1 I1 J1 R1 P)) (hd : decode cc pc = .ok (.invokestatic ix, 3)) (hl : rk_ls y.cls ix y' cc' ml' rt' 2) (hdd : d' + 1 ≤ d) (hml : ml' ≤ 45) (hr : (st.map fun v => v.category).sum ≤ 8) (k : P → AW G l y cc ml rt d kc ks (pc + 3) lv (.long x :: st) n1 S1 I1 J1 R1 Q) : AW G l y cc ml rt d kc ks pc lv (a2 :: a1 :: st) n S I J R Q :=
  AW_invS2z hC hd hl hdd hml hr (fun v n' S' I' J' R' hq => by
    obtain ⟨rfl, rfl, rfl, rfl, rfl, rfl, hP⟩ := hq
    exact k hP)
theorem AW_iS2r {a1 a2 : Value}  {y' : MethodName} {cc' : ByteArray} {ml' d' kc' ks' ix n1 : Nat} {rt' : Option FieldType} {x : Nat} {S1 : rk_Sh} {I1 : rk_I} {J1 : rk_J} {R1 : rk_R} {P : Prop} (hC : CW G l y' cc' ml' rt' d' kc' ks' [a1, a2] n S I J R (rk_qr x n1 S1 I1 J1 R1 P)) (hd : decode cc pc = .ok (.invokestatic ix, 3)) (hl : rk_ls y.cls ix y' cc' ml' rt' 2) (hdd : d' + 1 ≤ d) (hml : ml' ≤ 45) (hr : (st.map fun v => v.category).sum ≤ 8) (k : P → AW G l y cc ml rt d kc ks (pc + 3) lv (.ref x :: st) n1 S1 I1 J1 R1 Q) : AW G l y cc ml rt d (kc + kc') (ks + ks') pc lv (a2 :: a1 :: st) n S I J R Q :=
  AW_invS2 hC hd hl hdd hml hr (fun v n' S' I' J' R' hq => by
    obtain ⟨rfl, rfl, rfl, rfl, rfl, rfl, hP⟩ := hq
    exact k hP)
theorem AW_iS2vz {a1 a2 : Value}  {y' : MethodName} {cc' : ByteArray} {ml' d' ix n1 : Nat} {rt' : Option FieldType}  {S1 : rk_Sh} {I1 : rk_I} {J1 : rk_J} {R1 : rk_R} {P : Prop} (hC : CW G l y' cc' ml' rt' d' 0 0 [a1, a2] n S I J R (rk_qv n1 S1 I1 J1 R1 P)) (hd : decode cc pc = .ok (.invokestatic ix, 3)) (hl : rk_ls y.cls ix y' cc' ml' rt' 2) (hdd : d' + 1 ≤ d) (hml : ml' ≤ 45) (hr : (st.map fun v => v.category).sum ≤ 8) (k : P → AW G l y cc ml rt d kc ks (pc + 3) lv (st) n1 S1 I1 J1 R1 Q) : AW G l y cc ml rt d kc ks pc lv (a2 :: a1 :: st) n S I J R Q :=
  AW_invS2z hC hd hl hdd hml hr (fun v n' S' I' J' R' hq => by
    obtain ⟨rfl, rfl, rfl, rfl, rfl, rfl, hP⟩ := hq
    exact k hP)
theorem AW_iS3iz {a1 a2 a3 : Value}  {y' : MethodName} {cc' : ByteArray} {ml' d' ix n1 : Nat} {rt' : Option FieldType} {x : Int32} {S1 : rk_Sh} {I1 : rk_I} {J1 : rk_J} {R1 : rk_R} {P : Prop} (hC : CW G l y' cc' ml' rt' d' 0 0 [a1, a2, a3] n S I J R (rk_qi x n1 S1 I1 J1 R1 P)) (hd : decode cc pc = .ok (.invokestatic ix, 3)) (hl : rk_ls y.cls ix y' cc' ml' rt' 3) (hdd : d' + 1 ≤ d) (hml : ml' ≤ 45) (hr : (st.map fun v => v.category).sum ≤ 8) (k : P → AW G l y cc ml rt d kc ks (pc + 3) lv (.int x :: st) n1 S1 I1 J1 R1 Q) : AW G l y cc ml rt d kc ks pc lv (a3 :: a2 :: a1 :: st) n S I J R Q :=
  AW_invS3z hC hd hl hdd hml hr (fun v n' S' I' J' R' hq => by
    obtain ⟨rfl, rfl, rfl, rfl, rfl, rfl, hP⟩ := hq
    exact k hP)
theorem AW_iS4iz {a1 a2 a3 a4 : Value}  {y' : MethodName} {cc' : ByteArray} {ml' d' ix n1 : Nat} {rt' : Option FieldType} {x : Int32} {S1 : rk_Sh} {I1 : rk_I} {J1 : rk_J} {R1 : rk_R} {P : Prop} (hC : CW G l y' cc' ml' rt' d' 0 0 [a1, a2, a3, a4] n S I J R (rk_qi x n1 S1 I1 J1 R1 P)) (hd : decode cc pc = .ok (.invokestatic ix, 3)) (hl : rk_ls y.cls ix y' cc' ml' rt' 4) (hdd : d' + 1 ≤ d) (hml : ml' ≤ 45) (hr : (st.map fun v => v.category).sum ≤ 8) (k : P → AW G l y cc ml rt d kc ks (pc + 3) lv (.int x :: st) n1 S1 I1 J1 R1 Q) : AW G l y cc ml rt d kc ks pc lv (a4 :: a3 :: a2 :: a1 :: st) n S I J R Q :=
  AW_invS4z hC hd hl hdd hml hr (fun v n' S' I' J' R' hq => by
    obtain ⟨rfl, rfl, rfl, rfl, rfl, rfl, hP⟩ := hq
    exact k hP)
theorem AW_iV0i {o : Nat} {ci N N' : Nat} {TT : u_T} {y' : MethodName} {cc' : ByteArray} {ml' d' kc' ks' ix n1 : Nat} {rt' : Option FieldType} {x : Int32} {S1 : rk_Sh} {I1 : rk_I} {J1 : rk_J} {R1 : rk_R} {P : Prop} (hC : CW G l y' cc' ml' rt' d' kc' ks' [.ref o] n S I J R (rk_qi x n1 S1 I1 J1 R1 P)) (hd : decode cc pc = .ok (.invokevirtual ix, 3)) (hl : rk_lv y.cls ix y' cc' ml' rt' 0) (hS : S o = (ci, N)) (hci : vwCl[ci]? = some (y'.cls, TT, N')) (hdd : d' + 1 ≤ d) (hml : ml' ≤ 45) (hr : (st.map fun v => v.category).sum ≤ 8) (k : P → AW G l y cc ml rt d kc ks (pc + 3) lv (.int x :: st) n1 S1 I1 J1 R1 Q) : AW G l y cc ml rt d (kc + kc') (ks + ks') pc lv (.ref o :: st) n S I J R Q :=
  AW_invV0 hC hd hl hS hci hdd hml hr (fun v n' S' I' J' R' hq => by
    obtain ⟨rfl, rfl, rfl, rfl, rfl, rfl, hP⟩ := hq
    exact k hP)
theorem AW_iV0iz {o : Nat} {ci N N' : Nat} {TT : u_T} {y' : MethodName} {cc' : ByteArray} {ml' d' ix n1 : Nat} {rt' : Option FieldType} {x : Int32} {S1 : rk_Sh} {I1 : rk_I} {J1 : rk_J} {R1 : rk_R} {P : Prop} (hC : CW G l y' cc' ml' rt' d' 0 0 [.ref o] n S I J R (rk_qi x n1 S1 I1 J1 R1 P)) (hd : decode cc pc = .ok (.invokevirtual ix, 3)) (hl : rk_lv y.cls ix y' cc' ml' rt' 0) (hS : S o = (ci, N)) (hci : vwCl[ci]? = some (y'.cls, TT, N')) (hdd : d' + 1 ≤ d) (hml : ml' ≤ 45) (hr : (st.map fun v => v.category).sum ≤ 8) (k : P → AW G l y cc ml rt d kc ks (pc + 3) lv (.int x :: st) n1 S1 I1 J1 R1 Q) : AW G l y cc ml rt d kc ks pc lv (.ref o :: st) n S I J R Q :=
  AW_invV0z hC hd hl hS hci hdd hml hr (fun v n' S' I' J' R' hq => by
    obtain ⟨rfl, rfl, rfl, rfl, rfl, rfl, hP⟩ := hq
    exact k hP)
theorem AW_iV0r {o : Nat} {ci N N' : Nat} {TT : u_T} {y' : MethodName} {cc' : ByteArray} {ml' d' kc' ks' ix n1 : Nat} {rt' : Option FieldType} {x : Nat} {S1 : rk_Sh} {I1 : rk_I} {J1 : rk_J} {R1 : rk_R} {P : Prop} (hC : CW G l y' cc' ml' rt' d' kc' ks' [.ref o] n S I J R (rk_qr x n1 S1 I1 J1 R1 P)) (hd : decode cc pc = .ok (.invokevirtual ix, 3)) (hl : rk_lv y.cls ix y' cc' ml' rt' 0) (hS : S o = (ci, N)) (hci : vwCl[ci]? = some (y'.cls, TT, N')) (hdd : d' + 1 ≤ d) (hml : ml' ≤ 45) (hr : (st.map fun v => v.category).sum ≤ 8) (k : P → AW G l y cc ml rt d kc ks (pc + 3) lv (.ref x :: st) n1 S1 I1 J1 R1 Q) : AW G l y cc ml rt d (kc + kc') (ks + ks') pc lv (.ref o :: st) n S I J R Q :=
  AW_invV0 hC hd hl hS hci hdd hml hr (fun v n' S' I' J' R' hq => by
    obtain ⟨rfl, rfl, rfl, rfl, rfl, rfl, hP⟩ := hq
    exact k hP)
theorem AW_iV0vz {o : Nat} {ci N N' : Nat} {TT : u_T} {y' : MethodName} {cc' : ByteArray} {ml' d' ix n1 : Nat} {rt' : Option FieldType}  {S1 : rk_Sh} {I1 : rk_I} {J1 : rk_J} {R1 : rk_R} {P : Prop} (hC : CW G l y' cc' ml' rt' d' 0 0 [.ref o] n S I J R (rk_qv n1 S1 I1 J1 R1 P)) (hd : decode cc pc = .ok (.invokevirtual ix, 3)) (hl : rk_lv y.cls ix y' cc' ml' rt' 0) (hS : S o = (ci, N)) (hci : vwCl[ci]? = some (y'.cls, TT, N')) (hdd : d' + 1 ≤ d) (hml : ml' ≤ 45) (hr : (st.map fun v => v.category).sum ≤ 8) (k : P → AW G l y cc ml rt d kc ks (pc + 3) lv (st) n1 S1 I1 J1 R1 Q) : AW G l y cc ml rt d kc ks pc lv (.ref o :: st) n S I J R Q :=
  AW_invV0z hC hd hl hS hci hdd hml hr (fun v n' S' I' J' R' hq => by
    obtain ⟨rfl, rfl, rfl, rfl, rfl, rfl, hP⟩ := hq
    exact k hP)
theorem AW_iV1iz {a1 : Value} {o : Nat} {ci N N' : Nat} {TT : u_T} {y' : MethodName} {cc' : ByteArray} {ml' d' ix n1 : Nat} {rt' : Option FieldType} {x : Int32} {S1 : rk_Sh} {I1 : rk_I} {J1 : rk_J} {R1 : rk_R} {P : Prop} (hC : CW G l y' cc' ml' rt' d' 0 0 [.ref o, a1] n S I J R (rk_qi x n1 S1 I1 J1 R1 P)) (hd : decode cc pc = .ok (.invokevirtual ix, 3)) (hl : rk_lv y.cls ix y' cc' ml' rt' 1) (hS : S o = (ci, N)) (hci : vwCl[ci]? = some (y'.cls, TT, N')) (hdd : d' + 1 ≤ d) (hml : ml' ≤ 45) (hr : (st.map fun v => v.category).sum ≤ 8) (k : P → AW G l y cc ml rt d kc ks (pc + 3) lv (.int x :: st) n1 S1 I1 J1 R1 Q) : AW G l y cc ml rt d kc ks pc lv (a1 :: .ref o :: st) n S I J R Q :=
  AW_invV1z hC hd hl hS hci hdd hml hr (fun v n' S' I' J' R' hq => by
    obtain ⟨rfl, rfl, rfl, rfl, rfl, rfl, hP⟩ := hq
    exact k hP)
theorem AW_iV1oz {a1 : Value} {o : Nat} {ci N N' : Nat} {TT : u_T} {y' : MethodName} {cc' : ByteArray} {ml' d' ix n1 : Nat} {rt' : Option FieldType} {x : Option Nat} {S1 : rk_Sh} {I1 : rk_I} {J1 : rk_J} {R1 : rk_R} {P : Prop} (hC : CW G l y' cc' ml' rt' d' 0 0 [.ref o, a1] n S I J R (rk_qo x n1 S1 I1 J1 R1 P)) (hd : decode cc pc = .ok (.invokevirtual ix, 3)) (hl : rk_lv y.cls ix y' cc' ml' rt' 1) (hS : S o = (ci, N)) (hci : vwCl[ci]? = some (y'.cls, TT, N')) (hdd : d' + 1 ≤ d) (hml : ml' ≤ 45) (hr : (st.map fun v => v.category).sum ≤ 8) (k : P → AW G l y cc ml rt d kc ks (pc + 3) lv (rk_o x :: st) n1 S1 I1 J1 R1 Q) : AW G l y cc ml rt d kc ks pc lv (a1 :: .ref o :: st) n S I J R Q :=
  AW_invV1z hC hd hl hS hci hdd hml hr (fun v n' S' I' J' R' hq => by
    obtain ⟨rfl, rfl, rfl, rfl, rfl, rfl, hP⟩ := hq
    exact k hP)
theorem AW_iV1vz {a1 : Value} {o : Nat} {ci N N' : Nat} {TT : u_T} {y' : MethodName} {cc' : ByteArray} {ml' d' ix n1 : Nat} {rt' : Option FieldType}  {S1 : rk_Sh} {I1 : rk_I} {J1 : rk_J} {R1 : rk_R} {P : Prop} (hC : CW G l y' cc' ml' rt' d' 0 0 [.ref o, a1] n S I J R (rk_qv n1 S1 I1 J1 R1 P)) (hd : decode cc pc = .ok (.invokevirtual ix, 3)) (hl : rk_lv y.cls ix y' cc' ml' rt' 1) (hS : S o = (ci, N)) (hci : vwCl[ci]? = some (y'.cls, TT, N')) (hdd : d' + 1 ≤ d) (hml : ml' ≤ 45) (hr : (st.map fun v => v.category).sum ≤ 8) (k : P → AW G l y cc ml rt d kc ks (pc + 3) lv (st) n1 S1 I1 J1 R1 Q) : AW G l y cc ml rt d kc ks pc lv (a1 :: .ref o :: st) n S I J R Q :=
  AW_invV1z hC hd hl hS hci hdd hml hr (fun v n' S' I' J' R' hq => by
    obtain ⟨rfl, rfl, rfl, rfl, rfl, rfl, hP⟩ := hq
    exact k hP)
theorem AW_iV2i {a1 a2 : Value} {o : Nat} {ci N N' : Nat} {TT : u_T} {y' : MethodName} {cc' : ByteArray} {ml' d' kc' ks' ix n1 : Nat} {rt' : Option FieldType} {x : Int32} {S1 : rk_Sh} {I1 : rk_I} {J1 : rk_J} {R1 : rk_R} {P : Prop} (hC : CW G l y' cc' ml' rt' d' kc' ks' [.ref o, a1, a2] n S I J R (rk_qi x n1 S1 I1 J1 R1 P)) (hd : decode cc pc = .ok (.invokevirtual ix, 3)) (hl : rk_lv y.cls ix y' cc' ml' rt' 2) (hS : S o = (ci, N)) (hci : vwCl[ci]? = some (y'.cls, TT, N')) (hdd : d' + 1 ≤ d) (hml : ml' ≤ 45) (hr : (st.map fun v => v.category).sum ≤ 8) (k : P → AW G l y cc ml rt d kc ks (pc + 3) lv (.int x :: st) n1 S1 I1 J1 R1 Q) : AW G l y cc ml rt d (kc + kc') (ks + ks') pc lv (a2 :: a1 :: .ref o :: st) n S I J R Q :=
  AW_invV2 hC hd hl hS hci hdd hml hr (fun v n' S' I' J' R' hq => by
    obtain ⟨rfl, rfl, rfl, rfl, rfl, rfl, hP⟩ := hq
    exact k hP)
theorem AW_iV2iz {a1 a2 : Value} {o : Nat} {ci N N' : Nat} {TT : u_T} {y' : MethodName} {cc' : ByteArray} {ml' d' ix n1 : Nat} {rt' : Option FieldType} {x : Int32} {S1 : rk_Sh} {I1 : rk_I} {J1 : rk_J} {R1 : rk_R} {P : Prop} (hC : CW G l y' cc' ml' rt' d' 0 0 [.ref o, a1, a2] n S I J R (rk_qi x n1 S1 I1 J1 R1 P)) (hd : decode cc pc = .ok (.invokevirtual ix, 3)) (hl : rk_lv y.cls ix y' cc' ml' rt' 2) (hS : S o = (ci, N)) (hci : vwCl[ci]? = some (y'.cls, TT, N')) (hdd : d' + 1 ≤ d) (hml : ml' ≤ 45) (hr : (st.map fun v => v.category).sum ≤ 8) (k : P → AW G l y cc ml rt d kc ks (pc + 3) lv (.int x :: st) n1 S1 I1 J1 R1 Q) : AW G l y cc ml rt d kc ks pc lv (a2 :: a1 :: .ref o :: st) n S I J R Q :=
  AW_invV2z hC hd hl hS hci hdd hml hr (fun v n' S' I' J' R' hq => by
    obtain ⟨rfl, rfl, rfl, rfl, rfl, rfl, hP⟩ := hq
    exact k hP)
theorem AW_iV2lz {a1 a2 : Value} {o : Nat} {ci N N' : Nat} {TT : u_T} {y' : MethodName} {cc' : ByteArray} {ml' d' ix n1 : Nat} {rt' : Option FieldType} {x : Int64} {S1 : rk_Sh} {I1 : rk_I} {J1 : rk_J} {R1 : rk_R} {P : Prop} (hC : CW G l y' cc' ml' rt' d' 0 0 [.ref o, a1, a2] n S I J R (rk_ql x n1 S1 I1 J1 R1 P)) (hd : decode cc pc = .ok (.invokevirtual ix, 3)) (hl : rk_lv y.cls ix y' cc' ml' rt' 2) (hS : S o = (ci, N)) (hci : vwCl[ci]? = some (y'.cls, TT, N')) (hdd : d' + 1 ≤ d) (hml : ml' ≤ 45) (hr : (st.map fun v => v.category).sum ≤ 8) (k : P → AW G l y cc ml rt d kc ks (pc + 3) lv (.long x :: st) n1 S1 I1 J1 R1 Q) : AW G l y cc ml rt d kc ks pc lv (a2 :: a1 :: .ref o :: st) n S I J R Q :=
  AW_invV2z hC hd hl hS hci hdd hml hr (fun v n' S' I' J' R' hq => by
    obtain ⟨rfl, rfl, rfl, rfl, rfl, rfl, hP⟩ := hq
    exact k hP)
theorem AW_iV2vz {a1 a2 : Value} {o : Nat} {ci N N' : Nat} {TT : u_T} {y' : MethodName} {cc' : ByteArray} {ml' d' ix n1 : Nat} {rt' : Option FieldType}  {S1 : rk_Sh} {I1 : rk_I} {J1 : rk_J} {R1 : rk_R} {P : Prop} (hC : CW G l y' cc' ml' rt' d' 0 0 [.ref o, a1, a2] n S I J R (rk_qv n1 S1 I1 J1 R1 P)) (hd : decode cc pc = .ok (.invokevirtual ix, 3)) (hl : rk_lv y.cls ix y' cc' ml' rt' 2) (hS : S o = (ci, N)) (hci : vwCl[ci]? = some (y'.cls, TT, N')) (hdd : d' + 1 ≤ d) (hml : ml' ≤ 45) (hr : (st.map fun v => v.category).sum ≤ 8) (k : P → AW G l y cc ml rt d kc ks (pc + 3) lv (st) n1 S1 I1 J1 R1 Q) : AW G l y cc ml rt d kc ks pc lv (a2 :: a1 :: .ref o :: st) n S I J R Q :=
  AW_invV2z hC hd hl hS hci hdd hml hr (fun v n' S' I' J' R' hq => by
    obtain ⟨rfl, rfl, rfl, rfl, rfl, rfl, hP⟩ := hq
    exact k hP)
theorem AW_iV3iz {a1 a2 a3 : Value} {o : Nat} {ci N N' : Nat} {TT : u_T} {y' : MethodName} {cc' : ByteArray} {ml' d' ix n1 : Nat} {rt' : Option FieldType} {x : Int32} {S1 : rk_Sh} {I1 : rk_I} {J1 : rk_J} {R1 : rk_R} {P : Prop} (hC : CW G l y' cc' ml' rt' d' 0 0 [.ref o, a1, a2, a3] n S I J R (rk_qi x n1 S1 I1 J1 R1 P)) (hd : decode cc pc = .ok (.invokevirtual ix, 3)) (hl : rk_lv y.cls ix y' cc' ml' rt' 3) (hS : S o = (ci, N)) (hci : vwCl[ci]? = some (y'.cls, TT, N')) (hdd : d' + 1 ≤ d) (hml : ml' ≤ 45) (hr : (st.map fun v => v.category).sum ≤ 8) (k : P → AW G l y cc ml rt d kc ks (pc + 3) lv (.int x :: st) n1 S1 I1 J1 R1 Q) : AW G l y cc ml rt d kc ks pc lv (a3 :: a2 :: a1 :: .ref o :: st) n S I J R Q :=
  AW_invV3z hC hd hl hS hci hdd hml hr (fun v n' S' I' J' R' hq => by
    obtain ⟨rfl, rfl, rfl, rfl, rfl, rfl, hP⟩ := hq
    exact k hP)
theorem AW_iV3lz {a1 a2 a3 : Value} {o : Nat} {ci N N' : Nat} {TT : u_T} {y' : MethodName} {cc' : ByteArray} {ml' d' ix n1 : Nat} {rt' : Option FieldType} {x : Int64} {S1 : rk_Sh} {I1 : rk_I} {J1 : rk_J} {R1 : rk_R} {P : Prop} (hC : CW G l y' cc' ml' rt' d' 0 0 [.ref o, a1, a2, a3] n S I J R (rk_ql x n1 S1 I1 J1 R1 P)) (hd : decode cc pc = .ok (.invokevirtual ix, 3)) (hl : rk_lv y.cls ix y' cc' ml' rt' 3) (hS : S o = (ci, N)) (hci : vwCl[ci]? = some (y'.cls, TT, N')) (hdd : d' + 1 ≤ d) (hml : ml' ≤ 45) (hr : (st.map fun v => v.category).sum ≤ 8) (k : P → AW G l y cc ml rt d kc ks (pc + 3) lv (.long x :: st) n1 S1 I1 J1 R1 Q) : AW G l y cc ml rt d kc ks pc lv (a3 :: a2 :: a1 :: .ref o :: st) n S I J R Q :=
  AW_invV3z hC hd hl hS hci hdd hml hr (fun v n' S' I' J' R' hq => by
    obtain ⟨rfl, rfl, rfl, rfl, rfl, rfl, hP⟩ := hq
    exact k hP)
theorem AW_iV3vz {a1 a2 a3 : Value} {o : Nat} {ci N N' : Nat} {TT : u_T} {y' : MethodName} {cc' : ByteArray} {ml' d' ix n1 : Nat} {rt' : Option FieldType}  {S1 : rk_Sh} {I1 : rk_I} {J1 : rk_J} {R1 : rk_R} {P : Prop} (hC : CW G l y' cc' ml' rt' d' 0 0 [.ref o, a1, a2, a3] n S I J R (rk_qv n1 S1 I1 J1 R1 P)) (hd : decode cc pc = .ok (.invokevirtual ix, 3)) (hl : rk_lv y.cls ix y' cc' ml' rt' 3) (hS : S o = (ci, N)) (hci : vwCl[ci]? = some (y'.cls, TT, N')) (hdd : d' + 1 ≤ d) (hml : ml' ≤ 45) (hr : (st.map fun v => v.category).sum ≤ 8) (k : P → AW G l y cc ml rt d kc ks (pc + 3) lv (st) n1 S1 I1 J1 R1 Q) : AW G l y cc ml rt d kc ks pc lv (a3 :: a2 :: a1 :: .ref o :: st) n S I J R Q :=
  AW_invV3z hC hd hl hS hci hdd hml hr (fun v n' S' I' J' R' hq => by
    obtain ⟨rfl, rfl, rfl, rfl, rfl, rfl, hP⟩ := hq
    exact k hP)
theorem AW_iV4i {a1 a2 a3 a4 : Value} {o : Nat} {ci N N' : Nat} {TT : u_T} {y' : MethodName} {cc' : ByteArray} {ml' d' kc' ks' ix n1 : Nat} {rt' : Option FieldType} {x : Int32} {S1 : rk_Sh} {I1 : rk_I} {J1 : rk_J} {R1 : rk_R} {P : Prop} (hC : CW G l y' cc' ml' rt' d' kc' ks' [.ref o, a1, a2, a3, a4] n S I J R (rk_qi x n1 S1 I1 J1 R1 P)) (hd : decode cc pc = .ok (.invokevirtual ix, 3)) (hl : rk_lv y.cls ix y' cc' ml' rt' 4) (hS : S o = (ci, N)) (hci : vwCl[ci]? = some (y'.cls, TT, N')) (hdd : d' + 1 ≤ d) (hml : ml' ≤ 45) (hr : (st.map fun v => v.category).sum ≤ 8) (k : P → AW G l y cc ml rt d kc ks (pc + 3) lv (.int x :: st) n1 S1 I1 J1 R1 Q) : AW G l y cc ml rt d (kc + kc') (ks + ks') pc lv (a4 :: a3 :: a2 :: a1 :: .ref o :: st) n S I J R Q :=
  AW_invV4 hC hd hl hS hci hdd hml hr (fun v n' S' I' J' R' hq => by
    obtain ⟨rfl, rfl, rfl, rfl, rfl, rfl, hP⟩ := hq
    exact k hP)
theorem AW_iV4iz {a1 a2 a3 a4 : Value} {o : Nat} {ci N N' : Nat} {TT : u_T} {y' : MethodName} {cc' : ByteArray} {ml' d' ix n1 : Nat} {rt' : Option FieldType} {x : Int32} {S1 : rk_Sh} {I1 : rk_I} {J1 : rk_J} {R1 : rk_R} {P : Prop} (hC : CW G l y' cc' ml' rt' d' 0 0 [.ref o, a1, a2, a3, a4] n S I J R (rk_qi x n1 S1 I1 J1 R1 P)) (hd : decode cc pc = .ok (.invokevirtual ix, 3)) (hl : rk_lv y.cls ix y' cc' ml' rt' 4) (hS : S o = (ci, N)) (hci : vwCl[ci]? = some (y'.cls, TT, N')) (hdd : d' + 1 ≤ d) (hml : ml' ≤ 45) (hr : (st.map fun v => v.category).sum ≤ 8) (k : P → AW G l y cc ml rt d kc ks (pc + 3) lv (.int x :: st) n1 S1 I1 J1 R1 Q) : AW G l y cc ml rt d kc ks pc lv (a4 :: a3 :: a2 :: a1 :: .ref o :: st) n S I J R Q :=
  AW_invV4z hC hd hl hS hci hdd hml hr (fun v n' S' I' J' R' hq => by
    obtain ⟨rfl, rfl, rfl, rfl, rfl, rfl, hP⟩ := hq
    exact k hP)
theorem AW_iV4lz {a1 a2 a3 a4 : Value} {o : Nat} {ci N N' : Nat} {TT : u_T} {y' : MethodName} {cc' : ByteArray} {ml' d' ix n1 : Nat} {rt' : Option FieldType} {x : Int64} {S1 : rk_Sh} {I1 : rk_I} {J1 : rk_J} {R1 : rk_R} {P : Prop} (hC : CW G l y' cc' ml' rt' d' 0 0 [.ref o, a1, a2, a3, a4] n S I J R (rk_ql x n1 S1 I1 J1 R1 P)) (hd : decode cc pc = .ok (.invokevirtual ix, 3)) (hl : rk_lv y.cls ix y' cc' ml' rt' 4) (hS : S o = (ci, N)) (hci : vwCl[ci]? = some (y'.cls, TT, N')) (hdd : d' + 1 ≤ d) (hml : ml' ≤ 45) (hr : (st.map fun v => v.category).sum ≤ 8) (k : P → AW G l y cc ml rt d kc ks (pc + 3) lv (.long x :: st) n1 S1 I1 J1 R1 Q) : AW G l y cc ml rt d kc ks pc lv (a4 :: a3 :: a2 :: a1 :: .ref o :: st) n S I J R Q :=
  AW_invV4z hC hd hl hS hci hdd hml hr (fun v n' S' I' J' R' hq => by
    obtain ⟨rfl, rfl, rfl, rfl, rfl, rfl, hP⟩ := hq
    exact k hP)
theorem AW_iV4vz {a1 a2 a3 a4 : Value} {o : Nat} {ci N N' : Nat} {TT : u_T} {y' : MethodName} {cc' : ByteArray} {ml' d' ix n1 : Nat} {rt' : Option FieldType}  {S1 : rk_Sh} {I1 : rk_I} {J1 : rk_J} {R1 : rk_R} {P : Prop} (hC : CW G l y' cc' ml' rt' d' 0 0 [.ref o, a1, a2, a3, a4] n S I J R (rk_qv n1 S1 I1 J1 R1 P)) (hd : decode cc pc = .ok (.invokevirtual ix, 3)) (hl : rk_lv y.cls ix y' cc' ml' rt' 4) (hS : S o = (ci, N)) (hci : vwCl[ci]? = some (y'.cls, TT, N')) (hdd : d' + 1 ≤ d) (hml : ml' ≤ 45) (hr : (st.map fun v => v.category).sum ≤ 8) (k : P → AW G l y cc ml rt d kc ks (pc + 3) lv (st) n1 S1 I1 J1 R1 Q) : AW G l y cc ml rt d kc ks pc lv (a4 :: a3 :: a2 :: a1 :: .ref o :: st) n S I J R Q :=
  AW_invV4z hC hd hl hS hci hdd hml hr (fun v n' S' I' J' R' hq => by
    obtain ⟨rfl, rfl, rfl, rfl, rfl, rfl, hP⟩ := hq
    exact k hP)
theorem AW_iV5i {a1 a2 a3 a4 a5 : Value} {o : Nat} {ci N N' : Nat} {TT : u_T} {y' : MethodName} {cc' : ByteArray} {ml' d' kc' ks' ix n1 : Nat} {rt' : Option FieldType} {x : Int32} {S1 : rk_Sh} {I1 : rk_I} {J1 : rk_J} {R1 : rk_R} {P : Prop} (hC : CW G l y' cc' ml' rt' d' kc' ks' [.ref o, a1, a2, a3, a4, a5] n S I J R (rk_qi x n1 S1 I1 J1 R1 P)) (hd : decode cc pc = .ok (.invokevirtual ix, 3)) (hl : rk_lv y.cls ix y' cc' ml' rt' 5) (hS : S o = (ci, N)) (hci : vwCl[ci]? = some (y'.cls, TT, N')) (hdd : d' + 1 ≤ d) (hml : ml' ≤ 45) (hr : (st.map fun v => v.category).sum ≤ 8) (k : P → AW G l y cc ml rt d kc ks (pc + 3) lv (.int x :: st) n1 S1 I1 J1 R1 Q) : AW G l y cc ml rt d (kc + kc') (ks + ks') pc lv (a5 :: a4 :: a3 :: a2 :: a1 :: .ref o :: st) n S I J R Q :=
  AW_invV5 hC hd hl hS hci hdd hml hr (fun v n' S' I' J' R' hq => by
    obtain ⟨rfl, rfl, rfl, rfl, rfl, rfl, hP⟩ := hq
    exact k hP)
theorem AW_iV5iz {a1 a2 a3 a4 a5 : Value} {o : Nat} {ci N N' : Nat} {TT : u_T} {y' : MethodName} {cc' : ByteArray} {ml' d' ix n1 : Nat} {rt' : Option FieldType} {x : Int32} {S1 : rk_Sh} {I1 : rk_I} {J1 : rk_J} {R1 : rk_R} {P : Prop} (hC : CW G l y' cc' ml' rt' d' 0 0 [.ref o, a1, a2, a3, a4, a5] n S I J R (rk_qi x n1 S1 I1 J1 R1 P)) (hd : decode cc pc = .ok (.invokevirtual ix, 3)) (hl : rk_lv y.cls ix y' cc' ml' rt' 5) (hS : S o = (ci, N)) (hci : vwCl[ci]? = some (y'.cls, TT, N')) (hdd : d' + 1 ≤ d) (hml : ml' ≤ 45) (hr : (st.map fun v => v.category).sum ≤ 8) (k : P → AW G l y cc ml rt d kc ks (pc + 3) lv (.int x :: st) n1 S1 I1 J1 R1 Q) : AW G l y cc ml rt d kc ks pc lv (a5 :: a4 :: a3 :: a2 :: a1 :: .ref o :: st) n S I J R Q :=
  AW_invV5z hC hd hl hS hci hdd hml hr (fun v n' S' I' J' R' hq => by
    obtain ⟨rfl, rfl, rfl, rfl, rfl, rfl, hP⟩ := hq
    exact k hP)
theorem AW_iY0iz (i : Nat) {y' : MethodName} {cc' : ByteArray} {ml' d' ix n1 : Nat} {rt' : Option FieldType} {x : Int32} {S1 : rk_Sh} {I1 : rk_I} {J1 : rk_J} {R1 : rk_R} {P : Prop} (hC : CW G l y' cc' ml' rt' d' 0 0 [.ref (1000001 + 2 * i)] n S I J R (rk_qi x n1 S1 I1 J1 R1 P)) (hd : decode cc pc = .ok (.invokevirtual ix, 3)) (hl : rk_lv y.cls ix y' cc' ml' rt' 0) (hi : i < 3) (hcs : y'.cls = "java/lang/String") (hdd : d' + 1 ≤ d) (hml : ml' ≤ 45) (hr : (st.map fun v => v.category).sum ≤ 8) (k : P → AW G l y cc ml rt d kc ks (pc + 3) lv (.int x :: st) n1 S1 I1 J1 R1 Q) : AW G l y cc ml rt d kc ks pc lv (.ref (1000001 + 2 * i) :: st) n S I J R Q :=
  AW_invY0z i hC hd hl hi hcs hdd hml hr (fun v n' S' I' J' R' hq => by
    obtain ⟨rfl, rfl, rfl, rfl, rfl, rfl, hP⟩ := hq
    exact k hP)
theorem AW_iY1iz {a1 : Value} (i : Nat) {y' : MethodName} {cc' : ByteArray} {ml' d' ix n1 : Nat} {rt' : Option FieldType} {x : Int32} {S1 : rk_Sh} {I1 : rk_I} {J1 : rk_J} {R1 : rk_R} {P : Prop} (hC : CW G l y' cc' ml' rt' d' 0 0 [.ref (1000001 + 2 * i), a1] n S I J R (rk_qi x n1 S1 I1 J1 R1 P)) (hd : decode cc pc = .ok (.invokevirtual ix, 3)) (hl : rk_lv y.cls ix y' cc' ml' rt' 1) (hi : i < 3) (hcs : y'.cls = "java/lang/String") (hdd : d' + 1 ≤ d) (hml : ml' ≤ 45) (hr : (st.map fun v => v.category).sum ≤ 8) (k : P → AW G l y cc ml rt d kc ks (pc + 3) lv (.int x :: st) n1 S1 I1 J1 R1 Q) : AW G l y cc ml rt d kc ks pc lv (a1 :: .ref (1000001 + 2 * i) :: st) n S I J R Q :=
  AW_invY1z i hC hd hl hi hcs hdd hml hr (fun v n' S' I' J' R' hq => by
    obtain ⟨rfl, rfl, rfl, rfl, rfl, rfl, hP⟩ := hq
    exact k hP)
theorem AW_iY2iz {a1 a2 : Value} (i : Nat) {y' : MethodName} {cc' : ByteArray} {ml' d' ix n1 : Nat} {rt' : Option FieldType} {x : Int32} {S1 : rk_Sh} {I1 : rk_I} {J1 : rk_J} {R1 : rk_R} {P : Prop} (hC : CW G l y' cc' ml' rt' d' 0 0 [.ref (1000001 + 2 * i), a1, a2] n S I J R (rk_qi x n1 S1 I1 J1 R1 P)) (hd : decode cc pc = .ok (.invokevirtual ix, 3)) (hl : rk_lv y.cls ix y' cc' ml' rt' 2) (hi : i < 3) (hcs : y'.cls = "java/lang/String") (hdd : d' + 1 ≤ d) (hml : ml' ≤ 45) (hr : (st.map fun v => v.category).sum ≤ 8) (k : P → AW G l y cc ml rt d kc ks (pc + 3) lv (.int x :: st) n1 S1 I1 J1 R1 Q) : AW G l y cc ml rt d kc ks pc lv (a2 :: a1 :: .ref (1000001 + 2 * i) :: st) n S I J R Q :=
  AW_invY2z i hC hd hl hi hcs hdd hml hr (fun v n' S' I' J' R' hq => by
    obtain ⟨rfl, rfl, rfl, rfl, rfl, rfl, hP⟩ := hq
    exact k hP)
end RK
