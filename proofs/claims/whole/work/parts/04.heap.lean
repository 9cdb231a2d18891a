/-- a field's link: from class own by pool number idx, field i of class ci; fin: it is final -/
def rk_fl (own : String) (idx ci i : Nat) (fin : Bool) : Prop := ∃ (C : String) (T : u_T) (N : Nat), vwCl[ci]? = some (C, T, N) ∧ i < N ∧ (∀ w ∈ u_ws C T N, w ∈ lw_tk) ∧ (∀ j, j < N → parseFieldDescriptor (T j).2.2.1 = some (rk_ty ci j)) ∧ (∀ a, a < N → ∀ b, b < N → a ≠ b → (T a).2.1 ≠ (T b).2.1) ∧ (T i).2.2.2 = fin ∧ (T i).1 = C ∧
  Cond.fieldLink own idx (T i).1 (T i).2.1 (T i).2.2.1 ∈ lw_tk
/-- a class's link, and what making an object of it needs -/
def rk_cl (own : String) (idx ci N : Nat) : Prop := ∃ (C : String) (T : u_T), vwCl[ci]? = some (C, T, N) ∧ (∀ w ∈ u_ws C T N, w ∈ lw_tk) ∧ (∀ j, j < N → parseFieldDescriptor (T j).2.2.1 = some (rk_ty ci j)) ∧ (∀ j, j < N → defaultValue (rk_ty ci j) = rk_fv (fun z => z) (fun _ _ => 0) (fun _ _ => 0) (fun _ _ => none) 0 (rk_sort (rk_ty ci j)) j) ∧ Cond.classLink own idx C ∈ lw_tk ∧ Cond.instantiable C N ∈ lw_tk ∧ Cond.initialized C ∈ lw_tk
theorem rk_lt20 {ci : Nat} {q : vw_C} (h : vwCl[ci]? = some q) : ci < 20 := by
  have := (List.getElem?_eq_some_iff.mp h).1
  have h2 : vwCl.length = 10 := rfl
  omega
def rk_cn (ci : Nat) : String := match vwCl[ci]? with
  | some q => q.1
  | none => ""
section RKH
variable {G : rk_G} {n : Nat} {S : rk_Sh} {I : rk_I} {J : rk_J} {R : rk_R} {H : Heap}
theorem rk_At_lt (h : rk_At G n S I J R H) {o t N : Nat} (hS : S o = (t, N)) (ht : t < 99) : o < n := by
  rcases Nat.lt_or_ge o n with h1 | h1
  · exact h1
  · have := h.2.2.2 o h1
    rw [hS] at this
    exact absurd this (by show t ≠ 99; omega)
theorem rk_obj (h : rk_At G n S I J R H) {o ci N : Nat} (hS : S o = (ci, N)) (hc : ci < 20) : (rk_ws G n S I J R)[o]? = some (G.1 o, .inr (ci, rk_fs G.1 S I J R o)) := by
  rw [rk_at_lt (rk_At_lt h hS (by omega))]
  unfold rk_cell
  rw [hS, if_pos hc]
theorem rk_row (h : rk_At G n S I J R H) {o t N : Nat} (hS : S o = (t, N)) (h1 : 20 ≤ t) (h2 : t < 22) : (rk_ws G n S I J R)[o]? = some (G.1 o, .inl (G.2.2.2.2.1 t, N, .inl (I o))) := by
  rw [rk_at_lt (rk_At_lt h hS (by omega))]
  unfold rk_cell
  rw [hS, if_neg (by show ¬ t < 20; omega), if_pos h2]
theorem rk_rowq (h : rk_At G n S I J R H) {o t N : Nat} (hS : S o = (t, N)) (h1 : 22 ≤ t) (h2 : t < 99) : (rk_ws G n S I J R)[o]? = some (G.1 o, .inl (G.2.2.2.2.1 t, N, .inr (.inr (.inr (.inr (fun i => (R o i).map G.1)))))) := by
  rw [rk_at_lt (rk_At_lt h hS (by omega))]
  unfold rk_cell
  rw [hS, if_neg (by show ¬ t < 20; omega), if_neg (by show ¬ t < 22; omega)]
theorem rk_fs_get {ad : Nat → Nat} {o ci N i : Nat} (hS : S o = (ci, N)) (hi : i < N) : (rk_fs ad S I J R o)[i]? = some (rk_fv ad I J R o (rk_sort (rk_ty ci i)) i) := by
  unfold rk_fs
  rw [hS, List.getElem?_map, List.getElem?_range hi]
  rfl
theorem rk_fs_len {ad : Nat → Nat} {o ci N : Nat} (hS : S o = (ci, N)) : (rk_fs ad S I J R o).length = N := by
  unfold rk_fs
  rw [hS]
  simp
theorem rk_fs_set {ad : Nat → Nat} {I' : rk_I} {J' : rk_J} {R' : rk_R} {o ci N i : Nat} {v : Value} (hS : S o = (ci, N)) (hi : i < N) (hv : rk_fv ad I' J' R' o (rk_sort (rk_ty ci i)) i = v) (ho : ∀ j, j ≠ i → I' o j = I o j ∧ J' o j = J o j ∧ R' o j = R o j) : rk_fs ad S I' J' R' o = (rk_fs ad S I J R o).set i v := by
  apply List.ext_getElem?
  intro j
  by_cases hj : j = i
  · subst hj
    rw [List.getElem?_set_self (by rw [rk_fs_len hS]; exact hi), rk_fs_get hS hi, hv]
  · rw [List.getElem?_set_ne (Ne.symm hj)]
    by_cases hl : j < N
    · rw [rk_fs_get hS hl, rk_fs_get hS hl]
      obtain ⟨h1, h2, h3⟩ := ho j hj
      unfold rk_fv
      rw [h1, h2, h3]
    · rw [List.getElem?_eq_none (by rw [rk_fs_len hS]; omega), List.getElem?_eq_none (by rw [rk_fs_len hS]; omega)]
/-- the store behind a write into one cell -/
theorem rk_At_set {H1 : Heap} {I' : rk_I} {J' : rk_J} {R' : rk_R} {o : Nat} {e e0 : va_E} (hG : rk_ok G) (h : rk_At G n S I J R H) (hp : (rk_ws G n S I J R)[o]? = some (G.1 o, e0)) (hat : va_at (rk_D G) vwCl (G.1 o, e) H1) (hz : H1.size = H.size) (hoq : ∀ q : Nat, q ≠ G.1 o → H1[q]? = H[q]?) (he : rk_cell G S I' J' R' o = e) (ho : ∀ j, j ≠ o → I' j = I j ∧ J' j = J j ∧ R' j = R j) : rk_At G n S I' J' R' H1 := by
  have hP := h.1.set (rk_D_ok hG h.2.2.1) hp hat hoq
  rw [rk_ws_set he ho] at hP
  exact ⟨hP, hz.trans h.2.1, h.2.2.1, h.2.2.2⟩
/-- the store behind a new cell -/
theorem rk_At_push {H1 : Heap} {S' : rk_Sh} {I' : rk_I} {J' : rk_J} {R' : rk_R} {e : va_E} (hG : rk_ok G) (h : rk_At G n S I J R H) (hn : n < 900000) (hat : va_at (rk_D G) vwCl (G.1 n, e) H1) (hz : H1.size = H.size + 1) (hoq : ∀ q : Nat, q < H.size → H1[q]? = H[q]?) (he : rk_cell G S' I' J' R' n = e) (ho : ∀ j, j < n → S' j = S j ∧ I' j = I j ∧ J' j = J j ∧ R' j = R j) (h99 : ∀ k, n + 1 ≤ k → (S' k).1 = 99) : rk_At G (n + 1) S' I' J' R' H1 := by
  have hP := (h.1.kept (H1 := H1) (fun k q hq => hoq _ ((h.1 k q hq).lt))).app (w2 := [(G.1 n, e)]) (fun k q hq => by
    have hz : k < 1 := (List.getElem?_eq_some_iff.mp hq).1
    rw [show k = 0 by omega] at hq
    cases hq
    exact hat)
  rw [rk_ws_push he ho] at hP
  exact ⟨hP, by rw [hz, h.2.1]; omega, by omega, h99⟩
theorem rk_At_ad (hG : rk_ok G) (h : rk_At G n S I J R H) : H.size = G.1 n := by
  have := hG.1 n (by have := h.2.2.1; omega)
  rw [h.2.1, this]
theorem rk_cell_obj {o ci N : Nat} (hS : S o = (ci, N)) (hc : ci < 20) : rk_cell G S I J R o = .inr (ci, rk_fs G.1 S I J R o) := by
  unfold rk_cell
  rw [hS, if_pos hc]
theorem rk_cell_row {o t N : Nat} (hS : S o = (t, N)) (h1 : 20 ≤ t) (h2 : t < 22) : rk_cell G S I J R o = .inl (G.2.2.2.2.1 t, N, .inl (I o)) := by
  unfold rk_cell
  rw [hS, if_neg (by show ¬ t < 20; omega), if_pos h2]
theorem rk_cell_rowq {o t N : Nat} (hS : S o = (t, N)) (h1 : 22 ≤ t) : rk_cell G S I J R o = .inl (G.2.2.2.2.1 t, N, .inr (.inr (.inr (.inr (fun i => (R o i).map G.1))))) := by
  unfold rk_cell
  rw [hS, if_neg (by show ¬ t < 20; omega), if_neg (by show ¬ t < 22; omega)]
/-- of the heap behind a write: its size, by the frame and the old cells' places -/
theorem rk_ui_at {k i : Nat} {x : Int32} : rk_ui I k i x k = upd (I k) i x := by funext a; simp [rk_ui, upd]
theorem rk_ur_at {k i : Nat} {x : Option Nat} : rk_ur R k i x k = va_up (R k) i x := by funext a; simp [rk_ur, va_up]
end RKH
section RK
variable {G : rk_G} {l : Launch} {y : MethodName} {cc : ByteArray} {ml : Nat} {rt : Option FieldType} {d kc ks pc : Nat} {lv : List (Option Value)} {st : List Value} {n : Nat} {S : rk_Sh} {I : rk_I} {J : rk_J} {R : rk_R} {Q : rk_Q}
theorem AW_getI {ix ci i o N : Nat} {fin : Bool} (hd : decode cc pc = .ok (.getfield ix, 3)) (hF : rk_fl y.cls ix ci i fin) (hs : rk_sort (rk_ty ci i) = 0) (hS : S o = (ci, N)) (hi : i < N)  (k : AW G l y cc ml rt d kc ks (pc + 3) (lv) (.int (I o i) :: st) n S I J R Q) :
    AW G l y cc ml rt d kc ks (pc) (lv) (.ref o :: st) n S I J R Q := by
  intro p e Rm s m args below meth c H locs cells slots ls C h1 h2 h3 h4
  obtain ⟨Cn, T, M, hc, hk, hin, hty, hnm, hfin, hdl, hl⟩ := hF
  have hv : (rk_fs G.1 S I J R o)[i]? = some (rk_v G.1 (.int (I o i))) := by rw [rk_fs_get hS hi, hs]; rfl
  exact va_get C.1 C.2.1 C.2.2.2.2.2.1 hin C.2.2.2.2.1 C.2.2.2.2.2.2.2.1 h1.1 o (rk_obj h1 hS (rk_lt20 hc)) hc i hk (C.2.2.2.2.2.1 _ hl) (fun _ h => h) hv hd (k _ _ _ _ _ _ _ _ _ _ _ _ _ ls C h1 h2 h3 h4)
theorem AW_getJ {ix ci i o N : Nat} {fin : Bool} (hd : decode cc pc = .ok (.getfield ix, 3)) (hF : rk_fl y.cls ix ci i fin) (hs : rk_sort (rk_ty ci i) = 1) (hS : S o = (ci, N)) (hi : i < N)  (k : AW G l y cc ml rt d kc ks (pc + 3) (lv) (.long (J o i) :: st) n S I J R Q) :
    AW G l y cc ml rt d kc ks (pc) (lv) (.ref o :: st) n S I J R Q := by
  intro p e Rm s m args below meth c H locs cells slots ls C h1 h2 h3 h4
  obtain ⟨Cn, T, M, hc, hk, hin, hty, hnm, hfin, hdl, hl⟩ := hF
  have hv : (rk_fs G.1 S I J R o)[i]? = some (rk_v G.1 (.long (J o i))) := by rw [rk_fs_get hS hi, hs]; rfl
  exact va_get C.1 C.2.1 C.2.2.2.2.2.1 hin C.2.2.2.2.1 C.2.2.2.2.2.2.2.1 h1.1 o (rk_obj h1 hS (rk_lt20 hc)) hc i hk (C.2.2.2.2.2.1 _ hl) (fun _ h => h) hv hd (k _ _ _ _ _ _ _ _ _ _ _ _ _ ls C h1 h2 h3 h4)
theorem AW_getR {ix ci i o N : Nat} {fin : Bool} {q : Nat} (hd : decode cc pc = .ok (.getfield ix, 3)) (hF : rk_fl y.cls ix ci i fin) (hs : rk_sort (rk_ty ci i) = 2) (hS : S o = (ci, N)) (hi : i < N) (hR : R o i = some q) (k : AW G l y cc ml rt d kc ks (pc + 3) (lv) (.ref q :: st) n S I J R Q) :
    AW G l y cc ml rt d kc ks (pc) (lv) (.ref o :: st) n S I J R Q := by
  intro p e Rm s m args below meth c H locs cells slots ls C h1 h2 h3 h4
  obtain ⟨Cn, T, M, hc, hk, hin, hty, hnm, hfin, hdl, hl⟩ := hF
  have hv : (rk_fs G.1 S I J R o)[i]? = some (rk_v G.1 (.ref q)) := by rw [rk_fs_get hS hi, hs]; show some (va_rf ((R o i).map G.1)) = _; rw [hR]; rfl
  exact va_get C.1 C.2.1 C.2.2.2.2.2.1 hin C.2.2.2.2.1 C.2.2.2.2.2.2.2.1 h1.1 o (rk_obj h1 hS (rk_lt20 hc)) hc i hk (C.2.2.2.2.2.1 _ hl) (fun _ h => h) hv hd (k _ _ _ _ _ _ _ _ _ _ _ _ _ ls C h1 h2 h3 h4)
theorem AW_getN {ix ci i o N : Nat} {fin : Bool} (hd : decode cc pc = .ok (.getfield ix, 3)) (hF : rk_fl y.cls ix ci i fin) (hs : rk_sort (rk_ty ci i) = 2) (hS : S o = (ci, N)) (hi : i < N) (hR : R o i = none) (k : AW G l y cc ml rt d kc ks (pc + 3) (lv) (.null :: st) n S I J R Q) :
    AW G l y cc ml rt d kc ks (pc) (lv) (.ref o :: st) n S I J R Q := by
  intro p e Rm s m args below meth c H locs cells slots ls C h1 h2 h3 h4
  obtain ⟨Cn, T, M, hc, hk, hin, hty, hnm, hfin, hdl, hl⟩ := hF
  have hv : (rk_fs G.1 S I J R o)[i]? = some (rk_v G.1 (.null)) := by rw [rk_fs_get hS hi, hs]; show some (va_rf ((R o i).map G.1)) = _; rw [hR]; rfl
  exact va_get C.1 C.2.1 C.2.2.2.2.2.1 hin C.2.2.2.2.1 C.2.2.2.2.2.2.2.1 h1.1 o (rk_obj h1 hS (rk_lt20 hc)) hc i hk (C.2.2.2.2.2.1 _ hl) (fun _ h => h) hv hd (k _ _ _ _ _ _ _ _ _ _ _ _ _ ls C h1 h2 h3 h4)
theorem AW_putI {ix ci i o N : Nat} {x : Int32} (hd : decode cc pc = .ok (.putfield ix, 3)) (hF : rk_fl y.cls ix ci i false) (hs : rk_ty ci i = .int) (hS : S o = (ci, N)) (hi : i < N)  (k : AW G l y cc ml rt d kc ks (pc + 3) (lv) (st) n S (rk_ui I o i x) J R Q) :
    AW G l y cc ml rt d kc ks (pc) (lv) (.int x :: .ref o :: st) n S I J R Q := by
  intro p e Rm s m args below meth c H locs cells slots ls C h1 h2 h3 h4
  obtain ⟨Cn, T, M, hc, hk, hin, hty, hnm, hfin, hdl, hl⟩ := hF
  have hcell : rk_cell G S (rk_ui I o i x) J R o = .inr (ci, (rk_fs G.1 S I J R o).set i (rk_v G.1 (.int x))) := by
    rw [rk_cell_obj hS (rk_lt20 hc), rk_fs_set (I := I) (J := J) (R := R) (v := rk_v G.1 (.int x)) hS hi (by rw [hs]; simp [rk_sort, rk_fv, rk_ui, rk_uj, rk_ur, rk_v, va_rf]) (fun j hj => ⟨by simp [rk_ui, hj], rfl, rfl⟩)]
  have ho : ∀ j, j ≠ o → ((rk_ui I o i x)) j = I j ∧ (J) j = J j ∧ (R) j = R j := fun j hj => ⟨rk_ui_o hj, rfl, rfl⟩
  have hob := rk_obj h1 hS (rk_lt20 hc)
  have hA : rk_A G (G.1 o) := (rk_D_ok (S := S) (I := I) (J := J) (R := R) C.2.2.2.2.2.2.2.2.2.2.2.2.1 h1.2.2.1).2 o _ hob
  have hap := va_apart (own := y.cls) C.2.2.2.2.2.1 hin (rk_ty ci) hty hnm C.2.2.2.2.2.2.2.1 hc
  obtain ⟨rr, g1, cell, q1, q2, q3, q4⟩ := h1.1 o _ hob
  have hr : rr = (Cn, T, M) := Option.some.inj (g1.symm.trans hc)
  subst hr
  obtain ⟨hSl, hfc, kC, hkC, hkind⟩ := C.2.2.2.2.2.2.2.1.1 ci _ hc
  obtain ⟨cf, kf, fi, f, hfi, hsl⟩ := hSl i hk
  have hlay := C.2.2.2.2.2.1 _ (hin _ (u_in_lay hk))
  unfold u_lay at hlay
  rw [if_neg (by rw [hfin]; decide)] at hlay
  have hst := (u_facts hfc hkC (u_lays C.2.2.2.2.2.1 hin hk) hfi).1
  have h6 := u_store hfc hkC hkind hlay hfi (v := rk_v G.1 (.int x)) (hty i hk) (by rw [hs]; rfl) (by rw [hs]; rfl)
  refine W.putK C.1 C.2.1 (f := f) ⟨C.2.2.2.2.1, C.2.2.2.2.2.1 _ hl, ⟨_, _, _, hfi⟩, hst⟩ (by rw [q2]; exact h6) q1 q3 (by rw [hsl]; exact k2_hasslot (q4 i hk)) rfl rfl hd fun H' e1 e2 e3 => ?_
  rw [hsl] at e1 ⊢
  exact k _ _ _ _ _ _ _ _ _ _ _ _ _ ls C (rk_At_set (e := .inr (ci, (rk_fs G.1 S I J R o).set i (rk_v G.1 (.int x)))) C.2.2.2.2.2.2.2.2.2.2.2.2.1 h1 hob ⟨_, hc, t_OB.to (V := updV (vp_V (rk_fs G.1 S I J R o)) i _) ⟨_, e1, q2, q3, t_set q4 hap hk _⟩ (fun j _ => vp_updV_set (by rw [rk_fs_len hS]; exact hi) _ j)⟩ e2 e3 hcell ho) (h2.put e2 e3 hA) h3 h4
theorem AW_putIF {ix ci i o N : Nat} {x : Int32} (hd : decode cc pc = .ok (.putfield ix, 3)) (hF : rk_fl y.cls ix ci i true) (hs : rk_ty ci i = .int) (hS : S o = (ci, N)) (hi : i < N) (hmn : y.name = "<init>") (hcl : rk_cn ci = y.cls)  (k : AW G l y cc ml rt d kc ks (pc + 3) (lv) (st) n S (rk_ui I o i x) J R Q) :
    AW G l y cc ml rt d kc ks (pc) (lv) (.int x :: .ref o :: st) n S I J R Q := by
  intro p e Rm s m args below meth c H locs cells slots ls C h1 h2 h3 h4
  obtain ⟨Cn, T, M, hc, hk, hin, hty, hnm, hfin, hdl, hl⟩ := hF
  have hcell : rk_cell G S (rk_ui I o i x) J R o = .inr (ci, (rk_fs G.1 S I J R o).set i (rk_v G.1 (.int x))) := by
    rw [rk_cell_obj hS (rk_lt20 hc), rk_fs_set (I := I) (J := J) (R := R) (v := rk_v G.1 (.int x)) hS hi (by rw [hs]; simp [rk_sort, rk_fv, rk_ui, rk_uj, rk_ur, rk_v, va_rf]) (fun j hj => ⟨by simp [rk_ui, hj], rfl, rfl⟩)]
  have ho : ∀ j, j ≠ o → ((rk_ui I o i x)) j = I j ∧ (J) j = J j ∧ (R) j = R j := fun j hj => ⟨rk_ui_o hj, rfl, rfl⟩
  have hob := rk_obj h1 hS (rk_lt20 hc)
  have hA : rk_A G (G.1 o) := (rk_D_ok (S := S) (I := I) (J := J) (R := R) C.2.2.2.2.2.2.2.2.2.2.2.2.1 h1.2.2.1).2 o _ hob
  have hap := va_apart (own := y.cls) C.2.2.2.2.2.1 hin (rk_ty ci) hty hnm C.2.2.2.2.2.2.2.1 hc
  obtain ⟨rr, g1, cell, q1, q2, q3, q4⟩ := h1.1 o _ hob
  have hr : rr = (Cn, T, M) := Option.some.inj (g1.symm.trans hc)
  subst hr
  obtain ⟨hSl, hfc, kC, hkC, hkind⟩ := C.2.2.2.2.2.2.2.1.1 ci _ hc
  obtain ⟨cf, kf, fi, f, hfi, hsl⟩ := hSl i hk
  have hlay := C.2.2.2.2.2.1 _ (hin _ (u_in_lay hk))
  unfold u_lay at hlay
  rw [if_pos hfin] at hlay
  have hst := (u_facts hfc hkC (u_lays C.2.2.2.2.2.1 hin hk) hfi).1
  have hCn : Cn = y.cls := by rw [← hcl, rk_cn, hc]
  have hcf : m.cls = cf := by
    obtain ⟨_, _, c', _, _, _, -, -, hf', -, -, -, hown2, -⟩ := Cond.laysFinal_spec hlay
    have e1 : c' = cf := by
      have := hfi.symm.trans hf'
      simp at this
      exact this.1.symm
    rw [hdl, hCn] at hown2
    rw [← e1]
    exact Option.some.inj (C.2.2.2.2.1.symm.trans hown2)
  have h6 := u_fits hfc hkC hkind (Or.inr hlay) hfi (v := rk_v G.1 (.int x)) (hty i hk) (by rw [hs]; rfl) (by rw [hs]; rfl)
  refine W.putFinK C.1 C.2.1 C.2.2.2.2.1 (C.2.2.2.2.2.1 _ hl) hfi hst hcf (C.2.2.2.2.2.2.2.2.2.1.trans hmn) (by rw [q2]; exact h6) q1 q3 (by rw [hsl]; exact k2_hasslot (q4 i hk)) rfl rfl hd fun H' e1 e2 e3 => ?_
  rw [hsl] at e1 ⊢
  exact k _ _ _ _ _ _ _ _ _ _ _ _ _ ls C (rk_At_set (e := .inr (ci, (rk_fs G.1 S I J R o).set i (rk_v G.1 (.int x)))) C.2.2.2.2.2.2.2.2.2.2.2.2.1 h1 hob ⟨_, hc, t_OB.to (V := updV (vp_V (rk_fs G.1 S I J R o)) i _) ⟨_, e1, q2, q3, t_set q4 hap hk _⟩ (fun j _ => vp_updV_set (by rw [rk_fs_len hS]; exact hi) _ j)⟩ e2 e3 hcell ho) (h2.put e2 e3 hA) h3 h4
theorem AW_putIZ {ix ci i o N : Nat} {x : Int32} (hd : decode cc pc = .ok (.putfield ix, 3)) (hF : rk_fl y.cls ix ci i false) (hs : rk_ty ci i = .boolean) (hS : S o = (ci, N)) (hi : i < N) (hx : x = 0 ∨ x = 1) (k : AW G l y cc ml rt d kc ks (pc + 3) (lv) (st) n S (rk_ui I o i x) J R Q) :
    AW G l y cc ml rt d kc ks (pc) (lv) (.int x :: .ref o :: st) n S I J R Q := by
  intro p e Rm s m args below meth c H locs cells slots ls C h1 h2 h3 h4
  obtain ⟨Cn, T, M, hc, hk, hin, hty, hnm, hfin, hdl, hl⟩ := hF
  have hcell : rk_cell G S (rk_ui I o i x) J R o = .inr (ci, (rk_fs G.1 S I J R o).set i (rk_v G.1 (.int x))) := by
    rw [rk_cell_obj hS (rk_lt20 hc), rk_fs_set (I := I) (J := J) (R := R) (v := rk_v G.1 (.int x)) hS hi (by rw [hs]; simp [rk_sort, rk_fv, rk_ui, rk_uj, rk_ur, rk_v, va_rf]) (fun j hj => ⟨by simp [rk_ui, hj], rfl, rfl⟩)]
  have ho : ∀ j, j ≠ o → ((rk_ui I o i x)) j = I j ∧ (J) j = J j ∧ (R) j = R j := fun j hj => ⟨rk_ui_o hj, rfl, rfl⟩
  have hob := rk_obj h1 hS (rk_lt20 hc)
  have hA : rk_A G (G.1 o) := (rk_D_ok (S := S) (I := I) (J := J) (R := R) C.2.2.2.2.2.2.2.2.2.2.2.2.1 h1.2.2.1).2 o _ hob
  have hap := va_apart (own := y.cls) C.2.2.2.2.2.1 hin (rk_ty ci) hty hnm C.2.2.2.2.2.2.2.1 hc
  obtain ⟨rr, g1, cell, q1, q2, q3, q4⟩ := h1.1 o _ hob
  have hr : rr = (Cn, T, M) := Option.some.inj (g1.symm.trans hc)
  subst hr
  obtain ⟨hSl, hfc, kC, hkC, hkind⟩ := C.2.2.2.2.2.2.2.1.1 ci _ hc
  obtain ⟨cf, kf, fi, f, hfi, hsl⟩ := hSl i hk
  have hlay := C.2.2.2.2.2.1 _ (hin _ (u_in_lay hk))
  unfold u_lay at hlay
  rw [if_neg (by rw [hfin]; decide)] at hlay
  have hst := (u_facts hfc hkC (u_lays C.2.2.2.2.2.1 hin hk) hfi).1
  have h6 := u_store hfc hkC hkind hlay hfi (v := rk_v G.1 (.int x)) (hty i hk) (by rw [hs]; rcases hx with rfl | rfl <;> rfl) (by rw [hs]; rcases hx with rfl | rfl <;> rfl)
  refine W.putK C.1 C.2.1 (f := f) ⟨C.2.2.2.2.1, C.2.2.2.2.2.1 _ hl, ⟨_, _, _, hfi⟩, hst⟩ (by rw [q2]; exact h6) q1 q3 (by rw [hsl]; exact k2_hasslot (q4 i hk)) rfl rfl hd fun H' e1 e2 e3 => ?_
  rw [hsl] at e1 ⊢
  exact k _ _ _ _ _ _ _ _ _ _ _ _ _ ls C (rk_At_set (e := .inr (ci, (rk_fs G.1 S I J R o).set i (rk_v G.1 (.int x)))) C.2.2.2.2.2.2.2.2.2.2.2.2.1 h1 hob ⟨_, hc, t_OB.to (V := updV (vp_V (rk_fs G.1 S I J R o)) i _) ⟨_, e1, q2, q3, t_set q4 hap hk _⟩ (fun j _ => vp_updV_set (by rw [rk_fs_len hS]; exact hi) _ j)⟩ e2 e3 hcell ho) (h2.put e2 e3 hA) h3 h4
theorem AW_putIZF {ix ci i o N : Nat} {x : Int32} (hd : decode cc pc = .ok (.putfield ix, 3)) (hF : rk_fl y.cls ix ci i true) (hs : rk_ty ci i = .boolean) (hS : S o = (ci, N)) (hi : i < N) (hmn : y.name = "<init>") (hcl : rk_cn ci = y.cls) (hx : x = 0 ∨ x = 1) (k : AW G l y cc ml rt d kc ks (pc + 3) (lv) (st) n S (rk_ui I o i x) J R Q) :
    AW G l y cc ml rt d kc ks (pc) (lv) (.int x :: .ref o :: st) n S I J R Q := by
  intro p e Rm s m args below meth c H locs cells slots ls C h1 h2 h3 h4
  obtain ⟨Cn, T, M, hc, hk, hin, hty, hnm, hfin, hdl, hl⟩ := hF
  have hcell : rk_cell G S (rk_ui I o i x) J R o = .inr (ci, (rk_fs G.1 S I J R o).set i (rk_v G.1 (.int x))) := by
    rw [rk_cell_obj hS (rk_lt20 hc), rk_fs_set (I := I) (J := J) (R := R) (v := rk_v G.1 (.int x)) hS hi (by rw [hs]; simp [rk_sort, rk_fv, rk_ui, rk_uj, rk_ur, rk_v, va_rf]) (fun j hj => ⟨by simp [rk_ui, hj], rfl, rfl⟩)]
  have ho : ∀ j, j ≠ o → ((rk_ui I o i x)) j = I j ∧ (J) j = J j ∧ (R) j = R j := fun j hj => ⟨rk_ui_o hj, rfl, rfl⟩
  have hob := rk_obj h1 hS (rk_lt20 hc)
  have hA : rk_A G (G.1 o) := (rk_D_ok (S := S) (I := I) (J := J) (R := R) C.2.2.2.2.2.2.2.2.2.2.2.2.1 h1.2.2.1).2 o _ hob
  have hap := va_apart (own := y.cls) C.2.2.2.2.2.1 hin (rk_ty ci) hty hnm C.2.2.2.2.2.2.2.1 hc
  obtain ⟨rr, g1, cell, q1, q2, q3, q4⟩ := h1.1 o _ hob
  have hr : rr = (Cn, T, M) := Option.some.inj (g1.symm.trans hc)
  subst hr
  obtain ⟨hSl, hfc, kC, hkC, hkind⟩ := C.2.2.2.2.2.2.2.1.1 ci _ hc
  obtain ⟨cf, kf, fi, f, hfi, hsl⟩ := hSl i hk
  have hlay := C.2.2.2.2.2.1 _ (hin _ (u_in_lay hk))
  unfold u_lay at hlay
  rw [if_pos hfin] at hlay
  have hst := (u_facts hfc hkC (u_lays C.2.2.2.2.2.1 hin hk) hfi).1
  have hCn : Cn = y.cls := by rw [← hcl, rk_cn, hc]
  have hcf : m.cls = cf := by
    obtain ⟨_, _, c', _, _, _, -, -, hf', -, -, -, hown2, -⟩ := Cond.laysFinal_spec hlay
    have e1 : c' = cf := by
      have := hfi.symm.trans hf'
      simp at this
      exact this.1.symm
    rw [hdl, hCn] at hown2
    rw [← e1]
    exact Option.some.inj (C.2.2.2.2.1.symm.trans hown2)
  have h6 := u_fits hfc hkC hkind (Or.inr hlay) hfi (v := rk_v G.1 (.int x)) (hty i hk) (by rw [hs]; rcases hx with rfl | rfl <;> rfl) (by rw [hs]; rcases hx with rfl | rfl <;> rfl)
  refine W.putFinK C.1 C.2.1 C.2.2.2.2.1 (C.2.2.2.2.2.1 _ hl) hfi hst hcf (C.2.2.2.2.2.2.2.2.2.1.trans hmn) (by rw [q2]; exact h6) q1 q3 (by rw [hsl]; exact k2_hasslot (q4 i hk)) rfl rfl hd fun H' e1 e2 e3 => ?_
  rw [hsl] at e1 ⊢
  exact k _ _ _ _ _ _ _ _ _ _ _ _ _ ls C (rk_At_set (e := .inr (ci, (rk_fs G.1 S I J R o).set i (rk_v G.1 (.int x)))) C.2.2.2.2.2.2.2.2.2.2.2.2.1 h1 hob ⟨_, hc, t_OB.to (V := updV (vp_V (rk_fs G.1 S I J R o)) i _) ⟨_, e1, q2, q3, t_set q4 hap hk _⟩ (fun j _ => vp_updV_set (by rw [rk_fs_len hS]; exact hi) _ j)⟩ e2 e3 hcell ho) (h2.put e2 e3 hA) h3 h4
theorem AW_putJ {ix ci i o N : Nat} {x : Int64} (hd : decode cc pc = .ok (.putfield ix, 3)) (hF : rk_fl y.cls ix ci i false) (hs : rk_ty ci i = .long) (hS : S o = (ci, N)) (hi : i < N)  (k : AW G l y cc ml rt d kc ks (pc + 3) (lv) (st) n S I (rk_uj J o i x) R Q) :
    AW G l y cc ml rt d kc ks (pc) (lv) (.long x :: .ref o :: st) n S I J R Q := by
  intro p e Rm s m args below meth c H locs cells slots ls C h1 h2 h3 h4
  obtain ⟨Cn, T, M, hc, hk, hin, hty, hnm, hfin, hdl, hl⟩ := hF
  have hcell : rk_cell G S I (rk_uj J o i x) R o = .inr (ci, (rk_fs G.1 S I J R o).set i (rk_v G.1 (.long x))) := by
    rw [rk_cell_obj hS (rk_lt20 hc), rk_fs_set (I := I) (J := J) (R := R) (v := rk_v G.1 (.long x)) hS hi (by rw [hs]; simp [rk_sort, rk_fv, rk_ui, rk_uj, rk_ur, rk_v, va_rf]) (fun j hj => ⟨rfl, by simp [rk_uj, hj], rfl⟩)]
  have ho : ∀ j, j ≠ o → (I) j = I j ∧ ((rk_uj J o i x)) j = J j ∧ (R) j = R j := fun j hj => ⟨rfl, rk_uj_o hj, rfl⟩
  have hob := rk_obj h1 hS (rk_lt20 hc)
  have hA : rk_A G (G.1 o) := (rk_D_ok (S := S) (I := I) (J := J) (R := R) C.2.2.2.2.2.2.2.2.2.2.2.2.1 h1.2.2.1).2 o _ hob
  have hap := va_apart (own := y.cls) C.2.2.2.2.2.1 hin (rk_ty ci) hty hnm C.2.2.2.2.2.2.2.1 hc
  obtain ⟨rr, g1, cell, q1, q2, q3, q4⟩ := h1.1 o _ hob
  have hr : rr = (Cn, T, M) := Option.some.inj (g1.symm.trans hc)
  subst hr
  obtain ⟨hSl, hfc, kC, hkC, hkind⟩ := C.2.2.2.2.2.2.2.1.1 ci _ hc
  obtain ⟨cf, kf, fi, f, hfi, hsl⟩ := hSl i hk
  have hlay := C.2.2.2.2.2.1 _ (hin _ (u_in_lay hk))
  unfold u_lay at hlay
  rw [if_neg (by rw [hfin]; decide)] at hlay
  have hst := (u_facts hfc hkC (u_lays C.2.2.2.2.2.1 hin hk) hfi).1
  have h6 := u_store hfc hkC hkind hlay hfi (v := rk_v G.1 (.long x)) (hty i hk) (by rw [hs]; rfl) (by rw [hs]; rfl)
  refine W.putK C.1 C.2.1 (f := f) ⟨C.2.2.2.2.1, C.2.2.2.2.2.1 _ hl, ⟨_, _, _, hfi⟩, hst⟩ (by rw [q2]; exact h6) q1 q3 (by rw [hsl]; exact k2_hasslot (q4 i hk)) rfl rfl hd fun H' e1 e2 e3 => ?_
  rw [hsl] at e1 ⊢
  exact k _ _ _ _ _ _ _ _ _ _ _ _ _ ls C (rk_At_set (e := .inr (ci, (rk_fs G.1 S I J R o).set i (rk_v G.1 (.long x)))) C.2.2.2.2.2.2.2.2.2.2.2.2.1 h1 hob ⟨_, hc, t_OB.to (V := updV (vp_V (rk_fs G.1 S I J R o)) i _) ⟨_, e1, q2, q3, t_set q4 hap hk _⟩ (fun j _ => vp_updV_set (by rw [rk_fs_len hS]; exact hi) _ j)⟩ e2 e3 hcell ho) (h2.put e2 e3 hA) h3 h4
theorem AW_putJF {ix ci i o N : Nat} {x : Int64} (hd : decode cc pc = .ok (.putfield ix, 3)) (hF : rk_fl y.cls ix ci i true) (hs : rk_ty ci i = .long) (hS : S o = (ci, N)) (hi : i < N) (hmn : y.name = "<init>") (hcl : rk_cn ci = y.cls)  (k : AW G l y cc ml rt d kc ks (pc + 3) (lv) (st) n S I (rk_uj J o i x) R Q) :
    AW G l y cc ml rt d kc ks (pc) (lv) (.long x :: .ref o :: st) n S I J R Q := by
  intro p e Rm s m args below meth c H locs cells slots ls C h1 h2 h3 h4
  obtain ⟨Cn, T, M, hc, hk, hin, hty, hnm, hfin, hdl, hl⟩ := hF
  have hcell : rk_cell G S I (rk_uj J o i x) R o = .inr (ci, (rk_fs G.1 S I J R o).set i (rk_v G.1 (.long x))) := by
    rw [rk_cell_obj hS (rk_lt20 hc), rk_fs_set (I := I) (J := J) (R := R) (v := rk_v G.1 (.long x)) hS hi (by rw [hs]; simp [rk_sort, rk_fv, rk_ui, rk_uj, rk_ur, rk_v, va_rf]) (fun j hj => ⟨rfl, by simp [rk_uj, hj], rfl⟩)]
  have ho : ∀ j, j ≠ o → (I) j = I j ∧ ((rk_uj J o i x)) j = J j ∧ (R) j = R j := fun j hj => ⟨rfl, rk_uj_o hj, rfl⟩
  have hob := rk_obj h1 hS (rk_lt20 hc)
  have hA : rk_A G (G.1 o) := (rk_D_ok (S := S) (I := I) (J := J) (R := R) C.2.2.2.2.2.2.2.2.2.2.2.2.1 h1.2.2.1).2 o _ hob
  have hap := va_apart (own := y.cls) C.2.2.2.2.2.1 hin (rk_ty ci) hty hnm C.2.2.2.2.2.2.2.1 hc
  obtain ⟨rr, g1, cell, q1, q2, q3, q4⟩ := h1.1 o _ hob
  have hr : rr = (Cn, T, M) := Option.some.inj (g1.symm.trans hc)
  subst hr
  obtain ⟨hSl, hfc, kC, hkC, hkind⟩ := C.2.2.2.2.2.2.2.1.1 ci _ hc
  obtain ⟨cf, kf, fi, f, hfi, hsl⟩ := hSl i hk
  have hlay := C.2.2.2.2.2.1 _ (hin _ (u_in_lay hk))
  unfold u_lay at hlay
  rw [if_pos hfin] at hlay
  have hst := (u_facts hfc hkC (u_lays C.2.2.2.2.2.1 hin hk) hfi).1
  have hCn : Cn = y.cls := by rw [← hcl, rk_cn, hc]
  have hcf : m.cls = cf := by
    obtain ⟨_, _, c', _, _, _, -, -, hf', -, -, -, hown2, -⟩ := Cond.laysFinal_spec hlay
    have e1 : c' = cf := by
      have := hfi.symm.trans hf'
      simp at this
      exact this.1.symm
    rw [hdl, hCn] at hown2
    rw [← e1]
    exact Option.some.inj (C.2.2.2.2.1.symm.trans hown2)
  have h6 := u_fits hfc hkC hkind (Or.inr hlay) hfi (v := rk_v G.1 (.long x)) (hty i hk) (by rw [hs]; rfl) (by rw [hs]; rfl)
  refine W.putFinK C.1 C.2.1 C.2.2.2.2.1 (C.2.2.2.2.2.1 _ hl) hfi hst hcf (C.2.2.2.2.2.2.2.2.2.1.trans hmn) (by rw [q2]; exact h6) q1 q3 (by rw [hsl]; exact k2_hasslot (q4 i hk)) rfl rfl hd fun H' e1 e2 e3 => ?_
  rw [hsl] at e1 ⊢
  exact k _ _ _ _ _ _ _ _ _ _ _ _ _ ls C (rk_At_set (e := .inr (ci, (rk_fs G.1 S I J R o).set i (rk_v G.1 (.long x)))) C.2.2.2.2.2.2.2.2.2.2.2.2.1 h1 hob ⟨_, hc, t_OB.to (V := updV (vp_V (rk_fs G.1 S I J R o)) i _) ⟨_, e1, q2, q3, t_set q4 hap hk _⟩ (fun j _ => vp_updV_set (by rw [rk_fs_len hS]; exact hi) _ j)⟩ e2 e3 hcell ho) (h2.put e2 e3 hA) h3 h4
theorem AW_putR {ix ci i o N : Nat} {q : Nat} {cn : String} (hd : decode cc pc = .ok (.putfield ix, 3)) (hF : rk_fl y.cls ix ci i false) (hs : rk_ty ci i = .object cn) (hS : S o = (ci, N)) (hi : i < N)  (k : AW G l y cc ml rt d kc ks (pc + 3) (lv) (st) n S I J (rk_ur R o i (some q)) Q) :
    AW G l y cc ml rt d kc ks (pc) (lv) (.ref q :: .ref o :: st) n S I J R Q := by
  intro p e Rm s m args below meth c H locs cells slots ls C h1 h2 h3 h4
  obtain ⟨Cn, T, M, hc, hk, hin, hty, hnm, hfin, hdl, hl⟩ := hF
  have hcell : rk_cell G S I J (rk_ur R o i (some q)) o = .inr (ci, (rk_fs G.1 S I J R o).set i (rk_v G.1 (.ref q))) := by
    rw [rk_cell_obj hS (rk_lt20 hc), rk_fs_set (I := I) (J := J) (R := R) (v := rk_v G.1 (.ref q)) hS hi (by rw [hs]; simp [rk_sort, rk_fv, rk_ui, rk_uj, rk_ur, rk_v, va_rf]) (fun j hj => ⟨rfl, rfl, by simp [rk_ur, hj]⟩)]
  have ho : ∀ j, j ≠ o → (I) j = I j ∧ (J) j = J j ∧ ((rk_ur R o i (some q))) j = R j := fun j hj => ⟨rfl, rfl, rk_ur_o hj⟩
  have hob := rk_obj h1 hS (rk_lt20 hc)
  have hA : rk_A G (G.1 o) := (rk_D_ok (S := S) (I := I) (J := J) (R := R) C.2.2.2.2.2.2.2.2.2.2.2.2.1 h1.2.2.1).2 o _ hob
  have hap := va_apart (own := y.cls) C.2.2.2.2.2.1 hin (rk_ty ci) hty hnm C.2.2.2.2.2.2.2.1 hc
  obtain ⟨rr, g1, cell, q1, q2, q3, q4⟩ := h1.1 o _ hob
  have hr : rr = (Cn, T, M) := Option.some.inj (g1.symm.trans hc)
  subst hr
  obtain ⟨hSl, hfc, kC, hkC, hkind⟩ := C.2.2.2.2.2.2.2.1.1 ci _ hc
  obtain ⟨cf, kf, fi, f, hfi, hsl⟩ := hSl i hk
  have hlay := C.2.2.2.2.2.1 _ (hin _ (u_in_lay hk))
  unfold u_lay at hlay
  rw [if_neg (by rw [hfin]; decide)] at hlay
  have hst := (u_facts hfc hkC (u_lays C.2.2.2.2.2.1 hin hk) hfi).1
  have h6 := u_store hfc hkC hkind hlay hfi (v := rk_v G.1 (.ref q)) (hty i hk) (by rw [hs]; rfl) (by rw [hs]; rfl)
  refine W.putK C.1 C.2.1 (f := f) ⟨C.2.2.2.2.1, C.2.2.2.2.2.1 _ hl, ⟨_, _, _, hfi⟩, hst⟩ (by rw [q2]; exact h6) q1 q3 (by rw [hsl]; exact k2_hasslot (q4 i hk)) rfl rfl hd fun H' e1 e2 e3 => ?_
  rw [hsl] at e1 ⊢
  exact k _ _ _ _ _ _ _ _ _ _ _ _ _ ls C (rk_At_set (e := .inr (ci, (rk_fs G.1 S I J R o).set i (rk_v G.1 (.ref q)))) C.2.2.2.2.2.2.2.2.2.2.2.2.1 h1 hob ⟨_, hc, t_OB.to (V := updV (vp_V (rk_fs G.1 S I J R o)) i _) ⟨_, e1, q2, q3, t_set q4 hap hk _⟩ (fun j _ => vp_updV_set (by rw [rk_fs_len hS]; exact hi) _ j)⟩ e2 e3 hcell ho) (h2.put e2 e3 hA) h3 h4
theorem AW_putRF {ix ci i o N : Nat} {q : Nat} {cn : String} (hd : decode cc pc = .ok (.putfield ix, 3)) (hF : rk_fl y.cls ix ci i true) (hs : rk_ty ci i = .object cn) (hS : S o = (ci, N)) (hi : i < N) (hmn : y.name = "<init>") (hcl : rk_cn ci = y.cls)  (k : AW G l y cc ml rt d kc ks (pc + 3) (lv) (st) n S I J (rk_ur R o i (some q)) Q) :
    AW G l y cc ml rt d kc ks (pc) (lv) (.ref q :: .ref o :: st) n S I J R Q := by
  intro p e Rm s m args below meth c H locs cells slots ls C h1 h2 h3 h4
  obtain ⟨Cn, T, M, hc, hk, hin, hty, hnm, hfin, hdl, hl⟩ := hF
  have hcell : rk_cell G S I J (rk_ur R o i (some q)) o = .inr (ci, (rk_fs G.1 S I J R o).set i (rk_v G.1 (.ref q))) := by
    rw [rk_cell_obj hS (rk_lt20 hc), rk_fs_set (I := I) (J := J) (R := R) (v := rk_v G.1 (.ref q)) hS hi (by rw [hs]; simp [rk_sort, rk_fv, rk_ui, rk_uj, rk_ur, rk_v, va_rf]) (fun j hj => ⟨rfl, rfl, by simp [rk_ur, hj]⟩)]
  have ho : ∀ j, j ≠ o → (I) j = I j ∧ (J) j = J j ∧ ((rk_ur R o i (some q))) j = R j := fun j hj => ⟨rfl, rfl, rk_ur_o hj⟩
  have hob := rk_obj h1 hS (rk_lt20 hc)
  have hA : rk_A G (G.1 o) := (rk_D_ok (S := S) (I := I) (J := J) (R := R) C.2.2.2.2.2.2.2.2.2.2.2.2.1 h1.2.2.1).2 o _ hob
  have hap := va_apart (own := y.cls) C.2.2.2.2.2.1 hin (rk_ty ci) hty hnm C.2.2.2.2.2.2.2.1 hc
  obtain ⟨rr, g1, cell, q1, q2, q3, q4⟩ := h1.1 o _ hob
  have hr : rr = (Cn, T, M) := Option.some.inj (g1.symm.trans hc)
  subst hr
  obtain ⟨hSl, hfc, kC, hkC, hkind⟩ := C.2.2.2.2.2.2.2.1.1 ci _ hc
  obtain ⟨cf, kf, fi, f, hfi, hsl⟩ := hSl i hk
  have hlay := C.2.2.2.2.2.1 _ (hin _ (u_in_lay hk))
  unfold u_lay at hlay
  rw [if_pos hfin] at hlay
  have hst := (u_facts hfc hkC (u_lays C.2.2.2.2.2.1 hin hk) hfi).1
  have hCn : Cn = y.cls := by rw [← hcl, rk_cn, hc]
  have hcf : m.cls = cf := by
    obtain ⟨_, _, c', _, _, _, -, -, hf', -, -, -, hown2, -⟩ := Cond.laysFinal_spec hlay
    have e1 : c' = cf := by
      have := hfi.symm.trans hf'
      simp at this
      exact this.1.symm
    rw [hdl, hCn] at hown2
    rw [← e1]
    exact Option.some.inj (C.2.2.2.2.1.symm.trans hown2)
  have h6 := u_fits hfc hkC hkind (Or.inr hlay) hfi (v := rk_v G.1 (.ref q)) (hty i hk) (by rw [hs]; rfl) (by rw [hs]; rfl)
  refine W.putFinK C.1 C.2.1 C.2.2.2.2.1 (C.2.2.2.2.2.1 _ hl) hfi hst hcf (C.2.2.2.2.2.2.2.2.2.1.trans hmn) (by rw [q2]; exact h6) q1 q3 (by rw [hsl]; exact k2_hasslot (q4 i hk)) rfl rfl hd fun H' e1 e2 e3 => ?_
  rw [hsl] at e1 ⊢
  exact k _ _ _ _ _ _ _ _ _ _ _ _ _ ls C (rk_At_set (e := .inr (ci, (rk_fs G.1 S I J R o).set i (rk_v G.1 (.ref q)))) C.2.2.2.2.2.2.2.2.2.2.2.2.1 h1 hob ⟨_, hc, t_OB.to (V := updV (vp_V (rk_fs G.1 S I J R o)) i _) ⟨_, e1, q2, q3, t_set q4 hap hk _⟩ (fun j _ => vp_updV_set (by rw [rk_fs_len hS]; exact hi) _ j)⟩ e2 e3 hcell ho) (h2.put e2 e3 hA) h3 h4
theorem AW_putRA {ix ci i o N : Nat} {q : Nat} {cn : FieldType} (hd : decode cc pc = .ok (.putfield ix, 3)) (hF : rk_fl y.cls ix ci i false) (hs : rk_ty ci i = .array cn) (hS : S o = (ci, N)) (hi : i < N)  (k : AW G l y cc ml rt d kc ks (pc + 3) (lv) (st) n S I J (rk_ur R o i (some q)) Q) :
    AW G l y cc ml rt d kc ks (pc) (lv) (.ref q :: .ref o :: st) n S I J R Q := by
  intro p e Rm s m args below meth c H locs cells slots ls C h1 h2 h3 h4
  obtain ⟨Cn, T, M, hc, hk, hin, hty, hnm, hfin, hdl, hl⟩ := hF
  have hcell : rk_cell G S I J (rk_ur R o i (some q)) o = .inr (ci, (rk_fs G.1 S I J R o).set i (rk_v G.1 (.ref q))) := by
    rw [rk_cell_obj hS (rk_lt20 hc), rk_fs_set (I := I) (J := J) (R := R) (v := rk_v G.1 (.ref q)) hS hi (by rw [hs]; simp [rk_sort, rk_fv, rk_ui, rk_uj, rk_ur, rk_v, va_rf]) (fun j hj => ⟨rfl, rfl, by simp [rk_ur, hj]⟩)]
  have ho : ∀ j, j ≠ o → (I) j = I j ∧ (J) j = J j ∧ ((rk_ur R o i (some q))) j = R j := fun j hj => ⟨rfl, rfl, rk_ur_o hj⟩
  have hob := rk_obj h1 hS (rk_lt20 hc)
  have hA : rk_A G (G.1 o) := (rk_D_ok (S := S) (I := I) (J := J) (R := R) C.2.2.2.2.2.2.2.2.2.2.2.2.1 h1.2.2.1).2 o _ hob
  have hap := va_apart (own := y.cls) C.2.2.2.2.2.1 hin (rk_ty ci) hty hnm C.2.2.2.2.2.2.2.1 hc
  obtain ⟨rr, g1, cell, q1, q2, q3, q4⟩ := h1.1 o _ hob
  have hr : rr = (Cn, T, M) := Option.some.inj (g1.symm.trans hc)
  subst hr
  obtain ⟨hSl, hfc, kC, hkC, hkind⟩ := C.2.2.2.2.2.2.2.1.1 ci _ hc
  obtain ⟨cf, kf, fi, f, hfi, hsl⟩ := hSl i hk
  have hlay := C.2.2.2.2.2.1 _ (hin _ (u_in_lay hk))
  unfold u_lay at hlay
  rw [if_neg (by rw [hfin]; decide)] at hlay
  have hst := (u_facts hfc hkC (u_lays C.2.2.2.2.2.1 hin hk) hfi).1
  have h6 := u_store hfc hkC hkind hlay hfi (v := rk_v G.1 (.ref q)) (hty i hk) (by rw [hs]; rfl) (by rw [hs]; rfl)
  refine W.putK C.1 C.2.1 (f := f) ⟨C.2.2.2.2.1, C.2.2.2.2.2.1 _ hl, ⟨_, _, _, hfi⟩, hst⟩ (by rw [q2]; exact h6) q1 q3 (by rw [hsl]; exact k2_hasslot (q4 i hk)) rfl rfl hd fun H' e1 e2 e3 => ?_
  rw [hsl] at e1 ⊢
  exact k _ _ _ _ _ _ _ _ _ _ _ _ _ ls C (rk_At_set (e := .inr (ci, (rk_fs G.1 S I J R o).set i (rk_v G.1 (.ref q)))) C.2.2.2.2.2.2.2.2.2.2.2.2.1 h1 hob ⟨_, hc, t_OB.to (V := updV (vp_V (rk_fs G.1 S I J R o)) i _) ⟨_, e1, q2, q3, t_set q4 hap hk _⟩ (fun j _ => vp_updV_set (by rw [rk_fs_len hS]; exact hi) _ j)⟩ e2 e3 hcell ho) (h2.put e2 e3 hA) h3 h4
theorem AW_putRAF {ix ci i o N : Nat} {q : Nat} {cn : FieldType} (hd : decode cc pc = .ok (.putfield ix, 3)) (hF : rk_fl y.cls ix ci i true) (hs : rk_ty ci i = .array cn) (hS : S o = (ci, N)) (hi : i < N) (hmn : y.name = "<init>") (hcl : rk_cn ci = y.cls)  (k : AW G l y cc ml rt d kc ks (pc + 3) (lv) (st) n S I J (rk_ur R o i (some q)) Q) :
    AW G l y cc ml rt d kc ks (pc) (lv) (.ref q :: .ref o :: st) n S I J R Q := by
  intro p e Rm s m args below meth c H locs cells slots ls C h1 h2 h3 h4
  obtain ⟨Cn, T, M, hc, hk, hin, hty, hnm, hfin, hdl, hl⟩ := hF
  have hcell : rk_cell G S I J (rk_ur R o i (some q)) o = .inr (ci, (rk_fs G.1 S I J R o).set i (rk_v G.1 (.ref q))) := by
    rw [rk_cell_obj hS (rk_lt20 hc), rk_fs_set (I := I) (J := J) (R := R) (v := rk_v G.1 (.ref q)) hS hi (by rw [hs]; simp [rk_sort, rk_fv, rk_ui, rk_uj, rk_ur, rk_v, va_rf]) (fun j hj => ⟨rfl, rfl, by simp [rk_ur, hj]⟩)]
  have ho : ∀ j, j ≠ o → (I) j = I j ∧ (J) j = J j ∧ ((rk_ur R o i (some q))) j = R j := fun j hj => ⟨rfl, rfl, rk_ur_o hj⟩
  have hob := rk_obj h1 hS (rk_lt20 hc)
  have hA : rk_A G (G.1 o) := (rk_D_ok (S := S) (I := I) (J := J) (R := R) C.2.2.2.2.2.2.2.2.2.2.2.2.1 h1.2.2.1).2 o _ hob
  have hap := va_apart (own := y.cls) C.2.2.2.2.2.1 hin (rk_ty ci) hty hnm C.2.2.2.2.2.2.2.1 hc
  obtain ⟨rr, g1, cell, q1, q2, q3, q4⟩ := h1.1 o _ hob
  have hr : rr = (Cn, T, M) := Option.some.inj (g1.symm.trans hc)
  subst hr
  obtain ⟨hSl, hfc, kC, hkC, hkind⟩ := C.2.2.2.2.2.2.2.1.1 ci _ hc
  obtain ⟨cf, kf, fi, f, hfi, hsl⟩ := hSl i hk
  have hlay := C.2.2.2.2.2.1 _ (hin _ (u_in_lay hk))
  unfold u_lay at hlay
  rw [if_pos hfin] at hlay
  have hst := (u_facts hfc hkC (u_lays C.2.2.2.2.2.1 hin hk) hfi).1
  have hCn : Cn = y.cls := by rw [← hcl, rk_cn, hc]
  have hcf : m.cls = cf := by
    obtain ⟨_, _, c', _, _, _, -, -, hf', -, -, -, hown2, -⟩ := Cond.laysFinal_spec hlay
    have e1 : c' = cf := by
      have := hfi.symm.trans hf'
      simp at this
      exact this.1.symm
    rw [hdl, hCn] at hown2
    rw [← e1]
    exact Option.some.inj (C.2.2.2.2.1.symm.trans hown2)
  have h6 := u_fits hfc hkC hkind (Or.inr hlay) hfi (v := rk_v G.1 (.ref q)) (hty i hk) (by rw [hs]; rfl) (by rw [hs]; rfl)
  refine W.putFinK C.1 C.2.1 C.2.2.2.2.1 (C.2.2.2.2.2.1 _ hl) hfi hst hcf (C.2.2.2.2.2.2.2.2.2.1.trans hmn) (by rw [q2]; exact h6) q1 q3 (by rw [hsl]; exact k2_hasslot (q4 i hk)) rfl rfl hd fun H' e1 e2 e3 => ?_
  rw [hsl] at e1 ⊢
  exact k _ _ _ _ _ _ _ _ _ _ _ _ _ ls C (rk_At_set (e := .inr (ci, (rk_fs G.1 S I J R o).set i (rk_v G.1 (.ref q)))) C.2.2.2.2.2.2.2.2.2.2.2.2.1 h1 hob ⟨_, hc, t_OB.to (V := updV (vp_V (rk_fs G.1 S I J R o)) i _) ⟨_, e1, q2, q3, t_set q4 hap hk _⟩ (fun j _ => vp_updV_set (by rw [rk_fs_len hS]; exact hi) _ j)⟩ e2 e3 hcell ho) (h2.put e2 e3 hA) h3 h4
theorem AW_putRN {ix ci i o N : Nat} {cn : String} (hd : decode cc pc = .ok (.putfield ix, 3)) (hF : rk_fl y.cls ix ci i false) (hs : rk_ty ci i = .object cn) (hS : S o = (ci, N)) (hi : i < N)  (k : AW G l y cc ml rt d kc ks (pc + 3) (lv) (st) n S I J (rk_ur R o i none) Q) :
    AW G l y cc ml rt d kc ks (pc) (lv) (.null :: .ref o :: st) n S I J R Q := by
  intro p e Rm s m args below meth c H locs cells slots ls C h1 h2 h3 h4
  obtain ⟨Cn, T, M, hc, hk, hin, hty, hnm, hfin, hdl, hl⟩ := hF
  have hcell : rk_cell G S I J (rk_ur R o i none) o = .inr (ci, (rk_fs G.1 S I J R o).set i (rk_v G.1 (.null))) := by
    rw [rk_cell_obj hS (rk_lt20 hc), rk_fs_set (I := I) (J := J) (R := R) (v := rk_v G.1 (.null)) hS hi (by rw [hs]; simp [rk_sort, rk_fv, rk_ui, rk_uj, rk_ur, rk_v, va_rf]) (fun j hj => ⟨rfl, rfl, by simp [rk_ur, hj]⟩)]
  have ho : ∀ j, j ≠ o → (I) j = I j ∧ (J) j = J j ∧ ((rk_ur R o i none)) j = R j := fun j hj => ⟨rfl, rfl, rk_ur_o hj⟩
  have hob := rk_obj h1 hS (rk_lt20 hc)
  have hA : rk_A G (G.1 o) := (rk_D_ok (S := S) (I := I) (J := J) (R := R) C.2.2.2.2.2.2.2.2.2.2.2.2.1 h1.2.2.1).2 o _ hob
  have hap := va_apart (own := y.cls) C.2.2.2.2.2.1 hin (rk_ty ci) hty hnm C.2.2.2.2.2.2.2.1 hc
  obtain ⟨rr, g1, cell, q1, q2, q3, q4⟩ := h1.1 o _ hob
  have hr : rr = (Cn, T, M) := Option.some.inj (g1.symm.trans hc)
  subst hr
  obtain ⟨hSl, hfc, kC, hkC, hkind⟩ := C.2.2.2.2.2.2.2.1.1 ci _ hc
  obtain ⟨cf, kf, fi, f, hfi, hsl⟩ := hSl i hk
  have hlay := C.2.2.2.2.2.1 _ (hin _ (u_in_lay hk))
  unfold u_lay at hlay
  rw [if_neg (by rw [hfin]; decide)] at hlay
  have hst := (u_facts hfc hkC (u_lays C.2.2.2.2.2.1 hin hk) hfi).1
  have h6 := u_store hfc hkC hkind hlay hfi (v := rk_v G.1 (.null)) (hty i hk) (by rw [hs]; rfl) (by rw [hs]; rfl)
  refine W.putK C.1 C.2.1 (f := f) ⟨C.2.2.2.2.1, C.2.2.2.2.2.1 _ hl, ⟨_, _, _, hfi⟩, hst⟩ (by rw [q2]; exact h6) q1 q3 (by rw [hsl]; exact k2_hasslot (q4 i hk)) rfl rfl hd fun H' e1 e2 e3 => ?_
  rw [hsl] at e1 ⊢
  exact k _ _ _ _ _ _ _ _ _ _ _ _ _ ls C (rk_At_set (e := .inr (ci, (rk_fs G.1 S I J R o).set i (rk_v G.1 (.null)))) C.2.2.2.2.2.2.2.2.2.2.2.2.1 h1 hob ⟨_, hc, t_OB.to (V := updV (vp_V (rk_fs G.1 S I J R o)) i _) ⟨_, e1, q2, q3, t_set q4 hap hk _⟩ (fun j _ => vp_updV_set (by rw [rk_fs_len hS]; exact hi) _ j)⟩ e2 e3 hcell ho) (h2.put e2 e3 hA) h3 h4
theorem AW_putRNF {ix ci i o N : Nat} {cn : String} (hd : decode cc pc = .ok (.putfield ix, 3)) (hF : rk_fl y.cls ix ci i true) (hs : rk_ty ci i = .object cn) (hS : S o = (ci, N)) (hi : i < N) (hmn : y.name = "<init>") (hcl : rk_cn ci = y.cls)  (k : AW G l y cc ml rt d kc ks (pc + 3) (lv) (st) n S I J (rk_ur R o i none) Q) :
    AW G l y cc ml rt d kc ks (pc) (lv) (.null :: .ref o :: st) n S I J R Q := by
  intro p e Rm s m args below meth c H locs cells slots ls C h1 h2 h3 h4
  obtain ⟨Cn, T, M, hc, hk, hin, hty, hnm, hfin, hdl, hl⟩ := hF
  have hcell : rk_cell G S I J (rk_ur R o i none) o = .inr (ci, (rk_fs G.1 S I J R o).set i (rk_v G.1 (.null))) := by
    rw [rk_cell_obj hS (rk_lt20 hc), rk_fs_set (I := I) (J := J) (R := R) (v := rk_v G.1 (.null)) hS hi (by rw [hs]; simp [rk_sort, rk_fv, rk_ui, rk_uj, rk_ur, rk_v, va_rf]) (fun j hj => ⟨rfl, rfl, by simp [rk_ur, hj]⟩)]
  have ho : ∀ j, j ≠ o → (I) j = I j ∧ (J) j = J j ∧ ((rk_ur R o i none)) j = R j := fun j hj => ⟨rfl, rfl, rk_ur_o hj⟩
  have hob := rk_obj h1 hS (rk_lt20 hc)
  have hA : rk_A G (G.1 o) := (rk_D_ok (S := S) (I := I) (J := J) (R := R) C.2.2.2.2.2.2.2.2.2.2.2.2.1 h1.2.2.1).2 o _ hob
  have hap := va_apart (own := y.cls) C.2.2.2.2.2.1 hin (rk_ty ci) hty hnm C.2.2.2.2.2.2.2.1 hc
  obtain ⟨rr, g1, cell, q1, q2, q3, q4⟩ := h1.1 o _ hob
  have hr : rr = (Cn, T, M) := Option.some.inj (g1.symm.trans hc)
  subst hr
  obtain ⟨hSl, hfc, kC, hkC, hkind⟩ := C.2.2.2.2.2.2.2.1.1 ci _ hc
  obtain ⟨cf, kf, fi, f, hfi, hsl⟩ := hSl i hk
  have hlay := C.2.2.2.2.2.1 _ (hin _ (u_in_lay hk))
  unfold u_lay at hlay
  rw [if_pos hfin] at hlay
  have hst := (u_facts hfc hkC (u_lays C.2.2.2.2.2.1 hin hk) hfi).1
  have hCn : Cn = y.cls := by rw [← hcl, rk_cn, hc]
  have hcf : m.cls = cf := by
    obtain ⟨_, _, c', _, _, _, -, -, hf', -, -, -, hown2, -⟩ := Cond.laysFinal_spec hlay
    have e1 : c' = cf := by
      have := hfi.symm.trans hf'
      simp at this
      exact this.1.symm
    rw [hdl, hCn] at hown2
    rw [← e1]
    exact Option.some.inj (C.2.2.2.2.1.symm.trans hown2)
  have h6 := u_fits hfc hkC hkind (Or.inr hlay) hfi (v := rk_v G.1 (.null)) (hty i hk) (by rw [hs]; rfl) (by rw [hs]; rfl)
  refine W.putFinK C.1 C.2.1 C.2.2.2.2.1 (C.2.2.2.2.2.1 _ hl) hfi hst hcf (C.2.2.2.2.2.2.2.2.2.1.trans hmn) (by rw [q2]; exact h6) q1 q3 (by rw [hsl]; exact k2_hasslot (q4 i hk)) rfl rfl hd fun H' e1 e2 e3 => ?_
  rw [hsl] at e1 ⊢
  exact k _ _ _ _ _ _ _ _ _ _ _ _ _ ls C (rk_At_set (e := .inr (ci, (rk_fs G.1 S I J R o).set i (rk_v G.1 (.null)))) C.2.2.2.2.2.2.2.2.2.2.2.2.1 h1 hob ⟨_, hc, t_OB.to (V := updV (vp_V (rk_fs G.1 S I J R o)) i _) ⟨_, e1, q2, q3, t_set q4 hap hk _⟩ (fun j _ => vp_updV_set (by rw [rk_fs_len hS]; exact hi) _ j)⟩ e2 e3 hcell ho) (h2.put e2 e3 hA) h3 h4
theorem AW_iald {o N : Nat} {i : Int32} (hd : decode cc pc = .ok (.iaload, 1)) (hS : S o = (20, N)) (hin : vp_in i N) (k : AW G l y cc ml rt d kc ks (pc + 1) (lv) (.int (I o i.toNatClampNeg) :: st) n S I J R Q) :
    AW G l y cc ml rt d kc ks (pc) (lv) (.int i :: .ref o :: st) n S I J R Q := by
  intro p e Rm s m args below meth c H locs cells slots ls C h1 h2 h3 h4
  exact va_iald C.1 C.2.1 C.2.2.2.2.2.2.2.1 h1.1 o 0 (rk_row h1 hS (by omega) (by omega)) rfl hin hd (k _ _ _ _ _ _ _ _ _ _ _ _ _ ls C h1 h2 h3 h4)
theorem AW_zald {o N : Nat} {i : Int32} (hd : decode cc pc = .ok (.baload, 1)) (hS : S o = (21, N)) (hin : vp_in i N) (k : AW G l y cc ml rt d kc ks (pc + 1) (lv) (.int (I o i.toNatClampNeg) :: st) n S I J R Q) :
    AW G l y cc ml rt d kc ks (pc) (lv) (.int i :: .ref o :: st) n S I J R Q := by
  intro p e Rm s m args below meth c H locs cells slots ls C h1 h2 h3 h4
  exact va_zald C.1 C.2.1 C.2.2.2.2.2.2.2.1 h1.1 o 1 (rk_row h1 hS (by omega) (by omega)) rfl hin hd (k _ _ _ _ _ _ _ _ _ _ _ _ _ ls C h1 h2 h3 h4)
theorem AW_iast {o N : Nat} {i x : Int32} (hd : decode cc pc = .ok (.iastore, 1)) (hS : S o = (20, N)) (hin : vp_in i N)  (k : AW G l y cc ml rt d kc ks (pc + 1) (lv) (st) n S (rk_ui I o i.toNatClampNeg x) J R Q) :
    AW G l y cc ml rt d kc ks (pc) (lv) (.int x :: .int i :: .ref o :: st) n S I J R Q := by
  intro p e Rm s m args below meth c H locs cells slots ls C h1 h2 h3 h4
  have hob := rk_row h1 hS (by omega) (by omega)
  have hA : rk_A G (G.1 o) := (rk_D_ok (S := S) (I := I) (J := J) (R := R) C.2.2.2.2.2.2.2.2.2.2.2.2.1 h1.2.2.1).2 o _ hob
  refine W.iast C.1 C.2.1 (h1.1 o _ hob) ((C.2.2.2.2.2.2.2.1.2 0 _ rfl).1 N (fun j => .int (I o j))) (fun q => by cases q) (by show ¬ (i < 0 ∨ (arrV _ _ _).slots.size ≤ _); rw [arrV_size]; exact hin) rfl rfl hd fun H' e1 e2 e3 => ?_
  refine k _ _ _ _ _ _ _ _ _ _ _ _ _ ls C (rk_At_set (e := .inl (G.2.2.2.2.1 20, N, .inl (upd (I o) i.toNatClampNeg x))) C.2.2.2.2.2.2.2.2.2.2.2.2.1 h1 hob ?_ e2 e3 ?_ (fun j hj => ⟨rk_ui_o hj, rfl, rfl⟩)) (h2.put e2 e3 hA) h3 h4
  · show H'[G.1 o]? = some (vp_cell _ _)
    rw [e1]
    rw [vp_cell_i, vp_cell_i, arrV_store]
    congr 2
    funext q
    by_cases hq : q = i.toNatClampNeg
    · simp [updV, upd, hq]
    · simp [updV, upd, hq]
  · rw [rk_cell_row hS (by omega) (by omega), rk_ui_at]
theorem AW_zast {o N : Nat} {i x : Int32} (hd : decode cc pc = .ok (.bastore, 1)) (hS : S o = (21, N)) (hin : vp_in i N) (hx : narrow .boolean (.int x) = .int x) (k : AW G l y cc ml rt d kc ks (pc + 1) (lv) (st) n S (rk_ui I o i.toNatClampNeg x) J R Q) :
    AW G l y cc ml rt d kc ks (pc) (lv) (.int x :: .int i :: .ref o :: st) n S I J R Q := by
  intro p e Rm s m args below meth c H locs cells slots ls C h1 h2 h3 h4
  have hob := rk_row h1 hS (by omega) (by omega)
  have hA : rk_A G (G.1 o) := (rk_D_ok (S := S) (I := I) (J := J) (R := R) C.2.2.2.2.2.2.2.2.2.2.2.2.1 h1.2.2.1).2 o _ hob
  refine W.zast C.1 C.2.1 (h1.1 o _ hob) ((C.2.2.2.2.2.2.2.1.2 1 _ rfl).1 N (fun j => .int (I o j))) (fun q => by cases q) (by show ¬ (i < 0 ∨ (arrV _ _ _).slots.size ≤ _); rw [arrV_size]; exact hin) rfl rfl hd fun H' e1 e2 e3 => ?_
  refine k _ _ _ _ _ _ _ _ _ _ _ _ _ ls C (rk_At_set (e := .inl (G.2.2.2.2.1 21, N, .inl (upd (I o) i.toNatClampNeg x))) C.2.2.2.2.2.2.2.2.2.2.2.2.1 h1 hob ?_ e2 e3 ?_ (fun j hj => ⟨rk_ui_o hj, rfl, rfl⟩)) (h2.put e2 e3 hA) h3 h4
  · show H'[G.1 o]? = some (vp_cell _ _)
    rw [e1, hx]
    rw [vp_cell_i, vp_cell_i, arrV_store]
    congr 2
    funext q
    by_cases hq : q = i.toNatClampNeg
    · simp [updV, upd, hq]
    · simp [updV, upd, hq]
  · rw [rk_cell_row hS (by omega) (by omega), rk_ui_at]
theorem AW_aald {o t N : Nat} {i : Int32} {q : Nat} (hd : decode cc pc = .ok (.aaload, 1)) (hS : S o = (t, N)) (ht : 22 ≤ t ∧ t < 26) (hin : vp_in i N) (hR : R o i.toNatClampNeg = some q) (k : AW G l y cc ml rt d kc ks (pc + 1) (lv) (.ref q :: st) n S I J R Q) :
    AW G l y cc ml rt d kc ks (pc) (lv) (.int i :: .ref o :: st) n S I J R Q := by
  intro p e Rm s m args below meth c H locs cells slots ls C h1 h2 h3 h4
  have hob := rk_rowq h1 hS ht.1 (by omega)
  have hv : va_rf ((fun i => (R o i).map G.1) i.toNatClampNeg) = rk_v G.1 (.ref q) := by show va_rf ((R o i.toNatClampNeg).map G.1) = _; rw [hR]; rfl
  obtain ⟨Cn, hty⟩ : ∃ Cn, (rk_tys G)[t - 20]? = some (G.2.2.2.2.1 t, .object Cn) := by
    rcases (show t = 22 ∨ t = 23 ∨ t = 24 ∨ t = 25 by omega) with rfl | rfl | rfl | rfl <;> exact ⟨_, rfl⟩
  refine va_aldq C.1 C.2.1 C.2.2.2.2.2.2.2.1 h1.1 o (t - 20) hob hty hin hd ?_
  rw [hv]
  exact (k _ _ _ _ _ _ _ _ _ _ _ _ _ ls C h1 h2 h3 h4)
theorem AW_aaldN {o t N : Nat} {i : Int32}  (hd : decode cc pc = .ok (.aaload, 1)) (hS : S o = (t, N)) (ht : 22 ≤ t ∧ t < 26) (hin : vp_in i N) (hR : R o i.toNatClampNeg = none) (k : AW G l y cc ml rt d kc ks (pc + 1) (lv) (.null :: st) n S I J R Q) :
    AW G l y cc ml rt d kc ks (pc) (lv) (.int i :: .ref o :: st) n S I J R Q := by
  intro p e Rm s m args below meth c H locs cells slots ls C h1 h2 h3 h4
  have hob := rk_rowq h1 hS ht.1 (by omega)
  have hv : va_rf ((fun i => (R o i).map G.1) i.toNatClampNeg) = rk_v G.1 (.null) := by show va_rf ((R o i.toNatClampNeg).map G.1) = _; rw [hR]; rfl
  obtain ⟨Cn, hty⟩ : ∃ Cn, (rk_tys G)[t - 20]? = some (G.2.2.2.2.1 t, .object Cn) := by
    rcases (show t = 22 ∨ t = 23 ∨ t = 24 ∨ t = 25 by omega) with rfl | rfl | rfl | rfl <;> exact ⟨_, rfl⟩
  refine va_aldq C.1 C.2.1 C.2.2.2.2.2.2.2.1 h1.1 o (t - 20) hob hty hin hd ?_
  rw [hv]
  exact (k _ _ _ _ _ _ _ _ _ _ _ _ _ ls C h1 h2 h3 h4)
theorem AW_aast {o t N v ci M : Nat} {i : Int32} (hd : decode cc pc = .ok (.aastore, 1)) (hS : S o = (t, N)) (ht : (t, ci) = (22, 0) ∨ (t, ci) = (23, 5) ∨ (t, ci) = (24, 7) ∨ (t, ci) = (25, 6)) (hv : S v = (ci, M)) (hin : vp_in i N) (k : AW G l y cc ml rt d kc ks (pc + 1) (lv) (st) n S I J (rk_ur R o i.toNatClampNeg (some v)) Q) :
    AW G l y cc ml rt d kc ks (pc) (lv) (.ref v :: .int i :: .ref o :: st) n S I J R Q := by
  intro p e Rm s m args below meth c H locs cells slots ls C h1 h2 h3 h4
  have ht2 : 22 ≤ t ∧ t < 26 ∧ ci < 20 := by
    rcases ht with h | h | h | h <;> cases h <;> omega
  have hob := rk_rowq h1 hS ht2.1 (by omega)
  have hvb := rk_obj h1 hv ht2.2.2
  have hA : rk_A G (G.1 o) := (rk_D_ok (S := S) (I := I) (J := J) (R := R) C.2.2.2.2.2.2.2.2.2.2.2.2.1 h1.2.2.1).2 o _ hob
  obtain ⟨r, hc, hty⟩ : ∃ r : vw_C, vwCl[ci]? = some r ∧ (rk_tys G)[t - 20]? = some (G.2.2.2.2.1 t, .object r.1) := by
    rcases ht with h | h | h | h <;> cases h <;> exact ⟨_, rfl, rfl⟩
  have hlt : i.toNatClampNeg < N := Nat.not_le.mp fun q => hin (Or.inr q)
  have h0 : ¬ i < 0 := fun q => hin (Or.inl q)
  obtain ⟨r', hr', cellV, g1, g2, g3, -⟩ := h1.1 v _ hvb
  have hcls := (C.2.2.2.2.2.2.2.1.1 ci r hc).2
  obtain ⟨kA, comp, k1, k2, k3, -⟩ := (C.2.2.2.2.2.2.2.1.2 (t - 20) _ hty).2
  have hcomp : comp = (rk_D G).1 ci := Option.some.inj (k3.symm.trans hcls.1)
  subst hcomp
  obtain ⟨kC, hkC, -⟩ := hcls.2
  refine W.aast C.1 C.2.1 (h1.1 o _ hob) (fun q h => by cases h) (fun h => by cases h) k1 k2 rfl hkC ⟨h0, by show _ < (arrV _ _ _).slots.size; rw [arrV_size]; exact hlt⟩ g1 (fun q h => by rw [g3] at h; cases h) (by rw [g2]; exact hkC) (by rw [g2]; exact va_assign hcls) rfl rfl hd fun H' e1 e2 e3 => ?_
  refine k _ _ _ _ _ _ _ _ _ _ _ _ _ ls C (rk_At_set (e := .inl (G.2.2.2.2.1 t, N, .inr (.inr (.inr (.inr (va_up (fun i => (R o i).map G.1) i.toNatClampNeg (some (G.1 v)))))))) C.2.2.2.2.2.2.2.2.2.2.2.2.1 h1 hob ?_ e2 e3 ?_ (fun j hj => ⟨rfl, rfl, rk_ur_o hj⟩)) (h2.put e2 e3 hA) h3 h4
  · show H'[G.1 o]? = some (vp_cell _ _)
    rw [e1]
    rw [vp_cell_q, vp_cell_q, arrV_store]
    congr 2
    funext q
    by_cases hq : q = i.toNatClampNeg
    · simp [updV, va_up, va_rf, hq]
    · simp [updV, va_up, hq]
  · rw [rk_cell_rowq hS ht2.1]
    congr 7
    funext a
    by_cases ha : a = i.toNatClampNeg
    · simp [rk_ur, va_up, ha]
    · simp [rk_ur, va_up, ha]
theorem AW_alen {o t N : Nat} {v : Int32} (hd : decode cc pc = .ok (.arraylength, 1)) (hS : S o = (t, N)) (ht : t = 20) (hv : Int32.ofNat N = v) (k : AW G l y cc ml rt d kc ks (pc + 1) (lv) (.int v :: st) n S I J R Q) :
    AW G l y cc ml rt d kc ks (pc) (lv) (.ref o :: st) n S I J R Q := by
  intro p e Rm s m args below meth c H locs cells slots ls C h1 h2 h3 h4
  subst ht
  exact va_alen C.1 C.2.1 C.2.2.2.2.2.2.2.1 h1.1 o 0 (rk_row h1 hS (by omega) (by omega)) rfl hv hd (k _ _ _ _ _ _ _ _ _ _ _ _ _ ls C h1 h2 h3 h4)
def rk_sh (S : rk_Sh) (n : Nat) (t N : Nat) : rk_Sh := fun k => if k = n then (t, N) else S k
def rk_zi (I : rk_I) (n : Nat) : rk_I := fun k => if k = n then (fun _ => 0) else I k
def rk_zj (J : rk_J) (n : Nat) : rk_J := fun k => if k = n then (fun _ => 0) else J k
def rk_zr (R : rk_R) (n : Nat) : rk_R := fun k => if k = n then (fun _ => none) else R k
theorem rk_new_o {S : rk_Sh} {I : rk_I} {J : rk_J} {R : rk_R} {n t N : Nat} : ∀ j, j < n → rk_sh S n t N j = S j ∧ rk_zi I n j = I j ∧ rk_zj J n j = J j ∧ rk_zr R n j = R j := fun j hj => by
  have : j ≠ n := by omega
  simp [rk_sh, rk_zi, rk_zj, rk_zr, this]
theorem rk_new_99 {S : rk_Sh} {n t N : Nat} (h : ∀ k, n ≤ k → (S k).1 = 99) : ∀ k, n + 1 ≤ k → (rk_sh S n t N k).1 = 99 := fun k hk => by
  have : k ≠ n := by omega
  simp only [rk_sh, if_neg this]
  exact h k (by omega)
theorem rk_S_push {A : Nat → Prop} {H0 H H1 : Heap} {locs : List Loc} (h : va_S A H0 H locs) (hz : H1.size = H.size + 1) (ho : ∀ q : Nat, q < H.size → H1[q]? = H[q]?) : va_S A H0 H1 locs :=
  ⟨Nat.le_trans h.1 (by omega), fun x h1 h2 => (ho x (Nat.lt_of_lt_of_le h1 h.1)).trans (h.2.1 x h1 h2), h.2.2⟩
theorem rk_W_budget {p : Program} {l : Launch} {e : Env} {R : Room} {s : State} {m : MethodId} {args : Array Value} {below : List Frame} {meth : Method} {c : Code} {H : Heap} {locs : List Loc} {cells slots a b a' b' : Nat} {Qc : Array Value → State → Outcome → State → Prop} {A : Nat → Prop} {g : JFrame} (ha : a = a') (hb : b = b') (h : W p l e R s m args below meth c H locs cells slots (MQ below Qc args s a b A) g) : W p l e R s m args below meth c H locs cells slots (MQ below Qc args s a' b' A) g := by
  subst ha; subst hb; exact h
theorem AW_new {ix ci N : Nat} (hd : decode cc pc = .ok (.new ix, 3)) (hF : rk_cl y.cls ix ci N) (hn : n < 900000) (k : AW G l y cc ml rt d kc ks (pc + 3) (lv) (.ref n :: st) (n + 1) (rk_sh S n ci N) (rk_zi I n) (rk_zj J n) (rk_zr R n) Q) :
    AW G l y cc ml rt d (kc + 1) (ks + N) (pc) (lv) (st) n S I J R Q := by
  intro p e Rm s m args below meth c H locs cells slots ls C h1 h2 h3 h4
  obtain ⟨Cn, T, hc, hin, hty, hdf, hcl, hins, hini⟩ := hF
  obtain ⟨hSl, hfc, kC', hkC', hkind⟩ := C.2.2.2.2.2.2.2.1.1 ci _ hc
  refine W.newcK C.1 C.2.1 C.2.2.2.2.1 (C.2.2.2.2.2.1 _ hcl) (C.2.2.2.2.2.1 _ hins) (C.2.2.2.2.2.1 _ hini) rfl hd (by omega) (by omega) hfc rfl fun H1 kC hkC e1 z1 o1 => ?_
  have hA := rk_At_ad C.2.2.2.2.2.2.2.2.2.2.2.2.1 h1
  have hS' : rk_sh S n ci N n = (ci, N) := by simp [rk_sh]
  refine rk_W_budget (by omega) (by omega) (W.eq ?_ (k _ _ _ _ _ _ _ _ _ _ _ _ _ ls C (rk_At_push (e := .inr (ci, rk_fs G.1 (rk_sh S n ci N) (rk_zi I n) (rk_zj J n) (rk_zr R n) n)) C.2.2.2.2.2.2.2.2.2.2.2.2.1 h1 hn ⟨_, hc, ?_⟩ z1 o1 (rk_cell_obj hS' (rk_lt20 hc)) rk_new_o (rk_new_99 h1.2.2.2)) (rk_S_push h2 z1 o1) h3 ⟨by omega, by omega⟩))
  · show F0 m (pc + 3) ls (.ref H.size :: _) = F0 m (pc + 3) ls (.ref (G.1 n) :: _)
    rw [hA]
  · rw [hA] at e1
    refine (u_born (rk_ty ci) C.2.2.2.2.2.1 hin ⟨hSl, hfc, kC', hkC', hkind⟩ hkC e1 hty).to (fun j hj => ?_)
    unfold vp_V
    rw [List.getD_eq_getElem?_getD, rk_fs_get hS' hj]
    show defaultValue (rk_ty ci j) = rk_fv G.1 (rk_zi I n) (rk_zj J n) (rk_zr R n) n (rk_sort (rk_ty ci j)) j
    rw [hdf j hj]
    unfold rk_fv
    simp [rk_zi, rk_zj, rk_zr]
theorem AW_newI {v : Int32} {N : Nat} (hd : decode cc pc = .ok (.newarray .int, 2)) (hw : Cond.arrayClass .int ∈ lw_tk) (hv : ¬ v < 0) (hN : v.toNatClampNeg = N) (hb : N ≤ 100000) (hn : n < 900000) (k : AW G l y cc ml rt d kc ks (pc + 2) (lv) (.ref n :: st) (n + 1) (rk_sh S n 20 N) (rk_zi I n) (rk_zj J n) (rk_zr R n) Q) :
    AW G l y cc ml rt d (kc + 1) (ks + N) (pc) (lv) (.int v :: st) n S I J R Q := by
  intro p e Rm s m args below meth c H locs cells slots ls C h1 h2 h3 h4
  refine va_newaK (atype := .int) C.1 C.2.1 (C.2.2.2.2.2.1 _ hw) rfl hd rfl hv hN (by show N * componentBytes .int ≤ 536870912; simp [componentBytes]; omega) (by omega) (by omega) rfl fun H1 cA e1 z1 o1 hAr hNm => ?_
  have hA := rk_At_ad C.2.2.2.2.2.2.2.2.2.2.2.2.1 h1
  have hcA : cA = G.2.2.2.2.1 20 := Option.some.inj (hNm.symm.trans (C.2.2.2.2.2.2.2.1.2 0 _ rfl).2)
  subst hcA
  have hS' : rk_sh S n 20 N n = (20, N) := by simp [rk_sh]
  refine rk_W_budget (by omega) (by omega) (W.eq ?_ (k _ _ _ _ _ _ _ _ _ _ _ _ _ ls C (rk_At_push (e := .inl (G.2.2.2.2.1 20, N, .inl (fun _ => 0))) C.2.2.2.2.2.2.2.2.2.2.2.2.1 h1 hn ?_ z1 o1 ?_ rk_new_o (rk_new_99 h1.2.2.2)) (rk_S_push h2 z1 o1) h3 ⟨by omega, by omega⟩))
  · show F0 m (pc + 2) ls (.ref H.size :: _) = F0 m (pc + 2) ls (.ref (G.1 n) :: _)
    rw [hA]
  · rw [hA] at e1
    exact e1
  · rw [rk_cell_row hS' (by omega) (by omega)]
    simp [rk_zi]
theorem AW_newZ {v : Int32} {N : Nat} (hd : decode cc pc = .ok (.newarray .boolean, 2)) (hw : Cond.arrayClass .boolean ∈ lw_tk) (hv : ¬ v < 0) (hN : v.toNatClampNeg = N) (hb : N ≤ 100000) (hn : n < 900000) (k : AW G l y cc ml rt d kc ks (pc + 2) (lv) (.ref n :: st) (n + 1) (rk_sh S n 21 N) (rk_zi I n) (rk_zj J n) (rk_zr R n) Q) :
    AW G l y cc ml rt d (kc + 1) (ks + N) (pc) (lv) (.int v :: st) n S I J R Q := by
  intro p e Rm s m args below meth c H locs cells slots ls C h1 h2 h3 h4
  refine va_newaK (atype := .boolean) C.1 C.2.1 (C.2.2.2.2.2.1 _ hw) rfl hd rfl hv hN (by show N * componentBytes .boolean ≤ 536870912; simp [componentBytes]; omega) (by omega) (by omega) rfl fun H1 cA e1 z1 o1 hAr hNm => ?_
  have hA := rk_At_ad C.2.2.2.2.2.2.2.2.2.2.2.2.1 h1
  have hcA : cA = G.2.2.2.2.1 21 := Option.some.inj (hNm.symm.trans (C.2.2.2.2.2.2.2.1.2 1 _ rfl).2)
  subst hcA
  have hS' : rk_sh S n 21 N n = (21, N) := by simp [rk_sh]
  refine rk_W_budget (by omega) (by omega) (W.eq ?_ (k _ _ _ _ _ _ _ _ _ _ _ _ _ ls C (rk_At_push (e := .inl (G.2.2.2.2.1 21, N, .inl (fun _ => 0))) C.2.2.2.2.2.2.2.2.2.2.2.2.1 h1 hn ?_ z1 o1 ?_ rk_new_o (rk_new_99 h1.2.2.2)) (rk_S_push h2 z1 o1) h3 ⟨by omega, by omega⟩))
  · show F0 m (pc + 2) ls (.ref H.size :: _) = F0 m (pc + 2) ls (.ref (G.1 n) :: _)
    rw [hA]
  · rw [hA] at e1
    exact e1
  · rw [rk_cell_row hS' (by omega) (by omega)]
    simp [rk_zi]
theorem AW_newQ {ix t ci M : Nat} {v : Int32} {N : Nat} (hd : decode cc pc = .ok (.anewarray ix, 3)) (ht : (t, ci) = (22, 0) ∨ (t, ci) = (23, 5) ∨ (t, ci) = (24, 7) ∨ (t, ci) = (25, 6)) (hw : Cond.classLink y.cls ix (rk_cn ci) ∈ lw_tk ∧ Cond.arrayOver (.object (rk_cn ci)) ∈ rk_nw) (hv : ¬ v < 0) (hN : v.toNatClampNeg = N) (hb : N ≤ 100000) (hn : n < 900000) (k : AW G l y cc ml rt d kc ks (pc + 3) (lv) (.ref n :: st) (n + 1) (rk_sh S n t N) (rk_zi I n) (rk_zj J n) (rk_zr R n) Q) :
    AW G l y cc ml rt d (kc + 1) (ks + N) (pc) (lv) (.int v :: st) n S I J R Q := by
  intro p e Rm s m args below meth c H locs cells slots ls C h1 h2 h3 h4
  subst hN
  have ht2 : 22 ≤ t ∧ t < 26 := by
    rcases ht with h | h | h | h <;> cases h <;> omega
  refine W.anew C.1 C.2.1 C.2.2.2.2.1 (C.2.2.2.2.2.1 _ hw.1) (va_AO.use (C.2.2.2.2.2.2.2.2.2.2.2.2.2.2.2.2.2.2.2.2.2.2.2.2.2 _ hw.2)) rfl hd rfl hv (by omega) (by omega) (by omega) fun cA kA comp f1 f2 f3 f4 => ?_
  have hA := rk_At_ad C.2.2.2.2.2.2.2.2.2.2.2.2.1 h1
  have hcA : cA = G.2.2.2.2.1 t := by
    rcases ht with h | h | h | h <;> cases h
    · obtain ⟨_, _, _, _, _, k4⟩ := (C.2.2.2.2.2.2.2.1.2 2 _ rfl).2
      exact Option.some.inj (f1.symm.trans k4)
    · obtain ⟨_, _, _, _, _, k4⟩ := (C.2.2.2.2.2.2.2.1.2 3 _ rfl).2
      exact Option.some.inj (f1.symm.trans k4)
    · obtain ⟨_, _, _, _, _, k4⟩ := (C.2.2.2.2.2.2.2.1.2 4 _ rfl).2
      exact Option.some.inj (f1.symm.trans k4)
    · obtain ⟨_, _, _, _, _, k4⟩ := (C.2.2.2.2.2.2.2.1.2 5 _ rfl).2
      exact Option.some.inj (f1.symm.trans k4)
  subst hcA
  generalize hH1 : H.push ({ cls := G.2.2.2.2.1 t, slots := Array.replicate v.toNatClampNeg .null, vm := .none } : Cell) = H1
  have z1 : H1.size = H.size + 1 := by rw [← hH1, Array.size_push]
  have e1 : H1[H.size]? = some (arrV (G.2.2.2.2.1 t) v.toNatClampNeg (fun _ => .null)) := by rw [← hH1, Array.getElem?_push_size, ← arrV_new]
  have o1 : ∀ q : Nat, q < H.size → H1[q]? = H[q]? := fun q hq => by rw [← hH1, Array.getElem?_push, if_neg (Nat.ne_of_lt hq)]
  have hS' : rk_sh S n t v.toNatClampNeg n = (t, v.toNatClampNeg) := by simp [rk_sh]
  refine rk_W_budget (by omega) (by omega) (W.eq ?_ (k _ _ _ _ _ _ _ _ _ _ _ _ _ ls C (rk_At_push (e := .inl (G.2.2.2.2.1 t, v.toNatClampNeg, .inr (.inr (.inr (.inr (fun _ => none)))))) C.2.2.2.2.2.2.2.2.2.2.2.2.1 h1 hn ?_ z1 o1 ?_ rk_new_o (rk_new_99 h1.2.2.2)) (rk_S_push h2 z1 o1) h3 ⟨by omega, by omega⟩))
  · show F0 m (pc + 3) ls (.ref H.size :: _) = F0 m (pc + 3) ls (.ref (G.1 n) :: _)
    rw [hA]
  · rw [hA] at e1
    exact e1
  · rw [rk_cell_rowq hS' ht2.1]
    simp [rk_zr]
end RK
