abbrev rk_o (q : Option Nat) : Value := match q with
  | some o => .ref o
  | none => .null
theorem rk_good : GoodIn lw_tk lw_tk := by
  intro w hw
  refine ⟨hw, ?_⟩
  have h := (List.mem_filter.mp hw).2
  unfold lw_ok at h
  rcases (Bool.or_eq_true _ _).mp h with h1 | h1
  · exact Or.inl h1
  · cases w <;> simp [rk_isArr] at h1
    exact Or.inr ⟨_, rfl⟩
theorem rk_goodC {y : MethodName} {cc : ByteArray} {ml : Nat} {rt : Option FieldType} (h : Cond.code y cc ml rt ∈ lw_tk) : GoodIn lw_tk (Cond.code y cc ml rt :: lw_tk) := by
  intro w hw
  rcases List.mem_cons.mp hw with rfl | h1
  · exact rk_good _ h
  · exact rk_good _ h1
theorem rk_goodD {y : MethodName} {cc : ByteArray} {ml : Nat} {rt : Option FieldType} : ∀ w ∈ (Cond.code y cc ml rt :: lw_tk), w ∈ (Cond.code y cc ml rt :: lw_tk) := fun _ h => h
def rk_nm (y : MethodName) (np : Nat) : Prop := y.cls ≠ "java/lang/invoke/MethodHandle" ∧ y.cls ≠ "java/lang/invoke/VarHandle" ∧ (parseMethodDescriptor y.desc).map (fun d => d.parameters.length) = some np
/-- what a call needs of the tables: a virtual one (private ones too), a static one, a constructor, a nest mate's constructor -/
def rk_lv (own : String) (ix : Nat) (y : MethodName) (cc : ByteArray) (ml : Nat) (rt : Option FieldType) (np : Nat) : Prop := Cond.methodLink own ix y ∈ lw_tk ∧ Cond.instanceMethod y ∈ lw_tk ∧ Cond.selects y.cls y y ∈ lw_tk ∧ Cond.initialized y.cls ∈ lw_tk ∧ Cond.code y cc ml rt ∈ lw_tk ∧ rk_nm y np
def rk_ls (own : String) (ix : Nat) (y : MethodName) (cc : ByteArray) (ml : Nat) (rt : Option FieldType) (np : Nat) : Prop := Cond.methodLink own ix y ∈ lw_tk ∧ Cond.static y ∈ lw_tk ∧ Cond.initialized y.cls ∈ lw_tk ∧ Cond.code y cc ml rt ∈ lw_tk ∧ rk_nm y np
def rk_li (own : String) (ix : Nat) (y : MethodName) (cc : ByteArray) (ml : Nat) (np : Nat) : Prop := Cond.methodLink own ix y ∈ lw_tk ∧ Cond.instanceMethod y ∈ lw_tk ∧ Cond.initialized y.cls ∈ lw_tk ∧ Cond.code y cc ml none ∈ lw_tk ∧ rk_nm y np ∧ y.name = "<init>"
def rk_ln (own host : String) (ix : Nat) (y : MethodName) (cc : ByteArray) (ml : Nat) (np : Nat) : Prop := Cond.methodLinkNest own ix y host ∈ rk_nw ∧ Cond.instanceMethod y ∈ lw_tk ∧ Cond.initialized y.cls ∈ lw_tk ∧ Cond.code y cc ml none ∈ lw_tk ∧ rk_nm y np ∧ y.name = "<init>"
section RKW
variable {p : Program} {l : Launch} {e : Env} {Rm : Room} {s : State} {m : MethodId} {args : Array Value} {below : List Frame} {meth : Method} {c : Code} {H : Heap} {locs : List Loc} {cells slots : Nat} {Z : State → Prop} {G : rk_G} {Q' : rk_Q} {pc : Nat} {ls : Array Slot} {rest st0 : List Value} {a : Array Value} {mc ms : Nat} {H0 : Heap}
theorem rk_callW (hr : va_Run p l e Rm s m args below meth c H locs cells slots mc ms (F0 m pc ls st0) rest (rk_Qc G Q' a) (rk_A G)) (hS : va_S (rk_A G) H0 H locs)
    (kk : ∀ (v : Option Value) (n' : Nat) (S' : rk_Sh) (I' : rk_I) (J' : rk_J) (R' : rk_R) (H1 : Heap) (locs1 : List Loc), Q' v n' S' I' J' R' → rk_At G n' S' I' J' R' H1 → va_S (rk_A G) H0 H1 locs1 → W p l e Rm s m args below meth c H1 locs1 (cells + mc) (slots + ms) Z (F0 m (pc + 3) ls ((v.map (rk_v G.1)).toList ++ rest))) : W p l e Rm s m args below meth c H locs cells slots Z (F0 m pc ls st0) := by
  intro T hT X
  obtain ⟨v, st₀, t, T', L, h0, X', hL, e1, e2, ⟨⟨v', n', S', I', J', R', hv, hq, hAt⟩, hz, hk⟩, st⟩ := hr T hT X
  cases hv
  rw [h0] at hz hk
  obtain ⟨t2, a1, b1⟩ := kk v' n' S' I' J' R' T'.heap (locs ++ L) hq (by rw [e1]; exact hAt)
    ⟨Nat.le_trans hS.1 (by rw [e1]; exact hz), fun q h1 h2 => by rw [e1, hk q (Nat.lt_of_lt_of_le h1 hS.1) h2]; exact hS.2.1 q h1 h2, fun q hq => by
      rcases List.mem_append.mp hq with h | h
      · exact hS.2.2 q h
      · exact hL q h⟩ T' rfl X'
  exact ⟨t2, st t2 a1, b1⟩
end RKW
theorem rk_blind {G : rk_G} {as : List Value} {n : Nat} {S : rk_Sh} {I : rk_I} {J : rk_J} {R : rk_R} : FrameBlind (rk_Pc G as n S I J R) := by
  intro a U g mk q
  obtain ⟨q0, qK, qA, qG, qY⟩ := q
  exact ⟨q0, va_K.moved (u := U) (U := U.calling g mk a) (Vm.Alike.refl U.vm) qK, qA, qG, rk_Y_same (u := U) (U := U.calling g mk a) rfl rfl qY⟩
theorem rk_pre {G : rk_G} {as : List Value} {n : Nat} {S : rk_Sh} {I : rk_I} {J : rk_J} {R : rk_R} {s : State} {H : Heap} {locs : List Loc} (hK : va_K (rk_D G) vwCl (rk_tys G) s) (h1 : rk_At G n S I J R H) (hG : rk_ok G) (hY : rk_Y G s) (hS : va_S (rk_A G) s.heap H locs) : ∀ U : State, U.heap = H → s.WarmedH U.vm → rk_Pc G as n S I J R (as.map (rk_v G.1)).toArray U := by
  intro U hU hW
  refine ⟨rfl, va_K.moved hW.alike hK, by rw [hU]; exact h1, hG, rk_Y_warm hW (by rw [hU]; exact Nat.le_trans hY.2.2.2.2.2.2.2.2.2.1 hS.1) (fun q hq => ?_) hY⟩
  rw [hU]
  exact hS.2.1 q (Nat.lt_of_lt_of_le hq hY.2.2.2.2.2.2.2.2.2.1) (Nat.not_le.mpr hq)
def rk_entA : Nat → List Value → List (Option Value) := fun _ as => rk_ent as
theorem rk_ent_get {ad : Nat → Nat} : ∀ (as : List Value) (k i : Nat) (v : Value), (rk_ent as)[i]? = some (some v) → (k + i, rk_v ad v) ∈ lv_args k (as.map (rk_v ad)) := by
  intro as
  induction as with
  | nil => intro k i v h; simp [rk_ent] at h
  | cons a t ih =>
    intro k i v h
    unfold rk_ent at h
    by_cases hc : a.category = 2
    · rw [if_pos hc] at h
      have e : lv_args k ((a :: t).map (rk_v ad)) = (k, rk_v ad a) :: lv_args (k + 2) (t.map (rk_v ad)) := by
        simp [lv_args, rk_cat, hc]
      rw [e]
      match i, h with
      | 0, h => cases h; exact List.mem_cons_self
      | 1, h => cases h
      | i + 2, h => 
        have := ih (k + 2) i v h
        rw [show k + 2 + i = k + (i + 2) by omega] at this
        exact List.mem_cons_of_mem _ this
    · rw [if_neg hc] at h
      have e : lv_args k ((a :: t).map (rk_v ad)) = (k, rk_v ad a) :: lv_args (k + 1) (t.map (rk_v ad)) := by
        simp [lv_args, rk_cat, hc]
      rw [e]
      match i, h with
      | 0, h => cases h; exact List.mem_cons_self
      | i + 1, h => 
        have := ih (k + 1) i v h
        rw [show k + 1 + i = k + (i + 1) by omega] at this
        exact List.mem_cons_of_mem _ this
/-- fewer locals known -/
def rk_sb (lv' lv : List (Option Value)) : Prop := ∀ (i : Nat) (v : Value), lv'[i]? = some (some v) → lv[i]? = some (some v)
theorem rk_sb0 {lv : List (Option Value)} : rk_sb [] lv := fun i v h => by simp at h
theorem rk_sbn {a : Option Value} {lv' lv : List (Option Value)} (h : rk_sb lv' lv) : rk_sb (none :: lv') (a :: lv) := fun i v hi => by
  cases i with
  | zero => simp at hi
  | succ i => exact h i v hi
theorem rk_sbs {a : Option Value} {lv' lv : List (Option Value)} (h : rk_sb lv' lv) : rk_sb (a :: lv') (a :: lv) := fun i v hi => by
  cases i with
  | zero => exact hi
  | succ i => exact h i v hi
theorem rk_sbz {lv' lv : List (Option Value)} (h : rk_sb lv' lv) : rk_sb (none :: lv') lv.tail ∨ True := Or.inr trivial
theorem rk_sbe {lv' : List (Option Value)} (h : rk_sb lv' []) : rk_sb (none :: lv') [] := fun i v hi => by
  cases i with
  | zero => simp at hi
  | succ i => have := h i v hi; simp at this
section RK
variable {G : rk_G} {l : Launch} {y : MethodName} {cc : ByteArray} {ml : Nat} {rt : Option FieldType} {d kc ks pc : Nat} {lv : List (Option Value)} {st : List Value} {n : Nat} {S : rk_Sh} {I : rk_I} {J : rk_J} {R : rk_R} {Q : rk_Q}
theorem AW_sb {lv' : List (Option Value)} (hs : rk_sb lv' lv) (k : AW G l y cc ml rt d kc ks (pc) (lv') (st) n S I J R Q) :
    AW G l y cc ml rt d kc ks (pc) (lv) (st) n S I J R Q := by
  intro p e Rm s m args below meth c H locs cells slots ls C h1 h2 h3 h4
  exact k _ _ _ _ _ _ _ _ _ _ _ _ _ ls C h1 h2 ⟨h3.1, h3.2.1, fun i v hi => h3.2.2 i v (hs i v hi)⟩ h4
theorem CW.of {as : List Value} {lv : List (Option Value)} (hy : plainName y.cls = true) (hlen : (rk_ent as).length ≤ ml) (hs : rk_sb lv (rk_ent as)) (h : AW G l y cc ml rt d kc ks 0 lv [] n S I J R Q) : CW G l y cc ml rt d kc ks as n S I J R Q := by
  refine Met.ofW (cc := cc) (maxL := ml) (ret := rt) hy rfl ?_
  intro p e s m args below meth c s₁ B hml hv
  obtain ⟨rfl, hK, hA, hG, hY⟩ := hv
  have hts := atoms_spec (ws := Cond.code y cc ml rt :: lw_tk) B.pre
  have hsl : (lg_sl (as.map (rk_v G.1))).length = (rk_ent as).length := by
    have : ∀ vs : List Value, (lg_sl (vs.map (rk_v G.1))).length = (rk_ent vs).length := by
      intro vs
      induction vs with
      | nil => rfl
      | cons a t ih =>
        unfold rk_ent
        by_cases hc : a.category = 2
        · rw [if_pos hc]; simp [lg_sl, rk_cat, hc] at ih ⊢; omega
        · rw [if_neg hc]; simp [lg_sl, rk_cat, hc] at ih ⊢; omega
    exact this as
  have hl := lv_entry (as.map (rk_v G.1)) (n := ml) (by rw [hsl]; exact hlen)
  rw [lg_entry_eq]
  generalize (lg_sl (as.map (rk_v G.1)) ++ List.replicate (ml - (lg_sl (as.map (rk_v G.1))).length) Slot.unset).toArray = ls at hl ⊢
  have hz : G.2.1 ≤ s.heap.size := by rw [hA.2.1]; omega
  have := h p e (headSpec (Cond.code y cc ml rt :: lw_tk) (rk_rm d kc ks)).room s m _ below meth c s.heap [] 0 0 ls ⟨B.exec, B.bytes, B.returns, hml, findClass_of_methodNamed B.named, fun w hw => hts w (List.mem_cons_of_mem _ hw), B.notSynchronized, hK, hz, (name_of_methodNamed B.named B.method).1, Nat.le_refl _, Nat.le_refl _, hG, hY⟩ hA va_S.rf ⟨hl.1, hl.2.1, fun i v hi => hl.2.2 (i, rk_v G.1 v) (by have := rk_ent_get (ad := G.1) as 0 i v (hs i v hi); simpa using this)⟩ ⟨by simp [headSpec], by simp [headSpec]⟩
  simpa using this
theorem AW_objInit {ix : Nat} {q : Nat} (hd : decode cc pc = .ok (.invokespecial ix, 3)) (hl : Cond.methodLink y.cls ix Lib.objectInit ∈ lw_tk ∧ Cond.instanceMethod Lib.objectInit ∈ lw_tk ∧ Cond.code Lib.objectInit ⟨#[0xb1]⟩ 1 none ∈ lw_tk) (hdd : 1 ≤ d) (hr : (st.map fun v => v.category).sum ≤ 8) (k : AW G l y cc ml rt d kc ks (pc + 3) (lv) (st) n S I J R Q) :
    AW G l y cc ml rt d kc ks (pc) (lv) (.ref q :: st) n S I J R Q := by
  intro p e Rm s m args below meth c H locs cells slots ls C h1 h2 h3 h4
  have e9 : ∀ (vs : List Value), ((vs.map (rk_v G.1)).map fun v => v.category) = vs.map fun v => v.category := fun vs => by rw [List.map_map]; exact List.map_congr_left (fun v _ => rk_cat _ v)
  have g1 := C.2.2.2.2.2.2.2.2.2.2.1
  have g2 := C.2.2.2.2.2.2.2.2.2.2.2.1
  refine W.objInit C.1 C.2.1 C.2.2.2.2.1 (C.2.2.2.2.2.1 _ hl.1) (C.2.2.2.2.2.1 _ hl.2.1) (C.2.2.2.2.2.1 _ hl.2.2) rfl (by rw [C.2.2.2.1]; exact h3.1) rfl hd (by omega) (by rw [e9]; show 2 * 0 + _ + 12 ≤ _; omega) ?_
  exact (k _ _ _ _ _ _ _ _ _ _ _ _ _ ls C h1 h2 h3 h4)
theorem AW_invV0 {o : Nat} {ci N N' : Nat} {TT : u_T} {y' : MethodName} {cc' : ByteArray} {ml' d' kc' ks' ix : Nat} {rt' : Option FieldType} {Q' : rk_Q} (hC : CW G l y' cc' ml' rt' d' kc' ks' [.ref o] n S I J R Q') (hd : decode cc pc = .ok (.invokevirtual ix, 3)) (hl : rk_lv y.cls ix y' cc' ml' rt' 0) (hS : S o = (ci, N)) (hci : vwCl[ci]? = some (y'.cls, TT, N')) (hdd : d' + 1 ≤ d) (hml : ml' ≤ 45) (hr : (st.map fun v => v.category).sum ≤ 8) (k : ∀ (v : Option Value) (n' : Nat) (S' : rk_Sh) (I' : rk_I) (J' : rk_J) (R' : rk_R), Q' v n' S' I' J' R' → AW G l y cc ml rt d kc ks (pc + 3) lv (v.toList ++ st) n' S' I' J' R' Q) :
    AW G l y cc ml rt d (kc + kc') (ks + ks') pc lv (.ref o :: st) n S I J R Q := by
  intro p e Rm s m args below meth c H locs cells slots ls C h1 h2 h3 h4
  have e9 : ∀ (vs : List Value), ((vs.map (rk_v G.1)).map fun v => v.category) = vs.map fun v => v.category := fun vs => by rw [List.map_map]; exact List.map_congr_left (fun v _ => rk_cat _ v)
  have g1 := C.2.2.2.2.2.2.2.2.2.2.1
  have g2 := C.2.2.2.2.2.2.2.2.2.2.2.1
  refine rk_callW (va_runV (As := []) (rest := st.map (rk_v G.1)) ⟨C.1, C.2.1, C.2.2.2.1, C.2.2.2.2.1, C.2.2.2.2.2.1⟩ hC ⟨callB_of 0 C.2.2.2.2.2.1 (rk_goodC hl.2.2.2.2.1) rfl rfl rfl (C.2.2.2.2.2.1 _ hl.2.2.2.1) (C.2.2.2.2.2.1 _ hl.1) hl.2.2.2.2.2 ⟨Nat.le_trans hdd g1, by show 8 + (ml' + 11) + 64 * d' ≤ _; omega⟩, C.2.2.2.2.2.1 _ hl.2.1, C.2.2.2.2.2.1 _ hl.2.2.1⟩ ⟨rk_blind, va_recv C.2.2.2.2.2.2.2.1 h1.1 hci (rk_obj h1 hS (rk_lt20 hci)), rk_pre C.2.2.2.2.2.2.2.1 h1 C.2.2.2.2.2.2.2.2.2.2.2.2.1 C.2.2.2.2.2.2.2.2.2.2.2.2.2 h2⟩ rfl rfl h3.1 rfl (lv_room (by rw [e9]; exact hr)) hd (by omega)) h2 (fun v n' S' I' J' R' H1 locs1 q1 q2 q3 => ?_)
  refine W.eq ?_ (rk_W_budget (by omega) (by omega) (k v n' S' I' J' R' q1 p e Rm s m args below meth c H1 locs1 _ _ ls C q2 q3 h3 (by omega)))
  rw [List.map_append]
  cases v <;> rfl
theorem AW_invV0z {o : Nat} {ci N N' : Nat} {TT : u_T} {y' : MethodName} {cc' : ByteArray} {ml' d' ix : Nat} {rt' : Option FieldType} {Q' : rk_Q} (hC : CW G l y' cc' ml' rt' d' 0 0 [.ref o] n S I J R Q') (hd : decode cc pc = .ok (.invokevirtual ix, 3)) (hl : rk_lv y.cls ix y' cc' ml' rt' 0) (hS : S o = (ci, N)) (hci : vwCl[ci]? = some (y'.cls, TT, N')) (hdd : d' + 1 ≤ d) (hml : ml' ≤ 45) (hr : (st.map fun v => v.category).sum ≤ 8) (k : ∀ (v : Option Value) (n' : Nat) (S' : rk_Sh) (I' : rk_I) (J' : rk_J) (R' : rk_R), Q' v n' S' I' J' R' → AW G l y cc ml rt d kc ks (pc + 3) lv (v.toList ++ st) n' S' I' J' R' Q) :
    AW G l y cc ml rt d kc ks pc lv (.ref o :: st) n S I J R Q := by
  intro p e Rm s m args below meth c H locs cells slots ls C h1 h2 h3 h4
  have e9 : ∀ (vs : List Value), ((vs.map (rk_v G.1)).map fun v => v.category) = vs.map fun v => v.category := fun vs => by rw [List.map_map]; exact List.map_congr_left (fun v _ => rk_cat _ v)
  have g1 := C.2.2.2.2.2.2.2.2.2.2.1
  have g2 := C.2.2.2.2.2.2.2.2.2.2.2.1
  refine rk_callW (va_runV (As := []) (rest := st.map (rk_v G.1)) ⟨C.1, C.2.1, C.2.2.2.1, C.2.2.2.2.1, C.2.2.2.2.2.1⟩ hC ⟨callB_of 0 C.2.2.2.2.2.1 (rk_goodC hl.2.2.2.2.1) rfl rfl rfl (C.2.2.2.2.2.1 _ hl.2.2.2.1) (C.2.2.2.2.2.1 _ hl.1) hl.2.2.2.2.2 ⟨Nat.le_trans hdd g1, by show 8 + (ml' + 11) + 64 * d' ≤ _; omega⟩, C.2.2.2.2.2.1 _ hl.2.1, C.2.2.2.2.2.1 _ hl.2.2.1⟩ ⟨rk_blind, va_recv C.2.2.2.2.2.2.2.1 h1.1 hci (rk_obj h1 hS (rk_lt20 hci)), rk_pre C.2.2.2.2.2.2.2.1 h1 C.2.2.2.2.2.2.2.2.2.2.2.2.1 C.2.2.2.2.2.2.2.2.2.2.2.2.2 h2⟩ rfl rfl h3.1 rfl (lv_room (by rw [e9]; exact hr)) hd (by omega)) h2 (fun v n' S' I' J' R' H1 locs1 q1 q2 q3 => ?_)
  refine W.eq ?_ (rk_W_budget (by omega) (by omega) (k v n' S' I' J' R' q1 p e Rm s m args below meth c H1 locs1 _ _ ls C q2 q3 h3 (by omega)))
  rw [List.map_append]
  cases v <;> rfl
theorem AW_invV1 {a1 : Value} {o : Nat} {ci N N' : Nat} {TT : u_T} {y' : MethodName} {cc' : ByteArray} {ml' d' kc' ks' ix : Nat} {rt' : Option FieldType} {Q' : rk_Q} (hC : CW G l y' cc' ml' rt' d' kc' ks' [.ref o, a1] n S I J R Q') (hd : decode cc pc = .ok (.invokevirtual ix, 3)) (hl : rk_lv y.cls ix y' cc' ml' rt' 1) (hS : S o = (ci, N)) (hci : vwCl[ci]? = some (y'.cls, TT, N')) (hdd : d' + 1 ≤ d) (hml : ml' ≤ 45) (hr : (st.map fun v => v.category).sum ≤ 8) (k : ∀ (v : Option Value) (n' : Nat) (S' : rk_Sh) (I' : rk_I) (J' : rk_J) (R' : rk_R), Q' v n' S' I' J' R' → AW G l y cc ml rt d kc ks (pc + 3) lv (v.toList ++ st) n' S' I' J' R' Q) :
    AW G l y cc ml rt d (kc + kc') (ks + ks') pc lv (a1 :: .ref o :: st) n S I J R Q := by
  intro p e Rm s m args below meth c H locs cells slots ls C h1 h2 h3 h4
  have e9 : ∀ (vs : List Value), ((vs.map (rk_v G.1)).map fun v => v.category) = vs.map fun v => v.category := fun vs => by rw [List.map_map]; exact List.map_congr_left (fun v _ => rk_cat _ v)
  have g1 := C.2.2.2.2.2.2.2.2.2.2.1
  have g2 := C.2.2.2.2.2.2.2.2.2.2.2.1
  refine rk_callW (va_runV (As := [rk_v G.1 a1]) (rest := st.map (rk_v G.1)) ⟨C.1, C.2.1, C.2.2.2.1, C.2.2.2.2.1, C.2.2.2.2.2.1⟩ hC ⟨callB_of 1 C.2.2.2.2.2.1 (rk_goodC hl.2.2.2.2.1) rfl rfl rfl (C.2.2.2.2.2.1 _ hl.2.2.2.1) (C.2.2.2.2.2.1 _ hl.1) hl.2.2.2.2.2 ⟨Nat.le_trans hdd g1, by show 8 + (ml' + 11) + 64 * d' ≤ _; omega⟩, C.2.2.2.2.2.1 _ hl.2.1, C.2.2.2.2.2.1 _ hl.2.2.1⟩ ⟨rk_blind, va_recv C.2.2.2.2.2.2.2.1 h1.1 hci (rk_obj h1 hS (rk_lt20 hci)), rk_pre C.2.2.2.2.2.2.2.1 h1 C.2.2.2.2.2.2.2.2.2.2.2.2.1 C.2.2.2.2.2.2.2.2.2.2.2.2.2 h2⟩ rfl rfl h3.1 rfl (lv_room (by rw [e9]; exact hr)) hd (by omega)) h2 (fun v n' S' I' J' R' H1 locs1 q1 q2 q3 => ?_)
  refine W.eq ?_ (rk_W_budget (by omega) (by omega) (k v n' S' I' J' R' q1 p e Rm s m args below meth c H1 locs1 _ _ ls C q2 q3 h3 (by omega)))
  rw [List.map_append]
  cases v <;> rfl
theorem AW_invV1z {a1 : Value} {o : Nat} {ci N N' : Nat} {TT : u_T} {y' : MethodName} {cc' : ByteArray} {ml' d' ix : Nat} {rt' : Option FieldType} {Q' : rk_Q} (hC : CW G l y' cc' ml' rt' d' 0 0 [.ref o, a1] n S I J R Q') (hd : decode cc pc = .ok (.invokevirtual ix, 3)) (hl : rk_lv y.cls ix y' cc' ml' rt' 1) (hS : S o = (ci, N)) (hci : vwCl[ci]? = some (y'.cls, TT, N')) (hdd : d' + 1 ≤ d) (hml : ml' ≤ 45) (hr : (st.map fun v => v.category).sum ≤ 8) (k : ∀ (v : Option Value) (n' : Nat) (S' : rk_Sh) (I' : rk_I) (J' : rk_J) (R' : rk_R), Q' v n' S' I' J' R' → AW G l y cc ml rt d kc ks (pc + 3) lv (v.toList ++ st) n' S' I' J' R' Q) :
    AW G l y cc ml rt d kc ks pc lv (a1 :: .ref o :: st) n S I J R Q := by
  intro p e Rm s m args below meth c H locs cells slots ls C h1 h2 h3 h4
  have e9 : ∀ (vs : List Value), ((vs.map (rk_v G.1)).map fun v => v.category) = vs.map fun v => v.category := fun vs => by rw [List.map_map]; exact List.map_congr_left (fun v _ => rk_cat _ v)
  have g1 := C.2.2.2.2.2.2.2.2.2.2.1
  have g2 := C.2.2.2.2.2.2.2.2.2.2.2.1
  refine rk_callW (va_runV (As := [rk_v G.1 a1]) (rest := st.map (rk_v G.1)) ⟨C.1, C.2.1, C.2.2.2.1, C.2.2.2.2.1, C.2.2.2.2.2.1⟩ hC ⟨callB_of 1 C.2.2.2.2.2.1 (rk_goodC hl.2.2.2.2.1) rfl rfl rfl (C.2.2.2.2.2.1 _ hl.2.2.2.1) (C.2.2.2.2.2.1 _ hl.1) hl.2.2.2.2.2 ⟨Nat.le_trans hdd g1, by show 8 + (ml' + 11) + 64 * d' ≤ _; omega⟩, C.2.2.2.2.2.1 _ hl.2.1, C.2.2.2.2.2.1 _ hl.2.2.1⟩ ⟨rk_blind, va_recv C.2.2.2.2.2.2.2.1 h1.1 hci (rk_obj h1 hS (rk_lt20 hci)), rk_pre C.2.2.2.2.2.2.2.1 h1 C.2.2.2.2.2.2.2.2.2.2.2.2.1 C.2.2.2.2.2.2.2.2.2.2.2.2.2 h2⟩ rfl rfl h3.1 rfl (lv_room (by rw [e9]; exact hr)) hd (by omega)) h2 (fun v n' S' I' J' R' H1 locs1 q1 q2 q3 => ?_)
  refine W.eq ?_ (rk_W_budget (by omega) (by omega) (k v n' S' I' J' R' q1 p e Rm s m args below meth c H1 locs1 _ _ ls C q2 q3 h3 (by omega)))
  rw [List.map_append]
  cases v <;> rfl
theorem AW_invV2 {a1 a2 : Value} {o : Nat} {ci N N' : Nat} {TT : u_T} {y' : MethodName} {cc' : ByteArray} {ml' d' kc' ks' ix : Nat} {rt' : Option FieldType} {Q' : rk_Q} (hC : CW G l y' cc' ml' rt' d' kc' ks' [.ref o, a1, a2] n S I J R Q') (hd : decode cc pc = .ok (.invokevirtual ix, 3)) (hl : rk_lv y.cls ix y' cc' ml' rt' 2) (hS : S o = (ci, N)) (hci : vwCl[ci]? = some (y'.cls, TT, N')) (hdd : d' + 1 ≤ d) (hml : ml' ≤ 45) (hr : (st.map fun v => v.category).sum ≤ 8) (k : ∀ (v : Option Value) (n' : Nat) (S' : rk_Sh) (I' : rk_I) (J' : rk_J) (R' : rk_R), Q' v n' S' I' J' R' → AW G l y cc ml rt d kc ks (pc + 3) lv (v.toList ++ st) n' S' I' J' R' Q) :
    AW G l y cc ml rt d (kc + kc') (ks + ks') pc lv (a2 :: a1 :: .ref o :: st) n S I J R Q := by
  intro p e Rm s m args below meth c H locs cells slots ls C h1 h2 h3 h4
  have e9 : ∀ (vs : List Value), ((vs.map (rk_v G.1)).map fun v => v.category) = vs.map fun v => v.category := fun vs => by rw [List.map_map]; exact List.map_congr_left (fun v _ => rk_cat _ v)
  have g1 := C.2.2.2.2.2.2.2.2.2.2.1
  have g2 := C.2.2.2.2.2.2.2.2.2.2.2.1
  refine rk_callW (va_runV (As := [rk_v G.1 a1, rk_v G.1 a2]) (rest := st.map (rk_v G.1)) ⟨C.1, C.2.1, C.2.2.2.1, C.2.2.2.2.1, C.2.2.2.2.2.1⟩ hC ⟨callB_of 2 C.2.2.2.2.2.1 (rk_goodC hl.2.2.2.2.1) rfl rfl rfl (C.2.2.2.2.2.1 _ hl.2.2.2.1) (C.2.2.2.2.2.1 _ hl.1) hl.2.2.2.2.2 ⟨Nat.le_trans hdd g1, by show 8 + (ml' + 11) + 64 * d' ≤ _; omega⟩, C.2.2.2.2.2.1 _ hl.2.1, C.2.2.2.2.2.1 _ hl.2.2.1⟩ ⟨rk_blind, va_recv C.2.2.2.2.2.2.2.1 h1.1 hci (rk_obj h1 hS (rk_lt20 hci)), rk_pre C.2.2.2.2.2.2.2.1 h1 C.2.2.2.2.2.2.2.2.2.2.2.2.1 C.2.2.2.2.2.2.2.2.2.2.2.2.2 h2⟩ rfl rfl h3.1 rfl (lv_room (by rw [e9]; exact hr)) hd (by omega)) h2 (fun v n' S' I' J' R' H1 locs1 q1 q2 q3 => ?_)
  refine W.eq ?_ (rk_W_budget (by omega) (by omega) (k v n' S' I' J' R' q1 p e Rm s m args below meth c H1 locs1 _ _ ls C q2 q3 h3 (by omega)))
  rw [List.map_append]
  cases v <;> rfl
theorem AW_invV2z {a1 a2 : Value} {o : Nat} {ci N N' : Nat} {TT : u_T} {y' : MethodName} {cc' : ByteArray} {ml' d' ix : Nat} {rt' : Option FieldType} {Q' : rk_Q} (hC : CW G l y' cc' ml' rt' d' 0 0 [.ref o, a1, a2] n S I J R Q') (hd : decode cc pc = .ok (.invokevirtual ix, 3)) (hl : rk_lv y.cls ix y' cc' ml' rt' 2) (hS : S o = (ci, N)) (hci : vwCl[ci]? = some (y'.cls, TT, N')) (hdd : d' + 1 ≤ d) (hml : ml' ≤ 45) (hr : (st.map fun v => v.category).sum ≤ 8) (k : ∀ (v : Option Value) (n' : Nat) (S' : rk_Sh) (I' : rk_I) (J' : rk_J) (R' : rk_R), Q' v n' S' I' J' R' → AW G l y cc ml rt d kc ks (pc + 3) lv (v.toList ++ st) n' S' I' J' R' Q) :
    AW G l y cc ml rt d kc ks pc lv (a2 :: a1 :: .ref o :: st) n S I J R Q := by
  intro p e Rm s m args below meth c H locs cells slots ls C h1 h2 h3 h4
  have e9 : ∀ (vs : List Value), ((vs.map (rk_v G.1)).map fun v => v.category) = vs.map fun v => v.category := fun vs => by rw [List.map_map]; exact List.map_congr_left (fun v _ => rk_cat _ v)
  have g1 := C.2.2.2.2.2.2.2.2.2.2.1
  have g2 := C.2.2.2.2.2.2.2.2.2.2.2.1
  refine rk_callW (va_runV (As := [rk_v G.1 a1, rk_v G.1 a2]) (rest := st.map (rk_v G.1)) ⟨C.1, C.2.1, C.2.2.2.1, C.2.2.2.2.1, C.2.2.2.2.2.1⟩ hC ⟨callB_of 2 C.2.2.2.2.2.1 (rk_goodC hl.2.2.2.2.1) rfl rfl rfl (C.2.2.2.2.2.1 _ hl.2.2.2.1) (C.2.2.2.2.2.1 _ hl.1) hl.2.2.2.2.2 ⟨Nat.le_trans hdd g1, by show 8 + (ml' + 11) + 64 * d' ≤ _; omega⟩, C.2.2.2.2.2.1 _ hl.2.1, C.2.2.2.2.2.1 _ hl.2.2.1⟩ ⟨rk_blind, va_recv C.2.2.2.2.2.2.2.1 h1.1 hci (rk_obj h1 hS (rk_lt20 hci)), rk_pre C.2.2.2.2.2.2.2.1 h1 C.2.2.2.2.2.2.2.2.2.2.2.2.1 C.2.2.2.2.2.2.2.2.2.2.2.2.2 h2⟩ rfl rfl h3.1 rfl (lv_room (by rw [e9]; exact hr)) hd (by omega)) h2 (fun v n' S' I' J' R' H1 locs1 q1 q2 q3 => ?_)
  refine W.eq ?_ (rk_W_budget (by omega) (by omega) (k v n' S' I' J' R' q1 p e Rm s m args below meth c H1 locs1 _ _ ls C q2 q3 h3 (by omega)))
  rw [List.map_append]
  cases v <;> rfl
theorem AW_invV3 {a1 a2 a3 : Value} {o : Nat} {ci N N' : Nat} {TT : u_T} {y' : MethodName} {cc' : ByteArray} {ml' d' kc' ks' ix : Nat} {rt' : Option FieldType} {Q' : rk_Q} (hC : CW G l y' cc' ml' rt' d' kc' ks' [.ref o, a1, a2, a3] n S I J R Q') (hd : decode cc pc = .ok (.invokevirtual ix, 3)) (hl : rk_lv y.cls ix y' cc' ml' rt' 3) (hS : S o = (ci, N)) (hci : vwCl[ci]? = some (y'.cls, TT, N')) (hdd : d' + 1 ≤ d) (hml : ml' ≤ 45) (hr : (st.map fun v => v.category).sum ≤ 8) (k : ∀ (v : Option Value) (n' : Nat) (S' : rk_Sh) (I' : rk_I) (J' : rk_J) (R' : rk_R), Q' v n' S' I' J' R' → AW G l y cc ml rt d kc ks (pc + 3) lv (v.toList ++ st) n' S' I' J' R' Q) :
    AW G l y cc ml rt d (kc + kc') (ks + ks') pc lv (a3 :: a2 :: a1 :: .ref o :: st) n S I J R Q := by
  intro p e Rm s m args below meth c H locs cells slots ls C h1 h2 h3 h4
  have e9 : ∀ (vs : List Value), ((vs.map (rk_v G.1)).map fun v => v.category) = vs.map fun v => v.category := fun vs => by rw [List.map_map]; exact List.map_congr_left (fun v _ => rk_cat _ v)
  have g1 := C.2.2.2.2.2.2.2.2.2.2.1
  have g2 := C.2.2.2.2.2.2.2.2.2.2.2.1
  refine rk_callW (va_runV (As := [rk_v G.1 a1, rk_v G.1 a2, rk_v G.1 a3]) (rest := st.map (rk_v G.1)) ⟨C.1, C.2.1, C.2.2.2.1, C.2.2.2.2.1, C.2.2.2.2.2.1⟩ hC ⟨callB_of 3 C.2.2.2.2.2.1 (rk_goodC hl.2.2.2.2.1) rfl rfl rfl (C.2.2.2.2.2.1 _ hl.2.2.2.1) (C.2.2.2.2.2.1 _ hl.1) hl.2.2.2.2.2 ⟨Nat.le_trans hdd g1, by show 8 + (ml' + 11) + 64 * d' ≤ _; omega⟩, C.2.2.2.2.2.1 _ hl.2.1, C.2.2.2.2.2.1 _ hl.2.2.1⟩ ⟨rk_blind, va_recv C.2.2.2.2.2.2.2.1 h1.1 hci (rk_obj h1 hS (rk_lt20 hci)), rk_pre C.2.2.2.2.2.2.2.1 h1 C.2.2.2.2.2.2.2.2.2.2.2.2.1 C.2.2.2.2.2.2.2.2.2.2.2.2.2 h2⟩ rfl rfl h3.1 rfl (lv_room (by rw [e9]; exact hr)) hd (by omega)) h2 (fun v n' S' I' J' R' H1 locs1 q1 q2 q3 => ?_)
  refine W.eq ?_ (rk_W_budget (by omega) (by omega) (k v n' S' I' J' R' q1 p e Rm s m args below meth c H1 locs1 _ _ ls C q2 q3 h3 (by omega)))
  rw [List.map_append]
  cases v <;> rfl
theorem AW_invV3z {a1 a2 a3 : Value} {o : Nat} {ci N N' : Nat} {TT : u_T} {y' : MethodName} {cc' : ByteArray} {ml' d' ix : Nat} {rt' : Option FieldType} {Q' : rk_Q} (hC : CW G l y' cc' ml' rt' d' 0 0 [.ref o, a1, a2, a3] n S I J R Q') (hd : decode cc pc = .ok (.invokevirtual ix, 3)) (hl : rk_lv y.cls ix y' cc' ml' rt' 3) (hS : S o = (ci, N)) (hci : vwCl[ci]? = some (y'.cls, TT, N')) (hdd : d' + 1 ≤ d) (hml : ml' ≤ 45) (hr : (st.map fun v => v.category).sum ≤ 8) (k : ∀ (v : Option Value) (n' : Nat) (S' : rk_Sh) (I' : rk_I) (J' : rk_J) (R' : rk_R), Q' v n' S' I' J' R' → AW G l y cc ml rt d kc ks (pc + 3) lv (v.toList ++ st) n' S' I' J' R' Q) :
    AW G l y cc ml rt d kc ks pc lv (a3 :: a2 :: a1 :: .ref o :: st) n S I J R Q := by
  intro p e Rm s m args below meth c H locs cells slots ls C h1 h2 h3 h4
  have e9 : ∀ (vs : List Value), ((vs.map (rk_v G.1)).map fun v => v.category) = vs.map fun v => v.category := fun vs => by rw [List.map_map]; exact List.map_congr_left (fun v _ => rk_cat _ v)
  have g1 := C.2.2.2.2.2.2.2.2.2.2.1
  have g2 := C.2.2.2.2.2.2.2.2.2.2.2.1
  refine rk_callW (va_runV (As := [rk_v G.1 a1, rk_v G.1 a2, rk_v G.1 a3]) (rest := st.map (rk_v G.1)) ⟨C.1, C.2.1, C.2.2.2.1, C.2.2.2.2.1, C.2.2.2.2.2.1⟩ hC ⟨callB_of 3 C.2.2.2.2.2.1 (rk_goodC hl.2.2.2.2.1) rfl rfl rfl (C.2.2.2.2.2.1 _ hl.2.2.2.1) (C.2.2.2.2.2.1 _ hl.1) hl.2.2.2.2.2 ⟨Nat.le_trans hdd g1, by show 8 + (ml' + 11) + 64 * d' ≤ _; omega⟩, C.2.2.2.2.2.1 _ hl.2.1, C.2.2.2.2.2.1 _ hl.2.2.1⟩ ⟨rk_blind, va_recv C.2.2.2.2.2.2.2.1 h1.1 hci (rk_obj h1 hS (rk_lt20 hci)), rk_pre C.2.2.2.2.2.2.2.1 h1 C.2.2.2.2.2.2.2.2.2.2.2.2.1 C.2.2.2.2.2.2.2.2.2.2.2.2.2 h2⟩ rfl rfl h3.1 rfl (lv_room (by rw [e9]; exact hr)) hd (by omega)) h2 (fun v n' S' I' J' R' H1 locs1 q1 q2 q3 => ?_)
  refine W.eq ?_ (rk_W_budget (by omega) (by omega) (k v n' S' I' J' R' q1 p e Rm s m args below meth c H1 locs1 _ _ ls C q2 q3 h3 (by omega)))
  rw [List.map_append]
  cases v <;> rfl
theorem AW_invV4 {a1 a2 a3 a4 : Value} {o : Nat} {ci N N' : Nat} {TT : u_T} {y' : MethodName} {cc' : ByteArray} {ml' d' kc' ks' ix : Nat} {rt' : Option FieldType} {Q' : rk_Q} (hC : CW G l y' cc' ml' rt' d' kc' ks' [.ref o, a1, a2, a3, a4] n S I J R Q') (hd : decode cc pc = .ok (.invokevirtual ix, 3)) (hl : rk_lv y.cls ix y' cc' ml' rt' 4) (hS : S o = (ci, N)) (hci : vwCl[ci]? = some (y'.cls, TT, N')) (hdd : d' + 1 ≤ d) (hml : ml' ≤ 45) (hr : (st.map fun v => v.category).sum ≤ 8) (k : ∀ (v : Option Value) (n' : Nat) (S' : rk_Sh) (I' : rk_I) (J' : rk_J) (R' : rk_R), Q' v n' S' I' J' R' → AW G l y cc ml rt d kc ks (pc + 3) lv (v.toList ++ st) n' S' I' J' R' Q) :
    AW G l y cc ml rt d (kc + kc') (ks + ks') pc lv (a4 :: a3 :: a2 :: a1 :: .ref o :: st) n S I J R Q := by
  intro p e Rm s m args below meth c H locs cells slots ls C h1 h2 h3 h4
  have e9 : ∀ (vs : List Value), ((vs.map (rk_v G.1)).map fun v => v.category) = vs.map fun v => v.category := fun vs => by rw [List.map_map]; exact List.map_congr_left (fun v _ => rk_cat _ v)
  have g1 := C.2.2.2.2.2.2.2.2.2.2.1
  have g2 := C.2.2.2.2.2.2.2.2.2.2.2.1
  refine rk_callW (va_runV (As := [rk_v G.1 a1, rk_v G.1 a2, rk_v G.1 a3, rk_v G.1 a4]) (rest := st.map (rk_v G.1)) ⟨C.1, C.2.1, C.2.2.2.1, C.2.2.2.2.1, C.2.2.2.2.2.1⟩ hC ⟨callB_of 4 C.2.2.2.2.2.1 (rk_goodC hl.2.2.2.2.1) rfl rfl rfl (C.2.2.2.2.2.1 _ hl.2.2.2.1) (C.2.2.2.2.2.1 _ hl.1) hl.2.2.2.2.2 ⟨Nat.le_trans hdd g1, by show 8 + (ml' + 11) + 64 * d' ≤ _; omega⟩, C.2.2.2.2.2.1 _ hl.2.1, C.2.2.2.2.2.1 _ hl.2.2.1⟩ ⟨rk_blind, va_recv C.2.2.2.2.2.2.2.1 h1.1 hci (rk_obj h1 hS (rk_lt20 hci)), rk_pre C.2.2.2.2.2.2.2.1 h1 C.2.2.2.2.2.2.2.2.2.2.2.2.1 C.2.2.2.2.2.2.2.2.2.2.2.2.2 h2⟩ rfl rfl h3.1 rfl (lv_room (by rw [e9]; exact hr)) hd (by omega)) h2 (fun v n' S' I' J' R' H1 locs1 q1 q2 q3 => ?_)
  refine W.eq ?_ (rk_W_budget (by omega) (by omega) (k v n' S' I' J' R' q1 p e Rm s m args below meth c H1 locs1 _ _ ls C q2 q3 h3 (by omega)))
  rw [List.map_append]
  cases v <;> rfl
theorem AW_invV4z {a1 a2 a3 a4 : Value} {o : Nat} {ci N N' : Nat} {TT : u_T} {y' : MethodName} {cc' : ByteArray} {ml' d' ix : Nat} {rt' : Option FieldType} {Q' : rk_Q} (hC : CW G l y' cc' ml' rt' d' 0 0 [.ref o, a1, a2, a3, a4] n S I J R Q') (hd : decode cc pc = .ok (.invokevirtual ix, 3)) (hl : rk_lv y.cls ix y' cc' ml' rt' 4) (hS : S o = (ci, N)) (hci : vwCl[ci]? = some (y'.cls, TT, N')) (hdd : d' + 1 ≤ d) (hml : ml' ≤ 45) (hr : (st.map fun v => v.category).sum ≤ 8) (k : ∀ (v : Option Value) (n' : Nat) (S' : rk_Sh) (I' : rk_I) (J' : rk_J) (R' : rk_R), Q' v n' S' I' J' R' → AW G l y cc ml rt d kc ks (pc + 3) lv (v.toList ++ st) n' S' I' J' R' Q) :
    AW G l y cc ml rt d kc ks pc lv (a4 :: a3 :: a2 :: a1 :: .ref o :: st) n S I J R Q := by
  intro p e Rm s m args below meth c H locs cells slots ls C h1 h2 h3 h4
  have e9 : ∀ (vs : List Value), ((vs.map (rk_v G.1)).map fun v => v.category) = vs.map fun v => v.category := fun vs => by rw [List.map_map]; exact List.map_congr_left (fun v _ => rk_cat _ v)
  have g1 := C.2.2.2.2.2.2.2.2.2.2.1
  have g2 := C.2.2.2.2.2.2.2.2.2.2.2.1
  refine rk_callW (va_runV (As := [rk_v G.1 a1, rk_v G.1 a2, rk_v G.1 a3, rk_v G.1 a4]) (rest := st.map (rk_v G.1)) ⟨C.1, C.2.1, C.2.2.2.1, C.2.2.2.2.1, C.2.2.2.2.2.1⟩ hC ⟨callB_of 4 C.2.2.2.2.2.1 (rk_goodC hl.2.2.2.2.1) rfl rfl rfl (C.2.2.2.2.2.1 _ hl.2.2.2.1) (C.2.2.2.2.2.1 _ hl.1) hl.2.2.2.2.2 ⟨Nat.le_trans hdd g1, by show 8 + (ml' + 11) + 64 * d' ≤ _; omega⟩, C.2.2.2.2.2.1 _ hl.2.1, C.2.2.2.2.2.1 _ hl.2.2.1⟩ ⟨rk_blind, va_recv C.2.2.2.2.2.2.2.1 h1.1 hci (rk_obj h1 hS (rk_lt20 hci)), rk_pre C.2.2.2.2.2.2.2.1 h1 C.2.2.2.2.2.2.2.2.2.2.2.2.1 C.2.2.2.2.2.2.2.2.2.2.2.2.2 h2⟩ rfl rfl h3.1 rfl (lv_room (by rw [e9]; exact hr)) hd (by omega)) h2 (fun v n' S' I' J' R' H1 locs1 q1 q2 q3 => ?_)
  refine W.eq ?_ (rk_W_budget (by omega) (by omega) (k v n' S' I' J' R' q1 p e Rm s m args below meth c H1 locs1 _ _ ls C q2 q3 h3 (by omega)))
  rw [List.map_append]
  cases v <;> rfl
theorem AW_invV5 {a1 a2 a3 a4 a5 : Value} {o : Nat} {ci N N' : Nat} {TT : u_T} {y' : MethodName} {cc' : ByteArray} {ml' d' kc' ks' ix : Nat} {rt' : Option FieldType} {Q' : rk_Q} (hC : CW G l y' cc' ml' rt' d' kc' ks' [.ref o, a1, a2, a3, a4, a5] n S I J R Q') (hd : decode cc pc = .ok (.invokevirtual ix, 3)) (hl : rk_lv y.cls ix y' cc' ml' rt' 5) (hS : S o = (ci, N)) (hci : vwCl[ci]? = some (y'.cls, TT, N')) (hdd : d' + 1 ≤ d) (hml : ml' ≤ 45) (hr : (st.map fun v => v.category).sum ≤ 8) (k : ∀ (v : Option Value) (n' : Nat) (S' : rk_Sh) (I' : rk_I) (J' : rk_J) (R' : rk_R), Q' v n' S' I' J' R' → AW G l y cc ml rt d kc ks (pc + 3) lv (v.toList ++ st) n' S' I' J' R' Q) :
    AW G l y cc ml rt d (kc + kc') (ks + ks') pc lv (a5 :: a4 :: a3 :: a2 :: a1 :: .ref o :: st) n S I J R Q := by
  intro p e Rm s m args below meth c H locs cells slots ls C h1 h2 h3 h4
  have e9 : ∀ (vs : List Value), ((vs.map (rk_v G.1)).map fun v => v.category) = vs.map fun v => v.category := fun vs => by rw [List.map_map]; exact List.map_congr_left (fun v _ => rk_cat _ v)
  have g1 := C.2.2.2.2.2.2.2.2.2.2.1
  have g2 := C.2.2.2.2.2.2.2.2.2.2.2.1
  refine rk_callW (va_runV (As := [rk_v G.1 a1, rk_v G.1 a2, rk_v G.1 a3, rk_v G.1 a4, rk_v G.1 a5]) (rest := st.map (rk_v G.1)) ⟨C.1, C.2.1, C.2.2.2.1, C.2.2.2.2.1, C.2.2.2.2.2.1⟩ hC ⟨callB_of 5 C.2.2.2.2.2.1 (rk_goodC hl.2.2.2.2.1) rfl rfl rfl (C.2.2.2.2.2.1 _ hl.2.2.2.1) (C.2.2.2.2.2.1 _ hl.1) hl.2.2.2.2.2 ⟨Nat.le_trans hdd g1, by show 8 + (ml' + 11) + 64 * d' ≤ _; omega⟩, C.2.2.2.2.2.1 _ hl.2.1, C.2.2.2.2.2.1 _ hl.2.2.1⟩ ⟨rk_blind, va_recv C.2.2.2.2.2.2.2.1 h1.1 hci (rk_obj h1 hS (rk_lt20 hci)), rk_pre C.2.2.2.2.2.2.2.1 h1 C.2.2.2.2.2.2.2.2.2.2.2.2.1 C.2.2.2.2.2.2.2.2.2.2.2.2.2 h2⟩ rfl rfl h3.1 rfl (lv_room (by rw [e9]; exact hr)) hd (by omega)) h2 (fun v n' S' I' J' R' H1 locs1 q1 q2 q3 => ?_)
  refine W.eq ?_ (rk_W_budget (by omega) (by omega) (k v n' S' I' J' R' q1 p e Rm s m args below meth c H1 locs1 _ _ ls C q2 q3 h3 (by omega)))
  rw [List.map_append]
  cases v <;> rfl
theorem AW_invV5z {a1 a2 a3 a4 a5 : Value} {o : Nat} {ci N N' : Nat} {TT : u_T} {y' : MethodName} {cc' : ByteArray} {ml' d' ix : Nat} {rt' : Option FieldType} {Q' : rk_Q} (hC : CW G l y' cc' ml' rt' d' 0 0 [.ref o, a1, a2, a3, a4, a5] n S I J R Q') (hd : decode cc pc = .ok (.invokevirtual ix, 3)) (hl : rk_lv y.cls ix y' cc' ml' rt' 5) (hS : S o = (ci, N)) (hci : vwCl[ci]? = some (y'.cls, TT, N')) (hdd : d' + 1 ≤ d) (hml : ml' ≤ 45) (hr : (st.map fun v => v.category).sum ≤ 8) (k : ∀ (v : Option Value) (n' : Nat) (S' : rk_Sh) (I' : rk_I) (J' : rk_J) (R' : rk_R), Q' v n' S' I' J' R' → AW G l y cc ml rt d kc ks (pc + 3) lv (v.toList ++ st) n' S' I' J' R' Q) :
    AW G l y cc ml rt d kc ks pc lv (a5 :: a4 :: a3 :: a2 :: a1 :: .ref o :: st) n S I J R Q := by
  intro p e Rm s m args below meth c H locs cells slots ls C h1 h2 h3 h4
  have e9 : ∀ (vs : List Value), ((vs.map (rk_v G.1)).map fun v => v.category) = vs.map fun v => v.category := fun vs => by rw [List.map_map]; exact List.map_congr_left (fun v _ => rk_cat _ v)
  have g1 := C.2.2.2.2.2.2.2.2.2.2.1
  have g2 := C.2.2.2.2.2.2.2.2.2.2.2.1
  refine rk_callW (va_runV (As := [rk_v G.1 a1, rk_v G.1 a2, rk_v G.1 a3, rk_v G.1 a4, rk_v G.1 a5]) (rest := st.map (rk_v G.1)) ⟨C.1, C.2.1, C.2.2.2.1, C.2.2.2.2.1, C.2.2.2.2.2.1⟩ hC ⟨callB_of 5 C.2.2.2.2.2.1 (rk_goodC hl.2.2.2.2.1) rfl rfl rfl (C.2.2.2.2.2.1 _ hl.2.2.2.1) (C.2.2.2.2.2.1 _ hl.1) hl.2.2.2.2.2 ⟨Nat.le_trans hdd g1, by show 8 + (ml' + 11) + 64 * d' ≤ _; omega⟩, C.2.2.2.2.2.1 _ hl.2.1, C.2.2.2.2.2.1 _ hl.2.2.1⟩ ⟨rk_blind, va_recv C.2.2.2.2.2.2.2.1 h1.1 hci (rk_obj h1 hS (rk_lt20 hci)), rk_pre C.2.2.2.2.2.2.2.1 h1 C.2.2.2.2.2.2.2.2.2.2.2.2.1 C.2.2.2.2.2.2.2.2.2.2.2.2.2 h2⟩ rfl rfl h3.1 rfl (lv_room (by rw [e9]; exact hr)) hd (by omega)) h2 (fun v n' S' I' J' R' H1 locs1 q1 q2 q3 => ?_)
  refine W.eq ?_ (rk_W_budget (by omega) (by omega) (k v n' S' I' J' R' q1 p e Rm s m args below meth c H1 locs1 _ _ ls C q2 q3 h3 (by omega)))
  rw [List.map_append]
  cases v <;> rfl
theorem AW_invV6 {a1 a2 a3 a4 a5 a6 : Value} {o : Nat} {ci N N' : Nat} {TT : u_T} {y' : MethodName} {cc' : ByteArray} {ml' d' kc' ks' ix : Nat} {rt' : Option FieldType} {Q' : rk_Q} (hC : CW G l y' cc' ml' rt' d' kc' ks' [.ref o, a1, a2, a3, a4, a5, a6] n S I J R Q') (hd : decode cc pc = .ok (.invokevirtual ix, 3)) (hl : rk_lv y.cls ix y' cc' ml' rt' 6) (hS : S o = (ci, N)) (hci : vwCl[ci]? = some (y'.cls, TT, N')) (hdd : d' + 1 ≤ d) (hml : ml' ≤ 45) (hr : (st.map fun v => v.category).sum ≤ 8) (k : ∀ (v : Option Value) (n' : Nat) (S' : rk_Sh) (I' : rk_I) (J' : rk_J) (R' : rk_R), Q' v n' S' I' J' R' → AW G l y cc ml rt d kc ks (pc + 3) lv (v.toList ++ st) n' S' I' J' R' Q) :
    AW G l y cc ml rt d (kc + kc') (ks + ks') pc lv (a6 :: a5 :: a4 :: a3 :: a2 :: a1 :: .ref o :: st) n S I J R Q := by
  intro p e Rm s m args below meth c H locs cells slots ls C h1 h2 h3 h4
  have e9 : ∀ (vs : List Value), ((vs.map (rk_v G.1)).map fun v => v.category) = vs.map fun v => v.category := fun vs => by rw [List.map_map]; exact List.map_congr_left (fun v _ => rk_cat _ v)
  have g1 := C.2.2.2.2.2.2.2.2.2.2.1
  have g2 := C.2.2.2.2.2.2.2.2.2.2.2.1
  refine rk_callW (va_runV (As := [rk_v G.1 a1, rk_v G.1 a2, rk_v G.1 a3, rk_v G.1 a4, rk_v G.1 a5, rk_v G.1 a6]) (rest := st.map (rk_v G.1)) ⟨C.1, C.2.1, C.2.2.2.1, C.2.2.2.2.1, C.2.2.2.2.2.1⟩ hC ⟨callB_of 6 C.2.2.2.2.2.1 (rk_goodC hl.2.2.2.2.1) rfl rfl rfl (C.2.2.2.2.2.1 _ hl.2.2.2.1) (C.2.2.2.2.2.1 _ hl.1) hl.2.2.2.2.2 ⟨Nat.le_trans hdd g1, by show 8 + (ml' + 11) + 64 * d' ≤ _; omega⟩, C.2.2.2.2.2.1 _ hl.2.1, C.2.2.2.2.2.1 _ hl.2.2.1⟩ ⟨rk_blind, va_recv C.2.2.2.2.2.2.2.1 h1.1 hci (rk_obj h1 hS (rk_lt20 hci)), rk_pre C.2.2.2.2.2.2.2.1 h1 C.2.2.2.2.2.2.2.2.2.2.2.2.1 C.2.2.2.2.2.2.2.2.2.2.2.2.2 h2⟩ rfl rfl h3.1 rfl (lv_room (by rw [e9]; exact hr)) hd (by omega)) h2 (fun v n' S' I' J' R' H1 locs1 q1 q2 q3 => ?_)
  refine W.eq ?_ (rk_W_budget (by omega) (by omega) (k v n' S' I' J' R' q1 p e Rm s m args below meth c H1 locs1 _ _ ls C q2 q3 h3 (by omega)))
  rw [List.map_append]
  cases v <;> rfl
theorem AW_invV6z {a1 a2 a3 a4 a5 a6 : Value} {o : Nat} {ci N N' : Nat} {TT : u_T} {y' : MethodName} {cc' : ByteArray} {ml' d' ix : Nat} {rt' : Option FieldType} {Q' : rk_Q} (hC : CW G l y' cc' ml' rt' d' 0 0 [.ref o, a1, a2, a3, a4, a5, a6] n S I J R Q') (hd : decode cc pc = .ok (.invokevirtual ix, 3)) (hl : rk_lv y.cls ix y' cc' ml' rt' 6) (hS : S o = (ci, N)) (hci : vwCl[ci]? = some (y'.cls, TT, N')) (hdd : d' + 1 ≤ d) (hml : ml' ≤ 45) (hr : (st.map fun v => v.category).sum ≤ 8) (k : ∀ (v : Option Value) (n' : Nat) (S' : rk_Sh) (I' : rk_I) (J' : rk_J) (R' : rk_R), Q' v n' S' I' J' R' → AW G l y cc ml rt d kc ks (pc + 3) lv (v.toList ++ st) n' S' I' J' R' Q) :
    AW G l y cc ml rt d kc ks pc lv (a6 :: a5 :: a4 :: a3 :: a2 :: a1 :: .ref o :: st) n S I J R Q := by
  intro p e Rm s m args below meth c H locs cells slots ls C h1 h2 h3 h4
  have e9 : ∀ (vs : List Value), ((vs.map (rk_v G.1)).map fun v => v.category) = vs.map fun v => v.category := fun vs => by rw [List.map_map]; exact List.map_congr_left (fun v _ => rk_cat _ v)
  have g1 := C.2.2.2.2.2.2.2.2.2.2.1
  have g2 := C.2.2.2.2.2.2.2.2.2.2.2.1
  refine rk_callW (va_runV (As := [rk_v G.1 a1, rk_v G.1 a2, rk_v G.1 a3, rk_v G.1 a4, rk_v G.1 a5, rk_v G.1 a6]) (rest := st.map (rk_v G.1)) ⟨C.1, C.2.1, C.2.2.2.1, C.2.2.2.2.1, C.2.2.2.2.2.1⟩ hC ⟨callB_of 6 C.2.2.2.2.2.1 (rk_goodC hl.2.2.2.2.1) rfl rfl rfl (C.2.2.2.2.2.1 _ hl.2.2.2.1) (C.2.2.2.2.2.1 _ hl.1) hl.2.2.2.2.2 ⟨Nat.le_trans hdd g1, by show 8 + (ml' + 11) + 64 * d' ≤ _; omega⟩, C.2.2.2.2.2.1 _ hl.2.1, C.2.2.2.2.2.1 _ hl.2.2.1⟩ ⟨rk_blind, va_recv C.2.2.2.2.2.2.2.1 h1.1 hci (rk_obj h1 hS (rk_lt20 hci)), rk_pre C.2.2.2.2.2.2.2.1 h1 C.2.2.2.2.2.2.2.2.2.2.2.2.1 C.2.2.2.2.2.2.2.2.2.2.2.2.2 h2⟩ rfl rfl h3.1 rfl (lv_room (by rw [e9]; exact hr)) hd (by omega)) h2 (fun v n' S' I' J' R' H1 locs1 q1 q2 q3 => ?_)
  refine W.eq ?_ (rk_W_budget (by omega) (by omega) (k v n' S' I' J' R' q1 p e Rm s m args below meth c H1 locs1 _ _ ls C q2 q3 h3 (by omega)))
  rw [List.map_append]
  cases v <;> rfl
theorem AW_invV7 {a1 a2 a3 a4 a5 a6 a7 : Value} {o : Nat} {ci N N' : Nat} {TT : u_T} {y' : MethodName} {cc' : ByteArray} {ml' d' kc' ks' ix : Nat} {rt' : Option FieldType} {Q' : rk_Q} (hC : CW G l y' cc' ml' rt' d' kc' ks' [.ref o, a1, a2, a3, a4, a5, a6, a7] n S I J R Q') (hd : decode cc pc = .ok (.invokevirtual ix, 3)) (hl : rk_lv y.cls ix y' cc' ml' rt' 7) (hS : S o = (ci, N)) (hci : vwCl[ci]? = some (y'.cls, TT, N')) (hdd : d' + 1 ≤ d) (hml : ml' ≤ 45) (hr : (st.map fun v => v.category).sum ≤ 8) (k : ∀ (v : Option Value) (n' : Nat) (S' : rk_Sh) (I' : rk_I) (J' : rk_J) (R' : rk_R), Q' v n' S' I' J' R' → AW G l y cc ml rt d kc ks (pc + 3) lv (v.toList ++ st) n' S' I' J' R' Q) :
    AW G l y cc ml rt d (kc + kc') (ks + ks') pc lv (a7 :: a6 :: a5 :: a4 :: a3 :: a2 :: a1 :: .ref o :: st) n S I J R Q := by
  intro p e Rm s m args below meth c H locs cells slots ls C h1 h2 h3 h4
  have e9 : ∀ (vs : List Value), ((vs.map (rk_v G.1)).map fun v => v.category) = vs.map fun v => v.category := fun vs => by rw [List.map_map]; exact List.map_congr_left (fun v _ => rk_cat _ v)
  have g1 := C.2.2.2.2.2.2.2.2.2.2.1
  have g2 := C.2.2.2.2.2.2.2.2.2.2.2.1
  refine rk_callW (va_runV (As := [rk_v G.1 a1, rk_v G.1 a2, rk_v G.1 a3, rk_v G.1 a4, rk_v G.1 a5, rk_v G.1 a6, rk_v G.1 a7]) (rest := st.map (rk_v G.1)) ⟨C.1, C.2.1, C.2.2.2.1, C.2.2.2.2.1, C.2.2.2.2.2.1⟩ hC ⟨callB_of 7 C.2.2.2.2.2.1 (rk_goodC hl.2.2.2.2.1) rfl rfl rfl (C.2.2.2.2.2.1 _ hl.2.2.2.1) (C.2.2.2.2.2.1 _ hl.1) hl.2.2.2.2.2 ⟨Nat.le_trans hdd g1, by show 8 + (ml' + 11) + 64 * d' ≤ _; omega⟩, C.2.2.2.2.2.1 _ hl.2.1, C.2.2.2.2.2.1 _ hl.2.2.1⟩ ⟨rk_blind, va_recv C.2.2.2.2.2.2.2.1 h1.1 hci (rk_obj h1 hS (rk_lt20 hci)), rk_pre C.2.2.2.2.2.2.2.1 h1 C.2.2.2.2.2.2.2.2.2.2.2.2.1 C.2.2.2.2.2.2.2.2.2.2.2.2.2 h2⟩ rfl rfl h3.1 rfl (lv_room (by rw [e9]; exact hr)) hd (by omega)) h2 (fun v n' S' I' J' R' H1 locs1 q1 q2 q3 => ?_)
  refine W.eq ?_ (rk_W_budget (by omega) (by omega) (k v n' S' I' J' R' q1 p e Rm s m args below meth c H1 locs1 _ _ ls C q2 q3 h3 (by omega)))
  rw [List.map_append]
  cases v <;> rfl
theorem AW_invV7z {a1 a2 a3 a4 a5 a6 a7 : Value} {o : Nat} {ci N N' : Nat} {TT : u_T} {y' : MethodName} {cc' : ByteArray} {ml' d' ix : Nat} {rt' : Option FieldType} {Q' : rk_Q} (hC : CW G l y' cc' ml' rt' d' 0 0 [.ref o, a1, a2, a3, a4, a5, a6, a7] n S I J R Q') (hd : decode cc pc = .ok (.invokevirtual ix, 3)) (hl : rk_lv y.cls ix y' cc' ml' rt' 7) (hS : S o = (ci, N)) (hci : vwCl[ci]? = some (y'.cls, TT, N')) (hdd : d' + 1 ≤ d) (hml : ml' ≤ 45) (hr : (st.map fun v => v.category).sum ≤ 8) (k : ∀ (v : Option Value) (n' : Nat) (S' : rk_Sh) (I' : rk_I) (J' : rk_J) (R' : rk_R), Q' v n' S' I' J' R' → AW G l y cc ml rt d kc ks (pc + 3) lv (v.toList ++ st) n' S' I' J' R' Q) :
    AW G l y cc ml rt d kc ks pc lv (a7 :: a6 :: a5 :: a4 :: a3 :: a2 :: a1 :: .ref o :: st) n S I J R Q := by
  intro p e Rm s m args below meth c H locs cells slots ls C h1 h2 h3 h4
  have e9 : ∀ (vs : List Value), ((vs.map (rk_v G.1)).map fun v => v.category) = vs.map fun v => v.category := fun vs => by rw [List.map_map]; exact List.map_congr_left (fun v _ => rk_cat _ v)
  have g1 := C.2.2.2.2.2.2.2.2.2.2.1
  have g2 := C.2.2.2.2.2.2.2.2.2.2.2.1
  refine rk_callW (va_runV (As := [rk_v G.1 a1, rk_v G.1 a2, rk_v G.1 a3, rk_v G.1 a4, rk_v G.1 a5, rk_v G.1 a6, rk_v G.1 a7]) (rest := st.map (rk_v G.1)) ⟨C.1, C.2.1, C.2.2.2.1, C.2.2.2.2.1, C.2.2.2.2.2.1⟩ hC ⟨callB_of 7 C.2.2.2.2.2.1 (rk_goodC hl.2.2.2.2.1) rfl rfl rfl (C.2.2.2.2.2.1 _ hl.2.2.2.1) (C.2.2.2.2.2.1 _ hl.1) hl.2.2.2.2.2 ⟨Nat.le_trans hdd g1, by show 8 + (ml' + 11) + 64 * d' ≤ _; omega⟩, C.2.2.2.2.2.1 _ hl.2.1, C.2.2.2.2.2.1 _ hl.2.2.1⟩ ⟨rk_blind, va_recv C.2.2.2.2.2.2.2.1 h1.1 hci (rk_obj h1 hS (rk_lt20 hci)), rk_pre C.2.2.2.2.2.2.2.1 h1 C.2.2.2.2.2.2.2.2.2.2.2.2.1 C.2.2.2.2.2.2.2.2.2.2.2.2.2 h2⟩ rfl rfl h3.1 rfl (lv_room (by rw [e9]; exact hr)) hd (by omega)) h2 (fun v n' S' I' J' R' H1 locs1 q1 q2 q3 => ?_)
  refine W.eq ?_ (rk_W_budget (by omega) (by omega) (k v n' S' I' J' R' q1 p e Rm s m args below meth c H1 locs1 _ _ ls C q2 q3 h3 (by omega)))
  rw [List.map_append]
  cases v <;> rfl
theorem AW_invS0  {y' : MethodName} {cc' : ByteArray} {ml' d' kc' ks' ix : Nat} {rt' : Option FieldType} {Q' : rk_Q} (hC : CW G l y' cc' ml' rt' d' kc' ks' [] n S I J R Q') (hd : decode cc pc = .ok (.invokestatic ix, 3)) (hl : rk_ls y.cls ix y' cc' ml' rt' 0) (hdd : d' + 1 ≤ d) (hml : ml' ≤ 45) (hr : (st.map fun v => v.category).sum ≤ 8) (k : ∀ (v : Option Value) (n' : Nat) (S' : rk_Sh) (I' : rk_I) (J' : rk_J) (R' : rk_R), Q' v n' S' I' J' R' → AW G l y cc ml rt d kc ks (pc + 3) lv (v.toList ++ st) n' S' I' J' R' Q) :
    AW G l y cc ml rt d (kc + kc') (ks + ks') pc lv (st) n S I J R Q := by
  intro p e Rm s m args below meth c H locs cells slots ls C h1 h2 h3 h4
  have e9 : ∀ (vs : List Value), ((vs.map (rk_v G.1)).map fun v => v.category) = vs.map fun v => v.category := fun vs => by rw [List.map_map]; exact List.map_congr_left (fun v _ => rk_cat _ v)
  have g1 := C.2.2.2.2.2.2.2.2.2.2.1
  have g2 := C.2.2.2.2.2.2.2.2.2.2.2.1
  refine rk_callW (va_runS (As := []) (rest := st.map (rk_v G.1)) ⟨C.1, C.2.1, C.2.2.2.1, C.2.2.2.2.1, C.2.2.2.2.2.1⟩ hC ⟨callB_of 0 C.2.2.2.2.2.1 (rk_goodC hl.2.2.2.1) rfl rfl rfl (C.2.2.2.2.2.1 _ hl.2.2.1) (C.2.2.2.2.2.1 _ hl.1) hl.2.2.2.2 ⟨Nat.le_trans hdd g1, by show 8 + (ml' + 11) + 64 * d' ≤ _; omega⟩, C.2.2.2.2.2.1 _ hl.2.1⟩ ⟨rk_blind, rk_pre C.2.2.2.2.2.2.2.1 h1 C.2.2.2.2.2.2.2.2.2.2.2.2.1 C.2.2.2.2.2.2.2.2.2.2.2.2.2 h2⟩ rfl rfl h3.1 rfl (lv_room (by rw [e9]; exact hr)) hd (by omega)) h2 (fun v n' S' I' J' R' H1 locs1 q1 q2 q3 => ?_)
  refine W.eq ?_ (rk_W_budget (by omega) (by omega) (k v n' S' I' J' R' q1 p e Rm s m args below meth c H1 locs1 _ _ ls C q2 q3 h3 (by omega)))
  rw [List.map_append]
  cases v <;> rfl
theorem AW_invS0z  {y' : MethodName} {cc' : ByteArray} {ml' d' ix : Nat} {rt' : Option FieldType} {Q' : rk_Q} (hC : CW G l y' cc' ml' rt' d' 0 0 [] n S I J R Q') (hd : decode cc pc = .ok (.invokestatic ix, 3)) (hl : rk_ls y.cls ix y' cc' ml' rt' 0) (hdd : d' + 1 ≤ d) (hml : ml' ≤ 45) (hr : (st.map fun v => v.category).sum ≤ 8) (k : ∀ (v : Option Value) (n' : Nat) (S' : rk_Sh) (I' : rk_I) (J' : rk_J) (R' : rk_R), Q' v n' S' I' J' R' → AW G l y cc ml rt d kc ks (pc + 3) lv (v.toList ++ st) n' S' I' J' R' Q) :
    AW G l y cc ml rt d kc ks pc lv (st) n S I J R Q := by
  intro p e Rm s m args below meth c H locs cells slots ls C h1 h2 h3 h4
  have e9 : ∀ (vs : List Value), ((vs.map (rk_v G.1)).map fun v => v.category) = vs.map fun v => v.category := fun vs => by rw [List.map_map]; exact List.map_congr_left (fun v _ => rk_cat _ v)
  have g1 := C.2.2.2.2.2.2.2.2.2.2.1
  have g2 := C.2.2.2.2.2.2.2.2.2.2.2.1
  refine rk_callW (va_runS (As := []) (rest := st.map (rk_v G.1)) ⟨C.1, C.2.1, C.2.2.2.1, C.2.2.2.2.1, C.2.2.2.2.2.1⟩ hC ⟨callB_of 0 C.2.2.2.2.2.1 (rk_goodC hl.2.2.2.1) rfl rfl rfl (C.2.2.2.2.2.1 _ hl.2.2.1) (C.2.2.2.2.2.1 _ hl.1) hl.2.2.2.2 ⟨Nat.le_trans hdd g1, by show 8 + (ml' + 11) + 64 * d' ≤ _; omega⟩, C.2.2.2.2.2.1 _ hl.2.1⟩ ⟨rk_blind, rk_pre C.2.2.2.2.2.2.2.1 h1 C.2.2.2.2.2.2.2.2.2.2.2.2.1 C.2.2.2.2.2.2.2.2.2.2.2.2.2 h2⟩ rfl rfl h3.1 rfl (lv_room (by rw [e9]; exact hr)) hd (by omega)) h2 (fun v n' S' I' J' R' H1 locs1 q1 q2 q3 => ?_)
  refine W.eq ?_ (rk_W_budget (by omega) (by omega) (k v n' S' I' J' R' q1 p e Rm s m args below meth c H1 locs1 _ _ ls C q2 q3 h3 (by omega)))
  rw [List.map_append]
  cases v <;> rfl
theorem AW_invS1 {a1 : Value}  {y' : MethodName} {cc' : ByteArray} {ml' d' kc' ks' ix : Nat} {rt' : Option FieldType} {Q' : rk_Q} (hC : CW G l y' cc' ml' rt' d' kc' ks' [a1] n S I J R Q') (hd : decode cc pc = .ok (.invokestatic ix, 3)) (hl : rk_ls y.cls ix y' cc' ml' rt' 1) (hdd : d' + 1 ≤ d) (hml : ml' ≤ 45) (hr : (st.map fun v => v.category).sum ≤ 8) (k : ∀ (v : Option Value) (n' : Nat) (S' : rk_Sh) (I' : rk_I) (J' : rk_J) (R' : rk_R), Q' v n' S' I' J' R' → AW G l y cc ml rt d kc ks (pc + 3) lv (v.toList ++ st) n' S' I' J' R' Q) :
    AW G l y cc ml rt d (kc + kc') (ks + ks') pc lv (a1 :: st) n S I J R Q := by
  intro p e Rm s m args below meth c H locs cells slots ls C h1 h2 h3 h4
  have e9 : ∀ (vs : List Value), ((vs.map (rk_v G.1)).map fun v => v.category) = vs.map fun v => v.category := fun vs => by rw [List.map_map]; exact List.map_congr_left (fun v _ => rk_cat _ v)
  have g1 := C.2.2.2.2.2.2.2.2.2.2.1
  have g2 := C.2.2.2.2.2.2.2.2.2.2.2.1
  refine rk_callW (va_runS (As := [rk_v G.1 a1]) (rest := st.map (rk_v G.1)) ⟨C.1, C.2.1, C.2.2.2.1, C.2.2.2.2.1, C.2.2.2.2.2.1⟩ hC ⟨callB_of 1 C.2.2.2.2.2.1 (rk_goodC hl.2.2.2.1) rfl rfl rfl (C.2.2.2.2.2.1 _ hl.2.2.1) (C.2.2.2.2.2.1 _ hl.1) hl.2.2.2.2 ⟨Nat.le_trans hdd g1, by show 8 + (ml' + 11) + 64 * d' ≤ _; omega⟩, C.2.2.2.2.2.1 _ hl.2.1⟩ ⟨rk_blind, rk_pre C.2.2.2.2.2.2.2.1 h1 C.2.2.2.2.2.2.2.2.2.2.2.2.1 C.2.2.2.2.2.2.2.2.2.2.2.2.2 h2⟩ rfl rfl h3.1 rfl (lv_room (by rw [e9]; exact hr)) hd (by omega)) h2 (fun v n' S' I' J' R' H1 locs1 q1 q2 q3 => ?_)
  refine W.eq ?_ (rk_W_budget (by omega) (by omega) (k v n' S' I' J' R' q1 p e Rm s m args below meth c H1 locs1 _ _ ls C q2 q3 h3 (by omega)))
  rw [List.map_append]
  cases v <;> rfl
theorem AW_invS1z {a1 : Value}  {y' : MethodName} {cc' : ByteArray} {ml' d' ix : Nat} {rt' : Option FieldType} {Q' : rk_Q} (hC : CW G l y' cc' ml' rt' d' 0 0 [a1] n S I J R Q') (hd : decode cc pc = .ok (.invokestatic ix, 3)) (hl : rk_ls y.cls ix y' cc' ml' rt' 1) (hdd : d' + 1 ≤ d) (hml : ml' ≤ 45) (hr : (st.map fun v => v.category).sum ≤ 8) (k : ∀ (v : Option Value) (n' : Nat) (S' : rk_Sh) (I' : rk_I) (J' : rk_J) (R' : rk_R), Q' v n' S' I' J' R' → AW G l y cc ml rt d kc ks (pc + 3) lv (v.toList ++ st) n' S' I' J' R' Q) :
    AW G l y cc ml rt d kc ks pc lv (a1 :: st) n S I J R Q := by
  intro p e Rm s m args below meth c H locs cells slots ls C h1 h2 h3 h4
  have e9 : ∀ (vs : List Value), ((vs.map (rk_v G.1)).map fun v => v.category) = vs.map fun v => v.category := fun vs => by rw [List.map_map]; exact List.map_congr_left (fun v _ => rk_cat _ v)
  have g1 := C.2.2.2.2.2.2.2.2.2.2.1
  have g2 := C.2.2.2.2.2.2.2.2.2.2.2.1
  refine rk_callW (va_runS (As := [rk_v G.1 a1]) (rest := st.map (rk_v G.1)) ⟨C.1, C.2.1, C.2.2.2.1, C.2.2.2.2.1, C.2.2.2.2.2.1⟩ hC ⟨callB_of 1 C.2.2.2.2.2.1 (rk_goodC hl.2.2.2.1) rfl rfl rfl (C.2.2.2.2.2.1 _ hl.2.2.1) (C.2.2.2.2.2.1 _ hl.1) hl.2.2.2.2 ⟨Nat.le_trans hdd g1, by show 8 + (ml' + 11) + 64 * d' ≤ _; omega⟩, C.2.2.2.2.2.1 _ hl.2.1⟩ ⟨rk_blind, rk_pre C.2.2.2.2.2.2.2.1 h1 C.2.2.2.2.2.2.2.2.2.2.2.2.1 C.2.2.2.2.2.2.2.2.2.2.2.2.2 h2⟩ rfl rfl h3.1 rfl (lv_room (by rw [e9]; exact hr)) hd (by omega)) h2 (fun v n' S' I' J' R' H1 locs1 q1 q2 q3 => ?_)
  refine W.eq ?_ (rk_W_budget (by omega) (by omega) (k v n' S' I' J' R' q1 p e Rm s m args below meth c H1 locs1 _ _ ls C q2 q3 h3 (by omega)))
  rw [List.map_append]
  cases v <;> rfl
theorem AW_invS2 {a1 a2 : Value}  {y' : MethodName} {cc' : ByteArray} {ml' d' kc' ks' ix : Nat} {rt' : Option FieldType} {Q' : rk_Q} (hC : CW G l y' cc' ml' rt' d' kc' ks' [a1, a2] n S I J R Q') (hd : decode cc pc = .ok (.invokestatic ix, 3)) (hl : rk_ls y.cls ix y' cc' ml' rt' 2) (hdd : d' + 1 ≤ d) (hml : ml' ≤ 45) (hr : (st.map fun v => v.category).sum ≤ 8) (k : ∀ (v : Option Value) (n' : Nat) (S' : rk_Sh) (I' : rk_I) (J' : rk_J) (R' : rk_R), Q' v n' S' I' J' R' → AW G l y cc ml rt d kc ks (pc + 3) lv (v.toList ++ st) n' S' I' J' R' Q) :
    AW G l y cc ml rt d (kc + kc') (ks + ks') pc lv (a2 :: a1 :: st) n S I J R Q := by
  intro p e Rm s m args below meth c H locs cells slots ls C h1 h2 h3 h4
  have e9 : ∀ (vs : List Value), ((vs.map (rk_v G.1)).map fun v => v.category) = vs.map fun v => v.category := fun vs => by rw [List.map_map]; exact List.map_congr_left (fun v _ => rk_cat _ v)
  have g1 := C.2.2.2.2.2.2.2.2.2.2.1
  have g2 := C.2.2.2.2.2.2.2.2.2.2.2.1
  refine rk_callW (va_runS (As := [rk_v G.1 a1, rk_v G.1 a2]) (rest := st.map (rk_v G.1)) ⟨C.1, C.2.1, C.2.2.2.1, C.2.2.2.2.1, C.2.2.2.2.2.1⟩ hC ⟨callB_of 2 C.2.2.2.2.2.1 (rk_goodC hl.2.2.2.1) rfl rfl rfl (C.2.2.2.2.2.1 _ hl.2.2.1) (C.2.2.2.2.2.1 _ hl.1) hl.2.2.2.2 ⟨Nat.le_trans hdd g1, by show 8 + (ml' + 11) + 64 * d' ≤ _; omega⟩, C.2.2.2.2.2.1 _ hl.2.1⟩ ⟨rk_blind, rk_pre C.2.2.2.2.2.2.2.1 h1 C.2.2.2.2.2.2.2.2.2.2.2.2.1 C.2.2.2.2.2.2.2.2.2.2.2.2.2 h2⟩ rfl rfl h3.1 rfl (lv_room (by rw [e9]; exact hr)) hd (by omega)) h2 (fun v n' S' I' J' R' H1 locs1 q1 q2 q3 => ?_)
  refine W.eq ?_ (rk_W_budget (by omega) (by omega) (k v n' S' I' J' R' q1 p e Rm s m args below meth c H1 locs1 _ _ ls C q2 q3 h3 (by omega)))
  rw [List.map_append]
  cases v <;> rfl
theorem AW_invS2z {a1 a2 : Value}  {y' : MethodName} {cc' : ByteArray} {ml' d' ix : Nat} {rt' : Option FieldType} {Q' : rk_Q} (hC : CW G l y' cc' ml' rt' d' 0 0 [a1, a2] n S I J R Q') (hd : decode cc pc = .ok (.invokestatic ix, 3)) (hl : rk_ls y.cls ix y' cc' ml' rt' 2) (hdd : d' + 1 ≤ d) (hml : ml' ≤ 45) (hr : (st.map fun v => v.category).sum ≤ 8) (k : ∀ (v : Option Value) (n' : Nat) (S' : rk_Sh) (I' : rk_I) (J' : rk_J) (R' : rk_R), Q' v n' S' I' J' R' → AW G l y cc ml rt d kc ks (pc + 3) lv (v.toList ++ st) n' S' I' J' R' Q) :
    AW G l y cc ml rt d kc ks pc lv (a2 :: a1 :: st) n S I J R Q := by
  intro p e Rm s m args below meth c H locs cells slots ls C h1 h2 h3 h4
  have e9 : ∀ (vs : List Value), ((vs.map (rk_v G.1)).map fun v => v.category) = vs.map fun v => v.category := fun vs => by rw [List.map_map]; exact List.map_congr_left (fun v _ => rk_cat _ v)
  have g1 := C.2.2.2.2.2.2.2.2.2.2.1
  have g2 := C.2.2.2.2.2.2.2.2.2.2.2.1
  refine rk_callW (va_runS (As := [rk_v G.1 a1, rk_v G.1 a2]) (rest := st.map (rk_v G.1)) ⟨C.1, C.2.1, C.2.2.2.1, C.2.2.2.2.1, C.2.2.2.2.2.1⟩ hC ⟨callB_of 2 C.2.2.2.2.2.1 (rk_goodC hl.2.2.2.1) rfl rfl rfl (C.2.2.2.2.2.1 _ hl.2.2.1) (C.2.2.2.2.2.1 _ hl.1) hl.2.2.2.2 ⟨Nat.le_trans hdd g1, by show 8 + (ml' + 11) + 64 * d' ≤ _; omega⟩, C.2.2.2.2.2.1 _ hl.2.1⟩ ⟨rk_blind, rk_pre C.2.2.2.2.2.2.2.1 h1 C.2.2.2.2.2.2.2.2.2.2.2.2.1 C.2.2.2.2.2.2.2.2.2.2.2.2.2 h2⟩ rfl rfl h3.1 rfl (lv_room (by rw [e9]; exact hr)) hd (by omega)) h2 (fun v n' S' I' J' R' H1 locs1 q1 q2 q3 => ?_)
  refine W.eq ?_ (rk_W_budget (by omega) (by omega) (k v n' S' I' J' R' q1 p e Rm s m args below meth c H1 locs1 _ _ ls C q2 q3 h3 (by omega)))
  rw [List.map_append]
  cases v <;> rfl
theorem AW_invS3 {a1 a2 a3 : Value}  {y' : MethodName} {cc' : ByteArray} {ml' d' kc' ks' ix : Nat} {rt' : Option FieldType} {Q' : rk_Q} (hC : CW G l y' cc' ml' rt' d' kc' ks' [a1, a2, a3] n S I J R Q') (hd : decode cc pc = .ok (.invokestatic ix, 3)) (hl : rk_ls y.cls ix y' cc' ml' rt' 3) (hdd : d' + 1 ≤ d) (hml : ml' ≤ 45) (hr : (st.map fun v => v.category).sum ≤ 8) (k : ∀ (v : Option Value) (n' : Nat) (S' : rk_Sh) (I' : rk_I) (J' : rk_J) (R' : rk_R), Q' v n' S' I' J' R' → AW G l y cc ml rt d kc ks (pc + 3) lv (v.toList ++ st) n' S' I' J' R' Q) :
    AW G l y cc ml rt d (kc + kc') (ks + ks') pc lv (a3 :: a2 :: a1 :: st) n S I J R Q := by
  intro p e Rm s m args below meth c H locs cells slots ls C h1 h2 h3 h4
  have e9 : ∀ (vs : List Value), ((vs.map (rk_v G.1)).map fun v => v.category) = vs.map fun v => v.category := fun vs => by rw [List.map_map]; exact List.map_congr_left (fun v _ => rk_cat _ v)
  have g1 := C.2.2.2.2.2.2.2.2.2.2.1
  have g2 := C.2.2.2.2.2.2.2.2.2.2.2.1
  refine rk_callW (va_runS (As := [rk_v G.1 a1, rk_v G.1 a2, rk_v G.1 a3]) (rest := st.map (rk_v G.1)) ⟨C.1, C.2.1, C.2.2.2.1, C.2.2.2.2.1, C.2.2.2.2.2.1⟩ hC ⟨callB_of 3 C.2.2.2.2.2.1 (rk_goodC hl.2.2.2.1) rfl rfl rfl (C.2.2.2.2.2.1 _ hl.2.2.1) (C.2.2.2.2.2.1 _ hl.1) hl.2.2.2.2 ⟨Nat.le_trans hdd g1, by show 8 + (ml' + 11) + 64 * d' ≤ _; omega⟩, C.2.2.2.2.2.1 _ hl.2.1⟩ ⟨rk_blind, rk_pre C.2.2.2.2.2.2.2.1 h1 C.2.2.2.2.2.2.2.2.2.2.2.2.1 C.2.2.2.2.2.2.2.2.2.2.2.2.2 h2⟩ rfl rfl h3.1 rfl (lv_room (by rw [e9]; exact hr)) hd (by omega)) h2 (fun v n' S' I' J' R' H1 locs1 q1 q2 q3 => ?_)
  refine W.eq ?_ (rk_W_budget (by omega) (by omega) (k v n' S' I' J' R' q1 p e Rm s m args below meth c H1 locs1 _ _ ls C q2 q3 h3 (by omega)))
  rw [List.map_append]
  cases v <;> rfl
theorem AW_invS3z {a1 a2 a3 : Value}  {y' : MethodName} {cc' : ByteArray} {ml' d' ix : Nat} {rt' : Option FieldType} {Q' : rk_Q} (hC : CW G l y' cc' ml' rt' d' 0 0 [a1, a2, a3] n S I J R Q') (hd : decode cc pc = .ok (.invokestatic ix, 3)) (hl : rk_ls y.cls ix y' cc' ml' rt' 3) (hdd : d' + 1 ≤ d) (hml : ml' ≤ 45) (hr : (st.map fun v => v.category).sum ≤ 8) (k : ∀ (v : Option Value) (n' : Nat) (S' : rk_Sh) (I' : rk_I) (J' : rk_J) (R' : rk_R), Q' v n' S' I' J' R' → AW G l y cc ml rt d kc ks (pc + 3) lv (v.toList ++ st) n' S' I' J' R' Q) :
    AW G l y cc ml rt d kc ks pc lv (a3 :: a2 :: a1 :: st) n S I J R Q := by
  intro p e Rm s m args below meth c H locs cells slots ls C h1 h2 h3 h4
  have e9 : ∀ (vs : List Value), ((vs.map (rk_v G.1)).map fun v => v.category) = vs.map fun v => v.category := fun vs => by rw [List.map_map]; exact List.map_congr_left (fun v _ => rk_cat _ v)
  have g1 := C.2.2.2.2.2.2.2.2.2.2.1
  have g2 := C.2.2.2.2.2.2.2.2.2.2.2.1
  refine rk_callW (va_runS (As := [rk_v G.1 a1, rk_v G.1 a2, rk_v G.1 a3]) (rest := st.map (rk_v G.1)) ⟨C.1, C.2.1, C.2.2.2.1, C.2.2.2.2.1, C.2.2.2.2.2.1⟩ hC ⟨callB_of 3 C.2.2.2.2.2.1 (rk_goodC hl.2.2.2.1) rfl rfl rfl (C.2.2.2.2.2.1 _ hl.2.2.1) (C.2.2.2.2.2.1 _ hl.1) hl.2.2.2.2 ⟨Nat.le_trans hdd g1, by show 8 + (ml' + 11) + 64 * d' ≤ _; omega⟩, C.2.2.2.2.2.1 _ hl.2.1⟩ ⟨rk_blind, rk_pre C.2.2.2.2.2.2.2.1 h1 C.2.2.2.2.2.2.2.2.2.2.2.2.1 C.2.2.2.2.2.2.2.2.2.2.2.2.2 h2⟩ rfl rfl h3.1 rfl (lv_room (by rw [e9]; exact hr)) hd (by omega)) h2 (fun v n' S' I' J' R' H1 locs1 q1 q2 q3 => ?_)
  refine W.eq ?_ (rk_W_budget (by omega) (by omega) (k v n' S' I' J' R' q1 p e Rm s m args below meth c H1 locs1 _ _ ls C q2 q3 h3 (by omega)))
  rw [List.map_append]
  cases v <;> rfl
theorem AW_invS4 {a1 a2 a3 a4 : Value}  {y' : MethodName} {cc' : ByteArray} {ml' d' kc' ks' ix : Nat} {rt' : Option FieldType} {Q' : rk_Q} (hC : CW G l y' cc' ml' rt' d' kc' ks' [a1, a2, a3, a4] n S I J R Q') (hd : decode cc pc = .ok (.invokestatic ix, 3)) (hl : rk_ls y.cls ix y' cc' ml' rt' 4) (hdd : d' + 1 ≤ d) (hml : ml' ≤ 45) (hr : (st.map fun v => v.category).sum ≤ 8) (k : ∀ (v : Option Value) (n' : Nat) (S' : rk_Sh) (I' : rk_I) (J' : rk_J) (R' : rk_R), Q' v n' S' I' J' R' → AW G l y cc ml rt d kc ks (pc + 3) lv (v.toList ++ st) n' S' I' J' R' Q) :
    AW G l y cc ml rt d (kc + kc') (ks + ks') pc lv (a4 :: a3 :: a2 :: a1 :: st) n S I J R Q := by
  intro p e Rm s m args below meth c H locs cells slots ls C h1 h2 h3 h4
  have e9 : ∀ (vs : List Value), ((vs.map (rk_v G.1)).map fun v => v.category) = vs.map fun v => v.category := fun vs => by rw [List.map_map]; exact List.map_congr_left (fun v _ => rk_cat _ v)
  have g1 := C.2.2.2.2.2.2.2.2.2.2.1
  have g2 := C.2.2.2.2.2.2.2.2.2.2.2.1
  refine rk_callW (va_runS (As := [rk_v G.1 a1, rk_v G.1 a2, rk_v G.1 a3, rk_v G.1 a4]) (rest := st.map (rk_v G.1)) ⟨C.1, C.2.1, C.2.2.2.1, C.2.2.2.2.1, C.2.2.2.2.2.1⟩ hC ⟨callB_of 4 C.2.2.2.2.2.1 (rk_goodC hl.2.2.2.1) rfl rfl rfl (C.2.2.2.2.2.1 _ hl.2.2.1) (C.2.2.2.2.2.1 _ hl.1) hl.2.2.2.2 ⟨Nat.le_trans hdd g1, by show 8 + (ml' + 11) + 64 * d' ≤ _; omega⟩, C.2.2.2.2.2.1 _ hl.2.1⟩ ⟨rk_blind, rk_pre C.2.2.2.2.2.2.2.1 h1 C.2.2.2.2.2.2.2.2.2.2.2.2.1 C.2.2.2.2.2.2.2.2.2.2.2.2.2 h2⟩ rfl rfl h3.1 rfl (lv_room (by rw [e9]; exact hr)) hd (by omega)) h2 (fun v n' S' I' J' R' H1 locs1 q1 q2 q3 => ?_)
  refine W.eq ?_ (rk_W_budget (by omega) (by omega) (k v n' S' I' J' R' q1 p e Rm s m args below meth c H1 locs1 _ _ ls C q2 q3 h3 (by omega)))
  rw [List.map_append]
  cases v <;> rfl
theorem AW_invS4z {a1 a2 a3 a4 : Value}  {y' : MethodName} {cc' : ByteArray} {ml' d' ix : Nat} {rt' : Option FieldType} {Q' : rk_Q} (hC : CW G l y' cc' ml' rt' d' 0 0 [a1, a2, a3, a4] n S I J R Q') (hd : decode cc pc = .ok (.invokestatic ix, 3)) (hl : rk_ls y.cls ix y' cc' ml' rt' 4) (hdd : d' + 1 ≤ d) (hml : ml' ≤ 45) (hr : (st.map fun v => v.category).sum ≤ 8) (k : ∀ (v : Option Value) (n' : Nat) (S' : rk_Sh) (I' : rk_I) (J' : rk_J) (R' : rk_R), Q' v n' S' I' J' R' → AW G l y cc ml rt d kc ks (pc + 3) lv (v.toList ++ st) n' S' I' J' R' Q) :
    AW G l y cc ml rt d kc ks pc lv (a4 :: a3 :: a2 :: a1 :: st) n S I J R Q := by
  intro p e Rm s m args below meth c H locs cells slots ls C h1 h2 h3 h4
  have e9 : ∀ (vs : List Value), ((vs.map (rk_v G.1)).map fun v => v.category) = vs.map fun v => v.category := fun vs => by rw [List.map_map]; exact List.map_congr_left (fun v _ => rk_cat _ v)
  have g1 := C.2.2.2.2.2.2.2.2.2.2.1
  have g2 := C.2.2.2.2.2.2.2.2.2.2.2.1
  refine rk_callW (va_runS (As := [rk_v G.1 a1, rk_v G.1 a2, rk_v G.1 a3, rk_v G.1 a4]) (rest := st.map (rk_v G.1)) ⟨C.1, C.2.1, C.2.2.2.1, C.2.2.2.2.1, C.2.2.2.2.2.1⟩ hC ⟨callB_of 4 C.2.2.2.2.2.1 (rk_goodC hl.2.2.2.1) rfl rfl rfl (C.2.2.2.2.2.1 _ hl.2.2.1) (C.2.2.2.2.2.1 _ hl.1) hl.2.2.2.2 ⟨Nat.le_trans hdd g1, by show 8 + (ml' + 11) + 64 * d' ≤ _; omega⟩, C.2.2.2.2.2.1 _ hl.2.1⟩ ⟨rk_blind, rk_pre C.2.2.2.2.2.2.2.1 h1 C.2.2.2.2.2.2.2.2.2.2.2.2.1 C.2.2.2.2.2.2.2.2.2.2.2.2.2 h2⟩ rfl rfl h3.1 rfl (lv_room (by rw [e9]; exact hr)) hd (by omega)) h2 (fun v n' S' I' J' R' H1 locs1 q1 q2 q3 => ?_)
  refine W.eq ?_ (rk_W_budget (by omega) (by omega) (k v n' S' I' J' R' q1 p e Rm s m args below meth c H1 locs1 _ _ ls C q2 q3 h3 (by omega)))
  rw [List.map_append]
  cases v <;> rfl
theorem AW_invS5 {a1 a2 a3 a4 a5 : Value}  {y' : MethodName} {cc' : ByteArray} {ml' d' kc' ks' ix : Nat} {rt' : Option FieldType} {Q' : rk_Q} (hC : CW G l y' cc' ml' rt' d' kc' ks' [a1, a2, a3, a4, a5] n S I J R Q') (hd : decode cc pc = .ok (.invokestatic ix, 3)) (hl : rk_ls y.cls ix y' cc' ml' rt' 5) (hdd : d' + 1 ≤ d) (hml : ml' ≤ 45) (hr : (st.map fun v => v.category).sum ≤ 8) (k : ∀ (v : Option Value) (n' : Nat) (S' : rk_Sh) (I' : rk_I) (J' : rk_J) (R' : rk_R), Q' v n' S' I' J' R' → AW G l y cc ml rt d kc ks (pc + 3) lv (v.toList ++ st) n' S' I' J' R' Q) :
    AW G l y cc ml rt d (kc + kc') (ks + ks') pc lv (a5 :: a4 :: a3 :: a2 :: a1 :: st) n S I J R Q := by
  intro p e Rm s m args below meth c H locs cells slots ls C h1 h2 h3 h4
  have e9 : ∀ (vs : List Value), ((vs.map (rk_v G.1)).map fun v => v.category) = vs.map fun v => v.category := fun vs => by rw [List.map_map]; exact List.map_congr_left (fun v _ => rk_cat _ v)
  have g1 := C.2.2.2.2.2.2.2.2.2.2.1
  have g2 := C.2.2.2.2.2.2.2.2.2.2.2.1
  refine rk_callW (va_runS (As := [rk_v G.1 a1, rk_v G.1 a2, rk_v G.1 a3, rk_v G.1 a4, rk_v G.1 a5]) (rest := st.map (rk_v G.1)) ⟨C.1, C.2.1, C.2.2.2.1, C.2.2.2.2.1, C.2.2.2.2.2.1⟩ hC ⟨callB_of 5 C.2.2.2.2.2.1 (rk_goodC hl.2.2.2.1) rfl rfl rfl (C.2.2.2.2.2.1 _ hl.2.2.1) (C.2.2.2.2.2.1 _ hl.1) hl.2.2.2.2 ⟨Nat.le_trans hdd g1, by show 8 + (ml' + 11) + 64 * d' ≤ _; omega⟩, C.2.2.2.2.2.1 _ hl.2.1⟩ ⟨rk_blind, rk_pre C.2.2.2.2.2.2.2.1 h1 C.2.2.2.2.2.2.2.2.2.2.2.2.1 C.2.2.2.2.2.2.2.2.2.2.2.2.2 h2⟩ rfl rfl h3.1 rfl (lv_room (by rw [e9]; exact hr)) hd (by omega)) h2 (fun v n' S' I' J' R' H1 locs1 q1 q2 q3 => ?_)
  refine W.eq ?_ (rk_W_budget (by omega) (by omega) (k v n' S' I' J' R' q1 p e Rm s m args below meth c H1 locs1 _ _ ls C q2 q3 h3 (by omega)))
  rw [List.map_append]
  cases v <;> rfl
theorem AW_invS5z {a1 a2 a3 a4 a5 : Value}  {y' : MethodName} {cc' : ByteArray} {ml' d' ix : Nat} {rt' : Option FieldType} {Q' : rk_Q} (hC : CW G l y' cc' ml' rt' d' 0 0 [a1, a2, a3, a4, a5] n S I J R Q') (hd : decode cc pc = .ok (.invokestatic ix, 3)) (hl : rk_ls y.cls ix y' cc' ml' rt' 5) (hdd : d' + 1 ≤ d) (hml : ml' ≤ 45) (hr : (st.map fun v => v.category).sum ≤ 8) (k : ∀ (v : Option Value) (n' : Nat) (S' : rk_Sh) (I' : rk_I) (J' : rk_J) (R' : rk_R), Q' v n' S' I' J' R' → AW G l y cc ml rt d kc ks (pc + 3) lv (v.toList ++ st) n' S' I' J' R' Q) :
    AW G l y cc ml rt d kc ks pc lv (a5 :: a4 :: a3 :: a2 :: a1 :: st) n S I J R Q := by
  intro p e Rm s m args below meth c H locs cells slots ls C h1 h2 h3 h4
  have e9 : ∀ (vs : List Value), ((vs.map (rk_v G.1)).map fun v => v.category) = vs.map fun v => v.category := fun vs => by rw [List.map_map]; exact List.map_congr_left (fun v _ => rk_cat _ v)
  have g1 := C.2.2.2.2.2.2.2.2.2.2.1
  have g2 := C.2.2.2.2.2.2.2.2.2.2.2.1
  refine rk_callW (va_runS (As := [rk_v G.1 a1, rk_v G.1 a2, rk_v G.1 a3, rk_v G.1 a4, rk_v G.1 a5]) (rest := st.map (rk_v G.1)) ⟨C.1, C.2.1, C.2.2.2.1, C.2.2.2.2.1, C.2.2.2.2.2.1⟩ hC ⟨callB_of 5 C.2.2.2.2.2.1 (rk_goodC hl.2.2.2.1) rfl rfl rfl (C.2.2.2.2.2.1 _ hl.2.2.1) (C.2.2.2.2.2.1 _ hl.1) hl.2.2.2.2 ⟨Nat.le_trans hdd g1, by show 8 + (ml' + 11) + 64 * d' ≤ _; omega⟩, C.2.2.2.2.2.1 _ hl.2.1⟩ ⟨rk_blind, rk_pre C.2.2.2.2.2.2.2.1 h1 C.2.2.2.2.2.2.2.2.2.2.2.2.1 C.2.2.2.2.2.2.2.2.2.2.2.2.2 h2⟩ rfl rfl h3.1 rfl (lv_room (by rw [e9]; exact hr)) hd (by omega)) h2 (fun v n' S' I' J' R' H1 locs1 q1 q2 q3 => ?_)
  refine W.eq ?_ (rk_W_budget (by omega) (by omega) (k v n' S' I' J' R' q1 p e Rm s m args below meth c H1 locs1 _ _ ls C q2 q3 h3 (by omega)))
  rw [List.map_append]
  cases v <;> rfl
theorem AW_invY0 (i : Nat) {y' : MethodName} {cc' : ByteArray} {ml' d' kc' ks' ix : Nat} {rt' : Option FieldType} {Q' : rk_Q} (hC : CW G l y' cc' ml' rt' d' kc' ks' [.ref (1000001 + 2 * i)] n S I J R Q') (hd : decode cc pc = .ok (.invokevirtual ix, 3)) (hl : rk_lv y.cls ix y' cc' ml' rt' 0) (hi : i < 3) (hcs : y'.cls = "java/lang/String") (hdd : d' + 1 ≤ d) (hml : ml' ≤ 45) (hr : (st.map fun v => v.category).sum ≤ 8) (k : ∀ (v : Option Value) (n' : Nat) (S' : rk_Sh) (I' : rk_I) (J' : rk_J) (R' : rk_R), Q' v n' S' I' J' R' → AW G l y cc ml rt d kc ks (pc + 3) lv (v.toList ++ st) n' S' I' J' R' Q) :
    AW G l y cc ml rt d (kc + kc') (ks + ks') pc lv (.ref (1000001 + 2 * i) :: st) n S I J R Q := by
  intro p e Rm s m args below meth c H locs cells slots ls C h1 h2 h3 h4
  have e9 : ∀ (vs : List Value), ((vs.map (rk_v G.1)).map fun v => v.category) = vs.map fun v => v.category := fun vs => by rw [List.map_map]; exact List.map_congr_left (fun v _ => rk_cat _ v)
  have g1 := C.2.2.2.2.2.2.2.2.2.2.1
  have g2 := C.2.2.2.2.2.2.2.2.2.2.2.1
  refine rk_callW (va_runV (As := []) (rest := st.map (rk_v G.1)) ⟨C.1, C.2.1, C.2.2.2.1, C.2.2.2.2.1, C.2.2.2.2.2.1⟩ hC ⟨callB_of 0 C.2.2.2.2.2.1 (rk_goodC hl.2.2.2.2.1) rfl rfl rfl (C.2.2.2.2.2.1 _ hl.2.2.2.1) (C.2.2.2.2.2.1 _ hl.1) hl.2.2.2.2.2 ⟨Nat.le_trans hdd g1, by show 8 + (ml' + 11) + 64 * d' ≤ _; omega⟩, C.2.2.2.2.2.1 _ hl.2.1, C.2.2.2.2.2.1 _ hl.2.2.1⟩ ⟨rk_blind, (by rw [hcs]; exact vk_recv (adK := fun i => G.1 (1000001 + 2 * i)) (i := i) C.2.2.2.2.2.2.2.2.2.2.2.2.2.2.2.2.2.2.1 hi h2), rk_pre C.2.2.2.2.2.2.2.1 h1 C.2.2.2.2.2.2.2.2.2.2.2.2.1 C.2.2.2.2.2.2.2.2.2.2.2.2.2 h2⟩ rfl rfl h3.1 rfl (lv_room (by rw [e9]; exact hr)) hd (by omega)) h2 (fun v n' S' I' J' R' H1 locs1 q1 q2 q3 => ?_)
  refine W.eq ?_ (rk_W_budget (by omega) (by omega) (k v n' S' I' J' R' q1 p e Rm s m args below meth c H1 locs1 _ _ ls C q2 q3 h3 (by omega)))
  rw [List.map_append]
  cases v <;> rfl
theorem AW_invY0z (i : Nat) {y' : MethodName} {cc' : ByteArray} {ml' d' ix : Nat} {rt' : Option FieldType} {Q' : rk_Q} (hC : CW G l y' cc' ml' rt' d' 0 0 [.ref (1000001 + 2 * i)] n S I J R Q') (hd : decode cc pc = .ok (.invokevirtual ix, 3)) (hl : rk_lv y.cls ix y' cc' ml' rt' 0) (hi : i < 3) (hcs : y'.cls = "java/lang/String") (hdd : d' + 1 ≤ d) (hml : ml' ≤ 45) (hr : (st.map fun v => v.category).sum ≤ 8) (k : ∀ (v : Option Value) (n' : Nat) (S' : rk_Sh) (I' : rk_I) (J' : rk_J) (R' : rk_R), Q' v n' S' I' J' R' → AW G l y cc ml rt d kc ks (pc + 3) lv (v.toList ++ st) n' S' I' J' R' Q) :
    AW G l y cc ml rt d kc ks pc lv (.ref (1000001 + 2 * i) :: st) n S I J R Q := by
  intro p e Rm s m args below meth c H locs cells slots ls C h1 h2 h3 h4
  have e9 : ∀ (vs : List Value), ((vs.map (rk_v G.1)).map fun v => v.category) = vs.map fun v => v.category := fun vs => by rw [List.map_map]; exact List.map_congr_left (fun v _ => rk_cat _ v)
  have g1 := C.2.2.2.2.2.2.2.2.2.2.1
  have g2 := C.2.2.2.2.2.2.2.2.2.2.2.1
  refine rk_callW (va_runV (As := []) (rest := st.map (rk_v G.1)) ⟨C.1, C.2.1, C.2.2.2.1, C.2.2.2.2.1, C.2.2.2.2.2.1⟩ hC ⟨callB_of 0 C.2.2.2.2.2.1 (rk_goodC hl.2.2.2.2.1) rfl rfl rfl (C.2.2.2.2.2.1 _ hl.2.2.2.1) (C.2.2.2.2.2.1 _ hl.1) hl.2.2.2.2.2 ⟨Nat.le_trans hdd g1, by show 8 + (ml' + 11) + 64 * d' ≤ _; omega⟩, C.2.2.2.2.2.1 _ hl.2.1, C.2.2.2.2.2.1 _ hl.2.2.1⟩ ⟨rk_blind, (by rw [hcs]; exact vk_recv (adK := fun i => G.1 (1000001 + 2 * i)) (i := i) C.2.2.2.2.2.2.2.2.2.2.2.2.2.2.2.2.2.2.1 hi h2), rk_pre C.2.2.2.2.2.2.2.1 h1 C.2.2.2.2.2.2.2.2.2.2.2.2.1 C.2.2.2.2.2.2.2.2.2.2.2.2.2 h2⟩ rfl rfl h3.1 rfl (lv_room (by rw [e9]; exact hr)) hd (by omega)) h2 (fun v n' S' I' J' R' H1 locs1 q1 q2 q3 => ?_)
  refine W.eq ?_ (rk_W_budget (by omega) (by omega) (k v n' S' I' J' R' q1 p e Rm s m args below meth c H1 locs1 _ _ ls C q2 q3 h3 (by omega)))
  rw [List.map_append]
  cases v <;> rfl
theorem AW_invY1 {a1 : Value} (i : Nat) {y' : MethodName} {cc' : ByteArray} {ml' d' kc' ks' ix : Nat} {rt' : Option FieldType} {Q' : rk_Q} (hC : CW G l y' cc' ml' rt' d' kc' ks' [.ref (1000001 + 2 * i), a1] n S I J R Q') (hd : decode cc pc = .ok (.invokevirtual ix, 3)) (hl : rk_lv y.cls ix y' cc' ml' rt' 1) (hi : i < 3) (hcs : y'.cls = "java/lang/String") (hdd : d' + 1 ≤ d) (hml : ml' ≤ 45) (hr : (st.map fun v => v.category).sum ≤ 8) (k : ∀ (v : Option Value) (n' : Nat) (S' : rk_Sh) (I' : rk_I) (J' : rk_J) (R' : rk_R), Q' v n' S' I' J' R' → AW G l y cc ml rt d kc ks (pc + 3) lv (v.toList ++ st) n' S' I' J' R' Q) :
    AW G l y cc ml rt d (kc + kc') (ks + ks') pc lv (a1 :: .ref (1000001 + 2 * i) :: st) n S I J R Q := by
  intro p e Rm s m args below meth c H locs cells slots ls C h1 h2 h3 h4
  have e9 : ∀ (vs : List Value), ((vs.map (rk_v G.1)).map fun v => v.category) = vs.map fun v => v.category := fun vs => by rw [List.map_map]; exact List.map_congr_left (fun v _ => rk_cat _ v)
  have g1 := C.2.2.2.2.2.2.2.2.2.2.1
  have g2 := C.2.2.2.2.2.2.2.2.2.2.2.1
  refine rk_callW (va_runV (As := [rk_v G.1 a1]) (rest := st.map (rk_v G.1)) ⟨C.1, C.2.1, C.2.2.2.1, C.2.2.2.2.1, C.2.2.2.2.2.1⟩ hC ⟨callB_of 1 C.2.2.2.2.2.1 (rk_goodC hl.2.2.2.2.1) rfl rfl rfl (C.2.2.2.2.2.1 _ hl.2.2.2.1) (C.2.2.2.2.2.1 _ hl.1) hl.2.2.2.2.2 ⟨Nat.le_trans hdd g1, by show 8 + (ml' + 11) + 64 * d' ≤ _; omega⟩, C.2.2.2.2.2.1 _ hl.2.1, C.2.2.2.2.2.1 _ hl.2.2.1⟩ ⟨rk_blind, (by rw [hcs]; exact vk_recv (adK := fun i => G.1 (1000001 + 2 * i)) (i := i) C.2.2.2.2.2.2.2.2.2.2.2.2.2.2.2.2.2.2.1 hi h2), rk_pre C.2.2.2.2.2.2.2.1 h1 C.2.2.2.2.2.2.2.2.2.2.2.2.1 C.2.2.2.2.2.2.2.2.2.2.2.2.2 h2⟩ rfl rfl h3.1 rfl (lv_room (by rw [e9]; exact hr)) hd (by omega)) h2 (fun v n' S' I' J' R' H1 locs1 q1 q2 q3 => ?_)
  refine W.eq ?_ (rk_W_budget (by omega) (by omega) (k v n' S' I' J' R' q1 p e Rm s m args below meth c H1 locs1 _ _ ls C q2 q3 h3 (by omega)))
  rw [List.map_append]
  cases v <;> rfl
theorem AW_invY1z {a1 : Value} (i : Nat) {y' : MethodName} {cc' : ByteArray} {ml' d' ix : Nat} {rt' : Option FieldType} {Q' : rk_Q} (hC : CW G l y' cc' ml' rt' d' 0 0 [.ref (1000001 + 2 * i), a1] n S I J R Q') (hd : decode cc pc = .ok (.invokevirtual ix, 3)) (hl : rk_lv y.cls ix y' cc' ml' rt' 1) (hi : i < 3) (hcs : y'.cls = "java/lang/String") (hdd : d' + 1 ≤ d) (hml : ml' ≤ 45) (hr : (st.map fun v => v.category).sum ≤ 8) (k : ∀ (v : Option Value) (n' : Nat) (S' : rk_Sh) (I' : rk_I) (J' : rk_J) (R' : rk_R), Q' v n' S' I' J' R' → AW G l y cc ml rt d kc ks (pc + 3) lv (v.toList ++ st) n' S' I' J' R' Q) :
    AW G l y cc ml rt d kc ks pc lv (a1 :: .ref (1000001 + 2 * i) :: st) n S I J R Q := by
  intro p e Rm s m args below meth c H locs cells slots ls C h1 h2 h3 h4
  have e9 : ∀ (vs : List Value), ((vs.map (rk_v G.1)).map fun v => v.category) = vs.map fun v => v.category := fun vs => by rw [List.map_map]; exact List.map_congr_left (fun v _ => rk_cat _ v)
  have g1 := C.2.2.2.2.2.2.2.2.2.2.1
  have g2 := C.2.2.2.2.2.2.2.2.2.2.2.1
  refine rk_callW (va_runV (As := [rk_v G.1 a1]) (rest := st.map (rk_v G.1)) ⟨C.1, C.2.1, C.2.2.2.1, C.2.2.2.2.1, C.2.2.2.2.2.1⟩ hC ⟨callB_of 1 C.2.2.2.2.2.1 (rk_goodC hl.2.2.2.2.1) rfl rfl rfl (C.2.2.2.2.2.1 _ hl.2.2.2.1) (C.2.2.2.2.2.1 _ hl.1) hl.2.2.2.2.2 ⟨Nat.le_trans hdd g1, by show 8 + (ml' + 11) + 64 * d' ≤ _; omega⟩, C.2.2.2.2.2.1 _ hl.2.1, C.2.2.2.2.2.1 _ hl.2.2.1⟩ ⟨rk_blind, (by rw [hcs]; exact vk_recv (adK := fun i => G.1 (1000001 + 2 * i)) (i := i) C.2.2.2.2.2.2.2.2.2.2.2.2.2.2.2.2.2.2.1 hi h2), rk_pre C.2.2.2.2.2.2.2.1 h1 C.2.2.2.2.2.2.2.2.2.2.2.2.1 C.2.2.2.2.2.2.2.2.2.2.2.2.2 h2⟩ rfl rfl h3.1 rfl (lv_room (by rw [e9]; exact hr)) hd (by omega)) h2 (fun v n' S' I' J' R' H1 locs1 q1 q2 q3 => ?_)
  refine W.eq ?_ (rk_W_budget (by omega) (by omega) (k v n' S' I' J' R' q1 p e Rm s m args below meth c H1 locs1 _ _ ls C q2 q3 h3 (by omega)))
  rw [List.map_append]
  cases v <;> rfl
theorem AW_invY2 {a1 a2 : Value} (i : Nat) {y' : MethodName} {cc' : ByteArray} {ml' d' kc' ks' ix : Nat} {rt' : Option FieldType} {Q' : rk_Q} (hC : CW G l y' cc' ml' rt' d' kc' ks' [.ref (1000001 + 2 * i), a1, a2] n S I J R Q') (hd : decode cc pc = .ok (.invokevirtual ix, 3)) (hl : rk_lv y.cls ix y' cc' ml' rt' 2) (hi : i < 3) (hcs : y'.cls = "java/lang/String") (hdd : d' + 1 ≤ d) (hml : ml' ≤ 45) (hr : (st.map fun v => v.category).sum ≤ 8) (k : ∀ (v : Option Value) (n' : Nat) (S' : rk_Sh) (I' : rk_I) (J' : rk_J) (R' : rk_R), Q' v n' S' I' J' R' → AW G l y cc ml rt d kc ks (pc + 3) lv (v.toList ++ st) n' S' I' J' R' Q) :
    AW G l y cc ml rt d (kc + kc') (ks + ks') pc lv (a2 :: a1 :: .ref (1000001 + 2 * i) :: st) n S I J R Q := by
  intro p e Rm s m args below meth c H locs cells slots ls C h1 h2 h3 h4
  have e9 : ∀ (vs : List Value), ((vs.map (rk_v G.1)).map fun v => v.category) = vs.map fun v => v.category := fun vs => by rw [List.map_map]; exact List.map_congr_left (fun v _ => rk_cat _ v)
  have g1 := C.2.2.2.2.2.2.2.2.2.2.1
  have g2 := C.2.2.2.2.2.2.2.2.2.2.2.1
  refine rk_callW (va_runV (As := [rk_v G.1 a1, rk_v G.1 a2]) (rest := st.map (rk_v G.1)) ⟨C.1, C.2.1, C.2.2.2.1, C.2.2.2.2.1, C.2.2.2.2.2.1⟩ hC ⟨callB_of 2 C.2.2.2.2.2.1 (rk_goodC hl.2.2.2.2.1) rfl rfl rfl (C.2.2.2.2.2.1 _ hl.2.2.2.1) (C.2.2.2.2.2.1 _ hl.1) hl.2.2.2.2.2 ⟨Nat.le_trans hdd g1, by show 8 + (ml' + 11) + 64 * d' ≤ _; omega⟩, C.2.2.2.2.2.1 _ hl.2.1, C.2.2.2.2.2.1 _ hl.2.2.1⟩ ⟨rk_blind, (by rw [hcs]; exact vk_recv (adK := fun i => G.1 (1000001 + 2 * i)) (i := i) C.2.2.2.2.2.2.2.2.2.2.2.2.2.2.2.2.2.2.1 hi h2), rk_pre C.2.2.2.2.2.2.2.1 h1 C.2.2.2.2.2.2.2.2.2.2.2.2.1 C.2.2.2.2.2.2.2.2.2.2.2.2.2 h2⟩ rfl rfl h3.1 rfl (lv_room (by rw [e9]; exact hr)) hd (by omega)) h2 (fun v n' S' I' J' R' H1 locs1 q1 q2 q3 => ?_)
  refine W.eq ?_ (rk_W_budget (by omega) (by omega) (k v n' S' I' J' R' q1 p e Rm s m args below meth c H1 locs1 _ _ ls C q2 q3 h3 (by omega)))
  rw [List.map_append]
  cases v <;> rfl
theorem AW_invY2z {a1 a2 : Value} (i : Nat) {y' : MethodName} {cc' : ByteArray} {ml' d' ix : Nat} {rt' : Option FieldType} {Q' : rk_Q} (hC : CW G l y' cc' ml' rt' d' 0 0 [.ref (1000001 + 2 * i), a1, a2] n S I J R Q') (hd : decode cc pc = .ok (.invokevirtual ix, 3)) (hl : rk_lv y.cls ix y' cc' ml' rt' 2) (hi : i < 3) (hcs : y'.cls = "java/lang/String") (hdd : d' + 1 ≤ d) (hml : ml' ≤ 45) (hr : (st.map fun v => v.category).sum ≤ 8) (k : ∀ (v : Option Value) (n' : Nat) (S' : rk_Sh) (I' : rk_I) (J' : rk_J) (R' : rk_R), Q' v n' S' I' J' R' → AW G l y cc ml rt d kc ks (pc + 3) lv (v.toList ++ st) n' S' I' J' R' Q) :
    AW G l y cc ml rt d kc ks pc lv (a2 :: a1 :: .ref (1000001 + 2 * i) :: st) n S I J R Q := by
  intro p e Rm s m args below meth c H locs cells slots ls C h1 h2 h3 h4
  have e9 : ∀ (vs : List Value), ((vs.map (rk_v G.1)).map fun v => v.category) = vs.map fun v => v.category := fun vs => by rw [List.map_map]; exact List.map_congr_left (fun v _ => rk_cat _ v)
  have g1 := C.2.2.2.2.2.2.2.2.2.2.1
  have g2 := C.2.2.2.2.2.2.2.2.2.2.2.1
  refine rk_callW (va_runV (As := [rk_v G.1 a1, rk_v G.1 a2]) (rest := st.map (rk_v G.1)) ⟨C.1, C.2.1, C.2.2.2.1, C.2.2.2.2.1, C.2.2.2.2.2.1⟩ hC ⟨callB_of 2 C.2.2.2.2.2.1 (rk_goodC hl.2.2.2.2.1) rfl rfl rfl (C.2.2.2.2.2.1 _ hl.2.2.2.1) (C.2.2.2.2.2.1 _ hl.1) hl.2.2.2.2.2 ⟨Nat.le_trans hdd g1, by show 8 + (ml' + 11) + 64 * d' ≤ _; omega⟩, C.2.2.2.2.2.1 _ hl.2.1, C.2.2.2.2.2.1 _ hl.2.2.1⟩ ⟨rk_blind, (by rw [hcs]; exact vk_recv (adK := fun i => G.1 (1000001 + 2 * i)) (i := i) C.2.2.2.2.2.2.2.2.2.2.2.2.2.2.2.2.2.2.1 hi h2), rk_pre C.2.2.2.2.2.2.2.1 h1 C.2.2.2.2.2.2.2.2.2.2.2.2.1 C.2.2.2.2.2.2.2.2.2.2.2.2.2 h2⟩ rfl rfl h3.1 rfl (lv_room (by rw [e9]; exact hr)) hd (by omega)) h2 (fun v n' S' I' J' R' H1 locs1 q1 q2 q3 => ?_)
  refine W.eq ?_ (rk_W_budget (by omega) (by omega) (k v n' S' I' J' R' q1 p e Rm s m args below meth c H1 locs1 _ _ ls C q2 q3 h3 (by omega)))
  rw [List.map_append]
  cases v <;> rfl
theorem AW_invI0 {o : Nat} {y' : MethodName} {cc' : ByteArray} {ml' d' kc' ks' ix : Nat} {Q' : rk_Q} (hC : CW G l y' cc' ml' none d' kc' ks' [.ref o] n S I J R Q') (hd : decode cc pc = .ok (.invokespecial ix, 3)) (hl : rk_li y.cls ix y' cc' ml' 0) (hdd : d' + 1 ≤ d) (hml : ml' ≤ 45) (hr : (st.map fun v => v.category).sum ≤ 8) (k : ∀ (v : Option Value) (n' : Nat) (S' : rk_Sh) (I' : rk_I) (J' : rk_J) (R' : rk_R), Q' v n' S' I' J' R' → AW G l y cc ml rt d kc ks (pc + 3) lv (v.toList ++ st) n' S' I' J' R' Q) :
    AW G l y cc ml rt d (kc + kc') (ks + ks') pc lv (.ref o :: st) n S I J R Q := by
  intro p e Rm s m args below meth c H locs cells slots ls C h1 h2 h3 h4
  have e9 : ∀ (vs : List Value), ((vs.map (rk_v G.1)).map fun v => v.category) = vs.map fun v => v.category := fun vs => by rw [List.map_map]; exact List.map_congr_left (fun v _ => rk_cat _ v)
  have g1 := C.2.2.2.2.2.2.2.2.2.2.1
  have g2 := C.2.2.2.2.2.2.2.2.2.2.2.1
  refine rk_callW (va_runI (As := []) (rest := st.map (rk_v G.1)) ⟨C.1, C.2.1, C.2.2.2.1, C.2.2.2.2.1, C.2.2.2.2.2.1⟩ hC ⟨callB_of 0 C.2.2.2.2.2.1 (rk_goodC hl.2.2.2.1) rfl rfl rfl (C.2.2.2.2.2.1 _ hl.2.2.1) (C.2.2.2.2.2.1 _ hl.1) hl.2.2.2.2.1 ⟨Nat.le_trans hdd g1, by show 8 + (ml' + 11) + 64 * d' ≤ _; omega⟩, hl.2.2.2.2.2, C.2.2.2.2.2.1 _ hl.2.1⟩ ⟨rk_blind, rk_pre C.2.2.2.2.2.2.2.1 h1 C.2.2.2.2.2.2.2.2.2.2.2.2.1 C.2.2.2.2.2.2.2.2.2.2.2.2.2 h2⟩ rfl rfl h3.1 rfl (lv_room (by rw [e9]; exact hr)) hd (by omega)) h2 (fun v n' S' I' J' R' H1 locs1 q1 q2 q3 => ?_)
  refine W.eq ?_ (rk_W_budget (by omega) (by omega) (k v n' S' I' J' R' q1 p e Rm s m args below meth c H1 locs1 _ _ ls C q2 q3 h3 (by omega)))
  rw [List.map_append]
  cases v <;> rfl
theorem AW_invI0z {o : Nat} {y' : MethodName} {cc' : ByteArray} {ml' d' ix : Nat} {Q' : rk_Q} (hC : CW G l y' cc' ml' none d' 0 0 [.ref o] n S I J R Q') (hd : decode cc pc = .ok (.invokespecial ix, 3)) (hl : rk_li y.cls ix y' cc' ml' 0) (hdd : d' + 1 ≤ d) (hml : ml' ≤ 45) (hr : (st.map fun v => v.category).sum ≤ 8) (k : ∀ (v : Option Value) (n' : Nat) (S' : rk_Sh) (I' : rk_I) (J' : rk_J) (R' : rk_R), Q' v n' S' I' J' R' → AW G l y cc ml rt d kc ks (pc + 3) lv (v.toList ++ st) n' S' I' J' R' Q) :
    AW G l y cc ml rt d kc ks pc lv (.ref o :: st) n S I J R Q := by
  intro p e Rm s m args below meth c H locs cells slots ls C h1 h2 h3 h4
  have e9 : ∀ (vs : List Value), ((vs.map (rk_v G.1)).map fun v => v.category) = vs.map fun v => v.category := fun vs => by rw [List.map_map]; exact List.map_congr_left (fun v _ => rk_cat _ v)
  have g1 := C.2.2.2.2.2.2.2.2.2.2.1
  have g2 := C.2.2.2.2.2.2.2.2.2.2.2.1
  refine rk_callW (va_runI (As := []) (rest := st.map (rk_v G.1)) ⟨C.1, C.2.1, C.2.2.2.1, C.2.2.2.2.1, C.2.2.2.2.2.1⟩ hC ⟨callB_of 0 C.2.2.2.2.2.1 (rk_goodC hl.2.2.2.1) rfl rfl rfl (C.2.2.2.2.2.1 _ hl.2.2.1) (C.2.2.2.2.2.1 _ hl.1) hl.2.2.2.2.1 ⟨Nat.le_trans hdd g1, by show 8 + (ml' + 11) + 64 * d' ≤ _; omega⟩, hl.2.2.2.2.2, C.2.2.2.2.2.1 _ hl.2.1⟩ ⟨rk_blind, rk_pre C.2.2.2.2.2.2.2.1 h1 C.2.2.2.2.2.2.2.2.2.2.2.2.1 C.2.2.2.2.2.2.2.2.2.2.2.2.2 h2⟩ rfl rfl h3.1 rfl (lv_room (by rw [e9]; exact hr)) hd (by omega)) h2 (fun v n' S' I' J' R' H1 locs1 q1 q2 q3 => ?_)
  refine W.eq ?_ (rk_W_budget (by omega) (by omega) (k v n' S' I' J' R' q1 p e Rm s m args below meth c H1 locs1 _ _ ls C q2 q3 h3 (by omega)))
  rw [List.map_append]
  cases v <;> rfl
theorem AW_invI2 {a1 a2 : Value} {o : Nat} {y' : MethodName} {cc' : ByteArray} {ml' d' kc' ks' ix : Nat} {Q' : rk_Q} (hC : CW G l y' cc' ml' none d' kc' ks' [.ref o, a1, a2] n S I J R Q') (hd : decode cc pc = .ok (.invokespecial ix, 3)) (hl : rk_li y.cls ix y' cc' ml' 2) (hdd : d' + 1 ≤ d) (hml : ml' ≤ 45) (hr : (st.map fun v => v.category).sum ≤ 8) (k : ∀ (v : Option Value) (n' : Nat) (S' : rk_Sh) (I' : rk_I) (J' : rk_J) (R' : rk_R), Q' v n' S' I' J' R' → AW G l y cc ml rt d kc ks (pc + 3) lv (v.toList ++ st) n' S' I' J' R' Q) :
    AW G l y cc ml rt d (kc + kc') (ks + ks') pc lv (a2 :: a1 :: .ref o :: st) n S I J R Q := by
  intro p e Rm s m args below meth c H locs cells slots ls C h1 h2 h3 h4
  have e9 : ∀ (vs : List Value), ((vs.map (rk_v G.1)).map fun v => v.category) = vs.map fun v => v.category := fun vs => by rw [List.map_map]; exact List.map_congr_left (fun v _ => rk_cat _ v)
  have g1 := C.2.2.2.2.2.2.2.2.2.2.1
  have g2 := C.2.2.2.2.2.2.2.2.2.2.2.1
  refine rk_callW (va_runI (As := [rk_v G.1 a1, rk_v G.1 a2]) (rest := st.map (rk_v G.1)) ⟨C.1, C.2.1, C.2.2.2.1, C.2.2.2.2.1, C.2.2.2.2.2.1⟩ hC ⟨callB_of 2 C.2.2.2.2.2.1 (rk_goodC hl.2.2.2.1) rfl rfl rfl (C.2.2.2.2.2.1 _ hl.2.2.1) (C.2.2.2.2.2.1 _ hl.1) hl.2.2.2.2.1 ⟨Nat.le_trans hdd g1, by show 8 + (ml' + 11) + 64 * d' ≤ _; omega⟩, hl.2.2.2.2.2, C.2.2.2.2.2.1 _ hl.2.1⟩ ⟨rk_blind, rk_pre C.2.2.2.2.2.2.2.1 h1 C.2.2.2.2.2.2.2.2.2.2.2.2.1 C.2.2.2.2.2.2.2.2.2.2.2.2.2 h2⟩ rfl rfl h3.1 rfl (lv_room (by rw [e9]; exact hr)) hd (by omega)) h2 (fun v n' S' I' J' R' H1 locs1 q1 q2 q3 => ?_)
  refine W.eq ?_ (rk_W_budget (by omega) (by omega) (k v n' S' I' J' R' q1 p e Rm s m args below meth c H1 locs1 _ _ ls C q2 q3 h3 (by omega)))
  rw [List.map_append]
  cases v <;> rfl
theorem AW_invI2z {a1 a2 : Value} {o : Nat} {y' : MethodName} {cc' : ByteArray} {ml' d' ix : Nat} {Q' : rk_Q} (hC : CW G l y' cc' ml' none d' 0 0 [.ref o, a1, a2] n S I J R Q') (hd : decode cc pc = .ok (.invokespecial ix, 3)) (hl : rk_li y.cls ix y' cc' ml' 2) (hdd : d' + 1 ≤ d) (hml : ml' ≤ 45) (hr : (st.map fun v => v.category).sum ≤ 8) (k : ∀ (v : Option Value) (n' : Nat) (S' : rk_Sh) (I' : rk_I) (J' : rk_J) (R' : rk_R), Q' v n' S' I' J' R' → AW G l y cc ml rt d kc ks (pc + 3) lv (v.toList ++ st) n' S' I' J' R' Q) :
    AW G l y cc ml rt d kc ks pc lv (a2 :: a1 :: .ref o :: st) n S I J R Q := by
  intro p e Rm s m args below meth c H locs cells slots ls C h1 h2 h3 h4
  have e9 : ∀ (vs : List Value), ((vs.map (rk_v G.1)).map fun v => v.category) = vs.map fun v => v.category := fun vs => by rw [List.map_map]; exact List.map_congr_left (fun v _ => rk_cat _ v)
  have g1 := C.2.2.2.2.2.2.2.2.2.2.1
  have g2 := C.2.2.2.2.2.2.2.2.2.2.2.1
  refine rk_callW (va_runI (As := [rk_v G.1 a1, rk_v G.1 a2]) (rest := st.map (rk_v G.1)) ⟨C.1, C.2.1, C.2.2.2.1, C.2.2.2.2.1, C.2.2.2.2.2.1⟩ hC ⟨callB_of 2 C.2.2.2.2.2.1 (rk_goodC hl.2.2.2.1) rfl rfl rfl (C.2.2.2.2.2.1 _ hl.2.2.1) (C.2.2.2.2.2.1 _ hl.1) hl.2.2.2.2.1 ⟨Nat.le_trans hdd g1, by show 8 + (ml' + 11) + 64 * d' ≤ _; omega⟩, hl.2.2.2.2.2, C.2.2.2.2.2.1 _ hl.2.1⟩ ⟨rk_blind, rk_pre C.2.2.2.2.2.2.2.1 h1 C.2.2.2.2.2.2.2.2.2.2.2.2.1 C.2.2.2.2.2.2.2.2.2.2.2.2.2 h2⟩ rfl rfl h3.1 rfl (lv_room (by rw [e9]; exact hr)) hd (by omega)) h2 (fun v n' S' I' J' R' H1 locs1 q1 q2 q3 => ?_)
  refine W.eq ?_ (rk_W_budget (by omega) (by omega) (k v n' S' I' J' R' q1 p e Rm s m args below meth c H1 locs1 _ _ ls C q2 q3 h3 (by omega)))
  rw [List.map_append]
  cases v <;> rfl
theorem AW_invI3 {a1 a2 a3 : Value} {o : Nat} {y' : MethodName} {cc' : ByteArray} {ml' d' kc' ks' ix : Nat} {Q' : rk_Q} (hC : CW G l y' cc' ml' none d' kc' ks' [.ref o, a1, a2, a3] n S I J R Q') (hd : decode cc pc = .ok (.invokespecial ix, 3)) (hl : rk_li y.cls ix y' cc' ml' 3) (hdd : d' + 1 ≤ d) (hml : ml' ≤ 45) (hr : (st.map fun v => v.category).sum ≤ 8) (k : ∀ (v : Option Value) (n' : Nat) (S' : rk_Sh) (I' : rk_I) (J' : rk_J) (R' : rk_R), Q' v n' S' I' J' R' → AW G l y cc ml rt d kc ks (pc + 3) lv (v.toList ++ st) n' S' I' J' R' Q) :
    AW G l y cc ml rt d (kc + kc') (ks + ks') pc lv (a3 :: a2 :: a1 :: .ref o :: st) n S I J R Q := by
  intro p e Rm s m args below meth c H locs cells slots ls C h1 h2 h3 h4
  have e9 : ∀ (vs : List Value), ((vs.map (rk_v G.1)).map fun v => v.category) = vs.map fun v => v.category := fun vs => by rw [List.map_map]; exact List.map_congr_left (fun v _ => rk_cat _ v)
  have g1 := C.2.2.2.2.2.2.2.2.2.2.1
  have g2 := C.2.2.2.2.2.2.2.2.2.2.2.1
  refine rk_callW (va_runI (As := [rk_v G.1 a1, rk_v G.1 a2, rk_v G.1 a3]) (rest := st.map (rk_v G.1)) ⟨C.1, C.2.1, C.2.2.2.1, C.2.2.2.2.1, C.2.2.2.2.2.1⟩ hC ⟨callB_of 3 C.2.2.2.2.2.1 (rk_goodC hl.2.2.2.1) rfl rfl rfl (C.2.2.2.2.2.1 _ hl.2.2.1) (C.2.2.2.2.2.1 _ hl.1) hl.2.2.2.2.1 ⟨Nat.le_trans hdd g1, by show 8 + (ml' + 11) + 64 * d' ≤ _; omega⟩, hl.2.2.2.2.2, C.2.2.2.2.2.1 _ hl.2.1⟩ ⟨rk_blind, rk_pre C.2.2.2.2.2.2.2.1 h1 C.2.2.2.2.2.2.2.2.2.2.2.2.1 C.2.2.2.2.2.2.2.2.2.2.2.2.2 h2⟩ rfl rfl h3.1 rfl (lv_room (by rw [e9]; exact hr)) hd (by omega)) h2 (fun v n' S' I' J' R' H1 locs1 q1 q2 q3 => ?_)
  refine W.eq ?_ (rk_W_budget (by omega) (by omega) (k v n' S' I' J' R' q1 p e Rm s m args below meth c H1 locs1 _ _ ls C q2 q3 h3 (by omega)))
  rw [List.map_append]
  cases v <;> rfl
theorem AW_invI3z {a1 a2 a3 : Value} {o : Nat} {y' : MethodName} {cc' : ByteArray} {ml' d' ix : Nat} {Q' : rk_Q} (hC : CW G l y' cc' ml' none d' 0 0 [.ref o, a1, a2, a3] n S I J R Q') (hd : decode cc pc = .ok (.invokespecial ix, 3)) (hl : rk_li y.cls ix y' cc' ml' 3) (hdd : d' + 1 ≤ d) (hml : ml' ≤ 45) (hr : (st.map fun v => v.category).sum ≤ 8) (k : ∀ (v : Option Value) (n' : Nat) (S' : rk_Sh) (I' : rk_I) (J' : rk_J) (R' : rk_R), Q' v n' S' I' J' R' → AW G l y cc ml rt d kc ks (pc + 3) lv (v.toList ++ st) n' S' I' J' R' Q) :
    AW G l y cc ml rt d kc ks pc lv (a3 :: a2 :: a1 :: .ref o :: st) n S I J R Q := by
  intro p e Rm s m args below meth c H locs cells slots ls C h1 h2 h3 h4
  have e9 : ∀ (vs : List Value), ((vs.map (rk_v G.1)).map fun v => v.category) = vs.map fun v => v.category := fun vs => by rw [List.map_map]; exact List.map_congr_left (fun v _ => rk_cat _ v)
  have g1 := C.2.2.2.2.2.2.2.2.2.2.1
  have g2 := C.2.2.2.2.2.2.2.2.2.2.2.1
  refine rk_callW (va_runI (As := [rk_v G.1 a1, rk_v G.1 a2, rk_v G.1 a3]) (rest := st.map (rk_v G.1)) ⟨C.1, C.2.1, C.2.2.2.1, C.2.2.2.2.1, C.2.2.2.2.2.1⟩ hC ⟨callB_of 3 C.2.2.2.2.2.1 (rk_goodC hl.2.2.2.1) rfl rfl rfl (C.2.2.2.2.2.1 _ hl.2.2.1) (C.2.2.2.2.2.1 _ hl.1) hl.2.2.2.2.1 ⟨Nat.le_trans hdd g1, by show 8 + (ml' + 11) + 64 * d' ≤ _; omega⟩, hl.2.2.2.2.2, C.2.2.2.2.2.1 _ hl.2.1⟩ ⟨rk_blind, rk_pre C.2.2.2.2.2.2.2.1 h1 C.2.2.2.2.2.2.2.2.2.2.2.2.1 C.2.2.2.2.2.2.2.2.2.2.2.2.2 h2⟩ rfl rfl h3.1 rfl (lv_room (by rw [e9]; exact hr)) hd (by omega)) h2 (fun v n' S' I' J' R' H1 locs1 q1 q2 q3 => ?_)
  refine W.eq ?_ (rk_W_budget (by omega) (by omega) (k v n' S' I' J' R' q1 p e Rm s m args below meth c H1 locs1 _ _ ls C q2 q3 h3 (by omega)))
  rw [List.map_append]
  cases v <;> rfl
theorem AW_invI7 {a1 a2 a3 a4 a5 a6 a7 : Value} {o : Nat} {y' : MethodName} {cc' : ByteArray} {ml' d' kc' ks' ix : Nat} {Q' : rk_Q} (hC : CW G l y' cc' ml' none d' kc' ks' [.ref o, a1, a2, a3, a4, a5, a6, a7] n S I J R Q') (hd : decode cc pc = .ok (.invokespecial ix, 3)) (hl : rk_li y.cls ix y' cc' ml' 7) (hdd : d' + 1 ≤ d) (hml : ml' ≤ 45) (hr : (st.map fun v => v.category).sum ≤ 8) (k : ∀ (v : Option Value) (n' : Nat) (S' : rk_Sh) (I' : rk_I) (J' : rk_J) (R' : rk_R), Q' v n' S' I' J' R' → AW G l y cc ml rt d kc ks (pc + 3) lv (v.toList ++ st) n' S' I' J' R' Q) :
    AW G l y cc ml rt d (kc + kc') (ks + ks') pc lv (a7 :: a6 :: a5 :: a4 :: a3 :: a2 :: a1 :: .ref o :: st) n S I J R Q := by
  intro p e Rm s m args below meth c H locs cells slots ls C h1 h2 h3 h4
  have e9 : ∀ (vs : List Value), ((vs.map (rk_v G.1)).map fun v => v.category) = vs.map fun v => v.category := fun vs => by rw [List.map_map]; exact List.map_congr_left (fun v _ => rk_cat _ v)
  have g1 := C.2.2.2.2.2.2.2.2.2.2.1
  have g2 := C.2.2.2.2.2.2.2.2.2.2.2.1
  refine rk_callW (va_runI (As := [rk_v G.1 a1, rk_v G.1 a2, rk_v G.1 a3, rk_v G.1 a4, rk_v G.1 a5, rk_v G.1 a6, rk_v G.1 a7]) (rest := st.map (rk_v G.1)) ⟨C.1, C.2.1, C.2.2.2.1, C.2.2.2.2.1, C.2.2.2.2.2.1⟩ hC ⟨callB_of 7 C.2.2.2.2.2.1 (rk_goodC hl.2.2.2.1) rfl rfl rfl (C.2.2.2.2.2.1 _ hl.2.2.1) (C.2.2.2.2.2.1 _ hl.1) hl.2.2.2.2.1 ⟨Nat.le_trans hdd g1, by show 8 + (ml' + 11) + 64 * d' ≤ _; omega⟩, hl.2.2.2.2.2, C.2.2.2.2.2.1 _ hl.2.1⟩ ⟨rk_blind, rk_pre C.2.2.2.2.2.2.2.1 h1 C.2.2.2.2.2.2.2.2.2.2.2.2.1 C.2.2.2.2.2.2.2.2.2.2.2.2.2 h2⟩ rfl rfl h3.1 rfl (lv_room (by rw [e9]; exact hr)) hd (by omega)) h2 (fun v n' S' I' J' R' H1 locs1 q1 q2 q3 => ?_)
  refine W.eq ?_ (rk_W_budget (by omega) (by omega) (k v n' S' I' J' R' q1 p e Rm s m args below meth c H1 locs1 _ _ ls C q2 q3 h3 (by omega)))
  rw [List.map_append]
  cases v <;> rfl
theorem AW_invI7z {a1 a2 a3 a4 a5 a6 a7 : Value} {o : Nat} {y' : MethodName} {cc' : ByteArray} {ml' d' ix : Nat} {Q' : rk_Q} (hC : CW G l y' cc' ml' none d' 0 0 [.ref o, a1, a2, a3, a4, a5, a6, a7] n S I J R Q') (hd : decode cc pc = .ok (.invokespecial ix, 3)) (hl : rk_li y.cls ix y' cc' ml' 7) (hdd : d' + 1 ≤ d) (hml : ml' ≤ 45) (hr : (st.map fun v => v.category).sum ≤ 8) (k : ∀ (v : Option Value) (n' : Nat) (S' : rk_Sh) (I' : rk_I) (J' : rk_J) (R' : rk_R), Q' v n' S' I' J' R' → AW G l y cc ml rt d kc ks (pc + 3) lv (v.toList ++ st) n' S' I' J' R' Q) :
    AW G l y cc ml rt d kc ks pc lv (a7 :: a6 :: a5 :: a4 :: a3 :: a2 :: a1 :: .ref o :: st) n S I J R Q := by
  intro p e Rm s m args below meth c H locs cells slots ls C h1 h2 h3 h4
  have e9 : ∀ (vs : List Value), ((vs.map (rk_v G.1)).map fun v => v.category) = vs.map fun v => v.category := fun vs => by rw [List.map_map]; exact List.map_congr_left (fun v _ => rk_cat _ v)
  have g1 := C.2.2.2.2.2.2.2.2.2.2.1
  have g2 := C.2.2.2.2.2.2.2.2.2.2.2.1
  refine rk_callW (va_runI (As := [rk_v G.1 a1, rk_v G.1 a2, rk_v G.1 a3, rk_v G.1 a4, rk_v G.1 a5, rk_v G.1 a6, rk_v G.1 a7]) (rest := st.map (rk_v G.1)) ⟨C.1, C.2.1, C.2.2.2.1, C.2.2.2.2.1, C.2.2.2.2.2.1⟩ hC ⟨callB_of 7 C.2.2.2.2.2.1 (rk_goodC hl.2.2.2.1) rfl rfl rfl (C.2.2.2.2.2.1 _ hl.2.2.1) (C.2.2.2.2.2.1 _ hl.1) hl.2.2.2.2.1 ⟨Nat.le_trans hdd g1, by show 8 + (ml' + 11) + 64 * d' ≤ _; omega⟩, hl.2.2.2.2.2, C.2.2.2.2.2.1 _ hl.2.1⟩ ⟨rk_blind, rk_pre C.2.2.2.2.2.2.2.1 h1 C.2.2.2.2.2.2.2.2.2.2.2.2.1 C.2.2.2.2.2.2.2.2.2.2.2.2.2 h2⟩ rfl rfl h3.1 rfl (lv_room (by rw [e9]; exact hr)) hd (by omega)) h2 (fun v n' S' I' J' R' H1 locs1 q1 q2 q3 => ?_)
  refine W.eq ?_ (rk_W_budget (by omega) (by omega) (k v n' S' I' J' R' q1 p e Rm s m args below meth c H1 locs1 _ _ ls C q2 q3 h3 (by omega)))
  rw [List.map_append]
  cases v <;> rfl
theorem AW_invN0 {o : Nat} {host : String} {y' : MethodName} {cc' : ByteArray} {ml' d' kc' ks' ix : Nat} {Q' : rk_Q} (hC : CW G l y' cc' ml' none d' kc' ks' [.ref o] n S I J R Q') (hd : decode cc pc = .ok (.invokespecial ix, 3)) (hl : rk_ln y.cls host ix y' cc' ml' 0) (hdd : d' + 1 ≤ d) (hml : ml' ≤ 45) (hr : (st.map fun v => v.category).sum ≤ 8) (k : ∀ (v : Option Value) (n' : Nat) (S' : rk_Sh) (I' : rk_I) (J' : rk_J) (R' : rk_R), Q' v n' S' I' J' R' → AW G l y cc ml rt d kc ks (pc + 3) lv (v.toList ++ st) n' S' I' J' R' Q) :
    AW G l y cc ml rt d (kc + kc') (ks + ks') pc lv (.ref o :: st) n S I J R Q := by
  intro p e Rm s m args below meth c H locs cells slots ls C h1 h2 h3 h4
  have e9 : ∀ (vs : List Value), ((vs.map (rk_v G.1)).map fun v => v.category) = vs.map fun v => v.category := fun vs => by rw [List.map_map]; exact List.map_congr_left (fun v _ => rk_cat _ v)
  have g1 := C.2.2.2.2.2.2.2.2.2.2.1
  have g2 := C.2.2.2.2.2.2.2.2.2.2.2.1
  refine rk_callW (va_runIN (As := []) (rest := st.map (rk_v G.1)) ⟨C.1, C.2.1, C.2.2.2.1, C.2.2.2.2.1, C.2.2.2.2.2.1⟩ hC ⟨va_cnB 0 C.2.2.2.2.2.1 (rk_goodC hl.2.2.2.1) rfl rfl rfl (C.2.2.2.2.2.2.2.2.2.2.2.2.2.2.2.2.2.2.2.2.2.2.2.2.2 _ hl.1) (C.2.2.2.2.2.1 _ hl.2.2.1) hl.2.2.2.2.1 ⟨Nat.le_trans hdd g1, by show 8 + (ml' + 11) + 64 * d' ≤ _; omega⟩, hl.2.2.2.2.2, C.2.2.2.2.2.1 _ hl.2.1⟩ ⟨rk_blind, rk_pre C.2.2.2.2.2.2.2.1 h1 C.2.2.2.2.2.2.2.2.2.2.2.2.1 C.2.2.2.2.2.2.2.2.2.2.2.2.2 h2⟩ rfl rfl h3.1 rfl (lv_room (by rw [e9]; exact hr)) hd (by omega)) h2 (fun v n' S' I' J' R' H1 locs1 q1 q2 q3 => ?_)
  refine W.eq ?_ (rk_W_budget (by omega) (by omega) (k v n' S' I' J' R' q1 p e Rm s m args below meth c H1 locs1 _ _ ls C q2 q3 h3 (by omega)))
  rw [List.map_append]
  cases v <;> rfl
theorem AW_invN0z {o : Nat} {host : String} {y' : MethodName} {cc' : ByteArray} {ml' d' ix : Nat} {Q' : rk_Q} (hC : CW G l y' cc' ml' none d' 0 0 [.ref o] n S I J R Q') (hd : decode cc pc = .ok (.invokespecial ix, 3)) (hl : rk_ln y.cls host ix y' cc' ml' 0) (hdd : d' + 1 ≤ d) (hml : ml' ≤ 45) (hr : (st.map fun v => v.category).sum ≤ 8) (k : ∀ (v : Option Value) (n' : Nat) (S' : rk_Sh) (I' : rk_I) (J' : rk_J) (R' : rk_R), Q' v n' S' I' J' R' → AW G l y cc ml rt d kc ks (pc + 3) lv (v.toList ++ st) n' S' I' J' R' Q) :
    AW G l y cc ml rt d kc ks pc lv (.ref o :: st) n S I J R Q := by
  intro p e Rm s m args below meth c H locs cells slots ls C h1 h2 h3 h4
  have e9 : ∀ (vs : List Value), ((vs.map (rk_v G.1)).map fun v => v.category) = vs.map fun v => v.category := fun vs => by rw [List.map_map]; exact List.map_congr_left (fun v _ => rk_cat _ v)
  have g1 := C.2.2.2.2.2.2.2.2.2.2.1
  have g2 := C.2.2.2.2.2.2.2.2.2.2.2.1
  refine rk_callW (va_runIN (As := []) (rest := st.map (rk_v G.1)) ⟨C.1, C.2.1, C.2.2.2.1, C.2.2.2.2.1, C.2.2.2.2.2.1⟩ hC ⟨va_cnB 0 C.2.2.2.2.2.1 (rk_goodC hl.2.2.2.1) rfl rfl rfl (C.2.2.2.2.2.2.2.2.2.2.2.2.2.2.2.2.2.2.2.2.2.2.2.2.2 _ hl.1) (C.2.2.2.2.2.1 _ hl.2.2.1) hl.2.2.2.2.1 ⟨Nat.le_trans hdd g1, by show 8 + (ml' + 11) + 64 * d' ≤ _; omega⟩, hl.2.2.2.2.2, C.2.2.2.2.2.1 _ hl.2.1⟩ ⟨rk_blind, rk_pre C.2.2.2.2.2.2.2.1 h1 C.2.2.2.2.2.2.2.2.2.2.2.2.1 C.2.2.2.2.2.2.2.2.2.2.2.2.2 h2⟩ rfl rfl h3.1 rfl (lv_room (by rw [e9]; exact hr)) hd (by omega)) h2 (fun v n' S' I' J' R' H1 locs1 q1 q2 q3 => ?_)
  refine W.eq ?_ (rk_W_budget (by omega) (by omega) (k v n' S' I' J' R' q1 p e Rm s m args below meth c H1 locs1 _ _ ls C q2 q3 h3 (by omega)))
  rw [List.map_append]
  cases v <;> rfl
end RK
