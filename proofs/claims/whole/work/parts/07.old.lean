def rk_sbd (i : Nat) (k : Int32) : Option Int32 := if k < 0 ∨ rk_len.getD i 0 ≤ k.toNatClampNeg then none else some ((rk_byt.getD i []).getD k.toNatClampNeg 0)
def rk_urd (k : Int32) : Option Int32 := if k < 0 ∨ 6 ≤ k.toNatClampNeg then none else some (rk_und k.toNatClampNeg)
def rk_srd (L : Nat) (xs : Nat → Int32) (k : Int32) : Option Int32 := if k < 0 ∨ L ≤ k.toNatClampNeg then none else some (xs k.toNatClampNeg)
theorem rk_inA {G : rk_G} {k : Nat} (h : G.1 k < G.2.1) : ¬ rk_A G (G.1 k) := Nat.not_le.mpr h
section RK
variable {G : rk_G} {l : Launch} {y : MethodName} {cc : ByteArray} {ml : Nat} {rt : Option FieldType} {d kc ks pc : Nat} {lv : List (Option Value)} {st : List Value} {n : Nat} {S : rk_Sh} {I : rk_I} {J : rk_J} {R : rk_R} {Q : rk_Q}
theorem AW_ldcS0 (hy : y.cls = "RailCargo") (hd : decode cc pc = .ok (.ldc 66, 2)) (k : AW G l y cc ml rt d kc ks (pc + 2) (lv) (.ref 1000001 :: st) n S I J R Q) :
    AW G l y cc ml rt d kc ks (pc) (lv) (st) n S I J R Q := by
  intro p e Rm s m args below meth c H locs cells slots ls C h1 h2 h3 h4
  exact va_ldcS C.1 C.2.1 (own := "RailCargo") (by rw [← hy]; exact C.2.2.2.2.1) C.2.2.2.2.2.2.2.2.2.2.2.2.2.2.2.2.2.2.2.1 hd (k _ _ _ _ _ _ _ _ _ _ _ _ _ ls C h1 h2 h3 h4)
theorem AW_ldcS1 (hy : y.cls = "RailCargo$Reader") (hd : decode cc pc = .ok (.ldc 105, 2)) (k : AW G l y cc ml rt d kc ks (pc + 2) (lv) (.ref 1000003 :: st) n S I J R Q) :
    AW G l y cc ml rt d kc ks (pc) (lv) (st) n S I J R Q := by
  intro p e Rm s m args below meth c H locs cells slots ls C h1 h2 h3 h4
  exact va_ldcS C.1 C.2.1 (own := "RailCargo$Reader") (by rw [← hy]; exact C.2.2.2.2.1) C.2.2.2.2.2.2.2.2.2.2.2.2.2.2.2.2.2.2.2.2.1 hd (k _ _ _ _ _ _ _ _ _ _ _ _ _ ls C h1 h2 h3 h4)
theorem AW_ldcS2 (hy : y.cls = "RailCargo$Reader") (hd : decode cc pc = .ok (.ldc 98, 2)) (k : AW G l y cc ml rt d kc ks (pc + 2) (lv) (.ref 1000005 :: st) n S I J R Q) :
    AW G l y cc ml rt d kc ks (pc) (lv) (st) n S I J R Q := by
  intro p e Rm s m args below meth c H locs cells slots ls C h1 h2 h3 h4
  exact va_ldcS C.1 C.2.1 (own := "RailCargo$Reader") (by rw [← hy]; exact C.2.2.2.2.1) C.2.2.2.2.2.2.2.2.2.2.2.2.2.2.2.2.2.2.2.2.2.1 hd (k _ _ _ _ _ _ _ _ _ _ _ _ _ ls C h1 h2 h3 h4)
theorem AW_scoder {ix : Nat} (i : Nat) (hi : i < 3) (hd : decode cc pc = .ok (.getfield ix, 3)) (hl : Cond.fieldLink y.cls ix "java/lang/String" "coder" "B" ∈ lw_tk) (k : AW G l y cc ml rt d kc ks (pc + 3) (lv) (.int 0 :: st) n S I J R Q) :
    AW G l y cc ml rt d kc ks (pc) (lv) (.ref (1000001 + 2 * i) :: st) n S I J R Q := by
  intro p e Rm s m args below meth c H locs cells slots ls C h1 h2 h3 h4
  exact vk_getf C.1 C.2.1 ((C.2.2.2.2.2.2.2.2.2.2.2.2.2.2.2.2.2.2.1.1 i hi).2.1) h2 C.2.2.2.2.1 (C.2.2.2.2.2.1 _ hl) (fun _ h => h) hd (k _ _ _ _ _ _ _ _ _ _ _ _ _ ls C h1 h2 h3 h4)
theorem AW_svalue {ix : Nat} (i : Nat) (hi : i < 3) (hd : decode cc pc = .ok (.getfield ix, 3)) (hl : Cond.fieldLink y.cls ix "java/lang/String" "value" "[B" ∈ lw_tk) (k : AW G l y cc ml rt d kc ks (pc + 3) (lv) (.ref (1000002 + 2 * i) :: st) n S I J R Q) :
    AW G l y cc ml rt d kc ks (pc) (lv) (.ref (1000001 + 2 * i) :: st) n S I J R Q := by
  intro p e Rm s m args below meth c H locs cells slots ls C h1 h2 h3 h4
  exact vk_getf C.1 C.2.1 ((C.2.2.2.2.2.2.2.2.2.2.2.2.2.2.2.2.2.2.1.1 i hi).2.2.1) h2 C.2.2.2.2.1 (C.2.2.2.2.2.1 _ hl) (fun _ h => h) hd (k _ _ _ _ _ _ _ _ _ _ _ _ _ ls C h1 h2 h3 h4)
theorem AW_sbald (i : Nat) {j x : Int32} (hi : i < 3) (hd : decode cc pc = .ok (.baload, 1)) (e9 : rk_sbd i j = some x) (k : AW G l y cc ml rt d kc ks (pc + 1) (lv) (.int x :: st) n S I J R Q) :
    AW G l y cc ml rt d kc ks (pc) (lv) (.int j :: .ref (1000002 + 2 * i) :: st) n S I J R Q := by
  intro p e Rm s m args below meth c H locs cells slots ls C h1 h2 h3 h4
  unfold rk_sbd at e9
  split at e9
  · cases e9
  · rename_i hin
    cases e9
    exact va_tb C.1 C.2.1 ((C.2.2.2.2.2.2.2.2.2.2.2.2.2.2.2.2.2.2.1.1 i hi).2.2.2) h2 hin rfl hd (k _ _ _ _ _ _ _ _ _ _ _ _ _ ls C h1 h2 h3 h4)
theorem AW_salen (i : Nat) {v : Int32} (hi : i < 3) (hd : decode cc pc = .ok (.arraylength, 1)) (hv : Int32.ofNat (rk_len.getD i 0) = v) (k : AW G l y cc ml rt d kc ks (pc + 1) (lv) (.int v :: st) n S I J R Q) :
    AW G l y cc ml rt d kc ks (pc) (lv) (.ref (1000002 + 2 * i) :: st) n S I J R Q := by
  intro p e Rm s m args below meth c H locs cells slots ls C h1 h2 h3 h4
  exact va_tlen C.1 C.2.1 ((C.2.2.2.2.2.2.2.2.2.2.2.2.2.2.2.2.2.2.1.1 i hi).2.2.2) h2 hv hd (k _ _ _ _ _ _ _ _ _ _ _ _ _ ls C h1 h2 h3 h4)
theorem AW_gsZ {ix : Nat} (hd : decode cc pc = .ok (.getstatic ix, 3)) (hl : Cond.fieldLink y.cls ix "java/lang/String" "COMPACT_STRINGS" "Z" ∈ lw_tk) (k : AW G l y cc ml rt d kc ks (pc + 3) (lv) (.int 1 :: st) n S I J R Q) :
    AW G l y cc ml rt d kc ks (pc) (lv) (st) n S I J R Q := by
  intro p e Rm s m args below meth c H locs cells slots ls C h1 h2 h3 h4
  exact va_gets C.1 C.2.1 C.2.2.2.2.2.2.2.2.2.2.2.2.2.2.1 h2 C.2.2.2.2.1 (C.2.2.2.2.2.1 _ hl) (fun _ h => h) hd (k _ _ _ _ _ _ _ _ _ _ _ _ _ ls C h1 h2 h3 h4)
theorem AW_gsU {ix : Nat} (hd : decode cc pc = .ok (.getstatic ix, 3)) (hl : Cond.fieldLink y.cls ix "RailCargo" "UNDER" "[I" ∈ lw_tk) (k : AW G l y cc ml rt d kc ks (pc + 3) (lv) (.ref 1000007 :: st) n S I J R Q) :
    AW G l y cc ml rt d kc ks (pc) (lv) (st) n S I J R Q := by
  intro p e Rm s m args below meth c H locs cells slots ls C h1 h2 h3 h4
  exact va_gets C.1 C.2.1 C.2.2.2.2.2.2.2.2.2.2.2.2.2.2.2.1 h2 C.2.2.2.2.1 (C.2.2.2.2.2.1 _ hl) (fun _ h => h) hd (k _ _ _ _ _ _ _ _ _ _ _ _ _ ls C h1 h2 h3 h4)
theorem AW_gsF {ix : Nat} (hd : decode cc pc = .ok (.getstatic ix, 3)) (hl : Cond.fieldLink y.cls ix "jdk/internal/util/Preconditions" "SIOOBE_FORMATTER" "Ljava/util/function/BiFunction;" ∈ lw_tk) (k : ∀ q : Option Nat, AW G l y cc ml rt d kc ks (pc + 3) (lv) (rk_o q :: st) n S I J R Q) :
    AW G l y cc ml rt d kc ks (pc) (lv) (st) n S I J R Q := by
  intro p e Rm s m args below meth c H locs cells slots ls C h1 h2 h3 h4
  obtain ⟨q, -, hq⟩ := C.2.2.2.2.2.2.2.2.2.2.2.2.2.2.2.2.2.1
  refine va_gets C.1 C.2.1 hq h2 C.2.2.2.2.1 (C.2.2.2.2.2.1 _ hl) (fun _ h => h) hd ?_
  cases q with
  | none => exact k none p e Rm s m args below meth c H locs cells slots ls C h1 h2 h3 h4
  | some a => exact k (some a) p e Rm s m args below meth c H locs cells slots ls C h1 h2 h3 h4
theorem AW_urd {j x : Int32} (hd : decode cc pc = .ok (.iaload, 1)) (e9 : rk_urd j = some x) (k : AW G l y cc ml rt d kc ks (pc + 1) (lv) (.int x :: st) n S I J R Q) :
    AW G l y cc ml rt d kc ks (pc) (lv) (.int j :: .ref 1000007 :: st) n S I J R Q := by
  intro p e Rm s m args below meth c H locs cells slots ls C h1 h2 h3 h4
  unfold rk_urd at e9
  split at e9
  · cases e9
  · rename_i hin
    cases e9
    exact va_ti C.1 C.2.1 C.2.2.2.2.2.2.2.2.2.2.2.2.2.2.2.2.1 h2 hin rfl hd (k _ _ _ _ _ _ _ _ _ _ _ _ _ ls C h1 h2 h3 h4)
theorem AW_srd {j x : Int32} (hd : decode cc pc = .ok (.iaload, 1)) (e9 : rk_srd G.2.2.2.2.2.1 G.2.2.2.2.2.2 j = some x) (k : AW G l y cc ml rt d kc ks (pc + 1) (lv) (.int x :: st) n S I J R Q) :
    AW G l y cc ml rt d kc ks (pc) (lv) (.int j :: .ref 1000000 :: st) n S I J R Q := by
  intro p e Rm s m args below meth c H locs cells slots ls C h1 h2 h3 h4
  unfold rk_srd at e9
  split at e9
  · cases e9
  · rename_i hin
    cases e9
    have hy := C.2.2.2.2.2.2.2.2.2.2.2.2.2
    exact va_sld C.1 C.2.1 hy.1 (Nat.lt_of_lt_of_le hy.2.2.2.2.2.2.2.2.2.2.1 hy.2.2.2.2.2.2.2.2.2.1) (rk_inA hy.2.2.2.2.2.2.2.2.2.2.1) h2 hin hd (k _ _ _ _ _ _ _ _ _ _ _ _ _ ls C h1 h2 h3 h4)
theorem AW_srlen (hd : decode cc pc = .ok (.arraylength, 1)) (k : AW G l y cc ml rt d kc ks (pc + 1) (lv) (.int (Int32.ofNat G.2.2.2.2.2.1) :: st) n S I J R Q) :
    AW G l y cc ml rt d kc ks (pc) (lv) (.ref 1000000 :: st) n S I J R Q := by
  intro p e Rm s m args below meth c H locs cells slots ls C h1 h2 h3 h4
  have hy := C.2.2.2.2.2.2.2.2.2.2.2.2.2
  exact va_slen C.1 C.2.1 hy.1 (Nat.lt_of_lt_of_le hy.2.2.2.2.2.2.2.2.2.2.1 hy.2.2.2.2.2.2.2.2.2.1) (rk_inA hy.2.2.2.2.2.2.2.2.2.2.1) h2 hd (k _ _ _ _ _ _ _ _ _ _ _ _ _ ls C h1 h2 h3 h4)
theorem AW_ldcw {ix : Nat} {v : Int32} (hd : decode cc pc = .ok (.ldc_w ix, 3)) (hw : Cond.constant y.cls ix v ∈ lw_tk) (k : AW G l y cc ml rt d kc ks (pc + 3) (lv) (.int v :: st) n S I J R Q) :
    AW G l y cc ml rt d kc ks (pc) (lv) (st) n S I J R Q := by
  intro p e Rm s m args below meth c H locs cells slots ls C h1 h2 h3 h4
  exact lv_ldcw C.1 C.2.1 C.2.2.2.2.1 (C.2.2.2.2.2.1 _ hw) hd (k _ _ _ _ _ _ _ _ _ _ _ _ _ ls C h1 h2 h3 h4)
theorem AW_i2c {x : Int32} (hd : decode cc pc = .ok (.i2c, 1)) (k : AW G l y cc ml rt d kc ks (pc + 1) (lv) (.int (x.toUInt32 % 65536).toInt32 :: st) n S I J R Q) :
    AW G l y cc ml rt d kc ks (pc) (lv) (.int x :: st) n S I J R Q := by
  intro p e Rm s m args below meth c H locs cells slots ls C h1 h2 h3 h4
  exact lv_i2c C.1 C.2.1 hd rfl (k _ _ _ _ _ _ _ _ _ _ _ _ _ ls C h1 h2 h3 h4)
theorem AW_cret {v : Int32} (hd : decode cc pc = .ok (.ireturn, 1)) (hr : rt = some .char) (hn : narrow .char (.int v) = .int v) (hq : Q (some (.int v)) n S I J R) :
    AW G l y cc ml rt d kc ks (pc) (lv) ([.int v]) n S I J R Q := by
  intro p e Rm s m args below meth c H locs cells slots ls C h1 h2 h3 h4
  have hlocks := C.2.2.2.2.2.2.1
  refine W.widen (k := cells + kc) (n := slots + ks) (Nat.le_add_right _ _) (Nat.le_add_right _ _) ?_
  exact W.zret C.1 C.2.1 (C.2.2.1.trans hr) hn (fun t ht hW => ⟨⟨some (.int v), n, S, I, J, R, rfl, hq, by rw [ht]; exact h1⟩, h2.F ht⟩) h2.2.2 hd hlocks
theorem AW_bret {v : Int32} (hd : decode cc pc = .ok (.ireturn, 1)) (hr : rt = some .byte) (hn : narrow .byte (.int v) = .int v) (hq : Q (some (.int v)) n S I J R) :
    AW G l y cc ml rt d kc ks (pc) (lv) ([.int v]) n S I J R Q := by
  intro p e Rm s m args below meth c H locs cells slots ls C h1 h2 h3 h4
  have hlocks := C.2.2.2.2.2.2.1
  refine W.widen (k := cells + kc) (n := slots + ks) (Nat.le_add_right _ _) (Nat.le_add_right _ _) ?_
  exact W.zret C.1 C.2.1 (C.2.2.1.trans hr) hn (fun t ht hW => ⟨⟨some (.int v), n, S, I, J, R, rfl, hq, by rw [ht]; exact h1⟩, h2.F ht⟩) h2.2.2 hd hlocks
theorem AW_zr {v x : Int32} (hd : decode cc pc = .ok (.ireturn, 1)) (hr : rt = some .boolean) (e : rk_bl v = some x) (hq : Q (some (.int x)) n S I J R) :
    AW G l y cc ml rt d kc ks (pc) (lv) ([.int v]) n S I J R Q := by
  obtain ⟨rfl, h⟩ := rk_bl_sp e
  exact AW_zret hd hr (by rcases h with rfl | rfl <;> rfl) hq
theorem AW_aretO {q : Option Nat} {rn : String} (hd : decode cc pc = .ok (.areturn, 1)) (hr : rt = some (.object rn)) (hq : Q (some (rk_o q)) n S I J R) :
    AW G l y cc ml rt d kc ks (pc) (lv) ([rk_o q]) n S I J R Q := by
  cases q with
  | none => exact AW_aretN hd hr hq
  | some o => exact AW_aret hd hr hq
def rk_cln (own : String) (ix : Nat) : Prop := Cond.methodLink own ix ⟨"[I", "clone", "()Ljava/lang/Object;"⟩ ∈ lw_tk ∧ Cond.sameMethod "[I" "java/lang/Object" "clone" "()Ljava/lang/Object;" ∈ lw_tk ∧ Cond.native ⟨"java/lang/Object", "clone", "()Ljava/lang/Object;"⟩ ∈ lw_tk ∧ Cond.instanceMethod ⟨"java/lang/Object", "clone", "()Ljava/lang/Object;"⟩ ∈ lw_tk ∧ Cond.selects "[I" ⟨"[I", "clone", "()Ljava/lang/Object;"⟩ ⟨"java/lang/Object", "clone", "()Ljava/lang/Object;"⟩ ∈ lw_tk
theorem AW_clone {ix o N : Nat} (hd : decode cc pc = .ok (.invokevirtual ix, 3)) (hl : rk_cln y.cls ix) (hS : S o = (20, N)) (hdd : 1 ≤ d) (hr : (st.map fun v => v.category).sum ≤ 8) (hn : n < 900000) (k : AW G l y cc ml rt d kc ks (pc + 3) (lv) (.ref n :: st) (n + 1) (rk_sh S n 20 N) (fun k => if k = n then I o else I k) (rk_zj J n) (rk_zr R n) Q) :
    AW G l y cc ml rt d (kc + 1) (ks + N) (pc) (lv) (.ref o :: st) n S I J R Q := by
  intro p e Rm s m args below meth c H locs cells slots ls C h1 h2 h3 h4
  have c9 : ∀ (vs : List Value), ((vs.map (rk_v G.1)).map fun v => v.category) = vs.map fun v => v.category := fun vs => by rw [List.map_map]; exact List.map_congr_left (fun v _ => rk_cat _ v)
  have f1 := C.2.2.2.2.2.2.2.2.2.2.1
  have f2 := C.2.2.2.2.2.2.2.2.2.2.2.1
  have po := rk_row h1 hS (by omega) (by omega)
  have hco : H[G.1 o]? = some (vp_cell (G.2.2.2.2.1 20) (N, .inl (I o))) := h1.1 o _ po
  have hnm : s.vm.findClass "[I" = some (G.2.2.2.2.1 20) := (C.2.2.2.2.2.2.2.1.2 0 _ rfl).2
  obtain ⟨c0, t0', q1, q2, q3⟩ := Cond.castable_spec (va_Nw.use (A := args) rfl (C.2.2.2.2.2.2.2.2.2.2.2.2.2.2.2.2.2.2.2.2.2.2.2.2.2 _ (by decide +kernel : Cond.castable "[I" "java/lang/Cloneable" ∈ rk_nw)))
  cases hnm.symm.trans q1
  have hA := rk_At_ad C.2.2.2.2.2.2.2.2.2.2.2.2.1 h1
  intro T hT X
  obtain ⟨-, kA, hkA, comp, hkind⟩ := State.isArrayOf_alike X.warmed.alike ((C.2.2.2.2.2.2.2.1.2 0 _ rfl).1 0 (fun _ => .null))
  obtain ⟨-, kS, hkS, compS, hkindS⟩ := (C.2.2.2.2.2.2.2.1.2 0 _ rfl).1 0 (fun _ => .null)
  have hsz : (vp_cell (G.2.2.2.2.1 20) (N, .inl (I o))).slots.size = N := arrV_size _ _ _
  obtain ⟨vm', X', st'⟩ := X.cloneArray C.1 C.2.2.2.2.1 (C.2.2.2.2.2.1 _ hl.1) (C.2.2.2.2.2.1 _ hl.2.1) (C.2.2.2.2.2.1 _ hl.2.2.1) (C.2.2.2.2.2.1 _ hl.2.2.2.1) (C.2.2.2.2.2.1 _ hl.2.2.2.2) (a := G.1 o) (cell := vp_cell (G.2.2.2.2.1 20) (N, .inl (I o))) (by rw [hT]; exact hco) (fun k h => by cases h) (fun h => by cases h) hnm q2 q3
    (fun i v hv => by
      have hk' : T.vm.classes[G.2.2.2.2.1 20]? = some kA := hkA
      have hfi : fits FieldType.int v = true := by
        have : (arrV (G.2.2.2.2.1 20) N (fun j => .int (I o j))).slots[i]? = some v := hv
        by_cases hi : i < N
        · rw [arrV_read _ _ hi] at this
          cases this
          rfl
        · rw [Array.getElem?_eq_none (by rw [arrV_size]; omega)] at this
          cases this
      simpa [State.fitsSlot, State.slotType?, hk', hkind, vp_cell, arrV] using hfi)
    (g := F0 m pc ls (.ref (G.1 o) :: st.map (rk_v G.1))) rfl (by rw [C.2.2.2.1]; exact h3.1) rfl (by rw [C.2.1]; exact hd) (by omega) (by rw [c9]; show 2 * 0 + _ + 14 ≤ _; omega) (by omega) (by rw [hsz]; omega) (hloader := Vm.clonesLoader_of_array hkS hkindS)
  rw [hsz] at X'
  generalize hH1 : H.push (vp_cell (G.2.2.2.2.1 20) (N, .inl (I o))) = H1
  have z1 : H1.size = H.size + 1 := by rw [← hH1, Array.size_push]
  have e1 : H1[G.1 n]? = some (vp_cell (G.2.2.2.2.1 20) (N, .inl (I o))) := by rw [← hA, ← hH1, Array.getElem?_push_size]
  have o1 : ∀ q : Nat, q < H.size → H1[q]? = H[q]? := fun q hq => by rw [← hH1, Array.getElem?_push, if_neg (Nat.ne_of_lt hq)]
  have hS' : rk_sh S n 20 N n = (20, N) := by simp [rk_sh]
  have hlt := rk_At_lt h1 hS (by omega)
  have h1' := rk_At_push (S' := rk_sh S n 20 N) (I' := fun k => if k = n then I o else I k) (J' := rk_zj J n) (R' := rk_zr R n) (e := .inl (G.2.2.2.2.1 20, N, .inl (I o))) C.2.2.2.2.2.2.2.2.2.2.2.2.1 h1 hn e1 z1 o1 (by rw [rk_cell_row hS' (by omega) (by omega), if_pos rfl]) (fun j hj => ⟨(rk_new_o (S := S) (I := I) (J := J) (R := R) j hj).1, if_neg (by omega), (rk_new_o (t := 20) (N := N) (S := S) (I := I) (J := J) (R := R) j hj).2.2⟩) (rk_new_99 h1.2.2.2)
  obtain ⟨t, b1, b2⟩ := rk_W_budget (a' := cells + (kc + 1)) (b' := slots + (ks + N)) (by omega) (by omega) (k p e Rm s m args below meth c H1 locs (cells + 1) (slots + N) ls C h1' (rk_S_push h2 z1 o1) h3 ⟨by omega, by omega⟩) ((T.setVm vm').pushCell (vp_cell (G.2.2.2.2.1 20) (N, .inl (I o)))) (by rw [← hH1, ← hT]; rfl) X'
  refine ⟨t, st' t ?_, b2⟩
  rw [hT, hA]
  exact b1
theorem AW_castI {ix o N : Nat} (hd : decode cc pc = .ok (.checkcast ix, 3)) (hl : Cond.classLink y.cls ix "[I" ∈ lw_tk) (hS : S o = (20, N)) (k : AW G l y cc ml rt d kc ks (pc + 3) (lv) (.ref o :: st) n S I J R Q) :
    AW G l y cc ml rt d kc ks (pc) (lv) (.ref o :: st) n S I J R Q := by
  intro p e Rm s m args below meth c H locs cells slots ls C h1 h2 h3 h4
  exact va_castA C.1 C.2.1 C.2.2.2.2.1 (C.2.2.2.2.2.1 _ hl) h1.1 o (rk_row h1 hS (by omega) (by omega)) ((C.2.2.2.2.2.2.2.1.2 0 _ rfl).2) hd (k _ _ _ _ _ _ _ _ _ _ _ _ _ ls C h1 h2 h3 h4)
theorem AW_wid {a b : Nat} (k : AW G l y cc ml rt d kc ks pc lv st n S I J R Q) :
    AW G l y cc ml rt d (kc + a) (ks + b) pc lv st n S I J R Q := by
  intro p e Rm s m args below meth c H locs cells slots ls C h1 h2 h3 h4
  have := k p e Rm s m args below meth c H locs (cells + a) (slots + b) ls C h1 h2 h3 (by omega)
  exact rk_W_budget (by omega) (by omega) (W.widen (k := cells + a) (n := slots + b) (by omega) (by omega) this)
theorem AW_newIle {v : Int32} {N B : Nat} (hd : decode cc pc = .ok (.newarray .int, 2)) (hw : Cond.arrayClass .int ∈ lw_tk) (hv : ¬ v < 0) (hN : v.toNatClampNeg = N) (hb : N ≤ B) (hB : B ≤ 100000) (hn : n < 900000) (k : AW G l y cc ml rt d kc ks (pc + 2) (lv) (.ref n :: st) (n + 1) (rk_sh S n 20 N) (rk_zi I n) (rk_zj J n) (rk_zr R n) Q) :
    AW G l y cc ml rt d (kc + 1) (ks + B) (pc) (lv) (.int v :: st) n S I J R Q := by
  rw [show ks + B = (ks + (B - N)) + N by omega]
  exact AW_newI hd hw hv hN (by omega) hn (AW_wid (a := 0) k)
end RK
