theorem rk_inj {G : rk_G} (hG : rk_ok G) {q r : Nat} (hq : q < 1000000) (hr : r < 1000000) (h : G.1 q = G.1 r) : q = r := by
  have e1 := hG.1 q hq
  have e2 := hG.1 r hr
  omega
def rk_as (ad : Nat → Nat) (lv : List (Option Value)) : List (Nat × Value) := (List.range lv.length).filterMap (fun i => (lv[i]?.join).map (fun v => (i, rk_v ad v)))
theorem rk_as_mem {ad : Nat → Nat} {lv : List (Option Value)} {q : Nat × Value} : q ∈ rk_as ad lv ↔ ∃ v, lv[q.1]? = some (some v) ∧ q.2 = rk_v ad v := by
  unfold rk_as
  rw [List.mem_filterMap]
  constructor
  · rintro ⟨i, -, hi⟩
    obtain ⟨v, h1, h2⟩ := Option.map_eq_some_iff.mp hi
    subst h2
    exact ⟨v, by simpa [Option.join_eq_some_iff] using h1, rfl⟩
  · rintro ⟨v, h1, h2⟩
    refine ⟨q.1, List.mem_range.mpr (List.getElem?_eq_some_iff.mp h1).1, ?_⟩
    rw [h1]
    show some (q.1, rk_v ad v) = some q
    rw [← h2]
theorem rk_L_has {ad : Nat → Nat} {ml : Nat} {lv : List (Option Value)} {ls : Array Slot} (h : rk_L ad ml lv ls) : lv_has ls ml (rk_as ad lv) := by
  refine ⟨h.1, h.2.1, fun q hq => ?_⟩
  obtain ⟨v, h1, h2⟩ := rk_as_mem.mp hq
  rw [h2]
  exact h.2.2 _ _ h1
def rk_one : Option Value → Bool
  | none => true
  | some v => v.category == 1
/-- behind a store of one slot -/
theorem rk_L_st1 {ad : Nat → Nat} {ml i : Nat} {v : Value} {lv lv' : List (Option Value)} {ls : Array Slot} (h : lv_has ls ml ((i, rk_v ad v) :: (rk_as ad lv).filter (fun q => !(q.1 == i) && !(q.1 + 1 == i && q.2.category == 2)))) (hs : lv.set i (some v) = lv') (hp : ∀ j w, j + 1 = i → lv[j]? = some w → rk_one w = true) : rk_L ad ml lv' ls := by
  refine ⟨h.1, h.2.1, fun j w hj => ?_⟩
  subst hs
  by_cases hji : i = j
  · subst hji
    have hl : i < lv.length := by
      have := (List.getElem?_eq_some_iff.mp hj).1
      simpa using this
    rw [List.getElem?_set_self hl] at hj
    cases hj
    exact h.2.2 _ List.mem_cons_self
  · rw [List.getElem?_set_ne hji] at hj
    refine h.2.2 (j, rk_v ad w) (List.mem_cons_of_mem _ (List.mem_filter.mpr ⟨rk_as_mem.mpr ⟨w, hj, rfl⟩, ?_⟩))
    by_cases hj1 : j + 1 = i
    · have := hp j (some w) hj1 hj
      simp [rk_one] at this
      simp [rk_cat, this, Ne.symm hji]
    · simp [hj1, Ne.symm hji]
/-- behind a store of two slots -/
theorem rk_L_st2 {ad : Nat → Nat} {ml i : Nat} {v : Value} {lv lv' : List (Option Value)} {ls : Array Slot} (h : lv_has ls ml ((i, rk_v ad v) :: (rk_as ad lv).filter (fun q => !(q.1 == i) && (!(q.1 == i + 1) && !(q.1 + 1 == i && q.2.category == 2))))) (hs : (lv.set i (some v)).set (i + 1) none = lv') (hp : ∀ j w, j + 1 = i → lv[j]? = some w → rk_one w = true) : rk_L ad ml lv' ls := by
  refine ⟨h.1, h.2.1, fun j w hj => ?_⟩
  subst hs
  by_cases hj2 : i + 1 = j
  · subst hj2
    rw [List.getElem?_set] at hj
    split at hj
    · split at hj <;> simp at hj
    · exact absurd rfl ‹_›
  · rw [List.getElem?_set_ne hj2] at hj
    by_cases hji : i = j
    · subst hji
      have hl : i < lv.length := by
        have := (List.getElem?_eq_some_iff.mp hj).1
        simpa using this
      rw [List.getElem?_set_self hl] at hj
      cases hj
      exact h.2.2 _ List.mem_cons_self
    · rw [List.getElem?_set_ne hji] at hj
      refine h.2.2 (j, rk_v ad w) (List.mem_cons_of_mem _ (List.mem_filter.mpr ⟨rk_as_mem.mpr ⟨w, hj, rfl⟩, ?_⟩))
      by_cases hj1 : j + 1 = i
      · have := hp j (some w) hj1 hj
        simp [rk_one] at this
        simp [rk_cat, this, Ne.symm hji, Ne.symm hj2]
      · simp [hj1, Ne.symm hji, Ne.symm hj2]
section RK
variable {G : rk_G} {l : Launch} {y : MethodName} {cc : ByteArray} {ml : Nat} {rt : Option FieldType} {d kc ks pc : Nat} {lv : List (Option Value)} {st : List Value} {n : Nat} {S : rk_Sh} {I : rk_I} {J : rk_J} {R : rk_R} {Q : rk_Q}
theorem AW_iconst {i : Int} {v : Int32} (hd : decode cc pc = .ok (.iconst i, 1)) (hv : Int32.ofInt i = v) (k : AW G l y cc ml rt d kc ks (pc + 1) (lv) (.int v :: st) n S I J R Q) :
    AW G l y cc ml rt d kc ks (pc) (lv) (st) n S I J R Q := by
  intro p e Rm s m args below meth c H locs cells slots ls C h1 h2 h3 h4
  exact lv_iconst C.1 C.2.1 hd hv (k _ _ _ _ _ _ _ _ _ _ _ _ _ ls C h1 h2 h3 h4)
theorem AW_bipush {i : Int} {v : Int32} (hd : decode cc pc = .ok (.bipush i, 2)) (hv : (Int8.ofInt i).toInt32 = v) (k : AW G l y cc ml rt d kc ks (pc + 2) (lv) (.int v :: st) n S I J R Q) :
    AW G l y cc ml rt d kc ks (pc) (lv) (st) n S I J R Q := by
  intro p e Rm s m args below meth c H locs cells slots ls C h1 h2 h3 h4
  exact lv_bipush C.1 C.2.1 hd hv (k _ _ _ _ _ _ _ _ _ _ _ _ _ ls C h1 h2 h3 h4)
theorem AW_sipush {i : Int} {v : Int32} (hd : decode cc pc = .ok (.sipush i, 3)) (hv : (Int16.ofInt i).toInt32 = v) (k : AW G l y cc ml rt d kc ks (pc + 3) (lv) (.int v :: st) n S I J R Q) :
    AW G l y cc ml rt d kc ks (pc) (lv) (st) n S I J R Q := by
  intro p e Rm s m args below meth c H locs cells slots ls C h1 h2 h3 h4
  exact lv_sipush C.1 C.2.1 hd hv (k _ _ _ _ _ _ _ _ _ _ _ _ _ ls C h1 h2 h3 h4)
theorem AW_lconst {i : Fin 2} {v : Int64} (hd : decode cc pc = .ok (.lconst i, 1)) (hv : Int64.ofNat (i : Nat) = v) (k : AW G l y cc ml rt d kc ks (pc + 1) (lv) (.long v :: st) n S I J R Q) :
    AW G l y cc ml rt d kc ks (pc) (lv) (st) n S I J R Q := by
  intro p e Rm s m args below meth c H locs cells slots ls C h1 h2 h3 h4
  exact lv_lconst C.1 C.2.1 hd hv (k _ _ _ _ _ _ _ _ _ _ _ _ _ ls C h1 h2 h3 h4)
theorem AW_iadd {x z : Int32} (hd : decode cc pc = .ok (.iadd, 1)) (k : AW G l y cc ml rt d kc ks (pc + 1) (lv) (.int (x + z) :: st) n S I J R Q) :
    AW G l y cc ml rt d kc ks (pc) (lv) (.int z :: .int x :: st) n S I J R Q := by
  intro p e Rm s m args below meth c H locs cells slots ls C h1 h2 h3 h4
  exact lv_iadd C.1 C.2.1 hd (k _ _ _ _ _ _ _ _ _ _ _ _ _ ls C h1 h2 h3 h4)
theorem AW_isub {x z : Int32} (hd : decode cc pc = .ok (.isub, 1)) (k : AW G l y cc ml rt d kc ks (pc + 1) (lv) (.int (x - z) :: st) n S I J R Q) :
    AW G l y cc ml rt d kc ks (pc) (lv) (.int z :: .int x :: st) n S I J R Q := by
  intro p e Rm s m args below meth c H locs cells slots ls C h1 h2 h3 h4
  exact lv_isub C.1 C.2.1 hd (k _ _ _ _ _ _ _ _ _ _ _ _ _ ls C h1 h2 h3 h4)
theorem AW_imul {x z : Int32} (hd : decode cc pc = .ok (.imul, 1)) (k : AW G l y cc ml rt d kc ks (pc + 1) (lv) (.int (x * z) :: st) n S I J R Q) :
    AW G l y cc ml rt d kc ks (pc) (lv) (.int z :: .int x :: st) n S I J R Q := by
  intro p e Rm s m args below meth c H locs cells slots ls C h1 h2 h3 h4
  exact lv_imul C.1 C.2.1 hd (k _ _ _ _ _ _ _ _ _ _ _ _ _ ls C h1 h2 h3 h4)
theorem AW_iand {x z : Int32} (hd : decode cc pc = .ok (.iand, 1)) (k : AW G l y cc ml rt d kc ks (pc + 1) (lv) (.int (x &&& z) :: st) n S I J R Q) :
    AW G l y cc ml rt d kc ks (pc) (lv) (.int z :: .int x :: st) n S I J R Q := by
  intro p e Rm s m args below meth c H locs cells slots ls C h1 h2 h3 h4
  exact lv_iand C.1 C.2.1 hd (k _ _ _ _ _ _ _ _ _ _ _ _ _ ls C h1 h2 h3 h4)
theorem AW_ior {x z : Int32} (hd : decode cc pc = .ok (.ior, 1)) (k : AW G l y cc ml rt d kc ks (pc + 1) (lv) (.int (x ||| z) :: st) n S I J R Q) :
    AW G l y cc ml rt d kc ks (pc) (lv) (.int z :: .int x :: st) n S I J R Q := by
  intro p e Rm s m args below meth c H locs cells slots ls C h1 h2 h3 h4
  exact lv_ior C.1 C.2.1 hd (k _ _ _ _ _ _ _ _ _ _ _ _ _ ls C h1 h2 h3 h4)
theorem AW_ixor {x z : Int32} (hd : decode cc pc = .ok (.ixor, 1)) (k : AW G l y cc ml rt d kc ks (pc + 1) (lv) (.int (x ^^^ z) :: st) n S I J R Q) :
    AW G l y cc ml rt d kc ks (pc) (lv) (.int z :: .int x :: st) n S I J R Q := by
  intro p e Rm s m args below meth c H locs cells slots ls C h1 h2 h3 h4
  exact lv_ixor C.1 C.2.1 hd (k _ _ _ _ _ _ _ _ _ _ _ _ _ ls C h1 h2 h3 h4)
theorem AW_ishl {x z : Int32} (hd : decode cc pc = .ok (.ishl, 1)) (k : AW G l y cc ml rt d kc ks (pc + 1) (lv) (.int (x <<< (z &&& 31)) :: st) n S I J R Q) :
    AW G l y cc ml rt d kc ks (pc) (lv) (.int z :: .int x :: st) n S I J R Q := by
  intro p e Rm s m args below meth c H locs cells slots ls C h1 h2 h3 h4
  exact lv_ishl C.1 C.2.1 hd (k _ _ _ _ _ _ _ _ _ _ _ _ _ ls C h1 h2 h3 h4)
theorem AW_ishr {x z : Int32} (hd : decode cc pc = .ok (.ishr, 1)) (k : AW G l y cc ml rt d kc ks (pc + 1) (lv) (.int (x >>> (z &&& 31)) :: st) n S I J R Q) :
    AW G l y cc ml rt d kc ks (pc) (lv) (.int z :: .int x :: st) n S I J R Q := by
  intro p e Rm s m args below meth c H locs cells slots ls C h1 h2 h3 h4
  exact lv_ishr C.1 C.2.1 hd (k _ _ _ _ _ _ _ _ _ _ _ _ _ ls C h1 h2 h3 h4)
theorem AW_idiv {x z : Int32} (hd : decode cc pc = .ok (.idiv, 1)) (hz : ¬ z = 0) (k : AW G l y cc ml rt d kc ks (pc + 1) (lv) (.int (x / z) :: st) n S I J R Q) :
    AW G l y cc ml rt d kc ks (pc) (lv) (.int z :: .int x :: st) n S I J R Q := by
  intro p e Rm s m args below meth c H locs cells slots ls C h1 h2 h3 h4
  exact lv_idiv C.1 C.2.1 hd hz (k _ _ _ _ _ _ _ _ _ _ _ _ _ ls C h1 h2 h3 h4)
theorem AW_irem {x z : Int32} (hd : decode cc pc = .ok (.irem, 1)) (hz : ¬ z = 0) (k : AW G l y cc ml rt d kc ks (pc + 1) (lv) (.int (x - x / z * z) :: st) n S I J R Q) :
    AW G l y cc ml rt d kc ks (pc) (lv) (.int z :: .int x :: st) n S I J R Q := by
  intro p e Rm s m args below meth c H locs cells slots ls C h1 h2 h3 h4
  exact lv_irem C.1 C.2.1 hd hz (k _ _ _ _ _ _ _ _ _ _ _ _ _ ls C h1 h2 h3 h4)
theorem AW_ineg {x : Int32} (hd : decode cc pc = .ok (.ineg, 1)) (k : AW G l y cc ml rt d kc ks (pc + 1) (lv) (.int (-x) :: st) n S I J R Q) :
    AW G l y cc ml rt d kc ks (pc) (lv) (.int x :: st) n S I J R Q := by
  intro p e Rm s m args below meth c H locs cells slots ls C h1 h2 h3 h4
  exact lv_ineg C.1 C.2.1 hd (k _ _ _ _ _ _ _ _ _ _ _ _ _ ls C h1 h2 h3 h4)
theorem AW_ladd {x z : Int64} (hd : decode cc pc = .ok (.ladd, 1)) (k : AW G l y cc ml rt d kc ks (pc + 1) (lv) (.long (x + z) :: st) n S I J R Q) :
    AW G l y cc ml rt d kc ks (pc) (lv) (.long z :: .long x :: st) n S I J R Q := by
  intro p e Rm s m args below meth c H locs cells slots ls C h1 h2 h3 h4
  exact lv_ladd C.1 C.2.1 hd (k _ _ _ _ _ _ _ _ _ _ _ _ _ ls C h1 h2 h3 h4)
theorem AW_lsub {x z : Int64} (hd : decode cc pc = .ok (.lsub, 1)) (k : AW G l y cc ml rt d kc ks (pc + 1) (lv) (.long (x - z) :: st) n S I J R Q) :
    AW G l y cc ml rt d kc ks (pc) (lv) (.long z :: .long x :: st) n S I J R Q := by
  intro p e Rm s m args below meth c H locs cells slots ls C h1 h2 h3 h4
  exact lv_lsub C.1 C.2.1 hd (k _ _ _ _ _ _ _ _ _ _ _ _ _ ls C h1 h2 h3 h4)
theorem AW_lmul {x z : Int64} (hd : decode cc pc = .ok (.lmul, 1)) (k : AW G l y cc ml rt d kc ks (pc + 1) (lv) (.long (x * z) :: st) n S I J R Q) :
    AW G l y cc ml rt d kc ks (pc) (lv) (.long z :: .long x :: st) n S I J R Q := by
  intro p e Rm s m args below meth c H locs cells slots ls C h1 h2 h3 h4
  exact lv_lmul C.1 C.2.1 hd (k _ _ _ _ _ _ _ _ _ _ _ _ _ ls C h1 h2 h3 h4)
theorem AW_land {x z : Int64} (hd : decode cc pc = .ok (.land, 1)) (k : AW G l y cc ml rt d kc ks (pc + 1) (lv) (.long (x &&& z) :: st) n S I J R Q) :
    AW G l y cc ml rt d kc ks (pc) (lv) (.long z :: .long x :: st) n S I J R Q := by
  intro p e Rm s m args below meth c H locs cells slots ls C h1 h2 h3 h4
  exact lv_land C.1 C.2.1 hd (k _ _ _ _ _ _ _ _ _ _ _ _ _ ls C h1 h2 h3 h4)
theorem AW_lor {x z : Int64} (hd : decode cc pc = .ok (.lor, 1)) (k : AW G l y cc ml rt d kc ks (pc + 1) (lv) (.long (x ||| z) :: st) n S I J R Q) :
    AW G l y cc ml rt d kc ks (pc) (lv) (.long z :: .long x :: st) n S I J R Q := by
  intro p e Rm s m args below meth c H locs cells slots ls C h1 h2 h3 h4
  exact lv_lor C.1 C.2.1 hd (k _ _ _ _ _ _ _ _ _ _ _ _ _ ls C h1 h2 h3 h4)
theorem AW_ldiv {x z : Int64} (hd : decode cc pc = .ok (.ldiv, 1)) (hz : ¬ z = 0) (k : AW G l y cc ml rt d kc ks (pc + 1) (lv) (.long (x / z) :: st) n S I J R Q) :
    AW G l y cc ml rt d kc ks (pc) (lv) (.long z :: .long x :: st) n S I J R Q := by
  intro p e Rm s m args below meth c H locs cells slots ls C h1 h2 h3 h4
  exact lv_ldiv C.1 C.2.1 hd hz (k _ _ _ _ _ _ _ _ _ _ _ _ _ ls C h1 h2 h3 h4)
theorem AW_lrem {x z : Int64} (hd : decode cc pc = .ok (.lrem, 1)) (hz : ¬ z = 0) (k : AW G l y cc ml rt d kc ks (pc + 1) (lv) (.long (x - x / z * z) :: st) n S I J R Q) :
    AW G l y cc ml rt d kc ks (pc) (lv) (.long z :: .long x :: st) n S I J R Q := by
  intro p e Rm s m args below meth c H locs cells slots ls C h1 h2 h3 h4
  exact lv_lrem C.1 C.2.1 hd hz (k _ _ _ _ _ _ _ _ _ _ _ _ _ ls C h1 h2 h3 h4)
theorem AW_lneg {x : Int64} (hd : decode cc pc = .ok (.lneg, 1)) (k : AW G l y cc ml rt d kc ks (pc + 1) (lv) (.long (-x) :: st) n S I J R Q) :
    AW G l y cc ml rt d kc ks (pc) (lv) (.long x :: st) n S I J R Q := by
  intro p e Rm s m args below meth c H locs cells slots ls C h1 h2 h3 h4
  exact lv_lneg C.1 C.2.1 hd (k _ _ _ _ _ _ _ _ _ _ _ _ _ ls C h1 h2 h3 h4)
theorem AW_i2l {x : Int32} (hd : decode cc pc = .ok (.i2l, 1)) (k : AW G l y cc ml rt d kc ks (pc + 1) (lv) (.long x.toInt64 :: st) n S I J R Q) :
    AW G l y cc ml rt d kc ks (pc) (lv) (.int x :: st) n S I J R Q := by
  intro p e Rm s m args below meth c H locs cells slots ls C h1 h2 h3 h4
  exact lv_i2l C.1 C.2.1 hd rfl (k _ _ _ _ _ _ _ _ _ _ _ _ _ ls C h1 h2 h3 h4)
theorem AW_l2i {x : Int64} (hd : decode cc pc = .ok (.l2i, 1)) (k : AW G l y cc ml rt d kc ks (pc + 1) (lv) (.int x.toInt32 :: st) n S I J R Q) :
    AW G l y cc ml rt d kc ks (pc) (lv) (.long x :: st) n S I J R Q := by
  intro p e Rm s m args below meth c H locs cells slots ls C h1 h2 h3 h4
  exact lv_l2i C.1 C.2.1 hd rfl (k _ _ _ _ _ _ _ _ _ _ _ _ _ ls C h1 h2 h3 h4)
theorem AW_i2b {x : Int32} (hd : decode cc pc = .ok (.i2b, 1)) (k : AW G l y cc ml rt d kc ks (pc + 1) (lv) (.int x.toInt8.toInt32 :: st) n S I J R Q) :
    AW G l y cc ml rt d kc ks (pc) (lv) (.int x :: st) n S I J R Q := by
  intro p e Rm s m args below meth c H locs cells slots ls C h1 h2 h3 h4
  exact lv_i2b C.1 C.2.1 hd rfl (k _ _ _ _ _ _ _ _ _ _ _ _ _ ls C h1 h2 h3 h4)
theorem AW_i2s {x : Int32} (hd : decode cc pc = .ok (.i2s, 1)) (k : AW G l y cc ml rt d kc ks (pc + 1) (lv) (.int x.toInt16.toInt32 :: st) n S I J R Q) :
    AW G l y cc ml rt d kc ks (pc) (lv) (.int x :: st) n S I J R Q := by
  intro p e Rm s m args below meth c H locs cells slots ls C h1 h2 h3 h4
  exact lv_i2s C.1 C.2.1 hd rfl (k _ _ _ _ _ _ _ _ _ _ _ _ _ ls C h1 h2 h3 h4)
theorem AW_iushr {x z : Int32} (hd : decode cc pc = .ok (.iushr, 1)) (k : AW G l y cc ml rt d kc ks (pc + 1) (lv) (.int (x.toUInt32 >>> (z.toUInt32 &&& Int32.toUInt32 31)).toInt32 :: st) n S I J R Q) :
    AW G l y cc ml rt d kc ks (pc) (lv) (.int z :: .int x :: st) n S I J R Q := by
  intro p e Rm s m args below meth c H locs cells slots ls C h1 h2 h3 h4
  exact lv_iushr C.1 C.2.1 hd rfl (k _ _ _ _ _ _ _ _ _ _ _ _ _ ls C h1 h2 h3 h4)
theorem AW_lushr {x : Int64} {z : Int32} (hd : decode cc pc = .ok (.lushr, 1)) (k : AW G l y cc ml rt d kc ks (pc + 1) (lv) (.long (x.toUInt64 >>> (z.toInt64.toUInt64 &&& Int64.toUInt64 63)).toInt64 :: st) n S I J R Q) :
    AW G l y cc ml rt d kc ks (pc) (lv) (.int z :: .long x :: st) n S I J R Q := by
  intro p e Rm s m args below meth c H locs cells slots ls C h1 h2 h3 h4
  exact lv_lushr C.1 C.2.1 hd rfl (k _ _ _ _ _ _ _ _ _ _ _ _ _ ls C h1 h2 h3 h4)
theorem AW_lshl {x : Int64} {z : Int32} (hd : decode cc pc = .ok (.lshl, 1)) (k : AW G l y cc ml rt d kc ks (pc + 1) (lv) (.long (x <<< (z.toInt64 &&& 63)) :: st) n S I J R Q) :
    AW G l y cc ml rt d kc ks (pc) (lv) (.int z :: .long x :: st) n S I J R Q := by
  intro p e Rm s m args below meth c H locs cells slots ls C h1 h2 h3 h4
  exact lv_lshl C.1 C.2.1 hd rfl (k _ _ _ _ _ _ _ _ _ _ _ _ _ ls C h1 h2 h3 h4)
theorem AW_lshr {x : Int64} {z : Int32} (hd : decode cc pc = .ok (.lshr, 1)) (k : AW G l y cc ml rt d kc ks (pc + 1) (lv) (.long (x >>> (z.toInt64 &&& 63)) :: st) n S I J R Q) :
    AW G l y cc ml rt d kc ks (pc) (lv) (.int z :: .long x :: st) n S I J R Q := by
  intro p e Rm s m args below meth c H locs cells slots ls C h1 h2 h3 h4
  exact lv_lshr C.1 C.2.1 hd rfl (k _ _ _ _ _ _ _ _ _ _ _ _ _ ls C h1 h2 h3 h4)
theorem AW_lcmp {x z : Int64} (hd : decode cc pc = .ok (.lcmp, 1)) (k : AW G l y cc ml rt d kc ks (pc + 1) (lv) (.int (lg_cmp x z) :: st) n S I J R Q) :
    AW G l y cc ml rt d kc ks (pc) (lv) (.long z :: .long x :: st) n S I J R Q := by
  intro p e Rm s m args below meth c H locs cells slots ls C h1 h2 h3 h4
  exact W.lcmp C.1 C.2.1 hd (k _ _ _ _ _ _ _ _ _ _ _ _ _ ls C h1 h2 h3 h4)
theorem AW_dup {v : Value} (hd : decode cc pc = .ok (.dup, 1)) (hv : v.category = 1) (k : AW G l y cc ml rt d kc ks (pc + 1) (lv) (v :: v :: st) n S I J R Q) :
    AW G l y cc ml rt d kc ks (pc) (lv) (v :: st) n S I J R Q := by
  intro p e Rm s m args below meth c H locs cells slots ls C h1 h2 h3 h4
  exact lv_dup C.1 C.2.1 hd ((rk_cat _ v).trans hv) (k _ _ _ _ _ _ _ _ _ _ _ _ _ ls C h1 h2 h3 h4)
theorem AW_pop {v : Value} (hd : decode cc pc = .ok (.pop, 1)) (hv : v.category = 1) (k : AW G l y cc ml rt d kc ks (pc + 1) (lv) (st) n S I J R Q) :
    AW G l y cc ml rt d kc ks (pc) (lv) (v :: st) n S I J R Q := by
  intro p e Rm s m args below meth c H locs cells slots ls C h1 h2 h3 h4
  exact lv_pop C.1 C.2.1 hd ((rk_cat _ v).trans hv) (k _ _ _ _ _ _ _ _ _ _ _ _ _ ls C h1 h2 h3 h4)
theorem AW_dup_x1 {v w : Value} (hd : decode cc pc = .ok (.dup_x1, 1)) (hv : v.category = 1) (hw : w.category = 1) (k : AW G l y cc ml rt d kc ks (pc + 1) (lv) (v :: w :: v :: st) n S I J R Q) :
    AW G l y cc ml rt d kc ks (pc) (lv) (v :: w :: st) n S I J R Q := by
  intro p e Rm s m args below meth c H locs cells slots ls C h1 h2 h3 h4
  exact lv_dup_x1 C.1 C.2.1 hd ((rk_cat _ v).trans hv) ((rk_cat _ w).trans hw) (k _ _ _ _ _ _ _ _ _ _ _ _ _ ls C h1 h2 h3 h4)
theorem AW_dup2 {v w : Value} (hd : decode cc pc = .ok (.dup2, 1)) (hv : v.category = 1) (hw : w.category = 1) (k : AW G l y cc ml rt d kc ks (pc + 1) (lv) (v :: w :: v :: w :: st) n S I J R Q) :
    AW G l y cc ml rt d kc ks (pc) (lv) (v :: w :: st) n S I J R Q := by
  intro p e Rm s m args below meth c H locs cells slots ls C h1 h2 h3 h4
  exact lv_dup2_11 C.1 C.2.1 hd ((rk_cat _ v).trans hv) ((rk_cat _ w).trans hw) (k _ _ _ _ _ _ _ _ _ _ _ _ _ ls C h1 h2 h3 h4)
theorem AW_dup_x2 {v w u : Value} (hd : decode cc pc = .ok (.dup_x2, 1)) (hv : v.category = 1) (hw : w.category = 1) (hu : u.category = 1) (k : AW G l y cc ml rt d kc ks (pc + 1) (lv) (v :: w :: u :: v :: st) n S I J R Q) :
    AW G l y cc ml rt d kc ks (pc) (lv) (v :: w :: u :: st) n S I J R Q := by
  intro p e Rm s m args below meth c H locs cells slots ls C h1 h2 h3 h4
  exact lv_dup_x2 C.1 C.2.1 hd ((rk_cat _ v).trans hv) ((rk_cat _ w).trans hw) ((rk_cat _ u).trans hu) (k _ _ _ _ _ _ _ _ _ _ _ _ _ ls C h1 h2 h3 h4)
theorem AW_null  (hd : decode cc pc = .ok (.aconst_null, 1)) (k : AW G l y cc ml rt d kc ks (pc + 1) (lv) (.null :: st) n S I J R Q) :
    AW G l y cc ml rt d kc ks (pc) (lv) (st) n S I J R Q := by
  intro p e Rm s m args below meth c H locs cells slots ls C h1 h2 h3 h4
  exact lv_null C.1 C.2.1 hd (k _ _ _ _ _ _ _ _ _ _ _ _ _ ls C h1 h2 h3 h4)
theorem AW_if_eq {x : Int32} {off : Int} (tgt : Nat) (hd : decode cc pc = .ok (.ifCond .eq off, 3)) (ht : (pc : Int) + off = (tgt : Int)) (kt : x = 0 → AW G l y cc ml rt d kc ks (tgt) (lv) (st) n S I J R Q) (kf : ¬ x = 0 → AW G l y cc ml rt d kc ks (pc + 3) (lv) (st) n S I J R Q) :
    AW G l y cc ml rt d kc ks (pc) (lv) (.int x :: st) n S I J R Q := by
  intro p e Rm s m args below meth c H locs cells slots ls C h1 h2 h3 h4
  exact lv_if_eq C.1 C.2.1 hd ht (fun z => (kt z _ _ _ _ _ _ _ _ _ _ _ _ _ ls C h1 h2 h3 h4)) (fun z => (kf z _ _ _ _ _ _ _ _ _ _ _ _ _ ls C h1 h2 h3 h4))
theorem AW_if_ne {x : Int32} {off : Int} (tgt : Nat) (hd : decode cc pc = .ok (.ifCond .ne off, 3)) (ht : (pc : Int) + off = (tgt : Int)) (kt : ¬ x = 0 → AW G l y cc ml rt d kc ks (tgt) (lv) (st) n S I J R Q) (kf : x = 0 → AW G l y cc ml rt d kc ks (pc + 3) (lv) (st) n S I J R Q) :
    AW G l y cc ml rt d kc ks (pc) (lv) (.int x :: st) n S I J R Q := by
  intro p e Rm s m args below meth c H locs cells slots ls C h1 h2 h3 h4
  exact lv_if_ne C.1 C.2.1 hd ht (fun z => (kt z _ _ _ _ _ _ _ _ _ _ _ _ _ ls C h1 h2 h3 h4)) (fun z => (kf z _ _ _ _ _ _ _ _ _ _ _ _ _ ls C h1 h2 h3 h4))
theorem AW_if_lt {x : Int32} {off : Int} (tgt : Nat) (hd : decode cc pc = .ok (.ifCond .lt off, 3)) (ht : (pc : Int) + off = (tgt : Int)) (kt : x < 0 → AW G l y cc ml rt d kc ks (tgt) (lv) (st) n S I J R Q) (kf : ¬ x < 0 → AW G l y cc ml rt d kc ks (pc + 3) (lv) (st) n S I J R Q) :
    AW G l y cc ml rt d kc ks (pc) (lv) (.int x :: st) n S I J R Q := by
  intro p e Rm s m args below meth c H locs cells slots ls C h1 h2 h3 h4
  exact lv_if_lt C.1 C.2.1 hd ht (fun z => (kt z _ _ _ _ _ _ _ _ _ _ _ _ _ ls C h1 h2 h3 h4)) (fun z => (kf z _ _ _ _ _ _ _ _ _ _ _ _ _ ls C h1 h2 h3 h4))
theorem AW_if_ge {x : Int32} {off : Int} (tgt : Nat) (hd : decode cc pc = .ok (.ifCond .ge off, 3)) (ht : (pc : Int) + off = (tgt : Int)) (kt : 0 ≤ x → AW G l y cc ml rt d kc ks (tgt) (lv) (st) n S I J R Q) (kf : ¬ 0 ≤ x → AW G l y cc ml rt d kc ks (pc + 3) (lv) (st) n S I J R Q) :
    AW G l y cc ml rt d kc ks (pc) (lv) (.int x :: st) n S I J R Q := by
  intro p e Rm s m args below meth c H locs cells slots ls C h1 h2 h3 h4
  exact lv_if_ge C.1 C.2.1 hd ht (fun z => (kt z _ _ _ _ _ _ _ _ _ _ _ _ _ ls C h1 h2 h3 h4)) (fun z => (kf z _ _ _ _ _ _ _ _ _ _ _ _ _ ls C h1 h2 h3 h4))
theorem AW_if_gt {x : Int32} {off : Int} (tgt : Nat) (hd : decode cc pc = .ok (.ifCond .gt off, 3)) (ht : (pc : Int) + off = (tgt : Int)) (kt : 0 < x → AW G l y cc ml rt d kc ks (tgt) (lv) (st) n S I J R Q) (kf : ¬ 0 < x → AW G l y cc ml rt d kc ks (pc + 3) (lv) (st) n S I J R Q) :
    AW G l y cc ml rt d kc ks (pc) (lv) (.int x :: st) n S I J R Q := by
  intro p e Rm s m args below meth c H locs cells slots ls C h1 h2 h3 h4
  exact lv_if_gt C.1 C.2.1 hd ht (fun z => (kt z _ _ _ _ _ _ _ _ _ _ _ _ _ ls C h1 h2 h3 h4)) (fun z => (kf z _ _ _ _ _ _ _ _ _ _ _ _ _ ls C h1 h2 h3 h4))
theorem AW_if_le {x : Int32} {off : Int} (tgt : Nat) (hd : decode cc pc = .ok (.ifCond .le off, 3)) (ht : (pc : Int) + off = (tgt : Int)) (kt : x ≤ 0 → AW G l y cc ml rt d kc ks (tgt) (lv) (st) n S I J R Q) (kf : ¬ x ≤ 0 → AW G l y cc ml rt d kc ks (pc + 3) (lv) (st) n S I J R Q) :
    AW G l y cc ml rt d kc ks (pc) (lv) (.int x :: st) n S I J R Q := by
  intro p e Rm s m args below meth c H locs cells slots ls C h1 h2 h3 h4
  exact lv_if_le C.1 C.2.1 hd ht (fun z => (kt z _ _ _ _ _ _ _ _ _ _ _ _ _ ls C h1 h2 h3 h4)) (fun z => (kf z _ _ _ _ _ _ _ _ _ _ _ _ _ ls C h1 h2 h3 h4))
theorem AW_icmp_eq {x z : Int32} {off : Int} (tgt : Nat) (hd : decode cc pc = .ok (.if_icmp .eq off, 3)) (ht : (pc : Int) + off = (tgt : Int)) (kt : x = z → AW G l y cc ml rt d kc ks (tgt) (lv) (st) n S I J R Q) (kf : ¬ x = z → AW G l y cc ml rt d kc ks (pc + 3) (lv) (st) n S I J R Q) :
    AW G l y cc ml rt d kc ks (pc) (lv) (.int z :: .int x :: st) n S I J R Q := by
  intro p e Rm s m args below meth c H locs cells slots ls C h1 h2 h3 h4
  exact lv_icmp_eq C.1 C.2.1 hd ht (fun z => (kt z _ _ _ _ _ _ _ _ _ _ _ _ _ ls C h1 h2 h3 h4)) (fun z => (kf z _ _ _ _ _ _ _ _ _ _ _ _ _ ls C h1 h2 h3 h4))
theorem AW_icmp_ne {x z : Int32} {off : Int} (tgt : Nat) (hd : decode cc pc = .ok (.if_icmp .ne off, 3)) (ht : (pc : Int) + off = (tgt : Int)) (kt : ¬ x = z → AW G l y cc ml rt d kc ks (tgt) (lv) (st) n S I J R Q) (kf : x = z → AW G l y cc ml rt d kc ks (pc + 3) (lv) (st) n S I J R Q) :
    AW G l y cc ml rt d kc ks (pc) (lv) (.int z :: .int x :: st) n S I J R Q := by
  intro p e Rm s m args below meth c H locs cells slots ls C h1 h2 h3 h4
  exact lv_icmp_ne C.1 C.2.1 hd ht (fun z => (kt z _ _ _ _ _ _ _ _ _ _ _ _ _ ls C h1 h2 h3 h4)) (fun z => (kf z _ _ _ _ _ _ _ _ _ _ _ _ _ ls C h1 h2 h3 h4))
theorem AW_icmp_lt {x z : Int32} {off : Int} (tgt : Nat) (hd : decode cc pc = .ok (.if_icmp .lt off, 3)) (ht : (pc : Int) + off = (tgt : Int)) (kt : x < z → AW G l y cc ml rt d kc ks (tgt) (lv) (st) n S I J R Q) (kf : ¬ x < z → AW G l y cc ml rt d kc ks (pc + 3) (lv) (st) n S I J R Q) :
    AW G l y cc ml rt d kc ks (pc) (lv) (.int z :: .int x :: st) n S I J R Q := by
  intro p e Rm s m args below meth c H locs cells slots ls C h1 h2 h3 h4
  exact lv_icmp_lt C.1 C.2.1 hd ht (fun z => (kt z _ _ _ _ _ _ _ _ _ _ _ _ _ ls C h1 h2 h3 h4)) (fun z => (kf z _ _ _ _ _ _ _ _ _ _ _ _ _ ls C h1 h2 h3 h4))
theorem AW_icmp_ge {x z : Int32} {off : Int} (tgt : Nat) (hd : decode cc pc = .ok (.if_icmp .ge off, 3)) (ht : (pc : Int) + off = (tgt : Int)) (kt : z ≤ x → AW G l y cc ml rt d kc ks (tgt) (lv) (st) n S I J R Q) (kf : ¬ z ≤ x → AW G l y cc ml rt d kc ks (pc + 3) (lv) (st) n S I J R Q) :
    AW G l y cc ml rt d kc ks (pc) (lv) (.int z :: .int x :: st) n S I J R Q := by
  intro p e Rm s m args below meth c H locs cells slots ls C h1 h2 h3 h4
  exact lv_icmp_ge C.1 C.2.1 hd ht (fun z => (kt z _ _ _ _ _ _ _ _ _ _ _ _ _ ls C h1 h2 h3 h4)) (fun z => (kf z _ _ _ _ _ _ _ _ _ _ _ _ _ ls C h1 h2 h3 h4))
theorem AW_icmp_gt {x z : Int32} {off : Int} (tgt : Nat) (hd : decode cc pc = .ok (.if_icmp .gt off, 3)) (ht : (pc : Int) + off = (tgt : Int)) (kt : z < x → AW G l y cc ml rt d kc ks (tgt) (lv) (st) n S I J R Q) (kf : ¬ z < x → AW G l y cc ml rt d kc ks (pc + 3) (lv) (st) n S I J R Q) :
    AW G l y cc ml rt d kc ks (pc) (lv) (.int z :: .int x :: st) n S I J R Q := by
  intro p e Rm s m args below meth c H locs cells slots ls C h1 h2 h3 h4
  exact lv_icmp_gt C.1 C.2.1 hd ht (fun z => (kt z _ _ _ _ _ _ _ _ _ _ _ _ _ ls C h1 h2 h3 h4)) (fun z => (kf z _ _ _ _ _ _ _ _ _ _ _ _ _ ls C h1 h2 h3 h4))
theorem AW_icmp_le {x z : Int32} {off : Int} (tgt : Nat) (hd : decode cc pc = .ok (.if_icmp .le off, 3)) (ht : (pc : Int) + off = (tgt : Int)) (kt : x ≤ z → AW G l y cc ml rt d kc ks (tgt) (lv) (st) n S I J R Q) (kf : ¬ x ≤ z → AW G l y cc ml rt d kc ks (pc + 3) (lv) (st) n S I J R Q) :
    AW G l y cc ml rt d kc ks (pc) (lv) (.int z :: .int x :: st) n S I J R Q := by
  intro p e Rm s m args below meth c H locs cells slots ls C h1 h2 h3 h4
  exact lv_icmp_le C.1 C.2.1 hd ht (fun z => (kt z _ _ _ _ _ _ _ _ _ _ _ _ _ ls C h1 h2 h3 h4)) (fun z => (kf z _ _ _ _ _ _ _ _ _ _ _ _ _ ls C h1 h2 h3 h4))
theorem AW_goto {off : Int} (tgt : Nat) (hd : decode cc pc = .ok (.goto off, 3)) (ht : (pc : Int) + off = (tgt : Int)) (k : AW G l y cc ml rt d kc ks (tgt) (lv) (st) n S I J R Q) :
    AW G l y cc ml rt d kc ks (pc) (lv) (st) n S I J R Q := by
  intro p e Rm s m args below meth c H locs cells slots ls C h1 h2 h3 h4
  exact lv_goto C.1 C.2.1 hd ht (k _ _ _ _ _ _ _ _ _ _ _ _ _ ls C h1 h2 h3 h4)
theorem AW_ifnull {q : Nat} {off : Int} (hd : decode cc pc = .ok (.ifnull off, 3)) (k : AW G l y cc ml rt d kc ks (pc + 3) (lv) (st) n S I J R Q) :
    AW G l y cc ml rt d kc ks (pc) (lv) (.ref q :: st) n S I J R Q := by
  intro p e Rm s m args below meth c H locs cells slots ls C h1 h2 h3 h4
  exact lv_ifnull C.1 C.2.1 hd (k _ _ _ _ _ _ _ _ _ _ _ _ _ ls C h1 h2 h3 h4)
theorem AW_ifnullN {off : Int} (tgt : Nat) (hd : decode cc pc = .ok (.ifnull off, 3)) (ht : (pc : Int) + off = (tgt : Int)) (k : AW G l y cc ml rt d kc ks (tgt) (lv) (st) n S I J R Q) :
    AW G l y cc ml rt d kc ks (pc) (lv) (.null :: st) n S I J R Q := by
  intro p e Rm s m args below meth c H locs cells slots ls C h1 h2 h3 h4
  exact lv_ifnullN C.1 C.2.1 hd ht (k _ _ _ _ _ _ _ _ _ _ _ _ _ ls C h1 h2 h3 h4)
theorem AW_ifnonnull {q : Nat} {off : Int} (tgt : Nat) (hd : decode cc pc = .ok (.ifnonnull off, 3)) (ht : (pc : Int) + off = (tgt : Int)) (k : AW G l y cc ml rt d kc ks (tgt) (lv) (st) n S I J R Q) :
    AW G l y cc ml rt d kc ks (pc) (lv) (.ref q :: st) n S I J R Q := by
  intro p e Rm s m args below meth c H locs cells slots ls C h1 h2 h3 h4
  exact lv_ifnonnull C.1 C.2.1 hd ht (k _ _ _ _ _ _ _ _ _ _ _ _ _ ls C h1 h2 h3 h4)
theorem AW_ifnonnullN {off : Int} (hd : decode cc pc = .ok (.ifnonnull off, 3)) (k : AW G l y cc ml rt d kc ks (pc + 3) (lv) (st) n S I J R Q) :
    AW G l y cc ml rt d kc ks (pc) (lv) (.null :: st) n S I J R Q := by
  intro p e Rm s m args below meth c H locs cells slots ls C h1 h2 h3 h4
  exact lv_ifnonnullN C.1 C.2.1 hd (k _ _ _ _ _ _ _ _ _ _ _ _ _ ls C h1 h2 h3 h4)
theorem AW_acmp_eq {q r : Nat} {off : Int} (tgt : Nat) (hd : decode cc pc = .ok (.if_acmp .eq off, 3)) (ht : (pc : Int) + off = (tgt : Int)) (hq : q < 1000000) (hr : r < 1000000) (kt : q = r → AW G l y cc ml rt d kc ks (tgt) (lv) (st) n S I J R Q) (kf : ¬ q = r → AW G l y cc ml rt d kc ks (pc + 3) (lv) (st) n S I J R Q) :
    AW G l y cc ml rt d kc ks (pc) (lv) (.ref r :: .ref q :: st) n S I J R Q := by
  intro p e Rm s m args below meth c H locs cells slots ls C h1 h2 h3 h4
  exact lv_acmp_eq (rx := some (G.1 q)) (ry := some (G.1 r)) C.1 C.2.1 hd ht (fun z => (kt (rk_inj C.2.2.2.2.2.2.2.2.2.2.2.2.1 hq hr (Option.some.inj z)) _ _ _ _ _ _ _ _ _ _ _ _ _ ls C h1 h2 h3 h4)) (fun z => (kf (fun w => z (congrArg (fun i => some (G.1 i)) w)) _ _ _ _ _ _ _ _ _ _ _ _ _ ls C h1 h2 h3 h4))
theorem AW_acmp_ne {q r : Nat} {off : Int} (tgt : Nat) (hd : decode cc pc = .ok (.if_acmp .ne off, 3)) (ht : (pc : Int) + off = (tgt : Int)) (hq : q < 1000000) (hr : r < 1000000) (kt : ¬ q = r → AW G l y cc ml rt d kc ks (tgt) (lv) (st) n S I J R Q) (kf : q = r → AW G l y cc ml rt d kc ks (pc + 3) (lv) (st) n S I J R Q) :
    AW G l y cc ml rt d kc ks (pc) (lv) (.ref r :: .ref q :: st) n S I J R Q := by
  intro p e Rm s m args below meth c H locs cells slots ls C h1 h2 h3 h4
  exact lv_acmp_ne (rx := some (G.1 q)) (ry := some (G.1 r)) C.1 C.2.1 hd ht (fun z => (kt (fun w => z (congrArg (fun i => some (G.1 i)) w)) _ _ _ _ _ _ _ _ _ _ _ _ _ ls C h1 h2 h3 h4)) (fun z => (kf (rk_inj C.2.2.2.2.2.2.2.2.2.2.2.2.1 hq hr (Option.some.inj z)) _ _ _ _ _ _ _ _ _ _ _ _ _ ls C h1 h2 h3 h4))
theorem AW_tableOut {dflt lo hi : Int} {offs : Array Int} {len : Nat} {x : Int32} (tgt : Nat) (hd : decode cc pc = .ok (.tableswitch dflt lo hi offs, len)) (h : x.toInt < lo ∨ hi < x.toInt) (ht : (pc : Int) + dflt = (tgt : Int)) (k : AW G l y cc ml rt d kc ks (tgt) (lv) (st) n S I J R Q) :
    AW G l y cc ml rt d kc ks (pc) (lv) (.int x :: st) n S I J R Q := by
  intro p e Rm s m args below meth c H locs cells slots ls C h1 h2 h3 h4
  exact lv_tableOut C.1 C.2.1 hd h ht (k _ _ _ _ _ _ _ _ _ _ _ _ _ ls C h1 h2 h3 h4)
theorem AW_tableIn {dflt lo hi : Int} {offs : Array Int} {len : Nat} {x : Int32} {off : Int} (tgt : Nat) (hd : decode cc pc = .ok (.tableswitch dflt lo hi offs, len)) (ha : ¬ x.toInt < lo) (hb : ¬ hi < x.toInt) (ho : offs[(x.toInt - lo).toNat]? = some off) (ht : (pc : Int) + off = (tgt : Int)) (k : AW G l y cc ml rt d kc ks (tgt) (lv) (st) n S I J R Q) :
    AW G l y cc ml rt d kc ks (pc) (lv) (.int x :: st) n S I J R Q := by
  intro p e Rm s m args below meth c H locs cells slots ls C h1 h2 h3 h4
  exact lv_tableIn C.1 C.2.1 hd ha hb ho ht (k _ _ _ _ _ _ _ _ _ _ _ _ _ ls C h1 h2 h3 h4)
theorem AW_lookup {dflt : Int} {ps : Array (Int × Int)} {len : Nat} {x : Int32} {off : Int} (tgt : Nat) (hd : decode cc pc = .ok (.lookupswitch dflt ps, len)) (hp : (ps.toList.zip (ps.toList.drop 1)).all (fun (a, next) => a.1 < next.1) = true) (ho : Op.lookupswitch.offset ps.toList dflt x.toInt = off) (ht : (pc : Int) + off = (tgt : Int)) (k : AW G l y cc ml rt d kc ks (tgt) (lv) (st) n S I J R Q) :
    AW G l y cc ml rt d kc ks (pc) (lv) (.int x :: st) n S I J R Q := by
  intro p e Rm s m args below meth c H locs cells slots ls C h1 h2 h3 h4
  exact lv_lookup C.1 C.2.1 hd hp ho ht (k _ _ _ _ _ _ _ _ _ _ _ _ _ ls C h1 h2 h3 h4)
theorem AW_ldc {ix : Nat} {v : Int32} (hd : decode cc pc = .ok (.ldc ix, 2)) (hw : Cond.constant y.cls ix v ∈ lw_tk) (k : AW G l y cc ml rt d kc ks (pc + 2) (lv) (.int v :: st) n S I J R Q) :
    AW G l y cc ml rt d kc ks (pc) (lv) (st) n S I J R Q := by
  intro p e Rm s m args below meth c H locs cells slots ls C h1 h2 h3 h4
  exact lv_ldc C.1 C.2.1 C.2.2.2.2.1 (C.2.2.2.2.2.1 _ hw) hd (k _ _ _ _ _ _ _ _ _ _ _ _ _ ls C h1 h2 h3 h4)
theorem AW_ldc2 {ix : Nat} {v : Int64} (hd : decode cc pc = .ok (.ldc2_w ix, 3)) (hw : Cond.constantLong y.cls ix v ∈ lw_tk) (k : AW G l y cc ml rt d kc ks (pc + 3) (lv) (.long v :: st) n S I J R Q) :
    AW G l y cc ml rt d kc ks (pc) (lv) (st) n S I J R Q := by
  intro p e Rm s m args below meth c H locs cells slots ls C h1 h2 h3 h4
  exact lv_ldc2 C.1 C.2.1 C.2.2.2.2.1 (C.2.2.2.2.2.1 _ hw) hd (k _ _ _ _ _ _ _ _ _ _ _ _ _ ls C h1 h2 h3 h4)
theorem AW_iret {v : Int32} (hd : decode cc pc = .ok (.ireturn, 1)) (hr : rt = some .int) (hq : Q (some (.int v)) n S I J R) :
    AW G l y cc ml rt d kc ks (pc) (lv) ([.int v]) n S I J R Q := by
  intro p e Rm s m args below meth c H locs cells slots ls C h1 h2 h3 h4
  have hlocks := C.2.2.2.2.2.2.1
  refine W.widen (k := cells + kc) (n := slots + ks) (Nat.le_add_right _ _) (Nat.le_add_right _ _) ?_
  exact W.iret C.1 C.2.1 (C.2.2.1.trans hr) (fun t ht hW => ⟨⟨some (.int v), n, S, I, J, R, rfl, hq, by rw [ht]; exact h1⟩, h2.F ht⟩) h2.2.2 hd hlocks
theorem AW_zret {v : Int32} (hd : decode cc pc = .ok (.ireturn, 1)) (hr : rt = some .boolean) (hn : narrow .boolean (.int v) = .int v) (hq : Q (some (.int v)) n S I J R) :
    AW G l y cc ml rt d kc ks (pc) (lv) ([.int v]) n S I J R Q := by
  intro p e Rm s m args below meth c H locs cells slots ls C h1 h2 h3 h4
  have hlocks := C.2.2.2.2.2.2.1
  refine W.widen (k := cells + kc) (n := slots + ks) (Nat.le_add_right _ _) (Nat.le_add_right _ _) ?_
  exact W.zret C.1 C.2.1 (C.2.2.1.trans hr) hn (fun t ht hW => ⟨⟨some (.int v), n, S, I, J, R, rfl, hq, by rw [ht]; exact h1⟩, h2.F ht⟩) h2.2.2 hd hlocks
theorem AW_lret {v : Int64} (hd : decode cc pc = .ok (.lreturn, 1)) (hr : rt = some .long) (hq : Q (some (.long v)) n S I J R) :
    AW G l y cc ml rt d kc ks (pc) (lv) ([.long v]) n S I J R Q := by
  intro p e Rm s m args below meth c H locs cells slots ls C h1 h2 h3 h4
  have hlocks := C.2.2.2.2.2.2.1
  refine W.widen (k := cells + kc) (n := slots + ks) (Nat.le_add_right _ _) (Nat.le_add_right _ _) ?_
  exact W.lret C.1 C.2.1 (C.2.2.1.trans hr) (fun t ht hW => ⟨⟨some (.long v), n, S, I, J, R, rfl, hq, by rw [ht]; exact h1⟩, h2.F ht⟩) h2.2.2 hd hlocks
theorem AW_vret  (hd : decode cc pc = .ok (.return_, 1)) (hr : rt = none) (hq : Q (none) n S I J R) :
    AW G l y cc ml rt d kc ks (pc) (lv) ([]) n S I J R Q := by
  intro p e Rm s m args below meth c H locs cells slots ls C h1 h2 h3 h4
  have hlocks := C.2.2.2.2.2.2.1
  refine W.widen (k := cells + kc) (n := slots + ks) (Nat.le_add_right _ _) (Nat.le_add_right _ _) ?_
  exact W.vret C.1 C.2.1 (C.2.2.1.trans hr) (fun t ht hW => ⟨⟨none, n, S, I, J, R, rfl, hq, by rw [ht]; exact h1⟩, h2.F ht⟩) h2.2.2 hd hlocks
theorem AW_aret {q : Nat} {rn : String} (hd : decode cc pc = .ok (.areturn, 1)) (hr : rt = some (.object rn)) (hq : Q (some (.ref q)) n S I J R) :
    AW G l y cc ml rt d kc ks (pc) (lv) ([.ref q]) n S I J R Q := by
  intro p e Rm s m args below meth c H locs cells slots ls C h1 h2 h3 h4
  have hlocks := C.2.2.2.2.2.2.1
  refine W.widen (k := cells + kc) (n := slots + ks) (Nat.le_add_right _ _) (Nat.le_add_right _ _) ?_
  exact W.aret C.1 C.2.1 (C.2.2.1.trans hr) (Or.inl ⟨_, rfl⟩) (Or.inr ⟨_, rfl⟩) (fun t ht hW => ⟨⟨some (.ref q), n, S, I, J, R, rfl, hq, by rw [ht]; exact h1⟩, h2.F ht⟩) h2.2.2 hd hlocks
theorem AW_aretA {q : Nat} {rn : FieldType} (hd : decode cc pc = .ok (.areturn, 1)) (hr : rt = some (.array rn)) (hq : Q (some (.ref q)) n S I J R) :
    AW G l y cc ml rt d kc ks (pc) (lv) ([.ref q]) n S I J R Q := by
  intro p e Rm s m args below meth c H locs cells slots ls C h1 h2 h3 h4
  have hlocks := C.2.2.2.2.2.2.1
  refine W.widen (k := cells + kc) (n := slots + ks) (Nat.le_add_right _ _) (Nat.le_add_right _ _) ?_
  exact W.aret C.1 C.2.1 (C.2.2.1.trans hr) (Or.inr ⟨_, rfl⟩) (Or.inr ⟨_, rfl⟩) (fun t ht hW => ⟨⟨some (.ref q), n, S, I, J, R, rfl, hq, by rw [ht]; exact h1⟩, h2.F ht⟩) h2.2.2 hd hlocks
theorem AW_aretN {rn : String} (hd : decode cc pc = .ok (.areturn, 1)) (hr : rt = some (.object rn)) (hq : Q (some .null) n S I J R) :
    AW G l y cc ml rt d kc ks (pc) (lv) ([.null]) n S I J R Q := by
  intro p e Rm s m args below meth c H locs cells slots ls C h1 h2 h3 h4
  have hlocks := C.2.2.2.2.2.2.1
  refine W.widen (k := cells + kc) (n := slots + ks) (Nat.le_add_right _ _) (Nat.le_add_right _ _) ?_
  exact W.aret C.1 C.2.1 (C.2.2.1.trans hr) (Or.inl ⟨_, rfl⟩) (Or.inl rfl) (fun t ht hW => ⟨⟨some .null, n, S, I, J, R, rfl, hq, by rw [ht]; exact h1⟩, h2.F ht⟩) h2.2.2 hd hlocks
theorem AW_iload_n0 {r : List (Option Value)} {x : Int32} (hd : decode cc pc = .ok (.iload_n 0, 1)) (k : AW G l y cc ml rt d kc ks (pc + 1) (some (.int x) :: r) (.int x :: st) n S I J R Q) :
    AW G l y cc ml rt d kc ks (pc) (some (.int x) :: r) (st) n S I J R Q := by
  intro p e Rm s m args below meth c H locs cells slots ls C h1 h2 h3 h4
  exact lv_iload_n C.1 C.2.1 hd (i := 0) rfl (h3.2.2 0 _ rfl) (k _ _ _ _ _ _ _ _ _ _ _ _ _ ls C h1 h2 h3 h4)
theorem AW_istore_n0 {z : Option Value} {r : List (Option Value)} {x : Int32} (hd : decode cc pc = .ok (.istore_n 0, 1)) (hm : 0 < ml)  (k : AW G l y cc ml rt d kc ks (pc + 1) (some (.int x) :: r) (st) n S I J R Q) :
    AW G l y cc ml rt d kc ks (pc) (z :: r) (.int x :: st) n S I J R Q := by
  intro p e Rm s m args below meth c H locs cells slots ls C h1 h2 h3 h4
  exact lv_istore_n C.1 C.2.1 hd (i := 0) rfl (rk_L_has h3) hm rfl (fun ls hl => k _ _ _ _ _ _ _ _ _ _ _ _ _ ls C h1 h2 (rk_L_st1 (v := .int x) hl rfl (fun j w hj hw => absurd hj (by omega))) h4)
theorem AW_lload_n0 {r : List (Option Value)} {x : Int64} (hd : decode cc pc = .ok (.lload_n 0, 1)) (k : AW G l y cc ml rt d kc ks (pc + 1) (some (.long x) :: r) (.long x :: st) n S I J R Q) :
    AW G l y cc ml rt d kc ks (pc) (some (.long x) :: r) (st) n S I J R Q := by
  intro p e Rm s m args below meth c H locs cells slots ls C h1 h2 h3 h4
  exact lv_lload_n C.1 C.2.1 hd (i := 0) rfl (h3.2.2 0 _ rfl) (k _ _ _ _ _ _ _ _ _ _ _ _ _ ls C h1 h2 h3 h4)
theorem AW_lstore_n0 {z z2 : Option Value} {r : List (Option Value)} {x : Int64} (hd : decode cc pc = .ok (.lstore_n 0, 1)) (hm : 0 + 1 < ml)  (k : AW G l y cc ml rt d kc ks (pc + 1) (some (.long x) :: none :: r) (st) n S I J R Q) :
    AW G l y cc ml rt d kc ks (pc) (z :: z2 :: r) (.long x :: st) n S I J R Q := by
  intro p e Rm s m args below meth c H locs cells slots ls C h1 h2 h3 h4
  exact lv_lstore_n C.1 C.2.1 hd (i := 0) rfl (rk_L_has h3) hm rfl (fun ls hl => k _ _ _ _ _ _ _ _ _ _ _ _ _ ls C h1 h2 (rk_L_st2 (v := .long x) hl rfl (fun j w hj hw => absurd hj (by omega))) h4)
theorem AW_aload_n0 {r : List (Option Value)} {x : Nat} (hd : decode cc pc = .ok (.aload_n 0, 1)) (k : AW G l y cc ml rt d kc ks (pc + 1) (some (.ref x) :: r) (.ref x :: st) n S I J R Q) :
    AW G l y cc ml rt d kc ks (pc) (some (.ref x) :: r) (st) n S I J R Q := by
  intro p e Rm s m args below meth c H locs cells slots ls C h1 h2 h3 h4
  exact lv_aload_n C.1 C.2.1 hd (i := 0) rfl (h3.2.2 0 _ rfl) (k _ _ _ _ _ _ _ _ _ _ _ _ _ ls C h1 h2 h3 h4)
theorem AW_astore_n0 {z : Option Value} {r : List (Option Value)} {x : Nat} (hd : decode cc pc = .ok (.astore_n 0, 1)) (hm : 0 < ml)  (k : AW G l y cc ml rt d kc ks (pc + 1) (some (.ref x) :: r) (st) n S I J R Q) :
    AW G l y cc ml rt d kc ks (pc) (z :: r) (.ref x :: st) n S I J R Q := by
  intro p e Rm s m args below meth c H locs cells slots ls C h1 h2 h3 h4
  exact lv_astore_n C.1 C.2.1 hd (i := 0) rfl (rk_L_has h3) hm rfl (fun ls hl => k _ _ _ _ _ _ _ _ _ _ _ _ _ ls C h1 h2 (rk_L_st1 (v := .ref x) hl rfl (fun j w hj hw => absurd hj (by omega))) h4)
theorem AW_aloadN_n0 {r : List (Option Value)}  (hd : decode cc pc = .ok (.aload_n 0, 1)) (k : AW G l y cc ml rt d kc ks (pc + 1) (some (.null) :: r) (.null :: st) n S I J R Q) :
    AW G l y cc ml rt d kc ks (pc) (some (.null) :: r) (st) n S I J R Q := by
  intro p e Rm s m args below meth c H locs cells slots ls C h1 h2 h3 h4
  exact lv_aload_nN C.1 C.2.1 hd (i := 0) rfl (h3.2.2 0 _ rfl) (k _ _ _ _ _ _ _ _ _ _ _ _ _ ls C h1 h2 h3 h4)
theorem AW_astoreN_n0 {z : Option Value} {r : List (Option Value)}  (hd : decode cc pc = .ok (.astore_n 0, 1)) (hm : 0 < ml)  (k : AW G l y cc ml rt d kc ks (pc + 1) (some (.null) :: r) (st) n S I J R Q) :
    AW G l y cc ml rt d kc ks (pc) (z :: r) (.null :: st) n S I J R Q := by
  intro p e Rm s m args below meth c H locs cells slots ls C h1 h2 h3 h4
  exact lv_astore_nN C.1 C.2.1 hd (i := 0) rfl (rk_L_has h3) hm rfl (fun ls hl => k _ _ _ _ _ _ _ _ _ _ _ _ _ ls C h1 h2 (rk_L_st1 (v := .null) hl rfl (fun j w hj hw => absurd hj (by omega))) h4)
theorem AW_iinc_0 {r : List (Option Value)} {x v : Int32} {q : Int} (hd : decode cc pc = .ok (.iinc 0 q, 3)) (hv : Int32.ofInt q = v) (hm : 0 < ml)  (k : AW G l y cc ml rt d kc ks (pc + 3) (some (.int (x + v)) :: r) (st) n S I J R Q) :
    AW G l y cc ml rt d kc ks (pc) (some (.int x) :: r) (st) n S I J R Q := by
  intro p e Rm s m args below meth c H locs cells slots ls C h1 h2 h3 h4
  subst hv
  obtain ⟨j, hj⟩ := List.getElem?_of_mem (rk_as_mem (ad := G.1) (lv := some (.int x) :: r) (q := (0, .int x)) |>.mpr ⟨.int x, rfl, rfl⟩)
  exact lv_iinc C.1 C.2.1 hd (rk_L_has h3) hj rfl hm rfl (fun ls hl => k _ _ _ _ _ _ _ _ _ _ _ _ _ ls C h1 h2 (rk_L_st1 (v := .int _) hl rfl (fun j w hj hw => absurd hj (by omega))) h4)
theorem AW_drop_0 {r : List (Option Value)} {w : Option Value} (k : AW G l y cc ml rt d kc ks (pc) (none :: r) (st) n S I J R Q) :
    AW G l y cc ml rt d kc ks (pc) (w :: r) (st) n S I J R Q := by
  intro p e Rm s m args below meth c H locs cells slots ls C h1 h2 h3 h4
  refine k _ _ _ _ _ _ _ _ _ _ _ _ _ ls C h1 h2 ⟨h3.1, h3.2.1, fun j v hj => h3.2.2 j v ?_⟩ h4
  by_cases e : j = 0
  · subst e; simp at hj
  · have hh : ∀ (o : Option Value), (none :: r)[j]? = ((o :: r).set 0 none)[j]? := fun o => rfl
    rw [hh w, List.getElem?_set_ne (Ne.symm e)] at hj
    exact hj
theorem AW_iload_n1 {a0 : Option Value} {r : List (Option Value)} {x : Int32} (hd : decode cc pc = .ok (.iload_n 1, 1)) (k : AW G l y cc ml rt d kc ks (pc + 1) (a0 :: some (.int x) :: r) (.int x :: st) n S I J R Q) :
    AW G l y cc ml rt d kc ks (pc) (a0 :: some (.int x) :: r) (st) n S I J R Q := by
  intro p e Rm s m args below meth c H locs cells slots ls C h1 h2 h3 h4
  exact lv_iload_n C.1 C.2.1 hd (i := 1) rfl (h3.2.2 1 _ rfl) (k _ _ _ _ _ _ _ _ _ _ _ _ _ ls C h1 h2 h3 h4)
theorem AW_istore_n1 {a0 z : Option Value} {r : List (Option Value)} {x : Int32} (hd : decode cc pc = .ok (.istore_n 1, 1)) (hm : 1 < ml) (hp : rk_one a0 = true) (k : AW G l y cc ml rt d kc ks (pc + 1) (a0 :: some (.int x) :: r) (st) n S I J R Q) :
    AW G l y cc ml rt d kc ks (pc) (a0 :: z :: r) (.int x :: st) n S I J R Q := by
  intro p e Rm s m args below meth c H locs cells slots ls C h1 h2 h3 h4
  exact lv_istore_n C.1 C.2.1 hd (i := 1) rfl (rk_L_has h3) hm rfl (fun ls hl => k _ _ _ _ _ _ _ _ _ _ _ _ _ ls C h1 h2 (rk_L_st1 (v := .int x) hl rfl (fun j w hj hw => by have e : j = 0 := (by omega); subst e; cases hw; exact hp)) h4)
theorem AW_lload_n1 {a0 : Option Value} {r : List (Option Value)} {x : Int64} (hd : decode cc pc = .ok (.lload_n 1, 1)) (k : AW G l y cc ml rt d kc ks (pc + 1) (a0 :: some (.long x) :: r) (.long x :: st) n S I J R Q) :
    AW G l y cc ml rt d kc ks (pc) (a0 :: some (.long x) :: r) (st) n S I J R Q := by
  intro p e Rm s m args below meth c H locs cells slots ls C h1 h2 h3 h4
  exact lv_lload_n C.1 C.2.1 hd (i := 1) rfl (h3.2.2 1 _ rfl) (k _ _ _ _ _ _ _ _ _ _ _ _ _ ls C h1 h2 h3 h4)
theorem AW_lstore_n1 {a0 z z2 : Option Value} {r : List (Option Value)} {x : Int64} (hd : decode cc pc = .ok (.lstore_n 1, 1)) (hm : 1 + 1 < ml) (hp : rk_one a0 = true) (k : AW G l y cc ml rt d kc ks (pc + 1) (a0 :: some (.long x) :: none :: r) (st) n S I J R Q) :
    AW G l y cc ml rt d kc ks (pc) (a0 :: z :: z2 :: r) (.long x :: st) n S I J R Q := by
  intro p e Rm s m args below meth c H locs cells slots ls C h1 h2 h3 h4
  exact lv_lstore_n C.1 C.2.1 hd (i := 1) rfl (rk_L_has h3) hm rfl (fun ls hl => k _ _ _ _ _ _ _ _ _ _ _ _ _ ls C h1 h2 (rk_L_st2 (v := .long x) hl rfl (fun j w hj hw => by have e : j = 0 := (by omega); subst e; cases hw; exact hp)) h4)
theorem AW_aload_n1 {a0 : Option Value} {r : List (Option Value)} {x : Nat} (hd : decode cc pc = .ok (.aload_n 1, 1)) (k : AW G l y cc ml rt d kc ks (pc + 1) (a0 :: some (.ref x) :: r) (.ref x :: st) n S I J R Q) :
    AW G l y cc ml rt d kc ks (pc) (a0 :: some (.ref x) :: r) (st) n S I J R Q := by
  intro p e Rm s m args below meth c H locs cells slots ls C h1 h2 h3 h4
  exact lv_aload_n C.1 C.2.1 hd (i := 1) rfl (h3.2.2 1 _ rfl) (k _ _ _ _ _ _ _ _ _ _ _ _ _ ls C h1 h2 h3 h4)
theorem AW_astore_n1 {a0 z : Option Value} {r : List (Option Value)} {x : Nat} (hd : decode cc pc = .ok (.astore_n 1, 1)) (hm : 1 < ml) (hp : rk_one a0 = true) (k : AW G l y cc ml rt d kc ks (pc + 1) (a0 :: some (.ref x) :: r) (st) n S I J R Q) :
    AW G l y cc ml rt d kc ks (pc) (a0 :: z :: r) (.ref x :: st) n S I J R Q := by
  intro p e Rm s m args below meth c H locs cells slots ls C h1 h2 h3 h4
  exact lv_astore_n C.1 C.2.1 hd (i := 1) rfl (rk_L_has h3) hm rfl (fun ls hl => k _ _ _ _ _ _ _ _ _ _ _ _ _ ls C h1 h2 (rk_L_st1 (v := .ref x) hl rfl (fun j w hj hw => by have e : j = 0 := (by omega); subst e; cases hw; exact hp)) h4)
theorem AW_aloadN_n1 {a0 : Option Value} {r : List (Option Value)}  (hd : decode cc pc = .ok (.aload_n 1, 1)) (k : AW G l y cc ml rt d kc ks (pc + 1) (a0 :: some (.null) :: r) (.null :: st) n S I J R Q) :
    AW G l y cc ml rt d kc ks (pc) (a0 :: some (.null) :: r) (st) n S I J R Q := by
  intro p e Rm s m args below meth c H locs cells slots ls C h1 h2 h3 h4
  exact lv_aload_nN C.1 C.2.1 hd (i := 1) rfl (h3.2.2 1 _ rfl) (k _ _ _ _ _ _ _ _ _ _ _ _ _ ls C h1 h2 h3 h4)
theorem AW_astoreN_n1 {a0 z : Option Value} {r : List (Option Value)}  (hd : decode cc pc = .ok (.astore_n 1, 1)) (hm : 1 < ml) (hp : rk_one a0 = true) (k : AW G l y cc ml rt d kc ks (pc + 1) (a0 :: some (.null) :: r) (st) n S I J R Q) :
    AW G l y cc ml rt d kc ks (pc) (a0 :: z :: r) (.null :: st) n S I J R Q := by
  intro p e Rm s m args below meth c H locs cells slots ls C h1 h2 h3 h4
  exact lv_astore_nN C.1 C.2.1 hd (i := 1) rfl (rk_L_has h3) hm rfl (fun ls hl => k _ _ _ _ _ _ _ _ _ _ _ _ _ ls C h1 h2 (rk_L_st1 (v := .null) hl rfl (fun j w hj hw => by have e : j = 0 := (by omega); subst e; cases hw; exact hp)) h4)
theorem AW_iinc_1 {a0 : Option Value} {r : List (Option Value)} {x v : Int32} {q : Int} (hd : decode cc pc = .ok (.iinc 1 q, 3)) (hv : Int32.ofInt q = v) (hm : 1 < ml) (hp : rk_one a0 = true) (k : AW G l y cc ml rt d kc ks (pc + 3) (a0 :: some (.int (x + v)) :: r) (st) n S I J R Q) :
    AW G l y cc ml rt d kc ks (pc) (a0 :: some (.int x) :: r) (st) n S I J R Q := by
  intro p e Rm s m args below meth c H locs cells slots ls C h1 h2 h3 h4
  subst hv
  obtain ⟨j, hj⟩ := List.getElem?_of_mem (rk_as_mem (ad := G.1) (lv := a0 :: some (.int x) :: r) (q := (1, .int x)) |>.mpr ⟨.int x, rfl, rfl⟩)
  exact lv_iinc C.1 C.2.1 hd (rk_L_has h3) hj rfl hm rfl (fun ls hl => k _ _ _ _ _ _ _ _ _ _ _ _ _ ls C h1 h2 (rk_L_st1 (v := .int _) hl rfl (fun j w hj hw => by have e : j = 0 := (by omega); subst e; cases hw; exact hp)) h4)
theorem AW_drop_1 {a0 : Option Value} {r : List (Option Value)} {w : Option Value} (k : AW G l y cc ml rt d kc ks (pc) (a0 :: none :: r) (st) n S I J R Q) :
    AW G l y cc ml rt d kc ks (pc) (a0 :: w :: r) (st) n S I J R Q := by
  intro p e Rm s m args below meth c H locs cells slots ls C h1 h2 h3 h4
  refine k _ _ _ _ _ _ _ _ _ _ _ _ _ ls C h1 h2 ⟨h3.1, h3.2.1, fun j v hj => h3.2.2 j v ?_⟩ h4
  by_cases e : j = 1
  · subst e; simp at hj
  · have hh : ∀ (o : Option Value), (a0 :: none :: r)[j]? = ((a0 :: o :: r).set 1 none)[j]? := fun o => rfl
    rw [hh w, List.getElem?_set_ne (Ne.symm e)] at hj
    exact hj
theorem AW_iload_n2 {a0 a1 : Option Value} {r : List (Option Value)} {x : Int32} (hd : decode cc pc = .ok (.iload_n 2, 1)) (k : AW G l y cc ml rt d kc ks (pc + 1) (a0 :: a1 :: some (.int x) :: r) (.int x :: st) n S I J R Q) :
    AW G l y cc ml rt d kc ks (pc) (a0 :: a1 :: some (.int x) :: r) (st) n S I J R Q := by
  intro p e Rm s m args below meth c H locs cells slots ls C h1 h2 h3 h4
  exact lv_iload_n C.1 C.2.1 hd (i := 2) rfl (h3.2.2 2 _ rfl) (k _ _ _ _ _ _ _ _ _ _ _ _ _ ls C h1 h2 h3 h4)
theorem AW_istore_n2 {a0 a1 z : Option Value} {r : List (Option Value)} {x : Int32} (hd : decode cc pc = .ok (.istore_n 2, 1)) (hm : 2 < ml) (hp : rk_one a1 = true) (k : AW G l y cc ml rt d kc ks (pc + 1) (a0 :: a1 :: some (.int x) :: r) (st) n S I J R Q) :
    AW G l y cc ml rt d kc ks (pc) (a0 :: a1 :: z :: r) (.int x :: st) n S I J R Q := by
  intro p e Rm s m args below meth c H locs cells slots ls C h1 h2 h3 h4
  exact lv_istore_n C.1 C.2.1 hd (i := 2) rfl (rk_L_has h3) hm rfl (fun ls hl => k _ _ _ _ _ _ _ _ _ _ _ _ _ ls C h1 h2 (rk_L_st1 (v := .int x) hl rfl (fun j w hj hw => by have e : j = 1 := (by omega); subst e; cases hw; exact hp)) h4)
theorem AW_lload_n2 {a0 a1 : Option Value} {r : List (Option Value)} {x : Int64} (hd : decode cc pc = .ok (.lload_n 2, 1)) (k : AW G l y cc ml rt d kc ks (pc + 1) (a0 :: a1 :: some (.long x) :: r) (.long x :: st) n S I J R Q) :
    AW G l y cc ml rt d kc ks (pc) (a0 :: a1 :: some (.long x) :: r) (st) n S I J R Q := by
  intro p e Rm s m args below meth c H locs cells slots ls C h1 h2 h3 h4
  exact lv_lload_n C.1 C.2.1 hd (i := 2) rfl (h3.2.2 2 _ rfl) (k _ _ _ _ _ _ _ _ _ _ _ _ _ ls C h1 h2 h3 h4)
theorem AW_lstore_n2 {a0 a1 z z2 : Option Value} {r : List (Option Value)} {x : Int64} (hd : decode cc pc = .ok (.lstore_n 2, 1)) (hm : 2 + 1 < ml) (hp : rk_one a1 = true) (k : AW G l y cc ml rt d kc ks (pc + 1) (a0 :: a1 :: some (.long x) :: none :: r) (st) n S I J R Q) :
    AW G l y cc ml rt d kc ks (pc) (a0 :: a1 :: z :: z2 :: r) (.long x :: st) n S I J R Q := by
  intro p e Rm s m args below meth c H locs cells slots ls C h1 h2 h3 h4
  exact lv_lstore_n C.1 C.2.1 hd (i := 2) rfl (rk_L_has h3) hm rfl (fun ls hl => k _ _ _ _ _ _ _ _ _ _ _ _ _ ls C h1 h2 (rk_L_st2 (v := .long x) hl rfl (fun j w hj hw => by have e : j = 1 := (by omega); subst e; cases hw; exact hp)) h4)
theorem AW_aload_n2 {a0 a1 : Option Value} {r : List (Option Value)} {x : Nat} (hd : decode cc pc = .ok (.aload_n 2, 1)) (k : AW G l y cc ml rt d kc ks (pc + 1) (a0 :: a1 :: some (.ref x) :: r) (.ref x :: st) n S I J R Q) :
    AW G l y cc ml rt d kc ks (pc) (a0 :: a1 :: some (.ref x) :: r) (st) n S I J R Q := by
  intro p e Rm s m args below meth c H locs cells slots ls C h1 h2 h3 h4
  exact lv_aload_n C.1 C.2.1 hd (i := 2) rfl (h3.2.2 2 _ rfl) (k _ _ _ _ _ _ _ _ _ _ _ _ _ ls C h1 h2 h3 h4)
theorem AW_astore_n2 {a0 a1 z : Option Value} {r : List (Option Value)} {x : Nat} (hd : decode cc pc = .ok (.astore_n 2, 1)) (hm : 2 < ml) (hp : rk_one a1 = true) (k : AW G l y cc ml rt d kc ks (pc + 1) (a0 :: a1 :: some (.ref x) :: r) (st) n S I J R Q) :
    AW G l y cc ml rt d kc ks (pc) (a0 :: a1 :: z :: r) (.ref x :: st) n S I J R Q := by
  intro p e Rm s m args below meth c H locs cells slots ls C h1 h2 h3 h4
  exact lv_astore_n C.1 C.2.1 hd (i := 2) rfl (rk_L_has h3) hm rfl (fun ls hl => k _ _ _ _ _ _ _ _ _ _ _ _ _ ls C h1 h2 (rk_L_st1 (v := .ref x) hl rfl (fun j w hj hw => by have e : j = 1 := (by omega); subst e; cases hw; exact hp)) h4)
theorem AW_aloadN_n2 {a0 a1 : Option Value} {r : List (Option Value)}  (hd : decode cc pc = .ok (.aload_n 2, 1)) (k : AW G l y cc ml rt d kc ks (pc + 1) (a0 :: a1 :: some (.null) :: r) (.null :: st) n S I J R Q) :
    AW G l y cc ml rt d kc ks (pc) (a0 :: a1 :: some (.null) :: r) (st) n S I J R Q := by
  intro p e Rm s m args below meth c H locs cells slots ls C h1 h2 h3 h4
  exact lv_aload_nN C.1 C.2.1 hd (i := 2) rfl (h3.2.2 2 _ rfl) (k _ _ _ _ _ _ _ _ _ _ _ _ _ ls C h1 h2 h3 h4)
theorem AW_astoreN_n2 {a0 a1 z : Option Value} {r : List (Option Value)}  (hd : decode cc pc = .ok (.astore_n 2, 1)) (hm : 2 < ml) (hp : rk_one a1 = true) (k : AW G l y cc ml rt d kc ks (pc + 1) (a0 :: a1 :: some (.null) :: r) (st) n S I J R Q) :
    AW G l y cc ml rt d kc ks (pc) (a0 :: a1 :: z :: r) (.null :: st) n S I J R Q := by
  intro p e Rm s m args below meth c H locs cells slots ls C h1 h2 h3 h4
  exact lv_astore_nN C.1 C.2.1 hd (i := 2) rfl (rk_L_has h3) hm rfl (fun ls hl => k _ _ _ _ _ _ _ _ _ _ _ _ _ ls C h1 h2 (rk_L_st1 (v := .null) hl rfl (fun j w hj hw => by have e : j = 1 := (by omega); subst e; cases hw; exact hp)) h4)
theorem AW_iinc_2 {a0 a1 : Option Value} {r : List (Option Value)} {x v : Int32} {q : Int} (hd : decode cc pc = .ok (.iinc 2 q, 3)) (hv : Int32.ofInt q = v) (hm : 2 < ml) (hp : rk_one a1 = true) (k : AW G l y cc ml rt d kc ks (pc + 3) (a0 :: a1 :: some (.int (x + v)) :: r) (st) n S I J R Q) :
    AW G l y cc ml rt d kc ks (pc) (a0 :: a1 :: some (.int x) :: r) (st) n S I J R Q := by
  intro p e Rm s m args below meth c H locs cells slots ls C h1 h2 h3 h4
  subst hv
  obtain ⟨j, hj⟩ := List.getElem?_of_mem (rk_as_mem (ad := G.1) (lv := a0 :: a1 :: some (.int x) :: r) (q := (2, .int x)) |>.mpr ⟨.int x, rfl, rfl⟩)
  exact lv_iinc C.1 C.2.1 hd (rk_L_has h3) hj rfl hm rfl (fun ls hl => k _ _ _ _ _ _ _ _ _ _ _ _ _ ls C h1 h2 (rk_L_st1 (v := .int _) hl rfl (fun j w hj hw => by have e : j = 1 := (by omega); subst e; cases hw; exact hp)) h4)
theorem AW_drop_2 {a0 a1 : Option Value} {r : List (Option Value)} {w : Option Value} (k : AW G l y cc ml rt d kc ks (pc) (a0 :: a1 :: none :: r) (st) n S I J R Q) :
    AW G l y cc ml rt d kc ks (pc) (a0 :: a1 :: w :: r) (st) n S I J R Q := by
  intro p e Rm s m args below meth c H locs cells slots ls C h1 h2 h3 h4
  refine k _ _ _ _ _ _ _ _ _ _ _ _ _ ls C h1 h2 ⟨h3.1, h3.2.1, fun j v hj => h3.2.2 j v ?_⟩ h4
  by_cases e : j = 2
  · subst e; simp at hj
  · have hh : ∀ (o : Option Value), (a0 :: a1 :: none :: r)[j]? = ((a0 :: a1 :: o :: r).set 2 none)[j]? := fun o => rfl
    rw [hh w, List.getElem?_set_ne (Ne.symm e)] at hj
    exact hj
theorem AW_iload_n3 {a0 a1 a2 : Option Value} {r : List (Option Value)} {x : Int32} (hd : decode cc pc = .ok (.iload_n 3, 1)) (k : AW G l y cc ml rt d kc ks (pc + 1) (a0 :: a1 :: a2 :: some (.int x) :: r) (.int x :: st) n S I J R Q) :
    AW G l y cc ml rt d kc ks (pc) (a0 :: a1 :: a2 :: some (.int x) :: r) (st) n S I J R Q := by
  intro p e Rm s m args below meth c H locs cells slots ls C h1 h2 h3 h4
  exact lv_iload_n C.1 C.2.1 hd (i := 3) rfl (h3.2.2 3 _ rfl) (k _ _ _ _ _ _ _ _ _ _ _ _ _ ls C h1 h2 h3 h4)
theorem AW_istore_n3 {a0 a1 a2 z : Option Value} {r : List (Option Value)} {x : Int32} (hd : decode cc pc = .ok (.istore_n 3, 1)) (hm : 3 < ml) (hp : rk_one a2 = true) (k : AW G l y cc ml rt d kc ks (pc + 1) (a0 :: a1 :: a2 :: some (.int x) :: r) (st) n S I J R Q) :
    AW G l y cc ml rt d kc ks (pc) (a0 :: a1 :: a2 :: z :: r) (.int x :: st) n S I J R Q := by
  intro p e Rm s m args below meth c H locs cells slots ls C h1 h2 h3 h4
  exact lv_istore_n C.1 C.2.1 hd (i := 3) rfl (rk_L_has h3) hm rfl (fun ls hl => k _ _ _ _ _ _ _ _ _ _ _ _ _ ls C h1 h2 (rk_L_st1 (v := .int x) hl rfl (fun j w hj hw => by have e : j = 2 := (by omega); subst e; cases hw; exact hp)) h4)
theorem AW_lload_n3 {a0 a1 a2 : Option Value} {r : List (Option Value)} {x : Int64} (hd : decode cc pc = .ok (.lload_n 3, 1)) (k : AW G l y cc ml rt d kc ks (pc + 1) (a0 :: a1 :: a2 :: some (.long x) :: r) (.long x :: st) n S I J R Q) :
    AW G l y cc ml rt d kc ks (pc) (a0 :: a1 :: a2 :: some (.long x) :: r) (st) n S I J R Q := by
  intro p e Rm s m args below meth c H locs cells slots ls C h1 h2 h3 h4
  exact lv_lload_n C.1 C.2.1 hd (i := 3) rfl (h3.2.2 3 _ rfl) (k _ _ _ _ _ _ _ _ _ _ _ _ _ ls C h1 h2 h3 h4)
theorem AW_lstore_n3 {a0 a1 a2 z z2 : Option Value} {r : List (Option Value)} {x : Int64} (hd : decode cc pc = .ok (.lstore_n 3, 1)) (hm : 3 + 1 < ml) (hp : rk_one a2 = true) (k : AW G l y cc ml rt d kc ks (pc + 1) (a0 :: a1 :: a2 :: some (.long x) :: none :: r) (st) n S I J R Q) :
    AW G l y cc ml rt d kc ks (pc) (a0 :: a1 :: a2 :: z :: z2 :: r) (.long x :: st) n S I J R Q := by
  intro p e Rm s m args below meth c H locs cells slots ls C h1 h2 h3 h4
  exact lv_lstore_n C.1 C.2.1 hd (i := 3) rfl (rk_L_has h3) hm rfl (fun ls hl => k _ _ _ _ _ _ _ _ _ _ _ _ _ ls C h1 h2 (rk_L_st2 (v := .long x) hl rfl (fun j w hj hw => by have e : j = 2 := (by omega); subst e; cases hw; exact hp)) h4)
theorem AW_aload_n3 {a0 a1 a2 : Option Value} {r : List (Option Value)} {x : Nat} (hd : decode cc pc = .ok (.aload_n 3, 1)) (k : AW G l y cc ml rt d kc ks (pc + 1) (a0 :: a1 :: a2 :: some (.ref x) :: r) (.ref x :: st) n S I J R Q) :
    AW G l y cc ml rt d kc ks (pc) (a0 :: a1 :: a2 :: some (.ref x) :: r) (st) n S I J R Q := by
  intro p e Rm s m args below meth c H locs cells slots ls C h1 h2 h3 h4
  exact lv_aload_n C.1 C.2.1 hd (i := 3) rfl (h3.2.2 3 _ rfl) (k _ _ _ _ _ _ _ _ _ _ _ _ _ ls C h1 h2 h3 h4)
theorem AW_astore_n3 {a0 a1 a2 z : Option Value} {r : List (Option Value)} {x : Nat} (hd : decode cc pc = .ok (.astore_n 3, 1)) (hm : 3 < ml) (hp : rk_one a2 = true) (k : AW G l y cc ml rt d kc ks (pc + 1) (a0 :: a1 :: a2 :: some (.ref x) :: r) (st) n S I J R Q) :
    AW G l y cc ml rt d kc ks (pc) (a0 :: a1 :: a2 :: z :: r) (.ref x :: st) n S I J R Q := by
  intro p e Rm s m args below meth c H locs cells slots ls C h1 h2 h3 h4
  exact lv_astore_n C.1 C.2.1 hd (i := 3) rfl (rk_L_has h3) hm rfl (fun ls hl => k _ _ _ _ _ _ _ _ _ _ _ _ _ ls C h1 h2 (rk_L_st1 (v := .ref x) hl rfl (fun j w hj hw => by have e : j = 2 := (by omega); subst e; cases hw; exact hp)) h4)
theorem AW_aloadN_n3 {a0 a1 a2 : Option Value} {r : List (Option Value)}  (hd : decode cc pc = .ok (.aload_n 3, 1)) (k : AW G l y cc ml rt d kc ks (pc + 1) (a0 :: a1 :: a2 :: some (.null) :: r) (.null :: st) n S I J R Q) :
    AW G l y cc ml rt d kc ks (pc) (a0 :: a1 :: a2 :: some (.null) :: r) (st) n S I J R Q := by
  intro p e Rm s m args below meth c H locs cells slots ls C h1 h2 h3 h4
  exact lv_aload_nN C.1 C.2.1 hd (i := 3) rfl (h3.2.2 3 _ rfl) (k _ _ _ _ _ _ _ _ _ _ _ _ _ ls C h1 h2 h3 h4)
theorem AW_astoreN_n3 {a0 a1 a2 z : Option Value} {r : List (Option Value)}  (hd : decode cc pc = .ok (.astore_n 3, 1)) (hm : 3 < ml) (hp : rk_one a2 = true) (k : AW G l y cc ml rt d kc ks (pc + 1) (a0 :: a1 :: a2 :: some (.null) :: r) (st) n S I J R Q) :
    AW G l y cc ml rt d kc ks (pc) (a0 :: a1 :: a2 :: z :: r) (.null :: st) n S I J R Q := by
  intro p e Rm s m args below meth c H locs cells slots ls C h1 h2 h3 h4
  exact lv_astore_nN C.1 C.2.1 hd (i := 3) rfl (rk_L_has h3) hm rfl (fun ls hl => k _ _ _ _ _ _ _ _ _ _ _ _ _ ls C h1 h2 (rk_L_st1 (v := .null) hl rfl (fun j w hj hw => by have e : j = 2 := (by omega); subst e; cases hw; exact hp)) h4)
theorem AW_iinc_3 {a0 a1 a2 : Option Value} {r : List (Option Value)} {x v : Int32} {q : Int} (hd : decode cc pc = .ok (.iinc 3 q, 3)) (hv : Int32.ofInt q = v) (hm : 3 < ml) (hp : rk_one a2 = true) (k : AW G l y cc ml rt d kc ks (pc + 3) (a0 :: a1 :: a2 :: some (.int (x + v)) :: r) (st) n S I J R Q) :
    AW G l y cc ml rt d kc ks (pc) (a0 :: a1 :: a2 :: some (.int x) :: r) (st) n S I J R Q := by
  intro p e Rm s m args below meth c H locs cells slots ls C h1 h2 h3 h4
  subst hv
  obtain ⟨j, hj⟩ := List.getElem?_of_mem (rk_as_mem (ad := G.1) (lv := a0 :: a1 :: a2 :: some (.int x) :: r) (q := (3, .int x)) |>.mpr ⟨.int x, rfl, rfl⟩)
  exact lv_iinc C.1 C.2.1 hd (rk_L_has h3) hj rfl hm rfl (fun ls hl => k _ _ _ _ _ _ _ _ _ _ _ _ _ ls C h1 h2 (rk_L_st1 (v := .int _) hl rfl (fun j w hj hw => by have e : j = 2 := (by omega); subst e; cases hw; exact hp)) h4)
theorem AW_drop_3 {a0 a1 a2 : Option Value} {r : List (Option Value)} {w : Option Value} (k : AW G l y cc ml rt d kc ks (pc) (a0 :: a1 :: a2 :: none :: r) (st) n S I J R Q) :
    AW G l y cc ml rt d kc ks (pc) (a0 :: a1 :: a2 :: w :: r) (st) n S I J R Q := by
  intro p e Rm s m args below meth c H locs cells slots ls C h1 h2 h3 h4
  refine k _ _ _ _ _ _ _ _ _ _ _ _ _ ls C h1 h2 ⟨h3.1, h3.2.1, fun j v hj => h3.2.2 j v ?_⟩ h4
  by_cases e : j = 3
  · subst e; simp at hj
  · have hh : ∀ (o : Option Value), (a0 :: a1 :: a2 :: none :: r)[j]? = ((a0 :: a1 :: a2 :: o :: r).set 3 none)[j]? := fun o => rfl
    rw [hh w, List.getElem?_set_ne (Ne.symm e)] at hj
    exact hj
theorem AW_iload_4 {a0 a1 a2 a3 : Option Value} {r : List (Option Value)} {x : Int32} (hd : decode cc pc = .ok (.iload 4, 2)) (k : AW G l y cc ml rt d kc ks (pc + 2) (a0 :: a1 :: a2 :: a3 :: some (.int x) :: r) (.int x :: st) n S I J R Q) :
    AW G l y cc ml rt d kc ks (pc) (a0 :: a1 :: a2 :: a3 :: some (.int x) :: r) (st) n S I J R Q := by
  intro p e Rm s m args below meth c H locs cells slots ls C h1 h2 h3 h4
  exact lv_iload C.1 C.2.1 hd (h3.2.2 4 _ rfl) (k _ _ _ _ _ _ _ _ _ _ _ _ _ ls C h1 h2 h3 h4)
theorem AW_istore_4 {a0 a1 a2 a3 z : Option Value} {r : List (Option Value)} {x : Int32} (hd : decode cc pc = .ok (.istore 4, 2)) (hm : 4 < ml) (hp : rk_one a3 = true) (k : AW G l y cc ml rt d kc ks (pc + 2) (a0 :: a1 :: a2 :: a3 :: some (.int x) :: r) (st) n S I J R Q) :
    AW G l y cc ml rt d kc ks (pc) (a0 :: a1 :: a2 :: a3 :: z :: r) (.int x :: st) n S I J R Q := by
  intro p e Rm s m args below meth c H locs cells slots ls C h1 h2 h3 h4
  exact lv_istore C.1 C.2.1 hd (rk_L_has h3) hm rfl (fun ls hl => k _ _ _ _ _ _ _ _ _ _ _ _ _ ls C h1 h2 (rk_L_st1 (v := .int x) hl rfl (fun j w hj hw => by have e : j = 3 := (by omega); subst e; cases hw; exact hp)) h4)
theorem AW_lload_4 {a0 a1 a2 a3 : Option Value} {r : List (Option Value)} {x : Int64} (hd : decode cc pc = .ok (.lload 4, 2)) (k : AW G l y cc ml rt d kc ks (pc + 2) (a0 :: a1 :: a2 :: a3 :: some (.long x) :: r) (.long x :: st) n S I J R Q) :
    AW G l y cc ml rt d kc ks (pc) (a0 :: a1 :: a2 :: a3 :: some (.long x) :: r) (st) n S I J R Q := by
  intro p e Rm s m args below meth c H locs cells slots ls C h1 h2 h3 h4
  exact lv_lload C.1 C.2.1 hd (h3.2.2 4 _ rfl) (k _ _ _ _ _ _ _ _ _ _ _ _ _ ls C h1 h2 h3 h4)
theorem AW_lstore_4 {a0 a1 a2 a3 z z2 : Option Value} {r : List (Option Value)} {x : Int64} (hd : decode cc pc = .ok (.lstore 4, 2)) (hm : 4 + 1 < ml) (hp : rk_one a3 = true) (k : AW G l y cc ml rt d kc ks (pc + 2) (a0 :: a1 :: a2 :: a3 :: some (.long x) :: none :: r) (st) n S I J R Q) :
    AW G l y cc ml rt d kc ks (pc) (a0 :: a1 :: a2 :: a3 :: z :: z2 :: r) (.long x :: st) n S I J R Q := by
  intro p e Rm s m args below meth c H locs cells slots ls C h1 h2 h3 h4
  exact lv_lstore C.1 C.2.1 hd (rk_L_has h3) hm rfl (fun ls hl => k _ _ _ _ _ _ _ _ _ _ _ _ _ ls C h1 h2 (rk_L_st2 (v := .long x) hl rfl (fun j w hj hw => by have e : j = 3 := (by omega); subst e; cases hw; exact hp)) h4)
theorem AW_aload_4 {a0 a1 a2 a3 : Option Value} {r : List (Option Value)} {x : Nat} (hd : decode cc pc = .ok (.aload 4, 2)) (k : AW G l y cc ml rt d kc ks (pc + 2) (a0 :: a1 :: a2 :: a3 :: some (.ref x) :: r) (.ref x :: st) n S I J R Q) :
    AW G l y cc ml rt d kc ks (pc) (a0 :: a1 :: a2 :: a3 :: some (.ref x) :: r) (st) n S I J R Q := by
  intro p e Rm s m args below meth c H locs cells slots ls C h1 h2 h3 h4
  exact lv_aload C.1 C.2.1 hd (h3.2.2 4 _ rfl) (k _ _ _ _ _ _ _ _ _ _ _ _ _ ls C h1 h2 h3 h4)
theorem AW_astore_4 {a0 a1 a2 a3 z : Option Value} {r : List (Option Value)} {x : Nat} (hd : decode cc pc = .ok (.astore 4, 2)) (hm : 4 < ml) (hp : rk_one a3 = true) (k : AW G l y cc ml rt d kc ks (pc + 2) (a0 :: a1 :: a2 :: a3 :: some (.ref x) :: r) (st) n S I J R Q) :
    AW G l y cc ml rt d kc ks (pc) (a0 :: a1 :: a2 :: a3 :: z :: r) (.ref x :: st) n S I J R Q := by
  intro p e Rm s m args below meth c H locs cells slots ls C h1 h2 h3 h4
  exact lv_astore C.1 C.2.1 hd (rk_L_has h3) hm rfl (fun ls hl => k _ _ _ _ _ _ _ _ _ _ _ _ _ ls C h1 h2 (rk_L_st1 (v := .ref x) hl rfl (fun j w hj hw => by have e : j = 3 := (by omega); subst e; cases hw; exact hp)) h4)
theorem AW_aloadN_4 {a0 a1 a2 a3 : Option Value} {r : List (Option Value)}  (hd : decode cc pc = .ok (.aload 4, 2)) (k : AW G l y cc ml rt d kc ks (pc + 2) (a0 :: a1 :: a2 :: a3 :: some (.null) :: r) (.null :: st) n S I J R Q) :
    AW G l y cc ml rt d kc ks (pc) (a0 :: a1 :: a2 :: a3 :: some (.null) :: r) (st) n S I J R Q := by
  intro p e Rm s m args below meth c H locs cells slots ls C h1 h2 h3 h4
  exact lv_aloadN C.1 C.2.1 hd (h3.2.2 4 _ rfl) (k _ _ _ _ _ _ _ _ _ _ _ _ _ ls C h1 h2 h3 h4)
theorem AW_astoreN_4 {a0 a1 a2 a3 z : Option Value} {r : List (Option Value)}  (hd : decode cc pc = .ok (.astore 4, 2)) (hm : 4 < ml) (hp : rk_one a3 = true) (k : AW G l y cc ml rt d kc ks (pc + 2) (a0 :: a1 :: a2 :: a3 :: some (.null) :: r) (st) n S I J R Q) :
    AW G l y cc ml rt d kc ks (pc) (a0 :: a1 :: a2 :: a3 :: z :: r) (.null :: st) n S I J R Q := by
  intro p e Rm s m args below meth c H locs cells slots ls C h1 h2 h3 h4
  exact lv_astoreN C.1 C.2.1 hd (rk_L_has h3) hm rfl (fun ls hl => k _ _ _ _ _ _ _ _ _ _ _ _ _ ls C h1 h2 (rk_L_st1 (v := .null) hl rfl (fun j w hj hw => by have e : j = 3 := (by omega); subst e; cases hw; exact hp)) h4)
theorem AW_iinc_4 {a0 a1 a2 a3 : Option Value} {r : List (Option Value)} {x v : Int32} {q : Int} (hd : decode cc pc = .ok (.iinc 4 q, 3)) (hv : Int32.ofInt q = v) (hm : 4 < ml) (hp : rk_one a3 = true) (k : AW G l y cc ml rt d kc ks (pc + 3) (a0 :: a1 :: a2 :: a3 :: some (.int (x + v)) :: r) (st) n S I J R Q) :
    AW G l y cc ml rt d kc ks (pc) (a0 :: a1 :: a2 :: a3 :: some (.int x) :: r) (st) n S I J R Q := by
  intro p e Rm s m args below meth c H locs cells slots ls C h1 h2 h3 h4
  subst hv
  obtain ⟨j, hj⟩ := List.getElem?_of_mem (rk_as_mem (ad := G.1) (lv := a0 :: a1 :: a2 :: a3 :: some (.int x) :: r) (q := (4, .int x)) |>.mpr ⟨.int x, rfl, rfl⟩)
  exact lv_iinc C.1 C.2.1 hd (rk_L_has h3) hj rfl hm rfl (fun ls hl => k _ _ _ _ _ _ _ _ _ _ _ _ _ ls C h1 h2 (rk_L_st1 (v := .int _) hl rfl (fun j w hj hw => by have e : j = 3 := (by omega); subst e; cases hw; exact hp)) h4)
theorem AW_drop_4 {a0 a1 a2 a3 : Option Value} {r : List (Option Value)} {w : Option Value} (k : AW G l y cc ml rt d kc ks (pc) (a0 :: a1 :: a2 :: a3 :: none :: r) (st) n S I J R Q) :
    AW G l y cc ml rt d kc ks (pc) (a0 :: a1 :: a2 :: a3 :: w :: r) (st) n S I J R Q := by
  intro p e Rm s m args below meth c H locs cells slots ls C h1 h2 h3 h4
  refine k _ _ _ _ _ _ _ _ _ _ _ _ _ ls C h1 h2 ⟨h3.1, h3.2.1, fun j v hj => h3.2.2 j v ?_⟩ h4
  by_cases e : j = 4
  · subst e; simp at hj
  · have hh : ∀ (o : Option Value), (a0 :: a1 :: a2 :: a3 :: none :: r)[j]? = ((a0 :: a1 :: a2 :: a3 :: o :: r).set 4 none)[j]? := fun o => rfl
    rw [hh w, List.getElem?_set_ne (Ne.symm e)] at hj
    exact hj
theorem AW_iload_5 {a0 a1 a2 a3 a4 : Option Value} {r : List (Option Value)} {x : Int32} (hd : decode cc pc = .ok (.iload 5, 2)) (k : AW G l y cc ml rt d kc ks (pc + 2) (a0 :: a1 :: a2 :: a3 :: a4 :: some (.int x) :: r) (.int x :: st) n S I J R Q) :
    AW G l y cc ml rt d kc ks (pc) (a0 :: a1 :: a2 :: a3 :: a4 :: some (.int x) :: r) (st) n S I J R Q := by
  intro p e Rm s m args below meth c H locs cells slots ls C h1 h2 h3 h4
  exact lv_iload C.1 C.2.1 hd (h3.2.2 5 _ rfl) (k _ _ _ _ _ _ _ _ _ _ _ _ _ ls C h1 h2 h3 h4)
theorem AW_istore_5 {a0 a1 a2 a3 a4 z : Option Value} {r : List (Option Value)} {x : Int32} (hd : decode cc pc = .ok (.istore 5, 2)) (hm : 5 < ml) (hp : rk_one a4 = true) (k : AW G l y cc ml rt d kc ks (pc + 2) (a0 :: a1 :: a2 :: a3 :: a4 :: some (.int x) :: r) (st) n S I J R Q) :
    AW G l y cc ml rt d kc ks (pc) (a0 :: a1 :: a2 :: a3 :: a4 :: z :: r) (.int x :: st) n S I J R Q := by
  intro p e Rm s m args below meth c H locs cells slots ls C h1 h2 h3 h4
  exact lv_istore C.1 C.2.1 hd (rk_L_has h3) hm rfl (fun ls hl => k _ _ _ _ _ _ _ _ _ _ _ _ _ ls C h1 h2 (rk_L_st1 (v := .int x) hl rfl (fun j w hj hw => by have e : j = 4 := (by omega); subst e; cases hw; exact hp)) h4)
theorem AW_lload_5 {a0 a1 a2 a3 a4 : Option Value} {r : List (Option Value)} {x : Int64} (hd : decode cc pc = .ok (.lload 5, 2)) (k : AW G l y cc ml rt d kc ks (pc + 2) (a0 :: a1 :: a2 :: a3 :: a4 :: some (.long x) :: r) (.long x :: st) n S I J R Q) :
    AW G l y cc ml rt d kc ks (pc) (a0 :: a1 :: a2 :: a3 :: a4 :: some (.long x) :: r) (st) n S I J R Q := by
  intro p e Rm s m args below meth c H locs cells slots ls C h1 h2 h3 h4
  exact lv_lload C.1 C.2.1 hd (h3.2.2 5 _ rfl) (k _ _ _ _ _ _ _ _ _ _ _ _ _ ls C h1 h2 h3 h4)
theorem AW_lstore_5 {a0 a1 a2 a3 a4 z z2 : Option Value} {r : List (Option Value)} {x : Int64} (hd : decode cc pc = .ok (.lstore 5, 2)) (hm : 5 + 1 < ml) (hp : rk_one a4 = true) (k : AW G l y cc ml rt d kc ks (pc + 2) (a0 :: a1 :: a2 :: a3 :: a4 :: some (.long x) :: none :: r) (st) n S I J R Q) :
    AW G l y cc ml rt d kc ks (pc) (a0 :: a1 :: a2 :: a3 :: a4 :: z :: z2 :: r) (.long x :: st) n S I J R Q := by
  intro p e Rm s m args below meth c H locs cells slots ls C h1 h2 h3 h4
  exact lv_lstore C.1 C.2.1 hd (rk_L_has h3) hm rfl (fun ls hl => k _ _ _ _ _ _ _ _ _ _ _ _ _ ls C h1 h2 (rk_L_st2 (v := .long x) hl rfl (fun j w hj hw => by have e : j = 4 := (by omega); subst e; cases hw; exact hp)) h4)
theorem AW_aload_5 {a0 a1 a2 a3 a4 : Option Value} {r : List (Option Value)} {x : Nat} (hd : decode cc pc = .ok (.aload 5, 2)) (k : AW G l y cc ml rt d kc ks (pc + 2) (a0 :: a1 :: a2 :: a3 :: a4 :: some (.ref x) :: r) (.ref x :: st) n S I J R Q) :
    AW G l y cc ml rt d kc ks (pc) (a0 :: a1 :: a2 :: a3 :: a4 :: some (.ref x) :: r) (st) n S I J R Q := by
  intro p e Rm s m args below meth c H locs cells slots ls C h1 h2 h3 h4
  exact lv_aload C.1 C.2.1 hd (h3.2.2 5 _ rfl) (k _ _ _ _ _ _ _ _ _ _ _ _ _ ls C h1 h2 h3 h4)
theorem AW_astore_5 {a0 a1 a2 a3 a4 z : Option Value} {r : List (Option Value)} {x : Nat} (hd : decode cc pc = .ok (.astore 5, 2)) (hm : 5 < ml) (hp : rk_one a4 = true) (k : AW G l y cc ml rt d kc ks (pc + 2) (a0 :: a1 :: a2 :: a3 :: a4 :: some (.ref x) :: r) (st) n S I J R Q) :
    AW G l y cc ml rt d kc ks (pc) (a0 :: a1 :: a2 :: a3 :: a4 :: z :: r) (.ref x :: st) n S I J R Q := by
  intro p e Rm s m args below meth c H locs cells slots ls C h1 h2 h3 h4
  exact lv_astore C.1 C.2.1 hd (rk_L_has h3) hm rfl (fun ls hl => k _ _ _ _ _ _ _ _ _ _ _ _ _ ls C h1 h2 (rk_L_st1 (v := .ref x) hl rfl (fun j w hj hw => by have e : j = 4 := (by omega); subst e; cases hw; exact hp)) h4)
theorem AW_aloadN_5 {a0 a1 a2 a3 a4 : Option Value} {r : List (Option Value)}  (hd : decode cc pc = .ok (.aload 5, 2)) (k : AW G l y cc ml rt d kc ks (pc + 2) (a0 :: a1 :: a2 :: a3 :: a4 :: some (.null) :: r) (.null :: st) n S I J R Q) :
    AW G l y cc ml rt d kc ks (pc) (a0 :: a1 :: a2 :: a3 :: a4 :: some (.null) :: r) (st) n S I J R Q := by
  intro p e Rm s m args below meth c H locs cells slots ls C h1 h2 h3 h4
  exact lv_aloadN C.1 C.2.1 hd (h3.2.2 5 _ rfl) (k _ _ _ _ _ _ _ _ _ _ _ _ _ ls C h1 h2 h3 h4)
theorem AW_astoreN_5 {a0 a1 a2 a3 a4 z : Option Value} {r : List (Option Value)}  (hd : decode cc pc = .ok (.astore 5, 2)) (hm : 5 < ml) (hp : rk_one a4 = true) (k : AW G l y cc ml rt d kc ks (pc + 2) (a0 :: a1 :: a2 :: a3 :: a4 :: some (.null) :: r) (st) n S I J R Q) :
    AW G l y cc ml rt d kc ks (pc) (a0 :: a1 :: a2 :: a3 :: a4 :: z :: r) (.null :: st) n S I J R Q := by
  intro p e Rm s m args below meth c H locs cells slots ls C h1 h2 h3 h4
  exact lv_astoreN C.1 C.2.1 hd (rk_L_has h3) hm rfl (fun ls hl => k _ _ _ _ _ _ _ _ _ _ _ _ _ ls C h1 h2 (rk_L_st1 (v := .null) hl rfl (fun j w hj hw => by have e : j = 4 := (by omega); subst e; cases hw; exact hp)) h4)
theorem AW_iinc_5 {a0 a1 a2 a3 a4 : Option Value} {r : List (Option Value)} {x v : Int32} {q : Int} (hd : decode cc pc = .ok (.iinc 5 q, 3)) (hv : Int32.ofInt q = v) (hm : 5 < ml) (hp : rk_one a4 = true) (k : AW G l y cc ml rt d kc ks (pc + 3) (a0 :: a1 :: a2 :: a3 :: a4 :: some (.int (x + v)) :: r) (st) n S I J R Q) :
    AW G l y cc ml rt d kc ks (pc) (a0 :: a1 :: a2 :: a3 :: a4 :: some (.int x) :: r) (st) n S I J R Q := by
  intro p e Rm s m args below meth c H locs cells slots ls C h1 h2 h3 h4
  subst hv
  obtain ⟨j, hj⟩ := List.getElem?_of_mem (rk_as_mem (ad := G.1) (lv := a0 :: a1 :: a2 :: a3 :: a4 :: some (.int x) :: r) (q := (5, .int x)) |>.mpr ⟨.int x, rfl, rfl⟩)
  exact lv_iinc C.1 C.2.1 hd (rk_L_has h3) hj rfl hm rfl (fun ls hl => k _ _ _ _ _ _ _ _ _ _ _ _ _ ls C h1 h2 (rk_L_st1 (v := .int _) hl rfl (fun j w hj hw => by have e : j = 4 := (by omega); subst e; cases hw; exact hp)) h4)
theorem AW_drop_5 {a0 a1 a2 a3 a4 : Option Value} {r : List (Option Value)} {w : Option Value} (k : AW G l y cc ml rt d kc ks (pc) (a0 :: a1 :: a2 :: a3 :: a4 :: none :: r) (st) n S I J R Q) :
    AW G l y cc ml rt d kc ks (pc) (a0 :: a1 :: a2 :: a3 :: a4 :: w :: r) (st) n S I J R Q := by
  intro p e Rm s m args below meth c H locs cells slots ls C h1 h2 h3 h4
  refine k _ _ _ _ _ _ _ _ _ _ _ _ _ ls C h1 h2 ⟨h3.1, h3.2.1, fun j v hj => h3.2.2 j v ?_⟩ h4
  by_cases e : j = 5
  · subst e; simp at hj
  · have hh : ∀ (o : Option Value), (a0 :: a1 :: a2 :: a3 :: a4 :: none :: r)[j]? = ((a0 :: a1 :: a2 :: a3 :: a4 :: o :: r).set 5 none)[j]? := fun o => rfl
    rw [hh w, List.getElem?_set_ne (Ne.symm e)] at hj
    exact hj
theorem AW_iload_6 {a0 a1 a2 a3 a4 a5 : Option Value} {r : List (Option Value)} {x : Int32} (hd : decode cc pc = .ok (.iload 6, 2)) (k : AW G l y cc ml rt d kc ks (pc + 2) (a0 :: a1 :: a2 :: a3 :: a4 :: a5 :: some (.int x) :: r) (.int x :: st) n S I J R Q) :
    AW G l y cc ml rt d kc ks (pc) (a0 :: a1 :: a2 :: a3 :: a4 :: a5 :: some (.int x) :: r) (st) n S I J R Q := by
  intro p e Rm s m args below meth c H locs cells slots ls C h1 h2 h3 h4
  exact lv_iload C.1 C.2.1 hd (h3.2.2 6 _ rfl) (k _ _ _ _ _ _ _ _ _ _ _ _ _ ls C h1 h2 h3 h4)
theorem AW_istore_6 {a0 a1 a2 a3 a4 a5 z : Option Value} {r : List (Option Value)} {x : Int32} (hd : decode cc pc = .ok (.istore 6, 2)) (hm : 6 < ml) (hp : rk_one a5 = true) (k : AW G l y cc ml rt d kc ks (pc + 2) (a0 :: a1 :: a2 :: a3 :: a4 :: a5 :: some (.int x) :: r) (st) n S I J R Q) :
    AW G l y cc ml rt d kc ks (pc) (a0 :: a1 :: a2 :: a3 :: a4 :: a5 :: z :: r) (.int x :: st) n S I J R Q := by
  intro p e Rm s m args below meth c H locs cells slots ls C h1 h2 h3 h4
  exact lv_istore C.1 C.2.1 hd (rk_L_has h3) hm rfl (fun ls hl => k _ _ _ _ _ _ _ _ _ _ _ _ _ ls C h1 h2 (rk_L_st1 (v := .int x) hl rfl (fun j w hj hw => by have e : j = 5 := (by omega); subst e; cases hw; exact hp)) h4)
theorem AW_lload_6 {a0 a1 a2 a3 a4 a5 : Option Value} {r : List (Option Value)} {x : Int64} (hd : decode cc pc = .ok (.lload 6, 2)) (k : AW G l y cc ml rt d kc ks (pc + 2) (a0 :: a1 :: a2 :: a3 :: a4 :: a5 :: some (.long x) :: r) (.long x :: st) n S I J R Q) :
    AW G l y cc ml rt d kc ks (pc) (a0 :: a1 :: a2 :: a3 :: a4 :: a5 :: some (.long x) :: r) (st) n S I J R Q := by
  intro p e Rm s m args below meth c H locs cells slots ls C h1 h2 h3 h4
  exact lv_lload C.1 C.2.1 hd (h3.2.2 6 _ rfl) (k _ _ _ _ _ _ _ _ _ _ _ _ _ ls C h1 h2 h3 h4)
theorem AW_lstore_6 {a0 a1 a2 a3 a4 a5 z z2 : Option Value} {r : List (Option Value)} {x : Int64} (hd : decode cc pc = .ok (.lstore 6, 2)) (hm : 6 + 1 < ml) (hp : rk_one a5 = true) (k : AW G l y cc ml rt d kc ks (pc + 2) (a0 :: a1 :: a2 :: a3 :: a4 :: a5 :: some (.long x) :: none :: r) (st) n S I J R Q) :
    AW G l y cc ml rt d kc ks (pc) (a0 :: a1 :: a2 :: a3 :: a4 :: a5 :: z :: z2 :: r) (.long x :: st) n S I J R Q := by
  intro p e Rm s m args below meth c H locs cells slots ls C h1 h2 h3 h4
  exact lv_lstore C.1 C.2.1 hd (rk_L_has h3) hm rfl (fun ls hl => k _ _ _ _ _ _ _ _ _ _ _ _ _ ls C h1 h2 (rk_L_st2 (v := .long x) hl rfl (fun j w hj hw => by have e : j = 5 := (by omega); subst e; cases hw; exact hp)) h4)
theorem AW_aload_6 {a0 a1 a2 a3 a4 a5 : Option Value} {r : List (Option Value)} {x : Nat} (hd : decode cc pc = .ok (.aload 6, 2)) (k : AW G l y cc ml rt d kc ks (pc + 2) (a0 :: a1 :: a2 :: a3 :: a4 :: a5 :: some (.ref x) :: r) (.ref x :: st) n S I J R Q) :
    AW G l y cc ml rt d kc ks (pc) (a0 :: a1 :: a2 :: a3 :: a4 :: a5 :: some (.ref x) :: r) (st) n S I J R Q := by
  intro p e Rm s m args below meth c H locs cells slots ls C h1 h2 h3 h4
  exact lv_aload C.1 C.2.1 hd (h3.2.2 6 _ rfl) (k _ _ _ _ _ _ _ _ _ _ _ _ _ ls C h1 h2 h3 h4)
theorem AW_astore_6 {a0 a1 a2 a3 a4 a5 z : Option Value} {r : List (Option Value)} {x : Nat} (hd : decode cc pc = .ok (.astore 6, 2)) (hm : 6 < ml) (hp : rk_one a5 = true) (k : AW G l y cc ml rt d kc ks (pc + 2) (a0 :: a1 :: a2 :: a3 :: a4 :: a5 :: some (.ref x) :: r) (st) n S I J R Q) :
    AW G l y cc ml rt d kc ks (pc) (a0 :: a1 :: a2 :: a3 :: a4 :: a5 :: z :: r) (.ref x :: st) n S I J R Q := by
  intro p e Rm s m args below meth c H locs cells slots ls C h1 h2 h3 h4
  exact lv_astore C.1 C.2.1 hd (rk_L_has h3) hm rfl (fun ls hl => k _ _ _ _ _ _ _ _ _ _ _ _ _ ls C h1 h2 (rk_L_st1 (v := .ref x) hl rfl (fun j w hj hw => by have e : j = 5 := (by omega); subst e; cases hw; exact hp)) h4)
theorem AW_aloadN_6 {a0 a1 a2 a3 a4 a5 : Option Value} {r : List (Option Value)}  (hd : decode cc pc = .ok (.aload 6, 2)) (k : AW G l y cc ml rt d kc ks (pc + 2) (a0 :: a1 :: a2 :: a3 :: a4 :: a5 :: some (.null) :: r) (.null :: st) n S I J R Q) :
    AW G l y cc ml rt d kc ks (pc) (a0 :: a1 :: a2 :: a3 :: a4 :: a5 :: some (.null) :: r) (st) n S I J R Q := by
  intro p e Rm s m args below meth c H locs cells slots ls C h1 h2 h3 h4
  exact lv_aloadN C.1 C.2.1 hd (h3.2.2 6 _ rfl) (k _ _ _ _ _ _ _ _ _ _ _ _ _ ls C h1 h2 h3 h4)
theorem AW_astoreN_6 {a0 a1 a2 a3 a4 a5 z : Option Value} {r : List (Option Value)}  (hd : decode cc pc = .ok (.astore 6, 2)) (hm : 6 < ml) (hp : rk_one a5 = true) (k : AW G l y cc ml rt d kc ks (pc + 2) (a0 :: a1 :: a2 :: a3 :: a4 :: a5 :: some (.null) :: r) (st) n S I J R Q) :
    AW G l y cc ml rt d kc ks (pc) (a0 :: a1 :: a2 :: a3 :: a4 :: a5 :: z :: r) (.null :: st) n S I J R Q := by
  intro p e Rm s m args below meth c H locs cells slots ls C h1 h2 h3 h4
  exact lv_astoreN C.1 C.2.1 hd (rk_L_has h3) hm rfl (fun ls hl => k _ _ _ _ _ _ _ _ _ _ _ _ _ ls C h1 h2 (rk_L_st1 (v := .null) hl rfl (fun j w hj hw => by have e : j = 5 := (by omega); subst e; cases hw; exact hp)) h4)
theorem AW_iinc_6 {a0 a1 a2 a3 a4 a5 : Option Value} {r : List (Option Value)} {x v : Int32} {q : Int} (hd : decode cc pc = .ok (.iinc 6 q, 3)) (hv : Int32.ofInt q = v) (hm : 6 < ml) (hp : rk_one a5 = true) (k : AW G l y cc ml rt d kc ks (pc + 3) (a0 :: a1 :: a2 :: a3 :: a4 :: a5 :: some (.int (x + v)) :: r) (st) n S I J R Q) :
    AW G l y cc ml rt d kc ks (pc) (a0 :: a1 :: a2 :: a3 :: a4 :: a5 :: some (.int x) :: r) (st) n S I J R Q := by
  intro p e Rm s m args below meth c H locs cells slots ls C h1 h2 h3 h4
  subst hv
  obtain ⟨j, hj⟩ := List.getElem?_of_mem (rk_as_mem (ad := G.1) (lv := a0 :: a1 :: a2 :: a3 :: a4 :: a5 :: some (.int x) :: r) (q := (6, .int x)) |>.mpr ⟨.int x, rfl, rfl⟩)
  exact lv_iinc C.1 C.2.1 hd (rk_L_has h3) hj rfl hm rfl (fun ls hl => k _ _ _ _ _ _ _ _ _ _ _ _ _ ls C h1 h2 (rk_L_st1 (v := .int _) hl rfl (fun j w hj hw => by have e : j = 5 := (by omega); subst e; cases hw; exact hp)) h4)
theorem AW_drop_6 {a0 a1 a2 a3 a4 a5 : Option Value} {r : List (Option Value)} {w : Option Value} (k : AW G l y cc ml rt d kc ks (pc) (a0 :: a1 :: a2 :: a3 :: a4 :: a5 :: none :: r) (st) n S I J R Q) :
    AW G l y cc ml rt d kc ks (pc) (a0 :: a1 :: a2 :: a3 :: a4 :: a5 :: w :: r) (st) n S I J R Q := by
  intro p e Rm s m args below meth c H locs cells slots ls C h1 h2 h3 h4
  refine k _ _ _ _ _ _ _ _ _ _ _ _ _ ls C h1 h2 ⟨h3.1, h3.2.1, fun j v hj => h3.2.2 j v ?_⟩ h4
  by_cases e : j = 6
  · subst e; simp at hj
  · have hh : ∀ (o : Option Value), (a0 :: a1 :: a2 :: a3 :: a4 :: a5 :: none :: r)[j]? = ((a0 :: a1 :: a2 :: a3 :: a4 :: a5 :: o :: r).set 6 none)[j]? := fun o => rfl
    rw [hh w, List.getElem?_set_ne (Ne.symm e)] at hj
    exact hj
theorem AW_iload_7 {a0 a1 a2 a3 a4 a5 a6 : Option Value} {r : List (Option Value)} {x : Int32} (hd : decode cc pc = .ok (.iload 7, 2)) (k : AW G l y cc ml rt d kc ks (pc + 2) (a0 :: a1 :: a2 :: a3 :: a4 :: a5 :: a6 :: some (.int x) :: r) (.int x :: st) n S I J R Q) :
    AW G l y cc ml rt d kc ks (pc) (a0 :: a1 :: a2 :: a3 :: a4 :: a5 :: a6 :: some (.int x) :: r) (st) n S I J R Q := by
  intro p e Rm s m args below meth c H locs cells slots ls C h1 h2 h3 h4
  exact lv_iload C.1 C.2.1 hd (h3.2.2 7 _ rfl) (k _ _ _ _ _ _ _ _ _ _ _ _ _ ls C h1 h2 h3 h4)
theorem AW_istore_7 {a0 a1 a2 a3 a4 a5 a6 z : Option Value} {r : List (Option Value)} {x : Int32} (hd : decode cc pc = .ok (.istore 7, 2)) (hm : 7 < ml) (hp : rk_one a6 = true) (k : AW G l y cc ml rt d kc ks (pc + 2) (a0 :: a1 :: a2 :: a3 :: a4 :: a5 :: a6 :: some (.int x) :: r) (st) n S I J R Q) :
    AW G l y cc ml rt d kc ks (pc) (a0 :: a1 :: a2 :: a3 :: a4 :: a5 :: a6 :: z :: r) (.int x :: st) n S I J R Q := by
  intro p e Rm s m args below meth c H locs cells slots ls C h1 h2 h3 h4
  exact lv_istore C.1 C.2.1 hd (rk_L_has h3) hm rfl (fun ls hl => k _ _ _ _ _ _ _ _ _ _ _ _ _ ls C h1 h2 (rk_L_st1 (v := .int x) hl rfl (fun j w hj hw => by have e : j = 6 := (by omega); subst e; cases hw; exact hp)) h4)
theorem AW_lload_7 {a0 a1 a2 a3 a4 a5 a6 : Option Value} {r : List (Option Value)} {x : Int64} (hd : decode cc pc = .ok (.lload 7, 2)) (k : AW G l y cc ml rt d kc ks (pc + 2) (a0 :: a1 :: a2 :: a3 :: a4 :: a5 :: a6 :: some (.long x) :: r) (.long x :: st) n S I J R Q) :
    AW G l y cc ml rt d kc ks (pc) (a0 :: a1 :: a2 :: a3 :: a4 :: a5 :: a6 :: some (.long x) :: r) (st) n S I J R Q := by
  intro p e Rm s m args below meth c H locs cells slots ls C h1 h2 h3 h4
  exact lv_lload C.1 C.2.1 hd (h3.2.2 7 _ rfl) (k _ _ _ _ _ _ _ _ _ _ _ _ _ ls C h1 h2 h3 h4)
theorem AW_lstore_7 {a0 a1 a2 a3 a4 a5 a6 z z2 : Option Value} {r : List (Option Value)} {x : Int64} (hd : decode cc pc = .ok (.lstore 7, 2)) (hm : 7 + 1 < ml) (hp : rk_one a6 = true) (k : AW G l y cc ml rt d kc ks (pc + 2) (a0 :: a1 :: a2 :: a3 :: a4 :: a5 :: a6 :: some (.long x) :: none :: r) (st) n S I J R Q) :
    AW G l y cc ml rt d kc ks (pc) (a0 :: a1 :: a2 :: a3 :: a4 :: a5 :: a6 :: z :: z2 :: r) (.long x :: st) n S I J R Q := by
  intro p e Rm s m args below meth c H locs cells slots ls C h1 h2 h3 h4
  exact lv_lstore C.1 C.2.1 hd (rk_L_has h3) hm rfl (fun ls hl => k _ _ _ _ _ _ _ _ _ _ _ _ _ ls C h1 h2 (rk_L_st2 (v := .long x) hl rfl (fun j w hj hw => by have e : j = 6 := (by omega); subst e; cases hw; exact hp)) h4)
theorem AW_aload_7 {a0 a1 a2 a3 a4 a5 a6 : Option Value} {r : List (Option Value)} {x : Nat} (hd : decode cc pc = .ok (.aload 7, 2)) (k : AW G l y cc ml rt d kc ks (pc + 2) (a0 :: a1 :: a2 :: a3 :: a4 :: a5 :: a6 :: some (.ref x) :: r) (.ref x :: st) n S I J R Q) :
    AW G l y cc ml rt d kc ks (pc) (a0 :: a1 :: a2 :: a3 :: a4 :: a5 :: a6 :: some (.ref x) :: r) (st) n S I J R Q := by
  intro p e Rm s m args below meth c H locs cells slots ls C h1 h2 h3 h4
  exact lv_aload C.1 C.2.1 hd (h3.2.2 7 _ rfl) (k _ _ _ _ _ _ _ _ _ _ _ _ _ ls C h1 h2 h3 h4)
theorem AW_astore_7 {a0 a1 a2 a3 a4 a5 a6 z : Option Value} {r : List (Option Value)} {x : Nat} (hd : decode cc pc = .ok (.astore 7, 2)) (hm : 7 < ml) (hp : rk_one a6 = true) (k : AW G l y cc ml rt d kc ks (pc + 2) (a0 :: a1 :: a2 :: a3 :: a4 :: a5 :: a6 :: some (.ref x) :: r) (st) n S I J R Q) :
    AW G l y cc ml rt d kc ks (pc) (a0 :: a1 :: a2 :: a3 :: a4 :: a5 :: a6 :: z :: r) (.ref x :: st) n S I J R Q := by
  intro p e Rm s m args below meth c H locs cells slots ls C h1 h2 h3 h4
  exact lv_astore C.1 C.2.1 hd (rk_L_has h3) hm rfl (fun ls hl => k _ _ _ _ _ _ _ _ _ _ _ _ _ ls C h1 h2 (rk_L_st1 (v := .ref x) hl rfl (fun j w hj hw => by have e : j = 6 := (by omega); subst e; cases hw; exact hp)) h4)
theorem AW_aloadN_7 {a0 a1 a2 a3 a4 a5 a6 : Option Value} {r : List (Option Value)}  (hd : decode cc pc = .ok (.aload 7, 2)) (k : AW G l y cc ml rt d kc ks (pc + 2) (a0 :: a1 :: a2 :: a3 :: a4 :: a5 :: a6 :: some (.null) :: r) (.null :: st) n S I J R Q) :
    AW G l y cc ml rt d kc ks (pc) (a0 :: a1 :: a2 :: a3 :: a4 :: a5 :: a6 :: some (.null) :: r) (st) n S I J R Q := by
  intro p e Rm s m args below meth c H locs cells slots ls C h1 h2 h3 h4
  exact lv_aloadN C.1 C.2.1 hd (h3.2.2 7 _ rfl) (k _ _ _ _ _ _ _ _ _ _ _ _ _ ls C h1 h2 h3 h4)
theorem AW_astoreN_7 {a0 a1 a2 a3 a4 a5 a6 z : Option Value} {r : List (Option Value)}  (hd : decode cc pc = .ok (.astore 7, 2)) (hm : 7 < ml) (hp : rk_one a6 = true) (k : AW G l y cc ml rt d kc ks (pc + 2) (a0 :: a1 :: a2 :: a3 :: a4 :: a5 :: a6 :: some (.null) :: r) (st) n S I J R Q) :
    AW G l y cc ml rt d kc ks (pc) (a0 :: a1 :: a2 :: a3 :: a4 :: a5 :: a6 :: z :: r) (.null :: st) n S I J R Q := by
  intro p e Rm s m args below meth c H locs cells slots ls C h1 h2 h3 h4
  exact lv_astoreN C.1 C.2.1 hd (rk_L_has h3) hm rfl (fun ls hl => k _ _ _ _ _ _ _ _ _ _ _ _ _ ls C h1 h2 (rk_L_st1 (v := .null) hl rfl (fun j w hj hw => by have e : j = 6 := (by omega); subst e; cases hw; exact hp)) h4)
theorem AW_iinc_7 {a0 a1 a2 a3 a4 a5 a6 : Option Value} {r : List (Option Value)} {x v : Int32} {q : Int} (hd : decode cc pc = .ok (.iinc 7 q, 3)) (hv : Int32.ofInt q = v) (hm : 7 < ml) (hp : rk_one a6 = true) (k : AW G l y cc ml rt d kc ks (pc + 3) (a0 :: a1 :: a2 :: a3 :: a4 :: a5 :: a6 :: some (.int (x + v)) :: r) (st) n S I J R Q) :
    AW G l y cc ml rt d kc ks (pc) (a0 :: a1 :: a2 :: a3 :: a4 :: a5 :: a6 :: some (.int x) :: r) (st) n S I J R Q := by
  intro p e Rm s m args below meth c H locs cells slots ls C h1 h2 h3 h4
  subst hv
  obtain ⟨j, hj⟩ := List.getElem?_of_mem (rk_as_mem (ad := G.1) (lv := a0 :: a1 :: a2 :: a3 :: a4 :: a5 :: a6 :: some (.int x) :: r) (q := (7, .int x)) |>.mpr ⟨.int x, rfl, rfl⟩)
  exact lv_iinc C.1 C.2.1 hd (rk_L_has h3) hj rfl hm rfl (fun ls hl => k _ _ _ _ _ _ _ _ _ _ _ _ _ ls C h1 h2 (rk_L_st1 (v := .int _) hl rfl (fun j w hj hw => by have e : j = 6 := (by omega); subst e; cases hw; exact hp)) h4)
theorem AW_drop_7 {a0 a1 a2 a3 a4 a5 a6 : Option Value} {r : List (Option Value)} {w : Option Value} (k : AW G l y cc ml rt d kc ks (pc) (a0 :: a1 :: a2 :: a3 :: a4 :: a5 :: a6 :: none :: r) (st) n S I J R Q) :
    AW G l y cc ml rt d kc ks (pc) (a0 :: a1 :: a2 :: a3 :: a4 :: a5 :: a6 :: w :: r) (st) n S I J R Q := by
  intro p e Rm s m args below meth c H locs cells slots ls C h1 h2 h3 h4
  refine k _ _ _ _ _ _ _ _ _ _ _ _ _ ls C h1 h2 ⟨h3.1, h3.2.1, fun j v hj => h3.2.2 j v ?_⟩ h4
  by_cases e : j = 7
  · subst e; simp at hj
  · have hh : ∀ (o : Option Value), (a0 :: a1 :: a2 :: a3 :: a4 :: a5 :: a6 :: none :: r)[j]? = ((a0 :: a1 :: a2 :: a3 :: a4 :: a5 :: a6 :: o :: r).set 7 none)[j]? := fun o => rfl
    rw [hh w, List.getElem?_set_ne (Ne.symm e)] at hj
    exact hj
theorem AW_iload_8 {a0 a1 a2 a3 a4 a5 a6 a7 : Option Value} {r : List (Option Value)} {x : Int32} (hd : decode cc pc = .ok (.iload 8, 2)) (k : AW G l y cc ml rt d kc ks (pc + 2) (a0 :: a1 :: a2 :: a3 :: a4 :: a5 :: a6 :: a7 :: some (.int x) :: r) (.int x :: st) n S I J R Q) :
    AW G l y cc ml rt d kc ks (pc) (a0 :: a1 :: a2 :: a3 :: a4 :: a5 :: a6 :: a7 :: some (.int x) :: r) (st) n S I J R Q := by
  intro p e Rm s m args below meth c H locs cells slots ls C h1 h2 h3 h4
  exact lv_iload C.1 C.2.1 hd (h3.2.2 8 _ rfl) (k _ _ _ _ _ _ _ _ _ _ _ _ _ ls C h1 h2 h3 h4)
theorem AW_istore_8 {a0 a1 a2 a3 a4 a5 a6 a7 z : Option Value} {r : List (Option Value)} {x : Int32} (hd : decode cc pc = .ok (.istore 8, 2)) (hm : 8 < ml) (hp : rk_one a7 = true) (k : AW G l y cc ml rt d kc ks (pc + 2) (a0 :: a1 :: a2 :: a3 :: a4 :: a5 :: a6 :: a7 :: some (.int x) :: r) (st) n S I J R Q) :
    AW G l y cc ml rt d kc ks (pc) (a0 :: a1 :: a2 :: a3 :: a4 :: a5 :: a6 :: a7 :: z :: r) (.int x :: st) n S I J R Q := by
  intro p e Rm s m args below meth c H locs cells slots ls C h1 h2 h3 h4
  exact lv_istore C.1 C.2.1 hd (rk_L_has h3) hm rfl (fun ls hl => k _ _ _ _ _ _ _ _ _ _ _ _ _ ls C h1 h2 (rk_L_st1 (v := .int x) hl rfl (fun j w hj hw => by have e : j = 7 := (by omega); subst e; cases hw; exact hp)) h4)
theorem AW_lload_8 {a0 a1 a2 a3 a4 a5 a6 a7 : Option Value} {r : List (Option Value)} {x : Int64} (hd : decode cc pc = .ok (.lload 8, 2)) (k : AW G l y cc ml rt d kc ks (pc + 2) (a0 :: a1 :: a2 :: a3 :: a4 :: a5 :: a6 :: a7 :: some (.long x) :: r) (.long x :: st) n S I J R Q) :
    AW G l y cc ml rt d kc ks (pc) (a0 :: a1 :: a2 :: a3 :: a4 :: a5 :: a6 :: a7 :: some (.long x) :: r) (st) n S I J R Q := by
  intro p e Rm s m args below meth c H locs cells slots ls C h1 h2 h3 h4
  exact lv_lload C.1 C.2.1 hd (h3.2.2 8 _ rfl) (k _ _ _ _ _ _ _ _ _ _ _ _ _ ls C h1 h2 h3 h4)
theorem AW_lstore_8 {a0 a1 a2 a3 a4 a5 a6 a7 z z2 : Option Value} {r : List (Option Value)} {x : Int64} (hd : decode cc pc = .ok (.lstore 8, 2)) (hm : 8 + 1 < ml) (hp : rk_one a7 = true) (k : AW G l y cc ml rt d kc ks (pc + 2) (a0 :: a1 :: a2 :: a3 :: a4 :: a5 :: a6 :: a7 :: some (.long x) :: none :: r) (st) n S I J R Q) :
    AW G l y cc ml rt d kc ks (pc) (a0 :: a1 :: a2 :: a3 :: a4 :: a5 :: a6 :: a7 :: z :: z2 :: r) (.long x :: st) n S I J R Q := by
  intro p e Rm s m args below meth c H locs cells slots ls C h1 h2 h3 h4
  exact lv_lstore C.1 C.2.1 hd (rk_L_has h3) hm rfl (fun ls hl => k _ _ _ _ _ _ _ _ _ _ _ _ _ ls C h1 h2 (rk_L_st2 (v := .long x) hl rfl (fun j w hj hw => by have e : j = 7 := (by omega); subst e; cases hw; exact hp)) h4)
theorem AW_aload_8 {a0 a1 a2 a3 a4 a5 a6 a7 : Option Value} {r : List (Option Value)} {x : Nat} (hd : decode cc pc = .ok (.aload 8, 2)) (k : AW G l y cc ml rt d kc ks (pc + 2) (a0 :: a1 :: a2 :: a3 :: a4 :: a5 :: a6 :: a7 :: some (.ref x) :: r) (.ref x :: st) n S I J R Q) :
    AW G l y cc ml rt d kc ks (pc) (a0 :: a1 :: a2 :: a3 :: a4 :: a5 :: a6 :: a7 :: some (.ref x) :: r) (st) n S I J R Q := by
  intro p e Rm s m args below meth c H locs cells slots ls C h1 h2 h3 h4
  exact lv_aload C.1 C.2.1 hd (h3.2.2 8 _ rfl) (k _ _ _ _ _ _ _ _ _ _ _ _ _ ls C h1 h2 h3 h4)
theorem AW_astore_8 {a0 a1 a2 a3 a4 a5 a6 a7 z : Option Value} {r : List (Option Value)} {x : Nat} (hd : decode cc pc = .ok (.astore 8, 2)) (hm : 8 < ml) (hp : rk_one a7 = true) (k : AW G l y cc ml rt d kc ks (pc + 2) (a0 :: a1 :: a2 :: a3 :: a4 :: a5 :: a6 :: a7 :: some (.ref x) :: r) (st) n S I J R Q) :
    AW G l y cc ml rt d kc ks (pc) (a0 :: a1 :: a2 :: a3 :: a4 :: a5 :: a6 :: a7 :: z :: r) (.ref x :: st) n S I J R Q := by
  intro p e Rm s m args below meth c H locs cells slots ls C h1 h2 h3 h4
  exact lv_astore C.1 C.2.1 hd (rk_L_has h3) hm rfl (fun ls hl => k _ _ _ _ _ _ _ _ _ _ _ _ _ ls C h1 h2 (rk_L_st1 (v := .ref x) hl rfl (fun j w hj hw => by have e : j = 7 := (by omega); subst e; cases hw; exact hp)) h4)
theorem AW_aloadN_8 {a0 a1 a2 a3 a4 a5 a6 a7 : Option Value} {r : List (Option Value)}  (hd : decode cc pc = .ok (.aload 8, 2)) (k : AW G l y cc ml rt d kc ks (pc + 2) (a0 :: a1 :: a2 :: a3 :: a4 :: a5 :: a6 :: a7 :: some (.null) :: r) (.null :: st) n S I J R Q) :
    AW G l y cc ml rt d kc ks (pc) (a0 :: a1 :: a2 :: a3 :: a4 :: a5 :: a6 :: a7 :: some (.null) :: r) (st) n S I J R Q := by
  intro p e Rm s m args below meth c H locs cells slots ls C h1 h2 h3 h4
  exact lv_aloadN C.1 C.2.1 hd (h3.2.2 8 _ rfl) (k _ _ _ _ _ _ _ _ _ _ _ _ _ ls C h1 h2 h3 h4)
theorem AW_astoreN_8 {a0 a1 a2 a3 a4 a5 a6 a7 z : Option Value} {r : List (Option Value)}  (hd : decode cc pc = .ok (.astore 8, 2)) (hm : 8 < ml) (hp : rk_one a7 = true) (k : AW G l y cc ml rt d kc ks (pc + 2) (a0 :: a1 :: a2 :: a3 :: a4 :: a5 :: a6 :: a7 :: some (.null) :: r) (st) n S I J R Q) :
    AW G l y cc ml rt d kc ks (pc) (a0 :: a1 :: a2 :: a3 :: a4 :: a5 :: a6 :: a7 :: z :: r) (.null :: st) n S I J R Q := by
  intro p e Rm s m args below meth c H locs cells slots ls C h1 h2 h3 h4
  exact lv_astoreN C.1 C.2.1 hd (rk_L_has h3) hm rfl (fun ls hl => k _ _ _ _ _ _ _ _ _ _ _ _ _ ls C h1 h2 (rk_L_st1 (v := .null) hl rfl (fun j w hj hw => by have e : j = 7 := (by omega); subst e; cases hw; exact hp)) h4)
theorem AW_iinc_8 {a0 a1 a2 a3 a4 a5 a6 a7 : Option Value} {r : List (Option Value)} {x v : Int32} {q : Int} (hd : decode cc pc = .ok (.iinc 8 q, 3)) (hv : Int32.ofInt q = v) (hm : 8 < ml) (hp : rk_one a7 = true) (k : AW G l y cc ml rt d kc ks (pc + 3) (a0 :: a1 :: a2 :: a3 :: a4 :: a5 :: a6 :: a7 :: some (.int (x + v)) :: r) (st) n S I J R Q) :
    AW G l y cc ml rt d kc ks (pc) (a0 :: a1 :: a2 :: a3 :: a4 :: a5 :: a6 :: a7 :: some (.int x) :: r) (st) n S I J R Q := by
  intro p e Rm s m args below meth c H locs cells slots ls C h1 h2 h3 h4
  subst hv
  obtain ⟨j, hj⟩ := List.getElem?_of_mem (rk_as_mem (ad := G.1) (lv := a0 :: a1 :: a2 :: a3 :: a4 :: a5 :: a6 :: a7 :: some (.int x) :: r) (q := (8, .int x)) |>.mpr ⟨.int x, rfl, rfl⟩)
  exact lv_iinc C.1 C.2.1 hd (rk_L_has h3) hj rfl hm rfl (fun ls hl => k _ _ _ _ _ _ _ _ _ _ _ _ _ ls C h1 h2 (rk_L_st1 (v := .int _) hl rfl (fun j w hj hw => by have e : j = 7 := (by omega); subst e; cases hw; exact hp)) h4)
theorem AW_drop_8 {a0 a1 a2 a3 a4 a5 a6 a7 : Option Value} {r : List (Option Value)} {w : Option Value} (k : AW G l y cc ml rt d kc ks (pc) (a0 :: a1 :: a2 :: a3 :: a4 :: a5 :: a6 :: a7 :: none :: r) (st) n S I J R Q) :
    AW G l y cc ml rt d kc ks (pc) (a0 :: a1 :: a2 :: a3 :: a4 :: a5 :: a6 :: a7 :: w :: r) (st) n S I J R Q := by
  intro p e Rm s m args below meth c H locs cells slots ls C h1 h2 h3 h4
  refine k _ _ _ _ _ _ _ _ _ _ _ _ _ ls C h1 h2 ⟨h3.1, h3.2.1, fun j v hj => h3.2.2 j v ?_⟩ h4
  by_cases e : j = 8
  · subst e; simp at hj
  · have hh : ∀ (o : Option Value), (a0 :: a1 :: a2 :: a3 :: a4 :: a5 :: a6 :: a7 :: none :: r)[j]? = ((a0 :: a1 :: a2 :: a3 :: a4 :: a5 :: a6 :: a7 :: o :: r).set 8 none)[j]? := fun o => rfl
    rw [hh w, List.getElem?_set_ne (Ne.symm e)] at hj
    exact hj
theorem AW_iload_9 {a0 a1 a2 a3 a4 a5 a6 a7 a8 : Option Value} {r : List (Option Value)} {x : Int32} (hd : decode cc pc = .ok (.iload 9, 2)) (k : AW G l y cc ml rt d kc ks (pc + 2) (a0 :: a1 :: a2 :: a3 :: a4 :: a5 :: a6 :: a7 :: a8 :: some (.int x) :: r) (.int x :: st) n S I J R Q) :
    AW G l y cc ml rt d kc ks (pc) (a0 :: a1 :: a2 :: a3 :: a4 :: a5 :: a6 :: a7 :: a8 :: some (.int x) :: r) (st) n S I J R Q := by
  intro p e Rm s m args below meth c H locs cells slots ls C h1 h2 h3 h4
  exact lv_iload C.1 C.2.1 hd (h3.2.2 9 _ rfl) (k _ _ _ _ _ _ _ _ _ _ _ _ _ ls C h1 h2 h3 h4)
theorem AW_istore_9 {a0 a1 a2 a3 a4 a5 a6 a7 a8 z : Option Value} {r : List (Option Value)} {x : Int32} (hd : decode cc pc = .ok (.istore 9, 2)) (hm : 9 < ml) (hp : rk_one a8 = true) (k : AW G l y cc ml rt d kc ks (pc + 2) (a0 :: a1 :: a2 :: a3 :: a4 :: a5 :: a6 :: a7 :: a8 :: some (.int x) :: r) (st) n S I J R Q) :
    AW G l y cc ml rt d kc ks (pc) (a0 :: a1 :: a2 :: a3 :: a4 :: a5 :: a6 :: a7 :: a8 :: z :: r) (.int x :: st) n S I J R Q := by
  intro p e Rm s m args below meth c H locs cells slots ls C h1 h2 h3 h4
  exact lv_istore C.1 C.2.1 hd (rk_L_has h3) hm rfl (fun ls hl => k _ _ _ _ _ _ _ _ _ _ _ _ _ ls C h1 h2 (rk_L_st1 (v := .int x) hl rfl (fun j w hj hw => by have e : j = 8 := (by omega); subst e; cases hw; exact hp)) h4)
theorem AW_lload_9 {a0 a1 a2 a3 a4 a5 a6 a7 a8 : Option Value} {r : List (Option Value)} {x : Int64} (hd : decode cc pc = .ok (.lload 9, 2)) (k : AW G l y cc ml rt d kc ks (pc + 2) (a0 :: a1 :: a2 :: a3 :: a4 :: a5 :: a6 :: a7 :: a8 :: some (.long x) :: r) (.long x :: st) n S I J R Q) :
    AW G l y cc ml rt d kc ks (pc) (a0 :: a1 :: a2 :: a3 :: a4 :: a5 :: a6 :: a7 :: a8 :: some (.long x) :: r) (st) n S I J R Q := by
  intro p e Rm s m args below meth c H locs cells slots ls C h1 h2 h3 h4
  exact lv_lload C.1 C.2.1 hd (h3.2.2 9 _ rfl) (k _ _ _ _ _ _ _ _ _ _ _ _ _ ls C h1 h2 h3 h4)
theorem AW_lstore_9 {a0 a1 a2 a3 a4 a5 a6 a7 a8 z z2 : Option Value} {r : List (Option Value)} {x : Int64} (hd : decode cc pc = .ok (.lstore 9, 2)) (hm : 9 + 1 < ml) (hp : rk_one a8 = true) (k : AW G l y cc ml rt d kc ks (pc + 2) (a0 :: a1 :: a2 :: a3 :: a4 :: a5 :: a6 :: a7 :: a8 :: some (.long x) :: none :: r) (st) n S I J R Q) :
    AW G l y cc ml rt d kc ks (pc) (a0 :: a1 :: a2 :: a3 :: a4 :: a5 :: a6 :: a7 :: a8 :: z :: z2 :: r) (.long x :: st) n S I J R Q := by
  intro p e Rm s m args below meth c H locs cells slots ls C h1 h2 h3 h4
  exact lv_lstore C.1 C.2.1 hd (rk_L_has h3) hm rfl (fun ls hl => k _ _ _ _ _ _ _ _ _ _ _ _ _ ls C h1 h2 (rk_L_st2 (v := .long x) hl rfl (fun j w hj hw => by have e : j = 8 := (by omega); subst e; cases hw; exact hp)) h4)
theorem AW_aload_9 {a0 a1 a2 a3 a4 a5 a6 a7 a8 : Option Value} {r : List (Option Value)} {x : Nat} (hd : decode cc pc = .ok (.aload 9, 2)) (k : AW G l y cc ml rt d kc ks (pc + 2) (a0 :: a1 :: a2 :: a3 :: a4 :: a5 :: a6 :: a7 :: a8 :: some (.ref x) :: r) (.ref x :: st) n S I J R Q) :
    AW G l y cc ml rt d kc ks (pc) (a0 :: a1 :: a2 :: a3 :: a4 :: a5 :: a6 :: a7 :: a8 :: some (.ref x) :: r) (st) n S I J R Q := by
  intro p e Rm s m args below meth c H locs cells slots ls C h1 h2 h3 h4
  exact lv_aload C.1 C.2.1 hd (h3.2.2 9 _ rfl) (k _ _ _ _ _ _ _ _ _ _ _ _ _ ls C h1 h2 h3 h4)
theorem AW_astore_9 {a0 a1 a2 a3 a4 a5 a6 a7 a8 z : Option Value} {r : List (Option Value)} {x : Nat} (hd : decode cc pc = .ok (.astore 9, 2)) (hm : 9 < ml) (hp : rk_one a8 = true) (k : AW G l y cc ml rt d kc ks (pc + 2) (a0 :: a1 :: a2 :: a3 :: a4 :: a5 :: a6 :: a7 :: a8 :: some (.ref x) :: r) (st) n S I J R Q) :
    AW G l y cc ml rt d kc ks (pc) (a0 :: a1 :: a2 :: a3 :: a4 :: a5 :: a6 :: a7 :: a8 :: z :: r) (.ref x :: st) n S I J R Q := by
  intro p e Rm s m args below meth c H locs cells slots ls C h1 h2 h3 h4
  exact lv_astore C.1 C.2.1 hd (rk_L_has h3) hm rfl (fun ls hl => k _ _ _ _ _ _ _ _ _ _ _ _ _ ls C h1 h2 (rk_L_st1 (v := .ref x) hl rfl (fun j w hj hw => by have e : j = 8 := (by omega); subst e; cases hw; exact hp)) h4)
theorem AW_aloadN_9 {a0 a1 a2 a3 a4 a5 a6 a7 a8 : Option Value} {r : List (Option Value)}  (hd : decode cc pc = .ok (.aload 9, 2)) (k : AW G l y cc ml rt d kc ks (pc + 2) (a0 :: a1 :: a2 :: a3 :: a4 :: a5 :: a6 :: a7 :: a8 :: some (.null) :: r) (.null :: st) n S I J R Q) :
    AW G l y cc ml rt d kc ks (pc) (a0 :: a1 :: a2 :: a3 :: a4 :: a5 :: a6 :: a7 :: a8 :: some (.null) :: r) (st) n S I J R Q := by
  intro p e Rm s m args below meth c H locs cells slots ls C h1 h2 h3 h4
  exact lv_aloadN C.1 C.2.1 hd (h3.2.2 9 _ rfl) (k _ _ _ _ _ _ _ _ _ _ _ _ _ ls C h1 h2 h3 h4)
theorem AW_astoreN_9 {a0 a1 a2 a3 a4 a5 a6 a7 a8 z : Option Value} {r : List (Option Value)}  (hd : decode cc pc = .ok (.astore 9, 2)) (hm : 9 < ml) (hp : rk_one a8 = true) (k : AW G l y cc ml rt d kc ks (pc + 2) (a0 :: a1 :: a2 :: a3 :: a4 :: a5 :: a6 :: a7 :: a8 :: some (.null) :: r) (st) n S I J R Q) :
    AW G l y cc ml rt d kc ks (pc) (a0 :: a1 :: a2 :: a3 :: a4 :: a5 :: a6 :: a7 :: a8 :: z :: r) (.null :: st) n S I J R Q := by
  intro p e Rm s m args below meth c H locs cells slots ls C h1 h2 h3 h4
  exact lv_astoreN C.1 C.2.1 hd (rk_L_has h3) hm rfl (fun ls hl => k _ _ _ _ _ _ _ _ _ _ _ _ _ ls C h1 h2 (rk_L_st1 (v := .null) hl rfl (fun j w hj hw => by have e : j = 8 := (by omega); subst e; cases hw; exact hp)) h4)
theorem AW_iinc_9 {a0 a1 a2 a3 a4 a5 a6 a7 a8 : Option Value} {r : List (Option Value)} {x v : Int32} {q : Int} (hd : decode cc pc = .ok (.iinc 9 q, 3)) (hv : Int32.ofInt q = v) (hm : 9 < ml) (hp : rk_one a8 = true) (k : AW G l y cc ml rt d kc ks (pc + 3) (a0 :: a1 :: a2 :: a3 :: a4 :: a5 :: a6 :: a7 :: a8 :: some (.int (x + v)) :: r) (st) n S I J R Q) :
    AW G l y cc ml rt d kc ks (pc) (a0 :: a1 :: a2 :: a3 :: a4 :: a5 :: a6 :: a7 :: a8 :: some (.int x) :: r) (st) n S I J R Q := by
  intro p e Rm s m args below meth c H locs cells slots ls C h1 h2 h3 h4
  subst hv
  obtain ⟨j, hj⟩ := List.getElem?_of_mem (rk_as_mem (ad := G.1) (lv := a0 :: a1 :: a2 :: a3 :: a4 :: a5 :: a6 :: a7 :: a8 :: some (.int x) :: r) (q := (9, .int x)) |>.mpr ⟨.int x, rfl, rfl⟩)
  exact lv_iinc C.1 C.2.1 hd (rk_L_has h3) hj rfl hm rfl (fun ls hl => k _ _ _ _ _ _ _ _ _ _ _ _ _ ls C h1 h2 (rk_L_st1 (v := .int _) hl rfl (fun j w hj hw => by have e : j = 8 := (by omega); subst e; cases hw; exact hp)) h4)
theorem AW_drop_9 {a0 a1 a2 a3 a4 a5 a6 a7 a8 : Option Value} {r : List (Option Value)} {w : Option Value} (k : AW G l y cc ml rt d kc ks (pc) (a0 :: a1 :: a2 :: a3 :: a4 :: a5 :: a6 :: a7 :: a8 :: none :: r) (st) n S I J R Q) :
    AW G l y cc ml rt d kc ks (pc) (a0 :: a1 :: a2 :: a3 :: a4 :: a5 :: a6 :: a7 :: a8 :: w :: r) (st) n S I J R Q := by
  intro p e Rm s m args below meth c H locs cells slots ls C h1 h2 h3 h4
  refine k _ _ _ _ _ _ _ _ _ _ _ _ _ ls C h1 h2 ⟨h3.1, h3.2.1, fun j v hj => h3.2.2 j v ?_⟩ h4
  by_cases e : j = 9
  · subst e; simp at hj
  · have hh : ∀ (o : Option Value), (a0 :: a1 :: a2 :: a3 :: a4 :: a5 :: a6 :: a7 :: a8 :: none :: r)[j]? = ((a0 :: a1 :: a2 :: a3 :: a4 :: a5 :: a6 :: a7 :: a8 :: o :: r).set 9 none)[j]? := fun o => rfl
    rw [hh w, List.getElem?_set_ne (Ne.symm e)] at hj
    exact hj
theorem AW_iload_10 {a0 a1 a2 a3 a4 a5 a6 a7 a8 a9 : Option Value} {r : List (Option Value)} {x : Int32} (hd : decode cc pc = .ok (.iload 10, 2)) (k : AW G l y cc ml rt d kc ks (pc + 2) (a0 :: a1 :: a2 :: a3 :: a4 :: a5 :: a6 :: a7 :: a8 :: a9 :: some (.int x) :: r) (.int x :: st) n S I J R Q) :
    AW G l y cc ml rt d kc ks (pc) (a0 :: a1 :: a2 :: a3 :: a4 :: a5 :: a6 :: a7 :: a8 :: a9 :: some (.int x) :: r) (st) n S I J R Q := by
  intro p e Rm s m args below meth c H locs cells slots ls C h1 h2 h3 h4
  exact lv_iload C.1 C.2.1 hd (h3.2.2 10 _ rfl) (k _ _ _ _ _ _ _ _ _ _ _ _ _ ls C h1 h2 h3 h4)
theorem AW_istore_10 {a0 a1 a2 a3 a4 a5 a6 a7 a8 a9 z : Option Value} {r : List (Option Value)} {x : Int32} (hd : decode cc pc = .ok (.istore 10, 2)) (hm : 10 < ml) (hp : rk_one a9 = true) (k : AW G l y cc ml rt d kc ks (pc + 2) (a0 :: a1 :: a2 :: a3 :: a4 :: a5 :: a6 :: a7 :: a8 :: a9 :: some (.int x) :: r) (st) n S I J R Q) :
    AW G l y cc ml rt d kc ks (pc) (a0 :: a1 :: a2 :: a3 :: a4 :: a5 :: a6 :: a7 :: a8 :: a9 :: z :: r) (.int x :: st) n S I J R Q := by
  intro p e Rm s m args below meth c H locs cells slots ls C h1 h2 h3 h4
  exact lv_istore C.1 C.2.1 hd (rk_L_has h3) hm rfl (fun ls hl => k _ _ _ _ _ _ _ _ _ _ _ _ _ ls C h1 h2 (rk_L_st1 (v := .int x) hl rfl (fun j w hj hw => by have e : j = 9 := (by omega); subst e; cases hw; exact hp)) h4)
theorem AW_lload_10 {a0 a1 a2 a3 a4 a5 a6 a7 a8 a9 : Option Value} {r : List (Option Value)} {x : Int64} (hd : decode cc pc = .ok (.lload 10, 2)) (k : AW G l y cc ml rt d kc ks (pc + 2) (a0 :: a1 :: a2 :: a3 :: a4 :: a5 :: a6 :: a7 :: a8 :: a9 :: some (.long x) :: r) (.long x :: st) n S I J R Q) :
    AW G l y cc ml rt d kc ks (pc) (a0 :: a1 :: a2 :: a3 :: a4 :: a5 :: a6 :: a7 :: a8 :: a9 :: some (.long x) :: r) (st) n S I J R Q := by
  intro p e Rm s m args below meth c H locs cells slots ls C h1 h2 h3 h4
  exact lv_lload C.1 C.2.1 hd (h3.2.2 10 _ rfl) (k _ _ _ _ _ _ _ _ _ _ _ _ _ ls C h1 h2 h3 h4)
theorem AW_lstore_10 {a0 a1 a2 a3 a4 a5 a6 a7 a8 a9 z z2 : Option Value} {r : List (Option Value)} {x : Int64} (hd : decode cc pc = .ok (.lstore 10, 2)) (hm : 10 + 1 < ml) (hp : rk_one a9 = true) (k : AW G l y cc ml rt d kc ks (pc + 2) (a0 :: a1 :: a2 :: a3 :: a4 :: a5 :: a6 :: a7 :: a8 :: a9 :: some (.long x) :: none :: r) (st) n S I J R Q) :
    AW G l y cc ml rt d kc ks (pc) (a0 :: a1 :: a2 :: a3 :: a4 :: a5 :: a6 :: a7 :: a8 :: a9 :: z :: z2 :: r) (.long x :: st) n S I J R Q := by
  intro p e Rm s m args below meth c H locs cells slots ls C h1 h2 h3 h4
  exact lv_lstore C.1 C.2.1 hd (rk_L_has h3) hm rfl (fun ls hl => k _ _ _ _ _ _ _ _ _ _ _ _ _ ls C h1 h2 (rk_L_st2 (v := .long x) hl rfl (fun j w hj hw => by have e : j = 9 := (by omega); subst e; cases hw; exact hp)) h4)
theorem AW_aload_10 {a0 a1 a2 a3 a4 a5 a6 a7 a8 a9 : Option Value} {r : List (Option Value)} {x : Nat} (hd : decode cc pc = .ok (.aload 10, 2)) (k : AW G l y cc ml rt d kc ks (pc + 2) (a0 :: a1 :: a2 :: a3 :: a4 :: a5 :: a6 :: a7 :: a8 :: a9 :: some (.ref x) :: r) (.ref x :: st) n S I J R Q) :
    AW G l y cc ml rt d kc ks (pc) (a0 :: a1 :: a2 :: a3 :: a4 :: a5 :: a6 :: a7 :: a8 :: a9 :: some (.ref x) :: r) (st) n S I J R Q := by
  intro p e Rm s m args below meth c H locs cells slots ls C h1 h2 h3 h4
  exact lv_aload C.1 C.2.1 hd (h3.2.2 10 _ rfl) (k _ _ _ _ _ _ _ _ _ _ _ _ _ ls C h1 h2 h3 h4)
theorem AW_astore_10 {a0 a1 a2 a3 a4 a5 a6 a7 a8 a9 z : Option Value} {r : List (Option Value)} {x : Nat} (hd : decode cc pc = .ok (.astore 10, 2)) (hm : 10 < ml) (hp : rk_one a9 = true) (k : AW G l y cc ml rt d kc ks (pc + 2) (a0 :: a1 :: a2 :: a3 :: a4 :: a5 :: a6 :: a7 :: a8 :: a9 :: some (.ref x) :: r) (st) n S I J R Q) :
    AW G l y cc ml rt d kc ks (pc) (a0 :: a1 :: a2 :: a3 :: a4 :: a5 :: a6 :: a7 :: a8 :: a9 :: z :: r) (.ref x :: st) n S I J R Q := by
  intro p e Rm s m args below meth c H locs cells slots ls C h1 h2 h3 h4
  exact lv_astore C.1 C.2.1 hd (rk_L_has h3) hm rfl (fun ls hl => k _ _ _ _ _ _ _ _ _ _ _ _ _ ls C h1 h2 (rk_L_st1 (v := .ref x) hl rfl (fun j w hj hw => by have e : j = 9 := (by omega); subst e; cases hw; exact hp)) h4)
theorem AW_aloadN_10 {a0 a1 a2 a3 a4 a5 a6 a7 a8 a9 : Option Value} {r : List (Option Value)}  (hd : decode cc pc = .ok (.aload 10, 2)) (k : AW G l y cc ml rt d kc ks (pc + 2) (a0 :: a1 :: a2 :: a3 :: a4 :: a5 :: a6 :: a7 :: a8 :: a9 :: some (.null) :: r) (.null :: st) n S I J R Q) :
    AW G l y cc ml rt d kc ks (pc) (a0 :: a1 :: a2 :: a3 :: a4 :: a5 :: a6 :: a7 :: a8 :: a9 :: some (.null) :: r) (st) n S I J R Q := by
  intro p e Rm s m args below meth c H locs cells slots ls C h1 h2 h3 h4
  exact lv_aloadN C.1 C.2.1 hd (h3.2.2 10 _ rfl) (k _ _ _ _ _ _ _ _ _ _ _ _ _ ls C h1 h2 h3 h4)
theorem AW_astoreN_10 {a0 a1 a2 a3 a4 a5 a6 a7 a8 a9 z : Option Value} {r : List (Option Value)}  (hd : decode cc pc = .ok (.astore 10, 2)) (hm : 10 < ml) (hp : rk_one a9 = true) (k : AW G l y cc ml rt d kc ks (pc + 2) (a0 :: a1 :: a2 :: a3 :: a4 :: a5 :: a6 :: a7 :: a8 :: a9 :: some (.null) :: r) (st) n S I J R Q) :
    AW G l y cc ml rt d kc ks (pc) (a0 :: a1 :: a2 :: a3 :: a4 :: a5 :: a6 :: a7 :: a8 :: a9 :: z :: r) (.null :: st) n S I J R Q := by
  intro p e Rm s m args below meth c H locs cells slots ls C h1 h2 h3 h4
  exact lv_astoreN C.1 C.2.1 hd (rk_L_has h3) hm rfl (fun ls hl => k _ _ _ _ _ _ _ _ _ _ _ _ _ ls C h1 h2 (rk_L_st1 (v := .null) hl rfl (fun j w hj hw => by have e : j = 9 := (by omega); subst e; cases hw; exact hp)) h4)
theorem AW_iinc_10 {a0 a1 a2 a3 a4 a5 a6 a7 a8 a9 : Option Value} {r : List (Option Value)} {x v : Int32} {q : Int} (hd : decode cc pc = .ok (.iinc 10 q, 3)) (hv : Int32.ofInt q = v) (hm : 10 < ml) (hp : rk_one a9 = true) (k : AW G l y cc ml rt d kc ks (pc + 3) (a0 :: a1 :: a2 :: a3 :: a4 :: a5 :: a6 :: a7 :: a8 :: a9 :: some (.int (x + v)) :: r) (st) n S I J R Q) :
    AW G l y cc ml rt d kc ks (pc) (a0 :: a1 :: a2 :: a3 :: a4 :: a5 :: a6 :: a7 :: a8 :: a9 :: some (.int x) :: r) (st) n S I J R Q := by
  intro p e Rm s m args below meth c H locs cells slots ls C h1 h2 h3 h4
  subst hv
  obtain ⟨j, hj⟩ := List.getElem?_of_mem (rk_as_mem (ad := G.1) (lv := a0 :: a1 :: a2 :: a3 :: a4 :: a5 :: a6 :: a7 :: a8 :: a9 :: some (.int x) :: r) (q := (10, .int x)) |>.mpr ⟨.int x, rfl, rfl⟩)
  exact lv_iinc C.1 C.2.1 hd (rk_L_has h3) hj rfl hm rfl (fun ls hl => k _ _ _ _ _ _ _ _ _ _ _ _ _ ls C h1 h2 (rk_L_st1 (v := .int _) hl rfl (fun j w hj hw => by have e : j = 9 := (by omega); subst e; cases hw; exact hp)) h4)
theorem AW_drop_10 {a0 a1 a2 a3 a4 a5 a6 a7 a8 a9 : Option Value} {r : List (Option Value)} {w : Option Value} (k : AW G l y cc ml rt d kc ks (pc) (a0 :: a1 :: a2 :: a3 :: a4 :: a5 :: a6 :: a7 :: a8 :: a9 :: none :: r) (st) n S I J R Q) :
    AW G l y cc ml rt d kc ks (pc) (a0 :: a1 :: a2 :: a3 :: a4 :: a5 :: a6 :: a7 :: a8 :: a9 :: w :: r) (st) n S I J R Q := by
  intro p e Rm s m args below meth c H locs cells slots ls C h1 h2 h3 h4
  refine k _ _ _ _ _ _ _ _ _ _ _ _ _ ls C h1 h2 ⟨h3.1, h3.2.1, fun j v hj => h3.2.2 j v ?_⟩ h4
  by_cases e : j = 10
  · subst e; simp at hj
  · have hh : ∀ (o : Option Value), (a0 :: a1 :: a2 :: a3 :: a4 :: a5 :: a6 :: a7 :: a8 :: a9 :: none :: r)[j]? = ((a0 :: a1 :: a2 :: a3 :: a4 :: a5 :: a6 :: a7 :: a8 :: a9 :: o :: r).set 10 none)[j]? := fun o => rfl
    rw [hh w, List.getElem?_set_ne (Ne.symm e)] at hj
    exact hj
theorem AW_iload_11 {a0 a1 a2 a3 a4 a5 a6 a7 a8 a9 a10 : Option Value} {r : List (Option Value)} {x : Int32} (hd : decode cc pc = .ok (.iload 11, 2)) (k : AW G l y cc ml rt d kc ks (pc + 2) (a0 :: a1 :: a2 :: a3 :: a4 :: a5 :: a6 :: a7 :: a8 :: a9 :: a10 :: some (.int x) :: r) (.int x :: st) n S I J R Q) :
    AW G l y cc ml rt d kc ks (pc) (a0 :: a1 :: a2 :: a3 :: a4 :: a5 :: a6 :: a7 :: a8 :: a9 :: a10 :: some (.int x) :: r) (st) n S I J R Q := by
  intro p e Rm s m args below meth c H locs cells slots ls C h1 h2 h3 h4
  exact lv_iload C.1 C.2.1 hd (h3.2.2 11 _ rfl) (k _ _ _ _ _ _ _ _ _ _ _ _ _ ls C h1 h2 h3 h4)
theorem AW_istore_11 {a0 a1 a2 a3 a4 a5 a6 a7 a8 a9 a10 z : Option Value} {r : List (Option Value)} {x : Int32} (hd : decode cc pc = .ok (.istore 11, 2)) (hm : 11 < ml) (hp : rk_one a10 = true) (k : AW G l y cc ml rt d kc ks (pc + 2) (a0 :: a1 :: a2 :: a3 :: a4 :: a5 :: a6 :: a7 :: a8 :: a9 :: a10 :: some (.int x) :: r) (st) n S I J R Q) :
    AW G l y cc ml rt d kc ks (pc) (a0 :: a1 :: a2 :: a3 :: a4 :: a5 :: a6 :: a7 :: a8 :: a9 :: a10 :: z :: r) (.int x :: st) n S I J R Q := by
  intro p e Rm s m args below meth c H locs cells slots ls C h1 h2 h3 h4
  exact lv_istore C.1 C.2.1 hd (rk_L_has h3) hm rfl (fun ls hl => k _ _ _ _ _ _ _ _ _ _ _ _ _ ls C h1 h2 (rk_L_st1 (v := .int x) hl rfl (fun j w hj hw => by have e : j = 10 := (by omega); subst e; cases hw; exact hp)) h4)
theorem AW_lload_11 {a0 a1 a2 a3 a4 a5 a6 a7 a8 a9 a10 : Option Value} {r : List (Option Value)} {x : Int64} (hd : decode cc pc = .ok (.lload 11, 2)) (k : AW G l y cc ml rt d kc ks (pc + 2) (a0 :: a1 :: a2 :: a3 :: a4 :: a5 :: a6 :: a7 :: a8 :: a9 :: a10 :: some (.long x) :: r) (.long x :: st) n S I J R Q) :
    AW G l y cc ml rt d kc ks (pc) (a0 :: a1 :: a2 :: a3 :: a4 :: a5 :: a6 :: a7 :: a8 :: a9 :: a10 :: some (.long x) :: r) (st) n S I J R Q := by
  intro p e Rm s m args below meth c H locs cells slots ls C h1 h2 h3 h4
  exact lv_lload C.1 C.2.1 hd (h3.2.2 11 _ rfl) (k _ _ _ _ _ _ _ _ _ _ _ _ _ ls C h1 h2 h3 h4)
theorem AW_lstore_11 {a0 a1 a2 a3 a4 a5 a6 a7 a8 a9 a10 z z2 : Option Value} {r : List (Option Value)} {x : Int64} (hd : decode cc pc = .ok (.lstore 11, 2)) (hm : 11 + 1 < ml) (hp : rk_one a10 = true) (k : AW G l y cc ml rt d kc ks (pc + 2) (a0 :: a1 :: a2 :: a3 :: a4 :: a5 :: a6 :: a7 :: a8 :: a9 :: a10 :: some (.long x) :: none :: r) (st) n S I J R Q) :
    AW G l y cc ml rt d kc ks (pc) (a0 :: a1 :: a2 :: a3 :: a4 :: a5 :: a6 :: a7 :: a8 :: a9 :: a10 :: z :: z2 :: r) (.long x :: st) n S I J R Q := by
  intro p e Rm s m args below meth c H locs cells slots ls C h1 h2 h3 h4
  exact lv_lstore C.1 C.2.1 hd (rk_L_has h3) hm rfl (fun ls hl => k _ _ _ _ _ _ _ _ _ _ _ _ _ ls C h1 h2 (rk_L_st2 (v := .long x) hl rfl (fun j w hj hw => by have e : j = 10 := (by omega); subst e; cases hw; exact hp)) h4)
theorem AW_aload_11 {a0 a1 a2 a3 a4 a5 a6 a7 a8 a9 a10 : Option Value} {r : List (Option Value)} {x : Nat} (hd : decode cc pc = .ok (.aload 11, 2)) (k : AW G l y cc ml rt d kc ks (pc + 2) (a0 :: a1 :: a2 :: a3 :: a4 :: a5 :: a6 :: a7 :: a8 :: a9 :: a10 :: some (.ref x) :: r) (.ref x :: st) n S I J R Q) :
    AW G l y cc ml rt d kc ks (pc) (a0 :: a1 :: a2 :: a3 :: a4 :: a5 :: a6 :: a7 :: a8 :: a9 :: a10 :: some (.ref x) :: r) (st) n S I J R Q := by
  intro p e Rm s m args below meth c H locs cells slots ls C h1 h2 h3 h4
  exact lv_aload C.1 C.2.1 hd (h3.2.2 11 _ rfl) (k _ _ _ _ _ _ _ _ _ _ _ _ _ ls C h1 h2 h3 h4)
theorem AW_astore_11 {a0 a1 a2 a3 a4 a5 a6 a7 a8 a9 a10 z : Option Value} {r : List (Option Value)} {x : Nat} (hd : decode cc pc = .ok (.astore 11, 2)) (hm : 11 < ml) (hp : rk_one a10 = true) (k : AW G l y cc ml rt d kc ks (pc + 2) (a0 :: a1 :: a2 :: a3 :: a4 :: a5 :: a6 :: a7 :: a8 :: a9 :: a10 :: some (.ref x) :: r) (st) n S I J R Q) :
    AW G l y cc ml rt d kc ks (pc) (a0 :: a1 :: a2 :: a3 :: a4 :: a5 :: a6 :: a7 :: a8 :: a9 :: a10 :: z :: r) (.ref x :: st) n S I J R Q := by
  intro p e Rm s m args below meth c H locs cells slots ls C h1 h2 h3 h4
  exact lv_astore C.1 C.2.1 hd (rk_L_has h3) hm rfl (fun ls hl => k _ _ _ _ _ _ _ _ _ _ _ _ _ ls C h1 h2 (rk_L_st1 (v := .ref x) hl rfl (fun j w hj hw => by have e : j = 10 := (by omega); subst e; cases hw; exact hp)) h4)
theorem AW_aloadN_11 {a0 a1 a2 a3 a4 a5 a6 a7 a8 a9 a10 : Option Value} {r : List (Option Value)}  (hd : decode cc pc = .ok (.aload 11, 2)) (k : AW G l y cc ml rt d kc ks (pc + 2) (a0 :: a1 :: a2 :: a3 :: a4 :: a5 :: a6 :: a7 :: a8 :: a9 :: a10 :: some (.null) :: r) (.null :: st) n S I J R Q) :
    AW G l y cc ml rt d kc ks (pc) (a0 :: a1 :: a2 :: a3 :: a4 :: a5 :: a6 :: a7 :: a8 :: a9 :: a10 :: some (.null) :: r) (st) n S I J R Q := by
  intro p e Rm s m args below meth c H locs cells slots ls C h1 h2 h3 h4
  exact lv_aloadN C.1 C.2.1 hd (h3.2.2 11 _ rfl) (k _ _ _ _ _ _ _ _ _ _ _ _ _ ls C h1 h2 h3 h4)
theorem AW_astoreN_11 {a0 a1 a2 a3 a4 a5 a6 a7 a8 a9 a10 z : Option Value} {r : List (Option Value)}  (hd : decode cc pc = .ok (.astore 11, 2)) (hm : 11 < ml) (hp : rk_one a10 = true) (k : AW G l y cc ml rt d kc ks (pc + 2) (a0 :: a1 :: a2 :: a3 :: a4 :: a5 :: a6 :: a7 :: a8 :: a9 :: a10 :: some (.null) :: r) (st) n S I J R Q) :
    AW G l y cc ml rt d kc ks (pc) (a0 :: a1 :: a2 :: a3 :: a4 :: a5 :: a6 :: a7 :: a8 :: a9 :: a10 :: z :: r) (.null :: st) n S I J R Q := by
  intro p e Rm s m args below meth c H locs cells slots ls C h1 h2 h3 h4
  exact lv_astoreN C.1 C.2.1 hd (rk_L_has h3) hm rfl (fun ls hl => k _ _ _ _ _ _ _ _ _ _ _ _ _ ls C h1 h2 (rk_L_st1 (v := .null) hl rfl (fun j w hj hw => by have e : j = 10 := (by omega); subst e; cases hw; exact hp)) h4)
theorem AW_iinc_11 {a0 a1 a2 a3 a4 a5 a6 a7 a8 a9 a10 : Option Value} {r : List (Option Value)} {x v : Int32} {q : Int} (hd : decode cc pc = .ok (.iinc 11 q, 3)) (hv : Int32.ofInt q = v) (hm : 11 < ml) (hp : rk_one a10 = true) (k : AW G l y cc ml rt d kc ks (pc + 3) (a0 :: a1 :: a2 :: a3 :: a4 :: a5 :: a6 :: a7 :: a8 :: a9 :: a10 :: some (.int (x + v)) :: r) (st) n S I J R Q) :
    AW G l y cc ml rt d kc ks (pc) (a0 :: a1 :: a2 :: a3 :: a4 :: a5 :: a6 :: a7 :: a8 :: a9 :: a10 :: some (.int x) :: r) (st) n S I J R Q := by
  intro p e Rm s m args below meth c H locs cells slots ls C h1 h2 h3 h4
  subst hv
  obtain ⟨j, hj⟩ := List.getElem?_of_mem (rk_as_mem (ad := G.1) (lv := a0 :: a1 :: a2 :: a3 :: a4 :: a5 :: a6 :: a7 :: a8 :: a9 :: a10 :: some (.int x) :: r) (q := (11, .int x)) |>.mpr ⟨.int x, rfl, rfl⟩)
  exact lv_iinc C.1 C.2.1 hd (rk_L_has h3) hj rfl hm rfl (fun ls hl => k _ _ _ _ _ _ _ _ _ _ _ _ _ ls C h1 h2 (rk_L_st1 (v := .int _) hl rfl (fun j w hj hw => by have e : j = 10 := (by omega); subst e; cases hw; exact hp)) h4)
theorem AW_drop_11 {a0 a1 a2 a3 a4 a5 a6 a7 a8 a9 a10 : Option Value} {r : List (Option Value)} {w : Option Value} (k : AW G l y cc ml rt d kc ks (pc) (a0 :: a1 :: a2 :: a3 :: a4 :: a5 :: a6 :: a7 :: a8 :: a9 :: a10 :: none :: r) (st) n S I J R Q) :
    AW G l y cc ml rt d kc ks (pc) (a0 :: a1 :: a2 :: a3 :: a4 :: a5 :: a6 :: a7 :: a8 :: a9 :: a10 :: w :: r) (st) n S I J R Q := by
  intro p e Rm s m args below meth c H locs cells slots ls C h1 h2 h3 h4
  refine k _ _ _ _ _ _ _ _ _ _ _ _ _ ls C h1 h2 ⟨h3.1, h3.2.1, fun j v hj => h3.2.2 j v ?_⟩ h4
  by_cases e : j = 11
  · subst e; simp at hj
  · have hh : ∀ (o : Option Value), (a0 :: a1 :: a2 :: a3 :: a4 :: a5 :: a6 :: a7 :: a8 :: a9 :: a10 :: none :: r)[j]? = ((a0 :: a1 :: a2 :: a3 :: a4 :: a5 :: a6 :: a7 :: a8 :: a9 :: a10 :: o :: r).set 11 none)[j]? := fun o => rfl
    rw [hh w, List.getElem?_set_ne (Ne.symm e)] at hj
    exact hj
theorem AW_iload_12 {a0 a1 a2 a3 a4 a5 a6 a7 a8 a9 a10 a11 : Option Value} {r : List (Option Value)} {x : Int32} (hd : decode cc pc = .ok (.iload 12, 2)) (k : AW G l y cc ml rt d kc ks (pc + 2) (a0 :: a1 :: a2 :: a3 :: a4 :: a5 :: a6 :: a7 :: a8 :: a9 :: a10 :: a11 :: some (.int x) :: r) (.int x :: st) n S I J R Q) :
    AW G l y cc ml rt d kc ks (pc) (a0 :: a1 :: a2 :: a3 :: a4 :: a5 :: a6 :: a7 :: a8 :: a9 :: a10 :: a11 :: some (.int x) :: r) (st) n S I J R Q := by
  intro p e Rm s m args below meth c H locs cells slots ls C h1 h2 h3 h4
  exact lv_iload C.1 C.2.1 hd (h3.2.2 12 _ rfl) (k _ _ _ _ _ _ _ _ _ _ _ _ _ ls C h1 h2 h3 h4)
theorem AW_istore_12 {a0 a1 a2 a3 a4 a5 a6 a7 a8 a9 a10 a11 z : Option Value} {r : List (Option Value)} {x : Int32} (hd : decode cc pc = .ok (.istore 12, 2)) (hm : 12 < ml) (hp : rk_one a11 = true) (k : AW G l y cc ml rt d kc ks (pc + 2) (a0 :: a1 :: a2 :: a3 :: a4 :: a5 :: a6 :: a7 :: a8 :: a9 :: a10 :: a11 :: some (.int x) :: r) (st) n S I J R Q) :
    AW G l y cc ml rt d kc ks (pc) (a0 :: a1 :: a2 :: a3 :: a4 :: a5 :: a6 :: a7 :: a8 :: a9 :: a10 :: a11 :: z :: r) (.int x :: st) n S I J R Q := by
  intro p e Rm s m args below meth c H locs cells slots ls C h1 h2 h3 h4
  exact lv_istore C.1 C.2.1 hd (rk_L_has h3) hm rfl (fun ls hl => k _ _ _ _ _ _ _ _ _ _ _ _ _ ls C h1 h2 (rk_L_st1 (v := .int x) hl rfl (fun j w hj hw => by have e : j = 11 := (by omega); subst e; cases hw; exact hp)) h4)
theorem AW_lload_12 {a0 a1 a2 a3 a4 a5 a6 a7 a8 a9 a10 a11 : Option Value} {r : List (Option Value)} {x : Int64} (hd : decode cc pc = .ok (.lload 12, 2)) (k : AW G l y cc ml rt d kc ks (pc + 2) (a0 :: a1 :: a2 :: a3 :: a4 :: a5 :: a6 :: a7 :: a8 :: a9 :: a10 :: a11 :: some (.long x) :: r) (.long x :: st) n S I J R Q) :
    AW G l y cc ml rt d kc ks (pc) (a0 :: a1 :: a2 :: a3 :: a4 :: a5 :: a6 :: a7 :: a8 :: a9 :: a10 :: a11 :: some (.long x) :: r) (st) n S I J R Q := by
  intro p e Rm s m args below meth c H locs cells slots ls C h1 h2 h3 h4
  exact lv_lload C.1 C.2.1 hd (h3.2.2 12 _ rfl) (k _ _ _ _ _ _ _ _ _ _ _ _ _ ls C h1 h2 h3 h4)
theorem AW_lstore_12 {a0 a1 a2 a3 a4 a5 a6 a7 a8 a9 a10 a11 z z2 : Option Value} {r : List (Option Value)} {x : Int64} (hd : decode cc pc = .ok (.lstore 12, 2)) (hm : 12 + 1 < ml) (hp : rk_one a11 = true) (k : AW G l y cc ml rt d kc ks (pc + 2) (a0 :: a1 :: a2 :: a3 :: a4 :: a5 :: a6 :: a7 :: a8 :: a9 :: a10 :: a11 :: some (.long x) :: none :: r) (st) n S I J R Q) :
    AW G l y cc ml rt d kc ks (pc) (a0 :: a1 :: a2 :: a3 :: a4 :: a5 :: a6 :: a7 :: a8 :: a9 :: a10 :: a11 :: z :: z2 :: r) (.long x :: st) n S I J R Q := by
  intro p e Rm s m args below meth c H locs cells slots ls C h1 h2 h3 h4
  exact lv_lstore C.1 C.2.1 hd (rk_L_has h3) hm rfl (fun ls hl => k _ _ _ _ _ _ _ _ _ _ _ _ _ ls C h1 h2 (rk_L_st2 (v := .long x) hl rfl (fun j w hj hw => by have e : j = 11 := (by omega); subst e; cases hw; exact hp)) h4)
theorem AW_aload_12 {a0 a1 a2 a3 a4 a5 a6 a7 a8 a9 a10 a11 : Option Value} {r : List (Option Value)} {x : Nat} (hd : decode cc pc = .ok (.aload 12, 2)) (k : AW G l y cc ml rt d kc ks (pc + 2) (a0 :: a1 :: a2 :: a3 :: a4 :: a5 :: a6 :: a7 :: a8 :: a9 :: a10 :: a11 :: some (.ref x) :: r) (.ref x :: st) n S I J R Q) :
    AW G l y cc ml rt d kc ks (pc) (a0 :: a1 :: a2 :: a3 :: a4 :: a5 :: a6 :: a7 :: a8 :: a9 :: a10 :: a11 :: some (.ref x) :: r) (st) n S I J R Q := by
  intro p e Rm s m args below meth c H locs cells slots ls C h1 h2 h3 h4
  exact lv_aload C.1 C.2.1 hd (h3.2.2 12 _ rfl) (k _ _ _ _ _ _ _ _ _ _ _ _ _ ls C h1 h2 h3 h4)
theorem AW_astore_12 {a0 a1 a2 a3 a4 a5 a6 a7 a8 a9 a10 a11 z : Option Value} {r : List (Option Value)} {x : Nat} (hd : decode cc pc = .ok (.astore 12, 2)) (hm : 12 < ml) (hp : rk_one a11 = true) (k : AW G l y cc ml rt d kc ks (pc + 2) (a0 :: a1 :: a2 :: a3 :: a4 :: a5 :: a6 :: a7 :: a8 :: a9 :: a10 :: a11 :: some (.ref x) :: r) (st) n S I J R Q) :
    AW G l y cc ml rt d kc ks (pc) (a0 :: a1 :: a2 :: a3 :: a4 :: a5 :: a6 :: a7 :: a8 :: a9 :: a10 :: a11 :: z :: r) (.ref x :: st) n S I J R Q := by
  intro p e Rm s m args below meth c H locs cells slots ls C h1 h2 h3 h4
  exact lv_astore C.1 C.2.1 hd (rk_L_has h3) hm rfl (fun ls hl => k _ _ _ _ _ _ _ _ _ _ _ _ _ ls C h1 h2 (rk_L_st1 (v := .ref x) hl rfl (fun j w hj hw => by have e : j = 11 := (by omega); subst e; cases hw; exact hp)) h4)
theorem AW_aloadN_12 {a0 a1 a2 a3 a4 a5 a6 a7 a8 a9 a10 a11 : Option Value} {r : List (Option Value)}  (hd : decode cc pc = .ok (.aload 12, 2)) (k : AW G l y cc ml rt d kc ks (pc + 2) (a0 :: a1 :: a2 :: a3 :: a4 :: a5 :: a6 :: a7 :: a8 :: a9 :: a10 :: a11 :: some (.null) :: r) (.null :: st) n S I J R Q) :
    AW G l y cc ml rt d kc ks (pc) (a0 :: a1 :: a2 :: a3 :: a4 :: a5 :: a6 :: a7 :: a8 :: a9 :: a10 :: a11 :: some (.null) :: r) (st) n S I J R Q := by
  intro p e Rm s m args below meth c H locs cells slots ls C h1 h2 h3 h4
  exact lv_aloadN C.1 C.2.1 hd (h3.2.2 12 _ rfl) (k _ _ _ _ _ _ _ _ _ _ _ _ _ ls C h1 h2 h3 h4)
theorem AW_astoreN_12 {a0 a1 a2 a3 a4 a5 a6 a7 a8 a9 a10 a11 z : Option Value} {r : List (Option Value)}  (hd : decode cc pc = .ok (.astore 12, 2)) (hm : 12 < ml) (hp : rk_one a11 = true) (k : AW G l y cc ml rt d kc ks (pc + 2) (a0 :: a1 :: a2 :: a3 :: a4 :: a5 :: a6 :: a7 :: a8 :: a9 :: a10 :: a11 :: some (.null) :: r) (st) n S I J R Q) :
    AW G l y cc ml rt d kc ks (pc) (a0 :: a1 :: a2 :: a3 :: a4 :: a5 :: a6 :: a7 :: a8 :: a9 :: a10 :: a11 :: z :: r) (.null :: st) n S I J R Q := by
  intro p e Rm s m args below meth c H locs cells slots ls C h1 h2 h3 h4
  exact lv_astoreN C.1 C.2.1 hd (rk_L_has h3) hm rfl (fun ls hl => k _ _ _ _ _ _ _ _ _ _ _ _ _ ls C h1 h2 (rk_L_st1 (v := .null) hl rfl (fun j w hj hw => by have e : j = 11 := (by omega); subst e; cases hw; exact hp)) h4)
theorem AW_iinc_12 {a0 a1 a2 a3 a4 a5 a6 a7 a8 a9 a10 a11 : Option Value} {r : List (Option Value)} {x v : Int32} {q : Int} (hd : decode cc pc = .ok (.iinc 12 q, 3)) (hv : Int32.ofInt q = v) (hm : 12 < ml) (hp : rk_one a11 = true) (k : AW G l y cc ml rt d kc ks (pc + 3) (a0 :: a1 :: a2 :: a3 :: a4 :: a5 :: a6 :: a7 :: a8 :: a9 :: a10 :: a11 :: some (.int (x + v)) :: r) (st) n S I J R Q) :
    AW G l y cc ml rt d kc ks (pc) (a0 :: a1 :: a2 :: a3 :: a4 :: a5 :: a6 :: a7 :: a8 :: a9 :: a10 :: a11 :: some (.int x) :: r) (st) n S I J R Q := by
  intro p e Rm s m args below meth c H locs cells slots ls C h1 h2 h3 h4
  subst hv
  obtain ⟨j, hj⟩ := List.getElem?_of_mem (rk_as_mem (ad := G.1) (lv := a0 :: a1 :: a2 :: a3 :: a4 :: a5 :: a6 :: a7 :: a8 :: a9 :: a10 :: a11 :: some (.int x) :: r) (q := (12, .int x)) |>.mpr ⟨.int x, rfl, rfl⟩)
  exact lv_iinc C.1 C.2.1 hd (rk_L_has h3) hj rfl hm rfl (fun ls hl => k _ _ _ _ _ _ _ _ _ _ _ _ _ ls C h1 h2 (rk_L_st1 (v := .int _) hl rfl (fun j w hj hw => by have e : j = 11 := (by omega); subst e; cases hw; exact hp)) h4)
theorem AW_drop_12 {a0 a1 a2 a3 a4 a5 a6 a7 a8 a9 a10 a11 : Option Value} {r : List (Option Value)} {w : Option Value} (k : AW G l y cc ml rt d kc ks (pc) (a0 :: a1 :: a2 :: a3 :: a4 :: a5 :: a6 :: a7 :: a8 :: a9 :: a10 :: a11 :: none :: r) (st) n S I J R Q) :
    AW G l y cc ml rt d kc ks (pc) (a0 :: a1 :: a2 :: a3 :: a4 :: a5 :: a6 :: a7 :: a8 :: a9 :: a10 :: a11 :: w :: r) (st) n S I J R Q := by
  intro p e Rm s m args below meth c H locs cells slots ls C h1 h2 h3 h4
  refine k _ _ _ _ _ _ _ _ _ _ _ _ _ ls C h1 h2 ⟨h3.1, h3.2.1, fun j v hj => h3.2.2 j v ?_⟩ h4
  by_cases e : j = 12
  · subst e; simp at hj
  · have hh : ∀ (o : Option Value), (a0 :: a1 :: a2 :: a3 :: a4 :: a5 :: a6 :: a7 :: a8 :: a9 :: a10 :: a11 :: none :: r)[j]? = ((a0 :: a1 :: a2 :: a3 :: a4 :: a5 :: a6 :: a7 :: a8 :: a9 :: a10 :: a11 :: o :: r).set 12 none)[j]? := fun o => rfl
    rw [hh w, List.getElem?_set_ne (Ne.symm e)] at hj
    exact hj
theorem AW_iload_13 {a0 a1 a2 a3 a4 a5 a6 a7 a8 a9 a10 a11 a12 : Option Value} {r : List (Option Value)} {x : Int32} (hd : decode cc pc = .ok (.iload 13, 2)) (k : AW G l y cc ml rt d kc ks (pc + 2) (a0 :: a1 :: a2 :: a3 :: a4 :: a5 :: a6 :: a7 :: a8 :: a9 :: a10 :: a11 :: a12 :: some (.int x) :: r) (.int x :: st) n S I J R Q) :
    AW G l y cc ml rt d kc ks (pc) (a0 :: a1 :: a2 :: a3 :: a4 :: a5 :: a6 :: a7 :: a8 :: a9 :: a10 :: a11 :: a12 :: some (.int x) :: r) (st) n S I J R Q := by
  intro p e Rm s m args below meth c H locs cells slots ls C h1 h2 h3 h4
  exact lv_iload C.1 C.2.1 hd (h3.2.2 13 _ rfl) (k _ _ _ _ _ _ _ _ _ _ _ _ _ ls C h1 h2 h3 h4)
theorem AW_istore_13 {a0 a1 a2 a3 a4 a5 a6 a7 a8 a9 a10 a11 a12 z : Option Value} {r : List (Option Value)} {x : Int32} (hd : decode cc pc = .ok (.istore 13, 2)) (hm : 13 < ml) (hp : rk_one a12 = true) (k : AW G l y cc ml rt d kc ks (pc + 2) (a0 :: a1 :: a2 :: a3 :: a4 :: a5 :: a6 :: a7 :: a8 :: a9 :: a10 :: a11 :: a12 :: some (.int x) :: r) (st) n S I J R Q) :
    AW G l y cc ml rt d kc ks (pc) (a0 :: a1 :: a2 :: a3 :: a4 :: a5 :: a6 :: a7 :: a8 :: a9 :: a10 :: a11 :: a12 :: z :: r) (.int x :: st) n S I J R Q := by
  intro p e Rm s m args below meth c H locs cells slots ls C h1 h2 h3 h4
  exact lv_istore C.1 C.2.1 hd (rk_L_has h3) hm rfl (fun ls hl => k _ _ _ _ _ _ _ _ _ _ _ _ _ ls C h1 h2 (rk_L_st1 (v := .int x) hl rfl (fun j w hj hw => by have e : j = 12 := (by omega); subst e; cases hw; exact hp)) h4)
theorem AW_lload_13 {a0 a1 a2 a3 a4 a5 a6 a7 a8 a9 a10 a11 a12 : Option Value} {r : List (Option Value)} {x : Int64} (hd : decode cc pc = .ok (.lload 13, 2)) (k : AW G l y cc ml rt d kc ks (pc + 2) (a0 :: a1 :: a2 :: a3 :: a4 :: a5 :: a6 :: a7 :: a8 :: a9 :: a10 :: a11 :: a12 :: some (.long x) :: r) (.long x :: st) n S I J R Q) :
    AW G l y cc ml rt d kc ks (pc) (a0 :: a1 :: a2 :: a3 :: a4 :: a5 :: a6 :: a7 :: a8 :: a9 :: a10 :: a11 :: a12 :: some (.long x) :: r) (st) n S I J R Q := by
  intro p e Rm s m args below meth c H locs cells slots ls C h1 h2 h3 h4
  exact lv_lload C.1 C.2.1 hd (h3.2.2 13 _ rfl) (k _ _ _ _ _ _ _ _ _ _ _ _ _ ls C h1 h2 h3 h4)
theorem AW_lstore_13 {a0 a1 a2 a3 a4 a5 a6 a7 a8 a9 a10 a11 a12 z z2 : Option Value} {r : List (Option Value)} {x : Int64} (hd : decode cc pc = .ok (.lstore 13, 2)) (hm : 13 + 1 < ml) (hp : rk_one a12 = true) (k : AW G l y cc ml rt d kc ks (pc + 2) (a0 :: a1 :: a2 :: a3 :: a4 :: a5 :: a6 :: a7 :: a8 :: a9 :: a10 :: a11 :: a12 :: some (.long x) :: none :: r) (st) n S I J R Q) :
    AW G l y cc ml rt d kc ks (pc) (a0 :: a1 :: a2 :: a3 :: a4 :: a5 :: a6 :: a7 :: a8 :: a9 :: a10 :: a11 :: a12 :: z :: z2 :: r) (.long x :: st) n S I J R Q := by
  intro p e Rm s m args below meth c H locs cells slots ls C h1 h2 h3 h4
  exact lv_lstore C.1 C.2.1 hd (rk_L_has h3) hm rfl (fun ls hl => k _ _ _ _ _ _ _ _ _ _ _ _ _ ls C h1 h2 (rk_L_st2 (v := .long x) hl rfl (fun j w hj hw => by have e : j = 12 := (by omega); subst e; cases hw; exact hp)) h4)
theorem AW_aload_13 {a0 a1 a2 a3 a4 a5 a6 a7 a8 a9 a10 a11 a12 : Option Value} {r : List (Option Value)} {x : Nat} (hd : decode cc pc = .ok (.aload 13, 2)) (k : AW G l y cc ml rt d kc ks (pc + 2) (a0 :: a1 :: a2 :: a3 :: a4 :: a5 :: a6 :: a7 :: a8 :: a9 :: a10 :: a11 :: a12 :: some (.ref x) :: r) (.ref x :: st) n S I J R Q) :
    AW G l y cc ml rt d kc ks (pc) (a0 :: a1 :: a2 :: a3 :: a4 :: a5 :: a6 :: a7 :: a8 :: a9 :: a10 :: a11 :: a12 :: some (.ref x) :: r) (st) n S I J R Q := by
  intro p e Rm s m args below meth c H locs cells slots ls C h1 h2 h3 h4
  exact lv_aload C.1 C.2.1 hd (h3.2.2 13 _ rfl) (k _ _ _ _ _ _ _ _ _ _ _ _ _ ls C h1 h2 h3 h4)
theorem AW_astore_13 {a0 a1 a2 a3 a4 a5 a6 a7 a8 a9 a10 a11 a12 z : Option Value} {r : List (Option Value)} {x : Nat} (hd : decode cc pc = .ok (.astore 13, 2)) (hm : 13 < ml) (hp : rk_one a12 = true) (k : AW G l y cc ml rt d kc ks (pc + 2) (a0 :: a1 :: a2 :: a3 :: a4 :: a5 :: a6 :: a7 :: a8 :: a9 :: a10 :: a11 :: a12 :: some (.ref x) :: r) (st) n S I J R Q) :
    AW G l y cc ml rt d kc ks (pc) (a0 :: a1 :: a2 :: a3 :: a4 :: a5 :: a6 :: a7 :: a8 :: a9 :: a10 :: a11 :: a12 :: z :: r) (.ref x :: st) n S I J R Q := by
  intro p e Rm s m args below meth c H locs cells slots ls C h1 h2 h3 h4
  exact lv_astore C.1 C.2.1 hd (rk_L_has h3) hm rfl (fun ls hl => k _ _ _ _ _ _ _ _ _ _ _ _ _ ls C h1 h2 (rk_L_st1 (v := .ref x) hl rfl (fun j w hj hw => by have e : j = 12 := (by omega); subst e; cases hw; exact hp)) h4)
theorem AW_aloadN_13 {a0 a1 a2 a3 a4 a5 a6 a7 a8 a9 a10 a11 a12 : Option Value} {r : List (Option Value)}  (hd : decode cc pc = .ok (.aload 13, 2)) (k : AW G l y cc ml rt d kc ks (pc + 2) (a0 :: a1 :: a2 :: a3 :: a4 :: a5 :: a6 :: a7 :: a8 :: a9 :: a10 :: a11 :: a12 :: some (.null) :: r) (.null :: st) n S I J R Q) :
    AW G l y cc ml rt d kc ks (pc) (a0 :: a1 :: a2 :: a3 :: a4 :: a5 :: a6 :: a7 :: a8 :: a9 :: a10 :: a11 :: a12 :: some (.null) :: r) (st) n S I J R Q := by
  intro p e Rm s m args below meth c H locs cells slots ls C h1 h2 h3 h4
  exact lv_aloadN C.1 C.2.1 hd (h3.2.2 13 _ rfl) (k _ _ _ _ _ _ _ _ _ _ _ _ _ ls C h1 h2 h3 h4)
theorem AW_astoreN_13 {a0 a1 a2 a3 a4 a5 a6 a7 a8 a9 a10 a11 a12 z : Option Value} {r : List (Option Value)}  (hd : decode cc pc = .ok (.astore 13, 2)) (hm : 13 < ml) (hp : rk_one a12 = true) (k : AW G l y cc ml rt d kc ks (pc + 2) (a0 :: a1 :: a2 :: a3 :: a4 :: a5 :: a6 :: a7 :: a8 :: a9 :: a10 :: a11 :: a12 :: some (.null) :: r) (st) n S I J R Q) :
    AW G l y cc ml rt d kc ks (pc) (a0 :: a1 :: a2 :: a3 :: a4 :: a5 :: a6 :: a7 :: a8 :: a9 :: a10 :: a11 :: a12 :: z :: r) (.null :: st) n S I J R Q := by
  intro p e Rm s m args below meth c H locs cells slots ls C h1 h2 h3 h4
  exact lv_astoreN C.1 C.2.1 hd (rk_L_has h3) hm rfl (fun ls hl => k _ _ _ _ _ _ _ _ _ _ _ _ _ ls C h1 h2 (rk_L_st1 (v := .null) hl rfl (fun j w hj hw => by have e : j = 12 := (by omega); subst e; cases hw; exact hp)) h4)
theorem AW_iinc_13 {a0 a1 a2 a3 a4 a5 a6 a7 a8 a9 a10 a11 a12 : Option Value} {r : List (Option Value)} {x v : Int32} {q : Int} (hd : decode cc pc = .ok (.iinc 13 q, 3)) (hv : Int32.ofInt q = v) (hm : 13 < ml) (hp : rk_one a12 = true) (k : AW G l y cc ml rt d kc ks (pc + 3) (a0 :: a1 :: a2 :: a3 :: a4 :: a5 :: a6 :: a7 :: a8 :: a9 :: a10 :: a11 :: a12 :: some (.int (x + v)) :: r) (st) n S I J R Q) :
    AW G l y cc ml rt d kc ks (pc) (a0 :: a1 :: a2 :: a3 :: a4 :: a5 :: a6 :: a7 :: a8 :: a9 :: a10 :: a11 :: a12 :: some (.int x) :: r) (st) n S I J R Q := by
  intro p e Rm s m args below meth c H locs cells slots ls C h1 h2 h3 h4
  subst hv
  obtain ⟨j, hj⟩ := List.getElem?_of_mem (rk_as_mem (ad := G.1) (lv := a0 :: a1 :: a2 :: a3 :: a4 :: a5 :: a6 :: a7 :: a8 :: a9 :: a10 :: a11 :: a12 :: some (.int x) :: r) (q := (13, .int x)) |>.mpr ⟨.int x, rfl, rfl⟩)
  exact lv_iinc C.1 C.2.1 hd (rk_L_has h3) hj rfl hm rfl (fun ls hl => k _ _ _ _ _ _ _ _ _ _ _ _ _ ls C h1 h2 (rk_L_st1 (v := .int _) hl rfl (fun j w hj hw => by have e : j = 12 := (by omega); subst e; cases hw; exact hp)) h4)
theorem AW_drop_13 {a0 a1 a2 a3 a4 a5 a6 a7 a8 a9 a10 a11 a12 : Option Value} {r : List (Option Value)} {w : Option Value} (k : AW G l y cc ml rt d kc ks (pc) (a0 :: a1 :: a2 :: a3 :: a4 :: a5 :: a6 :: a7 :: a8 :: a9 :: a10 :: a11 :: a12 :: none :: r) (st) n S I J R Q) :
    AW G l y cc ml rt d kc ks (pc) (a0 :: a1 :: a2 :: a3 :: a4 :: a5 :: a6 :: a7 :: a8 :: a9 :: a10 :: a11 :: a12 :: w :: r) (st) n S I J R Q := by
  intro p e Rm s m args below meth c H locs cells slots ls C h1 h2 h3 h4
  refine k _ _ _ _ _ _ _ _ _ _ _ _ _ ls C h1 h2 ⟨h3.1, h3.2.1, fun j v hj => h3.2.2 j v ?_⟩ h4
  by_cases e : j = 13
  · subst e; simp at hj
  · have hh : ∀ (o : Option Value), (a0 :: a1 :: a2 :: a3 :: a4 :: a5 :: a6 :: a7 :: a8 :: a9 :: a10 :: a11 :: a12 :: none :: r)[j]? = ((a0 :: a1 :: a2 :: a3 :: a4 :: a5 :: a6 :: a7 :: a8 :: a9 :: a10 :: a11 :: a12 :: o :: r).set 13 none)[j]? := fun o => rfl
    rw [hh w, List.getElem?_set_ne (Ne.symm e)] at hj
    exact hj
theorem AW_iload_14 {a0 a1 a2 a3 a4 a5 a6 a7 a8 a9 a10 a11 a12 a13 : Option Value} {r : List (Option Value)} {x : Int32} (hd : decode cc pc = .ok (.iload 14, 2)) (k : AW G l y cc ml rt d kc ks (pc + 2) (a0 :: a1 :: a2 :: a3 :: a4 :: a5 :: a6 :: a7 :: a8 :: a9 :: a10 :: a11 :: a12 :: a13 :: some (.int x) :: r) (.int x :: st) n S I J R Q) :
    AW G l y cc ml rt d kc ks (pc) (a0 :: a1 :: a2 :: a3 :: a4 :: a5 :: a6 :: a7 :: a8 :: a9 :: a10 :: a11 :: a12 :: a13 :: some (.int x) :: r) (st) n S I J R Q := by
  intro p e Rm s m args below meth c H locs cells slots ls C h1 h2 h3 h4
  exact lv_iload C.1 C.2.1 hd (h3.2.2 14 _ rfl) (k _ _ _ _ _ _ _ _ _ _ _ _ _ ls C h1 h2 h3 h4)
theorem AW_istore_14 {a0 a1 a2 a3 a4 a5 a6 a7 a8 a9 a10 a11 a12 a13 z : Option Value} {r : List (Option Value)} {x : Int32} (hd : decode cc pc = .ok (.istore 14, 2)) (hm : 14 < ml) (hp : rk_one a13 = true) (k : AW G l y cc ml rt d kc ks (pc + 2) (a0 :: a1 :: a2 :: a3 :: a4 :: a5 :: a6 :: a7 :: a8 :: a9 :: a10 :: a11 :: a12 :: a13 :: some (.int x) :: r) (st) n S I J R Q) :
    AW G l y cc ml rt d kc ks (pc) (a0 :: a1 :: a2 :: a3 :: a4 :: a5 :: a6 :: a7 :: a8 :: a9 :: a10 :: a11 :: a12 :: a13 :: z :: r) (.int x :: st) n S I J R Q := by
  intro p e Rm s m args below meth c H locs cells slots ls C h1 h2 h3 h4
  exact lv_istore C.1 C.2.1 hd (rk_L_has h3) hm rfl (fun ls hl => k _ _ _ _ _ _ _ _ _ _ _ _ _ ls C h1 h2 (rk_L_st1 (v := .int x) hl rfl (fun j w hj hw => by have e : j = 13 := (by omega); subst e; cases hw; exact hp)) h4)
theorem AW_lload_14 {a0 a1 a2 a3 a4 a5 a6 a7 a8 a9 a10 a11 a12 a13 : Option Value} {r : List (Option Value)} {x : Int64} (hd : decode cc pc = .ok (.lload 14, 2)) (k : AW G l y cc ml rt d kc ks (pc + 2) (a0 :: a1 :: a2 :: a3 :: a4 :: a5 :: a6 :: a7 :: a8 :: a9 :: a10 :: a11 :: a12 :: a13 :: some (.long x) :: r) (.long x :: st) n S I J R Q) :
    AW G l y cc ml rt d kc ks (pc) (a0 :: a1 :: a2 :: a3 :: a4 :: a5 :: a6 :: a7 :: a8 :: a9 :: a10 :: a11 :: a12 :: a13 :: some (.long x) :: r) (st) n S I J R Q := by
  intro p e Rm s m args below meth c H locs cells slots ls C h1 h2 h3 h4
  exact lv_lload C.1 C.2.1 hd (h3.2.2 14 _ rfl) (k _ _ _ _ _ _ _ _ _ _ _ _ _ ls C h1 h2 h3 h4)
theorem AW_lstore_14 {a0 a1 a2 a3 a4 a5 a6 a7 a8 a9 a10 a11 a12 a13 z z2 : Option Value} {r : List (Option Value)} {x : Int64} (hd : decode cc pc = .ok (.lstore 14, 2)) (hm : 14 + 1 < ml) (hp : rk_one a13 = true) (k : AW G l y cc ml rt d kc ks (pc + 2) (a0 :: a1 :: a2 :: a3 :: a4 :: a5 :: a6 :: a7 :: a8 :: a9 :: a10 :: a11 :: a12 :: a13 :: some (.long x) :: none :: r) (st) n S I J R Q) :
    AW G l y cc ml rt d kc ks (pc) (a0 :: a1 :: a2 :: a3 :: a4 :: a5 :: a6 :: a7 :: a8 :: a9 :: a10 :: a11 :: a12 :: a13 :: z :: z2 :: r) (.long x :: st) n S I J R Q := by
  intro p e Rm s m args below meth c H locs cells slots ls C h1 h2 h3 h4
  exact lv_lstore C.1 C.2.1 hd (rk_L_has h3) hm rfl (fun ls hl => k _ _ _ _ _ _ _ _ _ _ _ _ _ ls C h1 h2 (rk_L_st2 (v := .long x) hl rfl (fun j w hj hw => by have e : j = 13 := (by omega); subst e; cases hw; exact hp)) h4)
theorem AW_aload_14 {a0 a1 a2 a3 a4 a5 a6 a7 a8 a9 a10 a11 a12 a13 : Option Value} {r : List (Option Value)} {x : Nat} (hd : decode cc pc = .ok (.aload 14, 2)) (k : AW G l y cc ml rt d kc ks (pc + 2) (a0 :: a1 :: a2 :: a3 :: a4 :: a5 :: a6 :: a7 :: a8 :: a9 :: a10 :: a11 :: a12 :: a13 :: some (.ref x) :: r) (.ref x :: st) n S I J R Q) :
    AW G l y cc ml rt d kc ks (pc) (a0 :: a1 :: a2 :: a3 :: a4 :: a5 :: a6 :: a7 :: a8 :: a9 :: a10 :: a11 :: a12 :: a13 :: some (.ref x) :: r) (st) n S I J R Q := by
  intro p e Rm s m args below meth c H locs cells slots ls C h1 h2 h3 h4
  exact lv_aload C.1 C.2.1 hd (h3.2.2 14 _ rfl) (k _ _ _ _ _ _ _ _ _ _ _ _ _ ls C h1 h2 h3 h4)
theorem AW_astore_14 {a0 a1 a2 a3 a4 a5 a6 a7 a8 a9 a10 a11 a12 a13 z : Option Value} {r : List (Option Value)} {x : Nat} (hd : decode cc pc = .ok (.astore 14, 2)) (hm : 14 < ml) (hp : rk_one a13 = true) (k : AW G l y cc ml rt d kc ks (pc + 2) (a0 :: a1 :: a2 :: a3 :: a4 :: a5 :: a6 :: a7 :: a8 :: a9 :: a10 :: a11 :: a12 :: a13 :: some (.ref x) :: r) (st) n S I J R Q) :
    AW G l y cc ml rt d kc ks (pc) (a0 :: a1 :: a2 :: a3 :: a4 :: a5 :: a6 :: a7 :: a8 :: a9 :: a10 :: a11 :: a12 :: a13 :: z :: r) (.ref x :: st) n S I J R Q := by
  intro p e Rm s m args below meth c H locs cells slots ls C h1 h2 h3 h4
  exact lv_astore C.1 C.2.1 hd (rk_L_has h3) hm rfl (fun ls hl => k _ _ _ _ _ _ _ _ _ _ _ _ _ ls C h1 h2 (rk_L_st1 (v := .ref x) hl rfl (fun j w hj hw => by have e : j = 13 := (by omega); subst e; cases hw; exact hp)) h4)
theorem AW_aloadN_14 {a0 a1 a2 a3 a4 a5 a6 a7 a8 a9 a10 a11 a12 a13 : Option Value} {r : List (Option Value)}  (hd : decode cc pc = .ok (.aload 14, 2)) (k : AW G l y cc ml rt d kc ks (pc + 2) (a0 :: a1 :: a2 :: a3 :: a4 :: a5 :: a6 :: a7 :: a8 :: a9 :: a10 :: a11 :: a12 :: a13 :: some (.null) :: r) (.null :: st) n S I J R Q) :
    AW G l y cc ml rt d kc ks (pc) (a0 :: a1 :: a2 :: a3 :: a4 :: a5 :: a6 :: a7 :: a8 :: a9 :: a10 :: a11 :: a12 :: a13 :: some (.null) :: r) (st) n S I J R Q := by
  intro p e Rm s m args below meth c H locs cells slots ls C h1 h2 h3 h4
  exact lv_aloadN C.1 C.2.1 hd (h3.2.2 14 _ rfl) (k _ _ _ _ _ _ _ _ _ _ _ _ _ ls C h1 h2 h3 h4)
theorem AW_astoreN_14 {a0 a1 a2 a3 a4 a5 a6 a7 a8 a9 a10 a11 a12 a13 z : Option Value} {r : List (Option Value)}  (hd : decode cc pc = .ok (.astore 14, 2)) (hm : 14 < ml) (hp : rk_one a13 = true) (k : AW G l y cc ml rt d kc ks (pc + 2) (a0 :: a1 :: a2 :: a3 :: a4 :: a5 :: a6 :: a7 :: a8 :: a9 :: a10 :: a11 :: a12 :: a13 :: some (.null) :: r) (st) n S I J R Q) :
    AW G l y cc ml rt d kc ks (pc) (a0 :: a1 :: a2 :: a3 :: a4 :: a5 :: a6 :: a7 :: a8 :: a9 :: a10 :: a11 :: a12 :: a13 :: z :: r) (.null :: st) n S I J R Q := by
  intro p e Rm s m args below meth c H locs cells slots ls C h1 h2 h3 h4
  exact lv_astoreN C.1 C.2.1 hd (rk_L_has h3) hm rfl (fun ls hl => k _ _ _ _ _ _ _ _ _ _ _ _ _ ls C h1 h2 (rk_L_st1 (v := .null) hl rfl (fun j w hj hw => by have e : j = 13 := (by omega); subst e; cases hw; exact hp)) h4)
theorem AW_iinc_14 {a0 a1 a2 a3 a4 a5 a6 a7 a8 a9 a10 a11 a12 a13 : Option Value} {r : List (Option Value)} {x v : Int32} {q : Int} (hd : decode cc pc = .ok (.iinc 14 q, 3)) (hv : Int32.ofInt q = v) (hm : 14 < ml) (hp : rk_one a13 = true) (k : AW G l y cc ml rt d kc ks (pc + 3) (a0 :: a1 :: a2 :: a3 :: a4 :: a5 :: a6 :: a7 :: a8 :: a9 :: a10 :: a11 :: a12 :: a13 :: some (.int (x + v)) :: r) (st) n S I J R Q) :
    AW G l y cc ml rt d kc ks (pc) (a0 :: a1 :: a2 :: a3 :: a4 :: a5 :: a6 :: a7 :: a8 :: a9 :: a10 :: a11 :: a12 :: a13 :: some (.int x) :: r) (st) n S I J R Q := by
  intro p e Rm s m args below meth c H locs cells slots ls C h1 h2 h3 h4
  subst hv
  obtain ⟨j, hj⟩ := List.getElem?_of_mem (rk_as_mem (ad := G.1) (lv := a0 :: a1 :: a2 :: a3 :: a4 :: a5 :: a6 :: a7 :: a8 :: a9 :: a10 :: a11 :: a12 :: a13 :: some (.int x) :: r) (q := (14, .int x)) |>.mpr ⟨.int x, rfl, rfl⟩)
  exact lv_iinc C.1 C.2.1 hd (rk_L_has h3) hj rfl hm rfl (fun ls hl => k _ _ _ _ _ _ _ _ _ _ _ _ _ ls C h1 h2 (rk_L_st1 (v := .int _) hl rfl (fun j w hj hw => by have e : j = 13 := (by omega); subst e; cases hw; exact hp)) h4)
theorem AW_drop_14 {a0 a1 a2 a3 a4 a5 a6 a7 a8 a9 a10 a11 a12 a13 : Option Value} {r : List (Option Value)} {w : Option Value} (k : AW G l y cc ml rt d kc ks (pc) (a0 :: a1 :: a2 :: a3 :: a4 :: a5 :: a6 :: a7 :: a8 :: a9 :: a10 :: a11 :: a12 :: a13 :: none :: r) (st) n S I J R Q) :
    AW G l y cc ml rt d kc ks (pc) (a0 :: a1 :: a2 :: a3 :: a4 :: a5 :: a6 :: a7 :: a8 :: a9 :: a10 :: a11 :: a12 :: a13 :: w :: r) (st) n S I J R Q := by
  intro p e Rm s m args below meth c H locs cells slots ls C h1 h2 h3 h4
  refine k _ _ _ _ _ _ _ _ _ _ _ _ _ ls C h1 h2 ⟨h3.1, h3.2.1, fun j v hj => h3.2.2 j v ?_⟩ h4
  by_cases e : j = 14
  · subst e; simp at hj
  · have hh : ∀ (o : Option Value), (a0 :: a1 :: a2 :: a3 :: a4 :: a5 :: a6 :: a7 :: a8 :: a9 :: a10 :: a11 :: a12 :: a13 :: none :: r)[j]? = ((a0 :: a1 :: a2 :: a3 :: a4 :: a5 :: a6 :: a7 :: a8 :: a9 :: a10 :: a11 :: a12 :: a13 :: o :: r).set 14 none)[j]? := fun o => rfl
    rw [hh w, List.getElem?_set_ne (Ne.symm e)] at hj
    exact hj
theorem AW_iload_15 {a0 a1 a2 a3 a4 a5 a6 a7 a8 a9 a10 a11 a12 a13 a14 : Option Value} {r : List (Option Value)} {x : Int32} (hd : decode cc pc = .ok (.iload 15, 2)) (k : AW G l y cc ml rt d kc ks (pc + 2) (a0 :: a1 :: a2 :: a3 :: a4 :: a5 :: a6 :: a7 :: a8 :: a9 :: a10 :: a11 :: a12 :: a13 :: a14 :: some (.int x) :: r) (.int x :: st) n S I J R Q) :
    AW G l y cc ml rt d kc ks (pc) (a0 :: a1 :: a2 :: a3 :: a4 :: a5 :: a6 :: a7 :: a8 :: a9 :: a10 :: a11 :: a12 :: a13 :: a14 :: some (.int x) :: r) (st) n S I J R Q := by
  intro p e Rm s m args below meth c H locs cells slots ls C h1 h2 h3 h4
  exact lv_iload C.1 C.2.1 hd (h3.2.2 15 _ rfl) (k _ _ _ _ _ _ _ _ _ _ _ _ _ ls C h1 h2 h3 h4)
theorem AW_istore_15 {a0 a1 a2 a3 a4 a5 a6 a7 a8 a9 a10 a11 a12 a13 a14 z : Option Value} {r : List (Option Value)} {x : Int32} (hd : decode cc pc = .ok (.istore 15, 2)) (hm : 15 < ml) (hp : rk_one a14 = true) (k : AW G l y cc ml rt d kc ks (pc + 2) (a0 :: a1 :: a2 :: a3 :: a4 :: a5 :: a6 :: a7 :: a8 :: a9 :: a10 :: a11 :: a12 :: a13 :: a14 :: some (.int x) :: r) (st) n S I J R Q) :
    AW G l y cc ml rt d kc ks (pc) (a0 :: a1 :: a2 :: a3 :: a4 :: a5 :: a6 :: a7 :: a8 :: a9 :: a10 :: a11 :: a12 :: a13 :: a14 :: z :: r) (.int x :: st) n S I J R Q := by
  intro p e Rm s m args below meth c H locs cells slots ls C h1 h2 h3 h4
  exact lv_istore C.1 C.2.1 hd (rk_L_has h3) hm rfl (fun ls hl => k _ _ _ _ _ _ _ _ _ _ _ _ _ ls C h1 h2 (rk_L_st1 (v := .int x) hl rfl (fun j w hj hw => by have e : j = 14 := (by omega); subst e; cases hw; exact hp)) h4)
theorem AW_lload_15 {a0 a1 a2 a3 a4 a5 a6 a7 a8 a9 a10 a11 a12 a13 a14 : Option Value} {r : List (Option Value)} {x : Int64} (hd : decode cc pc = .ok (.lload 15, 2)) (k : AW G l y cc ml rt d kc ks (pc + 2) (a0 :: a1 :: a2 :: a3 :: a4 :: a5 :: a6 :: a7 :: a8 :: a9 :: a10 :: a11 :: a12 :: a13 :: a14 :: some (.long x) :: r) (.long x :: st) n S I J R Q) :
    AW G l y cc ml rt d kc ks (pc) (a0 :: a1 :: a2 :: a3 :: a4 :: a5 :: a6 :: a7 :: a8 :: a9 :: a10 :: a11 :: a12 :: a13 :: a14 :: some (.long x) :: r) (st) n S I J R Q := by
  intro p e Rm s m args below meth c H locs cells slots ls C h1 h2 h3 h4
  exact lv_lload C.1 C.2.1 hd (h3.2.2 15 _ rfl) (k _ _ _ _ _ _ _ _ _ _ _ _ _ ls C h1 h2 h3 h4)
theorem AW_lstore_15 {a0 a1 a2 a3 a4 a5 a6 a7 a8 a9 a10 a11 a12 a13 a14 z z2 : Option Value} {r : List (Option Value)} {x : Int64} (hd : decode cc pc = .ok (.lstore 15, 2)) (hm : 15 + 1 < ml) (hp : rk_one a14 = true) (k : AW G l y cc ml rt d kc ks (pc + 2) (a0 :: a1 :: a2 :: a3 :: a4 :: a5 :: a6 :: a7 :: a8 :: a9 :: a10 :: a11 :: a12 :: a13 :: a14 :: some (.long x) :: none :: r) (st) n S I J R Q) :
    AW G l y cc ml rt d kc ks (pc) (a0 :: a1 :: a2 :: a3 :: a4 :: a5 :: a6 :: a7 :: a8 :: a9 :: a10 :: a11 :: a12 :: a13 :: a14 :: z :: z2 :: r) (.long x :: st) n S I J R Q := by
  intro p e Rm s m args below meth c H locs cells slots ls C h1 h2 h3 h4
  exact lv_lstore C.1 C.2.1 hd (rk_L_has h3) hm rfl (fun ls hl => k _ _ _ _ _ _ _ _ _ _ _ _ _ ls C h1 h2 (rk_L_st2 (v := .long x) hl rfl (fun j w hj hw => by have e : j = 14 := (by omega); subst e; cases hw; exact hp)) h4)
theorem AW_aload_15 {a0 a1 a2 a3 a4 a5 a6 a7 a8 a9 a10 a11 a12 a13 a14 : Option Value} {r : List (Option Value)} {x : Nat} (hd : decode cc pc = .ok (.aload 15, 2)) (k : AW G l y cc ml rt d kc ks (pc + 2) (a0 :: a1 :: a2 :: a3 :: a4 :: a5 :: a6 :: a7 :: a8 :: a9 :: a10 :: a11 :: a12 :: a13 :: a14 :: some (.ref x) :: r) (.ref x :: st) n S I J R Q) :
    AW G l y cc ml rt d kc ks (pc) (a0 :: a1 :: a2 :: a3 :: a4 :: a5 :: a6 :: a7 :: a8 :: a9 :: a10 :: a11 :: a12 :: a13 :: a14 :: some (.ref x) :: r) (st) n S I J R Q := by
  intro p e Rm s m args below meth c H locs cells slots ls C h1 h2 h3 h4
  exact lv_aload C.1 C.2.1 hd (h3.2.2 15 _ rfl) (k _ _ _ _ _ _ _ _ _ _ _ _ _ ls C h1 h2 h3 h4)
theorem AW_astore_15 {a0 a1 a2 a3 a4 a5 a6 a7 a8 a9 a10 a11 a12 a13 a14 z : Option Value} {r : List (Option Value)} {x : Nat} (hd : decode cc pc = .ok (.astore 15, 2)) (hm : 15 < ml) (hp : rk_one a14 = true) (k : AW G l y cc ml rt d kc ks (pc + 2) (a0 :: a1 :: a2 :: a3 :: a4 :: a5 :: a6 :: a7 :: a8 :: a9 :: a10 :: a11 :: a12 :: a13 :: a14 :: some (.ref x) :: r) (st) n S I J R Q) :
    AW G l y cc ml rt d kc ks (pc) (a0 :: a1 :: a2 :: a3 :: a4 :: a5 :: a6 :: a7 :: a8 :: a9 :: a10 :: a11 :: a12 :: a13 :: a14 :: z :: r) (.ref x :: st) n S I J R Q := by
  intro p e Rm s m args below meth c H locs cells slots ls C h1 h2 h3 h4
  exact lv_astore C.1 C.2.1 hd (rk_L_has h3) hm rfl (fun ls hl => k _ _ _ _ _ _ _ _ _ _ _ _ _ ls C h1 h2 (rk_L_st1 (v := .ref x) hl rfl (fun j w hj hw => by have e : j = 14 := (by omega); subst e; cases hw; exact hp)) h4)
theorem AW_aloadN_15 {a0 a1 a2 a3 a4 a5 a6 a7 a8 a9 a10 a11 a12 a13 a14 : Option Value} {r : List (Option Value)}  (hd : decode cc pc = .ok (.aload 15, 2)) (k : AW G l y cc ml rt d kc ks (pc + 2) (a0 :: a1 :: a2 :: a3 :: a4 :: a5 :: a6 :: a7 :: a8 :: a9 :: a10 :: a11 :: a12 :: a13 :: a14 :: some (.null) :: r) (.null :: st) n S I J R Q) :
    AW G l y cc ml rt d kc ks (pc) (a0 :: a1 :: a2 :: a3 :: a4 :: a5 :: a6 :: a7 :: a8 :: a9 :: a10 :: a11 :: a12 :: a13 :: a14 :: some (.null) :: r) (st) n S I J R Q := by
  intro p e Rm s m args below meth c H locs cells slots ls C h1 h2 h3 h4
  exact lv_aloadN C.1 C.2.1 hd (h3.2.2 15 _ rfl) (k _ _ _ _ _ _ _ _ _ _ _ _ _ ls C h1 h2 h3 h4)
theorem AW_astoreN_15 {a0 a1 a2 a3 a4 a5 a6 a7 a8 a9 a10 a11 a12 a13 a14 z : Option Value} {r : List (Option Value)}  (hd : decode cc pc = .ok (.astore 15, 2)) (hm : 15 < ml) (hp : rk_one a14 = true) (k : AW G l y cc ml rt d kc ks (pc + 2) (a0 :: a1 :: a2 :: a3 :: a4 :: a5 :: a6 :: a7 :: a8 :: a9 :: a10 :: a11 :: a12 :: a13 :: a14 :: some (.null) :: r) (st) n S I J R Q) :
    AW G l y cc ml rt d kc ks (pc) (a0 :: a1 :: a2 :: a3 :: a4 :: a5 :: a6 :: a7 :: a8 :: a9 :: a10 :: a11 :: a12 :: a13 :: a14 :: z :: r) (.null :: st) n S I J R Q := by
  intro p e Rm s m args below meth c H locs cells slots ls C h1 h2 h3 h4
  exact lv_astoreN C.1 C.2.1 hd (rk_L_has h3) hm rfl (fun ls hl => k _ _ _ _ _ _ _ _ _ _ _ _ _ ls C h1 h2 (rk_L_st1 (v := .null) hl rfl (fun j w hj hw => by have e : j = 14 := (by omega); subst e; cases hw; exact hp)) h4)
theorem AW_iinc_15 {a0 a1 a2 a3 a4 a5 a6 a7 a8 a9 a10 a11 a12 a13 a14 : Option Value} {r : List (Option Value)} {x v : Int32} {q : Int} (hd : decode cc pc = .ok (.iinc 15 q, 3)) (hv : Int32.ofInt q = v) (hm : 15 < ml) (hp : rk_one a14 = true) (k : AW G l y cc ml rt d kc ks (pc + 3) (a0 :: a1 :: a2 :: a3 :: a4 :: a5 :: a6 :: a7 :: a8 :: a9 :: a10 :: a11 :: a12 :: a13 :: a14 :: some (.int (x + v)) :: r) (st) n S I J R Q) :
    AW G l y cc ml rt d kc ks (pc) (a0 :: a1 :: a2 :: a3 :: a4 :: a5 :: a6 :: a7 :: a8 :: a9 :: a10 :: a11 :: a12 :: a13 :: a14 :: some (.int x) :: r) (st) n S I J R Q := by
  intro p e Rm s m args below meth c H locs cells slots ls C h1 h2 h3 h4
  subst hv
  obtain ⟨j, hj⟩ := List.getElem?_of_mem (rk_as_mem (ad := G.1) (lv := a0 :: a1 :: a2 :: a3 :: a4 :: a5 :: a6 :: a7 :: a8 :: a9 :: a10 :: a11 :: a12 :: a13 :: a14 :: some (.int x) :: r) (q := (15, .int x)) |>.mpr ⟨.int x, rfl, rfl⟩)
  exact lv_iinc C.1 C.2.1 hd (rk_L_has h3) hj rfl hm rfl (fun ls hl => k _ _ _ _ _ _ _ _ _ _ _ _ _ ls C h1 h2 (rk_L_st1 (v := .int _) hl rfl (fun j w hj hw => by have e : j = 14 := (by omega); subst e; cases hw; exact hp)) h4)
theorem AW_drop_15 {a0 a1 a2 a3 a4 a5 a6 a7 a8 a9 a10 a11 a12 a13 a14 : Option Value} {r : List (Option Value)} {w : Option Value} (k : AW G l y cc ml rt d kc ks (pc) (a0 :: a1 :: a2 :: a3 :: a4 :: a5 :: a6 :: a7 :: a8 :: a9 :: a10 :: a11 :: a12 :: a13 :: a14 :: none :: r) (st) n S I J R Q) :
    AW G l y cc ml rt d kc ks (pc) (a0 :: a1 :: a2 :: a3 :: a4 :: a5 :: a6 :: a7 :: a8 :: a9 :: a10 :: a11 :: a12 :: a13 :: a14 :: w :: r) (st) n S I J R Q := by
  intro p e Rm s m args below meth c H locs cells slots ls C h1 h2 h3 h4
  refine k _ _ _ _ _ _ _ _ _ _ _ _ _ ls C h1 h2 ⟨h3.1, h3.2.1, fun j v hj => h3.2.2 j v ?_⟩ h4
  by_cases e : j = 15
  · subst e; simp at hj
  · have hh : ∀ (o : Option Value), (a0 :: a1 :: a2 :: a3 :: a4 :: a5 :: a6 :: a7 :: a8 :: a9 :: a10 :: a11 :: a12 :: a13 :: a14 :: none :: r)[j]? = ((a0 :: a1 :: a2 :: a3 :: a4 :: a5 :: a6 :: a7 :: a8 :: a9 :: a10 :: a11 :: a12 :: a13 :: a14 :: o :: r).set 15 none)[j]? := fun o => rfl
    rw [hh w, List.getElem?_set_ne (Ne.symm e)] at hj
    exact hj
end RK
