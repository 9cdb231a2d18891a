/-! THE STORE: a flat, typed picture of all cells that the law's run has made. Cell k (from 0 on, in the order of making) lies at address ad k = b + k. S k = (tag, size): tag below 20: an object of class number tag (of vwCl); 20 int row, 21 boolean row, 22.. rows of references. I, J, R: the ints, longs, references of cell k by slot or place. -/
def rk_isArr : Cond → Bool
  | .arrayClass _ => true
  | _ => false
def lw_ok (w : Cond) : Bool := (w.onTables && w.keeps) || rk_isArr w
/-- the tables' words that a callee may ask again -/
def lw_tk : List Cond := lw_tbl.filter lw_ok
theorem rk_tk {w : Cond} (i : Nat) (h : tables_1[i]? = some w) (h2 : lw_ok w = true) : w ∈ lw_tk := List.mem_filter.mpr ⟨List.mem_append_right _ (List.mem_of_getElem? h), h2⟩
abbrev rk_Sh : Type := Nat → Nat × Nat
abbrev rk_I : Type := Nat → Nat → Int32
abbrev rk_J : Type := Nat → Nat → Int64
abbrev rk_R : Type := Nat → Nat → Option Nat
/-- what stays the same all along: the addresses, the first cell's address, class numbers, slots, array classes -/
abbrev rk_G : Type := (Nat → Nat) × Nat × (Nat → ClassId) × (Nat → Nat → Nat) × (Nat → ClassId) × Nat × (Nat → Int32)
abbrev rk_Q : Type := Option Value → Nat → rk_Sh → rk_I → rk_J → rk_R → Prop
def rk_v (ad : Nat → Nat) : Value → Value
  | .ref k => .ref (ad k)
  | v => v
/-- of which sort a field is: 0 an int, 1 a long, 2 a reference -/
def rk_sort : FieldType → Nat
  | .long => 1
  | .object _ => 2
  | .array _ => 2
  | _ => 0
def rk_ty : Nat → Nat → FieldType
  | 0 => tyX0
  | 1 => tyX1
  | 2 => tyX2
  | 3 => tyX3
  | 4 => tyX4
  | 5 => tyX5
  | 6 => tyX6
  | 7 => tyX7
  | 8 => tyX9
  | _ => tyX10
def rk_fv (ad : Nat → Nat) (I : rk_I) (J : rk_J) (R : rk_R) (k : Nat) (sort i : Nat) : Value := match sort with
  | 0 => .int (I k i)
  | 1 => .long (J k i)
  | _ => va_rf ((R k i).map ad)
def rk_fs (ad : Nat → Nat) (S : rk_Sh) (I : rk_I) (J : rk_J) (R : rk_R) (k : Nat) : List Value := (List.range (S k).2).map (fun i => rk_fv ad I J R k (rk_sort (rk_ty (S k).1 i)) i)
def rk_cell (G : rk_G) (S : rk_Sh) (I : rk_I) (J : rk_J) (R : rk_R) (k : Nat) : va_E :=
  if (S k).1 < 20 then .inr ((S k).1, rk_fs G.1 S I J R k)
  else if (S k).1 < 22 then .inl (G.2.2.2.2.1 (S k).1, (S k).2, .inl (I k))
  else .inl (G.2.2.2.2.1 (S k).1, (S k).2, .inr (.inr (.inr (.inr (fun i => (R k i).map G.1)))))
def rk_ws (G : rk_G) (n : Nat) (S : rk_Sh) (I : rk_I) (J : rk_J) (R : rk_R) : va_W := (List.range n).map (fun k => (G.1 k, rk_cell G S I J R k))
abbrev rk_D (G : rk_G) : va_G := (G.2.2.1, G.2.2.2.1)
abbrev rk_A (G : rk_G) : Nat → Prop := fun q => G.2.1 ≤ q
def rk_tys (G : rk_G) : List (ClassId × FieldType) := [(G.2.2.2.2.1 20, .int), (G.2.2.2.2.1 21, .boolean), (G.2.2.2.2.1 22, .object RX0), (G.2.2.2.2.1 23, .object RX5), (G.2.2.2.2.1 24, .object RX7), (G.2.2.2.2.1 25, .object RX6)]
/-- the addresses: the cells made lie one behind another; keys from 1000000 on name old cells -/
def rk_ok (G : rk_G) : Prop := (∀ k, k < 1000000 → G.1 k = G.2.1 + k) ∧ ∀ k, 1000000 ≤ k → k ≠ 1000008 → G.1 k < G.2.1
def rk_At (G : rk_G) (n : Nat) (S : rk_Sh) (I : rk_I) (J : rk_J) (R : rk_R) (H : Heap) : Prop := va_P (rk_D G) vwCl (rk_ws G n S I J R) H ∧ H.size = G.2.1 + n ∧ n ≤ 900000 ∧ ∀ k, n ≤ k → (S k).1 = 99
/-- the class's strings, by place: their lengths and bytes -/
def rk_len : List Nat := [45, 57, 8]
def rk_by0 : List Int32 := [108, 97, 116, 101, 32, 48, 32, 60, 32, 104, 111, 117, 114, 32, 45, 32, 53, 48, 32, 59, 32, 99, 117, 116, 32, 48, 32, 59, 32, 115, 116, 111, 112, 32, 104, 111, 117, 114, 32, 60, 32, 50, 48, 32, 59]
def rk_by1 : List Int32 := [107, 105, 110, 100, 32, 104, 111, 117, 114, 32, 112, 114, 105, 99, 101, 32, 97, 109, 111, 117, 110, 116, 32, 112, 97, 105, 100, 32, 100, 117, 101, 32, 111, 114, 32, 97, 110, 100, 32, 110, 111, 116, 32, 108, 97, 116, 101, 32, 99, 117, 116, 32, 115, 116, 111, 112, 32]
def rk_by2 : List Int32 := [40, 41, 59, 43, 45, 42, 60, 61]
def rk_byt : List (List Int32) := [rk_by0, rk_by1, rk_by2]
def rk_und : Nat → Int32 := fun k => ([-1, 0, 0, 1, 2, 3] : List Int32).getD k 0
def rk_nest (i : Nat) (c : String) : Cond := .methodLinkNest "RailCargo" i ⟨c, "<init>", "()V"⟩ "RailCargo"
/-- words that are kept by rows of their own -/
def rk_nw : List Cond := [rk_nest 29 "RailCargo$Reader", rk_nest 36 "RailCargo$Reckoner", rk_nest 43 "RailCargo$Ledger", rk_nest 50 "RailCargo$Rings", rk_nest 65 "RailCargo$Sheet", .castable "[I" "java/lang/Cloneable", .arrayOver (.object "RailCargo$Cargo"), .arrayOver (.object "RailCargo$Sale"), .arrayOver (.object "RailCargo$Text"), .arrayOver (.object "RailCargo$Sheet")]
theorem rk_nw_warm {s U : State} (hW : s.WarmedH U.vm) {w : Cond} (hw : w ∈ rk_nw) (h : va_Nw w s) : va_Nw w U := by
  simp only [rk_nw, List.mem_cons, List.not_mem_nil, or_false] at hw
  rcases hw with rfl | rfl | rfl | rfl | rfl | rfl | rfl | rfl | rfl | rfl
  · exact va_Nw.warmM hW h
  · exact va_Nw.warmM hW h
  · exact va_Nw.warmM hW h
  · exact va_Nw.warmM hW h
  · exact va_Nw.warmM hW h
  · exact va_Nw.warmC hW h
  · exact va_AO.moved hW.alike h
  · exact va_AO.moved hW.alike h
  · exact va_AO.moved hW.alike h
  · exact va_AO.moved hW.alike h
theorem rk_nw_same {u U : State} (hv : u.vm = U.vm) {w : Cond} (hw : w ∈ rk_nw) (h : va_Nw w u) : va_Nw w U := by
  simp only [rk_nw, List.mem_cons, List.not_mem_nil, or_false] at hw
  have hal : u.vm.Alike U.vm := by rw [hv]; exact Vm.Alike.refl _
  rcases hw with rfl | rfl | rfl | rfl | rfl | rfl | rfl | rfl | rfl | rfl
  · exact va_Nw.same rfl hv h
  · exact va_Nw.same rfl hv h
  · exact va_Nw.same rfl hv h
  · exact va_Nw.same rfl hv h
  · exact va_Nw.same rfl hv h
  · exact va_Nw.same rfl hv h
  · exact va_AO.moved hal h
  · exact va_AO.moved hal h
  · exact va_AO.moved hal h
  · exact va_AO.moved hal h
/-- what the start says of old cells and statics: keys 1000000 the script, 1000001 + 2 i, 1000002 + 2 i a string and its bytes, 1000007 the row UNDER, 1000008 what SIOOBE_FORMATTER holds, where it is no null -/
def rk_Y (G : rk_G) (s : State) : Prop :=
  va_X (G.1 1000000) G.2.2.2.2.2.1 G.2.2.2.2.2.2 s s.heap ∧ va_Z "java/lang/String" "COMPACT_STRINGS" "Z" (.int 1) (rk_A G) s s.heap ∧ va_Z "RailCargo" "UNDER" "[I" (.ref (G.1 1000007)) (rk_A G) s s.heap ∧ va_T .int (G.1 1000007) 6 (fun j => .int (rk_und j)) (rk_A G) s s.heap ∧
  (∃ q : Option Nat, (∀ z, q = some z → z = 1000008) ∧ va_Z "jdk/internal/util/Preconditions" "SIOOBE_FORMATTER" "Ljava/util/function/BiFunction;" (va_rf (q.map G.1)) (rk_A G) s s.heap) ∧
  vk_S 3 rk_len rk_byt (fun i => G.1 (1000001 + 2 * i)) (fun i => G.1 (1000002 + 2 * i)) (rk_A G) s s.heap ∧
  vk_R "RailCargo" 66 "late 0 < hour - 50 ; cut 0 ; stop hour < 20 ;" (G.1 1000001) s ∧ vk_R "RailCargo$Reader" 105 "kind hour price amount paid due or and not late cut stop " (G.1 1000003) s ∧ vk_R "RailCargo$Reader" 98 "();+-*<=" (G.1 1000005) s ∧
  G.2.1 ≤ s.heap.size ∧ G.1 1000000 < G.2.1 ∧ G.1 1000007 < G.2.1 ∧ ∀ w ∈ rk_nw, va_Nw w s
theorem rk_Y_warm {G : rk_G} {s U : State} (hW : s.WarmedH U.vm) (hz : G.2.1 ≤ U.heap.size) (hq : ∀ q : Nat, q < G.2.1 → U.heap[q]? = s.heap[q]?) (h : rk_Y G s) : rk_Y G U := by
  obtain ⟨h1, h2, h3, h4, ⟨q, hq0, h5⟩, h6, h7, h8, h9, h10, h11, h12, h13⟩ := h
  have hk : ∀ a : Nat, a < s.heap.size → ¬ rk_A G a → U.heap[a]? = s.heap[a]? := fun a _ ha => hq a (Nat.not_le.mp ha)
  have hal := hW.alike
  exact ⟨(h1.moved hal).kept (hq _ h11), (h2.moved hal).kept hk, (h3.moved hal).kept hk, (h4.moved hal).kept hk, ⟨q, hq0, (h5.moved hal).kept hk⟩, (h6.moved hal).kept hk, h7.warm hW, h8.warm hW, h9.warm hW, hz, h11, h12, fun w hw => rk_nw_warm hW hw (h13 w hw)⟩
theorem rk_Y_same {G : rk_G} {u U : State} (hv : U.vm = u.vm) (hh : U.heap = u.heap) (h : rk_Y G u) : rk_Y G U := by
  obtain ⟨h1, h2, h3, h4, ⟨q, hq0, h5⟩, h6, h7, h8, h9, h10, h11, h12, h13⟩ := h
  have hal : u.vm.Alike U.vm := by rw [hv]; exact Vm.Alike.refl _
  exact ⟨by rw [hh]; exact h1.moved hal, by rw [hh]; exact h2.moved hal, by rw [hh]; exact h3.moved hal, by rw [hh]; exact h4.moved hal, ⟨q, hq0, by rw [hh]; exact h5.moved hal⟩, by rw [hh]; exact h6.moved hal, h7.same hv, h8.same hv, h9.same hv, by rw [hh]; exact h10, h11, h12, fun w hw => rk_nw_same hv.symm hw (h13 w hw)⟩
def rk_Cx (G : rk_G) (y : MethodName) (cc : ByteArray) (ml : Nat) (rt : Option FieldType) (d : Nat) (p : Program) (Rm : Room) (s : State) (m : MethodId) (args : Array Value) (meth : Method) (c : Code) : Prop :=
  p.tables.exec = Jvm.exec ∧ c.code = cc ∧ meth.sig.returnType = rt ∧ c.maxLocals = ml ∧ s.vm.findClass y.cls = some m.cls ∧ (∀ w ∈ lw_tk, w.before args s = true) ∧ meth.locks = false ∧ va_K (rk_D G) vwCl (rk_tys G) s ∧ G.2.1 ≤ s.heap.size ∧ meth.name = y.name ∧ d ≤ Rm.frames ∧ 64 * d ≤ Rm.locals ∧ rk_ok G ∧ rk_Y G s
def rk_L (ad : Nat → Nat) (ml : Nat) (lv : List (Option Value)) (ls : Array Slot) : Prop := ls.size = ml ∧ lv_wf ls ∧ ∀ (i : Nat) (v : Value), lv[i]? = some (some v) → ls[i]? = some (.val (rk_v ad v))
/-- how a method ends: its answer and the store behind it -/
def rk_Qc (G : rk_G) (Q : rk_Q) : Array Value → State → Outcome → State → Prop := fun _ s o t => (∃ (v : Option Value) (n : Nat) (S : rk_Sh) (I : rk_I) (J : rk_J) (R : rk_R), o = .returned (v.map (rk_v G.1)) ∧ Q v n S I J R ∧ rk_At G n S I J R t.heap) ∧ va_F (rk_A G) s t
/-- THE WALK'S JUDGEMENT: from this place of method y, with these locals, stack and store, the method returns, and Q holds of answer and store; at most kc cells of ks slots come; at most d frames above -/
def AW (G : rk_G) (l : Launch) (y : MethodName) (cc : ByteArray) (ml : Nat) (rt : Option FieldType) (d kc ks pc : Nat) (lv : List (Option Value)) (st : List Value) (n : Nat) (S : rk_Sh) (I : rk_I) (J : rk_J) (R : rk_R) (Q : rk_Q) : Prop :=
  ∀ (p : Program) (e : Env) (Rm : Room) (s : State) (m : MethodId) (args : Array Value) (below : List Frame) (meth : Method) (c : Code) (H : Heap) (locs : List Loc) (cells slots : Nat) (ls : Array Slot),
    rk_Cx G y cc ml rt d p Rm s m args meth c → rk_At G n S I J R H → va_S (rk_A G) s.heap H locs → rk_L G.1 ml lv ls → cells + kc ≤ Rm.cells ∧ slots + ks ≤ Rm.slots →
    W p l e Rm s m args below meth c H locs cells slots (MQ below (rk_Qc G Q) args s (cells + kc) (slots + ks) (rk_A G)) (F0 m pc ls (st.map (rk_v G.1)))
abbrev rk_rm (d kc ks : Nat) : Room := { frames := d, cells := kc, slots := ks, locals := 64 * d }
def rk_Pc (G : rk_G) (as : List Value) (n : Nat) (S : rk_Sh) (I : rk_I) (J : rk_J) (R : rk_R) : Array Value → State → Prop := fun v U => v = (as.map (rk_v G.1)).toArray ∧ va_K (rk_D G) vwCl (rk_tys G) U ∧ rk_At G n S I J R U.heap ∧ rk_ok G ∧ rk_Y G U
/-- THE CALL'S JUDGEMENT: method y, called with these arguments over this store -/
def CW (G : rk_G) (l : Launch) (y : MethodName) (cc : ByteArray) (ml : Nat) (rt : Option FieldType) (d kc ks : Nat) (as : List Value) (n : Nat) (S : rk_Sh) (I : rk_I) (J : rk_J) (R : rk_R) (Q : rk_Q) : Prop :=
  Met l y (Cond.code y cc ml rt :: lw_tk) (rk_rm d kc ks) (rk_Pc G as n S I J R) (rk_Qc G Q) kc ks (rk_A G)
/-- the arguments as locals -/
def rk_ent : List Value → List (Option Value)
  | [] => []
  | v :: vs => if v.category = 2 then some v :: none :: rk_ent vs else some v :: rk_ent vs
theorem rk_cat (ad : Nat → Nat) (v : Value) : (rk_v ad v).category = v.category := by cases v <;> rfl
theorem rk_at_lt {G : rk_G} {n : Nat} {S : rk_Sh} {I : rk_I} {J : rk_J} {R : rk_R} {k : Nat} (h : k < n) : (rk_ws G n S I J R)[k]? = some (G.1 k, rk_cell G S I J R k) := by
  unfold rk_ws
  rw [List.getElem?_map, List.getElem?_range h]
  rfl
theorem rk_at_inv {G : rk_G} {n : Nat} {S : rk_Sh} {I : rk_I} {J : rk_J} {R : rk_R} {k : Nat} {q : Nat × va_E} (h : (rk_ws G n S I J R)[k]? = some q) : k < n ∧ q = (G.1 k, rk_cell G S I J R k) := by
  have hk : k < n := by
    have := (List.getElem?_eq_some_iff.mp h).1
    simpa [rk_ws] using this
  rw [rk_at_lt hk] at h
  exact ⟨hk, (Option.some.inj h).symm⟩
theorem rk_D_ok {G : rk_G} {n : Nat} {S : rk_Sh} {I : rk_I} {J : rk_J} {R : rk_R} (hG : rk_ok G) (hn : n ≤ 900000) : va_D (rk_A G) (rk_ws G n S I J R) := by
  refine ⟨fun i j p q hi hj hpq => ?_, fun k q hk => ?_⟩
  · obtain ⟨h1, rfl⟩ := rk_at_inv hi
    obtain ⟨h2, rfl⟩ := rk_at_inv hj
    have e1 := hG.1 i (by omega)
    have e2 := hG.1 j (by omega)
    have : G.1 i = G.1 j := hpq
    omega
  · obtain ⟨h1, rfl⟩ := rk_at_inv hk
    have e1 := hG.1 k (by omega)
    show G.2.1 ≤ G.1 k
    omega
/-- a cell changes -/
theorem rk_ws_set {G : rk_G} {n : Nat} {S : rk_Sh} {I I' : rk_I} {J J' : rk_J} {R R' : rk_R} {k : Nat} {e : va_E} (he : rk_cell G S I' J' R' k = e) (ho : ∀ j, j ≠ k → I' j = I j ∧ J' j = J j ∧ R' j = R j) : (rk_ws G n S I J R).set k (G.1 k, e) = rk_ws G n S I' J' R' := by
  apply List.ext_getElem?
  intro j
  by_cases hj : j = k
  · subst hj
    by_cases hl : j < n
    · rw [List.getElem?_set_self (by simpa [rk_ws] using hl), rk_at_lt hl, he]
    · have h1 : n ≤ j := by omega
      rw [List.getElem?_eq_none (by simpa [rk_ws] using h1), List.getElem?_eq_none (by simpa [rk_ws] using h1)]
  · rw [List.getElem?_set_ne (Ne.symm hj)]
    by_cases hl : j < n
    · rw [rk_at_lt hl, rk_at_lt hl]
      obtain ⟨h1, h2, h3⟩ := ho j hj
      have : rk_cell G S I' J' R' j = rk_cell G S I J R j := by
        unfold rk_cell rk_fs rk_fv
        rw [h1, h2, h3]
      rw [this]
    · have h1 : n ≤ j := by omega
      rw [List.getElem?_eq_none (by simpa [rk_ws] using h1), List.getElem?_eq_none (by simpa [rk_ws] using h1)]
/-- a cell comes -/
theorem rk_ws_push {G : rk_G} {n : Nat} {S S' : rk_Sh} {I I' : rk_I} {J J' : rk_J} {R R' : rk_R} {e : va_E} (he : rk_cell G S' I' J' R' n = e) (ho : ∀ j, j < n → S' j = S j ∧ I' j = I j ∧ J' j = J j ∧ R' j = R j) : rk_ws G n S I J R ++ [(G.1 n, e)] = rk_ws G (n + 1) S' I' J' R' := by
  unfold rk_ws
  rw [List.range_succ, List.map_append, List.map_singleton, he]
  congr 1
  refine List.map_congr_left (fun j hj => ?_)
  obtain ⟨h0, h1, h2, h3⟩ := ho j (List.mem_range.mp hj)
  have : rk_cell G S' I' J' R' j = rk_cell G S I J R j := by
    unfold rk_cell rk_fs rk_fv
    rw [h0, h1, h2, h3]
  rw [this]
/-- what of an int, long or reference changes at one place of one cell -/
def rk_ui (I : rk_I) (k i : Nat) (x : Int32) : rk_I := fun k' i' => if k' = k then (if i' = i then x else I k' i') else I k' i'
def rk_uj (J : rk_J) (k i : Nat) (x : Int64) : rk_J := fun k' i' => if k' = k then (if i' = i then x else J k' i') else J k' i'
def rk_ur (R : rk_R) (k i : Nat) (x : Option Nat) : rk_R := fun k' i' => if k' = k then (if i' = i then x else R k' i') else R k' i'
theorem rk_ui_o {I : rk_I} {k i : Nat} {x : Int32} {j : Nat} (h : j ≠ k) : rk_ui I k i x j = I j := by funext a; simp [rk_ui, h]
theorem rk_uj_o {J : rk_J} {k i : Nat} {x : Int64} {j : Nat} (h : j ≠ k) : rk_uj J k i x j = J j := by funext a; simp [rk_uj, h]
theorem rk_ur_o {R : rk_R} {k i : Nat} {x : Option Nat} {j : Nat} (h : j ≠ k) : rk_ur R k i x j = R j := by funext a; simp [rk_ur, h]
