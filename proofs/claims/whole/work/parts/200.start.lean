/-! THE CLAIM OUT OF ONE WALK OF THE LAW'S BODY. Your part is whole_start (and what it stands on); all else here is the same for every law, but numbers. -/
def R_law : String := "RailCargoLaw"
def lw_P (b : Addr) (xs : List Int32) (args : Array Value) (s : State) : Prop := args = #[.ref b] ∧ s.IntsAt b xs ∧ xs.length ≤ 3072 ∧ (Jvm.Cond.and given_1 narrow_1).before args s = true
def lw_Q (_ : Array Value) (s : State) (o : Outcome) (t : State) : Prop := o = .returned (some (.int 1)) ∧ Framed s o t [] 704046 6990111
def lw_Z (below : List Frame) (a : Array Value) (s : State) : State → Prop := fun t => ∃ o, t.status = .running ∧ Ended t below o ∧ lw_Q a s o t
/-- the law's own end, with 1 on the stack, nothing written that was there before, its room as the claim has it -/
theorem lw_ret {p : Program} {l : Launch} {e : Env} {s : State} {m : MethodId} {below : List Frame} {meth : Method} {c : Code} {b : Nat} (hx : p.tables.exec = Jvm.exec) (hb : c.code = code) (hr : meth.sig.returnType = ret) (hlocks : meth.locks = false) {pc : Nat} {H : Heap} {ls : Array Slot} (hdg : decode code pc = .ok (.ireturn, 1)) : W p l e room_1 s m #[Value.ref b] below meth c H [] 704046 6990111 (lw_Z below #[Value.ref b] s) (F0 m pc ls [.int 1]) := by
  intro T hT X
  obtain ⟨fs, hret, hrun, hended, hW, hframe⟩ := X.leave (v := some (.int 1)) (hlocks := hlocks) (fun h => by rw [hr] at h; cases h)
  have hmeth' : T.vm.method? m = some meth := X.method'
  refine ⟨T.setFrames fs, ?_, .returned (some (.int 1)), hrun, hended, rfl, ⟨_, rfl⟩, hW, hframe⟩
  jvm_step X.here [X.here.top, hx, hb, hdg, hmeth', hr, ret, narrow_b1]
  (try refine ⟨rfl, ?_⟩); (try refine ⟨rfl, ?_⟩)
  first | (intro acts; rw [hret _ acts rfl rfl rfl]) | rw [hret _ _ rfl rfl rfl]
  exact Steps.refl _
/-- what holds at the law's entry: the machine, the code, the tables' words (any of lw_tbl by 'hts w (by decide +kernel)'), the script of L ints xs at the cell b, what the Statement gives of the start (any of its parts by flat_of_before) -/
def lw_At (p : Program) (s : State) (m : MethodId) (meth : Method) (c : Code) (b L : Nat) (xs : Nat → Int32) : Prop :=
  p.tables.exec = Jvm.exec ∧ c.code = code ∧ meth.sig.returnType = ret ∧ c.maxLocals = 4 ∧ s.vm.findClass R_law = some m.cls ∧ (∀ w ∈ lw_tbl, w.before #[Value.ref b] s = true) ∧ va_X b L xs s s.heap ∧ b < s.heap.size ∧ meth.locks = false ∧ (Jvm.Cond.and given_1 narrow_1).before #[Value.ref b] s = true
theorem rk_tb {w : Cond} (i : Nat) (h : tables_1[i]? = some w) : w ∈ lw_tbl := List.mem_append_right _ (List.mem_of_getElem? h)
theorem rk_tyI {s : State} {args : Array Value} {ty : FieldType} (h : (Cond.arrayClass ty).before args s = true) : ∃ cA, ArrOfT s cA ty ∧ s.vm.findClass ("[" ++ ty.toString) = some cA := by
  obtain ⟨c, k, comp, h1, h2, h3⟩ := Cond.arrayClass_spec h
  exact ⟨c, fun n z => ⟨fun _ h => (by cases h), k, h2, comp, h3⟩, h1⟩
theorem rk_tyO {s : State} {args : Array Value} {C : String} (h : (Cond.arrayOver (.object C)).before args s = true) : ∃ cA, ArrOfT s cA (.object C) ∧ va_RA s cA (.object C) := by
  obtain ⟨comp, c, k, h1, h2, h3, h4, h5⟩ := Cond.arrayOver_spec h
  exact ⟨c, fun n z => ⟨fun _ h => (by cases h), k, h3, comp, h4⟩, k, comp, h3, h4, h1, h5⟩
theorem rk_start {p : Program} {s : State} {m : MethodId} {meth : Method} {c : Code} {b L : Nat} {xs : Nat → Int32} (C0 : lw_At p s m meth c b L xs) : ∃ G : rk_G, rk_ok G ∧ G.2.1 = s.heap.size ∧ G.2.2.2.2.2 = (L, xs) ∧ G.1 1000000 = b ∧ va_K (rk_D G) vwCl (rk_tys G) s ∧ rk_Y G s := by
  obtain ⟨hx, hb, hr, hml, hown, hts, hX, hbl, hlocks, hgv⟩ := id C0
  have htk : ∀ w ∈ lw_tk, w.before #[Value.ref b] s = true := fun w hw => hts w (List.mem_filter.mp hw).1
  have hg := flat_of_before _ hgv
  have hA : ∀ a : Nat, a < s.heap.size → ¬ (fun q : Nat => s.heap.size ≤ q) a := fun a h => Nat.not_le.mpr h
  obtain ⟨c0, iS0, hKn0⟩ := u_known (C := RX0) (T := TX0) (N := 5) (n := 5) htk ki_X0 (hts (.instantiable RX0 5) (rk_tb 439 (by decide +kernel)))
  obtain ⟨c1, iS1, hKn1⟩ := u_known (C := RX1) (T := TX1) (N := 5) (n := 5) htk ki_X1 (hts (.instantiable RX1 5) (rk_tb 87 (by decide +kernel)))
  obtain ⟨c2, iS2, hKn2⟩ := u_known (C := RX2) (T := TX2) (N := 10) (n := 10) htk ki_X2 (hts (.instantiable RX2 10) (rk_tb 35 (by decide +kernel)))
  obtain ⟨c3, iS3, hKn3⟩ := u_known (C := RX3) (T := TX3) (N := 2) (n := 2) htk ki_X3 (hts (.instantiable RX3 2) (rk_tb 74 (by decide +kernel)))
  obtain ⟨c4, iS4, hKn4⟩ := u_known (C := RX4) (T := TX4) (N := 4) (n := 4) htk ki_X4 (hts (.instantiable RX4 4) (rk_tb 111 (by decide +kernel)))
  obtain ⟨c5, iS5, hKn5⟩ := u_known (C := RX5) (T := TX5) (N := 11) (n := 11) htk ki_X5 (hts (.instantiable RX5 11) (rk_tb 487 (by decide +kernel)))
  obtain ⟨c6, iS6, hKn6⟩ := u_known (C := RX6) (T := TX6) (N := 3) (n := 3) htk ki_X6 (hts (.instantiable RX6 3) (rk_tb 131 (by decide +kernel)))
  obtain ⟨c7, iS7, hKn7⟩ := u_known (C := RX7) (T := TX7) (N := 2) (n := 2) htk ki_X7 (hts (.instantiable RX7 2) (rk_tb 346 (by decide +kernel)))
  obtain ⟨c8, iS8, hKn8⟩ := u_known (C := RX9) (T := TX9) (N := 17) (n := 17) htk ki_X9 (hts (.instantiable RX9 17) (rk_tb 21 (by decide +kernel)))
  obtain ⟨c9, iS9, hKn9⟩ := u_known (C := RX10) (T := TX10) (N := 46) (n := 46) htk ki_X10 (hts (.instantiable RX10 46) (rk_tb 911 (by decide +kernel)))
  obtain ⟨dC, dI, hKc⟩ : ∃ (dC : Nat → ClassId) (dI : Nat → Nat → Nat), ∀ (k : Nat) (q : vw_C), vwCl[k]? = some q → u_Kn s q.1 q.2.1 q.2.2 (dC k) (dI k) := by
    refine ⟨fun k => if k = 0 then c0 else if k = 1 then c1 else if k = 2 then c2 else if k = 3 then c3 else if k = 4 then c4 else if k = 5 then c5 else if k = 6 then c6 else if k = 7 then c7 else if k = 8 then c8 else c9, fun k => if k = 0 then iS0 else if k = 1 then iS1 else if k = 2 then iS2 else if k = 3 then iS3 else if k = 4 then iS4 else if k = 5 then iS5 else if k = 6 then iS6 else if k = 7 then iS7 else if k = 8 then iS8 else iS9, ?_⟩
    intro k q hq
    match k, hq with
    | 0, hq => cases hq; exact hKn0
    | 1, hq => cases hq; exact hKn1
    | 2, hq => cases hq; exact hKn2
    | 3, hq => cases hq; exact hKn3
    | 4, hq => cases hq; exact hKn4
    | 5, hq => cases hq; exact hKn5
    | 6, hq => cases hq; exact hKn6
    | 7, hq => cases hq; exact hKn7
    | 8, hq => cases hq; exact hKn8
    | 9, hq => cases hq; exact hKn9
    | k + 10, hq => simp [vwCl] at hq
  obtain ⟨t0, ht0, hn0⟩ := rk_tyI (hts (.arrayClass .int) (rk_tb 72 (by decide +kernel)))
  obtain ⟨t1, ht1, hn1⟩ := rk_tyI (hts (.arrayClass .boolean) (rk_tb 1065 (by decide +kernel)))
  have ho : ∀ i C, tables_1[i]? = some (Cond.arrayOver (.object C)) → (Cond.arrayOver (.object C)).before #[Value.ref b] s = true := fun i C h => hts _ (rk_tb i h)
  obtain ⟨t2, ht2⟩ := rk_tyO (ho 29 RX0 (by decide +kernel))
  obtain ⟨t3, ht3⟩ := rk_tyO (ho 31 RX5 (by decide +kernel))
  obtain ⟨t4, ht4⟩ := rk_tyO (ho 33 RX7 (by decide +kernel))
  obtain ⟨t5, ht5⟩ := rk_tyO (ho 130 RX6 (by decide +kernel))
  -- statics
  have z1 := va_Zof (A := fun q : Nat => s.heap.size ≤ q) (hts (.laysStatic "java/lang/String" "COMPACT_STRINGS" "Z") (rk_tb 159 (by decide +kernel))) (hts (.initialized "java/lang/String") (rk_tb 7 (by decide +kernel))) (va_eqi (hg (Cond.eq (.static "java/lang/String" "COMPACT_STRINGS" "Z") (.int 1)) (by decide +kernel))) hA
  obtain ⟨ua, u1, u2⟩ := va_Tof (tm := .static "RailCargo" "UNDER" "[I") (ty := .int) (N := 6) (f := fun j => .int (rk_und j)) (A := fun q : Nat => s.heap.size ≤ q) (by decide) (hg (Cond.arrayOf (.static "RailCargo" "UNDER" "[I") .int) (by decide +kernel)) (va_eqt (hg (Cond.eq (.length (.static "RailCargo" "UNDER" "[I")) (.int 6)) (by decide +kernel)))
    (fun j hj => by
      have : ∀ j : Fin 6, Cond.eq (.elem (.static "RailCargo" "UNDER" "[I") (.int (Int32.ofNat j))) (.int (rk_und j)) ∈ flatC (Jvm.Cond.and given_1 narrow_1) := by decide +kernel
      exact va_eqt (hg _ (this ⟨j, hj⟩))) hA
  have z2 := va_Zref (A := fun q : Nat => s.heap.size ≤ q) (hts (.laysStatic "RailCargo" "UNDER" "[I") (rk_tb 810 (by decide +kernel))) (hts (.initialized "RailCargo") (rk_tb 1 (by decide +kernel))) u1 hA
  have z3 := va_Zqof (A := fun q : Nat => s.heap.size ≤ q) (hts (.laysStatic "jdk/internal/util/Preconditions" "SIOOBE_FORMATTER" "Ljava/util/function/BiFunction;") (rk_tb 175 (by decide +kernel))) (hts (.initialized "jdk/internal/util/Preconditions") (rk_tb 9 (by decide +kernel))) (hg (Cond.isRef (.static "jdk/internal/util/Preconditions" "SIOOBE_FORMATTER" "Ljava/util/function/BiFunction;")) (by decide +kernel)) hA
  -- strings
  obtain ⟨tm, htm⟩ : ∃ tm : Nat → Term, tm = fun i => match i with
    | 0 => Term.string "RailCargo" 66
    | 1 => Term.string "RailCargo$Reader" 105
    | _ => Term.string "RailCargo$Reader" 98 := ⟨_, rfl⟩
  have hs1 : ∀ i : Fin 3, Cond.exactly (tm i) "java/lang/String" ∈ flatC (Jvm.Cond.and given_1 narrow_1) ∧ Cond.eq (.field (tm i) "java/lang/String" "coder" "B") (.int 0) ∈ flatC (Jvm.Cond.and given_1 narrow_1) ∧ Cond.arrayOf (.field (tm i) "java/lang/String" "value" "[B") .byte ∈ flatC (Jvm.Cond.and given_1 narrow_1) ∧ Cond.eq (.length (.field (tm i) "java/lang/String" "value" "[B")) (.int (Int32.ofNat (rk_len.getD i 0))) ∈ flatC (Jvm.Cond.and given_1 narrow_1) := by rw [htm]; decide +kernel
  have hs2 : ∀ i : Fin 3, ∀ j : Fin 57, j.val < rk_len.getD i 0 → Cond.eq (.elem (.field (tm i) "java/lang/String" "value" "[B") (.int (Int32.ofNat j))) (.int ((rk_byt.getD i []).getD j 0)) ∈ flatC (Jvm.Cond.and given_1 narrow_1) := by rw [htm]; decide +kernel
  have hs3 : ∀ i j : Fin 3, i ≠ j → Cond.not (Cond.eq (tm i) (tm j)) ∈ flatC (Jvm.Cond.and given_1 narrow_1) ∨ Cond.not (Cond.eq (tm j) (tm i)) ∈ flatC (Jvm.Cond.and given_1 narrow_1) := by rw [htm]; decide +kernel
  have hl57 : ∀ i : Fin 3, rk_len.getD i 0 ≤ 57 := by decide
  obtain ⟨adK, adV, hSt, hev⟩ := vk_Sof (N := 3) (tm := tm) (len := rk_len) (byt := rk_byt) (A := fun q : Nat => s.heap.size ≤ q) (fun i hi => by have := hl57 ⟨i, hi⟩; simp at this ⊢; omega) (fun i hi => hg _ (hs1 ⟨i, hi⟩).1) (fun i hi => hg _ (hs1 ⟨i, hi⟩).2.1) (fun i hi => hg _ (hs1 ⟨i, hi⟩).2.2.1) (fun i hi => hg _ (hs1 ⟨i, hi⟩).2.2.2)
    (fun i hi j hj => hg _ (hs2 ⟨i, hi⟩ ⟨j, Nat.lt_of_lt_of_le hj (hl57 ⟨i, hi⟩)⟩ hj))
    (fun i j hi hj hij => by
      rcases hs3 ⟨i, hi⟩ ⟨j, hj⟩ (fun h => hij (congrArg Fin.val h)) with h | h
      · exact Or.inl (hg _ h)
      · exact Or.inr (hg _ h)) hA
  obtain ⟨fq, fa, hfq, z4⟩ : ∃ (fq : Option Nat) (fa : Nat), (∀ z, fq = some z → z = fa) ∧ va_Z "jdk/internal/util/Preconditions" "SIOOBE_FORMATTER" "Ljava/util/function/BiFunction;" (va_rf fq) (fun q : Nat => s.heap.size ≤ q) s s.heap := by
    rcases z3 with z3 | ⟨t, z3⟩
    · exact ⟨none, 0, fun z h => (by cases h), z3⟩
    · exact ⟨some t, t, fun z h => (Option.some.inj h).symm, z3⟩
  have lK : ∀ i, i < 3 → adK i < s.heap.size ∧ adV i < s.heap.size := fun i hi => by
    obtain ⟨⟨ce, g1, -⟩, -, -, ⟨ce2, g2, -⟩⟩ := hSt.1 i hi
    exact ⟨(Array.getElem?_eq_some_iff.mp g1).1, (Array.getElem?_eq_some_iff.mp g2).1⟩
  have lU : ua < s.heap.size := by
    obtain ⟨ce, g1, -⟩ := u2
    exact (Array.getElem?_eq_some_iff.mp g1).1
  refine ⟨(fun k => if k < 1000000 then s.heap.size + k else if k = 1000000 then b else if k = 1000001 then adK 0 else if k = 1000002 then adV 0 else if k = 1000003 then adK 1 else if k = 1000004 then adV 1 else if k = 1000005 then adK 2 else if k = 1000006 then adV 2 else if k = 1000007 then ua else if k = 1000008 then fa else b, s.heap.size, dC, dI, fun t => if t = 20 then t0 else if t = 21 then t1 else if t = 22 then t2 else if t = 23 then t3 else if t = 24 then t4 else t5, L, xs), ⟨fun k hk => if_pos hk, fun k h1 h2 => ?_⟩, rfl, rfl, rfl, ⟨hKc, fun k q hq => ?_⟩, ?_⟩
  · show (if k < 1000000 then s.heap.size + k else _) < s.heap.size
    rw [if_neg (by omega)]
    have := lK 0 (by omega)
    have := lK 1 (by omega)
    have := lK 2 (by omega)
    split
    · exact hbl
    · split
      · omega
      · split
        · omega
        · split
          · omega
          · split
            · omega
            · split
              · omega
              · split
                · omega
                · split
                  · exact lU
                  · first | exact hbl | (rw [if_neg h2]; exact hbl)
  · match k, hq with
    | 0, hq => cases hq; exact ⟨ht0, hn0⟩
    | 1, hq => cases hq; exact ⟨ht1, hn1⟩
    | 2, hq => cases hq; exact ht2
    | 3, hq => cases hq; exact ht3
    | 4, hq => cases hq; exact ht4
    | 5, hq => cases hq; exact ht5
    | k + 6, hq => simp [rk_tys] at hq
  · refine ⟨hX, z1, z2, u2, ⟨fq.map (fun _ => 1000008), fun z h => ?_, ?_⟩, ⟨fun i hi => ?_, fun i j hi hj hij => ?_⟩, ?_, ?_, ?_, Nat.le_refl _, hbl, lU, fun w hw => ?_⟩
    · cases fq <;> simp at h
      exact h.symm
    · cases fq with
      | none => exact z4
      | some t => rw [hfq t rfl] at z4; exact z4
    · rcases (show i = 0 ∨ i = 1 ∨ i = 2 by omega) with rfl | rfl | rfl
      · exact hSt.1 0 hi
      · exact hSt.1 1 hi
      · exact hSt.1 2 hi
    · refine hSt.2 i j hi hj ?_
      rcases (show i = 0 ∨ i = 1 ∨ i = 2 by omega) with rfl | rfl | rfl <;> rcases (show j = 0 ∨ j = 1 ∨ j = 2 by omega) with rfl | rfl | rfl <;> exact hij
    · exact vk_R.of (hts (.stringRef "RailCargo" 66 "late 0 < hour - 50 ; cut 0 ; stop hour < 20 ;") (rk_tb 149 (by decide +kernel))) (by have := hev 0 (by omega); rw [htm] at this; exact this)
    · exact vk_R.of (hts (.stringRef "RailCargo$Reader" 105 "kind hour price amount paid due or and not late cut stop ") (rk_tb 231 (by decide +kernel))) (by have := hev 1 (by omega); rw [htm] at this; exact this)
    · exact vk_R.of (hts (.stringRef "RailCargo$Reader" 98 "();+-*<=") (rk_tb 242 (by decide +kernel))) (by have := hev 2 (by omega); rw [htm] at this; exact this)
    · simp only [rk_nw, List.mem_cons, List.not_mem_nil, or_false] at hw
      rcases hw with rfl | rfl | rfl | rfl | rfl | rfl | rfl | rfl | rfl | rfl
      · exact va_Nw.of rfl (hts _ (rk_tb 36 (by decide +kernel)))
      · exact va_Nw.of rfl (hts _ (rk_tb 75 (by decide +kernel)))
      · exact va_Nw.of rfl (hts _ (rk_tb 88 (by decide +kernel)))
      · exact va_Nw.of rfl (hts _ (rk_tb 112 (by decide +kernel)))
      · exact va_Nw.of rfl (hts _ (rk_tb 132 (by decide +kernel)))
      · exact va_Nw.of rfl (hts _ (rk_tb 355 (by decide +kernel)))
      · exact ho 29 _ (by decide +kernel)
      · exact ho 31 _ (by decide +kernel)
      · exact ho 33 _ (by decide +kernel)
      · exact ho 130 _ (by decide +kernel)

