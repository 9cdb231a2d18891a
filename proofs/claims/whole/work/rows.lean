section
-- ===== PART A: goes FIRST, ahead of the names: the tables' words, and 'selects' of the private methods out of them =====
/-- a private method of a class that the tables say can be made, by its rows of tables_1 -/
def lw_okq (q : MethodName × Nat) : Prop := (q.1.cls ≠ "java/lang/invoke/MethodHandle" ∧ q.1.cls ≠ "java/lang/invoke/VarHandle") ∧ Cond.instantiable q.1.cls q.2 ∈ tables_1 ∧ Cond.privateMethod q.1 ∈ tables_1 ∧ Cond.instanceMethod q.1 ∈ tables_1
theorem lw_p0 : lw_okq (⟨"RailCargo$Reader", "split", "()V"⟩, 10) := ⟨⟨by decide +kernel, by decide +kernel⟩, List.mem_of_getElem? (i := 35) (by decide +kernel), List.mem_of_getElem? (i := 207) (by decide +kernel), List.mem_of_getElem? (i := 208) (by decide +kernel)⟩
theorem lw_p1 : lw_okq (⟨"RailCargo$Reader", "endOfToken", "(I)I"⟩, 10) := ⟨⟨by decide +kernel, by decide +kernel⟩, List.mem_of_getElem? (i := 35) (by decide +kernel), List.mem_of_getElem? (i := 211) (by decide +kernel), List.mem_of_getElem? (i := 212) (by decide +kernel)⟩
theorem lw_p2 : lw_okq (⟨"RailCargo$Reader", "tokenOf", "(II)I"⟩, 10) := ⟨⟨by decide +kernel, by decide +kernel⟩, List.mem_of_getElem? (i := 35) (by decide +kernel), List.mem_of_getElem? (i := 224) (by decide +kernel), List.mem_of_getElem? (i := 225) (by decide +kernel)⟩
theorem lw_p3 : lw_okq (⟨"RailCargo$Reader", "wordOf", "(II)I"⟩, 10) := ⟨⟨by decide +kernel, by decide +kernel⟩, List.mem_of_getElem? (i := 35) (by decide +kernel), List.mem_of_getElem? (i := 228) (by decide +kernel), List.mem_of_getElem? (i := 229) (by decide +kernel)⟩
theorem lw_p4 : lw_okq (⟨"RailCargo$Reader", "stands", "(III)Z"⟩, 10) := ⟨⟨by decide +kernel, by decide +kernel⟩, List.mem_of_getElem? (i := 35) (by decide +kernel), List.mem_of_getElem? (i := 235) (by decide +kernel), List.mem_of_getElem? (i := 236) (by decide +kernel)⟩
theorem lw_p5 : lw_okq (⟨"RailCargo$Reader", "numberOf", "(II)I"⟩, 10) := ⟨⟨by decide +kernel, by decide +kernel⟩, List.mem_of_getElem? (i := 35) (by decide +kernel), List.mem_of_getElem? (i := 239) (by decide +kernel), List.mem_of_getElem? (i := 240) (by decide +kernel)⟩
theorem lw_p6 : lw_okq (⟨"RailCargo$Reader", "take", "(I)V"⟩, 10) := ⟨⟨by decide +kernel, by decide +kernel⟩, List.mem_of_getElem? (i := 35) (by decide +kernel), List.mem_of_getElem? (i := 303) (by decide +kernel), List.mem_of_getElem? (i := 304) (by decide +kernel)⟩
theorem lw_p7 : lw_okq (⟨"RailCargo$Reader", "token", "()I"⟩, 10) := ⟨⟨by decide +kernel, by decide +kernel⟩, List.mem_of_getElem? (i := 35) (by decide +kernel), List.mem_of_getElem? (i := 307) (by decide +kernel), List.mem_of_getElem? (i := 308) (by decide +kernel)⟩
theorem lw_p8 : lw_okq (⟨"RailCargo$Reader", "next", "()V"⟩, 10) := ⟨⟨by decide +kernel, by decide +kernel⟩, List.mem_of_getElem? (i := 35) (by decide +kernel), List.mem_of_getElem? (i := 311) (by decide +kernel), List.mem_of_getElem? (i := 312) (by decide +kernel)⟩
theorem lw_p9 : lw_okq (⟨"RailCargo$Reader", "fail", "()V"⟩, 10) := ⟨⟨by decide +kernel, by decide +kernel⟩, List.mem_of_getElem? (i := 35) (by decide +kernel), List.mem_of_getElem? (i := 315) (by decide +kernel), List.mem_of_getElem? (i := 316) (by decide +kernel)⟩
theorem lw_p10 : lw_okq (⟨"RailCargo$Reader", "phrase", "(II)V"⟩, 10) := ⟨⟨by decide +kernel, by decide +kernel⟩, List.mem_of_getElem? (i := 35) (by decide +kernel), List.mem_of_getElem? (i := 319) (by decide +kernel), List.mem_of_getElem? (i := 320) (by decide +kernel)⟩
theorem lw_p11 : lw_okq (⟨"RailCargo$Reader", "denial", "(I)V"⟩, 10) := ⟨⟨by decide +kernel, by decide +kernel⟩, List.mem_of_getElem? (i := 35) (by decide +kernel), List.mem_of_getElem? (i := 323) (by decide +kernel), List.mem_of_getElem? (i := 324) (by decide +kernel)⟩
theorem lw_p12 : lw_okq (⟨"RailCargo$Reader", "opens", "(I)Z"⟩, 10) := ⟨⟨by decide +kernel, by decide +kernel⟩, List.mem_of_getElem? (i := 35) (by decide +kernel), List.mem_of_getElem? (i := 327) (by decide +kernel), List.mem_of_getElem? (i := 328) (by decide +kernel)⟩
theorem lw_p13 : lw_okq (⟨"RailCargo$Reader", "emit", "(I)V"⟩, 10) := ⟨⟨by decide +kernel, by decide +kernel⟩, List.mem_of_getElem? (i := 35) (by decide +kernel), List.mem_of_getElem? (i := 331) (by decide +kernel), List.mem_of_getElem? (i := 332) (by decide +kernel)⟩
theorem lw_p14 : lw_okq (⟨"RailCargo$Reader", "one", "(I)V"⟩, 10) := ⟨⟨by decide +kernel, by decide +kernel⟩, List.mem_of_getElem? (i := 35) (by decide +kernel), List.mem_of_getElem? (i := 335) (by decide +kernel), List.mem_of_getElem? (i := 336) (by decide +kernel)⟩
theorem lw_p15 : lw_okq (⟨"RailCargo", "cargoAt", "(I)LRailCargo$Cargo;"⟩, 17) := ⟨⟨by decide +kernel, by decide +kernel⟩, List.mem_of_getElem? (i := 21) (by decide +kernel), List.mem_of_getElem? (i := 471) (by decide +kernel), List.mem_of_getElem? (i := 472) (by decide +kernel)⟩
def lw_privs_1 : List (MethodName × Nat) := [(⟨"RailCargo$Reader", "split", "()V"⟩, 10), (⟨"RailCargo$Reader", "endOfToken", "(I)I"⟩, 10), (⟨"RailCargo$Reader", "tokenOf", "(II)I"⟩, 10), (⟨"RailCargo$Reader", "wordOf", "(II)I"⟩, 10), (⟨"RailCargo$Reader", "stands", "(III)Z"⟩, 10), (⟨"RailCargo$Reader", "numberOf", "(II)I"⟩, 10), (⟨"RailCargo$Reader", "take", "(I)V"⟩, 10), (⟨"RailCargo$Reader", "token", "()I"⟩, 10), (⟨"RailCargo$Reader", "next", "()V"⟩, 10), (⟨"RailCargo$Reader", "fail", "()V"⟩, 10), (⟨"RailCargo$Reader", "phrase", "(II)V"⟩, 10), (⟨"RailCargo$Reader", "denial", "(I)V"⟩, 10), (⟨"RailCargo$Reader", "opens", "(I)Z"⟩, 10), (⟨"RailCargo$Reader", "emit", "(I)V"⟩, 10), (⟨"RailCargo$Reader", "one", "(I)V"⟩, 10), (⟨"RailCargo", "cargoAt", "(I)LRailCargo$Cargo;"⟩, 17)]
theorem lw_r1 : ∀ q ∈ lw_privs_1, lw_okq q := List.forall_mem_cons.mpr ⟨lw_p0, List.forall_mem_cons.mpr ⟨lw_p1, List.forall_mem_cons.mpr ⟨lw_p2, List.forall_mem_cons.mpr ⟨lw_p3, List.forall_mem_cons.mpr ⟨lw_p4, List.forall_mem_cons.mpr ⟨lw_p5, List.forall_mem_cons.mpr ⟨lw_p6, List.forall_mem_cons.mpr ⟨lw_p7, List.forall_mem_cons.mpr ⟨lw_p8, List.forall_mem_cons.mpr ⟨lw_p9, List.forall_mem_cons.mpr ⟨lw_p10, List.forall_mem_cons.mpr ⟨lw_p11, List.forall_mem_cons.mpr ⟨lw_p12, List.forall_mem_cons.mpr ⟨lw_p13, List.forall_mem_cons.mpr ⟨lw_p14, List.forall_mem_cons.mpr ⟨lw_p15, fun _ h => absurd h List.not_mem_nil⟩⟩⟩⟩⟩⟩⟩⟩⟩⟩⟩⟩⟩⟩⟩⟩
theorem lw_p16 : lw_okq (⟨"RailCargo", "saleAt", "(I)LRailCargo$Sale;"⟩, 17) := ⟨⟨by decide +kernel, by decide +kernel⟩, List.mem_of_getElem? (i := 21) (by decide +kernel), List.mem_of_getElem? (i := 552) (by decide +kernel), List.mem_of_getElem? (i := 553) (by decide +kernel)⟩
theorem lw_p17 : lw_okq (⟨"RailCargo$Sale", "halfWayTo", "(I)I"⟩, 11) := ⟨⟨by decide +kernel, by decide +kernel⟩, List.mem_of_getElem? (i := 487) (by decide +kernel), List.mem_of_getElem? (i := 584) (by decide +kernel), List.mem_of_getElem? (i := 585) (by decide +kernel)⟩
theorem lw_p18 : lw_okq (⟨"RailCargo", "heldAt", "(LRailCargo$Cargo;III)I"⟩, 17) := ⟨⟨by decide +kernel, by decide +kernel⟩, List.mem_of_getElem? (i := 21) (by decide +kernel), List.mem_of_getElem? (i := 592) (by decide +kernel), List.mem_of_getElem? (i := 593) (by decide +kernel)⟩
theorem lw_p19 : lw_okq (⟨"RailCargo$Ledger", "enter", "(LRailCargo$Sale;I)V"⟩, 5) := ⟨⟨by decide +kernel, by decide +kernel⟩, List.mem_of_getElem? (i := 87) (by decide +kernel), List.mem_of_getElem? (i := 607) (by decide +kernel), List.mem_of_getElem? (i := 608) (by decide +kernel)⟩
theorem lw_p20 : lw_okq (⟨"RailCargo", "owedFor", "(LRailCargo$Sale;I)J"⟩, 17) := ⟨⟨by decide +kernel, by decide +kernel⟩, List.mem_of_getElem? (i := 21) (by decide +kernel), List.mem_of_getElem? (i := 660) (by decide +kernel), List.mem_of_getElem? (i := 661) (by decide +kernel)⟩
theorem lw_p21 : lw_okq (⟨"RailCargo", "ruled", "(ILRailCargo$Sale;I)I"⟩, 17) := ⟨⟨by decide +kernel, by decide +kernel⟩, List.mem_of_getElem? (i := 21) (by decide +kernel), List.mem_of_getElem? (i := 664) (by decide +kernel), List.mem_of_getElem? (i := 665) (by decide +kernel)⟩
theorem lw_p22 : lw_okq (⟨"RailCargo$Reckoner", "step", "(ILRailCargo$Sale;I)V"⟩, 2) := ⟨⟨by decide +kernel, by decide +kernel⟩, List.mem_of_getElem? (i := 74) (by decide +kernel), List.mem_of_getElem? (i := 684) (by decide +kernel), List.mem_of_getElem? (i := 685) (by decide +kernel)⟩
theorem lw_p23 : lw_okq (⟨"RailCargo$Reckoner", "push", "(I)V"⟩, 2) := ⟨⟨by decide +kernel, by decide +kernel⟩, List.mem_of_getElem? (i := 74) (by decide +kernel), List.mem_of_getElem? (i := 688) (by decide +kernel), List.mem_of_getElem? (i := 689) (by decide +kernel)⟩
theorem lw_p24 : lw_okq (⟨"RailCargo$Reckoner", "pop", "()I"⟩, 2) := ⟨⟨by decide +kernel, by decide +kernel⟩, List.mem_of_getElem? (i := 74) (by decide +kernel), List.mem_of_getElem? (i := 699) (by decide +kernel), List.mem_of_getElem? (i := 700) (by decide +kernel)⟩
theorem lw_p25 : lw_okq (⟨"RailCargo", "areOfOneCargo", "(I)Z"⟩, 17) := ⟨⟨by decide +kernel, by decide +kernel⟩, List.mem_of_getElem? (i := 21) (by decide +kernel), List.mem_of_getElem? (i := 721) (by decide +kernel), List.mem_of_getElem? (i := 722) (by decide +kernel)⟩
theorem lw_p26 : lw_okq (⟨"RailCargo$Rings", "amountsAlike", "(I)Z"⟩, 4) := ⟨⟨by decide +kernel, by decide +kernel⟩, List.mem_of_getElem? (i := 111) (by decide +kernel), List.mem_of_getElem? (i := 729) (by decide +kernel), List.mem_of_getElem? (i := 730) (by decide +kernel)⟩
theorem lw_p27 : lw_okq (⟨"RailCargo$Rings", "has", "(II)Z"⟩, 4) := ⟨⟨by decide +kernel, by decide +kernel⟩, List.mem_of_getElem? (i := 111) (by decide +kernel), List.mem_of_getElem? (i := 733) (by decide +kernel), List.mem_of_getElem? (i := 734) (by decide +kernel)⟩
theorem lw_p28 : lw_okq (⟨"RailCargo$Rings", "allSellAsTheyBuy", "(I)Z"⟩, 4) := ⟨⟨by decide +kernel, by decide +kernel⟩, List.mem_of_getElem? (i := 111) (by decide +kernel), List.mem_of_getElem? (i := 737) (by decide +kernel), List.mem_of_getElem? (i := 738) (by decide +kernel)⟩
theorem lw_p29 : lw_okq (⟨"RailCargo$Rings", "handsReached", "(I)I"⟩, 4) := ⟨⟨by decide +kernel, by decide +kernel⟩, List.mem_of_getElem? (i := 111) (by decide +kernel), List.mem_of_getElem? (i := 742) (by decide +kernel), List.mem_of_getElem? (i := 743) (by decide +kernel)⟩
theorem lw_p30 : lw_okq (⟨"RailCargo$Rings", "handsIn", "(I)I"⟩, 4) := ⟨⟨by decide +kernel, by decide +kernel⟩, List.mem_of_getElem? (i := 111) (by decide +kernel), List.mem_of_getElem? (i := 746) (by decide +kernel), List.mem_of_getElem? (i := 747) (by decide +kernel)⟩
theorem lw_p31 : lw_okq (⟨"RailCargo", "differenceOf", "(II)J"⟩, 17) := ⟨⟨by decide +kernel, by decide +kernel⟩, List.mem_of_getElem? (i := 21) (by decide +kernel), List.mem_of_getElem? (i := 755) (by decide +kernel), List.mem_of_getElem? (i := 756) (by decide +kernel)⟩
def lw_privs_2 : List (MethodName × Nat) := [(⟨"RailCargo", "saleAt", "(I)LRailCargo$Sale;"⟩, 17), (⟨"RailCargo$Sale", "halfWayTo", "(I)I"⟩, 11), (⟨"RailCargo", "heldAt", "(LRailCargo$Cargo;III)I"⟩, 17), (⟨"RailCargo$Ledger", "enter", "(LRailCargo$Sale;I)V"⟩, 5), (⟨"RailCargo", "owedFor", "(LRailCargo$Sale;I)J"⟩, 17), (⟨"RailCargo", "ruled", "(ILRailCargo$Sale;I)I"⟩, 17), (⟨"RailCargo$Reckoner", "step", "(ILRailCargo$Sale;I)V"⟩, 2), (⟨"RailCargo$Reckoner", "push", "(I)V"⟩, 2), (⟨"RailCargo$Reckoner", "pop", "()I"⟩, 2), (⟨"RailCargo", "areOfOneCargo", "(I)Z"⟩, 17), (⟨"RailCargo$Rings", "amountsAlike", "(I)Z"⟩, 4), (⟨"RailCargo$Rings", "has", "(II)Z"⟩, 4), (⟨"RailCargo$Rings", "allSellAsTheyBuy", "(I)Z"⟩, 4), (⟨"RailCargo$Rings", "handsReached", "(I)I"⟩, 4), (⟨"RailCargo$Rings", "handsIn", "(I)I"⟩, 4), (⟨"RailCargo", "differenceOf", "(II)J"⟩, 17)]
theorem lw_r2 : ∀ q ∈ lw_privs_2, lw_okq q := List.forall_mem_cons.mpr ⟨lw_p16, List.forall_mem_cons.mpr ⟨lw_p17, List.forall_mem_cons.mpr ⟨lw_p18, List.forall_mem_cons.mpr ⟨lw_p19, List.forall_mem_cons.mpr ⟨lw_p20, List.forall_mem_cons.mpr ⟨lw_p21, List.forall_mem_cons.mpr ⟨lw_p22, List.forall_mem_cons.mpr ⟨lw_p23, List.forall_mem_cons.mpr ⟨lw_p24, List.forall_mem_cons.mpr ⟨lw_p25, List.forall_mem_cons.mpr ⟨lw_p26, List.forall_mem_cons.mpr ⟨lw_p27, List.forall_mem_cons.mpr ⟨lw_p28, List.forall_mem_cons.mpr ⟨lw_p29, List.forall_mem_cons.mpr ⟨lw_p30, List.forall_mem_cons.mpr ⟨lw_p31, fun _ h => absurd h List.not_mem_nil⟩⟩⟩⟩⟩⟩⟩⟩⟩⟩⟩⟩⟩⟩⟩⟩
theorem lw_p32 : lw_okq (⟨"RailCargo$Rings", "walk", "(IIII)V"⟩, 4) := ⟨⟨by decide +kernel, by decide +kernel⟩, List.mem_of_getElem? (i := 111) (by decide +kernel), List.mem_of_getElem? (i := 769) (by decide +kernel), List.mem_of_getElem? (i := 770) (by decide +kernel)⟩
theorem lw_p33 : lw_okq (⟨"RailCargo$Rings", "follows", "(III)Z"⟩, 4) := ⟨⟨by decide +kernel, by decide +kernel⟩, List.mem_of_getElem? (i := 111) (by decide +kernel), List.mem_of_getElem? (i := 779) (by decide +kernel), List.mem_of_getElem? (i := 780) (by decide +kernel)⟩
theorem lw_p34 : lw_okq (⟨"RailCargo$Rings", "offer", "(I)V"⟩, 4) := ⟨⟨by decide +kernel, by decide +kernel⟩, List.mem_of_getElem? (i := 111) (by decide +kernel), List.mem_of_getElem? (i := 783) (by decide +kernel), List.mem_of_getElem? (i := 784) (by decide +kernel)⟩
theorem lw_p35 : lw_okq (⟨"RailCargo", "canBeStopped", "(LRailCargo$Sale;I)Z"⟩, 17) := ⟨⟨by decide +kernel, by decide +kernel⟩, List.mem_of_getElem? (i := 21) (by decide +kernel), List.mem_of_getElem? (i := 799) (by decide +kernel), List.mem_of_getElem? (i := 800) (by decide +kernel)⟩
theorem lw_p36 : lw_okq (⟨"RailCargo", "keepRisk", "(LRailCargo$Cargo;I)V"⟩, 17) := ⟨⟨by decide +kernel, by decide +kernel⟩, List.mem_of_getElem? (i := 21) (by decide +kernel), List.mem_of_getElem? (i := 816) (by decide +kernel), List.mem_of_getElem? (i := 817) (by decide +kernel)⟩
theorem lw_p37 : lw_okq (⟨"RailCargo", "changeWithout", "(LRailCargo$Cargo;II)I"⟩, 17) := ⟨⟨by decide +kernel, by decide +kernel⟩, List.mem_of_getElem? (i := 21) (by decide +kernel), List.mem_of_getElem? (i := 821) (by decide +kernel), List.mem_of_getElem? (i := 822) (by decide +kernel)⟩
theorem lw_p38 : lw_okq (⟨"RailCargo", "papersHandedOn", "()I"⟩, 17) := ⟨⟨by decide +kernel, by decide +kernel⟩, List.mem_of_getElem? (i := 21) (by decide +kernel), List.mem_of_getElem? (i := 865) (by decide +kernel), List.mem_of_getElem? (i := 866) (by decide +kernel)⟩
theorem lw_p39 : lw_okq (⟨"RailCargo", "paidInAll", "()I"⟩, 17) := ⟨⟨by decide +kernel, by decide +kernel⟩, List.mem_of_getElem? (i := 21) (by decide +kernel), List.mem_of_getElem? (i := 869) (by decide +kernel), List.mem_of_getElem? (i := 870) (by decide +kernel)⟩
theorem lw_p40 : lw_okq (⟨"RailCargo", "sheetAt", "(I)LRailCargo$Sheet;"⟩, 17) := ⟨⟨by decide +kernel, by decide +kernel⟩, List.mem_of_getElem? (i := 21) (by decide +kernel), List.mem_of_getElem? (i := 877) (by decide +kernel), List.mem_of_getElem? (i := 878) (by decide +kernel)⟩
theorem lw_p41 : lw_okq (⟨"RailCargoModel", "spell", "(IJ)V"⟩, 46) := ⟨⟨by decide +kernel, by decide +kernel⟩, List.mem_of_getElem? (i := 911) (by decide +kernel), List.mem_of_getElem? (i := 918) (by decide +kernel), List.mem_of_getElem? (i := 919) (by decide +kernel)⟩
theorem lw_p42 : lw_okq (⟨"RailCargoModel", "isCargo", "(I)Z"⟩, 46) := ⟨⟨by decide +kernel, by decide +kernel⟩, List.mem_of_getElem? (i := 911) (by decide +kernel), List.mem_of_getElem? (i := 1083) (by decide +kernel), List.mem_of_getElem? (i := 1084) (by decide +kernel)⟩
theorem lw_p43 : lw_okq (⟨"RailCargoModel", "isSale", "(I)Z"⟩, 46) := ⟨⟨by decide +kernel, by decide +kernel⟩, List.mem_of_getElem? (i := 911) (by decide +kernel), List.mem_of_getElem? (i := 1101) (by decide +kernel), List.mem_of_getElem? (i := 1102) (by decide +kernel)⟩
theorem lw_p44 : lw_okq (⟨"RailCargoModel", "passes", "(II)I"⟩, 46) := ⟨⟨by decide +kernel, by decide +kernel⟩, List.mem_of_getElem? (i := 911) (by decide +kernel), List.mem_of_getElem? (i := 1115) (by decide +kernel), List.mem_of_getElem? (i := 1116) (by decide +kernel)⟩
theorem lw_p45 : lw_okq (⟨"RailCargoModel", "thingBy", "(II)I"⟩, 46) := ⟨⟨by decide +kernel, by decide +kernel⟩, List.mem_of_getElem? (i := 911) (by decide +kernel), List.mem_of_getElem? (i := 1119) (by decide +kernel), List.mem_of_getElem? (i := 1120) (by decide +kernel)⟩
theorem lw_p46 : lw_okq (⟨"RailCargoModel", "lossBy", "(II)I"⟩, 46) := ⟨⟨by decide +kernel, by decide +kernel⟩, List.mem_of_getElem? (i := 911) (by decide +kernel), List.mem_of_getElem? (i := 1126) (by decide +kernel), List.mem_of_getElem? (i := 1127) (by decide +kernel)⟩
theorem lw_p47 : lw_okq (⟨"RailCargoModel", "lays", "(III)V"⟩, 46) := ⟨⟨by decide +kernel, by decide +kernel⟩, List.mem_of_getElem? (i := 911) (by decide +kernel), List.mem_of_getElem? (i := 1134) (by decide +kernel), List.mem_of_getElem? (i := 1135) (by decide +kernel)⟩
def lw_privs_3 : List (MethodName × Nat) := [(⟨"RailCargo$Rings", "walk", "(IIII)V"⟩, 4), (⟨"RailCargo$Rings", "follows", "(III)Z"⟩, 4), (⟨"RailCargo$Rings", "offer", "(I)V"⟩, 4), (⟨"RailCargo", "canBeStopped", "(LRailCargo$Sale;I)Z"⟩, 17), (⟨"RailCargo", "keepRisk", "(LRailCargo$Cargo;I)V"⟩, 17), (⟨"RailCargo", "changeWithout", "(LRailCargo$Cargo;II)I"⟩, 17), (⟨"RailCargo", "papersHandedOn", "()I"⟩, 17), (⟨"RailCargo", "paidInAll", "()I"⟩, 17), (⟨"RailCargo", "sheetAt", "(I)LRailCargo$Sheet;"⟩, 17), (⟨"RailCargoModel", "spell", "(IJ)V"⟩, 46), (⟨"RailCargoModel", "isCargo", "(I)Z"⟩, 46), (⟨"RailCargoModel", "isSale", "(I)Z"⟩, 46), (⟨"RailCargoModel", "passes", "(II)I"⟩, 46), (⟨"RailCargoModel", "thingBy", "(II)I"⟩, 46), (⟨"RailCargoModel", "lossBy", "(II)I"⟩, 46), (⟨"RailCargoModel", "lays", "(III)V"⟩, 46)]
theorem lw_r3 : ∀ q ∈ lw_privs_3, lw_okq q := List.forall_mem_cons.mpr ⟨lw_p32, List.forall_mem_cons.mpr ⟨lw_p33, List.forall_mem_cons.mpr ⟨lw_p34, List.forall_mem_cons.mpr ⟨lw_p35, List.forall_mem_cons.mpr ⟨lw_p36, List.forall_mem_cons.mpr ⟨lw_p37, List.forall_mem_cons.mpr ⟨lw_p38, List.forall_mem_cons.mpr ⟨lw_p39, List.forall_mem_cons.mpr ⟨lw_p40, List.forall_mem_cons.mpr ⟨lw_p41, List.forall_mem_cons.mpr ⟨lw_p42, List.forall_mem_cons.mpr ⟨lw_p43, List.forall_mem_cons.mpr ⟨lw_p44, List.forall_mem_cons.mpr ⟨lw_p45, List.forall_mem_cons.mpr ⟨lw_p46, List.forall_mem_cons.mpr ⟨lw_p47, fun _ h => absurd h List.not_mem_nil⟩⟩⟩⟩⟩⟩⟩⟩⟩⟩⟩⟩⟩⟩⟩⟩
theorem lw_p48 : lw_okq (⟨"RailCargoModel", "ahead", "()I"⟩, 46) := ⟨⟨by decide +kernel, by decide +kernel⟩, List.mem_of_getElem? (i := 911) (by decide +kernel), List.mem_of_getElem? (i := 1138) (by decide +kernel), List.mem_of_getElem? (i := 1139) (by decide +kernel)⟩
theorem lw_p49 : lw_okq (⟨"RailCargoModel", "read", "(IIII)I"⟩, 46) := ⟨⟨by decide +kernel, by decide +kernel⟩, List.mem_of_getElem? (i := 911) (by decide +kernel), List.mem_of_getElem? (i := 1163) (by decide +kernel), List.mem_of_getElem? (i := 1164) (by decide +kernel)⟩
theorem lw_p50 : lw_okq (⟨"RailCargoModel", "next", "()V"⟩, 46) := ⟨⟨by decide +kernel, by decide +kernel⟩, List.mem_of_getElem? (i := 911) (by decide +kernel), List.mem_of_getElem? (i := 1167) (by decide +kernel), List.mem_of_getElem? (i := 1168) (by decide +kernel)⟩
theorem lw_p51 : lw_okq (⟨"RailCargoModel", "byteAt", "(I)I"⟩, 46) := ⟨⟨by decide +kernel, by decide +kernel⟩, List.mem_of_getElem? (i := 911) (by decide +kernel), List.mem_of_getElem? (i := 1171) (by decide +kernel), List.mem_of_getElem? (i := 1172) (by decide +kernel)⟩
theorem lw_p52 : lw_okq (⟨"RailCargoModel", "part", "(J)I"⟩, 46) := ⟨⟨by decide +kernel, by decide +kernel⟩, List.mem_of_getElem? (i := 911) (by decide +kernel), List.mem_of_getElem? (i := 1183) (by decide +kernel), List.mem_of_getElem? (i := 1184) (by decide +kernel)⟩
theorem lw_p53 : lw_okq (⟨"RailCargoModel", "isWord", "(J)Z"⟩, 46) := ⟨⟨by decide +kernel, by decide +kernel⟩, List.mem_of_getElem? (i := 911) (by decide +kernel), List.mem_of_getElem? (i := 1187) (by decide +kernel), List.mem_of_getElem? (i := 1188) (by decide +kernel)⟩
theorem lw_p54 : lw_okq (⟨"RailCargoModel", "fail", "()V"⟩, 46) := ⟨⟨by decide +kernel, by decide +kernel⟩, List.mem_of_getElem? (i := 911) (by decide +kernel), List.mem_of_getElem? (i := 1191) (by decide +kernel), List.mem_of_getElem? (i := 1192) (by decide +kernel)⟩
theorem lw_p55 : lw_okq (⟨"RailCargoModel", "either", "()I"⟩, 46) := ⟨⟨by decide +kernel, by decide +kernel⟩, List.mem_of_getElem? (i := 911) (by decide +kernel), List.mem_of_getElem? (i := 1195) (by decide +kernel), List.mem_of_getElem? (i := 1196) (by decide +kernel)⟩
theorem lw_p56 : lw_okq (⟨"RailCargoModel", "both", "()I"⟩, 46) := ⟨⟨by decide +kernel, by decide +kernel⟩, List.mem_of_getElem? (i := 911) (by decide +kernel), List.mem_of_getElem? (i := 1199) (by decide +kernel), List.mem_of_getElem? (i := 1200) (by decide +kernel)⟩
theorem lw_p57 : lw_okq (⟨"RailCargoModel", "not", "()I"⟩, 46) := ⟨⟨by decide +kernel, by decide +kernel⟩, List.mem_of_getElem? (i := 911) (by decide +kernel), List.mem_of_getElem? (i := 1203) (by decide +kernel), List.mem_of_getElem? (i := 1204) (by decide +kernel)⟩
theorem lw_p58 : lw_okq (⟨"RailCargoModel", "opens", "()Z"⟩, 46) := ⟨⟨by decide +kernel, by decide +kernel⟩, List.mem_of_getElem? (i := 911) (by decide +kernel), List.mem_of_getElem? (i := 1208) (by decide +kernel), List.mem_of_getElem? (i := 1209) (by decide +kernel)⟩
theorem lw_p59 : lw_okq (⟨"RailCargoModel", "added", "()I"⟩, 46) := ⟨⟨by decide +kernel, by decide +kernel⟩, List.mem_of_getElem? (i := 911) (by decide +kernel), List.mem_of_getElem? (i := 1212) (by decide +kernel), List.mem_of_getElem? (i := 1213) (by decide +kernel)⟩
theorem lw_p60 : lw_okq (⟨"RailCargoModel", "term", "()I"⟩, 46) := ⟨⟨by decide +kernel, by decide +kernel⟩, List.mem_of_getElem? (i := 911) (by decide +kernel), List.mem_of_getElem? (i := 1216) (by decide +kernel), List.mem_of_getElem? (i := 1217) (by decide +kernel)⟩
theorem lw_p61 : lw_okq (⟨"RailCargoModel", "one", "()I"⟩, 46) := ⟨⟨by decide +kernel, by decide +kernel⟩, List.mem_of_getElem? (i := 911) (by decide +kernel), List.mem_of_getElem? (i := 1220) (by decide +kernel), List.mem_of_getElem? (i := 1221) (by decide +kernel)⟩
theorem lw_p62 : lw_okq (⟨"RailCargoModel", "isSign", "(I)Z"⟩, 46) := ⟨⟨by decide +kernel, by decide +kernel⟩, List.mem_of_getElem? (i := 911) (by decide +kernel), List.mem_of_getElem? (i := 1224) (by decide +kernel), List.mem_of_getElem? (i := 1225) (by decide +kernel)⟩
theorem lw_p63 : lw_okq (⟨"RailCargoModel", "name", "()I"⟩, 46) := ⟨⟨by decide +kernel, by decide +kernel⟩, List.mem_of_getElem? (i := 911) (by decide +kernel), List.mem_of_getElem? (i := 1228) (by decide +kernel), List.mem_of_getElem? (i := 1229) (by decide +kernel)⟩
def lw_privs_4 : List (MethodName × Nat) := [(⟨"RailCargoModel", "ahead", "()I"⟩, 46), (⟨"RailCargoModel", "read", "(IIII)I"⟩, 46), (⟨"RailCargoModel", "next", "()V"⟩, 46), (⟨"RailCargoModel", "byteAt", "(I)I"⟩, 46), (⟨"RailCargoModel", "part", "(J)I"⟩, 46), (⟨"RailCargoModel", "isWord", "(J)Z"⟩, 46), (⟨"RailCargoModel", "fail", "()V"⟩, 46), (⟨"RailCargoModel", "either", "()I"⟩, 46), (⟨"RailCargoModel", "both", "()I"⟩, 46), (⟨"RailCargoModel", "not", "()I"⟩, 46), (⟨"RailCargoModel", "opens", "()Z"⟩, 46), (⟨"RailCargoModel", "added", "()I"⟩, 46), (⟨"RailCargoModel", "term", "()I"⟩, 46), (⟨"RailCargoModel", "one", "()I"⟩, 46), (⟨"RailCargoModel", "isSign", "(I)Z"⟩, 46), (⟨"RailCargoModel", "name", "()I"⟩, 46)]
theorem lw_r4 : ∀ q ∈ lw_privs_4, lw_okq q := List.forall_mem_cons.mpr ⟨lw_p48, List.forall_mem_cons.mpr ⟨lw_p49, List.forall_mem_cons.mpr ⟨lw_p50, List.forall_mem_cons.mpr ⟨lw_p51, List.forall_mem_cons.mpr ⟨lw_p52, List.forall_mem_cons.mpr ⟨lw_p53, List.forall_mem_cons.mpr ⟨lw_p54, List.forall_mem_cons.mpr ⟨lw_p55, List.forall_mem_cons.mpr ⟨lw_p56, List.forall_mem_cons.mpr ⟨lw_p57, List.forall_mem_cons.mpr ⟨lw_p58, List.forall_mem_cons.mpr ⟨lw_p59, List.forall_mem_cons.mpr ⟨lw_p60, List.forall_mem_cons.mpr ⟨lw_p61, List.forall_mem_cons.mpr ⟨lw_p62, List.forall_mem_cons.mpr ⟨lw_p63, fun _ h => absurd h List.not_mem_nil⟩⟩⟩⟩⟩⟩⟩⟩⟩⟩⟩⟩⟩⟩⟩⟩
theorem lw_p64 : lw_okq (⟨"RailCargoModel", "dueOf", "(I)I"⟩, 46) := ⟨⟨by decide +kernel, by decide +kernel⟩, List.mem_of_getElem? (i := 911) (by decide +kernel), List.mem_of_getElem? (i := 1238) (by decide +kernel), List.mem_of_getElem? (i := 1239) (by decide +kernel)⟩
theorem lw_p65 : lw_okq (⟨"RailCargoModel", "owesOf", "(II)J"⟩, 46) := ⟨⟨by decide +kernel, by decide +kernel⟩, List.mem_of_getElem? (i := 911) (by decide +kernel), List.mem_of_getElem? (i := 1256) (by decide +kernel), List.mem_of_getElem? (i := 1257) (by decide +kernel)⟩
theorem lw_p66 : lw_okq (⟨"RailCargoModel", "areSales", "(I)Z"⟩, 46) := ⟨⟨by decide +kernel, by decide +kernel⟩, List.mem_of_getElem? (i := 911) (by decide +kernel), List.mem_of_getElem? (i := 1271) (by decide +kernel), List.mem_of_getElem? (i := 1272) (by decide +kernel)⟩
theorem lw_p67 : lw_okq (⟨"RailCargoModel", "isRing", "(I)Z"⟩, 46) := ⟨⟨by decide +kernel, by decide +kernel⟩, List.mem_of_getElem? (i := 911) (by decide +kernel), List.mem_of_getElem? (i := 1275) (by decide +kernel), List.mem_of_getElem? (i := 1276) (by decide +kernel)⟩
theorem lw_p68 : lw_okq (⟨"RailCargoModel", "reached", "(II)I"⟩, 46) := ⟨⟨by decide +kernel, by decide +kernel⟩, List.mem_of_getElem? (i := 911) (by decide +kernel), List.mem_of_getElem? (i := 1279) (by decide +kernel), List.mem_of_getElem? (i := 1280) (by decide +kernel)⟩
theorem lw_p69 : lw_okq (⟨"RailCargoModel", "keeps", "(II)V"⟩, 46) := ⟨⟨by decide +kernel, by decide +kernel⟩, List.mem_of_getElem? (i := 911) (by decide +kernel), List.mem_of_getElem? (i := 1320) (by decide +kernel), List.mem_of_getElem? (i := 1321) (by decide +kernel)⟩
theorem lw_p70 : lw_okq (⟨"RailCargoModel", "change", "(II)I"⟩, 46) := ⟨⟨by decide +kernel, by decide +kernel⟩, List.mem_of_getElem? (i := 911) (by decide +kernel), List.mem_of_getElem? (i := 1324) (by decide +kernel), List.mem_of_getElem? (i := 1325) (by decide +kernel)⟩
def lw_privs_5 : List (MethodName × Nat) := [(⟨"RailCargoModel", "dueOf", "(I)I"⟩, 46), (⟨"RailCargoModel", "owesOf", "(II)J"⟩, 46), (⟨"RailCargoModel", "areSales", "(I)Z"⟩, 46), (⟨"RailCargoModel", "isRing", "(I)Z"⟩, 46), (⟨"RailCargoModel", "reached", "(II)I"⟩, 46), (⟨"RailCargoModel", "keeps", "(II)V"⟩, 46), (⟨"RailCargoModel", "change", "(II)I"⟩, 46)]
theorem lw_r5 : ∀ q ∈ lw_privs_5, lw_okq q := List.forall_mem_cons.mpr ⟨lw_p64, List.forall_mem_cons.mpr ⟨lw_p65, List.forall_mem_cons.mpr ⟨lw_p66, List.forall_mem_cons.mpr ⟨lw_p67, List.forall_mem_cons.mpr ⟨lw_p68, List.forall_mem_cons.mpr ⟨lw_p69, List.forall_mem_cons.mpr ⟨lw_p70, fun _ h => absurd h List.not_mem_nil⟩⟩⟩⟩⟩⟩⟩
def lw_privs : List (MethodName × Nat) := lw_privs_1 ++ (lw_privs_2 ++ (lw_privs_3 ++ (lw_privs_4 ++ (lw_privs_5))))
def lw_tbl : List Cond := k2_sels lw_privs ++ tables_1
theorem lw_privs_ok : ∀ q ∈ lw_privs, lw_okq q := by
  show ∀ q ∈ lw_privs_1 ++ (lw_privs_2 ++ (lw_privs_3 ++ (lw_privs_4 ++ (lw_privs_5)))), lw_okq q
  exact List.forall_mem_append.mpr ⟨lw_r1, List.forall_mem_append.mpr ⟨lw_r2, List.forall_mem_append.mpr ⟨lw_r3, List.forall_mem_append.mpr ⟨lw_r4, lw_r5⟩⟩⟩⟩
-- ===== end of PART A; then your names; then what follows =====
/-! ===== BEGIN printed: names, fields, word lists, decode rows ===== -/
def RX0 : String := "RailCargo$Cargo"
def TX0 : u_T := fun k => match k with
  | 0 => ("RailCargo$Cargo", "number", "I", true)
  | 1 => ("RailCargo$Cargo", "amount", "I", true)
  | 2 => ("RailCargo$Cargo", "firstHand", "I", true)
  | 3 => ("RailCargo$Cargo", "hours", "[I", true)
  | _ => ("RailCargo$Cargo", "keptHours", "[I", true)
def tyX0 : Nat → FieldType := fun k => match k with
  | 0 => .int
  | 1 => .int
  | 2 => .int
  | 3 => .array .int
  | _ => .array .int
theorem nmX0 : ∀ a, a < 5 → ∀ b, b < 5 → a ≠ b → (TX0 a).2.1 ≠ (TX0 b).2.1 := by decide +kernel
theorem tyX0_ok : ∀ k, k < 5 → parseFieldDescriptor (TX0 k).2.2.1 = some (tyX0 k) := by decide +kernel
abbrev cX0_init : ByteArray := prog_2_method_1_code
def yX0_init : MethodName := ⟨RX0, "<init>", "(III)V"⟩
abbrev cX0_keep : ByteArray := prog_2_method_2_code
def yX0_keep : MethodName := ⟨RX0, "keep", "()V"⟩
abbrev cX0_layBack : ByteArray := prog_2_method_3_code
def yX0_layBack : MethodName := ⟨RX0, "layBack", "()V"⟩
def RX1 : String := "RailCargo$Ledger"
def TX1 : u_T := fun k => match k with
  | 0 => ("RailCargo$Ledger", "held", "[I", true)
  | 1 => ("RailCargo$Ledger", "order", "[LRailCargo$Sale;", true)
  | 2 => ("RailCargo$Ledger", "passes", "[I", true)
  | 3 => ("RailCargo$Ledger", "size", "I", false)
  | _ => ("RailCargo$Ledger", "done", "I", false)
def tyX1 : Nat → FieldType := fun k => match k with
  | 0 => .array .int
  | 1 => .array (.object "RailCargo$Sale")
  | 2 => .array .int
  | 3 => .int
  | _ => .int
theorem nmX1 : ∀ a, a < 5 → ∀ b, b < 5 → a ≠ b → (TX1 a).2.1 ≠ (TX1 b).2.1 := by decide +kernel
theorem tyX1_ok : ∀ k, k < 5 → parseFieldDescriptor (TX1 k).2.2.1 = some (tyX1 k) := by decide +kernel
abbrev cX1_init : ByteArray := prog_3_method_1_code
def yX1_init : MethodName := ⟨RX1, "<init>", "()V"⟩
abbrev cX1_open : ByteArray := prog_3_method_2_code
def yX1_open : MethodName := ⟨RX1, "open", "(LRailCargo$Cargo;[LRailCargo$Sale;II)V"⟩
abbrev cX1_enter : ByteArray := prog_3_method_3_code
def yX1_enter : MethodName := ⟨RX1, "enter", "(LRailCargo$Sale;I)V"⟩
abbrev cX1_runTo : ByteArray := prog_3_method_4_code
def yX1_runTo : MethodName := ⟨RX1, "runTo", "(I)V"⟩
abbrev cX1_nextHour : ByteArray := prog_3_method_5_code
def yX1_nextHour : MethodName := ⟨RX1, "nextHour", "()I"⟩
def RX2 : String := "RailCargo$Reader"
def TX2 : u_T := fun k => match k with
  | 0 => ("RailCargo$Reader", "tape", "[I", true)
  | 1 => ("RailCargo$Reader", "size", "I", false)
  | 2 => ("RailCargo$Reader", "tokens", "[I", true)
  | 3 => ("RailCargo$Reader", "places", "[I", true)
  | 4 => ("RailCargo$Reader", "tokenCount", "I", false)
  | 5 => ("RailCargo$Reader", "at", "I", false)
  | 6 => ("RailCargo$Reader", "fault", "I", false)
  | 7 => ("RailCargo$Reader", "codes", "[I", true)
  | 8 => ("RailCargo$Reader", "codeCount", "I", false)
  | _ => ("RailCargo$Reader", "ends", "[I", true)
def tyX2 : Nat → FieldType := fun k => match k with
  | 0 => .array .int
  | 1 => .int
  | 2 => .array .int
  | 3 => .array .int
  | 4 => .int
  | 5 => .int
  | 6 => .int
  | 7 => .array .int
  | 8 => .int
  | _ => .array .int
theorem nmX2 : ∀ a, a < 10 → ∀ b, b < 10 → a ≠ b → (TX2 a).2.1 ≠ (TX2 b).2.1 := by decide +kernel
theorem tyX2_ok : ∀ k, k < 10 → parseFieldDescriptor (TX2 k).2.2.1 = some (tyX2 k) := by decide +kernel
abbrev cX2_init : ByteArray := prog_4_method_1_code
def yX2_init : MethodName := ⟨RX2, "<init>", "()V"⟩
abbrev cX2_room : ByteArray := prog_4_method_2_code
def yX2_room : MethodName := ⟨RX2, "room", "()I"⟩
abbrev cX2_put : ByteArray := prog_4_method_3_code
def yX2_put : MethodName := ⟨RX2, "put", "(I)V"⟩
abbrev cX2_empty : ByteArray := prog_4_method_4_code
def yX2_empty : MethodName := ⟨RX2, "empty", "()V"⟩
abbrev cX2_read : ByteArray := prog_4_method_5_code
def yX2_read : MethodName := ⟨RX2, "read", "()I"⟩
abbrev cX2_asText : ByteArray := prog_4_method_6_code
def yX2_asText : MethodName := ⟨RX2, "asText", "()LRailCargo$Text;"⟩
abbrev cX2_split : ByteArray := prog_4_method_7_code
def yX2_split : MethodName := ⟨RX2, "split", "()V"⟩
abbrev cX2_isBlank : ByteArray := prog_4_method_8_code
def yX2_isBlank : MethodName := ⟨RX2, "isBlank", "(I)Z"⟩
abbrev cX2_isLetter : ByteArray := prog_4_method_9_code
def yX2_isLetter : MethodName := ⟨RX2, "isLetter", "(I)Z"⟩
abbrev cX2_isDigit : ByteArray := prog_4_method_10_code
def yX2_isDigit : MethodName := ⟨RX2, "isDigit", "(I)Z"⟩
abbrev cX2_endOfToken : ByteArray := prog_4_method_11_code
def yX2_endOfToken : MethodName := ⟨RX2, "endOfToken", "(I)I"⟩
abbrev cX2_tokenOf : ByteArray := prog_4_method_12_code
def yX2_tokenOf : MethodName := ⟨RX2, "tokenOf", "(II)I"⟩
abbrev cX2_numberOf : ByteArray := prog_4_method_13_code
def yX2_numberOf : MethodName := ⟨RX2, "numberOf", "(II)I"⟩
abbrev cX2_wordOf : ByteArray := prog_4_method_14_code
def yX2_wordOf : MethodName := ⟨RX2, "wordOf", "(II)I"⟩
abbrev cX2_stands : ByteArray := prog_4_method_15_code
def yX2_stands : MethodName := ⟨RX2, "stands", "(III)Z"⟩
abbrev cX2_token : ByteArray := prog_4_method_16_code
def yX2_token : MethodName := ⟨RX2, "token", "()I"⟩
abbrev cX2_fail : ByteArray := prog_4_method_17_code
def yX2_fail : MethodName := ⟨RX2, "fail", "()V"⟩
abbrev cX2_next : ByteArray := prog_4_method_18_code
def yX2_next : MethodName := ⟨RX2, "next", "()V"⟩
abbrev cX2_take : ByteArray := prog_4_method_19_code
def yX2_take : MethodName := ⟨RX2, "take", "(I)V"⟩
abbrev cX2_emit : ByteArray := prog_4_method_20_code
def yX2_emit : MethodName := ⟨RX2, "emit", "(I)V"⟩
abbrev cX2_phrase : ByteArray := prog_4_method_21_code
def yX2_phrase : MethodName := ⟨RX2, "phrase", "(II)V"⟩
abbrev cX2_joins : ByteArray := prog_4_method_22_code
def yX2_joins : MethodName := ⟨RX2, "joins", "(II)Z"⟩
abbrev cX2_denial : ByteArray := prog_4_method_23_code
def yX2_denial : MethodName := ⟨RX2, "denial", "(I)V"⟩
abbrev cX2_one : ByteArray := prog_4_method_24_code
def yX2_one : MethodName := ⟨RX2, "one", "(I)V"⟩
abbrev cX2_opens : ByteArray := prog_4_method_25_code
def yX2_opens : MethodName := ⟨RX2, "opens", "(I)Z"⟩
def RX3 : String := "RailCargo$Reckoner"
def TX3 : u_T := fun k => match k with
  | 0 => ("RailCargo$Reckoner", "stack", "[I", true)
  | _ => ("RailCargo$Reckoner", "top", "I", false)
def tyX3 : Nat → FieldType := fun k => match k with
  | 0 => .array .int
  | _ => .int
theorem nmX3 : ∀ a, a < 2 → ∀ b, b < 2 → a ≠ b → (TX3 a).2.1 ≠ (TX3 b).2.1 := by decide +kernel
theorem tyX3_ok : ∀ k, k < 2 → parseFieldDescriptor (TX3 k).2.2.1 = some (tyX3 k) := by decide +kernel
abbrev cX3_init : ByteArray := prog_5_method_1_code
def yX3_init : MethodName := ⟨RX3, "<init>", "()V"⟩
abbrev cX3_value : ByteArray := prog_5_method_2_code
def yX3_value : MethodName := ⟨RX3, "value", "(LRailCargo$Text;ILRailCargo$Sale;I)I"⟩
abbrev cX3_step : ByteArray := prog_5_method_3_code
def yX3_step : MethodName := ⟨RX3, "step", "(ILRailCargo$Sale;I)V"⟩
abbrev cX3_push : ByteArray := prog_5_method_4_code
def yX3_push : MethodName := ⟨RX3, "push", "(I)V"⟩
abbrev cX3_pop : ByteArray := prog_5_method_5_code
def yX3_pop : MethodName := ⟨RX3, "pop", "()I"⟩
abbrev cX3_truth : ByteArray := prog_5_method_6_code
def yX3_truth : MethodName := ⟨RX3, "truth", "(Z)I"⟩
abbrev cX3_named : ByteArray := prog_5_method_7_code
def yX3_named : MethodName := ⟨RX3, "named", "(ILRailCargo$Sale;I)I"⟩
abbrev cX3_joined : ByteArray := prog_5_method_8_code
def yX3_joined : MethodName := ⟨RX3, "joined", "(III)I"⟩
def RX4 : String := "RailCargo$Rings"
def TX4 : u_T := fun k => match k with
  | 0 => ("RailCargo$Rings", "sellsMore", "[I", true)
  | 1 => ("RailCargo$Rings", "sales", "[LRailCargo$Sale;", false)
  | 2 => ("RailCargo$Rings", "saleCount", "I", false)
  | _ => ("RailCargo$Rings", "best", "I", false)
def tyX4 : Nat → FieldType := fun k => match k with
  | 0 => .array .int
  | 1 => .array (.object "RailCargo$Sale")
  | 2 => .int
  | _ => .int
theorem nmX4 : ∀ a, a < 4 → ∀ b, b < 4 → a ≠ b → (TX4 a).2.1 ≠ (TX4 b).2.1 := by decide +kernel
theorem tyX4_ok : ∀ k, k < 4 → parseFieldDescriptor (TX4 k).2.2.1 = some (tyX4 k) := by decide +kernel
abbrev cX4_init : ByteArray := prog_6_method_1_code
def yX4_init : MethodName := ⟨RX4, "<init>", "()V"⟩
abbrev cX4_isRing : ByteArray := prog_6_method_2_code
def yX4_isRing : MethodName := ⟨RX4, "isRing", "([LRailCargo$Sale;II)Z"⟩
abbrev cX4_has : ByteArray := prog_6_method_3_code
def yX4_has : MethodName := ⟨RX4, "has", "(II)Z"⟩
abbrev cX4_amountsAlike : ByteArray := prog_6_method_4_code
def yX4_amountsAlike : MethodName := ⟨RX4, "amountsAlike", "(I)Z"⟩
abbrev cX4_allSellAsTheyBuy : ByteArray := prog_6_method_5_code
def yX4_allSellAsTheyBuy : MethodName := ⟨RX4, "allSellAsTheyBuy", "(I)Z"⟩
abbrev cX4_handsIn : ByteArray := prog_6_method_6_code
def yX4_handsIn : MethodName := ⟨RX4, "handsIn", "(I)I"⟩
abbrev cX4_handsReached : ByteArray := prog_6_method_7_code
def yX4_handsReached : MethodName := ⟨RX4, "handsReached", "(I)I"⟩
abbrev cX4_least : ByteArray := prog_6_method_8_code
def yX4_least : MethodName := ⟨RX4, "least", "([LRailCargo$Sale;ILRailCargo$Cargo;)I"⟩
abbrev cX4_walk : ByteArray := prog_6_method_9_code
def yX4_walk : MethodName := ⟨RX4, "walk", "(IIII)V"⟩
abbrev cX4_follows : ByteArray := prog_6_method_10_code
def yX4_follows : MethodName := ⟨RX4, "follows", "(III)Z"⟩
abbrev cX4_offer : ByteArray := prog_6_method_11_code
def yX4_offer : MethodName := ⟨RX4, "offer", "(I)V"⟩
def RX5 : String := "RailCargo$Sale"
def TX5 : u_T := fun k => match k with
  | 0 => ("RailCargo$Sale", "kind", "I", false)
  | 1 => ("RailCargo$Sale", "cargo", "LRailCargo$Cargo;", true)
  | 2 => ("RailCargo$Sale", "seller", "I", true)
  | 3 => ("RailCargo$Sale", "buyer", "I", true)
  | 4 => ("RailCargo$Sale", "amount", "I", true)
  | 5 => ("RailCargo$Sale", "price", "I", true)
  | 6 => ("RailCargo$Sale", "hour", "I", true)
  | 7 => ("RailCargo$Sale", "paper", "I", false)
  | 8 => ("RailCargo$Sale", "paid", "I", false)
  | 9 => ("RailCargo$Sale", "keptPaper", "I", false)
  | _ => ("RailCargo$Sale", "keptPaid", "I", false)
def tyX5 : Nat → FieldType := fun k => match k with
  | 0 => .int
  | 1 => .object "RailCargo$Cargo"
  | 2 => .int
  | 3 => .int
  | 4 => .int
  | 5 => .int
  | 6 => .int
  | 7 => .int
  | 8 => .int
  | 9 => .int
  | _ => .int
theorem nmX5 : ∀ a, a < 11 → ∀ b, b < 11 → a ≠ b → (TX5 a).2.1 ≠ (TX5 b).2.1 := by decide +kernel
theorem tyX5_ok : ∀ k, k < 11 → parseFieldDescriptor (TX5 k).2.2.1 = some (tyX5 k) := by decide +kernel
abbrev cX5_init : ByteArray := prog_7_method_1_code
def yX5_init : MethodName := ⟨RX5, "<init>", "(ILRailCargo$Cargo;IIIII)V"⟩
abbrev cX5_due : ByteArray := prog_7_method_2_code
def yX5_due : MethodName := ⟨RX5, "due", "()I"⟩
abbrev cX5_passHour : ByteArray := prog_7_method_3_code
def yX5_passHour : MethodName := ⟨RX5, "passHour", "(I)I"⟩
abbrev cX5_thingHour : ByteArray := prog_7_method_4_code
def yX5_thingHour : MethodName := ⟨RX5, "thingHour", "()I"⟩
abbrev cX5_lossHour : ByteArray := prog_7_method_5_code
def yX5_lossHour : MethodName := ⟨RX5, "lossHour", "()I"⟩
abbrev cX5_laterOf : ByteArray := prog_7_method_6_code
def yX5_laterOf : MethodName := ⟨RX5, "laterOf", "(II)I"⟩
abbrev cX5_halfWayTo : ByteArray := prog_7_method_7_code
def yX5_halfWayTo : MethodName := ⟨RX5, "halfWayTo", "(I)I"⟩
abbrev cX5_tell : ByteArray := prog_7_method_8_code
def yX5_tell : MethodName := ⟨RX5, "tell", "(I)I"⟩
abbrev cX5_keep : ByteArray := prog_7_method_9_code
def yX5_keep : MethodName := ⟨RX5, "keep", "()V"⟩
abbrev cX5_layBack : ByteArray := prog_7_method_10_code
def yX5_layBack : MethodName := ⟨RX5, "layBack", "()V"⟩
def RX6 : String := "RailCargo$Sheet"
def TX6 : u_T := fun k => match k with
  | 0 => ("RailCargo$Sheet", "items", "[I", true)
  | 1 => ("RailCargo$Sheet", "sort", "I", false)
  | _ => ("RailCargo$Sheet", "size", "I", false)
def tyX6 : Nat → FieldType := fun k => match k with
  | 0 => .array .int
  | 1 => .int
  | _ => .int
theorem nmX6 : ∀ a, a < 3 → ∀ b, b < 3 → a ≠ b → (TX6 a).2.1 ≠ (TX6 b).2.1 := by decide +kernel
theorem tyX6_ok : ∀ k, k < 3 → parseFieldDescriptor (TX6 k).2.2.1 = some (tyX6 k) := by decide +kernel
abbrev cX6_init : ByteArray := prog_8_method_1_code
def yX6_init : MethodName := ⟨RX6, "<init>", "()V"⟩
abbrev cX6_become : ByteArray := prog_8_method_2_code
def yX6_become : MethodName := ⟨RX6, "become", "(II)V"⟩
abbrev cX6_put : ByteArray := prog_8_method_3_code
def yX6_put : MethodName := ⟨RX6, "put", "(II)V"⟩
abbrev cX6_has : ByteArray := prog_8_method_4_code
def yX6_has : MethodName := ⟨RX6, "has", "(II)Z"⟩
def RX7 : String := "RailCargo$Text"
def TX7 : u_T := fun k => match k with
  | 0 => ("RailCargo$Text", "codes", "[I", true)
  | _ => ("RailCargo$Text", "ends", "[I", true)
def tyX7 : Nat → FieldType := fun k => match k with
  | 0 => .array .int
  | _ => .array .int
theorem nmX7 : ∀ a, a < 2 → ∀ b, b < 2 → a ≠ b → (TX7 a).2.1 ≠ (TX7 b).2.1 := by decide +kernel
theorem tyX7_ok : ∀ k, k < 2 → parseFieldDescriptor (TX7 k).2.2.1 = some (tyX7 k) := by decide +kernel
abbrev cX7_init : ByteArray := prog_9_method_1_code
def yX7_init : MethodName := ⟨RX7, "<init>", "([I[I)V"⟩
abbrev cX7_startOf : ByteArray := prog_9_method_2_code
def yX7_startOf : MethodName := ⟨RX7, "startOf", "(I)I"⟩
abbrev cX7_endOf : ByteArray := prog_9_method_3_code
def yX7_endOf : MethodName := ⟨RX7, "endOf", "(I)I"⟩
abbrev cX7_codeAt : ByteArray := prog_9_method_4_code
def yX7_codeAt : MethodName := ⟨RX7, "codeAt", "(I)I"⟩
def RX8 : String := "RailCargo$Token"
def TX8 : u_T := fun k => match k with
  | _ => ("", "", "", false)
def tyX8 : Nat → FieldType := fun k => match k with
  | _ => .int
theorem nmX8 : ∀ a, a < 0 → ∀ b, b < 0 → a ≠ b → (TX8 a).2.1 ≠ (TX8 b).2.1 := by decide +kernel
theorem tyX8_ok : ∀ k, k < 0 → parseFieldDescriptor (TX8 k).2.2.1 = some (tyX8 k) := by decide +kernel
def RX9 : String := "RailCargo"
def TX9 : u_T := fun k => match k with
  | 0 => ("RailCargo", "cargoes", "[LRailCargo$Cargo;", true)
  | 1 => ("RailCargo", "cargoCount", "I", false)
  | 2 => ("RailCargo", "sales", "[LRailCargo$Sale;", true)
  | 3 => ("RailCargo", "saleCount", "I", false)
  | 4 => ("RailCargo", "texts", "[LRailCargo$Text;", true)
  | 5 => ("RailCargo", "textCount", "I", false)
  | 6 => ("RailCargo", "rule", "I", false)
  | 7 => ("RailCargo", "reader", "LRailCargo$Reader;", true)
  | 8 => ("RailCargo", "reckoner", "LRailCargo$Reckoner;", true)
  | 9 => ("RailCargo", "ledger", "LRailCargo$Ledger;", true)
  | 10 => ("RailCargo", "rings", "LRailCargo$Rings;", true)
  | 11 => ("RailCargo", "sheets", "[LRailCargo$Sheet;", true)
  | 12 => ("RailCargo", "riskNow", "[I", true)
  | 13 => ("RailCargo", "hasImage", "Z", false)
  | 14 => ("RailCargo", "imageCargoes", "I", false)
  | 15 => ("RailCargo", "imageSales", "I", false)
  | _ => ("RailCargo", "imageRule", "I", false)
def tyX9 : Nat → FieldType := fun k => match k with
  | 0 => .array (.object "RailCargo$Cargo")
  | 1 => .int
  | 2 => .array (.object "RailCargo$Sale")
  | 3 => .int
  | 4 => .array (.object "RailCargo$Text")
  | 5 => .int
  | 6 => .int
  | 7 => .object "RailCargo$Reader"
  | 8 => .object "RailCargo$Reckoner"
  | 9 => .object "RailCargo$Ledger"
  | 10 => .object "RailCargo$Rings"
  | 11 => .array (.object "RailCargo$Sheet")
  | 12 => .array .int
  | 13 => .boolean
  | 14 => .int
  | 15 => .int
  | _ => .int
theorem nmX9 : ∀ a, a < 17 → ∀ b, b < 17 → a ≠ b → (TX9 a).2.1 ≠ (TX9 b).2.1 := by decide +kernel
theorem tyX9_ok : ∀ k, k < 17 → parseFieldDescriptor (TX9 k).2.2.1 = some (tyX9 k) := by decide +kernel
abbrev cX9_init : ByteArray := prog_1_method_1_code
def yX9_init : MethodName := ⟨RX9, "<init>", "()V"⟩
abbrev cX9_cargo : ByteArray := prog_1_method_2_code
def yX9_cargo : MethodName := ⟨RX9, "cargo", "(II)I"⟩
abbrev cX9_hour : ByteArray := prog_1_method_3_code
def yX9_hour : MethodName := ⟨RX9, "hour", "(III)I"⟩
abbrev cX9_sale : ByteArray := prog_1_method_4_code
def yX9_sale : MethodName := ⟨RX9, "sale", "(IIIII)I"⟩
abbrev cX9_paper : ByteArray := prog_1_method_5_code
def yX9_paper : MethodName := ⟨RX9, "paper", "(II)I"⟩
abbrev cX9_pay : ByteArray := prog_1_method_6_code
def yX9_pay : MethodName := ⟨RX9, "pay", "(II)I"⟩
abbrev cX9_told : ByteArray := prog_1_method_7_code
def yX9_told : MethodName := ⟨RX9, "told", "(II)I"⟩
abbrev cX9_whose : ByteArray := prog_1_method_8_code
def yX9_whose : MethodName := ⟨RX9, "whose", "(IIII)I"⟩
abbrev cX9_falls : ByteArray := prog_1_method_9_code
def yX9_falls : MethodName := ⟨RX9, "falls", "(IIII)J"⟩
abbrev cX9_between : ByteArray := prog_1_method_10_code
def yX9_between : MethodName := ⟨RX9, "between", "(IIII)I"⟩
abbrev cX9_feed : ByteArray := prog_1_method_11_code
def yX9_feed : MethodName := ⟨RX9, "feed", "(IJ)I"⟩
abbrev cX9_text : ByteArray := prog_1_method_12_code
def yX9_text : MethodName := ⟨RX9, "text", "()I"⟩
abbrev cX9_force : ByteArray := prog_1_method_13_code
def yX9_force : MethodName := ⟨RX9, "force", "(I)I"⟩
abbrev cX9_owes : ByteArray := prog_1_method_14_code
def yX9_owes : MethodName := ⟨RX9, "owes", "(II)J"⟩
abbrev cX9_balance : ByteArray := prog_1_method_15_code
def yX9_balance : MethodName := ⟨RX9, "balance", "(II)J"⟩
abbrev cX9_closes : ByteArray := prog_1_method_16_code
def yX9_closes : MethodName := ⟨RX9, "closes", "(I)I"⟩
abbrev cX9_differ : ByteArray := prog_1_method_17_code
def yX9_differ : MethodName := ⟨RX9, "differ", "(II)J"⟩
abbrev cX9_found : ByteArray := prog_1_method_18_code
def yX9_found : MethodName := ⟨RX9, "found", "(I)I"⟩
abbrev cX9_loses : ByteArray := prog_1_method_19_code
def yX9_loses : MethodName := ⟨RX9, "loses", "(II)J"⟩
abbrev cX9_stops : ByteArray := prog_1_method_20_code
def yX9_stops : MethodName := ⟨RX9, "stops", "(II)I"⟩
abbrev cX9_two : ByteArray := prog_1_method_21_code
def yX9_two : MethodName := ⟨RX9, "two", "(III)I"⟩
abbrev cX9_hangs : ByteArray := prog_1_method_22_code
def yX9_hangs : MethodName := ⟨RX9, "hangs", "(III)I"⟩
abbrev cX9_moves : ByteArray := prog_1_method_23_code
def yX9_moves : MethodName := ⟨RX9, "moves", "(III)J"⟩
abbrev cX9_telegraph : ByteArray := prog_1_method_24_code
def yX9_telegraph : MethodName := ⟨RX9, "telegraph", "(II)I"⟩
abbrev cX9_image : ByteArray := prog_1_method_25_code
def yX9_image : MethodName := ⟨RX9, "image", "()I"⟩
abbrev cX9_back : ByteArray := prog_1_method_26_code
def yX9_back : MethodName := ⟨RX9, "back", "()I"⟩
abbrev cX9_count : ByteArray := prog_1_method_27_code
def yX9_count : MethodName := ⟨RX9, "count", "(I)I"⟩
abbrev cX9_sheet : ByteArray := prog_1_method_28_code
def yX9_sheet : MethodName := ⟨RX9, "sheet", "(III)I"⟩
abbrev cX9_cell : ByteArray := prog_1_method_29_code
def yX9_cell : MethodName := ⟨RX9, "cell", "(III)I"⟩
abbrev cX9_copy : ByteArray := prog_1_method_30_code
def yX9_copy : MethodName := ⟨RX9, "copy", "(IIIII)I"⟩
abbrev cX9_sales : ByteArray := prog_1_method_31_code
def yX9_sales : MethodName := ⟨RX9, "sales", "(IIII)I"⟩
abbrev cX9_taken : ByteArray := prog_1_method_32_code
def yX9_taken : MethodName := ⟨RX9, "taken", "(II)I"⟩
abbrev cX9_isHand : ByteArray := prog_1_method_33_code
def yX9_isHand : MethodName := ⟨RX9, "isHand", "(I)Z"⟩
abbrev cX9_isHour : ByteArray := prog_1_method_34_code
def yX9_isHour : MethodName := ⟨RX9, "isHour", "(I)Z"⟩
abbrev cX9_isHourOrNone : ByteArray := prog_1_method_35_code
def yX9_isHourOrNone : MethodName := ⟨RX9, "isHourOrNone", "(I)Z"⟩
abbrev cX9_isAmount : ByteArray := prog_1_method_36_code
def yX9_isAmount : MethodName := ⟨RX9, "isAmount", "(I)Z"⟩
abbrev cX9_isCoin : ByteArray := prog_1_method_37_code
def yX9_isCoin : MethodName := ⟨RX9, "isCoin", "(I)Z"⟩
abbrev cX9_isKind : ByteArray := prog_1_method_38_code
def yX9_isKind : MethodName := ⟨RX9, "isKind", "(I)Z"⟩
abbrev cX9_isUnder : ByteArray := prog_1_method_39_code
def yX9_isUnder : MethodName := ⟨RX9, "isUnder", "(II)Z"⟩
abbrev cX9_upperOf : ByteArray := prog_1_method_40_code
def yX9_upperOf : MethodName := ⟨RX9, "upperOf", "(I)I"⟩
abbrev cX9_lowerOf : ByteArray := prog_1_method_41_code
def yX9_lowerOf : MethodName := ⟨RX9, "lowerOf", "(I)I"⟩
abbrev cX9_cargoAt : ByteArray := prog_1_method_42_code
def yX9_cargoAt : MethodName := ⟨RX9, "cargoAt", "(I)LRailCargo$Cargo;"⟩
abbrev cX9_saleAt : ByteArray := prog_1_method_43_code
def yX9_saleAt : MethodName := ⟨RX9, "saleAt", "(I)LRailCargo$Sale;"⟩
abbrev cX9_sheetAt : ByteArray := prog_1_method_44_code
def yX9_sheetAt : MethodName := ⟨RX9, "sheetAt", "(I)LRailCargo$Sheet;"⟩
abbrev cX9_areOfOneCargo : ByteArray := prog_1_method_45_code
def yX9_areOfOneCargo : MethodName := ⟨RX9, "areOfOneCargo", "(I)Z"⟩
abbrev cX9_heldAt : ByteArray := prog_1_method_46_code
def yX9_heldAt : MethodName := ⟨RX9, "heldAt", "(LRailCargo$Cargo;III)I"⟩
abbrev cX9_keepRisk : ByteArray := prog_1_method_47_code
def yX9_keepRisk : MethodName := ⟨RX9, "keepRisk", "(LRailCargo$Cargo;I)V"⟩
abbrev cX9_changeWithout : ByteArray := prog_1_method_48_code
def yX9_changeWithout : MethodName := ⟨RX9, "changeWithout", "(LRailCargo$Cargo;II)I"⟩
abbrev cX9_commonDivisor : ByteArray := prog_1_method_49_code
def yX9_commonDivisor : MethodName := ⟨RX9, "commonDivisor", "(II)I"⟩
abbrev cX9_ruled : ByteArray := prog_1_method_50_code
def yX9_ruled : MethodName := ⟨RX9, "ruled", "(ILRailCargo$Sale;I)I"⟩
abbrev cX9_bounded : ByteArray := prog_1_method_51_code
def yX9_bounded : MethodName := ⟨RX9, "bounded", "(II)I"⟩
abbrev cX9_owedFor : ByteArray := prog_1_method_52_code
def yX9_owedFor : MethodName := ⟨RX9, "owedFor", "(LRailCargo$Sale;I)J"⟩
abbrev cX9_canBeStopped : ByteArray := prog_1_method_53_code
def yX9_canBeStopped : MethodName := ⟨RX9, "canBeStopped", "(LRailCargo$Sale;I)Z"⟩
abbrev cX9_differenceOf : ByteArray := prog_1_method_54_code
def yX9_differenceOf : MethodName := ⟨RX9, "differenceOf", "(II)J"⟩
abbrev cX9_papersHandedOn : ByteArray := prog_1_method_55_code
def yX9_papersHandedOn : MethodName := ⟨RX9, "papersHandedOn", "()I"⟩
abbrev cX9_paidInAll : ByteArray := prog_1_method_56_code
def yX9_paidInAll : MethodName := ⟨RX9, "paidInAll", "()I"⟩
def RX10 : String := "RailCargoModel"
def TX10 : u_T := fun k => match k with
  | 0 => ("RailCargoModel", "thrown", "I", false)
  | 1 => ("RailCargoModel", "texts", "[I", true)
  | 2 => ("RailCargoModel", "textSize", "[I", true)
  | 3 => ("RailCargoModel", "textCount", "I", false)
  | 4 => ("RailCargoModel", "rule", "I", false)
  | 5 => ("RailCargoModel", "tape", "[I", true)
  | 6 => ("RailCargoModel", "taped", "I", false)
  | 7 => ("RailCargoModel", "whole", "[I", true)
  | 8 => ("RailCargoModel", "firstHand", "[I", true)
  | 9 => ("RailCargoModel", "hours", "[I", true)
  | 10 => ("RailCargoModel", "cargoes", "I", false)
  | 11 => ("RailCargoModel", "kind", "[I", true)
  | 12 => ("RailCargoModel", "cargoOf", "[I", true)
  | 13 => ("RailCargoModel", "seller", "[I", true)
  | 14 => ("RailCargoModel", "buyer", "[I", true)
  | 15 => ("RailCargoModel", "amount", "[I", true)
  | 16 => ("RailCargoModel", "price", "[I", true)
  | 17 => ("RailCargoModel", "hourOf", "[I", true)
  | 18 => ("RailCargoModel", "paper", "[I", true)
  | 19 => ("RailCargoModel", "paid", "[I", true)
  | 20 => ("RailCargoModel", "saleMany", "I", false)
  | 21 => ("RailCargoModel", "has", "[I", true)
  | 22 => ("RailCargoModel", "passedAt", "[I", true)
  | 23 => ("RailCargoModel", "from", "I", false)
  | 24 => ("RailCargoModel", "size", "I", false)
  | 25 => ("RailCargoModel", "token", "I", false)
  | 26 => ("RailCargoModel", "tokenAt", "I", false)
  | 27 => ("RailCargoModel", "tokenWorth", "J", false)
  | 28 => ("RailCargoModel", "here", "I", false)
  | 29 => ("RailCargoModel", "open", "I", false)
  | 30 => ("RailCargoModel", "bad", "Z", false)
  | 31 => ("RailCargoModel", "fault", "I", false)
  | 32 => ("RailCargoModel", "about", "I", false)
  | 33 => ("RailCargoModel", "aboutHour", "I", false)
  | 34 => ("RailCargoModel", "before", "[I", true)
  | 35 => ("RailCargoModel", "imageHours", "[I", true)
  | 36 => ("RailCargoModel", "imagePaper", "[I", true)
  | 37 => ("RailCargoModel", "imagePaid", "[I", true)
  | 38 => ("RailCargoModel", "hasImage", "Z", false)
  | 39 => ("RailCargoModel", "imageCargoes", "I", false)
  | 40 => ("RailCargoModel", "imageSales", "I", false)
  | 41 => ("RailCargoModel", "imageRule", "I", false)
  | 42 => ("RailCargoModel", "isThere", "[Z", true)
  | 43 => ("RailCargoModel", "sorts", "[I", true)
  | 44 => ("RailCargoModel", "sheetSize", "[I", true)
  | _ => ("RailCargoModel", "items", "[I", true)
def tyX10 : Nat → FieldType := fun k => match k with
  | 0 => .int
  | 1 => .array .int
  | 2 => .array .int
  | 3 => .int
  | 4 => .int
  | 5 => .array .int
  | 6 => .int
  | 7 => .array .int
  | 8 => .array .int
  | 9 => .array .int
  | 10 => .int
  | 11 => .array .int
  | 12 => .array .int
  | 13 => .array .int
  | 14 => .array .int
  | 15 => .array .int
  | 16 => .array .int
  | 17 => .array .int
  | 18 => .array .int
  | 19 => .array .int
  | 20 => .int
  | 21 => .array .int
  | 22 => .array .int
  | 23 => .int
  | 24 => .int
  | 25 => .int
  | 26 => .int
  | 27 => .long
  | 28 => .int
  | 29 => .int
  | 30 => .boolean
  | 31 => .int
  | 32 => .int
  | 33 => .int
  | 34 => .array .int
  | 35 => .array .int
  | 36 => .array .int
  | 37 => .array .int
  | 38 => .boolean
  | 39 => .int
  | 40 => .int
  | 41 => .int
  | 42 => .array .boolean
  | 43 => .array .int
  | 44 => .array .int
  | _ => .array .int
theorem nmX10 : ∀ a, a < 46 → ∀ b, b < 46 → a ≠ b → (TX10 a).2.1 ≠ (TX10 b).2.1 := by decide +kernel
theorem tyX10_ok : ∀ k, k < 46 → parseFieldDescriptor (TX10 k).2.2.1 = some (tyX10 k) := by decide +kernel
abbrev cX10_in : ByteArray := prog_12_method_2_code
def yX10_in : MethodName := ⟨RX10, "in", "(JJJ)Z"⟩
abbrev cX10_init : ByteArray := prog_12_method_3_code
def yX10_init : MethodName := ⟨RX10, "<init>", "()V"⟩
abbrev cX10_spell : ByteArray := prog_12_method_4_code
def yX10_spell : MethodName := ⟨RX10, "spell", "(IJ)V"⟩
abbrev cX10_isCargo : ByteArray := prog_12_method_5_code
def yX10_isCargo : MethodName := ⟨RX10, "isCargo", "(I)Z"⟩
abbrev cX10_isSale : ByteArray := prog_12_method_6_code
def yX10_isSale : MethodName := ⟨RX10, "isSale", "(I)Z"⟩
abbrev cX10_isHand : ByteArray := prog_12_method_7_code
def yX10_isHand : MethodName := ⟨RX10, "isHand", "(I)Z"⟩
abbrev cX10_isHour : ByteArray := prog_12_method_8_code
def yX10_isHour : MethodName := ⟨RX10, "isHour", "(I)Z"⟩
abbrev cX10_cargo : ByteArray := prog_12_method_9_code
def yX10_cargo : MethodName := ⟨RX10, "cargo", "(II)I"⟩
abbrev cX10_hour : ByteArray := prog_12_method_10_code
def yX10_hour : MethodName := ⟨RX10, "hour", "(III)I"⟩
abbrev cX10_sale : ByteArray := prog_12_method_11_code
def yX10_sale : MethodName := ⟨RX10, "sale", "(IIIII)I"⟩
abbrev cX10_paper : ByteArray := prog_12_method_12_code
def yX10_paper : MethodName := ⟨RX10, "paper", "(II)I"⟩
abbrev cX10_pay : ByteArray := prog_12_method_13_code
def yX10_pay : MethodName := ⟨RX10, "pay", "(II)I"⟩
abbrev cX10_later : ByteArray := prog_12_method_14_code
def yX10_later : MethodName := ⟨RX10, "later", "(II)I"⟩
abbrev cX10_thingBy : ByteArray := prog_12_method_15_code
def yX10_thingBy : MethodName := ⟨RX10, "thingBy", "(II)I"⟩
abbrev cX10_lossBy : ByteArray := prog_12_method_16_code
def yX10_lossBy : MethodName := ⟨RX10, "lossBy", "(II)I"⟩
abbrev cX10_passes : ByteArray := prog_12_method_17_code
def yX10_passes : MethodName := ⟨RX10, "passes", "(II)I"⟩
abbrev cX10_told : ByteArray := prog_12_method_18_code
def yX10_told : MethodName := ⟨RX10, "told", "(II)I"⟩
abbrev cX10_lays : ByteArray := prog_12_method_19_code
def yX10_lays : MethodName := ⟨RX10, "lays", "(III)V"⟩
abbrev cX10_ahead : ByteArray := prog_12_method_20_code
def yX10_ahead : MethodName := ⟨RX10, "ahead", "()I"⟩
abbrev cX10_whose : ByteArray := prog_12_method_21_code
def yX10_whose : MethodName := ⟨RX10, "whose", "(IIII)I"⟩
abbrev cX10_common : ByteArray := prog_12_method_22_code
def yX10_common : MethodName := ⟨RX10, "common", "(JJ)J"⟩
abbrev cX10_falls : ByteArray := prog_12_method_23_code
def yX10_falls : MethodName := ⟨RX10, "falls", "(IIII)J"⟩
abbrev cX10_between : ByteArray := prog_12_method_24_code
def yX10_between : MethodName := ⟨RX10, "between", "(IIII)I"⟩
abbrev cX10_feed : ByteArray := prog_12_method_25_code
def yX10_feed : MethodName := ⟨RX10, "feed", "(IJ)I"⟩
abbrev cX10_byteAt : ByteArray := prog_12_method_26_code
def yX10_byteAt : MethodName := ⟨RX10, "byteAt", "(I)I"⟩
abbrev cX10_next : ByteArray := prog_12_method_27_code
def yX10_next : MethodName := ⟨RX10, "next", "()V"⟩
abbrev cX10_fail : ByteArray := prog_12_method_28_code
def yX10_fail : MethodName := ⟨RX10, "fail", "()V"⟩
abbrev cX10_isWord : ByteArray := prog_12_method_29_code
def yX10_isWord : MethodName := ⟨RX10, "isWord", "(J)Z"⟩
abbrev cX10_isSign : ByteArray := prog_12_method_30_code
def yX10_isSign : MethodName := ⟨RX10, "isSign", "(I)Z"⟩
abbrev cX10_opens : ByteArray := prog_12_method_31_code
def yX10_opens : MethodName := ⟨RX10, "opens", "()Z"⟩
abbrev cX10_name : ByteArray := prog_12_method_32_code
def yX10_name : MethodName := ⟨RX10, "name", "()I"⟩
abbrev cX10_one : ByteArray := prog_12_method_33_code
def yX10_one : MethodName := ⟨RX10, "one", "()I"⟩
abbrev cX10_term : ByteArray := prog_12_method_34_code
def yX10_term : MethodName := ⟨RX10, "term", "()I"⟩
abbrev cX10_added : ByteArray := prog_12_method_35_code
def yX10_added : MethodName := ⟨RX10, "added", "()I"⟩
abbrev cX10_not : ByteArray := prog_12_method_36_code
def yX10_not : MethodName := ⟨RX10, "not", "()I"⟩
abbrev cX10_both : ByteArray := prog_12_method_37_code
def yX10_both : MethodName := ⟨RX10, "both", "()I"⟩
abbrev cX10_either : ByteArray := prog_12_method_38_code
def yX10_either : MethodName := ⟨RX10, "either", "()I"⟩
abbrev cX10_part : ByteArray := prog_12_method_39_code
def yX10_part : MethodName := ⟨RX10, "part", "(J)I"⟩
abbrev cX10_read : ByteArray := prog_12_method_40_code
def yX10_read : MethodName := ⟨RX10, "read", "(IIII)I"⟩
abbrev cX10_text : ByteArray := prog_12_method_41_code
def yX10_text : MethodName := ⟨RX10, "text", "()I"⟩
abbrev cX10_force : ByteArray := prog_12_method_42_code
def yX10_force : MethodName := ⟨RX10, "force", "(I)I"⟩
abbrev cX10_dueOf : ByteArray := prog_12_method_43_code
def yX10_dueOf : MethodName := ⟨RX10, "dueOf", "(I)I"⟩
abbrev cX10_within : ByteArray := prog_12_method_44_code
def yX10_within : MethodName := ⟨RX10, "within", "(III)I"⟩
abbrev cX10_owesOf : ByteArray := prog_12_method_45_code
def yX10_owesOf : MethodName := ⟨RX10, "owesOf", "(II)J"⟩
abbrev cX10_owes : ByteArray := prog_12_method_46_code
def yX10_owes : MethodName := ⟨RX10, "owes", "(II)J"⟩
abbrev cX10_balance : ByteArray := prog_12_method_47_code
def yX10_balance : MethodName := ⟨RX10, "balance", "(II)J"⟩
abbrev cX10_areSales : ByteArray := prog_12_method_48_code
def yX10_areSales : MethodName := ⟨RX10, "areSales", "(I)Z"⟩
abbrev cX10_reached : ByteArray := prog_12_method_49_code
def yX10_reached : MethodName := ⟨RX10, "reached", "(II)I"⟩
abbrev cX10_isRing : ByteArray := prog_12_method_50_code
def yX10_isRing : MethodName := ⟨RX10, "isRing", "(I)Z"⟩
abbrev cX10_closes : ByteArray := prog_12_method_51_code
def yX10_closes : MethodName := ⟨RX10, "closes", "(I)I"⟩
abbrev cX10_differ : ByteArray := prog_12_method_52_code
def yX10_differ : MethodName := ⟨RX10, "differ", "(II)J"⟩
abbrev cX10_bitsOf : ByteArray := prog_12_method_53_code
def yX10_bitsOf : MethodName := ⟨RX10, "bitsOf", "(I)I"⟩
abbrev cX10_found : ByteArray := prog_12_method_54_code
def yX10_found : MethodName := ⟨RX10, "found", "(I)I"⟩
abbrev cX10_loses : ByteArray := prog_12_method_55_code
def yX10_loses : MethodName := ⟨RX10, "loses", "(II)J"⟩
abbrev cX10_stops : ByteArray := prog_12_method_56_code
def yX10_stops : MethodName := ⟨RX10, "stops", "(II)I"⟩
abbrev cX10_over : ByteArray := prog_12_method_57_code
def yX10_over : MethodName := ⟨RX10, "over", "(I)I"⟩
abbrev cX10_isUnder : ByteArray := prog_12_method_58_code
def yX10_isUnder : MethodName := ⟨RX10, "isUnder", "(II)Z"⟩
abbrev cX10_two : ByteArray := prog_12_method_59_code
def yX10_two : MethodName := ⟨RX10, "two", "(III)I"⟩
abbrev cX10_keeps : ByteArray := prog_12_method_60_code
def yX10_keeps : MethodName := ⟨RX10, "keeps", "(II)V"⟩
abbrev cX10_change : ByteArray := prog_12_method_61_code
def yX10_change : MethodName := ⟨RX10, "change", "(II)I"⟩
abbrev cX10_hangs : ByteArray := prog_12_method_62_code
def yX10_hangs : MethodName := ⟨RX10, "hangs", "(III)I"⟩
abbrev cX10_moves : ByteArray := prog_12_method_63_code
def yX10_moves : MethodName := ⟨RX10, "moves", "(III)J"⟩
abbrev cX10_telegraph : ByteArray := prog_12_method_64_code
def yX10_telegraph : MethodName := ⟨RX10, "telegraph", "(II)I"⟩
abbrev cX10_image : ByteArray := prog_12_method_65_code
def yX10_image : MethodName := ⟨RX10, "image", "()I"⟩
abbrev cX10_back : ByteArray := prog_12_method_66_code
def yX10_back : MethodName := ⟨RX10, "back", "()I"⟩
abbrev cX10_count : ByteArray := prog_12_method_67_code
def yX10_count : MethodName := ⟨RX10, "count", "(I)I"⟩
abbrev cX10_isSheet : ByteArray := prog_12_method_68_code
def yX10_isSheet : MethodName := ⟨RX10, "isSheet", "(I)Z"⟩
abbrev cX10_sheet : ByteArray := prog_12_method_69_code
def yX10_sheet : MethodName := ⟨RX10, "sheet", "(III)I"⟩
abbrev cX10_cell : ByteArray := prog_12_method_70_code
def yX10_cell : MethodName := ⟨RX10, "cell", "(III)I"⟩
abbrev cX10_copy : ByteArray := prog_12_method_71_code
def yX10_copy : MethodName := ⟨RX10, "copy", "(IIIII)I"⟩
abbrev cX10_sales : ByteArray := prog_12_method_72_code
def yX10_sales : MethodName := ⟨RX10, "sales", "(IIII)I"⟩
abbrev cX10_taken : ByteArray := prog_12_method_73_code
def yX10_taken : MethodName := ⟨RX10, "taken", "(II)I"⟩
def RJx145de : String := "java/io/Serializable"
def TJx145de : u_T := fun k => match k with
  | _ => ("", "", "", false)
def tyJx145de : Nat → FieldType := fun k => match k with
  | _ => .int
theorem nmJx145de : ∀ a, a < 0 → ∀ b, b < 0 → a ≠ b → (TJx145de a).2.1 ≠ (TJx145de b).2.1 := by decide +kernel
theorem tyJx145de_ok : ∀ k, k < 0 → parseFieldDescriptor (TJx145de k).2.2.1 = some (tyJx145de k) := by decide +kernel
def RJx9f9b0 : String := "java/lang/CharSequence"
def TJx9f9b0 : u_T := fun k => match k with
  | _ => ("", "", "", false)
def tyJx9f9b0 : Nat → FieldType := fun k => match k with
  | _ => .int
theorem nmJx9f9b0 : ∀ a, a < 0 → ∀ b, b < 0 → a ≠ b → (TJx9f9b0 a).2.1 ≠ (TJx9f9b0 b).2.1 := by decide +kernel
theorem tyJx9f9b0_ok : ∀ k, k < 0 → parseFieldDescriptor (TJx9f9b0 k).2.2.1 = some (tyJx9f9b0 k) := by decide +kernel
def RJ11 : String := "java/lang/Character"
def TJ11 : u_T := fun k => match k with
  | _ => ("", "", "", false)
def tyJ11 : Nat → FieldType := fun k => match k with
  | _ => .int
theorem nmJ11 : ∀ a, a < 0 → ∀ b, b < 0 → a ≠ b → (TJ11 a).2.1 ≠ (TJ11 b).2.1 := by decide +kernel
theorem tyJ11_ok : ∀ k, k < 0 → parseFieldDescriptor (TJ11 k).2.2.1 = some (tyJ11 k) := by decide +kernel
abbrev cJ11_isValidCodePoint_9a6ad : ByteArray := prog_13_method_11_code
def yJ11_isValidCodePoint_9a6ad : MethodName := ⟨RJ11, "isValidCodePoint", "(I)Z"⟩
abbrev cJ11_highSurrogate_5068e : ByteArray := prog_13_method_28_code
def yJ11_highSurrogate_5068e : MethodName := ⟨RJ11, "highSurrogate", "(I)C"⟩
abbrev cJ11_lowSurrogate_5068e : ByteArray := prog_13_method_29_code
def yJ11_lowSurrogate_5068e : MethodName := ⟨RJ11, "lowSurrogate", "(I)C"⟩
def RJx8e188 : String := "java/lang/Cloneable"
def TJx8e188 : u_T := fun k => match k with
  | _ => ("", "", "", false)
def tyJx8e188 : Nat → FieldType := fun k => match k with
  | _ => .int
theorem nmJx8e188 : ∀ a, a < 0 → ∀ b, b < 0 → a ≠ b → (TJx8e188 a).2.1 ≠ (TJx8e188 b).2.1 := by decide +kernel
theorem tyJx8e188_ok : ∀ k, k < 0 → parseFieldDescriptor (TJx8e188 k).2.2.1 = some (tyJx8e188 k) := by decide +kernel
def RJxb160c : String := "java/lang/Comparable"
def TJxb160c : u_T := fun k => match k with
  | _ => ("", "", "", false)
def tyJxb160c : Nat → FieldType := fun k => match k with
  | _ => .int
theorem nmJxb160c : ∀ a, a < 0 → ∀ b, b < 0 → a ≠ b → (TJxb160c a).2.1 ≠ (TJxb160c b).2.1 := by decide +kernel
theorem tyJxb160c_ok : ∀ k, k < 0 → parseFieldDescriptor (TJxb160c k).2.2.1 = some (tyJxb160c k) := by decide +kernel
def RJ6 : String := "java/lang/Integer"
def TJ6 : u_T := fun k => match k with
  | _ => ("", "", "", false)
def tyJ6 : Nat → FieldType := fun k => match k with
  | _ => .int
theorem nmJ6 : ∀ a, a < 0 → ∀ b, b < 0 → a ≠ b → (TJ6 a).2.1 ≠ (TJ6 b).2.1 := by decide +kernel
theorem tyJ6_ok : ∀ k, k < 0 → parseFieldDescriptor (TJ6 k).2.2.1 = some (tyJ6 k) := by decide +kernel
abbrev cJ6_bitCount_0f7a4 : ByteArray := prog_15_method_49_code
def yJ6_bitCount_0f7a4 : MethodName := ⟨RJ6, "bitCount", "(I)I"⟩
def RJ9 : String := "java/lang/Math"
def TJ9 : u_T := fun k => match k with
  | _ => ("", "", "", false)
def tyJ9 : Nat → FieldType := fun k => match k with
  | _ => .int
theorem nmJ9 : ∀ a, a < 0 → ∀ b, b < 0 → a ≠ b → (TJ9 a).2.1 ≠ (TJ9 b).2.1 := by decide +kernel
theorem tyJ9_ok : ∀ k, k < 0 → parseFieldDescriptor (TJ9 k).2.2.1 = some (tyJ9 k) := by decide +kernel
abbrev cJ9_abs_0f7a4 : ByteArray := prog_16_method_59_code
def yJ9_abs_0f7a4 : MethodName := ⟨RJ9, "abs", "(I)I"⟩
abbrev cJ9_max_7cf53 : ByteArray := prog_16_method_65_code
def yJ9_max_7cf53 : MethodName := ⟨RJ9, "max", "(II)I"⟩
abbrev cJ9_max_f86c9 : ByteArray := prog_16_method_66_code
def yJ9_max_f86c9 : MethodName := ⟨RJ9, "max", "(JJ)J"⟩
abbrev cJ9_min_7cf53 : ByteArray := prog_16_method_69_code
def yJ9_min_7cf53 : MethodName := ⟨RJ9, "min", "(II)I"⟩
def RJ0 : String := "java/lang/String"
def TJ0 : u_T := fun k => match k with
  | _ => ("", "", "", false)
def tyJ0 : Nat → FieldType := fun k => match k with
  | _ => .int
theorem nmJ0 : ∀ a, a < 0 → ∀ b, b < 0 → a ≠ b → (TJ0 a).2.1 ≠ (TJ0 b).2.1 := by decide +kernel
theorem tyJ0_ok : ∀ k, k < 0 → parseFieldDescriptor (TJ0 k).2.2.1 = some (tyJ0 k) := by decide +kernel
abbrev cJ0_length_8abf5 : ByteArray := prog_17_method_54_code
def yJ0_length_8abf5 : MethodName := ⟨RJ0, "length", "()I"⟩
abbrev cJ0_charAt_5068e : ByteArray := prog_17_method_56_code
def yJ0_charAt_5068e : MethodName := ⟨RJ0, "charAt", "(I)C"⟩
abbrev cJ0_indexOf_0f7a4 : ByteArray := prog_17_method_79_code
def yJ0_indexOf_0f7a4 : MethodName := ⟨RJ0, "indexOf", "(I)I"⟩
abbrev cJ0_indexOf_7cf53 : ByteArray := prog_17_method_80_code
def yJ0_indexOf_7cf53 : MethodName := ⟨RJ0, "indexOf", "(II)I"⟩
abbrev cJ0_coder_7d493 : ByteArray := prog_17_method_152_code
def yJ0_coder_7d493 : MethodName := ⟨RJ0, "coder", "()B"⟩
abbrev cJ0_isLatin1_aae02 : ByteArray := prog_17_method_154_code
def yJ0_isLatin1_aae02 : MethodName := ⟨RJ0, "isLatin1", "()Z"⟩
abbrev cJ0_checkIndex_df160 : ByteArray := prog_17_method_155_code
def yJ0_checkIndex_df160 : MethodName := ⟨RJ0, "checkIndex", "(II)V"⟩
abbrev cJ0_checkBoundsBeginEnd_23922 : ByteArray := prog_17_method_158_code
def yJ0_checkBoundsBeginEnd_23922 : MethodName := ⟨RJ0, "checkBoundsBeginEnd", "(III)V"⟩
def RJ1 : String := "java/lang/StringLatin1"
def TJ1 : u_T := fun k => match k with
  | _ => ("", "", "", false)
def tyJ1 : Nat → FieldType := fun k => match k with
  | _ => .int
theorem nmJ1 : ∀ a, a < 0 → ∀ b, b < 0 → a ≠ b → (TJ1 a).2.1 ≠ (TJ1 b).2.1 := by decide +kernel
theorem tyJ1_ok : ∀ k, k < 0 → parseFieldDescriptor (TJ1 k).2.2.1 = some (tyJ1 k) := by decide +kernel
abbrev cJ1_charAt_3b067 : ByteArray := prog_18_method_2_code
def yJ1_charAt_3b067 : MethodName := ⟨RJ1, "charAt", "([BI)C"⟩
abbrev cJ1_canEncode_9a6ad : ByteArray := prog_18_method_4_code
def yJ1_canEncode_9a6ad : MethodName := ⟨RJ1, "canEncode", "(I)Z"⟩
abbrev cJ1_indexOf_4cfef : ByteArray := prog_18_method_22_code
def yJ1_indexOf_4cfef : MethodName := ⟨RJ1, "indexOf", "([BIII)I"⟩
abbrev cJ1_indexOfChar_4cfef : ByteArray := prog_18_method_23_code
def yJ1_indexOfChar_4cfef : MethodName := ⟨RJ1, "indexOfChar", "([BIII)I"⟩
def RJ2 : String := "java/lang/StringUTF16"
def TJ2 : u_T := fun k => match k with
  | _ => ("", "", "", false)
def tyJ2 : Nat → FieldType := fun k => match k with
  | _ => .int
theorem nmJ2 : ∀ a, a < 0 → ∀ b, b < 0 → a ≠ b → (TJ2 a).2.1 ≠ (TJ2 b).2.1 := by decide +kernel
theorem tyJ2_ok : ∀ k, k < 0 → parseFieldDescriptor (TJ2 k).2.2.1 = some (tyJ2 k) := by decide +kernel
abbrev cJ2_getChar_3b067 : ByteArray := prog_19_method_5_code
def yJ2_getChar_3b067 : MethodName := ⟨RJ2, "getChar", "([BI)C"⟩
abbrev cJ2_length_9d52b : ByteArray := prog_19_method_6_code
def yJ2_length_9d52b : MethodName := ⟨RJ2, "length", "([B)I"⟩
abbrev cJ2_indexOf_4cfef : ByteArray := prog_19_method_40_code
def yJ2_indexOf_4cfef : MethodName := ⟨RJ2, "indexOf", "([BIII)I"⟩
abbrev cJ2_indexOfChar_4cfef : ByteArray := prog_19_method_47_code
def yJ2_indexOfChar_4cfef : MethodName := ⟨RJ2, "indexOfChar", "([BIII)I"⟩
abbrev cJ2_indexOfCharUnsafe_4cfef : ByteArray := prog_19_method_48_code
def yJ2_indexOfCharUnsafe_4cfef : MethodName := ⟨RJ2, "indexOfCharUnsafe", "([BIII)I"⟩
abbrev cJ2_indexOfSupplementary_4cfef : ByteArray := prog_19_method_49_code
def yJ2_indexOfSupplementary_4cfef : MethodName := ⟨RJ2, "indexOfSupplementary", "([BIII)I"⟩
abbrev cJ2_charAt_3b067 : ByteArray := prog_19_method_83_code
def yJ2_charAt_3b067 : MethodName := ⟨RJ2, "charAt", "([BI)C"⟩
abbrev cJ2_checkIndex_2214a : ByteArray := prog_19_method_91_code
def yJ2_checkIndex_2214a : MethodName := ⟨RJ2, "checkIndex", "(I[B)V"⟩
abbrev cJ2_checkBoundsBeginEnd_d044e : ByteArray := prog_19_method_93_code
def yJ2_checkBoundsBeginEnd_d044e : MethodName := ⟨RJ2, "checkBoundsBeginEnd", "(II[B)V"⟩
def RJ10 : String := "java/lang/System"
def TJ10 : u_T := fun k => match k with
  | _ => ("", "", "", false)
def tyJ10 : Nat → FieldType := fun k => match k with
  | _ => .int
theorem nmJ10 : ∀ a, a < 0 → ∀ b, b < 0 → a ≠ b → (TJ10 a).2.1 ≠ (TJ10 b).2.1 := by decide +kernel
theorem tyJ10_ok : ∀ k, k < 0 → parseFieldDescriptor (TJ10 k).2.2.1 = some (tyJ10 k) := by decide +kernel
def RJxfd54e : String := "java/lang/constant/Constable"
def TJxfd54e : u_T := fun k => match k with
  | _ => ("", "", "", false)
def tyJxfd54e : Nat → FieldType := fun k => match k with
  | _ => .int
theorem nmJxfd54e : ∀ a, a < 0 → ∀ b, b < 0 → a ≠ b → (TJxfd54e a).2.1 ≠ (TJxfd54e b).2.1 := by decide +kernel
theorem tyJxfd54e_ok : ∀ k, k < 0 → parseFieldDescriptor (TJxfd54e k).2.2.1 = some (tyJxfd54e k) := by decide +kernel
def RJx3cf43 : String := "java/lang/constant/ConstantDesc"
def TJx3cf43 : u_T := fun k => match k with
  | _ => ("", "", "", false)
def tyJx3cf43 : Nat → FieldType := fun k => match k with
  | _ => .int
theorem nmJx3cf43 : ∀ a, a < 0 → ∀ b, b < 0 → a ≠ b → (TJx3cf43 a).2.1 ≠ (TJx3cf43 b).2.1 := by decide +kernel
theorem tyJx3cf43_ok : ∀ k, k < 0 → parseFieldDescriptor (TJx3cf43 k).2.2.1 = some (tyJx3cf43 k) := by decide +kernel
def RJ7 : String := "java/util/Arrays"
def TJ7 : u_T := fun k => match k with
  | _ => ("", "", "", false)
def tyJ7 : Nat → FieldType := fun k => match k with
  | _ => .int
theorem nmJ7 : ∀ a, a < 0 → ∀ b, b < 0 → a ≠ b → (TJ7 a).2.1 ≠ (TJ7 b).2.1 := by decide +kernel
theorem tyJ7_ok : ∀ k, k < 0 → parseFieldDescriptor (TJ7 k).2.2.1 = some (tyJ7 k) := by decide +kernel
abbrev cJ7_fill_53178 : ByteArray := prog_21_method_103_code
def yJ7_fill_53178 : MethodName := ⟨RJ7, "fill", "([II)V"⟩
abbrev cJ7_copyOf_59c91 : ByteArray := prog_21_method_123_code
def yJ7_copyOf_59c91 : MethodName := ⟨RJ7, "copyOf", "([II)[I"⟩
def RJ3 : String := "jdk/internal/util/Preconditions"
def TJ3 : u_T := fun k => match k with
  | _ => ("", "", "", false)
def tyJ3 : Nat → FieldType := fun k => match k with
  | _ => .int
theorem nmJ3 : ∀ a, a < 0 → ∀ b, b < 0 → a ≠ b → (TJ3 a).2.1 ≠ (TJ3 b).2.1 := by decide +kernel
theorem tyJ3_ok : ∀ k, k < 0 → parseFieldDescriptor (TJ3 k).2.2.1 = some (tyJ3 k) := by decide +kernel
abbrev cJ3_checkIndex_8e157 : ByteArray := prog_22_method_11_code
def yJ3_checkIndex_8e157 : MethodName := ⟨RJ3, "checkIndex", "(IILjava/util/function/BiFunction;)I"⟩
abbrev cJ3_checkFromToIndex_8c36e : ByteArray := prog_22_method_12_code
def yJ3_checkFromToIndex_8c36e : MethodName := ⟨RJ3, "checkFromToIndex", "(IIILjava/util/function/BiFunction;)I"⟩
def RL : String := "RailCargoLaw"
abbrev cL_law : ByteArray := code
def yL_law : MethodName := ⟨RL, "law", "([I)Z"⟩
abbrev vwCl : List vw_C := [(RX0, TX0, 5), (RX1, TX1, 5), (RX2, TX2, 10), (RX3, TX3, 2), (RX4, TX4, 4), (RX5, TX5, 11), (RX6, TX6, 3), (RX7, TX7, 2), (RX9, TX9, 17), (RX10, TX10, 46)]
end
section
theorem dJ0_length_8abf5_0 : decode cJ0_length_8abf5 0 = .ok (.aload_n 0, 1) := by decide +kernel
theorem dJ0_length_8abf5_1 : decode cJ0_length_8abf5 1 = .ok (.getfield 9, 3) := by decide +kernel
theorem dJ0_length_8abf5_4 : decode cJ0_length_8abf5 4 = .ok (.arraylength, 1) := by decide +kernel
theorem dJ0_length_8abf5_5 : decode cJ0_length_8abf5 5 = .ok (.aload_n 0, 1) := by decide +kernel
theorem dJ0_length_8abf5_6 : decode cJ0_length_8abf5 6 = .ok (.invokevirtual 335, 3) := by decide +kernel
theorem dJ0_length_8abf5_9 : decode cJ0_length_8abf5 9 = .ok (.ishr, 1) := by decide +kernel
theorem dJ0_length_8abf5_10 : decode cJ0_length_8abf5 10 = .ok (.ireturn, 1) := by decide +kernel
theorem dJ0_charAt_5068e_0 : decode cJ0_charAt_5068e 0 = .ok (.aload_n 0, 1) := by decide +kernel
theorem dJ0_charAt_5068e_1 : decode cJ0_charAt_5068e 1 = .ok (.invokevirtual 492, 3) := by decide +kernel
theorem dJ0_charAt_5068e_4 : decode cJ0_charAt_5068e 4 = .ok (.ifCond .eq 12, 3) := by decide +kernel
theorem dJ0_charAt_5068e_7 : decode cJ0_charAt_5068e 7 = .ok (.aload_n 0, 1) := by decide +kernel
theorem dJ0_charAt_5068e_8 : decode cJ0_charAt_5068e 8 = .ok (.getfield 9, 3) := by decide +kernel
theorem dJ0_charAt_5068e_11 : decode cJ0_charAt_5068e 11 = .ok (.iload_n 1, 1) := by decide +kernel
theorem dJ0_charAt_5068e_12 : decode cJ0_charAt_5068e 12 = .ok (.invokestatic 495, 3) := by decide +kernel
theorem dJ0_charAt_5068e_15 : decode cJ0_charAt_5068e 15 = .ok (.ireturn, 1) := by decide +kernel
theorem dJ0_charAt_5068e_16 : decode cJ0_charAt_5068e 16 = .ok (.aload_n 0, 1) := by decide +kernel
theorem dJ0_charAt_5068e_17 : decode cJ0_charAt_5068e 17 = .ok (.getfield 9, 3) := by decide +kernel
theorem dJ0_charAt_5068e_20 : decode cJ0_charAt_5068e 20 = .ok (.iload_n 1, 1) := by decide +kernel
theorem dJ0_charAt_5068e_21 : decode cJ0_charAt_5068e 21 = .ok (.invokestatic 498, 3) := by decide +kernel
theorem dJ0_charAt_5068e_24 : decode cJ0_charAt_5068e 24 = .ok (.ireturn, 1) := by decide +kernel
theorem dJ0_indexOf_0f7a4_0 : decode cJ0_indexOf_0f7a4 0 = .ok (.aload_n 0, 1) := by decide +kernel
theorem dJ0_indexOf_0f7a4_1 : decode cJ0_indexOf_0f7a4 1 = .ok (.iload_n 1, 1) := by decide +kernel
theorem dJ0_indexOf_0f7a4_2 : decode cJ0_indexOf_0f7a4 2 = .ok (.iconst 0, 1) := by decide +kernel
theorem dJ0_indexOf_0f7a4_3 : decode cJ0_indexOf_0f7a4 3 = .ok (.invokevirtual 633, 3) := by decide +kernel
theorem dJ0_indexOf_0f7a4_6 : decode cJ0_indexOf_0f7a4 6 = .ok (.ireturn, 1) := by decide +kernel
theorem dJ0_indexOf_7cf53_0 : decode cJ0_indexOf_7cf53 0 = .ok (.aload_n 0, 1) := by decide +kernel
theorem dJ0_indexOf_7cf53_1 : decode cJ0_indexOf_7cf53 1 = .ok (.invokevirtual 492, 3) := by decide +kernel
theorem dJ0_indexOf_7cf53_4 : decode cJ0_indexOf_7cf53 4 = .ok (.ifCond .eq 19, 3) := by decide +kernel
theorem dJ0_indexOf_7cf53_7 : decode cJ0_indexOf_7cf53 7 = .ok (.aload_n 0, 1) := by decide +kernel
theorem dJ0_indexOf_7cf53_8 : decode cJ0_indexOf_7cf53 8 = .ok (.getfield 9, 3) := by decide +kernel
theorem dJ0_indexOf_7cf53_11 : decode cJ0_indexOf_7cf53 11 = .ok (.iload_n 1, 1) := by decide +kernel
theorem dJ0_indexOf_7cf53_12 : decode cJ0_indexOf_7cf53 12 = .ok (.iload_n 2, 1) := by decide +kernel
theorem dJ0_indexOf_7cf53_13 : decode cJ0_indexOf_7cf53 13 = .ok (.aload_n 0, 1) := by decide +kernel
theorem dJ0_indexOf_7cf53_14 : decode cJ0_indexOf_7cf53 14 = .ok (.invokevirtual 505, 3) := by decide +kernel
theorem dJ0_indexOf_7cf53_17 : decode cJ0_indexOf_7cf53 17 = .ok (.invokestatic 637, 3) := by decide +kernel
theorem dJ0_indexOf_7cf53_20 : decode cJ0_indexOf_7cf53 20 = .ok (.goto 16, 3) := by decide +kernel
theorem dJ0_indexOf_7cf53_23 : decode cJ0_indexOf_7cf53 23 = .ok (.aload_n 0, 1) := by decide +kernel
theorem dJ0_indexOf_7cf53_24 : decode cJ0_indexOf_7cf53 24 = .ok (.getfield 9, 3) := by decide +kernel
theorem dJ0_indexOf_7cf53_27 : decode cJ0_indexOf_7cf53 27 = .ok (.iload_n 1, 1) := by decide +kernel
theorem dJ0_indexOf_7cf53_28 : decode cJ0_indexOf_7cf53 28 = .ok (.iload_n 2, 1) := by decide +kernel
theorem dJ0_indexOf_7cf53_29 : decode cJ0_indexOf_7cf53 29 = .ok (.aload_n 0, 1) := by decide +kernel
theorem dJ0_indexOf_7cf53_30 : decode cJ0_indexOf_7cf53 30 = .ok (.invokevirtual 505, 3) := by decide +kernel
theorem dJ0_indexOf_7cf53_33 : decode cJ0_indexOf_7cf53 33 = .ok (.invokestatic 640, 3) := by decide +kernel
theorem dJ0_indexOf_7cf53_36 : decode cJ0_indexOf_7cf53 36 = .ok (.ireturn, 1) := by decide +kernel
theorem dJ0_coder_7d493_0 : decode cJ0_coder_7d493 0 = .ok (.getstatic 38, 3) := by decide +kernel
theorem dJ0_coder_7d493_3 : decode cJ0_coder_7d493 3 = .ok (.ifCond .eq 10, 3) := by decide +kernel
theorem dJ0_coder_7d493_6 : decode cJ0_coder_7d493 6 = .ok (.aload_n 0, 1) := by decide +kernel
theorem dJ0_coder_7d493_7 : decode cJ0_coder_7d493 7 = .ok (.getfield 15, 3) := by decide +kernel
theorem dJ0_coder_7d493_10 : decode cJ0_coder_7d493 10 = .ok (.goto 4, 3) := by decide +kernel
theorem dJ0_coder_7d493_13 : decode cJ0_coder_7d493 13 = .ok (.iconst 1, 1) := by decide +kernel
theorem dJ0_coder_7d493_14 : decode cJ0_coder_7d493 14 = .ok (.ireturn, 1) := by decide +kernel
theorem dJ0_isLatin1_aae02_0 : decode cJ0_isLatin1_aae02 0 = .ok (.getstatic 38, 3) := by decide +kernel
theorem dJ0_isLatin1_aae02_3 : decode cJ0_isLatin1_aae02 3 = .ok (.ifCond .eq 14, 3) := by decide +kernel
theorem dJ0_isLatin1_aae02_6 : decode cJ0_isLatin1_aae02 6 = .ok (.aload_n 0, 1) := by decide +kernel
theorem dJ0_isLatin1_aae02_7 : decode cJ0_isLatin1_aae02 7 = .ok (.getfield 15, 3) := by decide +kernel
theorem dJ0_isLatin1_aae02_10 : decode cJ0_isLatin1_aae02 10 = .ok (.ifCond .ne 7, 3) := by decide +kernel
theorem dJ0_isLatin1_aae02_13 : decode cJ0_isLatin1_aae02 13 = .ok (.iconst 1, 1) := by decide +kernel
theorem dJ0_isLatin1_aae02_14 : decode cJ0_isLatin1_aae02 14 = .ok (.goto 4, 3) := by decide +kernel
theorem dJ0_isLatin1_aae02_17 : decode cJ0_isLatin1_aae02 17 = .ok (.iconst 0, 1) := by decide +kernel
theorem dJ0_isLatin1_aae02_18 : decode cJ0_isLatin1_aae02 18 = .ok (.ireturn, 1) := by decide +kernel
theorem dJ0_checkIndex_df160_0 : decode cJ0_checkIndex_df160 0 = .ok (.iload_n 0, 1) := by decide +kernel
theorem dJ0_checkIndex_df160_1 : decode cJ0_checkIndex_df160 1 = .ok (.iload_n 1, 1) := by decide +kernel
theorem dJ0_checkIndex_df160_2 : decode cJ0_checkIndex_df160 2 = .ok (.getstatic 1053, 3) := by decide +kernel
theorem dJ0_checkIndex_df160_5 : decode cJ0_checkIndex_df160 5 = .ok (.invokestatic 1059, 3) := by decide +kernel
theorem dJ0_checkIndex_df160_8 : decode cJ0_checkIndex_df160 8 = .ok (.pop, 1) := by decide +kernel
theorem dJ0_checkIndex_df160_9 : decode cJ0_checkIndex_df160 9 = .ok (.return_, 1) := by decide +kernel
theorem dJ0_checkBoundsBeginEnd_23922_0 : decode cJ0_checkBoundsBeginEnd_23922 0 = .ok (.iload_n 0, 1) := by decide +kernel
theorem dJ0_checkBoundsBeginEnd_23922_1 : decode cJ0_checkBoundsBeginEnd_23922 1 = .ok (.iload_n 1, 1) := by decide +kernel
theorem dJ0_checkBoundsBeginEnd_23922_2 : decode cJ0_checkBoundsBeginEnd_23922 2 = .ok (.iload_n 2, 1) := by decide +kernel
theorem dJ0_checkBoundsBeginEnd_23922_3 : decode cJ0_checkBoundsBeginEnd_23922 3 = .ok (.getstatic 1053, 3) := by decide +kernel
theorem dJ0_checkBoundsBeginEnd_23922_6 : decode cJ0_checkBoundsBeginEnd_23922 6 = .ok (.invokestatic 1062, 3) := by decide +kernel
theorem dJ0_checkBoundsBeginEnd_23922_9 : decode cJ0_checkBoundsBeginEnd_23922 9 = .ok (.pop, 1) := by decide +kernel
theorem dJ0_checkBoundsBeginEnd_23922_10 : decode cJ0_checkBoundsBeginEnd_23922 10 = .ok (.return_, 1) := by decide +kernel
theorem dJ11_isValidCodePoint_9a6ad_0 : decode cJ11_isValidCodePoint_9a6ad 0 = .ok (.iload_n 0, 1) := by decide +kernel
theorem dJ11_isValidCodePoint_9a6ad_1 : decode cJ11_isValidCodePoint_9a6ad 1 = .ok (.bipush 16, 2) := by decide +kernel
theorem dJ11_isValidCodePoint_9a6ad_3 : decode cJ11_isValidCodePoint_9a6ad 3 = .ok (.iushr, 1) := by decide +kernel
theorem dJ11_isValidCodePoint_9a6ad_4 : decode cJ11_isValidCodePoint_9a6ad 4 = .ok (.istore_n 1, 1) := by decide +kernel
theorem dJ11_isValidCodePoint_9a6ad_5 : decode cJ11_isValidCodePoint_9a6ad 5 = .ok (.iload_n 1, 1) := by decide +kernel
theorem dJ11_isValidCodePoint_9a6ad_6 : decode cJ11_isValidCodePoint_9a6ad 6 = .ok (.bipush 17, 2) := by decide +kernel
theorem dJ11_isValidCodePoint_9a6ad_8 : decode cJ11_isValidCodePoint_9a6ad 8 = .ok (.if_icmp .ge 7, 3) := by decide +kernel
theorem dJ11_isValidCodePoint_9a6ad_11 : decode cJ11_isValidCodePoint_9a6ad 11 = .ok (.iconst 1, 1) := by decide +kernel
theorem dJ11_isValidCodePoint_9a6ad_12 : decode cJ11_isValidCodePoint_9a6ad 12 = .ok (.goto 4, 3) := by decide +kernel
theorem dJ11_isValidCodePoint_9a6ad_15 : decode cJ11_isValidCodePoint_9a6ad 15 = .ok (.iconst 0, 1) := by decide +kernel
theorem dJ11_isValidCodePoint_9a6ad_16 : decode cJ11_isValidCodePoint_9a6ad 16 = .ok (.ireturn, 1) := by decide +kernel
theorem dJ11_highSurrogate_5068e_0 : decode cJ11_highSurrogate_5068e 0 = .ok (.iload_n 0, 1) := by decide +kernel
theorem dJ11_highSurrogate_5068e_1 : decode cJ11_highSurrogate_5068e 1 = .ok (.bipush 10, 2) := by decide +kernel
theorem dJ11_highSurrogate_5068e_3 : decode cJ11_highSurrogate_5068e 3 = .ok (.iushr, 1) := by decide +kernel
theorem dJ11_highSurrogate_5068e_4 : decode cJ11_highSurrogate_5068e 4 = .ok (.ldc 110, 2) := by decide +kernel
theorem dJ11_highSurrogate_5068e_6 : decode cJ11_highSurrogate_5068e 6 = .ok (.iadd, 1) := by decide +kernel
theorem dJ11_highSurrogate_5068e_7 : decode cJ11_highSurrogate_5068e 7 = .ok (.i2c, 1) := by decide +kernel
theorem dJ11_highSurrogate_5068e_8 : decode cJ11_highSurrogate_5068e 8 = .ok (.ireturn, 1) := by decide +kernel
theorem dJ11_lowSurrogate_5068e_0 : decode cJ11_lowSurrogate_5068e 0 = .ok (.iload_n 0, 1) := by decide +kernel
theorem dJ11_lowSurrogate_5068e_1 : decode cJ11_lowSurrogate_5068e 1 = .ok (.sipush 1023, 3) := by decide +kernel
theorem dJ11_lowSurrogate_5068e_4 : decode cJ11_lowSurrogate_5068e 4 = .ok (.iand, 1) := by decide +kernel
theorem dJ11_lowSurrogate_5068e_5 : decode cJ11_lowSurrogate_5068e 5 = .ok (.ldc 76, 2) := by decide +kernel
theorem dJ11_lowSurrogate_5068e_7 : decode cJ11_lowSurrogate_5068e 7 = .ok (.iadd, 1) := by decide +kernel
theorem dJ11_lowSurrogate_5068e_8 : decode cJ11_lowSurrogate_5068e 8 = .ok (.i2c, 1) := by decide +kernel
theorem dJ11_lowSurrogate_5068e_9 : decode cJ11_lowSurrogate_5068e 9 = .ok (.ireturn, 1) := by decide +kernel
theorem dJ1_charAt_3b067_0 : decode cJ1_charAt_3b067 0 = .ok (.iload_n 1, 1) := by decide +kernel
theorem dJ1_charAt_3b067_1 : decode cJ1_charAt_3b067 1 = .ok (.aload_n 0, 1) := by decide +kernel
theorem dJ1_charAt_3b067_2 : decode cJ1_charAt_3b067 2 = .ok (.arraylength, 1) := by decide +kernel
theorem dJ1_charAt_3b067_3 : decode cJ1_charAt_3b067 3 = .ok (.invokestatic 9, 3) := by decide +kernel
theorem dJ1_charAt_3b067_6 : decode cJ1_charAt_3b067 6 = .ok (.aload_n 0, 1) := by decide +kernel
theorem dJ1_charAt_3b067_7 : decode cJ1_charAt_3b067 7 = .ok (.iload_n 1, 1) := by decide +kernel
theorem dJ1_charAt_3b067_8 : decode cJ1_charAt_3b067 8 = .ok (.baload, 1) := by decide +kernel
theorem dJ1_charAt_3b067_9 : decode cJ1_charAt_3b067 9 = .ok (.sipush 255, 3) := by decide +kernel
theorem dJ1_charAt_3b067_12 : decode cJ1_charAt_3b067 12 = .ok (.iand, 1) := by decide +kernel
theorem dJ1_charAt_3b067_13 : decode cJ1_charAt_3b067 13 = .ok (.i2c, 1) := by decide +kernel
theorem dJ1_charAt_3b067_14 : decode cJ1_charAt_3b067 14 = .ok (.ireturn, 1) := by decide +kernel
theorem dJ1_canEncode_9a6ad_0 : decode cJ1_canEncode_9a6ad 0 = .ok (.iload_n 0, 1) := by decide +kernel
theorem dJ1_canEncode_9a6ad_1 : decode cJ1_canEncode_9a6ad 1 = .ok (.ifCond .lt 14, 3) := by decide +kernel
theorem dJ1_canEncode_9a6ad_4 : decode cJ1_canEncode_9a6ad 4 = .ok (.iload_n 0, 1) := by decide +kernel
theorem dJ1_canEncode_9a6ad_5 : decode cJ1_canEncode_9a6ad 5 = .ok (.sipush 255, 3) := by decide +kernel
theorem dJ1_canEncode_9a6ad_8 : decode cJ1_canEncode_9a6ad 8 = .ok (.if_icmp .gt 7, 3) := by decide +kernel
theorem dJ1_canEncode_9a6ad_11 : decode cJ1_canEncode_9a6ad 11 = .ok (.iconst 1, 1) := by decide +kernel
theorem dJ1_canEncode_9a6ad_12 : decode cJ1_canEncode_9a6ad 12 = .ok (.goto 4, 3) := by decide +kernel
theorem dJ1_canEncode_9a6ad_15 : decode cJ1_canEncode_9a6ad 15 = .ok (.iconst 0, 1) := by decide +kernel
theorem dJ1_canEncode_9a6ad_16 : decode cJ1_canEncode_9a6ad 16 = .ok (.ireturn, 1) := by decide +kernel
theorem dJ1_indexOf_4cfef_0 : decode cJ1_indexOf_4cfef 0 = .ok (.iload_n 1, 1) := by decide +kernel
theorem dJ1_indexOf_4cfef_1 : decode cJ1_indexOf_4cfef 1 = .ok (.invokestatic 88, 3) := by decide +kernel
theorem dJ1_indexOf_4cfef_4 : decode cJ1_indexOf_4cfef 4 = .ok (.ifCond .ne 5, 3) := by decide +kernel
theorem dJ1_indexOf_4cfef_7 : decode cJ1_indexOf_4cfef 7 = .ok (.iconst (-1), 1) := by decide +kernel
theorem dJ1_indexOf_4cfef_8 : decode cJ1_indexOf_4cfef 8 = .ok (.ireturn, 1) := by decide +kernel
theorem dJ1_indexOf_4cfef_9 : decode cJ1_indexOf_4cfef 9 = .ok (.iload_n 2, 1) := by decide +kernel
theorem dJ1_indexOf_4cfef_10 : decode cJ1_indexOf_4cfef 10 = .ok (.iconst 0, 1) := by decide +kernel
theorem dJ1_indexOf_4cfef_11 : decode cJ1_indexOf_4cfef 11 = .ok (.invokestatic 92, 3) := by decide +kernel
theorem dJ1_indexOf_4cfef_14 : decode cJ1_indexOf_4cfef 14 = .ok (.istore_n 2, 1) := by decide +kernel
theorem dJ1_indexOf_4cfef_15 : decode cJ1_indexOf_4cfef 15 = .ok (.iload_n 3, 1) := by decide +kernel
theorem dJ1_indexOf_4cfef_16 : decode cJ1_indexOf_4cfef 16 = .ok (.aload_n 0, 1) := by decide +kernel
theorem dJ1_indexOf_4cfef_17 : decode cJ1_indexOf_4cfef 17 = .ok (.arraylength, 1) := by decide +kernel
theorem dJ1_indexOf_4cfef_18 : decode cJ1_indexOf_4cfef 18 = .ok (.invokestatic 38, 3) := by decide +kernel
theorem dJ1_indexOf_4cfef_21 : decode cJ1_indexOf_4cfef 21 = .ok (.istore_n 3, 1) := by decide +kernel
theorem dJ1_indexOf_4cfef_22 : decode cJ1_indexOf_4cfef 22 = .ok (.iload_n 2, 1) := by decide +kernel
theorem dJ1_indexOf_4cfef_23 : decode cJ1_indexOf_4cfef 23 = .ok (.iload_n 3, 1) := by decide +kernel
theorem dJ1_indexOf_4cfef_24 : decode cJ1_indexOf_4cfef 24 = .ok (.if_icmp .lt 5, 3) := by decide +kernel
theorem dJ1_indexOf_4cfef_27 : decode cJ1_indexOf_4cfef 27 = .ok (.iconst (-1), 1) := by decide +kernel
theorem dJ1_indexOf_4cfef_28 : decode cJ1_indexOf_4cfef 28 = .ok (.ireturn, 1) := by decide +kernel
theorem dJ1_indexOf_4cfef_29 : decode cJ1_indexOf_4cfef 29 = .ok (.aload_n 0, 1) := by decide +kernel
theorem dJ1_indexOf_4cfef_30 : decode cJ1_indexOf_4cfef 30 = .ok (.iload_n 1, 1) := by decide +kernel
theorem dJ1_indexOf_4cfef_31 : decode cJ1_indexOf_4cfef 31 = .ok (.iload_n 2, 1) := by decide +kernel
theorem dJ1_indexOf_4cfef_32 : decode cJ1_indexOf_4cfef 32 = .ok (.iload_n 3, 1) := by decide +kernel
theorem dJ1_indexOf_4cfef_33 : decode cJ1_indexOf_4cfef 33 = .ok (.invokestatic 95, 3) := by decide +kernel
theorem dJ1_indexOf_4cfef_36 : decode cJ1_indexOf_4cfef 36 = .ok (.ireturn, 1) := by decide +kernel
theorem dJ1_indexOfChar_4cfef_0 : decode cJ1_indexOfChar_4cfef 0 = .ok (.iload_n 1, 1) := by decide +kernel
theorem dJ1_indexOfChar_4cfef_1 : decode cJ1_indexOfChar_4cfef 1 = .ok (.i2b, 1) := by decide +kernel
theorem dJ1_indexOfChar_4cfef_2 : decode cJ1_indexOfChar_4cfef 2 = .ok (.istore 4, 2) := by decide +kernel
theorem dJ1_indexOfChar_4cfef_4 : decode cJ1_indexOfChar_4cfef 4 = .ok (.iload_n 2, 1) := by decide +kernel
theorem dJ1_indexOfChar_4cfef_5 : decode cJ1_indexOfChar_4cfef 5 = .ok (.istore 5, 2) := by decide +kernel
theorem dJ1_indexOfChar_4cfef_7 : decode cJ1_indexOfChar_4cfef 7 = .ok (.iload 5, 2) := by decide +kernel
theorem dJ1_indexOfChar_4cfef_9 : decode cJ1_indexOfChar_4cfef 9 = .ok (.iload_n 3, 1) := by decide +kernel
theorem dJ1_indexOfChar_4cfef_10 : decode cJ1_indexOfChar_4cfef 10 = .ok (.if_icmp .ge 21, 3) := by decide +kernel
theorem dJ1_indexOfChar_4cfef_13 : decode cJ1_indexOfChar_4cfef 13 = .ok (.aload_n 0, 1) := by decide +kernel
theorem dJ1_indexOfChar_4cfef_14 : decode cJ1_indexOfChar_4cfef 14 = .ok (.iload 5, 2) := by decide +kernel
theorem dJ1_indexOfChar_4cfef_16 : decode cJ1_indexOfChar_4cfef 16 = .ok (.baload, 1) := by decide +kernel
theorem dJ1_indexOfChar_4cfef_17 : decode cJ1_indexOfChar_4cfef 17 = .ok (.iload 4, 2) := by decide +kernel
theorem dJ1_indexOfChar_4cfef_19 : decode cJ1_indexOfChar_4cfef 19 = .ok (.if_icmp .ne 6, 3) := by decide +kernel
theorem dJ1_indexOfChar_4cfef_22 : decode cJ1_indexOfChar_4cfef 22 = .ok (.iload 5, 2) := by decide +kernel
theorem dJ1_indexOfChar_4cfef_24 : decode cJ1_indexOfChar_4cfef 24 = .ok (.ireturn, 1) := by decide +kernel
theorem dJ1_indexOfChar_4cfef_25 : decode cJ1_indexOfChar_4cfef 25 = .ok (.iinc 5 1, 3) := by decide +kernel
theorem dJ1_indexOfChar_4cfef_28 : decode cJ1_indexOfChar_4cfef 28 = .ok (.goto (-21), 3) := by decide +kernel
theorem dJ1_indexOfChar_4cfef_31 : decode cJ1_indexOfChar_4cfef 31 = .ok (.iconst (-1), 1) := by decide +kernel
theorem dJ1_indexOfChar_4cfef_32 : decode cJ1_indexOfChar_4cfef 32 = .ok (.ireturn, 1) := by decide +kernel
theorem dJ2_getChar_3b067_0 : decode cJ2_getChar_3b067 0 = .ok (.getstatic 44, 3) := by decide +kernel
theorem dJ2_getChar_3b067_3 : decode cJ2_getChar_3b067 3 = .ok (.ifCond .ne 25, 3) := by decide +kernel
theorem dJ2_getChar_3b067_6 : decode cJ2_getChar_3b067 6 = .ok (.iload_n 1, 1) := by decide +kernel
theorem dJ2_getChar_3b067_7 : decode cJ2_getChar_3b067 7 = .ok (.ifCond .lt 11, 3) := by decide +kernel
theorem dJ2_getChar_3b067_10 : decode cJ2_getChar_3b067 10 = .ok (.iload_n 1, 1) := by decide +kernel
theorem dJ2_getChar_3b067_11 : decode cJ2_getChar_3b067 11 = .ok (.aload_n 0, 1) := by decide +kernel
theorem dJ2_getChar_3b067_12 : decode cJ2_getChar_3b067 12 = .ok (.invokestatic 48, 3) := by decide +kernel
theorem dJ2_getChar_3b067_15 : decode cJ2_getChar_3b067 15 = .ok (.if_icmp .lt 13, 3) := by decide +kernel
theorem dJ2_getChar_3b067_18 : decode cJ2_getChar_3b067 18 = .ok (.new 52, 3) := by decide +kernel
theorem dJ2_getChar_3b067_21 : decode cJ2_getChar_3b067 21 = .ok (.dup, 1) := by decide +kernel
theorem dJ2_getChar_3b067_22 : decode cJ2_getChar_3b067 22 = .ok (.ldc 54, 2) := by decide +kernel
theorem dJ2_getChar_3b067_24 : decode cJ2_getChar_3b067 24 = .ok (.invokespecial 56, 3) := by decide +kernel
theorem dJ2_getChar_3b067_27 : decode cJ2_getChar_3b067 27 = .ok (.athrow, 1) := by decide +kernel
theorem dJ2_getChar_3b067_28 : decode cJ2_getChar_3b067 28 = .ok (.iload_n 1, 1) := by decide +kernel
theorem dJ2_getChar_3b067_29 : decode cJ2_getChar_3b067 29 = .ok (.iconst 1, 1) := by decide +kernel
theorem dJ2_getChar_3b067_30 : decode cJ2_getChar_3b067 30 = .ok (.ishl, 1) := by decide +kernel
theorem dJ2_getChar_3b067_31 : decode cJ2_getChar_3b067 31 = .ok (.istore_n 1, 1) := by decide +kernel
theorem dJ2_getChar_3b067_32 : decode cJ2_getChar_3b067 32 = .ok (.aload_n 0, 1) := by decide +kernel
theorem dJ2_getChar_3b067_33 : decode cJ2_getChar_3b067 33 = .ok (.iload_n 1, 1) := by decide +kernel
theorem dJ2_getChar_3b067_34 : decode cJ2_getChar_3b067 34 = .ok (.iinc 1 1, 3) := by decide +kernel
theorem dJ2_getChar_3b067_37 : decode cJ2_getChar_3b067 37 = .ok (.baload, 1) := by decide +kernel
theorem dJ2_getChar_3b067_38 : decode cJ2_getChar_3b067 38 = .ok (.sipush 255, 3) := by decide +kernel
theorem dJ2_getChar_3b067_41 : decode cJ2_getChar_3b067 41 = .ok (.iand, 1) := by decide +kernel
theorem dJ2_getChar_3b067_42 : decode cJ2_getChar_3b067 42 = .ok (.getstatic 59, 3) := by decide +kernel
theorem dJ2_getChar_3b067_45 : decode cJ2_getChar_3b067 45 = .ok (.ishl, 1) := by decide +kernel
theorem dJ2_getChar_3b067_46 : decode cJ2_getChar_3b067 46 = .ok (.aload_n 0, 1) := by decide +kernel
theorem dJ2_getChar_3b067_47 : decode cJ2_getChar_3b067 47 = .ok (.iload_n 1, 1) := by decide +kernel
theorem dJ2_getChar_3b067_48 : decode cJ2_getChar_3b067 48 = .ok (.baload, 1) := by decide +kernel
theorem dJ2_getChar_3b067_49 : decode cJ2_getChar_3b067 49 = .ok (.sipush 255, 3) := by decide +kernel
theorem dJ2_getChar_3b067_52 : decode cJ2_getChar_3b067 52 = .ok (.iand, 1) := by decide +kernel
theorem dJ2_getChar_3b067_53 : decode cJ2_getChar_3b067 53 = .ok (.getstatic 63, 3) := by decide +kernel
theorem dJ2_getChar_3b067_56 : decode cJ2_getChar_3b067 56 = .ok (.ishl, 1) := by decide +kernel
theorem dJ2_getChar_3b067_57 : decode cJ2_getChar_3b067 57 = .ok (.ior, 1) := by decide +kernel
theorem dJ2_getChar_3b067_58 : decode cJ2_getChar_3b067 58 = .ok (.i2c, 1) := by decide +kernel
theorem dJ2_getChar_3b067_59 : decode cJ2_getChar_3b067 59 = .ok (.ireturn, 1) := by decide +kernel
theorem dJ2_length_9d52b_0 : decode cJ2_length_9d52b 0 = .ok (.aload_n 0, 1) := by decide +kernel
theorem dJ2_length_9d52b_1 : decode cJ2_length_9d52b 1 = .ok (.arraylength, 1) := by decide +kernel
theorem dJ2_length_9d52b_2 : decode cJ2_length_9d52b 2 = .ok (.iconst 1, 1) := by decide +kernel
theorem dJ2_length_9d52b_3 : decode cJ2_length_9d52b 3 = .ok (.ishr, 1) := by decide +kernel
theorem dJ2_length_9d52b_4 : decode cJ2_length_9d52b 4 = .ok (.ireturn, 1) := by decide +kernel
theorem dJ2_indexOf_4cfef_0 : decode cJ2_indexOf_4cfef 0 = .ok (.iload_n 2, 1) := by decide +kernel
theorem dJ2_indexOf_4cfef_1 : decode cJ2_indexOf_4cfef 1 = .ok (.iconst 0, 1) := by decide +kernel
theorem dJ2_indexOf_4cfef_2 : decode cJ2_indexOf_4cfef 2 = .ok (.invokestatic 224, 3) := by decide +kernel
theorem dJ2_indexOf_4cfef_5 : decode cJ2_indexOf_4cfef 5 = .ok (.istore_n 2, 1) := by decide +kernel
theorem dJ2_indexOf_4cfef_6 : decode cJ2_indexOf_4cfef 6 = .ok (.iload_n 3, 1) := by decide +kernel
theorem dJ2_indexOf_4cfef_7 : decode cJ2_indexOf_4cfef 7 = .ok (.aload_n 0, 1) := by decide +kernel
theorem dJ2_indexOf_4cfef_8 : decode cJ2_indexOf_4cfef 8 = .ok (.arraylength, 1) := by decide +kernel
theorem dJ2_indexOf_4cfef_9 : decode cJ2_indexOf_4cfef 9 = .ok (.iconst 1, 1) := by decide +kernel
theorem dJ2_indexOf_4cfef_10 : decode cJ2_indexOf_4cfef 10 = .ok (.ishr, 1) := by decide +kernel
theorem dJ2_indexOf_4cfef_11 : decode cJ2_indexOf_4cfef 11 = .ok (.invokestatic 183, 3) := by decide +kernel
theorem dJ2_indexOf_4cfef_14 : decode cJ2_indexOf_4cfef 14 = .ok (.istore_n 3, 1) := by decide +kernel
theorem dJ2_indexOf_4cfef_15 : decode cJ2_indexOf_4cfef 15 = .ok (.iload_n 2, 1) := by decide +kernel
theorem dJ2_indexOf_4cfef_16 : decode cJ2_indexOf_4cfef 16 = .ok (.iload_n 3, 1) := by decide +kernel
theorem dJ2_indexOf_4cfef_17 : decode cJ2_indexOf_4cfef 17 = .ok (.if_icmp .lt 5, 3) := by decide +kernel
theorem dJ2_indexOf_4cfef_20 : decode cJ2_indexOf_4cfef 20 = .ok (.iconst (-1), 1) := by decide +kernel
theorem dJ2_indexOf_4cfef_21 : decode cJ2_indexOf_4cfef 21 = .ok (.ireturn, 1) := by decide +kernel
theorem dJ2_indexOf_4cfef_22 : decode cJ2_indexOf_4cfef 22 = .ok (.iload_n 1, 1) := by decide +kernel
theorem dJ2_indexOf_4cfef_23 : decode cJ2_indexOf_4cfef 23 = .ok (.ldc 227, 2) := by decide +kernel
theorem dJ2_indexOf_4cfef_25 : decode cJ2_indexOf_4cfef 25 = .ok (.if_icmp .ge 11, 3) := by decide +kernel
theorem dJ2_indexOf_4cfef_28 : decode cJ2_indexOf_4cfef 28 = .ok (.aload_n 0, 1) := by decide +kernel
theorem dJ2_indexOf_4cfef_29 : decode cJ2_indexOf_4cfef 29 = .ok (.iload_n 1, 1) := by decide +kernel
theorem dJ2_indexOf_4cfef_30 : decode cJ2_indexOf_4cfef 30 = .ok (.iload_n 2, 1) := by decide +kernel
theorem dJ2_indexOf_4cfef_31 : decode cJ2_indexOf_4cfef 31 = .ok (.iload_n 3, 1) := by decide +kernel
theorem dJ2_indexOf_4cfef_32 : decode cJ2_indexOf_4cfef 32 = .ok (.invokestatic 228, 3) := by decide +kernel
theorem dJ2_indexOf_4cfef_35 : decode cJ2_indexOf_4cfef 35 = .ok (.ireturn, 1) := by decide +kernel
theorem dJ2_indexOf_4cfef_36 : decode cJ2_indexOf_4cfef 36 = .ok (.aload_n 0, 1) := by decide +kernel
theorem dJ2_indexOf_4cfef_37 : decode cJ2_indexOf_4cfef 37 = .ok (.iload_n 1, 1) := by decide +kernel
theorem dJ2_indexOf_4cfef_38 : decode cJ2_indexOf_4cfef 38 = .ok (.iload_n 2, 1) := by decide +kernel
theorem dJ2_indexOf_4cfef_39 : decode cJ2_indexOf_4cfef 39 = .ok (.iload_n 3, 1) := by decide +kernel
theorem dJ2_indexOf_4cfef_40 : decode cJ2_indexOf_4cfef 40 = .ok (.invokestatic 232, 3) := by decide +kernel
theorem dJ2_indexOf_4cfef_43 : decode cJ2_indexOf_4cfef 43 = .ok (.ireturn, 1) := by decide +kernel
theorem dJ2_indexOfChar_4cfef_0 : decode cJ2_indexOfChar_4cfef 0 = .ok (.iload_n 2, 1) := by decide +kernel
theorem dJ2_indexOfChar_4cfef_1 : decode cJ2_indexOfChar_4cfef 1 = .ok (.iload_n 3, 1) := by decide +kernel
theorem dJ2_indexOfChar_4cfef_2 : decode cJ2_indexOfChar_4cfef 2 = .ok (.aload_n 0, 1) := by decide +kernel
theorem dJ2_indexOfChar_4cfef_3 : decode cJ2_indexOfChar_4cfef 3 = .ok (.invokestatic 96, 3) := by decide +kernel
theorem dJ2_indexOfChar_4cfef_6 : decode cJ2_indexOfChar_4cfef 6 = .ok (.aload_n 0, 1) := by decide +kernel
theorem dJ2_indexOfChar_4cfef_7 : decode cJ2_indexOfChar_4cfef 7 = .ok (.iload_n 1, 1) := by decide +kernel
theorem dJ2_indexOfChar_4cfef_8 : decode cJ2_indexOfChar_4cfef 8 = .ok (.iload_n 2, 1) := by decide +kernel
theorem dJ2_indexOfChar_4cfef_9 : decode cJ2_indexOfChar_4cfef 9 = .ok (.iload_n 3, 1) := by decide +kernel
theorem dJ2_indexOfChar_4cfef_10 : decode cJ2_indexOfChar_4cfef 10 = .ok (.invokestatic 244, 3) := by decide +kernel
theorem dJ2_indexOfChar_4cfef_13 : decode cJ2_indexOfChar_4cfef 13 = .ok (.ireturn, 1) := by decide +kernel
theorem dJ2_indexOfCharUnsafe_4cfef_0 : decode cJ2_indexOfCharUnsafe_4cfef 0 = .ok (.iload_n 2, 1) := by decide +kernel
theorem dJ2_indexOfCharUnsafe_4cfef_1 : decode cJ2_indexOfCharUnsafe_4cfef 1 = .ok (.istore 4, 2) := by decide +kernel
theorem dJ2_indexOfCharUnsafe_4cfef_3 : decode cJ2_indexOfCharUnsafe_4cfef 3 = .ok (.iload 4, 2) := by decide +kernel
theorem dJ2_indexOfCharUnsafe_4cfef_5 : decode cJ2_indexOfCharUnsafe_4cfef 5 = .ok (.iload_n 3, 1) := by decide +kernel
theorem dJ2_indexOfCharUnsafe_4cfef_6 : decode cJ2_indexOfCharUnsafe_4cfef 6 = .ok (.if_icmp .ge 22, 3) := by decide +kernel
theorem dJ2_indexOfCharUnsafe_4cfef_9 : decode cJ2_indexOfCharUnsafe_4cfef 9 = .ok (.aload_n 0, 1) := by decide +kernel
theorem dJ2_indexOfCharUnsafe_4cfef_10 : decode cJ2_indexOfCharUnsafe_4cfef 10 = .ok (.iload 4, 2) := by decide +kernel
theorem dJ2_indexOfCharUnsafe_4cfef_12 : decode cJ2_indexOfCharUnsafe_4cfef 12 = .ok (.invokestatic 71, 3) := by decide +kernel
theorem dJ2_indexOfCharUnsafe_4cfef_15 : decode cJ2_indexOfCharUnsafe_4cfef 15 = .ok (.iload_n 1, 1) := by decide +kernel
theorem dJ2_indexOfCharUnsafe_4cfef_16 : decode cJ2_indexOfCharUnsafe_4cfef 16 = .ok (.if_icmp .ne 6, 3) := by decide +kernel
theorem dJ2_indexOfCharUnsafe_4cfef_19 : decode cJ2_indexOfCharUnsafe_4cfef 19 = .ok (.iload 4, 2) := by decide +kernel
theorem dJ2_indexOfCharUnsafe_4cfef_21 : decode cJ2_indexOfCharUnsafe_4cfef 21 = .ok (.ireturn, 1) := by decide +kernel
theorem dJ2_indexOfCharUnsafe_4cfef_22 : decode cJ2_indexOfCharUnsafe_4cfef 22 = .ok (.iinc 4 1, 3) := by decide +kernel
theorem dJ2_indexOfCharUnsafe_4cfef_25 : decode cJ2_indexOfCharUnsafe_4cfef 25 = .ok (.goto (-22), 3) := by decide +kernel
theorem dJ2_indexOfCharUnsafe_4cfef_28 : decode cJ2_indexOfCharUnsafe_4cfef 28 = .ok (.iconst (-1), 1) := by decide +kernel
theorem dJ2_indexOfCharUnsafe_4cfef_29 : decode cJ2_indexOfCharUnsafe_4cfef 29 = .ok (.ireturn, 1) := by decide +kernel
theorem dJ2_indexOfSupplementary_4cfef_0 : decode cJ2_indexOfSupplementary_4cfef 0 = .ok (.iload_n 1, 1) := by decide +kernel
theorem dJ2_indexOfSupplementary_4cfef_1 : decode cJ2_indexOfSupplementary_4cfef 1 = .ok (.invokestatic 164, 3) := by decide +kernel
theorem dJ2_indexOfSupplementary_4cfef_4 : decode cJ2_indexOfSupplementary_4cfef 4 = .ok (.ifCond .eq 65, 3) := by decide +kernel
theorem dJ2_indexOfSupplementary_4cfef_7 : decode cJ2_indexOfSupplementary_4cfef 7 = .ok (.iload_n 1, 1) := by decide +kernel
theorem dJ2_indexOfSupplementary_4cfef_8 : decode cJ2_indexOfSupplementary_4cfef 8 = .ok (.invokestatic 157, 3) := by decide +kernel
theorem dJ2_indexOfSupplementary_4cfef_11 : decode cJ2_indexOfSupplementary_4cfef 11 = .ok (.istore 4, 2) := by decide +kernel
theorem dJ2_indexOfSupplementary_4cfef_13 : decode cJ2_indexOfSupplementary_4cfef 13 = .ok (.iload_n 1, 1) := by decide +kernel
theorem dJ2_indexOfSupplementary_4cfef_14 : decode cJ2_indexOfSupplementary_4cfef 14 = .ok (.invokestatic 161, 3) := by decide +kernel
theorem dJ2_indexOfSupplementary_4cfef_17 : decode cJ2_indexOfSupplementary_4cfef 17 = .ok (.istore 5, 2) := by decide +kernel
theorem dJ2_indexOfSupplementary_4cfef_19 : decode cJ2_indexOfSupplementary_4cfef 19 = .ok (.iload_n 2, 1) := by decide +kernel
theorem dJ2_indexOfSupplementary_4cfef_20 : decode cJ2_indexOfSupplementary_4cfef 20 = .ok (.iload_n 3, 1) := by decide +kernel
theorem dJ2_indexOfSupplementary_4cfef_21 : decode cJ2_indexOfSupplementary_4cfef 21 = .ok (.aload_n 0, 1) := by decide +kernel
theorem dJ2_indexOfSupplementary_4cfef_22 : decode cJ2_indexOfSupplementary_4cfef 22 = .ok (.invokestatic 96, 3) := by decide +kernel
theorem dJ2_indexOfSupplementary_4cfef_25 : decode cJ2_indexOfSupplementary_4cfef 25 = .ok (.iload_n 2, 1) := by decide +kernel
theorem dJ2_indexOfSupplementary_4cfef_26 : decode cJ2_indexOfSupplementary_4cfef 26 = .ok (.istore 6, 2) := by decide +kernel
theorem dJ2_indexOfSupplementary_4cfef_28 : decode cJ2_indexOfSupplementary_4cfef 28 = .ok (.iload 6, 2) := by decide +kernel
theorem dJ2_indexOfSupplementary_4cfef_30 : decode cJ2_indexOfSupplementary_4cfef 30 = .ok (.iload_n 3, 1) := by decide +kernel
theorem dJ2_indexOfSupplementary_4cfef_31 : decode cJ2_indexOfSupplementary_4cfef 31 = .ok (.iconst 1, 1) := by decide +kernel
theorem dJ2_indexOfSupplementary_4cfef_32 : decode cJ2_indexOfSupplementary_4cfef 32 = .ok (.isub, 1) := by decide +kernel
theorem dJ2_indexOfSupplementary_4cfef_33 : decode cJ2_indexOfSupplementary_4cfef 33 = .ok (.if_icmp .ge 36, 3) := by decide +kernel
theorem dJ2_indexOfSupplementary_4cfef_36 : decode cJ2_indexOfSupplementary_4cfef 36 = .ok (.aload_n 0, 1) := by decide +kernel
theorem dJ2_indexOfSupplementary_4cfef_37 : decode cJ2_indexOfSupplementary_4cfef 37 = .ok (.iload 6, 2) := by decide +kernel
theorem dJ2_indexOfSupplementary_4cfef_39 : decode cJ2_indexOfSupplementary_4cfef 39 = .ok (.invokestatic 71, 3) := by decide +kernel
theorem dJ2_indexOfSupplementary_4cfef_42 : decode cJ2_indexOfSupplementary_4cfef 42 = .ok (.iload 4, 2) := by decide +kernel
theorem dJ2_indexOfSupplementary_4cfef_44 : decode cJ2_indexOfSupplementary_4cfef 44 = .ok (.if_icmp .ne 19, 3) := by decide +kernel
theorem dJ2_indexOfSupplementary_4cfef_47 : decode cJ2_indexOfSupplementary_4cfef 47 = .ok (.aload_n 0, 1) := by decide +kernel
theorem dJ2_indexOfSupplementary_4cfef_48 : decode cJ2_indexOfSupplementary_4cfef 48 = .ok (.iload 6, 2) := by decide +kernel
theorem dJ2_indexOfSupplementary_4cfef_50 : decode cJ2_indexOfSupplementary_4cfef 50 = .ok (.iconst 1, 1) := by decide +kernel
theorem dJ2_indexOfSupplementary_4cfef_51 : decode cJ2_indexOfSupplementary_4cfef 51 = .ok (.iadd, 1) := by decide +kernel
theorem dJ2_indexOfSupplementary_4cfef_52 : decode cJ2_indexOfSupplementary_4cfef 52 = .ok (.invokestatic 71, 3) := by decide +kernel
theorem dJ2_indexOfSupplementary_4cfef_55 : decode cJ2_indexOfSupplementary_4cfef 55 = .ok (.iload 5, 2) := by decide +kernel
theorem dJ2_indexOfSupplementary_4cfef_57 : decode cJ2_indexOfSupplementary_4cfef 57 = .ok (.if_icmp .ne 6, 3) := by decide +kernel
theorem dJ2_indexOfSupplementary_4cfef_60 : decode cJ2_indexOfSupplementary_4cfef 60 = .ok (.iload 6, 2) := by decide +kernel
theorem dJ2_indexOfSupplementary_4cfef_62 : decode cJ2_indexOfSupplementary_4cfef 62 = .ok (.ireturn, 1) := by decide +kernel
theorem dJ2_indexOfSupplementary_4cfef_63 : decode cJ2_indexOfSupplementary_4cfef 63 = .ok (.iinc 6 1, 3) := by decide +kernel
theorem dJ2_indexOfSupplementary_4cfef_66 : decode cJ2_indexOfSupplementary_4cfef 66 = .ok (.goto (-38), 3) := by decide +kernel
theorem dJ2_indexOfSupplementary_4cfef_69 : decode cJ2_indexOfSupplementary_4cfef 69 = .ok (.iconst (-1), 1) := by decide +kernel
theorem dJ2_indexOfSupplementary_4cfef_70 : decode cJ2_indexOfSupplementary_4cfef 70 = .ok (.ireturn, 1) := by decide +kernel
theorem dJ2_charAt_3b067_0 : decode cJ2_charAt_3b067 0 = .ok (.iload_n 1, 1) := by decide +kernel
theorem dJ2_charAt_3b067_1 : decode cJ2_charAt_3b067 1 = .ok (.aload_n 0, 1) := by decide +kernel
theorem dJ2_charAt_3b067_2 : decode cJ2_charAt_3b067 2 = .ok (.invokestatic 67, 3) := by decide +kernel
theorem dJ2_charAt_3b067_5 : decode cJ2_charAt_3b067 5 = .ok (.aload_n 0, 1) := by decide +kernel
theorem dJ2_charAt_3b067_6 : decode cJ2_charAt_3b067 6 = .ok (.iload_n 1, 1) := by decide +kernel
theorem dJ2_charAt_3b067_7 : decode cJ2_charAt_3b067 7 = .ok (.invokestatic 71, 3) := by decide +kernel
theorem dJ2_charAt_3b067_10 : decode cJ2_charAt_3b067 10 = .ok (.ireturn, 1) := by decide +kernel
theorem dJ2_checkIndex_2214a_0 : decode cJ2_checkIndex_2214a 0 = .ok (.iload_n 0, 1) := by decide +kernel
theorem dJ2_checkIndex_2214a_1 : decode cJ2_checkIndex_2214a 1 = .ok (.aload_n 1, 1) := by decide +kernel
theorem dJ2_checkIndex_2214a_2 : decode cJ2_checkIndex_2214a 2 = .ok (.invokestatic 48, 3) := by decide +kernel
theorem dJ2_checkIndex_2214a_5 : decode cJ2_checkIndex_2214a 5 = .ok (.invokestatic 414, 3) := by decide +kernel
theorem dJ2_checkIndex_2214a_8 : decode cJ2_checkIndex_2214a 8 = .ok (.return_, 1) := by decide +kernel
theorem dJ2_checkBoundsBeginEnd_d044e_0 : decode cJ2_checkBoundsBeginEnd_d044e 0 = .ok (.iload_n 0, 1) := by decide +kernel
theorem dJ2_checkBoundsBeginEnd_d044e_1 : decode cJ2_checkBoundsBeginEnd_d044e 1 = .ok (.iload_n 1, 1) := by decide +kernel
theorem dJ2_checkBoundsBeginEnd_d044e_2 : decode cJ2_checkBoundsBeginEnd_d044e 2 = .ok (.aload_n 2, 1) := by decide +kernel
theorem dJ2_checkBoundsBeginEnd_d044e_3 : decode cJ2_checkBoundsBeginEnd_d044e 3 = .ok (.invokestatic 48, 3) := by decide +kernel
theorem dJ2_checkBoundsBeginEnd_d044e_6 : decode cJ2_checkBoundsBeginEnd_d044e 6 = .ok (.invokestatic 241, 3) := by decide +kernel
theorem dJ2_checkBoundsBeginEnd_d044e_9 : decode cJ2_checkBoundsBeginEnd_d044e 9 = .ok (.return_, 1) := by decide +kernel
theorem dJ3_checkIndex_8e157_0 : decode cJ3_checkIndex_8e157 0 = .ok (.iload_n 0, 1) := by decide +kernel
theorem dJ3_checkIndex_8e157_1 : decode cJ3_checkIndex_8e157 1 = .ok (.ifCond .lt 8, 3) := by decide +kernel
theorem dJ3_checkIndex_8e157_4 : decode cJ3_checkIndex_8e157 4 = .ok (.iload_n 0, 1) := by decide +kernel
theorem dJ3_checkIndex_8e157_5 : decode cJ3_checkIndex_8e157 5 = .ok (.iload_n 1, 1) := by decide +kernel
theorem dJ3_checkIndex_8e157_6 : decode cJ3_checkIndex_8e157 6 = .ok (.if_icmp .lt 10, 3) := by decide +kernel
theorem dJ3_checkIndex_8e157_9 : decode cJ3_checkIndex_8e157 9 = .ok (.aload_n 2, 1) := by decide +kernel
theorem dJ3_checkIndex_8e157_10 : decode cJ3_checkIndex_8e157 10 = .ok (.iload_n 0, 1) := by decide +kernel
theorem dJ3_checkIndex_8e157_11 : decode cJ3_checkIndex_8e157 11 = .ok (.iload_n 1, 1) := by decide +kernel
theorem dJ3_checkIndex_8e157_12 : decode cJ3_checkIndex_8e157 12 = .ok (.invokestatic 95, 3) := by decide +kernel
theorem dJ3_checkIndex_8e157_15 : decode cJ3_checkIndex_8e157 15 = .ok (.athrow, 1) := by decide +kernel
theorem dJ3_checkIndex_8e157_16 : decode cJ3_checkIndex_8e157 16 = .ok (.iload_n 0, 1) := by decide +kernel
theorem dJ3_checkIndex_8e157_17 : decode cJ3_checkIndex_8e157 17 = .ok (.ireturn, 1) := by decide +kernel
theorem dJ3_checkFromToIndex_8c36e_0 : decode cJ3_checkFromToIndex_8c36e 0 = .ok (.iload_n 0, 1) := by decide +kernel
theorem dJ3_checkFromToIndex_8c36e_1 : decode cJ3_checkFromToIndex_8c36e 1 = .ok (.ifCond .lt 13, 3) := by decide +kernel
theorem dJ3_checkFromToIndex_8c36e_4 : decode cJ3_checkFromToIndex_8c36e 4 = .ok (.iload_n 0, 1) := by decide +kernel
theorem dJ3_checkFromToIndex_8c36e_5 : decode cJ3_checkFromToIndex_8c36e 5 = .ok (.iload_n 1, 1) := by decide +kernel
theorem dJ3_checkFromToIndex_8c36e_6 : decode cJ3_checkFromToIndex_8c36e 6 = .ok (.if_icmp .gt 8, 3) := by decide +kernel
theorem dJ3_checkFromToIndex_8c36e_9 : decode cJ3_checkFromToIndex_8c36e 9 = .ok (.iload_n 1, 1) := by decide +kernel
theorem dJ3_checkFromToIndex_8c36e_10 : decode cJ3_checkFromToIndex_8c36e 10 = .ok (.iload_n 2, 1) := by decide +kernel
theorem dJ3_checkFromToIndex_8c36e_11 : decode cJ3_checkFromToIndex_8c36e 11 = .ok (.if_icmp .le 11, 3) := by decide +kernel
theorem dJ3_checkFromToIndex_8c36e_14 : decode cJ3_checkFromToIndex_8c36e 14 = .ok (.aload_n 3, 1) := by decide +kernel
theorem dJ3_checkFromToIndex_8c36e_15 : decode cJ3_checkFromToIndex_8c36e 15 = .ok (.iload_n 0, 1) := by decide +kernel
theorem dJ3_checkFromToIndex_8c36e_16 : decode cJ3_checkFromToIndex_8c36e 16 = .ok (.iload_n 1, 1) := by decide +kernel
theorem dJ3_checkFromToIndex_8c36e_17 : decode cJ3_checkFromToIndex_8c36e 17 = .ok (.iload_n 2, 1) := by decide +kernel
theorem dJ3_checkFromToIndex_8c36e_18 : decode cJ3_checkFromToIndex_8c36e 18 = .ok (.invokestatic 99, 3) := by decide +kernel
theorem dJ3_checkFromToIndex_8c36e_21 : decode cJ3_checkFromToIndex_8c36e 21 = .ok (.athrow, 1) := by decide +kernel
theorem dJ3_checkFromToIndex_8c36e_22 : decode cJ3_checkFromToIndex_8c36e 22 = .ok (.iload_n 0, 1) := by decide +kernel
theorem dJ3_checkFromToIndex_8c36e_23 : decode cJ3_checkFromToIndex_8c36e 23 = .ok (.ireturn, 1) := by decide +kernel
theorem dJ6_bitCount_0f7a4_0 : decode cJ6_bitCount_0f7a4 0 = .ok (.iload_n 0, 1) := by decide +kernel
theorem dJ6_bitCount_0f7a4_1 : decode cJ6_bitCount_0f7a4 1 = .ok (.iload_n 0, 1) := by decide +kernel
theorem dJ6_bitCount_0f7a4_2 : decode cJ6_bitCount_0f7a4 2 = .ok (.iconst 1, 1) := by decide +kernel
theorem dJ6_bitCount_0f7a4_3 : decode cJ6_bitCount_0f7a4 3 = .ok (.iushr, 1) := by decide +kernel
theorem dJ6_bitCount_0f7a4_4 : decode cJ6_bitCount_0f7a4 4 = .ok (.ldc_w 265, 3) := by decide +kernel
theorem dJ6_bitCount_0f7a4_7 : decode cJ6_bitCount_0f7a4 7 = .ok (.iand, 1) := by decide +kernel
theorem dJ6_bitCount_0f7a4_8 : decode cJ6_bitCount_0f7a4 8 = .ok (.isub, 1) := by decide +kernel
theorem dJ6_bitCount_0f7a4_9 : decode cJ6_bitCount_0f7a4 9 = .ok (.istore_n 0, 1) := by decide +kernel
theorem dJ6_bitCount_0f7a4_10 : decode cJ6_bitCount_0f7a4 10 = .ok (.iload_n 0, 1) := by decide +kernel
theorem dJ6_bitCount_0f7a4_11 : decode cJ6_bitCount_0f7a4 11 = .ok (.ldc_w 266, 3) := by decide +kernel
theorem dJ6_bitCount_0f7a4_14 : decode cJ6_bitCount_0f7a4 14 = .ok (.iand, 1) := by decide +kernel
theorem dJ6_bitCount_0f7a4_15 : decode cJ6_bitCount_0f7a4 15 = .ok (.iload_n 0, 1) := by decide +kernel
theorem dJ6_bitCount_0f7a4_16 : decode cJ6_bitCount_0f7a4 16 = .ok (.iconst 2, 1) := by decide +kernel
theorem dJ6_bitCount_0f7a4_17 : decode cJ6_bitCount_0f7a4 17 = .ok (.iushr, 1) := by decide +kernel
theorem dJ6_bitCount_0f7a4_18 : decode cJ6_bitCount_0f7a4 18 = .ok (.ldc_w 266, 3) := by decide +kernel
theorem dJ6_bitCount_0f7a4_21 : decode cJ6_bitCount_0f7a4 21 = .ok (.iand, 1) := by decide +kernel
theorem dJ6_bitCount_0f7a4_22 : decode cJ6_bitCount_0f7a4 22 = .ok (.iadd, 1) := by decide +kernel
theorem dJ6_bitCount_0f7a4_23 : decode cJ6_bitCount_0f7a4 23 = .ok (.istore_n 0, 1) := by decide +kernel
theorem dJ6_bitCount_0f7a4_24 : decode cJ6_bitCount_0f7a4 24 = .ok (.iload_n 0, 1) := by decide +kernel
theorem dJ6_bitCount_0f7a4_25 : decode cJ6_bitCount_0f7a4 25 = .ok (.iload_n 0, 1) := by decide +kernel
theorem dJ6_bitCount_0f7a4_26 : decode cJ6_bitCount_0f7a4 26 = .ok (.iconst 4, 1) := by decide +kernel
theorem dJ6_bitCount_0f7a4_27 : decode cJ6_bitCount_0f7a4 27 = .ok (.iushr, 1) := by decide +kernel
theorem dJ6_bitCount_0f7a4_28 : decode cJ6_bitCount_0f7a4 28 = .ok (.iadd, 1) := by decide +kernel
theorem dJ6_bitCount_0f7a4_29 : decode cJ6_bitCount_0f7a4 29 = .ok (.ldc_w 267, 3) := by decide +kernel
theorem dJ6_bitCount_0f7a4_32 : decode cJ6_bitCount_0f7a4 32 = .ok (.iand, 1) := by decide +kernel
theorem dJ6_bitCount_0f7a4_33 : decode cJ6_bitCount_0f7a4 33 = .ok (.istore_n 0, 1) := by decide +kernel
theorem dJ6_bitCount_0f7a4_34 : decode cJ6_bitCount_0f7a4 34 = .ok (.iload_n 0, 1) := by decide +kernel
theorem dJ6_bitCount_0f7a4_35 : decode cJ6_bitCount_0f7a4 35 = .ok (.iload_n 0, 1) := by decide +kernel
theorem dJ6_bitCount_0f7a4_36 : decode cJ6_bitCount_0f7a4 36 = .ok (.bipush 8, 2) := by decide +kernel
theorem dJ6_bitCount_0f7a4_38 : decode cJ6_bitCount_0f7a4 38 = .ok (.iushr, 1) := by decide +kernel
theorem dJ6_bitCount_0f7a4_39 : decode cJ6_bitCount_0f7a4 39 = .ok (.iadd, 1) := by decide +kernel
theorem dJ6_bitCount_0f7a4_40 : decode cJ6_bitCount_0f7a4 40 = .ok (.istore_n 0, 1) := by decide +kernel
theorem dJ6_bitCount_0f7a4_41 : decode cJ6_bitCount_0f7a4 41 = .ok (.iload_n 0, 1) := by decide +kernel
theorem dJ6_bitCount_0f7a4_42 : decode cJ6_bitCount_0f7a4 42 = .ok (.iload_n 0, 1) := by decide +kernel
theorem dJ6_bitCount_0f7a4_43 : decode cJ6_bitCount_0f7a4 43 = .ok (.bipush 16, 2) := by decide +kernel
theorem dJ6_bitCount_0f7a4_45 : decode cJ6_bitCount_0f7a4 45 = .ok (.iushr, 1) := by decide +kernel
theorem dJ6_bitCount_0f7a4_46 : decode cJ6_bitCount_0f7a4 46 = .ok (.iadd, 1) := by decide +kernel
theorem dJ6_bitCount_0f7a4_47 : decode cJ6_bitCount_0f7a4 47 = .ok (.istore_n 0, 1) := by decide +kernel
theorem dJ6_bitCount_0f7a4_48 : decode cJ6_bitCount_0f7a4 48 = .ok (.iload_n 0, 1) := by decide +kernel
theorem dJ6_bitCount_0f7a4_49 : decode cJ6_bitCount_0f7a4 49 = .ok (.bipush 63, 2) := by decide +kernel
theorem dJ6_bitCount_0f7a4_51 : decode cJ6_bitCount_0f7a4 51 = .ok (.iand, 1) := by decide +kernel
theorem dJ6_bitCount_0f7a4_52 : decode cJ6_bitCount_0f7a4 52 = .ok (.ireturn, 1) := by decide +kernel
theorem dJ7_fill_53178_0 : decode cJ7_fill_53178 0 = .ok (.iconst 0, 1) := by decide +kernel
theorem dJ7_fill_53178_1 : decode cJ7_fill_53178 1 = .ok (.istore_n 2, 1) := by decide +kernel
theorem dJ7_fill_53178_2 : decode cJ7_fill_53178 2 = .ok (.aload_n 0, 1) := by decide +kernel
theorem dJ7_fill_53178_3 : decode cJ7_fill_53178 3 = .ok (.arraylength, 1) := by decide +kernel
theorem dJ7_fill_53178_4 : decode cJ7_fill_53178 4 = .ok (.istore_n 3, 1) := by decide +kernel
theorem dJ7_fill_53178_5 : decode cJ7_fill_53178 5 = .ok (.iload_n 2, 1) := by decide +kernel
theorem dJ7_fill_53178_6 : decode cJ7_fill_53178 6 = .ok (.iload_n 3, 1) := by decide +kernel
theorem dJ7_fill_53178_7 : decode cJ7_fill_53178 7 = .ok (.if_icmp .ge 13, 3) := by decide +kernel
theorem dJ7_fill_53178_10 : decode cJ7_fill_53178 10 = .ok (.aload_n 0, 1) := by decide +kernel
theorem dJ7_fill_53178_11 : decode cJ7_fill_53178 11 = .ok (.iload_n 2, 1) := by decide +kernel
theorem dJ7_fill_53178_12 : decode cJ7_fill_53178 12 = .ok (.iload_n 1, 1) := by decide +kernel
theorem dJ7_fill_53178_13 : decode cJ7_fill_53178 13 = .ok (.iastore, 1) := by decide +kernel
theorem dJ7_fill_53178_14 : decode cJ7_fill_53178 14 = .ok (.iinc 2 1, 3) := by decide +kernel
theorem dJ7_fill_53178_17 : decode cJ7_fill_53178 17 = .ok (.goto (-12), 3) := by decide +kernel
theorem dJ7_fill_53178_20 : decode cJ7_fill_53178 20 = .ok (.return_, 1) := by decide +kernel
theorem dJ7_copyOf_59c91_0 : decode cJ7_copyOf_59c91 0 = .ok (.iload_n 1, 1) := by decide +kernel
theorem dJ7_copyOf_59c91_1 : decode cJ7_copyOf_59c91 1 = .ok (.aload_n 0, 1) := by decide +kernel
theorem dJ7_copyOf_59c91_2 : decode cJ7_copyOf_59c91 2 = .ok (.arraylength, 1) := by decide +kernel
theorem dJ7_copyOf_59c91_3 : decode cJ7_copyOf_59c91 3 = .ok (.if_icmp .ne 11, 3) := by decide +kernel
theorem dJ7_copyOf_59c91_6 : decode cJ7_copyOf_59c91 6 = .ok (.aload_n 0, 1) := by decide +kernel
theorem dJ7_copyOf_59c91_7 : decode cJ7_copyOf_59c91 7 = .ok (.invokevirtual 316, 3) := by decide +kernel
theorem dJ7_copyOf_59c91_10 : decode cJ7_copyOf_59c91 10 = .ok (.checkcast 317, 3) := by decide +kernel
theorem dJ7_copyOf_59c91_13 : decode cJ7_copyOf_59c91 13 = .ok (.areturn, 1) := by decide +kernel
theorem dJ7_copyOf_59c91_14 : decode cJ7_copyOf_59c91 14 = .ok (.iload_n 1, 1) := by decide +kernel
theorem dJ7_copyOf_59c91_15 : decode cJ7_copyOf_59c91 15 = .ok (.newarray .int, 2) := by decide +kernel
theorem dJ7_copyOf_59c91_17 : decode cJ7_copyOf_59c91 17 = .ok (.astore_n 2, 1) := by decide +kernel
theorem dJ7_copyOf_59c91_18 : decode cJ7_copyOf_59c91 18 = .ok (.aload_n 0, 1) := by decide +kernel
theorem dJ7_copyOf_59c91_19 : decode cJ7_copyOf_59c91 19 = .ok (.iconst 0, 1) := by decide +kernel
theorem dJ7_copyOf_59c91_20 : decode cJ7_copyOf_59c91 20 = .ok (.aload_n 2, 1) := by decide +kernel
theorem dJ7_copyOf_59c91_21 : decode cJ7_copyOf_59c91 21 = .ok (.iconst 0, 1) := by decide +kernel
theorem dJ7_copyOf_59c91_22 : decode cJ7_copyOf_59c91 22 = .ok (.aload_n 0, 1) := by decide +kernel
theorem dJ7_copyOf_59c91_23 : decode cJ7_copyOf_59c91 23 = .ok (.arraylength, 1) := by decide +kernel
theorem dJ7_copyOf_59c91_24 : decode cJ7_copyOf_59c91 24 = .ok (.iload_n 1, 1) := by decide +kernel
theorem dJ7_copyOf_59c91_25 : decode cJ7_copyOf_59c91 25 = .ok (.invokestatic 304, 3) := by decide +kernel
theorem dJ7_copyOf_59c91_28 : decode cJ7_copyOf_59c91 28 = .ok (.invokestatic 150, 3) := by decide +kernel
theorem dJ7_copyOf_59c91_31 : decode cJ7_copyOf_59c91 31 = .ok (.aload_n 2, 1) := by decide +kernel
theorem dJ7_copyOf_59c91_32 : decode cJ7_copyOf_59c91 32 = .ok (.areturn, 1) := by decide +kernel
theorem dJ9_abs_0f7a4_0 : decode cJ9_abs_0f7a4 0 = .ok (.iload_n 0, 1) := by decide +kernel
theorem dJ9_abs_0f7a4_1 : decode cJ9_abs_0f7a4 1 = .ok (.ifCond .ge 8, 3) := by decide +kernel
theorem dJ9_abs_0f7a4_4 : decode cJ9_abs_0f7a4 4 = .ok (.iload_n 0, 1) := by decide +kernel
theorem dJ9_abs_0f7a4_5 : decode cJ9_abs_0f7a4 5 = .ok (.ineg, 1) := by decide +kernel
theorem dJ9_abs_0f7a4_6 : decode cJ9_abs_0f7a4 6 = .ok (.goto 4, 3) := by decide +kernel
theorem dJ9_abs_0f7a4_9 : decode cJ9_abs_0f7a4 9 = .ok (.iload_n 0, 1) := by decide +kernel
theorem dJ9_abs_0f7a4_10 : decode cJ9_abs_0f7a4 10 = .ok (.ireturn, 1) := by decide +kernel
theorem dJ9_max_7cf53_0 : decode cJ9_max_7cf53 0 = .ok (.iload_n 0, 1) := by decide +kernel
theorem dJ9_max_7cf53_1 : decode cJ9_max_7cf53 1 = .ok (.iload_n 1, 1) := by decide +kernel
theorem dJ9_max_7cf53_2 : decode cJ9_max_7cf53 2 = .ok (.if_icmp .lt 7, 3) := by decide +kernel
theorem dJ9_max_7cf53_5 : decode cJ9_max_7cf53 5 = .ok (.iload_n 0, 1) := by decide +kernel
theorem dJ9_max_7cf53_6 : decode cJ9_max_7cf53 6 = .ok (.goto 4, 3) := by decide +kernel
theorem dJ9_max_7cf53_9 : decode cJ9_max_7cf53 9 = .ok (.iload_n 1, 1) := by decide +kernel
theorem dJ9_max_7cf53_10 : decode cJ9_max_7cf53 10 = .ok (.ireturn, 1) := by decide +kernel
theorem dJ9_max_f86c9_0 : decode cJ9_max_f86c9 0 = .ok (.lload_n 0, 1) := by decide +kernel
theorem dJ9_max_f86c9_1 : decode cJ9_max_f86c9 1 = .ok (.lload_n 2, 1) := by decide +kernel
theorem dJ9_max_f86c9_2 : decode cJ9_max_f86c9 2 = .ok (.lcmp, 1) := by decide +kernel
theorem dJ9_max_f86c9_3 : decode cJ9_max_f86c9 3 = .ok (.ifCond .lt 7, 3) := by decide +kernel
theorem dJ9_max_f86c9_6 : decode cJ9_max_f86c9 6 = .ok (.lload_n 0, 1) := by decide +kernel
theorem dJ9_max_f86c9_7 : decode cJ9_max_f86c9 7 = .ok (.goto 4, 3) := by decide +kernel
theorem dJ9_max_f86c9_10 : decode cJ9_max_f86c9 10 = .ok (.lload_n 2, 1) := by decide +kernel
theorem dJ9_max_f86c9_11 : decode cJ9_max_f86c9 11 = .ok (.lreturn, 1) := by decide +kernel
theorem dJ9_min_7cf53_0 : decode cJ9_min_7cf53 0 = .ok (.iload_n 0, 1) := by decide +kernel
theorem dJ9_min_7cf53_1 : decode cJ9_min_7cf53 1 = .ok (.iload_n 1, 1) := by decide +kernel
theorem dJ9_min_7cf53_2 : decode cJ9_min_7cf53 2 = .ok (.if_icmp .gt 7, 3) := by decide +kernel
theorem dJ9_min_7cf53_5 : decode cJ9_min_7cf53 5 = .ok (.iload_n 0, 1) := by decide +kernel
theorem dJ9_min_7cf53_6 : decode cJ9_min_7cf53 6 = .ok (.goto 4, 3) := by decide +kernel
theorem dJ9_min_7cf53_9 : decode cJ9_min_7cf53 9 = .ok (.iload_n 1, 1) := by decide +kernel
theorem dJ9_min_7cf53_10 : decode cJ9_min_7cf53 10 = .ok (.ireturn, 1) := by decide +kernel
theorem dX0_init_0 : decode cX0_init 0 = .ok (.aload_n 0, 1) := by decide +kernel
theorem dX0_init_1 : decode cX0_init 1 = .ok (.invokespecial 3, 3) := by decide +kernel
theorem dX0_init_4 : decode cX0_init 4 = .ok (.aload_n 0, 1) := by decide +kernel
theorem dX0_init_5 : decode cX0_init 5 = .ok (.iconst 3, 1) := by decide +kernel
theorem dX0_init_6 : decode cX0_init 6 = .ok (.newarray .int, 2) := by decide +kernel
theorem dX0_init_8 : decode cX0_init 8 = .ok (.dup, 1) := by decide +kernel
theorem dX0_init_9 : decode cX0_init 9 = .ok (.iconst 0, 1) := by decide +kernel
theorem dX0_init_10 : decode cX0_init 10 = .ok (.iconst (-1), 1) := by decide +kernel
theorem dX0_init_11 : decode cX0_init 11 = .ok (.iastore, 1) := by decide +kernel
theorem dX0_init_12 : decode cX0_init 12 = .ok (.dup, 1) := by decide +kernel
theorem dX0_init_13 : decode cX0_init 13 = .ok (.iconst 1, 1) := by decide +kernel
theorem dX0_init_14 : decode cX0_init 14 = .ok (.iconst (-1), 1) := by decide +kernel
theorem dX0_init_15 : decode cX0_init 15 = .ok (.iastore, 1) := by decide +kernel
theorem dX0_init_16 : decode cX0_init 16 = .ok (.dup, 1) := by decide +kernel
theorem dX0_init_17 : decode cX0_init 17 = .ok (.iconst 2, 1) := by decide +kernel
theorem dX0_init_18 : decode cX0_init 18 = .ok (.iconst (-1), 1) := by decide +kernel
theorem dX0_init_19 : decode cX0_init 19 = .ok (.iastore, 1) := by decide +kernel
theorem dX0_init_20 : decode cX0_init 20 = .ok (.putfield 9, 3) := by decide +kernel
theorem dX0_init_23 : decode cX0_init 23 = .ok (.aload_n 0, 1) := by decide +kernel
theorem dX0_init_24 : decode cX0_init 24 = .ok (.iconst 3, 1) := by decide +kernel
theorem dX0_init_25 : decode cX0_init 25 = .ok (.newarray .int, 2) := by decide +kernel
theorem dX0_init_27 : decode cX0_init 27 = .ok (.dup, 1) := by decide +kernel
theorem dX0_init_28 : decode cX0_init 28 = .ok (.iconst 0, 1) := by decide +kernel
theorem dX0_init_29 : decode cX0_init 29 = .ok (.iconst (-1), 1) := by decide +kernel
theorem dX0_init_30 : decode cX0_init 30 = .ok (.iastore, 1) := by decide +kernel
theorem dX0_init_31 : decode cX0_init 31 = .ok (.dup, 1) := by decide +kernel
theorem dX0_init_32 : decode cX0_init 32 = .ok (.iconst 1, 1) := by decide +kernel
theorem dX0_init_33 : decode cX0_init 33 = .ok (.iconst (-1), 1) := by decide +kernel
theorem dX0_init_34 : decode cX0_init 34 = .ok (.iastore, 1) := by decide +kernel
theorem dX0_init_35 : decode cX0_init 35 = .ok (.dup, 1) := by decide +kernel
theorem dX0_init_36 : decode cX0_init 36 = .ok (.iconst 2, 1) := by decide +kernel
theorem dX0_init_37 : decode cX0_init 37 = .ok (.iconst (-1), 1) := by decide +kernel
theorem dX0_init_38 : decode cX0_init 38 = .ok (.iastore, 1) := by decide +kernel
theorem dX0_init_39 : decode cX0_init 39 = .ok (.putfield 15, 3) := by decide +kernel
theorem dX0_init_42 : decode cX0_init 42 = .ok (.aload_n 0, 1) := by decide +kernel
theorem dX0_init_43 : decode cX0_init 43 = .ok (.iload_n 1, 1) := by decide +kernel
theorem dX0_init_44 : decode cX0_init 44 = .ok (.putfield 18, 3) := by decide +kernel
theorem dX0_init_47 : decode cX0_init 47 = .ok (.aload_n 0, 1) := by decide +kernel
theorem dX0_init_48 : decode cX0_init 48 = .ok (.iload_n 2, 1) := by decide +kernel
theorem dX0_init_49 : decode cX0_init 49 = .ok (.putfield 22, 3) := by decide +kernel
theorem dX0_init_52 : decode cX0_init 52 = .ok (.aload_n 0, 1) := by decide +kernel
theorem dX0_init_53 : decode cX0_init 53 = .ok (.iload_n 3, 1) := by decide +kernel
theorem dX0_init_54 : decode cX0_init 54 = .ok (.putfield 25, 3) := by decide +kernel
theorem dX0_init_57 : decode cX0_init 57 = .ok (.return_, 1) := by decide +kernel
theorem dX0_keep_0 : decode cX0_keep 0 = .ok (.aload_n 0, 1) := by decide +kernel
theorem dX0_keep_1 : decode cX0_keep 1 = .ok (.getfield 9, 3) := by decide +kernel
theorem dX0_keep_4 : decode cX0_keep 4 = .ok (.iconst 0, 1) := by decide +kernel
theorem dX0_keep_5 : decode cX0_keep 5 = .ok (.aload_n 0, 1) := by decide +kernel
theorem dX0_keep_6 : decode cX0_keep 6 = .ok (.getfield 15, 3) := by decide +kernel
theorem dX0_keep_9 : decode cX0_keep 9 = .ok (.iconst 0, 1) := by decide +kernel
theorem dX0_keep_10 : decode cX0_keep 10 = .ok (.iconst 3, 1) := by decide +kernel
theorem dX0_keep_11 : decode cX0_keep 11 = .ok (.invokestatic 28, 3) := by decide +kernel
theorem dX0_keep_14 : decode cX0_keep 14 = .ok (.return_, 1) := by decide +kernel
theorem dX0_layBack_0 : decode cX0_layBack 0 = .ok (.aload_n 0, 1) := by decide +kernel
theorem dX0_layBack_1 : decode cX0_layBack 1 = .ok (.getfield 15, 3) := by decide +kernel
theorem dX0_layBack_4 : decode cX0_layBack 4 = .ok (.iconst 0, 1) := by decide +kernel
theorem dX0_layBack_5 : decode cX0_layBack 5 = .ok (.aload_n 0, 1) := by decide +kernel
theorem dX0_layBack_6 : decode cX0_layBack 6 = .ok (.getfield 9, 3) := by decide +kernel
theorem dX0_layBack_9 : decode cX0_layBack 9 = .ok (.iconst 0, 1) := by decide +kernel
theorem dX0_layBack_10 : decode cX0_layBack 10 = .ok (.iconst 3, 1) := by decide +kernel
theorem dX0_layBack_11 : decode cX0_layBack 11 = .ok (.invokestatic 28, 3) := by decide +kernel
theorem dX0_layBack_14 : decode cX0_layBack 14 = .ok (.return_, 1) := by decide +kernel
theorem dX10_in_0 : decode cX10_in 0 = .ok (.lload_n 0, 1) := by decide +kernel
theorem dX10_in_1 : decode cX10_in 1 = .ok (.lload_n 2, 1) := by decide +kernel
theorem dX10_in_2 : decode cX10_in 2 = .ok (.lcmp, 1) := by decide +kernel
theorem dX10_in_3 : decode cX10_in 3 = .ok (.ifCond .lt 14, 3) := by decide +kernel
theorem dX10_in_6 : decode cX10_in 6 = .ok (.lload_n 0, 1) := by decide +kernel
theorem dX10_in_7 : decode cX10_in 7 = .ok (.lload 4, 2) := by decide +kernel
theorem dX10_in_9 : decode cX10_in 9 = .ok (.lcmp, 1) := by decide +kernel
theorem dX10_in_10 : decode cX10_in 10 = .ok (.ifCond .gt 7, 3) := by decide +kernel
theorem dX10_in_13 : decode cX10_in 13 = .ok (.iconst 1, 1) := by decide +kernel
theorem dX10_in_14 : decode cX10_in 14 = .ok (.goto 4, 3) := by decide +kernel
theorem dX10_in_17 : decode cX10_in 17 = .ok (.iconst 0, 1) := by decide +kernel
theorem dX10_in_18 : decode cX10_in 18 = .ok (.ireturn, 1) := by decide +kernel
theorem dX10_init_0 : decode cX10_init 0 = .ok (.aload_n 0, 1) := by decide +kernel
theorem dX10_init_1 : decode cX10_init 1 = .ok (.invokespecial 7, 3) := by decide +kernel
theorem dX10_init_4 : decode cX10_init 4 = .ok (.aload_n 0, 1) := by decide +kernel
theorem dX10_init_5 : decode cX10_init 5 = .ok (.sipush 960, 3) := by decide +kernel
theorem dX10_init_8 : decode cX10_init 8 = .ok (.newarray .int, 2) := by decide +kernel
theorem dX10_init_10 : decode cX10_init 10 = .ok (.putfield 13, 3) := by decide +kernel
theorem dX10_init_13 : decode cX10_init 13 = .ok (.aload_n 0, 1) := by decide +kernel
theorem dX10_init_14 : decode cX10_init 14 = .ok (.bipush 6, 2) := by decide +kernel
theorem dX10_init_16 : decode cX10_init 16 = .ok (.newarray .int, 2) := by decide +kernel
theorem dX10_init_18 : decode cX10_init 18 = .ok (.putfield 17, 3) := by decide +kernel
theorem dX10_init_21 : decode cX10_init 21 = .ok (.aload_n 0, 1) := by decide +kernel
theorem dX10_init_22 : decode cX10_init 22 = .ok (.sipush 160, 3) := by decide +kernel
theorem dX10_init_25 : decode cX10_init 25 = .ok (.newarray .int, 2) := by decide +kernel
theorem dX10_init_27 : decode cX10_init 27 = .ok (.putfield 20, 3) := by decide +kernel
theorem dX10_init_30 : decode cX10_init 30 = .ok (.aload_n 0, 1) := by decide +kernel
theorem dX10_init_31 : decode cX10_init 31 = .ok (.iconst 4, 1) := by decide +kernel
theorem dX10_init_32 : decode cX10_init 32 = .ok (.newarray .int, 2) := by decide +kernel
theorem dX10_init_34 : decode cX10_init 34 = .ok (.putfield 23, 3) := by decide +kernel
theorem dX10_init_37 : decode cX10_init 37 = .ok (.aload_n 0, 1) := by decide +kernel
theorem dX10_init_38 : decode cX10_init 38 = .ok (.iconst 4, 1) := by decide +kernel
theorem dX10_init_39 : decode cX10_init 39 = .ok (.newarray .int, 2) := by decide +kernel
theorem dX10_init_41 : decode cX10_init 41 = .ok (.putfield 26, 3) := by decide +kernel
theorem dX10_init_44 : decode cX10_init 44 = .ok (.aload_n 0, 1) := by decide +kernel
theorem dX10_init_45 : decode cX10_init 45 = .ok (.bipush 12, 2) := by decide +kernel
theorem dX10_init_47 : decode cX10_init 47 = .ok (.newarray .int, 2) := by decide +kernel
theorem dX10_init_49 : decode cX10_init 49 = .ok (.putfield 29, 3) := by decide +kernel
theorem dX10_init_52 : decode cX10_init 52 = .ok (.aload_n 0, 1) := by decide +kernel
theorem dX10_init_53 : decode cX10_init 53 = .ok (.bipush 24, 2) := by decide +kernel
theorem dX10_init_55 : decode cX10_init 55 = .ok (.newarray .int, 2) := by decide +kernel
theorem dX10_init_57 : decode cX10_init 57 = .ok (.putfield 32, 3) := by decide +kernel
theorem dX10_init_60 : decode cX10_init 60 = .ok (.aload_n 0, 1) := by decide +kernel
theorem dX10_init_61 : decode cX10_init 61 = .ok (.bipush 24, 2) := by decide +kernel
theorem dX10_init_63 : decode cX10_init 63 = .ok (.newarray .int, 2) := by decide +kernel
theorem dX10_init_65 : decode cX10_init 65 = .ok (.putfield 35, 3) := by decide +kernel
theorem dX10_init_68 : decode cX10_init 68 = .ok (.aload_n 0, 1) := by decide +kernel
theorem dX10_init_69 : decode cX10_init 69 = .ok (.bipush 24, 2) := by decide +kernel
theorem dX10_init_71 : decode cX10_init 71 = .ok (.newarray .int, 2) := by decide +kernel
theorem dX10_init_73 : decode cX10_init 73 = .ok (.putfield 38, 3) := by decide +kernel
theorem dX10_init_76 : decode cX10_init 76 = .ok (.aload_n 0, 1) := by decide +kernel
theorem dX10_init_77 : decode cX10_init 77 = .ok (.bipush 24, 2) := by decide +kernel
theorem dX10_init_79 : decode cX10_init 79 = .ok (.newarray .int, 2) := by decide +kernel
theorem dX10_init_81 : decode cX10_init 81 = .ok (.putfield 41, 3) := by decide +kernel
theorem dX10_init_84 : decode cX10_init 84 = .ok (.aload_n 0, 1) := by decide +kernel
theorem dX10_init_85 : decode cX10_init 85 = .ok (.bipush 24, 2) := by decide +kernel
theorem dX10_init_87 : decode cX10_init 87 = .ok (.newarray .int, 2) := by decide +kernel
theorem dX10_init_89 : decode cX10_init 89 = .ok (.putfield 44, 3) := by decide +kernel
theorem dX10_init_92 : decode cX10_init 92 = .ok (.aload_n 0, 1) := by decide +kernel
theorem dX10_init_93 : decode cX10_init 93 = .ok (.bipush 24, 2) := by decide +kernel
theorem dX10_init_95 : decode cX10_init 95 = .ok (.newarray .int, 2) := by decide +kernel
theorem dX10_init_97 : decode cX10_init 97 = .ok (.putfield 47, 3) := by decide +kernel
theorem dX10_init_100 : decode cX10_init 100 = .ok (.aload_n 0, 1) := by decide +kernel
theorem dX10_init_101 : decode cX10_init 101 = .ok (.bipush 24, 2) := by decide +kernel
theorem dX10_init_103 : decode cX10_init 103 = .ok (.newarray .int, 2) := by decide +kernel
theorem dX10_init_105 : decode cX10_init 105 = .ok (.putfield 50, 3) := by decide +kernel
theorem dX10_init_108 : decode cX10_init 108 = .ok (.aload_n 0, 1) := by decide +kernel
theorem dX10_init_109 : decode cX10_init 109 = .ok (.bipush 24, 2) := by decide +kernel
theorem dX10_init_111 : decode cX10_init 111 = .ok (.newarray .int, 2) := by decide +kernel
theorem dX10_init_113 : decode cX10_init 113 = .ok (.putfield 53, 3) := by decide +kernel
theorem dX10_init_116 : decode cX10_init 116 = .ok (.aload_n 0, 1) := by decide +kernel
theorem dX10_init_117 : decode cX10_init 117 = .ok (.bipush 24, 2) := by decide +kernel
theorem dX10_init_119 : decode cX10_init 119 = .ok (.newarray .int, 2) := by decide +kernel
theorem dX10_init_121 : decode cX10_init 121 = .ok (.putfield 56, 3) := by decide +kernel
theorem dX10_init_124 : decode cX10_init 124 = .ok (.aload_n 0, 1) := by decide +kernel
theorem dX10_init_125 : decode cX10_init 125 = .ok (.bipush 10, 2) := by decide +kernel
theorem dX10_init_127 : decode cX10_init 127 = .ok (.newarray .int, 2) := by decide +kernel
theorem dX10_init_129 : decode cX10_init 129 = .ok (.putfield 59, 3) := by decide +kernel
theorem dX10_init_132 : decode cX10_init 132 = .ok (.aload_n 0, 1) := by decide +kernel
theorem dX10_init_133 : decode cX10_init 133 = .ok (.bipush 24, 2) := by decide +kernel
theorem dX10_init_135 : decode cX10_init 135 = .ok (.newarray .int, 2) := by decide +kernel
theorem dX10_init_137 : decode cX10_init 137 = .ok (.putfield 62, 3) := by decide +kernel
theorem dX10_init_140 : decode cX10_init 140 = .ok (.aload_n 0, 1) := by decide +kernel
theorem dX10_init_141 : decode cX10_init 141 = .ok (.bipush 10, 2) := by decide +kernel
theorem dX10_init_143 : decode cX10_init 143 = .ok (.newarray .int, 2) := by decide +kernel
theorem dX10_init_145 : decode cX10_init 145 = .ok (.putfield 65, 3) := by decide +kernel
theorem dX10_init_148 : decode cX10_init 148 = .ok (.aload_n 0, 1) := by decide +kernel
theorem dX10_init_149 : decode cX10_init 149 = .ok (.bipush 12, 2) := by decide +kernel
theorem dX10_init_151 : decode cX10_init 151 = .ok (.newarray .int, 2) := by decide +kernel
theorem dX10_init_153 : decode cX10_init 153 = .ok (.putfield 68, 3) := by decide +kernel
theorem dX10_init_156 : decode cX10_init 156 = .ok (.aload_n 0, 1) := by decide +kernel
theorem dX10_init_157 : decode cX10_init 157 = .ok (.bipush 24, 2) := by decide +kernel
theorem dX10_init_159 : decode cX10_init 159 = .ok (.newarray .int, 2) := by decide +kernel
theorem dX10_init_161 : decode cX10_init 161 = .ok (.putfield 71, 3) := by decide +kernel
theorem dX10_init_164 : decode cX10_init 164 = .ok (.aload_n 0, 1) := by decide +kernel
theorem dX10_init_165 : decode cX10_init 165 = .ok (.bipush 24, 2) := by decide +kernel
theorem dX10_init_167 : decode cX10_init 167 = .ok (.newarray .int, 2) := by decide +kernel
theorem dX10_init_169 : decode cX10_init 169 = .ok (.putfield 74, 3) := by decide +kernel
theorem dX10_init_172 : decode cX10_init 172 = .ok (.aload_n 0, 1) := by decide +kernel
theorem dX10_init_173 : decode cX10_init 173 = .ok (.iconst 4, 1) := by decide +kernel
theorem dX10_init_174 : decode cX10_init 174 = .ok (.newarray .boolean, 2) := by decide +kernel
theorem dX10_init_176 : decode cX10_init 176 = .ok (.putfield 77, 3) := by decide +kernel
theorem dX10_init_179 : decode cX10_init 179 = .ok (.aload_n 0, 1) := by decide +kernel
theorem dX10_init_180 : decode cX10_init 180 = .ok (.iconst 4, 1) := by decide +kernel
theorem dX10_init_181 : decode cX10_init 181 = .ok (.newarray .int, 2) := by decide +kernel
theorem dX10_init_183 : decode cX10_init 183 = .ok (.putfield 81, 3) := by decide +kernel
theorem dX10_init_186 : decode cX10_init 186 = .ok (.aload_n 0, 1) := by decide +kernel
theorem dX10_init_187 : decode cX10_init 187 = .ok (.iconst 4, 1) := by decide +kernel
theorem dX10_init_188 : decode cX10_init 188 = .ok (.newarray .int, 2) := by decide +kernel
theorem dX10_init_190 : decode cX10_init 190 = .ok (.putfield 84, 3) := by decide +kernel
theorem dX10_init_193 : decode cX10_init 193 = .ok (.aload_n 0, 1) := by decide +kernel
theorem dX10_init_194 : decode cX10_init 194 = .ok (.sipush 160, 3) := by decide +kernel
theorem dX10_init_197 : decode cX10_init 197 = .ok (.newarray .int, 2) := by decide +kernel
theorem dX10_init_199 : decode cX10_init 199 = .ok (.putfield 87, 3) := by decide +kernel
theorem dX10_init_202 : decode cX10_init 202 = .ok (.aload_n 0, 1) := by decide +kernel
theorem dX10_init_203 : decode cX10_init 203 = .ok (.iconst 0, 1) := by decide +kernel
theorem dX10_init_204 : decode cX10_init 204 = .ok (.ldc2_w 90, 3) := by decide +kernel
theorem dX10_init_207 : decode cX10_init 207 = .ok (.invokevirtual 92, 3) := by decide +kernel
theorem dX10_init_210 : decode cX10_init 210 = .ok (.aload_n 0, 1) := by decide +kernel
theorem dX10_init_211 : decode cX10_init 211 = .ok (.bipush 8, 2) := by decide +kernel
theorem dX10_init_213 : decode cX10_init 213 = .ok (.ldc2_w 96, 3) := by decide +kernel
theorem dX10_init_216 : decode cX10_init 216 = .ok (.invokevirtual 92, 3) := by decide +kernel
theorem dX10_init_219 : decode cX10_init 219 = .ok (.aload_n 0, 1) := by decide +kernel
theorem dX10_init_220 : decode cX10_init 220 = .ok (.bipush 16, 2) := by decide +kernel
theorem dX10_init_222 : decode cX10_init 222 = .ok (.ldc2_w 98, 3) := by decide +kernel
theorem dX10_init_225 : decode cX10_init 225 = .ok (.invokevirtual 92, 3) := by decide +kernel
theorem dX10_init_228 : decode cX10_init 228 = .ok (.aload_n 0, 1) := by decide +kernel
theorem dX10_init_229 : decode cX10_init 229 = .ok (.bipush 24, 2) := by decide +kernel
theorem dX10_init_231 : decode cX10_init 231 = .ok (.ldc2_w 100, 3) := by decide +kernel
theorem dX10_init_234 : decode cX10_init 234 = .ok (.invokevirtual 92, 3) := by decide +kernel
theorem dX10_init_237 : decode cX10_init 237 = .ok (.aload_n 0, 1) := by decide +kernel
theorem dX10_init_238 : decode cX10_init 238 = .ok (.bipush 32, 2) := by decide +kernel
theorem dX10_init_240 : decode cX10_init 240 = .ok (.ldc2_w 102, 3) := by decide +kernel
theorem dX10_init_243 : decode cX10_init 243 = .ok (.invokevirtual 92, 3) := by decide +kernel
theorem dX10_init_246 : decode cX10_init 246 = .ok (.aload_n 0, 1) := by decide +kernel
theorem dX10_init_247 : decode cX10_init 247 = .ok (.bipush 40, 2) := by decide +kernel
theorem dX10_init_249 : decode cX10_init 249 = .ok (.ldc2_w 104, 3) := by decide +kernel
theorem dX10_init_252 : decode cX10_init 252 = .ok (.invokevirtual 92, 3) := by decide +kernel
theorem dX10_init_255 : decode cX10_init 255 = .ok (.aload_n 0, 1) := by decide +kernel
theorem dX10_init_256 : decode cX10_init 256 = .ok (.getfield 17, 3) := by decide +kernel
theorem dX10_init_259 : decode cX10_init 259 = .ok (.iconst 0, 1) := by decide +kernel
theorem dX10_init_260 : decode cX10_init 260 = .ok (.bipush 48, 2) := by decide +kernel
theorem dX10_init_262 : decode cX10_init 262 = .ok (.iastore, 1) := by decide +kernel
theorem dX10_init_263 : decode cX10_init 263 = .ok (.aload_n 0, 1) := by decide +kernel
theorem dX10_init_264 : decode cX10_init 264 = .ok (.iconst 1, 1) := by decide +kernel
theorem dX10_init_265 : decode cX10_init 265 = .ok (.putfield 106, 3) := by decide +kernel
theorem dX10_init_268 : decode cX10_init 268 = .ok (.return_, 1) := by decide +kernel
theorem dX10_spell_0 : decode cX10_spell 0 = .ok (.iconst 0, 1) := by decide +kernel
theorem dX10_spell_1 : decode cX10_spell 1 = .ok (.istore 4, 2) := by decide +kernel
theorem dX10_spell_3 : decode cX10_spell 3 = .ok (.iload 4, 2) := by decide +kernel
theorem dX10_spell_5 : decode cX10_spell 5 = .ok (.bipush 8, 2) := by decide +kernel
theorem dX10_spell_7 : decode cX10_spell 7 = .ok (.if_icmp .ge 33, 3) := by decide +kernel
theorem dX10_spell_10 : decode cX10_spell 10 = .ok (.aload_n 0, 1) := by decide +kernel
theorem dX10_spell_11 : decode cX10_spell 11 = .ok (.getfield 13, 3) := by decide +kernel
theorem dX10_spell_14 : decode cX10_spell 14 = .ok (.iload_n 1, 1) := by decide +kernel
theorem dX10_spell_15 : decode cX10_spell 15 = .ok (.iload 4, 2) := by decide +kernel
theorem dX10_spell_17 : decode cX10_spell 17 = .ok (.iadd, 1) := by decide +kernel
theorem dX10_spell_18 : decode cX10_spell 18 = .ok (.lload_n 2, 1) := by decide +kernel
theorem dX10_spell_19 : decode cX10_spell 19 = .ok (.bipush 56, 2) := by decide +kernel
theorem dX10_spell_21 : decode cX10_spell 21 = .ok (.bipush 8, 2) := by decide +kernel
theorem dX10_spell_23 : decode cX10_spell 23 = .ok (.iload 4, 2) := by decide +kernel
theorem dX10_spell_25 : decode cX10_spell 25 = .ok (.imul, 1) := by decide +kernel
theorem dX10_spell_26 : decode cX10_spell 26 = .ok (.isub, 1) := by decide +kernel
theorem dX10_spell_27 : decode cX10_spell 27 = .ok (.lshr, 1) := by decide +kernel
theorem dX10_spell_28 : decode cX10_spell 28 = .ok (.ldc2_w 109, 3) := by decide +kernel
theorem dX10_spell_31 : decode cX10_spell 31 = .ok (.land, 1) := by decide +kernel
theorem dX10_spell_32 : decode cX10_spell 32 = .ok (.l2i, 1) := by decide +kernel
theorem dX10_spell_33 : decode cX10_spell 33 = .ok (.iastore, 1) := by decide +kernel
theorem dX10_spell_34 : decode cX10_spell 34 = .ok (.iinc 4 1, 3) := by decide +kernel
theorem dX10_spell_37 : decode cX10_spell 37 = .ok (.goto (-34), 3) := by decide +kernel
theorem dX10_spell_40 : decode cX10_spell 40 = .ok (.return_, 1) := by decide +kernel
theorem dX10_isCargo_0 : decode cX10_isCargo 0 = .ok (.iload_n 1, 1) := by decide +kernel
theorem dX10_isCargo_1 : decode cX10_isCargo 1 = .ok (.i2l, 1) := by decide +kernel
theorem dX10_isCargo_2 : decode cX10_isCargo 2 = .ok (.lconst 0, 1) := by decide +kernel
theorem dX10_isCargo_3 : decode cX10_isCargo 3 = .ok (.aload_n 0, 1) := by decide +kernel
theorem dX10_isCargo_4 : decode cX10_isCargo 4 = .ok (.getfield 111, 3) := by decide +kernel
theorem dX10_isCargo_7 : decode cX10_isCargo 7 = .ok (.iconst 1, 1) := by decide +kernel
theorem dX10_isCargo_8 : decode cX10_isCargo 8 = .ok (.isub, 1) := by decide +kernel
theorem dX10_isCargo_9 : decode cX10_isCargo 9 = .ok (.i2l, 1) := by decide +kernel
theorem dX10_isCargo_10 : decode cX10_isCargo 10 = .ok (.invokestatic 114, 3) := by decide +kernel
theorem dX10_isCargo_13 : decode cX10_isCargo 13 = .ok (.ireturn, 1) := by decide +kernel
theorem dX10_isSale_0 : decode cX10_isSale 0 = .ok (.iload_n 1, 1) := by decide +kernel
theorem dX10_isSale_1 : decode cX10_isSale 1 = .ok (.i2l, 1) := by decide +kernel
theorem dX10_isSale_2 : decode cX10_isSale 2 = .ok (.lconst 0, 1) := by decide +kernel
theorem dX10_isSale_3 : decode cX10_isSale 3 = .ok (.aload_n 0, 1) := by decide +kernel
theorem dX10_isSale_4 : decode cX10_isSale 4 = .ok (.getfield 118, 3) := by decide +kernel
theorem dX10_isSale_7 : decode cX10_isSale 7 = .ok (.iconst 1, 1) := by decide +kernel
theorem dX10_isSale_8 : decode cX10_isSale 8 = .ok (.isub, 1) := by decide +kernel
theorem dX10_isSale_9 : decode cX10_isSale 9 = .ok (.i2l, 1) := by decide +kernel
theorem dX10_isSale_10 : decode cX10_isSale 10 = .ok (.invokestatic 114, 3) := by decide +kernel
theorem dX10_isSale_13 : decode cX10_isSale 13 = .ok (.ireturn, 1) := by decide +kernel
theorem dX10_isHand_0 : decode cX10_isHand 0 = .ok (.iload_n 0, 1) := by decide +kernel
theorem dX10_isHand_1 : decode cX10_isHand 1 = .ok (.i2l, 1) := by decide +kernel
theorem dX10_isHand_2 : decode cX10_isHand 2 = .ok (.lconst 0, 1) := by decide +kernel
theorem dX10_isHand_3 : decode cX10_isHand 3 = .ok (.ldc2_w 121, 3) := by decide +kernel
theorem dX10_isHand_6 : decode cX10_isHand 6 = .ok (.invokestatic 114, 3) := by decide +kernel
theorem dX10_isHand_9 : decode cX10_isHand 9 = .ok (.ireturn, 1) := by decide +kernel
theorem dX10_isHour_0 : decode cX10_isHour 0 = .ok (.iload_n 0, 1) := by decide +kernel
theorem dX10_isHour_1 : decode cX10_isHour 1 = .ok (.i2l, 1) := by decide +kernel
theorem dX10_isHour_2 : decode cX10_isHour 2 = .ok (.lconst 0, 1) := by decide +kernel
theorem dX10_isHour_3 : decode cX10_isHour 3 = .ok (.ldc2_w 123, 3) := by decide +kernel
theorem dX10_isHour_6 : decode cX10_isHour 6 = .ok (.invokestatic 114, 3) := by decide +kernel
theorem dX10_isHour_9 : decode cX10_isHour 9 = .ok (.ireturn, 1) := by decide +kernel
theorem dX10_cargo_0 : decode cX10_cargo 0 = .ok (.iload_n 1, 1) := by decide +kernel
theorem dX10_cargo_1 : decode cX10_cargo 1 = .ok (.i2l, 1) := by decide +kernel
theorem dX10_cargo_2 : decode cX10_cargo 2 = .ok (.lconst 1, 1) := by decide +kernel
theorem dX10_cargo_3 : decode cX10_cargo 3 = .ok (.ldc2_w 123, 3) := by decide +kernel
theorem dX10_cargo_6 : decode cX10_cargo 6 = .ok (.invokestatic 114, 3) := by decide +kernel
theorem dX10_cargo_9 : decode cX10_cargo 9 = .ok (.ifCond .eq 10, 3) := by decide +kernel
theorem dX10_cargo_12 : decode cX10_cargo 12 = .ok (.iload_n 2, 1) := by decide +kernel
theorem dX10_cargo_13 : decode cX10_cargo 13 = .ok (.invokestatic 125, 3) := by decide +kernel
theorem dX10_cargo_16 : decode cX10_cargo 16 = .ok (.ifCond .ne 6, 3) := by decide +kernel
theorem dX10_cargo_19 : decode cX10_cargo 19 = .ok (.bipush (-2), 2) := by decide +kernel
theorem dX10_cargo_21 : decode cX10_cargo 21 = .ok (.ireturn, 1) := by decide +kernel
theorem dX10_cargo_22 : decode cX10_cargo 22 = .ok (.aload_n 0, 1) := by decide +kernel
theorem dX10_cargo_23 : decode cX10_cargo 23 = .ok (.getfield 111, 3) := by decide +kernel
theorem dX10_cargo_26 : decode cX10_cargo 26 = .ok (.iconst 4, 1) := by decide +kernel
theorem dX10_cargo_27 : decode cX10_cargo 27 = .ok (.if_icmp .ne 6, 3) := by decide +kernel
theorem dX10_cargo_30 : decode cX10_cargo 30 = .ok (.bipush (-4), 2) := by decide +kernel
theorem dX10_cargo_32 : decode cX10_cargo 32 = .ok (.ireturn, 1) := by decide +kernel
theorem dX10_cargo_33 : decode cX10_cargo 33 = .ok (.aload_n 0, 1) := by decide +kernel
theorem dX10_cargo_34 : decode cX10_cargo 34 = .ok (.getfield 23, 3) := by decide +kernel
theorem dX10_cargo_37 : decode cX10_cargo 37 = .ok (.aload_n 0, 1) := by decide +kernel
theorem dX10_cargo_38 : decode cX10_cargo 38 = .ok (.getfield 111, 3) := by decide +kernel
theorem dX10_cargo_41 : decode cX10_cargo 41 = .ok (.iload_n 1, 1) := by decide +kernel
theorem dX10_cargo_42 : decode cX10_cargo 42 = .ok (.iastore, 1) := by decide +kernel
theorem dX10_cargo_43 : decode cX10_cargo 43 = .ok (.aload_n 0, 1) := by decide +kernel
theorem dX10_cargo_44 : decode cX10_cargo 44 = .ok (.getfield 26, 3) := by decide +kernel
theorem dX10_cargo_47 : decode cX10_cargo 47 = .ok (.aload_n 0, 1) := by decide +kernel
theorem dX10_cargo_48 : decode cX10_cargo 48 = .ok (.getfield 111, 3) := by decide +kernel
theorem dX10_cargo_51 : decode cX10_cargo 51 = .ok (.iload_n 2, 1) := by decide +kernel
theorem dX10_cargo_52 : decode cX10_cargo 52 = .ok (.iastore, 1) := by decide +kernel
theorem dX10_cargo_53 : decode cX10_cargo 53 = .ok (.iconst 0, 1) := by decide +kernel
theorem dX10_cargo_54 : decode cX10_cargo 54 = .ok (.istore_n 3, 1) := by decide +kernel
theorem dX10_cargo_55 : decode cX10_cargo 55 = .ok (.iload_n 3, 1) := by decide +kernel
theorem dX10_cargo_56 : decode cX10_cargo 56 = .ok (.iconst 3, 1) := by decide +kernel
theorem dX10_cargo_57 : decode cX10_cargo 57 = .ok (.if_icmp .ge 23, 3) := by decide +kernel
theorem dX10_cargo_60 : decode cX10_cargo 60 = .ok (.aload_n 0, 1) := by decide +kernel
theorem dX10_cargo_61 : decode cX10_cargo 61 = .ok (.getfield 29, 3) := by decide +kernel
theorem dX10_cargo_64 : decode cX10_cargo 64 = .ok (.iconst 3, 1) := by decide +kernel
theorem dX10_cargo_65 : decode cX10_cargo 65 = .ok (.aload_n 0, 1) := by decide +kernel
theorem dX10_cargo_66 : decode cX10_cargo 66 = .ok (.getfield 111, 3) := by decide +kernel
theorem dX10_cargo_69 : decode cX10_cargo 69 = .ok (.imul, 1) := by decide +kernel
theorem dX10_cargo_70 : decode cX10_cargo 70 = .ok (.iload_n 3, 1) := by decide +kernel
theorem dX10_cargo_71 : decode cX10_cargo 71 = .ok (.iadd, 1) := by decide +kernel
theorem dX10_cargo_72 : decode cX10_cargo 72 = .ok (.iconst (-1), 1) := by decide +kernel
theorem dX10_cargo_73 : decode cX10_cargo 73 = .ok (.iastore, 1) := by decide +kernel
theorem dX10_cargo_74 : decode cX10_cargo 74 = .ok (.iinc 3 1, 3) := by decide +kernel
theorem dX10_cargo_77 : decode cX10_cargo 77 = .ok (.goto (-22), 3) := by decide +kernel
theorem dX10_cargo_80 : decode cX10_cargo 80 = .ok (.aload_n 0, 1) := by decide +kernel
theorem dX10_cargo_81 : decode cX10_cargo 81 = .ok (.dup, 1) := by decide +kernel
theorem dX10_cargo_82 : decode cX10_cargo 82 = .ok (.getfield 111, 3) := by decide +kernel
theorem dX10_cargo_85 : decode cX10_cargo 85 = .ok (.iconst 1, 1) := by decide +kernel
theorem dX10_cargo_86 : decode cX10_cargo 86 = .ok (.iadd, 1) := by decide +kernel
theorem dX10_cargo_87 : decode cX10_cargo 87 = .ok (.putfield 111, 3) := by decide +kernel
theorem dX10_cargo_90 : decode cX10_cargo 90 = .ok (.aload_n 0, 1) := by decide +kernel
theorem dX10_cargo_91 : decode cX10_cargo 91 = .ok (.getfield 111, 3) := by decide +kernel
theorem dX10_cargo_94 : decode cX10_cargo 94 = .ok (.iconst 1, 1) := by decide +kernel
theorem dX10_cargo_95 : decode cX10_cargo 95 = .ok (.isub, 1) := by decide +kernel
theorem dX10_cargo_96 : decode cX10_cargo 96 = .ok (.ireturn, 1) := by decide +kernel
theorem dX10_hour_0 : decode cX10_hour 0 = .ok (.aload_n 0, 1) := by decide +kernel
theorem dX10_hour_1 : decode cX10_hour 1 = .ok (.iload_n 1, 1) := by decide +kernel
theorem dX10_hour_2 : decode cX10_hour 2 = .ok (.invokevirtual 129, 3) := by decide +kernel
theorem dX10_hour_5 : decode cX10_hour 5 = .ok (.ifCond .eq 29, 3) := by decide +kernel
theorem dX10_hour_8 : decode cX10_hour 8 = .ok (.iload_n 2, 1) := by decide +kernel
theorem dX10_hour_9 : decode cX10_hour 9 = .ok (.i2l, 1) := by decide +kernel
theorem dX10_hour_10 : decode cX10_hour 10 = .ok (.lconst 0, 1) := by decide +kernel
theorem dX10_hour_11 : decode cX10_hour 11 = .ok (.ldc2_w 132, 3) := by decide +kernel
theorem dX10_hour_14 : decode cX10_hour 14 = .ok (.invokestatic 114, 3) := by decide +kernel
theorem dX10_hour_17 : decode cX10_hour 17 = .ok (.ifCond .eq 17, 3) := by decide +kernel
theorem dX10_hour_20 : decode cX10_hour 20 = .ok (.iload_n 3, 1) := by decide +kernel
theorem dX10_hour_21 : decode cX10_hour 21 = .ok (.i2l, 1) := by decide +kernel
theorem dX10_hour_22 : decode cX10_hour 22 = .ok (.ldc2_w 134, 3) := by decide +kernel
theorem dX10_hour_25 : decode cX10_hour 25 = .ok (.ldc2_w 123, 3) := by decide +kernel
theorem dX10_hour_28 : decode cX10_hour 28 = .ok (.invokestatic 114, 3) := by decide +kernel
theorem dX10_hour_31 : decode cX10_hour 31 = .ok (.ifCond .ne 6, 3) := by decide +kernel
theorem dX10_hour_34 : decode cX10_hour 34 = .ok (.bipush (-2), 2) := by decide +kernel
theorem dX10_hour_36 : decode cX10_hour 36 = .ok (.ireturn, 1) := by decide +kernel
theorem dX10_hour_37 : decode cX10_hour 37 = .ok (.aload_n 0, 1) := by decide +kernel
theorem dX10_hour_38 : decode cX10_hour 38 = .ok (.getfield 29, 3) := by decide +kernel
theorem dX10_hour_41 : decode cX10_hour 41 = .ok (.iconst 3, 1) := by decide +kernel
theorem dX10_hour_42 : decode cX10_hour 42 = .ok (.iload_n 1, 1) := by decide +kernel
theorem dX10_hour_43 : decode cX10_hour 43 = .ok (.imul, 1) := by decide +kernel
theorem dX10_hour_44 : decode cX10_hour 44 = .ok (.iload_n 2, 1) := by decide +kernel
theorem dX10_hour_45 : decode cX10_hour 45 = .ok (.iadd, 1) := by decide +kernel
theorem dX10_hour_46 : decode cX10_hour 46 = .ok (.iaload, 1) := by decide +kernel
theorem dX10_hour_47 : decode cX10_hour 47 = .ok (.istore 4, 2) := by decide +kernel
theorem dX10_hour_49 : decode cX10_hour 49 = .ok (.aload_n 0, 1) := by decide +kernel
theorem dX10_hour_50 : decode cX10_hour 50 = .ok (.getfield 29, 3) := by decide +kernel
theorem dX10_hour_53 : decode cX10_hour 53 = .ok (.iconst 3, 1) := by decide +kernel
theorem dX10_hour_54 : decode cX10_hour 54 = .ok (.iload_n 1, 1) := by decide +kernel
theorem dX10_hour_55 : decode cX10_hour 55 = .ok (.imul, 1) := by decide +kernel
theorem dX10_hour_56 : decode cX10_hour 56 = .ok (.iload_n 2, 1) := by decide +kernel
theorem dX10_hour_57 : decode cX10_hour 57 = .ok (.iadd, 1) := by decide +kernel
theorem dX10_hour_58 : decode cX10_hour 58 = .ok (.iload_n 3, 1) := by decide +kernel
theorem dX10_hour_59 : decode cX10_hour 59 = .ok (.iastore, 1) := by decide +kernel
theorem dX10_hour_60 : decode cX10_hour 60 = .ok (.iload 4, 2) := by decide +kernel
theorem dX10_hour_62 : decode cX10_hour 62 = .ok (.ireturn, 1) := by decide +kernel
theorem dX10_sale_0 : decode cX10_sale 0 = .ok (.iload_n 1, 1) := by decide +kernel
theorem dX10_sale_1 : decode cX10_sale 1 = .ok (.i2l, 1) := by decide +kernel
theorem dX10_sale_2 : decode cX10_sale 2 = .ok (.lconst 0, 1) := by decide +kernel
theorem dX10_sale_3 : decode cX10_sale 3 = .ok (.ldc2_w 136, 3) := by decide +kernel
theorem dX10_sale_6 : decode cX10_sale 6 = .ok (.invokestatic 114, 3) := by decide +kernel
theorem dX10_sale_9 : decode cX10_sale 9 = .ok (.ifCond .eq 65, 3) := by decide +kernel
theorem dX10_sale_12 : decode cX10_sale 12 = .ok (.iload_n 2, 1) := by decide +kernel
theorem dX10_sale_13 : decode cX10_sale 13 = .ok (.ifCond .lt 61, 3) := by decide +kernel
theorem dX10_sale_16 : decode cX10_sale 16 = .ok (.aload_n 0, 1) := by decide +kernel
theorem dX10_sale_17 : decode cX10_sale 17 = .ok (.iload_n 2, 1) := by decide +kernel
theorem dX10_sale_18 : decode cX10_sale 18 = .ok (.bipush 100, 2) := by decide +kernel
theorem dX10_sale_20 : decode cX10_sale 20 = .ok (.idiv, 1) := by decide +kernel
theorem dX10_sale_21 : decode cX10_sale 21 = .ok (.invokevirtual 129, 3) := by decide +kernel
theorem dX10_sale_24 : decode cX10_sale 24 = .ok (.ifCond .eq 50, 3) := by decide +kernel
theorem dX10_sale_27 : decode cX10_sale 27 = .ok (.iload_n 2, 1) := by decide +kernel
theorem dX10_sale_28 : decode cX10_sale 28 = .ok (.bipush 10, 2) := by decide +kernel
theorem dX10_sale_30 : decode cX10_sale 30 = .ok (.idiv, 1) := by decide +kernel
theorem dX10_sale_31 : decode cX10_sale 31 = .ok (.bipush 10, 2) := by decide +kernel
theorem dX10_sale_33 : decode cX10_sale 33 = .ok (.irem, 1) := by decide +kernel
theorem dX10_sale_34 : decode cX10_sale 34 = .ok (.iload_n 2, 1) := by decide +kernel
theorem dX10_sale_35 : decode cX10_sale 35 = .ok (.bipush 10, 2) := by decide +kernel
theorem dX10_sale_37 : decode cX10_sale 37 = .ok (.irem, 1) := by decide +kernel
theorem dX10_sale_38 : decode cX10_sale 38 = .ok (.if_icmp .eq 36, 3) := by decide +kernel
theorem dX10_sale_41 : decode cX10_sale 41 = .ok (.iload_n 3, 1) := by decide +kernel
theorem dX10_sale_42 : decode cX10_sale 42 = .ok (.i2l, 1) := by decide +kernel
theorem dX10_sale_43 : decode cX10_sale 43 = .ok (.lconst 1, 1) := by decide +kernel
theorem dX10_sale_44 : decode cX10_sale 44 = .ok (.ldc2_w 123, 3) := by decide +kernel
theorem dX10_sale_47 : decode cX10_sale 47 = .ok (.invokestatic 114, 3) := by decide +kernel
theorem dX10_sale_50 : decode cX10_sale 50 = .ok (.ifCond .eq 24, 3) := by decide +kernel
theorem dX10_sale_53 : decode cX10_sale 53 = .ok (.iload 4, 2) := by decide +kernel
theorem dX10_sale_55 : decode cX10_sale 55 = .ok (.i2l, 1) := by decide +kernel
theorem dX10_sale_56 : decode cX10_sale 56 = .ok (.lconst 0, 1) := by decide +kernel
theorem dX10_sale_57 : decode cX10_sale 57 = .ok (.ldc2_w 123, 3) := by decide +kernel
theorem dX10_sale_60 : decode cX10_sale 60 = .ok (.invokestatic 114, 3) := by decide +kernel
theorem dX10_sale_63 : decode cX10_sale 63 = .ok (.ifCond .eq 11, 3) := by decide +kernel
theorem dX10_sale_66 : decode cX10_sale 66 = .ok (.iload 5, 2) := by decide +kernel
theorem dX10_sale_68 : decode cX10_sale 68 = .ok (.invokestatic 138, 3) := by decide +kernel
theorem dX10_sale_71 : decode cX10_sale 71 = .ok (.ifCond .ne 6, 3) := by decide +kernel
theorem dX10_sale_74 : decode cX10_sale 74 = .ok (.bipush (-2), 2) := by decide +kernel
theorem dX10_sale_76 : decode cX10_sale 76 = .ok (.ireturn, 1) := by decide +kernel
theorem dX10_sale_77 : decode cX10_sale 77 = .ok (.aload_n 0, 1) := by decide +kernel
theorem dX10_sale_78 : decode cX10_sale 78 = .ok (.getfield 118, 3) := by decide +kernel
theorem dX10_sale_81 : decode cX10_sale 81 = .ok (.bipush 24, 2) := by decide +kernel
theorem dX10_sale_83 : decode cX10_sale 83 = .ok (.if_icmp .ne 6, 3) := by decide +kernel
theorem dX10_sale_86 : decode cX10_sale 86 = .ok (.bipush (-4), 2) := by decide +kernel
theorem dX10_sale_88 : decode cX10_sale 88 = .ok (.ireturn, 1) := by decide +kernel
theorem dX10_sale_89 : decode cX10_sale 89 = .ok (.aload_n 0, 1) := by decide +kernel
theorem dX10_sale_90 : decode cX10_sale 90 = .ok (.getfield 32, 3) := by decide +kernel
theorem dX10_sale_93 : decode cX10_sale 93 = .ok (.aload_n 0, 1) := by decide +kernel
theorem dX10_sale_94 : decode cX10_sale 94 = .ok (.getfield 118, 3) := by decide +kernel
theorem dX10_sale_97 : decode cX10_sale 97 = .ok (.iload_n 1, 1) := by decide +kernel
theorem dX10_sale_98 : decode cX10_sale 98 = .ok (.iastore, 1) := by decide +kernel
theorem dX10_sale_99 : decode cX10_sale 99 = .ok (.aload_n 0, 1) := by decide +kernel
theorem dX10_sale_100 : decode cX10_sale 100 = .ok (.getfield 35, 3) := by decide +kernel
theorem dX10_sale_103 : decode cX10_sale 103 = .ok (.aload_n 0, 1) := by decide +kernel
theorem dX10_sale_104 : decode cX10_sale 104 = .ok (.getfield 118, 3) := by decide +kernel
theorem dX10_sale_107 : decode cX10_sale 107 = .ok (.iload_n 2, 1) := by decide +kernel
theorem dX10_sale_108 : decode cX10_sale 108 = .ok (.bipush 100, 2) := by decide +kernel
theorem dX10_sale_110 : decode cX10_sale 110 = .ok (.idiv, 1) := by decide +kernel
theorem dX10_sale_111 : decode cX10_sale 111 = .ok (.iastore, 1) := by decide +kernel
theorem dX10_sale_112 : decode cX10_sale 112 = .ok (.aload_n 0, 1) := by decide +kernel
theorem dX10_sale_113 : decode cX10_sale 113 = .ok (.getfield 38, 3) := by decide +kernel
theorem dX10_sale_116 : decode cX10_sale 116 = .ok (.aload_n 0, 1) := by decide +kernel
theorem dX10_sale_117 : decode cX10_sale 117 = .ok (.getfield 118, 3) := by decide +kernel
theorem dX10_sale_120 : decode cX10_sale 120 = .ok (.iload_n 2, 1) := by decide +kernel
theorem dX10_sale_121 : decode cX10_sale 121 = .ok (.bipush 10, 2) := by decide +kernel
theorem dX10_sale_123 : decode cX10_sale 123 = .ok (.idiv, 1) := by decide +kernel
theorem dX10_sale_124 : decode cX10_sale 124 = .ok (.bipush 10, 2) := by decide +kernel
theorem dX10_sale_126 : decode cX10_sale 126 = .ok (.irem, 1) := by decide +kernel
theorem dX10_sale_127 : decode cX10_sale 127 = .ok (.iastore, 1) := by decide +kernel
theorem dX10_sale_128 : decode cX10_sale 128 = .ok (.aload_n 0, 1) := by decide +kernel
theorem dX10_sale_129 : decode cX10_sale 129 = .ok (.getfield 41, 3) := by decide +kernel
theorem dX10_sale_132 : decode cX10_sale 132 = .ok (.aload_n 0, 1) := by decide +kernel
theorem dX10_sale_133 : decode cX10_sale 133 = .ok (.getfield 118, 3) := by decide +kernel
theorem dX10_sale_136 : decode cX10_sale 136 = .ok (.iload_n 2, 1) := by decide +kernel
theorem dX10_sale_137 : decode cX10_sale 137 = .ok (.bipush 10, 2) := by decide +kernel
theorem dX10_sale_139 : decode cX10_sale 139 = .ok (.irem, 1) := by decide +kernel
theorem dX10_sale_140 : decode cX10_sale 140 = .ok (.iastore, 1) := by decide +kernel
theorem dX10_sale_141 : decode cX10_sale 141 = .ok (.aload_n 0, 1) := by decide +kernel
theorem dX10_sale_142 : decode cX10_sale 142 = .ok (.getfield 44, 3) := by decide +kernel
theorem dX10_sale_145 : decode cX10_sale 145 = .ok (.aload_n 0, 1) := by decide +kernel
theorem dX10_sale_146 : decode cX10_sale 146 = .ok (.getfield 118, 3) := by decide +kernel
theorem dX10_sale_149 : decode cX10_sale 149 = .ok (.iload_n 3, 1) := by decide +kernel
theorem dX10_sale_150 : decode cX10_sale 150 = .ok (.iastore, 1) := by decide +kernel
theorem dX10_sale_151 : decode cX10_sale 151 = .ok (.aload_n 0, 1) := by decide +kernel
theorem dX10_sale_152 : decode cX10_sale 152 = .ok (.getfield 47, 3) := by decide +kernel
theorem dX10_sale_155 : decode cX10_sale 155 = .ok (.aload_n 0, 1) := by decide +kernel
theorem dX10_sale_156 : decode cX10_sale 156 = .ok (.getfield 118, 3) := by decide +kernel
theorem dX10_sale_159 : decode cX10_sale 159 = .ok (.iload 4, 2) := by decide +kernel
theorem dX10_sale_161 : decode cX10_sale 161 = .ok (.iastore, 1) := by decide +kernel
theorem dX10_sale_162 : decode cX10_sale 162 = .ok (.aload_n 0, 1) := by decide +kernel
theorem dX10_sale_163 : decode cX10_sale 163 = .ok (.getfield 50, 3) := by decide +kernel
theorem dX10_sale_166 : decode cX10_sale 166 = .ok (.aload_n 0, 1) := by decide +kernel
theorem dX10_sale_167 : decode cX10_sale 167 = .ok (.getfield 118, 3) := by decide +kernel
theorem dX10_sale_170 : decode cX10_sale 170 = .ok (.iload 5, 2) := by decide +kernel
theorem dX10_sale_172 : decode cX10_sale 172 = .ok (.iastore, 1) := by decide +kernel
theorem dX10_sale_173 : decode cX10_sale 173 = .ok (.aload_n 0, 1) := by decide +kernel
theorem dX10_sale_174 : decode cX10_sale 174 = .ok (.getfield 53, 3) := by decide +kernel
theorem dX10_sale_177 : decode cX10_sale 177 = .ok (.aload_n 0, 1) := by decide +kernel
theorem dX10_sale_178 : decode cX10_sale 178 = .ok (.getfield 118, 3) := by decide +kernel
theorem dX10_sale_181 : decode cX10_sale 181 = .ok (.iconst (-1), 1) := by decide +kernel
theorem dX10_sale_182 : decode cX10_sale 182 = .ok (.iastore, 1) := by decide +kernel
theorem dX10_sale_183 : decode cX10_sale 183 = .ok (.aload_n 0, 1) := by decide +kernel
theorem dX10_sale_184 : decode cX10_sale 184 = .ok (.getfield 56, 3) := by decide +kernel
theorem dX10_sale_187 : decode cX10_sale 187 = .ok (.aload_n 0, 1) := by decide +kernel
theorem dX10_sale_188 : decode cX10_sale 188 = .ok (.getfield 118, 3) := by decide +kernel
theorem dX10_sale_191 : decode cX10_sale 191 = .ok (.iconst 0, 1) := by decide +kernel
theorem dX10_sale_192 : decode cX10_sale 192 = .ok (.iastore, 1) := by decide +kernel
theorem dX10_sale_193 : decode cX10_sale 193 = .ok (.aload_n 0, 1) := by decide +kernel
theorem dX10_sale_194 : decode cX10_sale 194 = .ok (.dup, 1) := by decide +kernel
theorem dX10_sale_195 : decode cX10_sale 195 = .ok (.getfield 118, 3) := by decide +kernel
theorem dX10_sale_198 : decode cX10_sale 198 = .ok (.iconst 1, 1) := by decide +kernel
theorem dX10_sale_199 : decode cX10_sale 199 = .ok (.iadd, 1) := by decide +kernel
theorem dX10_sale_200 : decode cX10_sale 200 = .ok (.putfield 118, 3) := by decide +kernel
theorem dX10_sale_203 : decode cX10_sale 203 = .ok (.aload_n 0, 1) := by decide +kernel
theorem dX10_sale_204 : decode cX10_sale 204 = .ok (.getfield 118, 3) := by decide +kernel
theorem dX10_sale_207 : decode cX10_sale 207 = .ok (.iconst 1, 1) := by decide +kernel
theorem dX10_sale_208 : decode cX10_sale 208 = .ok (.isub, 1) := by decide +kernel
theorem dX10_sale_209 : decode cX10_sale 209 = .ok (.ireturn, 1) := by decide +kernel
theorem dX10_paper_0 : decode cX10_paper 0 = .ok (.aload_n 0, 1) := by decide +kernel
theorem dX10_paper_1 : decode cX10_paper 1 = .ok (.iload_n 1, 1) := by decide +kernel
theorem dX10_paper_2 : decode cX10_paper 2 = .ok (.invokevirtual 141, 3) := by decide +kernel
theorem dX10_paper_5 : decode cX10_paper 5 = .ok (.ifCond .eq 17, 3) := by decide +kernel
theorem dX10_paper_8 : decode cX10_paper 8 = .ok (.iload_n 2, 1) := by decide +kernel
theorem dX10_paper_9 : decode cX10_paper 9 = .ok (.i2l, 1) := by decide +kernel
theorem dX10_paper_10 : decode cX10_paper 10 = .ok (.ldc2_w 134, 3) := by decide +kernel
theorem dX10_paper_13 : decode cX10_paper 13 = .ok (.ldc2_w 123, 3) := by decide +kernel
theorem dX10_paper_16 : decode cX10_paper 16 = .ok (.invokestatic 114, 3) := by decide +kernel
theorem dX10_paper_19 : decode cX10_paper 19 = .ok (.ifCond .ne 6, 3) := by decide +kernel
theorem dX10_paper_22 : decode cX10_paper 22 = .ok (.bipush (-2), 2) := by decide +kernel
theorem dX10_paper_24 : decode cX10_paper 24 = .ok (.ireturn, 1) := by decide +kernel
theorem dX10_paper_25 : decode cX10_paper 25 = .ok (.aload_n 0, 1) := by decide +kernel
theorem dX10_paper_26 : decode cX10_paper 26 = .ok (.getfield 53, 3) := by decide +kernel
theorem dX10_paper_29 : decode cX10_paper 29 = .ok (.iload_n 1, 1) := by decide +kernel
theorem dX10_paper_30 : decode cX10_paper 30 = .ok (.iaload, 1) := by decide +kernel
theorem dX10_paper_31 : decode cX10_paper 31 = .ok (.istore_n 3, 1) := by decide +kernel
theorem dX10_paper_32 : decode cX10_paper 32 = .ok (.aload_n 0, 1) := by decide +kernel
theorem dX10_paper_33 : decode cX10_paper 33 = .ok (.getfield 53, 3) := by decide +kernel
theorem dX10_paper_36 : decode cX10_paper 36 = .ok (.iload_n 1, 1) := by decide +kernel
theorem dX10_paper_37 : decode cX10_paper 37 = .ok (.iload_n 2, 1) := by decide +kernel
theorem dX10_paper_38 : decode cX10_paper 38 = .ok (.iastore, 1) := by decide +kernel
theorem dX10_paper_39 : decode cX10_paper 39 = .ok (.iload_n 3, 1) := by decide +kernel
theorem dX10_paper_40 : decode cX10_paper 40 = .ok (.ireturn, 1) := by decide +kernel
theorem dX10_pay_0 : decode cX10_pay 0 = .ok (.aload_n 0, 1) := by decide +kernel
theorem dX10_pay_1 : decode cX10_pay 1 = .ok (.iload_n 1, 1) := by decide +kernel
theorem dX10_pay_2 : decode cX10_pay 2 = .ok (.invokevirtual 141, 3) := by decide +kernel
theorem dX10_pay_5 : decode cX10_pay 5 = .ok (.ifCond .eq 15, 3) := by decide +kernel
theorem dX10_pay_8 : decode cX10_pay 8 = .ok (.iload_n 2, 1) := by decide +kernel
theorem dX10_pay_9 : decode cX10_pay 9 = .ok (.i2l, 1) := by decide +kernel
theorem dX10_pay_10 : decode cX10_pay 10 = .ok (.lconst 0, 1) := by decide +kernel
theorem dX10_pay_11 : decode cX10_pay 11 = .ok (.ldc2_w 144, 3) := by decide +kernel
theorem dX10_pay_14 : decode cX10_pay 14 = .ok (.invokestatic 114, 3) := by decide +kernel
theorem dX10_pay_17 : decode cX10_pay 17 = .ok (.ifCond .ne 6, 3) := by decide +kernel
theorem dX10_pay_20 : decode cX10_pay 20 = .ok (.bipush (-2), 2) := by decide +kernel
theorem dX10_pay_22 : decode cX10_pay 22 = .ok (.ireturn, 1) := by decide +kernel
theorem dX10_pay_23 : decode cX10_pay 23 = .ok (.aload_n 0, 1) := by decide +kernel
theorem dX10_pay_24 : decode cX10_pay 24 = .ok (.getfield 56, 3) := by decide +kernel
theorem dX10_pay_27 : decode cX10_pay 27 = .ok (.iload_n 1, 1) := by decide +kernel
theorem dX10_pay_28 : decode cX10_pay 28 = .ok (.iaload, 1) := by decide +kernel
theorem dX10_pay_29 : decode cX10_pay 29 = .ok (.iload_n 2, 1) := by decide +kernel
theorem dX10_pay_30 : decode cX10_pay 30 = .ok (.iadd, 1) := by decide +kernel
theorem dX10_pay_31 : decode cX10_pay 31 = .ok (.ldc 146, 2) := by decide +kernel
theorem dX10_pay_33 : decode cX10_pay 33 = .ok (.if_icmp .le 6, 3) := by decide +kernel
theorem dX10_pay_36 : decode cX10_pay 36 = .ok (.bipush (-4), 2) := by decide +kernel
theorem dX10_pay_38 : decode cX10_pay 38 = .ok (.ireturn, 1) := by decide +kernel
theorem dX10_pay_39 : decode cX10_pay 39 = .ok (.aload_n 0, 1) := by decide +kernel
theorem dX10_pay_40 : decode cX10_pay 40 = .ok (.getfield 56, 3) := by decide +kernel
theorem dX10_pay_43 : decode cX10_pay 43 = .ok (.iload_n 1, 1) := by decide +kernel
theorem dX10_pay_44 : decode cX10_pay 44 = .ok (.dup2, 1) := by decide +kernel
theorem dX10_pay_45 : decode cX10_pay 45 = .ok (.iaload, 1) := by decide +kernel
theorem dX10_pay_46 : decode cX10_pay 46 = .ok (.iload_n 2, 1) := by decide +kernel
theorem dX10_pay_47 : decode cX10_pay 47 = .ok (.iadd, 1) := by decide +kernel
theorem dX10_pay_48 : decode cX10_pay 48 = .ok (.iastore, 1) := by decide +kernel
theorem dX10_pay_49 : decode cX10_pay 49 = .ok (.aload_n 0, 1) := by decide +kernel
theorem dX10_pay_50 : decode cX10_pay 50 = .ok (.getfield 56, 3) := by decide +kernel
theorem dX10_pay_53 : decode cX10_pay 53 = .ok (.iload_n 1, 1) := by decide +kernel
theorem dX10_pay_54 : decode cX10_pay 54 = .ok (.iaload, 1) := by decide +kernel
theorem dX10_pay_55 : decode cX10_pay 55 = .ok (.ireturn, 1) := by decide +kernel
theorem dX10_later_0 : decode cX10_later 0 = .ok (.iload_n 0, 1) := by decide +kernel
theorem dX10_later_1 : decode cX10_later 1 = .ok (.iconst (-1), 1) := by decide +kernel
theorem dX10_later_2 : decode cX10_later 2 = .ok (.if_icmp .eq 8, 3) := by decide +kernel
theorem dX10_later_5 : decode cX10_later 5 = .ok (.iload_n 1, 1) := by decide +kernel
theorem dX10_later_6 : decode cX10_later 6 = .ok (.iconst (-1), 1) := by decide +kernel
theorem dX10_later_7 : decode cX10_later 7 = .ok (.if_icmp .ne 9, 3) := by decide +kernel
theorem dX10_later_10 : decode cX10_later 10 = .ok (.sipush 1000, 3) := by decide +kernel
theorem dX10_later_13 : decode cX10_later 13 = .ok (.goto 13, 3) := by decide +kernel
theorem dX10_later_16 : decode cX10_later 16 = .ok (.iload_n 0, 1) := by decide +kernel
theorem dX10_later_17 : decode cX10_later 17 = .ok (.iload_n 1, 1) := by decide +kernel
theorem dX10_later_18 : decode cX10_later 18 = .ok (.if_icmp .le 7, 3) := by decide +kernel
theorem dX10_later_21 : decode cX10_later 21 = .ok (.iload_n 0, 1) := by decide +kernel
theorem dX10_later_22 : decode cX10_later 22 = .ok (.goto 4, 3) := by decide +kernel
theorem dX10_later_25 : decode cX10_later 25 = .ok (.iload_n 1, 1) := by decide +kernel
theorem dX10_later_26 : decode cX10_later 26 = .ok (.ireturn, 1) := by decide +kernel
theorem dX10_thingBy_0 : decode cX10_thingBy 0 = .ok (.iconst 3, 1) := by decide +kernel
theorem dX10_thingBy_1 : decode cX10_thingBy 1 = .ok (.aload_n 0, 1) := by decide +kernel
theorem dX10_thingBy_2 : decode cX10_thingBy 2 = .ok (.getfield 35, 3) := by decide +kernel
theorem dX10_thingBy_5 : decode cX10_thingBy 5 = .ok (.iload_n 1, 1) := by decide +kernel
theorem dX10_thingBy_6 : decode cX10_thingBy 6 = .ok (.iaload, 1) := by decide +kernel
theorem dX10_thingBy_7 : decode cX10_thingBy 7 = .ok (.imul, 1) := by decide +kernel
theorem dX10_thingBy_8 : decode cX10_thingBy 8 = .ok (.istore_n 3, 1) := by decide +kernel
theorem dX10_thingBy_9 : decode cX10_thingBy 9 = .ok (.iload_n 2, 1) := by decide +kernel
theorem dX10_thingBy_10 : decode cX10_thingBy 10 = .ok (.tableswitch 113 1 5 #[34, 50, 68, 84, 68], 34) := by decide +kernel
theorem dX10_thingBy_44 : decode cX10_thingBy 44 = .ok (.aload_n 0, 1) := by decide +kernel
theorem dX10_thingBy_45 : decode cX10_thingBy 45 = .ok (.getfield 29, 3) := by decide +kernel
theorem dX10_thingBy_48 : decode cX10_thingBy 48 = .ok (.iload_n 3, 1) := by decide +kernel
theorem dX10_thingBy_49 : decode cX10_thingBy 49 = .ok (.iaload, 1) := by decide +kernel
theorem dX10_thingBy_50 : decode cX10_thingBy 50 = .ok (.aload_n 0, 1) := by decide +kernel
theorem dX10_thingBy_51 : decode cX10_thingBy 51 = .ok (.getfield 50, 3) := by decide +kernel
theorem dX10_thingBy_54 : decode cX10_thingBy 54 = .ok (.iload_n 1, 1) := by decide +kernel
theorem dX10_thingBy_55 : decode cX10_thingBy 55 = .ok (.iaload, 1) := by decide +kernel
theorem dX10_thingBy_56 : decode cX10_thingBy 56 = .ok (.invokestatic 147, 3) := by decide +kernel
theorem dX10_thingBy_59 : decode cX10_thingBy 59 = .ok (.ireturn, 1) := by decide +kernel
theorem dX10_thingBy_60 : decode cX10_thingBy 60 = .ok (.aload_n 0, 1) := by decide +kernel
theorem dX10_thingBy_61 : decode cX10_thingBy 61 = .ok (.getfield 29, 3) := by decide +kernel
theorem dX10_thingBy_64 : decode cX10_thingBy 64 = .ok (.iload_n 3, 1) := by decide +kernel
theorem dX10_thingBy_65 : decode cX10_thingBy 65 = .ok (.iconst 1, 1) := by decide +kernel
theorem dX10_thingBy_66 : decode cX10_thingBy 66 = .ok (.iadd, 1) := by decide +kernel
theorem dX10_thingBy_67 : decode cX10_thingBy 67 = .ok (.iaload, 1) := by decide +kernel
theorem dX10_thingBy_68 : decode cX10_thingBy 68 = .ok (.aload_n 0, 1) := by decide +kernel
theorem dX10_thingBy_69 : decode cX10_thingBy 69 = .ok (.getfield 50, 3) := by decide +kernel
theorem dX10_thingBy_72 : decode cX10_thingBy 72 = .ok (.iload_n 1, 1) := by decide +kernel
theorem dX10_thingBy_73 : decode cX10_thingBy 73 = .ok (.iaload, 1) := by decide +kernel
theorem dX10_thingBy_74 : decode cX10_thingBy 74 = .ok (.invokestatic 147, 3) := by decide +kernel
theorem dX10_thingBy_77 : decode cX10_thingBy 77 = .ok (.ireturn, 1) := by decide +kernel
theorem dX10_thingBy_78 : decode cX10_thingBy 78 = .ok (.aload_n 0, 1) := by decide +kernel
theorem dX10_thingBy_79 : decode cX10_thingBy 79 = .ok (.getfield 53, 3) := by decide +kernel
theorem dX10_thingBy_82 : decode cX10_thingBy 82 = .ok (.iload_n 1, 1) := by decide +kernel
theorem dX10_thingBy_83 : decode cX10_thingBy 83 = .ok (.iaload, 1) := by decide +kernel
theorem dX10_thingBy_84 : decode cX10_thingBy 84 = .ok (.aload_n 0, 1) := by decide +kernel
theorem dX10_thingBy_85 : decode cX10_thingBy 85 = .ok (.getfield 50, 3) := by decide +kernel
theorem dX10_thingBy_88 : decode cX10_thingBy 88 = .ok (.iload_n 1, 1) := by decide +kernel
theorem dX10_thingBy_89 : decode cX10_thingBy 89 = .ok (.iaload, 1) := by decide +kernel
theorem dX10_thingBy_90 : decode cX10_thingBy 90 = .ok (.invokestatic 147, 3) := by decide +kernel
theorem dX10_thingBy_93 : decode cX10_thingBy 93 = .ok (.ireturn, 1) := by decide +kernel
theorem dX10_thingBy_94 : decode cX10_thingBy 94 = .ok (.aload_n 0, 1) := by decide +kernel
theorem dX10_thingBy_95 : decode cX10_thingBy 95 = .ok (.getfield 29, 3) := by decide +kernel
theorem dX10_thingBy_98 : decode cX10_thingBy 98 = .ok (.iload_n 3, 1) := by decide +kernel
theorem dX10_thingBy_99 : decode cX10_thingBy 99 = .ok (.iconst 2, 1) := by decide +kernel
theorem dX10_thingBy_100 : decode cX10_thingBy 100 = .ok (.iadd, 1) := by decide +kernel
theorem dX10_thingBy_101 : decode cX10_thingBy 101 = .ok (.iaload, 1) := by decide +kernel
theorem dX10_thingBy_102 : decode cX10_thingBy 102 = .ok (.aload_n 0, 1) := by decide +kernel
theorem dX10_thingBy_103 : decode cX10_thingBy 103 = .ok (.getfield 29, 3) := by decide +kernel
theorem dX10_thingBy_106 : decode cX10_thingBy 106 = .ok (.iload_n 3, 1) := by decide +kernel
theorem dX10_thingBy_107 : decode cX10_thingBy 107 = .ok (.iconst 1, 1) := by decide +kernel
theorem dX10_thingBy_108 : decode cX10_thingBy 108 = .ok (.iadd, 1) := by decide +kernel
theorem dX10_thingBy_109 : decode cX10_thingBy 109 = .ok (.iaload, 1) := by decide +kernel
theorem dX10_thingBy_110 : decode cX10_thingBy 110 = .ok (.aload_n 0, 1) := by decide +kernel
theorem dX10_thingBy_111 : decode cX10_thingBy 111 = .ok (.getfield 50, 3) := by decide +kernel
theorem dX10_thingBy_114 : decode cX10_thingBy 114 = .ok (.iload_n 1, 1) := by decide +kernel
theorem dX10_thingBy_115 : decode cX10_thingBy 115 = .ok (.iaload, 1) := by decide +kernel
theorem dX10_thingBy_116 : decode cX10_thingBy 116 = .ok (.invokestatic 147, 3) := by decide +kernel
theorem dX10_thingBy_119 : decode cX10_thingBy 119 = .ok (.invokestatic 147, 3) := by decide +kernel
theorem dX10_thingBy_122 : decode cX10_thingBy 122 = .ok (.ireturn, 1) := by decide +kernel
theorem dX10_thingBy_123 : decode cX10_thingBy 123 = .ok (.aload_n 0, 1) := by decide +kernel
theorem dX10_thingBy_124 : decode cX10_thingBy 124 = .ok (.getfield 50, 3) := by decide +kernel
theorem dX10_thingBy_127 : decode cX10_thingBy 127 = .ok (.iload_n 1, 1) := by decide +kernel
theorem dX10_thingBy_128 : decode cX10_thingBy 128 = .ok (.iaload, 1) := by decide +kernel
theorem dX10_thingBy_129 : decode cX10_thingBy 129 = .ok (.ireturn, 1) := by decide +kernel
theorem dX10_lossBy_0 : decode cX10_lossBy 0 = .ok (.aload_n 0, 1) := by decide +kernel
theorem dX10_lossBy_1 : decode cX10_lossBy 1 = .ok (.iload_n 1, 1) := by decide +kernel
theorem dX10_lossBy_2 : decode cX10_lossBy 2 = .ok (.iconst 1, 1) := by decide +kernel
theorem dX10_lossBy_3 : decode cX10_lossBy 3 = .ok (.invokevirtual 151, 3) := by decide +kernel
theorem dX10_lossBy_6 : decode cX10_lossBy 6 = .ok (.istore_n 3, 1) := by decide +kernel
theorem dX10_lossBy_7 : decode cX10_lossBy 7 = .ok (.iload_n 2, 1) := by decide +kernel
theorem dX10_lossBy_8 : decode cX10_lossBy 8 = .ok (.tableswitch 76 1 5 #[36, 38, 36, 38, 45], 36) := by decide +kernel
theorem dX10_lossBy_44 : decode cX10_lossBy 44 = .ok (.iload_n 3, 1) := by decide +kernel
theorem dX10_lossBy_45 : decode cX10_lossBy 45 = .ok (.ireturn, 1) := by decide +kernel
theorem dX10_lossBy_46 : decode cX10_lossBy 46 = .ok (.aload_n 0, 1) := by decide +kernel
theorem dX10_lossBy_47 : decode cX10_lossBy 47 = .ok (.iload_n 1, 1) := by decide +kernel
theorem dX10_lossBy_48 : decode cX10_lossBy 48 = .ok (.iconst 2, 1) := by decide +kernel
theorem dX10_lossBy_49 : decode cX10_lossBy 49 = .ok (.invokevirtual 151, 3) := by decide +kernel
theorem dX10_lossBy_52 : decode cX10_lossBy 52 = .ok (.ireturn, 1) := by decide +kernel
theorem dX10_lossBy_53 : decode cX10_lossBy 53 = .ok (.iload_n 3, 1) := by decide +kernel
theorem dX10_lossBy_54 : decode cX10_lossBy 54 = .ok (.sipush 1000, 3) := by decide +kernel
theorem dX10_lossBy_57 : decode cX10_lossBy 57 = .ok (.if_icmp .ne 9, 3) := by decide +kernel
theorem dX10_lossBy_60 : decode cX10_lossBy 60 = .ok (.sipush 1000, 3) := by decide +kernel
theorem dX10_lossBy_63 : decode cX10_lossBy 63 = .ok (.goto 20, 3) := by decide +kernel
theorem dX10_lossBy_66 : decode cX10_lossBy 66 = .ok (.aload_n 0, 1) := by decide +kernel
theorem dX10_lossBy_67 : decode cX10_lossBy 67 = .ok (.getfield 50, 3) := by decide +kernel
theorem dX10_lossBy_70 : decode cX10_lossBy 70 = .ok (.iload_n 1, 1) := by decide +kernel
theorem dX10_lossBy_71 : decode cX10_lossBy 71 = .ok (.iaload, 1) := by decide +kernel
theorem dX10_lossBy_72 : decode cX10_lossBy 72 = .ok (.iload_n 3, 1) := by decide +kernel
theorem dX10_lossBy_73 : decode cX10_lossBy 73 = .ok (.aload_n 0, 1) := by decide +kernel
theorem dX10_lossBy_74 : decode cX10_lossBy 74 = .ok (.getfield 50, 3) := by decide +kernel
theorem dX10_lossBy_77 : decode cX10_lossBy 77 = .ok (.iload_n 1, 1) := by decide +kernel
theorem dX10_lossBy_78 : decode cX10_lossBy 78 = .ok (.iaload, 1) := by decide +kernel
theorem dX10_lossBy_79 : decode cX10_lossBy 79 = .ok (.isub, 1) := by decide +kernel
theorem dX10_lossBy_80 : decode cX10_lossBy 80 = .ok (.iconst 2, 1) := by decide +kernel
theorem dX10_lossBy_81 : decode cX10_lossBy 81 = .ok (.idiv, 1) := by decide +kernel
theorem dX10_lossBy_82 : decode cX10_lossBy 82 = .ok (.iadd, 1) := by decide +kernel
theorem dX10_lossBy_83 : decode cX10_lossBy 83 = .ok (.ireturn, 1) := by decide +kernel
theorem dX10_lossBy_84 : decode cX10_lossBy 84 = .ok (.aload_n 0, 1) := by decide +kernel
theorem dX10_lossBy_85 : decode cX10_lossBy 85 = .ok (.getfield 50, 3) := by decide +kernel
theorem dX10_lossBy_88 : decode cX10_lossBy 88 = .ok (.iload_n 1, 1) := by decide +kernel
theorem dX10_lossBy_89 : decode cX10_lossBy 89 = .ok (.iaload, 1) := by decide +kernel
theorem dX10_lossBy_90 : decode cX10_lossBy 90 = .ok (.ireturn, 1) := by decide +kernel
theorem dX10_passes_0 : decode cX10_passes 0 = .ok (.iload_n 2, 1) := by decide +kernel
theorem dX10_passes_1 : decode cX10_passes 1 = .ok (.ifCond .ne 17, 3) := by decide +kernel
theorem dX10_passes_4 : decode cX10_passes 4 = .ok (.aload_n 0, 1) := by decide +kernel
theorem dX10_passes_5 : decode cX10_passes 5 = .ok (.iload_n 1, 1) := by decide +kernel
theorem dX10_passes_6 : decode cX10_passes 6 = .ok (.aload_n 0, 1) := by decide +kernel
theorem dX10_passes_7 : decode cX10_passes 7 = .ok (.getfield 32, 3) := by decide +kernel
theorem dX10_passes_10 : decode cX10_passes 10 = .ok (.iload_n 1, 1) := by decide +kernel
theorem dX10_passes_11 : decode cX10_passes 11 = .ok (.iaload, 1) := by decide +kernel
theorem dX10_passes_12 : decode cX10_passes 12 = .ok (.invokevirtual 151, 3) := by decide +kernel
theorem dX10_passes_15 : decode cX10_passes 15 = .ok (.goto 14, 3) := by decide +kernel
theorem dX10_passes_18 : decode cX10_passes 18 = .ok (.aload_n 0, 1) := by decide +kernel
theorem dX10_passes_19 : decode cX10_passes 19 = .ok (.iload_n 1, 1) := by decide +kernel
theorem dX10_passes_20 : decode cX10_passes 20 = .ok (.aload_n 0, 1) := by decide +kernel
theorem dX10_passes_21 : decode cX10_passes 21 = .ok (.getfield 32, 3) := by decide +kernel
theorem dX10_passes_24 : decode cX10_passes 24 = .ok (.iload_n 1, 1) := by decide +kernel
theorem dX10_passes_25 : decode cX10_passes 25 = .ok (.iaload, 1) := by decide +kernel
theorem dX10_passes_26 : decode cX10_passes 26 = .ok (.invokevirtual 154, 3) := by decide +kernel
theorem dX10_passes_29 : decode cX10_passes 29 = .ok (.ireturn, 1) := by decide +kernel
theorem dX10_told_0 : decode cX10_told 0 = .ok (.aload_n 0, 1) := by decide +kernel
theorem dX10_told_1 : decode cX10_told 1 = .ok (.iload_n 1, 1) := by decide +kernel
theorem dX10_told_2 : decode cX10_told 2 = .ok (.invokevirtual 141, 3) := by decide +kernel
theorem dX10_told_5 : decode cX10_told 5 = .ok (.ifCond .ne 6, 3) := by decide +kernel
theorem dX10_told_8 : decode cX10_told 8 = .ok (.bipush (-5), 2) := by decide +kernel
theorem dX10_told_10 : decode cX10_told 10 = .ok (.ireturn, 1) := by decide +kernel
theorem dX10_told_11 : decode cX10_told 11 = .ok (.iload_n 2, 1) := by decide +kernel
theorem dX10_told_12 : decode cX10_told 12 = .ok (.tableswitch 137 0 10 #[60, 67, 74, 81, 88, 95, 102, 109, 116, 123, 130], 60) := by decide +kernel
theorem dX10_told_72 : decode cX10_told 72 = .ok (.aload_n 0, 1) := by decide +kernel
theorem dX10_told_73 : decode cX10_told 73 = .ok (.getfield 32, 3) := by decide +kernel
theorem dX10_told_76 : decode cX10_told 76 = .ok (.iload_n 1, 1) := by decide +kernel
theorem dX10_told_77 : decode cX10_told 77 = .ok (.iaload, 1) := by decide +kernel
theorem dX10_told_78 : decode cX10_told 78 = .ok (.ireturn, 1) := by decide +kernel
theorem dX10_told_79 : decode cX10_told 79 = .ok (.aload_n 0, 1) := by decide +kernel
theorem dX10_told_80 : decode cX10_told 80 = .ok (.getfield 35, 3) := by decide +kernel
theorem dX10_told_83 : decode cX10_told 83 = .ok (.iload_n 1, 1) := by decide +kernel
theorem dX10_told_84 : decode cX10_told 84 = .ok (.iaload, 1) := by decide +kernel
theorem dX10_told_85 : decode cX10_told 85 = .ok (.ireturn, 1) := by decide +kernel
theorem dX10_told_86 : decode cX10_told 86 = .ok (.aload_n 0, 1) := by decide +kernel
theorem dX10_told_87 : decode cX10_told 87 = .ok (.getfield 38, 3) := by decide +kernel
theorem dX10_told_90 : decode cX10_told 90 = .ok (.iload_n 1, 1) := by decide +kernel
theorem dX10_told_91 : decode cX10_told 91 = .ok (.iaload, 1) := by decide +kernel
theorem dX10_told_92 : decode cX10_told 92 = .ok (.ireturn, 1) := by decide +kernel
theorem dX10_told_93 : decode cX10_told 93 = .ok (.aload_n 0, 1) := by decide +kernel
theorem dX10_told_94 : decode cX10_told 94 = .ok (.getfield 41, 3) := by decide +kernel
theorem dX10_told_97 : decode cX10_told 97 = .ok (.iload_n 1, 1) := by decide +kernel
theorem dX10_told_98 : decode cX10_told 98 = .ok (.iaload, 1) := by decide +kernel
theorem dX10_told_99 : decode cX10_told 99 = .ok (.ireturn, 1) := by decide +kernel
theorem dX10_told_100 : decode cX10_told 100 = .ok (.aload_n 0, 1) := by decide +kernel
theorem dX10_told_101 : decode cX10_told 101 = .ok (.getfield 44, 3) := by decide +kernel
theorem dX10_told_104 : decode cX10_told 104 = .ok (.iload_n 1, 1) := by decide +kernel
theorem dX10_told_105 : decode cX10_told 105 = .ok (.iaload, 1) := by decide +kernel
theorem dX10_told_106 : decode cX10_told 106 = .ok (.ireturn, 1) := by decide +kernel
theorem dX10_told_107 : decode cX10_told 107 = .ok (.aload_n 0, 1) := by decide +kernel
theorem dX10_told_108 : decode cX10_told 108 = .ok (.getfield 47, 3) := by decide +kernel
theorem dX10_told_111 : decode cX10_told 111 = .ok (.iload_n 1, 1) := by decide +kernel
theorem dX10_told_112 : decode cX10_told 112 = .ok (.iaload, 1) := by decide +kernel
theorem dX10_told_113 : decode cX10_told 113 = .ok (.ireturn, 1) := by decide +kernel
theorem dX10_told_114 : decode cX10_told 114 = .ok (.aload_n 0, 1) := by decide +kernel
theorem dX10_told_115 : decode cX10_told 115 = .ok (.getfield 50, 3) := by decide +kernel
theorem dX10_told_118 : decode cX10_told 118 = .ok (.iload_n 1, 1) := by decide +kernel
theorem dX10_told_119 : decode cX10_told 119 = .ok (.iaload, 1) := by decide +kernel
theorem dX10_told_120 : decode cX10_told 120 = .ok (.ireturn, 1) := by decide +kernel
theorem dX10_told_121 : decode cX10_told 121 = .ok (.aload_n 0, 1) := by decide +kernel
theorem dX10_told_122 : decode cX10_told 122 = .ok (.getfield 53, 3) := by decide +kernel
theorem dX10_told_125 : decode cX10_told 125 = .ok (.iload_n 1, 1) := by decide +kernel
theorem dX10_told_126 : decode cX10_told 126 = .ok (.iaload, 1) := by decide +kernel
theorem dX10_told_127 : decode cX10_told 127 = .ok (.ireturn, 1) := by decide +kernel
theorem dX10_told_128 : decode cX10_told 128 = .ok (.aload_n 0, 1) := by decide +kernel
theorem dX10_told_129 : decode cX10_told 129 = .ok (.getfield 56, 3) := by decide +kernel
theorem dX10_told_132 : decode cX10_told 132 = .ok (.iload_n 1, 1) := by decide +kernel
theorem dX10_told_133 : decode cX10_told 133 = .ok (.iaload, 1) := by decide +kernel
theorem dX10_told_134 : decode cX10_told 134 = .ok (.ireturn, 1) := by decide +kernel
theorem dX10_told_135 : decode cX10_told 135 = .ok (.aload_n 0, 1) := by decide +kernel
theorem dX10_told_136 : decode cX10_told 136 = .ok (.iload_n 1, 1) := by decide +kernel
theorem dX10_told_137 : decode cX10_told 137 = .ok (.iconst 0, 1) := by decide +kernel
theorem dX10_told_138 : decode cX10_told 138 = .ok (.invokevirtual 157, 3) := by decide +kernel
theorem dX10_told_141 : decode cX10_told 141 = .ok (.ireturn, 1) := by decide +kernel
theorem dX10_told_142 : decode cX10_told 142 = .ok (.aload_n 0, 1) := by decide +kernel
theorem dX10_told_143 : decode cX10_told 143 = .ok (.iload_n 1, 1) := by decide +kernel
theorem dX10_told_144 : decode cX10_told 144 = .ok (.iconst 1, 1) := by decide +kernel
theorem dX10_told_145 : decode cX10_told 145 = .ok (.invokevirtual 157, 3) := by decide +kernel
theorem dX10_told_148 : decode cX10_told 148 = .ok (.ireturn, 1) := by decide +kernel
theorem dX10_told_149 : decode cX10_told 149 = .ok (.bipush (-5), 2) := by decide +kernel
theorem dX10_told_151 : decode cX10_told 151 = .ok (.ireturn, 1) := by decide +kernel
theorem dX10_lays_0 : decode cX10_lays 0 = .ok (.iconst 0, 1) := by decide +kernel
theorem dX10_lays_1 : decode cX10_lays 1 = .ok (.istore 4, 2) := by decide +kernel
theorem dX10_lays_3 : decode cX10_lays 3 = .ok (.iload 4, 2) := by decide +kernel
theorem dX10_lays_5 : decode cX10_lays 5 = .ok (.bipush 10, 2) := by decide +kernel
theorem dX10_lays_7 : decode cX10_lays 7 = .ok (.if_icmp .ge 37, 3) := by decide +kernel
theorem dX10_lays_10 : decode cX10_lays 10 = .ok (.aload_n 0, 1) := by decide +kernel
theorem dX10_lays_11 : decode cX10_lays 11 = .ok (.getfield 59, 3) := by decide +kernel
theorem dX10_lays_14 : decode cX10_lays 14 = .ok (.iload 4, 2) := by decide +kernel
theorem dX10_lays_16 : decode cX10_lays 16 = .ok (.iload 4, 2) := by decide +kernel
theorem dX10_lays_18 : decode cX10_lays 18 = .ok (.aload_n 0, 1) := by decide +kernel
theorem dX10_lays_19 : decode cX10_lays 19 = .ok (.getfield 26, 3) := by decide +kernel
theorem dX10_lays_22 : decode cX10_lays 22 = .ok (.iload_n 1, 1) := by decide +kernel
theorem dX10_lays_23 : decode cX10_lays 23 = .ok (.iaload, 1) := by decide +kernel
theorem dX10_lays_24 : decode cX10_lays 24 = .ok (.if_icmp .ne 12, 3) := by decide +kernel
theorem dX10_lays_27 : decode cX10_lays 27 = .ok (.aload_n 0, 1) := by decide +kernel
theorem dX10_lays_28 : decode cX10_lays 28 = .ok (.getfield 23, 3) := by decide +kernel
theorem dX10_lays_31 : decode cX10_lays 31 = .ok (.iload_n 1, 1) := by decide +kernel
theorem dX10_lays_32 : decode cX10_lays 32 = .ok (.iaload, 1) := by decide +kernel
theorem dX10_lays_33 : decode cX10_lays 33 = .ok (.goto 4, 3) := by decide +kernel
theorem dX10_lays_36 : decode cX10_lays 36 = .ok (.iconst 0, 1) := by decide +kernel
theorem dX10_lays_37 : decode cX10_lays 37 = .ok (.iastore, 1) := by decide +kernel
theorem dX10_lays_38 : decode cX10_lays 38 = .ok (.iinc 4 1, 3) := by decide +kernel
theorem dX10_lays_41 : decode cX10_lays 41 = .ok (.goto (-38), 3) := by decide +kernel
theorem dX10_lays_44 : decode cX10_lays 44 = .ok (.iconst 0, 1) := by decide +kernel
theorem dX10_lays_45 : decode cX10_lays 45 = .ok (.istore 4, 2) := by decide +kernel
theorem dX10_lays_47 : decode cX10_lays 47 = .ok (.iload 4, 2) := by decide +kernel
theorem dX10_lays_49 : decode cX10_lays 49 = .ok (.aload_n 0, 1) := by decide +kernel
theorem dX10_lays_50 : decode cX10_lays 50 = .ok (.getfield 118, 3) := by decide +kernel
theorem dX10_lays_53 : decode cX10_lays 53 = .ok (.if_icmp .ge 62, 3) := by decide +kernel
theorem dX10_lays_56 : decode cX10_lays 56 = .ok (.aload_n 0, 1) := by decide +kernel
theorem dX10_lays_57 : decode cX10_lays 57 = .ok (.getfield 35, 3) := by decide +kernel
theorem dX10_lays_60 : decode cX10_lays 60 = .ok (.iload 4, 2) := by decide +kernel
theorem dX10_lays_62 : decode cX10_lays 62 = .ok (.iaload, 1) := by decide +kernel
theorem dX10_lays_63 : decode cX10_lays 63 = .ok (.iload_n 1, 1) := by decide +kernel
theorem dX10_lays_64 : decode cX10_lays 64 = .ok (.if_icmp .ne 13, 3) := by decide +kernel
theorem dX10_lays_67 : decode cX10_lays 67 = .ok (.aload_n 0, 1) := by decide +kernel
theorem dX10_lays_68 : decode cX10_lays 68 = .ok (.iload 4, 2) := by decide +kernel
theorem dX10_lays_70 : decode cX10_lays 70 = .ok (.iload_n 3, 1) := by decide +kernel
theorem dX10_lays_71 : decode cX10_lays 71 = .ok (.invokevirtual 157, 3) := by decide +kernel
theorem dX10_lays_74 : decode cX10_lays 74 = .ok (.goto 6, 3) := by decide +kernel
theorem dX10_lays_77 : decode cX10_lays 77 = .ok (.sipush 1000, 3) := by decide +kernel
theorem dX10_lays_80 : decode cX10_lays 80 = .ok (.istore 5, 2) := by decide +kernel
theorem dX10_lays_82 : decode cX10_lays 82 = .ok (.aload_n 0, 1) := by decide +kernel
theorem dX10_lays_83 : decode cX10_lays 83 = .ok (.getfield 62, 3) := by decide +kernel
theorem dX10_lays_86 : decode cX10_lays 86 = .ok (.iload 4, 2) := by decide +kernel
theorem dX10_lays_88 : decode cX10_lays 88 = .ok (.iload 5, 2) := by decide +kernel
theorem dX10_lays_90 : decode cX10_lays 90 = .ok (.iload_n 2, 1) := by decide +kernel
theorem dX10_lays_91 : decode cX10_lays 91 = .ok (.if_icmp .gt 16, 3) := by decide +kernel
theorem dX10_lays_94 : decode cX10_lays 94 = .ok (.iload 5, 2) := by decide +kernel
theorem dX10_lays_96 : decode cX10_lays 96 = .ok (.sipush 1000, 3) := by decide +kernel
theorem dX10_lays_99 : decode cX10_lays 99 = .ok (.if_icmp .eq 8, 3) := by decide +kernel
theorem dX10_lays_102 : decode cX10_lays 102 = .ok (.iload 5, 2) := by decide +kernel
theorem dX10_lays_104 : decode cX10_lays 104 = .ok (.goto 4, 3) := by decide +kernel
theorem dX10_lays_107 : decode cX10_lays 107 = .ok (.iconst (-1), 1) := by decide +kernel
theorem dX10_lays_108 : decode cX10_lays 108 = .ok (.iastore, 1) := by decide +kernel
theorem dX10_lays_109 : decode cX10_lays 109 = .ok (.iinc 4 1, 3) := by decide +kernel
theorem dX10_lays_112 : decode cX10_lays 112 = .ok (.goto (-65), 3) := by decide +kernel
theorem dX10_lays_115 : decode cX10_lays 115 = .ok (.aload_n 0, 1) := by decide +kernel
theorem dX10_lays_116 : decode cX10_lays 116 = .ok (.invokevirtual 160, 3) := by decide +kernel
theorem dX10_lays_119 : decode cX10_lays 119 = .ok (.istore 4, 2) := by decide +kernel
theorem dX10_lays_121 : decode cX10_lays 121 = .ok (.iload 4, 2) := by decide +kernel
theorem dX10_lays_123 : decode cX10_lays 123 = .ok (.iconst (-1), 1) := by decide +kernel
theorem dX10_lays_124 : decode cX10_lays 124 = .ok (.if_icmp .eq 100, 3) := by decide +kernel
theorem dX10_lays_127 : decode cX10_lays 127 = .ok (.aload_n 0, 1) := by decide +kernel
theorem dX10_lays_128 : decode cX10_lays 128 = .ok (.getfield 44, 3) := by decide +kernel
theorem dX10_lays_131 : decode cX10_lays 131 = .ok (.iload 4, 2) := by decide +kernel
theorem dX10_lays_133 : decode cX10_lays 133 = .ok (.iaload, 1) := by decide +kernel
theorem dX10_lays_134 : decode cX10_lays 134 = .ok (.aload_n 0, 1) := by decide +kernel
theorem dX10_lays_135 : decode cX10_lays 135 = .ok (.getfield 59, 3) := by decide +kernel
theorem dX10_lays_138 : decode cX10_lays 138 = .ok (.aload_n 0, 1) := by decide +kernel
theorem dX10_lays_139 : decode cX10_lays 139 = .ok (.getfield 38, 3) := by decide +kernel
theorem dX10_lays_142 : decode cX10_lays 142 = .ok (.iload 4, 2) := by decide +kernel
theorem dX10_lays_144 : decode cX10_lays 144 = .ok (.iaload, 1) := by decide +kernel
theorem dX10_lays_145 : decode cX10_lays 145 = .ok (.iaload, 1) := by decide +kernel
theorem dX10_lays_146 : decode cX10_lays 146 = .ok (.if_icmp .ge 13, 3) := by decide +kernel
theorem dX10_lays_149 : decode cX10_lays 149 = .ok (.aload_n 0, 1) := by decide +kernel
theorem dX10_lays_150 : decode cX10_lays 150 = .ok (.getfield 44, 3) := by decide +kernel
theorem dX10_lays_153 : decode cX10_lays 153 = .ok (.iload 4, 2) := by decide +kernel
theorem dX10_lays_155 : decode cX10_lays 155 = .ok (.iaload, 1) := by decide +kernel
theorem dX10_lays_156 : decode cX10_lays 156 = .ok (.goto 15, 3) := by decide +kernel
theorem dX10_lays_159 : decode cX10_lays 159 = .ok (.aload_n 0, 1) := by decide +kernel
theorem dX10_lays_160 : decode cX10_lays 160 = .ok (.getfield 59, 3) := by decide +kernel
theorem dX10_lays_163 : decode cX10_lays 163 = .ok (.aload_n 0, 1) := by decide +kernel
theorem dX10_lays_164 : decode cX10_lays 164 = .ok (.getfield 38, 3) := by decide +kernel
theorem dX10_lays_167 : decode cX10_lays 167 = .ok (.iload 4, 2) := by decide +kernel
theorem dX10_lays_169 : decode cX10_lays 169 = .ok (.iaload, 1) := by decide +kernel
theorem dX10_lays_170 : decode cX10_lays 170 = .ok (.iaload, 1) := by decide +kernel
theorem dX10_lays_171 : decode cX10_lays 171 = .ok (.istore 5, 2) := by decide +kernel
theorem dX10_lays_173 : decode cX10_lays 173 = .ok (.aload_n 0, 1) := by decide +kernel
theorem dX10_lays_174 : decode cX10_lays 174 = .ok (.getfield 59, 3) := by decide +kernel
theorem dX10_lays_177 : decode cX10_lays 177 = .ok (.aload_n 0, 1) := by decide +kernel
theorem dX10_lays_178 : decode cX10_lays 178 = .ok (.getfield 38, 3) := by decide +kernel
theorem dX10_lays_181 : decode cX10_lays 181 = .ok (.iload 4, 2) := by decide +kernel
theorem dX10_lays_183 : decode cX10_lays 183 = .ok (.iaload, 1) := by decide +kernel
theorem dX10_lays_184 : decode cX10_lays 184 = .ok (.dup2, 1) := by decide +kernel
theorem dX10_lays_185 : decode cX10_lays 185 = .ok (.iaload, 1) := by decide +kernel
theorem dX10_lays_186 : decode cX10_lays 186 = .ok (.iload 5, 2) := by decide +kernel
theorem dX10_lays_188 : decode cX10_lays 188 = .ok (.isub, 1) := by decide +kernel
theorem dX10_lays_189 : decode cX10_lays 189 = .ok (.iastore, 1) := by decide +kernel
theorem dX10_lays_190 : decode cX10_lays 190 = .ok (.aload_n 0, 1) := by decide +kernel
theorem dX10_lays_191 : decode cX10_lays 191 = .ok (.getfield 59, 3) := by decide +kernel
theorem dX10_lays_194 : decode cX10_lays 194 = .ok (.aload_n 0, 1) := by decide +kernel
theorem dX10_lays_195 : decode cX10_lays 195 = .ok (.getfield 41, 3) := by decide +kernel
theorem dX10_lays_198 : decode cX10_lays 198 = .ok (.iload 4, 2) := by decide +kernel
theorem dX10_lays_200 : decode cX10_lays 200 = .ok (.iaload, 1) := by decide +kernel
theorem dX10_lays_201 : decode cX10_lays 201 = .ok (.dup2, 1) := by decide +kernel
theorem dX10_lays_202 : decode cX10_lays 202 = .ok (.iaload, 1) := by decide +kernel
theorem dX10_lays_203 : decode cX10_lays 203 = .ok (.iload 5, 2) := by decide +kernel
theorem dX10_lays_205 : decode cX10_lays 205 = .ok (.iadd, 1) := by decide +kernel
theorem dX10_lays_206 : decode cX10_lays 206 = .ok (.iastore, 1) := by decide +kernel
theorem dX10_lays_207 : decode cX10_lays 207 = .ok (.aload_n 0, 1) := by decide +kernel
theorem dX10_lays_208 : decode cX10_lays 208 = .ok (.getfield 62, 3) := by decide +kernel
theorem dX10_lays_211 : decode cX10_lays 211 = .ok (.iload 4, 2) := by decide +kernel
theorem dX10_lays_213 : decode cX10_lays 213 = .ok (.iconst (-1), 1) := by decide +kernel
theorem dX10_lays_214 : decode cX10_lays 214 = .ok (.iastore, 1) := by decide +kernel
theorem dX10_lays_215 : decode cX10_lays 215 = .ok (.aload_n 0, 1) := by decide +kernel
theorem dX10_lays_216 : decode cX10_lays 216 = .ok (.invokevirtual 160, 3) := by decide +kernel
theorem dX10_lays_219 : decode cX10_lays 219 = .ok (.istore 4, 2) := by decide +kernel
theorem dX10_lays_221 : decode cX10_lays 221 = .ok (.goto (-100), 3) := by decide +kernel
theorem dX10_lays_224 : decode cX10_lays 224 = .ok (.return_, 1) := by decide +kernel
theorem dX10_ahead_0 : decode cX10_ahead 0 = .ok (.iconst (-1), 1) := by decide +kernel
theorem dX10_ahead_1 : decode cX10_ahead 1 = .ok (.istore_n 1, 1) := by decide +kernel
theorem dX10_ahead_2 : decode cX10_ahead 2 = .ok (.iconst 0, 1) := by decide +kernel
theorem dX10_ahead_3 : decode cX10_ahead 3 = .ok (.istore_n 2, 1) := by decide +kernel
theorem dX10_ahead_4 : decode cX10_ahead 4 = .ok (.iload_n 2, 1) := by decide +kernel
theorem dX10_ahead_5 : decode cX10_ahead 5 = .ok (.aload_n 0, 1) := by decide +kernel
theorem dX10_ahead_6 : decode cX10_ahead 6 = .ok (.getfield 118, 3) := by decide +kernel
theorem dX10_ahead_9 : decode cX10_ahead 9 = .ok (.if_icmp .ge 41, 3) := by decide +kernel
theorem dX10_ahead_12 : decode cX10_ahead 12 = .ok (.aload_n 0, 1) := by decide +kernel
theorem dX10_ahead_13 : decode cX10_ahead 13 = .ok (.getfield 62, 3) := by decide +kernel
theorem dX10_ahead_16 : decode cX10_ahead 16 = .ok (.iload_n 2, 1) := by decide +kernel
theorem dX10_ahead_17 : decode cX10_ahead 17 = .ok (.iaload, 1) := by decide +kernel
theorem dX10_ahead_18 : decode cX10_ahead 18 = .ok (.iconst (-1), 1) := by decide +kernel
theorem dX10_ahead_19 : decode cX10_ahead 19 = .ok (.if_icmp .eq 25, 3) := by decide +kernel
theorem dX10_ahead_22 : decode cX10_ahead 22 = .ok (.iload_n 1, 1) := by decide +kernel
theorem dX10_ahead_23 : decode cX10_ahead 23 = .ok (.iconst (-1), 1) := by decide +kernel
theorem dX10_ahead_24 : decode cX10_ahead 24 = .ok (.if_icmp .eq 18, 3) := by decide +kernel
theorem dX10_ahead_27 : decode cX10_ahead 27 = .ok (.aload_n 0, 1) := by decide +kernel
theorem dX10_ahead_28 : decode cX10_ahead 28 = .ok (.getfield 62, 3) := by decide +kernel
theorem dX10_ahead_31 : decode cX10_ahead 31 = .ok (.iload_n 2, 1) := by decide +kernel
theorem dX10_ahead_32 : decode cX10_ahead 32 = .ok (.iaload, 1) := by decide +kernel
theorem dX10_ahead_33 : decode cX10_ahead 33 = .ok (.aload_n 0, 1) := by decide +kernel
theorem dX10_ahead_34 : decode cX10_ahead 34 = .ok (.getfield 62, 3) := by decide +kernel
theorem dX10_ahead_37 : decode cX10_ahead 37 = .ok (.iload_n 1, 1) := by decide +kernel
theorem dX10_ahead_38 : decode cX10_ahead 38 = .ok (.iaload, 1) := by decide +kernel
theorem dX10_ahead_39 : decode cX10_ahead 39 = .ok (.if_icmp .ge 5, 3) := by decide +kernel
theorem dX10_ahead_42 : decode cX10_ahead 42 = .ok (.iload_n 2, 1) := by decide +kernel
theorem dX10_ahead_43 : decode cX10_ahead 43 = .ok (.istore_n 1, 1) := by decide +kernel
theorem dX10_ahead_44 : decode cX10_ahead 44 = .ok (.iinc 2 1, 3) := by decide +kernel
theorem dX10_ahead_47 : decode cX10_ahead 47 = .ok (.goto (-43), 3) := by decide +kernel
theorem dX10_ahead_50 : decode cX10_ahead 50 = .ok (.iload_n 1, 1) := by decide +kernel
theorem dX10_ahead_51 : decode cX10_ahead 51 = .ok (.ireturn, 1) := by decide +kernel
theorem dX10_whose_0 : decode cX10_whose 0 = .ok (.aload_n 0, 1) := by decide +kernel
theorem dX10_whose_1 : decode cX10_whose 1 = .ok (.iload_n 1, 1) := by decide +kernel
theorem dX10_whose_2 : decode cX10_whose 2 = .ok (.invokevirtual 129, 3) := by decide +kernel
theorem dX10_whose_5 : decode cX10_whose 5 = .ok (.ifCond .eq 28, 3) := by decide +kernel
theorem dX10_whose_8 : decode cX10_whose 8 = .ok (.iload_n 2, 1) := by decide +kernel
theorem dX10_whose_9 : decode cX10_whose 9 = .ok (.invokestatic 125, 3) := by decide +kernel
theorem dX10_whose_12 : decode cX10_whose 12 = .ok (.ifCond .eq 21, 3) := by decide +kernel
theorem dX10_whose_15 : decode cX10_whose 15 = .ok (.iload_n 3, 1) := by decide +kernel
theorem dX10_whose_16 : decode cX10_whose 16 = .ok (.invokestatic 138, 3) := by decide +kernel
theorem dX10_whose_19 : decode cX10_whose 19 = .ok (.ifCond .eq 14, 3) := by decide +kernel
theorem dX10_whose_22 : decode cX10_whose 22 = .ok (.iload 4, 2) := by decide +kernel
theorem dX10_whose_24 : decode cX10_whose 24 = .ok (.i2l, 1) := by decide +kernel
theorem dX10_whose_25 : decode cX10_whose 25 = .ok (.lconst 0, 1) := by decide +kernel
theorem dX10_whose_26 : decode cX10_whose 26 = .ok (.lconst 1, 1) := by decide +kernel
theorem dX10_whose_27 : decode cX10_whose 27 = .ok (.invokestatic 114, 3) := by decide +kernel
theorem dX10_whose_30 : decode cX10_whose 30 = .ok (.ifCond .ne 6, 3) := by decide +kernel
theorem dX10_whose_33 : decode cX10_whose 33 = .ok (.bipush (-2), 2) := by decide +kernel
theorem dX10_whose_35 : decode cX10_whose 35 = .ok (.ireturn, 1) := by decide +kernel
theorem dX10_whose_36 : decode cX10_whose 36 = .ok (.aload_n 0, 1) := by decide +kernel
theorem dX10_whose_37 : decode cX10_whose 37 = .ok (.iload_n 1, 1) := by decide +kernel
theorem dX10_whose_38 : decode cX10_whose 38 = .ok (.iload_n 3, 1) := by decide +kernel
theorem dX10_whose_39 : decode cX10_whose 39 = .ok (.iload 4, 2) := by decide +kernel
theorem dX10_whose_41 : decode cX10_whose 41 = .ok (.invokevirtual 164, 3) := by decide +kernel
theorem dX10_whose_44 : decode cX10_whose 44 = .ok (.aload_n 0, 1) := by decide +kernel
theorem dX10_whose_45 : decode cX10_whose 45 = .ok (.getfield 59, 3) := by decide +kernel
theorem dX10_whose_48 : decode cX10_whose 48 = .ok (.iload_n 2, 1) := by decide +kernel
theorem dX10_whose_49 : decode cX10_whose 49 = .ok (.iaload, 1) := by decide +kernel
theorem dX10_whose_50 : decode cX10_whose 50 = .ok (.ireturn, 1) := by decide +kernel
theorem dX10_common_0 : decode cX10_common 0 = .ok (.lload_n 0, 1) := by decide +kernel
theorem dX10_common_1 : decode cX10_common 1 = .ok (.lstore 4, 2) := by decide +kernel
theorem dX10_common_3 : decode cX10_common 3 = .ok (.lload_n 2, 1) := by decide +kernel
theorem dX10_common_4 : decode cX10_common 4 = .ok (.lstore 6, 2) := by decide +kernel
theorem dX10_common_6 : decode cX10_common 6 = .ok (.lload 6, 2) := by decide +kernel
theorem dX10_common_8 : decode cX10_common 8 = .ok (.lconst 0, 1) := by decide +kernel
theorem dX10_common_9 : decode cX10_common 9 = .ok (.lcmp, 1) := by decide +kernel
theorem dX10_common_10 : decode cX10_common 10 = .ok (.ifCond .eq 21, 3) := by decide +kernel
theorem dX10_common_13 : decode cX10_common 13 = .ok (.lload 4, 2) := by decide +kernel
theorem dX10_common_15 : decode cX10_common 15 = .ok (.lload 6, 2) := by decide +kernel
theorem dX10_common_17 : decode cX10_common 17 = .ok (.lrem, 1) := by decide +kernel
theorem dX10_common_18 : decode cX10_common 18 = .ok (.lstore 8, 2) := by decide +kernel
theorem dX10_common_20 : decode cX10_common 20 = .ok (.lload 6, 2) := by decide +kernel
theorem dX10_common_22 : decode cX10_common 22 = .ok (.lstore 4, 2) := by decide +kernel
theorem dX10_common_24 : decode cX10_common 24 = .ok (.lload 8, 2) := by decide +kernel
theorem dX10_common_26 : decode cX10_common 26 = .ok (.lstore 6, 2) := by decide +kernel
theorem dX10_common_28 : decode cX10_common 28 = .ok (.goto (-22), 3) := by decide +kernel
theorem dX10_common_31 : decode cX10_common 31 = .ok (.lload 4, 2) := by decide +kernel
theorem dX10_common_33 : decode cX10_common 33 = .ok (.lreturn, 1) := by decide +kernel
theorem dX10_falls_0 : decode cX10_falls 0 = .ok (.aload_n 0, 1) := by decide +kernel
theorem dX10_falls_1 : decode cX10_falls 1 = .ok (.iload_n 1, 1) := by decide +kernel
theorem dX10_falls_2 : decode cX10_falls 2 = .ok (.invokevirtual 129, 3) := by decide +kernel
theorem dX10_falls_5 : decode cX10_falls 5 = .ok (.ifCond .eq 50, 3) := by decide +kernel
theorem dX10_falls_8 : decode cX10_falls 8 = .ok (.iload_n 2, 1) := by decide +kernel
theorem dX10_falls_9 : decode cX10_falls 9 = .ok (.invokestatic 125, 3) := by decide +kernel
theorem dX10_falls_12 : decode cX10_falls 12 = .ok (.ifCond .eq 43, 3) := by decide +kernel
theorem dX10_falls_15 : decode cX10_falls 15 = .ok (.iload_n 3, 1) := by decide +kernel
theorem dX10_falls_16 : decode cX10_falls 16 = .ok (.ifCond .lt 39, 3) := by decide +kernel
theorem dX10_falls_19 : decode cX10_falls 19 = .ok (.iload_n 3, 1) := by decide +kernel
theorem dX10_falls_20 : decode cX10_falls 20 = .ok (.sipush 1000, 3) := by decide +kernel
theorem dX10_falls_23 : decode cX10_falls 23 = .ok (.idiv, 1) := by decide +kernel
theorem dX10_falls_24 : decode cX10_falls 24 = .ok (.invokestatic 138, 3) := by decide +kernel
theorem dX10_falls_27 : decode cX10_falls 27 = .ok (.ifCond .eq 28, 3) := by decide +kernel
theorem dX10_falls_30 : decode cX10_falls 30 = .ok (.iload_n 3, 1) := by decide +kernel
theorem dX10_falls_31 : decode cX10_falls 31 = .ok (.sipush 1000, 3) := by decide +kernel
theorem dX10_falls_34 : decode cX10_falls 34 = .ok (.irem, 1) := by decide +kernel
theorem dX10_falls_35 : decode cX10_falls 35 = .ok (.aload_n 0, 1) := by decide +kernel
theorem dX10_falls_36 : decode cX10_falls 36 = .ok (.getfield 23, 3) := by decide +kernel
theorem dX10_falls_39 : decode cX10_falls 39 = .ok (.iload_n 1, 1) := by decide +kernel
theorem dX10_falls_40 : decode cX10_falls 40 = .ok (.iaload, 1) := by decide +kernel
theorem dX10_falls_41 : decode cX10_falls 41 = .ok (.if_icmp .gt 14, 3) := by decide +kernel
theorem dX10_falls_44 : decode cX10_falls 44 = .ok (.iload 4, 2) := by decide +kernel
theorem dX10_falls_46 : decode cX10_falls 46 = .ok (.i2l, 1) := by decide +kernel
theorem dX10_falls_47 : decode cX10_falls 47 = .ok (.lconst 0, 1) := by decide +kernel
theorem dX10_falls_48 : decode cX10_falls 48 = .ok (.lconst 1, 1) := by decide +kernel
theorem dX10_falls_49 : decode cX10_falls 49 = .ok (.invokestatic 114, 3) := by decide +kernel
theorem dX10_falls_52 : decode cX10_falls 52 = .ok (.ifCond .ne 7, 3) := by decide +kernel
theorem dX10_falls_55 : decode cX10_falls 55 = .ok (.ldc2_w 168, 3) := by decide +kernel
theorem dX10_falls_58 : decode cX10_falls 58 = .ok (.lreturn, 1) := by decide +kernel
theorem dX10_falls_59 : decode cX10_falls 59 = .ok (.aload_n 0, 1) := by decide +kernel
theorem dX10_falls_60 : decode cX10_falls 60 = .ok (.iload_n 1, 1) := by decide +kernel
theorem dX10_falls_61 : decode cX10_falls 61 = .ok (.iload_n 3, 1) := by decide +kernel
theorem dX10_falls_62 : decode cX10_falls 62 = .ok (.sipush 1000, 3) := by decide +kernel
theorem dX10_falls_65 : decode cX10_falls 65 = .ok (.idiv, 1) := by decide +kernel
theorem dX10_falls_66 : decode cX10_falls 66 = .ok (.iconst 1, 1) := by decide +kernel
theorem dX10_falls_67 : decode cX10_falls 67 = .ok (.invokevirtual 164, 3) := by decide +kernel
theorem dX10_falls_70 : decode cX10_falls 70 = .ok (.iload_n 3, 1) := by decide +kernel
theorem dX10_falls_71 : decode cX10_falls 71 = .ok (.sipush 1000, 3) := by decide +kernel
theorem dX10_falls_74 : decode cX10_falls 74 = .ok (.irem, 1) := by decide +kernel
theorem dX10_falls_75 : decode cX10_falls 75 = .ok (.i2l, 1) := by decide +kernel
theorem dX10_falls_76 : decode cX10_falls 76 = .ok (.aload_n 0, 1) := by decide +kernel
theorem dX10_falls_77 : decode cX10_falls 77 = .ok (.getfield 59, 3) := by decide +kernel
theorem dX10_falls_80 : decode cX10_falls 80 = .ok (.iload_n 2, 1) := by decide +kernel
theorem dX10_falls_81 : decode cX10_falls 81 = .ok (.iaload, 1) := by decide +kernel
theorem dX10_falls_82 : decode cX10_falls 82 = .ok (.i2l, 1) := by decide +kernel
theorem dX10_falls_83 : decode cX10_falls 83 = .ok (.lmul, 1) := by decide +kernel
theorem dX10_falls_84 : decode cX10_falls 84 = .ok (.lstore 5, 2) := by decide +kernel
theorem dX10_falls_86 : decode cX10_falls 86 = .ok (.iload 4, 2) := by decide +kernel
theorem dX10_falls_88 : decode cX10_falls 88 = .ok (.ifCond .ne 8, 3) := by decide +kernel
theorem dX10_falls_91 : decode cX10_falls 91 = .ok (.lload 5, 2) := by decide +kernel
theorem dX10_falls_93 : decode cX10_falls 93 = .ok (.goto 10, 3) := by decide +kernel
theorem dX10_falls_96 : decode cX10_falls 96 = .ok (.aload_n 0, 1) := by decide +kernel
theorem dX10_falls_97 : decode cX10_falls 97 = .ok (.getfield 23, 3) := by decide +kernel
theorem dX10_falls_100 : decode cX10_falls 100 = .ok (.iload_n 1, 1) := by decide +kernel
theorem dX10_falls_101 : decode cX10_falls 101 = .ok (.iaload, 1) := by decide +kernel
theorem dX10_falls_102 : decode cX10_falls 102 = .ok (.i2l, 1) := by decide +kernel
theorem dX10_falls_103 : decode cX10_falls 103 = .ok (.lload 5, 2) := by decide +kernel
theorem dX10_falls_105 : decode cX10_falls 105 = .ok (.aload_n 0, 1) := by decide +kernel
theorem dX10_falls_106 : decode cX10_falls 106 = .ok (.getfield 23, 3) := by decide +kernel
theorem dX10_falls_109 : decode cX10_falls 109 = .ok (.iload_n 1, 1) := by decide +kernel
theorem dX10_falls_110 : decode cX10_falls 110 = .ok (.iaload, 1) := by decide +kernel
theorem dX10_falls_111 : decode cX10_falls 111 = .ok (.i2l, 1) := by decide +kernel
theorem dX10_falls_112 : decode cX10_falls 112 = .ok (.invokestatic 170, 3) := by decide +kernel
theorem dX10_falls_115 : decode cX10_falls 115 = .ok (.ldiv, 1) := by decide +kernel
theorem dX10_falls_116 : decode cX10_falls 116 = .ok (.lreturn, 1) := by decide +kernel
theorem dX10_between_0 : decode cX10_between 0 = .ok (.aload_n 0, 1) := by decide +kernel
theorem dX10_between_1 : decode cX10_between 1 = .ok (.iload_n 1, 1) := by decide +kernel
theorem dX10_between_2 : decode cX10_between 2 = .ok (.invokevirtual 129, 3) := by decide +kernel
theorem dX10_between_5 : decode cX10_between 5 = .ok (.ifCond .eq 49, 3) := by decide +kernel
theorem dX10_between_8 : decode cX10_between 8 = .ok (.iload_n 2, 1) := by decide +kernel
theorem dX10_between_9 : decode cX10_between 9 = .ok (.invokestatic 125, 3) := by decide +kernel
theorem dX10_between_12 : decode cX10_between 12 = .ok (.ifCond .eq 42, 3) := by decide +kernel
theorem dX10_between_15 : decode cX10_between 15 = .ok (.iload_n 3, 1) := by decide +kernel
theorem dX10_between_16 : decode cX10_between 16 = .ok (.ifCond .lt 38, 3) := by decide +kernel
theorem dX10_between_19 : decode cX10_between 19 = .ok (.iload_n 3, 1) := by decide +kernel
theorem dX10_between_20 : decode cX10_between 20 = .ok (.sipush 1000, 3) := by decide +kernel
theorem dX10_between_23 : decode cX10_between 23 = .ok (.idiv, 1) := by decide +kernel
theorem dX10_between_24 : decode cX10_between 24 = .ok (.invokestatic 138, 3) := by decide +kernel
theorem dX10_between_27 : decode cX10_between 27 = .ok (.ifCond .eq 27, 3) := by decide +kernel
theorem dX10_between_30 : decode cX10_between 30 = .ok (.iload_n 3, 1) := by decide +kernel
theorem dX10_between_31 : decode cX10_between 31 = .ok (.sipush 1000, 3) := by decide +kernel
theorem dX10_between_34 : decode cX10_between 34 = .ok (.irem, 1) := by decide +kernel
theorem dX10_between_35 : decode cX10_between 35 = .ok (.iload_n 3, 1) := by decide +kernel
theorem dX10_between_36 : decode cX10_between 36 = .ok (.sipush 1000, 3) := by decide +kernel
theorem dX10_between_39 : decode cX10_between 39 = .ok (.idiv, 1) := by decide +kernel
theorem dX10_between_40 : decode cX10_between 40 = .ok (.if_icmp .lt 14, 3) := by decide +kernel
theorem dX10_between_43 : decode cX10_between 43 = .ok (.iload 4, 2) := by decide +kernel
theorem dX10_between_45 : decode cX10_between 45 = .ok (.i2l, 1) := by decide +kernel
theorem dX10_between_46 : decode cX10_between 46 = .ok (.lconst 0, 1) := by decide +kernel
theorem dX10_between_47 : decode cX10_between 47 = .ok (.lconst 1, 1) := by decide +kernel
theorem dX10_between_48 : decode cX10_between 48 = .ok (.invokestatic 114, 3) := by decide +kernel
theorem dX10_between_51 : decode cX10_between 51 = .ok (.ifCond .ne 6, 3) := by decide +kernel
theorem dX10_between_54 : decode cX10_between 54 = .ok (.bipush (-2), 2) := by decide +kernel
theorem dX10_between_56 : decode cX10_between 56 = .ok (.ireturn, 1) := by decide +kernel
theorem dX10_between_57 : decode cX10_between 57 = .ok (.iconst (-1), 1) := by decide +kernel
theorem dX10_between_58 : decode cX10_between 58 = .ok (.istore 5, 2) := by decide +kernel
theorem dX10_between_60 : decode cX10_between 60 = .ok (.iload_n 3, 1) := by decide +kernel
theorem dX10_between_61 : decode cX10_between 61 = .ok (.sipush 1000, 3) := by decide +kernel
theorem dX10_between_64 : decode cX10_between 64 = .ok (.idiv, 1) := by decide +kernel
theorem dX10_between_65 : decode cX10_between 65 = .ok (.istore 6, 2) := by decide +kernel
theorem dX10_between_67 : decode cX10_between 67 = .ok (.iload 6, 2) := by decide +kernel
theorem dX10_between_69 : decode cX10_between 69 = .ok (.iload_n 3, 1) := by decide +kernel
theorem dX10_between_70 : decode cX10_between 70 = .ok (.sipush 1000, 3) := by decide +kernel
theorem dX10_between_73 : decode cX10_between 73 = .ok (.irem, 1) := by decide +kernel
theorem dX10_between_74 : decode cX10_between 74 = .ok (.if_icmp .gt 139, 3) := by decide +kernel
theorem dX10_between_77 : decode cX10_between 77 = .ok (.iload 6, 2) := by decide +kernel
theorem dX10_between_79 : decode cX10_between 79 = .ok (.iload_n 3, 1) := by decide +kernel
theorem dX10_between_80 : decode cX10_between 80 = .ok (.sipush 1000, 3) := by decide +kernel
theorem dX10_between_83 : decode cX10_between 83 = .ok (.idiv, 1) := by decide +kernel
theorem dX10_between_84 : decode cX10_between 84 = .ok (.if_icmp .ne 7, 3) := by decide +kernel
end
section
theorem dX10_between_87 : decode cX10_between 87 = .ok (.iconst 1, 1) := by decide +kernel
theorem dX10_between_88 : decode cX10_between 88 = .ok (.goto 4, 3) := by decide +kernel
theorem dX10_between_91 : decode cX10_between 91 = .ok (.iconst 0, 1) := by decide +kernel
theorem dX10_between_92 : decode cX10_between 92 = .ok (.istore 7, 2) := by decide +kernel
theorem dX10_between_94 : decode cX10_between 94 = .ok (.iconst 0, 1) := by decide +kernel
theorem dX10_between_95 : decode cX10_between 95 = .ok (.istore 8, 2) := by decide +kernel
theorem dX10_between_97 : decode cX10_between 97 = .ok (.iload 8, 2) := by decide +kernel
theorem dX10_between_99 : decode cX10_between 99 = .ok (.aload_n 0, 1) := by decide +kernel
theorem dX10_between_100 : decode cX10_between 100 = .ok (.getfield 118, 3) := by decide +kernel
theorem dX10_between_103 : decode cX10_between 103 = .ok (.if_icmp .ge 44, 3) := by decide +kernel
theorem dX10_between_106 : decode cX10_between 106 = .ok (.iload 7, 2) := by decide +kernel
theorem dX10_between_108 : decode cX10_between 108 = .ok (.ifCond .ne 26, 3) := by decide +kernel
theorem dX10_between_111 : decode cX10_between 111 = .ok (.aload_n 0, 1) := by decide +kernel
theorem dX10_between_112 : decode cX10_between 112 = .ok (.getfield 35, 3) := by decide +kernel
theorem dX10_between_115 : decode cX10_between 115 = .ok (.iload 8, 2) := by decide +kernel
theorem dX10_between_117 : decode cX10_between 117 = .ok (.iaload, 1) := by decide +kernel
theorem dX10_between_118 : decode cX10_between 118 = .ok (.iload_n 1, 1) := by decide +kernel
theorem dX10_between_119 : decode cX10_between 119 = .ok (.if_icmp .ne 19, 3) := by decide +kernel
theorem dX10_between_122 : decode cX10_between 122 = .ok (.aload_n 0, 1) := by decide +kernel
theorem dX10_between_123 : decode cX10_between 123 = .ok (.iload 8, 2) := by decide +kernel
theorem dX10_between_125 : decode cX10_between 125 = .ok (.iconst 1, 1) := by decide +kernel
theorem dX10_between_126 : decode cX10_between 126 = .ok (.invokevirtual 157, 3) := by decide +kernel
theorem dX10_between_129 : decode cX10_between 129 = .ok (.iload 6, 2) := by decide +kernel
theorem dX10_between_131 : decode cX10_between 131 = .ok (.if_icmp .ne 7, 3) := by decide +kernel
theorem dX10_between_134 : decode cX10_between 134 = .ok (.iconst 1, 1) := by decide +kernel
theorem dX10_between_135 : decode cX10_between 135 = .ok (.goto 4, 3) := by decide +kernel
theorem dX10_between_138 : decode cX10_between 138 = .ok (.iconst 0, 1) := by decide +kernel
theorem dX10_between_139 : decode cX10_between 139 = .ok (.istore 7, 2) := by decide +kernel
theorem dX10_between_141 : decode cX10_between 141 = .ok (.iinc 8 1, 3) := by decide +kernel
theorem dX10_between_144 : decode cX10_between 144 = .ok (.goto (-47), 3) := by decide +kernel
theorem dX10_between_147 : decode cX10_between 147 = .ok (.iload 7, 2) := by decide +kernel
theorem dX10_between_149 : decode cX10_between 149 = .ok (.ifCond .ne 6, 3) := by decide +kernel
theorem dX10_between_152 : decode cX10_between 152 = .ok (.goto 55, 3) := by decide +kernel
theorem dX10_between_155 : decode cX10_between 155 = .ok (.aload_n 0, 1) := by decide +kernel
theorem dX10_between_156 : decode cX10_between 156 = .ok (.iload_n 1, 1) := by decide +kernel
theorem dX10_between_157 : decode cX10_between 157 = .ok (.iload 6, 2) := by decide +kernel
theorem dX10_between_159 : decode cX10_between 159 = .ok (.iconst 1, 1) := by decide +kernel
theorem dX10_between_160 : decode cX10_between 160 = .ok (.invokevirtual 164, 3) := by decide +kernel
theorem dX10_between_163 : decode cX10_between 163 = .ok (.iload 5, 2) := by decide +kernel
theorem dX10_between_165 : decode cX10_between 165 = .ok (.iconst (-1), 1) := by decide +kernel
theorem dX10_between_166 : decode cX10_between 166 = .ok (.if_icmp .eq 33, 3) := by decide +kernel
theorem dX10_between_169 : decode cX10_between 169 = .ok (.iload 4, 2) := by decide +kernel
theorem dX10_between_171 : decode cX10_between 171 = .ok (.ifCond .ne 17, 3) := by decide +kernel
theorem dX10_between_174 : decode cX10_between 174 = .ok (.aload_n 0, 1) := by decide +kernel
theorem dX10_between_175 : decode cX10_between 175 = .ok (.getfield 59, 3) := by decide +kernel
theorem dX10_between_178 : decode cX10_between 178 = .ok (.iload_n 2, 1) := by decide +kernel
theorem dX10_between_179 : decode cX10_between 179 = .ok (.iaload, 1) := by decide +kernel
theorem dX10_between_180 : decode cX10_between 180 = .ok (.iload 5, 2) := by decide +kernel
theorem dX10_between_182 : decode cX10_between 182 = .ok (.if_icmp .ge 25, 3) := by decide +kernel
theorem dX10_between_185 : decode cX10_between 185 = .ok (.goto 14, 3) := by decide +kernel
theorem dX10_between_188 : decode cX10_between 188 = .ok (.aload_n 0, 1) := by decide +kernel
theorem dX10_between_189 : decode cX10_between 189 = .ok (.getfield 59, 3) := by decide +kernel
theorem dX10_between_192 : decode cX10_between 192 = .ok (.iload_n 2, 1) := by decide +kernel
theorem dX10_between_193 : decode cX10_between 193 = .ok (.iaload, 1) := by decide +kernel
theorem dX10_between_194 : decode cX10_between 194 = .ok (.iload 5, 2) := by decide +kernel
theorem dX10_between_196 : decode cX10_between 196 = .ok (.if_icmp .le 11, 3) := by decide +kernel
theorem dX10_between_199 : decode cX10_between 199 = .ok (.aload_n 0, 1) := by decide +kernel
theorem dX10_between_200 : decode cX10_between 200 = .ok (.getfield 59, 3) := by decide +kernel
theorem dX10_between_203 : decode cX10_between 203 = .ok (.iload_n 2, 1) := by decide +kernel
theorem dX10_between_204 : decode cX10_between 204 = .ok (.iaload, 1) := by decide +kernel
theorem dX10_between_205 : decode cX10_between 205 = .ok (.istore 5, 2) := by decide +kernel
theorem dX10_between_207 : decode cX10_between 207 = .ok (.iinc 6 1, 3) := by decide +kernel
theorem dX10_between_210 : decode cX10_between 210 = .ok (.goto (-143), 3) := by decide +kernel
theorem dX10_between_213 : decode cX10_between 213 = .ok (.iload 5, 2) := by decide +kernel
theorem dX10_between_215 : decode cX10_between 215 = .ok (.ireturn, 1) := by decide +kernel
theorem dX10_feed_0 : decode cX10_feed 0 = .ok (.iload_n 1, 1) := by decide +kernel
theorem dX10_feed_1 : decode cX10_feed 1 = .ok (.i2l, 1) := by decide +kernel
theorem dX10_feed_2 : decode cX10_feed 2 = .ok (.lconst 1, 1) := by decide +kernel
theorem dX10_feed_3 : decode cX10_feed 3 = .ok (.ldc2_w 174, 3) := by decide +kernel
theorem dX10_feed_6 : decode cX10_feed 6 = .ok (.invokestatic 114, 3) := by decide +kernel
theorem dX10_feed_9 : decode cX10_feed 9 = .ok (.ifCond .ne 6, 3) := by decide +kernel
theorem dX10_feed_12 : decode cX10_feed 12 = .ok (.bipush (-2), 2) := by decide +kernel
theorem dX10_feed_14 : decode cX10_feed 14 = .ok (.ireturn, 1) := by decide +kernel
theorem dX10_feed_15 : decode cX10_feed 15 = .ok (.aload_n 0, 1) := by decide +kernel
theorem dX10_feed_16 : decode cX10_feed 16 = .ok (.getfield 176, 3) := by decide +kernel
theorem dX10_feed_19 : decode cX10_feed 19 = .ok (.iload_n 1, 1) := by decide +kernel
theorem dX10_feed_20 : decode cX10_feed 20 = .ok (.iadd, 1) := by decide +kernel
theorem dX10_feed_21 : decode cX10_feed 21 = .ok (.sipush 160, 3) := by decide +kernel
theorem dX10_feed_24 : decode cX10_feed 24 = .ok (.if_icmp .le 6, 3) := by decide +kernel
theorem dX10_feed_27 : decode cX10_feed 27 = .ok (.bipush (-4), 2) := by decide +kernel
theorem dX10_feed_29 : decode cX10_feed 29 = .ok (.ireturn, 1) := by decide +kernel
theorem dX10_feed_30 : decode cX10_feed 30 = .ok (.iconst 0, 1) := by decide +kernel
theorem dX10_feed_31 : decode cX10_feed 31 = .ok (.istore 4, 2) := by decide +kernel
theorem dX10_feed_33 : decode cX10_feed 33 = .ok (.iload 4, 2) := by decide +kernel
theorem dX10_feed_35 : decode cX10_feed 35 = .ok (.iload_n 1, 1) := by decide +kernel
theorem dX10_feed_36 : decode cX10_feed 36 = .ok (.if_icmp .ge 40, 3) := by decide +kernel
theorem dX10_feed_39 : decode cX10_feed 39 = .ok (.aload_n 0, 1) := by decide +kernel
theorem dX10_feed_40 : decode cX10_feed 40 = .ok (.getfield 20, 3) := by decide +kernel
theorem dX10_feed_43 : decode cX10_feed 43 = .ok (.aload_n 0, 1) := by decide +kernel
theorem dX10_feed_44 : decode cX10_feed 44 = .ok (.getfield 176, 3) := by decide +kernel
theorem dX10_feed_47 : decode cX10_feed 47 = .ok (.lload_n 2, 1) := by decide +kernel
theorem dX10_feed_48 : decode cX10_feed 48 = .ok (.bipush 8, 2) := by decide +kernel
theorem dX10_feed_50 : decode cX10_feed 50 = .ok (.iload 4, 2) := by decide +kernel
theorem dX10_feed_52 : decode cX10_feed 52 = .ok (.imul, 1) := by decide +kernel
theorem dX10_feed_53 : decode cX10_feed 53 = .ok (.lshr, 1) := by decide +kernel
theorem dX10_feed_54 : decode cX10_feed 54 = .ok (.ldc2_w 109, 3) := by decide +kernel
theorem dX10_feed_57 : decode cX10_feed 57 = .ok (.land, 1) := by decide +kernel
theorem dX10_feed_58 : decode cX10_feed 58 = .ok (.l2i, 1) := by decide +kernel
theorem dX10_feed_59 : decode cX10_feed 59 = .ok (.iastore, 1) := by decide +kernel
theorem dX10_feed_60 : decode cX10_feed 60 = .ok (.aload_n 0, 1) := by decide +kernel
theorem dX10_feed_61 : decode cX10_feed 61 = .ok (.dup, 1) := by decide +kernel
theorem dX10_feed_62 : decode cX10_feed 62 = .ok (.getfield 176, 3) := by decide +kernel
theorem dX10_feed_65 : decode cX10_feed 65 = .ok (.iconst 1, 1) := by decide +kernel
theorem dX10_feed_66 : decode cX10_feed 66 = .ok (.iadd, 1) := by decide +kernel
theorem dX10_feed_67 : decode cX10_feed 67 = .ok (.putfield 176, 3) := by decide +kernel
theorem dX10_feed_70 : decode cX10_feed 70 = .ok (.iinc 4 1, 3) := by decide +kernel
theorem dX10_feed_73 : decode cX10_feed 73 = .ok (.goto (-40), 3) := by decide +kernel
theorem dX10_feed_76 : decode cX10_feed 76 = .ok (.aload_n 0, 1) := by decide +kernel
theorem dX10_feed_77 : decode cX10_feed 77 = .ok (.getfield 176, 3) := by decide +kernel
theorem dX10_feed_80 : decode cX10_feed 80 = .ok (.ireturn, 1) := by decide +kernel
theorem dX10_byteAt_0 : decode cX10_byteAt 0 = .ok (.iload_n 1, 1) := by decide +kernel
theorem dX10_byteAt_1 : decode cX10_byteAt 1 = .ok (.aload_n 0, 1) := by decide +kernel
theorem dX10_byteAt_2 : decode cX10_byteAt 2 = .ok (.getfield 179, 3) := by decide +kernel
theorem dX10_byteAt_5 : decode cX10_byteAt 5 = .ok (.if_icmp .ge 17, 3) := by decide +kernel
theorem dX10_byteAt_8 : decode cX10_byteAt 8 = .ok (.aload_n 0, 1) := by decide +kernel
theorem dX10_byteAt_9 : decode cX10_byteAt 9 = .ok (.getfield 13, 3) := by decide +kernel
theorem dX10_byteAt_12 : decode cX10_byteAt 12 = .ok (.aload_n 0, 1) := by decide +kernel
theorem dX10_byteAt_13 : decode cX10_byteAt 13 = .ok (.getfield 182, 3) := by decide +kernel
theorem dX10_byteAt_16 : decode cX10_byteAt 16 = .ok (.iload_n 1, 1) := by decide +kernel
theorem dX10_byteAt_17 : decode cX10_byteAt 17 = .ok (.iadd, 1) := by decide +kernel
theorem dX10_byteAt_18 : decode cX10_byteAt 18 = .ok (.iaload, 1) := by decide +kernel
theorem dX10_byteAt_19 : decode cX10_byteAt 19 = .ok (.goto 4, 3) := by decide +kernel
theorem dX10_byteAt_22 : decode cX10_byteAt 22 = .ok (.iconst (-1), 1) := by decide +kernel
theorem dX10_byteAt_23 : decode cX10_byteAt 23 = .ok (.ireturn, 1) := by decide +kernel
theorem dX10_next_0 : decode cX10_next 0 = .ok (.aload_n 0, 1) := by decide +kernel
theorem dX10_next_1 : decode cX10_next 1 = .ok (.aload_n 0, 1) := by decide +kernel
theorem dX10_next_2 : decode cX10_next 2 = .ok (.getfield 185, 3) := by decide +kernel
theorem dX10_next_5 : decode cX10_next 5 = .ok (.invokevirtual 188, 3) := by decide +kernel
theorem dX10_next_8 : decode cX10_next 8 = .ok (.bipush 32, 2) := by decide +kernel
theorem dX10_next_10 : decode cX10_next 10 = .ok (.if_icmp .eq 16, 3) := by decide +kernel
theorem dX10_next_13 : decode cX10_next 13 = .ok (.aload_n 0, 1) := by decide +kernel
theorem dX10_next_14 : decode cX10_next 14 = .ok (.aload_n 0, 1) := by decide +kernel
theorem dX10_next_15 : decode cX10_next 15 = .ok (.getfield 185, 3) := by decide +kernel
theorem dX10_next_18 : decode cX10_next 18 = .ok (.invokevirtual 188, 3) := by decide +kernel
theorem dX10_next_21 : decode cX10_next 21 = .ok (.bipush 10, 2) := by decide +kernel
theorem dX10_next_23 : decode cX10_next 23 = .ok (.if_icmp .ne 16, 3) := by decide +kernel
theorem dX10_next_26 : decode cX10_next 26 = .ok (.aload_n 0, 1) := by decide +kernel
theorem dX10_next_27 : decode cX10_next 27 = .ok (.dup, 1) := by decide +kernel
theorem dX10_next_28 : decode cX10_next 28 = .ok (.getfield 185, 3) := by decide +kernel
theorem dX10_next_31 : decode cX10_next 31 = .ok (.iconst 1, 1) := by decide +kernel
theorem dX10_next_32 : decode cX10_next 32 = .ok (.iadd, 1) := by decide +kernel
theorem dX10_next_33 : decode cX10_next 33 = .ok (.putfield 185, 3) := by decide +kernel
theorem dX10_next_36 : decode cX10_next 36 = .ok (.goto (-36), 3) := by decide +kernel
theorem dX10_next_39 : decode cX10_next 39 = .ok (.aload_n 0, 1) := by decide +kernel
theorem dX10_next_40 : decode cX10_next 40 = .ok (.aload_n 0, 1) := by decide +kernel
theorem dX10_next_41 : decode cX10_next 41 = .ok (.getfield 185, 3) := by decide +kernel
theorem dX10_next_44 : decode cX10_next 44 = .ok (.putfield 192, 3) := by decide +kernel
theorem dX10_next_47 : decode cX10_next 47 = .ok (.aload_n 0, 1) := by decide +kernel
theorem dX10_next_48 : decode cX10_next 48 = .ok (.aload_n 0, 1) := by decide +kernel
theorem dX10_next_49 : decode cX10_next 49 = .ok (.getfield 185, 3) := by decide +kernel
theorem dX10_next_52 : decode cX10_next 52 = .ok (.invokevirtual 188, 3) := by decide +kernel
theorem dX10_next_55 : decode cX10_next 55 = .ok (.istore_n 1, 1) := by decide +kernel
theorem dX10_next_56 : decode cX10_next 56 = .ok (.aload_n 0, 1) := by decide +kernel
theorem dX10_next_57 : decode cX10_next 57 = .ok (.iconst 4, 1) := by decide +kernel
theorem dX10_next_58 : decode cX10_next 58 = .ok (.putfield 195, 3) := by decide +kernel
theorem dX10_next_61 : decode cX10_next 61 = .ok (.iload_n 1, 1) := by decide +kernel
theorem dX10_next_62 : decode cX10_next 62 = .ok (.ifCond .ge 19, 3) := by decide +kernel
theorem dX10_next_65 : decode cX10_next 65 = .ok (.aload_n 0, 1) := by decide +kernel
theorem dX10_next_66 : decode cX10_next 66 = .ok (.iconst 0, 1) := by decide +kernel
theorem dX10_next_67 : decode cX10_next 67 = .ok (.putfield 195, 3) := by decide +kernel
theorem dX10_next_70 : decode cX10_next 70 = .ok (.aload_n 0, 1) := by decide +kernel
theorem dX10_next_71 : decode cX10_next 71 = .ok (.aload_n 0, 1) := by decide +kernel
theorem dX10_next_72 : decode cX10_next 72 = .ok (.getfield 179, 3) := by decide +kernel
theorem dX10_next_75 : decode cX10_next 75 = .ok (.putfield 192, 3) := by decide +kernel
theorem dX10_next_78 : decode cX10_next 78 = .ok (.goto 294, 3) := by decide +kernel
theorem dX10_next_81 : decode cX10_next 81 = .ok (.iload_n 1, 1) := by decide +kernel
theorem dX10_next_82 : decode cX10_next 82 = .ok (.i2l, 1) := by decide +kernel
theorem dX10_next_83 : decode cX10_next 83 = .ok (.ldc2_w 198, 3) := by decide +kernel
theorem dX10_next_86 : decode cX10_next 86 = .ok (.ldc2_w 200, 3) := by decide +kernel
theorem dX10_next_89 : decode cX10_next 89 = .ok (.invokestatic 114, 3) := by decide +kernel
theorem dX10_next_92 : decode cX10_next 92 = .ok (.ifCond .eq 93, 3) := by decide +kernel
theorem dX10_next_95 : decode cX10_next 95 = .ok (.aload_n 0, 1) := by decide +kernel
theorem dX10_next_96 : decode cX10_next 96 = .ok (.iconst 1, 1) := by decide +kernel
theorem dX10_next_97 : decode cX10_next 97 = .ok (.putfield 195, 3) := by decide +kernel
theorem dX10_next_100 : decode cX10_next 100 = .ok (.aload_n 0, 1) := by decide +kernel
theorem dX10_next_101 : decode cX10_next 101 = .ok (.lconst 0, 1) := by decide +kernel
theorem dX10_next_102 : decode cX10_next 102 = .ok (.putfield 202, 3) := by decide +kernel
theorem dX10_next_105 : decode cX10_next 105 = .ok (.iconst 0, 1) := by decide +kernel
theorem dX10_next_106 : decode cX10_next 106 = .ok (.istore_n 2, 1) := by decide +kernel
theorem dX10_next_107 : decode cX10_next 107 = .ok (.aload_n 0, 1) := by decide +kernel
theorem dX10_next_108 : decode cX10_next 108 = .ok (.aload_n 0, 1) := by decide +kernel
theorem dX10_next_109 : decode cX10_next 109 = .ok (.getfield 185, 3) := by decide +kernel
theorem dX10_next_112 : decode cX10_next 112 = .ok (.invokevirtual 188, 3) := by decide +kernel
theorem dX10_next_115 : decode cX10_next 115 = .ok (.i2l, 1) := by decide +kernel
theorem dX10_next_116 : decode cX10_next 116 = .ok (.ldc2_w 198, 3) := by decide +kernel
theorem dX10_next_119 : decode cX10_next 119 = .ok (.ldc2_w 200, 3) := by decide +kernel
theorem dX10_next_122 : decode cX10_next 122 = .ok (.invokestatic 114, 3) := by decide +kernel
theorem dX10_next_125 : decode cX10_next 125 = .ok (.ifCond .eq 57, 3) := by decide +kernel
theorem dX10_next_128 : decode cX10_next 128 = .ok (.aload_n 0, 1) := by decide +kernel
theorem dX10_next_129 : decode cX10_next 129 = .ok (.iload_n 2, 1) := by decide +kernel
theorem dX10_next_130 : decode cX10_next 130 = .ok (.bipush 8, 2) := by decide +kernel
theorem dX10_next_132 : decode cX10_next 132 = .ok (.if_icmp .ge 28, 3) := by decide +kernel
theorem dX10_next_135 : decode cX10_next 135 = .ok (.ldc2_w 206, 3) := by decide +kernel
theorem dX10_next_138 : decode cX10_next 138 = .ok (.aload_n 0, 1) := by decide +kernel
theorem dX10_next_139 : decode cX10_next 139 = .ok (.getfield 202, 3) := by decide +kernel
theorem dX10_next_142 : decode cX10_next 142 = .ok (.lmul, 1) := by decide +kernel
theorem dX10_next_143 : decode cX10_next 143 = .ok (.aload_n 0, 1) := by decide +kernel
theorem dX10_next_144 : decode cX10_next 144 = .ok (.aload_n 0, 1) := by decide +kernel
theorem dX10_next_145 : decode cX10_next 145 = .ok (.getfield 185, 3) := by decide +kernel
theorem dX10_next_148 : decode cX10_next 148 = .ok (.invokevirtual 188, 3) := by decide +kernel
theorem dX10_next_151 : decode cX10_next 151 = .ok (.i2l, 1) := by decide +kernel
theorem dX10_next_152 : decode cX10_next 152 = .ok (.ladd, 1) := by decide +kernel
theorem dX10_next_153 : decode cX10_next 153 = .ok (.ldc2_w 208, 3) := by decide +kernel
theorem dX10_next_156 : decode cX10_next 156 = .ok (.lsub, 1) := by decide +kernel
theorem dX10_next_157 : decode cX10_next 157 = .ok (.goto 6, 3) := by decide +kernel
theorem dX10_next_160 : decode cX10_next 160 = .ok (.ldc2_w 134, 3) := by decide +kernel
theorem dX10_next_163 : decode cX10_next 163 = .ok (.putfield 202, 3) := by decide +kernel
theorem dX10_next_166 : decode cX10_next 166 = .ok (.iinc 2 1, 3) := by decide +kernel
theorem dX10_next_169 : decode cX10_next 169 = .ok (.aload_n 0, 1) := by decide +kernel
theorem dX10_next_170 : decode cX10_next 170 = .ok (.dup, 1) := by decide +kernel
theorem dX10_next_171 : decode cX10_next 171 = .ok (.getfield 185, 3) := by decide +kernel
theorem dX10_next_174 : decode cX10_next 174 = .ok (.iconst 1, 1) := by decide +kernel
theorem dX10_next_175 : decode cX10_next 175 = .ok (.iadd, 1) := by decide +kernel
theorem dX10_next_176 : decode cX10_next 176 = .ok (.putfield 185, 3) := by decide +kernel
theorem dX10_next_179 : decode cX10_next 179 = .ok (.goto (-72), 3) := by decide +kernel
theorem dX10_next_182 : decode cX10_next 182 = .ok (.goto 190, 3) := by decide +kernel
theorem dX10_next_185 : decode cX10_next 185 = .ok (.iload_n 1, 1) := by decide +kernel
theorem dX10_next_186 : decode cX10_next 186 = .ok (.i2l, 1) := by decide +kernel
theorem dX10_next_187 : decode cX10_next 187 = .ok (.ldc2_w 210, 3) := by decide +kernel
theorem dX10_next_190 : decode cX10_next 190 = .ok (.ldc2_w 212, 3) := by decide +kernel
theorem dX10_next_193 : decode cX10_next 193 = .ok (.invokestatic 114, 3) := by decide +kernel
theorem dX10_next_196 : decode cX10_next 196 = .ok (.ifCond .eq 107, 3) := by decide +kernel
theorem dX10_next_199 : decode cX10_next 199 = .ok (.aload_n 0, 1) := by decide +kernel
theorem dX10_next_200 : decode cX10_next 200 = .ok (.iconst 2, 1) := by decide +kernel
theorem dX10_next_201 : decode cX10_next 201 = .ok (.putfield 195, 3) := by decide +kernel
theorem dX10_next_204 : decode cX10_next 204 = .ok (.aload_n 0, 1) := by decide +kernel
theorem dX10_next_205 : decode cX10_next 205 = .ok (.lconst 0, 1) := by decide +kernel
theorem dX10_next_206 : decode cX10_next 206 = .ok (.putfield 202, 3) := by decide +kernel
theorem dX10_next_209 : decode cX10_next 209 = .ok (.iconst 0, 1) := by decide +kernel
theorem dX10_next_210 : decode cX10_next 210 = .ok (.istore_n 2, 1) := by decide +kernel
theorem dX10_next_211 : decode cX10_next 211 = .ok (.aload_n 0, 1) := by decide +kernel
theorem dX10_next_212 : decode cX10_next 212 = .ok (.aload_n 0, 1) := by decide +kernel
theorem dX10_next_213 : decode cX10_next 213 = .ok (.getfield 185, 3) := by decide +kernel
theorem dX10_next_216 : decode cX10_next 216 = .ok (.invokevirtual 188, 3) := by decide +kernel
theorem dX10_next_219 : decode cX10_next 219 = .ok (.i2l, 1) := by decide +kernel
theorem dX10_next_220 : decode cX10_next 220 = .ok (.ldc2_w 210, 3) := by decide +kernel
theorem dX10_next_223 : decode cX10_next 223 = .ok (.ldc2_w 212, 3) := by decide +kernel
theorem dX10_next_226 : decode cX10_next 226 = .ok (.invokestatic 114, 3) := by decide +kernel
theorem dX10_next_229 : decode cX10_next 229 = .ok (.ifCond .eq 57, 3) := by decide +kernel
theorem dX10_next_232 : decode cX10_next 232 = .ok (.aload_n 0, 1) := by decide +kernel
theorem dX10_next_233 : decode cX10_next 233 = .ok (.iload_n 2, 1) := by decide +kernel
theorem dX10_next_234 : decode cX10_next 234 = .ok (.iconst 4, 1) := by decide +kernel
theorem dX10_next_235 : decode cX10_next 235 = .ok (.if_icmp .ge 28, 3) := by decide +kernel
theorem dX10_next_238 : decode cX10_next 238 = .ok (.ldc2_w 214, 3) := by decide +kernel
theorem dX10_next_241 : decode cX10_next 241 = .ok (.aload_n 0, 1) := by decide +kernel
theorem dX10_next_242 : decode cX10_next 242 = .ok (.getfield 202, 3) := by decide +kernel
theorem dX10_next_245 : decode cX10_next 245 = .ok (.lmul, 1) := by decide +kernel
theorem dX10_next_246 : decode cX10_next 246 = .ok (.aload_n 0, 1) := by decide +kernel
theorem dX10_next_247 : decode cX10_next 247 = .ok (.aload_n 0, 1) := by decide +kernel
theorem dX10_next_248 : decode cX10_next 248 = .ok (.getfield 185, 3) := by decide +kernel
theorem dX10_next_251 : decode cX10_next 251 = .ok (.invokevirtual 188, 3) := by decide +kernel
theorem dX10_next_254 : decode cX10_next 254 = .ok (.i2l, 1) := by decide +kernel
theorem dX10_next_255 : decode cX10_next 255 = .ok (.ladd, 1) := by decide +kernel
theorem dX10_next_256 : decode cX10_next 256 = .ok (.ldc2_w 210, 3) := by decide +kernel
theorem dX10_next_259 : decode cX10_next 259 = .ok (.lsub, 1) := by decide +kernel
theorem dX10_next_260 : decode cX10_next 260 = .ok (.goto 7, 3) := by decide +kernel
theorem dX10_next_263 : decode cX10_next 263 = .ok (.aload_n 0, 1) := by decide +kernel
theorem dX10_next_264 : decode cX10_next 264 = .ok (.getfield 202, 3) := by decide +kernel
theorem dX10_next_267 : decode cX10_next 267 = .ok (.putfield 202, 3) := by decide +kernel
theorem dX10_next_270 : decode cX10_next 270 = .ok (.iinc 2 1, 3) := by decide +kernel
theorem dX10_next_273 : decode cX10_next 273 = .ok (.aload_n 0, 1) := by decide +kernel
theorem dX10_next_274 : decode cX10_next 274 = .ok (.dup, 1) := by decide +kernel
theorem dX10_next_275 : decode cX10_next 275 = .ok (.getfield 185, 3) := by decide +kernel
theorem dX10_next_278 : decode cX10_next 278 = .ok (.iconst 1, 1) := by decide +kernel
theorem dX10_next_279 : decode cX10_next 279 = .ok (.iadd, 1) := by decide +kernel
theorem dX10_next_280 : decode cX10_next 280 = .ok (.putfield 185, 3) := by decide +kernel
theorem dX10_next_283 : decode cX10_next 283 = .ok (.goto (-72), 3) := by decide +kernel
theorem dX10_next_286 : decode cX10_next 286 = .ok (.aload_n 0, 1) := by decide +kernel
theorem dX10_next_287 : decode cX10_next 287 = .ok (.iload_n 2, 1) := by decide +kernel
theorem dX10_next_288 : decode cX10_next 288 = .ok (.iconst 4, 1) := by decide +kernel
theorem dX10_next_289 : decode cX10_next 289 = .ok (.if_icmp .le 7, 3) := by decide +kernel
theorem dX10_next_292 : decode cX10_next 292 = .ok (.iconst 4, 1) := by decide +kernel
theorem dX10_next_293 : decode cX10_next 293 = .ok (.goto 4, 3) := by decide +kernel
theorem dX10_next_296 : decode cX10_next 296 = .ok (.iconst 2, 1) := by decide +kernel
theorem dX10_next_297 : decode cX10_next 297 = .ok (.putfield 195, 3) := by decide +kernel
theorem dX10_next_300 : decode cX10_next 300 = .ok (.goto 72, 3) := by decide +kernel
theorem dX10_next_303 : decode cX10_next 303 = .ok (.iload_n 1, 1) := by decide +kernel
theorem dX10_next_304 : decode cX10_next 304 = .ok (.bipush 40, 2) := by decide +kernel
theorem dX10_next_306 : decode cX10_next 306 = .ok (.if_icmp .eq 45, 3) := by decide +kernel
theorem dX10_next_309 : decode cX10_next 309 = .ok (.iload_n 1, 1) := by decide +kernel
theorem dX10_next_310 : decode cX10_next 310 = .ok (.bipush 41, 2) := by decide +kernel
theorem dX10_next_312 : decode cX10_next 312 = .ok (.if_icmp .eq 39, 3) := by decide +kernel
theorem dX10_next_315 : decode cX10_next 315 = .ok (.iload_n 1, 1) := by decide +kernel
theorem dX10_next_316 : decode cX10_next 316 = .ok (.bipush 59, 2) := by decide +kernel
theorem dX10_next_318 : decode cX10_next 318 = .ok (.if_icmp .eq 33, 3) := by decide +kernel
theorem dX10_next_321 : decode cX10_next 321 = .ok (.iload_n 1, 1) := by decide +kernel
theorem dX10_next_322 : decode cX10_next 322 = .ok (.bipush 43, 2) := by decide +kernel
theorem dX10_next_324 : decode cX10_next 324 = .ok (.if_icmp .eq 27, 3) := by decide +kernel
theorem dX10_next_327 : decode cX10_next 327 = .ok (.iload_n 1, 1) := by decide +kernel
theorem dX10_next_328 : decode cX10_next 328 = .ok (.bipush 45, 2) := by decide +kernel
theorem dX10_next_330 : decode cX10_next 330 = .ok (.if_icmp .eq 21, 3) := by decide +kernel
theorem dX10_next_333 : decode cX10_next 333 = .ok (.iload_n 1, 1) := by decide +kernel
theorem dX10_next_334 : decode cX10_next 334 = .ok (.bipush 42, 2) := by decide +kernel
theorem dX10_next_336 : decode cX10_next 336 = .ok (.if_icmp .eq 15, 3) := by decide +kernel
theorem dX10_next_339 : decode cX10_next 339 = .ok (.iload_n 1, 1) := by decide +kernel
theorem dX10_next_340 : decode cX10_next 340 = .ok (.bipush 60, 2) := by decide +kernel
theorem dX10_next_342 : decode cX10_next 342 = .ok (.if_icmp .eq 9, 3) := by decide +kernel
theorem dX10_next_345 : decode cX10_next 345 = .ok (.iload_n 1, 1) := by decide +kernel
theorem dX10_next_346 : decode cX10_next 346 = .ok (.bipush 61, 2) := by decide +kernel
theorem dX10_next_348 : decode cX10_next 348 = .ok (.if_icmp .ne 24, 3) := by decide +kernel
theorem dX10_next_351 : decode cX10_next 351 = .ok (.aload_n 0, 1) := by decide +kernel
theorem dX10_next_352 : decode cX10_next 352 = .ok (.iconst 3, 1) := by decide +kernel
theorem dX10_next_353 : decode cX10_next 353 = .ok (.putfield 195, 3) := by decide +kernel
theorem dX10_next_356 : decode cX10_next 356 = .ok (.aload_n 0, 1) := by decide +kernel
theorem dX10_next_357 : decode cX10_next 357 = .ok (.iload_n 1, 1) := by decide +kernel
theorem dX10_next_358 : decode cX10_next 358 = .ok (.i2l, 1) := by decide +kernel
theorem dX10_next_359 : decode cX10_next 359 = .ok (.putfield 202, 3) := by decide +kernel
theorem dX10_next_362 : decode cX10_next 362 = .ok (.aload_n 0, 1) := by decide +kernel
theorem dX10_next_363 : decode cX10_next 363 = .ok (.dup, 1) := by decide +kernel
theorem dX10_next_364 : decode cX10_next 364 = .ok (.getfield 185, 3) := by decide +kernel
theorem dX10_next_367 : decode cX10_next 367 = .ok (.iconst 1, 1) := by decide +kernel
theorem dX10_next_368 : decode cX10_next 368 = .ok (.iadd, 1) := by decide +kernel
theorem dX10_next_369 : decode cX10_next 369 = .ok (.putfield 185, 3) := by decide +kernel
theorem dX10_next_372 : decode cX10_next 372 = .ok (.return_, 1) := by decide +kernel
theorem dX10_fail_0 : decode cX10_fail 0 = .ok (.aload_n 0, 1) := by decide +kernel
theorem dX10_fail_1 : decode cX10_fail 1 = .ok (.getfield 216, 3) := by decide +kernel
theorem dX10_fail_4 : decode cX10_fail 4 = .ok (.ifCond .ne 16, 3) := by decide +kernel
theorem dX10_fail_7 : decode cX10_fail 7 = .ok (.aload_n 0, 1) := by decide +kernel
theorem dX10_fail_8 : decode cX10_fail 8 = .ok (.iconst 1, 1) := by decide +kernel
theorem dX10_fail_9 : decode cX10_fail 9 = .ok (.putfield 216, 3) := by decide +kernel
theorem dX10_fail_12 : decode cX10_fail 12 = .ok (.aload_n 0, 1) := by decide +kernel
theorem dX10_fail_13 : decode cX10_fail 13 = .ok (.aload_n 0, 1) := by decide +kernel
theorem dX10_fail_14 : decode cX10_fail 14 = .ok (.getfield 192, 3) := by decide +kernel
theorem dX10_fail_17 : decode cX10_fail 17 = .ok (.putfield 220, 3) := by decide +kernel
theorem dX10_fail_20 : decode cX10_fail 20 = .ok (.return_, 1) := by decide +kernel
theorem dX10_isWord_0 : decode cX10_isWord 0 = .ok (.aload_n 0, 1) := by decide +kernel
theorem dX10_isWord_1 : decode cX10_isWord 1 = .ok (.getfield 216, 3) := by decide +kernel
theorem dX10_isWord_4 : decode cX10_isWord 4 = .ok (.ifCond .ne 24, 3) := by decide +kernel
theorem dX10_isWord_7 : decode cX10_isWord 7 = .ok (.aload_n 0, 1) := by decide +kernel
theorem dX10_isWord_8 : decode cX10_isWord 8 = .ok (.getfield 195, 3) := by decide +kernel
theorem dX10_isWord_11 : decode cX10_isWord 11 = .ok (.iconst 1, 1) := by decide +kernel
theorem dX10_isWord_12 : decode cX10_isWord 12 = .ok (.if_icmp .ne 16, 3) := by decide +kernel
theorem dX10_isWord_15 : decode cX10_isWord 15 = .ok (.aload_n 0, 1) := by decide +kernel
theorem dX10_isWord_16 : decode cX10_isWord 16 = .ok (.getfield 202, 3) := by decide +kernel
theorem dX10_isWord_19 : decode cX10_isWord 19 = .ok (.lload_n 1, 1) := by decide +kernel
theorem dX10_isWord_20 : decode cX10_isWord 20 = .ok (.lcmp, 1) := by decide +kernel
theorem dX10_isWord_21 : decode cX10_isWord 21 = .ok (.ifCond .ne 7, 3) := by decide +kernel
theorem dX10_isWord_24 : decode cX10_isWord 24 = .ok (.iconst 1, 1) := by decide +kernel
theorem dX10_isWord_25 : decode cX10_isWord 25 = .ok (.goto 4, 3) := by decide +kernel
theorem dX10_isWord_28 : decode cX10_isWord 28 = .ok (.iconst 0, 1) := by decide +kernel
theorem dX10_isWord_29 : decode cX10_isWord 29 = .ok (.ireturn, 1) := by decide +kernel
theorem dX10_isSign_0 : decode cX10_isSign 0 = .ok (.aload_n 0, 1) := by decide +kernel
theorem dX10_isSign_1 : decode cX10_isSign 1 = .ok (.getfield 216, 3) := by decide +kernel
theorem dX10_isSign_4 : decode cX10_isSign 4 = .ok (.ifCond .ne 25, 3) := by decide +kernel
theorem dX10_isSign_7 : decode cX10_isSign 7 = .ok (.aload_n 0, 1) := by decide +kernel
theorem dX10_isSign_8 : decode cX10_isSign 8 = .ok (.getfield 195, 3) := by decide +kernel
theorem dX10_isSign_11 : decode cX10_isSign 11 = .ok (.iconst 3, 1) := by decide +kernel
theorem dX10_isSign_12 : decode cX10_isSign 12 = .ok (.if_icmp .ne 17, 3) := by decide +kernel
theorem dX10_isSign_15 : decode cX10_isSign 15 = .ok (.aload_n 0, 1) := by decide +kernel
theorem dX10_isSign_16 : decode cX10_isSign 16 = .ok (.getfield 202, 3) := by decide +kernel
theorem dX10_isSign_19 : decode cX10_isSign 19 = .ok (.iload_n 1, 1) := by decide +kernel
theorem dX10_isSign_20 : decode cX10_isSign 20 = .ok (.i2l, 1) := by decide +kernel
theorem dX10_isSign_21 : decode cX10_isSign 21 = .ok (.lcmp, 1) := by decide +kernel
theorem dX10_isSign_22 : decode cX10_isSign 22 = .ok (.ifCond .ne 7, 3) := by decide +kernel
theorem dX10_isSign_25 : decode cX10_isSign 25 = .ok (.iconst 1, 1) := by decide +kernel
theorem dX10_isSign_26 : decode cX10_isSign 26 = .ok (.goto 4, 3) := by decide +kernel
theorem dX10_isSign_29 : decode cX10_isSign 29 = .ok (.iconst 0, 1) := by decide +kernel
theorem dX10_isSign_30 : decode cX10_isSign 30 = .ok (.ireturn, 1) := by decide +kernel
theorem dX10_opens_0 : decode cX10_opens 0 = .ok (.aload_n 0, 1) := by decide +kernel
theorem dX10_opens_1 : decode cX10_opens 1 = .ok (.getfield 223, 3) := by decide +kernel
theorem dX10_opens_4 : decode cX10_opens 4 = .ok (.iconst 5, 1) := by decide +kernel
theorem dX10_opens_5 : decode cX10_opens 5 = .ok (.if_icmp .ne 9, 3) := by decide +kernel
theorem dX10_opens_8 : decode cX10_opens 8 = .ok (.aload_n 0, 1) := by decide +kernel
theorem dX10_opens_9 : decode cX10_opens 9 = .ok (.invokevirtual 226, 3) := by decide +kernel
theorem dX10_opens_12 : decode cX10_opens 12 = .ok (.iconst 0, 1) := by decide +kernel
theorem dX10_opens_13 : decode cX10_opens 13 = .ok (.ireturn, 1) := by decide +kernel
theorem dX10_opens_14 : decode cX10_opens 14 = .ok (.aload_n 0, 1) := by decide +kernel
theorem dX10_opens_15 : decode cX10_opens 15 = .ok (.dup, 1) := by decide +kernel
theorem dX10_opens_16 : decode cX10_opens 16 = .ok (.getfield 223, 3) := by decide +kernel
theorem dX10_opens_19 : decode cX10_opens 19 = .ok (.iconst 1, 1) := by decide +kernel
theorem dX10_opens_20 : decode cX10_opens 20 = .ok (.iadd, 1) := by decide +kernel
theorem dX10_opens_21 : decode cX10_opens 21 = .ok (.putfield 223, 3) := by decide +kernel
theorem dX10_opens_24 : decode cX10_opens 24 = .ok (.aload_n 0, 1) := by decide +kernel
theorem dX10_opens_25 : decode cX10_opens 25 = .ok (.invokevirtual 229, 3) := by decide +kernel
theorem dX10_opens_28 : decode cX10_opens 28 = .ok (.iconst 1, 1) := by decide +kernel
theorem dX10_opens_29 : decode cX10_opens 29 = .ok (.ireturn, 1) := by decide +kernel
theorem dX10_name_0 : decode cX10_name 0 = .ok (.aload_n 0, 1) := by decide +kernel
theorem dX10_name_1 : decode cX10_name 1 = .ok (.ldc2_w 232, 3) := by decide +kernel
theorem dX10_name_4 : decode cX10_name 4 = .ok (.invokevirtual 234, 3) := by decide +kernel
theorem dX10_name_7 : decode cX10_name 7 = .ok (.ifCond .eq 13, 3) := by decide +kernel
theorem dX10_name_10 : decode cX10_name 10 = .ok (.aload_n 0, 1) := by decide +kernel
theorem dX10_name_11 : decode cX10_name 11 = .ok (.getfield 32, 3) := by decide +kernel
theorem dX10_name_14 : decode cX10_name 14 = .ok (.aload_n 0, 1) := by decide +kernel
theorem dX10_name_15 : decode cX10_name 15 = .ok (.getfield 238, 3) := by decide +kernel
theorem dX10_name_18 : decode cX10_name 18 = .ok (.iaload, 1) := by decide +kernel
theorem dX10_name_19 : decode cX10_name 19 = .ok (.ireturn, 1) := by decide +kernel
theorem dX10_name_20 : decode cX10_name 20 = .ok (.aload_n 0, 1) := by decide +kernel
theorem dX10_name_21 : decode cX10_name 21 = .ok (.ldc2_w 241, 3) := by decide +kernel
theorem dX10_name_24 : decode cX10_name 24 = .ok (.invokevirtual 234, 3) := by decide +kernel
theorem dX10_name_27 : decode cX10_name 27 = .ok (.ifCond .eq 8, 3) := by decide +kernel
theorem dX10_name_30 : decode cX10_name 30 = .ok (.aload_n 0, 1) := by decide +kernel
theorem dX10_name_31 : decode cX10_name 31 = .ok (.getfield 243, 3) := by decide +kernel
theorem dX10_name_34 : decode cX10_name 34 = .ok (.ireturn, 1) := by decide +kernel
theorem dX10_name_35 : decode cX10_name 35 = .ok (.aload_n 0, 1) := by decide +kernel
theorem dX10_name_36 : decode cX10_name 36 = .ok (.ldc2_w 246, 3) := by decide +kernel
theorem dX10_name_39 : decode cX10_name 39 = .ok (.invokevirtual 234, 3) := by decide +kernel
theorem dX10_name_42 : decode cX10_name 42 = .ok (.ifCond .eq 13, 3) := by decide +kernel
theorem dX10_name_45 : decode cX10_name 45 = .ok (.aload_n 0, 1) := by decide +kernel
theorem dX10_name_46 : decode cX10_name 46 = .ok (.getfield 47, 3) := by decide +kernel
theorem dX10_name_49 : decode cX10_name 49 = .ok (.aload_n 0, 1) := by decide +kernel
theorem dX10_name_50 : decode cX10_name 50 = .ok (.getfield 238, 3) := by decide +kernel
theorem dX10_name_53 : decode cX10_name 53 = .ok (.iaload, 1) := by decide +kernel
theorem dX10_name_54 : decode cX10_name 54 = .ok (.ireturn, 1) := by decide +kernel
theorem dX10_name_55 : decode cX10_name 55 = .ok (.aload_n 0, 1) := by decide +kernel
theorem dX10_name_56 : decode cX10_name 56 = .ok (.ldc2_w 248, 3) := by decide +kernel
theorem dX10_name_59 : decode cX10_name 59 = .ok (.invokevirtual 234, 3) := by decide +kernel
theorem dX10_name_62 : decode cX10_name 62 = .ok (.ifCond .eq 13, 3) := by decide +kernel
theorem dX10_name_65 : decode cX10_name 65 = .ok (.aload_n 0, 1) := by decide +kernel
theorem dX10_name_66 : decode cX10_name 66 = .ok (.getfield 44, 3) := by decide +kernel
theorem dX10_name_69 : decode cX10_name 69 = .ok (.aload_n 0, 1) := by decide +kernel
theorem dX10_name_70 : decode cX10_name 70 = .ok (.getfield 238, 3) := by decide +kernel
theorem dX10_name_73 : decode cX10_name 73 = .ok (.iaload, 1) := by decide +kernel
theorem dX10_name_74 : decode cX10_name 74 = .ok (.ireturn, 1) := by decide +kernel
theorem dX10_name_75 : decode cX10_name 75 = .ok (.aload_n 0, 1) := by decide +kernel
theorem dX10_name_76 : decode cX10_name 76 = .ok (.ldc2_w 250, 3) := by decide +kernel
theorem dX10_name_79 : decode cX10_name 79 = .ok (.invokevirtual 234, 3) := by decide +kernel
theorem dX10_name_82 : decode cX10_name 82 = .ok (.ifCond .eq 13, 3) := by decide +kernel
theorem dX10_name_85 : decode cX10_name 85 = .ok (.aload_n 0, 1) := by decide +kernel
theorem dX10_name_86 : decode cX10_name 86 = .ok (.getfield 56, 3) := by decide +kernel
theorem dX10_name_89 : decode cX10_name 89 = .ok (.aload_n 0, 1) := by decide +kernel
theorem dX10_name_90 : decode cX10_name 90 = .ok (.getfield 238, 3) := by decide +kernel
theorem dX10_name_93 : decode cX10_name 93 = .ok (.iaload, 1) := by decide +kernel
theorem dX10_name_94 : decode cX10_name 94 = .ok (.ireturn, 1) := by decide +kernel
theorem dX10_name_95 : decode cX10_name 95 = .ok (.aload_n 0, 1) := by decide +kernel
theorem dX10_name_96 : decode cX10_name 96 = .ok (.ldc2_w 252, 3) := by decide +kernel
theorem dX10_name_99 : decode cX10_name 99 = .ok (.invokevirtual 234, 3) := by decide +kernel
theorem dX10_name_102 : decode cX10_name 102 = .ok (.ifCond .eq 12, 3) := by decide +kernel
theorem dX10_name_105 : decode cX10_name 105 = .ok (.aload_n 0, 1) := by decide +kernel
theorem dX10_name_106 : decode cX10_name 106 = .ok (.aload_n 0, 1) := by decide +kernel
theorem dX10_name_107 : decode cX10_name 107 = .ok (.getfield 238, 3) := by decide +kernel
theorem dX10_name_110 : decode cX10_name 110 = .ok (.invokevirtual 254, 3) := by decide +kernel
theorem dX10_name_113 : decode cX10_name 113 = .ok (.ireturn, 1) := by decide +kernel
theorem dX10_name_114 : decode cX10_name 114 = .ok (.aload_n 0, 1) := by decide +kernel
theorem dX10_name_115 : decode cX10_name 115 = .ok (.invokevirtual 226, 3) := by decide +kernel
theorem dX10_name_118 : decode cX10_name 118 = .ok (.iconst 0, 1) := by decide +kernel
theorem dX10_name_119 : decode cX10_name 119 = .ok (.ireturn, 1) := by decide +kernel
theorem dX10_one_0 : decode cX10_one 0 = .ok (.iconst 0, 1) := by decide +kernel
theorem dX10_one_1 : decode cX10_one 1 = .ok (.istore_n 1, 1) := by decide +kernel
theorem dX10_one_2 : decode cX10_one 2 = .ok (.aload_n 0, 1) := by decide +kernel
theorem dX10_one_3 : decode cX10_one 3 = .ok (.bipush 45, 2) := by decide +kernel
theorem dX10_one_5 : decode cX10_one 5 = .ok (.invokevirtual 257, 3) := by decide +kernel
theorem dX10_one_8 : decode cX10_one 8 = .ok (.ifCond .eq 29, 3) := by decide +kernel
theorem dX10_one_11 : decode cX10_one 11 = .ok (.aload_n 0, 1) := by decide +kernel
theorem dX10_one_12 : decode cX10_one 12 = .ok (.invokevirtual 260, 3) := by decide +kernel
theorem dX10_one_15 : decode cX10_one 15 = .ok (.ifCond .eq 146, 3) := by decide +kernel
theorem dX10_one_18 : decode cX10_one 18 = .ok (.aload_n 0, 1) := by decide +kernel
theorem dX10_one_19 : decode cX10_one 19 = .ok (.invokevirtual 264, 3) := by decide +kernel
theorem dX10_one_22 : decode cX10_one 22 = .ok (.ineg, 1) := by decide +kernel
theorem dX10_one_23 : decode cX10_one 23 = .ok (.istore_n 1, 1) := by decide +kernel
theorem dX10_one_24 : decode cX10_one 24 = .ok (.aload_n 0, 1) := by decide +kernel
theorem dX10_one_25 : decode cX10_one 25 = .ok (.dup, 1) := by decide +kernel
theorem dX10_one_26 : decode cX10_one 26 = .ok (.getfield 223, 3) := by decide +kernel
theorem dX10_one_29 : decode cX10_one 29 = .ok (.iconst 1, 1) := by decide +kernel
theorem dX10_one_30 : decode cX10_one 30 = .ok (.isub, 1) := by decide +kernel
theorem dX10_one_31 : decode cX10_one 31 = .ok (.putfield 223, 3) := by decide +kernel
theorem dX10_one_34 : decode cX10_one 34 = .ok (.goto 127, 3) := by decide +kernel
theorem dX10_one_37 : decode cX10_one 37 = .ok (.aload_n 0, 1) := by decide +kernel
theorem dX10_one_38 : decode cX10_one 38 = .ok (.bipush 40, 2) := by decide +kernel
theorem dX10_one_40 : decode cX10_one 40 = .ok (.invokevirtual 257, 3) := by decide +kernel
theorem dX10_one_43 : decode cX10_one 43 = .ok (.ifCond .eq 52, 3) := by decide +kernel
theorem dX10_one_46 : decode cX10_one 46 = .ok (.aload_n 0, 1) := by decide +kernel
theorem dX10_one_47 : decode cX10_one 47 = .ok (.invokevirtual 260, 3) := by decide +kernel
theorem dX10_one_50 : decode cX10_one 50 = .ok (.ifCond .eq 111, 3) := by decide +kernel
theorem dX10_one_53 : decode cX10_one 53 = .ok (.aload_n 0, 1) := by decide +kernel
theorem dX10_one_54 : decode cX10_one 54 = .ok (.invokevirtual 267, 3) := by decide +kernel
theorem dX10_one_57 : decode cX10_one 57 = .ok (.istore_n 1, 1) := by decide +kernel
theorem dX10_one_58 : decode cX10_one 58 = .ok (.aload_n 0, 1) := by decide +kernel
theorem dX10_one_59 : decode cX10_one 59 = .ok (.bipush 41, 2) := by decide +kernel
theorem dX10_one_61 : decode cX10_one 61 = .ok (.invokevirtual 257, 3) := by decide +kernel
theorem dX10_one_64 : decode cX10_one 64 = .ok (.ifCond .ne 7, 3) := by decide +kernel
theorem dX10_one_67 : decode cX10_one 67 = .ok (.aload_n 0, 1) := by decide +kernel
theorem dX10_one_68 : decode cX10_one 68 = .ok (.invokevirtual 226, 3) := by decide +kernel
theorem dX10_one_71 : decode cX10_one 71 = .ok (.aload_n 0, 1) := by decide +kernel
theorem dX10_one_72 : decode cX10_one 72 = .ok (.dup, 1) := by decide +kernel
theorem dX10_one_73 : decode cX10_one 73 = .ok (.getfield 223, 3) := by decide +kernel
theorem dX10_one_76 : decode cX10_one 76 = .ok (.iconst 1, 1) := by decide +kernel
theorem dX10_one_77 : decode cX10_one 77 = .ok (.isub, 1) := by decide +kernel
theorem dX10_one_78 : decode cX10_one 78 = .ok (.putfield 223, 3) := by decide +kernel
theorem dX10_one_81 : decode cX10_one 81 = .ok (.aload_n 0, 1) := by decide +kernel
theorem dX10_one_82 : decode cX10_one 82 = .ok (.getfield 216, 3) := by decide +kernel
theorem dX10_one_85 : decode cX10_one 85 = .ok (.ifCond .ne 76, 3) := by decide +kernel
theorem dX10_one_88 : decode cX10_one 88 = .ok (.aload_n 0, 1) := by decide +kernel
theorem dX10_one_89 : decode cX10_one 89 = .ok (.invokevirtual 229, 3) := by decide +kernel
theorem dX10_one_92 : decode cX10_one 92 = .ok (.goto 69, 3) := by decide +kernel
theorem dX10_one_95 : decode cX10_one 95 = .ok (.aload_n 0, 1) := by decide +kernel
theorem dX10_one_96 : decode cX10_one 96 = .ok (.getfield 216, 3) := by decide +kernel
theorem dX10_one_99 : decode cX10_one 99 = .ok (.ifCond .ne 24, 3) := by decide +kernel
theorem dX10_one_102 : decode cX10_one 102 = .ok (.aload_n 0, 1) := by decide +kernel
theorem dX10_one_103 : decode cX10_one 103 = .ok (.getfield 195, 3) := by decide +kernel
theorem dX10_one_106 : decode cX10_one 106 = .ok (.iconst 2, 1) := by decide +kernel
theorem dX10_one_107 : decode cX10_one 107 = .ok (.if_icmp .ne 16, 3) := by decide +kernel
theorem dX10_one_110 : decode cX10_one 110 = .ok (.aload_n 0, 1) := by decide +kernel
theorem dX10_one_111 : decode cX10_one 111 = .ok (.getfield 202, 3) := by decide +kernel
theorem dX10_one_114 : decode cX10_one 114 = .ok (.l2i, 1) := by decide +kernel
theorem dX10_one_115 : decode cX10_one 115 = .ok (.istore_n 1, 1) := by decide +kernel
theorem dX10_one_116 : decode cX10_one 116 = .ok (.aload_n 0, 1) := by decide +kernel
theorem dX10_one_117 : decode cX10_one 117 = .ok (.invokevirtual 229, 3) := by decide +kernel
theorem dX10_one_120 : decode cX10_one 120 = .ok (.goto 41, 3) := by decide +kernel
theorem dX10_one_123 : decode cX10_one 123 = .ok (.aload_n 0, 1) := by decide +kernel
theorem dX10_one_124 : decode cX10_one 124 = .ok (.getfield 216, 3) := by decide +kernel
theorem dX10_one_127 : decode cX10_one 127 = .ok (.ifCond .ne 30, 3) := by decide +kernel
theorem dX10_one_130 : decode cX10_one 130 = .ok (.aload_n 0, 1) := by decide +kernel
theorem dX10_one_131 : decode cX10_one 131 = .ok (.getfield 195, 3) := by decide +kernel
theorem dX10_one_134 : decode cX10_one 134 = .ok (.iconst 1, 1) := by decide +kernel
theorem dX10_one_135 : decode cX10_one 135 = .ok (.if_icmp .ne 22, 3) := by decide +kernel
theorem dX10_one_138 : decode cX10_one 138 = .ok (.aload_n 0, 1) := by decide +kernel
theorem dX10_one_139 : decode cX10_one 139 = .ok (.invokevirtual 270, 3) := by decide +kernel
theorem dX10_one_142 : decode cX10_one 142 = .ok (.istore_n 1, 1) := by decide +kernel
theorem dX10_one_143 : decode cX10_one 143 = .ok (.aload_n 0, 1) := by decide +kernel
theorem dX10_one_144 : decode cX10_one 144 = .ok (.getfield 216, 3) := by decide +kernel
theorem dX10_one_147 : decode cX10_one 147 = .ok (.ifCond .ne 14, 3) := by decide +kernel
theorem dX10_one_150 : decode cX10_one 150 = .ok (.aload_n 0, 1) := by decide +kernel
theorem dX10_one_151 : decode cX10_one 151 = .ok (.invokevirtual 229, 3) := by decide +kernel
theorem dX10_one_154 : decode cX10_one 154 = .ok (.goto 7, 3) := by decide +kernel
theorem dX10_one_157 : decode cX10_one 157 = .ok (.aload_n 0, 1) := by decide +kernel
theorem dX10_one_158 : decode cX10_one 158 = .ok (.invokevirtual 226, 3) := by decide +kernel
theorem dX10_one_161 : decode cX10_one 161 = .ok (.iload_n 1, 1) := by decide +kernel
theorem dX10_one_162 : decode cX10_one 162 = .ok (.ireturn, 1) := by decide +kernel
theorem dX10_term_0 : decode cX10_term 0 = .ok (.aload_n 0, 1) := by decide +kernel
theorem dX10_term_1 : decode cX10_term 1 = .ok (.invokevirtual 264, 3) := by decide +kernel
theorem dX10_term_4 : decode cX10_term 4 = .ok (.istore_n 1, 1) := by decide +kernel
theorem dX10_term_5 : decode cX10_term 5 = .ok (.aload_n 0, 1) := by decide +kernel
theorem dX10_term_6 : decode cX10_term 6 = .ok (.bipush 42, 2) := by decide +kernel
theorem dX10_term_8 : decode cX10_term 8 = .ok (.invokevirtual 257, 3) := by decide +kernel
theorem dX10_term_11 : decode cX10_term 11 = .ok (.ifCond .eq 17, 3) := by decide +kernel
theorem dX10_term_14 : decode cX10_term 14 = .ok (.aload_n 0, 1) := by decide +kernel
theorem dX10_term_15 : decode cX10_term 15 = .ok (.invokevirtual 229, 3) := by decide +kernel
theorem dX10_term_18 : decode cX10_term 18 = .ok (.iload_n 1, 1) := by decide +kernel
theorem dX10_term_19 : decode cX10_term 19 = .ok (.aload_n 0, 1) := by decide +kernel
theorem dX10_term_20 : decode cX10_term 20 = .ok (.invokevirtual 264, 3) := by decide +kernel
theorem dX10_term_23 : decode cX10_term 23 = .ok (.imul, 1) := by decide +kernel
theorem dX10_term_24 : decode cX10_term 24 = .ok (.istore_n 1, 1) := by decide +kernel
theorem dX10_term_25 : decode cX10_term 25 = .ok (.goto (-20), 3) := by decide +kernel
theorem dX10_term_28 : decode cX10_term 28 = .ok (.iload_n 1, 1) := by decide +kernel
theorem dX10_term_29 : decode cX10_term 29 = .ok (.ireturn, 1) := by decide +kernel
theorem dX10_added_0 : decode cX10_added 0 = .ok (.aload_n 0, 1) := by decide +kernel
theorem dX10_added_1 : decode cX10_added 1 = .ok (.invokevirtual 273, 3) := by decide +kernel
theorem dX10_added_4 : decode cX10_added 4 = .ok (.istore_n 1, 1) := by decide +kernel
theorem dX10_added_5 : decode cX10_added 5 = .ok (.aload_n 0, 1) := by decide +kernel
theorem dX10_added_6 : decode cX10_added 6 = .ok (.bipush 43, 2) := by decide +kernel
theorem dX10_added_8 : decode cX10_added 8 = .ok (.invokevirtual 257, 3) := by decide +kernel
theorem dX10_added_11 : decode cX10_added 11 = .ok (.ifCond .ne 12, 3) := by decide +kernel
theorem dX10_added_14 : decode cX10_added 14 = .ok (.aload_n 0, 1) := by decide +kernel
theorem dX10_added_15 : decode cX10_added 15 = .ok (.bipush 45, 2) := by decide +kernel
theorem dX10_added_17 : decode cX10_added 17 = .ok (.invokevirtual 257, 3) := by decide +kernel
theorem dX10_added_20 : decode cX10_added 20 = .ok (.ifCond .eq 46, 3) := by decide +kernel
theorem dX10_added_23 : decode cX10_added 23 = .ok (.aload_n 0, 1) := by decide +kernel
theorem dX10_added_24 : decode cX10_added 24 = .ok (.getfield 202, 3) := by decide +kernel
theorem dX10_added_27 : decode cX10_added 27 = .ok (.ldc2_w 276, 3) := by decide +kernel
theorem dX10_added_30 : decode cX10_added 30 = .ok (.lcmp, 1) := by decide +kernel
theorem dX10_added_31 : decode cX10_added 31 = .ok (.ifCond .ne 7, 3) := by decide +kernel
theorem dX10_added_34 : decode cX10_added 34 = .ok (.iconst 1, 1) := by decide +kernel
theorem dX10_added_35 : decode cX10_added 35 = .ok (.goto 4, 3) := by decide +kernel
theorem dX10_added_38 : decode cX10_added 38 = .ok (.iconst 0, 1) := by decide +kernel
theorem dX10_added_39 : decode cX10_added 39 = .ok (.istore_n 2, 1) := by decide +kernel
theorem dX10_added_40 : decode cX10_added 40 = .ok (.aload_n 0, 1) := by decide +kernel
theorem dX10_added_41 : decode cX10_added 41 = .ok (.invokevirtual 229, 3) := by decide +kernel
theorem dX10_added_44 : decode cX10_added 44 = .ok (.aload_n 0, 1) := by decide +kernel
theorem dX10_added_45 : decode cX10_added 45 = .ok (.invokevirtual 273, 3) := by decide +kernel
theorem dX10_added_48 : decode cX10_added 48 = .ok (.istore_n 3, 1) := by decide +kernel
theorem dX10_added_49 : decode cX10_added 49 = .ok (.iload_n 2, 1) := by decide +kernel
theorem dX10_added_50 : decode cX10_added 50 = .ok (.ifCond .eq 9, 3) := by decide +kernel
theorem dX10_added_53 : decode cX10_added 53 = .ok (.iload_n 1, 1) := by decide +kernel
theorem dX10_added_54 : decode cX10_added 54 = .ok (.iload_n 3, 1) := by decide +kernel
theorem dX10_added_55 : decode cX10_added 55 = .ok (.iadd, 1) := by decide +kernel
theorem dX10_added_56 : decode cX10_added 56 = .ok (.goto 6, 3) := by decide +kernel
theorem dX10_added_59 : decode cX10_added 59 = .ok (.iload_n 1, 1) := by decide +kernel
theorem dX10_added_60 : decode cX10_added 60 = .ok (.iload_n 3, 1) := by decide +kernel
theorem dX10_added_61 : decode cX10_added 61 = .ok (.isub, 1) := by decide +kernel
theorem dX10_added_62 : decode cX10_added 62 = .ok (.istore_n 1, 1) := by decide +kernel
theorem dX10_added_63 : decode cX10_added 63 = .ok (.goto (-58), 3) := by decide +kernel
theorem dX10_added_66 : decode cX10_added 66 = .ok (.iload_n 1, 1) := by decide +kernel
theorem dX10_added_67 : decode cX10_added 67 = .ok (.ireturn, 1) := by decide +kernel
theorem dX10_not_0 : decode cX10_not 0 = .ok (.aload_n 0, 1) := by decide +kernel
theorem dX10_not_1 : decode cX10_not 1 = .ok (.ldc2_w 278, 3) := by decide +kernel
theorem dX10_not_4 : decode cX10_not 4 = .ok (.invokevirtual 234, 3) := by decide +kernel
theorem dX10_not_7 : decode cX10_not 7 = .ok (.ifCond .eq 37, 3) := by decide +kernel
theorem dX10_not_10 : decode cX10_not 10 = .ok (.aload_n 0, 1) := by decide +kernel
theorem dX10_not_11 : decode cX10_not 11 = .ok (.invokevirtual 260, 3) := by decide +kernel
theorem dX10_not_14 : decode cX10_not 14 = .ok (.ifCond .ne 5, 3) := by decide +kernel
theorem dX10_not_17 : decode cX10_not 17 = .ok (.iconst 0, 1) := by decide +kernel
theorem dX10_not_18 : decode cX10_not 18 = .ok (.ireturn, 1) := by decide +kernel
theorem dX10_not_19 : decode cX10_not 19 = .ok (.aload_n 0, 1) := by decide +kernel
theorem dX10_not_20 : decode cX10_not 20 = .ok (.invokevirtual 280, 3) := by decide +kernel
theorem dX10_not_23 : decode cX10_not 23 = .ok (.istore_n 1, 1) := by decide +kernel
theorem dX10_not_24 : decode cX10_not 24 = .ok (.aload_n 0, 1) := by decide +kernel
theorem dX10_not_25 : decode cX10_not 25 = .ok (.dup, 1) := by decide +kernel
theorem dX10_not_26 : decode cX10_not 26 = .ok (.getfield 223, 3) := by decide +kernel
theorem dX10_not_29 : decode cX10_not 29 = .ok (.iconst 1, 1) := by decide +kernel
theorem dX10_not_30 : decode cX10_not 30 = .ok (.isub, 1) := by decide +kernel
theorem dX10_not_31 : decode cX10_not 31 = .ok (.putfield 223, 3) := by decide +kernel
theorem dX10_not_34 : decode cX10_not 34 = .ok (.iload_n 1, 1) := by decide +kernel
theorem dX10_not_35 : decode cX10_not 35 = .ok (.ifCond .ne 7, 3) := by decide +kernel
theorem dX10_not_38 : decode cX10_not 38 = .ok (.iconst 1, 1) := by decide +kernel
theorem dX10_not_39 : decode cX10_not 39 = .ok (.goto 4, 3) := by decide +kernel
theorem dX10_not_42 : decode cX10_not 42 = .ok (.iconst 0, 1) := by decide +kernel
theorem dX10_not_43 : decode cX10_not 43 = .ok (.ireturn, 1) := by decide +kernel
theorem dX10_not_44 : decode cX10_not 44 = .ok (.aload_n 0, 1) := by decide +kernel
theorem dX10_not_45 : decode cX10_not 45 = .ok (.invokevirtual 283, 3) := by decide +kernel
theorem dX10_not_48 : decode cX10_not 48 = .ok (.istore_n 1, 1) := by decide +kernel
theorem dX10_not_49 : decode cX10_not 49 = .ok (.aload_n 0, 1) := by decide +kernel
theorem dX10_not_50 : decode cX10_not 50 = .ok (.bipush 60, 2) := by decide +kernel
theorem dX10_not_52 : decode cX10_not 52 = .ok (.invokevirtual 257, 3) := by decide +kernel
theorem dX10_not_55 : decode cX10_not 55 = .ok (.ifCond .ne 14, 3) := by decide +kernel
theorem dX10_not_58 : decode cX10_not 58 = .ok (.aload_n 0, 1) := by decide +kernel
theorem dX10_not_59 : decode cX10_not 59 = .ok (.bipush 61, 2) := by decide +kernel
theorem dX10_not_61 : decode cX10_not 61 = .ok (.invokevirtual 257, 3) := by decide +kernel
theorem dX10_not_64 : decode cX10_not 64 = .ok (.ifCond .ne 5, 3) := by decide +kernel
theorem dX10_not_67 : decode cX10_not 67 = .ok (.iload_n 1, 1) := by decide +kernel
theorem dX10_not_68 : decode cX10_not 68 = .ok (.ireturn, 1) := by decide +kernel
theorem dX10_not_69 : decode cX10_not 69 = .ok (.aload_n 0, 1) := by decide +kernel
theorem dX10_not_70 : decode cX10_not 70 = .ok (.getfield 202, 3) := by decide +kernel
theorem dX10_not_73 : decode cX10_not 73 = .ok (.ldc2_w 286, 3) := by decide +kernel
theorem dX10_not_76 : decode cX10_not 76 = .ok (.lcmp, 1) := by decide +kernel
theorem dX10_not_77 : decode cX10_not 77 = .ok (.ifCond .ne 7, 3) := by decide +kernel
theorem dX10_not_80 : decode cX10_not 80 = .ok (.iconst 1, 1) := by decide +kernel
theorem dX10_not_81 : decode cX10_not 81 = .ok (.goto 4, 3) := by decide +kernel
theorem dX10_not_84 : decode cX10_not 84 = .ok (.iconst 0, 1) := by decide +kernel
theorem dX10_not_85 : decode cX10_not 85 = .ok (.istore_n 2, 1) := by decide +kernel
theorem dX10_not_86 : decode cX10_not 86 = .ok (.aload_n 0, 1) := by decide +kernel
theorem dX10_not_87 : decode cX10_not 87 = .ok (.invokevirtual 229, 3) := by decide +kernel
theorem dX10_not_90 : decode cX10_not 90 = .ok (.aload_n 0, 1) := by decide +kernel
theorem dX10_not_91 : decode cX10_not 91 = .ok (.invokevirtual 283, 3) := by decide +kernel
theorem dX10_not_94 : decode cX10_not 94 = .ok (.istore_n 3, 1) := by decide +kernel
theorem dX10_not_95 : decode cX10_not 95 = .ok (.iload_n 2, 1) := by decide +kernel
theorem dX10_not_96 : decode cX10_not 96 = .ok (.ifCond .eq 11, 3) := by decide +kernel
theorem dX10_not_99 : decode cX10_not 99 = .ok (.iload_n 1, 1) := by decide +kernel
theorem dX10_not_100 : decode cX10_not 100 = .ok (.iload_n 3, 1) := by decide +kernel
theorem dX10_not_101 : decode cX10_not 101 = .ok (.if_icmp .ge 15, 3) := by decide +kernel
theorem dX10_not_104 : decode cX10_not 104 = .ok (.goto 8, 3) := by decide +kernel
theorem dX10_not_107 : decode cX10_not 107 = .ok (.iload_n 1, 1) := by decide +kernel
theorem dX10_not_108 : decode cX10_not 108 = .ok (.iload_n 3, 1) := by decide +kernel
theorem dX10_not_109 : decode cX10_not 109 = .ok (.if_icmp .ne 7, 3) := by decide +kernel
theorem dX10_not_112 : decode cX10_not 112 = .ok (.iconst 1, 1) := by decide +kernel
theorem dX10_not_113 : decode cX10_not 113 = .ok (.goto 4, 3) := by decide +kernel
theorem dX10_not_116 : decode cX10_not 116 = .ok (.iconst 0, 1) := by decide +kernel
theorem dX10_not_117 : decode cX10_not 117 = .ok (.ireturn, 1) := by decide +kernel
theorem dX10_both_0 : decode cX10_both 0 = .ok (.aload_n 0, 1) := by decide +kernel
theorem dX10_both_1 : decode cX10_both 1 = .ok (.invokevirtual 280, 3) := by decide +kernel
theorem dX10_both_4 : decode cX10_both 4 = .ok (.istore_n 1, 1) := by decide +kernel
theorem dX10_both_5 : decode cX10_both 5 = .ok (.aload_n 0, 1) := by decide +kernel
theorem dX10_both_6 : decode cX10_both 6 = .ok (.ldc2_w 288, 3) := by decide +kernel
theorem dX10_both_9 : decode cX10_both 9 = .ok (.invokevirtual 234, 3) := by decide +kernel
theorem dX10_both_12 : decode cX10_both 12 = .ok (.ifCond .eq 29, 3) := by decide +kernel
theorem dX10_both_15 : decode cX10_both 15 = .ok (.aload_n 0, 1) := by decide +kernel
theorem dX10_both_16 : decode cX10_both 16 = .ok (.invokevirtual 229, 3) := by decide +kernel
theorem dX10_both_19 : decode cX10_both 19 = .ok (.aload_n 0, 1) := by decide +kernel
theorem dX10_both_20 : decode cX10_both 20 = .ok (.invokevirtual 280, 3) := by decide +kernel
theorem dX10_both_23 : decode cX10_both 23 = .ok (.istore_n 2, 1) := by decide +kernel
theorem dX10_both_24 : decode cX10_both 24 = .ok (.iload_n 1, 1) := by decide +kernel
theorem dX10_both_25 : decode cX10_both 25 = .ok (.ifCond .eq 11, 3) := by decide +kernel
theorem dX10_both_28 : decode cX10_both 28 = .ok (.iload_n 2, 1) := by decide +kernel
theorem dX10_both_29 : decode cX10_both 29 = .ok (.ifCond .eq 7, 3) := by decide +kernel
theorem dX10_both_32 : decode cX10_both 32 = .ok (.iconst 1, 1) := by decide +kernel
theorem dX10_both_33 : decode cX10_both 33 = .ok (.goto 4, 3) := by decide +kernel
theorem dX10_both_36 : decode cX10_both 36 = .ok (.iconst 0, 1) := by decide +kernel
theorem dX10_both_37 : decode cX10_both 37 = .ok (.istore_n 1, 1) := by decide +kernel
theorem dX10_both_38 : decode cX10_both 38 = .ok (.goto (-33), 3) := by decide +kernel
theorem dX10_both_41 : decode cX10_both 41 = .ok (.iload_n 1, 1) := by decide +kernel
theorem dX10_both_42 : decode cX10_both 42 = .ok (.ireturn, 1) := by decide +kernel
theorem dX10_either_0 : decode cX10_either 0 = .ok (.aload_n 0, 1) := by decide +kernel
theorem dX10_either_1 : decode cX10_either 1 = .ok (.invokevirtual 290, 3) := by decide +kernel
theorem dX10_either_4 : decode cX10_either 4 = .ok (.istore_n 1, 1) := by decide +kernel
theorem dX10_either_5 : decode cX10_either 5 = .ok (.aload_n 0, 1) := by decide +kernel
theorem dX10_either_6 : decode cX10_either 6 = .ok (.ldc2_w 293, 3) := by decide +kernel
theorem dX10_either_9 : decode cX10_either 9 = .ok (.invokevirtual 234, 3) := by decide +kernel
theorem dX10_either_12 : decode cX10_either 12 = .ok (.ifCond .eq 29, 3) := by decide +kernel
theorem dX10_either_15 : decode cX10_either 15 = .ok (.aload_n 0, 1) := by decide +kernel
theorem dX10_either_16 : decode cX10_either 16 = .ok (.invokevirtual 229, 3) := by decide +kernel
theorem dX10_either_19 : decode cX10_either 19 = .ok (.aload_n 0, 1) := by decide +kernel
theorem dX10_either_20 : decode cX10_either 20 = .ok (.invokevirtual 290, 3) := by decide +kernel
theorem dX10_either_23 : decode cX10_either 23 = .ok (.istore_n 2, 1) := by decide +kernel
theorem dX10_either_24 : decode cX10_either 24 = .ok (.iload_n 1, 1) := by decide +kernel
theorem dX10_either_25 : decode cX10_either 25 = .ok (.ifCond .ne 7, 3) := by decide +kernel
theorem dX10_either_28 : decode cX10_either 28 = .ok (.iload_n 2, 1) := by decide +kernel
theorem dX10_either_29 : decode cX10_either 29 = .ok (.ifCond .eq 7, 3) := by decide +kernel
theorem dX10_either_32 : decode cX10_either 32 = .ok (.iconst 1, 1) := by decide +kernel
theorem dX10_either_33 : decode cX10_either 33 = .ok (.goto 4, 3) := by decide +kernel
theorem dX10_either_36 : decode cX10_either 36 = .ok (.iconst 0, 1) := by decide +kernel
theorem dX10_either_37 : decode cX10_either 37 = .ok (.istore_n 1, 1) := by decide +kernel
theorem dX10_either_38 : decode cX10_either 38 = .ok (.goto (-33), 3) := by decide +kernel
theorem dX10_either_41 : decode cX10_either 41 = .ok (.iload_n 1, 1) := by decide +kernel
theorem dX10_either_42 : decode cX10_either 42 = .ok (.ireturn, 1) := by decide +kernel
theorem dX10_part_0 : decode cX10_part 0 = .ok (.aload_n 0, 1) := by decide +kernel
theorem dX10_part_1 : decode cX10_part 1 = .ok (.lload_n 1, 1) := by decide +kernel
theorem dX10_part_2 : decode cX10_part 2 = .ok (.invokevirtual 234, 3) := by decide +kernel
theorem dX10_part_5 : decode cX10_part 5 = .ok (.ifCond .ne 7, 3) := by decide +kernel
theorem dX10_part_8 : decode cX10_part 8 = .ok (.aload_n 0, 1) := by decide +kernel
theorem dX10_part_9 : decode cX10_part 9 = .ok (.invokevirtual 226, 3) := by decide +kernel
theorem dX10_part_12 : decode cX10_part 12 = .ok (.aload_n 0, 1) := by decide +kernel
theorem dX10_part_13 : decode cX10_part 13 = .ok (.getfield 216, 3) := by decide +kernel
theorem dX10_part_16 : decode cX10_part 16 = .ok (.ifCond .ne 7, 3) := by decide +kernel
theorem dX10_part_19 : decode cX10_part 19 = .ok (.aload_n 0, 1) := by decide +kernel
theorem dX10_part_20 : decode cX10_part 20 = .ok (.invokevirtual 229, 3) := by decide +kernel
theorem dX10_part_23 : decode cX10_part 23 = .ok (.aload_n 0, 1) := by decide +kernel
theorem dX10_part_24 : decode cX10_part 24 = .ok (.getfield 216, 3) := by decide +kernel
theorem dX10_part_27 : decode cX10_part 27 = .ok (.ifCond .eq 7, 3) := by decide +kernel
theorem dX10_part_30 : decode cX10_part 30 = .ok (.iconst 0, 1) := by decide +kernel
theorem dX10_part_31 : decode cX10_part 31 = .ok (.goto 7, 3) := by decide +kernel
theorem dX10_part_34 : decode cX10_part 34 = .ok (.aload_n 0, 1) := by decide +kernel
theorem dX10_part_35 : decode cX10_part 35 = .ok (.invokevirtual 267, 3) := by decide +kernel
theorem dX10_part_38 : decode cX10_part 38 = .ok (.istore_n 3, 1) := by decide +kernel
theorem dX10_part_39 : decode cX10_part 39 = .ok (.aload_n 0, 1) := by decide +kernel
theorem dX10_part_40 : decode cX10_part 40 = .ok (.bipush 59, 2) := by decide +kernel
theorem dX10_part_42 : decode cX10_part 42 = .ok (.invokevirtual 257, 3) := by decide +kernel
theorem dX10_part_45 : decode cX10_part 45 = .ok (.ifCond .ne 7, 3) := by decide +kernel
theorem dX10_part_48 : decode cX10_part 48 = .ok (.aload_n 0, 1) := by decide +kernel
theorem dX10_part_49 : decode cX10_part 49 = .ok (.invokevirtual 226, 3) := by decide +kernel
theorem dX10_part_52 : decode cX10_part 52 = .ok (.aload_n 0, 1) := by decide +kernel
theorem dX10_part_53 : decode cX10_part 53 = .ok (.getfield 216, 3) := by decide +kernel
theorem dX10_part_56 : decode cX10_part 56 = .ok (.ifCond .ne 7, 3) := by decide +kernel
theorem dX10_part_59 : decode cX10_part 59 = .ok (.aload_n 0, 1) := by decide +kernel
theorem dX10_part_60 : decode cX10_part 60 = .ok (.invokevirtual 229, 3) := by decide +kernel
theorem dX10_part_63 : decode cX10_part 63 = .ok (.iload_n 3, 1) := by decide +kernel
theorem dX10_part_64 : decode cX10_part 64 = .ok (.ireturn, 1) := by decide +kernel
theorem dX10_read_0 : decode cX10_read 0 = .ok (.aload_n 0, 1) := by decide +kernel
theorem dX10_read_1 : decode cX10_read 1 = .ok (.iload_n 2, 1) := by decide +kernel
theorem dX10_read_2 : decode cX10_read 2 = .ok (.putfield 238, 3) := by decide +kernel
theorem dX10_read_5 : decode cX10_read 5 = .ok (.aload_n 0, 1) := by decide +kernel
theorem dX10_read_6 : decode cX10_read 6 = .ok (.iload_n 3, 1) := by decide +kernel
theorem dX10_read_7 : decode cX10_read 7 = .ok (.aload_n 0, 1) := by decide +kernel
theorem dX10_read_8 : decode cX10_read 8 = .ok (.getfield 50, 3) := by decide +kernel
theorem dX10_read_11 : decode cX10_read 11 = .ok (.iload_n 2, 1) := by decide +kernel
theorem dX10_read_12 : decode cX10_read 12 = .ok (.iaload, 1) := by decide +kernel
theorem dX10_read_13 : decode cX10_read 13 = .ok (.isub, 1) := by decide +kernel
theorem dX10_read_14 : decode cX10_read 14 = .ok (.putfield 243, 3) := by decide +kernel
theorem dX10_read_17 : decode cX10_read 17 = .ok (.aload_n 0, 1) := by decide +kernel
theorem dX10_read_18 : decode cX10_read 18 = .ok (.sipush 160, 3) := by decide +kernel
theorem dX10_read_21 : decode cX10_read 21 = .ok (.iload_n 1, 1) := by decide +kernel
theorem dX10_read_22 : decode cX10_read 22 = .ok (.imul, 1) := by decide +kernel
theorem dX10_read_23 : decode cX10_read 23 = .ok (.putfield 182, 3) := by decide +kernel
theorem dX10_read_26 : decode cX10_read 26 = .ok (.aload_n 0, 1) := by decide +kernel
theorem dX10_read_27 : decode cX10_read 27 = .ok (.aload_n 0, 1) := by decide +kernel
theorem dX10_read_28 : decode cX10_read 28 = .ok (.getfield 17, 3) := by decide +kernel
theorem dX10_read_31 : decode cX10_read 31 = .ok (.iload_n 1, 1) := by decide +kernel
theorem dX10_read_32 : decode cX10_read 32 = .ok (.iaload, 1) := by decide +kernel
theorem dX10_read_33 : decode cX10_read 33 = .ok (.putfield 179, 3) := by decide +kernel
theorem dX10_read_36 : decode cX10_read 36 = .ok (.aload_n 0, 1) := by decide +kernel
theorem dX10_read_37 : decode cX10_read 37 = .ok (.iconst 0, 1) := by decide +kernel
theorem dX10_read_38 : decode cX10_read 38 = .ok (.putfield 185, 3) := by decide +kernel
theorem dX10_read_41 : decode cX10_read 41 = .ok (.aload_n 0, 1) := by decide +kernel
theorem dX10_read_42 : decode cX10_read 42 = .ok (.iconst 0, 1) := by decide +kernel
theorem dX10_read_43 : decode cX10_read 43 = .ok (.putfield 223, 3) := by decide +kernel
theorem dX10_read_46 : decode cX10_read 46 = .ok (.aload_n 0, 1) := by decide +kernel
theorem dX10_read_47 : decode cX10_read 47 = .ok (.iconst 0, 1) := by decide +kernel
theorem dX10_read_48 : decode cX10_read 48 = .ok (.putfield 216, 3) := by decide +kernel
theorem dX10_read_51 : decode cX10_read 51 = .ok (.aload_n 0, 1) := by decide +kernel
theorem dX10_read_52 : decode cX10_read 52 = .ok (.invokevirtual 229, 3) := by decide +kernel
theorem dX10_read_55 : decode cX10_read 55 = .ok (.aload_n 0, 1) := by decide +kernel
theorem dX10_read_56 : decode cX10_read 56 = .ok (.ldc2_w 295, 3) := by decide +kernel
theorem dX10_read_59 : decode cX10_read 59 = .ok (.invokevirtual 297, 3) := by decide +kernel
theorem dX10_read_62 : decode cX10_read 62 = .ok (.istore 5, 2) := by decide +kernel
theorem dX10_read_64 : decode cX10_read 64 = .ok (.aload_n 0, 1) := by decide +kernel
theorem dX10_read_65 : decode cX10_read 65 = .ok (.getfield 216, 3) := by decide +kernel
theorem dX10_read_68 : decode cX10_read 68 = .ok (.ifCond .eq 7, 3) := by decide +kernel
theorem dX10_read_71 : decode cX10_read 71 = .ok (.iconst 0, 1) := by decide +kernel
theorem dX10_read_72 : decode cX10_read 72 = .ok (.goto 10, 3) := by decide +kernel
theorem dX10_read_75 : decode cX10_read 75 = .ok (.aload_n 0, 1) := by decide +kernel
theorem dX10_read_76 : decode cX10_read 76 = .ok (.ldc2_w 301, 3) := by decide +kernel
theorem dX10_read_79 : decode cX10_read 79 = .ok (.invokevirtual 297, 3) := by decide +kernel
theorem dX10_read_82 : decode cX10_read 82 = .ok (.istore 6, 2) := by decide +kernel
theorem dX10_read_84 : decode cX10_read 84 = .ok (.aload_n 0, 1) := by decide +kernel
theorem dX10_read_85 : decode cX10_read 85 = .ok (.getfield 216, 3) := by decide +kernel
theorem dX10_read_88 : decode cX10_read 88 = .ok (.ifCond .eq 7, 3) := by decide +kernel
theorem dX10_read_91 : decode cX10_read 91 = .ok (.iconst 0, 1) := by decide +kernel
theorem dX10_read_92 : decode cX10_read 92 = .ok (.goto 10, 3) := by decide +kernel
theorem dX10_read_95 : decode cX10_read 95 = .ok (.aload_n 0, 1) := by decide +kernel
theorem dX10_read_96 : decode cX10_read 96 = .ok (.ldc2_w 303, 3) := by decide +kernel
theorem dX10_read_99 : decode cX10_read 99 = .ok (.invokevirtual 297, 3) := by decide +kernel
theorem dX10_read_102 : decode cX10_read 102 = .ok (.istore 7, 2) := by decide +kernel
theorem dX10_read_104 : decode cX10_read 104 = .ok (.aload_n 0, 1) := by decide +kernel
theorem dX10_read_105 : decode cX10_read 105 = .ok (.getfield 216, 3) := by decide +kernel
theorem dX10_read_108 : decode cX10_read 108 = .ok (.ifCond .ne 14, 3) := by decide +kernel
theorem dX10_read_111 : decode cX10_read 111 = .ok (.aload_n 0, 1) := by decide +kernel
theorem dX10_read_112 : decode cX10_read 112 = .ok (.getfield 195, 3) := by decide +kernel
theorem dX10_read_115 : decode cX10_read 115 = .ok (.ifCond .eq 7, 3) := by decide +kernel
theorem dX10_read_118 : decode cX10_read 118 = .ok (.aload_n 0, 1) := by decide +kernel
theorem dX10_read_119 : decode cX10_read 119 = .ok (.invokevirtual 226, 3) := by decide +kernel
theorem dX10_read_122 : decode cX10_read 122 = .ok (.iload 4, 2) := by decide +kernel
theorem dX10_read_124 : decode cX10_read 124 = .ok (.ifCond .ne 8, 3) := by decide +kernel
theorem dX10_read_127 : decode cX10_read 127 = .ok (.iload 5, 2) := by decide +kernel
theorem dX10_read_129 : decode cX10_read 129 = .ok (.goto 16, 3) := by decide +kernel
theorem dX10_read_132 : decode cX10_read 132 = .ok (.iload 4, 2) := by decide +kernel
theorem dX10_read_134 : decode cX10_read 134 = .ok (.iconst 1, 1) := by decide +kernel
theorem dX10_read_135 : decode cX10_read 135 = .ok (.if_icmp .ne 8, 3) := by decide +kernel
theorem dX10_read_138 : decode cX10_read 138 = .ok (.iload 6, 2) := by decide +kernel
theorem dX10_read_140 : decode cX10_read 140 = .ok (.goto 5, 3) := by decide +kernel
theorem dX10_read_143 : decode cX10_read 143 = .ok (.iload 7, 2) := by decide +kernel
theorem dX10_read_145 : decode cX10_read 145 = .ok (.ireturn, 1) := by decide +kernel
theorem dX10_text_0 : decode cX10_text 0 = .ok (.aload_n 0, 1) := by decide +kernel
theorem dX10_text_1 : decode cX10_text 1 = .ok (.getfield 106, 3) := by decide +kernel
theorem dX10_text_4 : decode cX10_text 4 = .ok (.bipush 6, 2) := by decide +kernel
theorem dX10_text_6 : decode cX10_text 6 = .ok (.if_icmp .ne 6, 3) := by decide +kernel
theorem dX10_text_9 : decode cX10_text 9 = .ok (.bipush (-4), 2) := by decide +kernel
theorem dX10_text_11 : decode cX10_text 11 = .ok (.ireturn, 1) := by decide +kernel
theorem dX10_text_12 : decode cX10_text 12 = .ok (.iconst 0, 1) := by decide +kernel
theorem dX10_text_13 : decode cX10_text 13 = .ok (.istore_n 1, 1) := by decide +kernel
theorem dX10_text_14 : decode cX10_text 14 = .ok (.iload_n 1, 1) := by decide +kernel
theorem dX10_text_15 : decode cX10_text 15 = .ok (.aload_n 0, 1) := by decide +kernel
theorem dX10_text_16 : decode cX10_text 16 = .ok (.getfield 176, 3) := by decide +kernel
theorem dX10_text_19 : decode cX10_text 19 = .ok (.if_icmp .ge 30, 3) := by decide +kernel
theorem dX10_text_22 : decode cX10_text 22 = .ok (.aload_n 0, 1) := by decide +kernel
theorem dX10_text_23 : decode cX10_text 23 = .ok (.getfield 13, 3) := by decide +kernel
theorem dX10_text_26 : decode cX10_text 26 = .ok (.sipush 160, 3) := by decide +kernel
theorem dX10_text_29 : decode cX10_text 29 = .ok (.aload_n 0, 1) := by decide +kernel
theorem dX10_text_30 : decode cX10_text 30 = .ok (.getfield 106, 3) := by decide +kernel
theorem dX10_text_33 : decode cX10_text 33 = .ok (.imul, 1) := by decide +kernel
theorem dX10_text_34 : decode cX10_text 34 = .ok (.iload_n 1, 1) := by decide +kernel
theorem dX10_text_35 : decode cX10_text 35 = .ok (.iadd, 1) := by decide +kernel
theorem dX10_text_36 : decode cX10_text 36 = .ok (.aload_n 0, 1) := by decide +kernel
theorem dX10_text_37 : decode cX10_text 37 = .ok (.getfield 20, 3) := by decide +kernel
theorem dX10_text_40 : decode cX10_text 40 = .ok (.iload_n 1, 1) := by decide +kernel
theorem dX10_text_41 : decode cX10_text 41 = .ok (.iaload, 1) := by decide +kernel
theorem dX10_text_42 : decode cX10_text 42 = .ok (.iastore, 1) := by decide +kernel
theorem dX10_text_43 : decode cX10_text 43 = .ok (.iinc 1 1, 3) := by decide +kernel
theorem dX10_text_46 : decode cX10_text 46 = .ok (.goto (-32), 3) := by decide +kernel
theorem dX10_text_49 : decode cX10_text 49 = .ok (.aload_n 0, 1) := by decide +kernel
theorem dX10_text_50 : decode cX10_text 50 = .ok (.getfield 17, 3) := by decide +kernel
theorem dX10_text_53 : decode cX10_text 53 = .ok (.aload_n 0, 1) := by decide +kernel
theorem dX10_text_54 : decode cX10_text 54 = .ok (.getfield 106, 3) := by decide +kernel
theorem dX10_text_57 : decode cX10_text 57 = .ok (.aload_n 0, 1) := by decide +kernel
theorem dX10_text_58 : decode cX10_text 58 = .ok (.getfield 176, 3) := by decide +kernel
theorem dX10_text_61 : decode cX10_text 61 = .ok (.iastore, 1) := by decide +kernel
theorem dX10_text_62 : decode cX10_text 62 = .ok (.aload_n 0, 1) := by decide +kernel
theorem dX10_text_63 : decode cX10_text 63 = .ok (.iconst 0, 1) := by decide +kernel
theorem dX10_text_64 : decode cX10_text 64 = .ok (.putfield 176, 3) := by decide +kernel
theorem dX10_text_67 : decode cX10_text 67 = .ok (.aload_n 0, 1) := by decide +kernel
theorem dX10_text_68 : decode cX10_text 68 = .ok (.aload_n 0, 1) := by decide +kernel
theorem dX10_text_69 : decode cX10_text 69 = .ok (.getfield 106, 3) := by decide +kernel
theorem dX10_text_72 : decode cX10_text 72 = .ok (.iconst 0, 1) := by decide +kernel
theorem dX10_text_73 : decode cX10_text 73 = .ok (.iconst 0, 1) := by decide +kernel
theorem dX10_text_74 : decode cX10_text 74 = .ok (.iconst 0, 1) := by decide +kernel
theorem dX10_text_75 : decode cX10_text 75 = .ok (.invokevirtual 305, 3) := by decide +kernel
theorem dX10_text_78 : decode cX10_text 78 = .ok (.istore_n 1, 1) := by decide +kernel
theorem dX10_text_79 : decode cX10_text 79 = .ok (.aload_n 0, 1) := by decide +kernel
theorem dX10_text_80 : decode cX10_text 80 = .ok (.getfield 216, 3) := by decide +kernel
theorem dX10_text_83 : decode cX10_text 83 = .ok (.ifCond .eq 11, 3) := by decide +kernel
theorem dX10_text_86 : decode cX10_text 86 = .ok (.bipush (-100), 2) := by decide +kernel
theorem dX10_text_88 : decode cX10_text 88 = .ok (.aload_n 0, 1) := by decide +kernel
theorem dX10_text_89 : decode cX10_text 89 = .ok (.getfield 220, 3) := by decide +kernel
theorem dX10_text_92 : decode cX10_text 92 = .ok (.isub, 1) := by decide +kernel
theorem dX10_text_93 : decode cX10_text 93 = .ok (.ireturn, 1) := by decide +kernel
theorem dX10_text_94 : decode cX10_text 94 = .ok (.aload_n 0, 1) := by decide +kernel
theorem dX10_text_95 : decode cX10_text 95 = .ok (.dup, 1) := by decide +kernel
theorem dX10_text_96 : decode cX10_text 96 = .ok (.getfield 106, 3) := by decide +kernel
theorem dX10_text_99 : decode cX10_text 99 = .ok (.iconst 1, 1) := by decide +kernel
theorem dX10_text_100 : decode cX10_text 100 = .ok (.iadd, 1) := by decide +kernel
theorem dX10_text_101 : decode cX10_text 101 = .ok (.putfield 106, 3) := by decide +kernel
theorem dX10_text_104 : decode cX10_text 104 = .ok (.aload_n 0, 1) := by decide +kernel
theorem dX10_text_105 : decode cX10_text 105 = .ok (.getfield 106, 3) := by decide +kernel
theorem dX10_text_108 : decode cX10_text 108 = .ok (.iconst 1, 1) := by decide +kernel
theorem dX10_text_109 : decode cX10_text 109 = .ok (.isub, 1) := by decide +kernel
theorem dX10_text_110 : decode cX10_text 110 = .ok (.ireturn, 1) := by decide +kernel
theorem dX10_force_0 : decode cX10_force 0 = .ok (.iload_n 1, 1) := by decide +kernel
theorem dX10_force_1 : decode cX10_force 1 = .ok (.i2l, 1) := by decide +kernel
theorem dX10_force_2 : decode cX10_force 2 = .ok (.lconst 0, 1) := by decide +kernel
theorem dX10_force_3 : decode cX10_force 3 = .ok (.aload_n 0, 1) := by decide +kernel
theorem dX10_force_4 : decode cX10_force 4 = .ok (.getfield 106, 3) := by decide +kernel
theorem dX10_force_7 : decode cX10_force 7 = .ok (.iconst 1, 1) := by decide +kernel
theorem dX10_force_8 : decode cX10_force 8 = .ok (.isub, 1) := by decide +kernel
theorem dX10_force_9 : decode cX10_force 9 = .ok (.i2l, 1) := by decide +kernel
theorem dX10_force_10 : decode cX10_force 10 = .ok (.invokestatic 114, 3) := by decide +kernel
theorem dX10_force_13 : decode cX10_force 13 = .ok (.ifCond .ne 6, 3) := by decide +kernel
theorem dX10_force_16 : decode cX10_force 16 = .ok (.bipush (-2), 2) := by decide +kernel
theorem dX10_force_18 : decode cX10_force 18 = .ok (.ireturn, 1) := by decide +kernel
theorem dX10_force_19 : decode cX10_force 19 = .ok (.aload_n 0, 1) := by decide +kernel
theorem dX10_force_20 : decode cX10_force 20 = .ok (.getfield 309, 3) := by decide +kernel
theorem dX10_force_23 : decode cX10_force 23 = .ok (.istore_n 2, 1) := by decide +kernel
theorem dX10_force_24 : decode cX10_force 24 = .ok (.aload_n 0, 1) := by decide +kernel
theorem dX10_force_25 : decode cX10_force 25 = .ok (.iload_n 1, 1) := by decide +kernel
theorem dX10_force_26 : decode cX10_force 26 = .ok (.putfield 309, 3) := by decide +kernel
theorem dX10_force_29 : decode cX10_force 29 = .ok (.iload_n 2, 1) := by decide +kernel
theorem dX10_force_30 : decode cX10_force 30 = .ok (.ireturn, 1) := by decide +kernel
theorem dX10_dueOf_0 : decode cX10_dueOf 0 = .ok (.aload_n 0, 1) := by decide +kernel
theorem dX10_dueOf_1 : decode cX10_dueOf 1 = .ok (.getfield 47, 3) := by decide +kernel
theorem dX10_dueOf_4 : decode cX10_dueOf 4 = .ok (.iload_n 1, 1) := by decide +kernel
theorem dX10_dueOf_5 : decode cX10_dueOf 5 = .ok (.iaload, 1) := by decide +kernel
theorem dX10_dueOf_6 : decode cX10_dueOf 6 = .ok (.aload_n 0, 1) := by decide +kernel
theorem dX10_dueOf_7 : decode cX10_dueOf 7 = .ok (.getfield 44, 3) := by decide +kernel
theorem dX10_dueOf_10 : decode cX10_dueOf 10 = .ok (.iload_n 1, 1) := by decide +kernel
theorem dX10_dueOf_11 : decode cX10_dueOf 11 = .ok (.iaload, 1) := by decide +kernel
theorem dX10_dueOf_12 : decode cX10_dueOf 12 = .ok (.imul, 1) := by decide +kernel
theorem dX10_dueOf_13 : decode cX10_dueOf 13 = .ok (.ireturn, 1) := by decide +kernel
theorem dX10_within_0 : decode cX10_within 0 = .ok (.iload_n 0, 1) := by decide +kernel
theorem dX10_within_1 : decode cX10_within 1 = .ok (.iload_n 1, 1) := by decide +kernel
theorem dX10_within_2 : decode cX10_within 2 = .ok (.if_icmp .ge 7, 3) := by decide +kernel
theorem dX10_within_5 : decode cX10_within 5 = .ok (.iload_n 1, 1) := by decide +kernel
theorem dX10_within_6 : decode cX10_within 6 = .ok (.goto 13, 3) := by decide +kernel
theorem dX10_within_9 : decode cX10_within 9 = .ok (.iload_n 0, 1) := by decide +kernel
theorem dX10_within_10 : decode cX10_within 10 = .ok (.iload_n 2, 1) := by decide +kernel
theorem dX10_within_11 : decode cX10_within 11 = .ok (.if_icmp .le 7, 3) := by decide +kernel
theorem dX10_within_14 : decode cX10_within 14 = .ok (.iload_n 2, 1) := by decide +kernel
theorem dX10_within_15 : decode cX10_within 15 = .ok (.goto 4, 3) := by decide +kernel
theorem dX10_within_18 : decode cX10_within 18 = .ok (.iload_n 0, 1) := by decide +kernel
theorem dX10_within_19 : decode cX10_within 19 = .ok (.ireturn, 1) := by decide +kernel
theorem dX10_owesOf_0 : decode cX10_owesOf 0 = .ok (.iload_n 2, 1) := by decide +kernel
theorem dX10_owesOf_1 : decode cX10_owesOf 1 = .ok (.aload_n 0, 1) := by decide +kernel
theorem dX10_owesOf_2 : decode cX10_owesOf 2 = .ok (.getfield 50, 3) := by decide +kernel
theorem dX10_owesOf_5 : decode cX10_owesOf 5 = .ok (.iload_n 1, 1) := by decide +kernel
theorem dX10_owesOf_6 : decode cX10_owesOf 6 = .ok (.iaload, 1) := by decide +kernel
theorem dX10_owesOf_7 : decode cX10_owesOf 7 = .ok (.if_icmp .ge 5, 3) := by decide +kernel
theorem dX10_owesOf_10 : decode cX10_owesOf 10 = .ok (.lconst 0, 1) := by decide +kernel
theorem dX10_owesOf_11 : decode cX10_owesOf 11 = .ok (.lreturn, 1) := by decide +kernel
theorem dX10_owesOf_12 : decode cX10_owesOf 12 = .ok (.aload_n 0, 1) := by decide +kernel
theorem dX10_owesOf_13 : decode cX10_owesOf 13 = .ok (.iload_n 1, 1) := by decide +kernel
theorem dX10_owesOf_14 : decode cX10_owesOf 14 = .ok (.invokevirtual 254, 3) := by decide +kernel
theorem dX10_owesOf_17 : decode cX10_owesOf 17 = .ok (.i2l, 1) := by decide +kernel
theorem dX10_owesOf_18 : decode cX10_owesOf 18 = .ok (.aload_n 0, 1) := by decide +kernel
theorem dX10_owesOf_19 : decode cX10_owesOf 19 = .ok (.aload_n 0, 1) := by decide +kernel
theorem dX10_owesOf_20 : decode cX10_owesOf 20 = .ok (.getfield 309, 3) := by decide +kernel
theorem dX10_owesOf_23 : decode cX10_owesOf 23 = .ok (.iload_n 1, 1) := by decide +kernel
theorem dX10_owesOf_24 : decode cX10_owesOf 24 = .ok (.iload_n 2, 1) := by decide +kernel
theorem dX10_owesOf_25 : decode cX10_owesOf 25 = .ok (.iconst 0, 1) := by decide +kernel
theorem dX10_owesOf_26 : decode cX10_owesOf 26 = .ok (.invokevirtual 305, 3) := by decide +kernel
theorem dX10_owesOf_29 : decode cX10_owesOf 29 = .ok (.iconst 0, 1) := by decide +kernel
theorem dX10_owesOf_30 : decode cX10_owesOf 30 = .ok (.sipush 9999, 3) := by decide +kernel
theorem dX10_owesOf_33 : decode cX10_owesOf 33 = .ok (.invokestatic 312, 3) := by decide +kernel
theorem dX10_owesOf_36 : decode cX10_owesOf 36 = .ok (.i2l, 1) := by decide +kernel
theorem dX10_owesOf_37 : decode cX10_owesOf 37 = .ok (.ladd, 1) := by decide +kernel
theorem dX10_owesOf_38 : decode cX10_owesOf 38 = .ok (.aload_n 0, 1) := by decide +kernel
theorem dX10_owesOf_39 : decode cX10_owesOf 39 = .ok (.aload_n 0, 1) := by decide +kernel
theorem dX10_owesOf_40 : decode cX10_owesOf 40 = .ok (.getfield 309, 3) := by decide +kernel
theorem dX10_owesOf_43 : decode cX10_owesOf 43 = .ok (.iload_n 1, 1) := by decide +kernel
theorem dX10_owesOf_44 : decode cX10_owesOf 44 = .ok (.iload_n 2, 1) := by decide +kernel
theorem dX10_owesOf_45 : decode cX10_owesOf 45 = .ok (.iconst 1, 1) := by decide +kernel
theorem dX10_owesOf_46 : decode cX10_owesOf 46 = .ok (.invokevirtual 305, 3) := by decide +kernel
theorem dX10_owesOf_49 : decode cX10_owesOf 49 = .ok (.iconst 0, 1) := by decide +kernel
theorem dX10_owesOf_50 : decode cX10_owesOf 50 = .ok (.aload_n 0, 1) := by decide +kernel
theorem dX10_owesOf_51 : decode cX10_owesOf 51 = .ok (.iload_n 1, 1) := by decide +kernel
theorem dX10_owesOf_52 : decode cX10_owesOf 52 = .ok (.invokevirtual 254, 3) := by decide +kernel
theorem dX10_owesOf_55 : decode cX10_owesOf 55 = .ok (.invokestatic 312, 3) := by decide +kernel
theorem dX10_owesOf_58 : decode cX10_owesOf 58 = .ok (.i2l, 1) := by decide +kernel
theorem dX10_owesOf_59 : decode cX10_owesOf 59 = .ok (.lsub, 1) := by decide +kernel
theorem dX10_owesOf_60 : decode cX10_owesOf 60 = .ok (.aload_n 0, 1) := by decide +kernel
theorem dX10_owesOf_61 : decode cX10_owesOf 61 = .ok (.getfield 56, 3) := by decide +kernel
theorem dX10_owesOf_64 : decode cX10_owesOf 64 = .ok (.iload_n 1, 1) := by decide +kernel
theorem dX10_owesOf_65 : decode cX10_owesOf 65 = .ok (.iaload, 1) := by decide +kernel
theorem dX10_owesOf_66 : decode cX10_owesOf 66 = .ok (.i2l, 1) := by decide +kernel
theorem dX10_owesOf_67 : decode cX10_owesOf 67 = .ok (.lsub, 1) := by decide +kernel
theorem dX10_owesOf_68 : decode cX10_owesOf 68 = .ok (.lreturn, 1) := by decide +kernel
theorem dX10_owes_0 : decode cX10_owes 0 = .ok (.aload_n 0, 1) := by decide +kernel
theorem dX10_owes_1 : decode cX10_owes 1 = .ok (.iload_n 1, 1) := by decide +kernel
theorem dX10_owes_2 : decode cX10_owes 2 = .ok (.invokevirtual 141, 3) := by decide +kernel
theorem dX10_owes_5 : decode cX10_owes 5 = .ok (.ifCond .eq 19, 3) := by decide +kernel
theorem dX10_owes_8 : decode cX10_owes 8 = .ok (.iload_n 2, 1) := by decide +kernel
theorem dX10_owes_9 : decode cX10_owes 9 = .ok (.invokestatic 138, 3) := by decide +kernel
theorem dX10_owes_12 : decode cX10_owes 12 = .ok (.ifCond .eq 12, 3) := by decide +kernel
theorem dX10_owes_15 : decode cX10_owes 15 = .ok (.aload_n 0, 1) := by decide +kernel
theorem dX10_owes_16 : decode cX10_owes 16 = .ok (.iload_n 1, 1) := by decide +kernel
theorem dX10_owes_17 : decode cX10_owes 17 = .ok (.iload_n 2, 1) := by decide +kernel
theorem dX10_owes_18 : decode cX10_owes 18 = .ok (.invokevirtual 316, 3) := by decide +kernel
theorem dX10_owes_21 : decode cX10_owes 21 = .ok (.goto 6, 3) := by decide +kernel
theorem dX10_owes_24 : decode cX10_owes 24 = .ok (.ldc2_w 168, 3) := by decide +kernel
theorem dX10_owes_27 : decode cX10_owes 27 = .ok (.lreturn, 1) := by decide +kernel
theorem dX10_balance_0 : decode cX10_balance 0 = .ok (.iload_n 1, 1) := by decide +kernel
theorem dX10_balance_1 : decode cX10_balance 1 = .ok (.invokestatic 125, 3) := by decide +kernel
theorem dX10_balance_4 : decode cX10_balance 4 = .ok (.ifCond .eq 10, 3) := by decide +kernel
theorem dX10_balance_7 : decode cX10_balance 7 = .ok (.iload_n 2, 1) := by decide +kernel
theorem dX10_balance_8 : decode cX10_balance 8 = .ok (.invokestatic 138, 3) := by decide +kernel
theorem dX10_balance_11 : decode cX10_balance 11 = .ok (.ifCond .ne 7, 3) := by decide +kernel
theorem dX10_balance_14 : decode cX10_balance 14 = .ok (.ldc2_w 168, 3) := by decide +kernel
theorem dX10_balance_17 : decode cX10_balance 17 = .ok (.lreturn, 1) := by decide +kernel
theorem dX10_balance_18 : decode cX10_balance 18 = .ok (.lconst 0, 1) := by decide +kernel
theorem dX10_balance_19 : decode cX10_balance 19 = .ok (.lstore_n 3, 1) := by decide +kernel
theorem dX10_balance_20 : decode cX10_balance 20 = .ok (.iconst 0, 1) := by decide +kernel
theorem dX10_balance_21 : decode cX10_balance 21 = .ok (.istore 5, 2) := by decide +kernel
theorem dX10_balance_23 : decode cX10_balance 23 = .ok (.iload 5, 2) := by decide +kernel
theorem dX10_balance_25 : decode cX10_balance 25 = .ok (.aload_n 0, 1) := by decide +kernel
theorem dX10_balance_26 : decode cX10_balance 26 = .ok (.getfield 118, 3) := by decide +kernel
theorem dX10_balance_29 : decode cX10_balance 29 = .ok (.if_icmp .ge 65, 3) := by decide +kernel
theorem dX10_balance_32 : decode cX10_balance 32 = .ok (.aload_n 0, 1) := by decide +kernel
theorem dX10_balance_33 : decode cX10_balance 33 = .ok (.getfield 38, 3) := by decide +kernel
theorem dX10_balance_36 : decode cX10_balance 36 = .ok (.iload 5, 2) := by decide +kernel
theorem dX10_balance_38 : decode cX10_balance 38 = .ok (.iaload, 1) := by decide +kernel
theorem dX10_balance_39 : decode cX10_balance 39 = .ok (.iload_n 1, 1) := by decide +kernel
theorem dX10_balance_40 : decode cX10_balance 40 = .ok (.if_icmp .eq 17, 3) := by decide +kernel
theorem dX10_balance_43 : decode cX10_balance 43 = .ok (.aload_n 0, 1) := by decide +kernel
theorem dX10_balance_44 : decode cX10_balance 44 = .ok (.getfield 41, 3) := by decide +kernel
theorem dX10_balance_47 : decode cX10_balance 47 = .ok (.iload 5, 2) := by decide +kernel
theorem dX10_balance_49 : decode cX10_balance 49 = .ok (.iaload, 1) := by decide +kernel
theorem dX10_balance_50 : decode cX10_balance 50 = .ok (.iload_n 1, 1) := by decide +kernel
theorem dX10_balance_51 : decode cX10_balance 51 = .ok (.if_icmp .eq 6, 3) := by decide +kernel
theorem dX10_balance_54 : decode cX10_balance 54 = .ok (.goto 34, 3) := by decide +kernel
theorem dX10_balance_57 : decode cX10_balance 57 = .ok (.aload_n 0, 1) := by decide +kernel
theorem dX10_balance_58 : decode cX10_balance 58 = .ok (.iload 5, 2) := by decide +kernel
theorem dX10_balance_60 : decode cX10_balance 60 = .ok (.iload_n 2, 1) := by decide +kernel
theorem dX10_balance_61 : decode cX10_balance 61 = .ok (.invokevirtual 316, 3) := by decide +kernel
theorem dX10_balance_64 : decode cX10_balance 64 = .ok (.lstore 6, 2) := by decide +kernel
theorem dX10_balance_66 : decode cX10_balance 66 = .ok (.lload_n 3, 1) := by decide +kernel
theorem dX10_balance_67 : decode cX10_balance 67 = .ok (.aload_n 0, 1) := by decide +kernel
theorem dX10_balance_68 : decode cX10_balance 68 = .ok (.getfield 38, 3) := by decide +kernel
theorem dX10_balance_71 : decode cX10_balance 71 = .ok (.iload 5, 2) := by decide +kernel
theorem dX10_balance_73 : decode cX10_balance 73 = .ok (.iaload, 1) := by decide +kernel
theorem dX10_balance_74 : decode cX10_balance 74 = .ok (.iload_n 1, 1) := by decide +kernel
theorem dX10_balance_75 : decode cX10_balance 75 = .ok (.if_icmp .ne 8, 3) := by decide +kernel
theorem dX10_balance_78 : decode cX10_balance 78 = .ok (.lload 6, 2) := by decide +kernel
theorem dX10_balance_80 : decode cX10_balance 80 = .ok (.goto 6, 3) := by decide +kernel
theorem dX10_balance_83 : decode cX10_balance 83 = .ok (.lload 6, 2) := by decide +kernel
theorem dX10_balance_85 : decode cX10_balance 85 = .ok (.lneg, 1) := by decide +kernel
theorem dX10_balance_86 : decode cX10_balance 86 = .ok (.ladd, 1) := by decide +kernel
theorem dX10_balance_87 : decode cX10_balance 87 = .ok (.lstore_n 3, 1) := by decide +kernel
theorem dX10_balance_88 : decode cX10_balance 88 = .ok (.iinc 5 1, 3) := by decide +kernel
theorem dX10_balance_91 : decode cX10_balance 91 = .ok (.goto (-68), 3) := by decide +kernel
theorem dX10_balance_94 : decode cX10_balance 94 = .ok (.lload_n 3, 1) := by decide +kernel
theorem dX10_balance_95 : decode cX10_balance 95 = .ok (.lreturn, 1) := by decide +kernel
theorem dX10_areSales_0 : decode cX10_areSales 0 = .ok (.iload_n 1, 1) := by decide +kernel
theorem dX10_areSales_1 : decode cX10_areSales 1 = .ok (.i2l, 1) := by decide +kernel
theorem dX10_areSales_2 : decode cX10_areSales 2 = .ok (.lconst 1, 1) := by decide +kernel
theorem dX10_areSales_3 : decode cX10_areSales 3 = .ok (.iconst 1, 1) := by decide +kernel
theorem dX10_areSales_4 : decode cX10_areSales 4 = .ok (.aload_n 0, 1) := by decide +kernel
theorem dX10_areSales_5 : decode cX10_areSales 5 = .ok (.getfield 118, 3) := by decide +kernel
theorem dX10_areSales_8 : decode cX10_areSales 8 = .ok (.ishl, 1) := by decide +kernel
theorem dX10_areSales_9 : decode cX10_areSales 9 = .ok (.iconst 1, 1) := by decide +kernel
theorem dX10_areSales_10 : decode cX10_areSales 10 = .ok (.isub, 1) := by decide +kernel
theorem dX10_areSales_11 : decode cX10_areSales 11 = .ok (.i2l, 1) := by decide +kernel
theorem dX10_areSales_12 : decode cX10_areSales 12 = .ok (.invokestatic 114, 3) := by decide +kernel
theorem dX10_areSales_15 : decode cX10_areSales 15 = .ok (.ifCond .ne 5, 3) := by decide +kernel
theorem dX10_areSales_18 : decode cX10_areSales 18 = .ok (.iconst 0, 1) := by decide +kernel
theorem dX10_areSales_19 : decode cX10_areSales 19 = .ok (.ireturn, 1) := by decide +kernel
theorem dX10_areSales_20 : decode cX10_areSales 20 = .ok (.iconst (-1), 1) := by decide +kernel
theorem dX10_areSales_21 : decode cX10_areSales 21 = .ok (.istore_n 2, 1) := by decide +kernel
theorem dX10_areSales_22 : decode cX10_areSales 22 = .ok (.iconst 0, 1) := by decide +kernel
theorem dX10_areSales_23 : decode cX10_areSales 23 = .ok (.istore_n 3, 1) := by decide +kernel
theorem dX10_areSales_24 : decode cX10_areSales 24 = .ok (.iload_n 3, 1) := by decide +kernel
theorem dX10_areSales_25 : decode cX10_areSales 25 = .ok (.aload_n 0, 1) := by decide +kernel
theorem dX10_areSales_26 : decode cX10_areSales 26 = .ok (.getfield 118, 3) := by decide +kernel
theorem dX10_areSales_29 : decode cX10_areSales 29 = .ok (.if_icmp .ge 44, 3) := by decide +kernel
theorem dX10_areSales_32 : decode cX10_areSales 32 = .ok (.iload_n 1, 1) := by decide +kernel
theorem dX10_areSales_33 : decode cX10_areSales 33 = .ok (.iload_n 3, 1) := by decide +kernel
theorem dX10_areSales_34 : decode cX10_areSales 34 = .ok (.ishr, 1) := by decide +kernel
theorem dX10_areSales_35 : decode cX10_areSales 35 = .ok (.iconst 1, 1) := by decide +kernel
theorem dX10_areSales_36 : decode cX10_areSales 36 = .ok (.iand, 1) := by decide +kernel
theorem dX10_areSales_37 : decode cX10_areSales 37 = .ok (.ifCond .ne 6, 3) := by decide +kernel
theorem dX10_areSales_40 : decode cX10_areSales 40 = .ok (.goto 27, 3) := by decide +kernel
theorem dX10_areSales_43 : decode cX10_areSales 43 = .ok (.iload_n 2, 1) := by decide +kernel
theorem dX10_areSales_44 : decode cX10_areSales 44 = .ok (.iconst (-1), 1) := by decide +kernel
theorem dX10_areSales_45 : decode cX10_areSales 45 = .ok (.if_icmp .eq 15, 3) := by decide +kernel
theorem dX10_areSales_48 : decode cX10_areSales 48 = .ok (.aload_n 0, 1) := by decide +kernel
theorem dX10_areSales_49 : decode cX10_areSales 49 = .ok (.getfield 35, 3) := by decide +kernel
theorem dX10_areSales_52 : decode cX10_areSales 52 = .ok (.iload_n 3, 1) := by decide +kernel
theorem dX10_areSales_53 : decode cX10_areSales 53 = .ok (.iaload, 1) := by decide +kernel
theorem dX10_areSales_54 : decode cX10_areSales 54 = .ok (.iload_n 2, 1) := by decide +kernel
theorem dX10_areSales_55 : decode cX10_areSales 55 = .ok (.if_icmp .eq 5, 3) := by decide +kernel
theorem dX10_areSales_58 : decode cX10_areSales 58 = .ok (.iconst 0, 1) := by decide +kernel
theorem dX10_areSales_59 : decode cX10_areSales 59 = .ok (.ireturn, 1) := by decide +kernel
theorem dX10_areSales_60 : decode cX10_areSales 60 = .ok (.aload_n 0, 1) := by decide +kernel
theorem dX10_areSales_61 : decode cX10_areSales 61 = .ok (.getfield 35, 3) := by decide +kernel
theorem dX10_areSales_64 : decode cX10_areSales 64 = .ok (.iload_n 3, 1) := by decide +kernel
theorem dX10_areSales_65 : decode cX10_areSales 65 = .ok (.iaload, 1) := by decide +kernel
theorem dX10_areSales_66 : decode cX10_areSales 66 = .ok (.istore_n 2, 1) := by decide +kernel
theorem dX10_areSales_67 : decode cX10_areSales 67 = .ok (.iinc 3 1, 3) := by decide +kernel
theorem dX10_areSales_70 : decode cX10_areSales 70 = .ok (.goto (-46), 3) := by decide +kernel
theorem dX10_areSales_73 : decode cX10_areSales 73 = .ok (.iconst 1, 1) := by decide +kernel
theorem dX10_areSales_74 : decode cX10_areSales 74 = .ok (.ireturn, 1) := by decide +kernel
theorem dX10_reached_0 : decode cX10_reached 0 = .ok (.iconst 1, 1) := by decide +kernel
theorem dX10_reached_1 : decode cX10_reached 1 = .ok (.iload_n 2, 1) := by decide +kernel
theorem dX10_reached_2 : decode cX10_reached 2 = .ok (.ishl, 1) := by decide +kernel
theorem dX10_reached_3 : decode cX10_reached 3 = .ok (.istore_n 3, 1) := by decide +kernel
theorem dX10_reached_4 : decode cX10_reached 4 = .ok (.iconst 0, 1) := by decide +kernel
theorem dX10_reached_5 : decode cX10_reached 5 = .ok (.istore 4, 2) := by decide +kernel
theorem dX10_reached_7 : decode cX10_reached 7 = .ok (.iload_n 3, 1) := by decide +kernel
theorem dX10_reached_8 : decode cX10_reached 8 = .ok (.iload 4, 2) := by decide +kernel
theorem dX10_reached_10 : decode cX10_reached 10 = .ok (.if_icmp .eq 68, 3) := by decide +kernel
theorem dX10_reached_13 : decode cX10_reached 13 = .ok (.iload_n 3, 1) := by decide +kernel
theorem dX10_reached_14 : decode cX10_reached 14 = .ok (.istore 4, 2) := by decide +kernel
theorem dX10_reached_16 : decode cX10_reached 16 = .ok (.iconst 0, 1) := by decide +kernel
theorem dX10_reached_17 : decode cX10_reached 17 = .ok (.istore 5, 2) := by decide +kernel
theorem dX10_reached_19 : decode cX10_reached 19 = .ok (.iload 5, 2) := by decide +kernel
theorem dX10_reached_21 : decode cX10_reached 21 = .ok (.aload_n 0, 1) := by decide +kernel
theorem dX10_reached_22 : decode cX10_reached 22 = .ok (.getfield 118, 3) := by decide +kernel
theorem dX10_reached_25 : decode cX10_reached 25 = .ok (.if_icmp .ge 50, 3) := by decide +kernel
theorem dX10_reached_28 : decode cX10_reached 28 = .ok (.iload_n 3, 1) := by decide +kernel
theorem dX10_reached_29 : decode cX10_reached 29 = .ok (.iload_n 1, 1) := by decide +kernel
theorem dX10_reached_30 : decode cX10_reached 30 = .ok (.iload 5, 2) := by decide +kernel
theorem dX10_reached_32 : decode cX10_reached 32 = .ok (.ishr, 1) := by decide +kernel
theorem dX10_reached_33 : decode cX10_reached 33 = .ok (.iconst 1, 1) := by decide +kernel
theorem dX10_reached_34 : decode cX10_reached 34 = .ok (.iand, 1) := by decide +kernel
theorem dX10_reached_35 : decode cX10_reached 35 = .ok (.iconst 1, 1) := by decide +kernel
theorem dX10_reached_36 : decode cX10_reached 36 = .ok (.if_icmp .ne 30, 3) := by decide +kernel
theorem dX10_reached_39 : decode cX10_reached 39 = .ok (.iload_n 3, 1) := by decide +kernel
theorem dX10_reached_40 : decode cX10_reached 40 = .ok (.aload_n 0, 1) := by decide +kernel
theorem dX10_reached_41 : decode cX10_reached 41 = .ok (.getfield 38, 3) := by decide +kernel
theorem dX10_reached_44 : decode cX10_reached 44 = .ok (.iload 5, 2) := by decide +kernel
theorem dX10_reached_46 : decode cX10_reached 46 = .ok (.iaload, 1) := by decide +kernel
theorem dX10_reached_47 : decode cX10_reached 47 = .ok (.ishr, 1) := by decide +kernel
theorem dX10_reached_48 : decode cX10_reached 48 = .ok (.iconst 1, 1) := by decide +kernel
theorem dX10_reached_49 : decode cX10_reached 49 = .ok (.iand, 1) := by decide +kernel
theorem dX10_reached_50 : decode cX10_reached 50 = .ok (.iconst 1, 1) := by decide +kernel
theorem dX10_reached_51 : decode cX10_reached 51 = .ok (.if_icmp .ne 15, 3) := by decide +kernel
theorem dX10_reached_54 : decode cX10_reached 54 = .ok (.iconst 1, 1) := by decide +kernel
theorem dX10_reached_55 : decode cX10_reached 55 = .ok (.aload_n 0, 1) := by decide +kernel
theorem dX10_reached_56 : decode cX10_reached 56 = .ok (.getfield 41, 3) := by decide +kernel
theorem dX10_reached_59 : decode cX10_reached 59 = .ok (.iload 5, 2) := by decide +kernel
theorem dX10_reached_61 : decode cX10_reached 61 = .ok (.iaload, 1) := by decide +kernel
theorem dX10_reached_62 : decode cX10_reached 62 = .ok (.ishl, 1) := by decide +kernel
theorem dX10_reached_63 : decode cX10_reached 63 = .ok (.goto 4, 3) := by decide +kernel
theorem dX10_reached_66 : decode cX10_reached 66 = .ok (.iconst 0, 1) := by decide +kernel
theorem dX10_reached_67 : decode cX10_reached 67 = .ok (.ior, 1) := by decide +kernel
theorem dX10_reached_68 : decode cX10_reached 68 = .ok (.istore_n 3, 1) := by decide +kernel
theorem dX10_reached_69 : decode cX10_reached 69 = .ok (.iinc 5 1, 3) := by decide +kernel
theorem dX10_reached_72 : decode cX10_reached 72 = .ok (.goto (-53), 3) := by decide +kernel
theorem dX10_reached_75 : decode cX10_reached 75 = .ok (.goto (-68), 3) := by decide +kernel
theorem dX10_reached_78 : decode cX10_reached 78 = .ok (.iload_n 3, 1) := by decide +kernel
theorem dX10_reached_79 : decode cX10_reached 79 = .ok (.ireturn, 1) := by decide +kernel
theorem dX10_isRing_0 : decode cX10_isRing 0 = .ok (.iconst 0, 1) := by decide +kernel
theorem dX10_isRing_1 : decode cX10_isRing 1 = .ok (.istore_n 2, 1) := by decide +kernel
theorem dX10_isRing_2 : decode cX10_isRing 2 = .ok (.iconst 0, 1) := by decide +kernel
theorem dX10_isRing_3 : decode cX10_isRing 3 = .ok (.istore_n 3, 1) := by decide +kernel
theorem dX10_isRing_4 : decode cX10_isRing 4 = .ok (.iconst 0, 1) := by decide +kernel
theorem dX10_isRing_5 : decode cX10_isRing 5 = .ok (.istore 4, 2) := by decide +kernel
theorem dX10_isRing_7 : decode cX10_isRing 7 = .ok (.iload 4, 2) := by decide +kernel
theorem dX10_isRing_9 : decode cX10_isRing 9 = .ok (.aload_n 0, 1) := by decide +kernel
theorem dX10_isRing_10 : decode cX10_isRing 10 = .ok (.getfield 118, 3) := by decide +kernel
theorem dX10_isRing_13 : decode cX10_isRing 13 = .ok (.if_icmp .ge 68, 3) := by decide +kernel
theorem dX10_isRing_16 : decode cX10_isRing 16 = .ok (.iload_n 1, 1) := by decide +kernel
theorem dX10_isRing_17 : decode cX10_isRing 17 = .ok (.iload 4, 2) := by decide +kernel
theorem dX10_isRing_19 : decode cX10_isRing 19 = .ok (.ishr, 1) := by decide +kernel
theorem dX10_isRing_20 : decode cX10_isRing 20 = .ok (.iconst 1, 1) := by decide +kernel
theorem dX10_isRing_21 : decode cX10_isRing 21 = .ok (.iand, 1) := by decide +kernel
theorem dX10_isRing_22 : decode cX10_isRing 22 = .ok (.ifCond .ne 6, 3) := by decide +kernel
theorem dX10_isRing_25 : decode cX10_isRing 25 = .ok (.goto 50, 3) := by decide +kernel
theorem dX10_isRing_28 : decode cX10_isRing 28 = .ok (.iload_n 3, 1) := by decide +kernel
theorem dX10_isRing_29 : decode cX10_isRing 29 = .ok (.ifCond .eq 16, 3) := by decide +kernel
theorem dX10_isRing_32 : decode cX10_isRing 32 = .ok (.aload_n 0, 1) := by decide +kernel
theorem dX10_isRing_33 : decode cX10_isRing 33 = .ok (.getfield 44, 3) := by decide +kernel
theorem dX10_isRing_36 : decode cX10_isRing 36 = .ok (.iload 4, 2) := by decide +kernel
theorem dX10_isRing_38 : decode cX10_isRing 38 = .ok (.iaload, 1) := by decide +kernel
theorem dX10_isRing_39 : decode cX10_isRing 39 = .ok (.iload_n 3, 1) := by decide +kernel
theorem dX10_isRing_40 : decode cX10_isRing 40 = .ok (.if_icmp .eq 5, 3) := by decide +kernel
theorem dX10_isRing_43 : decode cX10_isRing 43 = .ok (.iconst 0, 1) := by decide +kernel
theorem dX10_isRing_44 : decode cX10_isRing 44 = .ok (.ireturn, 1) := by decide +kernel
theorem dX10_isRing_45 : decode cX10_isRing 45 = .ok (.aload_n 0, 1) := by decide +kernel
theorem dX10_isRing_46 : decode cX10_isRing 46 = .ok (.getfield 44, 3) := by decide +kernel
theorem dX10_isRing_49 : decode cX10_isRing 49 = .ok (.iload 4, 2) := by decide +kernel
theorem dX10_isRing_51 : decode cX10_isRing 51 = .ok (.iaload, 1) := by decide +kernel
theorem dX10_isRing_52 : decode cX10_isRing 52 = .ok (.istore_n 3, 1) := by decide +kernel
theorem dX10_isRing_53 : decode cX10_isRing 53 = .ok (.iload_n 2, 1) := by decide +kernel
theorem dX10_isRing_54 : decode cX10_isRing 54 = .ok (.iconst 1, 1) := by decide +kernel
theorem dX10_isRing_55 : decode cX10_isRing 55 = .ok (.aload_n 0, 1) := by decide +kernel
theorem dX10_isRing_56 : decode cX10_isRing 56 = .ok (.getfield 38, 3) := by decide +kernel
theorem dX10_isRing_59 : decode cX10_isRing 59 = .ok (.iload 4, 2) := by decide +kernel
theorem dX10_isRing_61 : decode cX10_isRing 61 = .ok (.iaload, 1) := by decide +kernel
theorem dX10_isRing_62 : decode cX10_isRing 62 = .ok (.ishl, 1) := by decide +kernel
theorem dX10_isRing_63 : decode cX10_isRing 63 = .ok (.iconst 1, 1) := by decide +kernel
theorem dX10_isRing_64 : decode cX10_isRing 64 = .ok (.aload_n 0, 1) := by decide +kernel
theorem dX10_isRing_65 : decode cX10_isRing 65 = .ok (.getfield 41, 3) := by decide +kernel
theorem dX10_isRing_68 : decode cX10_isRing 68 = .ok (.iload 4, 2) := by decide +kernel
theorem dX10_isRing_70 : decode cX10_isRing 70 = .ok (.iaload, 1) := by decide +kernel
theorem dX10_isRing_71 : decode cX10_isRing 71 = .ok (.ishl, 1) := by decide +kernel
theorem dX10_isRing_72 : decode cX10_isRing 72 = .ok (.ior, 1) := by decide +kernel
theorem dX10_isRing_73 : decode cX10_isRing 73 = .ok (.ior, 1) := by decide +kernel
theorem dX10_isRing_74 : decode cX10_isRing 74 = .ok (.istore_n 2, 1) := by decide +kernel
theorem dX10_isRing_75 : decode cX10_isRing 75 = .ok (.iinc 4 1, 3) := by decide +kernel
theorem dX10_isRing_78 : decode cX10_isRing 78 = .ok (.goto (-71), 3) := by decide +kernel
theorem dX10_isRing_81 : decode cX10_isRing 81 = .ok (.iconst 0, 1) := by decide +kernel
theorem dX10_isRing_82 : decode cX10_isRing 82 = .ok (.istore 4, 2) := by decide +kernel
theorem dX10_isRing_84 : decode cX10_isRing 84 = .ok (.iload 4, 2) := by decide +kernel
theorem dX10_isRing_86 : decode cX10_isRing 86 = .ok (.bipush 10, 2) := by decide +kernel
theorem dX10_isRing_88 : decode cX10_isRing 88 = .ok (.if_icmp .ge 113, 3) := by decide +kernel
theorem dX10_isRing_91 : decode cX10_isRing 91 = .ok (.iload_n 2, 1) := by decide +kernel
theorem dX10_isRing_92 : decode cX10_isRing 92 = .ok (.iload 4, 2) := by decide +kernel
theorem dX10_isRing_94 : decode cX10_isRing 94 = .ok (.ishr, 1) := by decide +kernel
theorem dX10_isRing_95 : decode cX10_isRing 95 = .ok (.iconst 1, 1) := by decide +kernel
theorem dX10_isRing_96 : decode cX10_isRing 96 = .ok (.iand, 1) := by decide +kernel
theorem dX10_isRing_97 : decode cX10_isRing 97 = .ok (.ifCond .ne 6, 3) := by decide +kernel
theorem dX10_isRing_100 : decode cX10_isRing 100 = .ok (.goto 95, 3) := by decide +kernel
theorem dX10_isRing_103 : decode cX10_isRing 103 = .ok (.iconst 0, 1) := by decide +kernel
theorem dX10_isRing_104 : decode cX10_isRing 104 = .ok (.istore 5, 2) := by decide +kernel
theorem dX10_isRing_106 : decode cX10_isRing 106 = .ok (.iconst 0, 1) := by decide +kernel
theorem dX10_isRing_107 : decode cX10_isRing 107 = .ok (.istore 6, 2) := by decide +kernel
theorem dX10_isRing_109 : decode cX10_isRing 109 = .ok (.iload 6, 2) := by decide +kernel
theorem dX10_isRing_111 : decode cX10_isRing 111 = .ok (.aload_n 0, 1) := by decide +kernel
theorem dX10_isRing_112 : decode cX10_isRing 112 = .ok (.getfield 118, 3) := by decide +kernel
theorem dX10_isRing_115 : decode cX10_isRing 115 = .ok (.if_icmp .ge 62, 3) := by decide +kernel
theorem dX10_isRing_118 : decode cX10_isRing 118 = .ok (.iload 5, 2) := by decide +kernel
theorem dX10_isRing_120 : decode cX10_isRing 120 = .ok (.iload_n 1, 1) := by decide +kernel
theorem dX10_isRing_121 : decode cX10_isRing 121 = .ok (.iload 6, 2) := by decide +kernel
theorem dX10_isRing_123 : decode cX10_isRing 123 = .ok (.ishr, 1) := by decide +kernel
theorem dX10_isRing_124 : decode cX10_isRing 124 = .ok (.iconst 1, 1) := by decide +kernel
theorem dX10_isRing_125 : decode cX10_isRing 125 = .ok (.iand, 1) := by decide +kernel
theorem dX10_isRing_126 : decode cX10_isRing 126 = .ok (.ifCond .ne 7, 3) := by decide +kernel
theorem dX10_isRing_129 : decode cX10_isRing 129 = .ok (.iconst 0, 1) := by decide +kernel
theorem dX10_isRing_130 : decode cX10_isRing 130 = .ok (.goto 38, 3) := by decide +kernel
theorem dX10_isRing_133 : decode cX10_isRing 133 = .ok (.aload_n 0, 1) := by decide +kernel
theorem dX10_isRing_134 : decode cX10_isRing 134 = .ok (.getfield 38, 3) := by decide +kernel
theorem dX10_isRing_137 : decode cX10_isRing 137 = .ok (.iload 6, 2) := by decide +kernel
theorem dX10_isRing_139 : decode cX10_isRing 139 = .ok (.iaload, 1) := by decide +kernel
theorem dX10_isRing_140 : decode cX10_isRing 140 = .ok (.iload 4, 2) := by decide +kernel
theorem dX10_isRing_142 : decode cX10_isRing 142 = .ok (.if_icmp .ne 7, 3) := by decide +kernel
theorem dX10_isRing_145 : decode cX10_isRing 145 = .ok (.iconst 1, 1) := by decide +kernel
theorem dX10_isRing_146 : decode cX10_isRing 146 = .ok (.goto 4, 3) := by decide +kernel
theorem dX10_isRing_149 : decode cX10_isRing 149 = .ok (.iconst 0, 1) := by decide +kernel
theorem dX10_isRing_150 : decode cX10_isRing 150 = .ok (.aload_n 0, 1) := by decide +kernel
theorem dX10_isRing_151 : decode cX10_isRing 151 = .ok (.getfield 41, 3) := by decide +kernel
theorem dX10_isRing_154 : decode cX10_isRing 154 = .ok (.iload 6, 2) := by decide +kernel
theorem dX10_isRing_156 : decode cX10_isRing 156 = .ok (.iaload, 1) := by decide +kernel
theorem dX10_isRing_157 : decode cX10_isRing 157 = .ok (.iload 4, 2) := by decide +kernel
theorem dX10_isRing_159 : decode cX10_isRing 159 = .ok (.if_icmp .ne 7, 3) := by decide +kernel
theorem dX10_isRing_162 : decode cX10_isRing 162 = .ok (.iconst 1, 1) := by decide +kernel
theorem dX10_isRing_163 : decode cX10_isRing 163 = .ok (.goto 4, 3) := by decide +kernel
theorem dX10_isRing_166 : decode cX10_isRing 166 = .ok (.iconst 0, 1) := by decide +kernel
theorem dX10_isRing_167 : decode cX10_isRing 167 = .ok (.isub, 1) := by decide +kernel
theorem dX10_isRing_168 : decode cX10_isRing 168 = .ok (.iadd, 1) := by decide +kernel
theorem dX10_isRing_169 : decode cX10_isRing 169 = .ok (.istore 5, 2) := by decide +kernel
theorem dX10_isRing_171 : decode cX10_isRing 171 = .ok (.iinc 6 1, 3) := by decide +kernel
theorem dX10_isRing_174 : decode cX10_isRing 174 = .ok (.goto (-65), 3) := by decide +kernel
theorem dX10_isRing_177 : decode cX10_isRing 177 = .ok (.iload 5, 2) := by decide +kernel
theorem dX10_isRing_179 : decode cX10_isRing 179 = .ok (.ifCond .ne 14, 3) := by decide +kernel
theorem dX10_isRing_182 : decode cX10_isRing 182 = .ok (.aload_n 0, 1) := by decide +kernel
theorem dX10_isRing_183 : decode cX10_isRing 183 = .ok (.iload_n 1, 1) := by decide +kernel
theorem dX10_isRing_184 : decode cX10_isRing 184 = .ok (.iload 4, 2) := by decide +kernel
theorem dX10_isRing_186 : decode cX10_isRing 186 = .ok (.invokevirtual 320, 3) := by decide +kernel
theorem dX10_isRing_189 : decode cX10_isRing 189 = .ok (.iload_n 2, 1) := by decide +kernel
theorem dX10_isRing_190 : decode cX10_isRing 190 = .ok (.if_icmp .eq 5, 3) := by decide +kernel
theorem dX10_isRing_193 : decode cX10_isRing 193 = .ok (.iconst 0, 1) := by decide +kernel
theorem dX10_isRing_194 : decode cX10_isRing 194 = .ok (.ireturn, 1) := by decide +kernel
theorem dX10_isRing_195 : decode cX10_isRing 195 = .ok (.iinc 4 1, 3) := by decide +kernel
theorem dX10_isRing_198 : decode cX10_isRing 198 = .ok (.goto (-114), 3) := by decide +kernel
theorem dX10_isRing_201 : decode cX10_isRing 201 = .ok (.iconst 1, 1) := by decide +kernel
theorem dX10_isRing_202 : decode cX10_isRing 202 = .ok (.ireturn, 1) := by decide +kernel
theorem dX10_closes_0 : decode cX10_closes 0 = .ok (.aload_n 0, 1) := by decide +kernel
theorem dX10_closes_1 : decode cX10_closes 1 = .ok (.iload_n 1, 1) := by decide +kernel
theorem dX10_closes_2 : decode cX10_closes 2 = .ok (.invokevirtual 323, 3) := by decide +kernel
theorem dX10_closes_5 : decode cX10_closes 5 = .ok (.ifCond .eq 19, 3) := by decide +kernel
theorem dX10_closes_8 : decode cX10_closes 8 = .ok (.aload_n 0, 1) := by decide +kernel
theorem dX10_closes_9 : decode cX10_closes 9 = .ok (.iload_n 1, 1) := by decide +kernel
theorem dX10_closes_10 : decode cX10_closes 10 = .ok (.invokevirtual 326, 3) := by decide +kernel
theorem dX10_closes_13 : decode cX10_closes 13 = .ok (.ifCond .eq 7, 3) := by decide +kernel
theorem dX10_closes_16 : decode cX10_closes 16 = .ok (.iconst 1, 1) := by decide +kernel
theorem dX10_closes_17 : decode cX10_closes 17 = .ok (.goto 9, 3) := by decide +kernel
theorem dX10_closes_20 : decode cX10_closes 20 = .ok (.iconst 0, 1) := by decide +kernel
theorem dX10_closes_21 : decode cX10_closes 21 = .ok (.goto 5, 3) := by decide +kernel
theorem dX10_closes_24 : decode cX10_closes 24 = .ok (.bipush (-2), 2) := by decide +kernel
theorem dX10_closes_26 : decode cX10_closes 26 = .ok (.ireturn, 1) := by decide +kernel
theorem dX10_differ_0 : decode cX10_differ 0 = .ok (.iload_n 2, 1) := by decide +kernel
theorem dX10_differ_1 : decode cX10_differ 1 = .ok (.invokestatic 125, 3) := by decide +kernel
theorem dX10_differ_4 : decode cX10_differ 4 = .ok (.ifCond .ne 7, 3) := by decide +kernel
theorem dX10_differ_7 : decode cX10_differ 7 = .ok (.ldc2_w 168, 3) := by decide +kernel
theorem dX10_differ_10 : decode cX10_differ 10 = .ok (.lreturn, 1) := by decide +kernel
theorem dX10_differ_11 : decode cX10_differ 11 = .ok (.aload_n 0, 1) := by decide +kernel
theorem dX10_differ_12 : decode cX10_differ 12 = .ok (.iload_n 1, 1) := by decide +kernel
theorem dX10_differ_13 : decode cX10_differ 13 = .ok (.invokevirtual 323, 3) := by decide +kernel
theorem dX10_differ_16 : decode cX10_differ 16 = .ok (.ifCond .ne 7, 3) := by decide +kernel
theorem dX10_differ_19 : decode cX10_differ 19 = .ok (.ldc2_w 329, 3) := by decide +kernel
theorem dX10_differ_22 : decode cX10_differ 22 = .ok (.lreturn, 1) := by decide +kernel
theorem dX10_differ_23 : decode cX10_differ 23 = .ok (.aload_n 0, 1) := by decide +kernel
theorem dX10_differ_24 : decode cX10_differ 24 = .ok (.iload_n 1, 1) := by decide +kernel
theorem dX10_differ_25 : decode cX10_differ 25 = .ok (.invokevirtual 326, 3) := by decide +kernel
theorem dX10_differ_28 : decode cX10_differ 28 = .ok (.ifCond .ne 7, 3) := by decide +kernel
theorem dX10_differ_31 : decode cX10_differ 31 = .ok (.ldc2_w 331, 3) := by decide +kernel
theorem dX10_differ_34 : decode cX10_differ 34 = .ok (.lreturn, 1) := by decide +kernel
theorem dX10_differ_35 : decode cX10_differ 35 = .ok (.lconst 0, 1) := by decide +kernel
theorem dX10_differ_36 : decode cX10_differ 36 = .ok (.lstore_n 3, 1) := by decide +kernel
theorem dX10_differ_37 : decode cX10_differ 37 = .ok (.iconst 0, 1) := by decide +kernel
theorem dX10_differ_38 : decode cX10_differ 38 = .ok (.istore 5, 2) := by decide +kernel
theorem dX10_differ_40 : decode cX10_differ 40 = .ok (.iload 5, 2) := by decide +kernel
theorem dX10_differ_42 : decode cX10_differ 42 = .ok (.aload_n 0, 1) := by decide +kernel
theorem dX10_differ_43 : decode cX10_differ 43 = .ok (.getfield 118, 3) := by decide +kernel
theorem dX10_differ_46 : decode cX10_differ 46 = .ok (.if_icmp .ge 71, 3) := by decide +kernel
theorem dX10_differ_49 : decode cX10_differ 49 = .ok (.iload_n 1, 1) := by decide +kernel
theorem dX10_differ_50 : decode cX10_differ 50 = .ok (.iload 5, 2) := by decide +kernel
theorem dX10_differ_52 : decode cX10_differ 52 = .ok (.ishr, 1) := by decide +kernel
theorem dX10_differ_53 : decode cX10_differ 53 = .ok (.iconst 1, 1) := by decide +kernel
theorem dX10_differ_54 : decode cX10_differ 54 = .ok (.iand, 1) := by decide +kernel
theorem dX10_differ_55 : decode cX10_differ 55 = .ok (.ifCond .ne 6, 3) := by decide +kernel
theorem dX10_differ_58 : decode cX10_differ 58 = .ok (.goto 53, 3) := by decide +kernel
theorem dX10_differ_61 : decode cX10_differ 61 = .ok (.lload_n 3, 1) := by decide +kernel
theorem dX10_differ_62 : decode cX10_differ 62 = .ok (.aload_n 0, 1) := by decide +kernel
theorem dX10_differ_63 : decode cX10_differ 63 = .ok (.getfield 38, 3) := by decide +kernel
theorem dX10_differ_66 : decode cX10_differ 66 = .ok (.iload 5, 2) := by decide +kernel
theorem dX10_differ_68 : decode cX10_differ 68 = .ok (.iaload, 1) := by decide +kernel
theorem dX10_differ_69 : decode cX10_differ 69 = .ok (.iload_n 2, 1) := by decide +kernel
theorem dX10_differ_70 : decode cX10_differ 70 = .ok (.if_icmp .ne 13, 3) := by decide +kernel
theorem dX10_differ_73 : decode cX10_differ 73 = .ok (.aload_n 0, 1) := by decide +kernel
theorem dX10_differ_74 : decode cX10_differ 74 = .ok (.iload 5, 2) := by decide +kernel
theorem dX10_differ_76 : decode cX10_differ 76 = .ok (.invokevirtual 254, 3) := by decide +kernel
theorem dX10_differ_79 : decode cX10_differ 79 = .ok (.i2l, 1) := by decide +kernel
theorem dX10_differ_80 : decode cX10_differ 80 = .ok (.goto 4, 3) := by decide +kernel
theorem dX10_differ_83 : decode cX10_differ 83 = .ok (.lconst 0, 1) := by decide +kernel
theorem dX10_differ_84 : decode cX10_differ 84 = .ok (.ladd, 1) := by decide +kernel
theorem dX10_differ_85 : decode cX10_differ 85 = .ok (.lstore_n 3, 1) := by decide +kernel
theorem dX10_differ_86 : decode cX10_differ 86 = .ok (.lload_n 3, 1) := by decide +kernel
theorem dX10_differ_87 : decode cX10_differ 87 = .ok (.aload_n 0, 1) := by decide +kernel
theorem dX10_differ_88 : decode cX10_differ 88 = .ok (.getfield 41, 3) := by decide +kernel
theorem dX10_differ_91 : decode cX10_differ 91 = .ok (.iload 5, 2) := by decide +kernel
theorem dX10_differ_93 : decode cX10_differ 93 = .ok (.iaload, 1) := by decide +kernel
theorem dX10_differ_94 : decode cX10_differ 94 = .ok (.iload_n 2, 1) := by decide +kernel
theorem dX10_differ_95 : decode cX10_differ 95 = .ok (.if_icmp .ne 13, 3) := by decide +kernel
theorem dX10_differ_98 : decode cX10_differ 98 = .ok (.aload_n 0, 1) := by decide +kernel
theorem dX10_differ_99 : decode cX10_differ 99 = .ok (.iload 5, 2) := by decide +kernel
theorem dX10_differ_101 : decode cX10_differ 101 = .ok (.invokevirtual 254, 3) := by decide +kernel
theorem dX10_differ_104 : decode cX10_differ 104 = .ok (.i2l, 1) := by decide +kernel
theorem dX10_differ_105 : decode cX10_differ 105 = .ok (.goto 4, 3) := by decide +kernel
theorem dX10_differ_108 : decode cX10_differ 108 = .ok (.lconst 0, 1) := by decide +kernel
theorem dX10_differ_109 : decode cX10_differ 109 = .ok (.lsub, 1) := by decide +kernel
theorem dX10_differ_110 : decode cX10_differ 110 = .ok (.lstore_n 3, 1) := by decide +kernel
theorem dX10_differ_111 : decode cX10_differ 111 = .ok (.iinc 5 1, 3) := by decide +kernel
theorem dX10_differ_114 : decode cX10_differ 114 = .ok (.goto (-74), 3) := by decide +kernel
theorem dX10_differ_117 : decode cX10_differ 117 = .ok (.lload_n 3, 1) := by decide +kernel
theorem dX10_differ_118 : decode cX10_differ 118 = .ok (.lreturn, 1) := by decide +kernel
theorem dX10_bitsOf_0 : decode cX10_bitsOf 0 = .ok (.iconst 0, 1) := by decide +kernel
theorem dX10_bitsOf_1 : decode cX10_bitsOf 1 = .ok (.istore_n 1, 1) := by decide +kernel
theorem dX10_bitsOf_2 : decode cX10_bitsOf 2 = .ok (.iload_n 0, 1) := by decide +kernel
theorem dX10_bitsOf_3 : decode cX10_bitsOf 3 = .ok (.istore_n 2, 1) := by decide +kernel
theorem dX10_bitsOf_4 : decode cX10_bitsOf 4 = .ok (.iload_n 2, 1) := by decide +kernel
theorem dX10_bitsOf_5 : decode cX10_bitsOf 5 = .ok (.ifCond .eq 15, 3) := by decide +kernel
theorem dX10_bitsOf_8 : decode cX10_bitsOf 8 = .ok (.iinc 1 1, 3) := by decide +kernel
theorem dX10_bitsOf_11 : decode cX10_bitsOf 11 = .ok (.iload_n 2, 1) := by decide +kernel
theorem dX10_bitsOf_12 : decode cX10_bitsOf 12 = .ok (.iload_n 2, 1) := by decide +kernel
theorem dX10_bitsOf_13 : decode cX10_bitsOf 13 = .ok (.iconst 1, 1) := by decide +kernel
theorem dX10_bitsOf_14 : decode cX10_bitsOf 14 = .ok (.isub, 1) := by decide +kernel
theorem dX10_bitsOf_15 : decode cX10_bitsOf 15 = .ok (.iand, 1) := by decide +kernel
theorem dX10_bitsOf_16 : decode cX10_bitsOf 16 = .ok (.istore_n 2, 1) := by decide +kernel
theorem dX10_bitsOf_17 : decode cX10_bitsOf 17 = .ok (.goto (-13), 3) := by decide +kernel
theorem dX10_bitsOf_20 : decode cX10_bitsOf 20 = .ok (.iload_n 1, 1) := by decide +kernel
theorem dX10_bitsOf_21 : decode cX10_bitsOf 21 = .ok (.ireturn, 1) := by decide +kernel
theorem dX10_found_0 : decode cX10_found 0 = .ok (.aload_n 0, 1) := by decide +kernel
theorem dX10_found_1 : decode cX10_found 1 = .ok (.iload_n 1, 1) := by decide +kernel
theorem dX10_found_2 : decode cX10_found 2 = .ok (.invokevirtual 129, 3) := by decide +kernel
theorem dX10_found_5 : decode cX10_found 5 = .ok (.ifCond .ne 6, 3) := by decide +kernel
theorem dX10_found_8 : decode cX10_found 8 = .ok (.bipush (-2), 2) := by decide +kernel
theorem dX10_found_10 : decode cX10_found 10 = .ok (.ireturn, 1) := by decide +kernel
theorem dX10_found_11 : decode cX10_found 11 = .ok (.iconst 0, 1) := by decide +kernel
theorem dX10_found_12 : decode cX10_found 12 = .ok (.istore_n 2, 1) := by decide +kernel
theorem dX10_found_13 : decode cX10_found 13 = .ok (.iconst 0, 1) := by decide +kernel
theorem dX10_found_14 : decode cX10_found 14 = .ok (.istore_n 3, 1) := by decide +kernel
theorem dX10_found_15 : decode cX10_found 15 = .ok (.iload_n 3, 1) := by decide +kernel
theorem dX10_found_16 : decode cX10_found 16 = .ok (.aload_n 0, 1) := by decide +kernel
theorem dX10_found_17 : decode cX10_found 17 = .ok (.getfield 118, 3) := by decide +kernel
theorem dX10_found_20 : decode cX10_found 20 = .ok (.if_icmp .ge 35, 3) := by decide +kernel
theorem dX10_found_23 : decode cX10_found 23 = .ok (.iload_n 3, 1) := by decide +kernel
theorem dX10_found_24 : decode cX10_found 24 = .ok (.bipush 12, 2) := by decide +kernel
theorem dX10_found_26 : decode cX10_found 26 = .ok (.if_icmp .ge 29, 3) := by decide +kernel
theorem dX10_found_29 : decode cX10_found 29 = .ok (.iload_n 2, 1) := by decide +kernel
theorem dX10_found_30 : decode cX10_found 30 = .ok (.aload_n 0, 1) := by decide +kernel
theorem dX10_found_31 : decode cX10_found 31 = .ok (.getfield 35, 3) := by decide +kernel
theorem dX10_found_34 : decode cX10_found 34 = .ok (.iload_n 3, 1) := by decide +kernel
theorem dX10_found_35 : decode cX10_found 35 = .ok (.iaload, 1) := by decide +kernel
theorem dX10_found_36 : decode cX10_found 36 = .ok (.iload_n 1, 1) := by decide +kernel
theorem dX10_found_37 : decode cX10_found 37 = .ok (.if_icmp .ne 9, 3) := by decide +kernel
theorem dX10_found_40 : decode cX10_found 40 = .ok (.iconst 1, 1) := by decide +kernel
theorem dX10_found_41 : decode cX10_found 41 = .ok (.iload_n 3, 1) := by decide +kernel
theorem dX10_found_42 : decode cX10_found 42 = .ok (.ishl, 1) := by decide +kernel
theorem dX10_found_43 : decode cX10_found 43 = .ok (.goto 4, 3) := by decide +kernel
theorem dX10_found_46 : decode cX10_found 46 = .ok (.iconst 0, 1) := by decide +kernel
theorem dX10_found_47 : decode cX10_found 47 = .ok (.ior, 1) := by decide +kernel
theorem dX10_found_48 : decode cX10_found 48 = .ok (.istore_n 2, 1) := by decide +kernel
theorem dX10_found_49 : decode cX10_found 49 = .ok (.iinc 3 1, 3) := by decide +kernel
theorem dX10_found_52 : decode cX10_found 52 = .ok (.goto (-37), 3) := by decide +kernel
theorem dX10_found_55 : decode cX10_found 55 = .ok (.iconst (-1), 1) := by decide +kernel
theorem dX10_found_56 : decode cX10_found 56 = .ok (.istore_n 3, 1) := by decide +kernel
theorem dX10_found_57 : decode cX10_found 57 = .ok (.iconst 1, 1) := by decide +kernel
theorem dX10_found_58 : decode cX10_found 58 = .ok (.istore 4, 2) := by decide +kernel
theorem dX10_found_60 : decode cX10_found 60 = .ok (.iload 4, 2) := by decide +kernel
theorem dX10_found_62 : decode cX10_found 62 = .ok (.iload_n 2, 1) := by decide +kernel
theorem dX10_found_63 : decode cX10_found 63 = .ok (.if_icmp .gt 47, 3) := by decide +kernel
theorem dX10_found_66 : decode cX10_found 66 = .ok (.iload 4, 2) := by decide +kernel
theorem dX10_found_68 : decode cX10_found 68 = .ok (.iload_n 2, 1) := by decide +kernel
theorem dX10_found_69 : decode cX10_found 69 = .ok (.iconst (-1), 1) := by decide +kernel
theorem dX10_found_70 : decode cX10_found 70 = .ok (.ixor, 1) := by decide +kernel
theorem dX10_found_71 : decode cX10_found 71 = .ok (.iand, 1) := by decide +kernel
theorem dX10_found_72 : decode cX10_found 72 = .ok (.ifCond .ne 32, 3) := by decide +kernel
theorem dX10_found_75 : decode cX10_found 75 = .ok (.iload_n 3, 1) := by decide +kernel
theorem dX10_found_76 : decode cX10_found 76 = .ok (.iconst (-1), 1) := by decide +kernel
theorem dX10_found_77 : decode cX10_found 77 = .ok (.if_icmp .eq 15, 3) := by decide +kernel
theorem dX10_found_80 : decode cX10_found 80 = .ok (.iload 4, 2) := by decide +kernel
theorem dX10_found_82 : decode cX10_found 82 = .ok (.invokestatic 333, 3) := by decide +kernel
theorem dX10_found_85 : decode cX10_found 85 = .ok (.iload_n 3, 1) := by decide +kernel
theorem dX10_found_86 : decode cX10_found 86 = .ok (.invokestatic 333, 3) := by decide +kernel
theorem dX10_found_89 : decode cX10_found 89 = .ok (.if_icmp .ge 15, 3) := by decide +kernel
theorem dX10_found_92 : decode cX10_found 92 = .ok (.aload_n 0, 1) := by decide +kernel
theorem dX10_found_93 : decode cX10_found 93 = .ok (.iload 4, 2) := by decide +kernel
theorem dX10_found_95 : decode cX10_found 95 = .ok (.invokevirtual 326, 3) := by decide +kernel
theorem dX10_found_98 : decode cX10_found 98 = .ok (.ifCond .eq 6, 3) := by decide +kernel
theorem dX10_found_101 : decode cX10_found 101 = .ok (.iload 4, 2) := by decide +kernel
theorem dX10_found_103 : decode cX10_found 103 = .ok (.istore_n 3, 1) := by decide +kernel
theorem dX10_found_104 : decode cX10_found 104 = .ok (.iinc 4 1, 3) := by decide +kernel
theorem dX10_found_107 : decode cX10_found 107 = .ok (.goto (-47), 3) := by decide +kernel
theorem dX10_found_110 : decode cX10_found 110 = .ok (.iload_n 3, 1) := by decide +kernel
theorem dX10_found_111 : decode cX10_found 111 = .ok (.ireturn, 1) := by decide +kernel
theorem dX10_loses_0 : decode cX10_loses 0 = .ok (.iload_n 1, 1) := by decide +kernel
theorem dX10_loses_1 : decode cX10_loses 1 = .ok (.i2l, 1) := by decide +kernel
theorem dX10_loses_2 : decode cX10_loses 2 = .ok (.lconst 0, 1) := by decide +kernel
theorem dX10_loses_3 : decode cX10_loses 3 = .ok (.ldc2_w 336, 3) := by decide +kernel
theorem dX10_loses_6 : decode cX10_loses 6 = .ok (.invokestatic 114, 3) := by decide +kernel
theorem dX10_loses_9 : decode cX10_loses 9 = .ok (.ifCond .eq 21, 3) := by decide +kernel
theorem dX10_loses_12 : decode cX10_loses 12 = .ok (.iload_n 1, 1) := by decide +kernel
theorem dX10_loses_13 : decode cX10_loses 13 = .ok (.bipush 10, 2) := by decide +kernel
theorem dX10_loses_15 : decode cX10_loses 15 = .ok (.idiv, 1) := by decide +kernel
theorem dX10_loses_16 : decode cX10_loses 16 = .ok (.iload_n 1, 1) := by decide +kernel
theorem dX10_loses_17 : decode cX10_loses 17 = .ok (.bipush 10, 2) := by decide +kernel
theorem dX10_loses_19 : decode cX10_loses 19 = .ok (.irem, 1) := by decide +kernel
theorem dX10_loses_20 : decode cX10_loses 20 = .ok (.if_icmp .eq 10, 3) := by decide +kernel
theorem dX10_loses_23 : decode cX10_loses 23 = .ok (.iload_n 2, 1) := by decide +kernel
theorem dX10_loses_24 : decode cX10_loses 24 = .ok (.invokestatic 138, 3) := by decide +kernel
theorem dX10_loses_27 : decode cX10_loses 27 = .ok (.ifCond .ne 7, 3) := by decide +kernel
theorem dX10_loses_30 : decode cX10_loses 30 = .ok (.ldc2_w 168, 3) := by decide +kernel
theorem dX10_loses_33 : decode cX10_loses 33 = .ok (.lreturn, 1) := by decide +kernel
theorem dX10_loses_34 : decode cX10_loses 34 = .ok (.lconst 0, 1) := by decide +kernel
theorem dX10_loses_35 : decode cX10_loses 35 = .ok (.lstore_n 3, 1) := by decide +kernel
theorem dX10_loses_36 : decode cX10_loses 36 = .ok (.iconst 0, 1) := by decide +kernel
theorem dX10_loses_37 : decode cX10_loses 37 = .ok (.istore 5, 2) := by decide +kernel
theorem dX10_loses_39 : decode cX10_loses 39 = .ok (.iload 5, 2) := by decide +kernel
theorem dX10_loses_41 : decode cX10_loses 41 = .ok (.aload_n 0, 1) := by decide +kernel
theorem dX10_loses_42 : decode cX10_loses 42 = .ok (.getfield 118, 3) := by decide +kernel
theorem dX10_loses_45 : decode cX10_loses 45 = .ok (.if_icmp .ge 76, 3) := by decide +kernel
theorem dX10_loses_48 : decode cX10_loses 48 = .ok (.aload_n 0, 1) := by decide +kernel
theorem dX10_loses_49 : decode cX10_loses 49 = .ok (.getfield 41, 3) := by decide +kernel
theorem dX10_loses_52 : decode cX10_loses 52 = .ok (.iload 5, 2) := by decide +kernel
theorem dX10_loses_54 : decode cX10_loses 54 = .ok (.iaload, 1) := by decide +kernel
theorem dX10_loses_55 : decode cX10_loses 55 = .ok (.iload_n 1, 1) := by decide +kernel
theorem dX10_loses_56 : decode cX10_loses 56 = .ok (.bipush 10, 2) := by decide +kernel
theorem dX10_loses_58 : decode cX10_loses 58 = .ok (.idiv, 1) := by decide +kernel
theorem dX10_loses_59 : decode cX10_loses 59 = .ok (.if_icmp .ne 56, 3) := by decide +kernel
theorem dX10_loses_62 : decode cX10_loses 62 = .ok (.aload_n 0, 1) := by decide +kernel
theorem dX10_loses_63 : decode cX10_loses 63 = .ok (.getfield 38, 3) := by decide +kernel
theorem dX10_loses_66 : decode cX10_loses 66 = .ok (.iload 5, 2) := by decide +kernel
theorem dX10_loses_68 : decode cX10_loses 68 = .ok (.iaload, 1) := by decide +kernel
theorem dX10_loses_69 : decode cX10_loses 69 = .ok (.iload_n 1, 1) := by decide +kernel
theorem dX10_loses_70 : decode cX10_loses 70 = .ok (.bipush 10, 2) := by decide +kernel
theorem dX10_loses_72 : decode cX10_loses 72 = .ok (.irem, 1) := by decide +kernel
theorem dX10_loses_73 : decode cX10_loses 73 = .ok (.if_icmp .ne 42, 3) := by decide +kernel
theorem dX10_loses_76 : decode cX10_loses 76 = .ok (.aload_n 0, 1) := by decide +kernel
theorem dX10_loses_77 : decode cX10_loses 77 = .ok (.iload 5, 2) := by decide +kernel
theorem dX10_loses_79 : decode cX10_loses 79 = .ok (.iconst 0, 1) := by decide +kernel
theorem dX10_loses_80 : decode cX10_loses 80 = .ok (.invokevirtual 157, 3) := by decide +kernel
theorem dX10_loses_83 : decode cX10_loses 83 = .ok (.iload_n 2, 1) := by decide +kernel
theorem dX10_loses_84 : decode cX10_loses 84 = .ok (.if_icmp .le 6, 3) := by decide +kernel
theorem dX10_loses_87 : decode cX10_loses 87 = .ok (.goto 28, 3) := by decide +kernel
theorem dX10_loses_90 : decode cX10_loses 90 = .ok (.aload_n 0, 1) := by decide +kernel
theorem dX10_loses_91 : decode cX10_loses 91 = .ok (.iload 5, 2) := by decide +kernel
theorem dX10_loses_93 : decode cX10_loses 93 = .ok (.iload_n 2, 1) := by decide +kernel
theorem dX10_loses_94 : decode cX10_loses 94 = .ok (.invokevirtual 316, 3) := by decide +kernel
theorem dX10_loses_97 : decode cX10_loses 97 = .ok (.lstore 6, 2) := by decide +kernel
theorem dX10_loses_99 : decode cX10_loses 99 = .ok (.lload_n 3, 1) := by decide +kernel
theorem dX10_loses_100 : decode cX10_loses 100 = .ok (.lload 6, 2) := by decide +kernel
theorem dX10_loses_102 : decode cX10_loses 102 = .ok (.lconst 0, 1) := by decide +kernel
theorem dX10_loses_103 : decode cX10_loses 103 = .ok (.lcmp, 1) := by decide +kernel
theorem dX10_loses_104 : decode cX10_loses 104 = .ok (.ifCond .le 8, 3) := by decide +kernel
theorem dX10_loses_107 : decode cX10_loses 107 = .ok (.lload 6, 2) := by decide +kernel
theorem dX10_loses_109 : decode cX10_loses 109 = .ok (.goto 4, 3) := by decide +kernel
theorem dX10_loses_112 : decode cX10_loses 112 = .ok (.lconst 0, 1) := by decide +kernel
theorem dX10_loses_113 : decode cX10_loses 113 = .ok (.ladd, 1) := by decide +kernel
theorem dX10_loses_114 : decode cX10_loses 114 = .ok (.lstore_n 3, 1) := by decide +kernel
theorem dX10_loses_115 : decode cX10_loses 115 = .ok (.iinc 5 1, 3) := by decide +kernel
theorem dX10_loses_118 : decode cX10_loses 118 = .ok (.goto (-79), 3) := by decide +kernel
theorem dX10_loses_121 : decode cX10_loses 121 = .ok (.lload_n 3, 1) := by decide +kernel
theorem dX10_loses_122 : decode cX10_loses 122 = .ok (.lreturn, 1) := by decide +kernel
theorem dX10_stops_0 : decode cX10_stops 0 = .ok (.iload_n 1, 1) := by decide +kernel
theorem dX10_stops_1 : decode cX10_stops 1 = .ok (.invokestatic 125, 3) := by decide +kernel
theorem dX10_stops_4 : decode cX10_stops 4 = .ok (.ifCond .eq 10, 3) := by decide +kernel
theorem dX10_stops_7 : decode cX10_stops 7 = .ok (.iload_n 2, 1) := by decide +kernel
theorem dX10_stops_8 : decode cX10_stops 8 = .ok (.invokestatic 138, 3) := by decide +kernel
theorem dX10_stops_11 : decode cX10_stops 11 = .ok (.ifCond .ne 6, 3) := by decide +kernel
theorem dX10_stops_14 : decode cX10_stops 14 = .ok (.bipush (-2), 2) := by decide +kernel
theorem dX10_stops_16 : decode cX10_stops 16 = .ok (.ireturn, 1) := by decide +kernel
theorem dX10_stops_17 : decode cX10_stops 17 = .ok (.iconst 0, 1) := by decide +kernel
theorem dX10_stops_18 : decode cX10_stops 18 = .ok (.istore_n 3, 1) := by decide +kernel
theorem dX10_stops_19 : decode cX10_stops 19 = .ok (.iconst 0, 1) := by decide +kernel
theorem dX10_stops_20 : decode cX10_stops 20 = .ok (.istore 4, 2) := by decide +kernel
theorem dX10_stops_22 : decode cX10_stops 22 = .ok (.iload 4, 2) := by decide +kernel
theorem dX10_stops_24 : decode cX10_stops 24 = .ok (.aload_n 0, 1) := by decide +kernel
theorem dX10_stops_25 : decode cX10_stops 25 = .ok (.getfield 118, 3) := by decide +kernel
theorem dX10_stops_28 : decode cX10_stops 28 = .ok (.if_icmp .ge 82, 3) := by decide +kernel
theorem dX10_stops_31 : decode cX10_stops 31 = .ok (.aload_n 0, 1) := by decide +kernel
theorem dX10_stops_32 : decode cX10_stops 32 = .ok (.getfield 41, 3) := by decide +kernel
theorem dX10_stops_35 : decode cX10_stops 35 = .ok (.iload 4, 2) := by decide +kernel
theorem dX10_stops_37 : decode cX10_stops 37 = .ok (.iaload, 1) := by decide +kernel
theorem dX10_stops_38 : decode cX10_stops 38 = .ok (.iload_n 1, 1) := by decide +kernel
theorem dX10_stops_39 : decode cX10_stops 39 = .ok (.if_icmp .ne 65, 3) := by decide +kernel
theorem dX10_stops_42 : decode cX10_stops 42 = .ok (.aload_n 0, 1) := by decide +kernel
theorem dX10_stops_43 : decode cX10_stops 43 = .ok (.iload 4, 2) := by decide +kernel
theorem dX10_stops_45 : decode cX10_stops 45 = .ok (.iconst 0, 1) := by decide +kernel
theorem dX10_stops_46 : decode cX10_stops 46 = .ok (.invokevirtual 157, 3) := by decide +kernel
theorem dX10_stops_49 : decode cX10_stops 49 = .ok (.iload_n 2, 1) := by decide +kernel
theorem dX10_stops_50 : decode cX10_stops 50 = .ok (.if_icmp .le 54, 3) := by decide +kernel
theorem dX10_stops_53 : decode cX10_stops 53 = .ok (.aload_n 0, 1) := by decide +kernel
theorem dX10_stops_54 : decode cX10_stops 54 = .ok (.getfield 53, 3) := by decide +kernel
theorem dX10_stops_57 : decode cX10_stops 57 = .ok (.iload 4, 2) := by decide +kernel
theorem dX10_stops_59 : decode cX10_stops 59 = .ok (.iaload, 1) := by decide +kernel
theorem dX10_stops_60 : decode cX10_stops 60 = .ok (.iconst (-1), 1) := by decide +kernel
theorem dX10_stops_61 : decode cX10_stops 61 = .ok (.if_icmp .eq 17, 3) := by decide +kernel
theorem dX10_stops_64 : decode cX10_stops 64 = .ok (.aload_n 0, 1) := by decide +kernel
theorem dX10_stops_65 : decode cX10_stops 65 = .ok (.getfield 53, 3) := by decide +kernel
theorem dX10_stops_68 : decode cX10_stops 68 = .ok (.iload 4, 2) := by decide +kernel
theorem dX10_stops_70 : decode cX10_stops 70 = .ok (.iaload, 1) := by decide +kernel
theorem dX10_stops_71 : decode cX10_stops 71 = .ok (.iload_n 2, 1) := by decide +kernel
theorem dX10_stops_72 : decode cX10_stops 72 = .ok (.if_icmp .gt 6, 3) := by decide +kernel
theorem dX10_stops_75 : decode cX10_stops 75 = .ok (.goto 29, 3) := by decide +kernel
theorem dX10_stops_78 : decode cX10_stops 78 = .ok (.iload_n 3, 1) := by decide +kernel
theorem dX10_stops_79 : decode cX10_stops 79 = .ok (.aload_n 0, 1) := by decide +kernel
theorem dX10_stops_80 : decode cX10_stops 80 = .ok (.aload_n 0, 1) := by decide +kernel
theorem dX10_stops_81 : decode cX10_stops 81 = .ok (.getfield 309, 3) := by decide +kernel
theorem dX10_stops_84 : decode cX10_stops 84 = .ok (.iload 4, 2) := by decide +kernel
theorem dX10_stops_86 : decode cX10_stops 86 = .ok (.iload_n 2, 1) := by decide +kernel
theorem dX10_stops_87 : decode cX10_stops 87 = .ok (.iconst 2, 1) := by decide +kernel
theorem dX10_stops_88 : decode cX10_stops 88 = .ok (.invokevirtual 305, 3) := by decide +kernel
theorem dX10_stops_91 : decode cX10_stops 91 = .ok (.ifCond .eq 10, 3) := by decide +kernel
theorem dX10_stops_94 : decode cX10_stops 94 = .ok (.iconst 1, 1) := by decide +kernel
theorem dX10_stops_95 : decode cX10_stops 95 = .ok (.iload 4, 2) := by decide +kernel
end
section
theorem dX10_stops_97 : decode cX10_stops 97 = .ok (.ishl, 1) := by decide +kernel
theorem dX10_stops_98 : decode cX10_stops 98 = .ok (.goto 4, 3) := by decide +kernel
theorem dX10_stops_101 : decode cX10_stops 101 = .ok (.iconst 0, 1) := by decide +kernel
theorem dX10_stops_102 : decode cX10_stops 102 = .ok (.ior, 1) := by decide +kernel
theorem dX10_stops_103 : decode cX10_stops 103 = .ok (.istore_n 3, 1) := by decide +kernel
theorem dX10_stops_104 : decode cX10_stops 104 = .ok (.iinc 4 1, 3) := by decide +kernel
theorem dX10_stops_107 : decode cX10_stops 107 = .ok (.goto (-85), 3) := by decide +kernel
theorem dX10_stops_110 : decode cX10_stops 110 = .ok (.iload_n 3, 1) := by decide +kernel
theorem dX10_stops_111 : decode cX10_stops 111 = .ok (.ireturn, 1) := by decide +kernel
theorem dX10_over_0 : decode cX10_over 0 = .ok (.iload_n 0, 1) := by decide +kernel
theorem dX10_over_1 : decode cX10_over 1 = .ok (.ifCond .ne 7, 3) := by decide +kernel
theorem dX10_over_4 : decode cX10_over 4 = .ok (.iconst (-1), 1) := by decide +kernel
theorem dX10_over_5 : decode cX10_over 5 = .ok (.goto 31, 3) := by decide +kernel
theorem dX10_over_8 : decode cX10_over 8 = .ok (.iload_n 0, 1) := by decide +kernel
theorem dX10_over_9 : decode cX10_over 9 = .ok (.iconst 3, 1) := by decide +kernel
theorem dX10_over_10 : decode cX10_over 10 = .ok (.if_icmp .ne 7, 3) := by decide +kernel
theorem dX10_over_13 : decode cX10_over 13 = .ok (.iconst 1, 1) := by decide +kernel
theorem dX10_over_14 : decode cX10_over 14 = .ok (.goto 22, 3) := by decide +kernel
theorem dX10_over_17 : decode cX10_over 17 = .ok (.iload_n 0, 1) := by decide +kernel
theorem dX10_over_18 : decode cX10_over 18 = .ok (.iconst 4, 1) := by decide +kernel
theorem dX10_over_19 : decode cX10_over 19 = .ok (.if_icmp .ne 7, 3) := by decide +kernel
theorem dX10_over_22 : decode cX10_over 22 = .ok (.iconst 2, 1) := by decide +kernel
theorem dX10_over_23 : decode cX10_over 23 = .ok (.goto 13, 3) := by decide +kernel
theorem dX10_over_26 : decode cX10_over 26 = .ok (.iload_n 0, 1) := by decide +kernel
theorem dX10_over_27 : decode cX10_over 27 = .ok (.iconst 5, 1) := by decide +kernel
theorem dX10_over_28 : decode cX10_over 28 = .ok (.if_icmp .ne 7, 3) := by decide +kernel
theorem dX10_over_31 : decode cX10_over 31 = .ok (.iconst 3, 1) := by decide +kernel
theorem dX10_over_32 : decode cX10_over 32 = .ok (.goto 4, 3) := by decide +kernel
theorem dX10_over_35 : decode cX10_over 35 = .ok (.iconst 0, 1) := by decide +kernel
theorem dX10_over_36 : decode cX10_over 36 = .ok (.ireturn, 1) := by decide +kernel
theorem dX10_isUnder_0 : decode cX10_isUnder 0 = .ok (.iload_n 0, 1) := by decide +kernel
theorem dX10_isUnder_1 : decode cX10_isUnder 1 = .ok (.istore_n 2, 1) := by decide +kernel
theorem dX10_isUnder_2 : decode cX10_isUnder 2 = .ok (.iload_n 2, 1) := by decide +kernel
theorem dX10_isUnder_3 : decode cX10_isUnder 3 = .ok (.iconst (-1), 1) := by decide +kernel
theorem dX10_isUnder_4 : decode cX10_isUnder 4 = .ok (.if_icmp .eq 16, 3) := by decide +kernel
theorem dX10_isUnder_7 : decode cX10_isUnder 7 = .ok (.iload_n 2, 1) := by decide +kernel
theorem dX10_isUnder_8 : decode cX10_isUnder 8 = .ok (.iload_n 1, 1) := by decide +kernel
theorem dX10_isUnder_9 : decode cX10_isUnder 9 = .ok (.if_icmp .eq 11, 3) := by decide +kernel
theorem dX10_isUnder_12 : decode cX10_isUnder 12 = .ok (.iload_n 2, 1) := by decide +kernel
theorem dX10_isUnder_13 : decode cX10_isUnder 13 = .ok (.invokestatic 338, 3) := by decide +kernel
theorem dX10_isUnder_16 : decode cX10_isUnder 16 = .ok (.istore_n 2, 1) := by decide +kernel
theorem dX10_isUnder_17 : decode cX10_isUnder 17 = .ok (.goto (-15), 3) := by decide +kernel
theorem dX10_isUnder_20 : decode cX10_isUnder 20 = .ok (.iload_n 2, 1) := by decide +kernel
theorem dX10_isUnder_21 : decode cX10_isUnder 21 = .ok (.iload_n 1, 1) := by decide +kernel
theorem dX10_isUnder_22 : decode cX10_isUnder 22 = .ok (.if_icmp .ne 7, 3) := by decide +kernel
theorem dX10_isUnder_25 : decode cX10_isUnder 25 = .ok (.iconst 1, 1) := by decide +kernel
theorem dX10_isUnder_26 : decode cX10_isUnder 26 = .ok (.goto 4, 3) := by decide +kernel
theorem dX10_isUnder_29 : decode cX10_isUnder 29 = .ok (.iconst 0, 1) := by decide +kernel
theorem dX10_isUnder_30 : decode cX10_isUnder 30 = .ok (.ireturn, 1) := by decide +kernel
theorem dX10_two_0 : decode cX10_two 0 = .ok (.aload_n 0, 1) := by decide +kernel
theorem dX10_two_1 : decode cX10_two 1 = .ok (.iload_n 1, 1) := by decide +kernel
theorem dX10_two_2 : decode cX10_two 2 = .ok (.invokevirtual 141, 3) := by decide +kernel
theorem dX10_two_5 : decode cX10_two 5 = .ok (.ifCond .eq 40, 3) := by decide +kernel
theorem dX10_two_8 : decode cX10_two 8 = .ok (.iload_n 2, 1) := by decide +kernel
theorem dX10_two_9 : decode cX10_two 9 = .ok (.i2l, 1) := by decide +kernel
theorem dX10_two_10 : decode cX10_two 10 = .ok (.lconst 0, 1) := by decide +kernel
theorem dX10_two_11 : decode cX10_two 11 = .ok (.ldc2_w 341, 3) := by decide +kernel
theorem dX10_two_14 : decode cX10_two 14 = .ok (.invokestatic 114, 3) := by decide +kernel
theorem dX10_two_17 : decode cX10_two 17 = .ok (.ifCond .eq 28, 3) := by decide +kernel
theorem dX10_two_20 : decode cX10_two 20 = .ok (.iload_n 3, 1) := by decide +kernel
theorem dX10_two_21 : decode cX10_two 21 = .ok (.i2l, 1) := by decide +kernel
theorem dX10_two_22 : decode cX10_two 22 = .ok (.lconst 0, 1) := by decide +kernel
theorem dX10_two_23 : decode cX10_two 23 = .ok (.ldc2_w 341, 3) := by decide +kernel
theorem dX10_two_26 : decode cX10_two 26 = .ok (.invokestatic 114, 3) := by decide +kernel
theorem dX10_two_29 : decode cX10_two 29 = .ok (.ifCond .eq 16, 3) := by decide +kernel
theorem dX10_two_32 : decode cX10_two 32 = .ok (.iload_n 2, 1) := by decide +kernel
theorem dX10_two_33 : decode cX10_two 33 = .ok (.sipush 1000, 3) := by decide +kernel
theorem dX10_two_36 : decode cX10_two 36 = .ok (.idiv, 1) := by decide +kernel
theorem dX10_two_37 : decode cX10_two 37 = .ok (.iload_n 3, 1) := by decide +kernel
theorem dX10_two_38 : decode cX10_two 38 = .ok (.sipush 1000, 3) := by decide +kernel
theorem dX10_two_41 : decode cX10_two 41 = .ok (.idiv, 1) := by decide +kernel
theorem dX10_two_42 : decode cX10_two 42 = .ok (.if_icmp .ne 6, 3) := by decide +kernel
theorem dX10_two_45 : decode cX10_two 45 = .ok (.bipush (-2), 2) := by decide +kernel
theorem dX10_two_47 : decode cX10_two 47 = .ok (.ireturn, 1) := by decide +kernel
theorem dX10_two_48 : decode cX10_two 48 = .ok (.aload_n 0, 1) := by decide +kernel
theorem dX10_two_49 : decode cX10_two 49 = .ok (.getfield 32, 3) := by decide +kernel
theorem dX10_two_52 : decode cX10_two 52 = .ok (.iload_n 1, 1) := by decide +kernel
theorem dX10_two_53 : decode cX10_two 53 = .ok (.iaload, 1) := by decide +kernel
theorem dX10_two_54 : decode cX10_two 54 = .ok (.iconst 3, 1) := by decide +kernel
theorem dX10_two_55 : decode cX10_two 55 = .ok (.invokestatic 343, 3) := by decide +kernel
theorem dX10_two_58 : decode cX10_two 58 = .ok (.ifCond .ne 6, 3) := by decide +kernel
theorem dX10_two_61 : decode cX10_two 61 = .ok (.bipush (-13), 2) := by decide +kernel
theorem dX10_two_63 : decode cX10_two 63 = .ok (.ireturn, 1) := by decide +kernel
theorem dX10_two_64 : decode cX10_two 64 = .ok (.iload_n 2, 1) := by decide +kernel
theorem dX10_two_65 : decode cX10_two 65 = .ok (.sipush 1000, 3) := by decide +kernel
theorem dX10_two_68 : decode cX10_two 68 = .ok (.irem, 1) := by decide +kernel
theorem dX10_two_69 : decode cX10_two 69 = .ok (.iload_n 3, 1) := by decide +kernel
theorem dX10_two_70 : decode cX10_two 70 = .ok (.sipush 1000, 3) := by decide +kernel
theorem dX10_two_73 : decode cX10_two 73 = .ok (.irem, 1) := by decide +kernel
theorem dX10_two_74 : decode cX10_two 74 = .ok (.isub, 1) := by decide +kernel
theorem dX10_two_75 : decode cX10_two 75 = .ok (.istore 4, 2) := by decide +kernel
theorem dX10_two_77 : decode cX10_two 77 = .ok (.iload 4, 2) := by decide +kernel
theorem dX10_two_79 : decode cX10_two 79 = .ok (.ifCond .lt 13, 3) := by decide +kernel
theorem dX10_two_82 : decode cX10_two 82 = .ok (.iload 4, 2) := by decide +kernel
theorem dX10_two_84 : decode cX10_two 84 = .ok (.ifCond .ne 16, 3) := by decide +kernel
theorem dX10_two_87 : decode cX10_two 87 = .ok (.iload_n 2, 1) := by decide +kernel
theorem dX10_two_88 : decode cX10_two 88 = .ok (.iload_n 3, 1) := by decide +kernel
theorem dX10_two_89 : decode cX10_two 89 = .ok (.if_icmp .ge 11, 3) := by decide +kernel
theorem dX10_two_92 : decode cX10_two 92 = .ok (.iload_n 2, 1) := by decide +kernel
theorem dX10_two_93 : decode cX10_two 93 = .ok (.sipush 1000, 3) := by decide +kernel
theorem dX10_two_96 : decode cX10_two 96 = .ok (.idiv, 1) := by decide +kernel
theorem dX10_two_97 : decode cX10_two 97 = .ok (.goto 8, 3) := by decide +kernel
theorem dX10_two_100 : decode cX10_two 100 = .ok (.iload_n 3, 1) := by decide +kernel
theorem dX10_two_101 : decode cX10_two 101 = .ok (.sipush 1000, 3) := by decide +kernel
theorem dX10_two_104 : decode cX10_two 104 = .ok (.idiv, 1) := by decide +kernel
theorem dX10_two_105 : decode cX10_two 105 = .ok (.ireturn, 1) := by decide +kernel
theorem dX10_keeps_0 : decode cX10_keeps 0 = .ok (.aload_n 0, 1) := by decide +kernel
theorem dX10_keeps_1 : decode cX10_keeps 1 = .ok (.iload_n 1, 1) := by decide +kernel
theorem dX10_keeps_2 : decode cX10_keeps 2 = .ok (.iload_n 2, 1) := by decide +kernel
theorem dX10_keeps_3 : decode cX10_keeps 3 = .ok (.iconst 1, 1) := by decide +kernel
theorem dX10_keeps_4 : decode cX10_keeps 4 = .ok (.invokevirtual 164, 3) := by decide +kernel
theorem dX10_keeps_7 : decode cX10_keeps 7 = .ok (.iconst 0, 1) := by decide +kernel
theorem dX10_keeps_8 : decode cX10_keeps 8 = .ok (.istore_n 3, 1) := by decide +kernel
theorem dX10_keeps_9 : decode cX10_keeps 9 = .ok (.iload_n 3, 1) := by decide +kernel
theorem dX10_keeps_10 : decode cX10_keeps 10 = .ok (.bipush 10, 2) := by decide +kernel
theorem dX10_keeps_12 : decode cX10_keeps 12 = .ok (.if_icmp .ge 21, 3) := by decide +kernel
theorem dX10_keeps_15 : decode cX10_keeps 15 = .ok (.aload_n 0, 1) := by decide +kernel
theorem dX10_keeps_16 : decode cX10_keeps 16 = .ok (.getfield 65, 3) := by decide +kernel
theorem dX10_keeps_19 : decode cX10_keeps 19 = .ok (.iload_n 3, 1) := by decide +kernel
theorem dX10_keeps_20 : decode cX10_keeps 20 = .ok (.aload_n 0, 1) := by decide +kernel
theorem dX10_keeps_21 : decode cX10_keeps 21 = .ok (.getfield 59, 3) := by decide +kernel
theorem dX10_keeps_24 : decode cX10_keeps 24 = .ok (.iload_n 3, 1) := by decide +kernel
theorem dX10_keeps_25 : decode cX10_keeps 25 = .ok (.iaload, 1) := by decide +kernel
theorem dX10_keeps_26 : decode cX10_keeps 26 = .ok (.iastore, 1) := by decide +kernel
theorem dX10_keeps_27 : decode cX10_keeps 27 = .ok (.iinc 3 1, 3) := by decide +kernel
theorem dX10_keeps_30 : decode cX10_keeps 30 = .ok (.goto (-21), 3) := by decide +kernel
theorem dX10_keeps_33 : decode cX10_keeps 33 = .ok (.return_, 1) := by decide +kernel
theorem dX10_change_0 : decode cX10_change 0 = .ok (.aload_n 0, 1) := by decide +kernel
theorem dX10_change_1 : decode cX10_change 1 = .ok (.iload_n 1, 1) := by decide +kernel
theorem dX10_change_2 : decode cX10_change 2 = .ok (.iload_n 2, 1) := by decide +kernel
theorem dX10_change_3 : decode cX10_change 3 = .ok (.iconst 1, 1) := by decide +kernel
theorem dX10_change_4 : decode cX10_change 4 = .ok (.invokevirtual 164, 3) := by decide +kernel
theorem dX10_change_7 : decode cX10_change 7 = .ok (.iconst 0, 1) := by decide +kernel
theorem dX10_change_8 : decode cX10_change 8 = .ok (.istore_n 3, 1) := by decide +kernel
theorem dX10_change_9 : decode cX10_change 9 = .ok (.iconst 0, 1) := by decide +kernel
theorem dX10_change_10 : decode cX10_change 10 = .ok (.istore 4, 2) := by decide +kernel
theorem dX10_change_12 : decode cX10_change 12 = .ok (.iload 4, 2) := by decide +kernel
theorem dX10_change_14 : decode cX10_change 14 = .ok (.bipush 10, 2) := by decide +kernel
theorem dX10_change_16 : decode cX10_change 16 = .ok (.if_icmp .ge 62, 3) := by decide +kernel
theorem dX10_change_19 : decode cX10_change 19 = .ok (.iload_n 3, 1) := by decide +kernel
theorem dX10_change_20 : decode cX10_change 20 = .ok (.aload_n 0, 1) := by decide +kernel
theorem dX10_change_21 : decode cX10_change 21 = .ok (.getfield 59, 3) := by decide +kernel
theorem dX10_change_24 : decode cX10_change 24 = .ok (.iload 4, 2) := by decide +kernel
theorem dX10_change_26 : decode cX10_change 26 = .ok (.iaload, 1) := by decide +kernel
theorem dX10_change_27 : decode cX10_change 27 = .ok (.aload_n 0, 1) := by decide +kernel
theorem dX10_change_28 : decode cX10_change 28 = .ok (.getfield 65, 3) := by decide +kernel
theorem dX10_change_31 : decode cX10_change 31 = .ok (.iload 4, 2) := by decide +kernel
theorem dX10_change_33 : decode cX10_change 33 = .ok (.iaload, 1) := by decide +kernel
theorem dX10_change_34 : decode cX10_change 34 = .ok (.if_icmp .ge 21, 3) := by decide +kernel
theorem dX10_change_37 : decode cX10_change 37 = .ok (.aload_n 0, 1) := by decide +kernel
theorem dX10_change_38 : decode cX10_change 38 = .ok (.getfield 65, 3) := by decide +kernel
theorem dX10_change_41 : decode cX10_change 41 = .ok (.iload 4, 2) := by decide +kernel
theorem dX10_change_43 : decode cX10_change 43 = .ok (.iaload, 1) := by decide +kernel
theorem dX10_change_44 : decode cX10_change 44 = .ok (.aload_n 0, 1) := by decide +kernel
theorem dX10_change_45 : decode cX10_change 45 = .ok (.getfield 59, 3) := by decide +kernel
theorem dX10_change_48 : decode cX10_change 48 = .ok (.iload 4, 2) := by decide +kernel
theorem dX10_change_50 : decode cX10_change 50 = .ok (.iaload, 1) := by decide +kernel
theorem dX10_change_51 : decode cX10_change 51 = .ok (.isub, 1) := by decide +kernel
theorem dX10_change_52 : decode cX10_change 52 = .ok (.goto 18, 3) := by decide +kernel
theorem dX10_change_55 : decode cX10_change 55 = .ok (.aload_n 0, 1) := by decide +kernel
theorem dX10_change_56 : decode cX10_change 56 = .ok (.getfield 59, 3) := by decide +kernel
theorem dX10_change_59 : decode cX10_change 59 = .ok (.iload 4, 2) := by decide +kernel
theorem dX10_change_61 : decode cX10_change 61 = .ok (.iaload, 1) := by decide +kernel
theorem dX10_change_62 : decode cX10_change 62 = .ok (.aload_n 0, 1) := by decide +kernel
theorem dX10_change_63 : decode cX10_change 63 = .ok (.getfield 65, 3) := by decide +kernel
theorem dX10_change_66 : decode cX10_change 66 = .ok (.iload 4, 2) := by decide +kernel
theorem dX10_change_68 : decode cX10_change 68 = .ok (.iaload, 1) := by decide +kernel
theorem dX10_change_69 : decode cX10_change 69 = .ok (.isub, 1) := by decide +kernel
theorem dX10_change_70 : decode cX10_change 70 = .ok (.iadd, 1) := by decide +kernel
theorem dX10_change_71 : decode cX10_change 71 = .ok (.istore_n 3, 1) := by decide +kernel
theorem dX10_change_72 : decode cX10_change 72 = .ok (.iinc 4 1, 3) := by decide +kernel
theorem dX10_change_75 : decode cX10_change 75 = .ok (.goto (-63), 3) := by decide +kernel
theorem dX10_change_78 : decode cX10_change 78 = .ok (.iload_n 3, 1) := by decide +kernel
theorem dX10_change_79 : decode cX10_change 79 = .ok (.ireturn, 1) := by decide +kernel
theorem dX10_hangs_0 : decode cX10_hangs 0 = .ok (.aload_n 0, 1) := by decide +kernel
theorem dX10_hangs_1 : decode cX10_hangs 1 = .ok (.iload_n 1, 1) := by decide +kernel
theorem dX10_hangs_2 : decode cX10_hangs 2 = .ok (.invokevirtual 129, 3) := by decide +kernel
theorem dX10_hangs_5 : decode cX10_hangs 5 = .ok (.ifCond .eq 20, 3) := by decide +kernel
theorem dX10_hangs_8 : decode cX10_hangs 8 = .ok (.iload_n 2, 1) := by decide +kernel
theorem dX10_hangs_9 : decode cX10_hangs 9 = .ok (.invokestatic 138, 3) := by decide +kernel
theorem dX10_hangs_12 : decode cX10_hangs 12 = .ok (.ifCond .eq 13, 3) := by decide +kernel
theorem dX10_hangs_15 : decode cX10_hangs 15 = .ok (.iload_n 3, 1) := by decide +kernel
theorem dX10_hangs_16 : decode cX10_hangs 16 = .ok (.i2l, 1) := by decide +kernel
theorem dX10_hangs_17 : decode cX10_hangs 17 = .ok (.lconst 0, 1) := by decide +kernel
theorem dX10_hangs_18 : decode cX10_hangs 18 = .ok (.lconst 1, 1) := by decide +kernel
theorem dX10_hangs_19 : decode cX10_hangs 19 = .ok (.invokestatic 114, 3) := by decide +kernel
theorem dX10_hangs_22 : decode cX10_hangs 22 = .ok (.ifCond .ne 6, 3) := by decide +kernel
theorem dX10_hangs_25 : decode cX10_hangs 25 = .ok (.bipush (-2), 2) := by decide +kernel
theorem dX10_hangs_27 : decode cX10_hangs 27 = .ok (.ireturn, 1) := by decide +kernel
theorem dX10_hangs_28 : decode cX10_hangs 28 = .ok (.aload_n 0, 1) := by decide +kernel
theorem dX10_hangs_29 : decode cX10_hangs 29 = .ok (.iload_n 1, 1) := by decide +kernel
theorem dX10_hangs_30 : decode cX10_hangs 30 = .ok (.iload_n 2, 1) := by decide +kernel
theorem dX10_hangs_31 : decode cX10_hangs 31 = .ok (.invokevirtual 347, 3) := by decide +kernel
theorem dX10_hangs_34 : decode cX10_hangs 34 = .ok (.iconst (-1), 1) := by decide +kernel
theorem dX10_hangs_35 : decode cX10_hangs 35 = .ok (.istore 4, 2) := by decide +kernel
theorem dX10_hangs_37 : decode cX10_hangs 37 = .ok (.iconst 0, 1) := by decide +kernel
theorem dX10_hangs_38 : decode cX10_hangs 38 = .ok (.istore 5, 2) := by decide +kernel
theorem dX10_hangs_40 : decode cX10_hangs 40 = .ok (.iconst 0, 1) := by decide +kernel
theorem dX10_hangs_41 : decode cX10_hangs 41 = .ok (.istore 6, 2) := by decide +kernel
theorem dX10_hangs_43 : decode cX10_hangs 43 = .ok (.iload 6, 2) := by decide +kernel
theorem dX10_hangs_45 : decode cX10_hangs 45 = .ok (.iconst 3, 1) := by decide +kernel
theorem dX10_hangs_46 : decode cX10_hangs 46 = .ok (.if_icmp .ge 73, 3) := by decide +kernel
theorem dX10_hangs_49 : decode cX10_hangs 49 = .ok (.aload_n 0, 1) := by decide +kernel
theorem dX10_hangs_50 : decode cX10_hangs 50 = .ok (.getfield 29, 3) := by decide +kernel
theorem dX10_hangs_53 : decode cX10_hangs 53 = .ok (.iconst 3, 1) := by decide +kernel
theorem dX10_hangs_54 : decode cX10_hangs 54 = .ok (.iload_n 1, 1) := by decide +kernel
theorem dX10_hangs_55 : decode cX10_hangs 55 = .ok (.imul, 1) := by decide +kernel
theorem dX10_hangs_56 : decode cX10_hangs 56 = .ok (.iload 6, 2) := by decide +kernel
theorem dX10_hangs_58 : decode cX10_hangs 58 = .ok (.iadd, 1) := by decide +kernel
theorem dX10_hangs_59 : decode cX10_hangs 59 = .ok (.iaload, 1) := by decide +kernel
theorem dX10_hangs_60 : decode cX10_hangs 60 = .ok (.istore 7, 2) := by decide +kernel
theorem dX10_hangs_62 : decode cX10_hangs 62 = .ok (.aload_n 0, 1) := by decide +kernel
theorem dX10_hangs_63 : decode cX10_hangs 63 = .ok (.getfield 29, 3) := by decide +kernel
theorem dX10_hangs_66 : decode cX10_hangs 66 = .ok (.iconst 3, 1) := by decide +kernel
theorem dX10_hangs_67 : decode cX10_hangs 67 = .ok (.iload_n 1, 1) := by decide +kernel
theorem dX10_hangs_68 : decode cX10_hangs 68 = .ok (.imul, 1) := by decide +kernel
theorem dX10_hangs_69 : decode cX10_hangs 69 = .ok (.iload 6, 2) := by decide +kernel
theorem dX10_hangs_71 : decode cX10_hangs 71 = .ok (.iadd, 1) := by decide +kernel
theorem dX10_hangs_72 : decode cX10_hangs 72 = .ok (.iconst (-1), 1) := by decide +kernel
theorem dX10_hangs_73 : decode cX10_hangs 73 = .ok (.iastore, 1) := by decide +kernel
theorem dX10_hangs_74 : decode cX10_hangs 74 = .ok (.aload_n 0, 1) := by decide +kernel
theorem dX10_hangs_75 : decode cX10_hangs 75 = .ok (.iload_n 1, 1) := by decide +kernel
theorem dX10_hangs_76 : decode cX10_hangs 76 = .ok (.iload_n 2, 1) := by decide +kernel
theorem dX10_hangs_77 : decode cX10_hangs 77 = .ok (.invokevirtual 351, 3) := by decide +kernel
theorem dX10_hangs_80 : decode cX10_hangs 80 = .ok (.istore 8, 2) := by decide +kernel
theorem dX10_hangs_82 : decode cX10_hangs 82 = .ok (.aload_n 0, 1) := by decide +kernel
theorem dX10_hangs_83 : decode cX10_hangs 83 = .ok (.getfield 29, 3) := by decide +kernel
theorem dX10_hangs_86 : decode cX10_hangs 86 = .ok (.iconst 3, 1) := by decide +kernel
theorem dX10_hangs_87 : decode cX10_hangs 87 = .ok (.iload_n 1, 1) := by decide +kernel
theorem dX10_hangs_88 : decode cX10_hangs 88 = .ok (.imul, 1) := by decide +kernel
theorem dX10_hangs_89 : decode cX10_hangs 89 = .ok (.iload 6, 2) := by decide +kernel
theorem dX10_hangs_91 : decode cX10_hangs 91 = .ok (.iadd, 1) := by decide +kernel
theorem dX10_hangs_92 : decode cX10_hangs 92 = .ok (.iload 7, 2) := by decide +kernel
theorem dX10_hangs_94 : decode cX10_hangs 94 = .ok (.iastore, 1) := by decide +kernel
theorem dX10_hangs_95 : decode cX10_hangs 95 = .ok (.iload 8, 2) := by decide +kernel
theorem dX10_hangs_97 : decode cX10_hangs 97 = .ok (.iload 5, 2) := by decide +kernel
theorem dX10_hangs_99 : decode cX10_hangs 99 = .ok (.if_icmp .gt 6, 3) := by decide +kernel
theorem dX10_hangs_102 : decode cX10_hangs 102 = .ok (.goto 11, 3) := by decide +kernel
theorem dX10_hangs_105 : decode cX10_hangs 105 = .ok (.iload 8, 2) := by decide +kernel
theorem dX10_hangs_107 : decode cX10_hangs 107 = .ok (.istore 5, 2) := by decide +kernel
theorem dX10_hangs_109 : decode cX10_hangs 109 = .ok (.iload 6, 2) := by decide +kernel
theorem dX10_hangs_111 : decode cX10_hangs 111 = .ok (.istore 4, 2) := by decide +kernel
theorem dX10_hangs_113 : decode cX10_hangs 113 = .ok (.iinc 6 1, 3) := by decide +kernel
theorem dX10_hangs_116 : decode cX10_hangs 116 = .ok (.goto (-73), 3) := by decide +kernel
theorem dX10_hangs_119 : decode cX10_hangs 119 = .ok (.iconst 0, 1) := by decide +kernel
theorem dX10_hangs_120 : decode cX10_hangs 120 = .ok (.istore 6, 2) := by decide +kernel
theorem dX10_hangs_122 : decode cX10_hangs 122 = .ok (.iload 6, 2) := by decide +kernel
theorem dX10_hangs_124 : decode cX10_hangs 124 = .ok (.aload_n 0, 1) := by decide +kernel
theorem dX10_hangs_125 : decode cX10_hangs 125 = .ok (.getfield 118, 3) := by decide +kernel
theorem dX10_hangs_128 : decode cX10_hangs 128 = .ok (.if_icmp .ge 78, 3) := by decide +kernel
theorem dX10_hangs_131 : decode cX10_hangs 131 = .ok (.aload_n 0, 1) := by decide +kernel
theorem dX10_hangs_132 : decode cX10_hangs 132 = .ok (.getfield 35, 3) := by decide +kernel
theorem dX10_hangs_135 : decode cX10_hangs 135 = .ok (.iload 6, 2) := by decide +kernel
theorem dX10_hangs_137 : decode cX10_hangs 137 = .ok (.iaload, 1) := by decide +kernel
theorem dX10_hangs_138 : decode cX10_hangs 138 = .ok (.iload_n 1, 1) := by decide +kernel
theorem dX10_hangs_139 : decode cX10_hangs 139 = .ok (.if_icmp .eq 6, 3) := by decide +kernel
theorem dX10_hangs_142 : decode cX10_hangs 142 = .ok (.goto 58, 3) := by decide +kernel
theorem dX10_hangs_145 : decode cX10_hangs 145 = .ok (.aload_n 0, 1) := by decide +kernel
theorem dX10_hangs_146 : decode cX10_hangs 146 = .ok (.getfield 53, 3) := by decide +kernel
theorem dX10_hangs_149 : decode cX10_hangs 149 = .ok (.iload 6, 2) := by decide +kernel
theorem dX10_hangs_151 : decode cX10_hangs 151 = .ok (.iaload, 1) := by decide +kernel
theorem dX10_hangs_152 : decode cX10_hangs 152 = .ok (.istore 7, 2) := by decide +kernel
theorem dX10_hangs_154 : decode cX10_hangs 154 = .ok (.aload_n 0, 1) := by decide +kernel
theorem dX10_hangs_155 : decode cX10_hangs 155 = .ok (.getfield 53, 3) := by decide +kernel
theorem dX10_hangs_158 : decode cX10_hangs 158 = .ok (.iload 6, 2) := by decide +kernel
theorem dX10_hangs_160 : decode cX10_hangs 160 = .ok (.iconst (-1), 1) := by decide +kernel
theorem dX10_hangs_161 : decode cX10_hangs 161 = .ok (.iastore, 1) := by decide +kernel
theorem dX10_hangs_162 : decode cX10_hangs 162 = .ok (.aload_n 0, 1) := by decide +kernel
theorem dX10_hangs_163 : decode cX10_hangs 163 = .ok (.iload_n 1, 1) := by decide +kernel
theorem dX10_hangs_164 : decode cX10_hangs 164 = .ok (.iload_n 2, 1) := by decide +kernel
theorem dX10_hangs_165 : decode cX10_hangs 165 = .ok (.invokevirtual 351, 3) := by decide +kernel
theorem dX10_hangs_168 : decode cX10_hangs 168 = .ok (.istore 8, 2) := by decide +kernel
theorem dX10_hangs_170 : decode cX10_hangs 170 = .ok (.aload_n 0, 1) := by decide +kernel
theorem dX10_hangs_171 : decode cX10_hangs 171 = .ok (.getfield 53, 3) := by decide +kernel
theorem dX10_hangs_174 : decode cX10_hangs 174 = .ok (.iload 6, 2) := by decide +kernel
theorem dX10_hangs_176 : decode cX10_hangs 176 = .ok (.iload 7, 2) := by decide +kernel
theorem dX10_hangs_178 : decode cX10_hangs 178 = .ok (.iastore, 1) := by decide +kernel
theorem dX10_hangs_179 : decode cX10_hangs 179 = .ok (.iload 8, 2) := by decide +kernel
theorem dX10_hangs_181 : decode cX10_hangs 181 = .ok (.iload 5, 2) := by decide +kernel
theorem dX10_hangs_183 : decode cX10_hangs 183 = .ok (.if_icmp .gt 6, 3) := by decide +kernel
theorem dX10_hangs_186 : decode cX10_hangs 186 = .ok (.goto 14, 3) := by decide +kernel
theorem dX10_hangs_189 : decode cX10_hangs 189 = .ok (.iload 8, 2) := by decide +kernel
theorem dX10_hangs_191 : decode cX10_hangs 191 = .ok (.istore 5, 2) := by decide +kernel
theorem dX10_hangs_193 : decode cX10_hangs 193 = .ok (.bipush 10, 2) := by decide +kernel
theorem dX10_hangs_195 : decode cX10_hangs 195 = .ok (.iload 6, 2) := by decide +kernel
theorem dX10_hangs_197 : decode cX10_hangs 197 = .ok (.iadd, 1) := by decide +kernel
theorem dX10_hangs_198 : decode cX10_hangs 198 = .ok (.istore 4, 2) := by decide +kernel
theorem dX10_hangs_200 : decode cX10_hangs 200 = .ok (.iinc 6 1, 3) := by decide +kernel
theorem dX10_hangs_203 : decode cX10_hangs 203 = .ok (.goto (-81), 3) := by decide +kernel
theorem dX10_hangs_206 : decode cX10_hangs 206 = .ok (.iload 4, 2) := by decide +kernel
theorem dX10_hangs_208 : decode cX10_hangs 208 = .ok (.iconst (-1), 1) := by decide +kernel
theorem dX10_hangs_209 : decode cX10_hangs 209 = .ok (.if_icmp .eq 7, 3) := by decide +kernel
theorem dX10_hangs_212 : decode cX10_hangs 212 = .ok (.iload_n 3, 1) := by decide +kernel
theorem dX10_hangs_213 : decode cX10_hangs 213 = .ok (.ifCond .ne 8, 3) := by decide +kernel
theorem dX10_hangs_216 : decode cX10_hangs 216 = .ok (.iload 4, 2) := by decide +kernel
theorem dX10_hangs_218 : decode cX10_hangs 218 = .ok (.goto 5, 3) := by decide +kernel
theorem dX10_hangs_221 : decode cX10_hangs 221 = .ok (.iload 5, 2) := by decide +kernel
theorem dX10_hangs_223 : decode cX10_hangs 223 = .ok (.ireturn, 1) := by decide +kernel
theorem dX10_moves_0 : decode cX10_moves 0 = .ok (.aload_n 0, 1) := by decide +kernel
theorem dX10_moves_1 : decode cX10_moves 1 = .ok (.iload_n 1, 1) := by decide +kernel
theorem dX10_moves_2 : decode cX10_moves 2 = .ok (.invokevirtual 141, 3) := by decide +kernel
theorem dX10_moves_5 : decode cX10_moves 5 = .ok (.ifCond .eq 22, 3) := by decide +kernel
theorem dX10_moves_8 : decode cX10_moves 8 = .ok (.iload_n 2, 1) := by decide +kernel
theorem dX10_moves_9 : decode cX10_moves 9 = .ok (.i2l, 1) := by decide +kernel
theorem dX10_moves_10 : decode cX10_moves 10 = .ok (.lconst 0, 1) := by decide +kernel
theorem dX10_moves_11 : decode cX10_moves 11 = .ok (.ldc2_w 354, 3) := by decide +kernel
theorem dX10_moves_14 : decode cX10_moves 14 = .ok (.invokestatic 114, 3) := by decide +kernel
theorem dX10_moves_17 : decode cX10_moves 17 = .ok (.ifCond .eq 10, 3) := by decide +kernel
theorem dX10_moves_20 : decode cX10_moves 20 = .ok (.iload_n 3, 1) := by decide +kernel
theorem dX10_moves_21 : decode cX10_moves 21 = .ok (.invokestatic 138, 3) := by decide +kernel
theorem dX10_moves_24 : decode cX10_moves 24 = .ok (.ifCond .ne 7, 3) := by decide +kernel
theorem dX10_moves_27 : decode cX10_moves 27 = .ok (.ldc2_w 168, 3) := by decide +kernel
theorem dX10_moves_30 : decode cX10_moves 30 = .ok (.lreturn, 1) := by decide +kernel
theorem dX10_moves_31 : decode cX10_moves 31 = .ok (.aload_n 0, 1) := by decide +kernel
theorem dX10_moves_32 : decode cX10_moves 32 = .ok (.aload_n 0, 1) := by decide +kernel
theorem dX10_moves_33 : decode cX10_moves 33 = .ok (.getfield 35, 3) := by decide +kernel
theorem dX10_moves_36 : decode cX10_moves 36 = .ok (.iload_n 1, 1) := by decide +kernel
theorem dX10_moves_37 : decode cX10_moves 37 = .ok (.iaload, 1) := by decide +kernel
theorem dX10_moves_38 : decode cX10_moves 38 = .ok (.iload_n 3, 1) := by decide +kernel
theorem dX10_moves_39 : decode cX10_moves 39 = .ok (.iconst 1, 1) := by decide +kernel
theorem dX10_moves_40 : decode cX10_moves 40 = .ok (.invokevirtual 164, 3) := by decide +kernel
theorem dX10_moves_43 : decode cX10_moves 43 = .ok (.aload_n 0, 1) := by decide +kernel
theorem dX10_moves_44 : decode cX10_moves 44 = .ok (.getfield 59, 3) := by decide +kernel
theorem dX10_moves_47 : decode cX10_moves 47 = .ok (.iload_n 2, 1) := by decide +kernel
theorem dX10_moves_48 : decode cX10_moves 48 = .ok (.bipush 10, 2) := by decide +kernel
theorem dX10_moves_50 : decode cX10_moves 50 = .ok (.irem, 1) := by decide +kernel
theorem dX10_moves_51 : decode cX10_moves 51 = .ok (.iaload, 1) := by decide +kernel
theorem dX10_moves_52 : decode cX10_moves 52 = .ok (.istore 4, 2) := by decide +kernel
theorem dX10_moves_54 : decode cX10_moves 54 = .ok (.aload_n 0, 1) := by decide +kernel
theorem dX10_moves_55 : decode cX10_moves 55 = .ok (.getfield 32, 3) := by decide +kernel
theorem dX10_moves_58 : decode cX10_moves 58 = .ok (.iload_n 1, 1) := by decide +kernel
theorem dX10_moves_59 : decode cX10_moves 59 = .ok (.iaload, 1) := by decide +kernel
theorem dX10_moves_60 : decode cX10_moves 60 = .ok (.istore 5, 2) := by decide +kernel
theorem dX10_moves_62 : decode cX10_moves 62 = .ok (.aload_n 0, 1) := by decide +kernel
theorem dX10_moves_63 : decode cX10_moves 63 = .ok (.getfield 32, 3) := by decide +kernel
theorem dX10_moves_66 : decode cX10_moves 66 = .ok (.iload_n 1, 1) := by decide +kernel
theorem dX10_moves_67 : decode cX10_moves 67 = .ok (.iload_n 2, 1) := by decide +kernel
theorem dX10_moves_68 : decode cX10_moves 68 = .ok (.bipush 10, 2) := by decide +kernel
theorem dX10_moves_70 : decode cX10_moves 70 = .ok (.idiv, 1) := by decide +kernel
theorem dX10_moves_71 : decode cX10_moves 71 = .ok (.iastore, 1) := by decide +kernel
theorem dX10_moves_72 : decode cX10_moves 72 = .ok (.aload_n 0, 1) := by decide +kernel
theorem dX10_moves_73 : decode cX10_moves 73 = .ok (.aload_n 0, 1) := by decide +kernel
theorem dX10_moves_74 : decode cX10_moves 74 = .ok (.getfield 35, 3) := by decide +kernel
theorem dX10_moves_77 : decode cX10_moves 77 = .ok (.iload_n 1, 1) := by decide +kernel
theorem dX10_moves_78 : decode cX10_moves 78 = .ok (.iaload, 1) := by decide +kernel
theorem dX10_moves_79 : decode cX10_moves 79 = .ok (.iload_n 3, 1) := by decide +kernel
theorem dX10_moves_80 : decode cX10_moves 80 = .ok (.iconst 1, 1) := by decide +kernel
theorem dX10_moves_81 : decode cX10_moves 81 = .ok (.invokevirtual 164, 3) := by decide +kernel
theorem dX10_moves_84 : decode cX10_moves 84 = .ok (.aload_n 0, 1) := by decide +kernel
theorem dX10_moves_85 : decode cX10_moves 85 = .ok (.getfield 32, 3) := by decide +kernel
theorem dX10_moves_88 : decode cX10_moves 88 = .ok (.iload_n 1, 1) := by decide +kernel
theorem dX10_moves_89 : decode cX10_moves 89 = .ok (.iload 5, 2) := by decide +kernel
theorem dX10_moves_91 : decode cX10_moves 91 = .ok (.iastore, 1) := by decide +kernel
theorem dX10_moves_92 : decode cX10_moves 92 = .ok (.aload_n 0, 1) := by decide +kernel
theorem dX10_moves_93 : decode cX10_moves 93 = .ok (.getfield 59, 3) := by decide +kernel
theorem dX10_moves_96 : decode cX10_moves 96 = .ok (.iload_n 2, 1) := by decide +kernel
theorem dX10_moves_97 : decode cX10_moves 97 = .ok (.bipush 10, 2) := by decide +kernel
theorem dX10_moves_99 : decode cX10_moves 99 = .ok (.irem, 1) := by decide +kernel
theorem dX10_moves_100 : decode cX10_moves 100 = .ok (.iaload, 1) := by decide +kernel
theorem dX10_moves_101 : decode cX10_moves 101 = .ok (.iload 4, 2) := by decide +kernel
theorem dX10_moves_103 : decode cX10_moves 103 = .ok (.isub, 1) := by decide +kernel
theorem dX10_moves_104 : decode cX10_moves 104 = .ok (.i2l, 1) := by decide +kernel
theorem dX10_moves_105 : decode cX10_moves 105 = .ok (.lreturn, 1) := by decide +kernel
theorem dX10_telegraph_0 : decode cX10_telegraph 0 = .ok (.aload_n 0, 1) := by decide +kernel
theorem dX10_telegraph_1 : decode cX10_telegraph 1 = .ok (.iload_n 1, 1) := by decide +kernel
theorem dX10_telegraph_2 : decode cX10_telegraph 2 = .ok (.invokevirtual 129, 3) := by decide +kernel
theorem dX10_telegraph_5 : decode cX10_telegraph 5 = .ok (.ifCond .eq 10, 3) := by decide +kernel
theorem dX10_telegraph_8 : decode cX10_telegraph 8 = .ok (.iload_n 2, 1) := by decide +kernel
theorem dX10_telegraph_9 : decode cX10_telegraph 9 = .ok (.invokestatic 138, 3) := by decide +kernel
theorem dX10_telegraph_12 : decode cX10_telegraph 12 = .ok (.ifCond .ne 6, 3) := by decide +kernel
theorem dX10_telegraph_15 : decode cX10_telegraph 15 = .ok (.bipush (-2), 2) := by decide +kernel
theorem dX10_telegraph_17 : decode cX10_telegraph 17 = .ok (.ireturn, 1) := by decide +kernel
theorem dX10_telegraph_18 : decode cX10_telegraph 18 = .ok (.aload_n 0, 1) := by decide +kernel
theorem dX10_telegraph_19 : decode cX10_telegraph 19 = .ok (.iload_n 1, 1) := by decide +kernel
theorem dX10_telegraph_20 : decode cX10_telegraph 20 = .ok (.iload_n 2, 1) := by decide +kernel
theorem dX10_telegraph_21 : decode cX10_telegraph 21 = .ok (.iconst 1, 1) := by decide +kernel
theorem dX10_telegraph_22 : decode cX10_telegraph 22 = .ok (.invokevirtual 164, 3) := by decide +kernel
theorem dX10_telegraph_25 : decode cX10_telegraph 25 = .ok (.iconst 0, 1) := by decide +kernel
theorem dX10_telegraph_26 : decode cX10_telegraph 26 = .ok (.istore_n 3, 1) := by decide +kernel
theorem dX10_telegraph_27 : decode cX10_telegraph 27 = .ok (.iconst 0, 1) := by decide +kernel
theorem dX10_telegraph_28 : decode cX10_telegraph 28 = .ok (.istore 4, 2) := by decide +kernel
theorem dX10_telegraph_30 : decode cX10_telegraph 30 = .ok (.iload 4, 2) := by decide +kernel
theorem dX10_telegraph_32 : decode cX10_telegraph 32 = .ok (.aload_n 0, 1) := by decide +kernel
theorem dX10_telegraph_33 : decode cX10_telegraph 33 = .ok (.getfield 118, 3) := by decide +kernel
theorem dX10_telegraph_36 : decode cX10_telegraph 36 = .ok (.if_icmp .ge 57, 3) := by decide +kernel
theorem dX10_telegraph_39 : decode cX10_telegraph 39 = .ok (.iload_n 3, 1) := by decide +kernel
theorem dX10_telegraph_40 : decode cX10_telegraph 40 = .ok (.aload_n 0, 1) := by decide +kernel
theorem dX10_telegraph_41 : decode cX10_telegraph 41 = .ok (.getfield 35, 3) := by decide +kernel
theorem dX10_telegraph_44 : decode cX10_telegraph 44 = .ok (.iload 4, 2) := by decide +kernel
theorem dX10_telegraph_46 : decode cX10_telegraph 46 = .ok (.iaload, 1) := by decide +kernel
theorem dX10_telegraph_47 : decode cX10_telegraph 47 = .ok (.iload_n 1, 1) := by decide +kernel
theorem dX10_telegraph_48 : decode cX10_telegraph 48 = .ok (.if_icmp .ne 36, 3) := by decide +kernel
theorem dX10_telegraph_51 : decode cX10_telegraph 51 = .ok (.aload_n 0, 1) := by decide +kernel
theorem dX10_telegraph_52 : decode cX10_telegraph 52 = .ok (.getfield 50, 3) := by decide +kernel
theorem dX10_telegraph_55 : decode cX10_telegraph 55 = .ok (.iload 4, 2) := by decide +kernel
theorem dX10_telegraph_57 : decode cX10_telegraph 57 = .ok (.iaload, 1) := by decide +kernel
theorem dX10_telegraph_58 : decode cX10_telegraph 58 = .ok (.iload_n 2, 1) := by decide +kernel
theorem dX10_telegraph_59 : decode cX10_telegraph 59 = .ok (.if_icmp .le 25, 3) := by decide +kernel
theorem dX10_telegraph_62 : decode cX10_telegraph 62 = .ok (.aload_n 0, 1) := by decide +kernel
theorem dX10_telegraph_63 : decode cX10_telegraph 63 = .ok (.getfield 59, 3) := by decide +kernel
theorem dX10_telegraph_66 : decode cX10_telegraph 66 = .ok (.aload_n 0, 1) := by decide +kernel
theorem dX10_telegraph_67 : decode cX10_telegraph 67 = .ok (.getfield 38, 3) := by decide +kernel
theorem dX10_telegraph_70 : decode cX10_telegraph 70 = .ok (.iload 4, 2) := by decide +kernel
theorem dX10_telegraph_72 : decode cX10_telegraph 72 = .ok (.iaload, 1) := by decide +kernel
theorem dX10_telegraph_73 : decode cX10_telegraph 73 = .ok (.iaload, 1) := by decide +kernel
theorem dX10_telegraph_74 : decode cX10_telegraph 74 = .ok (.ifCond .le 10, 3) := by decide +kernel
theorem dX10_telegraph_77 : decode cX10_telegraph 77 = .ok (.iconst 1, 1) := by decide +kernel
theorem dX10_telegraph_78 : decode cX10_telegraph 78 = .ok (.iload 4, 2) := by decide +kernel
theorem dX10_telegraph_80 : decode cX10_telegraph 80 = .ok (.ishl, 1) := by decide +kernel
theorem dX10_telegraph_81 : decode cX10_telegraph 81 = .ok (.goto 4, 3) := by decide +kernel
theorem dX10_telegraph_84 : decode cX10_telegraph 84 = .ok (.iconst 0, 1) := by decide +kernel
theorem dX10_telegraph_85 : decode cX10_telegraph 85 = .ok (.ior, 1) := by decide +kernel
theorem dX10_telegraph_86 : decode cX10_telegraph 86 = .ok (.istore_n 3, 1) := by decide +kernel
theorem dX10_telegraph_87 : decode cX10_telegraph 87 = .ok (.iinc 4 1, 3) := by decide +kernel
theorem dX10_telegraph_90 : decode cX10_telegraph 90 = .ok (.goto (-60), 3) := by decide +kernel
theorem dX10_telegraph_93 : decode cX10_telegraph 93 = .ok (.iload_n 3, 1) := by decide +kernel
theorem dX10_telegraph_94 : decode cX10_telegraph 94 = .ok (.ireturn, 1) := by decide +kernel
theorem dX10_image_0 : decode cX10_image 0 = .ok (.aload_n 0, 1) := by decide +kernel
theorem dX10_image_1 : decode cX10_image 1 = .ok (.iconst 1, 1) := by decide +kernel
theorem dX10_image_2 : decode cX10_image 2 = .ok (.putfield 356, 3) := by decide +kernel
theorem dX10_image_5 : decode cX10_image 5 = .ok (.aload_n 0, 1) := by decide +kernel
theorem dX10_image_6 : decode cX10_image 6 = .ok (.aload_n 0, 1) := by decide +kernel
theorem dX10_image_7 : decode cX10_image 7 = .ok (.getfield 111, 3) := by decide +kernel
theorem dX10_image_10 : decode cX10_image 10 = .ok (.putfield 359, 3) := by decide +kernel
theorem dX10_image_13 : decode cX10_image 13 = .ok (.aload_n 0, 1) := by decide +kernel
theorem dX10_image_14 : decode cX10_image 14 = .ok (.aload_n 0, 1) := by decide +kernel
theorem dX10_image_15 : decode cX10_image 15 = .ok (.getfield 118, 3) := by decide +kernel
theorem dX10_image_18 : decode cX10_image 18 = .ok (.putfield 362, 3) := by decide +kernel
theorem dX10_image_21 : decode cX10_image 21 = .ok (.aload_n 0, 1) := by decide +kernel
theorem dX10_image_22 : decode cX10_image 22 = .ok (.aload_n 0, 1) := by decide +kernel
theorem dX10_image_23 : decode cX10_image 23 = .ok (.getfield 309, 3) := by decide +kernel
theorem dX10_image_26 : decode cX10_image 26 = .ok (.putfield 365, 3) := by decide +kernel
theorem dX10_image_29 : decode cX10_image 29 = .ok (.iconst 0, 1) := by decide +kernel
theorem dX10_image_30 : decode cX10_image 30 = .ok (.istore_n 1, 1) := by decide +kernel
theorem dX10_image_31 : decode cX10_image 31 = .ok (.iload_n 1, 1) := by decide +kernel
theorem dX10_image_32 : decode cX10_image 32 = .ok (.iconst 3, 1) := by decide +kernel
theorem dX10_image_33 : decode cX10_image 33 = .ok (.aload_n 0, 1) := by decide +kernel
theorem dX10_image_34 : decode cX10_image 34 = .ok (.getfield 111, 3) := by decide +kernel
theorem dX10_image_37 : decode cX10_image 37 = .ok (.imul, 1) := by decide +kernel
theorem dX10_image_38 : decode cX10_image 38 = .ok (.if_icmp .ge 21, 3) := by decide +kernel
theorem dX10_image_41 : decode cX10_image 41 = .ok (.aload_n 0, 1) := by decide +kernel
theorem dX10_image_42 : decode cX10_image 42 = .ok (.getfield 68, 3) := by decide +kernel
theorem dX10_image_45 : decode cX10_image 45 = .ok (.iload_n 1, 1) := by decide +kernel
theorem dX10_image_46 : decode cX10_image 46 = .ok (.aload_n 0, 1) := by decide +kernel
theorem dX10_image_47 : decode cX10_image 47 = .ok (.getfield 29, 3) := by decide +kernel
theorem dX10_image_50 : decode cX10_image 50 = .ok (.iload_n 1, 1) := by decide +kernel
theorem dX10_image_51 : decode cX10_image 51 = .ok (.iaload, 1) := by decide +kernel
theorem dX10_image_52 : decode cX10_image 52 = .ok (.iastore, 1) := by decide +kernel
theorem dX10_image_53 : decode cX10_image 53 = .ok (.iinc 1 1, 3) := by decide +kernel
theorem dX10_image_56 : decode cX10_image 56 = .ok (.goto (-25), 3) := by decide +kernel
theorem dX10_image_59 : decode cX10_image 59 = .ok (.iconst 0, 1) := by decide +kernel
theorem dX10_image_60 : decode cX10_image 60 = .ok (.istore_n 1, 1) := by decide +kernel
theorem dX10_image_61 : decode cX10_image 61 = .ok (.iload_n 1, 1) := by decide +kernel
theorem dX10_image_62 : decode cX10_image 62 = .ok (.aload_n 0, 1) := by decide +kernel
theorem dX10_image_63 : decode cX10_image 63 = .ok (.getfield 118, 3) := by decide +kernel
theorem dX10_image_66 : decode cX10_image 66 = .ok (.if_icmp .ge 33, 3) := by decide +kernel
theorem dX10_image_69 : decode cX10_image 69 = .ok (.aload_n 0, 1) := by decide +kernel
theorem dX10_image_70 : decode cX10_image 70 = .ok (.getfield 71, 3) := by decide +kernel
theorem dX10_image_73 : decode cX10_image 73 = .ok (.iload_n 1, 1) := by decide +kernel
theorem dX10_image_74 : decode cX10_image 74 = .ok (.aload_n 0, 1) := by decide +kernel
theorem dX10_image_75 : decode cX10_image 75 = .ok (.getfield 53, 3) := by decide +kernel
theorem dX10_image_78 : decode cX10_image 78 = .ok (.iload_n 1, 1) := by decide +kernel
theorem dX10_image_79 : decode cX10_image 79 = .ok (.iaload, 1) := by decide +kernel
theorem dX10_image_80 : decode cX10_image 80 = .ok (.iastore, 1) := by decide +kernel
theorem dX10_image_81 : decode cX10_image 81 = .ok (.aload_n 0, 1) := by decide +kernel
theorem dX10_image_82 : decode cX10_image 82 = .ok (.getfield 74, 3) := by decide +kernel
theorem dX10_image_85 : decode cX10_image 85 = .ok (.iload_n 1, 1) := by decide +kernel
theorem dX10_image_86 : decode cX10_image 86 = .ok (.aload_n 0, 1) := by decide +kernel
theorem dX10_image_87 : decode cX10_image 87 = .ok (.getfield 56, 3) := by decide +kernel
theorem dX10_image_90 : decode cX10_image 90 = .ok (.iload_n 1, 1) := by decide +kernel
theorem dX10_image_91 : decode cX10_image 91 = .ok (.iaload, 1) := by decide +kernel
theorem dX10_image_92 : decode cX10_image 92 = .ok (.iastore, 1) := by decide +kernel
theorem dX10_image_93 : decode cX10_image 93 = .ok (.iinc 1 1, 3) := by decide +kernel
theorem dX10_image_96 : decode cX10_image 96 = .ok (.goto (-35), 3) := by decide +kernel
theorem dX10_image_99 : decode cX10_image 99 = .ok (.aload_n 0, 1) := by decide +kernel
theorem dX10_image_100 : decode cX10_image 100 = .ok (.getfield 118, 3) := by decide +kernel
theorem dX10_image_103 : decode cX10_image 103 = .ok (.ireturn, 1) := by decide +kernel
theorem dX10_back_0 : decode cX10_back 0 = .ok (.aload_n 0, 1) := by decide +kernel
theorem dX10_back_1 : decode cX10_back 1 = .ok (.getfield 356, 3) := by decide +kernel
theorem dX10_back_4 : decode cX10_back 4 = .ok (.ifCond .ne 6, 3) := by decide +kernel
theorem dX10_back_7 : decode cX10_back 7 = .ok (.bipush (-3), 2) := by decide +kernel
theorem dX10_back_9 : decode cX10_back 9 = .ok (.ireturn, 1) := by decide +kernel
theorem dX10_back_10 : decode cX10_back 10 = .ok (.aload_n 0, 1) := by decide +kernel
theorem dX10_back_11 : decode cX10_back 11 = .ok (.aload_n 0, 1) := by decide +kernel
theorem dX10_back_12 : decode cX10_back 12 = .ok (.getfield 365, 3) := by decide +kernel
theorem dX10_back_15 : decode cX10_back 15 = .ok (.putfield 309, 3) := by decide +kernel
theorem dX10_back_18 : decode cX10_back 18 = .ok (.iconst 0, 1) := by decide +kernel
theorem dX10_back_19 : decode cX10_back 19 = .ok (.istore_n 1, 1) := by decide +kernel
theorem dX10_back_20 : decode cX10_back 20 = .ok (.iload_n 1, 1) := by decide +kernel
theorem dX10_back_21 : decode cX10_back 21 = .ok (.iconst 3, 1) := by decide +kernel
theorem dX10_back_22 : decode cX10_back 22 = .ok (.aload_n 0, 1) := by decide +kernel
theorem dX10_back_23 : decode cX10_back 23 = .ok (.getfield 359, 3) := by decide +kernel
theorem dX10_back_26 : decode cX10_back 26 = .ok (.imul, 1) := by decide +kernel
theorem dX10_back_27 : decode cX10_back 27 = .ok (.if_icmp .ge 21, 3) := by decide +kernel
theorem dX10_back_30 : decode cX10_back 30 = .ok (.aload_n 0, 1) := by decide +kernel
theorem dX10_back_31 : decode cX10_back 31 = .ok (.getfield 29, 3) := by decide +kernel
theorem dX10_back_34 : decode cX10_back 34 = .ok (.iload_n 1, 1) := by decide +kernel
theorem dX10_back_35 : decode cX10_back 35 = .ok (.aload_n 0, 1) := by decide +kernel
theorem dX10_back_36 : decode cX10_back 36 = .ok (.getfield 68, 3) := by decide +kernel
theorem dX10_back_39 : decode cX10_back 39 = .ok (.iload_n 1, 1) := by decide +kernel
theorem dX10_back_40 : decode cX10_back 40 = .ok (.iaload, 1) := by decide +kernel
theorem dX10_back_41 : decode cX10_back 41 = .ok (.iastore, 1) := by decide +kernel
theorem dX10_back_42 : decode cX10_back 42 = .ok (.iinc 1 1, 3) := by decide +kernel
theorem dX10_back_45 : decode cX10_back 45 = .ok (.goto (-25), 3) := by decide +kernel
theorem dX10_back_48 : decode cX10_back 48 = .ok (.iconst 0, 1) := by decide +kernel
theorem dX10_back_49 : decode cX10_back 49 = .ok (.istore_n 1, 1) := by decide +kernel
theorem dX10_back_50 : decode cX10_back 50 = .ok (.iload_n 1, 1) := by decide +kernel
theorem dX10_back_51 : decode cX10_back 51 = .ok (.aload_n 0, 1) := by decide +kernel
theorem dX10_back_52 : decode cX10_back 52 = .ok (.getfield 362, 3) := by decide +kernel
theorem dX10_back_55 : decode cX10_back 55 = .ok (.if_icmp .ge 33, 3) := by decide +kernel
theorem dX10_back_58 : decode cX10_back 58 = .ok (.aload_n 0, 1) := by decide +kernel
theorem dX10_back_59 : decode cX10_back 59 = .ok (.getfield 53, 3) := by decide +kernel
theorem dX10_back_62 : decode cX10_back 62 = .ok (.iload_n 1, 1) := by decide +kernel
theorem dX10_back_63 : decode cX10_back 63 = .ok (.aload_n 0, 1) := by decide +kernel
theorem dX10_back_64 : decode cX10_back 64 = .ok (.getfield 71, 3) := by decide +kernel
theorem dX10_back_67 : decode cX10_back 67 = .ok (.iload_n 1, 1) := by decide +kernel
theorem dX10_back_68 : decode cX10_back 68 = .ok (.iaload, 1) := by decide +kernel
theorem dX10_back_69 : decode cX10_back 69 = .ok (.iastore, 1) := by decide +kernel
theorem dX10_back_70 : decode cX10_back 70 = .ok (.aload_n 0, 1) := by decide +kernel
theorem dX10_back_71 : decode cX10_back 71 = .ok (.getfield 56, 3) := by decide +kernel
theorem dX10_back_74 : decode cX10_back 74 = .ok (.iload_n 1, 1) := by decide +kernel
theorem dX10_back_75 : decode cX10_back 75 = .ok (.aload_n 0, 1) := by decide +kernel
theorem dX10_back_76 : decode cX10_back 76 = .ok (.getfield 74, 3) := by decide +kernel
theorem dX10_back_79 : decode cX10_back 79 = .ok (.iload_n 1, 1) := by decide +kernel
theorem dX10_back_80 : decode cX10_back 80 = .ok (.iaload, 1) := by decide +kernel
theorem dX10_back_81 : decode cX10_back 81 = .ok (.iastore, 1) := by decide +kernel
theorem dX10_back_82 : decode cX10_back 82 = .ok (.iinc 1 1, 3) := by decide +kernel
theorem dX10_back_85 : decode cX10_back 85 = .ok (.goto (-35), 3) := by decide +kernel
theorem dX10_back_88 : decode cX10_back 88 = .ok (.aload_n 0, 1) := by decide +kernel
theorem dX10_back_89 : decode cX10_back 89 = .ok (.getfield 118, 3) := by decide +kernel
theorem dX10_back_92 : decode cX10_back 92 = .ok (.ireturn, 1) := by decide +kernel
theorem dX10_count_0 : decode cX10_count 0 = .ok (.iconst 0, 1) := by decide +kernel
theorem dX10_count_1 : decode cX10_count 1 = .ok (.istore_n 2, 1) := by decide +kernel
theorem dX10_count_2 : decode cX10_count 2 = .ok (.iload_n 1, 1) := by decide +kernel
theorem dX10_count_3 : decode cX10_count 3 = .ok (.tableswitch 129 0 6 #[41, 46, 51, 56, 61, 66, 102], 41) := by decide +kernel
theorem dX10_count_44 : decode cX10_count 44 = .ok (.aload_n 0, 1) := by decide +kernel
theorem dX10_count_45 : decode cX10_count 45 = .ok (.getfield 111, 3) := by decide +kernel
theorem dX10_count_48 : decode cX10_count 48 = .ok (.ireturn, 1) := by decide +kernel
theorem dX10_count_49 : decode cX10_count 49 = .ok (.aload_n 0, 1) := by decide +kernel
theorem dX10_count_50 : decode cX10_count 50 = .ok (.getfield 118, 3) := by decide +kernel
theorem dX10_count_53 : decode cX10_count 53 = .ok (.ireturn, 1) := by decide +kernel
theorem dX10_count_54 : decode cX10_count 54 = .ok (.aload_n 0, 1) := by decide +kernel
theorem dX10_count_55 : decode cX10_count 55 = .ok (.getfield 106, 3) := by decide +kernel
theorem dX10_count_58 : decode cX10_count 58 = .ok (.ireturn, 1) := by decide +kernel
theorem dX10_count_59 : decode cX10_count 59 = .ok (.aload_n 0, 1) := by decide +kernel
theorem dX10_count_60 : decode cX10_count 60 = .ok (.getfield 176, 3) := by decide +kernel
theorem dX10_count_63 : decode cX10_count 63 = .ok (.ireturn, 1) := by decide +kernel
theorem dX10_count_64 : decode cX10_count 64 = .ok (.aload_n 0, 1) := by decide +kernel
theorem dX10_count_65 : decode cX10_count 65 = .ok (.getfield 309, 3) := by decide +kernel
theorem dX10_count_68 : decode cX10_count 68 = .ok (.ireturn, 1) := by decide +kernel
theorem dX10_count_69 : decode cX10_count 69 = .ok (.iconst 0, 1) := by decide +kernel
theorem dX10_count_70 : decode cX10_count 70 = .ok (.istore_n 3, 1) := by decide +kernel
theorem dX10_count_71 : decode cX10_count 71 = .ok (.iload_n 3, 1) := by decide +kernel
theorem dX10_count_72 : decode cX10_count 72 = .ok (.aload_n 0, 1) := by decide +kernel
theorem dX10_count_73 : decode cX10_count 73 = .ok (.getfield 118, 3) := by decide +kernel
theorem dX10_count_76 : decode cX10_count 76 = .ok (.if_icmp .ge 27, 3) := by decide +kernel
theorem dX10_count_79 : decode cX10_count 79 = .ok (.iload_n 2, 1) := by decide +kernel
theorem dX10_count_80 : decode cX10_count 80 = .ok (.aload_n 0, 1) := by decide +kernel
theorem dX10_count_81 : decode cX10_count 81 = .ok (.getfield 53, 3) := by decide +kernel
theorem dX10_count_84 : decode cX10_count 84 = .ok (.iload_n 3, 1) := by decide +kernel
theorem dX10_count_85 : decode cX10_count 85 = .ok (.iaload, 1) := by decide +kernel
theorem dX10_count_86 : decode cX10_count 86 = .ok (.iconst (-1), 1) := by decide +kernel
theorem dX10_count_87 : decode cX10_count 87 = .ok (.if_icmp .eq 7, 3) := by decide +kernel
theorem dX10_count_90 : decode cX10_count 90 = .ok (.iconst 1, 1) := by decide +kernel
theorem dX10_count_91 : decode cX10_count 91 = .ok (.goto 4, 3) := by decide +kernel
theorem dX10_count_94 : decode cX10_count 94 = .ok (.iconst 0, 1) := by decide +kernel
theorem dX10_count_95 : decode cX10_count 95 = .ok (.iadd, 1) := by decide +kernel
theorem dX10_count_96 : decode cX10_count 96 = .ok (.istore_n 2, 1) := by decide +kernel
theorem dX10_count_97 : decode cX10_count 97 = .ok (.iinc 3 1, 3) := by decide +kernel
theorem dX10_count_100 : decode cX10_count 100 = .ok (.goto (-29), 3) := by decide +kernel
theorem dX10_count_103 : decode cX10_count 103 = .ok (.iload_n 2, 1) := by decide +kernel
theorem dX10_count_104 : decode cX10_count 104 = .ok (.ireturn, 1) := by decide +kernel
theorem dX10_count_105 : decode cX10_count 105 = .ok (.iconst 0, 1) := by decide +kernel
theorem dX10_count_106 : decode cX10_count 106 = .ok (.istore_n 3, 1) := by decide +kernel
theorem dX10_count_107 : decode cX10_count 107 = .ok (.iload_n 3, 1) := by decide +kernel
theorem dX10_count_108 : decode cX10_count 108 = .ok (.aload_n 0, 1) := by decide +kernel
theorem dX10_count_109 : decode cX10_count 109 = .ok (.getfield 118, 3) := by decide +kernel
theorem dX10_count_112 : decode cX10_count 112 = .ok (.if_icmp .ge 18, 3) := by decide +kernel
theorem dX10_count_115 : decode cX10_count 115 = .ok (.iload_n 2, 1) := by decide +kernel
theorem dX10_count_116 : decode cX10_count 116 = .ok (.aload_n 0, 1) := by decide +kernel
theorem dX10_count_117 : decode cX10_count 117 = .ok (.getfield 56, 3) := by decide +kernel
theorem dX10_count_120 : decode cX10_count 120 = .ok (.iload_n 3, 1) := by decide +kernel
theorem dX10_count_121 : decode cX10_count 121 = .ok (.iaload, 1) := by decide +kernel
theorem dX10_count_122 : decode cX10_count 122 = .ok (.iadd, 1) := by decide +kernel
theorem dX10_count_123 : decode cX10_count 123 = .ok (.istore_n 2, 1) := by decide +kernel
theorem dX10_count_124 : decode cX10_count 124 = .ok (.iinc 3 1, 3) := by decide +kernel
theorem dX10_count_127 : decode cX10_count 127 = .ok (.goto (-20), 3) := by decide +kernel
theorem dX10_count_130 : decode cX10_count 130 = .ok (.iload_n 2, 1) := by decide +kernel
theorem dX10_count_131 : decode cX10_count 131 = .ok (.ireturn, 1) := by decide +kernel
theorem dX10_count_132 : decode cX10_count 132 = .ok (.bipush (-2), 2) := by decide +kernel
theorem dX10_count_134 : decode cX10_count 134 = .ok (.ireturn, 1) := by decide +kernel
theorem dX10_isSheet_0 : decode cX10_isSheet 0 = .ok (.iload_n 0, 1) := by decide +kernel
theorem dX10_isSheet_1 : decode cX10_isSheet 1 = .ok (.i2l, 1) := by decide +kernel
theorem dX10_isSheet_2 : decode cX10_isSheet 2 = .ok (.lconst 0, 1) := by decide +kernel
theorem dX10_isSheet_3 : decode cX10_isSheet 3 = .ok (.ldc2_w 368, 3) := by decide +kernel
theorem dX10_isSheet_6 : decode cX10_isSheet 6 = .ok (.invokestatic 114, 3) := by decide +kernel
theorem dX10_isSheet_9 : decode cX10_isSheet 9 = .ok (.ireturn, 1) := by decide +kernel
theorem dX10_sheet_0 : decode cX10_sheet 0 = .ok (.iload_n 1, 1) := by decide +kernel
theorem dX10_sheet_1 : decode cX10_sheet 1 = .ok (.invokestatic 370, 3) := by decide +kernel
theorem dX10_sheet_4 : decode cX10_sheet 4 = .ok (.ifCond .eq 27, 3) := by decide +kernel
theorem dX10_sheet_7 : decode cX10_sheet 7 = .ok (.iload_n 2, 1) := by decide +kernel
theorem dX10_sheet_8 : decode cX10_sheet 8 = .ok (.i2l, 1) := by decide +kernel
theorem dX10_sheet_9 : decode cX10_sheet 9 = .ok (.ldc2_w 134, 3) := by decide +kernel
theorem dX10_sheet_12 : decode cX10_sheet 12 = .ok (.ldc2_w 132, 3) := by decide +kernel
theorem dX10_sheet_15 : decode cX10_sheet 15 = .ok (.invokestatic 114, 3) := by decide +kernel
theorem dX10_sheet_18 : decode cX10_sheet 18 = .ok (.ifCond .eq 13, 3) := by decide +kernel
theorem dX10_sheet_21 : decode cX10_sheet 21 = .ok (.iload_n 2, 1) := by decide +kernel
theorem dX10_sheet_22 : decode cX10_sheet 22 = .ok (.ifCond .lt 12, 3) := by decide +kernel
theorem dX10_sheet_25 : decode cX10_sheet 25 = .ok (.iload_n 3, 1) := by decide +kernel
theorem dX10_sheet_26 : decode cX10_sheet 26 = .ok (.bipush 40, 2) := by decide +kernel
theorem dX10_sheet_28 : decode cX10_sheet 28 = .ok (.if_icmp .le 6, 3) := by decide +kernel
theorem dX10_sheet_31 : decode cX10_sheet 31 = .ok (.bipush (-2), 2) := by decide +kernel
theorem dX10_sheet_33 : decode cX10_sheet 33 = .ok (.ireturn, 1) := by decide +kernel
theorem dX10_sheet_34 : decode cX10_sheet 34 = .ok (.iload_n 2, 1) := by decide +kernel
theorem dX10_sheet_35 : decode cX10_sheet 35 = .ok (.ifCond .lt 10, 3) := by decide +kernel
theorem dX10_sheet_38 : decode cX10_sheet 38 = .ok (.iload_n 3, 1) := by decide +kernel
theorem dX10_sheet_39 : decode cX10_sheet 39 = .ok (.ifCond .ge 6, 3) := by decide +kernel
theorem dX10_sheet_42 : decode cX10_sheet 42 = .ok (.bipush (-14), 2) := by decide +kernel
theorem dX10_sheet_44 : decode cX10_sheet 44 = .ok (.ireturn, 1) := by decide +kernel
theorem dX10_sheet_45 : decode cX10_sheet 45 = .ok (.aload_n 0, 1) := by decide +kernel
theorem dX10_sheet_46 : decode cX10_sheet 46 = .ok (.getfield 77, 3) := by decide +kernel
theorem dX10_sheet_49 : decode cX10_sheet 49 = .ok (.iload_n 1, 1) := by decide +kernel
theorem dX10_sheet_50 : decode cX10_sheet 50 = .ok (.iload_n 2, 1) := by decide +kernel
theorem dX10_sheet_51 : decode cX10_sheet 51 = .ok (.ifCond .lt 7, 3) := by decide +kernel
theorem dX10_sheet_54 : decode cX10_sheet 54 = .ok (.iconst 1, 1) := by decide +kernel
theorem dX10_sheet_55 : decode cX10_sheet 55 = .ok (.goto 4, 3) := by decide +kernel
theorem dX10_sheet_58 : decode cX10_sheet 58 = .ok (.iconst 0, 1) := by decide +kernel
theorem dX10_sheet_59 : decode cX10_sheet 59 = .ok (.bastore, 1) := by decide +kernel
theorem dX10_sheet_60 : decode cX10_sheet 60 = .ok (.aload_n 0, 1) := by decide +kernel
theorem dX10_sheet_61 : decode cX10_sheet 61 = .ok (.getfield 81, 3) := by decide +kernel
theorem dX10_sheet_64 : decode cX10_sheet 64 = .ok (.iload_n 1, 1) := by decide +kernel
theorem dX10_sheet_65 : decode cX10_sheet 65 = .ok (.iload_n 2, 1) := by decide +kernel
theorem dX10_sheet_66 : decode cX10_sheet 66 = .ok (.iastore, 1) := by decide +kernel
theorem dX10_sheet_67 : decode cX10_sheet 67 = .ok (.aload_n 0, 1) := by decide +kernel
theorem dX10_sheet_68 : decode cX10_sheet 68 = .ok (.getfield 84, 3) := by decide +kernel
theorem dX10_sheet_71 : decode cX10_sheet 71 = .ok (.iload_n 1, 1) := by decide +kernel
theorem dX10_sheet_72 : decode cX10_sheet 72 = .ok (.iload_n 3, 1) := by decide +kernel
theorem dX10_sheet_73 : decode cX10_sheet 73 = .ok (.iastore, 1) := by decide +kernel
theorem dX10_sheet_74 : decode cX10_sheet 74 = .ok (.iconst 0, 1) := by decide +kernel
theorem dX10_sheet_75 : decode cX10_sheet 75 = .ok (.istore 4, 2) := by decide +kernel
theorem dX10_sheet_77 : decode cX10_sheet 77 = .ok (.iload 4, 2) := by decide +kernel
theorem dX10_sheet_79 : decode cX10_sheet 79 = .ok (.iload_n 3, 1) := by decide +kernel
theorem dX10_sheet_80 : decode cX10_sheet 80 = .ok (.if_icmp .ge 26, 3) := by decide +kernel
theorem dX10_sheet_83 : decode cX10_sheet 83 = .ok (.iload_n 2, 1) := by decide +kernel
theorem dX10_sheet_84 : decode cX10_sheet 84 = .ok (.ifCond .lt 22, 3) := by decide +kernel
theorem dX10_sheet_87 : decode cX10_sheet 87 = .ok (.aload_n 0, 1) := by decide +kernel
theorem dX10_sheet_88 : decode cX10_sheet 88 = .ok (.getfield 87, 3) := by decide +kernel
theorem dX10_sheet_91 : decode cX10_sheet 91 = .ok (.bipush 40, 2) := by decide +kernel
theorem dX10_sheet_93 : decode cX10_sheet 93 = .ok (.iload_n 1, 1) := by decide +kernel
theorem dX10_sheet_94 : decode cX10_sheet 94 = .ok (.imul, 1) := by decide +kernel
theorem dX10_sheet_95 : decode cX10_sheet 95 = .ok (.iload 4, 2) := by decide +kernel
theorem dX10_sheet_97 : decode cX10_sheet 97 = .ok (.iadd, 1) := by decide +kernel
theorem dX10_sheet_98 : decode cX10_sheet 98 = .ok (.iconst 0, 1) := by decide +kernel
theorem dX10_sheet_99 : decode cX10_sheet 99 = .ok (.iastore, 1) := by decide +kernel
theorem dX10_sheet_100 : decode cX10_sheet 100 = .ok (.iinc 4 1, 3) := by decide +kernel
theorem dX10_sheet_103 : decode cX10_sheet 103 = .ok (.goto (-26), 3) := by decide +kernel
theorem dX10_sheet_106 : decode cX10_sheet 106 = .ok (.iconst 1, 1) := by decide +kernel
theorem dX10_sheet_107 : decode cX10_sheet 107 = .ok (.ireturn, 1) := by decide +kernel
theorem dX10_cell_0 : decode cX10_cell 0 = .ok (.iload_n 1, 1) := by decide +kernel
theorem dX10_cell_1 : decode cX10_cell 1 = .ok (.invokestatic 370, 3) := by decide +kernel
theorem dX10_cell_4 : decode cX10_cell 4 = .ok (.ifCond .ne 6, 3) := by decide +kernel
theorem dX10_cell_7 : decode cX10_cell 7 = .ok (.bipush (-2), 2) := by decide +kernel
theorem dX10_cell_9 : decode cX10_cell 9 = .ok (.ireturn, 1) := by decide +kernel
theorem dX10_cell_10 : decode cX10_cell 10 = .ok (.aload_n 0, 1) := by decide +kernel
theorem dX10_cell_11 : decode cX10_cell 11 = .ok (.getfield 77, 3) := by decide +kernel
theorem dX10_cell_14 : decode cX10_cell 14 = .ok (.iload_n 1, 1) := by decide +kernel
theorem dX10_cell_15 : decode cX10_cell 15 = .ok (.baload, 1) := by decide +kernel
theorem dX10_cell_16 : decode cX10_cell 16 = .ok (.ifCond .ne 6, 3) := by decide +kernel
theorem dX10_cell_19 : decode cX10_cell 19 = .ok (.bipush (-11), 2) := by decide +kernel
theorem dX10_cell_21 : decode cX10_cell 21 = .ok (.ireturn, 1) := by decide +kernel
theorem dX10_cell_22 : decode cX10_cell 22 = .ok (.iload_n 2, 1) := by decide +kernel
theorem dX10_cell_23 : decode cX10_cell 23 = .ok (.i2l, 1) := by decide +kernel
theorem dX10_cell_24 : decode cX10_cell 24 = .ok (.lconst 0, 1) := by decide +kernel
theorem dX10_cell_25 : decode cX10_cell 25 = .ok (.aload_n 0, 1) := by decide +kernel
theorem dX10_cell_26 : decode cX10_cell 26 = .ok (.getfield 84, 3) := by decide +kernel
theorem dX10_cell_29 : decode cX10_cell 29 = .ok (.iload_n 1, 1) := by decide +kernel
theorem dX10_cell_30 : decode cX10_cell 30 = .ok (.iaload, 1) := by decide +kernel
theorem dX10_cell_31 : decode cX10_cell 31 = .ok (.iconst 1, 1) := by decide +kernel
theorem dX10_cell_32 : decode cX10_cell 32 = .ok (.isub, 1) := by decide +kernel
theorem dX10_cell_33 : decode cX10_cell 33 = .ok (.i2l, 1) := by decide +kernel
theorem dX10_cell_34 : decode cX10_cell 34 = .ok (.invokestatic 114, 3) := by decide +kernel
theorem dX10_cell_37 : decode cX10_cell 37 = .ok (.ifCond .ne 6, 3) := by decide +kernel
theorem dX10_cell_40 : decode cX10_cell 40 = .ok (.bipush (-12), 2) := by decide +kernel
theorem dX10_cell_42 : decode cX10_cell 42 = .ok (.ireturn, 1) := by decide +kernel
theorem dX10_cell_43 : decode cX10_cell 43 = .ok (.aload_n 0, 1) := by decide +kernel
theorem dX10_cell_44 : decode cX10_cell 44 = .ok (.getfield 87, 3) := by decide +kernel
theorem dX10_cell_47 : decode cX10_cell 47 = .ok (.bipush 40, 2) := by decide +kernel
theorem dX10_cell_49 : decode cX10_cell 49 = .ok (.iload_n 1, 1) := by decide +kernel
theorem dX10_cell_50 : decode cX10_cell 50 = .ok (.imul, 1) := by decide +kernel
theorem dX10_cell_51 : decode cX10_cell 51 = .ok (.iload_n 2, 1) := by decide +kernel
theorem dX10_cell_52 : decode cX10_cell 52 = .ok (.iadd, 1) := by decide +kernel
theorem dX10_cell_53 : decode cX10_cell 53 = .ok (.aload_n 0, 1) := by decide +kernel
theorem dX10_cell_54 : decode cX10_cell 54 = .ok (.getfield 81, 3) := by decide +kernel
theorem dX10_cell_57 : decode cX10_cell 57 = .ok (.iload_n 1, 1) := by decide +kernel
theorem dX10_cell_58 : decode cX10_cell 58 = .ok (.iaload, 1) := by decide +kernel
theorem dX10_cell_59 : decode cX10_cell 59 = .ok (.ifCond .ne 8, 3) := by decide +kernel
theorem dX10_cell_62 : decode cX10_cell 62 = .ok (.iload_n 3, 1) := by decide +kernel
theorem dX10_cell_63 : decode cX10_cell 63 = .ok (.i2b, 1) := by decide +kernel
theorem dX10_cell_64 : decode cX10_cell 64 = .ok (.goto 19, 3) := by decide +kernel
theorem dX10_cell_67 : decode cX10_cell 67 = .ok (.aload_n 0, 1) := by decide +kernel
theorem dX10_cell_68 : decode cX10_cell 68 = .ok (.getfield 81, 3) := by decide +kernel
theorem dX10_cell_71 : decode cX10_cell 71 = .ok (.iload_n 1, 1) := by decide +kernel
theorem dX10_cell_72 : decode cX10_cell 72 = .ok (.iaload, 1) := by decide +kernel
theorem dX10_cell_73 : decode cX10_cell 73 = .ok (.iconst 1, 1) := by decide +kernel
theorem dX10_cell_74 : decode cX10_cell 74 = .ok (.if_icmp .ne 8, 3) := by decide +kernel
theorem dX10_cell_77 : decode cX10_cell 77 = .ok (.iload_n 3, 1) := by decide +kernel
theorem dX10_cell_78 : decode cX10_cell 78 = .ok (.i2s, 1) := by decide +kernel
theorem dX10_cell_79 : decode cX10_cell 79 = .ok (.goto 4, 3) := by decide +kernel
theorem dX10_cell_82 : decode cX10_cell 82 = .ok (.iload_n 3, 1) := by decide +kernel
theorem dX10_cell_83 : decode cX10_cell 83 = .ok (.iastore, 1) := by decide +kernel
theorem dX10_cell_84 : decode cX10_cell 84 = .ok (.iconst 1, 1) := by decide +kernel
theorem dX10_cell_85 : decode cX10_cell 85 = .ok (.ireturn, 1) := by decide +kernel
theorem dX10_copy_0 : decode cX10_copy 0 = .ok (.iload_n 1, 1) := by decide +kernel
theorem dX10_copy_1 : decode cX10_copy 1 = .ok (.invokestatic 370, 3) := by decide +kernel
theorem dX10_copy_4 : decode cX10_copy 4 = .ok (.ifCond .eq 10, 3) := by decide +kernel
theorem dX10_copy_7 : decode cX10_copy 7 = .ok (.iload_n 3, 1) := by decide +kernel
theorem dX10_copy_8 : decode cX10_copy 8 = .ok (.invokestatic 370, 3) := by decide +kernel
theorem dX10_copy_11 : decode cX10_copy 11 = .ok (.ifCond .ne 6, 3) := by decide +kernel
theorem dX10_copy_14 : decode cX10_copy 14 = .ok (.bipush (-2), 2) := by decide +kernel
theorem dX10_copy_16 : decode cX10_copy 16 = .ok (.ireturn, 1) := by decide +kernel
theorem dX10_copy_17 : decode cX10_copy 17 = .ok (.aload_n 0, 1) := by decide +kernel
theorem dX10_copy_18 : decode cX10_copy 18 = .ok (.getfield 77, 3) := by decide +kernel
theorem dX10_copy_21 : decode cX10_copy 21 = .ok (.iload_n 1, 1) := by decide +kernel
theorem dX10_copy_22 : decode cX10_copy 22 = .ok (.baload, 1) := by decide +kernel
theorem dX10_copy_23 : decode cX10_copy 23 = .ok (.ifCond .eq 12, 3) := by decide +kernel
theorem dX10_copy_26 : decode cX10_copy 26 = .ok (.aload_n 0, 1) := by decide +kernel
theorem dX10_copy_27 : decode cX10_copy 27 = .ok (.getfield 77, 3) := by decide +kernel
theorem dX10_copy_30 : decode cX10_copy 30 = .ok (.iload_n 3, 1) := by decide +kernel
theorem dX10_copy_31 : decode cX10_copy 31 = .ok (.baload, 1) := by decide +kernel
theorem dX10_copy_32 : decode cX10_copy 32 = .ok (.ifCond .ne 6, 3) := by decide +kernel
theorem dX10_copy_35 : decode cX10_copy 35 = .ok (.bipush (-11), 2) := by decide +kernel
theorem dX10_copy_37 : decode cX10_copy 37 = .ok (.ireturn, 1) := by decide +kernel
theorem dX10_copy_38 : decode cX10_copy 38 = .ok (.aload_n 0, 1) := by decide +kernel
theorem dX10_copy_39 : decode cX10_copy 39 = .ok (.getfield 81, 3) := by decide +kernel
theorem dX10_copy_42 : decode cX10_copy 42 = .ok (.iload_n 1, 1) := by decide +kernel
theorem dX10_copy_43 : decode cX10_copy 43 = .ok (.iaload, 1) := by decide +kernel
theorem dX10_copy_44 : decode cX10_copy 44 = .ok (.aload_n 0, 1) := by decide +kernel
theorem dX10_copy_45 : decode cX10_copy 45 = .ok (.getfield 81, 3) := by decide +kernel
theorem dX10_copy_48 : decode cX10_copy 48 = .ok (.iload_n 3, 1) := by decide +kernel
theorem dX10_copy_49 : decode cX10_copy 49 = .ok (.iaload, 1) := by decide +kernel
theorem dX10_copy_50 : decode cX10_copy 50 = .ok (.if_icmp .eq 6, 3) := by decide +kernel
theorem dX10_copy_53 : decode cX10_copy 53 = .ok (.bipush (-13), 2) := by decide +kernel
theorem dX10_copy_55 : decode cX10_copy 55 = .ok (.ireturn, 1) := by decide +kernel
theorem dX10_copy_56 : decode cX10_copy 56 = .ok (.iload 5, 2) := by decide +kernel
theorem dX10_copy_58 : decode cX10_copy 58 = .ok (.ifCond .lt 39, 3) := by decide +kernel
theorem dX10_copy_61 : decode cX10_copy 61 = .ok (.iload_n 2, 1) := by decide +kernel
theorem dX10_copy_62 : decode cX10_copy 62 = .ok (.ifCond .lt 35, 3) := by decide +kernel
theorem dX10_copy_65 : decode cX10_copy 65 = .ok (.iload 4, 2) := by decide +kernel
theorem dX10_copy_67 : decode cX10_copy 67 = .ok (.ifCond .lt 30, 3) := by decide +kernel
theorem dX10_copy_70 : decode cX10_copy 70 = .ok (.iload_n 2, 1) := by decide +kernel
theorem dX10_copy_71 : decode cX10_copy 71 = .ok (.aload_n 0, 1) := by decide +kernel
theorem dX10_copy_72 : decode cX10_copy 72 = .ok (.getfield 84, 3) := by decide +kernel
theorem dX10_copy_75 : decode cX10_copy 75 = .ok (.iload_n 1, 1) := by decide +kernel
theorem dX10_copy_76 : decode cX10_copy 76 = .ok (.iaload, 1) := by decide +kernel
theorem dX10_copy_77 : decode cX10_copy 77 = .ok (.iload 5, 2) := by decide +kernel
theorem dX10_copy_79 : decode cX10_copy 79 = .ok (.isub, 1) := by decide +kernel
theorem dX10_copy_80 : decode cX10_copy 80 = .ok (.if_icmp .gt 17, 3) := by decide +kernel
theorem dX10_copy_83 : decode cX10_copy 83 = .ok (.iload 4, 2) := by decide +kernel
theorem dX10_copy_85 : decode cX10_copy 85 = .ok (.aload_n 0, 1) := by decide +kernel
theorem dX10_copy_86 : decode cX10_copy 86 = .ok (.getfield 84, 3) := by decide +kernel
theorem dX10_copy_89 : decode cX10_copy 89 = .ok (.iload_n 3, 1) := by decide +kernel
theorem dX10_copy_90 : decode cX10_copy 90 = .ok (.iaload, 1) := by decide +kernel
theorem dX10_copy_91 : decode cX10_copy 91 = .ok (.iload 5, 2) := by decide +kernel
theorem dX10_copy_93 : decode cX10_copy 93 = .ok (.isub, 1) := by decide +kernel
theorem dX10_copy_94 : decode cX10_copy 94 = .ok (.if_icmp .le 6, 3) := by decide +kernel
theorem dX10_copy_97 : decode cX10_copy 97 = .ok (.bipush (-12), 2) := by decide +kernel
theorem dX10_copy_99 : decode cX10_copy 99 = .ok (.ireturn, 1) := by decide +kernel
theorem dX10_copy_100 : decode cX10_copy 100 = .ok (.iload_n 1, 1) := by decide +kernel
theorem dX10_copy_101 : decode cX10_copy 101 = .ok (.iload_n 3, 1) := by decide +kernel
theorem dX10_copy_102 : decode cX10_copy 102 = .ok (.if_icmp .ne 13, 3) := by decide +kernel
theorem dX10_copy_105 : decode cX10_copy 105 = .ok (.iload_n 2, 1) := by decide +kernel
theorem dX10_copy_106 : decode cX10_copy 106 = .ok (.iload 4, 2) := by decide +kernel
theorem dX10_copy_108 : decode cX10_copy 108 = .ok (.if_icmp .ge 7, 3) := by decide +kernel
theorem dX10_copy_111 : decode cX10_copy 111 = .ok (.iconst 1, 1) := by decide +kernel
theorem dX10_copy_112 : decode cX10_copy 112 = .ok (.goto 4, 3) := by decide +kernel
theorem dX10_copy_115 : decode cX10_copy 115 = .ok (.iconst 0, 1) := by decide +kernel
theorem dX10_copy_116 : decode cX10_copy 116 = .ok (.istore 6, 2) := by decide +kernel
theorem dX10_copy_118 : decode cX10_copy 118 = .ok (.iconst 0, 1) := by decide +kernel
theorem dX10_copy_119 : decode cX10_copy 119 = .ok (.istore 7, 2) := by decide +kernel
theorem dX10_copy_121 : decode cX10_copy 121 = .ok (.iload 7, 2) := by decide +kernel
theorem dX10_copy_123 : decode cX10_copy 123 = .ok (.iload 5, 2) := by decide +kernel
theorem dX10_copy_125 : decode cX10_copy 125 = .ok (.if_icmp .ge 57, 3) := by decide +kernel
theorem dX10_copy_128 : decode cX10_copy 128 = .ok (.iload 6, 2) := by decide +kernel
theorem dX10_copy_130 : decode cX10_copy 130 = .ok (.ifCond .eq 13, 3) := by decide +kernel
theorem dX10_copy_133 : decode cX10_copy 133 = .ok (.iload 5, 2) := by decide +kernel
theorem dX10_copy_135 : decode cX10_copy 135 = .ok (.iconst 1, 1) := by decide +kernel
theorem dX10_copy_136 : decode cX10_copy 136 = .ok (.isub, 1) := by decide +kernel
theorem dX10_copy_137 : decode cX10_copy 137 = .ok (.iload 7, 2) := by decide +kernel
theorem dX10_copy_139 : decode cX10_copy 139 = .ok (.isub, 1) := by decide +kernel
theorem dX10_copy_140 : decode cX10_copy 140 = .ok (.goto 5, 3) := by decide +kernel
theorem dX10_copy_143 : decode cX10_copy 143 = .ok (.iload 7, 2) := by decide +kernel
theorem dX10_copy_145 : decode cX10_copy 145 = .ok (.istore 8, 2) := by decide +kernel
theorem dX10_copy_147 : decode cX10_copy 147 = .ok (.aload_n 0, 1) := by decide +kernel
theorem dX10_copy_148 : decode cX10_copy 148 = .ok (.getfield 87, 3) := by decide +kernel
theorem dX10_copy_151 : decode cX10_copy 151 = .ok (.bipush 40, 2) := by decide +kernel
theorem dX10_copy_153 : decode cX10_copy 153 = .ok (.iload_n 3, 1) := by decide +kernel
theorem dX10_copy_154 : decode cX10_copy 154 = .ok (.imul, 1) := by decide +kernel
theorem dX10_copy_155 : decode cX10_copy 155 = .ok (.iload 4, 2) := by decide +kernel
theorem dX10_copy_157 : decode cX10_copy 157 = .ok (.iadd, 1) := by decide +kernel
theorem dX10_copy_158 : decode cX10_copy 158 = .ok (.iload 8, 2) := by decide +kernel
theorem dX10_copy_160 : decode cX10_copy 160 = .ok (.iadd, 1) := by decide +kernel
theorem dX10_copy_161 : decode cX10_copy 161 = .ok (.aload_n 0, 1) := by decide +kernel
theorem dX10_copy_162 : decode cX10_copy 162 = .ok (.getfield 87, 3) := by decide +kernel
theorem dX10_copy_165 : decode cX10_copy 165 = .ok (.bipush 40, 2) := by decide +kernel
theorem dX10_copy_167 : decode cX10_copy 167 = .ok (.iload_n 1, 1) := by decide +kernel
theorem dX10_copy_168 : decode cX10_copy 168 = .ok (.imul, 1) := by decide +kernel
theorem dX10_copy_169 : decode cX10_copy 169 = .ok (.iload_n 2, 1) := by decide +kernel
theorem dX10_copy_170 : decode cX10_copy 170 = .ok (.iadd, 1) := by decide +kernel
theorem dX10_copy_171 : decode cX10_copy 171 = .ok (.iload 8, 2) := by decide +kernel
theorem dX10_copy_173 : decode cX10_copy 173 = .ok (.iadd, 1) := by decide +kernel
theorem dX10_copy_174 : decode cX10_copy 174 = .ok (.iaload, 1) := by decide +kernel
theorem dX10_copy_175 : decode cX10_copy 175 = .ok (.iastore, 1) := by decide +kernel
theorem dX10_copy_176 : decode cX10_copy 176 = .ok (.iinc 7 1, 3) := by decide +kernel
theorem dX10_copy_179 : decode cX10_copy 179 = .ok (.goto (-58), 3) := by decide +kernel
theorem dX10_copy_182 : decode cX10_copy 182 = .ok (.iload 5, 2) := by decide +kernel
theorem dX10_copy_184 : decode cX10_copy 184 = .ok (.ireturn, 1) := by decide +kernel
theorem dX10_sales_0 : decode cX10_sales 0 = .ok (.iload_n 1, 1) := by decide +kernel
theorem dX10_sales_1 : decode cX10_sales 1 = .ok (.invokestatic 370, 3) := by decide +kernel
theorem dX10_sales_4 : decode cX10_sales 4 = .ok (.ifCond .eq 28, 3) := by decide +kernel
theorem dX10_sales_7 : decode cX10_sales 7 = .ok (.iload_n 2, 1) := by decide +kernel
theorem dX10_sales_8 : decode cX10_sales 8 = .ok (.i2l, 1) := by decide +kernel
theorem dX10_sales_9 : decode cX10_sales 9 = .ok (.lconst 0, 1) := by decide +kernel
theorem dX10_sales_10 : decode cX10_sales 10 = .ok (.ldc2_w 132, 3) := by decide +kernel
theorem dX10_sales_13 : decode cX10_sales 13 = .ok (.invokestatic 114, 3) := by decide +kernel
theorem dX10_sales_16 : decode cX10_sales 16 = .ok (.ifCond .eq 16, 3) := by decide +kernel
theorem dX10_sales_19 : decode cX10_sales 19 = .ok (.iload 4, 2) := by decide +kernel
theorem dX10_sales_21 : decode cX10_sales 21 = .ok (.i2l, 1) := by decide +kernel
theorem dX10_sales_22 : decode cX10_sales 22 = .ok (.lconst 0, 1) := by decide +kernel
theorem dX10_sales_23 : decode cX10_sales 23 = .ok (.ldc2_w 174, 3) := by decide +kernel
theorem dX10_sales_26 : decode cX10_sales 26 = .ok (.invokestatic 114, 3) := by decide +kernel
theorem dX10_sales_29 : decode cX10_sales 29 = .ok (.ifCond .ne 6, 3) := by decide +kernel
theorem dX10_sales_32 : decode cX10_sales 32 = .ok (.bipush (-2), 2) := by decide +kernel
theorem dX10_sales_34 : decode cX10_sales 34 = .ok (.ireturn, 1) := by decide +kernel
theorem dX10_sales_35 : decode cX10_sales 35 = .ok (.aload_n 0, 1) := by decide +kernel
theorem dX10_sales_36 : decode cX10_sales 36 = .ok (.getfield 77, 3) := by decide +kernel
theorem dX10_sales_39 : decode cX10_sales 39 = .ok (.iload_n 1, 1) := by decide +kernel
theorem dX10_sales_40 : decode cX10_sales 40 = .ok (.baload, 1) := by decide +kernel
theorem dX10_sales_41 : decode cX10_sales 41 = .ok (.ifCond .eq 16, 3) := by decide +kernel
theorem dX10_sales_44 : decode cX10_sales 44 = .ok (.aload_n 0, 1) := by decide +kernel
theorem dX10_sales_45 : decode cX10_sales 45 = .ok (.getfield 81, 3) := by decide +kernel
theorem dX10_sales_48 : decode cX10_sales 48 = .ok (.iload_n 1, 1) := by decide +kernel
theorem dX10_sales_49 : decode cX10_sales 49 = .ok (.iaload, 1) := by decide +kernel
theorem dX10_sales_50 : decode cX10_sales 50 = .ok (.iload_n 2, 1) := by decide +kernel
theorem dX10_sales_51 : decode cX10_sales 51 = .ok (.if_icmp .eq 6, 3) := by decide +kernel
theorem dX10_sales_54 : decode cX10_sales 54 = .ok (.bipush (-13), 2) := by decide +kernel
theorem dX10_sales_56 : decode cX10_sales 56 = .ok (.ireturn, 1) := by decide +kernel
theorem dX10_sales_57 : decode cX10_sales 57 = .ok (.aload_n 0, 1) := by decide +kernel
theorem dX10_sales_58 : decode cX10_sales 58 = .ok (.getfield 77, 3) := by decide +kernel
theorem dX10_sales_61 : decode cX10_sales 61 = .ok (.iload_n 1, 1) := by decide +kernel
theorem dX10_sales_62 : decode cX10_sales 62 = .ok (.baload, 1) := by decide +kernel
theorem dX10_sales_63 : decode cX10_sales 63 = .ok (.ifCond .ne 6, 3) := by decide +kernel
theorem dX10_sales_66 : decode cX10_sales 66 = .ok (.bipush (-11), 2) := by decide +kernel
theorem dX10_sales_68 : decode cX10_sales 68 = .ok (.ireturn, 1) := by decide +kernel
theorem dX10_sales_69 : decode cX10_sales 69 = .ok (.iconst 0, 1) := by decide +kernel
theorem dX10_sales_70 : decode cX10_sales 70 = .ok (.istore 5, 2) := by decide +kernel
theorem dX10_sales_72 : decode cX10_sales 72 = .ok (.iconst 0, 1) := by decide +kernel
theorem dX10_sales_73 : decode cX10_sales 73 = .ok (.istore 6, 2) := by decide +kernel
theorem dX10_sales_75 : decode cX10_sales 75 = .ok (.iload 6, 2) := by decide +kernel
theorem dX10_sales_77 : decode cX10_sales 77 = .ok (.iload 4, 2) := by decide +kernel
theorem dX10_sales_79 : decode cX10_sales 79 = .ok (.if_icmp .ge 106, 3) := by decide +kernel
theorem dX10_sales_82 : decode cX10_sales 82 = .ok (.iload_n 3, 1) := by decide +kernel
theorem dX10_sales_83 : decode cX10_sales 83 = .ok (.ifCond .lt 20, 3) := by decide +kernel
theorem dX10_sales_86 : decode cX10_sales 86 = .ok (.iload_n 3, 1) := by decide +kernel
theorem dX10_sales_87 : decode cX10_sales 87 = .ok (.aload_n 0, 1) := by decide +kernel
theorem dX10_sales_88 : decode cX10_sales 88 = .ok (.getfield 84, 3) := by decide +kernel
theorem dX10_sales_91 : decode cX10_sales 91 = .ok (.iload_n 1, 1) := by decide +kernel
theorem dX10_sales_92 : decode cX10_sales 92 = .ok (.iaload, 1) := by decide +kernel
theorem dX10_sales_93 : decode cX10_sales 93 = .ok (.iconst 5, 1) := by decide +kernel
theorem dX10_sales_94 : decode cX10_sales 94 = .ok (.iload 6, 2) := by decide +kernel
theorem dX10_sales_96 : decode cX10_sales 96 = .ok (.imul, 1) := by decide +kernel
theorem dX10_sales_97 : decode cX10_sales 97 = .ok (.isub, 1) := by decide +kernel
theorem dX10_sales_98 : decode cX10_sales 98 = .ok (.iconst 5, 1) := by decide +kernel
theorem dX10_sales_99 : decode cX10_sales 99 = .ok (.isub, 1) := by decide +kernel
theorem dX10_sales_100 : decode cX10_sales 100 = .ok (.if_icmp .le 6, 3) := by decide +kernel
theorem dX10_sales_103 : decode cX10_sales 103 = .ok (.bipush (-12), 2) := by decide +kernel
theorem dX10_sales_105 : decode cX10_sales 105 = .ok (.ireturn, 1) := by decide +kernel
theorem dX10_sales_106 : decode cX10_sales 106 = .ok (.bipush 40, 2) := by decide +kernel
theorem dX10_sales_108 : decode cX10_sales 108 = .ok (.iload_n 1, 1) := by decide +kernel
theorem dX10_sales_109 : decode cX10_sales 109 = .ok (.imul, 1) := by decide +kernel
theorem dX10_sales_110 : decode cX10_sales 110 = .ok (.iload_n 3, 1) := by decide +kernel
theorem dX10_sales_111 : decode cX10_sales 111 = .ok (.iadd, 1) := by decide +kernel
theorem dX10_sales_112 : decode cX10_sales 112 = .ok (.iconst 5, 1) := by decide +kernel
theorem dX10_sales_113 : decode cX10_sales 113 = .ok (.iload 6, 2) := by decide +kernel
theorem dX10_sales_115 : decode cX10_sales 115 = .ok (.imul, 1) := by decide +kernel
theorem dX10_sales_116 : decode cX10_sales 116 = .ok (.iadd, 1) := by decide +kernel
theorem dX10_sales_117 : decode cX10_sales 117 = .ok (.istore 7, 2) := by decide +kernel
theorem dX10_sales_119 : decode cX10_sales 119 = .ok (.iload 5, 2) := by decide +kernel
theorem dX10_sales_121 : decode cX10_sales 121 = .ok (.aload_n 0, 1) := by decide +kernel
theorem dX10_sales_122 : decode cX10_sales 122 = .ok (.aload_n 0, 1) := by decide +kernel
theorem dX10_sales_123 : decode cX10_sales 123 = .ok (.getfield 87, 3) := by decide +kernel
theorem dX10_sales_126 : decode cX10_sales 126 = .ok (.iload 7, 2) := by decide +kernel
theorem dX10_sales_128 : decode cX10_sales 128 = .ok (.iaload, 1) := by decide +kernel
theorem dX10_sales_129 : decode cX10_sales 129 = .ok (.aload_n 0, 1) := by decide +kernel
theorem dX10_sales_130 : decode cX10_sales 130 = .ok (.getfield 87, 3) := by decide +kernel
theorem dX10_sales_133 : decode cX10_sales 133 = .ok (.iload 7, 2) := by decide +kernel
theorem dX10_sales_135 : decode cX10_sales 135 = .ok (.iconst 1, 1) := by decide +kernel
theorem dX10_sales_136 : decode cX10_sales 136 = .ok (.iadd, 1) := by decide +kernel
theorem dX10_sales_137 : decode cX10_sales 137 = .ok (.iaload, 1) := by decide +kernel
theorem dX10_sales_138 : decode cX10_sales 138 = .ok (.aload_n 0, 1) := by decide +kernel
theorem dX10_sales_139 : decode cX10_sales 139 = .ok (.getfield 87, 3) := by decide +kernel
theorem dX10_sales_142 : decode cX10_sales 142 = .ok (.iload 7, 2) := by decide +kernel
theorem dX10_sales_144 : decode cX10_sales 144 = .ok (.iconst 2, 1) := by decide +kernel
theorem dX10_sales_145 : decode cX10_sales 145 = .ok (.iadd, 1) := by decide +kernel
theorem dX10_sales_146 : decode cX10_sales 146 = .ok (.iaload, 1) := by decide +kernel
theorem dX10_sales_147 : decode cX10_sales 147 = .ok (.aload_n 0, 1) := by decide +kernel
theorem dX10_sales_148 : decode cX10_sales 148 = .ok (.getfield 87, 3) := by decide +kernel
theorem dX10_sales_151 : decode cX10_sales 151 = .ok (.iload 7, 2) := by decide +kernel
theorem dX10_sales_153 : decode cX10_sales 153 = .ok (.iconst 3, 1) := by decide +kernel
theorem dX10_sales_154 : decode cX10_sales 154 = .ok (.iadd, 1) := by decide +kernel
theorem dX10_sales_155 : decode cX10_sales 155 = .ok (.iaload, 1) := by decide +kernel
theorem dX10_sales_156 : decode cX10_sales 156 = .ok (.aload_n 0, 1) := by decide +kernel
theorem dX10_sales_157 : decode cX10_sales 157 = .ok (.getfield 87, 3) := by decide +kernel
theorem dX10_sales_160 : decode cX10_sales 160 = .ok (.iload 7, 2) := by decide +kernel
theorem dX10_sales_162 : decode cX10_sales 162 = .ok (.iconst 4, 1) := by decide +kernel
theorem dX10_sales_163 : decode cX10_sales 163 = .ok (.iadd, 1) := by decide +kernel
theorem dX10_sales_164 : decode cX10_sales 164 = .ok (.iaload, 1) := by decide +kernel
theorem dX10_sales_165 : decode cX10_sales 165 = .ok (.invokevirtual 373, 3) := by decide +kernel
theorem dX10_sales_168 : decode cX10_sales 168 = .ok (.ifCond .lt 7, 3) := by decide +kernel
theorem dX10_sales_171 : decode cX10_sales 171 = .ok (.iconst 1, 1) := by decide +kernel
theorem dX10_sales_172 : decode cX10_sales 172 = .ok (.goto 4, 3) := by decide +kernel
theorem dX10_sales_175 : decode cX10_sales 175 = .ok (.iconst 0, 1) := by decide +kernel
theorem dX10_sales_176 : decode cX10_sales 176 = .ok (.iadd, 1) := by decide +kernel
theorem dX10_sales_177 : decode cX10_sales 177 = .ok (.istore 5, 2) := by decide +kernel
theorem dX10_sales_179 : decode cX10_sales 179 = .ok (.iinc 6 1, 3) := by decide +kernel
theorem dX10_sales_182 : decode cX10_sales 182 = .ok (.goto (-107), 3) := by decide +kernel
theorem dX10_sales_185 : decode cX10_sales 185 = .ok (.iload 5, 2) := by decide +kernel
theorem dX10_sales_187 : decode cX10_sales 187 = .ok (.ireturn, 1) := by decide +kernel
theorem dX10_taken_0 : decode cX10_taken 0 = .ok (.iload_n 2, 1) := by decide +kernel
theorem dX10_taken_1 : decode cX10_taken 1 = .ok (.i2l, 1) := by decide +kernel
theorem dX10_taken_2 : decode cX10_taken 2 = .ok (.lconst 0, 1) := by decide +kernel
theorem dX10_taken_3 : decode cX10_taken 3 = .ok (.ldc2_w 136, 3) := by decide +kernel
theorem dX10_taken_6 : decode cX10_taken 6 = .ok (.invokestatic 114, 3) := by decide +kernel
theorem dX10_taken_9 : decode cX10_taken 9 = .ok (.ifCond .ne 6, 3) := by decide +kernel
theorem dX10_taken_12 : decode cX10_taken 12 = .ok (.bipush (-2), 2) := by decide +kernel
theorem dX10_taken_14 : decode cX10_taken 14 = .ok (.ireturn, 1) := by decide +kernel
theorem dX10_taken_15 : decode cX10_taken 15 = .ok (.aload_n 0, 1) := by decide +kernel
theorem dX10_taken_16 : decode cX10_taken 16 = .ok (.iload_n 1, 1) := by decide +kernel
theorem dX10_taken_17 : decode cX10_taken 17 = .ok (.invokevirtual 141, 3) := by decide +kernel
theorem dX10_taken_20 : decode cX10_taken 20 = .ok (.ifCond .ne 6, 3) := by decide +kernel
theorem dX10_taken_23 : decode cX10_taken 23 = .ok (.bipush (-11), 2) := by decide +kernel
theorem dX10_taken_25 : decode cX10_taken 25 = .ok (.ireturn, 1) := by decide +kernel
theorem dX10_taken_26 : decode cX10_taken 26 = .ok (.aload_n 0, 1) := by decide +kernel
theorem dX10_taken_27 : decode cX10_taken 27 = .ok (.getfield 32, 3) := by decide +kernel
theorem dX10_taken_30 : decode cX10_taken 30 = .ok (.iload_n 1, 1) := by decide +kernel
theorem dX10_taken_31 : decode cX10_taken 31 = .ok (.iaload, 1) := by decide +kernel
theorem dX10_taken_32 : decode cX10_taken 32 = .ok (.iload_n 2, 1) := by decide +kernel
theorem dX10_taken_33 : decode cX10_taken 33 = .ok (.invokestatic 343, 3) := by decide +kernel
theorem dX10_taken_36 : decode cX10_taken 36 = .ok (.ifCond .eq 12, 3) := by decide +kernel
theorem dX10_taken_39 : decode cX10_taken 39 = .ok (.aload_n 0, 1) := by decide +kernel
theorem dX10_taken_40 : decode cX10_taken 40 = .ok (.getfield 47, 3) := by decide +kernel
theorem dX10_taken_43 : decode cX10_taken 43 = .ok (.iload_n 1, 1) := by decide +kernel
theorem dX10_taken_44 : decode cX10_taken 44 = .ok (.iaload, 1) := by decide +kernel
theorem dX10_taken_45 : decode cX10_taken 45 = .ok (.goto 5, 3) := by decide +kernel
theorem dX10_taken_48 : decode cX10_taken 48 = .ok (.bipush (-13), 2) := by decide +kernel
theorem dX10_taken_50 : decode cX10_taken 50 = .ok (.ireturn, 1) := by decide +kernel
theorem dX1_init_0 : decode cX1_init 0 = .ok (.aload_n 0, 1) := by decide +kernel
theorem dX1_init_1 : decode cX1_init 1 = .ok (.invokespecial 3, 3) := by decide +kernel
theorem dX1_init_4 : decode cX1_init 4 = .ok (.aload_n 0, 1) := by decide +kernel
theorem dX1_init_5 : decode cX1_init 5 = .ok (.bipush 10, 2) := by decide +kernel
theorem dX1_init_7 : decode cX1_init 7 = .ok (.newarray .int, 2) := by decide +kernel
theorem dX1_init_9 : decode cX1_init 9 = .ok (.putfield 9, 3) := by decide +kernel
theorem dX1_init_12 : decode cX1_init 12 = .ok (.aload_n 0, 1) := by decide +kernel
theorem dX1_init_13 : decode cX1_init 13 = .ok (.bipush 24, 2) := by decide +kernel
theorem dX1_init_15 : decode cX1_init 15 = .ok (.anewarray 15, 3) := by decide +kernel
theorem dX1_init_18 : decode cX1_init 18 = .ok (.putfield 17, 3) := by decide +kernel
theorem dX1_init_21 : decode cX1_init 21 = .ok (.aload_n 0, 1) := by decide +kernel
theorem dX1_init_22 : decode cX1_init 22 = .ok (.bipush 24, 2) := by decide +kernel
theorem dX1_init_24 : decode cX1_init 24 = .ok (.newarray .int, 2) := by decide +kernel
theorem dX1_init_26 : decode cX1_init 26 = .ok (.putfield 21, 3) := by decide +kernel
theorem dX1_init_29 : decode cX1_init 29 = .ok (.return_, 1) := by decide +kernel
theorem dX1_open_0 : decode cX1_open 0 = .ok (.aload_n 0, 1) := by decide +kernel
theorem dX1_open_1 : decode cX1_open 1 = .ok (.iconst 0, 1) := by decide +kernel
theorem dX1_open_2 : decode cX1_open 2 = .ok (.putfield 24, 3) := by decide +kernel
theorem dX1_open_5 : decode cX1_open 5 = .ok (.aload_n 0, 1) := by decide +kernel
theorem dX1_open_6 : decode cX1_open 6 = .ok (.iconst 0, 1) := by decide +kernel
theorem dX1_open_7 : decode cX1_open 7 = .ok (.putfield 28, 3) := by decide +kernel
theorem dX1_open_10 : decode cX1_open 10 = .ok (.aload_n 0, 1) := by decide +kernel
theorem dX1_open_11 : decode cX1_open 11 = .ok (.getfield 9, 3) := by decide +kernel
theorem dX1_open_14 : decode cX1_open 14 = .ok (.iconst 0, 1) := by decide +kernel
theorem dX1_open_15 : decode cX1_open 15 = .ok (.invokestatic 31, 3) := by decide +kernel
theorem dX1_open_18 : decode cX1_open 18 = .ok (.aload_n 0, 1) := by decide +kernel
theorem dX1_open_19 : decode cX1_open 19 = .ok (.getfield 9, 3) := by decide +kernel
theorem dX1_open_22 : decode cX1_open 22 = .ok (.aload_n 1, 1) := by decide +kernel
theorem dX1_open_23 : decode cX1_open 23 = .ok (.getfield 37, 3) := by decide +kernel
theorem dX1_open_26 : decode cX1_open 26 = .ok (.aload_n 1, 1) := by decide +kernel
theorem dX1_open_27 : decode cX1_open 27 = .ok (.getfield 42, 3) := by decide +kernel
theorem dX1_open_30 : decode cX1_open 30 = .ok (.iastore, 1) := by decide +kernel
theorem dX1_open_31 : decode cX1_open 31 = .ok (.iconst 0, 1) := by decide +kernel
theorem dX1_open_32 : decode cX1_open 32 = .ok (.istore 5, 2) := by decide +kernel
theorem dX1_open_34 : decode cX1_open 34 = .ok (.iload 5, 2) := by decide +kernel
theorem dX1_open_36 : decode cX1_open 36 = .ok (.iload_n 3, 1) := by decide +kernel
theorem dX1_open_37 : decode cX1_open 37 = .ok (.if_icmp .ge 37, 3) := by decide +kernel
theorem dX1_open_40 : decode cX1_open 40 = .ok (.aload_n 2, 1) := by decide +kernel
theorem dX1_open_41 : decode cX1_open 41 = .ok (.iload 5, 2) := by decide +kernel
theorem dX1_open_43 : decode cX1_open 43 = .ok (.aaload, 1) := by decide +kernel
theorem dX1_open_44 : decode cX1_open 44 = .ok (.getfield 45, 3) := by decide +kernel
theorem dX1_open_47 : decode cX1_open 47 = .ok (.aload_n 1, 1) := by decide +kernel
theorem dX1_open_48 : decode cX1_open 48 = .ok (.if_acmp .ne 20, 3) := by decide +kernel
theorem dX1_open_51 : decode cX1_open 51 = .ok (.aload_n 0, 1) := by decide +kernel
theorem dX1_open_52 : decode cX1_open 52 = .ok (.aload_n 2, 1) := by decide +kernel
theorem dX1_open_53 : decode cX1_open 53 = .ok (.iload 5, 2) := by decide +kernel
theorem dX1_open_55 : decode cX1_open 55 = .ok (.aaload, 1) := by decide +kernel
theorem dX1_open_56 : decode cX1_open 56 = .ok (.aload_n 2, 1) := by decide +kernel
theorem dX1_open_57 : decode cX1_open 57 = .ok (.iload 5, 2) := by decide +kernel
theorem dX1_open_59 : decode cX1_open 59 = .ok (.aaload, 1) := by decide +kernel
theorem dX1_open_60 : decode cX1_open 60 = .ok (.iload 4, 2) := by decide +kernel
theorem dX1_open_62 : decode cX1_open 62 = .ok (.invokevirtual 49, 3) := by decide +kernel
theorem dX1_open_65 : decode cX1_open 65 = .ok (.invokevirtual 53, 3) := by decide +kernel
theorem dX1_open_68 : decode cX1_open 68 = .ok (.iinc 5 1, 3) := by decide +kernel
theorem dX1_open_71 : decode cX1_open 71 = .ok (.goto (-37), 3) := by decide +kernel
theorem dX1_open_74 : decode cX1_open 74 = .ok (.return_, 1) := by decide +kernel
theorem dX1_enter_0 : decode cX1_enter 0 = .ok (.aload_n 0, 1) := by decide +kernel
theorem dX1_enter_1 : decode cX1_enter 1 = .ok (.getfield 24, 3) := by decide +kernel
theorem dX1_enter_4 : decode cX1_enter 4 = .ok (.istore_n 3, 1) := by decide +kernel
theorem dX1_enter_5 : decode cX1_enter 5 = .ok (.iload_n 3, 1) := by decide +kernel
theorem dX1_enter_6 : decode cX1_enter 6 = .ok (.ifCond .le 49, 3) := by decide +kernel
theorem dX1_enter_9 : decode cX1_enter 9 = .ok (.aload_n 0, 1) := by decide +kernel
theorem dX1_enter_10 : decode cX1_enter 10 = .ok (.getfield 21, 3) := by decide +kernel
theorem dX1_enter_13 : decode cX1_enter 13 = .ok (.iload_n 3, 1) := by decide +kernel
theorem dX1_enter_14 : decode cX1_enter 14 = .ok (.iconst 1, 1) := by decide +kernel
theorem dX1_enter_15 : decode cX1_enter 15 = .ok (.isub, 1) := by decide +kernel
theorem dX1_enter_16 : decode cX1_enter 16 = .ok (.iaload, 1) := by decide +kernel
theorem dX1_enter_17 : decode cX1_enter 17 = .ok (.iload_n 2, 1) := by decide +kernel
theorem dX1_enter_18 : decode cX1_enter 18 = .ok (.if_icmp .le 37, 3) := by decide +kernel
theorem dX1_enter_21 : decode cX1_enter 21 = .ok (.aload_n 0, 1) := by decide +kernel
theorem dX1_enter_22 : decode cX1_enter 22 = .ok (.getfield 21, 3) := by decide +kernel
theorem dX1_enter_25 : decode cX1_enter 25 = .ok (.iload_n 3, 1) := by decide +kernel
theorem dX1_enter_26 : decode cX1_enter 26 = .ok (.aload_n 0, 1) := by decide +kernel
theorem dX1_enter_27 : decode cX1_enter 27 = .ok (.getfield 21, 3) := by decide +kernel
theorem dX1_enter_30 : decode cX1_enter 30 = .ok (.iload_n 3, 1) := by decide +kernel
theorem dX1_enter_31 : decode cX1_enter 31 = .ok (.iconst 1, 1) := by decide +kernel
theorem dX1_enter_32 : decode cX1_enter 32 = .ok (.isub, 1) := by decide +kernel
theorem dX1_enter_33 : decode cX1_enter 33 = .ok (.iaload, 1) := by decide +kernel
theorem dX1_enter_34 : decode cX1_enter 34 = .ok (.iastore, 1) := by decide +kernel
theorem dX1_enter_35 : decode cX1_enter 35 = .ok (.aload_n 0, 1) := by decide +kernel
theorem dX1_enter_36 : decode cX1_enter 36 = .ok (.getfield 17, 3) := by decide +kernel
theorem dX1_enter_39 : decode cX1_enter 39 = .ok (.iload_n 3, 1) := by decide +kernel
theorem dX1_enter_40 : decode cX1_enter 40 = .ok (.aload_n 0, 1) := by decide +kernel
theorem dX1_enter_41 : decode cX1_enter 41 = .ok (.getfield 17, 3) := by decide +kernel
theorem dX1_enter_44 : decode cX1_enter 44 = .ok (.iload_n 3, 1) := by decide +kernel
theorem dX1_enter_45 : decode cX1_enter 45 = .ok (.iconst 1, 1) := by decide +kernel
theorem dX1_enter_46 : decode cX1_enter 46 = .ok (.isub, 1) := by decide +kernel
theorem dX1_enter_47 : decode cX1_enter 47 = .ok (.aaload, 1) := by decide +kernel
theorem dX1_enter_48 : decode cX1_enter 48 = .ok (.aastore, 1) := by decide +kernel
theorem dX1_enter_49 : decode cX1_enter 49 = .ok (.iinc 3 (-1), 3) := by decide +kernel
theorem dX1_enter_52 : decode cX1_enter 52 = .ok (.goto (-47), 3) := by decide +kernel
theorem dX1_enter_55 : decode cX1_enter 55 = .ok (.aload_n 0, 1) := by decide +kernel
theorem dX1_enter_56 : decode cX1_enter 56 = .ok (.getfield 21, 3) := by decide +kernel
theorem dX1_enter_59 : decode cX1_enter 59 = .ok (.iload_n 3, 1) := by decide +kernel
theorem dX1_enter_60 : decode cX1_enter 60 = .ok (.iload_n 2, 1) := by decide +kernel
theorem dX1_enter_61 : decode cX1_enter 61 = .ok (.iastore, 1) := by decide +kernel
theorem dX1_enter_62 : decode cX1_enter 62 = .ok (.aload_n 0, 1) := by decide +kernel
theorem dX1_enter_63 : decode cX1_enter 63 = .ok (.getfield 17, 3) := by decide +kernel
theorem dX1_enter_66 : decode cX1_enter 66 = .ok (.iload_n 3, 1) := by decide +kernel
theorem dX1_enter_67 : decode cX1_enter 67 = .ok (.aload_n 1, 1) := by decide +kernel
theorem dX1_enter_68 : decode cX1_enter 68 = .ok (.aastore, 1) := by decide +kernel
theorem dX1_enter_69 : decode cX1_enter 69 = .ok (.aload_n 0, 1) := by decide +kernel
theorem dX1_enter_70 : decode cX1_enter 70 = .ok (.dup, 1) := by decide +kernel
theorem dX1_enter_71 : decode cX1_enter 71 = .ok (.getfield 24, 3) := by decide +kernel
theorem dX1_enter_74 : decode cX1_enter 74 = .ok (.iconst 1, 1) := by decide +kernel
theorem dX1_enter_75 : decode cX1_enter 75 = .ok (.iadd, 1) := by decide +kernel
theorem dX1_enter_76 : decode cX1_enter 76 = .ok (.putfield 24, 3) := by decide +kernel
theorem dX1_enter_79 : decode cX1_enter 79 = .ok (.return_, 1) := by decide +kernel
theorem dX1_runTo_0 : decode cX1_runTo 0 = .ok (.aload_n 0, 1) := by decide +kernel
theorem dX1_runTo_1 : decode cX1_runTo 1 = .ok (.getfield 28, 3) := by decide +kernel
theorem dX1_runTo_4 : decode cX1_runTo 4 = .ok (.aload_n 0, 1) := by decide +kernel
theorem dX1_runTo_5 : decode cX1_runTo 5 = .ok (.getfield 24, 3) := by decide +kernel
theorem dX1_runTo_8 : decode cX1_runTo 8 = .ok (.if_icmp .ge 82, 3) := by decide +kernel
theorem dX1_runTo_11 : decode cX1_runTo 11 = .ok (.aload_n 0, 1) := by decide +kernel
theorem dX1_runTo_12 : decode cX1_runTo 12 = .ok (.getfield 21, 3) := by decide +kernel
theorem dX1_runTo_15 : decode cX1_runTo 15 = .ok (.aload_n 0, 1) := by decide +kernel
theorem dX1_runTo_16 : decode cX1_runTo 16 = .ok (.getfield 28, 3) := by decide +kernel
theorem dX1_runTo_19 : decode cX1_runTo 19 = .ok (.iaload, 1) := by decide +kernel
theorem dX1_runTo_20 : decode cX1_runTo 20 = .ok (.iload_n 1, 1) := by decide +kernel
theorem dX1_runTo_21 : decode cX1_runTo 21 = .ok (.if_icmp .gt 69, 3) := by decide +kernel
theorem dX1_runTo_24 : decode cX1_runTo 24 = .ok (.aload_n 0, 1) := by decide +kernel
theorem dX1_runTo_25 : decode cX1_runTo 25 = .ok (.getfield 17, 3) := by decide +kernel
theorem dX1_runTo_28 : decode cX1_runTo 28 = .ok (.aload_n 0, 1) := by decide +kernel
theorem dX1_runTo_29 : decode cX1_runTo 29 = .ok (.getfield 28, 3) := by decide +kernel
theorem dX1_runTo_32 : decode cX1_runTo 32 = .ok (.aaload, 1) := by decide +kernel
theorem dX1_runTo_33 : decode cX1_runTo 33 = .ok (.astore_n 2, 1) := by decide +kernel
theorem dX1_runTo_34 : decode cX1_runTo 34 = .ok (.aload_n 2, 1) := by decide +kernel
theorem dX1_runTo_35 : decode cX1_runTo 35 = .ok (.getfield 57, 3) := by decide +kernel
theorem dX1_runTo_38 : decode cX1_runTo 38 = .ok (.aload_n 0, 1) := by decide +kernel
theorem dX1_runTo_39 : decode cX1_runTo 39 = .ok (.getfield 9, 3) := by decide +kernel
theorem dX1_runTo_42 : decode cX1_runTo 42 = .ok (.aload_n 2, 1) := by decide +kernel
theorem dX1_runTo_43 : decode cX1_runTo 43 = .ok (.getfield 58, 3) := by decide +kernel
theorem dX1_runTo_46 : decode cX1_runTo 46 = .ok (.iaload, 1) := by decide +kernel
theorem dX1_runTo_47 : decode cX1_runTo 47 = .ok (.invokestatic 61, 3) := by decide +kernel
theorem dX1_runTo_50 : decode cX1_runTo 50 = .ok (.istore_n 3, 1) := by decide +kernel
theorem dX1_runTo_51 : decode cX1_runTo 51 = .ok (.aload_n 0, 1) := by decide +kernel
theorem dX1_runTo_52 : decode cX1_runTo 52 = .ok (.getfield 9, 3) := by decide +kernel
theorem dX1_runTo_55 : decode cX1_runTo 55 = .ok (.aload_n 2, 1) := by decide +kernel
theorem dX1_runTo_56 : decode cX1_runTo 56 = .ok (.getfield 58, 3) := by decide +kernel
theorem dX1_runTo_59 : decode cX1_runTo 59 = .ok (.dup2, 1) := by decide +kernel
theorem dX1_runTo_60 : decode cX1_runTo 60 = .ok (.iaload, 1) := by decide +kernel
theorem dX1_runTo_61 : decode cX1_runTo 61 = .ok (.iload_n 3, 1) := by decide +kernel
theorem dX1_runTo_62 : decode cX1_runTo 62 = .ok (.isub, 1) := by decide +kernel
theorem dX1_runTo_63 : decode cX1_runTo 63 = .ok (.iastore, 1) := by decide +kernel
theorem dX1_runTo_64 : decode cX1_runTo 64 = .ok (.aload_n 0, 1) := by decide +kernel
theorem dX1_runTo_65 : decode cX1_runTo 65 = .ok (.getfield 9, 3) := by decide +kernel
theorem dX1_runTo_68 : decode cX1_runTo 68 = .ok (.aload_n 2, 1) := by decide +kernel
theorem dX1_runTo_69 : decode cX1_runTo 69 = .ok (.getfield 67, 3) := by decide +kernel
theorem dX1_runTo_72 : decode cX1_runTo 72 = .ok (.dup2, 1) := by decide +kernel
theorem dX1_runTo_73 : decode cX1_runTo 73 = .ok (.iaload, 1) := by decide +kernel
theorem dX1_runTo_74 : decode cX1_runTo 74 = .ok (.iload_n 3, 1) := by decide +kernel
theorem dX1_runTo_75 : decode cX1_runTo 75 = .ok (.iadd, 1) := by decide +kernel
theorem dX1_runTo_76 : decode cX1_runTo 76 = .ok (.iastore, 1) := by decide +kernel
theorem dX1_runTo_77 : decode cX1_runTo 77 = .ok (.aload_n 0, 1) := by decide +kernel
theorem dX1_runTo_78 : decode cX1_runTo 78 = .ok (.dup, 1) := by decide +kernel
theorem dX1_runTo_79 : decode cX1_runTo 79 = .ok (.getfield 28, 3) := by decide +kernel
theorem dX1_runTo_82 : decode cX1_runTo 82 = .ok (.iconst 1, 1) := by decide +kernel
theorem dX1_runTo_83 : decode cX1_runTo 83 = .ok (.iadd, 1) := by decide +kernel
theorem dX1_runTo_84 : decode cX1_runTo 84 = .ok (.putfield 28, 3) := by decide +kernel
theorem dX1_runTo_87 : decode cX1_runTo 87 = .ok (.goto (-87), 3) := by decide +kernel
theorem dX1_runTo_90 : decode cX1_runTo 90 = .ok (.return_, 1) := by decide +kernel
theorem dX1_nextHour_0 : decode cX1_nextHour 0 = .ok (.aload_n 0, 1) := by decide +kernel
theorem dX1_nextHour_1 : decode cX1_nextHour 1 = .ok (.getfield 28, 3) := by decide +kernel
theorem dX1_nextHour_4 : decode cX1_nextHour 4 = .ok (.aload_n 0, 1) := by decide +kernel
theorem dX1_nextHour_5 : decode cX1_nextHour 5 = .ok (.getfield 24, 3) := by decide +kernel
theorem dX1_nextHour_8 : decode cX1_nextHour 8 = .ok (.if_icmp .ge 15, 3) := by decide +kernel
theorem dX1_nextHour_11 : decode cX1_nextHour 11 = .ok (.aload_n 0, 1) := by decide +kernel
theorem dX1_nextHour_12 : decode cX1_nextHour 12 = .ok (.getfield 21, 3) := by decide +kernel
theorem dX1_nextHour_15 : decode cX1_nextHour 15 = .ok (.aload_n 0, 1) := by decide +kernel
theorem dX1_nextHour_16 : decode cX1_nextHour 16 = .ok (.getfield 28, 3) := by decide +kernel
theorem dX1_nextHour_19 : decode cX1_nextHour 19 = .ok (.iaload, 1) := by decide +kernel
theorem dX1_nextHour_20 : decode cX1_nextHour 20 = .ok (.goto 6, 3) := by decide +kernel
theorem dX1_nextHour_23 : decode cX1_nextHour 23 = .ok (.sipush 1000, 3) := by decide +kernel
theorem dX1_nextHour_26 : decode cX1_nextHour 26 = .ok (.ireturn, 1) := by decide +kernel
theorem dX2_init_0 : decode cX2_init 0 = .ok (.aload_n 0, 1) := by decide +kernel
theorem dX2_init_1 : decode cX2_init 1 = .ok (.invokespecial 3, 3) := by decide +kernel
theorem dX2_init_4 : decode cX2_init 4 = .ok (.aload_n 0, 1) := by decide +kernel
theorem dX2_init_5 : decode cX2_init 5 = .ok (.sipush 160, 3) := by decide +kernel
theorem dX2_init_8 : decode cX2_init 8 = .ok (.newarray .int, 2) := by decide +kernel
theorem dX2_init_10 : decode cX2_init 10 = .ok (.putfield 11, 3) := by decide +kernel
theorem dX2_init_13 : decode cX2_init 13 = .ok (.aload_n 0, 1) := by decide +kernel
theorem dX2_init_14 : decode cX2_init 14 = .ok (.sipush 161, 3) := by decide +kernel
theorem dX2_init_17 : decode cX2_init 17 = .ok (.newarray .int, 2) := by decide +kernel
theorem dX2_init_19 : decode cX2_init 19 = .ok (.putfield 15, 3) := by decide +kernel
theorem dX2_init_22 : decode cX2_init 22 = .ok (.aload_n 0, 1) := by decide +kernel
theorem dX2_init_23 : decode cX2_init 23 = .ok (.sipush 161, 3) := by decide +kernel
theorem dX2_init_26 : decode cX2_init 26 = .ok (.newarray .int, 2) := by decide +kernel
theorem dX2_init_28 : decode cX2_init 28 = .ok (.putfield 18, 3) := by decide +kernel
theorem dX2_init_31 : decode cX2_init 31 = .ok (.aload_n 0, 1) := by decide +kernel
theorem dX2_init_32 : decode cX2_init 32 = .ok (.sipush 160, 3) := by decide +kernel
theorem dX2_init_35 : decode cX2_init 35 = .ok (.newarray .int, 2) := by decide +kernel
theorem dX2_init_37 : decode cX2_init 37 = .ok (.putfield 21, 3) := by decide +kernel
theorem dX2_init_40 : decode cX2_init 40 = .ok (.aload_n 0, 1) := by decide +kernel
theorem dX2_init_41 : decode cX2_init 41 = .ok (.iconst 3, 1) := by decide +kernel
theorem dX2_init_42 : decode cX2_init 42 = .ok (.newarray .int, 2) := by decide +kernel
theorem dX2_init_44 : decode cX2_init 44 = .ok (.putfield 24, 3) := by decide +kernel
theorem dX2_init_47 : decode cX2_init 47 = .ok (.return_, 1) := by decide +kernel
theorem dX2_room_0 : decode cX2_room 0 = .ok (.sipush 160, 3) := by decide +kernel
theorem dX2_room_3 : decode cX2_room 3 = .ok (.aload_n 0, 1) := by decide +kernel
theorem dX2_room_4 : decode cX2_room 4 = .ok (.getfield 27, 3) := by decide +kernel
theorem dX2_room_7 : decode cX2_room 7 = .ok (.isub, 1) := by decide +kernel
theorem dX2_room_8 : decode cX2_room 8 = .ok (.ireturn, 1) := by decide +kernel
theorem dX2_put_0 : decode cX2_put 0 = .ok (.aload_n 0, 1) := by decide +kernel
theorem dX2_put_1 : decode cX2_put 1 = .ok (.getfield 27, 3) := by decide +kernel
theorem dX2_put_4 : decode cX2_put 4 = .ok (.sipush 160, 3) := by decide +kernel
theorem dX2_put_7 : decode cX2_put 7 = .ok (.if_icmp .ge 23, 3) := by decide +kernel
theorem dX2_put_10 : decode cX2_put 10 = .ok (.aload_n 0, 1) := by decide +kernel
theorem dX2_put_11 : decode cX2_put 11 = .ok (.getfield 11, 3) := by decide +kernel
theorem dX2_put_14 : decode cX2_put 14 = .ok (.aload_n 0, 1) := by decide +kernel
theorem dX2_put_15 : decode cX2_put 15 = .ok (.getfield 27, 3) := by decide +kernel
theorem dX2_put_18 : decode cX2_put 18 = .ok (.iload_n 1, 1) := by decide +kernel
theorem dX2_put_19 : decode cX2_put 19 = .ok (.iastore, 1) := by decide +kernel
theorem dX2_put_20 : decode cX2_put 20 = .ok (.aload_n 0, 1) := by decide +kernel
theorem dX2_put_21 : decode cX2_put 21 = .ok (.dup, 1) := by decide +kernel
theorem dX2_put_22 : decode cX2_put 22 = .ok (.getfield 27, 3) := by decide +kernel
theorem dX2_put_25 : decode cX2_put 25 = .ok (.iconst 1, 1) := by decide +kernel
theorem dX2_put_26 : decode cX2_put 26 = .ok (.iadd, 1) := by decide +kernel
theorem dX2_put_27 : decode cX2_put 27 = .ok (.putfield 27, 3) := by decide +kernel
theorem dX2_put_30 : decode cX2_put 30 = .ok (.return_, 1) := by decide +kernel
theorem dX2_empty_0 : decode cX2_empty 0 = .ok (.aload_n 0, 1) := by decide +kernel
theorem dX2_empty_1 : decode cX2_empty 1 = .ok (.iconst 0, 1) := by decide +kernel
theorem dX2_empty_2 : decode cX2_empty 2 = .ok (.putfield 27, 3) := by decide +kernel
theorem dX2_empty_5 : decode cX2_empty 5 = .ok (.return_, 1) := by decide +kernel
theorem dX2_read_0 : decode cX2_read 0 = .ok (.aload_n 0, 1) := by decide +kernel
theorem dX2_read_1 : decode cX2_read 1 = .ok (.invokevirtual 31, 3) := by decide +kernel
theorem dX2_read_4 : decode cX2_read 4 = .ok (.aload_n 0, 1) := by decide +kernel
theorem dX2_read_5 : decode cX2_read 5 = .ok (.iconst 0, 1) := by decide +kernel
theorem dX2_read_6 : decode cX2_read 6 = .ok (.putfield 34, 3) := by decide +kernel
theorem dX2_read_9 : decode cX2_read 9 = .ok (.aload_n 0, 1) := by decide +kernel
theorem dX2_read_10 : decode cX2_read 10 = .ok (.iconst (-1), 1) := by decide +kernel
theorem dX2_read_11 : decode cX2_read 11 = .ok (.putfield 37, 3) := by decide +kernel
theorem dX2_read_14 : decode cX2_read 14 = .ok (.aload_n 0, 1) := by decide +kernel
theorem dX2_read_15 : decode cX2_read 15 = .ok (.iconst 0, 1) := by decide +kernel
theorem dX2_read_16 : decode cX2_read 16 = .ok (.putfield 40, 3) := by decide +kernel
theorem dX2_read_19 : decode cX2_read 19 = .ok (.iconst 0, 1) := by decide +kernel
theorem dX2_read_20 : decode cX2_read 20 = .ok (.istore_n 1, 1) := by decide +kernel
theorem dX2_read_21 : decode cX2_read 21 = .ok (.iload_n 1, 1) := by decide +kernel
theorem dX2_read_22 : decode cX2_read 22 = .ok (.iconst 3, 1) := by decide +kernel
theorem dX2_read_23 : decode cX2_read 23 = .ok (.if_icmp .ge 39, 3) := by decide +kernel
theorem dX2_read_26 : decode cX2_read 26 = .ok (.aload_n 0, 1) := by decide +kernel
theorem dX2_read_27 : decode cX2_read 27 = .ok (.bipush 9, 2) := by decide +kernel
theorem dX2_read_29 : decode cX2_read 29 = .ok (.iload_n 1, 1) := by decide +kernel
theorem dX2_read_30 : decode cX2_read 30 = .ok (.iadd, 1) := by decide +kernel
theorem dX2_read_31 : decode cX2_read 31 = .ok (.invokevirtual 45, 3) := by decide +kernel
theorem dX2_read_34 : decode cX2_read 34 = .ok (.aload_n 0, 1) := by decide +kernel
theorem dX2_read_35 : decode cX2_read 35 = .ok (.iconst 0, 1) := by decide +kernel
theorem dX2_read_36 : decode cX2_read 36 = .ok (.iconst 0, 1) := by decide +kernel
theorem dX2_read_37 : decode cX2_read 37 = .ok (.invokevirtual 49, 3) := by decide +kernel
theorem dX2_read_40 : decode cX2_read 40 = .ok (.aload_n 0, 1) := by decide +kernel
theorem dX2_read_41 : decode cX2_read 41 = .ok (.bipush 59, 2) := by decide +kernel
theorem dX2_read_43 : decode cX2_read 43 = .ok (.invokevirtual 45, 3) := by decide +kernel
theorem dX2_read_46 : decode cX2_read 46 = .ok (.aload_n 0, 1) := by decide +kernel
theorem dX2_read_47 : decode cX2_read 47 = .ok (.getfield 24, 3) := by decide +kernel
theorem dX2_read_50 : decode cX2_read 50 = .ok (.iload_n 1, 1) := by decide +kernel
theorem dX2_read_51 : decode cX2_read 51 = .ok (.aload_n 0, 1) := by decide +kernel
theorem dX2_read_52 : decode cX2_read 52 = .ok (.getfield 40, 3) := by decide +kernel
theorem dX2_read_55 : decode cX2_read 55 = .ok (.iastore, 1) := by decide +kernel
theorem dX2_read_56 : decode cX2_read 56 = .ok (.iinc 1 1, 3) := by decide +kernel
theorem dX2_read_59 : decode cX2_read 59 = .ok (.goto (-38), 3) := by decide +kernel
theorem dX2_read_62 : decode cX2_read 62 = .ok (.aload_n 0, 1) := by decide +kernel
theorem dX2_read_63 : decode cX2_read 63 = .ok (.invokevirtual 53, 3) := by decide +kernel
theorem dX2_read_66 : decode cX2_read 66 = .ok (.bipush 20, 2) := by decide +kernel
theorem dX2_read_68 : decode cX2_read 68 = .ok (.if_icmp .eq 7, 3) := by decide +kernel
theorem dX2_read_71 : decode cX2_read 71 = .ok (.aload_n 0, 1) := by decide +kernel
theorem dX2_read_72 : decode cX2_read 72 = .ok (.invokevirtual 57, 3) := by decide +kernel
theorem dX2_read_75 : decode cX2_read 75 = .ok (.aload_n 0, 1) := by decide +kernel
theorem dX2_read_76 : decode cX2_read 76 = .ok (.getfield 37, 3) := by decide +kernel
theorem dX2_read_79 : decode cX2_read 79 = .ok (.ireturn, 1) := by decide +kernel
theorem dX2_asText_0 : decode cX2_asText 0 = .ok (.new 60, 3) := by decide +kernel
theorem dX2_asText_3 : decode cX2_asText 3 = .ok (.dup, 1) := by decide +kernel
theorem dX2_asText_4 : decode cX2_asText 4 = .ok (.aload_n 0, 1) := by decide +kernel
theorem dX2_asText_5 : decode cX2_asText 5 = .ok (.getfield 21, 3) := by decide +kernel
theorem dX2_asText_8 : decode cX2_asText 8 = .ok (.aload_n 0, 1) := by decide +kernel
theorem dX2_asText_9 : decode cX2_asText 9 = .ok (.getfield 40, 3) := by decide +kernel
theorem dX2_asText_12 : decode cX2_asText 12 = .ok (.invokestatic 62, 3) := by decide +kernel
theorem dX2_asText_15 : decode cX2_asText 15 = .ok (.aload_n 0, 1) := by decide +kernel
theorem dX2_asText_16 : decode cX2_asText 16 = .ok (.getfield 24, 3) := by decide +kernel
theorem dX2_asText_19 : decode cX2_asText 19 = .ok (.iconst 3, 1) := by decide +kernel
theorem dX2_asText_20 : decode cX2_asText 20 = .ok (.invokestatic 62, 3) := by decide +kernel
theorem dX2_asText_23 : decode cX2_asText 23 = .ok (.invokespecial 68, 3) := by decide +kernel
theorem dX2_asText_26 : decode cX2_asText 26 = .ok (.areturn, 1) := by decide +kernel
theorem dX2_split_0 : decode cX2_split 0 = .ok (.aload_n 0, 1) := by decide +kernel
theorem dX2_split_1 : decode cX2_split 1 = .ok (.iconst 0, 1) := by decide +kernel
theorem dX2_split_2 : decode cX2_split 2 = .ok (.putfield 71, 3) := by decide +kernel
theorem dX2_split_5 : decode cX2_split 5 = .ok (.iconst 0, 1) := by decide +kernel
theorem dX2_split_6 : decode cX2_split 6 = .ok (.istore_n 1, 1) := by decide +kernel
theorem dX2_split_7 : decode cX2_split 7 = .ok (.iconst 0, 1) := by decide +kernel
theorem dX2_split_8 : decode cX2_split 8 = .ok (.istore_n 2, 1) := by decide +kernel
theorem dX2_split_9 : decode cX2_split 9 = .ok (.iload_n 2, 1) := by decide +kernel
theorem dX2_split_10 : decode cX2_split 10 = .ok (.sipush 160, 3) := by decide +kernel
theorem dX2_split_13 : decode cX2_split 13 = .ok (.if_icmp .ge 72, 3) := by decide +kernel
theorem dX2_split_16 : decode cX2_split 16 = .ok (.iload_n 1, 1) := by decide +kernel
theorem dX2_split_17 : decode cX2_split 17 = .ok (.aload_n 0, 1) := by decide +kernel
theorem dX2_split_18 : decode cX2_split 18 = .ok (.getfield 27, 3) := by decide +kernel
theorem dX2_split_21 : decode cX2_split 21 = .ok (.if_icmp .ge 64, 3) := by decide +kernel
theorem dX2_split_24 : decode cX2_split 24 = .ok (.aload_n 0, 1) := by decide +kernel
theorem dX2_split_25 : decode cX2_split 25 = .ok (.iload_n 1, 1) := by decide +kernel
theorem dX2_split_26 : decode cX2_split 26 = .ok (.invokevirtual 74, 3) := by decide +kernel
theorem dX2_split_29 : decode cX2_split 29 = .ok (.istore_n 3, 1) := by decide +kernel
theorem dX2_split_30 : decode cX2_split 30 = .ok (.aload_n 0, 1) := by decide +kernel
theorem dX2_split_31 : decode cX2_split 31 = .ok (.getfield 11, 3) := by decide +kernel
theorem dX2_split_34 : decode cX2_split 34 = .ok (.iload_n 1, 1) := by decide +kernel
theorem dX2_split_35 : decode cX2_split 35 = .ok (.iaload, 1) := by decide +kernel
theorem dX2_split_36 : decode cX2_split 36 = .ok (.invokestatic 78, 3) := by decide +kernel
theorem dX2_split_39 : decode cX2_split 39 = .ok (.ifCond .ne 38, 3) := by decide +kernel
theorem dX2_split_42 : decode cX2_split 42 = .ok (.aload_n 0, 1) := by decide +kernel
theorem dX2_split_43 : decode cX2_split 43 = .ok (.getfield 15, 3) := by decide +kernel
theorem dX2_split_46 : decode cX2_split 46 = .ok (.aload_n 0, 1) := by decide +kernel
theorem dX2_split_47 : decode cX2_split 47 = .ok (.getfield 71, 3) := by decide +kernel
theorem dX2_split_50 : decode cX2_split 50 = .ok (.aload_n 0, 1) := by decide +kernel
theorem dX2_split_51 : decode cX2_split 51 = .ok (.iload_n 1, 1) := by decide +kernel
theorem dX2_split_52 : decode cX2_split 52 = .ok (.iload_n 3, 1) := by decide +kernel
theorem dX2_split_53 : decode cX2_split 53 = .ok (.invokevirtual 82, 3) := by decide +kernel
theorem dX2_split_56 : decode cX2_split 56 = .ok (.iastore, 1) := by decide +kernel
theorem dX2_split_57 : decode cX2_split 57 = .ok (.aload_n 0, 1) := by decide +kernel
theorem dX2_split_58 : decode cX2_split 58 = .ok (.getfield 18, 3) := by decide +kernel
theorem dX2_split_61 : decode cX2_split 61 = .ok (.aload_n 0, 1) := by decide +kernel
theorem dX2_split_62 : decode cX2_split 62 = .ok (.getfield 71, 3) := by decide +kernel
theorem dX2_split_65 : decode cX2_split 65 = .ok (.iload_n 1, 1) := by decide +kernel
theorem dX2_split_66 : decode cX2_split 66 = .ok (.iastore, 1) := by decide +kernel
theorem dX2_split_67 : decode cX2_split 67 = .ok (.aload_n 0, 1) := by decide +kernel
theorem dX2_split_68 : decode cX2_split 68 = .ok (.dup, 1) := by decide +kernel
theorem dX2_split_69 : decode cX2_split 69 = .ok (.getfield 71, 3) := by decide +kernel
theorem dX2_split_72 : decode cX2_split 72 = .ok (.iconst 1, 1) := by decide +kernel
theorem dX2_split_73 : decode cX2_split 73 = .ok (.iadd, 1) := by decide +kernel
theorem dX2_split_74 : decode cX2_split 74 = .ok (.putfield 71, 3) := by decide +kernel
theorem dX2_split_77 : decode cX2_split 77 = .ok (.iload_n 3, 1) := by decide +kernel
theorem dX2_split_78 : decode cX2_split 78 = .ok (.istore_n 1, 1) := by decide +kernel
theorem dX2_split_79 : decode cX2_split 79 = .ok (.iinc 2 1, 3) := by decide +kernel
theorem dX2_split_82 : decode cX2_split 82 = .ok (.goto (-73), 3) := by decide +kernel
theorem dX2_split_85 : decode cX2_split 85 = .ok (.aload_n 0, 1) := by decide +kernel
theorem dX2_split_86 : decode cX2_split 86 = .ok (.getfield 15, 3) := by decide +kernel
theorem dX2_split_89 : decode cX2_split 89 = .ok (.aload_n 0, 1) := by decide +kernel
theorem dX2_split_90 : decode cX2_split 90 = .ok (.getfield 71, 3) := by decide +kernel
theorem dX2_split_93 : decode cX2_split 93 = .ok (.bipush 20, 2) := by decide +kernel
theorem dX2_split_95 : decode cX2_split 95 = .ok (.iastore, 1) := by decide +kernel
theorem dX2_split_96 : decode cX2_split 96 = .ok (.aload_n 0, 1) := by decide +kernel
theorem dX2_split_97 : decode cX2_split 97 = .ok (.getfield 18, 3) := by decide +kernel
theorem dX2_split_100 : decode cX2_split 100 = .ok (.aload_n 0, 1) := by decide +kernel
theorem dX2_split_101 : decode cX2_split 101 = .ok (.getfield 71, 3) := by decide +kernel
theorem dX2_split_104 : decode cX2_split 104 = .ok (.aload_n 0, 1) := by decide +kernel
theorem dX2_split_105 : decode cX2_split 105 = .ok (.getfield 27, 3) := by decide +kernel
theorem dX2_split_108 : decode cX2_split 108 = .ok (.iastore, 1) := by decide +kernel
theorem dX2_split_109 : decode cX2_split 109 = .ok (.return_, 1) := by decide +kernel
theorem dX2_isBlank_0 : decode cX2_isBlank 0 = .ok (.iload_n 0, 1) := by decide +kernel
theorem dX2_isBlank_1 : decode cX2_isBlank 1 = .ok (.bipush 32, 2) := by decide +kernel
theorem dX2_isBlank_3 : decode cX2_isBlank 3 = .ok (.if_icmp .eq 9, 3) := by decide +kernel
theorem dX2_isBlank_6 : decode cX2_isBlank 6 = .ok (.iload_n 0, 1) := by decide +kernel
theorem dX2_isBlank_7 : decode cX2_isBlank 7 = .ok (.bipush 10, 2) := by decide +kernel
theorem dX2_isBlank_9 : decode cX2_isBlank 9 = .ok (.if_icmp .ne 7, 3) := by decide +kernel
theorem dX2_isBlank_12 : decode cX2_isBlank 12 = .ok (.iconst 1, 1) := by decide +kernel
theorem dX2_isBlank_13 : decode cX2_isBlank 13 = .ok (.goto 4, 3) := by decide +kernel
theorem dX2_isBlank_16 : decode cX2_isBlank 16 = .ok (.iconst 0, 1) := by decide +kernel
theorem dX2_isBlank_17 : decode cX2_isBlank 17 = .ok (.ireturn, 1) := by decide +kernel
theorem dX2_isLetter_0 : decode cX2_isLetter 0 = .ok (.iload_n 0, 1) := by decide +kernel
theorem dX2_isLetter_1 : decode cX2_isLetter 1 = .ok (.bipush 97, 2) := by decide +kernel
theorem dX2_isLetter_3 : decode cX2_isLetter 3 = .ok (.if_icmp .lt 13, 3) := by decide +kernel
theorem dX2_isLetter_6 : decode cX2_isLetter 6 = .ok (.iload_n 0, 1) := by decide +kernel
theorem dX2_isLetter_7 : decode cX2_isLetter 7 = .ok (.bipush 122, 2) := by decide +kernel
theorem dX2_isLetter_9 : decode cX2_isLetter 9 = .ok (.if_icmp .gt 7, 3) := by decide +kernel
theorem dX2_isLetter_12 : decode cX2_isLetter 12 = .ok (.iconst 1, 1) := by decide +kernel
theorem dX2_isLetter_13 : decode cX2_isLetter 13 = .ok (.goto 4, 3) := by decide +kernel
theorem dX2_isLetter_16 : decode cX2_isLetter 16 = .ok (.iconst 0, 1) := by decide +kernel
theorem dX2_isLetter_17 : decode cX2_isLetter 17 = .ok (.ireturn, 1) := by decide +kernel
theorem dX2_isDigit_0 : decode cX2_isDigit 0 = .ok (.iload_n 0, 1) := by decide +kernel
theorem dX2_isDigit_1 : decode cX2_isDigit 1 = .ok (.bipush 48, 2) := by decide +kernel
theorem dX2_isDigit_3 : decode cX2_isDigit 3 = .ok (.if_icmp .lt 13, 3) := by decide +kernel
theorem dX2_isDigit_6 : decode cX2_isDigit 6 = .ok (.iload_n 0, 1) := by decide +kernel
theorem dX2_isDigit_7 : decode cX2_isDigit 7 = .ok (.bipush 57, 2) := by decide +kernel
theorem dX2_isDigit_9 : decode cX2_isDigit 9 = .ok (.if_icmp .gt 7, 3) := by decide +kernel
theorem dX2_isDigit_12 : decode cX2_isDigit 12 = .ok (.iconst 1, 1) := by decide +kernel
theorem dX2_isDigit_13 : decode cX2_isDigit 13 = .ok (.goto 4, 3) := by decide +kernel
theorem dX2_isDigit_16 : decode cX2_isDigit 16 = .ok (.iconst 0, 1) := by decide +kernel
theorem dX2_isDigit_17 : decode cX2_isDigit 17 = .ok (.ireturn, 1) := by decide +kernel
theorem dX2_endOfToken_0 : decode cX2_endOfToken 0 = .ok (.aload_n 0, 1) := by decide +kernel
theorem dX2_endOfToken_1 : decode cX2_endOfToken 1 = .ok (.getfield 11, 3) := by decide +kernel
theorem dX2_endOfToken_4 : decode cX2_endOfToken 4 = .ok (.iload_n 1, 1) := by decide +kernel
theorem dX2_endOfToken_5 : decode cX2_endOfToken 5 = .ok (.iaload, 1) := by decide +kernel
theorem dX2_endOfToken_6 : decode cX2_endOfToken 6 = .ok (.invokestatic 86, 3) := by decide +kernel
theorem dX2_endOfToken_9 : decode cX2_endOfToken 9 = .ok (.istore_n 2, 1) := by decide +kernel
theorem dX2_endOfToken_10 : decode cX2_endOfToken 10 = .ok (.aload_n 0, 1) := by decide +kernel
theorem dX2_endOfToken_11 : decode cX2_endOfToken 11 = .ok (.getfield 11, 3) := by decide +kernel
theorem dX2_endOfToken_14 : decode cX2_endOfToken 14 = .ok (.iload_n 1, 1) := by decide +kernel
theorem dX2_endOfToken_15 : decode cX2_endOfToken 15 = .ok (.iaload, 1) := by decide +kernel
theorem dX2_endOfToken_16 : decode cX2_endOfToken 16 = .ok (.invokestatic 89, 3) := by decide +kernel
theorem dX2_endOfToken_19 : decode cX2_endOfToken 19 = .ok (.istore_n 3, 1) := by decide +kernel
theorem dX2_endOfToken_20 : decode cX2_endOfToken 20 = .ok (.iload_n 1, 1) := by decide +kernel
theorem dX2_endOfToken_21 : decode cX2_endOfToken 21 = .ok (.iconst 1, 1) := by decide +kernel
theorem dX2_endOfToken_22 : decode cX2_endOfToken 22 = .ok (.iadd, 1) := by decide +kernel
theorem dX2_endOfToken_23 : decode cX2_endOfToken 23 = .ok (.istore 4, 2) := by decide +kernel
theorem dX2_endOfToken_25 : decode cX2_endOfToken 25 = .ok (.iload 4, 2) := by decide +kernel
theorem dX2_endOfToken_27 : decode cX2_endOfToken 27 = .ok (.aload_n 0, 1) := by decide +kernel
theorem dX2_endOfToken_28 : decode cX2_endOfToken 28 = .ok (.getfield 27, 3) := by decide +kernel
theorem dX2_endOfToken_31 : decode cX2_endOfToken 31 = .ok (.if_icmp .ge 43, 3) := by decide +kernel
theorem dX2_endOfToken_34 : decode cX2_endOfToken 34 = .ok (.iload_n 2, 1) := by decide +kernel
theorem dX2_endOfToken_35 : decode cX2_endOfToken 35 = .ok (.ifCond .eq 16, 3) := by decide +kernel
theorem dX2_endOfToken_38 : decode cX2_endOfToken 38 = .ok (.aload_n 0, 1) := by decide +kernel
theorem dX2_endOfToken_39 : decode cX2_endOfToken 39 = .ok (.getfield 11, 3) := by decide +kernel
theorem dX2_endOfToken_42 : decode cX2_endOfToken 42 = .ok (.iload 4, 2) := by decide +kernel
theorem dX2_endOfToken_44 : decode cX2_endOfToken 44 = .ok (.iaload, 1) := by decide +kernel
theorem dX2_endOfToken_45 : decode cX2_endOfToken 45 = .ok (.invokestatic 86, 3) := by decide +kernel
theorem dX2_endOfToken_48 : decode cX2_endOfToken 48 = .ok (.ifCond .ne 20, 3) := by decide +kernel
theorem dX2_endOfToken_51 : decode cX2_endOfToken 51 = .ok (.iload_n 3, 1) := by decide +kernel
theorem dX2_endOfToken_52 : decode cX2_endOfToken 52 = .ok (.ifCond .eq 22, 3) := by decide +kernel
theorem dX2_endOfToken_55 : decode cX2_endOfToken 55 = .ok (.aload_n 0, 1) := by decide +kernel
theorem dX2_endOfToken_56 : decode cX2_endOfToken 56 = .ok (.getfield 11, 3) := by decide +kernel
theorem dX2_endOfToken_59 : decode cX2_endOfToken 59 = .ok (.iload 4, 2) := by decide +kernel
theorem dX2_endOfToken_61 : decode cX2_endOfToken 61 = .ok (.iaload, 1) := by decide +kernel
theorem dX2_endOfToken_62 : decode cX2_endOfToken 62 = .ok (.invokestatic 89, 3) := by decide +kernel
theorem dX2_endOfToken_65 : decode cX2_endOfToken 65 = .ok (.ifCond .eq 9, 3) := by decide +kernel
theorem dX2_endOfToken_68 : decode cX2_endOfToken 68 = .ok (.iinc 4 1, 3) := by decide +kernel
theorem dX2_endOfToken_71 : decode cX2_endOfToken 71 = .ok (.goto (-46), 3) := by decide +kernel
theorem dX2_endOfToken_74 : decode cX2_endOfToken 74 = .ok (.iload 4, 2) := by decide +kernel
theorem dX2_endOfToken_76 : decode cX2_endOfToken 76 = .ok (.ireturn, 1) := by decide +kernel
theorem dX2_tokenOf_0 : decode cX2_tokenOf 0 = .ok (.aload_n 0, 1) := by decide +kernel
theorem dX2_tokenOf_1 : decode cX2_tokenOf 1 = .ok (.getfield 11, 3) := by decide +kernel
theorem dX2_tokenOf_4 : decode cX2_tokenOf 4 = .ok (.iload_n 1, 1) := by decide +kernel
theorem dX2_tokenOf_5 : decode cX2_tokenOf 5 = .ok (.iaload, 1) := by decide +kernel
theorem dX2_tokenOf_6 : decode cX2_tokenOf 6 = .ok (.istore_n 3, 1) := by decide +kernel
theorem dX2_tokenOf_7 : decode cX2_tokenOf 7 = .ok (.iload_n 3, 1) := by decide +kernel
theorem dX2_tokenOf_8 : decode cX2_tokenOf 8 = .ok (.invokestatic 86, 3) := by decide +kernel
theorem dX2_tokenOf_11 : decode cX2_tokenOf 11 = .ok (.ifCond .eq 10, 3) := by decide +kernel
theorem dX2_tokenOf_14 : decode cX2_tokenOf 14 = .ok (.aload_n 0, 1) := by decide +kernel
theorem dX2_tokenOf_15 : decode cX2_tokenOf 15 = .ok (.iload_n 1, 1) := by decide +kernel
theorem dX2_tokenOf_16 : decode cX2_tokenOf 16 = .ok (.iload_n 2, 1) := by decide +kernel
theorem dX2_tokenOf_17 : decode cX2_tokenOf 17 = .ok (.invokevirtual 92, 3) := by decide +kernel
theorem dX2_tokenOf_20 : decode cX2_tokenOf 20 = .ok (.ireturn, 1) := by decide +kernel
theorem dX2_tokenOf_21 : decode cX2_tokenOf 21 = .ok (.iload_n 3, 1) := by decide +kernel
theorem dX2_tokenOf_22 : decode cX2_tokenOf 22 = .ok (.invokestatic 89, 3) := by decide +kernel
theorem dX2_tokenOf_25 : decode cX2_tokenOf 25 = .ok (.ifCond .eq 25, 3) := by decide +kernel
theorem dX2_tokenOf_28 : decode cX2_tokenOf 28 = .ok (.iload_n 2, 1) := by decide +kernel
theorem dX2_tokenOf_29 : decode cX2_tokenOf 29 = .ok (.iload_n 1, 1) := by decide +kernel
theorem dX2_tokenOf_30 : decode cX2_tokenOf 30 = .ok (.isub, 1) := by decide +kernel
theorem dX2_tokenOf_31 : decode cX2_tokenOf 31 = .ok (.iconst 4, 1) := by decide +kernel
theorem dX2_tokenOf_32 : decode cX2_tokenOf 32 = .ok (.if_icmp .le 8, 3) := by decide +kernel
theorem dX2_tokenOf_35 : decode cX2_tokenOf 35 = .ok (.bipush 21, 2) := by decide +kernel
theorem dX2_tokenOf_37 : decode cX2_tokenOf 37 = .ok (.goto 12, 3) := by decide +kernel
theorem dX2_tokenOf_40 : decode cX2_tokenOf 40 = .ok (.bipush 100, 2) := by decide +kernel
theorem dX2_tokenOf_42 : decode cX2_tokenOf 42 = .ok (.aload_n 0, 1) := by decide +kernel
theorem dX2_tokenOf_43 : decode cX2_tokenOf 43 = .ok (.iload_n 1, 1) := by decide +kernel
theorem dX2_tokenOf_44 : decode cX2_tokenOf 44 = .ok (.iload_n 2, 1) := by decide +kernel
theorem dX2_tokenOf_45 : decode cX2_tokenOf 45 = .ok (.invokevirtual 95, 3) := by decide +kernel
theorem dX2_tokenOf_48 : decode cX2_tokenOf 48 = .ok (.iadd, 1) := by decide +kernel
theorem dX2_tokenOf_49 : decode cX2_tokenOf 49 = .ok (.ireturn, 1) := by decide +kernel
theorem dX2_tokenOf_50 : decode cX2_tokenOf 50 = .ok (.ldc 98, 2) := by decide +kernel
theorem dX2_tokenOf_52 : decode cX2_tokenOf 52 = .ok (.iload_n 3, 1) := by decide +kernel
theorem dX2_tokenOf_53 : decode cX2_tokenOf 53 = .ok (.i2c, 1) := by decide +kernel
theorem dX2_tokenOf_54 : decode cX2_tokenOf 54 = .ok (.invokevirtual 100, 3) := by decide +kernel
theorem dX2_tokenOf_57 : decode cX2_tokenOf 57 = .ok (.ifCond .ge 8, 3) := by decide +kernel
theorem dX2_tokenOf_60 : decode cX2_tokenOf 60 = .ok (.bipush 21, 2) := by decide +kernel
theorem dX2_tokenOf_62 : decode cX2_tokenOf 62 = .ok (.goto 4, 3) := by decide +kernel
theorem dX2_tokenOf_65 : decode cX2_tokenOf 65 = .ok (.iload_n 3, 1) := by decide +kernel
theorem dX2_tokenOf_66 : decode cX2_tokenOf 66 = .ok (.ireturn, 1) := by decide +kernel
theorem dX2_numberOf_0 : decode cX2_numberOf 0 = .ok (.iconst 0, 1) := by decide +kernel
theorem dX2_numberOf_1 : decode cX2_numberOf 1 = .ok (.istore_n 3, 1) := by decide +kernel
theorem dX2_numberOf_2 : decode cX2_numberOf 2 = .ok (.iload_n 1, 1) := by decide +kernel
theorem dX2_numberOf_3 : decode cX2_numberOf 3 = .ok (.istore 4, 2) := by decide +kernel
theorem dX2_numberOf_5 : decode cX2_numberOf 5 = .ok (.iload 4, 2) := by decide +kernel
theorem dX2_numberOf_7 : decode cX2_numberOf 7 = .ok (.iload_n 2, 1) := by decide +kernel
theorem dX2_numberOf_8 : decode cX2_numberOf 8 = .ok (.if_icmp .ge 25, 3) := by decide +kernel
theorem dX2_numberOf_11 : decode cX2_numberOf 11 = .ok (.iload_n 3, 1) := by decide +kernel
theorem dX2_numberOf_12 : decode cX2_numberOf 12 = .ok (.bipush 10, 2) := by decide +kernel
theorem dX2_numberOf_14 : decode cX2_numberOf 14 = .ok (.imul, 1) := by decide +kernel
theorem dX2_numberOf_15 : decode cX2_numberOf 15 = .ok (.aload_n 0, 1) := by decide +kernel
theorem dX2_numberOf_16 : decode cX2_numberOf 16 = .ok (.getfield 11, 3) := by decide +kernel
theorem dX2_numberOf_19 : decode cX2_numberOf 19 = .ok (.iload 4, 2) := by decide +kernel
theorem dX2_numberOf_21 : decode cX2_numberOf 21 = .ok (.iaload, 1) := by decide +kernel
theorem dX2_numberOf_22 : decode cX2_numberOf 22 = .ok (.iadd, 1) := by decide +kernel
theorem dX2_numberOf_23 : decode cX2_numberOf 23 = .ok (.bipush 48, 2) := by decide +kernel
theorem dX2_numberOf_25 : decode cX2_numberOf 25 = .ok (.isub, 1) := by decide +kernel
theorem dX2_numberOf_26 : decode cX2_numberOf 26 = .ok (.istore_n 3, 1) := by decide +kernel
theorem dX2_numberOf_27 : decode cX2_numberOf 27 = .ok (.iinc 4 1, 3) := by decide +kernel
theorem dX2_numberOf_30 : decode cX2_numberOf 30 = .ok (.goto (-25), 3) := by decide +kernel
theorem dX2_numberOf_33 : decode cX2_numberOf 33 = .ok (.iload_n 3, 1) := by decide +kernel
theorem dX2_numberOf_34 : decode cX2_numberOf 34 = .ok (.ireturn, 1) := by decide +kernel
theorem dX2_wordOf_0 : decode cX2_wordOf 0 = .ok (.iconst 0, 1) := by decide +kernel
theorem dX2_wordOf_1 : decode cX2_wordOf 1 = .ok (.istore_n 3, 1) := by decide +kernel
theorem dX2_wordOf_2 : decode cX2_wordOf 2 = .ok (.iconst 0, 1) := by decide +kernel
theorem dX2_wordOf_3 : decode cX2_wordOf 3 = .ok (.istore 4, 2) := by decide +kernel
theorem dX2_wordOf_5 : decode cX2_wordOf 5 = .ok (.iconst 0, 1) := by decide +kernel
theorem dX2_wordOf_6 : decode cX2_wordOf 6 = .ok (.istore 5, 2) := by decide +kernel
theorem dX2_wordOf_8 : decode cX2_wordOf 8 = .ok (.iload 5, 2) := by decide +kernel
theorem dX2_wordOf_10 : decode cX2_wordOf 10 = .ok (.ldc 105, 2) := by decide +kernel
theorem dX2_wordOf_12 : decode cX2_wordOf 12 = .ok (.invokevirtual 107, 3) := by decide +kernel
theorem dX2_wordOf_15 : decode cX2_wordOf 15 = .ok (.if_icmp .ge 54, 3) := by decide +kernel
theorem dX2_wordOf_18 : decode cX2_wordOf 18 = .ok (.ldc 105, 2) := by decide +kernel
theorem dX2_wordOf_20 : decode cX2_wordOf 20 = .ok (.iload 5, 2) := by decide +kernel
theorem dX2_wordOf_22 : decode cX2_wordOf 22 = .ok (.invokevirtual 110, 3) := by decide +kernel
theorem dX2_wordOf_25 : decode cX2_wordOf 25 = .ok (.bipush 32, 2) := by decide +kernel
theorem dX2_wordOf_27 : decode cX2_wordOf 27 = .ok (.if_icmp .ne 36, 3) := by decide +kernel
theorem dX2_wordOf_30 : decode cX2_wordOf 30 = .ok (.iload 5, 2) := by decide +kernel
theorem dX2_wordOf_32 : decode cX2_wordOf 32 = .ok (.iload 4, 2) := by decide +kernel
theorem dX2_wordOf_34 : decode cX2_wordOf 34 = .ok (.isub, 1) := by decide +kernel
theorem dX2_wordOf_35 : decode cX2_wordOf 35 = .ok (.iload_n 2, 1) := by decide +kernel
theorem dX2_wordOf_36 : decode cX2_wordOf 36 = .ok (.iload_n 1, 1) := by decide +kernel
theorem dX2_wordOf_37 : decode cX2_wordOf 37 = .ok (.isub, 1) := by decide +kernel
theorem dX2_wordOf_38 : decode cX2_wordOf 38 = .ok (.if_icmp .ne 16, 3) := by decide +kernel
theorem dX2_wordOf_41 : decode cX2_wordOf 41 = .ok (.aload_n 0, 1) := by decide +kernel
theorem dX2_wordOf_42 : decode cX2_wordOf 42 = .ok (.iload 4, 2) := by decide +kernel
theorem dX2_wordOf_44 : decode cX2_wordOf 44 = .ok (.iload_n 1, 1) := by decide +kernel
theorem dX2_wordOf_45 : decode cX2_wordOf 45 = .ok (.iload_n 2, 1) := by decide +kernel
theorem dX2_wordOf_46 : decode cX2_wordOf 46 = .ok (.invokevirtual 114, 3) := by decide +kernel
theorem dX2_wordOf_49 : decode cX2_wordOf 49 = .ok (.ifCond .eq 5, 3) := by decide +kernel
theorem dX2_wordOf_52 : decode cX2_wordOf 52 = .ok (.iload_n 3, 1) := by decide +kernel
theorem dX2_wordOf_53 : decode cX2_wordOf 53 = .ok (.ireturn, 1) := by decide +kernel
theorem dX2_wordOf_54 : decode cX2_wordOf 54 = .ok (.iinc 3 1, 3) := by decide +kernel
theorem dX2_wordOf_57 : decode cX2_wordOf 57 = .ok (.iload 5, 2) := by decide +kernel
theorem dX2_wordOf_59 : decode cX2_wordOf 59 = .ok (.iconst 1, 1) := by decide +kernel
theorem dX2_wordOf_60 : decode cX2_wordOf 60 = .ok (.iadd, 1) := by decide +kernel
theorem dX2_wordOf_61 : decode cX2_wordOf 61 = .ok (.istore 4, 2) := by decide +kernel
theorem dX2_wordOf_63 : decode cX2_wordOf 63 = .ok (.iinc 5 1, 3) := by decide +kernel
theorem dX2_wordOf_66 : decode cX2_wordOf 66 = .ok (.goto (-58), 3) := by decide +kernel
theorem dX2_wordOf_69 : decode cX2_wordOf 69 = .ok (.bipush 21, 2) := by decide +kernel
theorem dX2_wordOf_71 : decode cX2_wordOf 71 = .ok (.ireturn, 1) := by decide +kernel
theorem dX2_stands_0 : decode cX2_stands 0 = .ok (.iload_n 2, 1) := by decide +kernel
theorem dX2_stands_1 : decode cX2_stands 1 = .ok (.istore 4, 2) := by decide +kernel
theorem dX2_stands_3 : decode cX2_stands 3 = .ok (.iload 4, 2) := by decide +kernel
theorem dX2_stands_5 : decode cX2_stands 5 = .ok (.iload_n 3, 1) := by decide +kernel
theorem dX2_stands_6 : decode cX2_stands 6 = .ok (.if_icmp .ge 32, 3) := by decide +kernel
theorem dX2_stands_9 : decode cX2_stands 9 = .ok (.aload_n 0, 1) := by decide +kernel
theorem dX2_stands_10 : decode cX2_stands 10 = .ok (.getfield 11, 3) := by decide +kernel
theorem dX2_stands_13 : decode cX2_stands 13 = .ok (.iload 4, 2) := by decide +kernel
theorem dX2_stands_15 : decode cX2_stands 15 = .ok (.iaload, 1) := by decide +kernel
theorem dX2_stands_16 : decode cX2_stands 16 = .ok (.ldc 105, 2) := by decide +kernel
theorem dX2_stands_18 : decode cX2_stands 18 = .ok (.iload_n 1, 1) := by decide +kernel
theorem dX2_stands_19 : decode cX2_stands 19 = .ok (.iload 4, 2) := by decide +kernel
theorem dX2_stands_21 : decode cX2_stands 21 = .ok (.iadd, 1) := by decide +kernel
theorem dX2_stands_22 : decode cX2_stands 22 = .ok (.iload_n 2, 1) := by decide +kernel
theorem dX2_stands_23 : decode cX2_stands 23 = .ok (.isub, 1) := by decide +kernel
theorem dX2_stands_24 : decode cX2_stands 24 = .ok (.invokevirtual 110, 3) := by decide +kernel
theorem dX2_stands_27 : decode cX2_stands 27 = .ok (.if_icmp .eq 5, 3) := by decide +kernel
theorem dX2_stands_30 : decode cX2_stands 30 = .ok (.iconst 0, 1) := by decide +kernel
theorem dX2_stands_31 : decode cX2_stands 31 = .ok (.ireturn, 1) := by decide +kernel
theorem dX2_stands_32 : decode cX2_stands 32 = .ok (.iinc 4 1, 3) := by decide +kernel
theorem dX2_stands_35 : decode cX2_stands 35 = .ok (.goto (-32), 3) := by decide +kernel
theorem dX2_stands_38 : decode cX2_stands 38 = .ok (.iconst 1, 1) := by decide +kernel
theorem dX2_stands_39 : decode cX2_stands 39 = .ok (.ireturn, 1) := by decide +kernel
theorem dX2_token_0 : decode cX2_token 0 = .ok (.aload_n 0, 1) := by decide +kernel
theorem dX2_token_1 : decode cX2_token 1 = .ok (.getfield 37, 3) := by decide +kernel
theorem dX2_token_4 : decode cX2_token 4 = .ok (.iconst (-1), 1) := by decide +kernel
theorem dX2_token_5 : decode cX2_token 5 = .ok (.if_icmp .ne 15, 3) := by decide +kernel
theorem dX2_token_8 : decode cX2_token 8 = .ok (.aload_n 0, 1) := by decide +kernel
theorem dX2_token_9 : decode cX2_token 9 = .ok (.getfield 15, 3) := by decide +kernel
theorem dX2_token_12 : decode cX2_token 12 = .ok (.aload_n 0, 1) := by decide +kernel
theorem dX2_token_13 : decode cX2_token 13 = .ok (.getfield 34, 3) := by decide +kernel
end
section
theorem dX2_token_16 : decode cX2_token 16 = .ok (.iaload, 1) := by decide +kernel
theorem dX2_token_17 : decode cX2_token 17 = .ok (.goto 5, 3) := by decide +kernel
theorem dX2_token_20 : decode cX2_token 20 = .ok (.bipush 21, 2) := by decide +kernel
theorem dX2_token_22 : decode cX2_token 22 = .ok (.ireturn, 1) := by decide +kernel
theorem dX2_fail_0 : decode cX2_fail 0 = .ok (.aload_n 0, 1) := by decide +kernel
theorem dX2_fail_1 : decode cX2_fail 1 = .ok (.getfield 37, 3) := by decide +kernel
theorem dX2_fail_4 : decode cX2_fail 4 = .ok (.iconst (-1), 1) := by decide +kernel
theorem dX2_fail_5 : decode cX2_fail 5 = .ok (.if_icmp .ne 16, 3) := by decide +kernel
theorem dX2_fail_8 : decode cX2_fail 8 = .ok (.aload_n 0, 1) := by decide +kernel
theorem dX2_fail_9 : decode cX2_fail 9 = .ok (.aload_n 0, 1) := by decide +kernel
theorem dX2_fail_10 : decode cX2_fail 10 = .ok (.getfield 18, 3) := by decide +kernel
theorem dX2_fail_13 : decode cX2_fail 13 = .ok (.aload_n 0, 1) := by decide +kernel
theorem dX2_fail_14 : decode cX2_fail 14 = .ok (.getfield 34, 3) := by decide +kernel
theorem dX2_fail_17 : decode cX2_fail 17 = .ok (.iaload, 1) := by decide +kernel
theorem dX2_fail_18 : decode cX2_fail 18 = .ok (.putfield 37, 3) := by decide +kernel
theorem dX2_fail_21 : decode cX2_fail 21 = .ok (.return_, 1) := by decide +kernel
theorem dX2_next_0 : decode cX2_next 0 = .ok (.aload_n 0, 1) := by decide +kernel
theorem dX2_next_1 : decode cX2_next 1 = .ok (.getfield 34, 3) := by decide +kernel
theorem dX2_next_4 : decode cX2_next 4 = .ok (.aload_n 0, 1) := by decide +kernel
theorem dX2_next_5 : decode cX2_next 5 = .ok (.getfield 71, 3) := by decide +kernel
theorem dX2_next_8 : decode cX2_next 8 = .ok (.if_icmp .ge 13, 3) := by decide +kernel
theorem dX2_next_11 : decode cX2_next 11 = .ok (.aload_n 0, 1) := by decide +kernel
theorem dX2_next_12 : decode cX2_next 12 = .ok (.dup, 1) := by decide +kernel
theorem dX2_next_13 : decode cX2_next 13 = .ok (.getfield 34, 3) := by decide +kernel
theorem dX2_next_16 : decode cX2_next 16 = .ok (.iconst 1, 1) := by decide +kernel
theorem dX2_next_17 : decode cX2_next 17 = .ok (.iadd, 1) := by decide +kernel
theorem dX2_next_18 : decode cX2_next 18 = .ok (.putfield 34, 3) := by decide +kernel
theorem dX2_next_21 : decode cX2_next 21 = .ok (.return_, 1) := by decide +kernel
theorem dX2_take_0 : decode cX2_take 0 = .ok (.aload_n 0, 1) := by decide +kernel
theorem dX2_take_1 : decode cX2_take 1 = .ok (.invokevirtual 53, 3) := by decide +kernel
theorem dX2_take_4 : decode cX2_take 4 = .ok (.iload_n 1, 1) := by decide +kernel
theorem dX2_take_5 : decode cX2_take 5 = .ok (.if_icmp .ne 10, 3) := by decide +kernel
theorem dX2_take_8 : decode cX2_take 8 = .ok (.aload_n 0, 1) := by decide +kernel
theorem dX2_take_9 : decode cX2_take 9 = .ok (.invokevirtual 118, 3) := by decide +kernel
theorem dX2_take_12 : decode cX2_take 12 = .ok (.goto 7, 3) := by decide +kernel
theorem dX2_take_15 : decode cX2_take 15 = .ok (.aload_n 0, 1) := by decide +kernel
theorem dX2_take_16 : decode cX2_take 16 = .ok (.invokevirtual 57, 3) := by decide +kernel
theorem dX2_take_19 : decode cX2_take 19 = .ok (.return_, 1) := by decide +kernel
theorem dX2_emit_0 : decode cX2_emit 0 = .ok (.aload_n 0, 1) := by decide +kernel
theorem dX2_emit_1 : decode cX2_emit 1 = .ok (.getfield 40, 3) := by decide +kernel
theorem dX2_emit_4 : decode cX2_emit 4 = .ok (.aload_n 0, 1) := by decide +kernel
theorem dX2_emit_5 : decode cX2_emit 5 = .ok (.getfield 21, 3) := by decide +kernel
theorem dX2_emit_8 : decode cX2_emit 8 = .ok (.arraylength, 1) := by decide +kernel
theorem dX2_emit_9 : decode cX2_emit 9 = .ok (.if_icmp .ge 23, 3) := by decide +kernel
theorem dX2_emit_12 : decode cX2_emit 12 = .ok (.aload_n 0, 1) := by decide +kernel
theorem dX2_emit_13 : decode cX2_emit 13 = .ok (.getfield 21, 3) := by decide +kernel
theorem dX2_emit_16 : decode cX2_emit 16 = .ok (.aload_n 0, 1) := by decide +kernel
theorem dX2_emit_17 : decode cX2_emit 17 = .ok (.getfield 40, 3) := by decide +kernel
theorem dX2_emit_20 : decode cX2_emit 20 = .ok (.iload_n 1, 1) := by decide +kernel
theorem dX2_emit_21 : decode cX2_emit 21 = .ok (.iastore, 1) := by decide +kernel
theorem dX2_emit_22 : decode cX2_emit 22 = .ok (.aload_n 0, 1) := by decide +kernel
theorem dX2_emit_23 : decode cX2_emit 23 = .ok (.dup, 1) := by decide +kernel
theorem dX2_emit_24 : decode cX2_emit 24 = .ok (.getfield 40, 3) := by decide +kernel
theorem dX2_emit_27 : decode cX2_emit 27 = .ok (.iconst 1, 1) := by decide +kernel
theorem dX2_emit_28 : decode cX2_emit 28 = .ok (.iadd, 1) := by decide +kernel
theorem dX2_emit_29 : decode cX2_emit 29 = .ok (.putfield 40, 3) := by decide +kernel
theorem dX2_emit_32 : decode cX2_emit 32 = .ok (.return_, 1) := by decide +kernel
theorem dX2_phrase_0 : decode cX2_phrase 0 = .ok (.iload_n 1, 1) := by decide +kernel
theorem dX2_phrase_1 : decode cX2_phrase 1 = .ok (.iconst 2, 1) := by decide +kernel
theorem dX2_phrase_2 : decode cX2_phrase 2 = .ok (.if_icmp .ne 9, 3) := by decide +kernel
theorem dX2_phrase_5 : decode cX2_phrase 5 = .ok (.aload_n 0, 1) := by decide +kernel
theorem dX2_phrase_6 : decode cX2_phrase 6 = .ok (.iload_n 2, 1) := by decide +kernel
theorem dX2_phrase_7 : decode cX2_phrase 7 = .ok (.invokevirtual 121, 3) := by decide +kernel
theorem dX2_phrase_10 : decode cX2_phrase 10 = .ok (.return_, 1) := by decide +kernel
theorem dX2_phrase_11 : decode cX2_phrase 11 = .ok (.iload_n 1, 1) := by decide +kernel
theorem dX2_phrase_12 : decode cX2_phrase 12 = .ok (.iconst 5, 1) := by decide +kernel
theorem dX2_phrase_13 : decode cX2_phrase 13 = .ok (.if_icmp .lt 9, 3) := by decide +kernel
theorem dX2_phrase_16 : decode cX2_phrase 16 = .ok (.aload_n 0, 1) := by decide +kernel
theorem dX2_phrase_17 : decode cX2_phrase 17 = .ok (.iload_n 2, 1) := by decide +kernel
theorem dX2_phrase_18 : decode cX2_phrase 18 = .ok (.invokevirtual 124, 3) := by decide +kernel
theorem dX2_phrase_21 : decode cX2_phrase 21 = .ok (.return_, 1) := by decide +kernel
theorem dX2_phrase_22 : decode cX2_phrase 22 = .ok (.aload_n 0, 1) := by decide +kernel
theorem dX2_phrase_23 : decode cX2_phrase 23 = .ok (.iload_n 1, 1) := by decide +kernel
theorem dX2_phrase_24 : decode cX2_phrase 24 = .ok (.iconst 1, 1) := by decide +kernel
theorem dX2_phrase_25 : decode cX2_phrase 25 = .ok (.iadd, 1) := by decide +kernel
theorem dX2_phrase_26 : decode cX2_phrase 26 = .ok (.iload_n 2, 1) := by decide +kernel
theorem dX2_phrase_27 : decode cX2_phrase 27 = .ok (.invokevirtual 49, 3) := by decide +kernel
theorem dX2_phrase_30 : decode cX2_phrase 30 = .ok (.iconst 0, 1) := by decide +kernel
theorem dX2_phrase_31 : decode cX2_phrase 31 = .ok (.istore_n 3, 1) := by decide +kernel
theorem dX2_phrase_32 : decode cX2_phrase 32 = .ok (.iload_n 3, 1) := by decide +kernel
theorem dX2_phrase_33 : decode cX2_phrase 33 = .ok (.sipush 160, 3) := by decide +kernel
theorem dX2_phrase_36 : decode cX2_phrase 36 = .ok (.if_icmp .ge 44, 3) := by decide +kernel
theorem dX2_phrase_39 : decode cX2_phrase 39 = .ok (.aload_n 0, 1) := by decide +kernel
theorem dX2_phrase_40 : decode cX2_phrase 40 = .ok (.invokevirtual 53, 3) := by decide +kernel
theorem dX2_phrase_43 : decode cX2_phrase 43 = .ok (.iload_n 1, 1) := by decide +kernel
theorem dX2_phrase_44 : decode cX2_phrase 44 = .ok (.invokestatic 127, 3) := by decide +kernel
theorem dX2_phrase_47 : decode cX2_phrase 47 = .ok (.ifCond .eq 33, 3) := by decide +kernel
theorem dX2_phrase_50 : decode cX2_phrase 50 = .ok (.aload_n 0, 1) := by decide +kernel
theorem dX2_phrase_51 : decode cX2_phrase 51 = .ok (.invokevirtual 53, 3) := by decide +kernel
theorem dX2_phrase_54 : decode cX2_phrase 54 = .ok (.istore 4, 2) := by decide +kernel
theorem dX2_phrase_56 : decode cX2_phrase 56 = .ok (.aload_n 0, 1) := by decide +kernel
theorem dX2_phrase_57 : decode cX2_phrase 57 = .ok (.invokevirtual 118, 3) := by decide +kernel
theorem dX2_phrase_60 : decode cX2_phrase 60 = .ok (.aload_n 0, 1) := by decide +kernel
theorem dX2_phrase_61 : decode cX2_phrase 61 = .ok (.iload_n 1, 1) := by decide +kernel
theorem dX2_phrase_62 : decode cX2_phrase 62 = .ok (.iconst 1, 1) := by decide +kernel
theorem dX2_phrase_63 : decode cX2_phrase 63 = .ok (.iadd, 1) := by decide +kernel
theorem dX2_phrase_64 : decode cX2_phrase 64 = .ok (.iload_n 2, 1) := by decide +kernel
theorem dX2_phrase_65 : decode cX2_phrase 65 = .ok (.invokevirtual 49, 3) := by decide +kernel
theorem dX2_phrase_68 : decode cX2_phrase 68 = .ok (.aload_n 0, 1) := by decide +kernel
theorem dX2_phrase_69 : decode cX2_phrase 69 = .ok (.iload 4, 2) := by decide +kernel
theorem dX2_phrase_71 : decode cX2_phrase 71 = .ok (.invokevirtual 131, 3) := by decide +kernel
theorem dX2_phrase_74 : decode cX2_phrase 74 = .ok (.iinc 3 1, 3) := by decide +kernel
theorem dX2_phrase_77 : decode cX2_phrase 77 = .ok (.goto (-45), 3) := by decide +kernel
theorem dX2_phrase_80 : decode cX2_phrase 80 = .ok (.return_, 1) := by decide +kernel
theorem dX2_joins_0 : decode cX2_joins 0 = .ok (.iload_n 1, 1) := by decide +kernel
theorem dX2_joins_1 : decode cX2_joins 1 = .ok (.tableswitch 89 0 4 #[35, 47, 89, 59, 77], 35) := by decide +kernel
theorem dX2_joins_36 : decode cX2_joins 36 = .ok (.iload_n 0, 1) := by decide +kernel
theorem dX2_joins_37 : decode cX2_joins 37 = .ok (.bipush 6, 2) := by decide +kernel
theorem dX2_joins_39 : decode cX2_joins 39 = .ok (.if_icmp .ne 7, 3) := by decide +kernel
theorem dX2_joins_42 : decode cX2_joins 42 = .ok (.iconst 1, 1) := by decide +kernel
theorem dX2_joins_43 : decode cX2_joins 43 = .ok (.goto 4, 3) := by decide +kernel
theorem dX2_joins_46 : decode cX2_joins 46 = .ok (.iconst 0, 1) := by decide +kernel
theorem dX2_joins_47 : decode cX2_joins 47 = .ok (.ireturn, 1) := by decide +kernel
theorem dX2_joins_48 : decode cX2_joins 48 = .ok (.iload_n 0, 1) := by decide +kernel
theorem dX2_joins_49 : decode cX2_joins 49 = .ok (.bipush 7, 2) := by decide +kernel
theorem dX2_joins_51 : decode cX2_joins 51 = .ok (.if_icmp .ne 7, 3) := by decide +kernel
theorem dX2_joins_54 : decode cX2_joins 54 = .ok (.iconst 1, 1) := by decide +kernel
theorem dX2_joins_55 : decode cX2_joins 55 = .ok (.goto 4, 3) := by decide +kernel
theorem dX2_joins_58 : decode cX2_joins 58 = .ok (.iconst 0, 1) := by decide +kernel
theorem dX2_joins_59 : decode cX2_joins 59 = .ok (.ireturn, 1) := by decide +kernel
theorem dX2_joins_60 : decode cX2_joins 60 = .ok (.iload_n 0, 1) := by decide +kernel
theorem dX2_joins_61 : decode cX2_joins 61 = .ok (.bipush 43, 2) := by decide +kernel
theorem dX2_joins_63 : decode cX2_joins 63 = .ok (.if_icmp .eq 9, 3) := by decide +kernel
theorem dX2_joins_66 : decode cX2_joins 66 = .ok (.iload_n 0, 1) := by decide +kernel
theorem dX2_joins_67 : decode cX2_joins 67 = .ok (.bipush 45, 2) := by decide +kernel
theorem dX2_joins_69 : decode cX2_joins 69 = .ok (.if_icmp .ne 7, 3) := by decide +kernel
theorem dX2_joins_72 : decode cX2_joins 72 = .ok (.iconst 1, 1) := by decide +kernel
theorem dX2_joins_73 : decode cX2_joins 73 = .ok (.goto 4, 3) := by decide +kernel
theorem dX2_joins_76 : decode cX2_joins 76 = .ok (.iconst 0, 1) := by decide +kernel
theorem dX2_joins_77 : decode cX2_joins 77 = .ok (.ireturn, 1) := by decide +kernel
theorem dX2_joins_78 : decode cX2_joins 78 = .ok (.iload_n 0, 1) := by decide +kernel
theorem dX2_joins_79 : decode cX2_joins 79 = .ok (.bipush 42, 2) := by decide +kernel
theorem dX2_joins_81 : decode cX2_joins 81 = .ok (.if_icmp .ne 7, 3) := by decide +kernel
theorem dX2_joins_84 : decode cX2_joins 84 = .ok (.iconst 1, 1) := by decide +kernel
theorem dX2_joins_85 : decode cX2_joins 85 = .ok (.goto 4, 3) := by decide +kernel
theorem dX2_joins_88 : decode cX2_joins 88 = .ok (.iconst 0, 1) := by decide +kernel
theorem dX2_joins_89 : decode cX2_joins 89 = .ok (.ireturn, 1) := by decide +kernel
theorem dX2_joins_90 : decode cX2_joins 90 = .ok (.iconst 0, 1) := by decide +kernel
theorem dX2_joins_91 : decode cX2_joins 91 = .ok (.ireturn, 1) := by decide +kernel
theorem dX2_denial_0 : decode cX2_denial 0 = .ok (.aload_n 0, 1) := by decide +kernel
theorem dX2_denial_1 : decode cX2_denial 1 = .ok (.invokevirtual 53, 3) := by decide +kernel
theorem dX2_denial_4 : decode cX2_denial 4 = .ok (.bipush 8, 2) := by decide +kernel
theorem dX2_denial_6 : decode cX2_denial 6 = .ok (.if_icmp .ne 25, 3) := by decide +kernel
theorem dX2_denial_9 : decode cX2_denial 9 = .ok (.aload_n 0, 1) := by decide +kernel
theorem dX2_denial_10 : decode cX2_denial 10 = .ok (.iload_n 1, 1) := by decide +kernel
theorem dX2_denial_11 : decode cX2_denial 11 = .ok (.invokevirtual 134, 3) := by decide +kernel
theorem dX2_denial_14 : decode cX2_denial 14 = .ok (.ifCond .eq 16, 3) := by decide +kernel
theorem dX2_denial_17 : decode cX2_denial 17 = .ok (.aload_n 0, 1) := by decide +kernel
theorem dX2_denial_18 : decode cX2_denial 18 = .ok (.iload_n 1, 1) := by decide +kernel
theorem dX2_denial_19 : decode cX2_denial 19 = .ok (.iconst 1, 1) := by decide +kernel
theorem dX2_denial_20 : decode cX2_denial 20 = .ok (.iadd, 1) := by decide +kernel
theorem dX2_denial_21 : decode cX2_denial 21 = .ok (.invokevirtual 121, 3) := by decide +kernel
theorem dX2_denial_24 : decode cX2_denial 24 = .ok (.aload_n 0, 1) := by decide +kernel
theorem dX2_denial_25 : decode cX2_denial 25 = .ok (.bipush 8, 2) := by decide +kernel
theorem dX2_denial_27 : decode cX2_denial 27 = .ok (.invokevirtual 131, 3) := by decide +kernel
theorem dX2_denial_30 : decode cX2_denial 30 = .ok (.return_, 1) := by decide +kernel
theorem dX2_denial_31 : decode cX2_denial 31 = .ok (.aload_n 0, 1) := by decide +kernel
theorem dX2_denial_32 : decode cX2_denial 32 = .ok (.iconst 3, 1) := by decide +kernel
theorem dX2_denial_33 : decode cX2_denial 33 = .ok (.iload_n 1, 1) := by decide +kernel
theorem dX2_denial_34 : decode cX2_denial 34 = .ok (.invokevirtual 49, 3) := by decide +kernel
theorem dX2_denial_37 : decode cX2_denial 37 = .ok (.aload_n 0, 1) := by decide +kernel
theorem dX2_denial_38 : decode cX2_denial 38 = .ok (.invokevirtual 53, 3) := by decide +kernel
theorem dX2_denial_41 : decode cX2_denial 41 = .ok (.istore_n 2, 1) := by decide +kernel
theorem dX2_denial_42 : decode cX2_denial 42 = .ok (.iload_n 2, 1) := by decide +kernel
theorem dX2_denial_43 : decode cX2_denial 43 = .ok (.bipush 60, 2) := by decide +kernel
theorem dX2_denial_45 : decode cX2_denial 45 = .ok (.if_icmp .eq 9, 3) := by decide +kernel
theorem dX2_denial_48 : decode cX2_denial 48 = .ok (.iload_n 2, 1) := by decide +kernel
theorem dX2_denial_49 : decode cX2_denial 49 = .ok (.bipush 61, 2) := by decide +kernel
theorem dX2_denial_51 : decode cX2_denial 51 = .ok (.if_icmp .ne 18, 3) := by decide +kernel
theorem dX2_denial_54 : decode cX2_denial 54 = .ok (.aload_n 0, 1) := by decide +kernel
theorem dX2_denial_55 : decode cX2_denial 55 = .ok (.invokevirtual 118, 3) := by decide +kernel
theorem dX2_denial_58 : decode cX2_denial 58 = .ok (.aload_n 0, 1) := by decide +kernel
theorem dX2_denial_59 : decode cX2_denial 59 = .ok (.iconst 3, 1) := by decide +kernel
theorem dX2_denial_60 : decode cX2_denial 60 = .ok (.iload_n 1, 1) := by decide +kernel
theorem dX2_denial_61 : decode cX2_denial 61 = .ok (.invokevirtual 49, 3) := by decide +kernel
theorem dX2_denial_64 : decode cX2_denial 64 = .ok (.aload_n 0, 1) := by decide +kernel
theorem dX2_denial_65 : decode cX2_denial 65 = .ok (.iload_n 2, 1) := by decide +kernel
theorem dX2_denial_66 : decode cX2_denial 66 = .ok (.invokevirtual 131, 3) := by decide +kernel
theorem dX2_denial_69 : decode cX2_denial 69 = .ok (.return_, 1) := by decide +kernel
theorem dX2_one_0 : decode cX2_one 0 = .ok (.aload_n 0, 1) := by decide +kernel
theorem dX2_one_1 : decode cX2_one 1 = .ok (.invokevirtual 53, 3) := by decide +kernel
theorem dX2_one_4 : decode cX2_one 4 = .ok (.istore_n 2, 1) := by decide +kernel
theorem dX2_one_5 : decode cX2_one 5 = .ok (.iload_n 2, 1) := by decide +kernel
theorem dX2_one_6 : decode cX2_one 6 = .ok (.bipush 6, 2) := by decide +kernel
theorem dX2_one_8 : decode cX2_one 8 = .ok (.if_icmp .lt 9, 3) := by decide +kernel
theorem dX2_one_11 : decode cX2_one 11 = .ok (.iload_n 2, 1) := by decide +kernel
theorem dX2_one_12 : decode cX2_one 12 = .ok (.bipush 100, 2) := by decide +kernel
theorem dX2_one_14 : decode cX2_one 14 = .ok (.if_icmp .lt 15, 3) := by decide +kernel
theorem dX2_one_17 : decode cX2_one 17 = .ok (.aload_n 0, 1) := by decide +kernel
theorem dX2_one_18 : decode cX2_one 18 = .ok (.invokevirtual 118, 3) := by decide +kernel
theorem dX2_one_21 : decode cX2_one 21 = .ok (.aload_n 0, 1) := by decide +kernel
theorem dX2_one_22 : decode cX2_one 22 = .ok (.iload_n 2, 1) := by decide +kernel
theorem dX2_one_23 : decode cX2_one 23 = .ok (.invokevirtual 131, 3) := by decide +kernel
theorem dX2_one_26 : decode cX2_one 26 = .ok (.goto 68, 3) := by decide +kernel
theorem dX2_one_29 : decode cX2_one 29 = .ok (.iload_n 2, 1) := by decide +kernel
theorem dX2_one_30 : decode cX2_one 30 = .ok (.bipush 45, 2) := by decide +kernel
theorem dX2_one_32 : decode cX2_one 32 = .ok (.if_icmp .ne 27, 3) := by decide +kernel
theorem dX2_one_35 : decode cX2_one 35 = .ok (.aload_n 0, 1) := by decide +kernel
theorem dX2_one_36 : decode cX2_one 36 = .ok (.iload_n 1, 1) := by decide +kernel
theorem dX2_one_37 : decode cX2_one 37 = .ok (.invokevirtual 134, 3) := by decide +kernel
theorem dX2_one_40 : decode cX2_one 40 = .ok (.ifCond .eq 19, 3) := by decide +kernel
theorem dX2_one_43 : decode cX2_one 43 = .ok (.aload_n 0, 1) := by decide +kernel
theorem dX2_one_44 : decode cX2_one 44 = .ok (.iload_n 1, 1) := by decide +kernel
theorem dX2_one_45 : decode cX2_one 45 = .ok (.iconst 1, 1) := by decide +kernel
theorem dX2_one_46 : decode cX2_one 46 = .ok (.iadd, 1) := by decide +kernel
theorem dX2_one_47 : decode cX2_one 47 = .ok (.invokevirtual 124, 3) := by decide +kernel
theorem dX2_one_50 : decode cX2_one 50 = .ok (.aload_n 0, 1) := by decide +kernel
theorem dX2_one_51 : decode cX2_one 51 = .ok (.bipush 22, 2) := by decide +kernel
theorem dX2_one_53 : decode cX2_one 53 = .ok (.invokevirtual 131, 3) := by decide +kernel
theorem dX2_one_56 : decode cX2_one 56 = .ok (.goto 38, 3) := by decide +kernel
theorem dX2_one_59 : decode cX2_one 59 = .ok (.iload_n 2, 1) := by decide +kernel
theorem dX2_one_60 : decode cX2_one 60 = .ok (.bipush 40, 2) := by decide +kernel
theorem dX2_one_62 : decode cX2_one 62 = .ok (.if_icmp .ne 28, 3) := by decide +kernel
theorem dX2_one_65 : decode cX2_one 65 = .ok (.aload_n 0, 1) := by decide +kernel
theorem dX2_one_66 : decode cX2_one 66 = .ok (.iload_n 1, 1) := by decide +kernel
theorem dX2_one_67 : decode cX2_one 67 = .ok (.invokevirtual 134, 3) := by decide +kernel
theorem dX2_one_70 : decode cX2_one 70 = .ok (.ifCond .eq 20, 3) := by decide +kernel
theorem dX2_one_73 : decode cX2_one 73 = .ok (.aload_n 0, 1) := by decide +kernel
theorem dX2_one_74 : decode cX2_one 74 = .ok (.iconst 0, 1) := by decide +kernel
theorem dX2_one_75 : decode cX2_one 75 = .ok (.iload_n 1, 1) := by decide +kernel
theorem dX2_one_76 : decode cX2_one 76 = .ok (.iconst 1, 1) := by decide +kernel
theorem dX2_one_77 : decode cX2_one 77 = .ok (.iadd, 1) := by decide +kernel
theorem dX2_one_78 : decode cX2_one 78 = .ok (.invokevirtual 49, 3) := by decide +kernel
theorem dX2_one_81 : decode cX2_one 81 = .ok (.aload_n 0, 1) := by decide +kernel
theorem dX2_one_82 : decode cX2_one 82 = .ok (.bipush 41, 2) := by decide +kernel
theorem dX2_one_84 : decode cX2_one 84 = .ok (.invokevirtual 45, 3) := by decide +kernel
theorem dX2_one_87 : decode cX2_one 87 = .ok (.goto 7, 3) := by decide +kernel
theorem dX2_one_90 : decode cX2_one 90 = .ok (.aload_n 0, 1) := by decide +kernel
theorem dX2_one_91 : decode cX2_one 91 = .ok (.invokevirtual 57, 3) := by decide +kernel
theorem dX2_one_94 : decode cX2_one 94 = .ok (.return_, 1) := by decide +kernel
theorem dX2_opens_0 : decode cX2_opens 0 = .ok (.iload_n 1, 1) := by decide +kernel
theorem dX2_opens_1 : decode cX2_opens 1 = .ok (.iconst 5, 1) := by decide +kernel
theorem dX2_opens_2 : decode cX2_opens 2 = .ok (.if_icmp .lt 9, 3) := by decide +kernel
theorem dX2_opens_5 : decode cX2_opens 5 = .ok (.aload_n 0, 1) := by decide +kernel
theorem dX2_opens_6 : decode cX2_opens 6 = .ok (.invokevirtual 57, 3) := by decide +kernel
theorem dX2_opens_9 : decode cX2_opens 9 = .ok (.iconst 0, 1) := by decide +kernel
theorem dX2_opens_10 : decode cX2_opens 10 = .ok (.ireturn, 1) := by decide +kernel
theorem dX2_opens_11 : decode cX2_opens 11 = .ok (.aload_n 0, 1) := by decide +kernel
theorem dX2_opens_12 : decode cX2_opens 12 = .ok (.invokevirtual 118, 3) := by decide +kernel
theorem dX2_opens_15 : decode cX2_opens 15 = .ok (.iconst 1, 1) := by decide +kernel
theorem dX2_opens_16 : decode cX2_opens 16 = .ok (.ireturn, 1) := by decide +kernel
theorem dX3_init_0 : decode cX3_init 0 = .ok (.aload_n 0, 1) := by decide +kernel
theorem dX3_init_1 : decode cX3_init 1 = .ok (.invokespecial 1, 3) := by decide +kernel
theorem dX3_init_4 : decode cX3_init 4 = .ok (.aload_n 0, 1) := by decide +kernel
theorem dX3_init_5 : decode cX3_init 5 = .ok (.sipush 160, 3) := by decide +kernel
theorem dX3_init_8 : decode cX3_init 8 = .ok (.newarray .int, 2) := by decide +kernel
theorem dX3_init_10 : decode cX3_init 10 = .ok (.putfield 9, 3) := by decide +kernel
theorem dX3_init_13 : decode cX3_init 13 = .ok (.return_, 1) := by decide +kernel
theorem dX3_value_0 : decode cX3_value 0 = .ok (.aload_n 0, 1) := by decide +kernel
theorem dX3_value_1 : decode cX3_value 1 = .ok (.iconst 0, 1) := by decide +kernel
theorem dX3_value_2 : decode cX3_value 2 = .ok (.putfield 13, 3) := by decide +kernel
theorem dX3_value_5 : decode cX3_value 5 = .ok (.aload_n 1, 1) := by decide +kernel
theorem dX3_value_6 : decode cX3_value 6 = .ok (.iload_n 2, 1) := by decide +kernel
theorem dX3_value_7 : decode cX3_value 7 = .ok (.invokevirtual 17, 3) := by decide +kernel
theorem dX3_value_10 : decode cX3_value 10 = .ok (.istore 5, 2) := by decide +kernel
theorem dX3_value_12 : decode cX3_value 12 = .ok (.aload_n 1, 1) := by decide +kernel
theorem dX3_value_13 : decode cX3_value 13 = .ok (.iload_n 2, 1) := by decide +kernel
theorem dX3_value_14 : decode cX3_value 14 = .ok (.invokevirtual 23, 3) := by decide +kernel
theorem dX3_value_17 : decode cX3_value 17 = .ok (.istore 6, 2) := by decide +kernel
theorem dX3_value_19 : decode cX3_value 19 = .ok (.iload 6, 2) := by decide +kernel
theorem dX3_value_21 : decode cX3_value 21 = .ok (.iload 5, 2) := by decide +kernel
theorem dX3_value_23 : decode cX3_value 23 = .ok (.if_icmp .ge 22, 3) := by decide +kernel
theorem dX3_value_26 : decode cX3_value 26 = .ok (.aload_n 0, 1) := by decide +kernel
theorem dX3_value_27 : decode cX3_value 27 = .ok (.aload_n 1, 1) := by decide +kernel
theorem dX3_value_28 : decode cX3_value 28 = .ok (.iload 6, 2) := by decide +kernel
theorem dX3_value_30 : decode cX3_value 30 = .ok (.invokevirtual 26, 3) := by decide +kernel
theorem dX3_value_33 : decode cX3_value 33 = .ok (.aload_n 3, 1) := by decide +kernel
theorem dX3_value_34 : decode cX3_value 34 = .ok (.iload 4, 2) := by decide +kernel
theorem dX3_value_36 : decode cX3_value 36 = .ok (.invokevirtual 29, 3) := by decide +kernel
theorem dX3_value_39 : decode cX3_value 39 = .ok (.iinc 6 1, 3) := by decide +kernel
theorem dX3_value_42 : decode cX3_value 42 = .ok (.goto (-23), 3) := by decide +kernel
theorem dX3_value_45 : decode cX3_value 45 = .ok (.aload_n 0, 1) := by decide +kernel
theorem dX3_value_46 : decode cX3_value 46 = .ok (.invokevirtual 33, 3) := by decide +kernel
theorem dX3_value_49 : decode cX3_value 49 = .ok (.ireturn, 1) := by decide +kernel
theorem dX3_step_0 : decode cX3_step 0 = .ok (.iload_n 1, 1) := by decide +kernel
theorem dX3_step_1 : decode cX3_step 1 = .ok (.bipush 100, 2) := by decide +kernel
theorem dX3_step_3 : decode cX3_step 3 = .ok (.if_icmp .lt 14, 3) := by decide +kernel
theorem dX3_step_6 : decode cX3_step 6 = .ok (.aload_n 0, 1) := by decide +kernel
theorem dX3_step_7 : decode cX3_step 7 = .ok (.iload_n 1, 1) := by decide +kernel
theorem dX3_step_8 : decode cX3_step 8 = .ok (.bipush 100, 2) := by decide +kernel
theorem dX3_step_10 : decode cX3_step 10 = .ok (.isub, 1) := by decide +kernel
theorem dX3_step_11 : decode cX3_step 11 = .ok (.invokevirtual 39, 3) := by decide +kernel
theorem dX3_step_14 : decode cX3_step 14 = .ok (.goto 92, 3) := by decide +kernel
theorem dX3_step_17 : decode cX3_step 17 = .ok (.iload_n 1, 1) := by decide +kernel
theorem dX3_step_18 : decode cX3_step 18 = .ok (.bipush 6, 2) := by decide +kernel
theorem dX3_step_20 : decode cX3_step 20 = .ok (.if_icmp .ge 16, 3) := by decide +kernel
theorem dX3_step_23 : decode cX3_step 23 = .ok (.aload_n 0, 1) := by decide +kernel
theorem dX3_step_24 : decode cX3_step 24 = .ok (.iload_n 1, 1) := by decide +kernel
theorem dX3_step_25 : decode cX3_step 25 = .ok (.aload_n 2, 1) := by decide +kernel
theorem dX3_step_26 : decode cX3_step 26 = .ok (.iload_n 3, 1) := by decide +kernel
theorem dX3_step_27 : decode cX3_step 27 = .ok (.invokestatic 43, 3) := by decide +kernel
theorem dX3_step_30 : decode cX3_step 30 = .ok (.invokevirtual 39, 3) := by decide +kernel
theorem dX3_step_33 : decode cX3_step 33 = .ok (.goto 73, 3) := by decide +kernel
theorem dX3_step_36 : decode cX3_step 36 = .ok (.iload_n 1, 1) := by decide +kernel
theorem dX3_step_37 : decode cX3_step 37 = .ok (.bipush 8, 2) := by decide +kernel
theorem dX3_step_39 : decode cX3_step 39 = .ok (.if_icmp .ne 25, 3) := by decide +kernel
theorem dX3_step_42 : decode cX3_step 42 = .ok (.aload_n 0, 1) := by decide +kernel
theorem dX3_step_43 : decode cX3_step 43 = .ok (.aload_n 0, 1) := by decide +kernel
theorem dX3_step_44 : decode cX3_step 44 = .ok (.invokevirtual 33, 3) := by decide +kernel
theorem dX3_step_47 : decode cX3_step 47 = .ok (.ifCond .ne 7, 3) := by decide +kernel
theorem dX3_step_50 : decode cX3_step 50 = .ok (.iconst 1, 1) := by decide +kernel
theorem dX3_step_51 : decode cX3_step 51 = .ok (.goto 4, 3) := by decide +kernel
theorem dX3_step_54 : decode cX3_step 54 = .ok (.iconst 0, 1) := by decide +kernel
theorem dX3_step_55 : decode cX3_step 55 = .ok (.invokestatic 47, 3) := by decide +kernel
theorem dX3_step_58 : decode cX3_step 58 = .ok (.invokevirtual 39, 3) := by decide +kernel
theorem dX3_step_61 : decode cX3_step 61 = .ok (.goto 45, 3) := by decide +kernel
theorem dX3_step_64 : decode cX3_step 64 = .ok (.iload_n 1, 1) := by decide +kernel
theorem dX3_step_65 : decode cX3_step 65 = .ok (.bipush 22, 2) := by decide +kernel
theorem dX3_step_67 : decode cX3_step 67 = .ok (.if_icmp .ne 15, 3) := by decide +kernel
theorem dX3_step_70 : decode cX3_step 70 = .ok (.aload_n 0, 1) := by decide +kernel
theorem dX3_step_71 : decode cX3_step 71 = .ok (.aload_n 0, 1) := by decide +kernel
theorem dX3_step_72 : decode cX3_step 72 = .ok (.invokevirtual 33, 3) := by decide +kernel
theorem dX3_step_75 : decode cX3_step 75 = .ok (.ineg, 1) := by decide +kernel
theorem dX3_step_76 : decode cX3_step 76 = .ok (.invokevirtual 39, 3) := by decide +kernel
theorem dX3_step_79 : decode cX3_step 79 = .ok (.goto 27, 3) := by decide +kernel
theorem dX3_step_82 : decode cX3_step 82 = .ok (.aload_n 0, 1) := by decide +kernel
theorem dX3_step_83 : decode cX3_step 83 = .ok (.invokevirtual 33, 3) := by decide +kernel
theorem dX3_step_86 : decode cX3_step 86 = .ok (.istore 4, 2) := by decide +kernel
theorem dX3_step_88 : decode cX3_step 88 = .ok (.aload_n 0, 1) := by decide +kernel
theorem dX3_step_89 : decode cX3_step 89 = .ok (.invokevirtual 33, 3) := by decide +kernel
theorem dX3_step_92 : decode cX3_step 92 = .ok (.istore 5, 2) := by decide +kernel
theorem dX3_step_94 : decode cX3_step 94 = .ok (.aload_n 0, 1) := by decide +kernel
theorem dX3_step_95 : decode cX3_step 95 = .ok (.iload_n 1, 1) := by decide +kernel
theorem dX3_step_96 : decode cX3_step 96 = .ok (.iload 5, 2) := by decide +kernel
theorem dX3_step_98 : decode cX3_step 98 = .ok (.iload 4, 2) := by decide +kernel
theorem dX3_step_100 : decode cX3_step 100 = .ok (.invokestatic 51, 3) := by decide +kernel
theorem dX3_step_103 : decode cX3_step 103 = .ok (.invokevirtual 39, 3) := by decide +kernel
theorem dX3_step_106 : decode cX3_step 106 = .ok (.return_, 1) := by decide +kernel
theorem dX3_push_0 : decode cX3_push 0 = .ok (.aload_n 0, 1) := by decide +kernel
theorem dX3_push_1 : decode cX3_push 1 = .ok (.getfield 13, 3) := by decide +kernel
theorem dX3_push_4 : decode cX3_push 4 = .ok (.sipush 160, 3) := by decide +kernel
theorem dX3_push_7 : decode cX3_push 7 = .ok (.if_icmp .ge 23, 3) := by decide +kernel
theorem dX3_push_10 : decode cX3_push 10 = .ok (.aload_n 0, 1) := by decide +kernel
theorem dX3_push_11 : decode cX3_push 11 = .ok (.getfield 9, 3) := by decide +kernel
theorem dX3_push_14 : decode cX3_push 14 = .ok (.aload_n 0, 1) := by decide +kernel
theorem dX3_push_15 : decode cX3_push 15 = .ok (.getfield 13, 3) := by decide +kernel
theorem dX3_push_18 : decode cX3_push 18 = .ok (.iload_n 1, 1) := by decide +kernel
theorem dX3_push_19 : decode cX3_push 19 = .ok (.iastore, 1) := by decide +kernel
theorem dX3_push_20 : decode cX3_push 20 = .ok (.aload_n 0, 1) := by decide +kernel
theorem dX3_push_21 : decode cX3_push 21 = .ok (.dup, 1) := by decide +kernel
theorem dX3_push_22 : decode cX3_push 22 = .ok (.getfield 13, 3) := by decide +kernel
theorem dX3_push_25 : decode cX3_push 25 = .ok (.iconst 1, 1) := by decide +kernel
theorem dX3_push_26 : decode cX3_push 26 = .ok (.iadd, 1) := by decide +kernel
theorem dX3_push_27 : decode cX3_push 27 = .ok (.putfield 13, 3) := by decide +kernel
theorem dX3_push_30 : decode cX3_push 30 = .ok (.return_, 1) := by decide +kernel
theorem dX3_pop_0 : decode cX3_pop 0 = .ok (.aload_n 0, 1) := by decide +kernel
theorem dX3_pop_1 : decode cX3_pop 1 = .ok (.getfield 13, 3) := by decide +kernel
theorem dX3_pop_4 : decode cX3_pop 4 = .ok (.ifCond .gt 5, 3) := by decide +kernel
theorem dX3_pop_7 : decode cX3_pop 7 = .ok (.iconst 0, 1) := by decide +kernel
theorem dX3_pop_8 : decode cX3_pop 8 = .ok (.ireturn, 1) := by decide +kernel
theorem dX3_pop_9 : decode cX3_pop 9 = .ok (.aload_n 0, 1) := by decide +kernel
theorem dX3_pop_10 : decode cX3_pop 10 = .ok (.dup, 1) := by decide +kernel
theorem dX3_pop_11 : decode cX3_pop 11 = .ok (.getfield 13, 3) := by decide +kernel
theorem dX3_pop_14 : decode cX3_pop 14 = .ok (.iconst 1, 1) := by decide +kernel
theorem dX3_pop_15 : decode cX3_pop 15 = .ok (.isub, 1) := by decide +kernel
theorem dX3_pop_16 : decode cX3_pop 16 = .ok (.putfield 13, 3) := by decide +kernel
theorem dX3_pop_19 : decode cX3_pop 19 = .ok (.aload_n 0, 1) := by decide +kernel
theorem dX3_pop_20 : decode cX3_pop 20 = .ok (.getfield 9, 3) := by decide +kernel
theorem dX3_pop_23 : decode cX3_pop 23 = .ok (.aload_n 0, 1) := by decide +kernel
theorem dX3_pop_24 : decode cX3_pop 24 = .ok (.getfield 13, 3) := by decide +kernel
theorem dX3_pop_27 : decode cX3_pop 27 = .ok (.iaload, 1) := by decide +kernel
theorem dX3_pop_28 : decode cX3_pop 28 = .ok (.ireturn, 1) := by decide +kernel
theorem dX3_truth_0 : decode cX3_truth 0 = .ok (.iload_n 0, 1) := by decide +kernel
theorem dX3_truth_1 : decode cX3_truth 1 = .ok (.ifCond .eq 7, 3) := by decide +kernel
theorem dX3_truth_4 : decode cX3_truth 4 = .ok (.iconst 1, 1) := by decide +kernel
theorem dX3_truth_5 : decode cX3_truth 5 = .ok (.goto 4, 3) := by decide +kernel
theorem dX3_truth_8 : decode cX3_truth 8 = .ok (.iconst 0, 1) := by decide +kernel
theorem dX3_truth_9 : decode cX3_truth 9 = .ok (.ireturn, 1) := by decide +kernel
theorem dX3_named_0 : decode cX3_named 0 = .ok (.iload_n 0, 1) := by decide +kernel
theorem dX3_named_1 : decode cX3_named 1 = .ok (.tableswitch 62 0 4 #[35, 40, 47, 52, 57], 35) := by decide +kernel
theorem dX3_named_36 : decode cX3_named 36 = .ok (.aload_n 1, 1) := by decide +kernel
theorem dX3_named_37 : decode cX3_named 37 = .ok (.getfield 55, 3) := by decide +kernel
theorem dX3_named_40 : decode cX3_named 40 = .ok (.ireturn, 1) := by decide +kernel
theorem dX3_named_41 : decode cX3_named 41 = .ok (.iload_n 2, 1) := by decide +kernel
theorem dX3_named_42 : decode cX3_named 42 = .ok (.aload_n 1, 1) := by decide +kernel
theorem dX3_named_43 : decode cX3_named 43 = .ok (.getfield 60, 3) := by decide +kernel
theorem dX3_named_46 : decode cX3_named 46 = .ok (.isub, 1) := by decide +kernel
theorem dX3_named_47 : decode cX3_named 47 = .ok (.ireturn, 1) := by decide +kernel
theorem dX3_named_48 : decode cX3_named 48 = .ok (.aload_n 1, 1) := by decide +kernel
theorem dX3_named_49 : decode cX3_named 49 = .ok (.getfield 63, 3) := by decide +kernel
theorem dX3_named_52 : decode cX3_named 52 = .ok (.ireturn, 1) := by decide +kernel
theorem dX3_named_53 : decode cX3_named 53 = .ok (.aload_n 1, 1) := by decide +kernel
theorem dX3_named_54 : decode cX3_named 54 = .ok (.getfield 66, 3) := by decide +kernel
theorem dX3_named_57 : decode cX3_named 57 = .ok (.ireturn, 1) := by decide +kernel
theorem dX3_named_58 : decode cX3_named 58 = .ok (.aload_n 1, 1) := by decide +kernel
theorem dX3_named_59 : decode cX3_named 59 = .ok (.getfield 69, 3) := by decide +kernel
theorem dX3_named_62 : decode cX3_named 62 = .ok (.ireturn, 1) := by decide +kernel
theorem dX3_named_63 : decode cX3_named 63 = .ok (.aload_n 1, 1) := by decide +kernel
theorem dX3_named_64 : decode cX3_named 64 = .ok (.invokevirtual 72, 3) := by decide +kernel
theorem dX3_named_67 : decode cX3_named 67 = .ok (.ireturn, 1) := by decide +kernel
theorem dX3_joined_0 : decode cX3_joined 0 = .ok (.iload_n 0, 1) := by decide +kernel
theorem dX3_joined_1 : decode cX3_joined 1 = .ok (.lookupswitch 129 #[(6, 59), (7, 76), (43, 121), (45, 125), (60, 93), (61, 107)], 59) := by decide +kernel
theorem dX3_joined_60 : decode cX3_joined 60 = .ok (.iload_n 1, 1) := by decide +kernel
theorem dX3_joined_61 : decode cX3_joined 61 = .ok (.ifCond .ne 7, 3) := by decide +kernel
theorem dX3_joined_64 : decode cX3_joined 64 = .ok (.iload_n 2, 1) := by decide +kernel
theorem dX3_joined_65 : decode cX3_joined 65 = .ok (.ifCond .eq 7, 3) := by decide +kernel
theorem dX3_joined_68 : decode cX3_joined 68 = .ok (.iconst 1, 1) := by decide +kernel
theorem dX3_joined_69 : decode cX3_joined 69 = .ok (.goto 4, 3) := by decide +kernel
theorem dX3_joined_72 : decode cX3_joined 72 = .ok (.iconst 0, 1) := by decide +kernel
theorem dX3_joined_73 : decode cX3_joined 73 = .ok (.invokestatic 47, 3) := by decide +kernel
theorem dX3_joined_76 : decode cX3_joined 76 = .ok (.ireturn, 1) := by decide +kernel
theorem dX3_joined_77 : decode cX3_joined 77 = .ok (.iload_n 1, 1) := by decide +kernel
theorem dX3_joined_78 : decode cX3_joined 78 = .ok (.ifCond .eq 11, 3) := by decide +kernel
theorem dX3_joined_81 : decode cX3_joined 81 = .ok (.iload_n 2, 1) := by decide +kernel
theorem dX3_joined_82 : decode cX3_joined 82 = .ok (.ifCond .eq 7, 3) := by decide +kernel
theorem dX3_joined_85 : decode cX3_joined 85 = .ok (.iconst 1, 1) := by decide +kernel
theorem dX3_joined_86 : decode cX3_joined 86 = .ok (.goto 4, 3) := by decide +kernel
theorem dX3_joined_89 : decode cX3_joined 89 = .ok (.iconst 0, 1) := by decide +kernel
theorem dX3_joined_90 : decode cX3_joined 90 = .ok (.invokestatic 47, 3) := by decide +kernel
theorem dX3_joined_93 : decode cX3_joined 93 = .ok (.ireturn, 1) := by decide +kernel
theorem dX3_joined_94 : decode cX3_joined 94 = .ok (.iload_n 1, 1) := by decide +kernel
theorem dX3_joined_95 : decode cX3_joined 95 = .ok (.iload_n 2, 1) := by decide +kernel
theorem dX3_joined_96 : decode cX3_joined 96 = .ok (.if_icmp .ge 7, 3) := by decide +kernel
theorem dX3_joined_99 : decode cX3_joined 99 = .ok (.iconst 1, 1) := by decide +kernel
theorem dX3_joined_100 : decode cX3_joined 100 = .ok (.goto 4, 3) := by decide +kernel
theorem dX3_joined_103 : decode cX3_joined 103 = .ok (.iconst 0, 1) := by decide +kernel
theorem dX3_joined_104 : decode cX3_joined 104 = .ok (.invokestatic 47, 3) := by decide +kernel
theorem dX3_joined_107 : decode cX3_joined 107 = .ok (.ireturn, 1) := by decide +kernel
theorem dX3_joined_108 : decode cX3_joined 108 = .ok (.iload_n 1, 1) := by decide +kernel
theorem dX3_joined_109 : decode cX3_joined 109 = .ok (.iload_n 2, 1) := by decide +kernel
theorem dX3_joined_110 : decode cX3_joined 110 = .ok (.if_icmp .ne 7, 3) := by decide +kernel
theorem dX3_joined_113 : decode cX3_joined 113 = .ok (.iconst 1, 1) := by decide +kernel
theorem dX3_joined_114 : decode cX3_joined 114 = .ok (.goto 4, 3) := by decide +kernel
theorem dX3_joined_117 : decode cX3_joined 117 = .ok (.iconst 0, 1) := by decide +kernel
theorem dX3_joined_118 : decode cX3_joined 118 = .ok (.invokestatic 47, 3) := by decide +kernel
theorem dX3_joined_121 : decode cX3_joined 121 = .ok (.ireturn, 1) := by decide +kernel
theorem dX3_joined_122 : decode cX3_joined 122 = .ok (.iload_n 1, 1) := by decide +kernel
theorem dX3_joined_123 : decode cX3_joined 123 = .ok (.iload_n 2, 1) := by decide +kernel
theorem dX3_joined_124 : decode cX3_joined 124 = .ok (.iadd, 1) := by decide +kernel
theorem dX3_joined_125 : decode cX3_joined 125 = .ok (.ireturn, 1) := by decide +kernel
theorem dX3_joined_126 : decode cX3_joined 126 = .ok (.iload_n 1, 1) := by decide +kernel
theorem dX3_joined_127 : decode cX3_joined 127 = .ok (.iload_n 2, 1) := by decide +kernel
theorem dX3_joined_128 : decode cX3_joined 128 = .ok (.isub, 1) := by decide +kernel
theorem dX3_joined_129 : decode cX3_joined 129 = .ok (.ireturn, 1) := by decide +kernel
theorem dX3_joined_130 : decode cX3_joined 130 = .ok (.iload_n 1, 1) := by decide +kernel
theorem dX3_joined_131 : decode cX3_joined 131 = .ok (.iload_n 2, 1) := by decide +kernel
theorem dX3_joined_132 : decode cX3_joined 132 = .ok (.imul, 1) := by decide +kernel
theorem dX3_joined_133 : decode cX3_joined 133 = .ok (.ireturn, 1) := by decide +kernel
theorem dX4_init_0 : decode cX4_init 0 = .ok (.aload_n 0, 1) := by decide +kernel
theorem dX4_init_1 : decode cX4_init 1 = .ok (.invokespecial 3, 3) := by decide +kernel
theorem dX4_init_4 : decode cX4_init 4 = .ok (.aload_n 0, 1) := by decide +kernel
theorem dX4_init_5 : decode cX4_init 5 = .ok (.bipush 10, 2) := by decide +kernel
theorem dX4_init_7 : decode cX4_init 7 = .ok (.newarray .int, 2) := by decide +kernel
theorem dX4_init_9 : decode cX4_init 9 = .ok (.putfield 9, 3) := by decide +kernel
theorem dX4_init_12 : decode cX4_init 12 = .ok (.return_, 1) := by decide +kernel
theorem dX4_isRing_0 : decode cX4_isRing 0 = .ok (.aload_n 0, 1) := by decide +kernel
theorem dX4_isRing_1 : decode cX4_isRing 1 = .ok (.aload_n 1, 1) := by decide +kernel
theorem dX4_isRing_2 : decode cX4_isRing 2 = .ok (.putfield 15, 3) := by decide +kernel
theorem dX4_isRing_5 : decode cX4_isRing 5 = .ok (.aload_n 0, 1) := by decide +kernel
theorem dX4_isRing_6 : decode cX4_isRing 6 = .ok (.iload_n 2, 1) := by decide +kernel
theorem dX4_isRing_7 : decode cX4_isRing 7 = .ok (.putfield 19, 3) := by decide +kernel
theorem dX4_isRing_10 : decode cX4_isRing 10 = .ok (.aload_n 0, 1) := by decide +kernel
theorem dX4_isRing_11 : decode cX4_isRing 11 = .ok (.iload_n 3, 1) := by decide +kernel
theorem dX4_isRing_12 : decode cX4_isRing 12 = .ok (.invokevirtual 23, 3) := by decide +kernel
theorem dX4_isRing_15 : decode cX4_isRing 15 = .ok (.ifCond .eq 28, 3) := by decide +kernel
theorem dX4_isRing_18 : decode cX4_isRing 18 = .ok (.aload_n 0, 1) := by decide +kernel
theorem dX4_isRing_19 : decode cX4_isRing 19 = .ok (.iload_n 3, 1) := by decide +kernel
theorem dX4_isRing_20 : decode cX4_isRing 20 = .ok (.invokevirtual 27, 3) := by decide +kernel
theorem dX4_isRing_23 : decode cX4_isRing 23 = .ok (.ifCond .eq 20, 3) := by decide +kernel
theorem dX4_isRing_26 : decode cX4_isRing 26 = .ok (.aload_n 0, 1) := by decide +kernel
theorem dX4_isRing_27 : decode cX4_isRing 27 = .ok (.iload_n 3, 1) := by decide +kernel
theorem dX4_isRing_28 : decode cX4_isRing 28 = .ok (.invokevirtual 30, 3) := by decide +kernel
theorem dX4_isRing_31 : decode cX4_isRing 31 = .ok (.aload_n 0, 1) := by decide +kernel
theorem dX4_isRing_32 : decode cX4_isRing 32 = .ok (.iload_n 3, 1) := by decide +kernel
theorem dX4_isRing_33 : decode cX4_isRing 33 = .ok (.invokevirtual 34, 3) := by decide +kernel
theorem dX4_isRing_36 : decode cX4_isRing 36 = .ok (.if_icmp .ne 7, 3) := by decide +kernel
theorem dX4_isRing_39 : decode cX4_isRing 39 = .ok (.iconst 1, 1) := by decide +kernel
theorem dX4_isRing_40 : decode cX4_isRing 40 = .ok (.goto 4, 3) := by decide +kernel
theorem dX4_isRing_43 : decode cX4_isRing 43 = .ok (.iconst 0, 1) := by decide +kernel
theorem dX4_isRing_44 : decode cX4_isRing 44 = .ok (.ireturn, 1) := by decide +kernel
theorem dX4_has_0 : decode cX4_has 0 = .ok (.iload_n 1, 1) := by decide +kernel
theorem dX4_has_1 : decode cX4_has 1 = .ok (.iload_n 2, 1) := by decide +kernel
theorem dX4_has_2 : decode cX4_has 2 = .ok (.iushr, 1) := by decide +kernel
theorem dX4_has_3 : decode cX4_has 3 = .ok (.iconst 1, 1) := by decide +kernel
theorem dX4_has_4 : decode cX4_has 4 = .ok (.iand, 1) := by decide +kernel
theorem dX4_has_5 : decode cX4_has 5 = .ok (.ifCond .eq 7, 3) := by decide +kernel
theorem dX4_has_8 : decode cX4_has 8 = .ok (.iconst 1, 1) := by decide +kernel
theorem dX4_has_9 : decode cX4_has 9 = .ok (.goto 4, 3) := by decide +kernel
theorem dX4_has_12 : decode cX4_has 12 = .ok (.iconst 0, 1) := by decide +kernel
theorem dX4_has_13 : decode cX4_has 13 = .ok (.ireturn, 1) := by decide +kernel
theorem dX4_amountsAlike_0 : decode cX4_amountsAlike 0 = .ok (.iconst (-1), 1) := by decide +kernel
theorem dX4_amountsAlike_1 : decode cX4_amountsAlike 1 = .ok (.istore_n 2, 1) := by decide +kernel
theorem dX4_amountsAlike_2 : decode cX4_amountsAlike 2 = .ok (.iconst 0, 1) := by decide +kernel
theorem dX4_amountsAlike_3 : decode cX4_amountsAlike 3 = .ok (.istore_n 3, 1) := by decide +kernel
theorem dX4_amountsAlike_4 : decode cX4_amountsAlike 4 = .ok (.iload_n 3, 1) := by decide +kernel
theorem dX4_amountsAlike_5 : decode cX4_amountsAlike 5 = .ok (.aload_n 0, 1) := by decide +kernel
theorem dX4_amountsAlike_6 : decode cX4_amountsAlike 6 = .ok (.getfield 19, 3) := by decide +kernel
theorem dX4_amountsAlike_9 : decode cX4_amountsAlike 9 = .ok (.if_icmp .ge 48, 3) := by decide +kernel
theorem dX4_amountsAlike_12 : decode cX4_amountsAlike 12 = .ok (.aload_n 0, 1) := by decide +kernel
theorem dX4_amountsAlike_13 : decode cX4_amountsAlike 13 = .ok (.iload_n 1, 1) := by decide +kernel
theorem dX4_amountsAlike_14 : decode cX4_amountsAlike 14 = .ok (.iload_n 3, 1) := by decide +kernel
theorem dX4_amountsAlike_15 : decode cX4_amountsAlike 15 = .ok (.invokevirtual 37, 3) := by decide +kernel
theorem dX4_amountsAlike_18 : decode cX4_amountsAlike 18 = .ok (.ifCond .eq 33, 3) := by decide +kernel
theorem dX4_amountsAlike_21 : decode cX4_amountsAlike 21 = .ok (.iload_n 2, 1) := by decide +kernel
theorem dX4_amountsAlike_22 : decode cX4_amountsAlike 22 = .ok (.iconst (-1), 1) := by decide +kernel
theorem dX4_amountsAlike_23 : decode cX4_amountsAlike 23 = .ok (.if_icmp .eq 18, 3) := by decide +kernel
theorem dX4_amountsAlike_26 : decode cX4_amountsAlike 26 = .ok (.iload_n 2, 1) := by decide +kernel
theorem dX4_amountsAlike_27 : decode cX4_amountsAlike 27 = .ok (.aload_n 0, 1) := by decide +kernel
theorem dX4_amountsAlike_28 : decode cX4_amountsAlike 28 = .ok (.getfield 15, 3) := by decide +kernel
theorem dX4_amountsAlike_31 : decode cX4_amountsAlike 31 = .ok (.iload_n 3, 1) := by decide +kernel
theorem dX4_amountsAlike_32 : decode cX4_amountsAlike 32 = .ok (.aaload, 1) := by decide +kernel
theorem dX4_amountsAlike_33 : decode cX4_amountsAlike 33 = .ok (.getfield 41, 3) := by decide +kernel
theorem dX4_amountsAlike_36 : decode cX4_amountsAlike 36 = .ok (.if_icmp .eq 5, 3) := by decide +kernel
theorem dX4_amountsAlike_39 : decode cX4_amountsAlike 39 = .ok (.iconst 0, 1) := by decide +kernel
theorem dX4_amountsAlike_40 : decode cX4_amountsAlike 40 = .ok (.ireturn, 1) := by decide +kernel
theorem dX4_amountsAlike_41 : decode cX4_amountsAlike 41 = .ok (.aload_n 0, 1) := by decide +kernel
theorem dX4_amountsAlike_42 : decode cX4_amountsAlike 42 = .ok (.getfield 15, 3) := by decide +kernel
theorem dX4_amountsAlike_45 : decode cX4_amountsAlike 45 = .ok (.iload_n 3, 1) := by decide +kernel
theorem dX4_amountsAlike_46 : decode cX4_amountsAlike 46 = .ok (.aaload, 1) := by decide +kernel
theorem dX4_amountsAlike_47 : decode cX4_amountsAlike 47 = .ok (.getfield 41, 3) := by decide +kernel
theorem dX4_amountsAlike_50 : decode cX4_amountsAlike 50 = .ok (.istore_n 2, 1) := by decide +kernel
theorem dX4_amountsAlike_51 : decode cX4_amountsAlike 51 = .ok (.iinc 3 1, 3) := by decide +kernel
theorem dX4_amountsAlike_54 : decode cX4_amountsAlike 54 = .ok (.goto (-50), 3) := by decide +kernel
theorem dX4_amountsAlike_57 : decode cX4_amountsAlike 57 = .ok (.iconst 1, 1) := by decide +kernel
theorem dX4_amountsAlike_58 : decode cX4_amountsAlike 58 = .ok (.ireturn, 1) := by decide +kernel
theorem dX4_allSellAsTheyBuy_0 : decode cX4_allSellAsTheyBuy 0 = .ok (.aload_n 0, 1) := by decide +kernel
theorem dX4_allSellAsTheyBuy_1 : decode cX4_allSellAsTheyBuy 1 = .ok (.getfield 9, 3) := by decide +kernel
theorem dX4_allSellAsTheyBuy_4 : decode cX4_allSellAsTheyBuy 4 = .ok (.iconst 0, 1) := by decide +kernel
theorem dX4_allSellAsTheyBuy_5 : decode cX4_allSellAsTheyBuy 5 = .ok (.invokestatic 46, 3) := by decide +kernel
theorem dX4_allSellAsTheyBuy_8 : decode cX4_allSellAsTheyBuy 8 = .ok (.iconst 0, 1) := by decide +kernel
theorem dX4_allSellAsTheyBuy_9 : decode cX4_allSellAsTheyBuy 9 = .ok (.istore_n 2, 1) := by decide +kernel
theorem dX4_allSellAsTheyBuy_10 : decode cX4_allSellAsTheyBuy 10 = .ok (.iload_n 2, 1) := by decide +kernel
theorem dX4_allSellAsTheyBuy_11 : decode cX4_allSellAsTheyBuy 11 = .ok (.aload_n 0, 1) := by decide +kernel
theorem dX4_allSellAsTheyBuy_12 : decode cX4_allSellAsTheyBuy 12 = .ok (.getfield 19, 3) := by decide +kernel
theorem dX4_allSellAsTheyBuy_15 : decode cX4_allSellAsTheyBuy 15 = .ok (.if_icmp .ge 54, 3) := by decide +kernel
theorem dX4_allSellAsTheyBuy_18 : decode cX4_allSellAsTheyBuy 18 = .ok (.aload_n 0, 1) := by decide +kernel
theorem dX4_allSellAsTheyBuy_19 : decode cX4_allSellAsTheyBuy 19 = .ok (.iload_n 1, 1) := by decide +kernel
theorem dX4_allSellAsTheyBuy_20 : decode cX4_allSellAsTheyBuy 20 = .ok (.iload_n 2, 1) := by decide +kernel
theorem dX4_allSellAsTheyBuy_21 : decode cX4_allSellAsTheyBuy 21 = .ok (.invokevirtual 37, 3) := by decide +kernel
theorem dX4_allSellAsTheyBuy_24 : decode cX4_allSellAsTheyBuy 24 = .ok (.ifCond .eq 39, 3) := by decide +kernel
theorem dX4_allSellAsTheyBuy_27 : decode cX4_allSellAsTheyBuy 27 = .ok (.aload_n 0, 1) := by decide +kernel
theorem dX4_allSellAsTheyBuy_28 : decode cX4_allSellAsTheyBuy 28 = .ok (.getfield 9, 3) := by decide +kernel
theorem dX4_allSellAsTheyBuy_31 : decode cX4_allSellAsTheyBuy 31 = .ok (.aload_n 0, 1) := by decide +kernel
theorem dX4_allSellAsTheyBuy_32 : decode cX4_allSellAsTheyBuy 32 = .ok (.getfield 15, 3) := by decide +kernel
theorem dX4_allSellAsTheyBuy_35 : decode cX4_allSellAsTheyBuy 35 = .ok (.iload_n 2, 1) := by decide +kernel
theorem dX4_allSellAsTheyBuy_36 : decode cX4_allSellAsTheyBuy 36 = .ok (.aaload, 1) := by decide +kernel
theorem dX4_allSellAsTheyBuy_37 : decode cX4_allSellAsTheyBuy 37 = .ok (.getfield 52, 3) := by decide +kernel
theorem dX4_allSellAsTheyBuy_40 : decode cX4_allSellAsTheyBuy 40 = .ok (.dup2, 1) := by decide +kernel
theorem dX4_allSellAsTheyBuy_41 : decode cX4_allSellAsTheyBuy 41 = .ok (.iaload, 1) := by decide +kernel
theorem dX4_allSellAsTheyBuy_42 : decode cX4_allSellAsTheyBuy 42 = .ok (.iconst 1, 1) := by decide +kernel
theorem dX4_allSellAsTheyBuy_43 : decode cX4_allSellAsTheyBuy 43 = .ok (.iadd, 1) := by decide +kernel
theorem dX4_allSellAsTheyBuy_44 : decode cX4_allSellAsTheyBuy 44 = .ok (.iastore, 1) := by decide +kernel
theorem dX4_allSellAsTheyBuy_45 : decode cX4_allSellAsTheyBuy 45 = .ok (.aload_n 0, 1) := by decide +kernel
theorem dX4_allSellAsTheyBuy_46 : decode cX4_allSellAsTheyBuy 46 = .ok (.getfield 9, 3) := by decide +kernel
theorem dX4_allSellAsTheyBuy_49 : decode cX4_allSellAsTheyBuy 49 = .ok (.aload_n 0, 1) := by decide +kernel
theorem dX4_allSellAsTheyBuy_50 : decode cX4_allSellAsTheyBuy 50 = .ok (.getfield 15, 3) := by decide +kernel
theorem dX4_allSellAsTheyBuy_53 : decode cX4_allSellAsTheyBuy 53 = .ok (.iload_n 2, 1) := by decide +kernel
theorem dX4_allSellAsTheyBuy_54 : decode cX4_allSellAsTheyBuy 54 = .ok (.aaload, 1) := by decide +kernel
theorem dX4_allSellAsTheyBuy_55 : decode cX4_allSellAsTheyBuy 55 = .ok (.getfield 55, 3) := by decide +kernel
theorem dX4_allSellAsTheyBuy_58 : decode cX4_allSellAsTheyBuy 58 = .ok (.dup2, 1) := by decide +kernel
theorem dX4_allSellAsTheyBuy_59 : decode cX4_allSellAsTheyBuy 59 = .ok (.iaload, 1) := by decide +kernel
theorem dX4_allSellAsTheyBuy_60 : decode cX4_allSellAsTheyBuy 60 = .ok (.iconst 1, 1) := by decide +kernel
theorem dX4_allSellAsTheyBuy_61 : decode cX4_allSellAsTheyBuy 61 = .ok (.isub, 1) := by decide +kernel
theorem dX4_allSellAsTheyBuy_62 : decode cX4_allSellAsTheyBuy 62 = .ok (.iastore, 1) := by decide +kernel
theorem dX4_allSellAsTheyBuy_63 : decode cX4_allSellAsTheyBuy 63 = .ok (.iinc 2 1, 3) := by decide +kernel
theorem dX4_allSellAsTheyBuy_66 : decode cX4_allSellAsTheyBuy 66 = .ok (.goto (-56), 3) := by decide +kernel
theorem dX4_allSellAsTheyBuy_69 : decode cX4_allSellAsTheyBuy 69 = .ok (.iconst 0, 1) := by decide +kernel
theorem dX4_allSellAsTheyBuy_70 : decode cX4_allSellAsTheyBuy 70 = .ok (.istore_n 2, 1) := by decide +kernel
theorem dX4_allSellAsTheyBuy_71 : decode cX4_allSellAsTheyBuy 71 = .ok (.iload_n 2, 1) := by decide +kernel
theorem dX4_allSellAsTheyBuy_72 : decode cX4_allSellAsTheyBuy 72 = .ok (.bipush 10, 2) := by decide +kernel
theorem dX4_allSellAsTheyBuy_74 : decode cX4_allSellAsTheyBuy 74 = .ok (.if_icmp .ge 20, 3) := by decide +kernel
theorem dX4_allSellAsTheyBuy_77 : decode cX4_allSellAsTheyBuy 77 = .ok (.aload_n 0, 1) := by decide +kernel
theorem dX4_allSellAsTheyBuy_78 : decode cX4_allSellAsTheyBuy 78 = .ok (.getfield 9, 3) := by decide +kernel
theorem dX4_allSellAsTheyBuy_81 : decode cX4_allSellAsTheyBuy 81 = .ok (.iload_n 2, 1) := by decide +kernel
theorem dX4_allSellAsTheyBuy_82 : decode cX4_allSellAsTheyBuy 82 = .ok (.iaload, 1) := by decide +kernel
theorem dX4_allSellAsTheyBuy_83 : decode cX4_allSellAsTheyBuy 83 = .ok (.ifCond .eq 5, 3) := by decide +kernel
theorem dX4_allSellAsTheyBuy_86 : decode cX4_allSellAsTheyBuy 86 = .ok (.iconst 0, 1) := by decide +kernel
theorem dX4_allSellAsTheyBuy_87 : decode cX4_allSellAsTheyBuy 87 = .ok (.ireturn, 1) := by decide +kernel
theorem dX4_allSellAsTheyBuy_88 : decode cX4_allSellAsTheyBuy 88 = .ok (.iinc 2 1, 3) := by decide +kernel
theorem dX4_allSellAsTheyBuy_91 : decode cX4_allSellAsTheyBuy 91 = .ok (.goto (-20), 3) := by decide +kernel
theorem dX4_allSellAsTheyBuy_94 : decode cX4_allSellAsTheyBuy 94 = .ok (.iconst 1, 1) := by decide +kernel
theorem dX4_allSellAsTheyBuy_95 : decode cX4_allSellAsTheyBuy 95 = .ok (.ireturn, 1) := by decide +kernel
theorem dX4_handsIn_0 : decode cX4_handsIn 0 = .ok (.iconst 0, 1) := by decide +kernel
theorem dX4_handsIn_1 : decode cX4_handsIn 1 = .ok (.istore_n 2, 1) := by decide +kernel
theorem dX4_handsIn_2 : decode cX4_handsIn 2 = .ok (.iconst 0, 1) := by decide +kernel
theorem dX4_handsIn_3 : decode cX4_handsIn 3 = .ok (.istore_n 3, 1) := by decide +kernel
theorem dX4_handsIn_4 : decode cX4_handsIn 4 = .ok (.iload_n 3, 1) := by decide +kernel
theorem dX4_handsIn_5 : decode cX4_handsIn 5 = .ok (.aload_n 0, 1) := by decide +kernel
theorem dX4_handsIn_6 : decode cX4_handsIn 6 = .ok (.getfield 19, 3) := by decide +kernel
theorem dX4_handsIn_9 : decode cX4_handsIn 9 = .ok (.if_icmp .ge 44, 3) := by decide +kernel
theorem dX4_handsIn_12 : decode cX4_handsIn 12 = .ok (.aload_n 0, 1) := by decide +kernel
theorem dX4_handsIn_13 : decode cX4_handsIn 13 = .ok (.iload_n 1, 1) := by decide +kernel
theorem dX4_handsIn_14 : decode cX4_handsIn 14 = .ok (.iload_n 3, 1) := by decide +kernel
theorem dX4_handsIn_15 : decode cX4_handsIn 15 = .ok (.invokevirtual 37, 3) := by decide +kernel
theorem dX4_handsIn_18 : decode cX4_handsIn 18 = .ok (.ifCond .eq 29, 3) := by decide +kernel
theorem dX4_handsIn_21 : decode cX4_handsIn 21 = .ok (.iload_n 2, 1) := by decide +kernel
theorem dX4_handsIn_22 : decode cX4_handsIn 22 = .ok (.iconst 1, 1) := by decide +kernel
theorem dX4_handsIn_23 : decode cX4_handsIn 23 = .ok (.aload_n 0, 1) := by decide +kernel
theorem dX4_handsIn_24 : decode cX4_handsIn 24 = .ok (.getfield 15, 3) := by decide +kernel
theorem dX4_handsIn_27 : decode cX4_handsIn 27 = .ok (.iload_n 3, 1) := by decide +kernel
theorem dX4_handsIn_28 : decode cX4_handsIn 28 = .ok (.aaload, 1) := by decide +kernel
theorem dX4_handsIn_29 : decode cX4_handsIn 29 = .ok (.getfield 52, 3) := by decide +kernel
theorem dX4_handsIn_32 : decode cX4_handsIn 32 = .ok (.ishl, 1) := by decide +kernel
theorem dX4_handsIn_33 : decode cX4_handsIn 33 = .ok (.iconst 1, 1) := by decide +kernel
theorem dX4_handsIn_34 : decode cX4_handsIn 34 = .ok (.aload_n 0, 1) := by decide +kernel
theorem dX4_handsIn_35 : decode cX4_handsIn 35 = .ok (.getfield 15, 3) := by decide +kernel
theorem dX4_handsIn_38 : decode cX4_handsIn 38 = .ok (.iload_n 3, 1) := by decide +kernel
theorem dX4_handsIn_39 : decode cX4_handsIn 39 = .ok (.aaload, 1) := by decide +kernel
theorem dX4_handsIn_40 : decode cX4_handsIn 40 = .ok (.getfield 55, 3) := by decide +kernel
theorem dX4_handsIn_43 : decode cX4_handsIn 43 = .ok (.ishl, 1) := by decide +kernel
theorem dX4_handsIn_44 : decode cX4_handsIn 44 = .ok (.ior, 1) := by decide +kernel
theorem dX4_handsIn_45 : decode cX4_handsIn 45 = .ok (.ior, 1) := by decide +kernel
theorem dX4_handsIn_46 : decode cX4_handsIn 46 = .ok (.istore_n 2, 1) := by decide +kernel
theorem dX4_handsIn_47 : decode cX4_handsIn 47 = .ok (.iinc 3 1, 3) := by decide +kernel
theorem dX4_handsIn_50 : decode cX4_handsIn 50 = .ok (.goto (-46), 3) := by decide +kernel
theorem dX4_handsIn_53 : decode cX4_handsIn 53 = .ok (.iload_n 2, 1) := by decide +kernel
theorem dX4_handsIn_54 : decode cX4_handsIn 54 = .ok (.ireturn, 1) := by decide +kernel
theorem dX4_handsReached_0 : decode cX4_handsReached 0 = .ok (.iconst 0, 1) := by decide +kernel
theorem dX4_handsReached_1 : decode cX4_handsReached 1 = .ok (.istore_n 2, 1) := by decide +kernel
theorem dX4_handsReached_2 : decode cX4_handsReached 2 = .ok (.iconst 0, 1) := by decide +kernel
theorem dX4_handsReached_3 : decode cX4_handsReached 3 = .ok (.istore_n 3, 1) := by decide +kernel
theorem dX4_handsReached_4 : decode cX4_handsReached 4 = .ok (.iload_n 3, 1) := by decide +kernel
theorem dX4_handsReached_5 : decode cX4_handsReached 5 = .ok (.bipush 10, 2) := by decide +kernel
theorem dX4_handsReached_7 : decode cX4_handsReached 7 = .ok (.if_icmp .ge 87, 3) := by decide +kernel
theorem dX4_handsReached_10 : decode cX4_handsReached 10 = .ok (.iconst 0, 1) := by decide +kernel
theorem dX4_handsReached_11 : decode cX4_handsReached 11 = .ok (.istore 4, 2) := by decide +kernel
theorem dX4_handsReached_13 : decode cX4_handsReached 13 = .ok (.iload 4, 2) := by decide +kernel
theorem dX4_handsReached_15 : decode cX4_handsReached 15 = .ok (.aload_n 0, 1) := by decide +kernel
theorem dX4_handsReached_16 : decode cX4_handsReached 16 = .ok (.getfield 19, 3) := by decide +kernel
theorem dX4_handsReached_19 : decode cX4_handsReached 19 = .ok (.if_icmp .ge 69, 3) := by decide +kernel
theorem dX4_handsReached_22 : decode cX4_handsReached 22 = .ok (.aload_n 0, 1) := by decide +kernel
theorem dX4_handsReached_23 : decode cX4_handsReached 23 = .ok (.iload_n 1, 1) := by decide +kernel
theorem dX4_handsReached_24 : decode cX4_handsReached 24 = .ok (.iload 4, 2) := by decide +kernel
theorem dX4_handsReached_26 : decode cX4_handsReached 26 = .ok (.invokevirtual 37, 3) := by decide +kernel
theorem dX4_handsReached_29 : decode cX4_handsReached 29 = .ok (.ifCond .eq 53, 3) := by decide +kernel
theorem dX4_handsReached_32 : decode cX4_handsReached 32 = .ok (.iload_n 2, 1) := by decide +kernel
theorem dX4_handsReached_33 : decode cX4_handsReached 33 = .ok (.ifCond .eq 21, 3) := by decide +kernel
theorem dX4_handsReached_36 : decode cX4_handsReached 36 = .ok (.aload_n 0, 1) := by decide +kernel
theorem dX4_handsReached_37 : decode cX4_handsReached 37 = .ok (.iload_n 2, 1) := by decide +kernel
theorem dX4_handsReached_38 : decode cX4_handsReached 38 = .ok (.aload_n 0, 1) := by decide +kernel
theorem dX4_handsReached_39 : decode cX4_handsReached 39 = .ok (.getfield 15, 3) := by decide +kernel
theorem dX4_handsReached_42 : decode cX4_handsReached 42 = .ok (.iload 4, 2) := by decide +kernel
theorem dX4_handsReached_44 : decode cX4_handsReached 44 = .ok (.aaload, 1) := by decide +kernel
theorem dX4_handsReached_45 : decode cX4_handsReached 45 = .ok (.getfield 52, 3) := by decide +kernel
theorem dX4_handsReached_48 : decode cX4_handsReached 48 = .ok (.invokevirtual 37, 3) := by decide +kernel
theorem dX4_handsReached_51 : decode cX4_handsReached 51 = .ok (.ifCond .eq 31, 3) := by decide +kernel
theorem dX4_handsReached_54 : decode cX4_handsReached 54 = .ok (.iload_n 2, 1) := by decide +kernel
theorem dX4_handsReached_55 : decode cX4_handsReached 55 = .ok (.iconst 1, 1) := by decide +kernel
theorem dX4_handsReached_56 : decode cX4_handsReached 56 = .ok (.aload_n 0, 1) := by decide +kernel
theorem dX4_handsReached_57 : decode cX4_handsReached 57 = .ok (.getfield 15, 3) := by decide +kernel
theorem dX4_handsReached_60 : decode cX4_handsReached 60 = .ok (.iload 4, 2) := by decide +kernel
theorem dX4_handsReached_62 : decode cX4_handsReached 62 = .ok (.aaload, 1) := by decide +kernel
theorem dX4_handsReached_63 : decode cX4_handsReached 63 = .ok (.getfield 52, 3) := by decide +kernel
theorem dX4_handsReached_66 : decode cX4_handsReached 66 = .ok (.ishl, 1) := by decide +kernel
theorem dX4_handsReached_67 : decode cX4_handsReached 67 = .ok (.iconst 1, 1) := by decide +kernel
theorem dX4_handsReached_68 : decode cX4_handsReached 68 = .ok (.aload_n 0, 1) := by decide +kernel
theorem dX4_handsReached_69 : decode cX4_handsReached 69 = .ok (.getfield 15, 3) := by decide +kernel
theorem dX4_handsReached_72 : decode cX4_handsReached 72 = .ok (.iload 4, 2) := by decide +kernel
theorem dX4_handsReached_74 : decode cX4_handsReached 74 = .ok (.aaload, 1) := by decide +kernel
theorem dX4_handsReached_75 : decode cX4_handsReached 75 = .ok (.getfield 55, 3) := by decide +kernel
theorem dX4_handsReached_78 : decode cX4_handsReached 78 = .ok (.ishl, 1) := by decide +kernel
theorem dX4_handsReached_79 : decode cX4_handsReached 79 = .ok (.ior, 1) := by decide +kernel
theorem dX4_handsReached_80 : decode cX4_handsReached 80 = .ok (.ior, 1) := by decide +kernel
theorem dX4_handsReached_81 : decode cX4_handsReached 81 = .ok (.istore_n 2, 1) := by decide +kernel
theorem dX4_handsReached_82 : decode cX4_handsReached 82 = .ok (.iinc 4 1, 3) := by decide +kernel
theorem dX4_handsReached_85 : decode cX4_handsReached 85 = .ok (.goto (-72), 3) := by decide +kernel
theorem dX4_handsReached_88 : decode cX4_handsReached 88 = .ok (.iinc 3 1, 3) := by decide +kernel
theorem dX4_handsReached_91 : decode cX4_handsReached 91 = .ok (.goto (-87), 3) := by decide +kernel
theorem dX4_handsReached_94 : decode cX4_handsReached 94 = .ok (.iload_n 2, 1) := by decide +kernel
theorem dX4_handsReached_95 : decode cX4_handsReached 95 = .ok (.ireturn, 1) := by decide +kernel
theorem dX4_least_0 : decode cX4_least 0 = .ok (.aload_n 0, 1) := by decide +kernel
theorem dX4_least_1 : decode cX4_least 1 = .ok (.aload_n 1, 1) := by decide +kernel
theorem dX4_least_2 : decode cX4_least 2 = .ok (.putfield 15, 3) := by decide +kernel
theorem dX4_least_5 : decode cX4_least 5 = .ok (.aload_n 0, 1) := by decide +kernel
theorem dX4_least_6 : decode cX4_least 6 = .ok (.iload_n 2, 1) := by decide +kernel
theorem dX4_least_7 : decode cX4_least 7 = .ok (.bipush 12, 2) := by decide +kernel
theorem dX4_least_9 : decode cX4_least 9 = .ok (.invokestatic 58, 3) := by decide +kernel
theorem dX4_least_12 : decode cX4_least 12 = .ok (.putfield 19, 3) := by decide +kernel
theorem dX4_least_15 : decode cX4_least 15 = .ok (.aload_n 0, 1) := by decide +kernel
theorem dX4_least_16 : decode cX4_least 16 = .ok (.iconst (-1), 1) := by decide +kernel
theorem dX4_least_17 : decode cX4_least 17 = .ok (.putfield 64, 3) := by decide +kernel
theorem dX4_least_20 : decode cX4_least 20 = .ok (.iconst 0, 1) := by decide +kernel
theorem dX4_least_21 : decode cX4_least 21 = .ok (.istore 4, 2) := by decide +kernel
theorem dX4_least_23 : decode cX4_least 23 = .ok (.iload 4, 2) := by decide +kernel
theorem dX4_least_25 : decode cX4_least 25 = .ok (.aload_n 0, 1) := by decide +kernel
theorem dX4_least_26 : decode cX4_least 26 = .ok (.getfield 19, 3) := by decide +kernel
theorem dX4_least_29 : decode cX4_least 29 = .ok (.if_icmp .ge 46, 3) := by decide +kernel
theorem dX4_least_32 : decode cX4_least 32 = .ok (.aload_n 1, 1) := by decide +kernel
theorem dX4_least_33 : decode cX4_least 33 = .ok (.iload 4, 2) := by decide +kernel
theorem dX4_least_35 : decode cX4_least 35 = .ok (.aaload, 1) := by decide +kernel
theorem dX4_least_36 : decode cX4_least 36 = .ok (.getfield 67, 3) := by decide +kernel
theorem dX4_least_39 : decode cX4_least 39 = .ok (.aload_n 3, 1) := by decide +kernel
theorem dX4_least_40 : decode cX4_least 40 = .ok (.if_acmp .ne 29, 3) := by decide +kernel
theorem dX4_least_43 : decode cX4_least 43 = .ok (.aload_n 0, 1) := by decide +kernel
theorem dX4_least_44 : decode cX4_least 44 = .ok (.iload 4, 2) := by decide +kernel
theorem dX4_least_46 : decode cX4_least 46 = .ok (.aload_n 1, 1) := by decide +kernel
theorem dX4_least_47 : decode cX4_least 47 = .ok (.iload 4, 2) := by decide +kernel
theorem dX4_least_49 : decode cX4_least 49 = .ok (.aaload, 1) := by decide +kernel
theorem dX4_least_50 : decode cX4_least 50 = .ok (.getfield 55, 3) := by decide +kernel
theorem dX4_least_53 : decode cX4_least 53 = .ok (.iconst 1, 1) := by decide +kernel
theorem dX4_least_54 : decode cX4_least 54 = .ok (.iload 4, 2) := by decide +kernel
theorem dX4_least_56 : decode cX4_least 56 = .ok (.ishl, 1) := by decide +kernel
theorem dX4_least_57 : decode cX4_least 57 = .ok (.iconst 1, 1) := by decide +kernel
theorem dX4_least_58 : decode cX4_least 58 = .ok (.aload_n 1, 1) := by decide +kernel
theorem dX4_least_59 : decode cX4_least 59 = .ok (.iload 4, 2) := by decide +kernel
theorem dX4_least_61 : decode cX4_least 61 = .ok (.aaload, 1) := by decide +kernel
theorem dX4_least_62 : decode cX4_least 62 = .ok (.getfield 55, 3) := by decide +kernel
theorem dX4_least_65 : decode cX4_least 65 = .ok (.ishl, 1) := by decide +kernel
theorem dX4_least_66 : decode cX4_least 66 = .ok (.invokevirtual 71, 3) := by decide +kernel
theorem dX4_least_69 : decode cX4_least 69 = .ok (.iinc 4 1, 3) := by decide +kernel
theorem dX4_least_72 : decode cX4_least 72 = .ok (.goto (-49), 3) := by decide +kernel
theorem dX4_least_75 : decode cX4_least 75 = .ok (.aload_n 0, 1) := by decide +kernel
theorem dX4_least_76 : decode cX4_least 76 = .ok (.getfield 64, 3) := by decide +kernel
theorem dX4_least_79 : decode cX4_least 79 = .ok (.ireturn, 1) := by decide +kernel
theorem dX4_walk_0 : decode cX4_walk 0 = .ok (.iload_n 3, 1) := by decide +kernel
theorem dX4_walk_1 : decode cX4_walk 1 = .ok (.invokestatic 75, 3) := by decide +kernel
theorem dX4_walk_4 : decode cX4_walk 4 = .ok (.bipush 10, 2) := by decide +kernel
theorem dX4_walk_6 : decode cX4_walk 6 = .ok (.if_icmp .lt 4, 3) := by decide +kernel
theorem dX4_walk_9 : decode cX4_walk 9 = .ok (.return_, 1) := by decide +kernel
theorem dX4_walk_10 : decode cX4_walk 10 = .ok (.iload_n 1, 1) := by decide +kernel
theorem dX4_walk_11 : decode cX4_walk 11 = .ok (.iconst 1, 1) := by decide +kernel
theorem dX4_walk_12 : decode cX4_walk 12 = .ok (.iadd, 1) := by decide +kernel
theorem dX4_walk_13 : decode cX4_walk 13 = .ok (.istore 5, 2) := by decide +kernel
theorem dX4_walk_15 : decode cX4_walk 15 = .ok (.iload 5, 2) := by decide +kernel
theorem dX4_walk_17 : decode cX4_walk 17 = .ok (.aload_n 0, 1) := by decide +kernel
theorem dX4_walk_18 : decode cX4_walk 18 = .ok (.getfield 19, 3) := by decide +kernel
theorem dX4_walk_21 : decode cX4_walk 21 = .ok (.if_icmp .ge 93, 3) := by decide +kernel
theorem dX4_walk_24 : decode cX4_walk 24 = .ok (.aload_n 0, 1) := by decide +kernel
theorem dX4_walk_25 : decode cX4_walk 25 = .ok (.iload_n 1, 1) := by decide +kernel
theorem dX4_walk_26 : decode cX4_walk 26 = .ok (.iload 5, 2) := by decide +kernel
theorem dX4_walk_28 : decode cX4_walk 28 = .ok (.iload_n 2, 1) := by decide +kernel
theorem dX4_walk_29 : decode cX4_walk 29 = .ok (.invokevirtual 80, 3) := by decide +kernel
theorem dX4_walk_32 : decode cX4_walk 32 = .ok (.ifCond .ne 6, 3) := by decide +kernel
theorem dX4_walk_35 : decode cX4_walk 35 = .ok (.goto 73, 3) := by decide +kernel
theorem dX4_walk_38 : decode cX4_walk 38 = .ok (.aload_n 0, 1) := by decide +kernel
theorem dX4_walk_39 : decode cX4_walk 39 = .ok (.getfield 15, 3) := by decide +kernel
theorem dX4_walk_42 : decode cX4_walk 42 = .ok (.iload 5, 2) := by decide +kernel
theorem dX4_walk_44 : decode cX4_walk 44 = .ok (.aaload, 1) := by decide +kernel
theorem dX4_walk_45 : decode cX4_walk 45 = .ok (.getfield 55, 3) := by decide +kernel
theorem dX4_walk_48 : decode cX4_walk 48 = .ok (.istore 6, 2) := by decide +kernel
theorem dX4_walk_50 : decode cX4_walk 50 = .ok (.iload 6, 2) := by decide +kernel
theorem dX4_walk_52 : decode cX4_walk 52 = .ok (.aload_n 0, 1) := by decide +kernel
theorem dX4_walk_53 : decode cX4_walk 53 = .ok (.getfield 15, 3) := by decide +kernel
theorem dX4_walk_56 : decode cX4_walk 56 = .ok (.iload_n 1, 1) := by decide +kernel
theorem dX4_walk_57 : decode cX4_walk 57 = .ok (.aaload, 1) := by decide +kernel
theorem dX4_walk_58 : decode cX4_walk 58 = .ok (.getfield 52, 3) := by decide +kernel
theorem dX4_walk_61 : decode cX4_walk 61 = .ok (.if_icmp .ne 16, 3) := by decide +kernel
theorem dX4_walk_64 : decode cX4_walk 64 = .ok (.aload_n 0, 1) := by decide +kernel
theorem dX4_walk_65 : decode cX4_walk 65 = .ok (.iload_n 3, 1) := by decide +kernel
theorem dX4_walk_66 : decode cX4_walk 66 = .ok (.iconst 1, 1) := by decide +kernel
theorem dX4_walk_67 : decode cX4_walk 67 = .ok (.iload 5, 2) := by decide +kernel
theorem dX4_walk_69 : decode cX4_walk 69 = .ok (.ishl, 1) := by decide +kernel
theorem dX4_walk_70 : decode cX4_walk 70 = .ok (.ior, 1) := by decide +kernel
theorem dX4_walk_71 : decode cX4_walk 71 = .ok (.invokevirtual 84, 3) := by decide +kernel
theorem dX4_walk_74 : decode cX4_walk 74 = .ok (.goto 34, 3) := by decide +kernel
theorem dX4_walk_77 : decode cX4_walk 77 = .ok (.aload_n 0, 1) := by decide +kernel
theorem dX4_walk_78 : decode cX4_walk 78 = .ok (.iload 4, 2) := by decide +kernel
theorem dX4_walk_80 : decode cX4_walk 80 = .ok (.iload 6, 2) := by decide +kernel
theorem dX4_walk_82 : decode cX4_walk 82 = .ok (.invokevirtual 37, 3) := by decide +kernel
theorem dX4_walk_85 : decode cX4_walk 85 = .ok (.ifCond .ne 23, 3) := by decide +kernel
theorem dX4_walk_88 : decode cX4_walk 88 = .ok (.aload_n 0, 1) := by decide +kernel
theorem dX4_walk_89 : decode cX4_walk 89 = .ok (.iload_n 1, 1) := by decide +kernel
theorem dX4_walk_90 : decode cX4_walk 90 = .ok (.iload 6, 2) := by decide +kernel
theorem dX4_walk_92 : decode cX4_walk 92 = .ok (.iload_n 3, 1) := by decide +kernel
theorem dX4_walk_93 : decode cX4_walk 93 = .ok (.iconst 1, 1) := by decide +kernel
theorem dX4_walk_94 : decode cX4_walk 94 = .ok (.iload 5, 2) := by decide +kernel
theorem dX4_walk_96 : decode cX4_walk 96 = .ok (.ishl, 1) := by decide +kernel
theorem dX4_walk_97 : decode cX4_walk 97 = .ok (.ior, 1) := by decide +kernel
theorem dX4_walk_98 : decode cX4_walk 98 = .ok (.iload 4, 2) := by decide +kernel
theorem dX4_walk_100 : decode cX4_walk 100 = .ok (.iconst 1, 1) := by decide +kernel
theorem dX4_walk_101 : decode cX4_walk 101 = .ok (.iload 6, 2) := by decide +kernel
theorem dX4_walk_103 : decode cX4_walk 103 = .ok (.ishl, 1) := by decide +kernel
theorem dX4_walk_104 : decode cX4_walk 104 = .ok (.ior, 1) := by decide +kernel
theorem dX4_walk_105 : decode cX4_walk 105 = .ok (.invokevirtual 71, 3) := by decide +kernel
theorem dX4_walk_108 : decode cX4_walk 108 = .ok (.iinc 5 1, 3) := by decide +kernel
theorem dX4_walk_111 : decode cX4_walk 111 = .ok (.goto (-96), 3) := by decide +kernel
theorem dX4_walk_114 : decode cX4_walk 114 = .ok (.return_, 1) := by decide +kernel
theorem dX4_follows_0 : decode cX4_follows 0 = .ok (.aload_n 0, 1) := by decide +kernel
theorem dX4_follows_1 : decode cX4_follows 1 = .ok (.getfield 15, 3) := by decide +kernel
theorem dX4_follows_4 : decode cX4_follows 4 = .ok (.iload_n 2, 1) := by decide +kernel
theorem dX4_follows_5 : decode cX4_follows 5 = .ok (.aaload, 1) := by decide +kernel
theorem dX4_follows_6 : decode cX4_follows 6 = .ok (.getfield 52, 3) := by decide +kernel
theorem dX4_follows_9 : decode cX4_follows 9 = .ok (.iload_n 3, 1) := by decide +kernel
theorem dX4_follows_10 : decode cX4_follows 10 = .ok (.if_icmp .ne 49, 3) := by decide +kernel
theorem dX4_follows_13 : decode cX4_follows 13 = .ok (.aload_n 0, 1) := by decide +kernel
theorem dX4_follows_14 : decode cX4_follows 14 = .ok (.getfield 15, 3) := by decide +kernel
theorem dX4_follows_17 : decode cX4_follows 17 = .ok (.iload_n 2, 1) := by decide +kernel
theorem dX4_follows_18 : decode cX4_follows 18 = .ok (.aaload, 1) := by decide +kernel
theorem dX4_follows_19 : decode cX4_follows 19 = .ok (.getfield 67, 3) := by decide +kernel
theorem dX4_follows_22 : decode cX4_follows 22 = .ok (.aload_n 0, 1) := by decide +kernel
theorem dX4_follows_23 : decode cX4_follows 23 = .ok (.getfield 15, 3) := by decide +kernel
theorem dX4_follows_26 : decode cX4_follows 26 = .ok (.iload_n 1, 1) := by decide +kernel
theorem dX4_follows_27 : decode cX4_follows 27 = .ok (.aaload, 1) := by decide +kernel
theorem dX4_follows_28 : decode cX4_follows 28 = .ok (.getfield 67, 3) := by decide +kernel
theorem dX4_follows_31 : decode cX4_follows 31 = .ok (.if_acmp .ne 28, 3) := by decide +kernel
theorem dX4_follows_34 : decode cX4_follows 34 = .ok (.aload_n 0, 1) := by decide +kernel
theorem dX4_follows_35 : decode cX4_follows 35 = .ok (.getfield 15, 3) := by decide +kernel
theorem dX4_follows_38 : decode cX4_follows 38 = .ok (.iload_n 2, 1) := by decide +kernel
theorem dX4_follows_39 : decode cX4_follows 39 = .ok (.aaload, 1) := by decide +kernel
theorem dX4_follows_40 : decode cX4_follows 40 = .ok (.getfield 41, 3) := by decide +kernel
theorem dX4_follows_43 : decode cX4_follows 43 = .ok (.aload_n 0, 1) := by decide +kernel
theorem dX4_follows_44 : decode cX4_follows 44 = .ok (.getfield 15, 3) := by decide +kernel
theorem dX4_follows_47 : decode cX4_follows 47 = .ok (.iload_n 1, 1) := by decide +kernel
theorem dX4_follows_48 : decode cX4_follows 48 = .ok (.aaload, 1) := by decide +kernel
theorem dX4_follows_49 : decode cX4_follows 49 = .ok (.getfield 41, 3) := by decide +kernel
theorem dX4_follows_52 : decode cX4_follows 52 = .ok (.if_icmp .ne 7, 3) := by decide +kernel
theorem dX4_follows_55 : decode cX4_follows 55 = .ok (.iconst 1, 1) := by decide +kernel
theorem dX4_follows_56 : decode cX4_follows 56 = .ok (.goto 4, 3) := by decide +kernel
theorem dX4_follows_59 : decode cX4_follows 59 = .ok (.iconst 0, 1) := by decide +kernel
theorem dX4_follows_60 : decode cX4_follows 60 = .ok (.ireturn, 1) := by decide +kernel
theorem dX4_offer_0 : decode cX4_offer 0 = .ok (.aload_n 0, 1) := by decide +kernel
theorem dX4_offer_1 : decode cX4_offer 1 = .ok (.getfield 64, 3) := by decide +kernel
theorem dX4_offer_4 : decode cX4_offer 4 = .ok (.iconst (-1), 1) := by decide +kernel
theorem dX4_offer_5 : decode cX4_offer 5 = .ok (.if_icmp .ne 7, 3) := by decide +kernel
theorem dX4_offer_8 : decode cX4_offer 8 = .ok (.iconst (-1), 1) := by decide +kernel
theorem dX4_offer_9 : decode cX4_offer 9 = .ok (.goto 15, 3) := by decide +kernel
theorem dX4_offer_12 : decode cX4_offer 12 = .ok (.iload_n 1, 1) := by decide +kernel
theorem dX4_offer_13 : decode cX4_offer 13 = .ok (.invokestatic 75, 3) := by decide +kernel
theorem dX4_offer_16 : decode cX4_offer 16 = .ok (.aload_n 0, 1) := by decide +kernel
theorem dX4_offer_17 : decode cX4_offer 17 = .ok (.getfield 64, 3) := by decide +kernel
theorem dX4_offer_20 : decode cX4_offer 20 = .ok (.invokestatic 75, 3) := by decide +kernel
theorem dX4_offer_23 : decode cX4_offer 23 = .ok (.isub, 1) := by decide +kernel
theorem dX4_offer_24 : decode cX4_offer 24 = .ok (.istore_n 2, 1) := by decide +kernel
theorem dX4_offer_25 : decode cX4_offer 25 = .ok (.iload_n 2, 1) := by decide +kernel
theorem dX4_offer_26 : decode cX4_offer 26 = .ok (.ifCond .lt 15, 3) := by decide +kernel
theorem dX4_offer_29 : decode cX4_offer 29 = .ok (.iload_n 2, 1) := by decide +kernel
theorem dX4_offer_30 : decode cX4_offer 30 = .ok (.ifCond .ne 16, 3) := by decide +kernel
theorem dX4_offer_33 : decode cX4_offer 33 = .ok (.iload_n 1, 1) := by decide +kernel
theorem dX4_offer_34 : decode cX4_offer 34 = .ok (.aload_n 0, 1) := by decide +kernel
theorem dX4_offer_35 : decode cX4_offer 35 = .ok (.getfield 64, 3) := by decide +kernel
theorem dX4_offer_38 : decode cX4_offer 38 = .ok (.if_icmp .ge 8, 3) := by decide +kernel
theorem dX4_offer_41 : decode cX4_offer 41 = .ok (.aload_n 0, 1) := by decide +kernel
theorem dX4_offer_42 : decode cX4_offer 42 = .ok (.iload_n 1, 1) := by decide +kernel
theorem dX4_offer_43 : decode cX4_offer 43 = .ok (.putfield 64, 3) := by decide +kernel
theorem dX4_offer_46 : decode cX4_offer 46 = .ok (.return_, 1) := by decide +kernel
theorem dX5_init_0 : decode cX5_init 0 = .ok (.aload_n 0, 1) := by decide +kernel
theorem dX5_init_1 : decode cX5_init 1 = .ok (.invokespecial 3, 3) := by decide +kernel
theorem dX5_init_4 : decode cX5_init 4 = .ok (.aload_n 0, 1) := by decide +kernel
theorem dX5_init_5 : decode cX5_init 5 = .ok (.iconst (-1), 1) := by decide +kernel
theorem dX5_init_6 : decode cX5_init 6 = .ok (.putfield 9, 3) := by decide +kernel
theorem dX5_init_9 : decode cX5_init 9 = .ok (.aload_n 0, 1) := by decide +kernel
theorem dX5_init_10 : decode cX5_init 10 = .ok (.iconst (-1), 1) := by decide +kernel
theorem dX5_init_11 : decode cX5_init 11 = .ok (.putfield 15, 3) := by decide +kernel
theorem dX5_init_14 : decode cX5_init 14 = .ok (.aload_n 0, 1) := by decide +kernel
theorem dX5_init_15 : decode cX5_init 15 = .ok (.iload_n 1, 1) := by decide +kernel
theorem dX5_init_16 : decode cX5_init 16 = .ok (.putfield 18, 3) := by decide +kernel
theorem dX5_init_19 : decode cX5_init 19 = .ok (.aload_n 0, 1) := by decide +kernel
theorem dX5_init_20 : decode cX5_init 20 = .ok (.aload_n 2, 1) := by decide +kernel
theorem dX5_init_21 : decode cX5_init 21 = .ok (.putfield 21, 3) := by decide +kernel
theorem dX5_init_24 : decode cX5_init 24 = .ok (.aload_n 0, 1) := by decide +kernel
theorem dX5_init_25 : decode cX5_init 25 = .ok (.iload_n 3, 1) := by decide +kernel
theorem dX5_init_26 : decode cX5_init 26 = .ok (.putfield 25, 3) := by decide +kernel
theorem dX5_init_29 : decode cX5_init 29 = .ok (.aload_n 0, 1) := by decide +kernel
theorem dX5_init_30 : decode cX5_init 30 = .ok (.iload 4, 2) := by decide +kernel
theorem dX5_init_32 : decode cX5_init 32 = .ok (.putfield 28, 3) := by decide +kernel
theorem dX5_init_35 : decode cX5_init 35 = .ok (.aload_n 0, 1) := by decide +kernel
theorem dX5_init_36 : decode cX5_init 36 = .ok (.iload 5, 2) := by decide +kernel
theorem dX5_init_38 : decode cX5_init 38 = .ok (.putfield 31, 3) := by decide +kernel
theorem dX5_init_41 : decode cX5_init 41 = .ok (.aload_n 0, 1) := by decide +kernel
theorem dX5_init_42 : decode cX5_init 42 = .ok (.iload 6, 2) := by decide +kernel
theorem dX5_init_44 : decode cX5_init 44 = .ok (.putfield 34, 3) := by decide +kernel
theorem dX5_init_47 : decode cX5_init 47 = .ok (.aload_n 0, 1) := by decide +kernel
theorem dX5_init_48 : decode cX5_init 48 = .ok (.iload 7, 2) := by decide +kernel
theorem dX5_init_50 : decode cX5_init 50 = .ok (.putfield 37, 3) := by decide +kernel
theorem dX5_init_53 : decode cX5_init 53 = .ok (.return_, 1) := by decide +kernel
theorem dX5_due_0 : decode cX5_due 0 = .ok (.aload_n 0, 1) := by decide +kernel
theorem dX5_due_1 : decode cX5_due 1 = .ok (.getfield 34, 3) := by decide +kernel
theorem dX5_due_4 : decode cX5_due 4 = .ok (.aload_n 0, 1) := by decide +kernel
theorem dX5_due_5 : decode cX5_due 5 = .ok (.getfield 31, 3) := by decide +kernel
theorem dX5_due_8 : decode cX5_due 8 = .ok (.imul, 1) := by decide +kernel
theorem dX5_due_9 : decode cX5_due 9 = .ok (.ireturn, 1) := by decide +kernel
theorem dX5_passHour_0 : decode cX5_passHour 0 = .ok (.iload_n 1, 1) := by decide +kernel
theorem dX5_passHour_1 : decode cX5_passHour 1 = .ok (.ifCond .ne 10, 3) := by decide +kernel
theorem dX5_passHour_4 : decode cX5_passHour 4 = .ok (.aload_n 0, 1) := by decide +kernel
theorem dX5_passHour_5 : decode cX5_passHour 5 = .ok (.invokevirtual 40, 3) := by decide +kernel
theorem dX5_passHour_8 : decode cX5_passHour 8 = .ok (.goto 7, 3) := by decide +kernel
theorem dX5_passHour_11 : decode cX5_passHour 11 = .ok (.aload_n 0, 1) := by decide +kernel
theorem dX5_passHour_12 : decode cX5_passHour 12 = .ok (.invokevirtual 44, 3) := by decide +kernel
theorem dX5_passHour_15 : decode cX5_passHour 15 = .ok (.ireturn, 1) := by decide +kernel
theorem dX5_thingHour_0 : decode cX5_thingHour 0 = .ok (.aload_n 0, 1) := by decide +kernel
theorem dX5_thingHour_1 : decode cX5_thingHour 1 = .ok (.getfield 18, 3) := by decide +kernel
theorem dX5_thingHour_4 : decode cX5_thingHour 4 = .ok (.tableswitch 111 1 5 #[36, 53, 99, 70, 99], 36) := by decide +kernel
theorem dX5_thingHour_40 : decode cX5_thingHour 40 = .ok (.aload_n 0, 1) := by decide +kernel
theorem dX5_thingHour_41 : decode cX5_thingHour 41 = .ok (.getfield 21, 3) := by decide +kernel
theorem dX5_thingHour_44 : decode cX5_thingHour 44 = .ok (.getfield 47, 3) := by decide +kernel
theorem dX5_thingHour_47 : decode cX5_thingHour 47 = .ok (.iconst 0, 1) := by decide +kernel
theorem dX5_thingHour_48 : decode cX5_thingHour 48 = .ok (.iaload, 1) := by decide +kernel
theorem dX5_thingHour_49 : decode cX5_thingHour 49 = .ok (.aload_n 0, 1) := by decide +kernel
theorem dX5_thingHour_50 : decode cX5_thingHour 50 = .ok (.getfield 37, 3) := by decide +kernel
theorem dX5_thingHour_53 : decode cX5_thingHour 53 = .ok (.invokestatic 53, 3) := by decide +kernel
theorem dX5_thingHour_56 : decode cX5_thingHour 56 = .ok (.ireturn, 1) := by decide +kernel
theorem dX5_thingHour_57 : decode cX5_thingHour 57 = .ok (.aload_n 0, 1) := by decide +kernel
theorem dX5_thingHour_58 : decode cX5_thingHour 58 = .ok (.getfield 21, 3) := by decide +kernel
theorem dX5_thingHour_61 : decode cX5_thingHour 61 = .ok (.getfield 47, 3) := by decide +kernel
theorem dX5_thingHour_64 : decode cX5_thingHour 64 = .ok (.iconst 1, 1) := by decide +kernel
theorem dX5_thingHour_65 : decode cX5_thingHour 65 = .ok (.iaload, 1) := by decide +kernel
theorem dX5_thingHour_66 : decode cX5_thingHour 66 = .ok (.aload_n 0, 1) := by decide +kernel
theorem dX5_thingHour_67 : decode cX5_thingHour 67 = .ok (.getfield 37, 3) := by decide +kernel
theorem dX5_thingHour_70 : decode cX5_thingHour 70 = .ok (.invokestatic 53, 3) := by decide +kernel
theorem dX5_thingHour_73 : decode cX5_thingHour 73 = .ok (.ireturn, 1) := by decide +kernel
theorem dX5_thingHour_74 : decode cX5_thingHour 74 = .ok (.aload_n 0, 1) := by decide +kernel
theorem dX5_thingHour_75 : decode cX5_thingHour 75 = .ok (.getfield 21, 3) := by decide +kernel
theorem dX5_thingHour_78 : decode cX5_thingHour 78 = .ok (.getfield 47, 3) := by decide +kernel
theorem dX5_thingHour_81 : decode cX5_thingHour 81 = .ok (.iconst 2, 1) := by decide +kernel
theorem dX5_thingHour_82 : decode cX5_thingHour 82 = .ok (.iaload, 1) := by decide +kernel
theorem dX5_thingHour_83 : decode cX5_thingHour 83 = .ok (.aload_n 0, 1) := by decide +kernel
theorem dX5_thingHour_84 : decode cX5_thingHour 84 = .ok (.getfield 21, 3) := by decide +kernel
theorem dX5_thingHour_87 : decode cX5_thingHour 87 = .ok (.getfield 47, 3) := by decide +kernel
theorem dX5_thingHour_90 : decode cX5_thingHour 90 = .ok (.iconst 1, 1) := by decide +kernel
theorem dX5_thingHour_91 : decode cX5_thingHour 91 = .ok (.iaload, 1) := by decide +kernel
theorem dX5_thingHour_92 : decode cX5_thingHour 92 = .ok (.aload_n 0, 1) := by decide +kernel
theorem dX5_thingHour_93 : decode cX5_thingHour 93 = .ok (.getfield 37, 3) := by decide +kernel
theorem dX5_thingHour_96 : decode cX5_thingHour 96 = .ok (.invokestatic 53, 3) := by decide +kernel
theorem dX5_thingHour_99 : decode cX5_thingHour 99 = .ok (.invokestatic 53, 3) := by decide +kernel
theorem dX5_thingHour_102 : decode cX5_thingHour 102 = .ok (.ireturn, 1) := by decide +kernel
theorem dX5_thingHour_103 : decode cX5_thingHour 103 = .ok (.aload_n 0, 1) := by decide +kernel
theorem dX5_thingHour_104 : decode cX5_thingHour 104 = .ok (.getfield 9, 3) := by decide +kernel
theorem dX5_thingHour_107 : decode cX5_thingHour 107 = .ok (.aload_n 0, 1) := by decide +kernel
theorem dX5_thingHour_108 : decode cX5_thingHour 108 = .ok (.getfield 37, 3) := by decide +kernel
theorem dX5_thingHour_111 : decode cX5_thingHour 111 = .ok (.invokestatic 53, 3) := by decide +kernel
theorem dX5_thingHour_114 : decode cX5_thingHour 114 = .ok (.ireturn, 1) := by decide +kernel
theorem dX5_thingHour_115 : decode cX5_thingHour 115 = .ok (.aload_n 0, 1) := by decide +kernel
theorem dX5_thingHour_116 : decode cX5_thingHour 116 = .ok (.getfield 37, 3) := by decide +kernel
theorem dX5_thingHour_119 : decode cX5_thingHour 119 = .ok (.ireturn, 1) := by decide +kernel
theorem dX5_lossHour_0 : decode cX5_lossHour 0 = .ok (.aload_n 0, 1) := by decide +kernel
theorem dX5_lossHour_1 : decode cX5_lossHour 1 = .ok (.getfield 18, 3) := by decide +kernel
theorem dX5_lossHour_4 : decode cX5_lossHour 4 = .ok (.tableswitch 91 1 5 #[36, 53, 36, 53, 70], 36) := by decide +kernel
theorem dX5_lossHour_40 : decode cX5_lossHour 40 = .ok (.aload_n 0, 1) := by decide +kernel
theorem dX5_lossHour_41 : decode cX5_lossHour 41 = .ok (.getfield 21, 3) := by decide +kernel
theorem dX5_lossHour_44 : decode cX5_lossHour 44 = .ok (.getfield 47, 3) := by decide +kernel
theorem dX5_lossHour_47 : decode cX5_lossHour 47 = .ok (.iconst 0, 1) := by decide +kernel
theorem dX5_lossHour_48 : decode cX5_lossHour 48 = .ok (.iaload, 1) := by decide +kernel
theorem dX5_lossHour_49 : decode cX5_lossHour 49 = .ok (.aload_n 0, 1) := by decide +kernel
theorem dX5_lossHour_50 : decode cX5_lossHour 50 = .ok (.getfield 37, 3) := by decide +kernel
theorem dX5_lossHour_53 : decode cX5_lossHour 53 = .ok (.invokestatic 53, 3) := by decide +kernel
theorem dX5_lossHour_56 : decode cX5_lossHour 56 = .ok (.ireturn, 1) := by decide +kernel
theorem dX5_lossHour_57 : decode cX5_lossHour 57 = .ok (.aload_n 0, 1) := by decide +kernel
theorem dX5_lossHour_58 : decode cX5_lossHour 58 = .ok (.getfield 21, 3) := by decide +kernel
theorem dX5_lossHour_61 : decode cX5_lossHour 61 = .ok (.getfield 47, 3) := by decide +kernel
theorem dX5_lossHour_64 : decode cX5_lossHour 64 = .ok (.iconst 1, 1) := by decide +kernel
theorem dX5_lossHour_65 : decode cX5_lossHour 65 = .ok (.iaload, 1) := by decide +kernel
theorem dX5_lossHour_66 : decode cX5_lossHour 66 = .ok (.aload_n 0, 1) := by decide +kernel
theorem dX5_lossHour_67 : decode cX5_lossHour 67 = .ok (.getfield 37, 3) := by decide +kernel
theorem dX5_lossHour_70 : decode cX5_lossHour 70 = .ok (.invokestatic 53, 3) := by decide +kernel
theorem dX5_lossHour_73 : decode cX5_lossHour 73 = .ok (.ireturn, 1) := by decide +kernel
theorem dX5_lossHour_74 : decode cX5_lossHour 74 = .ok (.aload_n 0, 1) := by decide +kernel
theorem dX5_lossHour_75 : decode cX5_lossHour 75 = .ok (.aload_n 0, 1) := by decide +kernel
theorem dX5_lossHour_76 : decode cX5_lossHour 76 = .ok (.getfield 21, 3) := by decide +kernel
theorem dX5_lossHour_79 : decode cX5_lossHour 79 = .ok (.getfield 47, 3) := by decide +kernel
theorem dX5_lossHour_82 : decode cX5_lossHour 82 = .ok (.iconst 0, 1) := by decide +kernel
theorem dX5_lossHour_83 : decode cX5_lossHour 83 = .ok (.iaload, 1) := by decide +kernel
theorem dX5_lossHour_84 : decode cX5_lossHour 84 = .ok (.aload_n 0, 1) := by decide +kernel
theorem dX5_lossHour_85 : decode cX5_lossHour 85 = .ok (.getfield 37, 3) := by decide +kernel
theorem dX5_lossHour_88 : decode cX5_lossHour 88 = .ok (.invokestatic 53, 3) := by decide +kernel
theorem dX5_lossHour_91 : decode cX5_lossHour 91 = .ok (.invokevirtual 57, 3) := by decide +kernel
theorem dX5_lossHour_94 : decode cX5_lossHour 94 = .ok (.ireturn, 1) := by decide +kernel
theorem dX5_lossHour_95 : decode cX5_lossHour 95 = .ok (.aload_n 0, 1) := by decide +kernel
theorem dX5_lossHour_96 : decode cX5_lossHour 96 = .ok (.getfield 37, 3) := by decide +kernel
theorem dX5_lossHour_99 : decode cX5_lossHour 99 = .ok (.ireturn, 1) := by decide +kernel
theorem dX5_laterOf_0 : decode cX5_laterOf 0 = .ok (.iload_n 0, 1) := by decide +kernel
theorem dX5_laterOf_1 : decode cX5_laterOf 1 = .ok (.iconst (-1), 1) := by decide +kernel
theorem dX5_laterOf_2 : decode cX5_laterOf 2 = .ok (.if_icmp .ne 9, 3) := by decide +kernel
theorem dX5_laterOf_5 : decode cX5_laterOf 5 = .ok (.sipush 1000, 3) := by decide +kernel
theorem dX5_laterOf_8 : decode cX5_laterOf 8 = .ok (.goto 8, 3) := by decide +kernel
theorem dX5_laterOf_11 : decode cX5_laterOf 11 = .ok (.iload_n 0, 1) := by decide +kernel
theorem dX5_laterOf_12 : decode cX5_laterOf 12 = .ok (.iload_n 1, 1) := by decide +kernel
theorem dX5_laterOf_13 : decode cX5_laterOf 13 = .ok (.invokestatic 61, 3) := by decide +kernel
theorem dX5_laterOf_16 : decode cX5_laterOf 16 = .ok (.ireturn, 1) := by decide +kernel
theorem dX5_halfWayTo_0 : decode cX5_halfWayTo 0 = .ok (.iload_n 1, 1) := by decide +kernel
theorem dX5_halfWayTo_1 : decode cX5_halfWayTo 1 = .ok (.sipush 1000, 3) := by decide +kernel
theorem dX5_halfWayTo_4 : decode cX5_halfWayTo 4 = .ok (.if_icmp .ne 9, 3) := by decide +kernel
theorem dX5_halfWayTo_7 : decode cX5_halfWayTo 7 = .ok (.sipush 1000, 3) := by decide +kernel
theorem dX5_halfWayTo_10 : decode cX5_halfWayTo 10 = .ok (.goto 16, 3) := by decide +kernel
theorem dX5_halfWayTo_13 : decode cX5_halfWayTo 13 = .ok (.aload_n 0, 1) := by decide +kernel
theorem dX5_halfWayTo_14 : decode cX5_halfWayTo 14 = .ok (.getfield 37, 3) := by decide +kernel
theorem dX5_halfWayTo_17 : decode cX5_halfWayTo 17 = .ok (.iload_n 1, 1) := by decide +kernel
theorem dX5_halfWayTo_18 : decode cX5_halfWayTo 18 = .ok (.aload_n 0, 1) := by decide +kernel
theorem dX5_halfWayTo_19 : decode cX5_halfWayTo 19 = .ok (.getfield 37, 3) := by decide +kernel
theorem dX5_halfWayTo_22 : decode cX5_halfWayTo 22 = .ok (.isub, 1) := by decide +kernel
theorem dX5_halfWayTo_23 : decode cX5_halfWayTo 23 = .ok (.iconst 2, 1) := by decide +kernel
theorem dX5_halfWayTo_24 : decode cX5_halfWayTo 24 = .ok (.idiv, 1) := by decide +kernel
theorem dX5_halfWayTo_25 : decode cX5_halfWayTo 25 = .ok (.iadd, 1) := by decide +kernel
theorem dX5_halfWayTo_26 : decode cX5_halfWayTo 26 = .ok (.ireturn, 1) := by decide +kernel
theorem dX5_tell_0 : decode cX5_tell 0 = .ok (.iload_n 1, 1) := by decide +kernel
theorem dX5_tell_1 : decode cX5_tell 1 = .ok (.tableswitch 117 0 10 #[59, 64, 72, 77, 82, 87, 92, 97, 102, 107, 112], 59) := by decide +kernel
theorem dX5_tell_60 : decode cX5_tell 60 = .ok (.aload_n 0, 1) := by decide +kernel
theorem dX5_tell_61 : decode cX5_tell 61 = .ok (.getfield 18, 3) := by decide +kernel
theorem dX5_tell_64 : decode cX5_tell 64 = .ok (.ireturn, 1) := by decide +kernel
theorem dX5_tell_65 : decode cX5_tell 65 = .ok (.aload_n 0, 1) := by decide +kernel
theorem dX5_tell_66 : decode cX5_tell 66 = .ok (.getfield 21, 3) := by decide +kernel
theorem dX5_tell_69 : decode cX5_tell 69 = .ok (.getfield 66, 3) := by decide +kernel
theorem dX5_tell_72 : decode cX5_tell 72 = .ok (.ireturn, 1) := by decide +kernel
theorem dX5_tell_73 : decode cX5_tell 73 = .ok (.aload_n 0, 1) := by decide +kernel
theorem dX5_tell_74 : decode cX5_tell 74 = .ok (.getfield 25, 3) := by decide +kernel
theorem dX5_tell_77 : decode cX5_tell 77 = .ok (.ireturn, 1) := by decide +kernel
theorem dX5_tell_78 : decode cX5_tell 78 = .ok (.aload_n 0, 1) := by decide +kernel
theorem dX5_tell_79 : decode cX5_tell 79 = .ok (.getfield 28, 3) := by decide +kernel
theorem dX5_tell_82 : decode cX5_tell 82 = .ok (.ireturn, 1) := by decide +kernel
theorem dX5_tell_83 : decode cX5_tell 83 = .ok (.aload_n 0, 1) := by decide +kernel
theorem dX5_tell_84 : decode cX5_tell 84 = .ok (.getfield 31, 3) := by decide +kernel
theorem dX5_tell_87 : decode cX5_tell 87 = .ok (.ireturn, 1) := by decide +kernel
theorem dX5_tell_88 : decode cX5_tell 88 = .ok (.aload_n 0, 1) := by decide +kernel
theorem dX5_tell_89 : decode cX5_tell 89 = .ok (.getfield 34, 3) := by decide +kernel
theorem dX5_tell_92 : decode cX5_tell 92 = .ok (.ireturn, 1) := by decide +kernel
theorem dX5_tell_93 : decode cX5_tell 93 = .ok (.aload_n 0, 1) := by decide +kernel
theorem dX5_tell_94 : decode cX5_tell 94 = .ok (.getfield 37, 3) := by decide +kernel
theorem dX5_tell_97 : decode cX5_tell 97 = .ok (.ireturn, 1) := by decide +kernel
theorem dX5_tell_98 : decode cX5_tell 98 = .ok (.aload_n 0, 1) := by decide +kernel
theorem dX5_tell_99 : decode cX5_tell 99 = .ok (.getfield 9, 3) := by decide +kernel
theorem dX5_tell_102 : decode cX5_tell 102 = .ok (.ireturn, 1) := by decide +kernel
theorem dX5_tell_103 : decode cX5_tell 103 = .ok (.aload_n 0, 1) := by decide +kernel
theorem dX5_tell_104 : decode cX5_tell 104 = .ok (.getfield 69, 3) := by decide +kernel
theorem dX5_tell_107 : decode cX5_tell 107 = .ok (.ireturn, 1) := by decide +kernel
theorem dX5_tell_108 : decode cX5_tell 108 = .ok (.aload_n 0, 1) := by decide +kernel
theorem dX5_tell_109 : decode cX5_tell 109 = .ok (.invokevirtual 40, 3) := by decide +kernel
theorem dX5_tell_112 : decode cX5_tell 112 = .ok (.ireturn, 1) := by decide +kernel
theorem dX5_tell_113 : decode cX5_tell 113 = .ok (.aload_n 0, 1) := by decide +kernel
theorem dX5_tell_114 : decode cX5_tell 114 = .ok (.invokevirtual 44, 3) := by decide +kernel
theorem dX5_tell_117 : decode cX5_tell 117 = .ok (.ireturn, 1) := by decide +kernel
theorem dX5_tell_118 : decode cX5_tell 118 = .ok (.bipush (-5), 2) := by decide +kernel
theorem dX5_tell_120 : decode cX5_tell 120 = .ok (.ireturn, 1) := by decide +kernel
theorem dX5_keep_0 : decode cX5_keep 0 = .ok (.aload_n 0, 1) := by decide +kernel
theorem dX5_keep_1 : decode cX5_keep 1 = .ok (.aload_n 0, 1) := by decide +kernel
theorem dX5_keep_2 : decode cX5_keep 2 = .ok (.getfield 9, 3) := by decide +kernel
theorem dX5_keep_5 : decode cX5_keep 5 = .ok (.putfield 15, 3) := by decide +kernel
theorem dX5_keep_8 : decode cX5_keep 8 = .ok (.aload_n 0, 1) := by decide +kernel
theorem dX5_keep_9 : decode cX5_keep 9 = .ok (.aload_n 0, 1) := by decide +kernel
theorem dX5_keep_10 : decode cX5_keep 10 = .ok (.getfield 69, 3) := by decide +kernel
theorem dX5_keep_13 : decode cX5_keep 13 = .ok (.putfield 72, 3) := by decide +kernel
theorem dX5_keep_16 : decode cX5_keep 16 = .ok (.return_, 1) := by decide +kernel
theorem dX5_layBack_0 : decode cX5_layBack 0 = .ok (.aload_n 0, 1) := by decide +kernel
theorem dX5_layBack_1 : decode cX5_layBack 1 = .ok (.aload_n 0, 1) := by decide +kernel
theorem dX5_layBack_2 : decode cX5_layBack 2 = .ok (.getfield 15, 3) := by decide +kernel
theorem dX5_layBack_5 : decode cX5_layBack 5 = .ok (.putfield 9, 3) := by decide +kernel
theorem dX5_layBack_8 : decode cX5_layBack 8 = .ok (.aload_n 0, 1) := by decide +kernel
theorem dX5_layBack_9 : decode cX5_layBack 9 = .ok (.aload_n 0, 1) := by decide +kernel
theorem dX5_layBack_10 : decode cX5_layBack 10 = .ok (.getfield 72, 3) := by decide +kernel
theorem dX5_layBack_13 : decode cX5_layBack 13 = .ok (.putfield 69, 3) := by decide +kernel
theorem dX5_layBack_16 : decode cX5_layBack 16 = .ok (.return_, 1) := by decide +kernel
theorem dX6_init_0 : decode cX6_init 0 = .ok (.aload_n 0, 1) := by decide +kernel
theorem dX6_init_1 : decode cX6_init 1 = .ok (.invokespecial 3, 3) := by decide +kernel
theorem dX6_init_4 : decode cX6_init 4 = .ok (.aload_n 0, 1) := by decide +kernel
theorem dX6_init_5 : decode cX6_init 5 = .ok (.bipush 40, 2) := by decide +kernel
theorem dX6_init_7 : decode cX6_init 7 = .ok (.newarray .int, 2) := by decide +kernel
theorem dX6_init_9 : decode cX6_init 9 = .ok (.putfield 9, 3) := by decide +kernel
theorem dX6_init_12 : decode cX6_init 12 = .ok (.aload_n 0, 1) := by decide +kernel
theorem dX6_init_13 : decode cX6_init 13 = .ok (.iconst (-1), 1) := by decide +kernel
theorem dX6_init_14 : decode cX6_init 14 = .ok (.putfield 15, 3) := by decide +kernel
theorem dX6_init_17 : decode cX6_init 17 = .ok (.return_, 1) := by decide +kernel
theorem dX6_become_0 : decode cX6_become 0 = .ok (.aload_n 0, 1) := by decide +kernel
theorem dX6_become_1 : decode cX6_become 1 = .ok (.iload_n 1, 1) := by decide +kernel
theorem dX6_become_2 : decode cX6_become 2 = .ok (.putfield 15, 3) := by decide +kernel
theorem dX6_become_5 : decode cX6_become 5 = .ok (.aload_n 0, 1) := by decide +kernel
theorem dX6_become_6 : decode cX6_become 6 = .ok (.iload_n 2, 1) := by decide +kernel
theorem dX6_become_7 : decode cX6_become 7 = .ok (.putfield 19, 3) := by decide +kernel
theorem dX6_become_10 : decode cX6_become 10 = .ok (.aload_n 0, 1) := by decide +kernel
theorem dX6_become_11 : decode cX6_become 11 = .ok (.getfield 9, 3) := by decide +kernel
theorem dX6_become_14 : decode cX6_become 14 = .ok (.iconst 0, 1) := by decide +kernel
theorem dX6_become_15 : decode cX6_become 15 = .ok (.invokestatic 22, 3) := by decide +kernel
theorem dX6_become_18 : decode cX6_become 18 = .ok (.return_, 1) := by decide +kernel
theorem dX6_put_0 : decode cX6_put 0 = .ok (.aload_n 0, 1) := by decide +kernel
theorem dX6_put_1 : decode cX6_put 1 = .ok (.getfield 9, 3) := by decide +kernel
theorem dX6_put_4 : decode cX6_put 4 = .ok (.iload_n 1, 1) := by decide +kernel
theorem dX6_put_5 : decode cX6_put 5 = .ok (.aload_n 0, 1) := by decide +kernel
theorem dX6_put_6 : decode cX6_put 6 = .ok (.getfield 15, 3) := by decide +kernel
theorem dX6_put_9 : decode cX6_put 9 = .ok (.ifCond .ne 8, 3) := by decide +kernel
theorem dX6_put_12 : decode cX6_put 12 = .ok (.iload_n 2, 1) := by decide +kernel
theorem dX6_put_13 : decode cX6_put 13 = .ok (.i2b, 1) := by decide +kernel
theorem dX6_put_14 : decode cX6_put 14 = .ok (.goto 17, 3) := by decide +kernel
theorem dX6_put_17 : decode cX6_put 17 = .ok (.aload_n 0, 1) := by decide +kernel
theorem dX6_put_18 : decode cX6_put 18 = .ok (.getfield 15, 3) := by decide +kernel
theorem dX6_put_21 : decode cX6_put 21 = .ok (.iconst 1, 1) := by decide +kernel
theorem dX6_put_22 : decode cX6_put 22 = .ok (.if_icmp .ne 8, 3) := by decide +kernel
theorem dX6_put_25 : decode cX6_put 25 = .ok (.iload_n 2, 1) := by decide +kernel
theorem dX6_put_26 : decode cX6_put 26 = .ok (.i2s, 1) := by decide +kernel
theorem dX6_put_27 : decode cX6_put 27 = .ok (.goto 4, 3) := by decide +kernel
theorem dX6_put_30 : decode cX6_put 30 = .ok (.iload_n 2, 1) := by decide +kernel
theorem dX6_put_31 : decode cX6_put 31 = .ok (.iastore, 1) := by decide +kernel
theorem dX6_put_32 : decode cX6_put 32 = .ok (.return_, 1) := by decide +kernel
theorem dX6_has_0 : decode cX6_has 0 = .ok (.iload_n 2, 1) := by decide +kernel
theorem dX6_has_1 : decode cX6_has 1 = .ok (.ifCond .lt 21, 3) := by decide +kernel
theorem dX6_has_4 : decode cX6_has 4 = .ok (.iload_n 1, 1) := by decide +kernel
theorem dX6_has_5 : decode cX6_has 5 = .ok (.ifCond .lt 17, 3) := by decide +kernel
theorem dX6_has_8 : decode cX6_has 8 = .ok (.iload_n 1, 1) := by decide +kernel
theorem dX6_has_9 : decode cX6_has 9 = .ok (.aload_n 0, 1) := by decide +kernel
theorem dX6_has_10 : decode cX6_has 10 = .ok (.getfield 19, 3) := by decide +kernel
theorem dX6_has_13 : decode cX6_has 13 = .ok (.iload_n 2, 1) := by decide +kernel
theorem dX6_has_14 : decode cX6_has 14 = .ok (.isub, 1) := by decide +kernel
theorem dX6_has_15 : decode cX6_has 15 = .ok (.if_icmp .gt 7, 3) := by decide +kernel
theorem dX6_has_18 : decode cX6_has 18 = .ok (.iconst 1, 1) := by decide +kernel
theorem dX6_has_19 : decode cX6_has 19 = .ok (.goto 4, 3) := by decide +kernel
theorem dX6_has_22 : decode cX6_has 22 = .ok (.iconst 0, 1) := by decide +kernel
theorem dX6_has_23 : decode cX6_has 23 = .ok (.ireturn, 1) := by decide +kernel
theorem dX7_init_0 : decode cX7_init 0 = .ok (.aload_n 0, 1) := by decide +kernel
theorem dX7_init_1 : decode cX7_init 1 = .ok (.invokespecial 3, 3) := by decide +kernel
theorem dX7_init_4 : decode cX7_init 4 = .ok (.aload_n 0, 1) := by decide +kernel
theorem dX7_init_5 : decode cX7_init 5 = .ok (.aload_n 1, 1) := by decide +kernel
theorem dX7_init_6 : decode cX7_init 6 = .ok (.putfield 9, 3) := by decide +kernel
theorem dX7_init_9 : decode cX7_init 9 = .ok (.aload_n 0, 1) := by decide +kernel
theorem dX7_init_10 : decode cX7_init 10 = .ok (.aload_n 2, 1) := by decide +kernel
theorem dX7_init_11 : decode cX7_init 11 = .ok (.putfield 15, 3) := by decide +kernel
theorem dX7_init_14 : decode cX7_init 14 = .ok (.return_, 1) := by decide +kernel
theorem dX7_startOf_0 : decode cX7_startOf 0 = .ok (.iload_n 1, 1) := by decide +kernel
theorem dX7_startOf_1 : decode cX7_startOf 1 = .ok (.ifCond .ne 7, 3) := by decide +kernel
theorem dX7_startOf_4 : decode cX7_startOf 4 = .ok (.iconst 0, 1) := by decide +kernel
theorem dX7_startOf_5 : decode cX7_startOf 5 = .ok (.goto 11, 3) := by decide +kernel
theorem dX7_startOf_8 : decode cX7_startOf 8 = .ok (.aload_n 0, 1) := by decide +kernel
theorem dX7_startOf_9 : decode cX7_startOf 9 = .ok (.getfield 15, 3) := by decide +kernel
theorem dX7_startOf_12 : decode cX7_startOf 12 = .ok (.iload_n 1, 1) := by decide +kernel
theorem dX7_startOf_13 : decode cX7_startOf 13 = .ok (.iconst 1, 1) := by decide +kernel
theorem dX7_startOf_14 : decode cX7_startOf 14 = .ok (.isub, 1) := by decide +kernel
theorem dX7_startOf_15 : decode cX7_startOf 15 = .ok (.iaload, 1) := by decide +kernel
theorem dX7_startOf_16 : decode cX7_startOf 16 = .ok (.ireturn, 1) := by decide +kernel
theorem dX7_endOf_0 : decode cX7_endOf 0 = .ok (.aload_n 0, 1) := by decide +kernel
theorem dX7_endOf_1 : decode cX7_endOf 1 = .ok (.getfield 15, 3) := by decide +kernel
theorem dX7_endOf_4 : decode cX7_endOf 4 = .ok (.iload_n 1, 1) := by decide +kernel
theorem dX7_endOf_5 : decode cX7_endOf 5 = .ok (.iaload, 1) := by decide +kernel
theorem dX7_endOf_6 : decode cX7_endOf 6 = .ok (.ireturn, 1) := by decide +kernel
theorem dX7_codeAt_0 : decode cX7_codeAt 0 = .ok (.aload_n 0, 1) := by decide +kernel
theorem dX7_codeAt_1 : decode cX7_codeAt 1 = .ok (.getfield 9, 3) := by decide +kernel
theorem dX7_codeAt_4 : decode cX7_codeAt 4 = .ok (.iload_n 1, 1) := by decide +kernel
theorem dX7_codeAt_5 : decode cX7_codeAt 5 = .ok (.iaload, 1) := by decide +kernel
theorem dX7_codeAt_6 : decode cX7_codeAt 6 = .ok (.ireturn, 1) := by decide +kernel
theorem dX9_init_0 : decode cX9_init 0 = .ok (.aload_n 0, 1) := by decide +kernel
theorem dX9_init_1 : decode cX9_init 1 = .ok (.invokespecial 1, 3) := by decide +kernel
theorem dX9_init_4 : decode cX9_init 4 = .ok (.aload_n 0, 1) := by decide +kernel
theorem dX9_init_5 : decode cX9_init 5 = .ok (.iconst 4, 1) := by decide +kernel
theorem dX9_init_6 : decode cX9_init 6 = .ok (.anewarray 9, 3) := by decide +kernel
theorem dX9_init_9 : decode cX9_init 9 = .ok (.putfield 11, 3) := by decide +kernel
theorem dX9_init_12 : decode cX9_init 12 = .ok (.aload_n 0, 1) := by decide +kernel
theorem dX9_init_13 : decode cX9_init 13 = .ok (.bipush 24, 2) := by decide +kernel
theorem dX9_init_15 : decode cX9_init 15 = .ok (.anewarray 15, 3) := by decide +kernel
theorem dX9_init_18 : decode cX9_init 18 = .ok (.putfield 17, 3) := by decide +kernel
theorem dX9_init_21 : decode cX9_init 21 = .ok (.aload_n 0, 1) := by decide +kernel
theorem dX9_init_22 : decode cX9_init 22 = .ok (.bipush 6, 2) := by decide +kernel
theorem dX9_init_24 : decode cX9_init 24 = .ok (.anewarray 21, 3) := by decide +kernel
theorem dX9_init_27 : decode cX9_init 27 = .ok (.putfield 23, 3) := by decide +kernel
theorem dX9_init_30 : decode cX9_init 30 = .ok (.aload_n 0, 1) := by decide +kernel
theorem dX9_init_31 : decode cX9_init 31 = .ok (.new 27, 3) := by decide +kernel
theorem dX9_init_34 : decode cX9_init 34 = .ok (.dup, 1) := by decide +kernel
theorem dX9_init_35 : decode cX9_init 35 = .ok (.invokespecial 29, 3) := by decide +kernel
theorem dX9_init_38 : decode cX9_init 38 = .ok (.putfield 30, 3) := by decide +kernel
theorem dX9_init_41 : decode cX9_init 41 = .ok (.aload_n 0, 1) := by decide +kernel
theorem dX9_init_42 : decode cX9_init 42 = .ok (.new 34, 3) := by decide +kernel
theorem dX9_init_45 : decode cX9_init 45 = .ok (.dup, 1) := by decide +kernel
theorem dX9_init_46 : decode cX9_init 46 = .ok (.invokespecial 36, 3) := by decide +kernel
theorem dX9_init_49 : decode cX9_init 49 = .ok (.putfield 37, 3) := by decide +kernel
theorem dX9_init_52 : decode cX9_init 52 = .ok (.aload_n 0, 1) := by decide +kernel
theorem dX9_init_53 : decode cX9_init 53 = .ok (.new 41, 3) := by decide +kernel
theorem dX9_init_56 : decode cX9_init 56 = .ok (.dup, 1) := by decide +kernel
theorem dX9_init_57 : decode cX9_init 57 = .ok (.invokespecial 43, 3) := by decide +kernel
theorem dX9_init_60 : decode cX9_init 60 = .ok (.putfield 44, 3) := by decide +kernel
theorem dX9_init_63 : decode cX9_init 63 = .ok (.aload_n 0, 1) := by decide +kernel
theorem dX9_init_64 : decode cX9_init 64 = .ok (.new 48, 3) := by decide +kernel
theorem dX9_init_67 : decode cX9_init 67 = .ok (.dup, 1) := by decide +kernel
theorem dX9_init_68 : decode cX9_init 68 = .ok (.invokespecial 50, 3) := by decide +kernel
theorem dX9_init_71 : decode cX9_init 71 = .ok (.putfield 51, 3) := by decide +kernel
theorem dX9_init_74 : decode cX9_init 74 = .ok (.aload_n 0, 1) := by decide +kernel
theorem dX9_init_75 : decode cX9_init 75 = .ok (.iconst 4, 1) := by decide +kernel
theorem dX9_init_76 : decode cX9_init 76 = .ok (.anewarray 55, 3) := by decide +kernel
theorem dX9_init_79 : decode cX9_init 79 = .ok (.putfield 57, 3) := by decide +kernel
theorem dX9_init_82 : decode cX9_init 82 = .ok (.aload_n 0, 1) := by decide +kernel
theorem dX9_init_83 : decode cX9_init 83 = .ok (.bipush 10, 2) := by decide +kernel
theorem dX9_init_85 : decode cX9_init 85 = .ok (.newarray .int, 2) := by decide +kernel
theorem dX9_init_87 : decode cX9_init 87 = .ok (.putfield 61, 3) := by decide +kernel
theorem dX9_init_90 : decode cX9_init 90 = .ok (.iconst 0, 1) := by decide +kernel
theorem dX9_init_91 : decode cX9_init 91 = .ok (.istore_n 1, 1) := by decide +kernel
theorem dX9_init_92 : decode cX9_init 92 = .ok (.iload_n 1, 1) := by decide +kernel
theorem dX9_init_93 : decode cX9_init 93 = .ok (.iconst 4, 1) := by decide +kernel
theorem dX9_init_94 : decode cX9_init 94 = .ok (.if_icmp .ge 22, 3) := by decide +kernel
theorem dX9_init_97 : decode cX9_init 97 = .ok (.aload_n 0, 1) := by decide +kernel
theorem dX9_init_98 : decode cX9_init 98 = .ok (.getfield 57, 3) := by decide +kernel
theorem dX9_init_101 : decode cX9_init 101 = .ok (.iload_n 1, 1) := by decide +kernel
theorem dX9_init_102 : decode cX9_init 102 = .ok (.new 55, 3) := by decide +kernel
theorem dX9_init_105 : decode cX9_init 105 = .ok (.dup, 1) := by decide +kernel
theorem dX9_init_106 : decode cX9_init 106 = .ok (.invokespecial 65, 3) := by decide +kernel
theorem dX9_init_109 : decode cX9_init 109 = .ok (.aastore, 1) := by decide +kernel
theorem dX9_init_110 : decode cX9_init 110 = .ok (.iinc 1 1, 3) := by decide +kernel
theorem dX9_init_113 : decode cX9_init 113 = .ok (.goto (-21), 3) := by decide +kernel
theorem dX9_init_116 : decode cX9_init 116 = .ok (.iconst 0, 1) := by decide +kernel
theorem dX9_init_117 : decode cX9_init 117 = .ok (.istore_n 1, 1) := by decide +kernel
theorem dX9_init_118 : decode cX9_init 118 = .ok (.iload_n 1, 1) := by decide +kernel
theorem dX9_init_119 : decode cX9_init 119 = .ok (.ldc 66, 2) := by decide +kernel
theorem dX9_init_121 : decode cX9_init 121 = .ok (.invokevirtual 68, 3) := by decide +kernel
theorem dX9_init_124 : decode cX9_init 124 = .ok (.if_icmp .ge 22, 3) := by decide +kernel
theorem dX9_init_127 : decode cX9_init 127 = .ok (.aload_n 0, 1) := by decide +kernel
theorem dX9_init_128 : decode cX9_init 128 = .ok (.getfield 30, 3) := by decide +kernel
theorem dX9_init_131 : decode cX9_init 131 = .ok (.ldc 66, 2) := by decide +kernel
theorem dX9_init_133 : decode cX9_init 133 = .ok (.iload_n 1, 1) := by decide +kernel
theorem dX9_init_134 : decode cX9_init 134 = .ok (.invokevirtual 74, 3) := by decide +kernel
theorem dX9_init_137 : decode cX9_init 137 = .ok (.invokevirtual 78, 3) := by decide +kernel
theorem dX9_init_140 : decode cX9_init 140 = .ok (.iinc 1 1, 3) := by decide +kernel
theorem dX9_init_143 : decode cX9_init 143 = .ok (.goto (-25), 3) := by decide +kernel
theorem dX9_init_146 : decode cX9_init 146 = .ok (.aload_n 0, 1) := by decide +kernel
theorem dX9_init_147 : decode cX9_init 147 = .ok (.getfield 30, 3) := by decide +kernel
theorem dX9_init_150 : decode cX9_init 150 = .ok (.invokevirtual 82, 3) := by decide +kernel
theorem dX9_init_153 : decode cX9_init 153 = .ok (.pop, 1) := by decide +kernel
theorem dX9_init_154 : decode cX9_init 154 = .ok (.aload_n 0, 1) := by decide +kernel
theorem dX9_init_155 : decode cX9_init 155 = .ok (.getfield 23, 3) := by decide +kernel
theorem dX9_init_158 : decode cX9_init 158 = .ok (.iconst 0, 1) := by decide +kernel
theorem dX9_init_159 : decode cX9_init 159 = .ok (.aload_n 0, 1) := by decide +kernel
theorem dX9_init_160 : decode cX9_init 160 = .ok (.getfield 30, 3) := by decide +kernel
theorem dX9_init_163 : decode cX9_init 163 = .ok (.invokevirtual 85, 3) := by decide +kernel
theorem dX9_init_166 : decode cX9_init 166 = .ok (.aastore, 1) := by decide +kernel
theorem dX9_init_167 : decode cX9_init 167 = .ok (.aload_n 0, 1) := by decide +kernel
theorem dX9_init_168 : decode cX9_init 168 = .ok (.iconst 1, 1) := by decide +kernel
theorem dX9_init_169 : decode cX9_init 169 = .ok (.putfield 89, 3) := by decide +kernel
theorem dX9_init_172 : decode cX9_init 172 = .ok (.aload_n 0, 1) := by decide +kernel
theorem dX9_init_173 : decode cX9_init 173 = .ok (.getfield 30, 3) := by decide +kernel
theorem dX9_init_176 : decode cX9_init 176 = .ok (.invokevirtual 93, 3) := by decide +kernel
theorem dX9_init_179 : decode cX9_init 179 = .ok (.return_, 1) := by decide +kernel
theorem dX9_cargo_0 : decode cX9_cargo 0 = .ok (.iload_n 1, 1) := by decide +kernel
theorem dX9_cargo_1 : decode cX9_cargo 1 = .ok (.invokestatic 96, 3) := by decide +kernel
theorem dX9_cargo_4 : decode cX9_cargo 4 = .ok (.ifCond .eq 10, 3) := by decide +kernel
theorem dX9_cargo_7 : decode cX9_cargo 7 = .ok (.iload_n 2, 1) := by decide +kernel
theorem dX9_cargo_8 : decode cX9_cargo 8 = .ok (.invokestatic 100, 3) := by decide +kernel
theorem dX9_cargo_11 : decode cX9_cargo 11 = .ok (.ifCond .ne 6, 3) := by decide +kernel
theorem dX9_cargo_14 : decode cX9_cargo 14 = .ok (.bipush (-2), 2) := by decide +kernel
theorem dX9_cargo_16 : decode cX9_cargo 16 = .ok (.ireturn, 1) := by decide +kernel
theorem dX9_cargo_17 : decode cX9_cargo 17 = .ok (.aload_n 0, 1) := by decide +kernel
theorem dX9_cargo_18 : decode cX9_cargo 18 = .ok (.getfield 103, 3) := by decide +kernel
theorem dX9_cargo_21 : decode cX9_cargo 21 = .ok (.iconst 4, 1) := by decide +kernel
theorem dX9_cargo_22 : decode cX9_cargo 22 = .ok (.if_icmp .lt 6, 3) := by decide +kernel
theorem dX9_cargo_25 : decode cX9_cargo 25 = .ok (.bipush (-4), 2) := by decide +kernel
theorem dX9_cargo_27 : decode cX9_cargo 27 = .ok (.ireturn, 1) := by decide +kernel
theorem dX9_cargo_28 : decode cX9_cargo 28 = .ok (.aload_n 0, 1) := by decide +kernel
theorem dX9_cargo_29 : decode cX9_cargo 29 = .ok (.getfield 11, 3) := by decide +kernel
theorem dX9_cargo_32 : decode cX9_cargo 32 = .ok (.aload_n 0, 1) := by decide +kernel
theorem dX9_cargo_33 : decode cX9_cargo 33 = .ok (.getfield 103, 3) := by decide +kernel
theorem dX9_cargo_36 : decode cX9_cargo 36 = .ok (.new 9, 3) := by decide +kernel
theorem dX9_cargo_39 : decode cX9_cargo 39 = .ok (.dup, 1) := by decide +kernel
theorem dX9_cargo_40 : decode cX9_cargo 40 = .ok (.aload_n 0, 1) := by decide +kernel
theorem dX9_cargo_41 : decode cX9_cargo 41 = .ok (.getfield 103, 3) := by decide +kernel
theorem dX9_cargo_44 : decode cX9_cargo 44 = .ok (.iload_n 1, 1) := by decide +kernel
theorem dX9_cargo_45 : decode cX9_cargo 45 = .ok (.iload_n 2, 1) := by decide +kernel
theorem dX9_cargo_46 : decode cX9_cargo 46 = .ok (.invokespecial 106, 3) := by decide +kernel
theorem dX9_cargo_49 : decode cX9_cargo 49 = .ok (.aastore, 1) := by decide +kernel
theorem dX9_cargo_50 : decode cX9_cargo 50 = .ok (.aload_n 0, 1) := by decide +kernel
theorem dX9_cargo_51 : decode cX9_cargo 51 = .ok (.dup, 1) := by decide +kernel
theorem dX9_cargo_52 : decode cX9_cargo 52 = .ok (.getfield 103, 3) := by decide +kernel
theorem dX9_cargo_55 : decode cX9_cargo 55 = .ok (.iconst 1, 1) := by decide +kernel
theorem dX9_cargo_56 : decode cX9_cargo 56 = .ok (.iadd, 1) := by decide +kernel
theorem dX9_cargo_57 : decode cX9_cargo 57 = .ok (.putfield 103, 3) := by decide +kernel
theorem dX9_cargo_60 : decode cX9_cargo 60 = .ok (.aload_n 0, 1) := by decide +kernel
theorem dX9_cargo_61 : decode cX9_cargo 61 = .ok (.getfield 103, 3) := by decide +kernel
theorem dX9_cargo_64 : decode cX9_cargo 64 = .ok (.iconst 1, 1) := by decide +kernel
theorem dX9_cargo_65 : decode cX9_cargo 65 = .ok (.isub, 1) := by decide +kernel
theorem dX9_cargo_66 : decode cX9_cargo 66 = .ok (.ireturn, 1) := by decide +kernel
theorem dX9_hour_0 : decode cX9_hour 0 = .ok (.aload_n 0, 1) := by decide +kernel
theorem dX9_hour_1 : decode cX9_hour 1 = .ok (.iload_n 1, 1) := by decide +kernel
theorem dX9_hour_2 : decode cX9_hour 2 = .ok (.invokevirtual 109, 3) := by decide +kernel
theorem dX9_hour_5 : decode cX9_hour 5 = .ok (.astore 4, 2) := by decide +kernel
theorem dX9_hour_7 : decode cX9_hour 7 = .ok (.aload 4, 2) := by decide +kernel
theorem dX9_hour_9 : decode cX9_hour 9 = .ok (.ifnull 19, 3) := by decide +kernel
theorem dX9_hour_12 : decode cX9_hour 12 = .ok (.iload_n 2, 1) := by decide +kernel
theorem dX9_hour_13 : decode cX9_hour 13 = .ok (.ifCond .lt 15, 3) := by decide +kernel
theorem dX9_hour_16 : decode cX9_hour 16 = .ok (.iload_n 2, 1) := by decide +kernel
theorem dX9_hour_17 : decode cX9_hour 17 = .ok (.iconst 3, 1) := by decide +kernel
theorem dX9_hour_18 : decode cX9_hour 18 = .ok (.if_icmp .ge 10, 3) := by decide +kernel
theorem dX9_hour_21 : decode cX9_hour 21 = .ok (.iload_n 3, 1) := by decide +kernel
theorem dX9_hour_22 : decode cX9_hour 22 = .ok (.invokestatic 113, 3) := by decide +kernel
theorem dX9_hour_25 : decode cX9_hour 25 = .ok (.ifCond .ne 6, 3) := by decide +kernel
theorem dX9_hour_28 : decode cX9_hour 28 = .ok (.bipush (-2), 2) := by decide +kernel
theorem dX9_hour_30 : decode cX9_hour 30 = .ok (.ireturn, 1) := by decide +kernel
theorem dX9_hour_31 : decode cX9_hour 31 = .ok (.aload 4, 2) := by decide +kernel
theorem dX9_hour_33 : decode cX9_hour 33 = .ok (.getfield 116, 3) := by decide +kernel
theorem dX9_hour_36 : decode cX9_hour 36 = .ok (.iload_n 2, 1) := by decide +kernel
theorem dX9_hour_37 : decode cX9_hour 37 = .ok (.iaload, 1) := by decide +kernel
theorem dX9_hour_38 : decode cX9_hour 38 = .ok (.istore 5, 2) := by decide +kernel
theorem dX9_hour_40 : decode cX9_hour 40 = .ok (.aload 4, 2) := by decide +kernel
theorem dX9_hour_42 : decode cX9_hour 42 = .ok (.getfield 116, 3) := by decide +kernel
theorem dX9_hour_45 : decode cX9_hour 45 = .ok (.iload_n 2, 1) := by decide +kernel
theorem dX9_hour_46 : decode cX9_hour 46 = .ok (.iload_n 3, 1) := by decide +kernel
theorem dX9_hour_47 : decode cX9_hour 47 = .ok (.iastore, 1) := by decide +kernel
theorem dX9_hour_48 : decode cX9_hour 48 = .ok (.iload 5, 2) := by decide +kernel
theorem dX9_hour_50 : decode cX9_hour 50 = .ok (.ireturn, 1) := by decide +kernel
theorem dX9_sale_0 : decode cX9_sale 0 = .ok (.iload_n 2, 1) := by decide +kernel
theorem dX9_sale_1 : decode cX9_sale 1 = .ok (.ifCond .ge 7, 3) := by decide +kernel
theorem dX9_sale_4 : decode cX9_sale 4 = .ok (.aconst_null, 1) := by decide +kernel
theorem dX9_sale_5 : decode cX9_sale 5 = .ok (.goto 11, 3) := by decide +kernel
theorem dX9_sale_8 : decode cX9_sale 8 = .ok (.aload_n 0, 1) := by decide +kernel
theorem dX9_sale_9 : decode cX9_sale 9 = .ok (.iload_n 2, 1) := by decide +kernel
theorem dX9_sale_10 : decode cX9_sale 10 = .ok (.bipush 100, 2) := by decide +kernel
theorem dX9_sale_12 : decode cX9_sale 12 = .ok (.idiv, 1) := by decide +kernel
theorem dX9_sale_13 : decode cX9_sale 13 = .ok (.invokevirtual 109, 3) := by decide +kernel
theorem dX9_sale_16 : decode cX9_sale 16 = .ok (.astore 6, 2) := by decide +kernel
theorem dX9_sale_18 : decode cX9_sale 18 = .ok (.iload_n 1, 1) := by decide +kernel
theorem dX9_sale_19 : decode cX9_sale 19 = .ok (.invokestatic 119, 3) := by decide +kernel
theorem dX9_sale_22 : decode cX9_sale 22 = .ok (.ifCond .eq 36, 3) := by decide +kernel
theorem dX9_sale_25 : decode cX9_sale 25 = .ok (.aload 6, 2) := by decide +kernel
theorem dX9_sale_27 : decode cX9_sale 27 = .ok (.ifnull 31, 3) := by decide +kernel
theorem dX9_sale_30 : decode cX9_sale 30 = .ok (.iload_n 3, 1) := by decide +kernel
theorem dX9_sale_31 : decode cX9_sale 31 = .ok (.invokestatic 96, 3) := by decide +kernel
theorem dX9_sale_34 : decode cX9_sale 34 = .ok (.ifCond .eq 24, 3) := by decide +kernel
theorem dX9_sale_37 : decode cX9_sale 37 = .ok (.iload 4, 2) := by decide +kernel
theorem dX9_sale_39 : decode cX9_sale 39 = .ok (.ifCond .lt 19, 3) := by decide +kernel
theorem dX9_sale_42 : decode cX9_sale 42 = .ok (.iload 4, 2) := by decide +kernel
theorem dX9_sale_44 : decode cX9_sale 44 = .ok (.sipush 999, 3) := by decide +kernel
theorem dX9_sale_47 : decode cX9_sale 47 = .ok (.if_icmp .gt 11, 3) := by decide +kernel
theorem dX9_sale_50 : decode cX9_sale 50 = .ok (.iload 5, 2) := by decide +kernel
theorem dX9_sale_52 : decode cX9_sale 52 = .ok (.invokestatic 122, 3) := by decide +kernel
theorem dX9_sale_55 : decode cX9_sale 55 = .ok (.ifCond .ne 6, 3) := by decide +kernel
theorem dX9_sale_58 : decode cX9_sale 58 = .ok (.bipush (-2), 2) := by decide +kernel
theorem dX9_sale_60 : decode cX9_sale 60 = .ok (.ireturn, 1) := by decide +kernel
theorem dX9_sale_61 : decode cX9_sale 61 = .ok (.iload_n 2, 1) := by decide +kernel
theorem dX9_sale_62 : decode cX9_sale 62 = .ok (.bipush 10, 2) := by decide +kernel
theorem dX9_sale_64 : decode cX9_sale 64 = .ok (.idiv, 1) := by decide +kernel
theorem dX9_sale_65 : decode cX9_sale 65 = .ok (.bipush 10, 2) := by decide +kernel
theorem dX9_sale_67 : decode cX9_sale 67 = .ok (.irem, 1) := by decide +kernel
theorem dX9_sale_68 : decode cX9_sale 68 = .ok (.istore 7, 2) := by decide +kernel
theorem dX9_sale_70 : decode cX9_sale 70 = .ok (.iload_n 2, 1) := by decide +kernel
theorem dX9_sale_71 : decode cX9_sale 71 = .ok (.bipush 10, 2) := by decide +kernel
theorem dX9_sale_73 : decode cX9_sale 73 = .ok (.irem, 1) := by decide +kernel
theorem dX9_sale_74 : decode cX9_sale 74 = .ok (.istore 8, 2) := by decide +kernel
theorem dX9_sale_76 : decode cX9_sale 76 = .ok (.iload 7, 2) := by decide +kernel
theorem dX9_sale_78 : decode cX9_sale 78 = .ok (.iload 8, 2) := by decide +kernel
theorem dX9_sale_80 : decode cX9_sale 80 = .ok (.if_icmp .ne 6, 3) := by decide +kernel
theorem dX9_sale_83 : decode cX9_sale 83 = .ok (.bipush (-2), 2) := by decide +kernel
theorem dX9_sale_85 : decode cX9_sale 85 = .ok (.ireturn, 1) := by decide +kernel
theorem dX9_sale_86 : decode cX9_sale 86 = .ok (.aload_n 0, 1) := by decide +kernel
theorem dX9_sale_87 : decode cX9_sale 87 = .ok (.getfield 125, 3) := by decide +kernel
theorem dX9_sale_90 : decode cX9_sale 90 = .ok (.bipush 24, 2) := by decide +kernel
theorem dX9_sale_92 : decode cX9_sale 92 = .ok (.if_icmp .lt 6, 3) := by decide +kernel
theorem dX9_sale_95 : decode cX9_sale 95 = .ok (.bipush (-4), 2) := by decide +kernel
theorem dX9_sale_97 : decode cX9_sale 97 = .ok (.ireturn, 1) := by decide +kernel
theorem dX9_sale_98 : decode cX9_sale 98 = .ok (.aload_n 0, 1) := by decide +kernel
theorem dX9_sale_99 : decode cX9_sale 99 = .ok (.getfield 17, 3) := by decide +kernel
theorem dX9_sale_102 : decode cX9_sale 102 = .ok (.aload_n 0, 1) := by decide +kernel
theorem dX9_sale_103 : decode cX9_sale 103 = .ok (.getfield 125, 3) := by decide +kernel
theorem dX9_sale_106 : decode cX9_sale 106 = .ok (.new 15, 3) := by decide +kernel
theorem dX9_sale_109 : decode cX9_sale 109 = .ok (.dup, 1) := by decide +kernel
theorem dX9_sale_110 : decode cX9_sale 110 = .ok (.iload_n 1, 1) := by decide +kernel
theorem dX9_sale_111 : decode cX9_sale 111 = .ok (.aload 6, 2) := by decide +kernel
theorem dX9_sale_113 : decode cX9_sale 113 = .ok (.iload 7, 2) := by decide +kernel
theorem dX9_sale_115 : decode cX9_sale 115 = .ok (.iload 8, 2) := by decide +kernel
theorem dX9_sale_117 : decode cX9_sale 117 = .ok (.iload_n 3, 1) := by decide +kernel
theorem dX9_sale_118 : decode cX9_sale 118 = .ok (.iload 4, 2) := by decide +kernel
theorem dX9_sale_120 : decode cX9_sale 120 = .ok (.iload 5, 2) := by decide +kernel
theorem dX9_sale_122 : decode cX9_sale 122 = .ok (.invokespecial 128, 3) := by decide +kernel
theorem dX9_sale_125 : decode cX9_sale 125 = .ok (.aastore, 1) := by decide +kernel
theorem dX9_sale_126 : decode cX9_sale 126 = .ok (.aload_n 0, 1) := by decide +kernel
theorem dX9_sale_127 : decode cX9_sale 127 = .ok (.dup, 1) := by decide +kernel
theorem dX9_sale_128 : decode cX9_sale 128 = .ok (.getfield 125, 3) := by decide +kernel
theorem dX9_sale_131 : decode cX9_sale 131 = .ok (.iconst 1, 1) := by decide +kernel
theorem dX9_sale_132 : decode cX9_sale 132 = .ok (.iadd, 1) := by decide +kernel
theorem dX9_sale_133 : decode cX9_sale 133 = .ok (.putfield 125, 3) := by decide +kernel
theorem dX9_sale_136 : decode cX9_sale 136 = .ok (.aload_n 0, 1) := by decide +kernel
theorem dX9_sale_137 : decode cX9_sale 137 = .ok (.getfield 125, 3) := by decide +kernel
theorem dX9_sale_140 : decode cX9_sale 140 = .ok (.iconst 1, 1) := by decide +kernel
theorem dX9_sale_141 : decode cX9_sale 141 = .ok (.isub, 1) := by decide +kernel
theorem dX9_sale_142 : decode cX9_sale 142 = .ok (.ireturn, 1) := by decide +kernel
theorem dX9_paper_0 : decode cX9_paper 0 = .ok (.aload_n 0, 1) := by decide +kernel
theorem dX9_paper_1 : decode cX9_paper 1 = .ok (.iload_n 1, 1) := by decide +kernel
theorem dX9_paper_2 : decode cX9_paper 2 = .ok (.invokevirtual 131, 3) := by decide +kernel
theorem dX9_paper_5 : decode cX9_paper 5 = .ok (.astore_n 3, 1) := by decide +kernel
theorem dX9_paper_6 : decode cX9_paper 6 = .ok (.aload_n 3, 1) := by decide +kernel
theorem dX9_paper_7 : decode cX9_paper 7 = .ok (.ifnull 10, 3) := by decide +kernel
theorem dX9_paper_10 : decode cX9_paper 10 = .ok (.iload_n 2, 1) := by decide +kernel
theorem dX9_paper_11 : decode cX9_paper 11 = .ok (.invokestatic 113, 3) := by decide +kernel
theorem dX9_paper_14 : decode cX9_paper 14 = .ok (.ifCond .ne 6, 3) := by decide +kernel
theorem dX9_paper_17 : decode cX9_paper 17 = .ok (.bipush (-2), 2) := by decide +kernel
theorem dX9_paper_19 : decode cX9_paper 19 = .ok (.ireturn, 1) := by decide +kernel
theorem dX9_paper_20 : decode cX9_paper 20 = .ok (.aload_n 3, 1) := by decide +kernel
theorem dX9_paper_21 : decode cX9_paper 21 = .ok (.getfield 135, 3) := by decide +kernel
theorem dX9_paper_24 : decode cX9_paper 24 = .ok (.istore 4, 2) := by decide +kernel
theorem dX9_paper_26 : decode cX9_paper 26 = .ok (.aload_n 3, 1) := by decide +kernel
theorem dX9_paper_27 : decode cX9_paper 27 = .ok (.iload_n 2, 1) := by decide +kernel
theorem dX9_paper_28 : decode cX9_paper 28 = .ok (.putfield 135, 3) := by decide +kernel
theorem dX9_paper_31 : decode cX9_paper 31 = .ok (.iload 4, 2) := by decide +kernel
theorem dX9_paper_33 : decode cX9_paper 33 = .ok (.ireturn, 1) := by decide +kernel
theorem dX9_pay_0 : decode cX9_pay 0 = .ok (.aload_n 0, 1) := by decide +kernel
theorem dX9_pay_1 : decode cX9_pay 1 = .ok (.iload_n 1, 1) := by decide +kernel
theorem dX9_pay_2 : decode cX9_pay 2 = .ok (.invokevirtual 131, 3) := by decide +kernel
theorem dX9_pay_5 : decode cX9_pay 5 = .ok (.astore_n 3, 1) := by decide +kernel
theorem dX9_pay_6 : decode cX9_pay 6 = .ok (.aload_n 3, 1) := by decide +kernel
theorem dX9_pay_7 : decode cX9_pay 7 = .ok (.ifnull 10, 3) := by decide +kernel
theorem dX9_pay_10 : decode cX9_pay 10 = .ok (.iload_n 2, 1) := by decide +kernel
theorem dX9_pay_11 : decode cX9_pay 11 = .ok (.invokestatic 138, 3) := by decide +kernel
theorem dX9_pay_14 : decode cX9_pay 14 = .ok (.ifCond .ne 6, 3) := by decide +kernel
theorem dX9_pay_17 : decode cX9_pay 17 = .ok (.bipush (-2), 2) := by decide +kernel
theorem dX9_pay_19 : decode cX9_pay 19 = .ok (.ireturn, 1) := by decide +kernel
theorem dX9_pay_20 : decode cX9_pay 20 = .ok (.iload_n 2, 1) := by decide +kernel
theorem dX9_pay_21 : decode cX9_pay 21 = .ok (.ldc 141, 2) := by decide +kernel
theorem dX9_pay_23 : decode cX9_pay 23 = .ok (.aload_n 3, 1) := by decide +kernel
theorem dX9_pay_24 : decode cX9_pay 24 = .ok (.getfield 142, 3) := by decide +kernel
theorem dX9_pay_27 : decode cX9_pay 27 = .ok (.isub, 1) := by decide +kernel
theorem dX9_pay_28 : decode cX9_pay 28 = .ok (.if_icmp .le 6, 3) := by decide +kernel
theorem dX9_pay_31 : decode cX9_pay 31 = .ok (.bipush (-4), 2) := by decide +kernel
theorem dX9_pay_33 : decode cX9_pay 33 = .ok (.ireturn, 1) := by decide +kernel
theorem dX9_pay_34 : decode cX9_pay 34 = .ok (.aload_n 3, 1) := by decide +kernel
theorem dX9_pay_35 : decode cX9_pay 35 = .ok (.dup, 1) := by decide +kernel
theorem dX9_pay_36 : decode cX9_pay 36 = .ok (.getfield 142, 3) := by decide +kernel
theorem dX9_pay_39 : decode cX9_pay 39 = .ok (.iload_n 2, 1) := by decide +kernel
theorem dX9_pay_40 : decode cX9_pay 40 = .ok (.iadd, 1) := by decide +kernel
theorem dX9_pay_41 : decode cX9_pay 41 = .ok (.putfield 142, 3) := by decide +kernel
theorem dX9_pay_44 : decode cX9_pay 44 = .ok (.aload_n 3, 1) := by decide +kernel
theorem dX9_pay_45 : decode cX9_pay 45 = .ok (.getfield 142, 3) := by decide +kernel
theorem dX9_pay_48 : decode cX9_pay 48 = .ok (.ireturn, 1) := by decide +kernel
theorem dX9_told_0 : decode cX9_told 0 = .ok (.aload_n 0, 1) := by decide +kernel
theorem dX9_told_1 : decode cX9_told 1 = .ok (.iload_n 1, 1) := by decide +kernel
theorem dX9_told_2 : decode cX9_told 2 = .ok (.invokevirtual 131, 3) := by decide +kernel
theorem dX9_told_5 : decode cX9_told 5 = .ok (.astore_n 3, 1) := by decide +kernel
theorem dX9_told_6 : decode cX9_told 6 = .ok (.aload_n 3, 1) := by decide +kernel
theorem dX9_told_7 : decode cX9_told 7 = .ok (.ifnonnull 8, 3) := by decide +kernel
theorem dX9_told_10 : decode cX9_told 10 = .ok (.bipush (-5), 2) := by decide +kernel
theorem dX9_told_12 : decode cX9_told 12 = .ok (.goto 8, 3) := by decide +kernel
theorem dX9_told_15 : decode cX9_told 15 = .ok (.aload_n 3, 1) := by decide +kernel
theorem dX9_told_16 : decode cX9_told 16 = .ok (.iload_n 2, 1) := by decide +kernel
theorem dX9_told_17 : decode cX9_told 17 = .ok (.invokevirtual 145, 3) := by decide +kernel
theorem dX9_told_20 : decode cX9_told 20 = .ok (.ireturn, 1) := by decide +kernel
theorem dX9_whose_0 : decode cX9_whose 0 = .ok (.aload_n 0, 1) := by decide +kernel
theorem dX9_whose_1 : decode cX9_whose 1 = .ok (.iload_n 1, 1) := by decide +kernel
theorem dX9_whose_2 : decode cX9_whose 2 = .ok (.invokevirtual 109, 3) := by decide +kernel
theorem dX9_whose_5 : decode cX9_whose 5 = .ok (.astore 5, 2) := by decide +kernel
theorem dX9_whose_7 : decode cX9_whose 7 = .ok (.aload 5, 2) := by decide +kernel
theorem dX9_whose_9 : decode cX9_whose 9 = .ok (.ifnull 28, 3) := by decide +kernel
theorem dX9_whose_12 : decode cX9_whose 12 = .ok (.iload_n 2, 1) := by decide +kernel
theorem dX9_whose_13 : decode cX9_whose 13 = .ok (.invokestatic 100, 3) := by decide +kernel
theorem dX9_whose_16 : decode cX9_whose 16 = .ok (.ifCond .eq 21, 3) := by decide +kernel
theorem dX9_whose_19 : decode cX9_whose 19 = .ok (.iload_n 3, 1) := by decide +kernel
theorem dX9_whose_20 : decode cX9_whose 20 = .ok (.invokestatic 122, 3) := by decide +kernel
theorem dX9_whose_23 : decode cX9_whose 23 = .ok (.ifCond .eq 14, 3) := by decide +kernel
theorem dX9_whose_26 : decode cX9_whose 26 = .ok (.iload 4, 2) := by decide +kernel
theorem dX9_whose_28 : decode cX9_whose 28 = .ok (.ifCond .eq 12, 3) := by decide +kernel
theorem dX9_whose_31 : decode cX9_whose 31 = .ok (.iload 4, 2) := by decide +kernel
theorem dX9_whose_33 : decode cX9_whose 33 = .ok (.iconst 1, 1) := by decide +kernel
theorem dX9_whose_34 : decode cX9_whose 34 = .ok (.if_icmp .eq 6, 3) := by decide +kernel
theorem dX9_whose_37 : decode cX9_whose 37 = .ok (.bipush (-2), 2) := by decide +kernel
theorem dX9_whose_39 : decode cX9_whose 39 = .ok (.ireturn, 1) := by decide +kernel
theorem dX9_whose_40 : decode cX9_whose 40 = .ok (.aload_n 0, 1) := by decide +kernel
theorem dX9_whose_41 : decode cX9_whose 41 = .ok (.aload 5, 2) := by decide +kernel
theorem dX9_whose_43 : decode cX9_whose 43 = .ok (.iload_n 2, 1) := by decide +kernel
theorem dX9_whose_44 : decode cX9_whose 44 = .ok (.iload_n 3, 1) := by decide +kernel
theorem dX9_whose_45 : decode cX9_whose 45 = .ok (.iload 4, 2) := by decide +kernel
theorem dX9_whose_47 : decode cX9_whose 47 = .ok (.invokevirtual 149, 3) := by decide +kernel
theorem dX9_whose_50 : decode cX9_whose 50 = .ok (.ireturn, 1) := by decide +kernel
theorem dX9_falls_0 : decode cX9_falls 0 = .ok (.aload_n 0, 1) := by decide +kernel
theorem dX9_falls_1 : decode cX9_falls 1 = .ok (.iload_n 1, 1) := by decide +kernel
theorem dX9_falls_2 : decode cX9_falls 2 = .ok (.invokevirtual 109, 3) := by decide +kernel
theorem dX9_falls_5 : decode cX9_falls 5 = .ok (.astore 5, 2) := by decide +kernel
theorem dX9_falls_7 : decode cX9_falls 7 = .ok (.aload 5, 2) := by decide +kernel
theorem dX9_falls_9 : decode cX9_falls 9 = .ok (.ifnull 31, 3) := by decide +kernel
theorem dX9_falls_12 : decode cX9_falls 12 = .ok (.iload_n 2, 1) := by decide +kernel
theorem dX9_falls_13 : decode cX9_falls 13 = .ok (.invokestatic 100, 3) := by decide +kernel
theorem dX9_falls_16 : decode cX9_falls 16 = .ok (.ifCond .eq 24, 3) := by decide +kernel
theorem dX9_falls_19 : decode cX9_falls 19 = .ok (.iload_n 3, 1) := by decide +kernel
theorem dX9_falls_20 : decode cX9_falls 20 = .ok (.invokestatic 153, 3) := by decide +kernel
theorem dX9_falls_23 : decode cX9_falls 23 = .ok (.invokestatic 122, 3) := by decide +kernel
theorem dX9_falls_26 : decode cX9_falls 26 = .ok (.ifCond .eq 14, 3) := by decide +kernel
theorem dX9_falls_29 : decode cX9_falls 29 = .ok (.iload 4, 2) := by decide +kernel
theorem dX9_falls_31 : decode cX9_falls 31 = .ok (.ifCond .eq 13, 3) := by decide +kernel
theorem dX9_falls_34 : decode cX9_falls 34 = .ok (.iload 4, 2) := by decide +kernel
theorem dX9_falls_36 : decode cX9_falls 36 = .ok (.iconst 1, 1) := by decide +kernel
theorem dX9_falls_37 : decode cX9_falls 37 = .ok (.if_icmp .eq 7, 3) := by decide +kernel
theorem dX9_falls_40 : decode cX9_falls 40 = .ok (.ldc2_w 156, 3) := by decide +kernel
theorem dX9_falls_43 : decode cX9_falls 43 = .ok (.lreturn, 1) := by decide +kernel
theorem dX9_falls_44 : decode cX9_falls 44 = .ok (.iload_n 3, 1) := by decide +kernel
theorem dX9_falls_45 : decode cX9_falls 45 = .ok (.invokestatic 158, 3) := by decide +kernel
theorem dX9_falls_48 : decode cX9_falls 48 = .ok (.istore 6, 2) := by decide +kernel
theorem dX9_falls_50 : decode cX9_falls 50 = .ok (.iload 6, 2) := by decide +kernel
theorem dX9_falls_52 : decode cX9_falls 52 = .ok (.aload 5, 2) := by decide +kernel
theorem dX9_falls_54 : decode cX9_falls 54 = .ok (.getfield 161, 3) := by decide +kernel
theorem dX9_falls_57 : decode cX9_falls 57 = .ok (.if_icmp .le 7, 3) := by decide +kernel
theorem dX9_falls_60 : decode cX9_falls 60 = .ok (.ldc2_w 156, 3) := by decide +kernel
theorem dX9_falls_63 : decode cX9_falls 63 = .ok (.lreturn, 1) := by decide +kernel
theorem dX9_falls_64 : decode cX9_falls 64 = .ok (.iload 6, 2) := by decide +kernel
theorem dX9_falls_66 : decode cX9_falls 66 = .ok (.aload_n 0, 1) := by decide +kernel
theorem dX9_falls_67 : decode cX9_falls 67 = .ok (.aload 5, 2) := by decide +kernel
theorem dX9_falls_69 : decode cX9_falls 69 = .ok (.iload_n 2, 1) := by decide +kernel
theorem dX9_falls_70 : decode cX9_falls 70 = .ok (.iload_n 3, 1) := by decide +kernel
theorem dX9_falls_71 : decode cX9_falls 71 = .ok (.invokestatic 153, 3) := by decide +kernel
theorem dX9_falls_74 : decode cX9_falls 74 = .ok (.iconst 1, 1) := by decide +kernel
theorem dX9_falls_75 : decode cX9_falls 75 = .ok (.invokevirtual 149, 3) := by decide +kernel
theorem dX9_falls_78 : decode cX9_falls 78 = .ok (.imul, 1) := by decide +kernel
theorem dX9_falls_79 : decode cX9_falls 79 = .ok (.istore 7, 2) := by decide +kernel
theorem dX9_falls_81 : decode cX9_falls 81 = .ok (.iload 7, 2) := by decide +kernel
theorem dX9_falls_83 : decode cX9_falls 83 = .ok (.aload 5, 2) := by decide +kernel
theorem dX9_falls_85 : decode cX9_falls 85 = .ok (.getfield 161, 3) := by decide +kernel
theorem dX9_falls_88 : decode cX9_falls 88 = .ok (.invokestatic 164, 3) := by decide +kernel
theorem dX9_falls_91 : decode cX9_falls 91 = .ok (.istore 8, 2) := by decide +kernel
theorem dX9_falls_93 : decode cX9_falls 93 = .ok (.iload 4, 2) := by decide +kernel
theorem dX9_falls_95 : decode cX9_falls 95 = .ok (.ifCond .ne 8, 3) := by decide +kernel
theorem dX9_falls_98 : decode cX9_falls 98 = .ok (.iload 7, 2) := by decide +kernel
theorem dX9_falls_100 : decode cX9_falls 100 = .ok (.goto 8, 3) := by decide +kernel
theorem dX9_falls_103 : decode cX9_falls 103 = .ok (.aload 5, 2) := by decide +kernel
theorem dX9_falls_105 : decode cX9_falls 105 = .ok (.getfield 161, 3) := by decide +kernel
theorem dX9_falls_108 : decode cX9_falls 108 = .ok (.iload 8, 2) := by decide +kernel
theorem dX9_falls_110 : decode cX9_falls 110 = .ok (.idiv, 1) := by decide +kernel
theorem dX9_falls_111 : decode cX9_falls 111 = .ok (.i2l, 1) := by decide +kernel
theorem dX9_falls_112 : decode cX9_falls 112 = .ok (.lreturn, 1) := by decide +kernel
theorem dX9_between_0 : decode cX9_between 0 = .ok (.aload_n 0, 1) := by decide +kernel
theorem dX9_between_1 : decode cX9_between 1 = .ok (.iload_n 1, 1) := by decide +kernel
theorem dX9_between_2 : decode cX9_between 2 = .ok (.invokevirtual 109, 3) := by decide +kernel
theorem dX9_between_5 : decode cX9_between 5 = .ok (.astore 5, 2) := by decide +kernel
theorem dX9_between_7 : decode cX9_between 7 = .ok (.iload_n 3, 1) := by decide +kernel
theorem dX9_between_8 : decode cX9_between 8 = .ok (.invokestatic 153, 3) := by decide +kernel
theorem dX9_between_11 : decode cX9_between 11 = .ok (.istore 6, 2) := by decide +kernel
theorem dX9_between_13 : decode cX9_between 13 = .ok (.iload_n 3, 1) := by decide +kernel
theorem dX9_between_14 : decode cX9_between 14 = .ok (.invokestatic 158, 3) := by decide +kernel
theorem dX9_between_17 : decode cX9_between 17 = .ok (.istore 7, 2) := by decide +kernel
theorem dX9_between_19 : decode cX9_between 19 = .ok (.aload 5, 2) := by decide +kernel
theorem dX9_between_21 : decode cX9_between 21 = .ok (.ifnull 36, 3) := by decide +kernel
theorem dX9_between_24 : decode cX9_between 24 = .ok (.iload_n 2, 1) := by decide +kernel
theorem dX9_between_25 : decode cX9_between 25 = .ok (.invokestatic 100, 3) := by decide +kernel
theorem dX9_between_28 : decode cX9_between 28 = .ok (.ifCond .eq 29, 3) := by decide +kernel
theorem dX9_between_31 : decode cX9_between 31 = .ok (.iload 6, 2) := by decide +kernel
theorem dX9_between_33 : decode cX9_between 33 = .ok (.invokestatic 122, 3) := by decide +kernel
theorem dX9_between_36 : decode cX9_between 36 = .ok (.ifCond .eq 21, 3) := by decide +kernel
theorem dX9_between_39 : decode cX9_between 39 = .ok (.iload 7, 2) := by decide +kernel
theorem dX9_between_41 : decode cX9_between 41 = .ok (.iload 6, 2) := by decide +kernel
end
section
theorem dX9_between_43 : decode cX9_between 43 = .ok (.if_icmp .lt 14, 3) := by decide +kernel
theorem dX9_between_46 : decode cX9_between 46 = .ok (.iload 4, 2) := by decide +kernel
theorem dX9_between_48 : decode cX9_between 48 = .ok (.ifCond .eq 12, 3) := by decide +kernel
theorem dX9_between_51 : decode cX9_between 51 = .ok (.iload 4, 2) := by decide +kernel
theorem dX9_between_53 : decode cX9_between 53 = .ok (.iconst 1, 1) := by decide +kernel
theorem dX9_between_54 : decode cX9_between 54 = .ok (.if_icmp .eq 6, 3) := by decide +kernel
theorem dX9_between_57 : decode cX9_between 57 = .ok (.bipush (-2), 2) := by decide +kernel
theorem dX9_between_59 : decode cX9_between 59 = .ok (.ireturn, 1) := by decide +kernel
theorem dX9_between_60 : decode cX9_between 60 = .ok (.aload_n 0, 1) := by decide +kernel
theorem dX9_between_61 : decode cX9_between 61 = .ok (.getfield 44, 3) := by decide +kernel
theorem dX9_between_64 : decode cX9_between 64 = .ok (.aload 5, 2) := by decide +kernel
theorem dX9_between_66 : decode cX9_between 66 = .ok (.aload_n 0, 1) := by decide +kernel
theorem dX9_between_67 : decode cX9_between 67 = .ok (.getfield 17, 3) := by decide +kernel
theorem dX9_between_70 : decode cX9_between 70 = .ok (.aload_n 0, 1) := by decide +kernel
theorem dX9_between_71 : decode cX9_between 71 = .ok (.getfield 125, 3) := by decide +kernel
theorem dX9_between_74 : decode cX9_between 74 = .ok (.iconst 1, 1) := by decide +kernel
theorem dX9_between_75 : decode cX9_between 75 = .ok (.invokevirtual 168, 3) := by decide +kernel
theorem dX9_between_78 : decode cX9_between 78 = .ok (.aload_n 0, 1) := by decide +kernel
theorem dX9_between_79 : decode cX9_between 79 = .ok (.getfield 44, 3) := by decide +kernel
theorem dX9_between_82 : decode cX9_between 82 = .ok (.iload 6, 2) := by decide +kernel
theorem dX9_between_84 : decode cX9_between 84 = .ok (.invokevirtual 172, 3) := by decide +kernel
theorem dX9_between_87 : decode cX9_between 87 = .ok (.aload_n 0, 1) := by decide +kernel
theorem dX9_between_88 : decode cX9_between 88 = .ok (.getfield 44, 3) := by decide +kernel
theorem dX9_between_91 : decode cX9_between 91 = .ok (.getfield 175, 3) := by decide +kernel
theorem dX9_between_94 : decode cX9_between 94 = .ok (.iload_n 2, 1) := by decide +kernel
theorem dX9_between_95 : decode cX9_between 95 = .ok (.iaload, 1) := by decide +kernel
theorem dX9_between_96 : decode cX9_between 96 = .ok (.istore 8, 2) := by decide +kernel
theorem dX9_between_98 : decode cX9_between 98 = .ok (.iload 8, 2) := by decide +kernel
theorem dX9_between_100 : decode cX9_between 100 = .ok (.istore 9, 2) := by decide +kernel
theorem dX9_between_102 : decode cX9_between 102 = .ok (.iconst 0, 1) := by decide +kernel
theorem dX9_between_103 : decode cX9_between 103 = .ok (.istore 10, 2) := by decide +kernel
theorem dX9_between_105 : decode cX9_between 105 = .ok (.iload 10, 2) := by decide +kernel
theorem dX9_between_107 : decode cX9_between 107 = .ok (.bipush 24, 2) := by decide +kernel
theorem dX9_between_109 : decode cX9_between 109 = .ok (.if_icmp .ge 67, 3) := by decide +kernel
theorem dX9_between_112 : decode cX9_between 112 = .ok (.aload_n 0, 1) := by decide +kernel
theorem dX9_between_113 : decode cX9_between 113 = .ok (.getfield 44, 3) := by decide +kernel
theorem dX9_between_116 : decode cX9_between 116 = .ok (.invokevirtual 178, 3) := by decide +kernel
theorem dX9_between_119 : decode cX9_between 119 = .ok (.iload 7, 2) := by decide +kernel
theorem dX9_between_121 : decode cX9_between 121 = .ok (.if_icmp .gt 55, 3) := by decide +kernel
theorem dX9_between_124 : decode cX9_between 124 = .ok (.aload_n 0, 1) := by decide +kernel
theorem dX9_between_125 : decode cX9_between 125 = .ok (.getfield 44, 3) := by decide +kernel
theorem dX9_between_128 : decode cX9_between 128 = .ok (.aload_n 0, 1) := by decide +kernel
theorem dX9_between_129 : decode cX9_between 129 = .ok (.getfield 44, 3) := by decide +kernel
theorem dX9_between_132 : decode cX9_between 132 = .ok (.invokevirtual 178, 3) := by decide +kernel
theorem dX9_between_135 : decode cX9_between 135 = .ok (.invokevirtual 172, 3) := by decide +kernel
theorem dX9_between_138 : decode cX9_between 138 = .ok (.iload 8, 2) := by decide +kernel
theorem dX9_between_140 : decode cX9_between 140 = .ok (.aload_n 0, 1) := by decide +kernel
theorem dX9_between_141 : decode cX9_between 141 = .ok (.getfield 44, 3) := by decide +kernel
theorem dX9_between_144 : decode cX9_between 144 = .ok (.getfield 175, 3) := by decide +kernel
theorem dX9_between_147 : decode cX9_between 147 = .ok (.iload_n 2, 1) := by decide +kernel
theorem dX9_between_148 : decode cX9_between 148 = .ok (.iaload, 1) := by decide +kernel
theorem dX9_between_149 : decode cX9_between 149 = .ok (.invokestatic 181, 3) := by decide +kernel
theorem dX9_between_152 : decode cX9_between 152 = .ok (.istore 8, 2) := by decide +kernel
theorem dX9_between_154 : decode cX9_between 154 = .ok (.iload 9, 2) := by decide +kernel
theorem dX9_between_156 : decode cX9_between 156 = .ok (.aload_n 0, 1) := by decide +kernel
theorem dX9_between_157 : decode cX9_between 157 = .ok (.getfield 44, 3) := by decide +kernel
theorem dX9_between_160 : decode cX9_between 160 = .ok (.getfield 175, 3) := by decide +kernel
theorem dX9_between_163 : decode cX9_between 163 = .ok (.iload_n 2, 1) := by decide +kernel
theorem dX9_between_164 : decode cX9_between 164 = .ok (.iaload, 1) := by decide +kernel
theorem dX9_between_165 : decode cX9_between 165 = .ok (.invokestatic 186, 3) := by decide +kernel
theorem dX9_between_168 : decode cX9_between 168 = .ok (.istore 9, 2) := by decide +kernel
theorem dX9_between_170 : decode cX9_between 170 = .ok (.iinc 10 1, 3) := by decide +kernel
theorem dX9_between_173 : decode cX9_between 173 = .ok (.goto (-68), 3) := by decide +kernel
theorem dX9_between_176 : decode cX9_between 176 = .ok (.iload 4, 2) := by decide +kernel
theorem dX9_between_178 : decode cX9_between 178 = .ok (.ifCond .ne 8, 3) := by decide +kernel
theorem dX9_between_181 : decode cX9_between 181 = .ok (.iload 8, 2) := by decide +kernel
theorem dX9_between_183 : decode cX9_between 183 = .ok (.goto 5, 3) := by decide +kernel
theorem dX9_between_186 : decode cX9_between 186 = .ok (.iload 9, 2) := by decide +kernel
theorem dX9_between_188 : decode cX9_between 188 = .ok (.ireturn, 1) := by decide +kernel
theorem dX9_feed_0 : decode cX9_feed 0 = .ok (.iload_n 1, 1) := by decide +kernel
theorem dX9_feed_1 : decode cX9_feed 1 = .ok (.iconst 1, 1) := by decide +kernel
theorem dX9_feed_2 : decode cX9_feed 2 = .ok (.if_icmp .lt 9, 3) := by decide +kernel
theorem dX9_feed_5 : decode cX9_feed 5 = .ok (.iload_n 1, 1) := by decide +kernel
theorem dX9_feed_6 : decode cX9_feed 6 = .ok (.bipush 8, 2) := by decide +kernel
theorem dX9_feed_8 : decode cX9_feed 8 = .ok (.if_icmp .le 6, 3) := by decide +kernel
theorem dX9_feed_11 : decode cX9_feed 11 = .ok (.bipush (-2), 2) := by decide +kernel
theorem dX9_feed_13 : decode cX9_feed 13 = .ok (.ireturn, 1) := by decide +kernel
theorem dX9_feed_14 : decode cX9_feed 14 = .ok (.iload_n 1, 1) := by decide +kernel
theorem dX9_feed_15 : decode cX9_feed 15 = .ok (.aload_n 0, 1) := by decide +kernel
theorem dX9_feed_16 : decode cX9_feed 16 = .ok (.getfield 30, 3) := by decide +kernel
theorem dX9_feed_19 : decode cX9_feed 19 = .ok (.invokevirtual 189, 3) := by decide +kernel
theorem dX9_feed_22 : decode cX9_feed 22 = .ok (.if_icmp .le 6, 3) := by decide +kernel
theorem dX9_feed_25 : decode cX9_feed 25 = .ok (.bipush (-4), 2) := by decide +kernel
theorem dX9_feed_27 : decode cX9_feed 27 = .ok (.ireturn, 1) := by decide +kernel
theorem dX9_feed_28 : decode cX9_feed 28 = .ok (.iconst 0, 1) := by decide +kernel
theorem dX9_feed_29 : decode cX9_feed 29 = .ok (.istore 4, 2) := by decide +kernel
theorem dX9_feed_31 : decode cX9_feed 31 = .ok (.iload 4, 2) := by decide +kernel
theorem dX9_feed_33 : decode cX9_feed 33 = .ok (.iload_n 1, 1) := by decide +kernel
theorem dX9_feed_34 : decode cX9_feed 34 = .ok (.if_icmp .ge 28, 3) := by decide +kernel
theorem dX9_feed_37 : decode cX9_feed 37 = .ok (.aload_n 0, 1) := by decide +kernel
theorem dX9_feed_38 : decode cX9_feed 38 = .ok (.getfield 30, 3) := by decide +kernel
theorem dX9_feed_41 : decode cX9_feed 41 = .ok (.lload_n 2, 1) := by decide +kernel
theorem dX9_feed_42 : decode cX9_feed 42 = .ok (.bipush 8, 2) := by decide +kernel
theorem dX9_feed_44 : decode cX9_feed 44 = .ok (.iload 4, 2) := by decide +kernel
theorem dX9_feed_46 : decode cX9_feed 46 = .ok (.imul, 1) := by decide +kernel
theorem dX9_feed_47 : decode cX9_feed 47 = .ok (.lushr, 1) := by decide +kernel
theorem dX9_feed_48 : decode cX9_feed 48 = .ok (.l2i, 1) := by decide +kernel
theorem dX9_feed_49 : decode cX9_feed 49 = .ok (.sipush 255, 3) := by decide +kernel
theorem dX9_feed_52 : decode cX9_feed 52 = .ok (.iand, 1) := by decide +kernel
theorem dX9_feed_53 : decode cX9_feed 53 = .ok (.invokevirtual 78, 3) := by decide +kernel
theorem dX9_feed_56 : decode cX9_feed 56 = .ok (.iinc 4 1, 3) := by decide +kernel
theorem dX9_feed_59 : decode cX9_feed 59 = .ok (.goto (-28), 3) := by decide +kernel
theorem dX9_feed_62 : decode cX9_feed 62 = .ok (.aload_n 0, 1) := by decide +kernel
theorem dX9_feed_63 : decode cX9_feed 63 = .ok (.getfield 30, 3) := by decide +kernel
theorem dX9_feed_66 : decode cX9_feed 66 = .ok (.getfield 192, 3) := by decide +kernel
theorem dX9_feed_69 : decode cX9_feed 69 = .ok (.ireturn, 1) := by decide +kernel
theorem dX9_text_0 : decode cX9_text 0 = .ok (.aload_n 0, 1) := by decide +kernel
theorem dX9_text_1 : decode cX9_text 1 = .ok (.getfield 89, 3) := by decide +kernel
theorem dX9_text_4 : decode cX9_text 4 = .ok (.bipush 6, 2) := by decide +kernel
theorem dX9_text_6 : decode cX9_text 6 = .ok (.if_icmp .lt 6, 3) := by decide +kernel
theorem dX9_text_9 : decode cX9_text 9 = .ok (.bipush (-4), 2) := by decide +kernel
theorem dX9_text_11 : decode cX9_text 11 = .ok (.ireturn, 1) := by decide +kernel
theorem dX9_text_12 : decode cX9_text 12 = .ok (.aload_n 0, 1) := by decide +kernel
theorem dX9_text_13 : decode cX9_text 13 = .ok (.getfield 30, 3) := by decide +kernel
theorem dX9_text_16 : decode cX9_text 16 = .ok (.invokevirtual 82, 3) := by decide +kernel
theorem dX9_text_19 : decode cX9_text 19 = .ok (.istore_n 1, 1) := by decide +kernel
theorem dX9_text_20 : decode cX9_text 20 = .ok (.iload_n 1, 1) := by decide +kernel
theorem dX9_text_21 : decode cX9_text 21 = .ok (.iconst (-1), 1) := by decide +kernel
theorem dX9_text_22 : decode cX9_text 22 = .ok (.if_icmp .ne 29, 3) := by decide +kernel
theorem dX9_text_25 : decode cX9_text 25 = .ok (.aload_n 0, 1) := by decide +kernel
theorem dX9_text_26 : decode cX9_text 26 = .ok (.getfield 23, 3) := by decide +kernel
theorem dX9_text_29 : decode cX9_text 29 = .ok (.aload_n 0, 1) := by decide +kernel
theorem dX9_text_30 : decode cX9_text 30 = .ok (.getfield 89, 3) := by decide +kernel
theorem dX9_text_33 : decode cX9_text 33 = .ok (.aload_n 0, 1) := by decide +kernel
theorem dX9_text_34 : decode cX9_text 34 = .ok (.getfield 30, 3) := by decide +kernel
theorem dX9_text_37 : decode cX9_text 37 = .ok (.invokevirtual 85, 3) := by decide +kernel
theorem dX9_text_40 : decode cX9_text 40 = .ok (.aastore, 1) := by decide +kernel
theorem dX9_text_41 : decode cX9_text 41 = .ok (.aload_n 0, 1) := by decide +kernel
theorem dX9_text_42 : decode cX9_text 42 = .ok (.dup, 1) := by decide +kernel
theorem dX9_text_43 : decode cX9_text 43 = .ok (.getfield 89, 3) := by decide +kernel
theorem dX9_text_46 : decode cX9_text 46 = .ok (.iconst 1, 1) := by decide +kernel
theorem dX9_text_47 : decode cX9_text 47 = .ok (.iadd, 1) := by decide +kernel
theorem dX9_text_48 : decode cX9_text 48 = .ok (.putfield 89, 3) := by decide +kernel
theorem dX9_text_51 : decode cX9_text 51 = .ok (.aload_n 0, 1) := by decide +kernel
theorem dX9_text_52 : decode cX9_text 52 = .ok (.getfield 30, 3) := by decide +kernel
theorem dX9_text_55 : decode cX9_text 55 = .ok (.invokevirtual 93, 3) := by decide +kernel
theorem dX9_text_58 : decode cX9_text 58 = .ok (.iload_n 1, 1) := by decide +kernel
theorem dX9_text_59 : decode cX9_text 59 = .ok (.iconst (-1), 1) := by decide +kernel
theorem dX9_text_60 : decode cX9_text 60 = .ok (.if_icmp .ne 12, 3) := by decide +kernel
theorem dX9_text_63 : decode cX9_text 63 = .ok (.aload_n 0, 1) := by decide +kernel
theorem dX9_text_64 : decode cX9_text 64 = .ok (.getfield 89, 3) := by decide +kernel
theorem dX9_text_67 : decode cX9_text 67 = .ok (.iconst 1, 1) := by decide +kernel
theorem dX9_text_68 : decode cX9_text 68 = .ok (.isub, 1) := by decide +kernel
theorem dX9_text_69 : decode cX9_text 69 = .ok (.goto 7, 3) := by decide +kernel
theorem dX9_text_72 : decode cX9_text 72 = .ok (.bipush (-100), 2) := by decide +kernel
theorem dX9_text_74 : decode cX9_text 74 = .ok (.iload_n 1, 1) := by decide +kernel
theorem dX9_text_75 : decode cX9_text 75 = .ok (.isub, 1) := by decide +kernel
theorem dX9_text_76 : decode cX9_text 76 = .ok (.ireturn, 1) := by decide +kernel
theorem dX9_force_0 : decode cX9_force 0 = .ok (.iload_n 1, 1) := by decide +kernel
theorem dX9_force_1 : decode cX9_force 1 = .ok (.ifCond .lt 11, 3) := by decide +kernel
theorem dX9_force_4 : decode cX9_force 4 = .ok (.iload_n 1, 1) := by decide +kernel
theorem dX9_force_5 : decode cX9_force 5 = .ok (.aload_n 0, 1) := by decide +kernel
theorem dX9_force_6 : decode cX9_force 6 = .ok (.getfield 89, 3) := by decide +kernel
theorem dX9_force_9 : decode cX9_force 9 = .ok (.if_icmp .lt 6, 3) := by decide +kernel
theorem dX9_force_12 : decode cX9_force 12 = .ok (.bipush (-2), 2) := by decide +kernel
theorem dX9_force_14 : decode cX9_force 14 = .ok (.ireturn, 1) := by decide +kernel
theorem dX9_force_15 : decode cX9_force 15 = .ok (.aload_n 0, 1) := by decide +kernel
theorem dX9_force_16 : decode cX9_force 16 = .ok (.getfield 195, 3) := by decide +kernel
theorem dX9_force_19 : decode cX9_force 19 = .ok (.istore_n 2, 1) := by decide +kernel
theorem dX9_force_20 : decode cX9_force 20 = .ok (.aload_n 0, 1) := by decide +kernel
theorem dX9_force_21 : decode cX9_force 21 = .ok (.iload_n 1, 1) := by decide +kernel
theorem dX9_force_22 : decode cX9_force 22 = .ok (.putfield 195, 3) := by decide +kernel
theorem dX9_force_25 : decode cX9_force 25 = .ok (.iload_n 2, 1) := by decide +kernel
theorem dX9_force_26 : decode cX9_force 26 = .ok (.ireturn, 1) := by decide +kernel
theorem dX9_owes_0 : decode cX9_owes 0 = .ok (.aload_n 0, 1) := by decide +kernel
theorem dX9_owes_1 : decode cX9_owes 1 = .ok (.iload_n 1, 1) := by decide +kernel
theorem dX9_owes_2 : decode cX9_owes 2 = .ok (.invokevirtual 131, 3) := by decide +kernel
theorem dX9_owes_5 : decode cX9_owes 5 = .ok (.astore_n 3, 1) := by decide +kernel
theorem dX9_owes_6 : decode cX9_owes 6 = .ok (.aload_n 3, 1) := by decide +kernel
theorem dX9_owes_7 : decode cX9_owes 7 = .ok (.ifnull 10, 3) := by decide +kernel
theorem dX9_owes_10 : decode cX9_owes 10 = .ok (.iload_n 2, 1) := by decide +kernel
theorem dX9_owes_11 : decode cX9_owes 11 = .ok (.invokestatic 122, 3) := by decide +kernel
theorem dX9_owes_14 : decode cX9_owes 14 = .ok (.ifCond .ne 9, 3) := by decide +kernel
theorem dX9_owes_17 : decode cX9_owes 17 = .ok (.ldc2_w 156, 3) := by decide +kernel
theorem dX9_owes_20 : decode cX9_owes 20 = .ok (.goto 9, 3) := by decide +kernel
theorem dX9_owes_23 : decode cX9_owes 23 = .ok (.aload_n 0, 1) := by decide +kernel
theorem dX9_owes_24 : decode cX9_owes 24 = .ok (.aload_n 3, 1) := by decide +kernel
theorem dX9_owes_25 : decode cX9_owes 25 = .ok (.iload_n 2, 1) := by decide +kernel
theorem dX9_owes_26 : decode cX9_owes 26 = .ok (.invokevirtual 198, 3) := by decide +kernel
theorem dX9_owes_29 : decode cX9_owes 29 = .ok (.lreturn, 1) := by decide +kernel
theorem dX9_balance_0 : decode cX9_balance 0 = .ok (.iload_n 1, 1) := by decide +kernel
theorem dX9_balance_1 : decode cX9_balance 1 = .ok (.invokestatic 100, 3) := by decide +kernel
theorem dX9_balance_4 : decode cX9_balance 4 = .ok (.ifCond .eq 10, 3) := by decide +kernel
theorem dX9_balance_7 : decode cX9_balance 7 = .ok (.iload_n 2, 1) := by decide +kernel
theorem dX9_balance_8 : decode cX9_balance 8 = .ok (.invokestatic 122, 3) := by decide +kernel
theorem dX9_balance_11 : decode cX9_balance 11 = .ok (.ifCond .ne 7, 3) := by decide +kernel
theorem dX9_balance_14 : decode cX9_balance 14 = .ok (.ldc2_w 156, 3) := by decide +kernel
theorem dX9_balance_17 : decode cX9_balance 17 = .ok (.lreturn, 1) := by decide +kernel
theorem dX9_balance_18 : decode cX9_balance 18 = .ok (.lconst 0, 1) := by decide +kernel
theorem dX9_balance_19 : decode cX9_balance 19 = .ok (.lstore_n 3, 1) := by decide +kernel
theorem dX9_balance_20 : decode cX9_balance 20 = .ok (.iconst 0, 1) := by decide +kernel
theorem dX9_balance_21 : decode cX9_balance 21 = .ok (.istore 5, 2) := by decide +kernel
theorem dX9_balance_23 : decode cX9_balance 23 = .ok (.iload 5, 2) := by decide +kernel
theorem dX9_balance_25 : decode cX9_balance 25 = .ok (.aload_n 0, 1) := by decide +kernel
theorem dX9_balance_26 : decode cX9_balance 26 = .ok (.getfield 125, 3) := by decide +kernel
theorem dX9_balance_29 : decode cX9_balance 29 = .ok (.if_icmp .ge 59, 3) := by decide +kernel
theorem dX9_balance_32 : decode cX9_balance 32 = .ok (.aload_n 0, 1) := by decide +kernel
theorem dX9_balance_33 : decode cX9_balance 33 = .ok (.getfield 17, 3) := by decide +kernel
theorem dX9_balance_36 : decode cX9_balance 36 = .ok (.iload 5, 2) := by decide +kernel
theorem dX9_balance_38 : decode cX9_balance 38 = .ok (.aaload, 1) := by decide +kernel
theorem dX9_balance_39 : decode cX9_balance 39 = .ok (.astore 6, 2) := by decide +kernel
theorem dX9_balance_41 : decode cX9_balance 41 = .ok (.aload 6, 2) := by decide +kernel
theorem dX9_balance_43 : decode cX9_balance 43 = .ok (.getfield 202, 3) := by decide +kernel
theorem dX9_balance_46 : decode cX9_balance 46 = .ok (.iload_n 1, 1) := by decide +kernel
theorem dX9_balance_47 : decode cX9_balance 47 = .ok (.if_icmp .ne 16, 3) := by decide +kernel
theorem dX9_balance_50 : decode cX9_balance 50 = .ok (.lload_n 3, 1) := by decide +kernel
theorem dX9_balance_51 : decode cX9_balance 51 = .ok (.aload_n 0, 1) := by decide +kernel
theorem dX9_balance_52 : decode cX9_balance 52 = .ok (.aload 6, 2) := by decide +kernel
theorem dX9_balance_54 : decode cX9_balance 54 = .ok (.iload_n 2, 1) := by decide +kernel
theorem dX9_balance_55 : decode cX9_balance 55 = .ok (.invokevirtual 198, 3) := by decide +kernel
theorem dX9_balance_58 : decode cX9_balance 58 = .ok (.ladd, 1) := by decide +kernel
theorem dX9_balance_59 : decode cX9_balance 59 = .ok (.lstore_n 3, 1) := by decide +kernel
theorem dX9_balance_60 : decode cX9_balance 60 = .ok (.goto 22, 3) := by decide +kernel
theorem dX9_balance_63 : decode cX9_balance 63 = .ok (.aload 6, 2) := by decide +kernel
theorem dX9_balance_65 : decode cX9_balance 65 = .ok (.getfield 205, 3) := by decide +kernel
theorem dX9_balance_68 : decode cX9_balance 68 = .ok (.iload_n 1, 1) := by decide +kernel
theorem dX9_balance_69 : decode cX9_balance 69 = .ok (.if_icmp .ne 13, 3) := by decide +kernel
theorem dX9_balance_72 : decode cX9_balance 72 = .ok (.lload_n 3, 1) := by decide +kernel
theorem dX9_balance_73 : decode cX9_balance 73 = .ok (.aload_n 0, 1) := by decide +kernel
theorem dX9_balance_74 : decode cX9_balance 74 = .ok (.aload 6, 2) := by decide +kernel
theorem dX9_balance_76 : decode cX9_balance 76 = .ok (.iload_n 2, 1) := by decide +kernel
theorem dX9_balance_77 : decode cX9_balance 77 = .ok (.invokevirtual 198, 3) := by decide +kernel
theorem dX9_balance_80 : decode cX9_balance 80 = .ok (.lsub, 1) := by decide +kernel
theorem dX9_balance_81 : decode cX9_balance 81 = .ok (.lstore_n 3, 1) := by decide +kernel
theorem dX9_balance_82 : decode cX9_balance 82 = .ok (.iinc 5 1, 3) := by decide +kernel
theorem dX9_balance_85 : decode cX9_balance 85 = .ok (.goto (-62), 3) := by decide +kernel
theorem dX9_balance_88 : decode cX9_balance 88 = .ok (.lload_n 3, 1) := by decide +kernel
theorem dX9_balance_89 : decode cX9_balance 89 = .ok (.lreturn, 1) := by decide +kernel
theorem dX9_closes_0 : decode cX9_closes 0 = .ok (.aload_n 0, 1) := by decide +kernel
theorem dX9_closes_1 : decode cX9_closes 1 = .ok (.iload_n 1, 1) := by decide +kernel
theorem dX9_closes_2 : decode cX9_closes 2 = .ok (.invokevirtual 208, 3) := by decide +kernel
theorem dX9_closes_5 : decode cX9_closes 5 = .ok (.ifCond .ne 6, 3) := by decide +kernel
theorem dX9_closes_8 : decode cX9_closes 8 = .ok (.bipush (-2), 2) := by decide +kernel
theorem dX9_closes_10 : decode cX9_closes 10 = .ok (.ireturn, 1) := by decide +kernel
theorem dX9_closes_11 : decode cX9_closes 11 = .ok (.aload_n 0, 1) := by decide +kernel
theorem dX9_closes_12 : decode cX9_closes 12 = .ok (.getfield 51, 3) := by decide +kernel
theorem dX9_closes_15 : decode cX9_closes 15 = .ok (.aload_n 0, 1) := by decide +kernel
theorem dX9_closes_16 : decode cX9_closes 16 = .ok (.getfield 17, 3) := by decide +kernel
theorem dX9_closes_19 : decode cX9_closes 19 = .ok (.aload_n 0, 1) := by decide +kernel
theorem dX9_closes_20 : decode cX9_closes 20 = .ok (.getfield 125, 3) := by decide +kernel
theorem dX9_closes_23 : decode cX9_closes 23 = .ok (.iload_n 1, 1) := by decide +kernel
theorem dX9_closes_24 : decode cX9_closes 24 = .ok (.invokevirtual 211, 3) := by decide +kernel
theorem dX9_closes_27 : decode cX9_closes 27 = .ok (.ifCond .eq 7, 3) := by decide +kernel
theorem dX9_closes_30 : decode cX9_closes 30 = .ok (.iconst 1, 1) := by decide +kernel
theorem dX9_closes_31 : decode cX9_closes 31 = .ok (.goto 4, 3) := by decide +kernel
theorem dX9_closes_34 : decode cX9_closes 34 = .ok (.iconst 0, 1) := by decide +kernel
theorem dX9_closes_35 : decode cX9_closes 35 = .ok (.ireturn, 1) := by decide +kernel
theorem dX9_differ_0 : decode cX9_differ 0 = .ok (.iload_n 2, 1) := by decide +kernel
theorem dX9_differ_1 : decode cX9_differ 1 = .ok (.invokestatic 100, 3) := by decide +kernel
theorem dX9_differ_4 : decode cX9_differ 4 = .ok (.ifCond .ne 7, 3) := by decide +kernel
theorem dX9_differ_7 : decode cX9_differ 7 = .ok (.ldc2_w 156, 3) := by decide +kernel
theorem dX9_differ_10 : decode cX9_differ 10 = .ok (.lreturn, 1) := by decide +kernel
theorem dX9_differ_11 : decode cX9_differ 11 = .ok (.aload_n 0, 1) := by decide +kernel
theorem dX9_differ_12 : decode cX9_differ 12 = .ok (.iload_n 1, 1) := by decide +kernel
theorem dX9_differ_13 : decode cX9_differ 13 = .ok (.invokevirtual 208, 3) := by decide +kernel
theorem dX9_differ_16 : decode cX9_differ 16 = .ok (.ifCond .ne 7, 3) := by decide +kernel
theorem dX9_differ_19 : decode cX9_differ 19 = .ok (.ldc2_w 215, 3) := by decide +kernel
theorem dX9_differ_22 : decode cX9_differ 22 = .ok (.lreturn, 1) := by decide +kernel
theorem dX9_differ_23 : decode cX9_differ 23 = .ok (.aload_n 0, 1) := by decide +kernel
theorem dX9_differ_24 : decode cX9_differ 24 = .ok (.getfield 51, 3) := by decide +kernel
theorem dX9_differ_27 : decode cX9_differ 27 = .ok (.aload_n 0, 1) := by decide +kernel
theorem dX9_differ_28 : decode cX9_differ 28 = .ok (.getfield 17, 3) := by decide +kernel
theorem dX9_differ_31 : decode cX9_differ 31 = .ok (.aload_n 0, 1) := by decide +kernel
theorem dX9_differ_32 : decode cX9_differ 32 = .ok (.getfield 125, 3) := by decide +kernel
theorem dX9_differ_35 : decode cX9_differ 35 = .ok (.iload_n 1, 1) := by decide +kernel
theorem dX9_differ_36 : decode cX9_differ 36 = .ok (.invokevirtual 211, 3) := by decide +kernel
theorem dX9_differ_39 : decode cX9_differ 39 = .ok (.ifCond .eq 12, 3) := by decide +kernel
theorem dX9_differ_42 : decode cX9_differ 42 = .ok (.aload_n 0, 1) := by decide +kernel
theorem dX9_differ_43 : decode cX9_differ 43 = .ok (.iload_n 2, 1) := by decide +kernel
theorem dX9_differ_44 : decode cX9_differ 44 = .ok (.iload_n 1, 1) := by decide +kernel
theorem dX9_differ_45 : decode cX9_differ 45 = .ok (.invokevirtual 217, 3) := by decide +kernel
theorem dX9_differ_48 : decode cX9_differ 48 = .ok (.goto 6, 3) := by decide +kernel
theorem dX9_differ_51 : decode cX9_differ 51 = .ok (.ldc2_w 221, 3) := by decide +kernel
theorem dX9_differ_54 : decode cX9_differ 54 = .ok (.lreturn, 1) := by decide +kernel
theorem dX9_found_0 : decode cX9_found 0 = .ok (.aload_n 0, 1) := by decide +kernel
theorem dX9_found_1 : decode cX9_found 1 = .ok (.iload_n 1, 1) := by decide +kernel
theorem dX9_found_2 : decode cX9_found 2 = .ok (.invokevirtual 109, 3) := by decide +kernel
theorem dX9_found_5 : decode cX9_found 5 = .ok (.astore_n 2, 1) := by decide +kernel
theorem dX9_found_6 : decode cX9_found 6 = .ok (.aload_n 2, 1) := by decide +kernel
theorem dX9_found_7 : decode cX9_found 7 = .ok (.ifnonnull 8, 3) := by decide +kernel
theorem dX9_found_10 : decode cX9_found 10 = .ok (.bipush (-2), 2) := by decide +kernel
theorem dX9_found_12 : decode cX9_found 12 = .ok (.goto 19, 3) := by decide +kernel
theorem dX9_found_15 : decode cX9_found 15 = .ok (.aload_n 0, 1) := by decide +kernel
theorem dX9_found_16 : decode cX9_found 16 = .ok (.getfield 51, 3) := by decide +kernel
theorem dX9_found_19 : decode cX9_found 19 = .ok (.aload_n 0, 1) := by decide +kernel
theorem dX9_found_20 : decode cX9_found 20 = .ok (.getfield 17, 3) := by decide +kernel
theorem dX9_found_23 : decode cX9_found 23 = .ok (.aload_n 0, 1) := by decide +kernel
theorem dX9_found_24 : decode cX9_found 24 = .ok (.getfield 125, 3) := by decide +kernel
theorem dX9_found_27 : decode cX9_found 27 = .ok (.aload_n 2, 1) := by decide +kernel
theorem dX9_found_28 : decode cX9_found 28 = .ok (.invokevirtual 223, 3) := by decide +kernel
theorem dX9_found_31 : decode cX9_found 31 = .ok (.ireturn, 1) := by decide +kernel
theorem dX9_loses_0 : decode cX9_loses 0 = .ok (.iload_n 1, 1) := by decide +kernel
theorem dX9_loses_1 : decode cX9_loses 1 = .ok (.bipush 10, 2) := by decide +kernel
theorem dX9_loses_3 : decode cX9_loses 3 = .ok (.idiv, 1) := by decide +kernel
theorem dX9_loses_4 : decode cX9_loses 4 = .ok (.istore_n 3, 1) := by decide +kernel
theorem dX9_loses_5 : decode cX9_loses 5 = .ok (.iload_n 1, 1) := by decide +kernel
theorem dX9_loses_6 : decode cX9_loses 6 = .ok (.bipush 10, 2) := by decide +kernel
theorem dX9_loses_8 : decode cX9_loses 8 = .ok (.irem, 1) := by decide +kernel
theorem dX9_loses_9 : decode cX9_loses 9 = .ok (.istore 4, 2) := by decide +kernel
theorem dX9_loses_11 : decode cX9_loses 11 = .ok (.iload_n 1, 1) := by decide +kernel
theorem dX9_loses_12 : decode cX9_loses 12 = .ok (.ifCond .lt 23, 3) := by decide +kernel
theorem dX9_loses_15 : decode cX9_loses 15 = .ok (.iload_n 3, 1) := by decide +kernel
theorem dX9_loses_16 : decode cX9_loses 16 = .ok (.invokestatic 100, 3) := by decide +kernel
theorem dX9_loses_19 : decode cX9_loses 19 = .ok (.ifCond .eq 16, 3) := by decide +kernel
theorem dX9_loses_22 : decode cX9_loses 22 = .ok (.iload_n 3, 1) := by decide +kernel
theorem dX9_loses_23 : decode cX9_loses 23 = .ok (.iload 4, 2) := by decide +kernel
theorem dX9_loses_25 : decode cX9_loses 25 = .ok (.if_icmp .eq 10, 3) := by decide +kernel
theorem dX9_loses_28 : decode cX9_loses 28 = .ok (.iload_n 2, 1) := by decide +kernel
theorem dX9_loses_29 : decode cX9_loses 29 = .ok (.invokestatic 122, 3) := by decide +kernel
theorem dX9_loses_32 : decode cX9_loses 32 = .ok (.ifCond .ne 7, 3) := by decide +kernel
theorem dX9_loses_35 : decode cX9_loses 35 = .ok (.ldc2_w 156, 3) := by decide +kernel
theorem dX9_loses_38 : decode cX9_loses 38 = .ok (.lreturn, 1) := by decide +kernel
theorem dX9_loses_39 : decode cX9_loses 39 = .ok (.lconst 0, 1) := by decide +kernel
theorem dX9_loses_40 : decode cX9_loses 40 = .ok (.lstore 5, 2) := by decide +kernel
theorem dX9_loses_42 : decode cX9_loses 42 = .ok (.iconst 0, 1) := by decide +kernel
theorem dX9_loses_43 : decode cX9_loses 43 = .ok (.istore 7, 2) := by decide +kernel
theorem dX9_loses_45 : decode cX9_loses 45 = .ok (.iload 7, 2) := by decide +kernel
theorem dX9_loses_47 : decode cX9_loses 47 = .ok (.aload_n 0, 1) := by decide +kernel
theorem dX9_loses_48 : decode cX9_loses 48 = .ok (.getfield 125, 3) := by decide +kernel
theorem dX9_loses_51 : decode cX9_loses 51 = .ok (.if_icmp .ge 62, 3) := by decide +kernel
theorem dX9_loses_54 : decode cX9_loses 54 = .ok (.aload_n 0, 1) := by decide +kernel
theorem dX9_loses_55 : decode cX9_loses 55 = .ok (.getfield 17, 3) := by decide +kernel
theorem dX9_loses_58 : decode cX9_loses 58 = .ok (.iload 7, 2) := by decide +kernel
theorem dX9_loses_60 : decode cX9_loses 60 = .ok (.aaload, 1) := by decide +kernel
theorem dX9_loses_61 : decode cX9_loses 61 = .ok (.astore 8, 2) := by decide +kernel
theorem dX9_loses_63 : decode cX9_loses 63 = .ok (.aload 8, 2) := by decide +kernel
theorem dX9_loses_65 : decode cX9_loses 65 = .ok (.getfield 205, 3) := by decide +kernel
theorem dX9_loses_68 : decode cX9_loses 68 = .ok (.iload_n 3, 1) := by decide +kernel
theorem dX9_loses_69 : decode cX9_loses 69 = .ok (.if_icmp .ne 38, 3) := by decide +kernel
theorem dX9_loses_72 : decode cX9_loses 72 = .ok (.aload 8, 2) := by decide +kernel
theorem dX9_loses_74 : decode cX9_loses 74 = .ok (.getfield 202, 3) := by decide +kernel
theorem dX9_loses_77 : decode cX9_loses 77 = .ok (.iload 4, 2) := by decide +kernel
theorem dX9_loses_79 : decode cX9_loses 79 = .ok (.if_icmp .ne 28, 3) := by decide +kernel
theorem dX9_loses_82 : decode cX9_loses 82 = .ok (.aload 8, 2) := by decide +kernel
theorem dX9_loses_84 : decode cX9_loses 84 = .ok (.invokevirtual 227, 3) := by decide +kernel
theorem dX9_loses_87 : decode cX9_loses 87 = .ok (.iload_n 2, 1) := by decide +kernel
theorem dX9_loses_88 : decode cX9_loses 88 = .ok (.if_icmp .gt 19, 3) := by decide +kernel
theorem dX9_loses_91 : decode cX9_loses 91 = .ok (.lload 5, 2) := by decide +kernel
theorem dX9_loses_93 : decode cX9_loses 93 = .ok (.lconst 0, 1) := by decide +kernel
theorem dX9_loses_94 : decode cX9_loses 94 = .ok (.aload_n 0, 1) := by decide +kernel
theorem dX9_loses_95 : decode cX9_loses 95 = .ok (.aload 8, 2) := by decide +kernel
theorem dX9_loses_97 : decode cX9_loses 97 = .ok (.iload_n 2, 1) := by decide +kernel
theorem dX9_loses_98 : decode cX9_loses 98 = .ok (.invokevirtual 198, 3) := by decide +kernel
theorem dX9_loses_101 : decode cX9_loses 101 = .ok (.invokestatic 230, 3) := by decide +kernel
theorem dX9_loses_104 : decode cX9_loses 104 = .ok (.ladd, 1) := by decide +kernel
theorem dX9_loses_105 : decode cX9_loses 105 = .ok (.lstore 5, 2) := by decide +kernel
theorem dX9_loses_107 : decode cX9_loses 107 = .ok (.iinc 7 1, 3) := by decide +kernel
theorem dX9_loses_110 : decode cX9_loses 110 = .ok (.goto (-65), 3) := by decide +kernel
theorem dX9_loses_113 : decode cX9_loses 113 = .ok (.lload 5, 2) := by decide +kernel
theorem dX9_loses_115 : decode cX9_loses 115 = .ok (.lreturn, 1) := by decide +kernel
theorem dX9_stops_0 : decode cX9_stops 0 = .ok (.iload_n 1, 1) := by decide +kernel
theorem dX9_stops_1 : decode cX9_stops 1 = .ok (.invokestatic 100, 3) := by decide +kernel
theorem dX9_stops_4 : decode cX9_stops 4 = .ok (.ifCond .eq 10, 3) := by decide +kernel
theorem dX9_stops_7 : decode cX9_stops 7 = .ok (.iload_n 2, 1) := by decide +kernel
theorem dX9_stops_8 : decode cX9_stops 8 = .ok (.invokestatic 122, 3) := by decide +kernel
theorem dX9_stops_11 : decode cX9_stops 11 = .ok (.ifCond .ne 6, 3) := by decide +kernel
theorem dX9_stops_14 : decode cX9_stops 14 = .ok (.bipush (-2), 2) := by decide +kernel
theorem dX9_stops_16 : decode cX9_stops 16 = .ok (.ireturn, 1) := by decide +kernel
theorem dX9_stops_17 : decode cX9_stops 17 = .ok (.iconst 0, 1) := by decide +kernel
theorem dX9_stops_18 : decode cX9_stops 18 = .ok (.istore_n 3, 1) := by decide +kernel
theorem dX9_stops_19 : decode cX9_stops 19 = .ok (.iconst 0, 1) := by decide +kernel
theorem dX9_stops_20 : decode cX9_stops 20 = .ok (.istore 4, 2) := by decide +kernel
theorem dX9_stops_22 : decode cX9_stops 22 = .ok (.iload 4, 2) := by decide +kernel
theorem dX9_stops_24 : decode cX9_stops 24 = .ok (.aload_n 0, 1) := by decide +kernel
theorem dX9_stops_25 : decode cX9_stops 25 = .ok (.getfield 125, 3) := by decide +kernel
theorem dX9_stops_28 : decode cX9_stops 28 = .ok (.if_icmp .ge 45, 3) := by decide +kernel
theorem dX9_stops_31 : decode cX9_stops 31 = .ok (.aload_n 0, 1) := by decide +kernel
theorem dX9_stops_32 : decode cX9_stops 32 = .ok (.getfield 17, 3) := by decide +kernel
theorem dX9_stops_35 : decode cX9_stops 35 = .ok (.iload 4, 2) := by decide +kernel
theorem dX9_stops_37 : decode cX9_stops 37 = .ok (.aaload, 1) := by decide +kernel
theorem dX9_stops_38 : decode cX9_stops 38 = .ok (.getfield 205, 3) := by decide +kernel
theorem dX9_stops_41 : decode cX9_stops 41 = .ok (.iload_n 1, 1) := by decide +kernel
theorem dX9_stops_42 : decode cX9_stops 42 = .ok (.if_icmp .ne 25, 3) := by decide +kernel
theorem dX9_stops_45 : decode cX9_stops 45 = .ok (.aload_n 0, 1) := by decide +kernel
theorem dX9_stops_46 : decode cX9_stops 46 = .ok (.aload_n 0, 1) := by decide +kernel
theorem dX9_stops_47 : decode cX9_stops 47 = .ok (.getfield 17, 3) := by decide +kernel
theorem dX9_stops_50 : decode cX9_stops 50 = .ok (.iload 4, 2) := by decide +kernel
theorem dX9_stops_52 : decode cX9_stops 52 = .ok (.aaload, 1) := by decide +kernel
theorem dX9_stops_53 : decode cX9_stops 53 = .ok (.iload_n 2, 1) := by decide +kernel
theorem dX9_stops_54 : decode cX9_stops 54 = .ok (.invokevirtual 233, 3) := by decide +kernel
theorem dX9_stops_57 : decode cX9_stops 57 = .ok (.ifCond .eq 10, 3) := by decide +kernel
theorem dX9_stops_60 : decode cX9_stops 60 = .ok (.iload_n 3, 1) := by decide +kernel
theorem dX9_stops_61 : decode cX9_stops 61 = .ok (.iconst 1, 1) := by decide +kernel
theorem dX9_stops_62 : decode cX9_stops 62 = .ok (.iload 4, 2) := by decide +kernel
theorem dX9_stops_64 : decode cX9_stops 64 = .ok (.ishl, 1) := by decide +kernel
theorem dX9_stops_65 : decode cX9_stops 65 = .ok (.ior, 1) := by decide +kernel
theorem dX9_stops_66 : decode cX9_stops 66 = .ok (.istore_n 3, 1) := by decide +kernel
theorem dX9_stops_67 : decode cX9_stops 67 = .ok (.iinc 4 1, 3) := by decide +kernel
theorem dX9_stops_70 : decode cX9_stops 70 = .ok (.goto (-48), 3) := by decide +kernel
theorem dX9_stops_73 : decode cX9_stops 73 = .ok (.iload_n 3, 1) := by decide +kernel
theorem dX9_stops_74 : decode cX9_stops 74 = .ok (.ireturn, 1) := by decide +kernel
theorem dX9_two_0 : decode cX9_two 0 = .ok (.aload_n 0, 1) := by decide +kernel
theorem dX9_two_1 : decode cX9_two 1 = .ok (.iload_n 1, 1) := by decide +kernel
theorem dX9_two_2 : decode cX9_two 2 = .ok (.invokevirtual 131, 3) := by decide +kernel
theorem dX9_two_5 : decode cX9_two 5 = .ok (.astore 4, 2) := by decide +kernel
theorem dX9_two_7 : decode cX9_two 7 = .ok (.iload_n 2, 1) := by decide +kernel
theorem dX9_two_8 : decode cX9_two 8 = .ok (.invokestatic 153, 3) := by decide +kernel
theorem dX9_two_11 : decode cX9_two 11 = .ok (.istore 5, 2) := by decide +kernel
theorem dX9_two_13 : decode cX9_two 13 = .ok (.iload_n 3, 1) := by decide +kernel
theorem dX9_two_14 : decode cX9_two 14 = .ok (.invokestatic 153, 3) := by decide +kernel
theorem dX9_two_17 : decode cX9_two 17 = .ok (.istore 6, 2) := by decide +kernel
theorem dX9_two_19 : decode cX9_two 19 = .ok (.aload 4, 2) := by decide +kernel
theorem dX9_two_21 : decode cX9_two 21 = .ok (.ifnull 26, 3) := by decide +kernel
theorem dX9_two_24 : decode cX9_two 24 = .ok (.iload 5, 2) := by decide +kernel
theorem dX9_two_26 : decode cX9_two 26 = .ok (.invokestatic 100, 3) := by decide +kernel
theorem dX9_two_29 : decode cX9_two 29 = .ok (.ifCond .eq 18, 3) := by decide +kernel
theorem dX9_two_32 : decode cX9_two 32 = .ok (.iload 6, 2) := by decide +kernel
theorem dX9_two_34 : decode cX9_two 34 = .ok (.invokestatic 100, 3) := by decide +kernel
theorem dX9_two_37 : decode cX9_two 37 = .ok (.ifCond .eq 10, 3) := by decide +kernel
theorem dX9_two_40 : decode cX9_two 40 = .ok (.iload 5, 2) := by decide +kernel
theorem dX9_two_42 : decode cX9_two 42 = .ok (.iload 6, 2) := by decide +kernel
theorem dX9_two_44 : decode cX9_two 44 = .ok (.if_icmp .ne 6, 3) := by decide +kernel
theorem dX9_two_47 : decode cX9_two 47 = .ok (.bipush (-2), 2) := by decide +kernel
theorem dX9_two_49 : decode cX9_two 49 = .ok (.ireturn, 1) := by decide +kernel
theorem dX9_two_50 : decode cX9_two 50 = .ok (.aload 4, 2) := by decide +kernel
theorem dX9_two_52 : decode cX9_two 52 = .ok (.getfield 237, 3) := by decide +kernel
theorem dX9_two_55 : decode cX9_two 55 = .ok (.iconst 3, 1) := by decide +kernel
theorem dX9_two_56 : decode cX9_two 56 = .ok (.invokestatic 240, 3) := by decide +kernel
theorem dX9_two_59 : decode cX9_two 59 = .ok (.ifCond .ne 6, 3) := by decide +kernel
theorem dX9_two_62 : decode cX9_two 62 = .ok (.bipush (-13), 2) := by decide +kernel
theorem dX9_two_64 : decode cX9_two 64 = .ok (.ireturn, 1) := by decide +kernel
theorem dX9_two_65 : decode cX9_two 65 = .ok (.iload_n 2, 1) := by decide +kernel
theorem dX9_two_66 : decode cX9_two 66 = .ok (.invokestatic 158, 3) := by decide +kernel
theorem dX9_two_69 : decode cX9_two 69 = .ok (.iload_n 3, 1) := by decide +kernel
theorem dX9_two_70 : decode cX9_two 70 = .ok (.invokestatic 158, 3) := by decide +kernel
theorem dX9_two_73 : decode cX9_two 73 = .ok (.if_icmp .ne 11, 3) := by decide +kernel
theorem dX9_two_76 : decode cX9_two 76 = .ok (.iload 5, 2) := by decide +kernel
theorem dX9_two_78 : decode cX9_two 78 = .ok (.iload 6, 2) := by decide +kernel
theorem dX9_two_80 : decode cX9_two 80 = .ok (.invokestatic 181, 3) := by decide +kernel
theorem dX9_two_83 : decode cX9_two 83 = .ok (.ireturn, 1) := by decide +kernel
theorem dX9_two_84 : decode cX9_two 84 = .ok (.iload_n 2, 1) := by decide +kernel
theorem dX9_two_85 : decode cX9_two 85 = .ok (.invokestatic 158, 3) := by decide +kernel
theorem dX9_two_88 : decode cX9_two 88 = .ok (.iload_n 3, 1) := by decide +kernel
theorem dX9_two_89 : decode cX9_two 89 = .ok (.invokestatic 158, 3) := by decide +kernel
theorem dX9_two_92 : decode cX9_two 92 = .ok (.if_icmp .ge 8, 3) := by decide +kernel
theorem dX9_two_95 : decode cX9_two 95 = .ok (.iload 5, 2) := by decide +kernel
theorem dX9_two_97 : decode cX9_two 97 = .ok (.goto 5, 3) := by decide +kernel
theorem dX9_two_100 : decode cX9_two 100 = .ok (.iload 6, 2) := by decide +kernel
theorem dX9_two_102 : decode cX9_two 102 = .ok (.ireturn, 1) := by decide +kernel
theorem dX9_hangs_0 : decode cX9_hangs 0 = .ok (.aload_n 0, 1) := by decide +kernel
theorem dX9_hangs_1 : decode cX9_hangs 1 = .ok (.iload_n 1, 1) := by decide +kernel
theorem dX9_hangs_2 : decode cX9_hangs 2 = .ok (.invokevirtual 109, 3) := by decide +kernel
theorem dX9_hangs_5 : decode cX9_hangs 5 = .ok (.astore 4, 2) := by decide +kernel
theorem dX9_hangs_7 : decode cX9_hangs 7 = .ok (.aload 4, 2) := by decide +kernel
theorem dX9_hangs_9 : decode cX9_hangs 9 = .ok (.ifnull 19, 3) := by decide +kernel
theorem dX9_hangs_12 : decode cX9_hangs 12 = .ok (.iload_n 2, 1) := by decide +kernel
theorem dX9_hangs_13 : decode cX9_hangs 13 = .ok (.invokestatic 122, 3) := by decide +kernel
theorem dX9_hangs_16 : decode cX9_hangs 16 = .ok (.ifCond .eq 12, 3) := by decide +kernel
theorem dX9_hangs_19 : decode cX9_hangs 19 = .ok (.iload_n 3, 1) := by decide +kernel
theorem dX9_hangs_20 : decode cX9_hangs 20 = .ok (.ifCond .eq 11, 3) := by decide +kernel
theorem dX9_hangs_23 : decode cX9_hangs 23 = .ok (.iload_n 3, 1) := by decide +kernel
theorem dX9_hangs_24 : decode cX9_hangs 24 = .ok (.iconst 1, 1) := by decide +kernel
theorem dX9_hangs_25 : decode cX9_hangs 25 = .ok (.if_icmp .eq 6, 3) := by decide +kernel
theorem dX9_hangs_28 : decode cX9_hangs 28 = .ok (.bipush (-2), 2) := by decide +kernel
theorem dX9_hangs_30 : decode cX9_hangs 30 = .ok (.ireturn, 1) := by decide +kernel
theorem dX9_hangs_31 : decode cX9_hangs 31 = .ok (.aload_n 0, 1) := by decide +kernel
theorem dX9_hangs_32 : decode cX9_hangs 32 = .ok (.aload 4, 2) := by decide +kernel
theorem dX9_hangs_34 : decode cX9_hangs 34 = .ok (.iload_n 2, 1) := by decide +kernel
theorem dX9_hangs_35 : decode cX9_hangs 35 = .ok (.invokevirtual 244, 3) := by decide +kernel
theorem dX9_hangs_38 : decode cX9_hangs 38 = .ok (.aload_n 0, 1) := by decide +kernel
theorem dX9_hangs_39 : decode cX9_hangs 39 = .ok (.aload 4, 2) := by decide +kernel
theorem dX9_hangs_41 : decode cX9_hangs 41 = .ok (.iconst 0, 1) := by decide +kernel
theorem dX9_hangs_42 : decode cX9_hangs 42 = .ok (.iload_n 2, 1) := by decide +kernel
theorem dX9_hangs_43 : decode cX9_hangs 43 = .ok (.invokevirtual 248, 3) := by decide +kernel
theorem dX9_hangs_46 : decode cX9_hangs 46 = .ok (.istore 5, 2) := by decide +kernel
theorem dX9_hangs_48 : decode cX9_hangs 48 = .ok (.aload_n 0, 1) := by decide +kernel
theorem dX9_hangs_49 : decode cX9_hangs 49 = .ok (.aload 4, 2) := by decide +kernel
theorem dX9_hangs_51 : decode cX9_hangs 51 = .ok (.iconst 1, 1) := by decide +kernel
theorem dX9_hangs_52 : decode cX9_hangs 52 = .ok (.iload_n 2, 1) := by decide +kernel
theorem dX9_hangs_53 : decode cX9_hangs 53 = .ok (.invokevirtual 248, 3) := by decide +kernel
theorem dX9_hangs_56 : decode cX9_hangs 56 = .ok (.istore 6, 2) := by decide +kernel
theorem dX9_hangs_58 : decode cX9_hangs 58 = .ok (.iload 5, 2) := by decide +kernel
theorem dX9_hangs_60 : decode cX9_hangs 60 = .ok (.iload 6, 2) := by decide +kernel
theorem dX9_hangs_62 : decode cX9_hangs 62 = .ok (.invokestatic 186, 3) := by decide +kernel
theorem dX9_hangs_65 : decode cX9_hangs 65 = .ok (.istore 7, 2) := by decide +kernel
theorem dX9_hangs_67 : decode cX9_hangs 67 = .ok (.iload 7, 2) := by decide +kernel
theorem dX9_hangs_69 : decode cX9_hangs 69 = .ok (.ifCond .ne 5, 3) := by decide +kernel
theorem dX9_hangs_72 : decode cX9_hangs 72 = .ok (.iconst (-1), 1) := by decide +kernel
theorem dX9_hangs_73 : decode cX9_hangs 73 = .ok (.ireturn, 1) := by decide +kernel
theorem dX9_hangs_74 : decode cX9_hangs 74 = .ok (.iload_n 3, 1) := by decide +kernel
theorem dX9_hangs_75 : decode cX9_hangs 75 = .ok (.iconst 1, 1) := by decide +kernel
theorem dX9_hangs_76 : decode cX9_hangs 76 = .ok (.if_icmp .ne 6, 3) := by decide +kernel
theorem dX9_hangs_79 : decode cX9_hangs 79 = .ok (.iload 7, 2) := by decide +kernel
theorem dX9_hangs_81 : decode cX9_hangs 81 = .ok (.ireturn, 1) := by decide +kernel
theorem dX9_hangs_82 : decode cX9_hangs 82 = .ok (.iload 5, 2) := by decide +kernel
theorem dX9_hangs_84 : decode cX9_hangs 84 = .ok (.iload 7, 2) := by decide +kernel
theorem dX9_hangs_86 : decode cX9_hangs 86 = .ok (.if_icmp .ne 7, 3) := by decide +kernel
theorem dX9_hangs_89 : decode cX9_hangs 89 = .ok (.iconst 0, 1) := by decide +kernel
theorem dX9_hangs_90 : decode cX9_hangs 90 = .ok (.goto 4, 3) := by decide +kernel
theorem dX9_hangs_93 : decode cX9_hangs 93 = .ok (.iconst 1, 1) := by decide +kernel
theorem dX9_hangs_94 : decode cX9_hangs 94 = .ok (.ireturn, 1) := by decide +kernel
theorem dX9_moves_0 : decode cX9_moves 0 = .ok (.aload_n 0, 1) := by decide +kernel
theorem dX9_moves_1 : decode cX9_moves 1 = .ok (.iload_n 1, 1) := by decide +kernel
theorem dX9_moves_2 : decode cX9_moves 2 = .ok (.invokevirtual 131, 3) := by decide +kernel
theorem dX9_moves_5 : decode cX9_moves 5 = .ok (.astore 4, 2) := by decide +kernel
theorem dX9_moves_7 : decode cX9_moves 7 = .ok (.aload 4, 2) := by decide +kernel
theorem dX9_moves_9 : decode cX9_moves 9 = .ok (.ifnull 24, 3) := by decide +kernel
theorem dX9_moves_12 : decode cX9_moves 12 = .ok (.iload_n 2, 1) := by decide +kernel
theorem dX9_moves_13 : decode cX9_moves 13 = .ok (.ifCond .lt 20, 3) := by decide +kernel
theorem dX9_moves_16 : decode cX9_moves 16 = .ok (.iload_n 2, 1) := by decide +kernel
theorem dX9_moves_17 : decode cX9_moves 17 = .ok (.bipush 10, 2) := by decide +kernel
theorem dX9_moves_19 : decode cX9_moves 19 = .ok (.idiv, 1) := by decide +kernel
theorem dX9_moves_20 : decode cX9_moves 20 = .ok (.invokestatic 119, 3) := by decide +kernel
theorem dX9_moves_23 : decode cX9_moves 23 = .ok (.ifCond .eq 10, 3) := by decide +kernel
theorem dX9_moves_26 : decode cX9_moves 26 = .ok (.iload_n 3, 1) := by decide +kernel
theorem dX9_moves_27 : decode cX9_moves 27 = .ok (.invokestatic 122, 3) := by decide +kernel
theorem dX9_moves_30 : decode cX9_moves 30 = .ok (.ifCond .ne 7, 3) := by decide +kernel
theorem dX9_moves_33 : decode cX9_moves 33 = .ok (.ldc2_w 156, 3) := by decide +kernel
theorem dX9_moves_36 : decode cX9_moves 36 = .ok (.lreturn, 1) := by decide +kernel
theorem dX9_moves_37 : decode cX9_moves 37 = .ok (.iload_n 2, 1) := by decide +kernel
theorem dX9_moves_38 : decode cX9_moves 38 = .ok (.bipush 10, 2) := by decide +kernel
theorem dX9_moves_40 : decode cX9_moves 40 = .ok (.irem, 1) := by decide +kernel
theorem dX9_moves_41 : decode cX9_moves 41 = .ok (.istore 5, 2) := by decide +kernel
theorem dX9_moves_43 : decode cX9_moves 43 = .ok (.aload_n 0, 1) := by decide +kernel
theorem dX9_moves_44 : decode cX9_moves 44 = .ok (.aload 4, 2) := by decide +kernel
theorem dX9_moves_46 : decode cX9_moves 46 = .ok (.getfield 252, 3) := by decide +kernel
theorem dX9_moves_49 : decode cX9_moves 49 = .ok (.iload 5, 2) := by decide +kernel
theorem dX9_moves_51 : decode cX9_moves 51 = .ok (.iload_n 3, 1) := by decide +kernel
theorem dX9_moves_52 : decode cX9_moves 52 = .ok (.iconst 1, 1) := by decide +kernel
theorem dX9_moves_53 : decode cX9_moves 53 = .ok (.invokevirtual 149, 3) := by decide +kernel
theorem dX9_moves_56 : decode cX9_moves 56 = .ok (.istore 6, 2) := by decide +kernel
theorem dX9_moves_58 : decode cX9_moves 58 = .ok (.aload 4, 2) := by decide +kernel
theorem dX9_moves_60 : decode cX9_moves 60 = .ok (.getfield 237, 3) := by decide +kernel
theorem dX9_moves_63 : decode cX9_moves 63 = .ok (.istore 7, 2) := by decide +kernel
theorem dX9_moves_65 : decode cX9_moves 65 = .ok (.aload 4, 2) := by decide +kernel
theorem dX9_moves_67 : decode cX9_moves 67 = .ok (.iload_n 2, 1) := by decide +kernel
theorem dX9_moves_68 : decode cX9_moves 68 = .ok (.bipush 10, 2) := by decide +kernel
theorem dX9_moves_70 : decode cX9_moves 70 = .ok (.idiv, 1) := by decide +kernel
theorem dX9_moves_71 : decode cX9_moves 71 = .ok (.putfield 237, 3) := by decide +kernel
theorem dX9_moves_74 : decode cX9_moves 74 = .ok (.aload_n 0, 1) := by decide +kernel
theorem dX9_moves_75 : decode cX9_moves 75 = .ok (.aload 4, 2) := by decide +kernel
theorem dX9_moves_77 : decode cX9_moves 77 = .ok (.getfield 252, 3) := by decide +kernel
theorem dX9_moves_80 : decode cX9_moves 80 = .ok (.iload 5, 2) := by decide +kernel
theorem dX9_moves_82 : decode cX9_moves 82 = .ok (.iload_n 3, 1) := by decide +kernel
theorem dX9_moves_83 : decode cX9_moves 83 = .ok (.iconst 1, 1) := by decide +kernel
theorem dX9_moves_84 : decode cX9_moves 84 = .ok (.invokevirtual 149, 3) := by decide +kernel
theorem dX9_moves_87 : decode cX9_moves 87 = .ok (.istore 8, 2) := by decide +kernel
theorem dX9_moves_89 : decode cX9_moves 89 = .ok (.aload 4, 2) := by decide +kernel
theorem dX9_moves_91 : decode cX9_moves 91 = .ok (.iload 7, 2) := by decide +kernel
theorem dX9_moves_93 : decode cX9_moves 93 = .ok (.putfield 237, 3) := by decide +kernel
theorem dX9_moves_96 : decode cX9_moves 96 = .ok (.iload 8, 2) := by decide +kernel
theorem dX9_moves_98 : decode cX9_moves 98 = .ok (.iload 6, 2) := by decide +kernel
theorem dX9_moves_100 : decode cX9_moves 100 = .ok (.isub, 1) := by decide +kernel
theorem dX9_moves_101 : decode cX9_moves 101 = .ok (.i2l, 1) := by decide +kernel
theorem dX9_moves_102 : decode cX9_moves 102 = .ok (.lreturn, 1) := by decide +kernel
theorem dX9_telegraph_0 : decode cX9_telegraph 0 = .ok (.aload_n 0, 1) := by decide +kernel
theorem dX9_telegraph_1 : decode cX9_telegraph 1 = .ok (.iload_n 1, 1) := by decide +kernel
theorem dX9_telegraph_2 : decode cX9_telegraph 2 = .ok (.invokevirtual 109, 3) := by decide +kernel
theorem dX9_telegraph_5 : decode cX9_telegraph 5 = .ok (.astore_n 3, 1) := by decide +kernel
theorem dX9_telegraph_6 : decode cX9_telegraph 6 = .ok (.aload_n 3, 1) := by decide +kernel
theorem dX9_telegraph_7 : decode cX9_telegraph 7 = .ok (.ifnull 10, 3) := by decide +kernel
theorem dX9_telegraph_10 : decode cX9_telegraph 10 = .ok (.iload_n 2, 1) := by decide +kernel
theorem dX9_telegraph_11 : decode cX9_telegraph 11 = .ok (.invokestatic 122, 3) := by decide +kernel
theorem dX9_telegraph_14 : decode cX9_telegraph 14 = .ok (.ifCond .ne 6, 3) := by decide +kernel
theorem dX9_telegraph_17 : decode cX9_telegraph 17 = .ok (.bipush (-2), 2) := by decide +kernel
theorem dX9_telegraph_19 : decode cX9_telegraph 19 = .ok (.ireturn, 1) := by decide +kernel
theorem dX9_telegraph_20 : decode cX9_telegraph 20 = .ok (.aload_n 0, 1) := by decide +kernel
theorem dX9_telegraph_21 : decode cX9_telegraph 21 = .ok (.getfield 44, 3) := by decide +kernel
theorem dX9_telegraph_24 : decode cX9_telegraph 24 = .ok (.aload_n 3, 1) := by decide +kernel
theorem dX9_telegraph_25 : decode cX9_telegraph 25 = .ok (.aload_n 0, 1) := by decide +kernel
theorem dX9_telegraph_26 : decode cX9_telegraph 26 = .ok (.getfield 17, 3) := by decide +kernel
theorem dX9_telegraph_29 : decode cX9_telegraph 29 = .ok (.aload_n 0, 1) := by decide +kernel
theorem dX9_telegraph_30 : decode cX9_telegraph 30 = .ok (.getfield 125, 3) := by decide +kernel
theorem dX9_telegraph_33 : decode cX9_telegraph 33 = .ok (.iconst 1, 1) := by decide +kernel
theorem dX9_telegraph_34 : decode cX9_telegraph 34 = .ok (.invokevirtual 168, 3) := by decide +kernel
theorem dX9_telegraph_37 : decode cX9_telegraph 37 = .ok (.aload_n 0, 1) := by decide +kernel
theorem dX9_telegraph_38 : decode cX9_telegraph 38 = .ok (.getfield 44, 3) := by decide +kernel
theorem dX9_telegraph_41 : decode cX9_telegraph 41 = .ok (.iload_n 2, 1) := by decide +kernel
theorem dX9_telegraph_42 : decode cX9_telegraph 42 = .ok (.invokevirtual 172, 3) := by decide +kernel
theorem dX9_telegraph_45 : decode cX9_telegraph 45 = .ok (.iconst 0, 1) := by decide +kernel
theorem dX9_telegraph_46 : decode cX9_telegraph 46 = .ok (.istore 4, 2) := by decide +kernel
theorem dX9_telegraph_48 : decode cX9_telegraph 48 = .ok (.iconst 0, 1) := by decide +kernel
theorem dX9_telegraph_49 : decode cX9_telegraph 49 = .ok (.istore 5, 2) := by decide +kernel
theorem dX9_telegraph_51 : decode cX9_telegraph 51 = .ok (.iload 5, 2) := by decide +kernel
theorem dX9_telegraph_53 : decode cX9_telegraph 53 = .ok (.aload_n 0, 1) := by decide +kernel
theorem dX9_telegraph_54 : decode cX9_telegraph 54 = .ok (.getfield 125, 3) := by decide +kernel
theorem dX9_telegraph_57 : decode cX9_telegraph 57 = .ok (.if_icmp .ge 61, 3) := by decide +kernel
theorem dX9_telegraph_60 : decode cX9_telegraph 60 = .ok (.aload_n 0, 1) := by decide +kernel
theorem dX9_telegraph_61 : decode cX9_telegraph 61 = .ok (.getfield 17, 3) := by decide +kernel
theorem dX9_telegraph_64 : decode cX9_telegraph 64 = .ok (.iload 5, 2) := by decide +kernel
theorem dX9_telegraph_66 : decode cX9_telegraph 66 = .ok (.aaload, 1) := by decide +kernel
theorem dX9_telegraph_67 : decode cX9_telegraph 67 = .ok (.astore 6, 2) := by decide +kernel
theorem dX9_telegraph_69 : decode cX9_telegraph 69 = .ok (.aload 6, 2) := by decide +kernel
theorem dX9_telegraph_71 : decode cX9_telegraph 71 = .ok (.getfield 252, 3) := by decide +kernel
theorem dX9_telegraph_74 : decode cX9_telegraph 74 = .ok (.aload_n 3, 1) := by decide +kernel
theorem dX9_telegraph_75 : decode cX9_telegraph 75 = .ok (.if_acmp .ne 37, 3) := by decide +kernel
theorem dX9_telegraph_78 : decode cX9_telegraph 78 = .ok (.aload 6, 2) := by decide +kernel
theorem dX9_telegraph_80 : decode cX9_telegraph 80 = .ok (.getfield 256, 3) := by decide +kernel
theorem dX9_telegraph_83 : decode cX9_telegraph 83 = .ok (.iload_n 2, 1) := by decide +kernel
theorem dX9_telegraph_84 : decode cX9_telegraph 84 = .ok (.if_icmp .le 28, 3) := by decide +kernel
theorem dX9_telegraph_87 : decode cX9_telegraph 87 = .ok (.aload_n 0, 1) := by decide +kernel
theorem dX9_telegraph_88 : decode cX9_telegraph 88 = .ok (.getfield 44, 3) := by decide +kernel
theorem dX9_telegraph_91 : decode cX9_telegraph 91 = .ok (.getfield 175, 3) := by decide +kernel
theorem dX9_telegraph_94 : decode cX9_telegraph 94 = .ok (.aload 6, 2) := by decide +kernel
theorem dX9_telegraph_96 : decode cX9_telegraph 96 = .ok (.getfield 202, 3) := by decide +kernel
theorem dX9_telegraph_99 : decode cX9_telegraph 99 = .ok (.iaload, 1) := by decide +kernel
theorem dX9_telegraph_100 : decode cX9_telegraph 100 = .ok (.ifCond .le 12, 3) := by decide +kernel
theorem dX9_telegraph_103 : decode cX9_telegraph 103 = .ok (.iload 4, 2) := by decide +kernel
theorem dX9_telegraph_105 : decode cX9_telegraph 105 = .ok (.iconst 1, 1) := by decide +kernel
theorem dX9_telegraph_106 : decode cX9_telegraph 106 = .ok (.iload 5, 2) := by decide +kernel
theorem dX9_telegraph_108 : decode cX9_telegraph 108 = .ok (.ishl, 1) := by decide +kernel
theorem dX9_telegraph_109 : decode cX9_telegraph 109 = .ok (.ior, 1) := by decide +kernel
theorem dX9_telegraph_110 : decode cX9_telegraph 110 = .ok (.istore 4, 2) := by decide +kernel
theorem dX9_telegraph_112 : decode cX9_telegraph 112 = .ok (.iinc 5 1, 3) := by decide +kernel
theorem dX9_telegraph_115 : decode cX9_telegraph 115 = .ok (.goto (-64), 3) := by decide +kernel
theorem dX9_telegraph_118 : decode cX9_telegraph 118 = .ok (.iload 4, 2) := by decide +kernel
theorem dX9_telegraph_120 : decode cX9_telegraph 120 = .ok (.ireturn, 1) := by decide +kernel
theorem dX9_image_0 : decode cX9_image 0 = .ok (.iconst 0, 1) := by decide +kernel
theorem dX9_image_1 : decode cX9_image 1 = .ok (.istore_n 1, 1) := by decide +kernel
theorem dX9_image_2 : decode cX9_image 2 = .ok (.iload_n 1, 1) := by decide +kernel
theorem dX9_image_3 : decode cX9_image 3 = .ok (.aload_n 0, 1) := by decide +kernel
theorem dX9_image_4 : decode cX9_image 4 = .ok (.getfield 103, 3) := by decide +kernel
theorem dX9_image_7 : decode cX9_image 7 = .ok (.if_icmp .ge 18, 3) := by decide +kernel
theorem dX9_image_10 : decode cX9_image 10 = .ok (.aload_n 0, 1) := by decide +kernel
theorem dX9_image_11 : decode cX9_image 11 = .ok (.getfield 11, 3) := by decide +kernel
theorem dX9_image_14 : decode cX9_image 14 = .ok (.iload_n 1, 1) := by decide +kernel
theorem dX9_image_15 : decode cX9_image 15 = .ok (.aaload, 1) := by decide +kernel
theorem dX9_image_16 : decode cX9_image 16 = .ok (.invokevirtual 259, 3) := by decide +kernel
theorem dX9_image_19 : decode cX9_image 19 = .ok (.iinc 1 1, 3) := by decide +kernel
theorem dX9_image_22 : decode cX9_image 22 = .ok (.goto (-20), 3) := by decide +kernel
theorem dX9_image_25 : decode cX9_image 25 = .ok (.iconst 0, 1) := by decide +kernel
theorem dX9_image_26 : decode cX9_image 26 = .ok (.istore_n 1, 1) := by decide +kernel
theorem dX9_image_27 : decode cX9_image 27 = .ok (.iload_n 1, 1) := by decide +kernel
theorem dX9_image_28 : decode cX9_image 28 = .ok (.aload_n 0, 1) := by decide +kernel
theorem dX9_image_29 : decode cX9_image 29 = .ok (.getfield 125, 3) := by decide +kernel
theorem dX9_image_32 : decode cX9_image 32 = .ok (.if_icmp .ge 18, 3) := by decide +kernel
theorem dX9_image_35 : decode cX9_image 35 = .ok (.aload_n 0, 1) := by decide +kernel
theorem dX9_image_36 : decode cX9_image 36 = .ok (.getfield 17, 3) := by decide +kernel
theorem dX9_image_39 : decode cX9_image 39 = .ok (.iload_n 1, 1) := by decide +kernel
theorem dX9_image_40 : decode cX9_image 40 = .ok (.aaload, 1) := by decide +kernel
theorem dX9_image_41 : decode cX9_image 41 = .ok (.invokevirtual 262, 3) := by decide +kernel
theorem dX9_image_44 : decode cX9_image 44 = .ok (.iinc 1 1, 3) := by decide +kernel
theorem dX9_image_47 : decode cX9_image 47 = .ok (.goto (-20), 3) := by decide +kernel
theorem dX9_image_50 : decode cX9_image 50 = .ok (.aload_n 0, 1) := by decide +kernel
theorem dX9_image_51 : decode cX9_image 51 = .ok (.iconst 1, 1) := by decide +kernel
theorem dX9_image_52 : decode cX9_image 52 = .ok (.putfield 263, 3) := by decide +kernel
theorem dX9_image_55 : decode cX9_image 55 = .ok (.aload_n 0, 1) := by decide +kernel
theorem dX9_image_56 : decode cX9_image 56 = .ok (.aload_n 0, 1) := by decide +kernel
theorem dX9_image_57 : decode cX9_image 57 = .ok (.getfield 103, 3) := by decide +kernel
theorem dX9_image_60 : decode cX9_image 60 = .ok (.putfield 267, 3) := by decide +kernel
theorem dX9_image_63 : decode cX9_image 63 = .ok (.aload_n 0, 1) := by decide +kernel
theorem dX9_image_64 : decode cX9_image 64 = .ok (.aload_n 0, 1) := by decide +kernel
theorem dX9_image_65 : decode cX9_image 65 = .ok (.getfield 125, 3) := by decide +kernel
theorem dX9_image_68 : decode cX9_image 68 = .ok (.putfield 270, 3) := by decide +kernel
theorem dX9_image_71 : decode cX9_image 71 = .ok (.aload_n 0, 1) := by decide +kernel
theorem dX9_image_72 : decode cX9_image 72 = .ok (.aload_n 0, 1) := by decide +kernel
theorem dX9_image_73 : decode cX9_image 73 = .ok (.getfield 195, 3) := by decide +kernel
theorem dX9_image_76 : decode cX9_image 76 = .ok (.putfield 273, 3) := by decide +kernel
theorem dX9_image_79 : decode cX9_image 79 = .ok (.aload_n 0, 1) := by decide +kernel
theorem dX9_image_80 : decode cX9_image 80 = .ok (.getfield 125, 3) := by decide +kernel
theorem dX9_image_83 : decode cX9_image 83 = .ok (.ireturn, 1) := by decide +kernel
theorem dX9_back_0 : decode cX9_back 0 = .ok (.aload_n 0, 1) := by decide +kernel
theorem dX9_back_1 : decode cX9_back 1 = .ok (.getfield 263, 3) := by decide +kernel
theorem dX9_back_4 : decode cX9_back 4 = .ok (.ifCond .ne 6, 3) := by decide +kernel
theorem dX9_back_7 : decode cX9_back 7 = .ok (.bipush (-3), 2) := by decide +kernel
theorem dX9_back_9 : decode cX9_back 9 = .ok (.ireturn, 1) := by decide +kernel
theorem dX9_back_10 : decode cX9_back 10 = .ok (.iconst 0, 1) := by decide +kernel
theorem dX9_back_11 : decode cX9_back 11 = .ok (.istore_n 1, 1) := by decide +kernel
theorem dX9_back_12 : decode cX9_back 12 = .ok (.iload_n 1, 1) := by decide +kernel
theorem dX9_back_13 : decode cX9_back 13 = .ok (.aload_n 0, 1) := by decide +kernel
theorem dX9_back_14 : decode cX9_back 14 = .ok (.getfield 267, 3) := by decide +kernel
theorem dX9_back_17 : decode cX9_back 17 = .ok (.if_icmp .ge 18, 3) := by decide +kernel
theorem dX9_back_20 : decode cX9_back 20 = .ok (.aload_n 0, 1) := by decide +kernel
theorem dX9_back_21 : decode cX9_back 21 = .ok (.getfield 11, 3) := by decide +kernel
theorem dX9_back_24 : decode cX9_back 24 = .ok (.iload_n 1, 1) := by decide +kernel
theorem dX9_back_25 : decode cX9_back 25 = .ok (.aaload, 1) := by decide +kernel
theorem dX9_back_26 : decode cX9_back 26 = .ok (.invokevirtual 276, 3) := by decide +kernel
theorem dX9_back_29 : decode cX9_back 29 = .ok (.iinc 1 1, 3) := by decide +kernel
theorem dX9_back_32 : decode cX9_back 32 = .ok (.goto (-20), 3) := by decide +kernel
theorem dX9_back_35 : decode cX9_back 35 = .ok (.iconst 0, 1) := by decide +kernel
theorem dX9_back_36 : decode cX9_back 36 = .ok (.istore_n 1, 1) := by decide +kernel
theorem dX9_back_37 : decode cX9_back 37 = .ok (.iload_n 1, 1) := by decide +kernel
theorem dX9_back_38 : decode cX9_back 38 = .ok (.aload_n 0, 1) := by decide +kernel
theorem dX9_back_39 : decode cX9_back 39 = .ok (.getfield 270, 3) := by decide +kernel
theorem dX9_back_42 : decode cX9_back 42 = .ok (.if_icmp .ge 18, 3) := by decide +kernel
theorem dX9_back_45 : decode cX9_back 45 = .ok (.aload_n 0, 1) := by decide +kernel
theorem dX9_back_46 : decode cX9_back 46 = .ok (.getfield 17, 3) := by decide +kernel
theorem dX9_back_49 : decode cX9_back 49 = .ok (.iload_n 1, 1) := by decide +kernel
theorem dX9_back_50 : decode cX9_back 50 = .ok (.aaload, 1) := by decide +kernel
theorem dX9_back_51 : decode cX9_back 51 = .ok (.invokevirtual 279, 3) := by decide +kernel
theorem dX9_back_54 : decode cX9_back 54 = .ok (.iinc 1 1, 3) := by decide +kernel
theorem dX9_back_57 : decode cX9_back 57 = .ok (.goto (-20), 3) := by decide +kernel
theorem dX9_back_60 : decode cX9_back 60 = .ok (.aload_n 0, 1) := by decide +kernel
theorem dX9_back_61 : decode cX9_back 61 = .ok (.aload_n 0, 1) := by decide +kernel
theorem dX9_back_62 : decode cX9_back 62 = .ok (.getfield 273, 3) := by decide +kernel
theorem dX9_back_65 : decode cX9_back 65 = .ok (.putfield 195, 3) := by decide +kernel
theorem dX9_back_68 : decode cX9_back 68 = .ok (.aload_n 0, 1) := by decide +kernel
theorem dX9_back_69 : decode cX9_back 69 = .ok (.getfield 125, 3) := by decide +kernel
theorem dX9_back_72 : decode cX9_back 72 = .ok (.ireturn, 1) := by decide +kernel
theorem dX9_count_0 : decode cX9_count 0 = .ok (.iload_n 1, 1) := by decide +kernel
theorem dX9_count_1 : decode cX9_count 1 = .ok (.tableswitch 81 0 6 #[43, 48, 53, 58, 66, 71, 76], 43) := by decide +kernel
theorem dX9_count_44 : decode cX9_count 44 = .ok (.aload_n 0, 1) := by decide +kernel
theorem dX9_count_45 : decode cX9_count 45 = .ok (.getfield 103, 3) := by decide +kernel
theorem dX9_count_48 : decode cX9_count 48 = .ok (.ireturn, 1) := by decide +kernel
theorem dX9_count_49 : decode cX9_count 49 = .ok (.aload_n 0, 1) := by decide +kernel
theorem dX9_count_50 : decode cX9_count 50 = .ok (.getfield 125, 3) := by decide +kernel
theorem dX9_count_53 : decode cX9_count 53 = .ok (.ireturn, 1) := by decide +kernel
theorem dX9_count_54 : decode cX9_count 54 = .ok (.aload_n 0, 1) := by decide +kernel
theorem dX9_count_55 : decode cX9_count 55 = .ok (.getfield 89, 3) := by decide +kernel
theorem dX9_count_58 : decode cX9_count 58 = .ok (.ireturn, 1) := by decide +kernel
theorem dX9_count_59 : decode cX9_count 59 = .ok (.aload_n 0, 1) := by decide +kernel
theorem dX9_count_60 : decode cX9_count 60 = .ok (.getfield 30, 3) := by decide +kernel
theorem dX9_count_63 : decode cX9_count 63 = .ok (.getfield 192, 3) := by decide +kernel
theorem dX9_count_66 : decode cX9_count 66 = .ok (.ireturn, 1) := by decide +kernel
theorem dX9_count_67 : decode cX9_count 67 = .ok (.aload_n 0, 1) := by decide +kernel
theorem dX9_count_68 : decode cX9_count 68 = .ok (.getfield 195, 3) := by decide +kernel
theorem dX9_count_71 : decode cX9_count 71 = .ok (.ireturn, 1) := by decide +kernel
theorem dX9_count_72 : decode cX9_count 72 = .ok (.aload_n 0, 1) := by decide +kernel
theorem dX9_count_73 : decode cX9_count 73 = .ok (.invokevirtual 280, 3) := by decide +kernel
theorem dX9_count_76 : decode cX9_count 76 = .ok (.ireturn, 1) := by decide +kernel
theorem dX9_count_77 : decode cX9_count 77 = .ok (.aload_n 0, 1) := by decide +kernel
theorem dX9_count_78 : decode cX9_count 78 = .ok (.invokevirtual 283, 3) := by decide +kernel
theorem dX9_count_81 : decode cX9_count 81 = .ok (.ireturn, 1) := by decide +kernel
theorem dX9_count_82 : decode cX9_count 82 = .ok (.bipush (-2), 2) := by decide +kernel
theorem dX9_count_84 : decode cX9_count 84 = .ok (.ireturn, 1) := by decide +kernel
theorem dX9_sheet_0 : decode cX9_sheet 0 = .ok (.aload_n 0, 1) := by decide +kernel
theorem dX9_sheet_1 : decode cX9_sheet 1 = .ok (.iload_n 1, 1) := by decide +kernel
theorem dX9_sheet_2 : decode cX9_sheet 2 = .ok (.invokevirtual 286, 3) := by decide +kernel
theorem dX9_sheet_5 : decode cX9_sheet 5 = .ok (.astore 4, 2) := by decide +kernel
theorem dX9_sheet_7 : decode cX9_sheet 7 = .ok (.aload 4, 2) := by decide +kernel
theorem dX9_sheet_9 : decode cX9_sheet 9 = .ok (.ifnull 24, 3) := by decide +kernel
theorem dX9_sheet_12 : decode cX9_sheet 12 = .ok (.iload_n 2, 1) := by decide +kernel
theorem dX9_sheet_13 : decode cX9_sheet 13 = .ok (.iconst (-1), 1) := by decide +kernel
theorem dX9_sheet_14 : decode cX9_sheet 14 = .ok (.if_icmp .lt 19, 3) := by decide +kernel
theorem dX9_sheet_17 : decode cX9_sheet 17 = .ok (.iload_n 2, 1) := by decide +kernel
theorem dX9_sheet_18 : decode cX9_sheet 18 = .ok (.iconst 3, 1) := by decide +kernel
theorem dX9_sheet_19 : decode cX9_sheet 19 = .ok (.if_icmp .ge 14, 3) := by decide +kernel
theorem dX9_sheet_22 : decode cX9_sheet 22 = .ok (.iload_n 2, 1) := by decide +kernel
theorem dX9_sheet_23 : decode cX9_sheet 23 = .ok (.iconst (-1), 1) := by decide +kernel
theorem dX9_sheet_24 : decode cX9_sheet 24 = .ok (.if_icmp .eq 12, 3) := by decide +kernel
theorem dX9_sheet_27 : decode cX9_sheet 27 = .ok (.iload_n 3, 1) := by decide +kernel
theorem dX9_sheet_28 : decode cX9_sheet 28 = .ok (.bipush 40, 2) := by decide +kernel
theorem dX9_sheet_30 : decode cX9_sheet 30 = .ok (.if_icmp .le 6, 3) := by decide +kernel
theorem dX9_sheet_33 : decode cX9_sheet 33 = .ok (.bipush (-2), 2) := by decide +kernel
theorem dX9_sheet_35 : decode cX9_sheet 35 = .ok (.ireturn, 1) := by decide +kernel
theorem dX9_sheet_36 : decode cX9_sheet 36 = .ok (.iload_n 2, 1) := by decide +kernel
theorem dX9_sheet_37 : decode cX9_sheet 37 = .ok (.iconst (-1), 1) := by decide +kernel
theorem dX9_sheet_38 : decode cX9_sheet 38 = .ok (.if_icmp .eq 10, 3) := by decide +kernel
theorem dX9_sheet_41 : decode cX9_sheet 41 = .ok (.iload_n 3, 1) := by decide +kernel
theorem dX9_sheet_42 : decode cX9_sheet 42 = .ok (.ifCond .ge 6, 3) := by decide +kernel
theorem dX9_sheet_45 : decode cX9_sheet 45 = .ok (.bipush (-14), 2) := by decide +kernel
theorem dX9_sheet_47 : decode cX9_sheet 47 = .ok (.ireturn, 1) := by decide +kernel
theorem dX9_sheet_48 : decode cX9_sheet 48 = .ok (.aload 4, 2) := by decide +kernel
theorem dX9_sheet_50 : decode cX9_sheet 50 = .ok (.iload_n 2, 1) := by decide +kernel
theorem dX9_sheet_51 : decode cX9_sheet 51 = .ok (.iload_n 2, 1) := by decide +kernel
theorem dX9_sheet_52 : decode cX9_sheet 52 = .ok (.iconst (-1), 1) := by decide +kernel
theorem dX9_sheet_53 : decode cX9_sheet 53 = .ok (.if_icmp .ne 7, 3) := by decide +kernel
theorem dX9_sheet_56 : decode cX9_sheet 56 = .ok (.iconst 0, 1) := by decide +kernel
theorem dX9_sheet_57 : decode cX9_sheet 57 = .ok (.goto 4, 3) := by decide +kernel
theorem dX9_sheet_60 : decode cX9_sheet 60 = .ok (.iload_n 3, 1) := by decide +kernel
theorem dX9_sheet_61 : decode cX9_sheet 61 = .ok (.invokevirtual 290, 3) := by decide +kernel
theorem dX9_sheet_64 : decode cX9_sheet 64 = .ok (.iconst 1, 1) := by decide +kernel
theorem dX9_sheet_65 : decode cX9_sheet 65 = .ok (.ireturn, 1) := by decide +kernel
theorem dX9_cell_0 : decode cX9_cell 0 = .ok (.aload_n 0, 1) := by decide +kernel
theorem dX9_cell_1 : decode cX9_cell 1 = .ok (.iload_n 1, 1) := by decide +kernel
theorem dX9_cell_2 : decode cX9_cell 2 = .ok (.invokevirtual 286, 3) := by decide +kernel
theorem dX9_cell_5 : decode cX9_cell 5 = .ok (.astore 4, 2) := by decide +kernel
theorem dX9_cell_7 : decode cX9_cell 7 = .ok (.aload 4, 2) := by decide +kernel
theorem dX9_cell_9 : decode cX9_cell 9 = .ok (.ifnonnull 6, 3) := by decide +kernel
theorem dX9_cell_12 : decode cX9_cell 12 = .ok (.bipush (-2), 2) := by decide +kernel
theorem dX9_cell_14 : decode cX9_cell 14 = .ok (.ireturn, 1) := by decide +kernel
theorem dX9_cell_15 : decode cX9_cell 15 = .ok (.aload 4, 2) := by decide +kernel
theorem dX9_cell_17 : decode cX9_cell 17 = .ok (.getfield 294, 3) := by decide +kernel
theorem dX9_cell_20 : decode cX9_cell 20 = .ok (.iconst (-1), 1) := by decide +kernel
theorem dX9_cell_21 : decode cX9_cell 21 = .ok (.if_icmp .ne 6, 3) := by decide +kernel
theorem dX9_cell_24 : decode cX9_cell 24 = .ok (.bipush (-11), 2) := by decide +kernel
theorem dX9_cell_26 : decode cX9_cell 26 = .ok (.ireturn, 1) := by decide +kernel
theorem dX9_cell_27 : decode cX9_cell 27 = .ok (.iload_n 2, 1) := by decide +kernel
theorem dX9_cell_28 : decode cX9_cell 28 = .ok (.ifCond .lt 12, 3) := by decide +kernel
theorem dX9_cell_31 : decode cX9_cell 31 = .ok (.iload_n 2, 1) := by decide +kernel
theorem dX9_cell_32 : decode cX9_cell 32 = .ok (.aload 4, 2) := by decide +kernel
theorem dX9_cell_34 : decode cX9_cell 34 = .ok (.getfield 297, 3) := by decide +kernel
theorem dX9_cell_37 : decode cX9_cell 37 = .ok (.if_icmp .lt 6, 3) := by decide +kernel
theorem dX9_cell_40 : decode cX9_cell 40 = .ok (.bipush (-12), 2) := by decide +kernel
theorem dX9_cell_42 : decode cX9_cell 42 = .ok (.ireturn, 1) := by decide +kernel
theorem dX9_cell_43 : decode cX9_cell 43 = .ok (.aload 4, 2) := by decide +kernel
theorem dX9_cell_45 : decode cX9_cell 45 = .ok (.iload_n 2, 1) := by decide +kernel
theorem dX9_cell_46 : decode cX9_cell 46 = .ok (.iload_n 3, 1) := by decide +kernel
theorem dX9_cell_47 : decode cX9_cell 47 = .ok (.invokevirtual 298, 3) := by decide +kernel
theorem dX9_cell_50 : decode cX9_cell 50 = .ok (.iconst 1, 1) := by decide +kernel
theorem dX9_cell_51 : decode cX9_cell 51 = .ok (.ireturn, 1) := by decide +kernel
theorem dX9_copy_0 : decode cX9_copy 0 = .ok (.aload_n 0, 1) := by decide +kernel
theorem dX9_copy_1 : decode cX9_copy 1 = .ok (.iload_n 1, 1) := by decide +kernel
theorem dX9_copy_2 : decode cX9_copy 2 = .ok (.invokevirtual 286, 3) := by decide +kernel
theorem dX9_copy_5 : decode cX9_copy 5 = .ok (.astore 6, 2) := by decide +kernel
theorem dX9_copy_7 : decode cX9_copy 7 = .ok (.aload_n 0, 1) := by decide +kernel
theorem dX9_copy_8 : decode cX9_copy 8 = .ok (.iload_n 3, 1) := by decide +kernel
theorem dX9_copy_9 : decode cX9_copy 9 = .ok (.invokevirtual 286, 3) := by decide +kernel
theorem dX9_copy_12 : decode cX9_copy 12 = .ok (.astore 7, 2) := by decide +kernel
theorem dX9_copy_14 : decode cX9_copy 14 = .ok (.aload 6, 2) := by decide +kernel
theorem dX9_copy_16 : decode cX9_copy 16 = .ok (.ifnull 8, 3) := by decide +kernel
theorem dX9_copy_19 : decode cX9_copy 19 = .ok (.aload 7, 2) := by decide +kernel
theorem dX9_copy_21 : decode cX9_copy 21 = .ok (.ifnonnull 6, 3) := by decide +kernel
theorem dX9_copy_24 : decode cX9_copy 24 = .ok (.bipush (-2), 2) := by decide +kernel
theorem dX9_copy_26 : decode cX9_copy 26 = .ok (.ireturn, 1) := by decide +kernel
theorem dX9_copy_27 : decode cX9_copy 27 = .ok (.aload 6, 2) := by decide +kernel
theorem dX9_copy_29 : decode cX9_copy 29 = .ok (.getfield 294, 3) := by decide +kernel
theorem dX9_copy_32 : decode cX9_copy 32 = .ok (.iconst (-1), 1) := by decide +kernel
theorem dX9_copy_33 : decode cX9_copy 33 = .ok (.if_icmp .eq 12, 3) := by decide +kernel
theorem dX9_copy_36 : decode cX9_copy 36 = .ok (.aload 7, 2) := by decide +kernel
theorem dX9_copy_38 : decode cX9_copy 38 = .ok (.getfield 294, 3) := by decide +kernel
theorem dX9_copy_41 : decode cX9_copy 41 = .ok (.iconst (-1), 1) := by decide +kernel
theorem dX9_copy_42 : decode cX9_copy 42 = .ok (.if_icmp .ne 6, 3) := by decide +kernel
theorem dX9_copy_45 : decode cX9_copy 45 = .ok (.bipush (-11), 2) := by decide +kernel
theorem dX9_copy_47 : decode cX9_copy 47 = .ok (.ireturn, 1) := by decide +kernel
theorem dX9_copy_48 : decode cX9_copy 48 = .ok (.aload 6, 2) := by decide +kernel
theorem dX9_copy_50 : decode cX9_copy 50 = .ok (.getfield 294, 3) := by decide +kernel
theorem dX9_copy_53 : decode cX9_copy 53 = .ok (.aload 7, 2) := by decide +kernel
theorem dX9_copy_55 : decode cX9_copy 55 = .ok (.getfield 294, 3) := by decide +kernel
theorem dX9_copy_58 : decode cX9_copy 58 = .ok (.if_icmp .eq 6, 3) := by decide +kernel
theorem dX9_copy_61 : decode cX9_copy 61 = .ok (.bipush (-13), 2) := by decide +kernel
theorem dX9_copy_63 : decode cX9_copy 63 = .ok (.ireturn, 1) := by decide +kernel
theorem dX9_copy_64 : decode cX9_copy 64 = .ok (.aload 6, 2) := by decide +kernel
theorem dX9_copy_66 : decode cX9_copy 66 = .ok (.iload_n 2, 1) := by decide +kernel
theorem dX9_copy_67 : decode cX9_copy 67 = .ok (.iload 5, 2) := by decide +kernel
theorem dX9_copy_69 : decode cX9_copy 69 = .ok (.invokevirtual 300, 3) := by decide +kernel
theorem dX9_copy_72 : decode cX9_copy 72 = .ok (.ifCond .eq 15, 3) := by decide +kernel
theorem dX9_copy_75 : decode cX9_copy 75 = .ok (.aload 7, 2) := by decide +kernel
theorem dX9_copy_77 : decode cX9_copy 77 = .ok (.iload 4, 2) := by decide +kernel
theorem dX9_copy_79 : decode cX9_copy 79 = .ok (.iload 5, 2) := by decide +kernel
theorem dX9_copy_81 : decode cX9_copy 81 = .ok (.invokevirtual 300, 3) := by decide +kernel
theorem dX9_copy_84 : decode cX9_copy 84 = .ok (.ifCond .ne 6, 3) := by decide +kernel
theorem dX9_copy_87 : decode cX9_copy 87 = .ok (.bipush (-12), 2) := by decide +kernel
theorem dX9_copy_89 : decode cX9_copy 89 = .ok (.ireturn, 1) := by decide +kernel
theorem dX9_copy_90 : decode cX9_copy 90 = .ok (.aload 6, 2) := by decide +kernel
theorem dX9_copy_92 : decode cX9_copy 92 = .ok (.getfield 303, 3) := by decide +kernel
theorem dX9_copy_95 : decode cX9_copy 95 = .ok (.iload_n 2, 1) := by decide +kernel
theorem dX9_copy_96 : decode cX9_copy 96 = .ok (.aload 7, 2) := by decide +kernel
theorem dX9_copy_98 : decode cX9_copy 98 = .ok (.getfield 303, 3) := by decide +kernel
theorem dX9_copy_101 : decode cX9_copy 101 = .ok (.iload 4, 2) := by decide +kernel
theorem dX9_copy_103 : decode cX9_copy 103 = .ok (.iload 5, 2) := by decide +kernel
theorem dX9_copy_105 : decode cX9_copy 105 = .ok (.invokestatic 306, 3) := by decide +kernel
theorem dX9_copy_108 : decode cX9_copy 108 = .ok (.iload 5, 2) := by decide +kernel
theorem dX9_copy_110 : decode cX9_copy 110 = .ok (.ireturn, 1) := by decide +kernel
theorem dX9_sales_0 : decode cX9_sales 0 = .ok (.aload_n 0, 1) := by decide +kernel
theorem dX9_sales_1 : decode cX9_sales 1 = .ok (.iload_n 1, 1) := by decide +kernel
theorem dX9_sales_2 : decode cX9_sales 2 = .ok (.invokevirtual 286, 3) := by decide +kernel
theorem dX9_sales_5 : decode cX9_sales 5 = .ok (.astore 5, 2) := by decide +kernel
theorem dX9_sales_7 : decode cX9_sales 7 = .ok (.aload 5, 2) := by decide +kernel
theorem dX9_sales_9 : decode cX9_sales 9 = .ok (.ifnull 24, 3) := by decide +kernel
theorem dX9_sales_12 : decode cX9_sales 12 = .ok (.iload_n 2, 1) := by decide +kernel
theorem dX9_sales_13 : decode cX9_sales 13 = .ok (.ifCond .lt 20, 3) := by decide +kernel
theorem dX9_sales_16 : decode cX9_sales 16 = .ok (.iload_n 2, 1) := by decide +kernel
theorem dX9_sales_17 : decode cX9_sales 17 = .ok (.iconst 3, 1) := by decide +kernel
theorem dX9_sales_18 : decode cX9_sales 18 = .ok (.if_icmp .ge 15, 3) := by decide +kernel
theorem dX9_sales_21 : decode cX9_sales 21 = .ok (.iload 4, 2) := by decide +kernel
theorem dX9_sales_23 : decode cX9_sales 23 = .ok (.ifCond .lt 10, 3) := by decide +kernel
theorem dX9_sales_26 : decode cX9_sales 26 = .ok (.iload 4, 2) := by decide +kernel
theorem dX9_sales_28 : decode cX9_sales 28 = .ok (.bipush 8, 2) := by decide +kernel
theorem dX9_sales_30 : decode cX9_sales 30 = .ok (.if_icmp .le 6, 3) := by decide +kernel
theorem dX9_sales_33 : decode cX9_sales 33 = .ok (.bipush (-2), 2) := by decide +kernel
theorem dX9_sales_35 : decode cX9_sales 35 = .ok (.ireturn, 1) := by decide +kernel
theorem dX9_sales_36 : decode cX9_sales 36 = .ok (.aload 5, 2) := by decide +kernel
theorem dX9_sales_38 : decode cX9_sales 38 = .ok (.getfield 294, 3) := by decide +kernel
theorem dX9_sales_41 : decode cX9_sales 41 = .ok (.iconst (-1), 1) := by decide +kernel
theorem dX9_sales_42 : decode cX9_sales 42 = .ok (.if_icmp .ne 6, 3) := by decide +kernel
theorem dX9_sales_45 : decode cX9_sales 45 = .ok (.bipush (-11), 2) := by decide +kernel
theorem dX9_sales_47 : decode cX9_sales 47 = .ok (.ireturn, 1) := by decide +kernel
theorem dX9_sales_48 : decode cX9_sales 48 = .ok (.aload 5, 2) := by decide +kernel
theorem dX9_sales_50 : decode cX9_sales 50 = .ok (.getfield 294, 3) := by decide +kernel
theorem dX9_sales_53 : decode cX9_sales 53 = .ok (.iload_n 2, 1) := by decide +kernel
theorem dX9_sales_54 : decode cX9_sales 54 = .ok (.if_icmp .eq 6, 3) := by decide +kernel
theorem dX9_sales_57 : decode cX9_sales 57 = .ok (.bipush (-13), 2) := by decide +kernel
theorem dX9_sales_59 : decode cX9_sales 59 = .ok (.ireturn, 1) := by decide +kernel
theorem dX9_sales_60 : decode cX9_sales 60 = .ok (.iconst 0, 1) := by decide +kernel
theorem dX9_sales_61 : decode cX9_sales 61 = .ok (.istore 6, 2) := by decide +kernel
theorem dX9_sales_63 : decode cX9_sales 63 = .ok (.iload_n 3, 1) := by decide +kernel
theorem dX9_sales_64 : decode cX9_sales 64 = .ok (.istore 7, 2) := by decide +kernel
theorem dX9_sales_66 : decode cX9_sales 66 = .ok (.iconst 0, 1) := by decide +kernel
theorem dX9_sales_67 : decode cX9_sales 67 = .ok (.istore 8, 2) := by decide +kernel
theorem dX9_sales_69 : decode cX9_sales 69 = .ok (.iload 8, 2) := by decide +kernel
theorem dX9_sales_71 : decode cX9_sales 71 = .ok (.iload 4, 2) := by decide +kernel
theorem dX9_sales_73 : decode cX9_sales 73 = .ok (.if_icmp .ge 76, 3) := by decide +kernel
theorem dX9_sales_76 : decode cX9_sales 76 = .ok (.aload 5, 2) := by decide +kernel
theorem dX9_sales_78 : decode cX9_sales 78 = .ok (.iload 7, 2) := by decide +kernel
theorem dX9_sales_80 : decode cX9_sales 80 = .ok (.iconst 5, 1) := by decide +kernel
theorem dX9_sales_81 : decode cX9_sales 81 = .ok (.invokevirtual 300, 3) := by decide +kernel
theorem dX9_sales_84 : decode cX9_sales 84 = .ok (.ifCond .ne 6, 3) := by decide +kernel
theorem dX9_sales_87 : decode cX9_sales 87 = .ok (.bipush (-12), 2) := by decide +kernel
theorem dX9_sales_89 : decode cX9_sales 89 = .ok (.ireturn, 1) := by decide +kernel
theorem dX9_sales_90 : decode cX9_sales 90 = .ok (.aload 5, 2) := by decide +kernel
theorem dX9_sales_92 : decode cX9_sales 92 = .ok (.getfield 303, 3) := by decide +kernel
theorem dX9_sales_95 : decode cX9_sales 95 = .ok (.astore 9, 2) := by decide +kernel
theorem dX9_sales_97 : decode cX9_sales 97 = .ok (.aload_n 0, 1) := by decide +kernel
theorem dX9_sales_98 : decode cX9_sales 98 = .ok (.aload 9, 2) := by decide +kernel
theorem dX9_sales_100 : decode cX9_sales 100 = .ok (.iload 7, 2) := by decide +kernel
theorem dX9_sales_102 : decode cX9_sales 102 = .ok (.iaload, 1) := by decide +kernel
theorem dX9_sales_103 : decode cX9_sales 103 = .ok (.aload 9, 2) := by decide +kernel
theorem dX9_sales_105 : decode cX9_sales 105 = .ok (.iload 7, 2) := by decide +kernel
theorem dX9_sales_107 : decode cX9_sales 107 = .ok (.iconst 1, 1) := by decide +kernel
theorem dX9_sales_108 : decode cX9_sales 108 = .ok (.iadd, 1) := by decide +kernel
theorem dX9_sales_109 : decode cX9_sales 109 = .ok (.iaload, 1) := by decide +kernel
theorem dX9_sales_110 : decode cX9_sales 110 = .ok (.aload 9, 2) := by decide +kernel
theorem dX9_sales_112 : decode cX9_sales 112 = .ok (.iload 7, 2) := by decide +kernel
theorem dX9_sales_114 : decode cX9_sales 114 = .ok (.iconst 2, 1) := by decide +kernel
theorem dX9_sales_115 : decode cX9_sales 115 = .ok (.iadd, 1) := by decide +kernel
theorem dX9_sales_116 : decode cX9_sales 116 = .ok (.iaload, 1) := by decide +kernel
theorem dX9_sales_117 : decode cX9_sales 117 = .ok (.aload 9, 2) := by decide +kernel
theorem dX9_sales_119 : decode cX9_sales 119 = .ok (.iload 7, 2) := by decide +kernel
theorem dX9_sales_121 : decode cX9_sales 121 = .ok (.iconst 3, 1) := by decide +kernel
theorem dX9_sales_122 : decode cX9_sales 122 = .ok (.iadd, 1) := by decide +kernel
theorem dX9_sales_123 : decode cX9_sales 123 = .ok (.iaload, 1) := by decide +kernel
theorem dX9_sales_124 : decode cX9_sales 124 = .ok (.aload 9, 2) := by decide +kernel
theorem dX9_sales_126 : decode cX9_sales 126 = .ok (.iload 7, 2) := by decide +kernel
theorem dX9_sales_128 : decode cX9_sales 128 = .ok (.iconst 4, 1) := by decide +kernel
theorem dX9_sales_129 : decode cX9_sales 129 = .ok (.iadd, 1) := by decide +kernel
theorem dX9_sales_130 : decode cX9_sales 130 = .ok (.iaload, 1) := by decide +kernel
theorem dX9_sales_131 : decode cX9_sales 131 = .ok (.invokevirtual 312, 3) := by decide +kernel
theorem dX9_sales_134 : decode cX9_sales 134 = .ok (.ifCond .lt 6, 3) := by decide +kernel
theorem dX9_sales_137 : decode cX9_sales 137 = .ok (.iinc 6 1, 3) := by decide +kernel
theorem dX9_sales_140 : decode cX9_sales 140 = .ok (.iinc 7 5, 3) := by decide +kernel
theorem dX9_sales_143 : decode cX9_sales 143 = .ok (.iinc 8 1, 3) := by decide +kernel
theorem dX9_sales_146 : decode cX9_sales 146 = .ok (.goto (-77), 3) := by decide +kernel
theorem dX9_sales_149 : decode cX9_sales 149 = .ok (.iload 6, 2) := by decide +kernel
theorem dX9_sales_151 : decode cX9_sales 151 = .ok (.ireturn, 1) := by decide +kernel
theorem dX9_taken_0 : decode cX9_taken 0 = .ok (.iload_n 2, 1) := by decide +kernel
theorem dX9_taken_1 : decode cX9_taken 1 = .ok (.invokestatic 119, 3) := by decide +kernel
theorem dX9_taken_4 : decode cX9_taken 4 = .ok (.ifCond .ne 6, 3) := by decide +kernel
theorem dX9_taken_7 : decode cX9_taken 7 = .ok (.bipush (-2), 2) := by decide +kernel
theorem dX9_taken_9 : decode cX9_taken 9 = .ok (.ireturn, 1) := by decide +kernel
theorem dX9_taken_10 : decode cX9_taken 10 = .ok (.aload_n 0, 1) := by decide +kernel
theorem dX9_taken_11 : decode cX9_taken 11 = .ok (.iload_n 1, 1) := by decide +kernel
theorem dX9_taken_12 : decode cX9_taken 12 = .ok (.invokevirtual 131, 3) := by decide +kernel
theorem dX9_taken_15 : decode cX9_taken 15 = .ok (.astore_n 3, 1) := by decide +kernel
theorem dX9_taken_16 : decode cX9_taken 16 = .ok (.aload_n 3, 1) := by decide +kernel
theorem dX9_taken_17 : decode cX9_taken 17 = .ok (.ifnonnull 6, 3) := by decide +kernel
theorem dX9_taken_20 : decode cX9_taken 20 = .ok (.bipush (-11), 2) := by decide +kernel
theorem dX9_taken_22 : decode cX9_taken 22 = .ok (.ireturn, 1) := by decide +kernel
theorem dX9_taken_23 : decode cX9_taken 23 = .ok (.aload_n 3, 1) := by decide +kernel
theorem dX9_taken_24 : decode cX9_taken 24 = .ok (.getfield 237, 3) := by decide +kernel
theorem dX9_taken_27 : decode cX9_taken 27 = .ok (.iload_n 2, 1) := by decide +kernel
theorem dX9_taken_28 : decode cX9_taken 28 = .ok (.invokestatic 240, 3) := by decide +kernel
theorem dX9_taken_31 : decode cX9_taken 31 = .ok (.ifCond .eq 10, 3) := by decide +kernel
theorem dX9_taken_34 : decode cX9_taken 34 = .ok (.aload_n 3, 1) := by decide +kernel
theorem dX9_taken_35 : decode cX9_taken 35 = .ok (.getfield 316, 3) := by decide +kernel
theorem dX9_taken_38 : decode cX9_taken 38 = .ok (.goto 5, 3) := by decide +kernel
theorem dX9_taken_41 : decode cX9_taken 41 = .ok (.bipush (-13), 2) := by decide +kernel
theorem dX9_taken_43 : decode cX9_taken 43 = .ok (.ireturn, 1) := by decide +kernel
theorem dX9_isHand_0 : decode cX9_isHand 0 = .ok (.iload_n 0, 1) := by decide +kernel
theorem dX9_isHand_1 : decode cX9_isHand 1 = .ok (.ifCond .lt 13, 3) := by decide +kernel
theorem dX9_isHand_4 : decode cX9_isHand 4 = .ok (.iload_n 0, 1) := by decide +kernel
theorem dX9_isHand_5 : decode cX9_isHand 5 = .ok (.bipush 10, 2) := by decide +kernel
theorem dX9_isHand_7 : decode cX9_isHand 7 = .ok (.if_icmp .ge 7, 3) := by decide +kernel
theorem dX9_isHand_10 : decode cX9_isHand 10 = .ok (.iconst 1, 1) := by decide +kernel
theorem dX9_isHand_11 : decode cX9_isHand 11 = .ok (.goto 4, 3) := by decide +kernel
theorem dX9_isHand_14 : decode cX9_isHand 14 = .ok (.iconst 0, 1) := by decide +kernel
theorem dX9_isHand_15 : decode cX9_isHand 15 = .ok (.ireturn, 1) := by decide +kernel
theorem dX9_isHour_0 : decode cX9_isHour 0 = .ok (.iload_n 0, 1) := by decide +kernel
theorem dX9_isHour_1 : decode cX9_isHour 1 = .ok (.ifCond .lt 14, 3) := by decide +kernel
theorem dX9_isHour_4 : decode cX9_isHour 4 = .ok (.iload_n 0, 1) := by decide +kernel
theorem dX9_isHour_5 : decode cX9_isHour 5 = .ok (.sipush 999, 3) := by decide +kernel
theorem dX9_isHour_8 : decode cX9_isHour 8 = .ok (.if_icmp .gt 7, 3) := by decide +kernel
theorem dX9_isHour_11 : decode cX9_isHour 11 = .ok (.iconst 1, 1) := by decide +kernel
theorem dX9_isHour_12 : decode cX9_isHour 12 = .ok (.goto 4, 3) := by decide +kernel
theorem dX9_isHour_15 : decode cX9_isHour 15 = .ok (.iconst 0, 1) := by decide +kernel
theorem dX9_isHour_16 : decode cX9_isHour 16 = .ok (.ireturn, 1) := by decide +kernel
theorem dX9_isHourOrNone_0 : decode cX9_isHourOrNone 0 = .ok (.iload_n 0, 1) := by decide +kernel
theorem dX9_isHourOrNone_1 : decode cX9_isHourOrNone 1 = .ok (.iconst (-1), 1) := by decide +kernel
theorem dX9_isHourOrNone_2 : decode cX9_isHourOrNone 2 = .ok (.if_icmp .eq 10, 3) := by decide +kernel
theorem dX9_isHourOrNone_5 : decode cX9_isHourOrNone 5 = .ok (.iload_n 0, 1) := by decide +kernel
theorem dX9_isHourOrNone_6 : decode cX9_isHourOrNone 6 = .ok (.invokestatic 122, 3) := by decide +kernel
theorem dX9_isHourOrNone_9 : decode cX9_isHourOrNone 9 = .ok (.ifCond .eq 7, 3) := by decide +kernel
theorem dX9_isHourOrNone_12 : decode cX9_isHourOrNone 12 = .ok (.iconst 1, 1) := by decide +kernel
theorem dX9_isHourOrNone_13 : decode cX9_isHourOrNone 13 = .ok (.goto 4, 3) := by decide +kernel
theorem dX9_isHourOrNone_16 : decode cX9_isHourOrNone 16 = .ok (.iconst 0, 1) := by decide +kernel
theorem dX9_isHourOrNone_17 : decode cX9_isHourOrNone 17 = .ok (.ireturn, 1) := by decide +kernel
theorem dX9_isAmount_0 : decode cX9_isAmount 0 = .ok (.iload_n 0, 1) := by decide +kernel
theorem dX9_isAmount_1 : decode cX9_isAmount 1 = .ok (.iconst 1, 1) := by decide +kernel
theorem dX9_isAmount_2 : decode cX9_isAmount 2 = .ok (.if_icmp .lt 14, 3) := by decide +kernel
theorem dX9_isAmount_5 : decode cX9_isAmount 5 = .ok (.iload_n 0, 1) := by decide +kernel
theorem dX9_isAmount_6 : decode cX9_isAmount 6 = .ok (.sipush 999, 3) := by decide +kernel
theorem dX9_isAmount_9 : decode cX9_isAmount 9 = .ok (.if_icmp .gt 7, 3) := by decide +kernel
theorem dX9_isAmount_12 : decode cX9_isAmount 12 = .ok (.iconst 1, 1) := by decide +kernel
theorem dX9_isAmount_13 : decode cX9_isAmount 13 = .ok (.goto 4, 3) := by decide +kernel
theorem dX9_isAmount_16 : decode cX9_isAmount 16 = .ok (.iconst 0, 1) := by decide +kernel
theorem dX9_isAmount_17 : decode cX9_isAmount 17 = .ok (.ireturn, 1) := by decide +kernel
theorem dX9_isCoin_0 : decode cX9_isCoin 0 = .ok (.iload_n 0, 1) := by decide +kernel
theorem dX9_isCoin_1 : decode cX9_isCoin 1 = .ok (.ifCond .lt 13, 3) := by decide +kernel
theorem dX9_isCoin_4 : decode cX9_isCoin 4 = .ok (.iload_n 0, 1) := by decide +kernel
theorem dX9_isCoin_5 : decode cX9_isCoin 5 = .ok (.ldc 141, 2) := by decide +kernel
theorem dX9_isCoin_7 : decode cX9_isCoin 7 = .ok (.if_icmp .gt 7, 3) := by decide +kernel
theorem dX9_isCoin_10 : decode cX9_isCoin 10 = .ok (.iconst 1, 1) := by decide +kernel
theorem dX9_isCoin_11 : decode cX9_isCoin 11 = .ok (.goto 4, 3) := by decide +kernel
theorem dX9_isCoin_14 : decode cX9_isCoin 14 = .ok (.iconst 0, 1) := by decide +kernel
theorem dX9_isCoin_15 : decode cX9_isCoin 15 = .ok (.ireturn, 1) := by decide +kernel
theorem dX9_isKind_0 : decode cX9_isKind 0 = .ok (.iload_n 0, 1) := by decide +kernel
theorem dX9_isKind_1 : decode cX9_isKind 1 = .ok (.ifCond .lt 13, 3) := by decide +kernel
theorem dX9_isKind_4 : decode cX9_isKind 4 = .ok (.iload_n 0, 1) := by decide +kernel
theorem dX9_isKind_5 : decode cX9_isKind 5 = .ok (.bipush 6, 2) := by decide +kernel
theorem dX9_isKind_7 : decode cX9_isKind 7 = .ok (.if_icmp .ge 7, 3) := by decide +kernel
theorem dX9_isKind_10 : decode cX9_isKind 10 = .ok (.iconst 1, 1) := by decide +kernel
theorem dX9_isKind_11 : decode cX9_isKind 11 = .ok (.goto 4, 3) := by decide +kernel
theorem dX9_isKind_14 : decode cX9_isKind 14 = .ok (.iconst 0, 1) := by decide +kernel
theorem dX9_isKind_15 : decode cX9_isKind 15 = .ok (.ireturn, 1) := by decide +kernel
theorem dX9_isUnder_0 : decode cX9_isUnder 0 = .ok (.iload_n 0, 1) := by decide +kernel
theorem dX9_isUnder_1 : decode cX9_isUnder 1 = .ok (.istore_n 2, 1) := by decide +kernel
theorem dX9_isUnder_2 : decode cX9_isUnder 2 = .ok (.iconst 0, 1) := by decide +kernel
theorem dX9_isUnder_3 : decode cX9_isUnder 3 = .ok (.istore_n 3, 1) := by decide +kernel
theorem dX9_isUnder_4 : decode cX9_isUnder 4 = .ok (.iload_n 3, 1) := by decide +kernel
theorem dX9_isUnder_5 : decode cX9_isUnder 5 = .ok (.bipush 6, 2) := by decide +kernel
theorem dX9_isUnder_7 : decode cX9_isUnder 7 = .ok (.if_icmp .ge 29, 3) := by decide +kernel
theorem dX9_isUnder_10 : decode cX9_isUnder 10 = .ok (.iload_n 2, 1) := by decide +kernel
theorem dX9_isUnder_11 : decode cX9_isUnder 11 = .ok (.invokestatic 119, 3) := by decide +kernel
theorem dX9_isUnder_14 : decode cX9_isUnder 14 = .ok (.ifCond .eq 22, 3) := by decide +kernel
theorem dX9_isUnder_17 : decode cX9_isUnder 17 = .ok (.iload_n 2, 1) := by decide +kernel
theorem dX9_isUnder_18 : decode cX9_isUnder 18 = .ok (.iload_n 1, 1) := by decide +kernel
theorem dX9_isUnder_19 : decode cX9_isUnder 19 = .ok (.if_icmp .ne 5, 3) := by decide +kernel
theorem dX9_isUnder_22 : decode cX9_isUnder 22 = .ok (.iconst 1, 1) := by decide +kernel
theorem dX9_isUnder_23 : decode cX9_isUnder 23 = .ok (.ireturn, 1) := by decide +kernel
theorem dX9_isUnder_24 : decode cX9_isUnder 24 = .ok (.getstatic 319, 3) := by decide +kernel
theorem dX9_isUnder_27 : decode cX9_isUnder 27 = .ok (.iload_n 2, 1) := by decide +kernel
theorem dX9_isUnder_28 : decode cX9_isUnder 28 = .ok (.iaload, 1) := by decide +kernel
theorem dX9_isUnder_29 : decode cX9_isUnder 29 = .ok (.istore_n 2, 1) := by decide +kernel
theorem dX9_isUnder_30 : decode cX9_isUnder 30 = .ok (.iinc 3 1, 3) := by decide +kernel
theorem dX9_isUnder_33 : decode cX9_isUnder 33 = .ok (.goto (-29), 3) := by decide +kernel
theorem dX9_isUnder_36 : decode cX9_isUnder 36 = .ok (.iconst 0, 1) := by decide +kernel
theorem dX9_isUnder_37 : decode cX9_isUnder 37 = .ok (.ireturn, 1) := by decide +kernel
theorem dX9_upperOf_0 : decode cX9_upperOf 0 = .ok (.iload_n 0, 1) := by decide +kernel
theorem dX9_upperOf_1 : decode cX9_upperOf 1 = .ok (.ifCond .ge 7, 3) := by decide +kernel
theorem dX9_upperOf_4 : decode cX9_upperOf 4 = .ok (.iconst (-1), 1) := by decide +kernel
theorem dX9_upperOf_5 : decode cX9_upperOf 5 = .ok (.goto 8, 3) := by decide +kernel
theorem dX9_upperOf_8 : decode cX9_upperOf 8 = .ok (.iload_n 0, 1) := by decide +kernel
theorem dX9_upperOf_9 : decode cX9_upperOf 9 = .ok (.sipush 1000, 3) := by decide +kernel
theorem dX9_upperOf_12 : decode cX9_upperOf 12 = .ok (.idiv, 1) := by decide +kernel
theorem dX9_upperOf_13 : decode cX9_upperOf 13 = .ok (.ireturn, 1) := by decide +kernel
theorem dX9_lowerOf_0 : decode cX9_lowerOf 0 = .ok (.iload_n 0, 1) := by decide +kernel
theorem dX9_lowerOf_1 : decode cX9_lowerOf 1 = .ok (.ifCond .ge 7, 3) := by decide +kernel
theorem dX9_lowerOf_4 : decode cX9_lowerOf 4 = .ok (.iconst (-1), 1) := by decide +kernel
theorem dX9_lowerOf_5 : decode cX9_lowerOf 5 = .ok (.goto 8, 3) := by decide +kernel
theorem dX9_lowerOf_8 : decode cX9_lowerOf 8 = .ok (.iload_n 0, 1) := by decide +kernel
theorem dX9_lowerOf_9 : decode cX9_lowerOf 9 = .ok (.sipush 1000, 3) := by decide +kernel
theorem dX9_lowerOf_12 : decode cX9_lowerOf 12 = .ok (.irem, 1) := by decide +kernel
theorem dX9_lowerOf_13 : decode cX9_lowerOf 13 = .ok (.ireturn, 1) := by decide +kernel
theorem dX9_cargoAt_0 : decode cX9_cargoAt 0 = .ok (.iload_n 1, 1) := by decide +kernel
theorem dX9_cargoAt_1 : decode cX9_cargoAt 1 = .ok (.ifCond .lt 20, 3) := by decide +kernel
theorem dX9_cargoAt_4 : decode cX9_cargoAt 4 = .ok (.iload_n 1, 1) := by decide +kernel
theorem dX9_cargoAt_5 : decode cX9_cargoAt 5 = .ok (.aload_n 0, 1) := by decide +kernel
theorem dX9_cargoAt_6 : decode cX9_cargoAt 6 = .ok (.getfield 103, 3) := by decide +kernel
theorem dX9_cargoAt_9 : decode cX9_cargoAt 9 = .ok (.if_icmp .ge 12, 3) := by decide +kernel
theorem dX9_cargoAt_12 : decode cX9_cargoAt 12 = .ok (.aload_n 0, 1) := by decide +kernel
theorem dX9_cargoAt_13 : decode cX9_cargoAt 13 = .ok (.getfield 11, 3) := by decide +kernel
theorem dX9_cargoAt_16 : decode cX9_cargoAt 16 = .ok (.iload_n 1, 1) := by decide +kernel
theorem dX9_cargoAt_17 : decode cX9_cargoAt 17 = .ok (.aaload, 1) := by decide +kernel
theorem dX9_cargoAt_18 : decode cX9_cargoAt 18 = .ok (.goto 4, 3) := by decide +kernel
theorem dX9_cargoAt_21 : decode cX9_cargoAt 21 = .ok (.aconst_null, 1) := by decide +kernel
theorem dX9_cargoAt_22 : decode cX9_cargoAt 22 = .ok (.areturn, 1) := by decide +kernel
theorem dX9_saleAt_0 : decode cX9_saleAt 0 = .ok (.iload_n 1, 1) := by decide +kernel
theorem dX9_saleAt_1 : decode cX9_saleAt 1 = .ok (.ifCond .lt 20, 3) := by decide +kernel
theorem dX9_saleAt_4 : decode cX9_saleAt 4 = .ok (.iload_n 1, 1) := by decide +kernel
theorem dX9_saleAt_5 : decode cX9_saleAt 5 = .ok (.aload_n 0, 1) := by decide +kernel
theorem dX9_saleAt_6 : decode cX9_saleAt 6 = .ok (.getfield 125, 3) := by decide +kernel
theorem dX9_saleAt_9 : decode cX9_saleAt 9 = .ok (.if_icmp .ge 12, 3) := by decide +kernel
theorem dX9_saleAt_12 : decode cX9_saleAt 12 = .ok (.aload_n 0, 1) := by decide +kernel
theorem dX9_saleAt_13 : decode cX9_saleAt 13 = .ok (.getfield 17, 3) := by decide +kernel
theorem dX9_saleAt_16 : decode cX9_saleAt 16 = .ok (.iload_n 1, 1) := by decide +kernel
theorem dX9_saleAt_17 : decode cX9_saleAt 17 = .ok (.aaload, 1) := by decide +kernel
theorem dX9_saleAt_18 : decode cX9_saleAt 18 = .ok (.goto 4, 3) := by decide +kernel
theorem dX9_saleAt_21 : decode cX9_saleAt 21 = .ok (.aconst_null, 1) := by decide +kernel
theorem dX9_saleAt_22 : decode cX9_saleAt 22 = .ok (.areturn, 1) := by decide +kernel
theorem dX9_sheetAt_0 : decode cX9_sheetAt 0 = .ok (.iload_n 1, 1) := by decide +kernel
theorem dX9_sheetAt_1 : decode cX9_sheetAt 1 = .ok (.ifCond .lt 17, 3) := by decide +kernel
theorem dX9_sheetAt_4 : decode cX9_sheetAt 4 = .ok (.iload_n 1, 1) := by decide +kernel
theorem dX9_sheetAt_5 : decode cX9_sheetAt 5 = .ok (.iconst 4, 1) := by decide +kernel
theorem dX9_sheetAt_6 : decode cX9_sheetAt 6 = .ok (.if_icmp .ge 12, 3) := by decide +kernel
theorem dX9_sheetAt_9 : decode cX9_sheetAt 9 = .ok (.aload_n 0, 1) := by decide +kernel
theorem dX9_sheetAt_10 : decode cX9_sheetAt 10 = .ok (.getfield 57, 3) := by decide +kernel
theorem dX9_sheetAt_13 : decode cX9_sheetAt 13 = .ok (.iload_n 1, 1) := by decide +kernel
theorem dX9_sheetAt_14 : decode cX9_sheetAt 14 = .ok (.aaload, 1) := by decide +kernel
theorem dX9_sheetAt_15 : decode cX9_sheetAt 15 = .ok (.goto 4, 3) := by decide +kernel
theorem dX9_sheetAt_18 : decode cX9_sheetAt 18 = .ok (.aconst_null, 1) := by decide +kernel
theorem dX9_sheetAt_19 : decode cX9_sheetAt 19 = .ok (.areturn, 1) := by decide +kernel
theorem dX9_areOfOneCargo_0 : decode cX9_areOfOneCargo 0 = .ok (.iload_n 1, 1) := by decide +kernel
theorem dX9_areOfOneCargo_1 : decode cX9_areOfOneCargo 1 = .ok (.ifCond .eq 12, 3) := by decide +kernel
theorem dX9_areOfOneCargo_4 : decode cX9_areOfOneCargo 4 = .ok (.iload_n 1, 1) := by decide +kernel
theorem dX9_areOfOneCargo_5 : decode cX9_areOfOneCargo 5 = .ok (.aload_n 0, 1) := by decide +kernel
theorem dX9_areOfOneCargo_6 : decode cX9_areOfOneCargo 6 = .ok (.getfield 125, 3) := by decide +kernel
theorem dX9_areOfOneCargo_9 : decode cX9_areOfOneCargo 9 = .ok (.iushr, 1) := by decide +kernel
theorem dX9_areOfOneCargo_10 : decode cX9_areOfOneCargo 10 = .ok (.ifCond .eq 5, 3) := by decide +kernel
theorem dX9_areOfOneCargo_13 : decode cX9_areOfOneCargo 13 = .ok (.iconst 0, 1) := by decide +kernel
theorem dX9_areOfOneCargo_14 : decode cX9_areOfOneCargo 14 = .ok (.ireturn, 1) := by decide +kernel
theorem dX9_areOfOneCargo_15 : decode cX9_areOfOneCargo 15 = .ok (.aconst_null, 1) := by decide +kernel
theorem dX9_areOfOneCargo_16 : decode cX9_areOfOneCargo 16 = .ok (.astore_n 2, 1) := by decide +kernel
theorem dX9_areOfOneCargo_17 : decode cX9_areOfOneCargo 17 = .ok (.iconst 0, 1) := by decide +kernel
theorem dX9_areOfOneCargo_18 : decode cX9_areOfOneCargo 18 = .ok (.istore_n 3, 1) := by decide +kernel
theorem dX9_areOfOneCargo_19 : decode cX9_areOfOneCargo 19 = .ok (.iload_n 3, 1) := by decide +kernel
theorem dX9_areOfOneCargo_20 : decode cX9_areOfOneCargo 20 = .ok (.aload_n 0, 1) := by decide +kernel
theorem dX9_areOfOneCargo_21 : decode cX9_areOfOneCargo 21 = .ok (.getfield 125, 3) := by decide +kernel
theorem dX9_areOfOneCargo_24 : decode cX9_areOfOneCargo 24 = .ok (.if_icmp .ge 49, 3) := by decide +kernel
theorem dX9_areOfOneCargo_27 : decode cX9_areOfOneCargo 27 = .ok (.iload_n 1, 1) := by decide +kernel
theorem dX9_areOfOneCargo_28 : decode cX9_areOfOneCargo 28 = .ok (.iload_n 3, 1) := by decide +kernel
theorem dX9_areOfOneCargo_29 : decode cX9_areOfOneCargo 29 = .ok (.iushr, 1) := by decide +kernel
theorem dX9_areOfOneCargo_30 : decode cX9_areOfOneCargo 30 = .ok (.iconst 1, 1) := by decide +kernel
theorem dX9_areOfOneCargo_31 : decode cX9_areOfOneCargo 31 = .ok (.iand, 1) := by decide +kernel
theorem dX9_areOfOneCargo_32 : decode cX9_areOfOneCargo 32 = .ok (.ifCond .ne 6, 3) := by decide +kernel
theorem dX9_areOfOneCargo_35 : decode cX9_areOfOneCargo 35 = .ok (.goto 32, 3) := by decide +kernel
theorem dX9_areOfOneCargo_38 : decode cX9_areOfOneCargo 38 = .ok (.aload_n 2, 1) := by decide +kernel
theorem dX9_areOfOneCargo_39 : decode cX9_areOfOneCargo 39 = .ok (.ifnull 18, 3) := by decide +kernel
theorem dX9_areOfOneCargo_42 : decode cX9_areOfOneCargo 42 = .ok (.aload_n 0, 1) := by decide +kernel
theorem dX9_areOfOneCargo_43 : decode cX9_areOfOneCargo 43 = .ok (.getfield 17, 3) := by decide +kernel
theorem dX9_areOfOneCargo_46 : decode cX9_areOfOneCargo 46 = .ok (.iload_n 3, 1) := by decide +kernel
theorem dX9_areOfOneCargo_47 : decode cX9_areOfOneCargo 47 = .ok (.aaload, 1) := by decide +kernel
theorem dX9_areOfOneCargo_48 : decode cX9_areOfOneCargo 48 = .ok (.getfield 252, 3) := by decide +kernel
theorem dX9_areOfOneCargo_51 : decode cX9_areOfOneCargo 51 = .ok (.aload_n 2, 1) := by decide +kernel
theorem dX9_areOfOneCargo_52 : decode cX9_areOfOneCargo 52 = .ok (.if_acmp .eq 5, 3) := by decide +kernel
theorem dX9_areOfOneCargo_55 : decode cX9_areOfOneCargo 55 = .ok (.iconst 0, 1) := by decide +kernel
theorem dX9_areOfOneCargo_56 : decode cX9_areOfOneCargo 56 = .ok (.ireturn, 1) := by decide +kernel
theorem dX9_areOfOneCargo_57 : decode cX9_areOfOneCargo 57 = .ok (.aload_n 0, 1) := by decide +kernel
theorem dX9_areOfOneCargo_58 : decode cX9_areOfOneCargo 58 = .ok (.getfield 17, 3) := by decide +kernel
theorem dX9_areOfOneCargo_61 : decode cX9_areOfOneCargo 61 = .ok (.iload_n 3, 1) := by decide +kernel
theorem dX9_areOfOneCargo_62 : decode cX9_areOfOneCargo 62 = .ok (.aaload, 1) := by decide +kernel
theorem dX9_areOfOneCargo_63 : decode cX9_areOfOneCargo 63 = .ok (.getfield 252, 3) := by decide +kernel
theorem dX9_areOfOneCargo_66 : decode cX9_areOfOneCargo 66 = .ok (.astore_n 2, 1) := by decide +kernel
theorem dX9_areOfOneCargo_67 : decode cX9_areOfOneCargo 67 = .ok (.iinc 3 1, 3) := by decide +kernel
theorem dX9_areOfOneCargo_70 : decode cX9_areOfOneCargo 70 = .ok (.goto (-51), 3) := by decide +kernel
theorem dX9_areOfOneCargo_73 : decode cX9_areOfOneCargo 73 = .ok (.iconst 1, 1) := by decide +kernel
theorem dX9_areOfOneCargo_74 : decode cX9_areOfOneCargo 74 = .ok (.ireturn, 1) := by decide +kernel
theorem dX9_heldAt_0 : decode cX9_heldAt 0 = .ok (.aload_n 0, 1) := by decide +kernel
theorem dX9_heldAt_1 : decode cX9_heldAt 1 = .ok (.getfield 44, 3) := by decide +kernel
theorem dX9_heldAt_4 : decode cX9_heldAt 4 = .ok (.aload_n 1, 1) := by decide +kernel
theorem dX9_heldAt_5 : decode cX9_heldAt 5 = .ok (.aload_n 0, 1) := by decide +kernel
theorem dX9_heldAt_6 : decode cX9_heldAt 6 = .ok (.getfield 17, 3) := by decide +kernel
theorem dX9_heldAt_9 : decode cX9_heldAt 9 = .ok (.aload_n 0, 1) := by decide +kernel
theorem dX9_heldAt_10 : decode cX9_heldAt 10 = .ok (.getfield 125, 3) := by decide +kernel
theorem dX9_heldAt_13 : decode cX9_heldAt 13 = .ok (.iload 4, 2) := by decide +kernel
theorem dX9_heldAt_15 : decode cX9_heldAt 15 = .ok (.invokevirtual 168, 3) := by decide +kernel
theorem dX9_heldAt_18 : decode cX9_heldAt 18 = .ok (.aload_n 0, 1) := by decide +kernel
theorem dX9_heldAt_19 : decode cX9_heldAt 19 = .ok (.getfield 44, 3) := by decide +kernel
theorem dX9_heldAt_22 : decode cX9_heldAt 22 = .ok (.iload_n 3, 1) := by decide +kernel
theorem dX9_heldAt_23 : decode cX9_heldAt 23 = .ok (.invokevirtual 172, 3) := by decide +kernel
theorem dX9_heldAt_26 : decode cX9_heldAt 26 = .ok (.aload_n 0, 1) := by decide +kernel
theorem dX9_heldAt_27 : decode cX9_heldAt 27 = .ok (.getfield 44, 3) := by decide +kernel
theorem dX9_heldAt_30 : decode cX9_heldAt 30 = .ok (.getfield 175, 3) := by decide +kernel
theorem dX9_heldAt_33 : decode cX9_heldAt 33 = .ok (.iload_n 2, 1) := by decide +kernel
theorem dX9_heldAt_34 : decode cX9_heldAt 34 = .ok (.iaload, 1) := by decide +kernel
theorem dX9_heldAt_35 : decode cX9_heldAt 35 = .ok (.ireturn, 1) := by decide +kernel
theorem dX9_keepRisk_0 : decode cX9_keepRisk 0 = .ok (.aload_n 0, 1) := by decide +kernel
theorem dX9_keepRisk_1 : decode cX9_keepRisk 1 = .ok (.getfield 44, 3) := by decide +kernel
theorem dX9_keepRisk_4 : decode cX9_keepRisk 4 = .ok (.aload_n 1, 1) := by decide +kernel
theorem dX9_keepRisk_5 : decode cX9_keepRisk 5 = .ok (.aload_n 0, 1) := by decide +kernel
theorem dX9_keepRisk_6 : decode cX9_keepRisk 6 = .ok (.getfield 17, 3) := by decide +kernel
theorem dX9_keepRisk_9 : decode cX9_keepRisk 9 = .ok (.aload_n 0, 1) := by decide +kernel
theorem dX9_keepRisk_10 : decode cX9_keepRisk 10 = .ok (.getfield 125, 3) := by decide +kernel
theorem dX9_keepRisk_13 : decode cX9_keepRisk 13 = .ok (.iconst 1, 1) := by decide +kernel
theorem dX9_keepRisk_14 : decode cX9_keepRisk 14 = .ok (.invokevirtual 168, 3) := by decide +kernel
theorem dX9_keepRisk_17 : decode cX9_keepRisk 17 = .ok (.aload_n 0, 1) := by decide +kernel
theorem dX9_keepRisk_18 : decode cX9_keepRisk 18 = .ok (.getfield 44, 3) := by decide +kernel
theorem dX9_keepRisk_21 : decode cX9_keepRisk 21 = .ok (.iload_n 2, 1) := by decide +kernel
theorem dX9_keepRisk_22 : decode cX9_keepRisk 22 = .ok (.invokevirtual 172, 3) := by decide +kernel
theorem dX9_keepRisk_25 : decode cX9_keepRisk 25 = .ok (.aload_n 0, 1) := by decide +kernel
theorem dX9_keepRisk_26 : decode cX9_keepRisk 26 = .ok (.getfield 44, 3) := by decide +kernel
theorem dX9_keepRisk_29 : decode cX9_keepRisk 29 = .ok (.getfield 175, 3) := by decide +kernel
theorem dX9_keepRisk_32 : decode cX9_keepRisk 32 = .ok (.iconst 0, 1) := by decide +kernel
theorem dX9_keepRisk_33 : decode cX9_keepRisk 33 = .ok (.aload_n 0, 1) := by decide +kernel
theorem dX9_keepRisk_34 : decode cX9_keepRisk 34 = .ok (.getfield 61, 3) := by decide +kernel
theorem dX9_keepRisk_37 : decode cX9_keepRisk 37 = .ok (.iconst 0, 1) := by decide +kernel
theorem dX9_keepRisk_38 : decode cX9_keepRisk 38 = .ok (.bipush 10, 2) := by decide +kernel
theorem dX9_keepRisk_40 : decode cX9_keepRisk 40 = .ok (.invokestatic 306, 3) := by decide +kernel
theorem dX9_keepRisk_43 : decode cX9_keepRisk 43 = .ok (.return_, 1) := by decide +kernel
theorem dX9_changeWithout_0 : decode cX9_changeWithout 0 = .ok (.aload_n 1, 1) := by decide +kernel
theorem dX9_changeWithout_1 : decode cX9_changeWithout 1 = .ok (.getfield 116, 3) := by decide +kernel
theorem dX9_changeWithout_4 : decode cX9_changeWithout 4 = .ok (.iload_n 2, 1) := by decide +kernel
theorem dX9_changeWithout_5 : decode cX9_changeWithout 5 = .ok (.iaload, 1) := by decide +kernel
theorem dX9_changeWithout_6 : decode cX9_changeWithout 6 = .ok (.istore 4, 2) := by decide +kernel
theorem dX9_changeWithout_8 : decode cX9_changeWithout 8 = .ok (.aload_n 1, 1) := by decide +kernel
theorem dX9_changeWithout_9 : decode cX9_changeWithout 9 = .ok (.getfield 116, 3) := by decide +kernel
theorem dX9_changeWithout_12 : decode cX9_changeWithout 12 = .ok (.iload_n 2, 1) := by decide +kernel
theorem dX9_changeWithout_13 : decode cX9_changeWithout 13 = .ok (.iconst (-1), 1) := by decide +kernel
theorem dX9_changeWithout_14 : decode cX9_changeWithout 14 = .ok (.iastore, 1) := by decide +kernel
theorem dX9_changeWithout_15 : decode cX9_changeWithout 15 = .ok (.aload_n 0, 1) := by decide +kernel
theorem dX9_changeWithout_16 : decode cX9_changeWithout 16 = .ok (.getfield 44, 3) := by decide +kernel
theorem dX9_changeWithout_19 : decode cX9_changeWithout 19 = .ok (.aload_n 1, 1) := by decide +kernel
theorem dX9_changeWithout_20 : decode cX9_changeWithout 20 = .ok (.aload_n 0, 1) := by decide +kernel
theorem dX9_changeWithout_21 : decode cX9_changeWithout 21 = .ok (.getfield 17, 3) := by decide +kernel
theorem dX9_changeWithout_24 : decode cX9_changeWithout 24 = .ok (.aload_n 0, 1) := by decide +kernel
theorem dX9_changeWithout_25 : decode cX9_changeWithout 25 = .ok (.getfield 125, 3) := by decide +kernel
theorem dX9_changeWithout_28 : decode cX9_changeWithout 28 = .ok (.iconst 1, 1) := by decide +kernel
theorem dX9_changeWithout_29 : decode cX9_changeWithout 29 = .ok (.invokevirtual 168, 3) := by decide +kernel
theorem dX9_changeWithout_32 : decode cX9_changeWithout 32 = .ok (.aload_n 0, 1) := by decide +kernel
theorem dX9_changeWithout_33 : decode cX9_changeWithout 33 = .ok (.getfield 44, 3) := by decide +kernel
theorem dX9_changeWithout_36 : decode cX9_changeWithout 36 = .ok (.iload_n 3, 1) := by decide +kernel
theorem dX9_changeWithout_37 : decode cX9_changeWithout 37 = .ok (.invokevirtual 172, 3) := by decide +kernel
theorem dX9_changeWithout_40 : decode cX9_changeWithout 40 = .ok (.aload_n 1, 1) := by decide +kernel
theorem dX9_changeWithout_41 : decode cX9_changeWithout 41 = .ok (.getfield 116, 3) := by decide +kernel
theorem dX9_changeWithout_44 : decode cX9_changeWithout 44 = .ok (.iload_n 2, 1) := by decide +kernel
theorem dX9_changeWithout_45 : decode cX9_changeWithout 45 = .ok (.iload 4, 2) := by decide +kernel
theorem dX9_changeWithout_47 : decode cX9_changeWithout 47 = .ok (.iastore, 1) := by decide +kernel
theorem dX9_changeWithout_48 : decode cX9_changeWithout 48 = .ok (.iconst 0, 1) := by decide +kernel
theorem dX9_changeWithout_49 : decode cX9_changeWithout 49 = .ok (.istore 5, 2) := by decide +kernel
theorem dX9_changeWithout_51 : decode cX9_changeWithout 51 = .ok (.iconst 0, 1) := by decide +kernel
theorem dX9_changeWithout_52 : decode cX9_changeWithout 52 = .ok (.istore 6, 2) := by decide +kernel
theorem dX9_changeWithout_54 : decode cX9_changeWithout 54 = .ok (.iload 6, 2) := by decide +kernel
theorem dX9_changeWithout_56 : decode cX9_changeWithout 56 = .ok (.bipush 10, 2) := by decide +kernel
theorem dX9_changeWithout_58 : decode cX9_changeWithout 58 = .ok (.if_icmp .ge 35, 3) := by decide +kernel
theorem dX9_changeWithout_61 : decode cX9_changeWithout 61 = .ok (.iload 5, 2) := by decide +kernel
theorem dX9_changeWithout_63 : decode cX9_changeWithout 63 = .ok (.aload_n 0, 1) := by decide +kernel
theorem dX9_changeWithout_64 : decode cX9_changeWithout 64 = .ok (.getfield 44, 3) := by decide +kernel
theorem dX9_changeWithout_67 : decode cX9_changeWithout 67 = .ok (.getfield 175, 3) := by decide +kernel
theorem dX9_changeWithout_70 : decode cX9_changeWithout 70 = .ok (.iload 6, 2) := by decide +kernel
theorem dX9_changeWithout_72 : decode cX9_changeWithout 72 = .ok (.iaload, 1) := by decide +kernel
theorem dX9_changeWithout_73 : decode cX9_changeWithout 73 = .ok (.aload_n 0, 1) := by decide +kernel
theorem dX9_changeWithout_74 : decode cX9_changeWithout 74 = .ok (.getfield 61, 3) := by decide +kernel
theorem dX9_changeWithout_77 : decode cX9_changeWithout 77 = .ok (.iload 6, 2) := by decide +kernel
theorem dX9_changeWithout_79 : decode cX9_changeWithout 79 = .ok (.iaload, 1) := by decide +kernel
theorem dX9_changeWithout_80 : decode cX9_changeWithout 80 = .ok (.isub, 1) := by decide +kernel
theorem dX9_changeWithout_81 : decode cX9_changeWithout 81 = .ok (.invokestatic 322, 3) := by decide +kernel
theorem dX9_changeWithout_84 : decode cX9_changeWithout 84 = .ok (.iadd, 1) := by decide +kernel
theorem dX9_changeWithout_85 : decode cX9_changeWithout 85 = .ok (.istore 5, 2) := by decide +kernel
theorem dX9_changeWithout_87 : decode cX9_changeWithout 87 = .ok (.iinc 6 1, 3) := by decide +kernel
theorem dX9_changeWithout_90 : decode cX9_changeWithout 90 = .ok (.goto (-36), 3) := by decide +kernel
theorem dX9_changeWithout_93 : decode cX9_changeWithout 93 = .ok (.iload 5, 2) := by decide +kernel
theorem dX9_changeWithout_95 : decode cX9_changeWithout 95 = .ok (.ireturn, 1) := by decide +kernel
theorem dX9_commonDivisor_0 : decode cX9_commonDivisor 0 = .ok (.iload_n 1, 1) := by decide +kernel
theorem dX9_commonDivisor_1 : decode cX9_commonDivisor 1 = .ok (.istore_n 2, 1) := by decide +kernel
theorem dX9_commonDivisor_2 : decode cX9_commonDivisor 2 = .ok (.iload_n 0, 1) := by decide +kernel
theorem dX9_commonDivisor_3 : decode cX9_commonDivisor 3 = .ok (.istore_n 3, 1) := by decide +kernel
theorem dX9_commonDivisor_4 : decode cX9_commonDivisor 4 = .ok (.iconst 0, 1) := by decide +kernel
theorem dX9_commonDivisor_5 : decode cX9_commonDivisor 5 = .ok (.istore 4, 2) := by decide +kernel
theorem dX9_commonDivisor_7 : decode cX9_commonDivisor 7 = .ok (.iload 4, 2) := by decide +kernel
theorem dX9_commonDivisor_9 : decode cX9_commonDivisor 9 = .ok (.bipush 64, 2) := by decide +kernel
theorem dX9_commonDivisor_11 : decode cX9_commonDivisor 11 = .ok (.if_icmp .ge 23, 3) := by decide +kernel
theorem dX9_commonDivisor_14 : decode cX9_commonDivisor 14 = .ok (.iload_n 3, 1) := by decide +kernel
theorem dX9_commonDivisor_15 : decode cX9_commonDivisor 15 = .ok (.ifCond .eq 19, 3) := by decide +kernel
theorem dX9_commonDivisor_18 : decode cX9_commonDivisor 18 = .ok (.iload_n 2, 1) := by decide +kernel
theorem dX9_commonDivisor_19 : decode cX9_commonDivisor 19 = .ok (.iload_n 3, 1) := by decide +kernel
theorem dX9_commonDivisor_20 : decode cX9_commonDivisor 20 = .ok (.irem, 1) := by decide +kernel
theorem dX9_commonDivisor_21 : decode cX9_commonDivisor 21 = .ok (.istore 5, 2) := by decide +kernel
theorem dX9_commonDivisor_23 : decode cX9_commonDivisor 23 = .ok (.iload_n 3, 1) := by decide +kernel
theorem dX9_commonDivisor_24 : decode cX9_commonDivisor 24 = .ok (.istore_n 2, 1) := by decide +kernel
theorem dX9_commonDivisor_25 : decode cX9_commonDivisor 25 = .ok (.iload 5, 2) := by decide +kernel
theorem dX9_commonDivisor_27 : decode cX9_commonDivisor 27 = .ok (.istore_n 3, 1) := by decide +kernel
theorem dX9_commonDivisor_28 : decode cX9_commonDivisor 28 = .ok (.iinc 4 1, 3) := by decide +kernel
theorem dX9_commonDivisor_31 : decode cX9_commonDivisor 31 = .ok (.goto (-24), 3) := by decide +kernel
theorem dX9_commonDivisor_34 : decode cX9_commonDivisor 34 = .ok (.iconst 1, 1) := by decide +kernel
theorem dX9_commonDivisor_35 : decode cX9_commonDivisor 35 = .ok (.iload_n 2, 1) := by decide +kernel
theorem dX9_commonDivisor_36 : decode cX9_commonDivisor 36 = .ok (.invokestatic 186, 3) := by decide +kernel
theorem dX9_commonDivisor_39 : decode cX9_commonDivisor 39 = .ok (.ireturn, 1) := by decide +kernel
theorem dX9_ruled_0 : decode cX9_ruled 0 = .ok (.aload_n 0, 1) := by decide +kernel
theorem dX9_ruled_1 : decode cX9_ruled 1 = .ok (.getfield 37, 3) := by decide +kernel
theorem dX9_ruled_4 : decode cX9_ruled 4 = .ok (.aload_n 0, 1) := by decide +kernel
theorem dX9_ruled_5 : decode cX9_ruled 5 = .ok (.getfield 23, 3) := by decide +kernel
theorem dX9_ruled_8 : decode cX9_ruled 8 = .ok (.aload_n 0, 1) := by decide +kernel
theorem dX9_ruled_9 : decode cX9_ruled 9 = .ok (.getfield 195, 3) := by decide +kernel
theorem dX9_ruled_12 : decode cX9_ruled 12 = .ok (.aaload, 1) := by decide +kernel
theorem dX9_ruled_13 : decode cX9_ruled 13 = .ok (.iload_n 1, 1) := by decide +kernel
theorem dX9_ruled_14 : decode cX9_ruled 14 = .ok (.aload_n 2, 1) := by decide +kernel
theorem dX9_ruled_15 : decode cX9_ruled 15 = .ok (.iload_n 3, 1) := by decide +kernel
theorem dX9_ruled_16 : decode cX9_ruled 16 = .ok (.invokevirtual 325, 3) := by decide +kernel
theorem dX9_ruled_19 : decode cX9_ruled 19 = .ok (.ireturn, 1) := by decide +kernel
theorem dX9_bounded_0 : decode cX9_bounded 0 = .ok (.iconst 0, 1) := by decide +kernel
theorem dX9_bounded_1 : decode cX9_bounded 1 = .ok (.iload_n 0, 1) := by decide +kernel
theorem dX9_bounded_2 : decode cX9_bounded 2 = .ok (.iload_n 1, 1) := by decide +kernel
theorem dX9_bounded_3 : decode cX9_bounded 3 = .ok (.invokestatic 181, 3) := by decide +kernel
theorem dX9_bounded_6 : decode cX9_bounded 6 = .ok (.invokestatic 186, 3) := by decide +kernel
theorem dX9_bounded_9 : decode cX9_bounded 9 = .ok (.ireturn, 1) := by decide +kernel
theorem dX9_owedFor_0 : decode cX9_owedFor 0 = .ok (.iload_n 2, 1) := by decide +kernel
theorem dX9_owedFor_1 : decode cX9_owedFor 1 = .ok (.aload_n 1, 1) := by decide +kernel
theorem dX9_owedFor_2 : decode cX9_owedFor 2 = .ok (.getfield 256, 3) := by decide +kernel
theorem dX9_owedFor_5 : decode cX9_owedFor 5 = .ok (.if_icmp .ge 5, 3) := by decide +kernel
theorem dX9_owedFor_8 : decode cX9_owedFor 8 = .ok (.lconst 0, 1) := by decide +kernel
theorem dX9_owedFor_9 : decode cX9_owedFor 9 = .ok (.lreturn, 1) := by decide +kernel
theorem dX9_owedFor_10 : decode cX9_owedFor 10 = .ok (.aload_n 0, 1) := by decide +kernel
theorem dX9_owedFor_11 : decode cX9_owedFor 11 = .ok (.iconst 0, 1) := by decide +kernel
theorem dX9_owedFor_12 : decode cX9_owedFor 12 = .ok (.aload_n 1, 1) := by decide +kernel
theorem dX9_owedFor_13 : decode cX9_owedFor 13 = .ok (.iload_n 2, 1) := by decide +kernel
theorem dX9_owedFor_14 : decode cX9_owedFor 14 = .ok (.invokevirtual 329, 3) := by decide +kernel
theorem dX9_owedFor_17 : decode cX9_owedFor 17 = .ok (.sipush 9999, 3) := by decide +kernel
theorem dX9_owedFor_20 : decode cX9_owedFor 20 = .ok (.invokestatic 333, 3) := by decide +kernel
theorem dX9_owedFor_23 : decode cX9_owedFor 23 = .ok (.istore_n 3, 1) := by decide +kernel
theorem dX9_owedFor_24 : decode cX9_owedFor 24 = .ok (.aload_n 0, 1) := by decide +kernel
theorem dX9_owedFor_25 : decode cX9_owedFor 25 = .ok (.iconst 1, 1) := by decide +kernel
theorem dX9_owedFor_26 : decode cX9_owedFor 26 = .ok (.aload_n 1, 1) := by decide +kernel
theorem dX9_owedFor_27 : decode cX9_owedFor 27 = .ok (.iload_n 2, 1) := by decide +kernel
theorem dX9_owedFor_28 : decode cX9_owedFor 28 = .ok (.invokevirtual 329, 3) := by decide +kernel
theorem dX9_owedFor_31 : decode cX9_owedFor 31 = .ok (.aload_n 1, 1) := by decide +kernel
theorem dX9_owedFor_32 : decode cX9_owedFor 32 = .ok (.invokevirtual 336, 3) := by decide +kernel
theorem dX9_owedFor_35 : decode cX9_owedFor 35 = .ok (.invokestatic 333, 3) := by decide +kernel
theorem dX9_owedFor_38 : decode cX9_owedFor 38 = .ok (.istore 4, 2) := by decide +kernel
theorem dX9_owedFor_40 : decode cX9_owedFor 40 = .ok (.aload_n 1, 1) := by decide +kernel
theorem dX9_owedFor_41 : decode cX9_owedFor 41 = .ok (.invokevirtual 336, 3) := by decide +kernel
theorem dX9_owedFor_44 : decode cX9_owedFor 44 = .ok (.iload_n 3, 1) := by decide +kernel
theorem dX9_owedFor_45 : decode cX9_owedFor 45 = .ok (.iadd, 1) := by decide +kernel
theorem dX9_owedFor_46 : decode cX9_owedFor 46 = .ok (.iload 4, 2) := by decide +kernel
theorem dX9_owedFor_48 : decode cX9_owedFor 48 = .ok (.isub, 1) := by decide +kernel
theorem dX9_owedFor_49 : decode cX9_owedFor 49 = .ok (.aload_n 1, 1) := by decide +kernel
theorem dX9_owedFor_50 : decode cX9_owedFor 50 = .ok (.getfield 142, 3) := by decide +kernel
theorem dX9_owedFor_53 : decode cX9_owedFor 53 = .ok (.isub, 1) := by decide +kernel
theorem dX9_owedFor_54 : decode cX9_owedFor 54 = .ok (.i2l, 1) := by decide +kernel
theorem dX9_owedFor_55 : decode cX9_owedFor 55 = .ok (.lreturn, 1) := by decide +kernel
theorem dX9_canBeStopped_0 : decode cX9_canBeStopped 0 = .ok (.aload_n 1, 1) := by decide +kernel
theorem dX9_canBeStopped_1 : decode cX9_canBeStopped 1 = .ok (.getfield 135, 3) := by decide +kernel
theorem dX9_canBeStopped_4 : decode cX9_canBeStopped 4 = .ok (.iconst (-1), 1) := by decide +kernel
theorem dX9_canBeStopped_5 : decode cX9_canBeStopped 5 = .ok (.if_icmp .eq 15, 3) := by decide +kernel
theorem dX9_canBeStopped_8 : decode cX9_canBeStopped 8 = .ok (.aload_n 1, 1) := by decide +kernel
theorem dX9_canBeStopped_9 : decode cX9_canBeStopped 9 = .ok (.getfield 135, 3) := by decide +kernel
theorem dX9_canBeStopped_12 : decode cX9_canBeStopped 12 = .ok (.iload_n 2, 1) := by decide +kernel
theorem dX9_canBeStopped_13 : decode cX9_canBeStopped 13 = .ok (.if_icmp .gt 7, 3) := by decide +kernel
theorem dX9_canBeStopped_16 : decode cX9_canBeStopped 16 = .ok (.iconst 1, 1) := by decide +kernel
theorem dX9_canBeStopped_17 : decode cX9_canBeStopped 17 = .ok (.goto 4, 3) := by decide +kernel
theorem dX9_canBeStopped_20 : decode cX9_canBeStopped 20 = .ok (.iconst 0, 1) := by decide +kernel
theorem dX9_canBeStopped_21 : decode cX9_canBeStopped 21 = .ok (.istore_n 3, 1) := by decide +kernel
theorem dX9_canBeStopped_22 : decode cX9_canBeStopped 22 = .ok (.iload_n 3, 1) := by decide +kernel
theorem dX9_canBeStopped_23 : decode cX9_canBeStopped 23 = .ok (.ifCond .ne 25, 3) := by decide +kernel
theorem dX9_canBeStopped_26 : decode cX9_canBeStopped 26 = .ok (.aload_n 1, 1) := by decide +kernel
theorem dX9_canBeStopped_27 : decode cX9_canBeStopped 27 = .ok (.invokevirtual 227, 3) := by decide +kernel
theorem dX9_canBeStopped_30 : decode cX9_canBeStopped 30 = .ok (.iload_n 2, 1) := by decide +kernel
theorem dX9_canBeStopped_31 : decode cX9_canBeStopped 31 = .ok (.if_icmp .le 17, 3) := by decide +kernel
theorem dX9_canBeStopped_34 : decode cX9_canBeStopped 34 = .ok (.aload_n 0, 1) := by decide +kernel
theorem dX9_canBeStopped_35 : decode cX9_canBeStopped 35 = .ok (.iconst 2, 1) := by decide +kernel
theorem dX9_canBeStopped_36 : decode cX9_canBeStopped 36 = .ok (.aload_n 1, 1) := by decide +kernel
theorem dX9_canBeStopped_37 : decode cX9_canBeStopped 37 = .ok (.iload_n 2, 1) := by decide +kernel
theorem dX9_canBeStopped_38 : decode cX9_canBeStopped 38 = .ok (.invokevirtual 329, 3) := by decide +kernel
theorem dX9_canBeStopped_41 : decode cX9_canBeStopped 41 = .ok (.ifCond .eq 7, 3) := by decide +kernel
theorem dX9_canBeStopped_44 : decode cX9_canBeStopped 44 = .ok (.iconst 1, 1) := by decide +kernel
theorem dX9_canBeStopped_45 : decode cX9_canBeStopped 45 = .ok (.goto 4, 3) := by decide +kernel
theorem dX9_canBeStopped_48 : decode cX9_canBeStopped 48 = .ok (.iconst 0, 1) := by decide +kernel
theorem dX9_canBeStopped_49 : decode cX9_canBeStopped 49 = .ok (.ireturn, 1) := by decide +kernel
theorem dX9_differenceOf_0 : decode cX9_differenceOf 0 = .ok (.lconst 0, 1) := by decide +kernel
theorem dX9_differenceOf_1 : decode cX9_differenceOf 1 = .ok (.lstore_n 3, 1) := by decide +kernel
theorem dX9_differenceOf_2 : decode cX9_differenceOf 2 = .ok (.iconst 0, 1) := by decide +kernel
theorem dX9_differenceOf_3 : decode cX9_differenceOf 3 = .ok (.istore 5, 2) := by decide +kernel
theorem dX9_differenceOf_5 : decode cX9_differenceOf 5 = .ok (.iload 5, 2) := by decide +kernel
theorem dX9_differenceOf_7 : decode cX9_differenceOf 7 = .ok (.aload_n 0, 1) := by decide +kernel
theorem dX9_differenceOf_8 : decode cX9_differenceOf 8 = .ok (.getfield 125, 3) := by decide +kernel
theorem dX9_differenceOf_11 : decode cX9_differenceOf 11 = .ok (.if_icmp .ge 80, 3) := by decide +kernel
theorem dX9_differenceOf_14 : decode cX9_differenceOf 14 = .ok (.iload_n 2, 1) := by decide +kernel
theorem dX9_differenceOf_15 : decode cX9_differenceOf 15 = .ok (.iload 5, 2) := by decide +kernel
theorem dX9_differenceOf_17 : decode cX9_differenceOf 17 = .ok (.iushr, 1) := by decide +kernel
theorem dX9_differenceOf_18 : decode cX9_differenceOf 18 = .ok (.iconst 1, 1) := by decide +kernel
theorem dX9_differenceOf_19 : decode cX9_differenceOf 19 = .ok (.iand, 1) := by decide +kernel
theorem dX9_differenceOf_20 : decode cX9_differenceOf 20 = .ok (.ifCond .ne 6, 3) := by decide +kernel
theorem dX9_differenceOf_23 : decode cX9_differenceOf 23 = .ok (.goto 62, 3) := by decide +kernel
theorem dX9_differenceOf_26 : decode cX9_differenceOf 26 = .ok (.aload_n 0, 1) := by decide +kernel
theorem dX9_differenceOf_27 : decode cX9_differenceOf 27 = .ok (.getfield 17, 3) := by decide +kernel
theorem dX9_differenceOf_30 : decode cX9_differenceOf 30 = .ok (.iload 5, 2) := by decide +kernel
theorem dX9_differenceOf_32 : decode cX9_differenceOf 32 = .ok (.aaload, 1) := by decide +kernel
theorem dX9_differenceOf_33 : decode cX9_differenceOf 33 = .ok (.getfield 202, 3) := by decide +kernel
theorem dX9_differenceOf_36 : decode cX9_differenceOf 36 = .ok (.iload_n 1, 1) := by decide +kernel
theorem dX9_differenceOf_37 : decode cX9_differenceOf 37 = .ok (.if_icmp .ne 20, 3) := by decide +kernel
theorem dX9_differenceOf_40 : decode cX9_differenceOf 40 = .ok (.lload_n 3, 1) := by decide +kernel
theorem dX9_differenceOf_41 : decode cX9_differenceOf 41 = .ok (.aload_n 0, 1) := by decide +kernel
theorem dX9_differenceOf_42 : decode cX9_differenceOf 42 = .ok (.getfield 17, 3) := by decide +kernel
theorem dX9_differenceOf_45 : decode cX9_differenceOf 45 = .ok (.iload 5, 2) := by decide +kernel
theorem dX9_differenceOf_47 : decode cX9_differenceOf 47 = .ok (.aaload, 1) := by decide +kernel
theorem dX9_differenceOf_48 : decode cX9_differenceOf 48 = .ok (.invokevirtual 336, 3) := by decide +kernel
theorem dX9_differenceOf_51 : decode cX9_differenceOf 51 = .ok (.i2l, 1) := by decide +kernel
theorem dX9_differenceOf_52 : decode cX9_differenceOf 52 = .ok (.ladd, 1) := by decide +kernel
theorem dX9_differenceOf_53 : decode cX9_differenceOf 53 = .ok (.lstore_n 3, 1) := by decide +kernel
theorem dX9_differenceOf_54 : decode cX9_differenceOf 54 = .ok (.goto 31, 3) := by decide +kernel
theorem dX9_differenceOf_57 : decode cX9_differenceOf 57 = .ok (.aload_n 0, 1) := by decide +kernel
theorem dX9_differenceOf_58 : decode cX9_differenceOf 58 = .ok (.getfield 17, 3) := by decide +kernel
theorem dX9_differenceOf_61 : decode cX9_differenceOf 61 = .ok (.iload 5, 2) := by decide +kernel
theorem dX9_differenceOf_63 : decode cX9_differenceOf 63 = .ok (.aaload, 1) := by decide +kernel
theorem dX9_differenceOf_64 : decode cX9_differenceOf 64 = .ok (.getfield 205, 3) := by decide +kernel
theorem dX9_differenceOf_67 : decode cX9_differenceOf 67 = .ok (.iload_n 1, 1) := by decide +kernel
theorem dX9_differenceOf_68 : decode cX9_differenceOf 68 = .ok (.if_icmp .ne 17, 3) := by decide +kernel
theorem dX9_differenceOf_71 : decode cX9_differenceOf 71 = .ok (.lload_n 3, 1) := by decide +kernel
theorem dX9_differenceOf_72 : decode cX9_differenceOf 72 = .ok (.aload_n 0, 1) := by decide +kernel
theorem dX9_differenceOf_73 : decode cX9_differenceOf 73 = .ok (.getfield 17, 3) := by decide +kernel
theorem dX9_differenceOf_76 : decode cX9_differenceOf 76 = .ok (.iload 5, 2) := by decide +kernel
theorem dX9_differenceOf_78 : decode cX9_differenceOf 78 = .ok (.aaload, 1) := by decide +kernel
theorem dX9_differenceOf_79 : decode cX9_differenceOf 79 = .ok (.invokevirtual 336, 3) := by decide +kernel
theorem dX9_differenceOf_82 : decode cX9_differenceOf 82 = .ok (.i2l, 1) := by decide +kernel
theorem dX9_differenceOf_83 : decode cX9_differenceOf 83 = .ok (.lsub, 1) := by decide +kernel
theorem dX9_differenceOf_84 : decode cX9_differenceOf 84 = .ok (.lstore_n 3, 1) := by decide +kernel
theorem dX9_differenceOf_85 : decode cX9_differenceOf 85 = .ok (.iinc 5 1, 3) := by decide +kernel
theorem dX9_differenceOf_88 : decode cX9_differenceOf 88 = .ok (.goto (-83), 3) := by decide +kernel
theorem dX9_differenceOf_91 : decode cX9_differenceOf 91 = .ok (.lload_n 3, 1) := by decide +kernel
theorem dX9_differenceOf_92 : decode cX9_differenceOf 92 = .ok (.lreturn, 1) := by decide +kernel
theorem dX9_papersHandedOn_0 : decode cX9_papersHandedOn 0 = .ok (.iconst 0, 1) := by decide +kernel
theorem dX9_papersHandedOn_1 : decode cX9_papersHandedOn 1 = .ok (.istore_n 1, 1) := by decide +kernel
theorem dX9_papersHandedOn_2 : decode cX9_papersHandedOn 2 = .ok (.iconst 0, 1) := by decide +kernel
theorem dX9_papersHandedOn_3 : decode cX9_papersHandedOn 3 = .ok (.istore_n 2, 1) := by decide +kernel
theorem dX9_papersHandedOn_4 : decode cX9_papersHandedOn 4 = .ok (.iload_n 2, 1) := by decide +kernel
theorem dX9_papersHandedOn_5 : decode cX9_papersHandedOn 5 = .ok (.aload_n 0, 1) := by decide +kernel
theorem dX9_papersHandedOn_6 : decode cX9_papersHandedOn 6 = .ok (.getfield 125, 3) := by decide +kernel
theorem dX9_papersHandedOn_9 : decode cX9_papersHandedOn 9 = .ok (.if_icmp .ge 25, 3) := by decide +kernel
theorem dX9_papersHandedOn_12 : decode cX9_papersHandedOn 12 = .ok (.aload_n 0, 1) := by decide +kernel
theorem dX9_papersHandedOn_13 : decode cX9_papersHandedOn 13 = .ok (.getfield 17, 3) := by decide +kernel
theorem dX9_papersHandedOn_16 : decode cX9_papersHandedOn 16 = .ok (.iload_n 2, 1) := by decide +kernel
theorem dX9_papersHandedOn_17 : decode cX9_papersHandedOn 17 = .ok (.aaload, 1) := by decide +kernel
theorem dX9_papersHandedOn_18 : decode cX9_papersHandedOn 18 = .ok (.getfield 135, 3) := by decide +kernel
theorem dX9_papersHandedOn_21 : decode cX9_papersHandedOn 21 = .ok (.iconst (-1), 1) := by decide +kernel
theorem dX9_papersHandedOn_22 : decode cX9_papersHandedOn 22 = .ok (.if_icmp .eq 6, 3) := by decide +kernel
theorem dX9_papersHandedOn_25 : decode cX9_papersHandedOn 25 = .ok (.iinc 1 1, 3) := by decide +kernel
theorem dX9_papersHandedOn_28 : decode cX9_papersHandedOn 28 = .ok (.iinc 2 1, 3) := by decide +kernel
theorem dX9_papersHandedOn_31 : decode cX9_papersHandedOn 31 = .ok (.goto (-27), 3) := by decide +kernel
theorem dX9_papersHandedOn_34 : decode cX9_papersHandedOn 34 = .ok (.iload_n 1, 1) := by decide +kernel
theorem dX9_papersHandedOn_35 : decode cX9_papersHandedOn 35 = .ok (.ireturn, 1) := by decide +kernel
theorem dX9_paidInAll_0 : decode cX9_paidInAll 0 = .ok (.iconst 0, 1) := by decide +kernel
theorem dX9_paidInAll_1 : decode cX9_paidInAll 1 = .ok (.istore_n 1, 1) := by decide +kernel
theorem dX9_paidInAll_2 : decode cX9_paidInAll 2 = .ok (.iconst 0, 1) := by decide +kernel
theorem dX9_paidInAll_3 : decode cX9_paidInAll 3 = .ok (.istore_n 2, 1) := by decide +kernel
theorem dX9_paidInAll_4 : decode cX9_paidInAll 4 = .ok (.iload_n 2, 1) := by decide +kernel
theorem dX9_paidInAll_5 : decode cX9_paidInAll 5 = .ok (.aload_n 0, 1) := by decide +kernel
theorem dX9_paidInAll_6 : decode cX9_paidInAll 6 = .ok (.getfield 125, 3) := by decide +kernel
theorem dX9_paidInAll_9 : decode cX9_paidInAll 9 = .ok (.if_icmp .ge 21, 3) := by decide +kernel
theorem dX9_paidInAll_12 : decode cX9_paidInAll 12 = .ok (.iload_n 1, 1) := by decide +kernel
theorem dX9_paidInAll_13 : decode cX9_paidInAll 13 = .ok (.aload_n 0, 1) := by decide +kernel
theorem dX9_paidInAll_14 : decode cX9_paidInAll 14 = .ok (.getfield 17, 3) := by decide +kernel
theorem dX9_paidInAll_17 : decode cX9_paidInAll 17 = .ok (.iload_n 2, 1) := by decide +kernel
theorem dX9_paidInAll_18 : decode cX9_paidInAll 18 = .ok (.aaload, 1) := by decide +kernel
theorem dX9_paidInAll_19 : decode cX9_paidInAll 19 = .ok (.getfield 142, 3) := by decide +kernel
theorem dX9_paidInAll_22 : decode cX9_paidInAll 22 = .ok (.iadd, 1) := by decide +kernel
theorem dX9_paidInAll_23 : decode cX9_paidInAll 23 = .ok (.istore_n 1, 1) := by decide +kernel
theorem dX9_paidInAll_24 : decode cX9_paidInAll 24 = .ok (.iinc 2 1, 3) := by decide +kernel
theorem dX9_paidInAll_27 : decode cX9_paidInAll 27 = .ok (.goto (-23), 3) := by decide +kernel
theorem dX9_paidInAll_30 : decode cX9_paidInAll 30 = .ok (.iload_n 1, 1) := by decide +kernel
theorem dX9_paidInAll_31 : decode cX9_paidInAll 31 = .ok (.ireturn, 1) := by decide +kernel
end
section
theorem dL_law_0 : decode cL_law 0 = .ok (.new 7, 3) := by decide +kernel
theorem dL_law_3 : decode cL_law 3 = .ok (.dup, 1) := by decide +kernel
theorem dL_law_4 : decode cL_law 4 = .ok (.invokespecial 9, 3) := by decide +kernel
theorem dL_law_7 : decode cL_law 7 = .ok (.astore_n 1, 1) := by decide +kernel
theorem dL_law_8 : decode cL_law 8 = .ok (.new 10, 3) := by decide +kernel
theorem dL_law_11 : decode cL_law 11 = .ok (.dup, 1) := by decide +kernel
theorem dL_law_12 : decode cL_law 12 = .ok (.invokespecial 12, 3) := by decide +kernel
theorem dL_law_15 : decode cL_law 15 = .ok (.astore_n 2, 1) := by decide +kernel
theorem dL_law_16 : decode cL_law 16 = .ok (.iconst 0, 1) := by decide +kernel
theorem dL_law_17 : decode cL_law 17 = .ok (.istore_n 3, 1) := by decide +kernel
theorem dL_law_18 : decode cL_law 18 = .ok (.iload_n 3, 1) := by decide +kernel
theorem dL_law_19 : decode cL_law 19 = .ok (.aload_n 0, 1) := by decide +kernel
theorem dL_law_20 : decode cL_law 20 = .ok (.arraylength, 1) := by decide +kernel
theorem dL_law_21 : decode cL_law 21 = .ok (.bipush 6, 2) := by decide +kernel
theorem dL_law_23 : decode cL_law 23 = .ok (.isub, 1) := by decide +kernel
theorem dL_law_24 : decode cL_law 24 = .ok (.if_icmp .gt 1313, 3) := by decide +kernel
theorem dL_law_27 : decode cL_law 27 = .ok (.aload_n 0, 1) := by decide +kernel
theorem dL_law_28 : decode cL_law 28 = .ok (.iload_n 3, 1) := by decide +kernel
theorem dL_law_29 : decode cL_law 29 = .ok (.iaload, 1) := by decide +kernel
theorem dL_law_30 : decode cL_law 30 = .ok (.bipush 31, 2) := by decide +kernel
theorem dL_law_32 : decode cL_law 32 = .ok (.iand, 1) := by decide +kernel
theorem dL_law_33 : decode cL_law 33 = .ok (.tableswitch 1298 0 30 #[139, 172, 215, 278, 311, 344, 377, 430, 484, 537, 600, 613, 636, 670, 704, 727, 761, 784, 818, 851, 894, 937, 981, 1014, 1027, 1040, 1063, 1106, 1149, 1212, 1265], 139) := by decide +kernel
theorem dL_law_172 : decode cL_law 172 = .ok (.aload_n 1, 1) := by decide +kernel
theorem dL_law_173 : decode cL_law 173 = .ok (.aload_n 0, 1) := by decide +kernel
theorem dL_law_174 : decode cL_law 174 = .ok (.iload_n 3, 1) := by decide +kernel
theorem dL_law_175 : decode cL_law 175 = .ok (.iconst 1, 1) := by decide +kernel
theorem dL_law_176 : decode cL_law 176 = .ok (.iadd, 1) := by decide +kernel
theorem dL_law_177 : decode cL_law 177 = .ok (.iaload, 1) := by decide +kernel
theorem dL_law_178 : decode cL_law 178 = .ok (.aload_n 0, 1) := by decide +kernel
theorem dL_law_179 : decode cL_law 179 = .ok (.iload_n 3, 1) := by decide +kernel
theorem dL_law_180 : decode cL_law 180 = .ok (.iconst 2, 1) := by decide +kernel
theorem dL_law_181 : decode cL_law 181 = .ok (.iadd, 1) := by decide +kernel
theorem dL_law_182 : decode cL_law 182 = .ok (.iaload, 1) := by decide +kernel
theorem dL_law_183 : decode cL_law 183 = .ok (.invokevirtual 13, 3) := by decide +kernel
theorem dL_law_186 : decode cL_law 186 = .ok (.aload_n 2, 1) := by decide +kernel
theorem dL_law_187 : decode cL_law 187 = .ok (.aload_n 0, 1) := by decide +kernel
theorem dL_law_188 : decode cL_law 188 = .ok (.iload_n 3, 1) := by decide +kernel
theorem dL_law_189 : decode cL_law 189 = .ok (.iconst 1, 1) := by decide +kernel
theorem dL_law_190 : decode cL_law 190 = .ok (.iadd, 1) := by decide +kernel
theorem dL_law_191 : decode cL_law 191 = .ok (.iaload, 1) := by decide +kernel
theorem dL_law_192 : decode cL_law 192 = .ok (.aload_n 0, 1) := by decide +kernel
theorem dL_law_193 : decode cL_law 193 = .ok (.iload_n 3, 1) := by decide +kernel
theorem dL_law_194 : decode cL_law 194 = .ok (.iconst 2, 1) := by decide +kernel
theorem dL_law_195 : decode cL_law 195 = .ok (.iadd, 1) := by decide +kernel
theorem dL_law_196 : decode cL_law 196 = .ok (.iaload, 1) := by decide +kernel
theorem dL_law_197 : decode cL_law 197 = .ok (.invokevirtual 17, 3) := by decide +kernel
theorem dL_law_200 : decode cL_law 200 = .ok (.if_icmp .eq 1131, 3) := by decide +kernel
theorem dL_law_203 : decode cL_law 203 = .ok (.iconst 0, 1) := by decide +kernel
theorem dL_law_204 : decode cL_law 204 = .ok (.ireturn, 1) := by decide +kernel
theorem dL_law_205 : decode cL_law 205 = .ok (.aload_n 1, 1) := by decide +kernel
theorem dL_law_206 : decode cL_law 206 = .ok (.aload_n 0, 1) := by decide +kernel
theorem dL_law_207 : decode cL_law 207 = .ok (.iload_n 3, 1) := by decide +kernel
theorem dL_law_208 : decode cL_law 208 = .ok (.iconst 1, 1) := by decide +kernel
theorem dL_law_209 : decode cL_law 209 = .ok (.iadd, 1) := by decide +kernel
theorem dL_law_210 : decode cL_law 210 = .ok (.iaload, 1) := by decide +kernel
theorem dL_law_211 : decode cL_law 211 = .ok (.aload_n 0, 1) := by decide +kernel
theorem dL_law_212 : decode cL_law 212 = .ok (.iload_n 3, 1) := by decide +kernel
theorem dL_law_213 : decode cL_law 213 = .ok (.iconst 2, 1) := by decide +kernel
theorem dL_law_214 : decode cL_law 214 = .ok (.iadd, 1) := by decide +kernel
theorem dL_law_215 : decode cL_law 215 = .ok (.iaload, 1) := by decide +kernel
theorem dL_law_216 : decode cL_law 216 = .ok (.aload_n 0, 1) := by decide +kernel
theorem dL_law_217 : decode cL_law 217 = .ok (.iload_n 3, 1) := by decide +kernel
theorem dL_law_218 : decode cL_law 218 = .ok (.iconst 3, 1) := by decide +kernel
theorem dL_law_219 : decode cL_law 219 = .ok (.iadd, 1) := by decide +kernel
theorem dL_law_220 : decode cL_law 220 = .ok (.iaload, 1) := by decide +kernel
theorem dL_law_221 : decode cL_law 221 = .ok (.invokevirtual 18, 3) := by decide +kernel
theorem dL_law_224 : decode cL_law 224 = .ok (.aload_n 2, 1) := by decide +kernel
theorem dL_law_225 : decode cL_law 225 = .ok (.aload_n 0, 1) := by decide +kernel
theorem dL_law_226 : decode cL_law 226 = .ok (.iload_n 3, 1) := by decide +kernel
theorem dL_law_227 : decode cL_law 227 = .ok (.iconst 1, 1) := by decide +kernel
theorem dL_law_228 : decode cL_law 228 = .ok (.iadd, 1) := by decide +kernel
theorem dL_law_229 : decode cL_law 229 = .ok (.iaload, 1) := by decide +kernel
theorem dL_law_230 : decode cL_law 230 = .ok (.aload_n 0, 1) := by decide +kernel
theorem dL_law_231 : decode cL_law 231 = .ok (.iload_n 3, 1) := by decide +kernel
theorem dL_law_232 : decode cL_law 232 = .ok (.iconst 2, 1) := by decide +kernel
theorem dL_law_233 : decode cL_law 233 = .ok (.iadd, 1) := by decide +kernel
theorem dL_law_234 : decode cL_law 234 = .ok (.iaload, 1) := by decide +kernel
theorem dL_law_235 : decode cL_law 235 = .ok (.aload_n 0, 1) := by decide +kernel
theorem dL_law_236 : decode cL_law 236 = .ok (.iload_n 3, 1) := by decide +kernel
theorem dL_law_237 : decode cL_law 237 = .ok (.iconst 3, 1) := by decide +kernel
theorem dL_law_238 : decode cL_law 238 = .ok (.iadd, 1) := by decide +kernel
theorem dL_law_239 : decode cL_law 239 = .ok (.iaload, 1) := by decide +kernel
theorem dL_law_240 : decode cL_law 240 = .ok (.invokevirtual 22, 3) := by decide +kernel
theorem dL_law_243 : decode cL_law 243 = .ok (.if_icmp .eq 1088, 3) := by decide +kernel
theorem dL_law_246 : decode cL_law 246 = .ok (.iconst 0, 1) := by decide +kernel
theorem dL_law_247 : decode cL_law 247 = .ok (.ireturn, 1) := by decide +kernel
theorem dL_law_248 : decode cL_law 248 = .ok (.aload_n 1, 1) := by decide +kernel
theorem dL_law_249 : decode cL_law 249 = .ok (.aload_n 0, 1) := by decide +kernel
theorem dL_law_250 : decode cL_law 250 = .ok (.iload_n 3, 1) := by decide +kernel
theorem dL_law_251 : decode cL_law 251 = .ok (.iconst 1, 1) := by decide +kernel
theorem dL_law_252 : decode cL_law 252 = .ok (.iadd, 1) := by decide +kernel
theorem dL_law_253 : decode cL_law 253 = .ok (.iaload, 1) := by decide +kernel
theorem dL_law_254 : decode cL_law 254 = .ok (.aload_n 0, 1) := by decide +kernel
theorem dL_law_255 : decode cL_law 255 = .ok (.iload_n 3, 1) := by decide +kernel
theorem dL_law_256 : decode cL_law 256 = .ok (.iconst 2, 1) := by decide +kernel
theorem dL_law_257 : decode cL_law 257 = .ok (.iadd, 1) := by decide +kernel
theorem dL_law_258 : decode cL_law 258 = .ok (.iaload, 1) := by decide +kernel
theorem dL_law_259 : decode cL_law 259 = .ok (.aload_n 0, 1) := by decide +kernel
theorem dL_law_260 : decode cL_law 260 = .ok (.iload_n 3, 1) := by decide +kernel
theorem dL_law_261 : decode cL_law 261 = .ok (.iconst 3, 1) := by decide +kernel
theorem dL_law_262 : decode cL_law 262 = .ok (.iadd, 1) := by decide +kernel
theorem dL_law_263 : decode cL_law 263 = .ok (.iaload, 1) := by decide +kernel
theorem dL_law_264 : decode cL_law 264 = .ok (.aload_n 0, 1) := by decide +kernel
theorem dL_law_265 : decode cL_law 265 = .ok (.iload_n 3, 1) := by decide +kernel
theorem dL_law_266 : decode cL_law 266 = .ok (.iconst 4, 1) := by decide +kernel
theorem dL_law_267 : decode cL_law 267 = .ok (.iadd, 1) := by decide +kernel
theorem dL_law_268 : decode cL_law 268 = .ok (.iaload, 1) := by decide +kernel
theorem dL_law_269 : decode cL_law 269 = .ok (.aload_n 0, 1) := by decide +kernel
theorem dL_law_270 : decode cL_law 270 = .ok (.iload_n 3, 1) := by decide +kernel
theorem dL_law_271 : decode cL_law 271 = .ok (.iconst 5, 1) := by decide +kernel
theorem dL_law_272 : decode cL_law 272 = .ok (.iadd, 1) := by decide +kernel
theorem dL_law_273 : decode cL_law 273 = .ok (.iaload, 1) := by decide +kernel
theorem dL_law_274 : decode cL_law 274 = .ok (.invokevirtual 23, 3) := by decide +kernel
theorem dL_law_277 : decode cL_law 277 = .ok (.aload_n 2, 1) := by decide +kernel
theorem dL_law_278 : decode cL_law 278 = .ok (.aload_n 0, 1) := by decide +kernel
theorem dL_law_279 : decode cL_law 279 = .ok (.iload_n 3, 1) := by decide +kernel
theorem dL_law_280 : decode cL_law 280 = .ok (.iconst 1, 1) := by decide +kernel
theorem dL_law_281 : decode cL_law 281 = .ok (.iadd, 1) := by decide +kernel
theorem dL_law_282 : decode cL_law 282 = .ok (.iaload, 1) := by decide +kernel
theorem dL_law_283 : decode cL_law 283 = .ok (.aload_n 0, 1) := by decide +kernel
theorem dL_law_284 : decode cL_law 284 = .ok (.iload_n 3, 1) := by decide +kernel
theorem dL_law_285 : decode cL_law 285 = .ok (.iconst 2, 1) := by decide +kernel
theorem dL_law_286 : decode cL_law 286 = .ok (.iadd, 1) := by decide +kernel
theorem dL_law_287 : decode cL_law 287 = .ok (.iaload, 1) := by decide +kernel
theorem dL_law_288 : decode cL_law 288 = .ok (.aload_n 0, 1) := by decide +kernel
theorem dL_law_289 : decode cL_law 289 = .ok (.iload_n 3, 1) := by decide +kernel
theorem dL_law_290 : decode cL_law 290 = .ok (.iconst 3, 1) := by decide +kernel
theorem dL_law_291 : decode cL_law 291 = .ok (.iadd, 1) := by decide +kernel
theorem dL_law_292 : decode cL_law 292 = .ok (.iaload, 1) := by decide +kernel
theorem dL_law_293 : decode cL_law 293 = .ok (.aload_n 0, 1) := by decide +kernel
theorem dL_law_294 : decode cL_law 294 = .ok (.iload_n 3, 1) := by decide +kernel
theorem dL_law_295 : decode cL_law 295 = .ok (.iconst 4, 1) := by decide +kernel
theorem dL_law_296 : decode cL_law 296 = .ok (.iadd, 1) := by decide +kernel
theorem dL_law_297 : decode cL_law 297 = .ok (.iaload, 1) := by decide +kernel
theorem dL_law_298 : decode cL_law 298 = .ok (.aload_n 0, 1) := by decide +kernel
theorem dL_law_299 : decode cL_law 299 = .ok (.iload_n 3, 1) := by decide +kernel
theorem dL_law_300 : decode cL_law 300 = .ok (.iconst 5, 1) := by decide +kernel
theorem dL_law_301 : decode cL_law 301 = .ok (.iadd, 1) := by decide +kernel
theorem dL_law_302 : decode cL_law 302 = .ok (.iaload, 1) := by decide +kernel
theorem dL_law_303 : decode cL_law 303 = .ok (.invokevirtual 27, 3) := by decide +kernel
theorem dL_law_306 : decode cL_law 306 = .ok (.if_icmp .eq 1025, 3) := by decide +kernel
theorem dL_law_309 : decode cL_law 309 = .ok (.iconst 0, 1) := by decide +kernel
theorem dL_law_310 : decode cL_law 310 = .ok (.ireturn, 1) := by decide +kernel
theorem dL_law_311 : decode cL_law 311 = .ok (.aload_n 1, 1) := by decide +kernel
theorem dL_law_312 : decode cL_law 312 = .ok (.aload_n 0, 1) := by decide +kernel
theorem dL_law_313 : decode cL_law 313 = .ok (.iload_n 3, 1) := by decide +kernel
theorem dL_law_314 : decode cL_law 314 = .ok (.iconst 1, 1) := by decide +kernel
theorem dL_law_315 : decode cL_law 315 = .ok (.iadd, 1) := by decide +kernel
theorem dL_law_316 : decode cL_law 316 = .ok (.iaload, 1) := by decide +kernel
theorem dL_law_317 : decode cL_law 317 = .ok (.aload_n 0, 1) := by decide +kernel
theorem dL_law_318 : decode cL_law 318 = .ok (.iload_n 3, 1) := by decide +kernel
theorem dL_law_319 : decode cL_law 319 = .ok (.iconst 2, 1) := by decide +kernel
theorem dL_law_320 : decode cL_law 320 = .ok (.iadd, 1) := by decide +kernel
theorem dL_law_321 : decode cL_law 321 = .ok (.iaload, 1) := by decide +kernel
theorem dL_law_322 : decode cL_law 322 = .ok (.invokevirtual 28, 3) := by decide +kernel
theorem dL_law_325 : decode cL_law 325 = .ok (.aload_n 2, 1) := by decide +kernel
theorem dL_law_326 : decode cL_law 326 = .ok (.aload_n 0, 1) := by decide +kernel
theorem dL_law_327 : decode cL_law 327 = .ok (.iload_n 3, 1) := by decide +kernel
theorem dL_law_328 : decode cL_law 328 = .ok (.iconst 1, 1) := by decide +kernel
theorem dL_law_329 : decode cL_law 329 = .ok (.iadd, 1) := by decide +kernel
theorem dL_law_330 : decode cL_law 330 = .ok (.iaload, 1) := by decide +kernel
theorem dL_law_331 : decode cL_law 331 = .ok (.aload_n 0, 1) := by decide +kernel
theorem dL_law_332 : decode cL_law 332 = .ok (.iload_n 3, 1) := by decide +kernel
theorem dL_law_333 : decode cL_law 333 = .ok (.iconst 2, 1) := by decide +kernel
theorem dL_law_334 : decode cL_law 334 = .ok (.iadd, 1) := by decide +kernel
theorem dL_law_335 : decode cL_law 335 = .ok (.iaload, 1) := by decide +kernel
theorem dL_law_336 : decode cL_law 336 = .ok (.invokevirtual 31, 3) := by decide +kernel
theorem dL_law_339 : decode cL_law 339 = .ok (.if_icmp .eq 992, 3) := by decide +kernel
theorem dL_law_342 : decode cL_law 342 = .ok (.iconst 0, 1) := by decide +kernel
theorem dL_law_343 : decode cL_law 343 = .ok (.ireturn, 1) := by decide +kernel
theorem dL_law_344 : decode cL_law 344 = .ok (.aload_n 1, 1) := by decide +kernel
theorem dL_law_345 : decode cL_law 345 = .ok (.aload_n 0, 1) := by decide +kernel
theorem dL_law_346 : decode cL_law 346 = .ok (.iload_n 3, 1) := by decide +kernel
theorem dL_law_347 : decode cL_law 347 = .ok (.iconst 1, 1) := by decide +kernel
theorem dL_law_348 : decode cL_law 348 = .ok (.iadd, 1) := by decide +kernel
theorem dL_law_349 : decode cL_law 349 = .ok (.iaload, 1) := by decide +kernel
theorem dL_law_350 : decode cL_law 350 = .ok (.aload_n 0, 1) := by decide +kernel
theorem dL_law_351 : decode cL_law 351 = .ok (.iload_n 3, 1) := by decide +kernel
theorem dL_law_352 : decode cL_law 352 = .ok (.iconst 2, 1) := by decide +kernel
theorem dL_law_353 : decode cL_law 353 = .ok (.iadd, 1) := by decide +kernel
theorem dL_law_354 : decode cL_law 354 = .ok (.iaload, 1) := by decide +kernel
theorem dL_law_355 : decode cL_law 355 = .ok (.invokevirtual 32, 3) := by decide +kernel
theorem dL_law_358 : decode cL_law 358 = .ok (.aload_n 2, 1) := by decide +kernel
theorem dL_law_359 : decode cL_law 359 = .ok (.aload_n 0, 1) := by decide +kernel
theorem dL_law_360 : decode cL_law 360 = .ok (.iload_n 3, 1) := by decide +kernel
theorem dL_law_361 : decode cL_law 361 = .ok (.iconst 1, 1) := by decide +kernel
theorem dL_law_362 : decode cL_law 362 = .ok (.iadd, 1) := by decide +kernel
theorem dL_law_363 : decode cL_law 363 = .ok (.iaload, 1) := by decide +kernel
theorem dL_law_364 : decode cL_law 364 = .ok (.aload_n 0, 1) := by decide +kernel
theorem dL_law_365 : decode cL_law 365 = .ok (.iload_n 3, 1) := by decide +kernel
theorem dL_law_366 : decode cL_law 366 = .ok (.iconst 2, 1) := by decide +kernel
theorem dL_law_367 : decode cL_law 367 = .ok (.iadd, 1) := by decide +kernel
theorem dL_law_368 : decode cL_law 368 = .ok (.iaload, 1) := by decide +kernel
theorem dL_law_369 : decode cL_law 369 = .ok (.invokevirtual 35, 3) := by decide +kernel
theorem dL_law_372 : decode cL_law 372 = .ok (.if_icmp .eq 959, 3) := by decide +kernel
theorem dL_law_375 : decode cL_law 375 = .ok (.iconst 0, 1) := by decide +kernel
theorem dL_law_376 : decode cL_law 376 = .ok (.ireturn, 1) := by decide +kernel
theorem dL_law_377 : decode cL_law 377 = .ok (.aload_n 1, 1) := by decide +kernel
theorem dL_law_378 : decode cL_law 378 = .ok (.aload_n 0, 1) := by decide +kernel
theorem dL_law_379 : decode cL_law 379 = .ok (.iload_n 3, 1) := by decide +kernel
theorem dL_law_380 : decode cL_law 380 = .ok (.iconst 1, 1) := by decide +kernel
theorem dL_law_381 : decode cL_law 381 = .ok (.iadd, 1) := by decide +kernel
theorem dL_law_382 : decode cL_law 382 = .ok (.iaload, 1) := by decide +kernel
theorem dL_law_383 : decode cL_law 383 = .ok (.aload_n 0, 1) := by decide +kernel
theorem dL_law_384 : decode cL_law 384 = .ok (.iload_n 3, 1) := by decide +kernel
theorem dL_law_385 : decode cL_law 385 = .ok (.iconst 2, 1) := by decide +kernel
theorem dL_law_386 : decode cL_law 386 = .ok (.iadd, 1) := by decide +kernel
theorem dL_law_387 : decode cL_law 387 = .ok (.iaload, 1) := by decide +kernel
theorem dL_law_388 : decode cL_law 388 = .ok (.invokevirtual 36, 3) := by decide +kernel
theorem dL_law_391 : decode cL_law 391 = .ok (.aload_n 2, 1) := by decide +kernel
theorem dL_law_392 : decode cL_law 392 = .ok (.aload_n 0, 1) := by decide +kernel
theorem dL_law_393 : decode cL_law 393 = .ok (.iload_n 3, 1) := by decide +kernel
theorem dL_law_394 : decode cL_law 394 = .ok (.iconst 1, 1) := by decide +kernel
theorem dL_law_395 : decode cL_law 395 = .ok (.iadd, 1) := by decide +kernel
theorem dL_law_396 : decode cL_law 396 = .ok (.iaload, 1) := by decide +kernel
theorem dL_law_397 : decode cL_law 397 = .ok (.aload_n 0, 1) := by decide +kernel
theorem dL_law_398 : decode cL_law 398 = .ok (.iload_n 3, 1) := by decide +kernel
theorem dL_law_399 : decode cL_law 399 = .ok (.iconst 2, 1) := by decide +kernel
theorem dL_law_400 : decode cL_law 400 = .ok (.iadd, 1) := by decide +kernel
theorem dL_law_401 : decode cL_law 401 = .ok (.iaload, 1) := by decide +kernel
theorem dL_law_402 : decode cL_law 402 = .ok (.invokevirtual 39, 3) := by decide +kernel
theorem dL_law_405 : decode cL_law 405 = .ok (.if_icmp .eq 926, 3) := by decide +kernel
theorem dL_law_408 : decode cL_law 408 = .ok (.iconst 0, 1) := by decide +kernel
theorem dL_law_409 : decode cL_law 409 = .ok (.ireturn, 1) := by decide +kernel
theorem dL_law_410 : decode cL_law 410 = .ok (.aload_n 1, 1) := by decide +kernel
theorem dL_law_411 : decode cL_law 411 = .ok (.aload_n 0, 1) := by decide +kernel
theorem dL_law_412 : decode cL_law 412 = .ok (.iload_n 3, 1) := by decide +kernel
theorem dL_law_413 : decode cL_law 413 = .ok (.iconst 1, 1) := by decide +kernel
theorem dL_law_414 : decode cL_law 414 = .ok (.iadd, 1) := by decide +kernel
theorem dL_law_415 : decode cL_law 415 = .ok (.iaload, 1) := by decide +kernel
theorem dL_law_416 : decode cL_law 416 = .ok (.aload_n 0, 1) := by decide +kernel
theorem dL_law_417 : decode cL_law 417 = .ok (.iload_n 3, 1) := by decide +kernel
theorem dL_law_418 : decode cL_law 418 = .ok (.iconst 2, 1) := by decide +kernel
theorem dL_law_419 : decode cL_law 419 = .ok (.iadd, 1) := by decide +kernel
theorem dL_law_420 : decode cL_law 420 = .ok (.iaload, 1) := by decide +kernel
theorem dL_law_421 : decode cL_law 421 = .ok (.aload_n 0, 1) := by decide +kernel
theorem dL_law_422 : decode cL_law 422 = .ok (.iload_n 3, 1) := by decide +kernel
theorem dL_law_423 : decode cL_law 423 = .ok (.iconst 3, 1) := by decide +kernel
theorem dL_law_424 : decode cL_law 424 = .ok (.iadd, 1) := by decide +kernel
theorem dL_law_425 : decode cL_law 425 = .ok (.iaload, 1) := by decide +kernel
theorem dL_law_426 : decode cL_law 426 = .ok (.aload_n 0, 1) := by decide +kernel
theorem dL_law_427 : decode cL_law 427 = .ok (.iload_n 3, 1) := by decide +kernel
theorem dL_law_428 : decode cL_law 428 = .ok (.iconst 4, 1) := by decide +kernel
theorem dL_law_429 : decode cL_law 429 = .ok (.iadd, 1) := by decide +kernel
theorem dL_law_430 : decode cL_law 430 = .ok (.iaload, 1) := by decide +kernel
theorem dL_law_431 : decode cL_law 431 = .ok (.invokevirtual 40, 3) := by decide +kernel
theorem dL_law_434 : decode cL_law 434 = .ok (.aload_n 2, 1) := by decide +kernel
theorem dL_law_435 : decode cL_law 435 = .ok (.aload_n 0, 1) := by decide +kernel
theorem dL_law_436 : decode cL_law 436 = .ok (.iload_n 3, 1) := by decide +kernel
theorem dL_law_437 : decode cL_law 437 = .ok (.iconst 1, 1) := by decide +kernel
end
section
theorem dL_law_438 : decode cL_law 438 = .ok (.iadd, 1) := by decide +kernel
theorem dL_law_439 : decode cL_law 439 = .ok (.iaload, 1) := by decide +kernel
theorem dL_law_440 : decode cL_law 440 = .ok (.aload_n 0, 1) := by decide +kernel
theorem dL_law_441 : decode cL_law 441 = .ok (.iload_n 3, 1) := by decide +kernel
theorem dL_law_442 : decode cL_law 442 = .ok (.iconst 2, 1) := by decide +kernel
theorem dL_law_443 : decode cL_law 443 = .ok (.iadd, 1) := by decide +kernel
theorem dL_law_444 : decode cL_law 444 = .ok (.iaload, 1) := by decide +kernel
theorem dL_law_445 : decode cL_law 445 = .ok (.aload_n 0, 1) := by decide +kernel
theorem dL_law_446 : decode cL_law 446 = .ok (.iload_n 3, 1) := by decide +kernel
theorem dL_law_447 : decode cL_law 447 = .ok (.iconst 3, 1) := by decide +kernel
theorem dL_law_448 : decode cL_law 448 = .ok (.iadd, 1) := by decide +kernel
theorem dL_law_449 : decode cL_law 449 = .ok (.iaload, 1) := by decide +kernel
theorem dL_law_450 : decode cL_law 450 = .ok (.aload_n 0, 1) := by decide +kernel
theorem dL_law_451 : decode cL_law 451 = .ok (.iload_n 3, 1) := by decide +kernel
theorem dL_law_452 : decode cL_law 452 = .ok (.iconst 4, 1) := by decide +kernel
theorem dL_law_453 : decode cL_law 453 = .ok (.iadd, 1) := by decide +kernel
theorem dL_law_454 : decode cL_law 454 = .ok (.iaload, 1) := by decide +kernel
theorem dL_law_455 : decode cL_law 455 = .ok (.invokevirtual 44, 3) := by decide +kernel
theorem dL_law_458 : decode cL_law 458 = .ok (.if_icmp .eq 873, 3) := by decide +kernel
theorem dL_law_461 : decode cL_law 461 = .ok (.iconst 0, 1) := by decide +kernel
theorem dL_law_462 : decode cL_law 462 = .ok (.ireturn, 1) := by decide +kernel
theorem dL_law_463 : decode cL_law 463 = .ok (.aload_n 1, 1) := by decide +kernel
theorem dL_law_464 : decode cL_law 464 = .ok (.aload_n 0, 1) := by decide +kernel
theorem dL_law_465 : decode cL_law 465 = .ok (.iload_n 3, 1) := by decide +kernel
theorem dL_law_466 : decode cL_law 466 = .ok (.iconst 1, 1) := by decide +kernel
theorem dL_law_467 : decode cL_law 467 = .ok (.iadd, 1) := by decide +kernel
theorem dL_law_468 : decode cL_law 468 = .ok (.iaload, 1) := by decide +kernel
theorem dL_law_469 : decode cL_law 469 = .ok (.aload_n 0, 1) := by decide +kernel
theorem dL_law_470 : decode cL_law 470 = .ok (.iload_n 3, 1) := by decide +kernel
theorem dL_law_471 : decode cL_law 471 = .ok (.iconst 2, 1) := by decide +kernel
theorem dL_law_472 : decode cL_law 472 = .ok (.iadd, 1) := by decide +kernel
theorem dL_law_473 : decode cL_law 473 = .ok (.iaload, 1) := by decide +kernel
theorem dL_law_474 : decode cL_law 474 = .ok (.aload_n 0, 1) := by decide +kernel
theorem dL_law_475 : decode cL_law 475 = .ok (.iload_n 3, 1) := by decide +kernel
theorem dL_law_476 : decode cL_law 476 = .ok (.iconst 3, 1) := by decide +kernel
theorem dL_law_477 : decode cL_law 477 = .ok (.iadd, 1) := by decide +kernel
theorem dL_law_478 : decode cL_law 478 = .ok (.iaload, 1) := by decide +kernel
theorem dL_law_479 : decode cL_law 479 = .ok (.aload_n 0, 1) := by decide +kernel
theorem dL_law_480 : decode cL_law 480 = .ok (.iload_n 3, 1) := by decide +kernel
theorem dL_law_481 : decode cL_law 481 = .ok (.iconst 4, 1) := by decide +kernel
theorem dL_law_482 : decode cL_law 482 = .ok (.iadd, 1) := by decide +kernel
theorem dL_law_483 : decode cL_law 483 = .ok (.iaload, 1) := by decide +kernel
theorem dL_law_484 : decode cL_law 484 = .ok (.invokevirtual 45, 3) := by decide +kernel
theorem dL_law_487 : decode cL_law 487 = .ok (.aload_n 2, 1) := by decide +kernel
theorem dL_law_488 : decode cL_law 488 = .ok (.aload_n 0, 1) := by decide +kernel
theorem dL_law_489 : decode cL_law 489 = .ok (.iload_n 3, 1) := by decide +kernel
theorem dL_law_490 : decode cL_law 490 = .ok (.iconst 1, 1) := by decide +kernel
theorem dL_law_491 : decode cL_law 491 = .ok (.iadd, 1) := by decide +kernel
theorem dL_law_492 : decode cL_law 492 = .ok (.iaload, 1) := by decide +kernel
theorem dL_law_493 : decode cL_law 493 = .ok (.aload_n 0, 1) := by decide +kernel
theorem dL_law_494 : decode cL_law 494 = .ok (.iload_n 3, 1) := by decide +kernel
theorem dL_law_495 : decode cL_law 495 = .ok (.iconst 2, 1) := by decide +kernel
theorem dL_law_496 : decode cL_law 496 = .ok (.iadd, 1) := by decide +kernel
theorem dL_law_497 : decode cL_law 497 = .ok (.iaload, 1) := by decide +kernel
theorem dL_law_498 : decode cL_law 498 = .ok (.aload_n 0, 1) := by decide +kernel
theorem dL_law_499 : decode cL_law 499 = .ok (.iload_n 3, 1) := by decide +kernel
theorem dL_law_500 : decode cL_law 500 = .ok (.iconst 3, 1) := by decide +kernel
theorem dL_law_501 : decode cL_law 501 = .ok (.iadd, 1) := by decide +kernel
theorem dL_law_502 : decode cL_law 502 = .ok (.iaload, 1) := by decide +kernel
theorem dL_law_503 : decode cL_law 503 = .ok (.aload_n 0, 1) := by decide +kernel
theorem dL_law_504 : decode cL_law 504 = .ok (.iload_n 3, 1) := by decide +kernel
theorem dL_law_505 : decode cL_law 505 = .ok (.iconst 4, 1) := by decide +kernel
theorem dL_law_506 : decode cL_law 506 = .ok (.iadd, 1) := by decide +kernel
theorem dL_law_507 : decode cL_law 507 = .ok (.iaload, 1) := by decide +kernel
theorem dL_law_508 : decode cL_law 508 = .ok (.invokevirtual 49, 3) := by decide +kernel
theorem dL_law_511 : decode cL_law 511 = .ok (.lcmp, 1) := by decide +kernel
theorem dL_law_512 : decode cL_law 512 = .ok (.ifCond .eq 819, 3) := by decide +kernel
theorem dL_law_515 : decode cL_law 515 = .ok (.iconst 0, 1) := by decide +kernel
theorem dL_law_516 : decode cL_law 516 = .ok (.ireturn, 1) := by decide +kernel
theorem dL_law_517 : decode cL_law 517 = .ok (.aload_n 1, 1) := by decide +kernel
theorem dL_law_518 : decode cL_law 518 = .ok (.aload_n 0, 1) := by decide +kernel
theorem dL_law_519 : decode cL_law 519 = .ok (.iload_n 3, 1) := by decide +kernel
theorem dL_law_520 : decode cL_law 520 = .ok (.iconst 1, 1) := by decide +kernel
theorem dL_law_521 : decode cL_law 521 = .ok (.iadd, 1) := by decide +kernel
theorem dL_law_522 : decode cL_law 522 = .ok (.iaload, 1) := by decide +kernel
theorem dL_law_523 : decode cL_law 523 = .ok (.aload_n 0, 1) := by decide +kernel
theorem dL_law_524 : decode cL_law 524 = .ok (.iload_n 3, 1) := by decide +kernel
theorem dL_law_525 : decode cL_law 525 = .ok (.iconst 2, 1) := by decide +kernel
theorem dL_law_526 : decode cL_law 526 = .ok (.iadd, 1) := by decide +kernel
theorem dL_law_527 : decode cL_law 527 = .ok (.iaload, 1) := by decide +kernel
theorem dL_law_528 : decode cL_law 528 = .ok (.aload_n 0, 1) := by decide +kernel
theorem dL_law_529 : decode cL_law 529 = .ok (.iload_n 3, 1) := by decide +kernel
theorem dL_law_530 : decode cL_law 530 = .ok (.iconst 3, 1) := by decide +kernel
theorem dL_law_531 : decode cL_law 531 = .ok (.iadd, 1) := by decide +kernel
theorem dL_law_532 : decode cL_law 532 = .ok (.iaload, 1) := by decide +kernel
theorem dL_law_533 : decode cL_law 533 = .ok (.aload_n 0, 1) := by decide +kernel
theorem dL_law_534 : decode cL_law 534 = .ok (.iload_n 3, 1) := by decide +kernel
theorem dL_law_535 : decode cL_law 535 = .ok (.iconst 4, 1) := by decide +kernel
theorem dL_law_536 : decode cL_law 536 = .ok (.iadd, 1) := by decide +kernel
theorem dL_law_537 : decode cL_law 537 = .ok (.iaload, 1) := by decide +kernel
theorem dL_law_538 : decode cL_law 538 = .ok (.invokevirtual 50, 3) := by decide +kernel
theorem dL_law_541 : decode cL_law 541 = .ok (.aload_n 2, 1) := by decide +kernel
theorem dL_law_542 : decode cL_law 542 = .ok (.aload_n 0, 1) := by decide +kernel
theorem dL_law_543 : decode cL_law 543 = .ok (.iload_n 3, 1) := by decide +kernel
theorem dL_law_544 : decode cL_law 544 = .ok (.iconst 1, 1) := by decide +kernel
theorem dL_law_545 : decode cL_law 545 = .ok (.iadd, 1) := by decide +kernel
theorem dL_law_546 : decode cL_law 546 = .ok (.iaload, 1) := by decide +kernel
theorem dL_law_547 : decode cL_law 547 = .ok (.aload_n 0, 1) := by decide +kernel
theorem dL_law_548 : decode cL_law 548 = .ok (.iload_n 3, 1) := by decide +kernel
theorem dL_law_549 : decode cL_law 549 = .ok (.iconst 2, 1) := by decide +kernel
theorem dL_law_550 : decode cL_law 550 = .ok (.iadd, 1) := by decide +kernel
theorem dL_law_551 : decode cL_law 551 = .ok (.iaload, 1) := by decide +kernel
theorem dL_law_552 : decode cL_law 552 = .ok (.aload_n 0, 1) := by decide +kernel
theorem dL_law_553 : decode cL_law 553 = .ok (.iload_n 3, 1) := by decide +kernel
theorem dL_law_554 : decode cL_law 554 = .ok (.iconst 3, 1) := by decide +kernel
theorem dL_law_555 : decode cL_law 555 = .ok (.iadd, 1) := by decide +kernel
theorem dL_law_556 : decode cL_law 556 = .ok (.iaload, 1) := by decide +kernel
theorem dL_law_557 : decode cL_law 557 = .ok (.aload_n 0, 1) := by decide +kernel
theorem dL_law_558 : decode cL_law 558 = .ok (.iload_n 3, 1) := by decide +kernel
theorem dL_law_559 : decode cL_law 559 = .ok (.iconst 4, 1) := by decide +kernel
theorem dL_law_560 : decode cL_law 560 = .ok (.iadd, 1) := by decide +kernel
theorem dL_law_561 : decode cL_law 561 = .ok (.iaload, 1) := by decide +kernel
theorem dL_law_562 : decode cL_law 562 = .ok (.invokevirtual 53, 3) := by decide +kernel
theorem dL_law_565 : decode cL_law 565 = .ok (.if_icmp .eq 766, 3) := by decide +kernel
theorem dL_law_568 : decode cL_law 568 = .ok (.iconst 0, 1) := by decide +kernel
theorem dL_law_569 : decode cL_law 569 = .ok (.ireturn, 1) := by decide +kernel
theorem dL_law_570 : decode cL_law 570 = .ok (.aload_n 1, 1) := by decide +kernel
theorem dL_law_571 : decode cL_law 571 = .ok (.aload_n 0, 1) := by decide +kernel
theorem dL_law_572 : decode cL_law 572 = .ok (.iload_n 3, 1) := by decide +kernel
theorem dL_law_573 : decode cL_law 573 = .ok (.iconst 1, 1) := by decide +kernel
theorem dL_law_574 : decode cL_law 574 = .ok (.iadd, 1) := by decide +kernel
theorem dL_law_575 : decode cL_law 575 = .ok (.iaload, 1) := by decide +kernel
theorem dL_law_576 : decode cL_law 576 = .ok (.aload_n 0, 1) := by decide +kernel
theorem dL_law_577 : decode cL_law 577 = .ok (.iload_n 3, 1) := by decide +kernel
theorem dL_law_578 : decode cL_law 578 = .ok (.iconst 2, 1) := by decide +kernel
theorem dL_law_579 : decode cL_law 579 = .ok (.iadd, 1) := by decide +kernel
theorem dL_law_580 : decode cL_law 580 = .ok (.iaload, 1) := by decide +kernel
theorem dL_law_581 : decode cL_law 581 = .ok (.i2l, 1) := by decide +kernel
theorem dL_law_582 : decode cL_law 582 = .ok (.bipush 32, 2) := by decide +kernel
theorem dL_law_584 : decode cL_law 584 = .ok (.lshl, 1) := by decide +kernel
theorem dL_law_585 : decode cL_law 585 = .ok (.aload_n 0, 1) := by decide +kernel
theorem dL_law_586 : decode cL_law 586 = .ok (.iload_n 3, 1) := by decide +kernel
theorem dL_law_587 : decode cL_law 587 = .ok (.iconst 3, 1) := by decide +kernel
theorem dL_law_588 : decode cL_law 588 = .ok (.iadd, 1) := by decide +kernel
theorem dL_law_589 : decode cL_law 589 = .ok (.iaload, 1) := by decide +kernel
theorem dL_law_590 : decode cL_law 590 = .ok (.i2l, 1) := by decide +kernel
theorem dL_law_591 : decode cL_law 591 = .ok (.ldc2_w 54, 3) := by decide +kernel
theorem dL_law_594 : decode cL_law 594 = .ok (.land, 1) := by decide +kernel
theorem dL_law_595 : decode cL_law 595 = .ok (.lor, 1) := by decide +kernel
theorem dL_law_596 : decode cL_law 596 = .ok (.invokevirtual 56, 3) := by decide +kernel
theorem dL_law_599 : decode cL_law 599 = .ok (.aload_n 2, 1) := by decide +kernel
theorem dL_law_600 : decode cL_law 600 = .ok (.aload_n 0, 1) := by decide +kernel
theorem dL_law_601 : decode cL_law 601 = .ok (.iload_n 3, 1) := by decide +kernel
theorem dL_law_602 : decode cL_law 602 = .ok (.iconst 1, 1) := by decide +kernel
theorem dL_law_603 : decode cL_law 603 = .ok (.iadd, 1) := by decide +kernel
theorem dL_law_604 : decode cL_law 604 = .ok (.iaload, 1) := by decide +kernel
theorem dL_law_605 : decode cL_law 605 = .ok (.aload_n 0, 1) := by decide +kernel
theorem dL_law_606 : decode cL_law 606 = .ok (.iload_n 3, 1) := by decide +kernel
theorem dL_law_607 : decode cL_law 607 = .ok (.iconst 2, 1) := by decide +kernel
theorem dL_law_608 : decode cL_law 608 = .ok (.iadd, 1) := by decide +kernel
theorem dL_law_609 : decode cL_law 609 = .ok (.iaload, 1) := by decide +kernel
theorem dL_law_610 : decode cL_law 610 = .ok (.i2l, 1) := by decide +kernel
theorem dL_law_611 : decode cL_law 611 = .ok (.bipush 32, 2) := by decide +kernel
theorem dL_law_613 : decode cL_law 613 = .ok (.lshl, 1) := by decide +kernel
theorem dL_law_614 : decode cL_law 614 = .ok (.aload_n 0, 1) := by decide +kernel
theorem dL_law_615 : decode cL_law 615 = .ok (.iload_n 3, 1) := by decide +kernel
theorem dL_law_616 : decode cL_law 616 = .ok (.iconst 3, 1) := by decide +kernel
theorem dL_law_617 : decode cL_law 617 = .ok (.iadd, 1) := by decide +kernel
theorem dL_law_618 : decode cL_law 618 = .ok (.iaload, 1) := by decide +kernel
theorem dL_law_619 : decode cL_law 619 = .ok (.i2l, 1) := by decide +kernel
theorem dL_law_620 : decode cL_law 620 = .ok (.ldc2_w 54, 3) := by decide +kernel
theorem dL_law_623 : decode cL_law 623 = .ok (.land, 1) := by decide +kernel
theorem dL_law_624 : decode cL_law 624 = .ok (.lor, 1) := by decide +kernel
theorem dL_law_625 : decode cL_law 625 = .ok (.invokevirtual 60, 3) := by decide +kernel
theorem dL_law_628 : decode cL_law 628 = .ok (.if_icmp .eq 703, 3) := by decide +kernel
theorem dL_law_631 : decode cL_law 631 = .ok (.iconst 0, 1) := by decide +kernel
theorem dL_law_632 : decode cL_law 632 = .ok (.ireturn, 1) := by decide +kernel
theorem dL_law_633 : decode cL_law 633 = .ok (.aload_n 1, 1) := by decide +kernel
theorem dL_law_634 : decode cL_law 634 = .ok (.invokevirtual 61, 3) := by decide +kernel
theorem dL_law_637 : decode cL_law 637 = .ok (.aload_n 2, 1) := by decide +kernel
theorem dL_law_638 : decode cL_law 638 = .ok (.invokevirtual 65, 3) := by decide +kernel
theorem dL_law_641 : decode cL_law 641 = .ok (.if_icmp .eq 690, 3) := by decide +kernel
theorem dL_law_644 : decode cL_law 644 = .ok (.iconst 0, 1) := by decide +kernel
theorem dL_law_645 : decode cL_law 645 = .ok (.ireturn, 1) := by decide +kernel
theorem dL_law_646 : decode cL_law 646 = .ok (.aload_n 1, 1) := by decide +kernel
theorem dL_law_647 : decode cL_law 647 = .ok (.aload_n 0, 1) := by decide +kernel
theorem dL_law_648 : decode cL_law 648 = .ok (.iload_n 3, 1) := by decide +kernel
theorem dL_law_649 : decode cL_law 649 = .ok (.iconst 1, 1) := by decide +kernel
theorem dL_law_650 : decode cL_law 650 = .ok (.iadd, 1) := by decide +kernel
theorem dL_law_651 : decode cL_law 651 = .ok (.iaload, 1) := by decide +kernel
theorem dL_law_652 : decode cL_law 652 = .ok (.invokevirtual 66, 3) := by decide +kernel
theorem dL_law_655 : decode cL_law 655 = .ok (.aload_n 2, 1) := by decide +kernel
theorem dL_law_656 : decode cL_law 656 = .ok (.aload_n 0, 1) := by decide +kernel
theorem dL_law_657 : decode cL_law 657 = .ok (.iload_n 3, 1) := by decide +kernel
theorem dL_law_658 : decode cL_law 658 = .ok (.iconst 1, 1) := by decide +kernel
theorem dL_law_659 : decode cL_law 659 = .ok (.iadd, 1) := by decide +kernel
theorem dL_law_660 : decode cL_law 660 = .ok (.iaload, 1) := by decide +kernel
theorem dL_law_661 : decode cL_law 661 = .ok (.invokevirtual 70, 3) := by decide +kernel
theorem dL_law_664 : decode cL_law 664 = .ok (.if_icmp .eq 667, 3) := by decide +kernel
theorem dL_law_667 : decode cL_law 667 = .ok (.iconst 0, 1) := by decide +kernel
theorem dL_law_668 : decode cL_law 668 = .ok (.ireturn, 1) := by decide +kernel
theorem dL_law_669 : decode cL_law 669 = .ok (.aload_n 1, 1) := by decide +kernel
theorem dL_law_670 : decode cL_law 670 = .ok (.aload_n 0, 1) := by decide +kernel
theorem dL_law_671 : decode cL_law 671 = .ok (.iload_n 3, 1) := by decide +kernel
theorem dL_law_672 : decode cL_law 672 = .ok (.iconst 1, 1) := by decide +kernel
theorem dL_law_673 : decode cL_law 673 = .ok (.iadd, 1) := by decide +kernel
theorem dL_law_674 : decode cL_law 674 = .ok (.iaload, 1) := by decide +kernel
theorem dL_law_675 : decode cL_law 675 = .ok (.aload_n 0, 1) := by decide +kernel
theorem dL_law_676 : decode cL_law 676 = .ok (.iload_n 3, 1) := by decide +kernel
theorem dL_law_677 : decode cL_law 677 = .ok (.iconst 2, 1) := by decide +kernel
theorem dL_law_678 : decode cL_law 678 = .ok (.iadd, 1) := by decide +kernel
theorem dL_law_679 : decode cL_law 679 = .ok (.iaload, 1) := by decide +kernel
theorem dL_law_680 : decode cL_law 680 = .ok (.invokevirtual 71, 3) := by decide +kernel
theorem dL_law_683 : decode cL_law 683 = .ok (.aload_n 2, 1) := by decide +kernel
theorem dL_law_684 : decode cL_law 684 = .ok (.aload_n 0, 1) := by decide +kernel
theorem dL_law_685 : decode cL_law 685 = .ok (.iload_n 3, 1) := by decide +kernel
theorem dL_law_686 : decode cL_law 686 = .ok (.iconst 1, 1) := by decide +kernel
theorem dL_law_687 : decode cL_law 687 = .ok (.iadd, 1) := by decide +kernel
theorem dL_law_688 : decode cL_law 688 = .ok (.iaload, 1) := by decide +kernel
theorem dL_law_689 : decode cL_law 689 = .ok (.aload_n 0, 1) := by decide +kernel
theorem dL_law_690 : decode cL_law 690 = .ok (.iload_n 3, 1) := by decide +kernel
theorem dL_law_691 : decode cL_law 691 = .ok (.iconst 2, 1) := by decide +kernel
theorem dL_law_692 : decode cL_law 692 = .ok (.iadd, 1) := by decide +kernel
theorem dL_law_693 : decode cL_law 693 = .ok (.iaload, 1) := by decide +kernel
theorem dL_law_694 : decode cL_law 694 = .ok (.invokevirtual 75, 3) := by decide +kernel
theorem dL_law_697 : decode cL_law 697 = .ok (.lcmp, 1) := by decide +kernel
theorem dL_law_698 : decode cL_law 698 = .ok (.ifCond .eq 633, 3) := by decide +kernel
theorem dL_law_701 : decode cL_law 701 = .ok (.iconst 0, 1) := by decide +kernel
theorem dL_law_702 : decode cL_law 702 = .ok (.ireturn, 1) := by decide +kernel
theorem dL_law_703 : decode cL_law 703 = .ok (.aload_n 1, 1) := by decide +kernel
theorem dL_law_704 : decode cL_law 704 = .ok (.aload_n 0, 1) := by decide +kernel
theorem dL_law_705 : decode cL_law 705 = .ok (.iload_n 3, 1) := by decide +kernel
theorem dL_law_706 : decode cL_law 706 = .ok (.iconst 1, 1) := by decide +kernel
theorem dL_law_707 : decode cL_law 707 = .ok (.iadd, 1) := by decide +kernel
theorem dL_law_708 : decode cL_law 708 = .ok (.iaload, 1) := by decide +kernel
theorem dL_law_709 : decode cL_law 709 = .ok (.aload_n 0, 1) := by decide +kernel
theorem dL_law_710 : decode cL_law 710 = .ok (.iload_n 3, 1) := by decide +kernel
theorem dL_law_711 : decode cL_law 711 = .ok (.iconst 2, 1) := by decide +kernel
theorem dL_law_712 : decode cL_law 712 = .ok (.iadd, 1) := by decide +kernel
theorem dL_law_713 : decode cL_law 713 = .ok (.iaload, 1) := by decide +kernel
theorem dL_law_714 : decode cL_law 714 = .ok (.invokevirtual 76, 3) := by decide +kernel
theorem dL_law_717 : decode cL_law 717 = .ok (.aload_n 2, 1) := by decide +kernel
theorem dL_law_718 : decode cL_law 718 = .ok (.aload_n 0, 1) := by decide +kernel
theorem dL_law_719 : decode cL_law 719 = .ok (.iload_n 3, 1) := by decide +kernel
theorem dL_law_720 : decode cL_law 720 = .ok (.iconst 1, 1) := by decide +kernel
theorem dL_law_721 : decode cL_law 721 = .ok (.iadd, 1) := by decide +kernel
theorem dL_law_722 : decode cL_law 722 = .ok (.iaload, 1) := by decide +kernel
theorem dL_law_723 : decode cL_law 723 = .ok (.aload_n 0, 1) := by decide +kernel
theorem dL_law_724 : decode cL_law 724 = .ok (.iload_n 3, 1) := by decide +kernel
theorem dL_law_725 : decode cL_law 725 = .ok (.iconst 2, 1) := by decide +kernel
theorem dL_law_726 : decode cL_law 726 = .ok (.iadd, 1) := by decide +kernel
theorem dL_law_727 : decode cL_law 727 = .ok (.iaload, 1) := by decide +kernel
theorem dL_law_728 : decode cL_law 728 = .ok (.invokevirtual 79, 3) := by decide +kernel
theorem dL_law_731 : decode cL_law 731 = .ok (.lcmp, 1) := by decide +kernel
theorem dL_law_732 : decode cL_law 732 = .ok (.ifCond .eq 599, 3) := by decide +kernel
theorem dL_law_735 : decode cL_law 735 = .ok (.iconst 0, 1) := by decide +kernel
theorem dL_law_736 : decode cL_law 736 = .ok (.ireturn, 1) := by decide +kernel
theorem dL_law_737 : decode cL_law 737 = .ok (.aload_n 1, 1) := by decide +kernel
theorem dL_law_738 : decode cL_law 738 = .ok (.aload_n 0, 1) := by decide +kernel
theorem dL_law_739 : decode cL_law 739 = .ok (.iload_n 3, 1) := by decide +kernel
end
section
theorem dL_law_740 : decode cL_law 740 = .ok (.iconst 1, 1) := by decide +kernel
theorem dL_law_741 : decode cL_law 741 = .ok (.iadd, 1) := by decide +kernel
theorem dL_law_742 : decode cL_law 742 = .ok (.iaload, 1) := by decide +kernel
theorem dL_law_743 : decode cL_law 743 = .ok (.invokevirtual 80, 3) := by decide +kernel
theorem dL_law_746 : decode cL_law 746 = .ok (.aload_n 2, 1) := by decide +kernel
theorem dL_law_747 : decode cL_law 747 = .ok (.aload_n 0, 1) := by decide +kernel
theorem dL_law_748 : decode cL_law 748 = .ok (.iload_n 3, 1) := by decide +kernel
theorem dL_law_749 : decode cL_law 749 = .ok (.iconst 1, 1) := by decide +kernel
theorem dL_law_750 : decode cL_law 750 = .ok (.iadd, 1) := by decide +kernel
theorem dL_law_751 : decode cL_law 751 = .ok (.iaload, 1) := by decide +kernel
theorem dL_law_752 : decode cL_law 752 = .ok (.invokevirtual 83, 3) := by decide +kernel
theorem dL_law_755 : decode cL_law 755 = .ok (.if_icmp .eq 576, 3) := by decide +kernel
theorem dL_law_758 : decode cL_law 758 = .ok (.iconst 0, 1) := by decide +kernel
theorem dL_law_759 : decode cL_law 759 = .ok (.ireturn, 1) := by decide +kernel
theorem dL_law_760 : decode cL_law 760 = .ok (.aload_n 1, 1) := by decide +kernel
theorem dL_law_761 : decode cL_law 761 = .ok (.aload_n 0, 1) := by decide +kernel
theorem dL_law_762 : decode cL_law 762 = .ok (.iload_n 3, 1) := by decide +kernel
theorem dL_law_763 : decode cL_law 763 = .ok (.iconst 1, 1) := by decide +kernel
theorem dL_law_764 : decode cL_law 764 = .ok (.iadd, 1) := by decide +kernel
theorem dL_law_765 : decode cL_law 765 = .ok (.iaload, 1) := by decide +kernel
theorem dL_law_766 : decode cL_law 766 = .ok (.aload_n 0, 1) := by decide +kernel
theorem dL_law_767 : decode cL_law 767 = .ok (.iload_n 3, 1) := by decide +kernel
theorem dL_law_768 : decode cL_law 768 = .ok (.iconst 2, 1) := by decide +kernel
theorem dL_law_769 : decode cL_law 769 = .ok (.iadd, 1) := by decide +kernel
theorem dL_law_770 : decode cL_law 770 = .ok (.iaload, 1) := by decide +kernel
theorem dL_law_771 : decode cL_law 771 = .ok (.invokevirtual 84, 3) := by decide +kernel
theorem dL_law_774 : decode cL_law 774 = .ok (.aload_n 2, 1) := by decide +kernel
theorem dL_law_775 : decode cL_law 775 = .ok (.aload_n 0, 1) := by decide +kernel
theorem dL_law_776 : decode cL_law 776 = .ok (.iload_n 3, 1) := by decide +kernel
theorem dL_law_777 : decode cL_law 777 = .ok (.iconst 1, 1) := by decide +kernel
theorem dL_law_778 : decode cL_law 778 = .ok (.iadd, 1) := by decide +kernel
theorem dL_law_779 : decode cL_law 779 = .ok (.iaload, 1) := by decide +kernel
theorem dL_law_780 : decode cL_law 780 = .ok (.aload_n 0, 1) := by decide +kernel
theorem dL_law_781 : decode cL_law 781 = .ok (.iload_n 3, 1) := by decide +kernel
theorem dL_law_782 : decode cL_law 782 = .ok (.iconst 2, 1) := by decide +kernel
theorem dL_law_783 : decode cL_law 783 = .ok (.iadd, 1) := by decide +kernel
theorem dL_law_784 : decode cL_law 784 = .ok (.iaload, 1) := by decide +kernel
theorem dL_law_785 : decode cL_law 785 = .ok (.invokevirtual 87, 3) := by decide +kernel
theorem dL_law_788 : decode cL_law 788 = .ok (.lcmp, 1) := by decide +kernel
theorem dL_law_789 : decode cL_law 789 = .ok (.ifCond .eq 542, 3) := by decide +kernel
theorem dL_law_792 : decode cL_law 792 = .ok (.iconst 0, 1) := by decide +kernel
theorem dL_law_793 : decode cL_law 793 = .ok (.ireturn, 1) := by decide +kernel
theorem dL_law_794 : decode cL_law 794 = .ok (.aload_n 1, 1) := by decide +kernel
theorem dL_law_795 : decode cL_law 795 = .ok (.aload_n 0, 1) := by decide +kernel
theorem dL_law_796 : decode cL_law 796 = .ok (.iload_n 3, 1) := by decide +kernel
theorem dL_law_797 : decode cL_law 797 = .ok (.iconst 1, 1) := by decide +kernel
theorem dL_law_798 : decode cL_law 798 = .ok (.iadd, 1) := by decide +kernel
theorem dL_law_799 : decode cL_law 799 = .ok (.iaload, 1) := by decide +kernel
theorem dL_law_800 : decode cL_law 800 = .ok (.invokevirtual 88, 3) := by decide +kernel
theorem dL_law_803 : decode cL_law 803 = .ok (.aload_n 2, 1) := by decide +kernel
theorem dL_law_804 : decode cL_law 804 = .ok (.aload_n 0, 1) := by decide +kernel
theorem dL_law_805 : decode cL_law 805 = .ok (.iload_n 3, 1) := by decide +kernel
theorem dL_law_806 : decode cL_law 806 = .ok (.iconst 1, 1) := by decide +kernel
theorem dL_law_807 : decode cL_law 807 = .ok (.iadd, 1) := by decide +kernel
theorem dL_law_808 : decode cL_law 808 = .ok (.iaload, 1) := by decide +kernel
theorem dL_law_809 : decode cL_law 809 = .ok (.invokevirtual 91, 3) := by decide +kernel
theorem dL_law_812 : decode cL_law 812 = .ok (.if_icmp .eq 519, 3) := by decide +kernel
theorem dL_law_815 : decode cL_law 815 = .ok (.iconst 0, 1) := by decide +kernel
theorem dL_law_816 : decode cL_law 816 = .ok (.ireturn, 1) := by decide +kernel
theorem dL_law_817 : decode cL_law 817 = .ok (.aload_n 1, 1) := by decide +kernel
theorem dL_law_818 : decode cL_law 818 = .ok (.aload_n 0, 1) := by decide +kernel
theorem dL_law_819 : decode cL_law 819 = .ok (.iload_n 3, 1) := by decide +kernel
theorem dL_law_820 : decode cL_law 820 = .ok (.iconst 1, 1) := by decide +kernel
theorem dL_law_821 : decode cL_law 821 = .ok (.iadd, 1) := by decide +kernel
theorem dL_law_822 : decode cL_law 822 = .ok (.iaload, 1) := by decide +kernel
theorem dL_law_823 : decode cL_law 823 = .ok (.aload_n 0, 1) := by decide +kernel
theorem dL_law_824 : decode cL_law 824 = .ok (.iload_n 3, 1) := by decide +kernel
theorem dL_law_825 : decode cL_law 825 = .ok (.iconst 2, 1) := by decide +kernel
theorem dL_law_826 : decode cL_law 826 = .ok (.iadd, 1) := by decide +kernel
theorem dL_law_827 : decode cL_law 827 = .ok (.iaload, 1) := by decide +kernel
theorem dL_law_828 : decode cL_law 828 = .ok (.invokevirtual 92, 3) := by decide +kernel
theorem dL_law_831 : decode cL_law 831 = .ok (.aload_n 2, 1) := by decide +kernel
theorem dL_law_832 : decode cL_law 832 = .ok (.aload_n 0, 1) := by decide +kernel
theorem dL_law_833 : decode cL_law 833 = .ok (.iload_n 3, 1) := by decide +kernel
theorem dL_law_834 : decode cL_law 834 = .ok (.iconst 1, 1) := by decide +kernel
theorem dL_law_835 : decode cL_law 835 = .ok (.iadd, 1) := by decide +kernel
theorem dL_law_836 : decode cL_law 836 = .ok (.iaload, 1) := by decide +kernel
theorem dL_law_837 : decode cL_law 837 = .ok (.aload_n 0, 1) := by decide +kernel
theorem dL_law_838 : decode cL_law 838 = .ok (.iload_n 3, 1) := by decide +kernel
theorem dL_law_839 : decode cL_law 839 = .ok (.iconst 2, 1) := by decide +kernel
theorem dL_law_840 : decode cL_law 840 = .ok (.iadd, 1) := by decide +kernel
theorem dL_law_841 : decode cL_law 841 = .ok (.iaload, 1) := by decide +kernel
theorem dL_law_842 : decode cL_law 842 = .ok (.invokevirtual 95, 3) := by decide +kernel
theorem dL_law_845 : decode cL_law 845 = .ok (.lcmp, 1) := by decide +kernel
theorem dL_law_846 : decode cL_law 846 = .ok (.ifCond .eq 485, 3) := by decide +kernel
theorem dL_law_849 : decode cL_law 849 = .ok (.iconst 0, 1) := by decide +kernel
theorem dL_law_850 : decode cL_law 850 = .ok (.ireturn, 1) := by decide +kernel
theorem dL_law_851 : decode cL_law 851 = .ok (.aload_n 1, 1) := by decide +kernel
theorem dL_law_852 : decode cL_law 852 = .ok (.aload_n 0, 1) := by decide +kernel
theorem dL_law_853 : decode cL_law 853 = .ok (.iload_n 3, 1) := by decide +kernel
theorem dL_law_854 : decode cL_law 854 = .ok (.iconst 1, 1) := by decide +kernel
theorem dL_law_855 : decode cL_law 855 = .ok (.iadd, 1) := by decide +kernel
theorem dL_law_856 : decode cL_law 856 = .ok (.iaload, 1) := by decide +kernel
theorem dL_law_857 : decode cL_law 857 = .ok (.aload_n 0, 1) := by decide +kernel
theorem dL_law_858 : decode cL_law 858 = .ok (.iload_n 3, 1) := by decide +kernel
theorem dL_law_859 : decode cL_law 859 = .ok (.iconst 2, 1) := by decide +kernel
theorem dL_law_860 : decode cL_law 860 = .ok (.iadd, 1) := by decide +kernel
theorem dL_law_861 : decode cL_law 861 = .ok (.iaload, 1) := by decide +kernel
theorem dL_law_862 : decode cL_law 862 = .ok (.invokevirtual 96, 3) := by decide +kernel
theorem dL_law_865 : decode cL_law 865 = .ok (.aload_n 2, 1) := by decide +kernel
theorem dL_law_866 : decode cL_law 866 = .ok (.aload_n 0, 1) := by decide +kernel
theorem dL_law_867 : decode cL_law 867 = .ok (.iload_n 3, 1) := by decide +kernel
theorem dL_law_868 : decode cL_law 868 = .ok (.iconst 1, 1) := by decide +kernel
theorem dL_law_869 : decode cL_law 869 = .ok (.iadd, 1) := by decide +kernel
theorem dL_law_870 : decode cL_law 870 = .ok (.iaload, 1) := by decide +kernel
theorem dL_law_871 : decode cL_law 871 = .ok (.aload_n 0, 1) := by decide +kernel
theorem dL_law_872 : decode cL_law 872 = .ok (.iload_n 3, 1) := by decide +kernel
theorem dL_law_873 : decode cL_law 873 = .ok (.iconst 2, 1) := by decide +kernel
theorem dL_law_874 : decode cL_law 874 = .ok (.iadd, 1) := by decide +kernel
theorem dL_law_875 : decode cL_law 875 = .ok (.iaload, 1) := by decide +kernel
theorem dL_law_876 : decode cL_law 876 = .ok (.invokevirtual 99, 3) := by decide +kernel
theorem dL_law_879 : decode cL_law 879 = .ok (.if_icmp .eq 452, 3) := by decide +kernel
theorem dL_law_882 : decode cL_law 882 = .ok (.iconst 0, 1) := by decide +kernel
theorem dL_law_883 : decode cL_law 883 = .ok (.ireturn, 1) := by decide +kernel
theorem dL_law_884 : decode cL_law 884 = .ok (.aload_n 1, 1) := by decide +kernel
theorem dL_law_885 : decode cL_law 885 = .ok (.aload_n 0, 1) := by decide +kernel
theorem dL_law_886 : decode cL_law 886 = .ok (.iload_n 3, 1) := by decide +kernel
theorem dL_law_887 : decode cL_law 887 = .ok (.iconst 1, 1) := by decide +kernel
theorem dL_law_888 : decode cL_law 888 = .ok (.iadd, 1) := by decide +kernel
theorem dL_law_889 : decode cL_law 889 = .ok (.iaload, 1) := by decide +kernel
theorem dL_law_890 : decode cL_law 890 = .ok (.aload_n 0, 1) := by decide +kernel
theorem dL_law_891 : decode cL_law 891 = .ok (.iload_n 3, 1) := by decide +kernel
theorem dL_law_892 : decode cL_law 892 = .ok (.iconst 2, 1) := by decide +kernel
theorem dL_law_893 : decode cL_law 893 = .ok (.iadd, 1) := by decide +kernel
theorem dL_law_894 : decode cL_law 894 = .ok (.iaload, 1) := by decide +kernel
theorem dL_law_895 : decode cL_law 895 = .ok (.aload_n 0, 1) := by decide +kernel
theorem dL_law_896 : decode cL_law 896 = .ok (.iload_n 3, 1) := by decide +kernel
theorem dL_law_897 : decode cL_law 897 = .ok (.iconst 3, 1) := by decide +kernel
theorem dL_law_898 : decode cL_law 898 = .ok (.iadd, 1) := by decide +kernel
theorem dL_law_899 : decode cL_law 899 = .ok (.iaload, 1) := by decide +kernel
theorem dL_law_900 : decode cL_law 900 = .ok (.invokevirtual 100, 3) := by decide +kernel
theorem dL_law_903 : decode cL_law 903 = .ok (.aload_n 2, 1) := by decide +kernel
theorem dL_law_904 : decode cL_law 904 = .ok (.aload_n 0, 1) := by decide +kernel
theorem dL_law_905 : decode cL_law 905 = .ok (.iload_n 3, 1) := by decide +kernel
theorem dL_law_906 : decode cL_law 906 = .ok (.iconst 1, 1) := by decide +kernel
theorem dL_law_907 : decode cL_law 907 = .ok (.iadd, 1) := by decide +kernel
theorem dL_law_908 : decode cL_law 908 = .ok (.iaload, 1) := by decide +kernel
theorem dL_law_909 : decode cL_law 909 = .ok (.aload_n 0, 1) := by decide +kernel
theorem dL_law_910 : decode cL_law 910 = .ok (.iload_n 3, 1) := by decide +kernel
theorem dL_law_911 : decode cL_law 911 = .ok (.iconst 2, 1) := by decide +kernel
theorem dL_law_912 : decode cL_law 912 = .ok (.iadd, 1) := by decide +kernel
theorem dL_law_913 : decode cL_law 913 = .ok (.iaload, 1) := by decide +kernel
theorem dL_law_914 : decode cL_law 914 = .ok (.aload_n 0, 1) := by decide +kernel
theorem dL_law_915 : decode cL_law 915 = .ok (.iload_n 3, 1) := by decide +kernel
theorem dL_law_916 : decode cL_law 916 = .ok (.iconst 3, 1) := by decide +kernel
theorem dL_law_917 : decode cL_law 917 = .ok (.iadd, 1) := by decide +kernel
theorem dL_law_918 : decode cL_law 918 = .ok (.iaload, 1) := by decide +kernel
theorem dL_law_919 : decode cL_law 919 = .ok (.invokevirtual 103, 3) := by decide +kernel
theorem dL_law_922 : decode cL_law 922 = .ok (.if_icmp .eq 409, 3) := by decide +kernel
theorem dL_law_925 : decode cL_law 925 = .ok (.iconst 0, 1) := by decide +kernel
theorem dL_law_926 : decode cL_law 926 = .ok (.ireturn, 1) := by decide +kernel
theorem dL_law_927 : decode cL_law 927 = .ok (.aload_n 1, 1) := by decide +kernel
theorem dL_law_928 : decode cL_law 928 = .ok (.aload_n 0, 1) := by decide +kernel
theorem dL_law_929 : decode cL_law 929 = .ok (.iload_n 3, 1) := by decide +kernel
theorem dL_law_930 : decode cL_law 930 = .ok (.iconst 1, 1) := by decide +kernel
theorem dL_law_931 : decode cL_law 931 = .ok (.iadd, 1) := by decide +kernel
theorem dL_law_932 : decode cL_law 932 = .ok (.iaload, 1) := by decide +kernel
theorem dL_law_933 : decode cL_law 933 = .ok (.aload_n 0, 1) := by decide +kernel
theorem dL_law_934 : decode cL_law 934 = .ok (.iload_n 3, 1) := by decide +kernel
theorem dL_law_935 : decode cL_law 935 = .ok (.iconst 2, 1) := by decide +kernel
theorem dL_law_936 : decode cL_law 936 = .ok (.iadd, 1) := by decide +kernel
theorem dL_law_937 : decode cL_law 937 = .ok (.iaload, 1) := by decide +kernel
theorem dL_law_938 : decode cL_law 938 = .ok (.aload_n 0, 1) := by decide +kernel
theorem dL_law_939 : decode cL_law 939 = .ok (.iload_n 3, 1) := by decide +kernel
theorem dL_law_940 : decode cL_law 940 = .ok (.iconst 3, 1) := by decide +kernel
theorem dL_law_941 : decode cL_law 941 = .ok (.iadd, 1) := by decide +kernel
theorem dL_law_942 : decode cL_law 942 = .ok (.iaload, 1) := by decide +kernel
theorem dL_law_943 : decode cL_law 943 = .ok (.invokevirtual 104, 3) := by decide +kernel
theorem dL_law_946 : decode cL_law 946 = .ok (.aload_n 2, 1) := by decide +kernel
theorem dL_law_947 : decode cL_law 947 = .ok (.aload_n 0, 1) := by decide +kernel
theorem dL_law_948 : decode cL_law 948 = .ok (.iload_n 3, 1) := by decide +kernel
theorem dL_law_949 : decode cL_law 949 = .ok (.iconst 1, 1) := by decide +kernel
theorem dL_law_950 : decode cL_law 950 = .ok (.iadd, 1) := by decide +kernel
theorem dL_law_951 : decode cL_law 951 = .ok (.iaload, 1) := by decide +kernel
theorem dL_law_952 : decode cL_law 952 = .ok (.aload_n 0, 1) := by decide +kernel
theorem dL_law_953 : decode cL_law 953 = .ok (.iload_n 3, 1) := by decide +kernel
theorem dL_law_954 : decode cL_law 954 = .ok (.iconst 2, 1) := by decide +kernel
theorem dL_law_955 : decode cL_law 955 = .ok (.iadd, 1) := by decide +kernel
theorem dL_law_956 : decode cL_law 956 = .ok (.iaload, 1) := by decide +kernel
theorem dL_law_957 : decode cL_law 957 = .ok (.aload_n 0, 1) := by decide +kernel
theorem dL_law_958 : decode cL_law 958 = .ok (.iload_n 3, 1) := by decide +kernel
theorem dL_law_959 : decode cL_law 959 = .ok (.iconst 3, 1) := by decide +kernel
theorem dL_law_960 : decode cL_law 960 = .ok (.iadd, 1) := by decide +kernel
theorem dL_law_961 : decode cL_law 961 = .ok (.iaload, 1) := by decide +kernel
theorem dL_law_962 : decode cL_law 962 = .ok (.invokevirtual 107, 3) := by decide +kernel
theorem dL_law_965 : decode cL_law 965 = .ok (.if_icmp .eq 366, 3) := by decide +kernel
theorem dL_law_968 : decode cL_law 968 = .ok (.iconst 0, 1) := by decide +kernel
theorem dL_law_969 : decode cL_law 969 = .ok (.ireturn, 1) := by decide +kernel
theorem dL_law_970 : decode cL_law 970 = .ok (.aload_n 1, 1) := by decide +kernel
theorem dL_law_971 : decode cL_law 971 = .ok (.aload_n 0, 1) := by decide +kernel
theorem dL_law_972 : decode cL_law 972 = .ok (.iload_n 3, 1) := by decide +kernel
theorem dL_law_973 : decode cL_law 973 = .ok (.iconst 1, 1) := by decide +kernel
theorem dL_law_974 : decode cL_law 974 = .ok (.iadd, 1) := by decide +kernel
theorem dL_law_975 : decode cL_law 975 = .ok (.iaload, 1) := by decide +kernel
theorem dL_law_976 : decode cL_law 976 = .ok (.aload_n 0, 1) := by decide +kernel
theorem dL_law_977 : decode cL_law 977 = .ok (.iload_n 3, 1) := by decide +kernel
theorem dL_law_978 : decode cL_law 978 = .ok (.iconst 2, 1) := by decide +kernel
theorem dL_law_979 : decode cL_law 979 = .ok (.iadd, 1) := by decide +kernel
theorem dL_law_980 : decode cL_law 980 = .ok (.iaload, 1) := by decide +kernel
theorem dL_law_981 : decode cL_law 981 = .ok (.aload_n 0, 1) := by decide +kernel
theorem dL_law_982 : decode cL_law 982 = .ok (.iload_n 3, 1) := by decide +kernel
theorem dL_law_983 : decode cL_law 983 = .ok (.iconst 3, 1) := by decide +kernel
theorem dL_law_984 : decode cL_law 984 = .ok (.iadd, 1) := by decide +kernel
theorem dL_law_985 : decode cL_law 985 = .ok (.iaload, 1) := by decide +kernel
theorem dL_law_986 : decode cL_law 986 = .ok (.invokevirtual 108, 3) := by decide +kernel
theorem dL_law_989 : decode cL_law 989 = .ok (.aload_n 2, 1) := by decide +kernel
theorem dL_law_990 : decode cL_law 990 = .ok (.aload_n 0, 1) := by decide +kernel
theorem dL_law_991 : decode cL_law 991 = .ok (.iload_n 3, 1) := by decide +kernel
theorem dL_law_992 : decode cL_law 992 = .ok (.iconst 1, 1) := by decide +kernel
theorem dL_law_993 : decode cL_law 993 = .ok (.iadd, 1) := by decide +kernel
theorem dL_law_994 : decode cL_law 994 = .ok (.iaload, 1) := by decide +kernel
theorem dL_law_995 : decode cL_law 995 = .ok (.aload_n 0, 1) := by decide +kernel
theorem dL_law_996 : decode cL_law 996 = .ok (.iload_n 3, 1) := by decide +kernel
theorem dL_law_997 : decode cL_law 997 = .ok (.iconst 2, 1) := by decide +kernel
theorem dL_law_998 : decode cL_law 998 = .ok (.iadd, 1) := by decide +kernel
theorem dL_law_999 : decode cL_law 999 = .ok (.iaload, 1) := by decide +kernel
theorem dL_law_1000 : decode cL_law 1000 = .ok (.aload_n 0, 1) := by decide +kernel
theorem dL_law_1001 : decode cL_law 1001 = .ok (.iload_n 3, 1) := by decide +kernel
theorem dL_law_1002 : decode cL_law 1002 = .ok (.iconst 3, 1) := by decide +kernel
theorem dL_law_1003 : decode cL_law 1003 = .ok (.iadd, 1) := by decide +kernel
theorem dL_law_1004 : decode cL_law 1004 = .ok (.iaload, 1) := by decide +kernel
theorem dL_law_1005 : decode cL_law 1005 = .ok (.invokevirtual 112, 3) := by decide +kernel
theorem dL_law_1008 : decode cL_law 1008 = .ok (.lcmp, 1) := by decide +kernel
theorem dL_law_1009 : decode cL_law 1009 = .ok (.ifCond .eq 322, 3) := by decide +kernel
theorem dL_law_1012 : decode cL_law 1012 = .ok (.iconst 0, 1) := by decide +kernel
theorem dL_law_1013 : decode cL_law 1013 = .ok (.ireturn, 1) := by decide +kernel
theorem dL_law_1014 : decode cL_law 1014 = .ok (.aload_n 1, 1) := by decide +kernel
theorem dL_law_1015 : decode cL_law 1015 = .ok (.aload_n 0, 1) := by decide +kernel
theorem dL_law_1016 : decode cL_law 1016 = .ok (.iload_n 3, 1) := by decide +kernel
theorem dL_law_1017 : decode cL_law 1017 = .ok (.iconst 1, 1) := by decide +kernel
theorem dL_law_1018 : decode cL_law 1018 = .ok (.iadd, 1) := by decide +kernel
theorem dL_law_1019 : decode cL_law 1019 = .ok (.iaload, 1) := by decide +kernel
theorem dL_law_1020 : decode cL_law 1020 = .ok (.aload_n 0, 1) := by decide +kernel
theorem dL_law_1021 : decode cL_law 1021 = .ok (.iload_n 3, 1) := by decide +kernel
theorem dL_law_1022 : decode cL_law 1022 = .ok (.iconst 2, 1) := by decide +kernel
theorem dL_law_1023 : decode cL_law 1023 = .ok (.iadd, 1) := by decide +kernel
theorem dL_law_1024 : decode cL_law 1024 = .ok (.iaload, 1) := by decide +kernel
theorem dL_law_1025 : decode cL_law 1025 = .ok (.invokevirtual 113, 3) := by decide +kernel
theorem dL_law_1028 : decode cL_law 1028 = .ok (.aload_n 2, 1) := by decide +kernel
theorem dL_law_1029 : decode cL_law 1029 = .ok (.aload_n 0, 1) := by decide +kernel
theorem dL_law_1030 : decode cL_law 1030 = .ok (.iload_n 3, 1) := by decide +kernel
theorem dL_law_1031 : decode cL_law 1031 = .ok (.iconst 1, 1) := by decide +kernel
theorem dL_law_1032 : decode cL_law 1032 = .ok (.iadd, 1) := by decide +kernel
theorem dL_law_1033 : decode cL_law 1033 = .ok (.iaload, 1) := by decide +kernel
theorem dL_law_1034 : decode cL_law 1034 = .ok (.aload_n 0, 1) := by decide +kernel
theorem dL_law_1035 : decode cL_law 1035 = .ok (.iload_n 3, 1) := by decide +kernel
theorem dL_law_1036 : decode cL_law 1036 = .ok (.iconst 2, 1) := by decide +kernel
theorem dL_law_1037 : decode cL_law 1037 = .ok (.iadd, 1) := by decide +kernel
theorem dL_law_1038 : decode cL_law 1038 = .ok (.iaload, 1) := by decide +kernel
theorem dL_law_1039 : decode cL_law 1039 = .ok (.invokevirtual 116, 3) := by decide +kernel
end
section
theorem dL_law_1042 : decode cL_law 1042 = .ok (.if_icmp .eq 289, 3) := by decide +kernel
theorem dL_law_1045 : decode cL_law 1045 = .ok (.iconst 0, 1) := by decide +kernel
theorem dL_law_1046 : decode cL_law 1046 = .ok (.ireturn, 1) := by decide +kernel
theorem dL_law_1047 : decode cL_law 1047 = .ok (.aload_n 1, 1) := by decide +kernel
theorem dL_law_1048 : decode cL_law 1048 = .ok (.invokevirtual 117, 3) := by decide +kernel
theorem dL_law_1051 : decode cL_law 1051 = .ok (.aload_n 2, 1) := by decide +kernel
theorem dL_law_1052 : decode cL_law 1052 = .ok (.invokevirtual 120, 3) := by decide +kernel
theorem dL_law_1055 : decode cL_law 1055 = .ok (.if_icmp .eq 276, 3) := by decide +kernel
theorem dL_law_1058 : decode cL_law 1058 = .ok (.iconst 0, 1) := by decide +kernel
theorem dL_law_1059 : decode cL_law 1059 = .ok (.ireturn, 1) := by decide +kernel
theorem dL_law_1060 : decode cL_law 1060 = .ok (.aload_n 1, 1) := by decide +kernel
theorem dL_law_1061 : decode cL_law 1061 = .ok (.invokevirtual 121, 3) := by decide +kernel
theorem dL_law_1064 : decode cL_law 1064 = .ok (.aload_n 2, 1) := by decide +kernel
theorem dL_law_1065 : decode cL_law 1065 = .ok (.invokevirtual 124, 3) := by decide +kernel
theorem dL_law_1068 : decode cL_law 1068 = .ok (.if_icmp .eq 263, 3) := by decide +kernel
theorem dL_law_1071 : decode cL_law 1071 = .ok (.iconst 0, 1) := by decide +kernel
theorem dL_law_1072 : decode cL_law 1072 = .ok (.ireturn, 1) := by decide +kernel
theorem dL_law_1073 : decode cL_law 1073 = .ok (.aload_n 1, 1) := by decide +kernel
theorem dL_law_1074 : decode cL_law 1074 = .ok (.aload_n 0, 1) := by decide +kernel
theorem dL_law_1075 : decode cL_law 1075 = .ok (.iload_n 3, 1) := by decide +kernel
theorem dL_law_1076 : decode cL_law 1076 = .ok (.iconst 1, 1) := by decide +kernel
theorem dL_law_1077 : decode cL_law 1077 = .ok (.iadd, 1) := by decide +kernel
theorem dL_law_1078 : decode cL_law 1078 = .ok (.iaload, 1) := by decide +kernel
theorem dL_law_1079 : decode cL_law 1079 = .ok (.invokevirtual 125, 3) := by decide +kernel
theorem dL_law_1082 : decode cL_law 1082 = .ok (.aload_n 2, 1) := by decide +kernel
theorem dL_law_1083 : decode cL_law 1083 = .ok (.aload_n 0, 1) := by decide +kernel
theorem dL_law_1084 : decode cL_law 1084 = .ok (.iload_n 3, 1) := by decide +kernel
theorem dL_law_1085 : decode cL_law 1085 = .ok (.iconst 1, 1) := by decide +kernel
theorem dL_law_1086 : decode cL_law 1086 = .ok (.iadd, 1) := by decide +kernel
theorem dL_law_1087 : decode cL_law 1087 = .ok (.iaload, 1) := by decide +kernel
theorem dL_law_1088 : decode cL_law 1088 = .ok (.invokevirtual 128, 3) := by decide +kernel
theorem dL_law_1091 : decode cL_law 1091 = .ok (.if_icmp .eq 240, 3) := by decide +kernel
theorem dL_law_1094 : decode cL_law 1094 = .ok (.iconst 0, 1) := by decide +kernel
theorem dL_law_1095 : decode cL_law 1095 = .ok (.ireturn, 1) := by decide +kernel
theorem dL_law_1096 : decode cL_law 1096 = .ok (.aload_n 1, 1) := by decide +kernel
theorem dL_law_1097 : decode cL_law 1097 = .ok (.aload_n 0, 1) := by decide +kernel
theorem dL_law_1098 : decode cL_law 1098 = .ok (.iload_n 3, 1) := by decide +kernel
theorem dL_law_1099 : decode cL_law 1099 = .ok (.iconst 1, 1) := by decide +kernel
theorem dL_law_1100 : decode cL_law 1100 = .ok (.iadd, 1) := by decide +kernel
theorem dL_law_1101 : decode cL_law 1101 = .ok (.iaload, 1) := by decide +kernel
theorem dL_law_1102 : decode cL_law 1102 = .ok (.aload_n 0, 1) := by decide +kernel
theorem dL_law_1103 : decode cL_law 1103 = .ok (.iload_n 3, 1) := by decide +kernel
theorem dL_law_1104 : decode cL_law 1104 = .ok (.iconst 2, 1) := by decide +kernel
theorem dL_law_1105 : decode cL_law 1105 = .ok (.iadd, 1) := by decide +kernel
theorem dL_law_1106 : decode cL_law 1106 = .ok (.iaload, 1) := by decide +kernel
theorem dL_law_1107 : decode cL_law 1107 = .ok (.aload_n 0, 1) := by decide +kernel
theorem dL_law_1108 : decode cL_law 1108 = .ok (.iload_n 3, 1) := by decide +kernel
theorem dL_law_1109 : decode cL_law 1109 = .ok (.iconst 3, 1) := by decide +kernel
theorem dL_law_1110 : decode cL_law 1110 = .ok (.iadd, 1) := by decide +kernel
theorem dL_law_1111 : decode cL_law 1111 = .ok (.iaload, 1) := by decide +kernel
theorem dL_law_1112 : decode cL_law 1112 = .ok (.invokevirtual 129, 3) := by decide +kernel
theorem dL_law_1115 : decode cL_law 1115 = .ok (.aload_n 2, 1) := by decide +kernel
theorem dL_law_1116 : decode cL_law 1116 = .ok (.aload_n 0, 1) := by decide +kernel
theorem dL_law_1117 : decode cL_law 1117 = .ok (.iload_n 3, 1) := by decide +kernel
theorem dL_law_1118 : decode cL_law 1118 = .ok (.iconst 1, 1) := by decide +kernel
theorem dL_law_1119 : decode cL_law 1119 = .ok (.iadd, 1) := by decide +kernel
theorem dL_law_1120 : decode cL_law 1120 = .ok (.iaload, 1) := by decide +kernel
theorem dL_law_1121 : decode cL_law 1121 = .ok (.aload_n 0, 1) := by decide +kernel
theorem dL_law_1122 : decode cL_law 1122 = .ok (.iload_n 3, 1) := by decide +kernel
theorem dL_law_1123 : decode cL_law 1123 = .ok (.iconst 2, 1) := by decide +kernel
theorem dL_law_1124 : decode cL_law 1124 = .ok (.iadd, 1) := by decide +kernel
theorem dL_law_1125 : decode cL_law 1125 = .ok (.iaload, 1) := by decide +kernel
theorem dL_law_1126 : decode cL_law 1126 = .ok (.aload_n 0, 1) := by decide +kernel
theorem dL_law_1127 : decode cL_law 1127 = .ok (.iload_n 3, 1) := by decide +kernel
theorem dL_law_1128 : decode cL_law 1128 = .ok (.iconst 3, 1) := by decide +kernel
theorem dL_law_1129 : decode cL_law 1129 = .ok (.iadd, 1) := by decide +kernel
theorem dL_law_1130 : decode cL_law 1130 = .ok (.iaload, 1) := by decide +kernel
theorem dL_law_1131 : decode cL_law 1131 = .ok (.invokevirtual 132, 3) := by decide +kernel
theorem dL_law_1134 : decode cL_law 1134 = .ok (.if_icmp .eq 197, 3) := by decide +kernel
theorem dL_law_1137 : decode cL_law 1137 = .ok (.iconst 0, 1) := by decide +kernel
theorem dL_law_1138 : decode cL_law 1138 = .ok (.ireturn, 1) := by decide +kernel
theorem dL_law_1139 : decode cL_law 1139 = .ok (.aload_n 1, 1) := by decide +kernel
theorem dL_law_1140 : decode cL_law 1140 = .ok (.aload_n 0, 1) := by decide +kernel
theorem dL_law_1141 : decode cL_law 1141 = .ok (.iload_n 3, 1) := by decide +kernel
theorem dL_law_1142 : decode cL_law 1142 = .ok (.iconst 1, 1) := by decide +kernel
theorem dL_law_1143 : decode cL_law 1143 = .ok (.iadd, 1) := by decide +kernel
theorem dL_law_1144 : decode cL_law 1144 = .ok (.iaload, 1) := by decide +kernel
theorem dL_law_1145 : decode cL_law 1145 = .ok (.aload_n 0, 1) := by decide +kernel
theorem dL_law_1146 : decode cL_law 1146 = .ok (.iload_n 3, 1) := by decide +kernel
theorem dL_law_1147 : decode cL_law 1147 = .ok (.iconst 2, 1) := by decide +kernel
theorem dL_law_1148 : decode cL_law 1148 = .ok (.iadd, 1) := by decide +kernel
theorem dL_law_1149 : decode cL_law 1149 = .ok (.iaload, 1) := by decide +kernel
theorem dL_law_1150 : decode cL_law 1150 = .ok (.aload_n 0, 1) := by decide +kernel
theorem dL_law_1151 : decode cL_law 1151 = .ok (.iload_n 3, 1) := by decide +kernel
theorem dL_law_1152 : decode cL_law 1152 = .ok (.iconst 3, 1) := by decide +kernel
theorem dL_law_1153 : decode cL_law 1153 = .ok (.iadd, 1) := by decide +kernel
theorem dL_law_1154 : decode cL_law 1154 = .ok (.iaload, 1) := by decide +kernel
theorem dL_law_1155 : decode cL_law 1155 = .ok (.invokevirtual 133, 3) := by decide +kernel
theorem dL_law_1158 : decode cL_law 1158 = .ok (.aload_n 2, 1) := by decide +kernel
theorem dL_law_1159 : decode cL_law 1159 = .ok (.aload_n 0, 1) := by decide +kernel
theorem dL_law_1160 : decode cL_law 1160 = .ok (.iload_n 3, 1) := by decide +kernel
theorem dL_law_1161 : decode cL_law 1161 = .ok (.iconst 1, 1) := by decide +kernel
theorem dL_law_1162 : decode cL_law 1162 = .ok (.iadd, 1) := by decide +kernel
theorem dL_law_1163 : decode cL_law 1163 = .ok (.iaload, 1) := by decide +kernel
theorem dL_law_1164 : decode cL_law 1164 = .ok (.aload_n 0, 1) := by decide +kernel
theorem dL_law_1165 : decode cL_law 1165 = .ok (.iload_n 3, 1) := by decide +kernel
theorem dL_law_1166 : decode cL_law 1166 = .ok (.iconst 2, 1) := by decide +kernel
theorem dL_law_1167 : decode cL_law 1167 = .ok (.iadd, 1) := by decide +kernel
theorem dL_law_1168 : decode cL_law 1168 = .ok (.iaload, 1) := by decide +kernel
theorem dL_law_1169 : decode cL_law 1169 = .ok (.aload_n 0, 1) := by decide +kernel
theorem dL_law_1170 : decode cL_law 1170 = .ok (.iload_n 3, 1) := by decide +kernel
theorem dL_law_1171 : decode cL_law 1171 = .ok (.iconst 3, 1) := by decide +kernel
theorem dL_law_1172 : decode cL_law 1172 = .ok (.iadd, 1) := by decide +kernel
theorem dL_law_1173 : decode cL_law 1173 = .ok (.iaload, 1) := by decide +kernel
theorem dL_law_1174 : decode cL_law 1174 = .ok (.invokevirtual 136, 3) := by decide +kernel
theorem dL_law_1177 : decode cL_law 1177 = .ok (.if_icmp .eq 154, 3) := by decide +kernel
theorem dL_law_1180 : decode cL_law 1180 = .ok (.iconst 0, 1) := by decide +kernel
theorem dL_law_1181 : decode cL_law 1181 = .ok (.ireturn, 1) := by decide +kernel
theorem dL_law_1182 : decode cL_law 1182 = .ok (.aload_n 1, 1) := by decide +kernel
theorem dL_law_1183 : decode cL_law 1183 = .ok (.aload_n 0, 1) := by decide +kernel
theorem dL_law_1184 : decode cL_law 1184 = .ok (.iload_n 3, 1) := by decide +kernel
theorem dL_law_1185 : decode cL_law 1185 = .ok (.iconst 1, 1) := by decide +kernel
theorem dL_law_1186 : decode cL_law 1186 = .ok (.iadd, 1) := by decide +kernel
theorem dL_law_1187 : decode cL_law 1187 = .ok (.iaload, 1) := by decide +kernel
theorem dL_law_1188 : decode cL_law 1188 = .ok (.aload_n 0, 1) := by decide +kernel
theorem dL_law_1189 : decode cL_law 1189 = .ok (.iload_n 3, 1) := by decide +kernel
theorem dL_law_1190 : decode cL_law 1190 = .ok (.iconst 2, 1) := by decide +kernel
theorem dL_law_1191 : decode cL_law 1191 = .ok (.iadd, 1) := by decide +kernel
theorem dL_law_1192 : decode cL_law 1192 = .ok (.iaload, 1) := by decide +kernel
theorem dL_law_1193 : decode cL_law 1193 = .ok (.aload_n 0, 1) := by decide +kernel
theorem dL_law_1194 : decode cL_law 1194 = .ok (.iload_n 3, 1) := by decide +kernel
theorem dL_law_1195 : decode cL_law 1195 = .ok (.iconst 3, 1) := by decide +kernel
theorem dL_law_1196 : decode cL_law 1196 = .ok (.iadd, 1) := by decide +kernel
theorem dL_law_1197 : decode cL_law 1197 = .ok (.iaload, 1) := by decide +kernel
theorem dL_law_1198 : decode cL_law 1198 = .ok (.aload_n 0, 1) := by decide +kernel
theorem dL_law_1199 : decode cL_law 1199 = .ok (.iload_n 3, 1) := by decide +kernel
theorem dL_law_1200 : decode cL_law 1200 = .ok (.iconst 4, 1) := by decide +kernel
theorem dL_law_1201 : decode cL_law 1201 = .ok (.iadd, 1) := by decide +kernel
theorem dL_law_1202 : decode cL_law 1202 = .ok (.iaload, 1) := by decide +kernel
theorem dL_law_1203 : decode cL_law 1203 = .ok (.aload_n 0, 1) := by decide +kernel
theorem dL_law_1204 : decode cL_law 1204 = .ok (.iload_n 3, 1) := by decide +kernel
theorem dL_law_1205 : decode cL_law 1205 = .ok (.iconst 5, 1) := by decide +kernel
theorem dL_law_1206 : decode cL_law 1206 = .ok (.iadd, 1) := by decide +kernel
theorem dL_law_1207 : decode cL_law 1207 = .ok (.iaload, 1) := by decide +kernel
theorem dL_law_1208 : decode cL_law 1208 = .ok (.invokevirtual 137, 3) := by decide +kernel
theorem dL_law_1211 : decode cL_law 1211 = .ok (.aload_n 2, 1) := by decide +kernel
theorem dL_law_1212 : decode cL_law 1212 = .ok (.aload_n 0, 1) := by decide +kernel
theorem dL_law_1213 : decode cL_law 1213 = .ok (.iload_n 3, 1) := by decide +kernel
theorem dL_law_1214 : decode cL_law 1214 = .ok (.iconst 1, 1) := by decide +kernel
theorem dL_law_1215 : decode cL_law 1215 = .ok (.iadd, 1) := by decide +kernel
theorem dL_law_1216 : decode cL_law 1216 = .ok (.iaload, 1) := by decide +kernel
theorem dL_law_1217 : decode cL_law 1217 = .ok (.aload_n 0, 1) := by decide +kernel
theorem dL_law_1218 : decode cL_law 1218 = .ok (.iload_n 3, 1) := by decide +kernel
theorem dL_law_1219 : decode cL_law 1219 = .ok (.iconst 2, 1) := by decide +kernel
theorem dL_law_1220 : decode cL_law 1220 = .ok (.iadd, 1) := by decide +kernel
theorem dL_law_1221 : decode cL_law 1221 = .ok (.iaload, 1) := by decide +kernel
theorem dL_law_1222 : decode cL_law 1222 = .ok (.aload_n 0, 1) := by decide +kernel
theorem dL_law_1223 : decode cL_law 1223 = .ok (.iload_n 3, 1) := by decide +kernel
theorem dL_law_1224 : decode cL_law 1224 = .ok (.iconst 3, 1) := by decide +kernel
theorem dL_law_1225 : decode cL_law 1225 = .ok (.iadd, 1) := by decide +kernel
theorem dL_law_1226 : decode cL_law 1226 = .ok (.iaload, 1) := by decide +kernel
theorem dL_law_1227 : decode cL_law 1227 = .ok (.aload_n 0, 1) := by decide +kernel
theorem dL_law_1228 : decode cL_law 1228 = .ok (.iload_n 3, 1) := by decide +kernel
theorem dL_law_1229 : decode cL_law 1229 = .ok (.iconst 4, 1) := by decide +kernel
theorem dL_law_1230 : decode cL_law 1230 = .ok (.iadd, 1) := by decide +kernel
theorem dL_law_1231 : decode cL_law 1231 = .ok (.iaload, 1) := by decide +kernel
theorem dL_law_1232 : decode cL_law 1232 = .ok (.aload_n 0, 1) := by decide +kernel
theorem dL_law_1233 : decode cL_law 1233 = .ok (.iload_n 3, 1) := by decide +kernel
theorem dL_law_1234 : decode cL_law 1234 = .ok (.iconst 5, 1) := by decide +kernel
theorem dL_law_1235 : decode cL_law 1235 = .ok (.iadd, 1) := by decide +kernel
theorem dL_law_1236 : decode cL_law 1236 = .ok (.iaload, 1) := by decide +kernel
theorem dL_law_1237 : decode cL_law 1237 = .ok (.invokevirtual 140, 3) := by decide +kernel
theorem dL_law_1240 : decode cL_law 1240 = .ok (.if_icmp .eq 91, 3) := by decide +kernel
theorem dL_law_1243 : decode cL_law 1243 = .ok (.iconst 0, 1) := by decide +kernel
theorem dL_law_1244 : decode cL_law 1244 = .ok (.ireturn, 1) := by decide +kernel
theorem dL_law_1245 : decode cL_law 1245 = .ok (.aload_n 1, 1) := by decide +kernel
theorem dL_law_1246 : decode cL_law 1246 = .ok (.aload_n 0, 1) := by decide +kernel
theorem dL_law_1247 : decode cL_law 1247 = .ok (.iload_n 3, 1) := by decide +kernel
theorem dL_law_1248 : decode cL_law 1248 = .ok (.iconst 1, 1) := by decide +kernel
theorem dL_law_1249 : decode cL_law 1249 = .ok (.iadd, 1) := by decide +kernel
theorem dL_law_1250 : decode cL_law 1250 = .ok (.iaload, 1) := by decide +kernel
theorem dL_law_1251 : decode cL_law 1251 = .ok (.aload_n 0, 1) := by decide +kernel
theorem dL_law_1252 : decode cL_law 1252 = .ok (.iload_n 3, 1) := by decide +kernel
theorem dL_law_1253 : decode cL_law 1253 = .ok (.iconst 2, 1) := by decide +kernel
theorem dL_law_1254 : decode cL_law 1254 = .ok (.iadd, 1) := by decide +kernel
theorem dL_law_1255 : decode cL_law 1255 = .ok (.iaload, 1) := by decide +kernel
theorem dL_law_1256 : decode cL_law 1256 = .ok (.aload_n 0, 1) := by decide +kernel
theorem dL_law_1257 : decode cL_law 1257 = .ok (.iload_n 3, 1) := by decide +kernel
theorem dL_law_1258 : decode cL_law 1258 = .ok (.iconst 3, 1) := by decide +kernel
theorem dL_law_1259 : decode cL_law 1259 = .ok (.iadd, 1) := by decide +kernel
theorem dL_law_1260 : decode cL_law 1260 = .ok (.iaload, 1) := by decide +kernel
theorem dL_law_1261 : decode cL_law 1261 = .ok (.aload_n 0, 1) := by decide +kernel
theorem dL_law_1262 : decode cL_law 1262 = .ok (.iload_n 3, 1) := by decide +kernel
theorem dL_law_1263 : decode cL_law 1263 = .ok (.iconst 4, 1) := by decide +kernel
theorem dL_law_1264 : decode cL_law 1264 = .ok (.iadd, 1) := by decide +kernel
theorem dL_law_1265 : decode cL_law 1265 = .ok (.iaload, 1) := by decide +kernel
theorem dL_law_1266 : decode cL_law 1266 = .ok (.invokevirtual 141, 3) := by decide +kernel
theorem dL_law_1269 : decode cL_law 1269 = .ok (.aload_n 2, 1) := by decide +kernel
theorem dL_law_1270 : decode cL_law 1270 = .ok (.aload_n 0, 1) := by decide +kernel
theorem dL_law_1271 : decode cL_law 1271 = .ok (.iload_n 3, 1) := by decide +kernel
theorem dL_law_1272 : decode cL_law 1272 = .ok (.iconst 1, 1) := by decide +kernel
theorem dL_law_1273 : decode cL_law 1273 = .ok (.iadd, 1) := by decide +kernel
theorem dL_law_1274 : decode cL_law 1274 = .ok (.iaload, 1) := by decide +kernel
theorem dL_law_1275 : decode cL_law 1275 = .ok (.aload_n 0, 1) := by decide +kernel
theorem dL_law_1276 : decode cL_law 1276 = .ok (.iload_n 3, 1) := by decide +kernel
theorem dL_law_1277 : decode cL_law 1277 = .ok (.iconst 2, 1) := by decide +kernel
theorem dL_law_1278 : decode cL_law 1278 = .ok (.iadd, 1) := by decide +kernel
theorem dL_law_1279 : decode cL_law 1279 = .ok (.iaload, 1) := by decide +kernel
theorem dL_law_1280 : decode cL_law 1280 = .ok (.aload_n 0, 1) := by decide +kernel
theorem dL_law_1281 : decode cL_law 1281 = .ok (.iload_n 3, 1) := by decide +kernel
theorem dL_law_1282 : decode cL_law 1282 = .ok (.iconst 3, 1) := by decide +kernel
theorem dL_law_1283 : decode cL_law 1283 = .ok (.iadd, 1) := by decide +kernel
theorem dL_law_1284 : decode cL_law 1284 = .ok (.iaload, 1) := by decide +kernel
theorem dL_law_1285 : decode cL_law 1285 = .ok (.aload_n 0, 1) := by decide +kernel
theorem dL_law_1286 : decode cL_law 1286 = .ok (.iload_n 3, 1) := by decide +kernel
theorem dL_law_1287 : decode cL_law 1287 = .ok (.iconst 4, 1) := by decide +kernel
theorem dL_law_1288 : decode cL_law 1288 = .ok (.iadd, 1) := by decide +kernel
theorem dL_law_1289 : decode cL_law 1289 = .ok (.iaload, 1) := by decide +kernel
theorem dL_law_1290 : decode cL_law 1290 = .ok (.invokevirtual 144, 3) := by decide +kernel
theorem dL_law_1293 : decode cL_law 1293 = .ok (.if_icmp .eq 38, 3) := by decide +kernel
theorem dL_law_1296 : decode cL_law 1296 = .ok (.iconst 0, 1) := by decide +kernel
theorem dL_law_1297 : decode cL_law 1297 = .ok (.ireturn, 1) := by decide +kernel
theorem dL_law_1298 : decode cL_law 1298 = .ok (.aload_n 1, 1) := by decide +kernel
theorem dL_law_1299 : decode cL_law 1299 = .ok (.aload_n 0, 1) := by decide +kernel
theorem dL_law_1300 : decode cL_law 1300 = .ok (.iload_n 3, 1) := by decide +kernel
theorem dL_law_1301 : decode cL_law 1301 = .ok (.iconst 1, 1) := by decide +kernel
theorem dL_law_1302 : decode cL_law 1302 = .ok (.iadd, 1) := by decide +kernel
theorem dL_law_1303 : decode cL_law 1303 = .ok (.iaload, 1) := by decide +kernel
theorem dL_law_1304 : decode cL_law 1304 = .ok (.aload_n 0, 1) := by decide +kernel
theorem dL_law_1305 : decode cL_law 1305 = .ok (.iload_n 3, 1) := by decide +kernel
theorem dL_law_1306 : decode cL_law 1306 = .ok (.iconst 2, 1) := by decide +kernel
theorem dL_law_1307 : decode cL_law 1307 = .ok (.iadd, 1) := by decide +kernel
theorem dL_law_1308 : decode cL_law 1308 = .ok (.iaload, 1) := by decide +kernel
theorem dL_law_1309 : decode cL_law 1309 = .ok (.invokevirtual 145, 3) := by decide +kernel
theorem dL_law_1312 : decode cL_law 1312 = .ok (.aload_n 2, 1) := by decide +kernel
theorem dL_law_1313 : decode cL_law 1313 = .ok (.aload_n 0, 1) := by decide +kernel
theorem dL_law_1314 : decode cL_law 1314 = .ok (.iload_n 3, 1) := by decide +kernel
theorem dL_law_1315 : decode cL_law 1315 = .ok (.iconst 1, 1) := by decide +kernel
theorem dL_law_1316 : decode cL_law 1316 = .ok (.iadd, 1) := by decide +kernel
theorem dL_law_1317 : decode cL_law 1317 = .ok (.iaload, 1) := by decide +kernel
theorem dL_law_1318 : decode cL_law 1318 = .ok (.aload_n 0, 1) := by decide +kernel
theorem dL_law_1319 : decode cL_law 1319 = .ok (.iload_n 3, 1) := by decide +kernel
theorem dL_law_1320 : decode cL_law 1320 = .ok (.iconst 2, 1) := by decide +kernel
theorem dL_law_1321 : decode cL_law 1321 = .ok (.iadd, 1) := by decide +kernel
theorem dL_law_1322 : decode cL_law 1322 = .ok (.iaload, 1) := by decide +kernel
theorem dL_law_1323 : decode cL_law 1323 = .ok (.invokevirtual 148, 3) := by decide +kernel
theorem dL_law_1326 : decode cL_law 1326 = .ok (.if_icmp .eq 5, 3) := by decide +kernel
theorem dL_law_1329 : decode cL_law 1329 = .ok (.iconst 0, 1) := by decide +kernel
theorem dL_law_1330 : decode cL_law 1330 = .ok (.ireturn, 1) := by decide +kernel
theorem dL_law_1331 : decode cL_law 1331 = .ok (.iinc 3 6, 3) := by decide +kernel
theorem dL_law_1334 : decode cL_law 1334 = .ok (.goto (-1316), 3) := by decide +kernel
theorem dL_law_1337 : decode cL_law 1337 = .ok (.iconst 1, 1) := by decide +kernel
theorem dL_law_1338 : decode cL_law 1338 = .ok (.ireturn, 1) := by decide +kernel
end
section
/-! THE STORE: a flat, typed picture of all cells that the law's run has made. Cell k (from 0 on, in the order of making) lies at address ad k = b + k. S k = (tag, size): tag below 20: an object of class number tag (of vwCl); 20 int row, 21 boolean row, 22.. rows of references. I, J, R: the ints, longs, references of cell k by slot or place. -/
abbrev rk_Sh : Type := Nat → Nat × Nat
abbrev rk_I : Type := Nat → Nat → Int32
abbrev rk_J : Type := Nat → Nat → Int64
abbrev rk_R : Type := Nat → Nat → Option Nat
/-- what stays the same all along: the addresses, the first cell's address, class numbers, slots, array classes -/
abbrev rk_G : Type := (Nat → Nat) × Nat × (Nat → ClassId) × (Nat → Nat → Nat) × (Nat → ClassId)
abbrev rk_Q : Type := Option Value → Nat → rk_Sh → rk_I → rk_J → rk_R → Prop
def rk_v (ad : Nat → Nat) : Value → Value
  | .ref k => .ref (ad k)
  | v => v
/-- of which sort a field is: 0 an int, 1 a long, 2 a reference -/
def rk_sort : FieldType → Nat
  | .long => 1
  | .object _ => 2
  | .array _ => 2
  | _ => 0
def rk_ty : Nat → Nat → FieldType
  | 0 => tyX0
  | 1 => tyX1
  | 2 => tyX2
  | 3 => tyX3
  | 4 => tyX4
  | 5 => tyX5
  | 6 => tyX6
  | 7 => tyX7
  | 8 => tyX9
  | _ => tyX10
def rk_fv (ad : Nat → Nat) (I : rk_I) (J : rk_J) (R : rk_R) (k : Nat) (sort i : Nat) : Value := match sort with
  | 0 => .int (I k i)
  | 1 => .long (J k i)
  | _ => va_rf ((R k i).map ad)
def rk_fs (ad : Nat → Nat) (S : rk_Sh) (I : rk_I) (J : rk_J) (R : rk_R) (k : Nat) : List Value := (List.range (S k).2).map (fun i => rk_fv ad I J R k (rk_sort (rk_ty (S k).1 i)) i)
def rk_cell (G : rk_G) (S : rk_Sh) (I : rk_I) (J : rk_J) (R : rk_R) (k : Nat) : va_E :=
  if (S k).1 < 20 then .inr ((S k).1, rk_fs G.1 S I J R k)
  else if (S k).1 < 22 then .inl (G.2.2.2.2 (S k).1, (S k).2, .inl (I k))
  else .inl (G.2.2.2.2 (S k).1, (S k).2, .inr (.inr (.inr (.inr (fun i => (R k i).map G.1)))))
def rk_ws (G : rk_G) (n : Nat) (S : rk_Sh) (I : rk_I) (J : rk_J) (R : rk_R) : va_W := (List.range n).map (fun k => (G.1 k, rk_cell G S I J R k))
abbrev rk_D (G : rk_G) : va_G := (G.2.2.1, G.2.2.2.1)
abbrev rk_A (G : rk_G) : Nat → Prop := fun q => G.2.1 ≤ q
def rk_tys (G : rk_G) : List (ClassId × FieldType) := [(G.2.2.2.2 20, .int), (G.2.2.2.2 21, .boolean), (G.2.2.2.2 22, .object RX0), (G.2.2.2.2 23, .object RX5), (G.2.2.2.2 24, .object RX7), (G.2.2.2.2 25, .object RX6)]
/-- the addresses: the cells made lie one behind another; keys from 1000000 on name old cells -/
def rk_ok (G : rk_G) : Prop := (∀ k, k < 1000000 → G.1 k = G.2.1 + k) ∧ ∀ k, 1000000 ≤ k → G.1 k < G.2.1
def rk_At (G : rk_G) (n : Nat) (S : rk_Sh) (I : rk_I) (J : rk_J) (R : rk_R) (H : Heap) : Prop := va_P (rk_D G) vwCl (rk_ws G n S I J R) H ∧ H.size = G.2.1 + n ∧ n ≤ 900000 ∧ ∀ k, n ≤ k → (S k).1 = 99
/-- what the start says of old cells and statics (filled later) -/
def rk_Y (_ : rk_G) (_ : State) : Prop := True
theorem rk_Y_moved {G : rk_G} {s U : State} (_ : s.vm.Alike U.vm) (_ : ∀ q, q < G.2.1 → U.heap[q]? = s.heap[q]?) (_ : rk_Y G s) : rk_Y G U := trivial
def rk_Cx (G : rk_G) (y : MethodName) (cc : ByteArray) (ml : Nat) (rt : Option FieldType) (d : Nat) (p : Program) (Rm : Room) (s : State) (m : MethodId) (args : Array Value) (meth : Method) (c : Code) : Prop :=
  p.tables.exec = Jvm.exec ∧ c.code = cc ∧ meth.sig.returnType = rt ∧ c.maxLocals = ml ∧ s.vm.findClass y.cls = some m.cls ∧ (∀ w ∈ lw_tbl, w.before args s = true) ∧ meth.locks = false ∧ va_K (rk_D G) vwCl (rk_tys G) s ∧ G.2.1 ≤ s.heap.size ∧ meth.name = y.name ∧ d ≤ Rm.frames ∧ 64 * d ≤ Rm.locals ∧ rk_ok G ∧ rk_Y G s
def rk_L (ad : Nat → Nat) (ml : Nat) (lv : List (Option Value)) (ls : Array Slot) : Prop := ls.size = ml ∧ lv_wf ls ∧ ∀ (i : Nat) (v : Value), lv[i]? = some (some v) → ls[i]? = some (.val (rk_v ad v))
/-- how a method ends: its answer and the store behind it -/
def rk_Qc (G : rk_G) (Q : rk_Q) : Array Value → State → Outcome → State → Prop := fun _ s o t => (∃ (v : Option Value) (n : Nat) (S : rk_Sh) (I : rk_I) (J : rk_J) (R : rk_R), o = .returned (v.map (rk_v G.1)) ∧ Q v n S I J R ∧ rk_At G n S I J R t.heap) ∧ va_F (rk_A G) s t
/-- THE WALK'S JUDGEMENT: from this place of method y, with these locals, stack and store, the method returns, and Q holds of answer and store; at most kc cells of ks slots come; at most d frames above -/
def AW (G : rk_G) (l : Launch) (y : MethodName) (cc : ByteArray) (ml : Nat) (rt : Option FieldType) (d kc ks pc : Nat) (lv : List (Option Value)) (st : List Value) (n : Nat) (S : rk_Sh) (I : rk_I) (J : rk_J) (R : rk_R) (Q : rk_Q) : Prop :=
  ∀ (p : Program) (e : Env) (Rm : Room) (s : State) (m : MethodId) (args : Array Value) (below : List Frame) (meth : Method) (c : Code) (H : Heap) (locs : List Loc) (cells slots : Nat) (ls : Array Slot),
    rk_Cx G y cc ml rt d p Rm s m args meth c → rk_At G n S I J R H → va_S (rk_A G) s.heap H locs → rk_L G.1 ml lv ls → cells + kc ≤ Rm.cells ∧ slots + ks ≤ Rm.slots →
    W p l e Rm s m args below meth c H locs cells slots (MQ below (rk_Qc G Q) args s (cells + kc) (slots + ks) (rk_A G)) (F0 m pc ls (st.map (rk_v G.1)))
abbrev rk_rm (d kc ks : Nat) : Room := { frames := d, cells := kc, slots := ks, locals := 64 * d }
def rk_Pc (G : rk_G) (as : List Value) (n : Nat) (S : rk_Sh) (I : rk_I) (J : rk_J) (R : rk_R) : Array Value → State → Prop := fun v U => v = (as.map (rk_v G.1)).toArray ∧ va_K (rk_D G) vwCl (rk_tys G) U ∧ rk_At G n S I J R U.heap ∧ rk_ok G ∧ rk_Y G U
/-- THE CALL'S JUDGEMENT: method y, called with these arguments over this store -/
def CW (G : rk_G) (l : Launch) (y : MethodName) (cc : ByteArray) (ml : Nat) (rt : Option FieldType) (d kc ks : Nat) (as : List Value) (n : Nat) (S : rk_Sh) (I : rk_I) (J : rk_J) (R : rk_R) (Q : rk_Q) : Prop :=
  Met l y (Cond.code y cc ml rt :: lw_tbl) (rk_rm d kc ks) (rk_Pc G as n S I J R) (rk_Qc G Q) kc ks (rk_A G)
/-- the arguments as locals -/
def rk_ent : List Value → List (Option Value)
  | [] => []
  | v :: vs => if v.category = 2 then some v :: none :: rk_ent vs else some v :: rk_ent vs
theorem rk_cat (ad : Nat → Nat) (v : Value) : (rk_v ad v).category = v.category := by cases v <;> rfl
theorem rk_at_lt {G : rk_G} {n : Nat} {S : rk_Sh} {I : rk_I} {J : rk_J} {R : rk_R} {k : Nat} (h : k < n) : (rk_ws G n S I J R)[k]? = some (G.1 k, rk_cell G S I J R k) := by
  unfold rk_ws
  rw [List.getElem?_map, List.getElem?_range h]
  rfl
theorem rk_at_inv {G : rk_G} {n : Nat} {S : rk_Sh} {I : rk_I} {J : rk_J} {R : rk_R} {k : Nat} {q : Nat × va_E} (h : (rk_ws G n S I J R)[k]? = some q) : k < n ∧ q = (G.1 k, rk_cell G S I J R k) := by
  have hk : k < n := by
    have := (List.getElem?_eq_some_iff.mp h).1
    simpa [rk_ws] using this
  rw [rk_at_lt hk] at h
  exact ⟨hk, (Option.some.inj h).symm⟩
theorem rk_D_ok {G : rk_G} {n : Nat} {S : rk_Sh} {I : rk_I} {J : rk_J} {R : rk_R} (hG : rk_ok G) (hn : n ≤ 900000) : va_D (rk_A G) (rk_ws G n S I J R) := by
  refine ⟨fun i j p q hi hj hpq => ?_, fun k q hk => ?_⟩
  · obtain ⟨h1, rfl⟩ := rk_at_inv hi
    obtain ⟨h2, rfl⟩ := rk_at_inv hj
    have e1 := hG.1 i (by omega)
    have e2 := hG.1 j (by omega)
    have : G.1 i = G.1 j := hpq
    omega
  · obtain ⟨h1, rfl⟩ := rk_at_inv hk
    have e1 := hG.1 k (by omega)
    show G.2.1 ≤ G.1 k
    omega
/-- a cell changes -/
theorem rk_ws_set {G : rk_G} {n : Nat} {S : rk_Sh} {I I' : rk_I} {J J' : rk_J} {R R' : rk_R} {k : Nat} {e : va_E} (he : rk_cell G S I' J' R' k = e) (ho : ∀ j, j ≠ k → I' j = I j ∧ J' j = J j ∧ R' j = R j) : (rk_ws G n S I J R).set k (G.1 k, e) = rk_ws G n S I' J' R' := by
  apply List.ext_getElem?
  intro j
  by_cases hj : j = k
  · subst hj
    by_cases hl : j < n
    · rw [List.getElem?_set_self (by simpa [rk_ws] using hl), rk_at_lt hl, he]
    · have h1 : n ≤ j := by omega
      rw [List.getElem?_eq_none (by simpa [rk_ws] using h1), List.getElem?_eq_none (by simpa [rk_ws] using h1)]
  · rw [List.getElem?_set_ne (Ne.symm hj)]
    by_cases hl : j < n
    · rw [rk_at_lt hl, rk_at_lt hl]
      obtain ⟨h1, h2, h3⟩ := ho j hj
      have : rk_cell G S I' J' R' j = rk_cell G S I J R j := by
        unfold rk_cell rk_fs rk_fv
        rw [h1, h2, h3]
      rw [this]
    · have h1 : n ≤ j := by omega
      rw [List.getElem?_eq_none (by simpa [rk_ws] using h1), List.getElem?_eq_none (by simpa [rk_ws] using h1)]
/-- a cell comes -/
theorem rk_ws_push {G : rk_G} {n : Nat} {S S' : rk_Sh} {I I' : rk_I} {J J' : rk_J} {R R' : rk_R} {e : va_E} (he : rk_cell G S' I' J' R' n = e) (ho : ∀ j, j < n → S' j = S j ∧ I' j = I j ∧ J' j = J j ∧ R' j = R j) : rk_ws G n S I J R ++ [(G.1 n, e)] = rk_ws G (n + 1) S' I' J' R' := by
  unfold rk_ws
  rw [List.range_succ, List.map_append, List.map_singleton, he]
  congr 1
  refine List.map_congr_left (fun j hj => ?_)
  obtain ⟨h0, h1, h2, h3⟩ := ho j (List.mem_range.mp hj)
  have : rk_cell G S' I' J' R' j = rk_cell G S I J R j := by
    unfold rk_cell rk_fs rk_fv
    rw [h0, h1, h2, h3]
  rw [this]
/-- what of an int, long or reference changes at one place of one cell -/
def rk_ui (I : rk_I) (k i : Nat) (x : Int32) : rk_I := fun k' i' => if k' = k then (if i' = i then x else I k' i') else I k' i'
def rk_uj (J : rk_J) (k i : Nat) (x : Int64) : rk_J := fun k' i' => if k' = k then (if i' = i then x else J k' i') else J k' i'
def rk_ur (R : rk_R) (k i : Nat) (x : Option Nat) : rk_R := fun k' i' => if k' = k then (if i' = i then x else R k' i') else R k' i'
theorem rk_ui_o {I : rk_I} {k i : Nat} {x : Int32} {j : Nat} (h : j ≠ k) : rk_ui I k i x j = I j := by funext a; simp [rk_ui, h]
theorem rk_uj_o {J : rk_J} {k i : Nat} {x : Int64} {j : Nat} (h : j ≠ k) : rk_uj J k i x j = J j := by funext a; simp [rk_uj, h]
theorem rk_ur_o {R : rk_R} {k i : Nat} {x : Option Nat} {j : Nat} (h : j ≠ k) : rk_ur R k i x j = R j := by funext a; simp [rk_ur, h]
end
section
theorem rk_inj {G : rk_G} (hG : rk_ok G) {q r : Nat} (hq : q < 1000000) (hr : r < 1000000) (h : G.1 q = G.1 r) : q = r := by
  have e1 := hG.1 q hq
  have e2 := hG.1 r hr
  omega
def rk_as (ad : Nat → Nat) (lv : List (Option Value)) : List (Nat × Value) := (List.range lv.length).filterMap (fun i => (lv[i]?.join).map (fun v => (i, rk_v ad v)))
theorem rk_as_mem {ad : Nat → Nat} {lv : List (Option Value)} {q : Nat × Value} : q ∈ rk_as ad lv ↔ ∃ v, lv[q.1]? = some (some v) ∧ q.2 = rk_v ad v := by
  unfold rk_as
  rw [List.mem_filterMap]
  constructor
  · rintro ⟨i, -, hi⟩
    obtain ⟨v, h1, h2⟩ := Option.map_eq_some_iff.mp hi
    subst h2
    exact ⟨v, by simpa [Option.join_eq_some_iff] using h1, rfl⟩
  · rintro ⟨v, h1, h2⟩
    refine ⟨q.1, List.mem_range.mpr (List.getElem?_eq_some_iff.mp h1).1, ?_⟩
    rw [h1]
    show some (q.1, rk_v ad v) = some q
    rw [← h2]
theorem rk_L_has {ad : Nat → Nat} {ml : Nat} {lv : List (Option Value)} {ls : Array Slot} (h : rk_L ad ml lv ls) : lv_has ls ml (rk_as ad lv) := by
  refine ⟨h.1, h.2.1, fun q hq => ?_⟩
  obtain ⟨v, h1, h2⟩ := rk_as_mem.mp hq
  rw [h2]
  exact h.2.2 _ _ h1
def rk_one : Option Value → Bool
  | none => true
  | some v => v.category == 1
/-- behind a store of one slot -/
theorem rk_L_st1 {ad : Nat → Nat} {ml i : Nat} {v : Value} {lv lv' : List (Option Value)} {ls : Array Slot} (h : lv_has ls ml ((i, rk_v ad v) :: (rk_as ad lv).filter (fun q => !(q.1 == i) && !(q.1 + 1 == i && q.2.category == 2)))) (hs : lv.set i (some v) = lv') (hp : ∀ j w, j + 1 = i → lv[j]? = some w → rk_one w = true) : rk_L ad ml lv' ls := by
  refine ⟨h.1, h.2.1, fun j w hj => ?_⟩
  subst hs
  by_cases hji : i = j
  · subst hji
    have hl : i < lv.length := by
      have := (List.getElem?_eq_some_iff.mp hj).1
      simpa using this
    rw [List.getElem?_set_self hl] at hj
    cases hj
    exact h.2.2 _ List.mem_cons_self
  · rw [List.getElem?_set_ne hji] at hj
    refine h.2.2 (j, rk_v ad w) (List.mem_cons_of_mem _ (List.mem_filter.mpr ⟨rk_as_mem.mpr ⟨w, hj, rfl⟩, ?_⟩))
    by_cases hj1 : j + 1 = i
    · have := hp j (some w) hj1 hj
      simp [rk_one] at this
      simp [rk_cat, this, Ne.symm hji]
    · simp [hj1, Ne.symm hji]
/-- behind a store of two slots -/
theorem rk_L_st2 {ad : Nat → Nat} {ml i : Nat} {v : Value} {lv lv' : List (Option Value)} {ls : Array Slot} (h : lv_has ls ml ((i, rk_v ad v) :: (rk_as ad lv).filter (fun q => !(q.1 == i) && (!(q.1 == i + 1) && !(q.1 + 1 == i && q.2.category == 2))))) (hs : (lv.set i (some v)).set (i + 1) none = lv') (hp : ∀ j w, j + 1 = i → lv[j]? = some w → rk_one w = true) : rk_L ad ml lv' ls := by
  refine ⟨h.1, h.2.1, fun j w hj => ?_⟩
  subst hs
  by_cases hj2 : i + 1 = j
  · subst hj2
    rw [List.getElem?_set] at hj
    split at hj
    · split at hj <;> simp at hj
    · exact absurd rfl ‹_›
  · rw [List.getElem?_set_ne hj2] at hj
    by_cases hji : i = j
    · subst hji
      have hl : i < lv.length := by
        have := (List.getElem?_eq_some_iff.mp hj).1
        simpa using this
      rw [List.getElem?_set_self hl] at hj
      cases hj
      exact h.2.2 _ List.mem_cons_self
    · rw [List.getElem?_set_ne hji] at hj
      refine h.2.2 (j, rk_v ad w) (List.mem_cons_of_mem _ (List.mem_filter.mpr ⟨rk_as_mem.mpr ⟨w, hj, rfl⟩, ?_⟩))
      by_cases hj1 : j + 1 = i
      · have := hp j (some w) hj1 hj
        simp [rk_one] at this
        simp [rk_cat, this, Ne.symm hji, Ne.symm hj2]
      · simp [hj1, Ne.symm hji, Ne.symm hj2]
section RK
variable {G : rk_G} {l : Launch} {y : MethodName} {cc : ByteArray} {ml : Nat} {rt : Option FieldType} {d kc ks pc : Nat} {lv : List (Option Value)} {st : List Value} {n : Nat} {S : rk_Sh} {I : rk_I} {J : rk_J} {R : rk_R} {Q : rk_Q}
theorem AW_iconst {i : Int} {v : Int32} (hd : decode cc pc = .ok (.iconst i, 1)) (hv : Int32.ofInt i = v) (k : AW G l y cc ml rt d kc ks (pc + 1) (lv) (.int v :: st) n S I J R Q) :
    AW G l y cc ml rt d kc ks (pc) (lv) (st) n S I J R Q := by
  intro p e Rm s m args below meth c H locs cells slots ls C h1 h2 h3 h4
  exact lv_iconst C.1 C.2.1 hd hv (k _ _ _ _ _ _ _ _ _ _ _ _ _ ls C h1 h2 h3 h4)
theorem AW_bipush {i : Int} {v : Int32} (hd : decode cc pc = .ok (.bipush i, 2)) (hv : (Int8.ofInt i).toInt32 = v) (k : AW G l y cc ml rt d kc ks (pc + 2) (lv) (.int v :: st) n S I J R Q) :
    AW G l y cc ml rt d kc ks (pc) (lv) (st) n S I J R Q := by
  intro p e Rm s m args below meth c H locs cells slots ls C h1 h2 h3 h4
  exact lv_bipush C.1 C.2.1 hd hv (k _ _ _ _ _ _ _ _ _ _ _ _ _ ls C h1 h2 h3 h4)
theorem AW_sipush {i : Int} {v : Int32} (hd : decode cc pc = .ok (.sipush i, 3)) (hv : (Int16.ofInt i).toInt32 = v) (k : AW G l y cc ml rt d kc ks (pc + 3) (lv) (.int v :: st) n S I J R Q) :
    AW G l y cc ml rt d kc ks (pc) (lv) (st) n S I J R Q := by
  intro p e Rm s m args below meth c H locs cells slots ls C h1 h2 h3 h4
  exact lv_sipush C.1 C.2.1 hd hv (k _ _ _ _ _ _ _ _ _ _ _ _ _ ls C h1 h2 h3 h4)
theorem AW_lconst {i : Fin 2} {v : Int64} (hd : decode cc pc = .ok (.lconst i, 1)) (hv : Int64.ofNat (i : Nat) = v) (k : AW G l y cc ml rt d kc ks (pc + 1) (lv) (.long v :: st) n S I J R Q) :
    AW G l y cc ml rt d kc ks (pc) (lv) (st) n S I J R Q := by
  intro p e Rm s m args below meth c H locs cells slots ls C h1 h2 h3 h4
  exact lv_lconst C.1 C.2.1 hd hv (k _ _ _ _ _ _ _ _ _ _ _ _ _ ls C h1 h2 h3 h4)
theorem AW_iadd {x z : Int32} (hd : decode cc pc = .ok (.iadd, 1)) (k : AW G l y cc ml rt d kc ks (pc + 1) (lv) (.int (x + z) :: st) n S I J R Q) :
    AW G l y cc ml rt d kc ks (pc) (lv) (.int z :: .int x :: st) n S I J R Q := by
  intro p e Rm s m args below meth c H locs cells slots ls C h1 h2 h3 h4
  exact lv_iadd C.1 C.2.1 hd (k _ _ _ _ _ _ _ _ _ _ _ _ _ ls C h1 h2 h3 h4)
theorem AW_isub {x z : Int32} (hd : decode cc pc = .ok (.isub, 1)) (k : AW G l y cc ml rt d kc ks (pc + 1) (lv) (.int (x - z) :: st) n S I J R Q) :
    AW G l y cc ml rt d kc ks (pc) (lv) (.int z :: .int x :: st) n S I J R Q := by
  intro p e Rm s m args below meth c H locs cells slots ls C h1 h2 h3 h4
  exact lv_isub C.1 C.2.1 hd (k _ _ _ _ _ _ _ _ _ _ _ _ _ ls C h1 h2 h3 h4)
theorem AW_imul {x z : Int32} (hd : decode cc pc = .ok (.imul, 1)) (k : AW G l y cc ml rt d kc ks (pc + 1) (lv) (.int (x * z) :: st) n S I J R Q) :
    AW G l y cc ml rt d kc ks (pc) (lv) (.int z :: .int x :: st) n S I J R Q := by
  intro p e Rm s m args below meth c H locs cells slots ls C h1 h2 h3 h4
  exact lv_imul C.1 C.2.1 hd (k _ _ _ _ _ _ _ _ _ _ _ _ _ ls C h1 h2 h3 h4)
theorem AW_iand {x z : Int32} (hd : decode cc pc = .ok (.iand, 1)) (k : AW G l y cc ml rt d kc ks (pc + 1) (lv) (.int (x &&& z) :: st) n S I J R Q) :
    AW G l y cc ml rt d kc ks (pc) (lv) (.int z :: .int x :: st) n S I J R Q := by
  intro p e Rm s m args below meth c H locs cells slots ls C h1 h2 h3 h4
  exact lv_iand C.1 C.2.1 hd (k _ _ _ _ _ _ _ _ _ _ _ _ _ ls C h1 h2 h3 h4)
theorem AW_ior {x z : Int32} (hd : decode cc pc = .ok (.ior, 1)) (k : AW G l y cc ml rt d kc ks (pc + 1) (lv) (.int (x ||| z) :: st) n S I J R Q) :
    AW G l y cc ml rt d kc ks (pc) (lv) (.int z :: .int x :: st) n S I J R Q := by
  intro p e Rm s m args below meth c H locs cells slots ls C h1 h2 h3 h4
  exact lv_ior C.1 C.2.1 hd (k _ _ _ _ _ _ _ _ _ _ _ _ _ ls C h1 h2 h3 h4)
theorem AW_ixor {x z : Int32} (hd : decode cc pc = .ok (.ixor, 1)) (k : AW G l y cc ml rt d kc ks (pc + 1) (lv) (.int (x ^^^ z) :: st) n S I J R Q) :
    AW G l y cc ml rt d kc ks (pc) (lv) (.int z :: .int x :: st) n S I J R Q := by
  intro p e Rm s m args below meth c H locs cells slots ls C h1 h2 h3 h4
  exact lv_ixor C.1 C.2.1 hd (k _ _ _ _ _ _ _ _ _ _ _ _ _ ls C h1 h2 h3 h4)
theorem AW_ishl {x z : Int32} (hd : decode cc pc = .ok (.ishl, 1)) (k : AW G l y cc ml rt d kc ks (pc + 1) (lv) (.int (x <<< (z &&& 31)) :: st) n S I J R Q) :
    AW G l y cc ml rt d kc ks (pc) (lv) (.int z :: .int x :: st) n S I J R Q := by
  intro p e Rm s m args below meth c H locs cells slots ls C h1 h2 h3 h4
  exact lv_ishl C.1 C.2.1 hd (k _ _ _ _ _ _ _ _ _ _ _ _ _ ls C h1 h2 h3 h4)
theorem AW_ishr {x z : Int32} (hd : decode cc pc = .ok (.ishr, 1)) (k : AW G l y cc ml rt d kc ks (pc + 1) (lv) (.int (x >>> (z &&& 31)) :: st) n S I J R Q) :
    AW G l y cc ml rt d kc ks (pc) (lv) (.int z :: .int x :: st) n S I J R Q := by
  intro p e Rm s m args below meth c H locs cells slots ls C h1 h2 h3 h4
  exact lv_ishr C.1 C.2.1 hd (k _ _ _ _ _ _ _ _ _ _ _ _ _ ls C h1 h2 h3 h4)
theorem AW_idiv {x z : Int32} (hd : decode cc pc = .ok (.idiv, 1)) (hz : ¬ z = 0) (k : AW G l y cc ml rt d kc ks (pc + 1) (lv) (.int (x / z) :: st) n S I J R Q) :
    AW G l y cc ml rt d kc ks (pc) (lv) (.int z :: .int x :: st) n S I J R Q := by
  intro p e Rm s m args below meth c H locs cells slots ls C h1 h2 h3 h4
  exact lv_idiv C.1 C.2.1 hd hz (k _ _ _ _ _ _ _ _ _ _ _ _ _ ls C h1 h2 h3 h4)
theorem AW_irem {x z : Int32} (hd : decode cc pc = .ok (.irem, 1)) (hz : ¬ z = 0) (k : AW G l y cc ml rt d kc ks (pc + 1) (lv) (.int (x - x / z * z) :: st) n S I J R Q) :
    AW G l y cc ml rt d kc ks (pc) (lv) (.int z :: .int x :: st) n S I J R Q := by
  intro p e Rm s m args below meth c H locs cells slots ls C h1 h2 h3 h4
  exact lv_irem C.1 C.2.1 hd hz (k _ _ _ _ _ _ _ _ _ _ _ _ _ ls C h1 h2 h3 h4)
theorem AW_ineg {x : Int32} (hd : decode cc pc = .ok (.ineg, 1)) (k : AW G l y cc ml rt d kc ks (pc + 1) (lv) (.int (-x) :: st) n S I J R Q) :
    AW G l y cc ml rt d kc ks (pc) (lv) (.int x :: st) n S I J R Q := by
  intro p e Rm s m args below meth c H locs cells slots ls C h1 h2 h3 h4
  exact lv_ineg C.1 C.2.1 hd (k _ _ _ _ _ _ _ _ _ _ _ _ _ ls C h1 h2 h3 h4)
theorem AW_ladd {x z : Int64} (hd : decode cc pc = .ok (.ladd, 1)) (k : AW G l y cc ml rt d kc ks (pc + 1) (lv) (.long (x + z) :: st) n S I J R Q) :
    AW G l y cc ml rt d kc ks (pc) (lv) (.long z :: .long x :: st) n S I J R Q := by
  intro p e Rm s m args below meth c H locs cells slots ls C h1 h2 h3 h4
  exact lv_ladd C.1 C.2.1 hd (k _ _ _ _ _ _ _ _ _ _ _ _ _ ls C h1 h2 h3 h4)
theorem AW_lsub {x z : Int64} (hd : decode cc pc = .ok (.lsub, 1)) (k : AW G l y cc ml rt d kc ks (pc + 1) (lv) (.long (x - z) :: st) n S I J R Q) :
    AW G l y cc ml rt d kc ks (pc) (lv) (.long z :: .long x :: st) n S I J R Q := by
  intro p e Rm s m args below meth c H locs cells slots ls C h1 h2 h3 h4
  exact lv_lsub C.1 C.2.1 hd (k _ _ _ _ _ _ _ _ _ _ _ _ _ ls C h1 h2 h3 h4)
theorem AW_lmul {x z : Int64} (hd : decode cc pc = .ok (.lmul, 1)) (k : AW G l y cc ml rt d kc ks (pc + 1) (lv) (.long (x * z) :: st) n S I J R Q) :
    AW G l y cc ml rt d kc ks (pc) (lv) (.long z :: .long x :: st) n S I J R Q := by
  intro p e Rm s m args below meth c H locs cells slots ls C h1 h2 h3 h4
  exact lv_lmul C.1 C.2.1 hd (k _ _ _ _ _ _ _ _ _ _ _ _ _ ls C h1 h2 h3 h4)
theorem AW_land {x z : Int64} (hd : decode cc pc = .ok (.land, 1)) (k : AW G l y cc ml rt d kc ks (pc + 1) (lv) (.long (x &&& z) :: st) n S I J R Q) :
    AW G l y cc ml rt d kc ks (pc) (lv) (.long z :: .long x :: st) n S I J R Q := by
  intro p e Rm s m args below meth c H locs cells slots ls C h1 h2 h3 h4
  exact lv_land C.1 C.2.1 hd (k _ _ _ _ _ _ _ _ _ _ _ _ _ ls C h1 h2 h3 h4)
theorem AW_lor {x z : Int64} (hd : decode cc pc = .ok (.lor, 1)) (k : AW G l y cc ml rt d kc ks (pc + 1) (lv) (.long (x ||| z) :: st) n S I J R Q) :
    AW G l y cc ml rt d kc ks (pc) (lv) (.long z :: .long x :: st) n S I J R Q := by
  intro p e Rm s m args below meth c H locs cells slots ls C h1 h2 h3 h4
  exact lv_lor C.1 C.2.1 hd (k _ _ _ _ _ _ _ _ _ _ _ _ _ ls C h1 h2 h3 h4)
theorem AW_ldiv {x z : Int64} (hd : decode cc pc = .ok (.ldiv, 1)) (hz : ¬ z = 0) (k : AW G l y cc ml rt d kc ks (pc + 1) (lv) (.long (x / z) :: st) n S I J R Q) :
    AW G l y cc ml rt d kc ks (pc) (lv) (.long z :: .long x :: st) n S I J R Q := by
  intro p e Rm s m args below meth c H locs cells slots ls C h1 h2 h3 h4
  exact lv_ldiv C.1 C.2.1 hd hz (k _ _ _ _ _ _ _ _ _ _ _ _ _ ls C h1 h2 h3 h4)
theorem AW_lrem {x z : Int64} (hd : decode cc pc = .ok (.lrem, 1)) (hz : ¬ z = 0) (k : AW G l y cc ml rt d kc ks (pc + 1) (lv) (.long (x - x / z * z) :: st) n S I J R Q) :
    AW G l y cc ml rt d kc ks (pc) (lv) (.long z :: .long x :: st) n S I J R Q := by
  intro p e Rm s m args below meth c H locs cells slots ls C h1 h2 h3 h4
  exact lv_lrem C.1 C.2.1 hd hz (k _ _ _ _ _ _ _ _ _ _ _ _ _ ls C h1 h2 h3 h4)
theorem AW_lneg {x : Int64} (hd : decode cc pc = .ok (.lneg, 1)) (k : AW G l y cc ml rt d kc ks (pc + 1) (lv) (.long (-x) :: st) n S I J R Q) :
    AW G l y cc ml rt d kc ks (pc) (lv) (.long x :: st) n S I J R Q := by
  intro p e Rm s m args below meth c H locs cells slots ls C h1 h2 h3 h4
  exact lv_lneg C.1 C.2.1 hd (k _ _ _ _ _ _ _ _ _ _ _ _ _ ls C h1 h2 h3 h4)
theorem AW_i2l {x : Int32} (hd : decode cc pc = .ok (.i2l, 1)) (k : AW G l y cc ml rt d kc ks (pc + 1) (lv) (.long x.toInt64 :: st) n S I J R Q) :
    AW G l y cc ml rt d kc ks (pc) (lv) (.int x :: st) n S I J R Q := by
  intro p e Rm s m args below meth c H locs cells slots ls C h1 h2 h3 h4
  exact lv_i2l C.1 C.2.1 hd rfl (k _ _ _ _ _ _ _ _ _ _ _ _ _ ls C h1 h2 h3 h4)
theorem AW_l2i {x : Int64} (hd : decode cc pc = .ok (.l2i, 1)) (k : AW G l y cc ml rt d kc ks (pc + 1) (lv) (.int x.toInt32 :: st) n S I J R Q) :
    AW G l y cc ml rt d kc ks (pc) (lv) (.long x :: st) n S I J R Q := by
  intro p e Rm s m args below meth c H locs cells slots ls C h1 h2 h3 h4
  exact lv_l2i C.1 C.2.1 hd rfl (k _ _ _ _ _ _ _ _ _ _ _ _ _ ls C h1 h2 h3 h4)
theorem AW_i2b {x : Int32} (hd : decode cc pc = .ok (.i2b, 1)) (k : AW G l y cc ml rt d kc ks (pc + 1) (lv) (.int x.toInt8.toInt32 :: st) n S I J R Q) :
    AW G l y cc ml rt d kc ks (pc) (lv) (.int x :: st) n S I J R Q := by
  intro p e Rm s m args below meth c H locs cells slots ls C h1 h2 h3 h4
  exact lv_i2b C.1 C.2.1 hd rfl (k _ _ _ _ _ _ _ _ _ _ _ _ _ ls C h1 h2 h3 h4)
theorem AW_i2s {x : Int32} (hd : decode cc pc = .ok (.i2s, 1)) (k : AW G l y cc ml rt d kc ks (pc + 1) (lv) (.int x.toInt16.toInt32 :: st) n S I J R Q) :
    AW G l y cc ml rt d kc ks (pc) (lv) (.int x :: st) n S I J R Q := by
  intro p e Rm s m args below meth c H locs cells slots ls C h1 h2 h3 h4
  exact lv_i2s C.1 C.2.1 hd rfl (k _ _ _ _ _ _ _ _ _ _ _ _ _ ls C h1 h2 h3 h4)
theorem AW_iushr {x z : Int32} (hd : decode cc pc = .ok (.iushr, 1)) (k : AW G l y cc ml rt d kc ks (pc + 1) (lv) (.int (x.toUInt32 >>> (z.toUInt32 &&& Int32.toUInt32 31)).toInt32 :: st) n S I J R Q) :
    AW G l y cc ml rt d kc ks (pc) (lv) (.int z :: .int x :: st) n S I J R Q := by
  intro p e Rm s m args below meth c H locs cells slots ls C h1 h2 h3 h4
  exact lv_iushr C.1 C.2.1 hd rfl (k _ _ _ _ _ _ _ _ _ _ _ _ _ ls C h1 h2 h3 h4)
theorem AW_lushr {x : Int64} {z : Int32} (hd : decode cc pc = .ok (.lushr, 1)) (k : AW G l y cc ml rt d kc ks (pc + 1) (lv) (.long (x.toUInt64 >>> (z.toInt64.toUInt64 &&& Int64.toUInt64 63)).toInt64 :: st) n S I J R Q) :
    AW G l y cc ml rt d kc ks (pc) (lv) (.int z :: .long x :: st) n S I J R Q := by
  intro p e Rm s m args below meth c H locs cells slots ls C h1 h2 h3 h4
  exact lv_lushr C.1 C.2.1 hd rfl (k _ _ _ _ _ _ _ _ _ _ _ _ _ ls C h1 h2 h3 h4)
theorem AW_lshl {x : Int64} {z : Int32} (hd : decode cc pc = .ok (.lshl, 1)) (k : AW G l y cc ml rt d kc ks (pc + 1) (lv) (.long (x <<< (z.toInt64 &&& 63)) :: st) n S I J R Q) :
    AW G l y cc ml rt d kc ks (pc) (lv) (.int z :: .long x :: st) n S I J R Q := by
  intro p e Rm s m args below meth c H locs cells slots ls C h1 h2 h3 h4
  exact lv_lshl C.1 C.2.1 hd rfl (k _ _ _ _ _ _ _ _ _ _ _ _ _ ls C h1 h2 h3 h4)
theorem AW_lshr {x : Int64} {z : Int32} (hd : decode cc pc = .ok (.lshr, 1)) (k : AW G l y cc ml rt d kc ks (pc + 1) (lv) (.long (x >>> (z.toInt64 &&& 63)) :: st) n S I J R Q) :
    AW G l y cc ml rt d kc ks (pc) (lv) (.int z :: .long x :: st) n S I J R Q := by
  intro p e Rm s m args below meth c H locs cells slots ls C h1 h2 h3 h4
  exact lv_lshr C.1 C.2.1 hd rfl (k _ _ _ _ _ _ _ _ _ _ _ _ _ ls C h1 h2 h3 h4)
theorem AW_lcmp {x z : Int64} (hd : decode cc pc = .ok (.lcmp, 1)) (k : AW G l y cc ml rt d kc ks (pc + 1) (lv) (.int (lg_cmp x z) :: st) n S I J R Q) :
    AW G l y cc ml rt d kc ks (pc) (lv) (.long z :: .long x :: st) n S I J R Q := by
  intro p e Rm s m args below meth c H locs cells slots ls C h1 h2 h3 h4
  exact W.lcmp C.1 C.2.1 hd (k _ _ _ _ _ _ _ _ _ _ _ _ _ ls C h1 h2 h3 h4)
theorem AW_dup {v : Value} (hd : decode cc pc = .ok (.dup, 1)) (hv : v.category = 1) (k : AW G l y cc ml rt d kc ks (pc + 1) (lv) (v :: v :: st) n S I J R Q) :
    AW G l y cc ml rt d kc ks (pc) (lv) (v :: st) n S I J R Q := by
  intro p e Rm s m args below meth c H locs cells slots ls C h1 h2 h3 h4
  exact lv_dup C.1 C.2.1 hd ((rk_cat _ v).trans hv) (k _ _ _ _ _ _ _ _ _ _ _ _ _ ls C h1 h2 h3 h4)
theorem AW_pop {v : Value} (hd : decode cc pc = .ok (.pop, 1)) (hv : v.category = 1) (k : AW G l y cc ml rt d kc ks (pc + 1) (lv) (st) n S I J R Q) :
    AW G l y cc ml rt d kc ks (pc) (lv) (v :: st) n S I J R Q := by
  intro p e Rm s m args below meth c H locs cells slots ls C h1 h2 h3 h4
  exact lv_pop C.1 C.2.1 hd ((rk_cat _ v).trans hv) (k _ _ _ _ _ _ _ _ _ _ _ _ _ ls C h1 h2 h3 h4)
theorem AW_dup_x1 {v w : Value} (hd : decode cc pc = .ok (.dup_x1, 1)) (hv : v.category = 1) (hw : w.category = 1) (k : AW G l y cc ml rt d kc ks (pc + 1) (lv) (v :: w :: v :: st) n S I J R Q) :
    AW G l y cc ml rt d kc ks (pc) (lv) (v :: w :: st) n S I J R Q := by
  intro p e Rm s m args below meth c H locs cells slots ls C h1 h2 h3 h4
  exact lv_dup_x1 C.1 C.2.1 hd ((rk_cat _ v).trans hv) ((rk_cat _ w).trans hw) (k _ _ _ _ _ _ _ _ _ _ _ _ _ ls C h1 h2 h3 h4)
theorem AW_dup2 {v w : Value} (hd : decode cc pc = .ok (.dup2, 1)) (hv : v.category = 1) (hw : w.category = 1) (k : AW G l y cc ml rt d kc ks (pc + 1) (lv) (v :: w :: v :: w :: st) n S I J R Q) :
    AW G l y cc ml rt d kc ks (pc) (lv) (v :: w :: st) n S I J R Q := by
  intro p e Rm s m args below meth c H locs cells slots ls C h1 h2 h3 h4
  exact lv_dup2_11 C.1 C.2.1 hd ((rk_cat _ v).trans hv) ((rk_cat _ w).trans hw) (k _ _ _ _ _ _ _ _ _ _ _ _ _ ls C h1 h2 h3 h4)
theorem AW_dup_x2 {v w u : Value} (hd : decode cc pc = .ok (.dup_x2, 1)) (hv : v.category = 1) (hw : w.category = 1) (hu : u.category = 1) (k : AW G l y cc ml rt d kc ks (pc + 1) (lv) (v :: w :: u :: v :: st) n S I J R Q) :
    AW G l y cc ml rt d kc ks (pc) (lv) (v :: w :: u :: st) n S I J R Q := by
  intro p e Rm s m args below meth c H locs cells slots ls C h1 h2 h3 h4
  exact lv_dup_x2 C.1 C.2.1 hd ((rk_cat _ v).trans hv) ((rk_cat _ w).trans hw) ((rk_cat _ u).trans hu) (k _ _ _ _ _ _ _ _ _ _ _ _ _ ls C h1 h2 h3 h4)
theorem AW_null  (hd : decode cc pc = .ok (.aconst_null, 1)) (k : AW G l y cc ml rt d kc ks (pc + 1) (lv) (.null :: st) n S I J R Q) :
    AW G l y cc ml rt d kc ks (pc) (lv) (st) n S I J R Q := by
  intro p e Rm s m args below meth c H locs cells slots ls C h1 h2 h3 h4
  exact lv_null C.1 C.2.1 hd (k _ _ _ _ _ _ _ _ _ _ _ _ _ ls C h1 h2 h3 h4)
theorem AW_if_eq {x : Int32} {off : Int} (tgt : Nat) (hd : decode cc pc = .ok (.ifCond .eq off, 3)) (ht : (pc : Int) + off = (tgt : Int)) (kt : x = 0 → AW G l y cc ml rt d kc ks (tgt) (lv) (st) n S I J R Q) (kf : ¬ x = 0 → AW G l y cc ml rt d kc ks (pc + 3) (lv) (st) n S I J R Q) :
    AW G l y cc ml rt d kc ks (pc) (lv) (.int x :: st) n S I J R Q := by
  intro p e Rm s m args below meth c H locs cells slots ls C h1 h2 h3 h4
  exact lv_if_eq C.1 C.2.1 hd ht (fun z => (kt z _ _ _ _ _ _ _ _ _ _ _ _ _ ls C h1 h2 h3 h4)) (fun z => (kf z _ _ _ _ _ _ _ _ _ _ _ _ _ ls C h1 h2 h3 h4))
theorem AW_if_ne {x : Int32} {off : Int} (tgt : Nat) (hd : decode cc pc = .ok (.ifCond .ne off, 3)) (ht : (pc : Int) + off = (tgt : Int)) (kt : ¬ x = 0 → AW G l y cc ml rt d kc ks (tgt) (lv) (st) n S I J R Q) (kf : x = 0 → AW G l y cc ml rt d kc ks (pc + 3) (lv) (st) n S I J R Q) :
    AW G l y cc ml rt d kc ks (pc) (lv) (.int x :: st) n S I J R Q := by
  intro p e Rm s m args below meth c H locs cells slots ls C h1 h2 h3 h4
  exact lv_if_ne C.1 C.2.1 hd ht (fun z => (kt z _ _ _ _ _ _ _ _ _ _ _ _ _ ls C h1 h2 h3 h4)) (fun z => (kf z _ _ _ _ _ _ _ _ _ _ _ _ _ ls C h1 h2 h3 h4))
theorem AW_if_lt {x : Int32} {off : Int} (tgt : Nat) (hd : decode cc pc = .ok (.ifCond .lt off, 3)) (ht : (pc : Int) + off = (tgt : Int)) (kt : x < 0 → AW G l y cc ml rt d kc ks (tgt) (lv) (st) n S I J R Q) (kf : ¬ x < 0 → AW G l y cc ml rt d kc ks (pc + 3) (lv) (st) n S I J R Q) :
    AW G l y cc ml rt d kc ks (pc) (lv) (.int x :: st) n S I J R Q := by
  intro p e Rm s m args below meth c H locs cells slots ls C h1 h2 h3 h4
  exact lv_if_lt C.1 C.2.1 hd ht (fun z => (kt z _ _ _ _ _ _ _ _ _ _ _ _ _ ls C h1 h2 h3 h4)) (fun z => (kf z _ _ _ _ _ _ _ _ _ _ _ _ _ ls C h1 h2 h3 h4))
theorem AW_if_ge {x : Int32} {off : Int} (tgt : Nat) (hd : decode cc pc = .ok (.ifCond .ge off, 3)) (ht : (pc : Int) + off = (tgt : Int)) (kt : 0 ≤ x → AW G l y cc ml rt d kc ks (tgt) (lv) (st) n S I J R Q) (kf : ¬ 0 ≤ x → AW G l y cc ml rt d kc ks (pc + 3) (lv) (st) n S I J R Q) :
    AW G l y cc ml rt d kc ks (pc) (lv) (.int x :: st) n S I J R Q := by
  intro p e Rm s m args below meth c H locs cells slots ls C h1 h2 h3 h4
  exact lv_if_ge C.1 C.2.1 hd ht (fun z => (kt z _ _ _ _ _ _ _ _ _ _ _ _ _ ls C h1 h2 h3 h4)) (fun z => (kf z _ _ _ _ _ _ _ _ _ _ _ _ _ ls C h1 h2 h3 h4))
theorem AW_if_gt {x : Int32} {off : Int} (tgt : Nat) (hd : decode cc pc = .ok (.ifCond .gt off, 3)) (ht : (pc : Int) + off = (tgt : Int)) (kt : 0 < x → AW G l y cc ml rt d kc ks (tgt) (lv) (st) n S I J R Q) (kf : ¬ 0 < x → AW G l y cc ml rt d kc ks (pc + 3) (lv) (st) n S I J R Q) :
    AW G l y cc ml rt d kc ks (pc) (lv) (.int x :: st) n S I J R Q := by
  intro p e Rm s m args below meth c H locs cells slots ls C h1 h2 h3 h4
  exact lv_if_gt C.1 C.2.1 hd ht (fun z => (kt z _ _ _ _ _ _ _ _ _ _ _ _ _ ls C h1 h2 h3 h4)) (fun z => (kf z _ _ _ _ _ _ _ _ _ _ _ _ _ ls C h1 h2 h3 h4))
theorem AW_if_le {x : Int32} {off : Int} (tgt : Nat) (hd : decode cc pc = .ok (.ifCond .le off, 3)) (ht : (pc : Int) + off = (tgt : Int)) (kt : x ≤ 0 → AW G l y cc ml rt d kc ks (tgt) (lv) (st) n S I J R Q) (kf : ¬ x ≤ 0 → AW G l y cc ml rt d kc ks (pc + 3) (lv) (st) n S I J R Q) :
    AW G l y cc ml rt d kc ks (pc) (lv) (.int x :: st) n S I J R Q := by
  intro p e Rm s m args below meth c H locs cells slots ls C h1 h2 h3 h4
  exact lv_if_le C.1 C.2.1 hd ht (fun z => (kt z _ _ _ _ _ _ _ _ _ _ _ _ _ ls C h1 h2 h3 h4)) (fun z => (kf z _ _ _ _ _ _ _ _ _ _ _ _ _ ls C h1 h2 h3 h4))
theorem AW_icmp_eq {x z : Int32} {off : Int} (tgt : Nat) (hd : decode cc pc = .ok (.if_icmp .eq off, 3)) (ht : (pc : Int) + off = (tgt : Int)) (kt : x = z → AW G l y cc ml rt d kc ks (tgt) (lv) (st) n S I J R Q) (kf : ¬ x = z → AW G l y cc ml rt d kc ks (pc + 3) (lv) (st) n S I J R Q) :
    AW G l y cc ml rt d kc ks (pc) (lv) (.int z :: .int x :: st) n S I J R Q := by
  intro p e Rm s m args below meth c H locs cells slots ls C h1 h2 h3 h4
  exact lv_icmp_eq C.1 C.2.1 hd ht (fun z => (kt z _ _ _ _ _ _ _ _ _ _ _ _ _ ls C h1 h2 h3 h4)) (fun z => (kf z _ _ _ _ _ _ _ _ _ _ _ _ _ ls C h1 h2 h3 h4))
theorem AW_icmp_ne {x z : Int32} {off : Int} (tgt : Nat) (hd : decode cc pc = .ok (.if_icmp .ne off, 3)) (ht : (pc : Int) + off = (tgt : Int)) (kt : ¬ x = z → AW G l y cc ml rt d kc ks (tgt) (lv) (st) n S I J R Q) (kf : x = z → AW G l y cc ml rt d kc ks (pc + 3) (lv) (st) n S I J R Q) :
    AW G l y cc ml rt d kc ks (pc) (lv) (.int z :: .int x :: st) n S I J R Q := by
  intro p e Rm s m args below meth c H locs cells slots ls C h1 h2 h3 h4
  exact lv_icmp_ne C.1 C.2.1 hd ht (fun z => (kt z _ _ _ _ _ _ _ _ _ _ _ _ _ ls C h1 h2 h3 h4)) (fun z => (kf z _ _ _ _ _ _ _ _ _ _ _ _ _ ls C h1 h2 h3 h4))
theorem AW_icmp_lt {x z : Int32} {off : Int} (tgt : Nat) (hd : decode cc pc = .ok (.if_icmp .lt off, 3)) (ht : (pc : Int) + off = (tgt : Int)) (kt : x < z → AW G l y cc ml rt d kc ks (tgt) (lv) (st) n S I J R Q) (kf : ¬ x < z → AW G l y cc ml rt d kc ks (pc + 3) (lv) (st) n S I J R Q) :
    AW G l y cc ml rt d kc ks (pc) (lv) (.int z :: .int x :: st) n S I J R Q := by
  intro p e Rm s m args below meth c H locs cells slots ls C h1 h2 h3 h4
  exact lv_icmp_lt C.1 C.2.1 hd ht (fun z => (kt z _ _ _ _ _ _ _ _ _ _ _ _ _ ls C h1 h2 h3 h4)) (fun z => (kf z _ _ _ _ _ _ _ _ _ _ _ _ _ ls C h1 h2 h3 h4))
theorem AW_icmp_ge {x z : Int32} {off : Int} (tgt : Nat) (hd : decode cc pc = .ok (.if_icmp .ge off, 3)) (ht : (pc : Int) + off = (tgt : Int)) (kt : z ≤ x → AW G l y cc ml rt d kc ks (tgt) (lv) (st) n S I J R Q) (kf : ¬ z ≤ x → AW G l y cc ml rt d kc ks (pc + 3) (lv) (st) n S I J R Q) :
    AW G l y cc ml rt d kc ks (pc) (lv) (.int z :: .int x :: st) n S I J R Q := by
  intro p e Rm s m args below meth c H locs cells slots ls C h1 h2 h3 h4
  exact lv_icmp_ge C.1 C.2.1 hd ht (fun z => (kt z _ _ _ _ _ _ _ _ _ _ _ _ _ ls C h1 h2 h3 h4)) (fun z => (kf z _ _ _ _ _ _ _ _ _ _ _ _ _ ls C h1 h2 h3 h4))
theorem AW_icmp_gt {x z : Int32} {off : Int} (tgt : Nat) (hd : decode cc pc = .ok (.if_icmp .gt off, 3)) (ht : (pc : Int) + off = (tgt : Int)) (kt : z < x → AW G l y cc ml rt d kc ks (tgt) (lv) (st) n S I J R Q) (kf : ¬ z < x → AW G l y cc ml rt d kc ks (pc + 3) (lv) (st) n S I J R Q) :
    AW G l y cc ml rt d kc ks (pc) (lv) (.int z :: .int x :: st) n S I J R Q := by
  intro p e Rm s m args below meth c H locs cells slots ls C h1 h2 h3 h4
  exact lv_icmp_gt C.1 C.2.1 hd ht (fun z => (kt z _ _ _ _ _ _ _ _ _ _ _ _ _ ls C h1 h2 h3 h4)) (fun z => (kf z _ _ _ _ _ _ _ _ _ _ _ _ _ ls C h1 h2 h3 h4))
theorem AW_icmp_le {x z : Int32} {off : Int} (tgt : Nat) (hd : decode cc pc = .ok (.if_icmp .le off, 3)) (ht : (pc : Int) + off = (tgt : Int)) (kt : x ≤ z → AW G l y cc ml rt d kc ks (tgt) (lv) (st) n S I J R Q) (kf : ¬ x ≤ z → AW G l y cc ml rt d kc ks (pc + 3) (lv) (st) n S I J R Q) :
    AW G l y cc ml rt d kc ks (pc) (lv) (.int z :: .int x :: st) n S I J R Q := by
  intro p e Rm s m args below meth c H locs cells slots ls C h1 h2 h3 h4
  exact lv_icmp_le C.1 C.2.1 hd ht (fun z => (kt z _ _ _ _ _ _ _ _ _ _ _ _ _ ls C h1 h2 h3 h4)) (fun z => (kf z _ _ _ _ _ _ _ _ _ _ _ _ _ ls C h1 h2 h3 h4))
theorem AW_goto {off : Int} (tgt : Nat) (hd : decode cc pc = .ok (.goto off, 3)) (ht : (pc : Int) + off = (tgt : Int)) (k : AW G l y cc ml rt d kc ks (tgt) (lv) (st) n S I J R Q) :
    AW G l y cc ml rt d kc ks (pc) (lv) (st) n S I J R Q := by
  intro p e Rm s m args below meth c H locs cells slots ls C h1 h2 h3 h4
  exact lv_goto C.1 C.2.1 hd ht (k _ _ _ _ _ _ _ _ _ _ _ _ _ ls C h1 h2 h3 h4)
theorem AW_ifnull {q : Nat} {off : Int} (hd : decode cc pc = .ok (.ifnull off, 3)) (k : AW G l y cc ml rt d kc ks (pc + 3) (lv) (st) n S I J R Q) :
    AW G l y cc ml rt d kc ks (pc) (lv) (.ref q :: st) n S I J R Q := by
  intro p e Rm s m args below meth c H locs cells slots ls C h1 h2 h3 h4
  exact lv_ifnull C.1 C.2.1 hd (k _ _ _ _ _ _ _ _ _ _ _ _ _ ls C h1 h2 h3 h4)
theorem AW_ifnullN {off : Int} (tgt : Nat) (hd : decode cc pc = .ok (.ifnull off, 3)) (ht : (pc : Int) + off = (tgt : Int)) (k : AW G l y cc ml rt d kc ks (tgt) (lv) (st) n S I J R Q) :
    AW G l y cc ml rt d kc ks (pc) (lv) (.null :: st) n S I J R Q := by
  intro p e Rm s m args below meth c H locs cells slots ls C h1 h2 h3 h4
  exact lv_ifnullN C.1 C.2.1 hd ht (k _ _ _ _ _ _ _ _ _ _ _ _ _ ls C h1 h2 h3 h4)
theorem AW_ifnonnull {q : Nat} {off : Int} (tgt : Nat) (hd : decode cc pc = .ok (.ifnonnull off, 3)) (ht : (pc : Int) + off = (tgt : Int)) (k : AW G l y cc ml rt d kc ks (tgt) (lv) (st) n S I J R Q) :
    AW G l y cc ml rt d kc ks (pc) (lv) (.ref q :: st) n S I J R Q := by
  intro p e Rm s m args below meth c H locs cells slots ls C h1 h2 h3 h4
  exact lv_ifnonnull C.1 C.2.1 hd ht (k _ _ _ _ _ _ _ _ _ _ _ _ _ ls C h1 h2 h3 h4)
theorem AW_ifnonnullN {off : Int} (hd : decode cc pc = .ok (.ifnonnull off, 3)) (k : AW G l y cc ml rt d kc ks (pc + 3) (lv) (st) n S I J R Q) :
    AW G l y cc ml rt d kc ks (pc) (lv) (.null :: st) n S I J R Q := by
  intro p e Rm s m args below meth c H locs cells slots ls C h1 h2 h3 h4
  exact lv_ifnonnullN C.1 C.2.1 hd (k _ _ _ _ _ _ _ _ _ _ _ _ _ ls C h1 h2 h3 h4)
theorem AW_acmp_eq {q r : Nat} {off : Int} (tgt : Nat) (hd : decode cc pc = .ok (.if_acmp .eq off, 3)) (ht : (pc : Int) + off = (tgt : Int)) (hq : q < 1000000) (hr : r < 1000000) (kt : q = r → AW G l y cc ml rt d kc ks (tgt) (lv) (st) n S I J R Q) (kf : ¬ q = r → AW G l y cc ml rt d kc ks (pc + 3) (lv) (st) n S I J R Q) :
    AW G l y cc ml rt d kc ks (pc) (lv) (.ref r :: .ref q :: st) n S I J R Q := by
  intro p e Rm s m args below meth c H locs cells slots ls C h1 h2 h3 h4
  exact lv_acmp_eq (rx := some (G.1 q)) (ry := some (G.1 r)) C.1 C.2.1 hd ht (fun z => (kt (rk_inj C.2.2.2.2.2.2.2.2.2.2.2.2.1 hq hr (Option.some.inj z)) _ _ _ _ _ _ _ _ _ _ _ _ _ ls C h1 h2 h3 h4)) (fun z => (kf (fun w => z (congrArg (fun i => some (G.1 i)) w)) _ _ _ _ _ _ _ _ _ _ _ _ _ ls C h1 h2 h3 h4))
theorem AW_acmp_ne {q r : Nat} {off : Int} (tgt : Nat) (hd : decode cc pc = .ok (.if_acmp .ne off, 3)) (ht : (pc : Int) + off = (tgt : Int)) (hq : q < 1000000) (hr : r < 1000000) (kt : ¬ q = r → AW G l y cc ml rt d kc ks (tgt) (lv) (st) n S I J R Q) (kf : q = r → AW G l y cc ml rt d kc ks (pc + 3) (lv) (st) n S I J R Q) :
    AW G l y cc ml rt d kc ks (pc) (lv) (.ref r :: .ref q :: st) n S I J R Q := by
  intro p e Rm s m args below meth c H locs cells slots ls C h1 h2 h3 h4
  exact lv_acmp_ne (rx := some (G.1 q)) (ry := some (G.1 r)) C.1 C.2.1 hd ht (fun z => (kt (fun w => z (congrArg (fun i => some (G.1 i)) w)) _ _ _ _ _ _ _ _ _ _ _ _ _ ls C h1 h2 h3 h4)) (fun z => (kf (rk_inj C.2.2.2.2.2.2.2.2.2.2.2.2.1 hq hr (Option.some.inj z)) _ _ _ _ _ _ _ _ _ _ _ _ _ ls C h1 h2 h3 h4))
theorem AW_tableOut {dflt lo hi : Int} {offs : Array Int} {len : Nat} {x : Int32} (tgt : Nat) (hd : decode cc pc = .ok (.tableswitch dflt lo hi offs, len)) (h : x.toInt < lo ∨ hi < x.toInt) (ht : (pc : Int) + dflt = (tgt : Int)) (k : AW G l y cc ml rt d kc ks (tgt) (lv) (st) n S I J R Q) :
    AW G l y cc ml rt d kc ks (pc) (lv) (.int x :: st) n S I J R Q := by
  intro p e Rm s m args below meth c H locs cells slots ls C h1 h2 h3 h4
  exact lv_tableOut C.1 C.2.1 hd h ht (k _ _ _ _ _ _ _ _ _ _ _ _ _ ls C h1 h2 h3 h4)
theorem AW_tableIn {dflt lo hi : Int} {offs : Array Int} {len : Nat} {x : Int32} {off : Int} (tgt : Nat) (hd : decode cc pc = .ok (.tableswitch dflt lo hi offs, len)) (ha : ¬ x.toInt < lo) (hb : ¬ hi < x.toInt) (ho : offs[(x.toInt - lo).toNat]? = some off) (ht : (pc : Int) + off = (tgt : Int)) (k : AW G l y cc ml rt d kc ks (tgt) (lv) (st) n S I J R Q) :
    AW G l y cc ml rt d kc ks (pc) (lv) (.int x :: st) n S I J R Q := by
  intro p e Rm s m args below meth c H locs cells slots ls C h1 h2 h3 h4
  exact lv_tableIn C.1 C.2.1 hd ha hb ho ht (k _ _ _ _ _ _ _ _ _ _ _ _ _ ls C h1 h2 h3 h4)
theorem AW_lookup {dflt : Int} {ps : Array (Int × Int)} {len : Nat} {x : Int32} {off : Int} (tgt : Nat) (hd : decode cc pc = .ok (.lookupswitch dflt ps, len)) (hp : (ps.toList.zip (ps.toList.drop 1)).all (fun (a, next) => a.1 < next.1) = true) (ho : Op.lookupswitch.offset ps.toList dflt x.toInt = off) (ht : (pc : Int) + off = (tgt : Int)) (k : AW G l y cc ml rt d kc ks (tgt) (lv) (st) n S I J R Q) :
    AW G l y cc ml rt d kc ks (pc) (lv) (.int x :: st) n S I J R Q := by
  intro p e Rm s m args below meth c H locs cells slots ls C h1 h2 h3 h4
  exact lv_lookup C.1 C.2.1 hd hp ho ht (k _ _ _ _ _ _ _ _ _ _ _ _ _ ls C h1 h2 h3 h4)
theorem AW_ldc {ix : Nat} {v : Int32} (hd : decode cc pc = .ok (.ldc ix, 2)) (hw : Cond.constant y.cls ix v ∈ lw_tbl) (k : AW G l y cc ml rt d kc ks (pc + 2) (lv) (.int v :: st) n S I J R Q) :
    AW G l y cc ml rt d kc ks (pc) (lv) (st) n S I J R Q := by
  intro p e Rm s m args below meth c H locs cells slots ls C h1 h2 h3 h4
  exact lv_ldc C.1 C.2.1 C.2.2.2.2.1 (C.2.2.2.2.2.1 _ hw) hd (k _ _ _ _ _ _ _ _ _ _ _ _ _ ls C h1 h2 h3 h4)
theorem AW_ldc2 {ix : Nat} {v : Int64} (hd : decode cc pc = .ok (.ldc2_w ix, 3)) (hw : Cond.constantLong y.cls ix v ∈ lw_tbl) (k : AW G l y cc ml rt d kc ks (pc + 3) (lv) (.long v :: st) n S I J R Q) :
    AW G l y cc ml rt d kc ks (pc) (lv) (st) n S I J R Q := by
  intro p e Rm s m args below meth c H locs cells slots ls C h1 h2 h3 h4
  exact lv_ldc2 C.1 C.2.1 C.2.2.2.2.1 (C.2.2.2.2.2.1 _ hw) hd (k _ _ _ _ _ _ _ _ _ _ _ _ _ ls C h1 h2 h3 h4)
theorem AW_iret {v : Int32} (hd : decode cc pc = .ok (.ireturn, 1)) (hr : rt = some .int) (hq : Q (some (.int v)) n S I J R) :
    AW G l y cc ml rt d kc ks (pc) (lv) ([.int v]) n S I J R Q := by
  intro p e Rm s m args below meth c H locs cells slots ls C h1 h2 h3 h4
  have hlocks := C.2.2.2.2.2.2.1
  refine W.widen (k := cells + kc) (n := slots + ks) (Nat.le_add_right _ _) (Nat.le_add_right _ _) ?_
  exact W.iret C.1 C.2.1 (C.2.2.1.trans hr) (fun t ht hW => ⟨⟨some (.int v), n, S, I, J, R, rfl, hq, by rw [ht]; exact h1⟩, h2.F ht⟩) h2.2.2 hd hlocks
theorem AW_zret {v : Int32} (hd : decode cc pc = .ok (.ireturn, 1)) (hr : rt = some .boolean) (hn : narrow .boolean (.int v) = .int v) (hq : Q (some (.int v)) n S I J R) :
    AW G l y cc ml rt d kc ks (pc) (lv) ([.int v]) n S I J R Q := by
  intro p e Rm s m args below meth c H locs cells slots ls C h1 h2 h3 h4
  have hlocks := C.2.2.2.2.2.2.1
  refine W.widen (k := cells + kc) (n := slots + ks) (Nat.le_add_right _ _) (Nat.le_add_right _ _) ?_
  exact W.zret C.1 C.2.1 (C.2.2.1.trans hr) hn (fun t ht hW => ⟨⟨some (.int v), n, S, I, J, R, rfl, hq, by rw [ht]; exact h1⟩, h2.F ht⟩) h2.2.2 hd hlocks
theorem AW_lret {v : Int64} (hd : decode cc pc = .ok (.lreturn, 1)) (hr : rt = some .long) (hq : Q (some (.long v)) n S I J R) :
    AW G l y cc ml rt d kc ks (pc) (lv) ([.long v]) n S I J R Q := by
  intro p e Rm s m args below meth c H locs cells slots ls C h1 h2 h3 h4
  have hlocks := C.2.2.2.2.2.2.1
  refine W.widen (k := cells + kc) (n := slots + ks) (Nat.le_add_right _ _) (Nat.le_add_right _ _) ?_
  exact W.lret C.1 C.2.1 (C.2.2.1.trans hr) (fun t ht hW => ⟨⟨some (.long v), n, S, I, J, R, rfl, hq, by rw [ht]; exact h1⟩, h2.F ht⟩) h2.2.2 hd hlocks
theorem AW_vret  (hd : decode cc pc = .ok (.return_, 1)) (hr : rt = none) (hq : Q (none) n S I J R) :
    AW G l y cc ml rt d kc ks (pc) (lv) ([]) n S I J R Q := by
  intro p e Rm s m args below meth c H locs cells slots ls C h1 h2 h3 h4
  have hlocks := C.2.2.2.2.2.2.1
  refine W.widen (k := cells + kc) (n := slots + ks) (Nat.le_add_right _ _) (Nat.le_add_right _ _) ?_
  exact W.vret C.1 C.2.1 (C.2.2.1.trans hr) (fun t ht hW => ⟨⟨none, n, S, I, J, R, rfl, hq, by rw [ht]; exact h1⟩, h2.F ht⟩) h2.2.2 hd hlocks
theorem AW_aret {q : Nat} {rn : String} (hd : decode cc pc = .ok (.areturn, 1)) (hr : rt = some (.object rn)) (hq : Q (some (.ref q)) n S I J R) :
    AW G l y cc ml rt d kc ks (pc) (lv) ([.ref q]) n S I J R Q := by
  intro p e Rm s m args below meth c H locs cells slots ls C h1 h2 h3 h4
  have hlocks := C.2.2.2.2.2.2.1
  refine W.widen (k := cells + kc) (n := slots + ks) (Nat.le_add_right _ _) (Nat.le_add_right _ _) ?_
  exact W.aret C.1 C.2.1 (C.2.2.1.trans hr) (Or.inl ⟨_, rfl⟩) (Or.inr ⟨_, rfl⟩) (fun t ht hW => ⟨⟨some (.ref q), n, S, I, J, R, rfl, hq, by rw [ht]; exact h1⟩, h2.F ht⟩) h2.2.2 hd hlocks
theorem AW_aretA {q : Nat} {rn : FieldType} (hd : decode cc pc = .ok (.areturn, 1)) (hr : rt = some (.array rn)) (hq : Q (some (.ref q)) n S I J R) :
    AW G l y cc ml rt d kc ks (pc) (lv) ([.ref q]) n S I J R Q := by
  intro p e Rm s m args below meth c H locs cells slots ls C h1 h2 h3 h4
  have hlocks := C.2.2.2.2.2.2.1
  refine W.widen (k := cells + kc) (n := slots + ks) (Nat.le_add_right _ _) (Nat.le_add_right _ _) ?_
  exact W.aret C.1 C.2.1 (C.2.2.1.trans hr) (Or.inr ⟨_, rfl⟩) (Or.inr ⟨_, rfl⟩) (fun t ht hW => ⟨⟨some (.ref q), n, S, I, J, R, rfl, hq, by rw [ht]; exact h1⟩, h2.F ht⟩) h2.2.2 hd hlocks
theorem AW_aretN {rn : String} (hd : decode cc pc = .ok (.areturn, 1)) (hr : rt = some (.object rn)) (hq : Q (some .null) n S I J R) :
    AW G l y cc ml rt d kc ks (pc) (lv) ([.null]) n S I J R Q := by
  intro p e Rm s m args below meth c H locs cells slots ls C h1 h2 h3 h4
  have hlocks := C.2.2.2.2.2.2.1
  refine W.widen (k := cells + kc) (n := slots + ks) (Nat.le_add_right _ _) (Nat.le_add_right _ _) ?_
  exact W.aret C.1 C.2.1 (C.2.2.1.trans hr) (Or.inl ⟨_, rfl⟩) (Or.inl rfl) (fun t ht hW => ⟨⟨some .null, n, S, I, J, R, rfl, hq, by rw [ht]; exact h1⟩, h2.F ht⟩) h2.2.2 hd hlocks
theorem AW_iload_n0 {r : List (Option Value)} {x : Int32} (hd : decode cc pc = .ok (.iload_n 0, 1)) (k : AW G l y cc ml rt d kc ks (pc + 1) (some (.int x) :: r) (.int x :: st) n S I J R Q) :
    AW G l y cc ml rt d kc ks (pc) (some (.int x) :: r) (st) n S I J R Q := by
  intro p e Rm s m args below meth c H locs cells slots ls C h1 h2 h3 h4
  exact lv_iload_n C.1 C.2.1 hd (i := 0) rfl (h3.2.2 0 _ rfl) (k _ _ _ _ _ _ _ _ _ _ _ _ _ ls C h1 h2 h3 h4)
theorem AW_istore_n0 {z : Option Value} {r : List (Option Value)} {x : Int32} (hd : decode cc pc = .ok (.istore_n 0, 1)) (hm : 0 < ml)  (k : AW G l y cc ml rt d kc ks (pc + 1) (some (.int x) :: r) (st) n S I J R Q) :
    AW G l y cc ml rt d kc ks (pc) (z :: r) (.int x :: st) n S I J R Q := by
  intro p e Rm s m args below meth c H locs cells slots ls C h1 h2 h3 h4
  exact lv_istore_n C.1 C.2.1 hd (i := 0) rfl (rk_L_has h3) hm rfl (fun ls hl => k _ _ _ _ _ _ _ _ _ _ _ _ _ ls C h1 h2 (rk_L_st1 (v := .int x) hl rfl (fun j w hj hw => absurd hj (by omega))) h4)
theorem AW_lload_n0 {r : List (Option Value)} {x : Int64} (hd : decode cc pc = .ok (.lload_n 0, 1)) (k : AW G l y cc ml rt d kc ks (pc + 1) (some (.long x) :: r) (.long x :: st) n S I J R Q) :
    AW G l y cc ml rt d kc ks (pc) (some (.long x) :: r) (st) n S I J R Q := by
  intro p e Rm s m args below meth c H locs cells slots ls C h1 h2 h3 h4
  exact lv_lload_n C.1 C.2.1 hd (i := 0) rfl (h3.2.2 0 _ rfl) (k _ _ _ _ _ _ _ _ _ _ _ _ _ ls C h1 h2 h3 h4)
theorem AW_lstore_n0 {z z2 : Option Value} {r : List (Option Value)} {x : Int64} (hd : decode cc pc = .ok (.lstore_n 0, 1)) (hm : 0 + 1 < ml)  (k : AW G l y cc ml rt d kc ks (pc + 1) (some (.long x) :: none :: r) (st) n S I J R Q) :
    AW G l y cc ml rt d kc ks (pc) (z :: z2 :: r) (.long x :: st) n S I J R Q := by
  intro p e Rm s m args below meth c H locs cells slots ls C h1 h2 h3 h4
  exact lv_lstore_n C.1 C.2.1 hd (i := 0) rfl (rk_L_has h3) hm rfl (fun ls hl => k _ _ _ _ _ _ _ _ _ _ _ _ _ ls C h1 h2 (rk_L_st2 (v := .long x) hl rfl (fun j w hj hw => absurd hj (by omega))) h4)
theorem AW_aload_n0 {r : List (Option Value)} {x : Nat} (hd : decode cc pc = .ok (.aload_n 0, 1)) (k : AW G l y cc ml rt d kc ks (pc + 1) (some (.ref x) :: r) (.ref x :: st) n S I J R Q) :
    AW G l y cc ml rt d kc ks (pc) (some (.ref x) :: r) (st) n S I J R Q := by
  intro p e Rm s m args below meth c H locs cells slots ls C h1 h2 h3 h4
  exact lv_aload_n C.1 C.2.1 hd (i := 0) rfl (h3.2.2 0 _ rfl) (k _ _ _ _ _ _ _ _ _ _ _ _ _ ls C h1 h2 h3 h4)
theorem AW_astore_n0 {z : Option Value} {r : List (Option Value)} {x : Nat} (hd : decode cc pc = .ok (.astore_n 0, 1)) (hm : 0 < ml)  (k : AW G l y cc ml rt d kc ks (pc + 1) (some (.ref x) :: r) (st) n S I J R Q) :
    AW G l y cc ml rt d kc ks (pc) (z :: r) (.ref x :: st) n S I J R Q := by
  intro p e Rm s m args below meth c H locs cells slots ls C h1 h2 h3 h4
  exact lv_astore_n C.1 C.2.1 hd (i := 0) rfl (rk_L_has h3) hm rfl (fun ls hl => k _ _ _ _ _ _ _ _ _ _ _ _ _ ls C h1 h2 (rk_L_st1 (v := .ref x) hl rfl (fun j w hj hw => absurd hj (by omega))) h4)
theorem AW_aloadN_n0 {r : List (Option Value)}  (hd : decode cc pc = .ok (.aload_n 0, 1)) (k : AW G l y cc ml rt d kc ks (pc + 1) (some (.null) :: r) (.null :: st) n S I J R Q) :
    AW G l y cc ml rt d kc ks (pc) (some (.null) :: r) (st) n S I J R Q := by
  intro p e Rm s m args below meth c H locs cells slots ls C h1 h2 h3 h4
  exact lv_aload_nN C.1 C.2.1 hd (i := 0) rfl (h3.2.2 0 _ rfl) (k _ _ _ _ _ _ _ _ _ _ _ _ _ ls C h1 h2 h3 h4)
theorem AW_astoreN_n0 {z : Option Value} {r : List (Option Value)}  (hd : decode cc pc = .ok (.astore_n 0, 1)) (hm : 0 < ml)  (k : AW G l y cc ml rt d kc ks (pc + 1) (some (.null) :: r) (st) n S I J R Q) :
    AW G l y cc ml rt d kc ks (pc) (z :: r) (.null :: st) n S I J R Q := by
  intro p e Rm s m args below meth c H locs cells slots ls C h1 h2 h3 h4
  exact lv_astore_nN C.1 C.2.1 hd (i := 0) rfl (rk_L_has h3) hm rfl (fun ls hl => k _ _ _ _ _ _ _ _ _ _ _ _ _ ls C h1 h2 (rk_L_st1 (v := .null) hl rfl (fun j w hj hw => absurd hj (by omega))) h4)
theorem AW_iinc_0 {r : List (Option Value)} {x v : Int32} {q : Int} (hd : decode cc pc = .ok (.iinc 0 q, 3)) (hv : Int32.ofInt q = v) (hm : 0 < ml)  (k : AW G l y cc ml rt d kc ks (pc + 3) (some (.int (x + v)) :: r) (st) n S I J R Q) :
    AW G l y cc ml rt d kc ks (pc) (some (.int x) :: r) (st) n S I J R Q := by
  intro p e Rm s m args below meth c H locs cells slots ls C h1 h2 h3 h4
  subst hv
  obtain ⟨j, hj⟩ := List.getElem?_of_mem (rk_as_mem (ad := G.1) (lv := some (.int x) :: r) (q := (0, .int x)) |>.mpr ⟨.int x, rfl, rfl⟩)
  exact lv_iinc C.1 C.2.1 hd (rk_L_has h3) hj rfl hm rfl (fun ls hl => k _ _ _ _ _ _ _ _ _ _ _ _ _ ls C h1 h2 (rk_L_st1 (v := .int _) hl rfl (fun j w hj hw => absurd hj (by omega))) h4)
theorem AW_drop_0 {r : List (Option Value)} {w : Option Value} (k : AW G l y cc ml rt d kc ks (pc) (none :: r) (st) n S I J R Q) :
    AW G l y cc ml rt d kc ks (pc) (w :: r) (st) n S I J R Q := by
  intro p e Rm s m args below meth c H locs cells slots ls C h1 h2 h3 h4
  refine k _ _ _ _ _ _ _ _ _ _ _ _ _ ls C h1 h2 ⟨h3.1, h3.2.1, fun j v hj => h3.2.2 j v ?_⟩ h4
  by_cases e : j = 0
  · subst e; simp at hj
  · have hh : ∀ (o : Option Value), (none :: r)[j]? = ((o :: r).set 0 none)[j]? := fun o => rfl
    rw [hh w, List.getElem?_set_ne (Ne.symm e)] at hj
    exact hj
theorem AW_iload_n1 {a0 : Option Value} {r : List (Option Value)} {x : Int32} (hd : decode cc pc = .ok (.iload_n 1, 1)) (k : AW G l y cc ml rt d kc ks (pc + 1) (a0 :: some (.int x) :: r) (.int x :: st) n S I J R Q) :
    AW G l y cc ml rt d kc ks (pc) (a0 :: some (.int x) :: r) (st) n S I J R Q := by
  intro p e Rm s m args below meth c H locs cells slots ls C h1 h2 h3 h4
  exact lv_iload_n C.1 C.2.1 hd (i := 1) rfl (h3.2.2 1 _ rfl) (k _ _ _ _ _ _ _ _ _ _ _ _ _ ls C h1 h2 h3 h4)
theorem AW_istore_n1 {a0 z : Option Value} {r : List (Option Value)} {x : Int32} (hd : decode cc pc = .ok (.istore_n 1, 1)) (hm : 1 < ml) (hp : rk_one a0 = true) (k : AW G l y cc ml rt d kc ks (pc + 1) (a0 :: some (.int x) :: r) (st) n S I J R Q) :
    AW G l y cc ml rt d kc ks (pc) (a0 :: z :: r) (.int x :: st) n S I J R Q := by
  intro p e Rm s m args below meth c H locs cells slots ls C h1 h2 h3 h4
  exact lv_istore_n C.1 C.2.1 hd (i := 1) rfl (rk_L_has h3) hm rfl (fun ls hl => k _ _ _ _ _ _ _ _ _ _ _ _ _ ls C h1 h2 (rk_L_st1 (v := .int x) hl rfl (fun j w hj hw => by have e : j = 0 := (by omega); subst e; cases hw; exact hp)) h4)
theorem AW_lload_n1 {a0 : Option Value} {r : List (Option Value)} {x : Int64} (hd : decode cc pc = .ok (.lload_n 1, 1)) (k : AW G l y cc ml rt d kc ks (pc + 1) (a0 :: some (.long x) :: r) (.long x :: st) n S I J R Q) :
    AW G l y cc ml rt d kc ks (pc) (a0 :: some (.long x) :: r) (st) n S I J R Q := by
  intro p e Rm s m args below meth c H locs cells slots ls C h1 h2 h3 h4
  exact lv_lload_n C.1 C.2.1 hd (i := 1) rfl (h3.2.2 1 _ rfl) (k _ _ _ _ _ _ _ _ _ _ _ _ _ ls C h1 h2 h3 h4)
theorem AW_lstore_n1 {a0 z z2 : Option Value} {r : List (Option Value)} {x : Int64} (hd : decode cc pc = .ok (.lstore_n 1, 1)) (hm : 1 + 1 < ml) (hp : rk_one a0 = true) (k : AW G l y cc ml rt d kc ks (pc + 1) (a0 :: some (.long x) :: none :: r) (st) n S I J R Q) :
    AW G l y cc ml rt d kc ks (pc) (a0 :: z :: z2 :: r) (.long x :: st) n S I J R Q := by
  intro p e Rm s m args below meth c H locs cells slots ls C h1 h2 h3 h4
  exact lv_lstore_n C.1 C.2.1 hd (i := 1) rfl (rk_L_has h3) hm rfl (fun ls hl => k _ _ _ _ _ _ _ _ _ _ _ _ _ ls C h1 h2 (rk_L_st2 (v := .long x) hl rfl (fun j w hj hw => by have e : j = 0 := (by omega); subst e; cases hw; exact hp)) h4)
theorem AW_aload_n1 {a0 : Option Value} {r : List (Option Value)} {x : Nat} (hd : decode cc pc = .ok (.aload_n 1, 1)) (k : AW G l y cc ml rt d kc ks (pc + 1) (a0 :: some (.ref x) :: r) (.ref x :: st) n S I J R Q) :
    AW G l y cc ml rt d kc ks (pc) (a0 :: some (.ref x) :: r) (st) n S I J R Q := by
  intro p e Rm s m args below meth c H locs cells slots ls C h1 h2 h3 h4
  exact lv_aload_n C.1 C.2.1 hd (i := 1) rfl (h3.2.2 1 _ rfl) (k _ _ _ _ _ _ _ _ _ _ _ _ _ ls C h1 h2 h3 h4)
theorem AW_astore_n1 {a0 z : Option Value} {r : List (Option Value)} {x : Nat} (hd : decode cc pc = .ok (.astore_n 1, 1)) (hm : 1 < ml) (hp : rk_one a0 = true) (k : AW G l y cc ml rt d kc ks (pc + 1) (a0 :: some (.ref x) :: r) (st) n S I J R Q) :
    AW G l y cc ml rt d kc ks (pc) (a0 :: z :: r) (.ref x :: st) n S I J R Q := by
  intro p e Rm s m args below meth c H locs cells slots ls C h1 h2 h3 h4
  exact lv_astore_n C.1 C.2.1 hd (i := 1) rfl (rk_L_has h3) hm rfl (fun ls hl => k _ _ _ _ _ _ _ _ _ _ _ _ _ ls C h1 h2 (rk_L_st1 (v := .ref x) hl rfl (fun j w hj hw => by have e : j = 0 := (by omega); subst e; cases hw; exact hp)) h4)
theorem AW_aloadN_n1 {a0 : Option Value} {r : List (Option Value)}  (hd : decode cc pc = .ok (.aload_n 1, 1)) (k : AW G l y cc ml rt d kc ks (pc + 1) (a0 :: some (.null) :: r) (.null :: st) n S I J R Q) :
    AW G l y cc ml rt d kc ks (pc) (a0 :: some (.null) :: r) (st) n S I J R Q := by
  intro p e Rm s m args below meth c H locs cells slots ls C h1 h2 h3 h4
  exact lv_aload_nN C.1 C.2.1 hd (i := 1) rfl (h3.2.2 1 _ rfl) (k _ _ _ _ _ _ _ _ _ _ _ _ _ ls C h1 h2 h3 h4)
theorem AW_astoreN_n1 {a0 z : Option Value} {r : List (Option Value)}  (hd : decode cc pc = .ok (.astore_n 1, 1)) (hm : 1 < ml) (hp : rk_one a0 = true) (k : AW G l y cc ml rt d kc ks (pc + 1) (a0 :: some (.null) :: r) (st) n S I J R Q) :
    AW G l y cc ml rt d kc ks (pc) (a0 :: z :: r) (.null :: st) n S I J R Q := by
  intro p e Rm s m args below meth c H locs cells slots ls C h1 h2 h3 h4
  exact lv_astore_nN C.1 C.2.1 hd (i := 1) rfl (rk_L_has h3) hm rfl (fun ls hl => k _ _ _ _ _ _ _ _ _ _ _ _ _ ls C h1 h2 (rk_L_st1 (v := .null) hl rfl (fun j w hj hw => by have e : j = 0 := (by omega); subst e; cases hw; exact hp)) h4)
theorem AW_iinc_1 {a0 : Option Value} {r : List (Option Value)} {x v : Int32} {q : Int} (hd : decode cc pc = .ok (.iinc 1 q, 3)) (hv : Int32.ofInt q = v) (hm : 1 < ml) (hp : rk_one a0 = true) (k : AW G l y cc ml rt d kc ks (pc + 3) (a0 :: some (.int (x + v)) :: r) (st) n S I J R Q) :
    AW G l y cc ml rt d kc ks (pc) (a0 :: some (.int x) :: r) (st) n S I J R Q := by
  intro p e Rm s m args below meth c H locs cells slots ls C h1 h2 h3 h4
  subst hv
  obtain ⟨j, hj⟩ := List.getElem?_of_mem (rk_as_mem (ad := G.1) (lv := a0 :: some (.int x) :: r) (q := (1, .int x)) |>.mpr ⟨.int x, rfl, rfl⟩)
  exact lv_iinc C.1 C.2.1 hd (rk_L_has h3) hj rfl hm rfl (fun ls hl => k _ _ _ _ _ _ _ _ _ _ _ _ _ ls C h1 h2 (rk_L_st1 (v := .int _) hl rfl (fun j w hj hw => by have e : j = 0 := (by omega); subst e; cases hw; exact hp)) h4)
theorem AW_drop_1 {a0 : Option Value} {r : List (Option Value)} {w : Option Value} (k : AW G l y cc ml rt d kc ks (pc) (a0 :: none :: r) (st) n S I J R Q) :
    AW G l y cc ml rt d kc ks (pc) (a0 :: w :: r) (st) n S I J R Q := by
  intro p e Rm s m args below meth c H locs cells slots ls C h1 h2 h3 h4
  refine k _ _ _ _ _ _ _ _ _ _ _ _ _ ls C h1 h2 ⟨h3.1, h3.2.1, fun j v hj => h3.2.2 j v ?_⟩ h4
  by_cases e : j = 1
  · subst e; simp at hj
  · have hh : ∀ (o : Option Value), (a0 :: none :: r)[j]? = ((a0 :: o :: r).set 1 none)[j]? := fun o => rfl
    rw [hh w, List.getElem?_set_ne (Ne.symm e)] at hj
    exact hj
theorem AW_iload_n2 {a0 a1 : Option Value} {r : List (Option Value)} {x : Int32} (hd : decode cc pc = .ok (.iload_n 2, 1)) (k : AW G l y cc ml rt d kc ks (pc + 1) (a0 :: a1 :: some (.int x) :: r) (.int x :: st) n S I J R Q) :
    AW G l y cc ml rt d kc ks (pc) (a0 :: a1 :: some (.int x) :: r) (st) n S I J R Q := by
  intro p e Rm s m args below meth c H locs cells slots ls C h1 h2 h3 h4
  exact lv_iload_n C.1 C.2.1 hd (i := 2) rfl (h3.2.2 2 _ rfl) (k _ _ _ _ _ _ _ _ _ _ _ _ _ ls C h1 h2 h3 h4)
theorem AW_istore_n2 {a0 a1 z : Option Value} {r : List (Option Value)} {x : Int32} (hd : decode cc pc = .ok (.istore_n 2, 1)) (hm : 2 < ml) (hp : rk_one a1 = true) (k : AW G l y cc ml rt d kc ks (pc + 1) (a0 :: a1 :: some (.int x) :: r) (st) n S I J R Q) :
    AW G l y cc ml rt d kc ks (pc) (a0 :: a1 :: z :: r) (.int x :: st) n S I J R Q := by
  intro p e Rm s m args below meth c H locs cells slots ls C h1 h2 h3 h4
  exact lv_istore_n C.1 C.2.1 hd (i := 2) rfl (rk_L_has h3) hm rfl (fun ls hl => k _ _ _ _ _ _ _ _ _ _ _ _ _ ls C h1 h2 (rk_L_st1 (v := .int x) hl rfl (fun j w hj hw => by have e : j = 1 := (by omega); subst e; cases hw; exact hp)) h4)
theorem AW_lload_n2 {a0 a1 : Option Value} {r : List (Option Value)} {x : Int64} (hd : decode cc pc = .ok (.lload_n 2, 1)) (k : AW G l y cc ml rt d kc ks (pc + 1) (a0 :: a1 :: some (.long x) :: r) (.long x :: st) n S I J R Q) :
    AW G l y cc ml rt d kc ks (pc) (a0 :: a1 :: some (.long x) :: r) (st) n S I J R Q := by
  intro p e Rm s m args below meth c H locs cells slots ls C h1 h2 h3 h4
  exact lv_lload_n C.1 C.2.1 hd (i := 2) rfl (h3.2.2 2 _ rfl) (k _ _ _ _ _ _ _ _ _ _ _ _ _ ls C h1 h2 h3 h4)
theorem AW_lstore_n2 {a0 a1 z z2 : Option Value} {r : List (Option Value)} {x : Int64} (hd : decode cc pc = .ok (.lstore_n 2, 1)) (hm : 2 + 1 < ml) (hp : rk_one a1 = true) (k : AW G l y cc ml rt d kc ks (pc + 1) (a0 :: a1 :: some (.long x) :: none :: r) (st) n S I J R Q) :
    AW G l y cc ml rt d kc ks (pc) (a0 :: a1 :: z :: z2 :: r) (.long x :: st) n S I J R Q := by
  intro p e Rm s m args below meth c H locs cells slots ls C h1 h2 h3 h4
  exact lv_lstore_n C.1 C.2.1 hd (i := 2) rfl (rk_L_has h3) hm rfl (fun ls hl => k _ _ _ _ _ _ _ _ _ _ _ _ _ ls C h1 h2 (rk_L_st2 (v := .long x) hl rfl (fun j w hj hw => by have e : j = 1 := (by omega); subst e; cases hw; exact hp)) h4)
theorem AW_aload_n2 {a0 a1 : Option Value} {r : List (Option Value)} {x : Nat} (hd : decode cc pc = .ok (.aload_n 2, 1)) (k : AW G l y cc ml rt d kc ks (pc + 1) (a0 :: a1 :: some (.ref x) :: r) (.ref x :: st) n S I J R Q) :
    AW G l y cc ml rt d kc ks (pc) (a0 :: a1 :: some (.ref x) :: r) (st) n S I J R Q := by
  intro p e Rm s m args below meth c H locs cells slots ls C h1 h2 h3 h4
  exact lv_aload_n C.1 C.2.1 hd (i := 2) rfl (h3.2.2 2 _ rfl) (k _ _ _ _ _ _ _ _ _ _ _ _ _ ls C h1 h2 h3 h4)
theorem AW_astore_n2 {a0 a1 z : Option Value} {r : List (Option Value)} {x : Nat} (hd : decode cc pc = .ok (.astore_n 2, 1)) (hm : 2 < ml) (hp : rk_one a1 = true) (k : AW G l y cc ml rt d kc ks (pc + 1) (a0 :: a1 :: some (.ref x) :: r) (st) n S I J R Q) :
    AW G l y cc ml rt d kc ks (pc) (a0 :: a1 :: z :: r) (.ref x :: st) n S I J R Q := by
  intro p e Rm s m args below meth c H locs cells slots ls C h1 h2 h3 h4
  exact lv_astore_n C.1 C.2.1 hd (i := 2) rfl (rk_L_has h3) hm rfl (fun ls hl => k _ _ _ _ _ _ _ _ _ _ _ _ _ ls C h1 h2 (rk_L_st1 (v := .ref x) hl rfl (fun j w hj hw => by have e : j = 1 := (by omega); subst e; cases hw; exact hp)) h4)
theorem AW_aloadN_n2 {a0 a1 : Option Value} {r : List (Option Value)}  (hd : decode cc pc = .ok (.aload_n 2, 1)) (k : AW G l y cc ml rt d kc ks (pc + 1) (a0 :: a1 :: some (.null) :: r) (.null :: st) n S I J R Q) :
    AW G l y cc ml rt d kc ks (pc) (a0 :: a1 :: some (.null) :: r) (st) n S I J R Q := by
  intro p e Rm s m args below meth c H locs cells slots ls C h1 h2 h3 h4
  exact lv_aload_nN C.1 C.2.1 hd (i := 2) rfl (h3.2.2 2 _ rfl) (k _ _ _ _ _ _ _ _ _ _ _ _ _ ls C h1 h2 h3 h4)
theorem AW_astoreN_n2 {a0 a1 z : Option Value} {r : List (Option Value)}  (hd : decode cc pc = .ok (.astore_n 2, 1)) (hm : 2 < ml) (hp : rk_one a1 = true) (k : AW G l y cc ml rt d kc ks (pc + 1) (a0 :: a1 :: some (.null) :: r) (st) n S I J R Q) :
    AW G l y cc ml rt d kc ks (pc) (a0 :: a1 :: z :: r) (.null :: st) n S I J R Q := by
  intro p e Rm s m args below meth c H locs cells slots ls C h1 h2 h3 h4
  exact lv_astore_nN C.1 C.2.1 hd (i := 2) rfl (rk_L_has h3) hm rfl (fun ls hl => k _ _ _ _ _ _ _ _ _ _ _ _ _ ls C h1 h2 (rk_L_st1 (v := .null) hl rfl (fun j w hj hw => by have e : j = 1 := (by omega); subst e; cases hw; exact hp)) h4)
theorem AW_iinc_2 {a0 a1 : Option Value} {r : List (Option Value)} {x v : Int32} {q : Int} (hd : decode cc pc = .ok (.iinc 2 q, 3)) (hv : Int32.ofInt q = v) (hm : 2 < ml) (hp : rk_one a1 = true) (k : AW G l y cc ml rt d kc ks (pc + 3) (a0 :: a1 :: some (.int (x + v)) :: r) (st) n S I J R Q) :
    AW G l y cc ml rt d kc ks (pc) (a0 :: a1 :: some (.int x) :: r) (st) n S I J R Q := by
  intro p e Rm s m args below meth c H locs cells slots ls C h1 h2 h3 h4
  subst hv
  obtain ⟨j, hj⟩ := List.getElem?_of_mem (rk_as_mem (ad := G.1) (lv := a0 :: a1 :: some (.int x) :: r) (q := (2, .int x)) |>.mpr ⟨.int x, rfl, rfl⟩)
  exact lv_iinc C.1 C.2.1 hd (rk_L_has h3) hj rfl hm rfl (fun ls hl => k _ _ _ _ _ _ _ _ _ _ _ _ _ ls C h1 h2 (rk_L_st1 (v := .int _) hl rfl (fun j w hj hw => by have e : j = 1 := (by omega); subst e; cases hw; exact hp)) h4)
theorem AW_drop_2 {a0 a1 : Option Value} {r : List (Option Value)} {w : Option Value} (k : AW G l y cc ml rt d kc ks (pc) (a0 :: a1 :: none :: r) (st) n S I J R Q) :
    AW G l y cc ml rt d kc ks (pc) (a0 :: a1 :: w :: r) (st) n S I J R Q := by
  intro p e Rm s m args below meth c H locs cells slots ls C h1 h2 h3 h4
  refine k _ _ _ _ _ _ _ _ _ _ _ _ _ ls C h1 h2 ⟨h3.1, h3.2.1, fun j v hj => h3.2.2 j v ?_⟩ h4
  by_cases e : j = 2
  · subst e; simp at hj
  · have hh : ∀ (o : Option Value), (a0 :: a1 :: none :: r)[j]? = ((a0 :: a1 :: o :: r).set 2 none)[j]? := fun o => rfl
    rw [hh w, List.getElem?_set_ne (Ne.symm e)] at hj
    exact hj
theorem AW_iload_n3 {a0 a1 a2 : Option Value} {r : List (Option Value)} {x : Int32} (hd : decode cc pc = .ok (.iload_n 3, 1)) (k : AW G l y cc ml rt d kc ks (pc + 1) (a0 :: a1 :: a2 :: some (.int x) :: r) (.int x :: st) n S I J R Q) :
    AW G l y cc ml rt d kc ks (pc) (a0 :: a1 :: a2 :: some (.int x) :: r) (st) n S I J R Q := by
  intro p e Rm s m args below meth c H locs cells slots ls C h1 h2 h3 h4
  exact lv_iload_n C.1 C.2.1 hd (i := 3) rfl (h3.2.2 3 _ rfl) (k _ _ _ _ _ _ _ _ _ _ _ _ _ ls C h1 h2 h3 h4)
theorem AW_istore_n3 {a0 a1 a2 z : Option Value} {r : List (Option Value)} {x : Int32} (hd : decode cc pc = .ok (.istore_n 3, 1)) (hm : 3 < ml) (hp : rk_one a2 = true) (k : AW G l y cc ml rt d kc ks (pc + 1) (a0 :: a1 :: a2 :: some (.int x) :: r) (st) n S I J R Q) :
    AW G l y cc ml rt d kc ks (pc) (a0 :: a1 :: a2 :: z :: r) (.int x :: st) n S I J R Q := by
  intro p e Rm s m args below meth c H locs cells slots ls C h1 h2 h3 h4
  exact lv_istore_n C.1 C.2.1 hd (i := 3) rfl (rk_L_has h3) hm rfl (fun ls hl => k _ _ _ _ _ _ _ _ _ _ _ _ _ ls C h1 h2 (rk_L_st1 (v := .int x) hl rfl (fun j w hj hw => by have e : j = 2 := (by omega); subst e; cases hw; exact hp)) h4)
theorem AW_lload_n3 {a0 a1 a2 : Option Value} {r : List (Option Value)} {x : Int64} (hd : decode cc pc = .ok (.lload_n 3, 1)) (k : AW G l y cc ml rt d kc ks (pc + 1) (a0 :: a1 :: a2 :: some (.long x) :: r) (.long x :: st) n S I J R Q) :
    AW G l y cc ml rt d kc ks (pc) (a0 :: a1 :: a2 :: some (.long x) :: r) (st) n S I J R Q := by
  intro p e Rm s m args below meth c H locs cells slots ls C h1 h2 h3 h4
  exact lv_lload_n C.1 C.2.1 hd (i := 3) rfl (h3.2.2 3 _ rfl) (k _ _ _ _ _ _ _ _ _ _ _ _ _ ls C h1 h2 h3 h4)
theorem AW_lstore_n3 {a0 a1 a2 z z2 : Option Value} {r : List (Option Value)} {x : Int64} (hd : decode cc pc = .ok (.lstore_n 3, 1)) (hm : 3 + 1 < ml) (hp : rk_one a2 = true) (k : AW G l y cc ml rt d kc ks (pc + 1) (a0 :: a1 :: a2 :: some (.long x) :: none :: r) (st) n S I J R Q) :
    AW G l y cc ml rt d kc ks (pc) (a0 :: a1 :: a2 :: z :: z2 :: r) (.long x :: st) n S I J R Q := by
  intro p e Rm s m args below meth c H locs cells slots ls C h1 h2 h3 h4
  exact lv_lstore_n C.1 C.2.1 hd (i := 3) rfl (rk_L_has h3) hm rfl (fun ls hl => k _ _ _ _ _ _ _ _ _ _ _ _ _ ls C h1 h2 (rk_L_st2 (v := .long x) hl rfl (fun j w hj hw => by have e : j = 2 := (by omega); subst e; cases hw; exact hp)) h4)
theorem AW_aload_n3 {a0 a1 a2 : Option Value} {r : List (Option Value)} {x : Nat} (hd : decode cc pc = .ok (.aload_n 3, 1)) (k : AW G l y cc ml rt d kc ks (pc + 1) (a0 :: a1 :: a2 :: some (.ref x) :: r) (.ref x :: st) n S I J R Q) :
    AW G l y cc ml rt d kc ks (pc) (a0 :: a1 :: a2 :: some (.ref x) :: r) (st) n S I J R Q := by
  intro p e Rm s m args below meth c H locs cells slots ls C h1 h2 h3 h4
  exact lv_aload_n C.1 C.2.1 hd (i := 3) rfl (h3.2.2 3 _ rfl) (k _ _ _ _ _ _ _ _ _ _ _ _ _ ls C h1 h2 h3 h4)
theorem AW_astore_n3 {a0 a1 a2 z : Option Value} {r : List (Option Value)} {x : Nat} (hd : decode cc pc = .ok (.astore_n 3, 1)) (hm : 3 < ml) (hp : rk_one a2 = true) (k : AW G l y cc ml rt d kc ks (pc + 1) (a0 :: a1 :: a2 :: some (.ref x) :: r) (st) n S I J R Q) :
    AW G l y cc ml rt d kc ks (pc) (a0 :: a1 :: a2 :: z :: r) (.ref x :: st) n S I J R Q := by
  intro p e Rm s m args below meth c H locs cells slots ls C h1 h2 h3 h4
  exact lv_astore_n C.1 C.2.1 hd (i := 3) rfl (rk_L_has h3) hm rfl (fun ls hl => k _ _ _ _ _ _ _ _ _ _ _ _ _ ls C h1 h2 (rk_L_st1 (v := .ref x) hl rfl (fun j w hj hw => by have e : j = 2 := (by omega); subst e; cases hw; exact hp)) h4)
theorem AW_aloadN_n3 {a0 a1 a2 : Option Value} {r : List (Option Value)}  (hd : decode cc pc = .ok (.aload_n 3, 1)) (k : AW G l y cc ml rt d kc ks (pc + 1) (a0 :: a1 :: a2 :: some (.null) :: r) (.null :: st) n S I J R Q) :
    AW G l y cc ml rt d kc ks (pc) (a0 :: a1 :: a2 :: some (.null) :: r) (st) n S I J R Q := by
  intro p e Rm s m args below meth c H locs cells slots ls C h1 h2 h3 h4
  exact lv_aload_nN C.1 C.2.1 hd (i := 3) rfl (h3.2.2 3 _ rfl) (k _ _ _ _ _ _ _ _ _ _ _ _ _ ls C h1 h2 h3 h4)
theorem AW_astoreN_n3 {a0 a1 a2 z : Option Value} {r : List (Option Value)}  (hd : decode cc pc = .ok (.astore_n 3, 1)) (hm : 3 < ml) (hp : rk_one a2 = true) (k : AW G l y cc ml rt d kc ks (pc + 1) (a0 :: a1 :: a2 :: some (.null) :: r) (st) n S I J R Q) :
    AW G l y cc ml rt d kc ks (pc) (a0 :: a1 :: a2 :: z :: r) (.null :: st) n S I J R Q := by
  intro p e Rm s m args below meth c H locs cells slots ls C h1 h2 h3 h4
  exact lv_astore_nN C.1 C.2.1 hd (i := 3) rfl (rk_L_has h3) hm rfl (fun ls hl => k _ _ _ _ _ _ _ _ _ _ _ _ _ ls C h1 h2 (rk_L_st1 (v := .null) hl rfl (fun j w hj hw => by have e : j = 2 := (by omega); subst e; cases hw; exact hp)) h4)
theorem AW_iinc_3 {a0 a1 a2 : Option Value} {r : List (Option Value)} {x v : Int32} {q : Int} (hd : decode cc pc = .ok (.iinc 3 q, 3)) (hv : Int32.ofInt q = v) (hm : 3 < ml) (hp : rk_one a2 = true) (k : AW G l y cc ml rt d kc ks (pc + 3) (a0 :: a1 :: a2 :: some (.int (x + v)) :: r) (st) n S I J R Q) :
    AW G l y cc ml rt d kc ks (pc) (a0 :: a1 :: a2 :: some (.int x) :: r) (st) n S I J R Q := by
  intro p e Rm s m args below meth c H locs cells slots ls C h1 h2 h3 h4
  subst hv
  obtain ⟨j, hj⟩ := List.getElem?_of_mem (rk_as_mem (ad := G.1) (lv := a0 :: a1 :: a2 :: some (.int x) :: r) (q := (3, .int x)) |>.mpr ⟨.int x, rfl, rfl⟩)
  exact lv_iinc C.1 C.2.1 hd (rk_L_has h3) hj rfl hm rfl (fun ls hl => k _ _ _ _ _ _ _ _ _ _ _ _ _ ls C h1 h2 (rk_L_st1 (v := .int _) hl rfl (fun j w hj hw => by have e : j = 2 := (by omega); subst e; cases hw; exact hp)) h4)
theorem AW_drop_3 {a0 a1 a2 : Option Value} {r : List (Option Value)} {w : Option Value} (k : AW G l y cc ml rt d kc ks (pc) (a0 :: a1 :: a2 :: none :: r) (st) n S I J R Q) :
    AW G l y cc ml rt d kc ks (pc) (a0 :: a1 :: a2 :: w :: r) (st) n S I J R Q := by
  intro p e Rm s m args below meth c H locs cells slots ls C h1 h2 h3 h4
  refine k _ _ _ _ _ _ _ _ _ _ _ _ _ ls C h1 h2 ⟨h3.1, h3.2.1, fun j v hj => h3.2.2 j v ?_⟩ h4
  by_cases e : j = 3
  · subst e; simp at hj
  · have hh : ∀ (o : Option Value), (a0 :: a1 :: a2 :: none :: r)[j]? = ((a0 :: a1 :: a2 :: o :: r).set 3 none)[j]? := fun o => rfl
    rw [hh w, List.getElem?_set_ne (Ne.symm e)] at hj
    exact hj
theorem AW_iload_4 {a0 a1 a2 a3 : Option Value} {r : List (Option Value)} {x : Int32} (hd : decode cc pc = .ok (.iload 4, 2)) (k : AW G l y cc ml rt d kc ks (pc + 2) (a0 :: a1 :: a2 :: a3 :: some (.int x) :: r) (.int x :: st) n S I J R Q) :
    AW G l y cc ml rt d kc ks (pc) (a0 :: a1 :: a2 :: a3 :: some (.int x) :: r) (st) n S I J R Q := by
  intro p e Rm s m args below meth c H locs cells slots ls C h1 h2 h3 h4
  exact lv_iload C.1 C.2.1 hd (h3.2.2 4 _ rfl) (k _ _ _ _ _ _ _ _ _ _ _ _ _ ls C h1 h2 h3 h4)
theorem AW_istore_4 {a0 a1 a2 a3 z : Option Value} {r : List (Option Value)} {x : Int32} (hd : decode cc pc = .ok (.istore 4, 2)) (hm : 4 < ml) (hp : rk_one a3 = true) (k : AW G l y cc ml rt d kc ks (pc + 2) (a0 :: a1 :: a2 :: a3 :: some (.int x) :: r) (st) n S I J R Q) :
    AW G l y cc ml rt d kc ks (pc) (a0 :: a1 :: a2 :: a3 :: z :: r) (.int x :: st) n S I J R Q := by
  intro p e Rm s m args below meth c H locs cells slots ls C h1 h2 h3 h4
  exact lv_istore C.1 C.2.1 hd (rk_L_has h3) hm rfl (fun ls hl => k _ _ _ _ _ _ _ _ _ _ _ _ _ ls C h1 h2 (rk_L_st1 (v := .int x) hl rfl (fun j w hj hw => by have e : j = 3 := (by omega); subst e; cases hw; exact hp)) h4)
theorem AW_lload_4 {a0 a1 a2 a3 : Option Value} {r : List (Option Value)} {x : Int64} (hd : decode cc pc = .ok (.lload 4, 2)) (k : AW G l y cc ml rt d kc ks (pc + 2) (a0 :: a1 :: a2 :: a3 :: some (.long x) :: r) (.long x :: st) n S I J R Q) :
    AW G l y cc ml rt d kc ks (pc) (a0 :: a1 :: a2 :: a3 :: some (.long x) :: r) (st) n S I J R Q := by
  intro p e Rm s m args below meth c H locs cells slots ls C h1 h2 h3 h4
  exact lv_lload C.1 C.2.1 hd (h3.2.2 4 _ rfl) (k _ _ _ _ _ _ _ _ _ _ _ _ _ ls C h1 h2 h3 h4)
theorem AW_lstore_4 {a0 a1 a2 a3 z z2 : Option Value} {r : List (Option Value)} {x : Int64} (hd : decode cc pc = .ok (.lstore 4, 2)) (hm : 4 + 1 < ml) (hp : rk_one a3 = true) (k : AW G l y cc ml rt d kc ks (pc + 2) (a0 :: a1 :: a2 :: a3 :: some (.long x) :: none :: r) (st) n S I J R Q) :
    AW G l y cc ml rt d kc ks (pc) (a0 :: a1 :: a2 :: a3 :: z :: z2 :: r) (.long x :: st) n S I J R Q := by
  intro p e Rm s m args below meth c H locs cells slots ls C h1 h2 h3 h4
  exact lv_lstore C.1 C.2.1 hd (rk_L_has h3) hm rfl (fun ls hl => k _ _ _ _ _ _ _ _ _ _ _ _ _ ls C h1 h2 (rk_L_st2 (v := .long x) hl rfl (fun j w hj hw => by have e : j = 3 := (by omega); subst e; cases hw; exact hp)) h4)
theorem AW_aload_4 {a0 a1 a2 a3 : Option Value} {r : List (Option Value)} {x : Nat} (hd : decode cc pc = .ok (.aload 4, 2)) (k : AW G l y cc ml rt d kc ks (pc + 2) (a0 :: a1 :: a2 :: a3 :: some (.ref x) :: r) (.ref x :: st) n S I J R Q) :
    AW G l y cc ml rt d kc ks (pc) (a0 :: a1 :: a2 :: a3 :: some (.ref x) :: r) (st) n S I J R Q := by
  intro p e Rm s m args below meth c H locs cells slots ls C h1 h2 h3 h4
  exact lv_aload C.1 C.2.1 hd (h3.2.2 4 _ rfl) (k _ _ _ _ _ _ _ _ _ _ _ _ _ ls C h1 h2 h3 h4)
theorem AW_astore_4 {a0 a1 a2 a3 z : Option Value} {r : List (Option Value)} {x : Nat} (hd : decode cc pc = .ok (.astore 4, 2)) (hm : 4 < ml) (hp : rk_one a3 = true) (k : AW G l y cc ml rt d kc ks (pc + 2) (a0 :: a1 :: a2 :: a3 :: some (.ref x) :: r) (st) n S I J R Q) :
    AW G l y cc ml rt d kc ks (pc) (a0 :: a1 :: a2 :: a3 :: z :: r) (.ref x :: st) n S I J R Q := by
  intro p e Rm s m args below meth c H locs cells slots ls C h1 h2 h3 h4
  exact lv_astore C.1 C.2.1 hd (rk_L_has h3) hm rfl (fun ls hl => k _ _ _ _ _ _ _ _ _ _ _ _ _ ls C h1 h2 (rk_L_st1 (v := .ref x) hl rfl (fun j w hj hw => by have e : j = 3 := (by omega); subst e; cases hw; exact hp)) h4)
theorem AW_aloadN_4 {a0 a1 a2 a3 : Option Value} {r : List (Option Value)}  (hd : decode cc pc = .ok (.aload 4, 2)) (k : AW G l y cc ml rt d kc ks (pc + 2) (a0 :: a1 :: a2 :: a3 :: some (.null) :: r) (.null :: st) n S I J R Q) :
    AW G l y cc ml rt d kc ks (pc) (a0 :: a1 :: a2 :: a3 :: some (.null) :: r) (st) n S I J R Q := by
  intro p e Rm s m args below meth c H locs cells slots ls C h1 h2 h3 h4
  exact lv_aloadN C.1 C.2.1 hd (h3.2.2 4 _ rfl) (k _ _ _ _ _ _ _ _ _ _ _ _ _ ls C h1 h2 h3 h4)
theorem AW_astoreN_4 {a0 a1 a2 a3 z : Option Value} {r : List (Option Value)}  (hd : decode cc pc = .ok (.astore 4, 2)) (hm : 4 < ml) (hp : rk_one a3 = true) (k : AW G l y cc ml rt d kc ks (pc + 2) (a0 :: a1 :: a2 :: a3 :: some (.null) :: r) (st) n S I J R Q) :
    AW G l y cc ml rt d kc ks (pc) (a0 :: a1 :: a2 :: a3 :: z :: r) (.null :: st) n S I J R Q := by
  intro p e Rm s m args below meth c H locs cells slots ls C h1 h2 h3 h4
  exact lv_astoreN C.1 C.2.1 hd (rk_L_has h3) hm rfl (fun ls hl => k _ _ _ _ _ _ _ _ _ _ _ _ _ ls C h1 h2 (rk_L_st1 (v := .null) hl rfl (fun j w hj hw => by have e : j = 3 := (by omega); subst e; cases hw; exact hp)) h4)
theorem AW_iinc_4 {a0 a1 a2 a3 : Option Value} {r : List (Option Value)} {x v : Int32} {q : Int} (hd : decode cc pc = .ok (.iinc 4 q, 3)) (hv : Int32.ofInt q = v) (hm : 4 < ml) (hp : rk_one a3 = true) (k : AW G l y cc ml rt d kc ks (pc + 3) (a0 :: a1 :: a2 :: a3 :: some (.int (x + v)) :: r) (st) n S I J R Q) :
    AW G l y cc ml rt d kc ks (pc) (a0 :: a1 :: a2 :: a3 :: some (.int x) :: r) (st) n S I J R Q := by
  intro p e Rm s m args below meth c H locs cells slots ls C h1 h2 h3 h4
  subst hv
  obtain ⟨j, hj⟩ := List.getElem?_of_mem (rk_as_mem (ad := G.1) (lv := a0 :: a1 :: a2 :: a3 :: some (.int x) :: r) (q := (4, .int x)) |>.mpr ⟨.int x, rfl, rfl⟩)
  exact lv_iinc C.1 C.2.1 hd (rk_L_has h3) hj rfl hm rfl (fun ls hl => k _ _ _ _ _ _ _ _ _ _ _ _ _ ls C h1 h2 (rk_L_st1 (v := .int _) hl rfl (fun j w hj hw => by have e : j = 3 := (by omega); subst e; cases hw; exact hp)) h4)
theorem AW_drop_4 {a0 a1 a2 a3 : Option Value} {r : List (Option Value)} {w : Option Value} (k : AW G l y cc ml rt d kc ks (pc) (a0 :: a1 :: a2 :: a3 :: none :: r) (st) n S I J R Q) :
    AW G l y cc ml rt d kc ks (pc) (a0 :: a1 :: a2 :: a3 :: w :: r) (st) n S I J R Q := by
  intro p e Rm s m args below meth c H locs cells slots ls C h1 h2 h3 h4
  refine k _ _ _ _ _ _ _ _ _ _ _ _ _ ls C h1 h2 ⟨h3.1, h3.2.1, fun j v hj => h3.2.2 j v ?_⟩ h4
  by_cases e : j = 4
  · subst e; simp at hj
  · have hh : ∀ (o : Option Value), (a0 :: a1 :: a2 :: a3 :: none :: r)[j]? = ((a0 :: a1 :: a2 :: a3 :: o :: r).set 4 none)[j]? := fun o => rfl
    rw [hh w, List.getElem?_set_ne (Ne.symm e)] at hj
    exact hj
theorem AW_iload_5 {a0 a1 a2 a3 a4 : Option Value} {r : List (Option Value)} {x : Int32} (hd : decode cc pc = .ok (.iload 5, 2)) (k : AW G l y cc ml rt d kc ks (pc + 2) (a0 :: a1 :: a2 :: a3 :: a4 :: some (.int x) :: r) (.int x :: st) n S I J R Q) :
    AW G l y cc ml rt d kc ks (pc) (a0 :: a1 :: a2 :: a3 :: a4 :: some (.int x) :: r) (st) n S I J R Q := by
  intro p e Rm s m args below meth c H locs cells slots ls C h1 h2 h3 h4
  exact lv_iload C.1 C.2.1 hd (h3.2.2 5 _ rfl) (k _ _ _ _ _ _ _ _ _ _ _ _ _ ls C h1 h2 h3 h4)
theorem AW_istore_5 {a0 a1 a2 a3 a4 z : Option Value} {r : List (Option Value)} {x : Int32} (hd : decode cc pc = .ok (.istore 5, 2)) (hm : 5 < ml) (hp : rk_one a4 = true) (k : AW G l y cc ml rt d kc ks (pc + 2) (a0 :: a1 :: a2 :: a3 :: a4 :: some (.int x) :: r) (st) n S I J R Q) :
    AW G l y cc ml rt d kc ks (pc) (a0 :: a1 :: a2 :: a3 :: a4 :: z :: r) (.int x :: st) n S I J R Q := by
  intro p e Rm s m args below meth c H locs cells slots ls C h1 h2 h3 h4
  exact lv_istore C.1 C.2.1 hd (rk_L_has h3) hm rfl (fun ls hl => k _ _ _ _ _ _ _ _ _ _ _ _ _ ls C h1 h2 (rk_L_st1 (v := .int x) hl rfl (fun j w hj hw => by have e : j = 4 := (by omega); subst e; cases hw; exact hp)) h4)
theorem AW_lload_5 {a0 a1 a2 a3 a4 : Option Value} {r : List (Option Value)} {x : Int64} (hd : decode cc pc = .ok (.lload 5, 2)) (k : AW G l y cc ml rt d kc ks (pc + 2) (a0 :: a1 :: a2 :: a3 :: a4 :: some (.long x) :: r) (.long x :: st) n S I J R Q) :
    AW G l y cc ml rt d kc ks (pc) (a0 :: a1 :: a2 :: a3 :: a4 :: some (.long x) :: r) (st) n S I J R Q := by
  intro p e Rm s m args below meth c H locs cells slots ls C h1 h2 h3 h4
  exact lv_lload C.1 C.2.1 hd (h3.2.2 5 _ rfl) (k _ _ _ _ _ _ _ _ _ _ _ _ _ ls C h1 h2 h3 h4)
theorem AW_lstore_5 {a0 a1 a2 a3 a4 z z2 : Option Value} {r : List (Option Value)} {x : Int64} (hd : decode cc pc = .ok (.lstore 5, 2)) (hm : 5 + 1 < ml) (hp : rk_one a4 = true) (k : AW G l y cc ml rt d kc ks (pc + 2) (a0 :: a1 :: a2 :: a3 :: a4 :: some (.long x) :: none :: r) (st) n S I J R Q) :
    AW G l y cc ml rt d kc ks (pc) (a0 :: a1 :: a2 :: a3 :: a4 :: z :: z2 :: r) (.long x :: st) n S I J R Q := by
  intro p e Rm s m args below meth c H locs cells slots ls C h1 h2 h3 h4
  exact lv_lstore C.1 C.2.1 hd (rk_L_has h3) hm rfl (fun ls hl => k _ _ _ _ _ _ _ _ _ _ _ _ _ ls C h1 h2 (rk_L_st2 (v := .long x) hl rfl (fun j w hj hw => by have e : j = 4 := (by omega); subst e; cases hw; exact hp)) h4)
theorem AW_aload_5 {a0 a1 a2 a3 a4 : Option Value} {r : List (Option Value)} {x : Nat} (hd : decode cc pc = .ok (.aload 5, 2)) (k : AW G l y cc ml rt d kc ks (pc + 2) (a0 :: a1 :: a2 :: a3 :: a4 :: some (.ref x) :: r) (.ref x :: st) n S I J R Q) :
    AW G l y cc ml rt d kc ks (pc) (a0 :: a1 :: a2 :: a3 :: a4 :: some (.ref x) :: r) (st) n S I J R Q := by
  intro p e Rm s m args below meth c H locs cells slots ls C h1 h2 h3 h4
  exact lv_aload C.1 C.2.1 hd (h3.2.2 5 _ rfl) (k _ _ _ _ _ _ _ _ _ _ _ _ _ ls C h1 h2 h3 h4)
theorem AW_astore_5 {a0 a1 a2 a3 a4 z : Option Value} {r : List (Option Value)} {x : Nat} (hd : decode cc pc = .ok (.astore 5, 2)) (hm : 5 < ml) (hp : rk_one a4 = true) (k : AW G l y cc ml rt d kc ks (pc + 2) (a0 :: a1 :: a2 :: a3 :: a4 :: some (.ref x) :: r) (st) n S I J R Q) :
    AW G l y cc ml rt d kc ks (pc) (a0 :: a1 :: a2 :: a3 :: a4 :: z :: r) (.ref x :: st) n S I J R Q := by
  intro p e Rm s m args below meth c H locs cells slots ls C h1 h2 h3 h4
  exact lv_astore C.1 C.2.1 hd (rk_L_has h3) hm rfl (fun ls hl => k _ _ _ _ _ _ _ _ _ _ _ _ _ ls C h1 h2 (rk_L_st1 (v := .ref x) hl rfl (fun j w hj hw => by have e : j = 4 := (by omega); subst e; cases hw; exact hp)) h4)
theorem AW_aloadN_5 {a0 a1 a2 a3 a4 : Option Value} {r : List (Option Value)}  (hd : decode cc pc = .ok (.aload 5, 2)) (k : AW G l y cc ml rt d kc ks (pc + 2) (a0 :: a1 :: a2 :: a3 :: a4 :: some (.null) :: r) (.null :: st) n S I J R Q) :
    AW G l y cc ml rt d kc ks (pc) (a0 :: a1 :: a2 :: a3 :: a4 :: some (.null) :: r) (st) n S I J R Q := by
  intro p e Rm s m args below meth c H locs cells slots ls C h1 h2 h3 h4
  exact lv_aloadN C.1 C.2.1 hd (h3.2.2 5 _ rfl) (k _ _ _ _ _ _ _ _ _ _ _ _ _ ls C h1 h2 h3 h4)
theorem AW_astoreN_5 {a0 a1 a2 a3 a4 z : Option Value} {r : List (Option Value)}  (hd : decode cc pc = .ok (.astore 5, 2)) (hm : 5 < ml) (hp : rk_one a4 = true) (k : AW G l y cc ml rt d kc ks (pc + 2) (a0 :: a1 :: a2 :: a3 :: a4 :: some (.null) :: r) (st) n S I J R Q) :
    AW G l y cc ml rt d kc ks (pc) (a0 :: a1 :: a2 :: a3 :: a4 :: z :: r) (.null :: st) n S I J R Q := by
  intro p e Rm s m args below meth c H locs cells slots ls C h1 h2 h3 h4
  exact lv_astoreN C.1 C.2.1 hd (rk_L_has h3) hm rfl (fun ls hl => k _ _ _ _ _ _ _ _ _ _ _ _ _ ls C h1 h2 (rk_L_st1 (v := .null) hl rfl (fun j w hj hw => by have e : j = 4 := (by omega); subst e; cases hw; exact hp)) h4)
theorem AW_iinc_5 {a0 a1 a2 a3 a4 : Option Value} {r : List (Option Value)} {x v : Int32} {q : Int} (hd : decode cc pc = .ok (.iinc 5 q, 3)) (hv : Int32.ofInt q = v) (hm : 5 < ml) (hp : rk_one a4 = true) (k : AW G l y cc ml rt d kc ks (pc + 3) (a0 :: a1 :: a2 :: a3 :: a4 :: some (.int (x + v)) :: r) (st) n S I J R Q) :
    AW G l y cc ml rt d kc ks (pc) (a0 :: a1 :: a2 :: a3 :: a4 :: some (.int x) :: r) (st) n S I J R Q := by
  intro p e Rm s m args below meth c H locs cells slots ls C h1 h2 h3 h4
  subst hv
  obtain ⟨j, hj⟩ := List.getElem?_of_mem (rk_as_mem (ad := G.1) (lv := a0 :: a1 :: a2 :: a3 :: a4 :: some (.int x) :: r) (q := (5, .int x)) |>.mpr ⟨.int x, rfl, rfl⟩)
  exact lv_iinc C.1 C.2.1 hd (rk_L_has h3) hj rfl hm rfl (fun ls hl => k _ _ _ _ _ _ _ _ _ _ _ _ _ ls C h1 h2 (rk_L_st1 (v := .int _) hl rfl (fun j w hj hw => by have e : j = 4 := (by omega); subst e; cases hw; exact hp)) h4)
theorem AW_drop_5 {a0 a1 a2 a3 a4 : Option Value} {r : List (Option Value)} {w : Option Value} (k : AW G l y cc ml rt d kc ks (pc) (a0 :: a1 :: a2 :: a3 :: a4 :: none :: r) (st) n S I J R Q) :
    AW G l y cc ml rt d kc ks (pc) (a0 :: a1 :: a2 :: a3 :: a4 :: w :: r) (st) n S I J R Q := by
  intro p e Rm s m args below meth c H locs cells slots ls C h1 h2 h3 h4
  refine k _ _ _ _ _ _ _ _ _ _ _ _ _ ls C h1 h2 ⟨h3.1, h3.2.1, fun j v hj => h3.2.2 j v ?_⟩ h4
  by_cases e : j = 5
  · subst e; simp at hj
  · have hh : ∀ (o : Option Value), (a0 :: a1 :: a2 :: a3 :: a4 :: none :: r)[j]? = ((a0 :: a1 :: a2 :: a3 :: a4 :: o :: r).set 5 none)[j]? := fun o => rfl
    rw [hh w, List.getElem?_set_ne (Ne.symm e)] at hj
    exact hj
theorem AW_iload_6 {a0 a1 a2 a3 a4 a5 : Option Value} {r : List (Option Value)} {x : Int32} (hd : decode cc pc = .ok (.iload 6, 2)) (k : AW G l y cc ml rt d kc ks (pc + 2) (a0 :: a1 :: a2 :: a3 :: a4 :: a5 :: some (.int x) :: r) (.int x :: st) n S I J R Q) :
    AW G l y cc ml rt d kc ks (pc) (a0 :: a1 :: a2 :: a3 :: a4 :: a5 :: some (.int x) :: r) (st) n S I J R Q := by
  intro p e Rm s m args below meth c H locs cells slots ls C h1 h2 h3 h4
  exact lv_iload C.1 C.2.1 hd (h3.2.2 6 _ rfl) (k _ _ _ _ _ _ _ _ _ _ _ _ _ ls C h1 h2 h3 h4)
theorem AW_istore_6 {a0 a1 a2 a3 a4 a5 z : Option Value} {r : List (Option Value)} {x : Int32} (hd : decode cc pc = .ok (.istore 6, 2)) (hm : 6 < ml) (hp : rk_one a5 = true) (k : AW G l y cc ml rt d kc ks (pc + 2) (a0 :: a1 :: a2 :: a3 :: a4 :: a5 :: some (.int x) :: r) (st) n S I J R Q) :
    AW G l y cc ml rt d kc ks (pc) (a0 :: a1 :: a2 :: a3 :: a4 :: a5 :: z :: r) (.int x :: st) n S I J R Q := by
  intro p e Rm s m args below meth c H locs cells slots ls C h1 h2 h3 h4
  exact lv_istore C.1 C.2.1 hd (rk_L_has h3) hm rfl (fun ls hl => k _ _ _ _ _ _ _ _ _ _ _ _ _ ls C h1 h2 (rk_L_st1 (v := .int x) hl rfl (fun j w hj hw => by have e : j = 5 := (by omega); subst e; cases hw; exact hp)) h4)
theorem AW_lload_6 {a0 a1 a2 a3 a4 a5 : Option Value} {r : List (Option Value)} {x : Int64} (hd : decode cc pc = .ok (.lload 6, 2)) (k : AW G l y cc ml rt d kc ks (pc + 2) (a0 :: a1 :: a2 :: a3 :: a4 :: a5 :: some (.long x) :: r) (.long x :: st) n S I J R Q) :
    AW G l y cc ml rt d kc ks (pc) (a0 :: a1 :: a2 :: a3 :: a4 :: a5 :: some (.long x) :: r) (st) n S I J R Q := by
  intro p e Rm s m args below meth c H locs cells slots ls C h1 h2 h3 h4
  exact lv_lload C.1 C.2.1 hd (h3.2.2 6 _ rfl) (k _ _ _ _ _ _ _ _ _ _ _ _ _ ls C h1 h2 h3 h4)
theorem AW_lstore_6 {a0 a1 a2 a3 a4 a5 z z2 : Option Value} {r : List (Option Value)} {x : Int64} (hd : decode cc pc = .ok (.lstore 6, 2)) (hm : 6 + 1 < ml) (hp : rk_one a5 = true) (k : AW G l y cc ml rt d kc ks (pc + 2) (a0 :: a1 :: a2 :: a3 :: a4 :: a5 :: some (.long x) :: none :: r) (st) n S I J R Q) :
    AW G l y cc ml rt d kc ks (pc) (a0 :: a1 :: a2 :: a3 :: a4 :: a5 :: z :: z2 :: r) (.long x :: st) n S I J R Q := by
  intro p e Rm s m args below meth c H locs cells slots ls C h1 h2 h3 h4
  exact lv_lstore C.1 C.2.1 hd (rk_L_has h3) hm rfl (fun ls hl => k _ _ _ _ _ _ _ _ _ _ _ _ _ ls C h1 h2 (rk_L_st2 (v := .long x) hl rfl (fun j w hj hw => by have e : j = 5 := (by omega); subst e; cases hw; exact hp)) h4)
theorem AW_aload_6 {a0 a1 a2 a3 a4 a5 : Option Value} {r : List (Option Value)} {x : Nat} (hd : decode cc pc = .ok (.aload 6, 2)) (k : AW G l y cc ml rt d kc ks (pc + 2) (a0 :: a1 :: a2 :: a3 :: a4 :: a5 :: some (.ref x) :: r) (.ref x :: st) n S I J R Q) :
    AW G l y cc ml rt d kc ks (pc) (a0 :: a1 :: a2 :: a3 :: a4 :: a5 :: some (.ref x) :: r) (st) n S I J R Q := by
  intro p e Rm s m args below meth c H locs cells slots ls C h1 h2 h3 h4
  exact lv_aload C.1 C.2.1 hd (h3.2.2 6 _ rfl) (k _ _ _ _ _ _ _ _ _ _ _ _ _ ls C h1 h2 h3 h4)
theorem AW_astore_6 {a0 a1 a2 a3 a4 a5 z : Option Value} {r : List (Option Value)} {x : Nat} (hd : decode cc pc = .ok (.astore 6, 2)) (hm : 6 < ml) (hp : rk_one a5 = true) (k : AW G l y cc ml rt d kc ks (pc + 2) (a0 :: a1 :: a2 :: a3 :: a4 :: a5 :: some (.ref x) :: r) (st) n S I J R Q) :
    AW G l y cc ml rt d kc ks (pc) (a0 :: a1 :: a2 :: a3 :: a4 :: a5 :: z :: r) (.ref x :: st) n S I J R Q := by
  intro p e Rm s m args below meth c H locs cells slots ls C h1 h2 h3 h4
  exact lv_astore C.1 C.2.1 hd (rk_L_has h3) hm rfl (fun ls hl => k _ _ _ _ _ _ _ _ _ _ _ _ _ ls C h1 h2 (rk_L_st1 (v := .ref x) hl rfl (fun j w hj hw => by have e : j = 5 := (by omega); subst e; cases hw; exact hp)) h4)
theorem AW_aloadN_6 {a0 a1 a2 a3 a4 a5 : Option Value} {r : List (Option Value)}  (hd : decode cc pc = .ok (.aload 6, 2)) (k : AW G l y cc ml rt d kc ks (pc + 2) (a0 :: a1 :: a2 :: a3 :: a4 :: a5 :: some (.null) :: r) (.null :: st) n S I J R Q) :
    AW G l y cc ml rt d kc ks (pc) (a0 :: a1 :: a2 :: a3 :: a4 :: a5 :: some (.null) :: r) (st) n S I J R Q := by
  intro p e Rm s m args below meth c H locs cells slots ls C h1 h2 h3 h4
  exact lv_aloadN C.1 C.2.1 hd (h3.2.2 6 _ rfl) (k _ _ _ _ _ _ _ _ _ _ _ _ _ ls C h1 h2 h3 h4)
theorem AW_astoreN_6 {a0 a1 a2 a3 a4 a5 z : Option Value} {r : List (Option Value)}  (hd : decode cc pc = .ok (.astore 6, 2)) (hm : 6 < ml) (hp : rk_one a5 = true) (k : AW G l y cc ml rt d kc ks (pc + 2) (a0 :: a1 :: a2 :: a3 :: a4 :: a5 :: some (.null) :: r) (st) n S I J R Q) :
    AW G l y cc ml rt d kc ks (pc) (a0 :: a1 :: a2 :: a3 :: a4 :: a5 :: z :: r) (.null :: st) n S I J R Q := by
  intro p e Rm s m args below meth c H locs cells slots ls C h1 h2 h3 h4
  exact lv_astoreN C.1 C.2.1 hd (rk_L_has h3) hm rfl (fun ls hl => k _ _ _ _ _ _ _ _ _ _ _ _ _ ls C h1 h2 (rk_L_st1 (v := .null) hl rfl (fun j w hj hw => by have e : j = 5 := (by omega); subst e; cases hw; exact hp)) h4)
theorem AW_iinc_6 {a0 a1 a2 a3 a4 a5 : Option Value} {r : List (Option Value)} {x v : Int32} {q : Int} (hd : decode cc pc = .ok (.iinc 6 q, 3)) (hv : Int32.ofInt q = v) (hm : 6 < ml) (hp : rk_one a5 = true) (k : AW G l y cc ml rt d kc ks (pc + 3) (a0 :: a1 :: a2 :: a3 :: a4 :: a5 :: some (.int (x + v)) :: r) (st) n S I J R Q) :
    AW G l y cc ml rt d kc ks (pc) (a0 :: a1 :: a2 :: a3 :: a4 :: a5 :: some (.int x) :: r) (st) n S I J R Q := by
  intro p e Rm s m args below meth c H locs cells slots ls C h1 h2 h3 h4
  subst hv
  obtain ⟨j, hj⟩ := List.getElem?_of_mem (rk_as_mem (ad := G.1) (lv := a0 :: a1 :: a2 :: a3 :: a4 :: a5 :: some (.int x) :: r) (q := (6, .int x)) |>.mpr ⟨.int x, rfl, rfl⟩)
  exact lv_iinc C.1 C.2.1 hd (rk_L_has h3) hj rfl hm rfl (fun ls hl => k _ _ _ _ _ _ _ _ _ _ _ _ _ ls C h1 h2 (rk_L_st1 (v := .int _) hl rfl (fun j w hj hw => by have e : j = 5 := (by omega); subst e; cases hw; exact hp)) h4)
theorem AW_drop_6 {a0 a1 a2 a3 a4 a5 : Option Value} {r : List (Option Value)} {w : Option Value} (k : AW G l y cc ml rt d kc ks (pc) (a0 :: a1 :: a2 :: a3 :: a4 :: a5 :: none :: r) (st) n S I J R Q) :
    AW G l y cc ml rt d kc ks (pc) (a0 :: a1 :: a2 :: a3 :: a4 :: a5 :: w :: r) (st) n S I J R Q := by
  intro p e Rm s m args below meth c H locs cells slots ls C h1 h2 h3 h4
  refine k _ _ _ _ _ _ _ _ _ _ _ _ _ ls C h1 h2 ⟨h3.1, h3.2.1, fun j v hj => h3.2.2 j v ?_⟩ h4
  by_cases e : j = 6
  · subst e; simp at hj
  · have hh : ∀ (o : Option Value), (a0 :: a1 :: a2 :: a3 :: a4 :: a5 :: none :: r)[j]? = ((a0 :: a1 :: a2 :: a3 :: a4 :: a5 :: o :: r).set 6 none)[j]? := fun o => rfl
    rw [hh w, List.getElem?_set_ne (Ne.symm e)] at hj
    exact hj
theorem AW_iload_7 {a0 a1 a2 a3 a4 a5 a6 : Option Value} {r : List (Option Value)} {x : Int32} (hd : decode cc pc = .ok (.iload 7, 2)) (k : AW G l y cc ml rt d kc ks (pc + 2) (a0 :: a1 :: a2 :: a3 :: a4 :: a5 :: a6 :: some (.int x) :: r) (.int x :: st) n S I J R Q) :
    AW G l y cc ml rt d kc ks (pc) (a0 :: a1 :: a2 :: a3 :: a4 :: a5 :: a6 :: some (.int x) :: r) (st) n S I J R Q := by
  intro p e Rm s m args below meth c H locs cells slots ls C h1 h2 h3 h4
  exact lv_iload C.1 C.2.1 hd (h3.2.2 7 _ rfl) (k _ _ _ _ _ _ _ _ _ _ _ _ _ ls C h1 h2 h3 h4)
theorem AW_istore_7 {a0 a1 a2 a3 a4 a5 a6 z : Option Value} {r : List (Option Value)} {x : Int32} (hd : decode cc pc = .ok (.istore 7, 2)) (hm : 7 < ml) (hp : rk_one a6 = true) (k : AW G l y cc ml rt d kc ks (pc + 2) (a0 :: a1 :: a2 :: a3 :: a4 :: a5 :: a6 :: some (.int x) :: r) (st) n S I J R Q) :
    AW G l y cc ml rt d kc ks (pc) (a0 :: a1 :: a2 :: a3 :: a4 :: a5 :: a6 :: z :: r) (.int x :: st) n S I J R Q := by
  intro p e Rm s m args below meth c H locs cells slots ls C h1 h2 h3 h4
  exact lv_istore C.1 C.2.1 hd (rk_L_has h3) hm rfl (fun ls hl => k _ _ _ _ _ _ _ _ _ _ _ _ _ ls C h1 h2 (rk_L_st1 (v := .int x) hl rfl (fun j w hj hw => by have e : j = 6 := (by omega); subst e; cases hw; exact hp)) h4)
theorem AW_lload_7 {a0 a1 a2 a3 a4 a5 a6 : Option Value} {r : List (Option Value)} {x : Int64} (hd : decode cc pc = .ok (.lload 7, 2)) (k : AW G l y cc ml rt d kc ks (pc + 2) (a0 :: a1 :: a2 :: a3 :: a4 :: a5 :: a6 :: some (.long x) :: r) (.long x :: st) n S I J R Q) :
    AW G l y cc ml rt d kc ks (pc) (a0 :: a1 :: a2 :: a3 :: a4 :: a5 :: a6 :: some (.long x) :: r) (st) n S I J R Q := by
  intro p e Rm s m args below meth c H locs cells slots ls C h1 h2 h3 h4
  exact lv_lload C.1 C.2.1 hd (h3.2.2 7 _ rfl) (k _ _ _ _ _ _ _ _ _ _ _ _ _ ls C h1 h2 h3 h4)
theorem AW_lstore_7 {a0 a1 a2 a3 a4 a5 a6 z z2 : Option Value} {r : List (Option Value)} {x : Int64} (hd : decode cc pc = .ok (.lstore 7, 2)) (hm : 7 + 1 < ml) (hp : rk_one a6 = true) (k : AW G l y cc ml rt d kc ks (pc + 2) (a0 :: a1 :: a2 :: a3 :: a4 :: a5 :: a6 :: some (.long x) :: none :: r) (st) n S I J R Q) :
    AW G l y cc ml rt d kc ks (pc) (a0 :: a1 :: a2 :: a3 :: a4 :: a5 :: a6 :: z :: z2 :: r) (.long x :: st) n S I J R Q := by
  intro p e Rm s m args below meth c H locs cells slots ls C h1 h2 h3 h4
  exact lv_lstore C.1 C.2.1 hd (rk_L_has h3) hm rfl (fun ls hl => k _ _ _ _ _ _ _ _ _ _ _ _ _ ls C h1 h2 (rk_L_st2 (v := .long x) hl rfl (fun j w hj hw => by have e : j = 6 := (by omega); subst e; cases hw; exact hp)) h4)
theorem AW_aload_7 {a0 a1 a2 a3 a4 a5 a6 : Option Value} {r : List (Option Value)} {x : Nat} (hd : decode cc pc = .ok (.aload 7, 2)) (k : AW G l y cc ml rt d kc ks (pc + 2) (a0 :: a1 :: a2 :: a3 :: a4 :: a5 :: a6 :: some (.ref x) :: r) (.ref x :: st) n S I J R Q) :
    AW G l y cc ml rt d kc ks (pc) (a0 :: a1 :: a2 :: a3 :: a4 :: a5 :: a6 :: some (.ref x) :: r) (st) n S I J R Q := by
  intro p e Rm s m args below meth c H locs cells slots ls C h1 h2 h3 h4
  exact lv_aload C.1 C.2.1 hd (h3.2.2 7 _ rfl) (k _ _ _ _ _ _ _ _ _ _ _ _ _ ls C h1 h2 h3 h4)
theorem AW_astore_7 {a0 a1 a2 a3 a4 a5 a6 z : Option Value} {r : List (Option Value)} {x : Nat} (hd : decode cc pc = .ok (.astore 7, 2)) (hm : 7 < ml) (hp : rk_one a6 = true) (k : AW G l y cc ml rt d kc ks (pc + 2) (a0 :: a1 :: a2 :: a3 :: a4 :: a5 :: a6 :: some (.ref x) :: r) (st) n S I J R Q) :
    AW G l y cc ml rt d kc ks (pc) (a0 :: a1 :: a2 :: a3 :: a4 :: a5 :: a6 :: z :: r) (.ref x :: st) n S I J R Q := by
  intro p e Rm s m args below meth c H locs cells slots ls C h1 h2 h3 h4
  exact lv_astore C.1 C.2.1 hd (rk_L_has h3) hm rfl (fun ls hl => k _ _ _ _ _ _ _ _ _ _ _ _ _ ls C h1 h2 (rk_L_st1 (v := .ref x) hl rfl (fun j w hj hw => by have e : j = 6 := (by omega); subst e; cases hw; exact hp)) h4)
theorem AW_aloadN_7 {a0 a1 a2 a3 a4 a5 a6 : Option Value} {r : List (Option Value)}  (hd : decode cc pc = .ok (.aload 7, 2)) (k : AW G l y cc ml rt d kc ks (pc + 2) (a0 :: a1 :: a2 :: a3 :: a4 :: a5 :: a6 :: some (.null) :: r) (.null :: st) n S I J R Q) :
    AW G l y cc ml rt d kc ks (pc) (a0 :: a1 :: a2 :: a3 :: a4 :: a5 :: a6 :: some (.null) :: r) (st) n S I J R Q := by
  intro p e Rm s m args below meth c H locs cells slots ls C h1 h2 h3 h4
  exact lv_aloadN C.1 C.2.1 hd (h3.2.2 7 _ rfl) (k _ _ _ _ _ _ _ _ _ _ _ _ _ ls C h1 h2 h3 h4)
theorem AW_astoreN_7 {a0 a1 a2 a3 a4 a5 a6 z : Option Value} {r : List (Option Value)}  (hd : decode cc pc = .ok (.astore 7, 2)) (hm : 7 < ml) (hp : rk_one a6 = true) (k : AW G l y cc ml rt d kc ks (pc + 2) (a0 :: a1 :: a2 :: a3 :: a4 :: a5 :: a6 :: some (.null) :: r) (st) n S I J R Q) :
    AW G l y cc ml rt d kc ks (pc) (a0 :: a1 :: a2 :: a3 :: a4 :: a5 :: a6 :: z :: r) (.null :: st) n S I J R Q := by
  intro p e Rm s m args below meth c H locs cells slots ls C h1 h2 h3 h4
  exact lv_astoreN C.1 C.2.1 hd (rk_L_has h3) hm rfl (fun ls hl => k _ _ _ _ _ _ _ _ _ _ _ _ _ ls C h1 h2 (rk_L_st1 (v := .null) hl rfl (fun j w hj hw => by have e : j = 6 := (by omega); subst e; cases hw; exact hp)) h4)
theorem AW_iinc_7 {a0 a1 a2 a3 a4 a5 a6 : Option Value} {r : List (Option Value)} {x v : Int32} {q : Int} (hd : decode cc pc = .ok (.iinc 7 q, 3)) (hv : Int32.ofInt q = v) (hm : 7 < ml) (hp : rk_one a6 = true) (k : AW G l y cc ml rt d kc ks (pc + 3) (a0 :: a1 :: a2 :: a3 :: a4 :: a5 :: a6 :: some (.int (x + v)) :: r) (st) n S I J R Q) :
    AW G l y cc ml rt d kc ks (pc) (a0 :: a1 :: a2 :: a3 :: a4 :: a5 :: a6 :: some (.int x) :: r) (st) n S I J R Q := by
  intro p e Rm s m args below meth c H locs cells slots ls C h1 h2 h3 h4
  subst hv
  obtain ⟨j, hj⟩ := List.getElem?_of_mem (rk_as_mem (ad := G.1) (lv := a0 :: a1 :: a2 :: a3 :: a4 :: a5 :: a6 :: some (.int x) :: r) (q := (7, .int x)) |>.mpr ⟨.int x, rfl, rfl⟩)
  exact lv_iinc C.1 C.2.1 hd (rk_L_has h3) hj rfl hm rfl (fun ls hl => k _ _ _ _ _ _ _ _ _ _ _ _ _ ls C h1 h2 (rk_L_st1 (v := .int _) hl rfl (fun j w hj hw => by have e : j = 6 := (by omega); subst e; cases hw; exact hp)) h4)
theorem AW_drop_7 {a0 a1 a2 a3 a4 a5 a6 : Option Value} {r : List (Option Value)} {w : Option Value} (k : AW G l y cc ml rt d kc ks (pc) (a0 :: a1 :: a2 :: a3 :: a4 :: a5 :: a6 :: none :: r) (st) n S I J R Q) :
    AW G l y cc ml rt d kc ks (pc) (a0 :: a1 :: a2 :: a3 :: a4 :: a5 :: a6 :: w :: r) (st) n S I J R Q := by
  intro p e Rm s m args below meth c H locs cells slots ls C h1 h2 h3 h4
  refine k _ _ _ _ _ _ _ _ _ _ _ _ _ ls C h1 h2 ⟨h3.1, h3.2.1, fun j v hj => h3.2.2 j v ?_⟩ h4
  by_cases e : j = 7
  · subst e; simp at hj
  · have hh : ∀ (o : Option Value), (a0 :: a1 :: a2 :: a3 :: a4 :: a5 :: a6 :: none :: r)[j]? = ((a0 :: a1 :: a2 :: a3 :: a4 :: a5 :: a6 :: o :: r).set 7 none)[j]? := fun o => rfl
    rw [hh w, List.getElem?_set_ne (Ne.symm e)] at hj
    exact hj
theorem AW_iload_8 {a0 a1 a2 a3 a4 a5 a6 a7 : Option Value} {r : List (Option Value)} {x : Int32} (hd : decode cc pc = .ok (.iload 8, 2)) (k : AW G l y cc ml rt d kc ks (pc + 2) (a0 :: a1 :: a2 :: a3 :: a4 :: a5 :: a6 :: a7 :: some (.int x) :: r) (.int x :: st) n S I J R Q) :
    AW G l y cc ml rt d kc ks (pc) (a0 :: a1 :: a2 :: a3 :: a4 :: a5 :: a6 :: a7 :: some (.int x) :: r) (st) n S I J R Q := by
  intro p e Rm s m args below meth c H locs cells slots ls C h1 h2 h3 h4
  exact lv_iload C.1 C.2.1 hd (h3.2.2 8 _ rfl) (k _ _ _ _ _ _ _ _ _ _ _ _ _ ls C h1 h2 h3 h4)
theorem AW_istore_8 {a0 a1 a2 a3 a4 a5 a6 a7 z : Option Value} {r : List (Option Value)} {x : Int32} (hd : decode cc pc = .ok (.istore 8, 2)) (hm : 8 < ml) (hp : rk_one a7 = true) (k : AW G l y cc ml rt d kc ks (pc + 2) (a0 :: a1 :: a2 :: a3 :: a4 :: a5 :: a6 :: a7 :: some (.int x) :: r) (st) n S I J R Q) :
    AW G l y cc ml rt d kc ks (pc) (a0 :: a1 :: a2 :: a3 :: a4 :: a5 :: a6 :: a7 :: z :: r) (.int x :: st) n S I J R Q := by
  intro p e Rm s m args below meth c H locs cells slots ls C h1 h2 h3 h4
  exact lv_istore C.1 C.2.1 hd (rk_L_has h3) hm rfl (fun ls hl => k _ _ _ _ _ _ _ _ _ _ _ _ _ ls C h1 h2 (rk_L_st1 (v := .int x) hl rfl (fun j w hj hw => by have e : j = 7 := (by omega); subst e; cases hw; exact hp)) h4)
theorem AW_lload_8 {a0 a1 a2 a3 a4 a5 a6 a7 : Option Value} {r : List (Option Value)} {x : Int64} (hd : decode cc pc = .ok (.lload 8, 2)) (k : AW G l y cc ml rt d kc ks (pc + 2) (a0 :: a1 :: a2 :: a3 :: a4 :: a5 :: a6 :: a7 :: some (.long x) :: r) (.long x :: st) n S I J R Q) :
    AW G l y cc ml rt d kc ks (pc) (a0 :: a1 :: a2 :: a3 :: a4 :: a5 :: a6 :: a7 :: some (.long x) :: r) (st) n S I J R Q := by
  intro p e Rm s m args below meth c H locs cells slots ls C h1 h2 h3 h4
  exact lv_lload C.1 C.2.1 hd (h3.2.2 8 _ rfl) (k _ _ _ _ _ _ _ _ _ _ _ _ _ ls C h1 h2 h3 h4)
theorem AW_lstore_8 {a0 a1 a2 a3 a4 a5 a6 a7 z z2 : Option Value} {r : List (Option Value)} {x : Int64} (hd : decode cc pc = .ok (.lstore 8, 2)) (hm : 8 + 1 < ml) (hp : rk_one a7 = true) (k : AW G l y cc ml rt d kc ks (pc + 2) (a0 :: a1 :: a2 :: a3 :: a4 :: a5 :: a6 :: a7 :: some (.long x) :: none :: r) (st) n S I J R Q) :
    AW G l y cc ml rt d kc ks (pc) (a0 :: a1 :: a2 :: a3 :: a4 :: a5 :: a6 :: a7 :: z :: z2 :: r) (.long x :: st) n S I J R Q := by
  intro p e Rm s m args below meth c H locs cells slots ls C h1 h2 h3 h4
  exact lv_lstore C.1 C.2.1 hd (rk_L_has h3) hm rfl (fun ls hl => k _ _ _ _ _ _ _ _ _ _ _ _ _ ls C h1 h2 (rk_L_st2 (v := .long x) hl rfl (fun j w hj hw => by have e : j = 7 := (by omega); subst e; cases hw; exact hp)) h4)
theorem AW_aload_8 {a0 a1 a2 a3 a4 a5 a6 a7 : Option Value} {r : List (Option Value)} {x : Nat} (hd : decode cc pc = .ok (.aload 8, 2)) (k : AW G l y cc ml rt d kc ks (pc + 2) (a0 :: a1 :: a2 :: a3 :: a4 :: a5 :: a6 :: a7 :: some (.ref x) :: r) (.ref x :: st) n S I J R Q) :
    AW G l y cc ml rt d kc ks (pc) (a0 :: a1 :: a2 :: a3 :: a4 :: a5 :: a6 :: a7 :: some (.ref x) :: r) (st) n S I J R Q := by
  intro p e Rm s m args below meth c H locs cells slots ls C h1 h2 h3 h4
  exact lv_aload C.1 C.2.1 hd (h3.2.2 8 _ rfl) (k _ _ _ _ _ _ _ _ _ _ _ _ _ ls C h1 h2 h3 h4)
theorem AW_astore_8 {a0 a1 a2 a3 a4 a5 a6 a7 z : Option Value} {r : List (Option Value)} {x : Nat} (hd : decode cc pc = .ok (.astore 8, 2)) (hm : 8 < ml) (hp : rk_one a7 = true) (k : AW G l y cc ml rt d kc ks (pc + 2) (a0 :: a1 :: a2 :: a3 :: a4 :: a5 :: a6 :: a7 :: some (.ref x) :: r) (st) n S I J R Q) :
    AW G l y cc ml rt d kc ks (pc) (a0 :: a1 :: a2 :: a3 :: a4 :: a5 :: a6 :: a7 :: z :: r) (.ref x :: st) n S I J R Q := by
  intro p e Rm s m args below meth c H locs cells slots ls C h1 h2 h3 h4
  exact lv_astore C.1 C.2.1 hd (rk_L_has h3) hm rfl (fun ls hl => k _ _ _ _ _ _ _ _ _ _ _ _ _ ls C h1 h2 (rk_L_st1 (v := .ref x) hl rfl (fun j w hj hw => by have e : j = 7 := (by omega); subst e; cases hw; exact hp)) h4)
theorem AW_aloadN_8 {a0 a1 a2 a3 a4 a5 a6 a7 : Option Value} {r : List (Option Value)}  (hd : decode cc pc = .ok (.aload 8, 2)) (k : AW G l y cc ml rt d kc ks (pc + 2) (a0 :: a1 :: a2 :: a3 :: a4 :: a5 :: a6 :: a7 :: some (.null) :: r) (.null :: st) n S I J R Q) :
    AW G l y cc ml rt d kc ks (pc) (a0 :: a1 :: a2 :: a3 :: a4 :: a5 :: a6 :: a7 :: some (.null) :: r) (st) n S I J R Q := by
  intro p e Rm s m args below meth c H locs cells slots ls C h1 h2 h3 h4
  exact lv_aloadN C.1 C.2.1 hd (h3.2.2 8 _ rfl) (k _ _ _ _ _ _ _ _ _ _ _ _ _ ls C h1 h2 h3 h4)
theorem AW_astoreN_8 {a0 a1 a2 a3 a4 a5 a6 a7 z : Option Value} {r : List (Option Value)}  (hd : decode cc pc = .ok (.astore 8, 2)) (hm : 8 < ml) (hp : rk_one a7 = true) (k : AW G l y cc ml rt d kc ks (pc + 2) (a0 :: a1 :: a2 :: a3 :: a4 :: a5 :: a6 :: a7 :: some (.null) :: r) (st) n S I J R Q) :
    AW G l y cc ml rt d kc ks (pc) (a0 :: a1 :: a2 :: a3 :: a4 :: a5 :: a6 :: a7 :: z :: r) (.null :: st) n S I J R Q := by
  intro p e Rm s m args below meth c H locs cells slots ls C h1 h2 h3 h4
  exact lv_astoreN C.1 C.2.1 hd (rk_L_has h3) hm rfl (fun ls hl => k _ _ _ _ _ _ _ _ _ _ _ _ _ ls C h1 h2 (rk_L_st1 (v := .null) hl rfl (fun j w hj hw => by have e : j = 7 := (by omega); subst e; cases hw; exact hp)) h4)
theorem AW_iinc_8 {a0 a1 a2 a3 a4 a5 a6 a7 : Option Value} {r : List (Option Value)} {x v : Int32} {q : Int} (hd : decode cc pc = .ok (.iinc 8 q, 3)) (hv : Int32.ofInt q = v) (hm : 8 < ml) (hp : rk_one a7 = true) (k : AW G l y cc ml rt d kc ks (pc + 3) (a0 :: a1 :: a2 :: a3 :: a4 :: a5 :: a6 :: a7 :: some (.int (x + v)) :: r) (st) n S I J R Q) :
    AW G l y cc ml rt d kc ks (pc) (a0 :: a1 :: a2 :: a3 :: a4 :: a5 :: a6 :: a7 :: some (.int x) :: r) (st) n S I J R Q := by
  intro p e Rm s m args below meth c H locs cells slots ls C h1 h2 h3 h4
  subst hv
  obtain ⟨j, hj⟩ := List.getElem?_of_mem (rk_as_mem (ad := G.1) (lv := a0 :: a1 :: a2 :: a3 :: a4 :: a5 :: a6 :: a7 :: some (.int x) :: r) (q := (8, .int x)) |>.mpr ⟨.int x, rfl, rfl⟩)
  exact lv_iinc C.1 C.2.1 hd (rk_L_has h3) hj rfl hm rfl (fun ls hl => k _ _ _ _ _ _ _ _ _ _ _ _ _ ls C h1 h2 (rk_L_st1 (v := .int _) hl rfl (fun j w hj hw => by have e : j = 7 := (by omega); subst e; cases hw; exact hp)) h4)
theorem AW_drop_8 {a0 a1 a2 a3 a4 a5 a6 a7 : Option Value} {r : List (Option Value)} {w : Option Value} (k : AW G l y cc ml rt d kc ks (pc) (a0 :: a1 :: a2 :: a3 :: a4 :: a5 :: a6 :: a7 :: none :: r) (st) n S I J R Q) :
    AW G l y cc ml rt d kc ks (pc) (a0 :: a1 :: a2 :: a3 :: a4 :: a5 :: a6 :: a7 :: w :: r) (st) n S I J R Q := by
  intro p e Rm s m args below meth c H locs cells slots ls C h1 h2 h3 h4
  refine k _ _ _ _ _ _ _ _ _ _ _ _ _ ls C h1 h2 ⟨h3.1, h3.2.1, fun j v hj => h3.2.2 j v ?_⟩ h4
  by_cases e : j = 8
  · subst e; simp at hj
  · have hh : ∀ (o : Option Value), (a0 :: a1 :: a2 :: a3 :: a4 :: a5 :: a6 :: a7 :: none :: r)[j]? = ((a0 :: a1 :: a2 :: a3 :: a4 :: a5 :: a6 :: a7 :: o :: r).set 8 none)[j]? := fun o => rfl
    rw [hh w, List.getElem?_set_ne (Ne.symm e)] at hj
    exact hj
theorem AW_iload_9 {a0 a1 a2 a3 a4 a5 a6 a7 a8 : Option Value} {r : List (Option Value)} {x : Int32} (hd : decode cc pc = .ok (.iload 9, 2)) (k : AW G l y cc ml rt d kc ks (pc + 2) (a0 :: a1 :: a2 :: a3 :: a4 :: a5 :: a6 :: a7 :: a8 :: some (.int x) :: r) (.int x :: st) n S I J R Q) :
    AW G l y cc ml rt d kc ks (pc) (a0 :: a1 :: a2 :: a3 :: a4 :: a5 :: a6 :: a7 :: a8 :: some (.int x) :: r) (st) n S I J R Q := by
  intro p e Rm s m args below meth c H locs cells slots ls C h1 h2 h3 h4
  exact lv_iload C.1 C.2.1 hd (h3.2.2 9 _ rfl) (k _ _ _ _ _ _ _ _ _ _ _ _ _ ls C h1 h2 h3 h4)
theorem AW_istore_9 {a0 a1 a2 a3 a4 a5 a6 a7 a8 z : Option Value} {r : List (Option Value)} {x : Int32} (hd : decode cc pc = .ok (.istore 9, 2)) (hm : 9 < ml) (hp : rk_one a8 = true) (k : AW G l y cc ml rt d kc ks (pc + 2) (a0 :: a1 :: a2 :: a3 :: a4 :: a5 :: a6 :: a7 :: a8 :: some (.int x) :: r) (st) n S I J R Q) :
    AW G l y cc ml rt d kc ks (pc) (a0 :: a1 :: a2 :: a3 :: a4 :: a5 :: a6 :: a7 :: a8 :: z :: r) (.int x :: st) n S I J R Q := by
  intro p e Rm s m args below meth c H locs cells slots ls C h1 h2 h3 h4
  exact lv_istore C.1 C.2.1 hd (rk_L_has h3) hm rfl (fun ls hl => k _ _ _ _ _ _ _ _ _ _ _ _ _ ls C h1 h2 (rk_L_st1 (v := .int x) hl rfl (fun j w hj hw => by have e : j = 8 := (by omega); subst e; cases hw; exact hp)) h4)
theorem AW_lload_9 {a0 a1 a2 a3 a4 a5 a6 a7 a8 : Option Value} {r : List (Option Value)} {x : Int64} (hd : decode cc pc = .ok (.lload 9, 2)) (k : AW G l y cc ml rt d kc ks (pc + 2) (a0 :: a1 :: a2 :: a3 :: a4 :: a5 :: a6 :: a7 :: a8 :: some (.long x) :: r) (.long x :: st) n S I J R Q) :
    AW G l y cc ml rt d kc ks (pc) (a0 :: a1 :: a2 :: a3 :: a4 :: a5 :: a6 :: a7 :: a8 :: some (.long x) :: r) (st) n S I J R Q := by
  intro p e Rm s m args below meth c H locs cells slots ls C h1 h2 h3 h4
  exact lv_lload C.1 C.2.1 hd (h3.2.2 9 _ rfl) (k _ _ _ _ _ _ _ _ _ _ _ _ _ ls C h1 h2 h3 h4)
theorem AW_lstore_9 {a0 a1 a2 a3 a4 a5 a6 a7 a8 z z2 : Option Value} {r : List (Option Value)} {x : Int64} (hd : decode cc pc = .ok (.lstore 9, 2)) (hm : 9 + 1 < ml) (hp : rk_one a8 = true) (k : AW G l y cc ml rt d kc ks (pc + 2) (a0 :: a1 :: a2 :: a3 :: a4 :: a5 :: a6 :: a7 :: a8 :: some (.long x) :: none :: r) (st) n S I J R Q) :
    AW G l y cc ml rt d kc ks (pc) (a0 :: a1 :: a2 :: a3 :: a4 :: a5 :: a6 :: a7 :: a8 :: z :: z2 :: r) (.long x :: st) n S I J R Q := by
  intro p e Rm s m args below meth c H locs cells slots ls C h1 h2 h3 h4
  exact lv_lstore C.1 C.2.1 hd (rk_L_has h3) hm rfl (fun ls hl => k _ _ _ _ _ _ _ _ _ _ _ _ _ ls C h1 h2 (rk_L_st2 (v := .long x) hl rfl (fun j w hj hw => by have e : j = 8 := (by omega); subst e; cases hw; exact hp)) h4)
theorem AW_aload_9 {a0 a1 a2 a3 a4 a5 a6 a7 a8 : Option Value} {r : List (Option Value)} {x : Nat} (hd : decode cc pc = .ok (.aload 9, 2)) (k : AW G l y cc ml rt d kc ks (pc + 2) (a0 :: a1 :: a2 :: a3 :: a4 :: a5 :: a6 :: a7 :: a8 :: some (.ref x) :: r) (.ref x :: st) n S I J R Q) :
    AW G l y cc ml rt d kc ks (pc) (a0 :: a1 :: a2 :: a3 :: a4 :: a5 :: a6 :: a7 :: a8 :: some (.ref x) :: r) (st) n S I J R Q := by
  intro p e Rm s m args below meth c H locs cells slots ls C h1 h2 h3 h4
  exact lv_aload C.1 C.2.1 hd (h3.2.2 9 _ rfl) (k _ _ _ _ _ _ _ _ _ _ _ _ _ ls C h1 h2 h3 h4)
theorem AW_astore_9 {a0 a1 a2 a3 a4 a5 a6 a7 a8 z : Option Value} {r : List (Option Value)} {x : Nat} (hd : decode cc pc = .ok (.astore 9, 2)) (hm : 9 < ml) (hp : rk_one a8 = true) (k : AW G l y cc ml rt d kc ks (pc + 2) (a0 :: a1 :: a2 :: a3 :: a4 :: a5 :: a6 :: a7 :: a8 :: some (.ref x) :: r) (st) n S I J R Q) :
    AW G l y cc ml rt d kc ks (pc) (a0 :: a1 :: a2 :: a3 :: a4 :: a5 :: a6 :: a7 :: a8 :: z :: r) (.ref x :: st) n S I J R Q := by
  intro p e Rm s m args below meth c H locs cells slots ls C h1 h2 h3 h4
  exact lv_astore C.1 C.2.1 hd (rk_L_has h3) hm rfl (fun ls hl => k _ _ _ _ _ _ _ _ _ _ _ _ _ ls C h1 h2 (rk_L_st1 (v := .ref x) hl rfl (fun j w hj hw => by have e : j = 8 := (by omega); subst e; cases hw; exact hp)) h4)
theorem AW_aloadN_9 {a0 a1 a2 a3 a4 a5 a6 a7 a8 : Option Value} {r : List (Option Value)}  (hd : decode cc pc = .ok (.aload 9, 2)) (k : AW G l y cc ml rt d kc ks (pc + 2) (a0 :: a1 :: a2 :: a3 :: a4 :: a5 :: a6 :: a7 :: a8 :: some (.null) :: r) (.null :: st) n S I J R Q) :
    AW G l y cc ml rt d kc ks (pc) (a0 :: a1 :: a2 :: a3 :: a4 :: a5 :: a6 :: a7 :: a8 :: some (.null) :: r) (st) n S I J R Q := by
  intro p e Rm s m args below meth c H locs cells slots ls C h1 h2 h3 h4
  exact lv_aloadN C.1 C.2.1 hd (h3.2.2 9 _ rfl) (k _ _ _ _ _ _ _ _ _ _ _ _ _ ls C h1 h2 h3 h4)
theorem AW_astoreN_9 {a0 a1 a2 a3 a4 a5 a6 a7 a8 z : Option Value} {r : List (Option Value)}  (hd : decode cc pc = .ok (.astore 9, 2)) (hm : 9 < ml) (hp : rk_one a8 = true) (k : AW G l y cc ml rt d kc ks (pc + 2) (a0 :: a1 :: a2 :: a3 :: a4 :: a5 :: a6 :: a7 :: a8 :: some (.null) :: r) (st) n S I J R Q) :
    AW G l y cc ml rt d kc ks (pc) (a0 :: a1 :: a2 :: a3 :: a4 :: a5 :: a6 :: a7 :: a8 :: z :: r) (.null :: st) n S I J R Q := by
  intro p e Rm s m args below meth c H locs cells slots ls C h1 h2 h3 h4
  exact lv_astoreN C.1 C.2.1 hd (rk_L_has h3) hm rfl (fun ls hl => k _ _ _ _ _ _ _ _ _ _ _ _ _ ls C h1 h2 (rk_L_st1 (v := .null) hl rfl (fun j w hj hw => by have e : j = 8 := (by omega); subst e; cases hw; exact hp)) h4)
theorem AW_iinc_9 {a0 a1 a2 a3 a4 a5 a6 a7 a8 : Option Value} {r : List (Option Value)} {x v : Int32} {q : Int} (hd : decode cc pc = .ok (.iinc 9 q, 3)) (hv : Int32.ofInt q = v) (hm : 9 < ml) (hp : rk_one a8 = true) (k : AW G l y cc ml rt d kc ks (pc + 3) (a0 :: a1 :: a2 :: a3 :: a4 :: a5 :: a6 :: a7 :: a8 :: some (.int (x + v)) :: r) (st) n S I J R Q) :
    AW G l y cc ml rt d kc ks (pc) (a0 :: a1 :: a2 :: a3 :: a4 :: a5 :: a6 :: a7 :: a8 :: some (.int x) :: r) (st) n S I J R Q := by
  intro p e Rm s m args below meth c H locs cells slots ls C h1 h2 h3 h4
  subst hv
  obtain ⟨j, hj⟩ := List.getElem?_of_mem (rk_as_mem (ad := G.1) (lv := a0 :: a1 :: a2 :: a3 :: a4 :: a5 :: a6 :: a7 :: a8 :: some (.int x) :: r) (q := (9, .int x)) |>.mpr ⟨.int x, rfl, rfl⟩)
  exact lv_iinc C.1 C.2.1 hd (rk_L_has h3) hj rfl hm rfl (fun ls hl => k _ _ _ _ _ _ _ _ _ _ _ _ _ ls C h1 h2 (rk_L_st1 (v := .int _) hl rfl (fun j w hj hw => by have e : j = 8 := (by omega); subst e; cases hw; exact hp)) h4)
theorem AW_drop_9 {a0 a1 a2 a3 a4 a5 a6 a7 a8 : Option Value} {r : List (Option Value)} {w : Option Value} (k : AW G l y cc ml rt d kc ks (pc) (a0 :: a1 :: a2 :: a3 :: a4 :: a5 :: a6 :: a7 :: a8 :: none :: r) (st) n S I J R Q) :
    AW G l y cc ml rt d kc ks (pc) (a0 :: a1 :: a2 :: a3 :: a4 :: a5 :: a6 :: a7 :: a8 :: w :: r) (st) n S I J R Q := by
  intro p e Rm s m args below meth c H locs cells slots ls C h1 h2 h3 h4
  refine k _ _ _ _ _ _ _ _ _ _ _ _ _ ls C h1 h2 ⟨h3.1, h3.2.1, fun j v hj => h3.2.2 j v ?_⟩ h4
  by_cases e : j = 9
  · subst e; simp at hj
  · have hh : ∀ (o : Option Value), (a0 :: a1 :: a2 :: a3 :: a4 :: a5 :: a6 :: a7 :: a8 :: none :: r)[j]? = ((a0 :: a1 :: a2 :: a3 :: a4 :: a5 :: a6 :: a7 :: a8 :: o :: r).set 9 none)[j]? := fun o => rfl
    rw [hh w, List.getElem?_set_ne (Ne.symm e)] at hj
    exact hj
theorem AW_iload_10 {a0 a1 a2 a3 a4 a5 a6 a7 a8 a9 : Option Value} {r : List (Option Value)} {x : Int32} (hd : decode cc pc = .ok (.iload 10, 2)) (k : AW G l y cc ml rt d kc ks (pc + 2) (a0 :: a1 :: a2 :: a3 :: a4 :: a5 :: a6 :: a7 :: a8 :: a9 :: some (.int x) :: r) (.int x :: st) n S I J R Q) :
    AW G l y cc ml rt d kc ks (pc) (a0 :: a1 :: a2 :: a3 :: a4 :: a5 :: a6 :: a7 :: a8 :: a9 :: some (.int x) :: r) (st) n S I J R Q := by
  intro p e Rm s m args below meth c H locs cells slots ls C h1 h2 h3 h4
  exact lv_iload C.1 C.2.1 hd (h3.2.2 10 _ rfl) (k _ _ _ _ _ _ _ _ _ _ _ _ _ ls C h1 h2 h3 h4)
theorem AW_istore_10 {a0 a1 a2 a3 a4 a5 a6 a7 a8 a9 z : Option Value} {r : List (Option Value)} {x : Int32} (hd : decode cc pc = .ok (.istore 10, 2)) (hm : 10 < ml) (hp : rk_one a9 = true) (k : AW G l y cc ml rt d kc ks (pc + 2) (a0 :: a1 :: a2 :: a3 :: a4 :: a5 :: a6 :: a7 :: a8 :: a9 :: some (.int x) :: r) (st) n S I J R Q) :
    AW G l y cc ml rt d kc ks (pc) (a0 :: a1 :: a2 :: a3 :: a4 :: a5 :: a6 :: a7 :: a8 :: a9 :: z :: r) (.int x :: st) n S I J R Q := by
  intro p e Rm s m args below meth c H locs cells slots ls C h1 h2 h3 h4
  exact lv_istore C.1 C.2.1 hd (rk_L_has h3) hm rfl (fun ls hl => k _ _ _ _ _ _ _ _ _ _ _ _ _ ls C h1 h2 (rk_L_st1 (v := .int x) hl rfl (fun j w hj hw => by have e : j = 9 := (by omega); subst e; cases hw; exact hp)) h4)
theorem AW_lload_10 {a0 a1 a2 a3 a4 a5 a6 a7 a8 a9 : Option Value} {r : List (Option Value)} {x : Int64} (hd : decode cc pc = .ok (.lload 10, 2)) (k : AW G l y cc ml rt d kc ks (pc + 2) (a0 :: a1 :: a2 :: a3 :: a4 :: a5 :: a6 :: a7 :: a8 :: a9 :: some (.long x) :: r) (.long x :: st) n S I J R Q) :
    AW G l y cc ml rt d kc ks (pc) (a0 :: a1 :: a2 :: a3 :: a4 :: a5 :: a6 :: a7 :: a8 :: a9 :: some (.long x) :: r) (st) n S I J R Q := by
  intro p e Rm s m args below meth c H locs cells slots ls C h1 h2 h3 h4
  exact lv_lload C.1 C.2.1 hd (h3.2.2 10 _ rfl) (k _ _ _ _ _ _ _ _ _ _ _ _ _ ls C h1 h2 h3 h4)
theorem AW_lstore_10 {a0 a1 a2 a3 a4 a5 a6 a7 a8 a9 z z2 : Option Value} {r : List (Option Value)} {x : Int64} (hd : decode cc pc = .ok (.lstore 10, 2)) (hm : 10 + 1 < ml) (hp : rk_one a9 = true) (k : AW G l y cc ml rt d kc ks (pc + 2) (a0 :: a1 :: a2 :: a3 :: a4 :: a5 :: a6 :: a7 :: a8 :: a9 :: some (.long x) :: none :: r) (st) n S I J R Q) :
    AW G l y cc ml rt d kc ks (pc) (a0 :: a1 :: a2 :: a3 :: a4 :: a5 :: a6 :: a7 :: a8 :: a9 :: z :: z2 :: r) (.long x :: st) n S I J R Q := by
  intro p e Rm s m args below meth c H locs cells slots ls C h1 h2 h3 h4
  exact lv_lstore C.1 C.2.1 hd (rk_L_has h3) hm rfl (fun ls hl => k _ _ _ _ _ _ _ _ _ _ _ _ _ ls C h1 h2 (rk_L_st2 (v := .long x) hl rfl (fun j w hj hw => by have e : j = 9 := (by omega); subst e; cases hw; exact hp)) h4)
theorem AW_aload_10 {a0 a1 a2 a3 a4 a5 a6 a7 a8 a9 : Option Value} {r : List (Option Value)} {x : Nat} (hd : decode cc pc = .ok (.aload 10, 2)) (k : AW G l y cc ml rt d kc ks (pc + 2) (a0 :: a1 :: a2 :: a3 :: a4 :: a5 :: a6 :: a7 :: a8 :: a9 :: some (.ref x) :: r) (.ref x :: st) n S I J R Q) :
    AW G l y cc ml rt d kc ks (pc) (a0 :: a1 :: a2 :: a3 :: a4 :: a5 :: a6 :: a7 :: a8 :: a9 :: some (.ref x) :: r) (st) n S I J R Q := by
  intro p e Rm s m args below meth c H locs cells slots ls C h1 h2 h3 h4
  exact lv_aload C.1 C.2.1 hd (h3.2.2 10 _ rfl) (k _ _ _ _ _ _ _ _ _ _ _ _ _ ls C h1 h2 h3 h4)
theorem AW_astore_10 {a0 a1 a2 a3 a4 a5 a6 a7 a8 a9 z : Option Value} {r : List (Option Value)} {x : Nat} (hd : decode cc pc = .ok (.astore 10, 2)) (hm : 10 < ml) (hp : rk_one a9 = true) (k : AW G l y cc ml rt d kc ks (pc + 2) (a0 :: a1 :: a2 :: a3 :: a4 :: a5 :: a6 :: a7 :: a8 :: a9 :: some (.ref x) :: r) (st) n S I J R Q) :
    AW G l y cc ml rt d kc ks (pc) (a0 :: a1 :: a2 :: a3 :: a4 :: a5 :: a6 :: a7 :: a8 :: a9 :: z :: r) (.ref x :: st) n S I J R Q := by
  intro p e Rm s m args below meth c H locs cells slots ls C h1 h2 h3 h4
  exact lv_astore C.1 C.2.1 hd (rk_L_has h3) hm rfl (fun ls hl => k _ _ _ _ _ _ _ _ _ _ _ _ _ ls C h1 h2 (rk_L_st1 (v := .ref x) hl rfl (fun j w hj hw => by have e : j = 9 := (by omega); subst e; cases hw; exact hp)) h4)
theorem AW_aloadN_10 {a0 a1 a2 a3 a4 a5 a6 a7 a8 a9 : Option Value} {r : List (Option Value)}  (hd : decode cc pc = .ok (.aload 10, 2)) (k : AW G l y cc ml rt d kc ks (pc + 2) (a0 :: a1 :: a2 :: a3 :: a4 :: a5 :: a6 :: a7 :: a8 :: a9 :: some (.null) :: r) (.null :: st) n S I J R Q) :
    AW G l y cc ml rt d kc ks (pc) (a0 :: a1 :: a2 :: a3 :: a4 :: a5 :: a6 :: a7 :: a8 :: a9 :: some (.null) :: r) (st) n S I J R Q := by
  intro p e Rm s m args below meth c H locs cells slots ls C h1 h2 h3 h4
  exact lv_aloadN C.1 C.2.1 hd (h3.2.2 10 _ rfl) (k _ _ _ _ _ _ _ _ _ _ _ _ _ ls C h1 h2 h3 h4)
theorem AW_astoreN_10 {a0 a1 a2 a3 a4 a5 a6 a7 a8 a9 z : Option Value} {r : List (Option Value)}  (hd : decode cc pc = .ok (.astore 10, 2)) (hm : 10 < ml) (hp : rk_one a9 = true) (k : AW G l y cc ml rt d kc ks (pc + 2) (a0 :: a1 :: a2 :: a3 :: a4 :: a5 :: a6 :: a7 :: a8 :: a9 :: some (.null) :: r) (st) n S I J R Q) :
    AW G l y cc ml rt d kc ks (pc) (a0 :: a1 :: a2 :: a3 :: a4 :: a5 :: a6 :: a7 :: a8 :: a9 :: z :: r) (.null :: st) n S I J R Q := by
  intro p e Rm s m args below meth c H locs cells slots ls C h1 h2 h3 h4
  exact lv_astoreN C.1 C.2.1 hd (rk_L_has h3) hm rfl (fun ls hl => k _ _ _ _ _ _ _ _ _ _ _ _ _ ls C h1 h2 (rk_L_st1 (v := .null) hl rfl (fun j w hj hw => by have e : j = 9 := (by omega); subst e; cases hw; exact hp)) h4)
theorem AW_iinc_10 {a0 a1 a2 a3 a4 a5 a6 a7 a8 a9 : Option Value} {r : List (Option Value)} {x v : Int32} {q : Int} (hd : decode cc pc = .ok (.iinc 10 q, 3)) (hv : Int32.ofInt q = v) (hm : 10 < ml) (hp : rk_one a9 = true) (k : AW G l y cc ml rt d kc ks (pc + 3) (a0 :: a1 :: a2 :: a3 :: a4 :: a5 :: a6 :: a7 :: a8 :: a9 :: some (.int (x + v)) :: r) (st) n S I J R Q) :
    AW G l y cc ml rt d kc ks (pc) (a0 :: a1 :: a2 :: a3 :: a4 :: a5 :: a6 :: a7 :: a8 :: a9 :: some (.int x) :: r) (st) n S I J R Q := by
  intro p e Rm s m args below meth c H locs cells slots ls C h1 h2 h3 h4
  subst hv
  obtain ⟨j, hj⟩ := List.getElem?_of_mem (rk_as_mem (ad := G.1) (lv := a0 :: a1 :: a2 :: a3 :: a4 :: a5 :: a6 :: a7 :: a8 :: a9 :: some (.int x) :: r) (q := (10, .int x)) |>.mpr ⟨.int x, rfl, rfl⟩)
  exact lv_iinc C.1 C.2.1 hd (rk_L_has h3) hj rfl hm rfl (fun ls hl => k _ _ _ _ _ _ _ _ _ _ _ _ _ ls C h1 h2 (rk_L_st1 (v := .int _) hl rfl (fun j w hj hw => by have e : j = 9 := (by omega); subst e; cases hw; exact hp)) h4)
theorem AW_drop_10 {a0 a1 a2 a3 a4 a5 a6 a7 a8 a9 : Option Value} {r : List (Option Value)} {w : Option Value} (k : AW G l y cc ml rt d kc ks (pc) (a0 :: a1 :: a2 :: a3 :: a4 :: a5 :: a6 :: a7 :: a8 :: a9 :: none :: r) (st) n S I J R Q) :
    AW G l y cc ml rt d kc ks (pc) (a0 :: a1 :: a2 :: a3 :: a4 :: a5 :: a6 :: a7 :: a8 :: a9 :: w :: r) (st) n S I J R Q := by
  intro p e Rm s m args below meth c H locs cells slots ls C h1 h2 h3 h4
  refine k _ _ _ _ _ _ _ _ _ _ _ _ _ ls C h1 h2 ⟨h3.1, h3.2.1, fun j v hj => h3.2.2 j v ?_⟩ h4
  by_cases e : j = 10
  · subst e; simp at hj
  · have hh : ∀ (o : Option Value), (a0 :: a1 :: a2 :: a3 :: a4 :: a5 :: a6 :: a7 :: a8 :: a9 :: none :: r)[j]? = ((a0 :: a1 :: a2 :: a3 :: a4 :: a5 :: a6 :: a7 :: a8 :: a9 :: o :: r).set 10 none)[j]? := fun o => rfl
    rw [hh w, List.getElem?_set_ne (Ne.symm e)] at hj
    exact hj
theorem AW_iload_11 {a0 a1 a2 a3 a4 a5 a6 a7 a8 a9 a10 : Option Value} {r : List (Option Value)} {x : Int32} (hd : decode cc pc = .ok (.iload 11, 2)) (k : AW G l y cc ml rt d kc ks (pc + 2) (a0 :: a1 :: a2 :: a3 :: a4 :: a5 :: a6 :: a7 :: a8 :: a9 :: a10 :: some (.int x) :: r) (.int x :: st) n S I J R Q) :
    AW G l y cc ml rt d kc ks (pc) (a0 :: a1 :: a2 :: a3 :: a4 :: a5 :: a6 :: a7 :: a8 :: a9 :: a10 :: some (.int x) :: r) (st) n S I J R Q := by
  intro p e Rm s m args below meth c H locs cells slots ls C h1 h2 h3 h4
  exact lv_iload C.1 C.2.1 hd (h3.2.2 11 _ rfl) (k _ _ _ _ _ _ _ _ _ _ _ _ _ ls C h1 h2 h3 h4)
theorem AW_istore_11 {a0 a1 a2 a3 a4 a5 a6 a7 a8 a9 a10 z : Option Value} {r : List (Option Value)} {x : Int32} (hd : decode cc pc = .ok (.istore 11, 2)) (hm : 11 < ml) (hp : rk_one a10 = true) (k : AW G l y cc ml rt d kc ks (pc + 2) (a0 :: a1 :: a2 :: a3 :: a4 :: a5 :: a6 :: a7 :: a8 :: a9 :: a10 :: some (.int x) :: r) (st) n S I J R Q) :
    AW G l y cc ml rt d kc ks (pc) (a0 :: a1 :: a2 :: a3 :: a4 :: a5 :: a6 :: a7 :: a8 :: a9 :: a10 :: z :: r) (.int x :: st) n S I J R Q := by
  intro p e Rm s m args below meth c H locs cells slots ls C h1 h2 h3 h4
  exact lv_istore C.1 C.2.1 hd (rk_L_has h3) hm rfl (fun ls hl => k _ _ _ _ _ _ _ _ _ _ _ _ _ ls C h1 h2 (rk_L_st1 (v := .int x) hl rfl (fun j w hj hw => by have e : j = 10 := (by omega); subst e; cases hw; exact hp)) h4)
theorem AW_lload_11 {a0 a1 a2 a3 a4 a5 a6 a7 a8 a9 a10 : Option Value} {r : List (Option Value)} {x : Int64} (hd : decode cc pc = .ok (.lload 11, 2)) (k : AW G l y cc ml rt d kc ks (pc + 2) (a0 :: a1 :: a2 :: a3 :: a4 :: a5 :: a6 :: a7 :: a8 :: a9 :: a10 :: some (.long x) :: r) (.long x :: st) n S I J R Q) :
    AW G l y cc ml rt d kc ks (pc) (a0 :: a1 :: a2 :: a3 :: a4 :: a5 :: a6 :: a7 :: a8 :: a9 :: a10 :: some (.long x) :: r) (st) n S I J R Q := by
  intro p e Rm s m args below meth c H locs cells slots ls C h1 h2 h3 h4
  exact lv_lload C.1 C.2.1 hd (h3.2.2 11 _ rfl) (k _ _ _ _ _ _ _ _ _ _ _ _ _ ls C h1 h2 h3 h4)
theorem AW_lstore_11 {a0 a1 a2 a3 a4 a5 a6 a7 a8 a9 a10 z z2 : Option Value} {r : List (Option Value)} {x : Int64} (hd : decode cc pc = .ok (.lstore 11, 2)) (hm : 11 + 1 < ml) (hp : rk_one a10 = true) (k : AW G l y cc ml rt d kc ks (pc + 2) (a0 :: a1 :: a2 :: a3 :: a4 :: a5 :: a6 :: a7 :: a8 :: a9 :: a10 :: some (.long x) :: none :: r) (st) n S I J R Q) :
    AW G l y cc ml rt d kc ks (pc) (a0 :: a1 :: a2 :: a3 :: a4 :: a5 :: a6 :: a7 :: a8 :: a9 :: a10 :: z :: z2 :: r) (.long x :: st) n S I J R Q := by
  intro p e Rm s m args below meth c H locs cells slots ls C h1 h2 h3 h4
  exact lv_lstore C.1 C.2.1 hd (rk_L_has h3) hm rfl (fun ls hl => k _ _ _ _ _ _ _ _ _ _ _ _ _ ls C h1 h2 (rk_L_st2 (v := .long x) hl rfl (fun j w hj hw => by have e : j = 10 := (by omega); subst e; cases hw; exact hp)) h4)
theorem AW_aload_11 {a0 a1 a2 a3 a4 a5 a6 a7 a8 a9 a10 : Option Value} {r : List (Option Value)} {x : Nat} (hd : decode cc pc = .ok (.aload 11, 2)) (k : AW G l y cc ml rt d kc ks (pc + 2) (a0 :: a1 :: a2 :: a3 :: a4 :: a5 :: a6 :: a7 :: a8 :: a9 :: a10 :: some (.ref x) :: r) (.ref x :: st) n S I J R Q) :
    AW G l y cc ml rt d kc ks (pc) (a0 :: a1 :: a2 :: a3 :: a4 :: a5 :: a6 :: a7 :: a8 :: a9 :: a10 :: some (.ref x) :: r) (st) n S I J R Q := by
  intro p e Rm s m args below meth c H locs cells slots ls C h1 h2 h3 h4
  exact lv_aload C.1 C.2.1 hd (h3.2.2 11 _ rfl) (k _ _ _ _ _ _ _ _ _ _ _ _ _ ls C h1 h2 h3 h4)
theorem AW_astore_11 {a0 a1 a2 a3 a4 a5 a6 a7 a8 a9 a10 z : Option Value} {r : List (Option Value)} {x : Nat} (hd : decode cc pc = .ok (.astore 11, 2)) (hm : 11 < ml) (hp : rk_one a10 = true) (k : AW G l y cc ml rt d kc ks (pc + 2) (a0 :: a1 :: a2 :: a3 :: a4 :: a5 :: a6 :: a7 :: a8 :: a9 :: a10 :: some (.ref x) :: r) (st) n S I J R Q) :
    AW G l y cc ml rt d kc ks (pc) (a0 :: a1 :: a2 :: a3 :: a4 :: a5 :: a6 :: a7 :: a8 :: a9 :: a10 :: z :: r) (.ref x :: st) n S I J R Q := by
  intro p e Rm s m args below meth c H locs cells slots ls C h1 h2 h3 h4
  exact lv_astore C.1 C.2.1 hd (rk_L_has h3) hm rfl (fun ls hl => k _ _ _ _ _ _ _ _ _ _ _ _ _ ls C h1 h2 (rk_L_st1 (v := .ref x) hl rfl (fun j w hj hw => by have e : j = 10 := (by omega); subst e; cases hw; exact hp)) h4)
theorem AW_aloadN_11 {a0 a1 a2 a3 a4 a5 a6 a7 a8 a9 a10 : Option Value} {r : List (Option Value)}  (hd : decode cc pc = .ok (.aload 11, 2)) (k : AW G l y cc ml rt d kc ks (pc + 2) (a0 :: a1 :: a2 :: a3 :: a4 :: a5 :: a6 :: a7 :: a8 :: a9 :: a10 :: some (.null) :: r) (.null :: st) n S I J R Q) :
    AW G l y cc ml rt d kc ks (pc) (a0 :: a1 :: a2 :: a3 :: a4 :: a5 :: a6 :: a7 :: a8 :: a9 :: a10 :: some (.null) :: r) (st) n S I J R Q := by
  intro p e Rm s m args below meth c H locs cells slots ls C h1 h2 h3 h4
  exact lv_aloadN C.1 C.2.1 hd (h3.2.2 11 _ rfl) (k _ _ _ _ _ _ _ _ _ _ _ _ _ ls C h1 h2 h3 h4)
theorem AW_astoreN_11 {a0 a1 a2 a3 a4 a5 a6 a7 a8 a9 a10 z : Option Value} {r : List (Option Value)}  (hd : decode cc pc = .ok (.astore 11, 2)) (hm : 11 < ml) (hp : rk_one a10 = true) (k : AW G l y cc ml rt d kc ks (pc + 2) (a0 :: a1 :: a2 :: a3 :: a4 :: a5 :: a6 :: a7 :: a8 :: a9 :: a10 :: some (.null) :: r) (st) n S I J R Q) :
    AW G l y cc ml rt d kc ks (pc) (a0 :: a1 :: a2 :: a3 :: a4 :: a5 :: a6 :: a7 :: a8 :: a9 :: a10 :: z :: r) (.null :: st) n S I J R Q := by
  intro p e Rm s m args below meth c H locs cells slots ls C h1 h2 h3 h4
  exact lv_astoreN C.1 C.2.1 hd (rk_L_has h3) hm rfl (fun ls hl => k _ _ _ _ _ _ _ _ _ _ _ _ _ ls C h1 h2 (rk_L_st1 (v := .null) hl rfl (fun j w hj hw => by have e : j = 10 := (by omega); subst e; cases hw; exact hp)) h4)
theorem AW_iinc_11 {a0 a1 a2 a3 a4 a5 a6 a7 a8 a9 a10 : Option Value} {r : List (Option Value)} {x v : Int32} {q : Int} (hd : decode cc pc = .ok (.iinc 11 q, 3)) (hv : Int32.ofInt q = v) (hm : 11 < ml) (hp : rk_one a10 = true) (k : AW G l y cc ml rt d kc ks (pc + 3) (a0 :: a1 :: a2 :: a3 :: a4 :: a5 :: a6 :: a7 :: a8 :: a9 :: a10 :: some (.int (x + v)) :: r) (st) n S I J R Q) :
    AW G l y cc ml rt d kc ks (pc) (a0 :: a1 :: a2 :: a3 :: a4 :: a5 :: a6 :: a7 :: a8 :: a9 :: a10 :: some (.int x) :: r) (st) n S I J R Q := by
  intro p e Rm s m args below meth c H locs cells slots ls C h1 h2 h3 h4
  subst hv
  obtain ⟨j, hj⟩ := List.getElem?_of_mem (rk_as_mem (ad := G.1) (lv := a0 :: a1 :: a2 :: a3 :: a4 :: a5 :: a6 :: a7 :: a8 :: a9 :: a10 :: some (.int x) :: r) (q := (11, .int x)) |>.mpr ⟨.int x, rfl, rfl⟩)
  exact lv_iinc C.1 C.2.1 hd (rk_L_has h3) hj rfl hm rfl (fun ls hl => k _ _ _ _ _ _ _ _ _ _ _ _ _ ls C h1 h2 (rk_L_st1 (v := .int _) hl rfl (fun j w hj hw => by have e : j = 10 := (by omega); subst e; cases hw; exact hp)) h4)
theorem AW_drop_11 {a0 a1 a2 a3 a4 a5 a6 a7 a8 a9 a10 : Option Value} {r : List (Option Value)} {w : Option Value} (k : AW G l y cc ml rt d kc ks (pc) (a0 :: a1 :: a2 :: a3 :: a4 :: a5 :: a6 :: a7 :: a8 :: a9 :: a10 :: none :: r) (st) n S I J R Q) :
    AW G l y cc ml rt d kc ks (pc) (a0 :: a1 :: a2 :: a3 :: a4 :: a5 :: a6 :: a7 :: a8 :: a9 :: a10 :: w :: r) (st) n S I J R Q := by
  intro p e Rm s m args below meth c H locs cells slots ls C h1 h2 h3 h4
  refine k _ _ _ _ _ _ _ _ _ _ _ _ _ ls C h1 h2 ⟨h3.1, h3.2.1, fun j v hj => h3.2.2 j v ?_⟩ h4
  by_cases e : j = 11
  · subst e; simp at hj
  · have hh : ∀ (o : Option Value), (a0 :: a1 :: a2 :: a3 :: a4 :: a5 :: a6 :: a7 :: a8 :: a9 :: a10 :: none :: r)[j]? = ((a0 :: a1 :: a2 :: a3 :: a4 :: a5 :: a6 :: a7 :: a8 :: a9 :: a10 :: o :: r).set 11 none)[j]? := fun o => rfl
    rw [hh w, List.getElem?_set_ne (Ne.symm e)] at hj
    exact hj
theorem AW_iload_12 {a0 a1 a2 a3 a4 a5 a6 a7 a8 a9 a10 a11 : Option Value} {r : List (Option Value)} {x : Int32} (hd : decode cc pc = .ok (.iload 12, 2)) (k : AW G l y cc ml rt d kc ks (pc + 2) (a0 :: a1 :: a2 :: a3 :: a4 :: a5 :: a6 :: a7 :: a8 :: a9 :: a10 :: a11 :: some (.int x) :: r) (.int x :: st) n S I J R Q) :
    AW G l y cc ml rt d kc ks (pc) (a0 :: a1 :: a2 :: a3 :: a4 :: a5 :: a6 :: a7 :: a8 :: a9 :: a10 :: a11 :: some (.int x) :: r) (st) n S I J R Q := by
  intro p e Rm s m args below meth c H locs cells slots ls C h1 h2 h3 h4
  exact lv_iload C.1 C.2.1 hd (h3.2.2 12 _ rfl) (k _ _ _ _ _ _ _ _ _ _ _ _ _ ls C h1 h2 h3 h4)
theorem AW_istore_12 {a0 a1 a2 a3 a4 a5 a6 a7 a8 a9 a10 a11 z : Option Value} {r : List (Option Value)} {x : Int32} (hd : decode cc pc = .ok (.istore 12, 2)) (hm : 12 < ml) (hp : rk_one a11 = true) (k : AW G l y cc ml rt d kc ks (pc + 2) (a0 :: a1 :: a2 :: a3 :: a4 :: a5 :: a6 :: a7 :: a8 :: a9 :: a10 :: a11 :: some (.int x) :: r) (st) n S I J R Q) :
    AW G l y cc ml rt d kc ks (pc) (a0 :: a1 :: a2 :: a3 :: a4 :: a5 :: a6 :: a7 :: a8 :: a9 :: a10 :: a11 :: z :: r) (.int x :: st) n S I J R Q := by
  intro p e Rm s m args below meth c H locs cells slots ls C h1 h2 h3 h4
  exact lv_istore C.1 C.2.1 hd (rk_L_has h3) hm rfl (fun ls hl => k _ _ _ _ _ _ _ _ _ _ _ _ _ ls C h1 h2 (rk_L_st1 (v := .int x) hl rfl (fun j w hj hw => by have e : j = 11 := (by omega); subst e; cases hw; exact hp)) h4)
theorem AW_lload_12 {a0 a1 a2 a3 a4 a5 a6 a7 a8 a9 a10 a11 : Option Value} {r : List (Option Value)} {x : Int64} (hd : decode cc pc = .ok (.lload 12, 2)) (k : AW G l y cc ml rt d kc ks (pc + 2) (a0 :: a1 :: a2 :: a3 :: a4 :: a5 :: a6 :: a7 :: a8 :: a9 :: a10 :: a11 :: some (.long x) :: r) (.long x :: st) n S I J R Q) :
    AW G l y cc ml rt d kc ks (pc) (a0 :: a1 :: a2 :: a3 :: a4 :: a5 :: a6 :: a7 :: a8 :: a9 :: a10 :: a11 :: some (.long x) :: r) (st) n S I J R Q := by
  intro p e Rm s m args below meth c H locs cells slots ls C h1 h2 h3 h4
  exact lv_lload C.1 C.2.1 hd (h3.2.2 12 _ rfl) (k _ _ _ _ _ _ _ _ _ _ _ _ _ ls C h1 h2 h3 h4)
theorem AW_lstore_12 {a0 a1 a2 a3 a4 a5 a6 a7 a8 a9 a10 a11 z z2 : Option Value} {r : List (Option Value)} {x : Int64} (hd : decode cc pc = .ok (.lstore 12, 2)) (hm : 12 + 1 < ml) (hp : rk_one a11 = true) (k : AW G l y cc ml rt d kc ks (pc + 2) (a0 :: a1 :: a2 :: a3 :: a4 :: a5 :: a6 :: a7 :: a8 :: a9 :: a10 :: a11 :: some (.long x) :: none :: r) (st) n S I J R Q) :
    AW G l y cc ml rt d kc ks (pc) (a0 :: a1 :: a2 :: a3 :: a4 :: a5 :: a6 :: a7 :: a8 :: a9 :: a10 :: a11 :: z :: z2 :: r) (.long x :: st) n S I J R Q := by
  intro p e Rm s m args below meth c H locs cells slots ls C h1 h2 h3 h4
  exact lv_lstore C.1 C.2.1 hd (rk_L_has h3) hm rfl (fun ls hl => k _ _ _ _ _ _ _ _ _ _ _ _ _ ls C h1 h2 (rk_L_st2 (v := .long x) hl rfl (fun j w hj hw => by have e : j = 11 := (by omega); subst e; cases hw; exact hp)) h4)
theorem AW_aload_12 {a0 a1 a2 a3 a4 a5 a6 a7 a8 a9 a10 a11 : Option Value} {r : List (Option Value)} {x : Nat} (hd : decode cc pc = .ok (.aload 12, 2)) (k : AW G l y cc ml rt d kc ks (pc + 2) (a0 :: a1 :: a2 :: a3 :: a4 :: a5 :: a6 :: a7 :: a8 :: a9 :: a10 :: a11 :: some (.ref x) :: r) (.ref x :: st) n S I J R Q) :
    AW G l y cc ml rt d kc ks (pc) (a0 :: a1 :: a2 :: a3 :: a4 :: a5 :: a6 :: a7 :: a8 :: a9 :: a10 :: a11 :: some (.ref x) :: r) (st) n S I J R Q := by
  intro p e Rm s m args below meth c H locs cells slots ls C h1 h2 h3 h4
  exact lv_aload C.1 C.2.1 hd (h3.2.2 12 _ rfl) (k _ _ _ _ _ _ _ _ _ _ _ _ _ ls C h1 h2 h3 h4)
theorem AW_astore_12 {a0 a1 a2 a3 a4 a5 a6 a7 a8 a9 a10 a11 z : Option Value} {r : List (Option Value)} {x : Nat} (hd : decode cc pc = .ok (.astore 12, 2)) (hm : 12 < ml) (hp : rk_one a11 = true) (k : AW G l y cc ml rt d kc ks (pc + 2) (a0 :: a1 :: a2 :: a3 :: a4 :: a5 :: a6 :: a7 :: a8 :: a9 :: a10 :: a11 :: some (.ref x) :: r) (st) n S I J R Q) :
    AW G l y cc ml rt d kc ks (pc) (a0 :: a1 :: a2 :: a3 :: a4 :: a5 :: a6 :: a7 :: a8 :: a9 :: a10 :: a11 :: z :: r) (.ref x :: st) n S I J R Q := by
  intro p e Rm s m args below meth c H locs cells slots ls C h1 h2 h3 h4
  exact lv_astore C.1 C.2.1 hd (rk_L_has h3) hm rfl (fun ls hl => k _ _ _ _ _ _ _ _ _ _ _ _ _ ls C h1 h2 (rk_L_st1 (v := .ref x) hl rfl (fun j w hj hw => by have e : j = 11 := (by omega); subst e; cases hw; exact hp)) h4)
theorem AW_aloadN_12 {a0 a1 a2 a3 a4 a5 a6 a7 a8 a9 a10 a11 : Option Value} {r : List (Option Value)}  (hd : decode cc pc = .ok (.aload 12, 2)) (k : AW G l y cc ml rt d kc ks (pc + 2) (a0 :: a1 :: a2 :: a3 :: a4 :: a5 :: a6 :: a7 :: a8 :: a9 :: a10 :: a11 :: some (.null) :: r) (.null :: st) n S I J R Q) :
    AW G l y cc ml rt d kc ks (pc) (a0 :: a1 :: a2 :: a3 :: a4 :: a5 :: a6 :: a7 :: a8 :: a9 :: a10 :: a11 :: some (.null) :: r) (st) n S I J R Q := by
  intro p e Rm s m args below meth c H locs cells slots ls C h1 h2 h3 h4
  exact lv_aloadN C.1 C.2.1 hd (h3.2.2 12 _ rfl) (k _ _ _ _ _ _ _ _ _ _ _ _ _ ls C h1 h2 h3 h4)
theorem AW_astoreN_12 {a0 a1 a2 a3 a4 a5 a6 a7 a8 a9 a10 a11 z : Option Value} {r : List (Option Value)}  (hd : decode cc pc = .ok (.astore 12, 2)) (hm : 12 < ml) (hp : rk_one a11 = true) (k : AW G l y cc ml rt d kc ks (pc + 2) (a0 :: a1 :: a2 :: a3 :: a4 :: a5 :: a6 :: a7 :: a8 :: a9 :: a10 :: a11 :: some (.null) :: r) (st) n S I J R Q) :
    AW G l y cc ml rt d kc ks (pc) (a0 :: a1 :: a2 :: a3 :: a4 :: a5 :: a6 :: a7 :: a8 :: a9 :: a10 :: a11 :: z :: r) (.null :: st) n S I J R Q := by
  intro p e Rm s m args below meth c H locs cells slots ls C h1 h2 h3 h4
  exact lv_astoreN C.1 C.2.1 hd (rk_L_has h3) hm rfl (fun ls hl => k _ _ _ _ _ _ _ _ _ _ _ _ _ ls C h1 h2 (rk_L_st1 (v := .null) hl rfl (fun j w hj hw => by have e : j = 11 := (by omega); subst e; cases hw; exact hp)) h4)
theorem AW_iinc_12 {a0 a1 a2 a3 a4 a5 a6 a7 a8 a9 a10 a11 : Option Value} {r : List (Option Value)} {x v : Int32} {q : Int} (hd : decode cc pc = .ok (.iinc 12 q, 3)) (hv : Int32.ofInt q = v) (hm : 12 < ml) (hp : rk_one a11 = true) (k : AW G l y cc ml rt d kc ks (pc + 3) (a0 :: a1 :: a2 :: a3 :: a4 :: a5 :: a6 :: a7 :: a8 :: a9 :: a10 :: a11 :: some (.int (x + v)) :: r) (st) n S I J R Q) :
    AW G l y cc ml rt d kc ks (pc) (a0 :: a1 :: a2 :: a3 :: a4 :: a5 :: a6 :: a7 :: a8 :: a9 :: a10 :: a11 :: some (.int x) :: r) (st) n S I J R Q := by
  intro p e Rm s m args below meth c H locs cells slots ls C h1 h2 h3 h4
  subst hv
  obtain ⟨j, hj⟩ := List.getElem?_of_mem (rk_as_mem (ad := G.1) (lv := a0 :: a1 :: a2 :: a3 :: a4 :: a5 :: a6 :: a7 :: a8 :: a9 :: a10 :: a11 :: some (.int x) :: r) (q := (12, .int x)) |>.mpr ⟨.int x, rfl, rfl⟩)
  exact lv_iinc C.1 C.2.1 hd (rk_L_has h3) hj rfl hm rfl (fun ls hl => k _ _ _ _ _ _ _ _ _ _ _ _ _ ls C h1 h2 (rk_L_st1 (v := .int _) hl rfl (fun j w hj hw => by have e : j = 11 := (by omega); subst e; cases hw; exact hp)) h4)
theorem AW_drop_12 {a0 a1 a2 a3 a4 a5 a6 a7 a8 a9 a10 a11 : Option Value} {r : List (Option Value)} {w : Option Value} (k : AW G l y cc ml rt d kc ks (pc) (a0 :: a1 :: a2 :: a3 :: a4 :: a5 :: a6 :: a7 :: a8 :: a9 :: a10 :: a11 :: none :: r) (st) n S I J R Q) :
    AW G l y cc ml rt d kc ks (pc) (a0 :: a1 :: a2 :: a3 :: a4 :: a5 :: a6 :: a7 :: a8 :: a9 :: a10 :: a11 :: w :: r) (st) n S I J R Q := by
  intro p e Rm s m args below meth c H locs cells slots ls C h1 h2 h3 h4
  refine k _ _ _ _ _ _ _ _ _ _ _ _ _ ls C h1 h2 ⟨h3.1, h3.2.1, fun j v hj => h3.2.2 j v ?_⟩ h4
  by_cases e : j = 12
  · subst e; simp at hj
  · have hh : ∀ (o : Option Value), (a0 :: a1 :: a2 :: a3 :: a4 :: a5 :: a6 :: a7 :: a8 :: a9 :: a10 :: a11 :: none :: r)[j]? = ((a0 :: a1 :: a2 :: a3 :: a4 :: a5 :: a6 :: a7 :: a8 :: a9 :: a10 :: a11 :: o :: r).set 12 none)[j]? := fun o => rfl
    rw [hh w, List.getElem?_set_ne (Ne.symm e)] at hj
    exact hj
theorem AW_iload_13 {a0 a1 a2 a3 a4 a5 a6 a7 a8 a9 a10 a11 a12 : Option Value} {r : List (Option Value)} {x : Int32} (hd : decode cc pc = .ok (.iload 13, 2)) (k : AW G l y cc ml rt d kc ks (pc + 2) (a0 :: a1 :: a2 :: a3 :: a4 :: a5 :: a6 :: a7 :: a8 :: a9 :: a10 :: a11 :: a12 :: some (.int x) :: r) (.int x :: st) n S I J R Q) :
    AW G l y cc ml rt d kc ks (pc) (a0 :: a1 :: a2 :: a3 :: a4 :: a5 :: a6 :: a7 :: a8 :: a9 :: a10 :: a11 :: a12 :: some (.int x) :: r) (st) n S I J R Q := by
  intro p e Rm s m args below meth c H locs cells slots ls C h1 h2 h3 h4
  exact lv_iload C.1 C.2.1 hd (h3.2.2 13 _ rfl) (k _ _ _ _ _ _ _ _ _ _ _ _ _ ls C h1 h2 h3 h4)
theorem AW_istore_13 {a0 a1 a2 a3 a4 a5 a6 a7 a8 a9 a10 a11 a12 z : Option Value} {r : List (Option Value)} {x : Int32} (hd : decode cc pc = .ok (.istore 13, 2)) (hm : 13 < ml) (hp : rk_one a12 = true) (k : AW G l y cc ml rt d kc ks (pc + 2) (a0 :: a1 :: a2 :: a3 :: a4 :: a5 :: a6 :: a7 :: a8 :: a9 :: a10 :: a11 :: a12 :: some (.int x) :: r) (st) n S I J R Q) :
    AW G l y cc ml rt d kc ks (pc) (a0 :: a1 :: a2 :: a3 :: a4 :: a5 :: a6 :: a7 :: a8 :: a9 :: a10 :: a11 :: a12 :: z :: r) (.int x :: st) n S I J R Q := by
  intro p e Rm s m args below meth c H locs cells slots ls C h1 h2 h3 h4
  exact lv_istore C.1 C.2.1 hd (rk_L_has h3) hm rfl (fun ls hl => k _ _ _ _ _ _ _ _ _ _ _ _ _ ls C h1 h2 (rk_L_st1 (v := .int x) hl rfl (fun j w hj hw => by have e : j = 12 := (by omega); subst e; cases hw; exact hp)) h4)
theorem AW_lload_13 {a0 a1 a2 a3 a4 a5 a6 a7 a8 a9 a10 a11 a12 : Option Value} {r : List (Option Value)} {x : Int64} (hd : decode cc pc = .ok (.lload 13, 2)) (k : AW G l y cc ml rt d kc ks (pc + 2) (a0 :: a1 :: a2 :: a3 :: a4 :: a5 :: a6 :: a7 :: a8 :: a9 :: a10 :: a11 :: a12 :: some (.long x) :: r) (.long x :: st) n S I J R Q) :
    AW G l y cc ml rt d kc ks (pc) (a0 :: a1 :: a2 :: a3 :: a4 :: a5 :: a6 :: a7 :: a8 :: a9 :: a10 :: a11 :: a12 :: some (.long x) :: r) (st) n S I J R Q := by
  intro p e Rm s m args below meth c H locs cells slots ls C h1 h2 h3 h4
  exact lv_lload C.1 C.2.1 hd (h3.2.2 13 _ rfl) (k _ _ _ _ _ _ _ _ _ _ _ _ _ ls C h1 h2 h3 h4)
theorem AW_lstore_13 {a0 a1 a2 a3 a4 a5 a6 a7 a8 a9 a10 a11 a12 z z2 : Option Value} {r : List (Option Value)} {x : Int64} (hd : decode cc pc = .ok (.lstore 13, 2)) (hm : 13 + 1 < ml) (hp : rk_one a12 = true) (k : AW G l y cc ml rt d kc ks (pc + 2) (a0 :: a1 :: a2 :: a3 :: a4 :: a5 :: a6 :: a7 :: a8 :: a9 :: a10 :: a11 :: a12 :: some (.long x) :: none :: r) (st) n S I J R Q) :
    AW G l y cc ml rt d kc ks (pc) (a0 :: a1 :: a2 :: a3 :: a4 :: a5 :: a6 :: a7 :: a8 :: a9 :: a10 :: a11 :: a12 :: z :: z2 :: r) (.long x :: st) n S I J R Q := by
  intro p e Rm s m args below meth c H locs cells slots ls C h1 h2 h3 h4
  exact lv_lstore C.1 C.2.1 hd (rk_L_has h3) hm rfl (fun ls hl => k _ _ _ _ _ _ _ _ _ _ _ _ _ ls C h1 h2 (rk_L_st2 (v := .long x) hl rfl (fun j w hj hw => by have e : j = 12 := (by omega); subst e; cases hw; exact hp)) h4)
theorem AW_aload_13 {a0 a1 a2 a3 a4 a5 a6 a7 a8 a9 a10 a11 a12 : Option Value} {r : List (Option Value)} {x : Nat} (hd : decode cc pc = .ok (.aload 13, 2)) (k : AW G l y cc ml rt d kc ks (pc + 2) (a0 :: a1 :: a2 :: a3 :: a4 :: a5 :: a6 :: a7 :: a8 :: a9 :: a10 :: a11 :: a12 :: some (.ref x) :: r) (.ref x :: st) n S I J R Q) :
    AW G l y cc ml rt d kc ks (pc) (a0 :: a1 :: a2 :: a3 :: a4 :: a5 :: a6 :: a7 :: a8 :: a9 :: a10 :: a11 :: a12 :: some (.ref x) :: r) (st) n S I J R Q := by
  intro p e Rm s m args below meth c H locs cells slots ls C h1 h2 h3 h4
  exact lv_aload C.1 C.2.1 hd (h3.2.2 13 _ rfl) (k _ _ _ _ _ _ _ _ _ _ _ _ _ ls C h1 h2 h3 h4)
theorem AW_astore_13 {a0 a1 a2 a3 a4 a5 a6 a7 a8 a9 a10 a11 a12 z : Option Value} {r : List (Option Value)} {x : Nat} (hd : decode cc pc = .ok (.astore 13, 2)) (hm : 13 < ml) (hp : rk_one a12 = true) (k : AW G l y cc ml rt d kc ks (pc + 2) (a0 :: a1 :: a2 :: a3 :: a4 :: a5 :: a6 :: a7 :: a8 :: a9 :: a10 :: a11 :: a12 :: some (.ref x) :: r) (st) n S I J R Q) :
    AW G l y cc ml rt d kc ks (pc) (a0 :: a1 :: a2 :: a3 :: a4 :: a5 :: a6 :: a7 :: a8 :: a9 :: a10 :: a11 :: a12 :: z :: r) (.ref x :: st) n S I J R Q := by
  intro p e Rm s m args below meth c H locs cells slots ls C h1 h2 h3 h4
  exact lv_astore C.1 C.2.1 hd (rk_L_has h3) hm rfl (fun ls hl => k _ _ _ _ _ _ _ _ _ _ _ _ _ ls C h1 h2 (rk_L_st1 (v := .ref x) hl rfl (fun j w hj hw => by have e : j = 12 := (by omega); subst e; cases hw; exact hp)) h4)
theorem AW_aloadN_13 {a0 a1 a2 a3 a4 a5 a6 a7 a8 a9 a10 a11 a12 : Option Value} {r : List (Option Value)}  (hd : decode cc pc = .ok (.aload 13, 2)) (k : AW G l y cc ml rt d kc ks (pc + 2) (a0 :: a1 :: a2 :: a3 :: a4 :: a5 :: a6 :: a7 :: a8 :: a9 :: a10 :: a11 :: a12 :: some (.null) :: r) (.null :: st) n S I J R Q) :
    AW G l y cc ml rt d kc ks (pc) (a0 :: a1 :: a2 :: a3 :: a4 :: a5 :: a6 :: a7 :: a8 :: a9 :: a10 :: a11 :: a12 :: some (.null) :: r) (st) n S I J R Q := by
  intro p e Rm s m args below meth c H locs cells slots ls C h1 h2 h3 h4
  exact lv_aloadN C.1 C.2.1 hd (h3.2.2 13 _ rfl) (k _ _ _ _ _ _ _ _ _ _ _ _ _ ls C h1 h2 h3 h4)
theorem AW_astoreN_13 {a0 a1 a2 a3 a4 a5 a6 a7 a8 a9 a10 a11 a12 z : Option Value} {r : List (Option Value)}  (hd : decode cc pc = .ok (.astore 13, 2)) (hm : 13 < ml) (hp : rk_one a12 = true) (k : AW G l y cc ml rt d kc ks (pc + 2) (a0 :: a1 :: a2 :: a3 :: a4 :: a5 :: a6 :: a7 :: a8 :: a9 :: a10 :: a11 :: a12 :: some (.null) :: r) (st) n S I J R Q) :
    AW G l y cc ml rt d kc ks (pc) (a0 :: a1 :: a2 :: a3 :: a4 :: a5 :: a6 :: a7 :: a8 :: a9 :: a10 :: a11 :: a12 :: z :: r) (.null :: st) n S I J R Q := by
  intro p e Rm s m args below meth c H locs cells slots ls C h1 h2 h3 h4
  exact lv_astoreN C.1 C.2.1 hd (rk_L_has h3) hm rfl (fun ls hl => k _ _ _ _ _ _ _ _ _ _ _ _ _ ls C h1 h2 (rk_L_st1 (v := .null) hl rfl (fun j w hj hw => by have e : j = 12 := (by omega); subst e; cases hw; exact hp)) h4)
theorem AW_iinc_13 {a0 a1 a2 a3 a4 a5 a6 a7 a8 a9 a10 a11 a12 : Option Value} {r : List (Option Value)} {x v : Int32} {q : Int} (hd : decode cc pc = .ok (.iinc 13 q, 3)) (hv : Int32.ofInt q = v) (hm : 13 < ml) (hp : rk_one a12 = true) (k : AW G l y cc ml rt d kc ks (pc + 3) (a0 :: a1 :: a2 :: a3 :: a4 :: a5 :: a6 :: a7 :: a8 :: a9 :: a10 :: a11 :: a12 :: some (.int (x + v)) :: r) (st) n S I J R Q) :
    AW G l y cc ml rt d kc ks (pc) (a0 :: a1 :: a2 :: a3 :: a4 :: a5 :: a6 :: a7 :: a8 :: a9 :: a10 :: a11 :: a12 :: some (.int x) :: r) (st) n S I J R Q := by
  intro p e Rm s m args below meth c H locs cells slots ls C h1 h2 h3 h4
  subst hv
  obtain ⟨j, hj⟩ := List.getElem?_of_mem (rk_as_mem (ad := G.1) (lv := a0 :: a1 :: a2 :: a3 :: a4 :: a5 :: a6 :: a7 :: a8 :: a9 :: a10 :: a11 :: a12 :: some (.int x) :: r) (q := (13, .int x)) |>.mpr ⟨.int x, rfl, rfl⟩)
  exact lv_iinc C.1 C.2.1 hd (rk_L_has h3) hj rfl hm rfl (fun ls hl => k _ _ _ _ _ _ _ _ _ _ _ _ _ ls C h1 h2 (rk_L_st1 (v := .int _) hl rfl (fun j w hj hw => by have e : j = 12 := (by omega); subst e; cases hw; exact hp)) h4)
theorem AW_drop_13 {a0 a1 a2 a3 a4 a5 a6 a7 a8 a9 a10 a11 a12 : Option Value} {r : List (Option Value)} {w : Option Value} (k : AW G l y cc ml rt d kc ks (pc) (a0 :: a1 :: a2 :: a3 :: a4 :: a5 :: a6 :: a7 :: a8 :: a9 :: a10 :: a11 :: a12 :: none :: r) (st) n S I J R Q) :
    AW G l y cc ml rt d kc ks (pc) (a0 :: a1 :: a2 :: a3 :: a4 :: a5 :: a6 :: a7 :: a8 :: a9 :: a10 :: a11 :: a12 :: w :: r) (st) n S I J R Q := by
  intro p e Rm s m args below meth c H locs cells slots ls C h1 h2 h3 h4
  refine k _ _ _ _ _ _ _ _ _ _ _ _ _ ls C h1 h2 ⟨h3.1, h3.2.1, fun j v hj => h3.2.2 j v ?_⟩ h4
  by_cases e : j = 13
  · subst e; simp at hj
  · have hh : ∀ (o : Option Value), (a0 :: a1 :: a2 :: a3 :: a4 :: a5 :: a6 :: a7 :: a8 :: a9 :: a10 :: a11 :: a12 :: none :: r)[j]? = ((a0 :: a1 :: a2 :: a3 :: a4 :: a5 :: a6 :: a7 :: a8 :: a9 :: a10 :: a11 :: a12 :: o :: r).set 13 none)[j]? := fun o => rfl
    rw [hh w, List.getElem?_set_ne (Ne.symm e)] at hj
    exact hj
theorem AW_iload_14 {a0 a1 a2 a3 a4 a5 a6 a7 a8 a9 a10 a11 a12 a13 : Option Value} {r : List (Option Value)} {x : Int32} (hd : decode cc pc = .ok (.iload 14, 2)) (k : AW G l y cc ml rt d kc ks (pc + 2) (a0 :: a1 :: a2 :: a3 :: a4 :: a5 :: a6 :: a7 :: a8 :: a9 :: a10 :: a11 :: a12 :: a13 :: some (.int x) :: r) (.int x :: st) n S I J R Q) :
    AW G l y cc ml rt d kc ks (pc) (a0 :: a1 :: a2 :: a3 :: a4 :: a5 :: a6 :: a7 :: a8 :: a9 :: a10 :: a11 :: a12 :: a13 :: some (.int x) :: r) (st) n S I J R Q := by
  intro p e Rm s m args below meth c H locs cells slots ls C h1 h2 h3 h4
  exact lv_iload C.1 C.2.1 hd (h3.2.2 14 _ rfl) (k _ _ _ _ _ _ _ _ _ _ _ _ _ ls C h1 h2 h3 h4)
theorem AW_istore_14 {a0 a1 a2 a3 a4 a5 a6 a7 a8 a9 a10 a11 a12 a13 z : Option Value} {r : List (Option Value)} {x : Int32} (hd : decode cc pc = .ok (.istore 14, 2)) (hm : 14 < ml) (hp : rk_one a13 = true) (k : AW G l y cc ml rt d kc ks (pc + 2) (a0 :: a1 :: a2 :: a3 :: a4 :: a5 :: a6 :: a7 :: a8 :: a9 :: a10 :: a11 :: a12 :: a13 :: some (.int x) :: r) (st) n S I J R Q) :
    AW G l y cc ml rt d kc ks (pc) (a0 :: a1 :: a2 :: a3 :: a4 :: a5 :: a6 :: a7 :: a8 :: a9 :: a10 :: a11 :: a12 :: a13 :: z :: r) (.int x :: st) n S I J R Q := by
  intro p e Rm s m args below meth c H locs cells slots ls C h1 h2 h3 h4
  exact lv_istore C.1 C.2.1 hd (rk_L_has h3) hm rfl (fun ls hl => k _ _ _ _ _ _ _ _ _ _ _ _ _ ls C h1 h2 (rk_L_st1 (v := .int x) hl rfl (fun j w hj hw => by have e : j = 13 := (by omega); subst e; cases hw; exact hp)) h4)
theorem AW_lload_14 {a0 a1 a2 a3 a4 a5 a6 a7 a8 a9 a10 a11 a12 a13 : Option Value} {r : List (Option Value)} {x : Int64} (hd : decode cc pc = .ok (.lload 14, 2)) (k : AW G l y cc ml rt d kc ks (pc + 2) (a0 :: a1 :: a2 :: a3 :: a4 :: a5 :: a6 :: a7 :: a8 :: a9 :: a10 :: a11 :: a12 :: a13 :: some (.long x) :: r) (.long x :: st) n S I J R Q) :
    AW G l y cc ml rt d kc ks (pc) (a0 :: a1 :: a2 :: a3 :: a4 :: a5 :: a6 :: a7 :: a8 :: a9 :: a10 :: a11 :: a12 :: a13 :: some (.long x) :: r) (st) n S I J R Q := by
  intro p e Rm s m args below meth c H locs cells slots ls C h1 h2 h3 h4
  exact lv_lload C.1 C.2.1 hd (h3.2.2 14 _ rfl) (k _ _ _ _ _ _ _ _ _ _ _ _ _ ls C h1 h2 h3 h4)
theorem AW_lstore_14 {a0 a1 a2 a3 a4 a5 a6 a7 a8 a9 a10 a11 a12 a13 z z2 : Option Value} {r : List (Option Value)} {x : Int64} (hd : decode cc pc = .ok (.lstore 14, 2)) (hm : 14 + 1 < ml) (hp : rk_one a13 = true) (k : AW G l y cc ml rt d kc ks (pc + 2) (a0 :: a1 :: a2 :: a3 :: a4 :: a5 :: a6 :: a7 :: a8 :: a9 :: a10 :: a11 :: a12 :: a13 :: some (.long x) :: none :: r) (st) n S I J R Q) :
    AW G l y cc ml rt d kc ks (pc) (a0 :: a1 :: a2 :: a3 :: a4 :: a5 :: a6 :: a7 :: a8 :: a9 :: a10 :: a11 :: a12 :: a13 :: z :: z2 :: r) (.long x :: st) n S I J R Q := by
  intro p e Rm s m args below meth c H locs cells slots ls C h1 h2 h3 h4
  exact lv_lstore C.1 C.2.1 hd (rk_L_has h3) hm rfl (fun ls hl => k _ _ _ _ _ _ _ _ _ _ _ _ _ ls C h1 h2 (rk_L_st2 (v := .long x) hl rfl (fun j w hj hw => by have e : j = 13 := (by omega); subst e; cases hw; exact hp)) h4)
theorem AW_aload_14 {a0 a1 a2 a3 a4 a5 a6 a7 a8 a9 a10 a11 a12 a13 : Option Value} {r : List (Option Value)} {x : Nat} (hd : decode cc pc = .ok (.aload 14, 2)) (k : AW G l y cc ml rt d kc ks (pc + 2) (a0 :: a1 :: a2 :: a3 :: a4 :: a5 :: a6 :: a7 :: a8 :: a9 :: a10 :: a11 :: a12 :: a13 :: some (.ref x) :: r) (.ref x :: st) n S I J R Q) :
    AW G l y cc ml rt d kc ks (pc) (a0 :: a1 :: a2 :: a3 :: a4 :: a5 :: a6 :: a7 :: a8 :: a9 :: a10 :: a11 :: a12 :: a13 :: some (.ref x) :: r) (st) n S I J R Q := by
  intro p e Rm s m args below meth c H locs cells slots ls C h1 h2 h3 h4
  exact lv_aload C.1 C.2.1 hd (h3.2.2 14 _ rfl) (k _ _ _ _ _ _ _ _ _ _ _ _ _ ls C h1 h2 h3 h4)
theorem AW_astore_14 {a0 a1 a2 a3 a4 a5 a6 a7 a8 a9 a10 a11 a12 a13 z : Option Value} {r : List (Option Value)} {x : Nat} (hd : decode cc pc = .ok (.astore 14, 2)) (hm : 14 < ml) (hp : rk_one a13 = true) (k : AW G l y cc ml rt d kc ks (pc + 2) (a0 :: a1 :: a2 :: a3 :: a4 :: a5 :: a6 :: a7 :: a8 :: a9 :: a10 :: a11 :: a12 :: a13 :: some (.ref x) :: r) (st) n S I J R Q) :
    AW G l y cc ml rt d kc ks (pc) (a0 :: a1 :: a2 :: a3 :: a4 :: a5 :: a6 :: a7 :: a8 :: a9 :: a10 :: a11 :: a12 :: a13 :: z :: r) (.ref x :: st) n S I J R Q := by
  intro p e Rm s m args below meth c H locs cells slots ls C h1 h2 h3 h4
  exact lv_astore C.1 C.2.1 hd (rk_L_has h3) hm rfl (fun ls hl => k _ _ _ _ _ _ _ _ _ _ _ _ _ ls C h1 h2 (rk_L_st1 (v := .ref x) hl rfl (fun j w hj hw => by have e : j = 13 := (by omega); subst e; cases hw; exact hp)) h4)
theorem AW_aloadN_14 {a0 a1 a2 a3 a4 a5 a6 a7 a8 a9 a10 a11 a12 a13 : Option Value} {r : List (Option Value)}  (hd : decode cc pc = .ok (.aload 14, 2)) (k : AW G l y cc ml rt d kc ks (pc + 2) (a0 :: a1 :: a2 :: a3 :: a4 :: a5 :: a6 :: a7 :: a8 :: a9 :: a10 :: a11 :: a12 :: a13 :: some (.null) :: r) (.null :: st) n S I J R Q) :
    AW G l y cc ml rt d kc ks (pc) (a0 :: a1 :: a2 :: a3 :: a4 :: a5 :: a6 :: a7 :: a8 :: a9 :: a10 :: a11 :: a12 :: a13 :: some (.null) :: r) (st) n S I J R Q := by
  intro p e Rm s m args below meth c H locs cells slots ls C h1 h2 h3 h4
  exact lv_aloadN C.1 C.2.1 hd (h3.2.2 14 _ rfl) (k _ _ _ _ _ _ _ _ _ _ _ _ _ ls C h1 h2 h3 h4)
theorem AW_astoreN_14 {a0 a1 a2 a3 a4 a5 a6 a7 a8 a9 a10 a11 a12 a13 z : Option Value} {r : List (Option Value)}  (hd : decode cc pc = .ok (.astore 14, 2)) (hm : 14 < ml) (hp : rk_one a13 = true) (k : AW G l y cc ml rt d kc ks (pc + 2) (a0 :: a1 :: a2 :: a3 :: a4 :: a5 :: a6 :: a7 :: a8 :: a9 :: a10 :: a11 :: a12 :: a13 :: some (.null) :: r) (st) n S I J R Q) :
    AW G l y cc ml rt d kc ks (pc) (a0 :: a1 :: a2 :: a3 :: a4 :: a5 :: a6 :: a7 :: a8 :: a9 :: a10 :: a11 :: a12 :: a13 :: z :: r) (.null :: st) n S I J R Q := by
  intro p e Rm s m args below meth c H locs cells slots ls C h1 h2 h3 h4
  exact lv_astoreN C.1 C.2.1 hd (rk_L_has h3) hm rfl (fun ls hl => k _ _ _ _ _ _ _ _ _ _ _ _ _ ls C h1 h2 (rk_L_st1 (v := .null) hl rfl (fun j w hj hw => by have e : j = 13 := (by omega); subst e; cases hw; exact hp)) h4)
theorem AW_iinc_14 {a0 a1 a2 a3 a4 a5 a6 a7 a8 a9 a10 a11 a12 a13 : Option Value} {r : List (Option Value)} {x v : Int32} {q : Int} (hd : decode cc pc = .ok (.iinc 14 q, 3)) (hv : Int32.ofInt q = v) (hm : 14 < ml) (hp : rk_one a13 = true) (k : AW G l y cc ml rt d kc ks (pc + 3) (a0 :: a1 :: a2 :: a3 :: a4 :: a5 :: a6 :: a7 :: a8 :: a9 :: a10 :: a11 :: a12 :: a13 :: some (.int (x + v)) :: r) (st) n S I J R Q) :
    AW G l y cc ml rt d kc ks (pc) (a0 :: a1 :: a2 :: a3 :: a4 :: a5 :: a6 :: a7 :: a8 :: a9 :: a10 :: a11 :: a12 :: a13 :: some (.int x) :: r) (st) n S I J R Q := by
  intro p e Rm s m args below meth c H locs cells slots ls C h1 h2 h3 h4
  subst hv
  obtain ⟨j, hj⟩ := List.getElem?_of_mem (rk_as_mem (ad := G.1) (lv := a0 :: a1 :: a2 :: a3 :: a4 :: a5 :: a6 :: a7 :: a8 :: a9 :: a10 :: a11 :: a12 :: a13 :: some (.int x) :: r) (q := (14, .int x)) |>.mpr ⟨.int x, rfl, rfl⟩)
  exact lv_iinc C.1 C.2.1 hd (rk_L_has h3) hj rfl hm rfl (fun ls hl => k _ _ _ _ _ _ _ _ _ _ _ _ _ ls C h1 h2 (rk_L_st1 (v := .int _) hl rfl (fun j w hj hw => by have e : j = 13 := (by omega); subst e; cases hw; exact hp)) h4)
theorem AW_drop_14 {a0 a1 a2 a3 a4 a5 a6 a7 a8 a9 a10 a11 a12 a13 : Option Value} {r : List (Option Value)} {w : Option Value} (k : AW G l y cc ml rt d kc ks (pc) (a0 :: a1 :: a2 :: a3 :: a4 :: a5 :: a6 :: a7 :: a8 :: a9 :: a10 :: a11 :: a12 :: a13 :: none :: r) (st) n S I J R Q) :
    AW G l y cc ml rt d kc ks (pc) (a0 :: a1 :: a2 :: a3 :: a4 :: a5 :: a6 :: a7 :: a8 :: a9 :: a10 :: a11 :: a12 :: a13 :: w :: r) (st) n S I J R Q := by
  intro p e Rm s m args below meth c H locs cells slots ls C h1 h2 h3 h4
  refine k _ _ _ _ _ _ _ _ _ _ _ _ _ ls C h1 h2 ⟨h3.1, h3.2.1, fun j v hj => h3.2.2 j v ?_⟩ h4
  by_cases e : j = 14
  · subst e; simp at hj
  · have hh : ∀ (o : Option Value), (a0 :: a1 :: a2 :: a3 :: a4 :: a5 :: a6 :: a7 :: a8 :: a9 :: a10 :: a11 :: a12 :: a13 :: none :: r)[j]? = ((a0 :: a1 :: a2 :: a3 :: a4 :: a5 :: a6 :: a7 :: a8 :: a9 :: a10 :: a11 :: a12 :: a13 :: o :: r).set 14 none)[j]? := fun o => rfl
    rw [hh w, List.getElem?_set_ne (Ne.symm e)] at hj
    exact hj
theorem AW_iload_15 {a0 a1 a2 a3 a4 a5 a6 a7 a8 a9 a10 a11 a12 a13 a14 : Option Value} {r : List (Option Value)} {x : Int32} (hd : decode cc pc = .ok (.iload 15, 2)) (k : AW G l y cc ml rt d kc ks (pc + 2) (a0 :: a1 :: a2 :: a3 :: a4 :: a5 :: a6 :: a7 :: a8 :: a9 :: a10 :: a11 :: a12 :: a13 :: a14 :: some (.int x) :: r) (.int x :: st) n S I J R Q) :
    AW G l y cc ml rt d kc ks (pc) (a0 :: a1 :: a2 :: a3 :: a4 :: a5 :: a6 :: a7 :: a8 :: a9 :: a10 :: a11 :: a12 :: a13 :: a14 :: some (.int x) :: r) (st) n S I J R Q := by
  intro p e Rm s m args below meth c H locs cells slots ls C h1 h2 h3 h4
  exact lv_iload C.1 C.2.1 hd (h3.2.2 15 _ rfl) (k _ _ _ _ _ _ _ _ _ _ _ _ _ ls C h1 h2 h3 h4)
theorem AW_istore_15 {a0 a1 a2 a3 a4 a5 a6 a7 a8 a9 a10 a11 a12 a13 a14 z : Option Value} {r : List (Option Value)} {x : Int32} (hd : decode cc pc = .ok (.istore 15, 2)) (hm : 15 < ml) (hp : rk_one a14 = true) (k : AW G l y cc ml rt d kc ks (pc + 2) (a0 :: a1 :: a2 :: a3 :: a4 :: a5 :: a6 :: a7 :: a8 :: a9 :: a10 :: a11 :: a12 :: a13 :: a14 :: some (.int x) :: r) (st) n S I J R Q) :
    AW G l y cc ml rt d kc ks (pc) (a0 :: a1 :: a2 :: a3 :: a4 :: a5 :: a6 :: a7 :: a8 :: a9 :: a10 :: a11 :: a12 :: a13 :: a14 :: z :: r) (.int x :: st) n S I J R Q := by
  intro p e Rm s m args below meth c H locs cells slots ls C h1 h2 h3 h4
  exact lv_istore C.1 C.2.1 hd (rk_L_has h3) hm rfl (fun ls hl => k _ _ _ _ _ _ _ _ _ _ _ _ _ ls C h1 h2 (rk_L_st1 (v := .int x) hl rfl (fun j w hj hw => by have e : j = 14 := (by omega); subst e; cases hw; exact hp)) h4)
theorem AW_lload_15 {a0 a1 a2 a3 a4 a5 a6 a7 a8 a9 a10 a11 a12 a13 a14 : Option Value} {r : List (Option Value)} {x : Int64} (hd : decode cc pc = .ok (.lload 15, 2)) (k : AW G l y cc ml rt d kc ks (pc + 2) (a0 :: a1 :: a2 :: a3 :: a4 :: a5 :: a6 :: a7 :: a8 :: a9 :: a10 :: a11 :: a12 :: a13 :: a14 :: some (.long x) :: r) (.long x :: st) n S I J R Q) :
    AW G l y cc ml rt d kc ks (pc) (a0 :: a1 :: a2 :: a3 :: a4 :: a5 :: a6 :: a7 :: a8 :: a9 :: a10 :: a11 :: a12 :: a13 :: a14 :: some (.long x) :: r) (st) n S I J R Q := by
  intro p e Rm s m args below meth c H locs cells slots ls C h1 h2 h3 h4
  exact lv_lload C.1 C.2.1 hd (h3.2.2 15 _ rfl) (k _ _ _ _ _ _ _ _ _ _ _ _ _ ls C h1 h2 h3 h4)
theorem AW_lstore_15 {a0 a1 a2 a3 a4 a5 a6 a7 a8 a9 a10 a11 a12 a13 a14 z z2 : Option Value} {r : List (Option Value)} {x : Int64} (hd : decode cc pc = .ok (.lstore 15, 2)) (hm : 15 + 1 < ml) (hp : rk_one a14 = true) (k : AW G l y cc ml rt d kc ks (pc + 2) (a0 :: a1 :: a2 :: a3 :: a4 :: a5 :: a6 :: a7 :: a8 :: a9 :: a10 :: a11 :: a12 :: a13 :: a14 :: some (.long x) :: none :: r) (st) n S I J R Q) :
    AW G l y cc ml rt d kc ks (pc) (a0 :: a1 :: a2 :: a3 :: a4 :: a5 :: a6 :: a7 :: a8 :: a9 :: a10 :: a11 :: a12 :: a13 :: a14 :: z :: z2 :: r) (.long x :: st) n S I J R Q := by
  intro p e Rm s m args below meth c H locs cells slots ls C h1 h2 h3 h4
  exact lv_lstore C.1 C.2.1 hd (rk_L_has h3) hm rfl (fun ls hl => k _ _ _ _ _ _ _ _ _ _ _ _ _ ls C h1 h2 (rk_L_st2 (v := .long x) hl rfl (fun j w hj hw => by have e : j = 14 := (by omega); subst e; cases hw; exact hp)) h4)
theorem AW_aload_15 {a0 a1 a2 a3 a4 a5 a6 a7 a8 a9 a10 a11 a12 a13 a14 : Option Value} {r : List (Option Value)} {x : Nat} (hd : decode cc pc = .ok (.aload 15, 2)) (k : AW G l y cc ml rt d kc ks (pc + 2) (a0 :: a1 :: a2 :: a3 :: a4 :: a5 :: a6 :: a7 :: a8 :: a9 :: a10 :: a11 :: a12 :: a13 :: a14 :: some (.ref x) :: r) (.ref x :: st) n S I J R Q) :
    AW G l y cc ml rt d kc ks (pc) (a0 :: a1 :: a2 :: a3 :: a4 :: a5 :: a6 :: a7 :: a8 :: a9 :: a10 :: a11 :: a12 :: a13 :: a14 :: some (.ref x) :: r) (st) n S I J R Q := by
  intro p e Rm s m args below meth c H locs cells slots ls C h1 h2 h3 h4
  exact lv_aload C.1 C.2.1 hd (h3.2.2 15 _ rfl) (k _ _ _ _ _ _ _ _ _ _ _ _ _ ls C h1 h2 h3 h4)
theorem AW_astore_15 {a0 a1 a2 a3 a4 a5 a6 a7 a8 a9 a10 a11 a12 a13 a14 z : Option Value} {r : List (Option Value)} {x : Nat} (hd : decode cc pc = .ok (.astore 15, 2)) (hm : 15 < ml) (hp : rk_one a14 = true) (k : AW G l y cc ml rt d kc ks (pc + 2) (a0 :: a1 :: a2 :: a3 :: a4 :: a5 :: a6 :: a7 :: a8 :: a9 :: a10 :: a11 :: a12 :: a13 :: a14 :: some (.ref x) :: r) (st) n S I J R Q) :
    AW G l y cc ml rt d kc ks (pc) (a0 :: a1 :: a2 :: a3 :: a4 :: a5 :: a6 :: a7 :: a8 :: a9 :: a10 :: a11 :: a12 :: a13 :: a14 :: z :: r) (.ref x :: st) n S I J R Q := by
  intro p e Rm s m args below meth c H locs cells slots ls C h1 h2 h3 h4
  exact lv_astore C.1 C.2.1 hd (rk_L_has h3) hm rfl (fun ls hl => k _ _ _ _ _ _ _ _ _ _ _ _ _ ls C h1 h2 (rk_L_st1 (v := .ref x) hl rfl (fun j w hj hw => by have e : j = 14 := (by omega); subst e; cases hw; exact hp)) h4)
theorem AW_aloadN_15 {a0 a1 a2 a3 a4 a5 a6 a7 a8 a9 a10 a11 a12 a13 a14 : Option Value} {r : List (Option Value)}  (hd : decode cc pc = .ok (.aload 15, 2)) (k : AW G l y cc ml rt d kc ks (pc + 2) (a0 :: a1 :: a2 :: a3 :: a4 :: a5 :: a6 :: a7 :: a8 :: a9 :: a10 :: a11 :: a12 :: a13 :: a14 :: some (.null) :: r) (.null :: st) n S I J R Q) :
    AW G l y cc ml rt d kc ks (pc) (a0 :: a1 :: a2 :: a3 :: a4 :: a5 :: a6 :: a7 :: a8 :: a9 :: a10 :: a11 :: a12 :: a13 :: a14 :: some (.null) :: r) (st) n S I J R Q := by
  intro p e Rm s m args below meth c H locs cells slots ls C h1 h2 h3 h4
  exact lv_aloadN C.1 C.2.1 hd (h3.2.2 15 _ rfl) (k _ _ _ _ _ _ _ _ _ _ _ _ _ ls C h1 h2 h3 h4)
theorem AW_astoreN_15 {a0 a1 a2 a3 a4 a5 a6 a7 a8 a9 a10 a11 a12 a13 a14 z : Option Value} {r : List (Option Value)}  (hd : decode cc pc = .ok (.astore 15, 2)) (hm : 15 < ml) (hp : rk_one a14 = true) (k : AW G l y cc ml rt d kc ks (pc + 2) (a0 :: a1 :: a2 :: a3 :: a4 :: a5 :: a6 :: a7 :: a8 :: a9 :: a10 :: a11 :: a12 :: a13 :: a14 :: some (.null) :: r) (st) n S I J R Q) :
    AW G l y cc ml rt d kc ks (pc) (a0 :: a1 :: a2 :: a3 :: a4 :: a5 :: a6 :: a7 :: a8 :: a9 :: a10 :: a11 :: a12 :: a13 :: a14 :: z :: r) (.null :: st) n S I J R Q := by
  intro p e Rm s m args below meth c H locs cells slots ls C h1 h2 h3 h4
  exact lv_astoreN C.1 C.2.1 hd (rk_L_has h3) hm rfl (fun ls hl => k _ _ _ _ _ _ _ _ _ _ _ _ _ ls C h1 h2 (rk_L_st1 (v := .null) hl rfl (fun j w hj hw => by have e : j = 14 := (by omega); subst e; cases hw; exact hp)) h4)
theorem AW_iinc_15 {a0 a1 a2 a3 a4 a5 a6 a7 a8 a9 a10 a11 a12 a13 a14 : Option Value} {r : List (Option Value)} {x v : Int32} {q : Int} (hd : decode cc pc = .ok (.iinc 15 q, 3)) (hv : Int32.ofInt q = v) (hm : 15 < ml) (hp : rk_one a14 = true) (k : AW G l y cc ml rt d kc ks (pc + 3) (a0 :: a1 :: a2 :: a3 :: a4 :: a5 :: a6 :: a7 :: a8 :: a9 :: a10 :: a11 :: a12 :: a13 :: a14 :: some (.int (x + v)) :: r) (st) n S I J R Q) :
    AW G l y cc ml rt d kc ks (pc) (a0 :: a1 :: a2 :: a3 :: a4 :: a5 :: a6 :: a7 :: a8 :: a9 :: a10 :: a11 :: a12 :: a13 :: a14 :: some (.int x) :: r) (st) n S I J R Q := by
  intro p e Rm s m args below meth c H locs cells slots ls C h1 h2 h3 h4
  subst hv
  obtain ⟨j, hj⟩ := List.getElem?_of_mem (rk_as_mem (ad := G.1) (lv := a0 :: a1 :: a2 :: a3 :: a4 :: a5 :: a6 :: a7 :: a8 :: a9 :: a10 :: a11 :: a12 :: a13 :: a14 :: some (.int x) :: r) (q := (15, .int x)) |>.mpr ⟨.int x, rfl, rfl⟩)
  exact lv_iinc C.1 C.2.1 hd (rk_L_has h3) hj rfl hm rfl (fun ls hl => k _ _ _ _ _ _ _ _ _ _ _ _ _ ls C h1 h2 (rk_L_st1 (v := .int _) hl rfl (fun j w hj hw => by have e : j = 14 := (by omega); subst e; cases hw; exact hp)) h4)
theorem AW_drop_15 {a0 a1 a2 a3 a4 a5 a6 a7 a8 a9 a10 a11 a12 a13 a14 : Option Value} {r : List (Option Value)} {w : Option Value} (k : AW G l y cc ml rt d kc ks (pc) (a0 :: a1 :: a2 :: a3 :: a4 :: a5 :: a6 :: a7 :: a8 :: a9 :: a10 :: a11 :: a12 :: a13 :: a14 :: none :: r) (st) n S I J R Q) :
    AW G l y cc ml rt d kc ks (pc) (a0 :: a1 :: a2 :: a3 :: a4 :: a5 :: a6 :: a7 :: a8 :: a9 :: a10 :: a11 :: a12 :: a13 :: a14 :: w :: r) (st) n S I J R Q := by
  intro p e Rm s m args below meth c H locs cells slots ls C h1 h2 h3 h4
  refine k _ _ _ _ _ _ _ _ _ _ _ _ _ ls C h1 h2 ⟨h3.1, h3.2.1, fun j v hj => h3.2.2 j v ?_⟩ h4
  by_cases e : j = 15
  · subst e; simp at hj
  · have hh : ∀ (o : Option Value), (a0 :: a1 :: a2 :: a3 :: a4 :: a5 :: a6 :: a7 :: a8 :: a9 :: a10 :: a11 :: a12 :: a13 :: a14 :: none :: r)[j]? = ((a0 :: a1 :: a2 :: a3 :: a4 :: a5 :: a6 :: a7 :: a8 :: a9 :: a10 :: a11 :: a12 :: a13 :: a14 :: o :: r).set 15 none)[j]? := fun o => rfl
    rw [hh w, List.getElem?_set_ne (Ne.symm e)] at hj
    exact hj
end RK
end
