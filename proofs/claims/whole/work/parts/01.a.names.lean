-- ===== PART A: goes FIRST, ahead of the names: the tables' words, and 'selects' of the private methods out of them =====
/-- a private method of a class that the tables say can be made, by its rows of tables_1 -/
def lw_okq (q : MethodName × Nat) : Prop := (q.1.cls ≠ "java/lang/invoke/MethodHandle" ∧ q.1.cls ≠ "java/lang/invoke/VarHandle") ∧ Cond.instantiable q.1.cls q.2 ∈ tables_1 ∧ Cond.privateMethod q.1 ∈ tables_1 ∧ Cond.instanceMethod q.1 ∈ tables_1
theorem lw_p0 : lw_okq (⟨"RailCargo$Reader", "split", "()V"⟩, 10) := ⟨⟨by decide +kernel, by decide +kernel⟩, List.mem_of_getElem? (i := 35) (by decide +kernel), List.mem_of_getElem? (i := 207) (by decide +kernel), List.mem_of_getElem? (i := 208) (by decide +kernel)⟩
theorem lw_p1 : lw_okq (⟨"RailCargo$Reader", "endOfToken", "(I)I"⟩, 10) := ⟨⟨by decide +kernel, by decide +kernel⟩, List.mem_of_getElem? (i := 35) (by decide +kernel), List.mem_of_getElem? (i := 211) (by decide +kernel), List.mem_of_getElem? (i := 212) (by decide +kernel)⟩
theorem lw_p2 : lw_okq (⟨"RailCargo$Reader", "tokenOf", "(II)I"⟩, 10) := ⟨⟨by decide +kernel, by decide +kernel⟩, List.mem_of_getElem? (i := 35) (by decide +kernel), List.mem_of_getElem? (i := 224) (by decide +kernel), List.mem_of_getElem? (i := 225) (by decide +kernel)⟩
theorem lw_p3 : lw_okq (⟨"RailCargo$Reader", "wordOf", "(II)I"⟩, 10) := ⟨⟨by decide +kernel, by decide +kernel⟩, List.mem_of_getElem? (i := 35) (by decide +kernel), List.mem_of_getElem? (i := 228) (by decide +kernel), List.mem_of_getElem? (i := 229) (by decide +kernel)⟩
theorem lw_p4 : lw_okq (⟨"RailCargo$Reader", "stands", "(III)Z"⟩, 10) := ⟨⟨by decide +kernel, by decide +kernel⟩, List.mem_of_getElem? (i := 35) (by decide +kernel), List.mem_of_getElem? (i := 235) (by decide +kernel), List.mem_of_getElem? (i := 236) (by decide +kernel)⟩
theorem lw_p5 : lw_okq (⟨"RailCargo$Reader", "numberOf", "(II)I"⟩, 10) := ⟨⟨by decide +kernel, by decide +kernel⟩, List.mem_of_getElem? (i := 35) (by decide +kernel), List.mem_of_getElem? (i := 239) (by decide +kernel), List.mem_of_getElem? (i := 240) (by decide +kernel)⟩
theorem lw_p6 : lw_okq (⟨"RailCargo$Reader", "take", "(I)V"⟩, 10) := ⟨⟨by decide +kernel, by decide +kernel⟩, List.mem_of_getElem? (i := 35) (by decide +kernel), List.mem_of_getElem? (i := 303) (by decide +kernel), List.mem_of_getElem? (i := 304) (by decide +kernel)⟩
theorem lw_p7 : lw_okq (⟨"RailCargo$Reader", "token", "()I"⟩, 10) := ⟨⟨by decide +kernel, by decide +kernel⟩, List.mem_of_getElem? (i := 35) (by decide +kernel), List.mem_of_getElem? (i := 307) (by decide +kernel), List.mem_of_getElem? (i := 308) (by decide +kernel)⟩
theorem lw_p8 : lw_okq (⟨"RailCargo$Reader", "next", "()V"⟩, 10) := ⟨⟨by decide +kernel, by decide +kernel⟩, List.mem_of_getElem? (i := 35) (by decide +kernel), List.mem_of_getElem? (i := 311) (by decide +kernel), List.mem_of_getElem? (i := 312) (by decide +kernel)⟩
theorem lw_p9 : lw_okq (⟨"RailCargo$Reader", "fail", "()V"⟩, 10) := ⟨⟨by decide +kernel, by decide +kernel⟩, List.mem_of_getElem? (i := 35) (by decide +kernel), List.mem_of_getElem? (i := 315) (by decide +kernel), List.mem_of_getElem? (i := 316) (by decide +kernel)⟩
theorem lw_p10 : lw_okq (⟨"RailCargo$Reader", "phrase", "(II)V"⟩, 10) := ⟨⟨by decide +kernel, by decide +kernel⟩, List.mem_of_getElem? (i := 35) (by decide +kernel), List.mem_of_getElem? (i := 319) (by decide +kernel), List.mem_of_getElem? (i := 320) (by decide +kernel)⟩
theorem lw_p11 : lw_okq (⟨"RailCargo$Reader", "denial", "(I)V"⟩, 10) := ⟨⟨by decide +kernel, by decide +kernel⟩, List.mem_of_getElem? (i := 35) (by decide +kernel), List.mem_of_getElem? (i := 323) (by decide +kernel), List.mem_of_getElem? (i := 324) (by decide +kernel)⟩
theorem lw_p12 : lw_okq (⟨"RailCargo$Reader", "opens", "(I)Z"⟩, 10) := ⟨⟨by decide +kernel, by decide +kernel⟩, List.mem_of_getElem? (i := 35) (by decide +kernel), List.mem_of_getElem? (i := 327) (by decide +kernel), List.mem_of_getElem? (i := 328) (by decide +kernel)⟩
theorem lw_p13 : lw_okq (⟨"RailCargo$Reader", "emit", "(I)V"⟩, 10) := ⟨⟨by decide +kernel, by decide +kernel⟩, List.mem_of_getElem? (i := 35) (by decide +kernel), List.mem_of_getElem? (i := 331) (by decide +kernel), List.mem_of_getElem? (i := 332) (by decide +kernel)⟩
theorem lw_p14 : lw_okq (⟨"RailCargo$Reader", "one", "(I)V"⟩, 10) := ⟨⟨by decide +kernel, by decide +kernel⟩, List.mem_of_getElem? (i := 35) (by decide +kernel), List.mem_of_getElem? (i := 335) (by decide +kernel), List.mem_of_getElem? (i := 336) (by decide +kernel)⟩
theorem lw_p15 : lw_okq (⟨"RailCargo", "cargoAt", "(I)LRailCargo$Cargo;"⟩, 17) := ⟨⟨by decide +kernel, by decide +kernel⟩, List.mem_of_getElem? (i := 21) (by decide +kernel), List.mem_of_getElem? (i := 471) (by decide +kernel), List.mem_of_getElem? (i := 472) (by decide +kernel)⟩
def lw_privs_1 : List (MethodName × Nat) := [(⟨"RailCargo$Reader", "split", "()V"⟩, 10), (⟨"RailCargo$Reader", "endOfToken", "(I)I"⟩, 10), (⟨"RailCargo$Reader", "tokenOf", "(II)I"⟩, 10), (⟨"RailCargo$Reader", "wordOf", "(II)I"⟩, 10), (⟨"RailCargo$Reader", "stands", "(III)Z"⟩, 10), (⟨"RailCargo$Reader", "numberOf", "(II)I"⟩, 10), (⟨"RailCargo$Reader", "take", "(I)V"⟩, 10), (⟨"RailCargo$Reader", "token", "()I"⟩, 10), (⟨"RailCargo$Reader", "next", "()V"⟩, 10), (⟨"RailCargo$Reader", "fail", "()V"⟩, 10), (⟨"RailCargo$Reader", "phrase", "(II)V"⟩, 10), (⟨"RailCargo$Reader", "denial", "(I)V"⟩, 10), (⟨"RailCargo$Reader", "opens", "(I)Z"⟩, 10), (⟨"RailCargo$Reader", "emit", "(I)V"⟩, 10), (⟨"RailCargo$Reader", "one", "(I)V"⟩, 10), (⟨"RailCargo", "cargoAt", "(I)LRailCargo$Cargo;"⟩, 17)]
theorem lw_r1 : ∀ q ∈ lw_privs_1, lw_okq q := List.forall_mem_cons.mpr ⟨lw_p0, List.forall_mem_cons.mpr ⟨lw_p1, List.forall_mem_cons.mpr ⟨lw_p2, List.forall_mem_cons.mpr ⟨lw_p3, List.forall_mem_cons.mpr ⟨lw_p4, List.forall_mem_cons.mpr ⟨lw_p5, List.forall_mem_cons.mpr ⟨lw_p6, List.forall_mem_cons.mpr ⟨lw_p7, List.forall_mem_cons.mpr ⟨lw_p8, List.forall_mem_cons.mpr ⟨lw_p9, List.forall_mem_cons.mpr ⟨lw_p10, List.forall_mem_cons.mpr ⟨lw_p11, List.forall_mem_cons.mpr ⟨lw_p12, List.forall_mem_cons.mpr ⟨lw_p13, List.forall_mem_cons.mpr ⟨lw_p14, List.forall_mem_cons.mpr ⟨lw_p15, fun _ h => absurd h List.not_mem_nil⟩⟩⟩⟩⟩⟩⟩⟩⟩⟩⟩⟩⟩⟩⟩⟩
theorem lw_p16 : lw_okq (⟨"RailCargo", "saleAt", "(I)LRailCargo$Sale;"⟩, 17) := ⟨⟨by decide +kernel, by decide +kernel⟩, List.mem_of_getElem? (i := 21) (by decide +kernel), List.mem_of_getElem? (i := 552) (by decide +kernel), List.mem_of_getElem? (i := 553) (by decide +kernel)⟩
theorem lw_p17 : lw_okq (⟨"RailCargo$Sale", "halfWayTo", "(I)I"⟩, 11) := ⟨⟨by decide +kernel, by decide +kernel⟩, List.mem_of_getElem? (i := 487) (by decide +kernel), List.mem_of_getElem? (i := 584) (by decide +kernel), List.mem_of_getElem? (i := 585) (by decide +kernel)⟩
theorem lw_p18 : lw_okq (⟨"RailCargo", "heldAt", "(LRailCargo$Cargo;III)I"⟩, 17) := ⟨⟨by decide +kernel, by decide +kernel⟩, List.mem_of_getElem? (i := 21) (by decide +kernel), List.mem_of_getElem? (i := 592) (by decide +kernel), List.mem_of_getElem? (i := 593) (by decide +kernel)⟩
theorem lw_p19 : lw_okq (⟨"RailCargo$Ledger", "enter", "(LRailCargo$Sale;I)V"⟩, 5) := ⟨⟨by decide +kernel, by decide +kernel⟩, List.mem_of_getElem? (i := 87) (by decide +kernel), List.mem_of_getElem? (i := 607) (by decide +kernel), List.mem_of_getElem? (i := 608) (by decide +kernel)⟩
theorem lw_p20 : lw_okq (⟨"RailCargo", "owedFor", "(LRailCargo$Sale;I)J"⟩, 17) := ⟨⟨by decide +kernel, by decide +kernel⟩, List.mem_of_getElem? (i := 21) (by decide +kernel), List.mem_of_getElem? (i := 660) (by decide +kernel), List.mem_of_getElem? (i := 661) (by decide +kernel)⟩
theorem lw_p21 : lw_okq (⟨"RailCargo", "ruled", "(ILRailCargo$Sale;I)I"⟩, 17) := ⟨⟨by decide +kernel, by decide +kernel⟩, List.mem_of_getElem? (i := 21) (by decide +kernel), List.mem_of_getElem? (i := 664) (by decide +kernel), List.mem_of_getElem? (i := 665) (by decide +kernel)⟩
theorem lw_p22 : lw_okq (⟨"RailCargo$Reckoner", "step", "(ILRailCargo$Sale;I)V"⟩, 2) := ⟨⟨by decide +kernel, by decide +kernel⟩, List.mem_of_getElem? (i := 74) (by decide +kernel), List.mem_of_getElem? (i := 684) (by decide +kernel), List.mem_of_getElem? (i := 685) (by decide +kernel)⟩
theorem lw_p23 : lw_okq (⟨"RailCargo$Reckoner", "push", "(I)V"⟩, 2) := ⟨⟨by decide +kernel, by decide +kernel⟩, List.mem_of_getElem? (i := 74) (by decide +kernel), List.mem_of_getElem? (i := 688) (by decide +kernel), List.mem_of_getElem? (i := 689) (by decide +kernel)⟩
theorem lw_p24 : lw_okq (⟨"RailCargo$Reckoner", "pop", "()I"⟩, 2) := ⟨⟨by decide +kernel, by decide +kernel⟩, List.mem_of_getElem? (i := 74) (by decide +kernel), List.mem_of_getElem? (i := 699) (by decide +kernel), List.mem_of_getElem? (i := 700) (by decide +kernel)⟩
theorem lw_p25 : lw_okq (⟨"RailCargo", "areOfOneCargo", "(I)Z"⟩, 17) := ⟨⟨by decide +kernel, by decide +kernel⟩, List.mem_of_getElem? (i := 21) (by decide +kernel), List.mem_of_getElem? (i := 721) (by decide +kernel), List.mem_of_getElem? (i := 722) (by decide +kernel)⟩
theorem lw_p26 : lw_okq (⟨"RailCargo$Rings", "amountsAlike", "(I)Z"⟩, 4) := ⟨⟨by decide +kernel, by decide +kernel⟩, List.mem_of_getElem? (i := 111) (by decide +kernel), List.mem_of_getElem? (i := 729) (by decide +kernel), List.mem_of_getElem? (i := 730) (by decide +kernel)⟩
theorem lw_p27 : lw_okq (⟨"RailCargo$Rings", "has", "(II)Z"⟩, 4) := ⟨⟨by decide +kernel, by decide +kernel⟩, List.mem_of_getElem? (i := 111) (by decide +kernel), List.mem_of_getElem? (i := 733) (by decide +kernel), List.mem_of_getElem? (i := 734) (by decide +kernel)⟩
theorem lw_p28 : lw_okq (⟨"RailCargo$Rings", "allSellAsTheyBuy", "(I)Z"⟩, 4) := ⟨⟨by decide +kernel, by decide +kernel⟩, List.mem_of_getElem? (i := 111) (by decide +kernel), List.mem_of_getElem? (i := 737) (by decide +kernel), List.mem_of_getElem? (i := 738) (by decide +kernel)⟩
theorem lw_p29 : lw_okq (⟨"RailCargo$Rings", "handsReached", "(I)I"⟩, 4) := ⟨⟨by decide +kernel, by decide +kernel⟩, List.mem_of_getElem? (i := 111) (by decide +kernel), List.mem_of_getElem? (i := 742) (by decide +kernel), List.mem_of_getElem? (i := 743) (by decide +kernel)⟩
theorem lw_p30 : lw_okq (⟨"RailCargo$Rings", "handsIn", "(I)I"⟩, 4) := ⟨⟨by decide +kernel, by decide +kernel⟩, List.mem_of_getElem? (i := 111) (by decide +kernel), List.mem_of_getElem? (i := 746) (by decide +kernel), List.mem_of_getElem? (i := 747) (by decide +kernel)⟩
theorem lw_p31 : lw_okq (⟨"RailCargo", "differenceOf", "(II)J"⟩, 17) := ⟨⟨by decide +kernel, by decide +kernel⟩, List.mem_of_getElem? (i := 21) (by decide +kernel), List.mem_of_getElem? (i := 755) (by decide +kernel), List.mem_of_getElem? (i := 756) (by decide +kernel)⟩
def lw_privs_2 : List (MethodName × Nat) := [(⟨"RailCargo", "saleAt", "(I)LRailCargo$Sale;"⟩, 17), (⟨"RailCargo$Sale", "halfWayTo", "(I)I"⟩, 11), (⟨"RailCargo", "heldAt", "(LRailCargo$Cargo;III)I"⟩, 17), (⟨"RailCargo$Ledger", "enter", "(LRailCargo$Sale;I)V"⟩, 5), (⟨"RailCargo", "owedFor", "(LRailCargo$Sale;I)J"⟩, 17), (⟨"RailCargo", "ruled", "(ILRailCargo$Sale;I)I"⟩, 17), (⟨"RailCargo$Reckoner", "step", "(ILRailCargo$Sale;I)V"⟩, 2), (⟨"RailCargo$Reckoner", "push", "(I)V"⟩, 2), (⟨"RailCargo$Reckoner", "pop", "()I"⟩, 2), (⟨"RailCargo", "areOfOneCargo", "(I)Z"⟩, 17), (⟨"RailCargo$Rings", "amountsAlike", "(I)Z"⟩, 4), (⟨"RailCargo$Rings", "has", "(II)Z"⟩, 4), (⟨"RailCargo$Rings", "allSellAsTheyBuy", "(I)Z"⟩, 4), (⟨"RailCargo$Rings", "handsReached", "(I)I"⟩, 4), (⟨"RailCargo$Rings", "handsIn", "(I)I"⟩, 4), (⟨"RailCargo", "differenceOf", "(II)J"⟩, 17)]
theorem lw_r2 : ∀ q ∈ lw_privs_2, lw_okq q := List.forall_mem_cons.mpr ⟨lw_p16, List.forall_mem_cons.mpr ⟨lw_p17, List.forall_mem_cons.mpr ⟨lw_p18, List.forall_mem_cons.mpr ⟨lw_p19, List.forall_mem_cons.mpr ⟨lw_p20, List.forall_mem_cons.mpr ⟨lw_p21, List.forall_mem_cons.mpr ⟨lw_p22, List.forall_mem_cons.mpr ⟨lw_p23, List.forall_mem_cons.mpr ⟨lw_p24, List.forall_mem_cons.mpr ⟨lw_p25, List.forall_mem_cons.mpr ⟨lw_p26, List.forall_mem_cons.mpr ⟨lw_p27, List.forall_mem_cons.mpr ⟨lw_p28, List.forall_mem_cons.mpr ⟨lw_p29, List.forall_mem_cons.mpr ⟨lw_p30, List.forall_mem_cons.mpr ⟨lw_p31, fun _ h => absurd h List.not_mem_nil⟩⟩⟩⟩⟩⟩⟩⟩⟩⟩⟩⟩⟩⟩⟩⟩
theorem lw_p32 : lw_okq (⟨"RailCargo$Rings", "walk", "(IIII)V"⟩, 4) := ⟨⟨by decide +kernel, by decide +kernel⟩, List.mem_of_getElem? (i := 111) (by decide +kernel), List.mem_of_getElem? (i := 769) (by decide +kernel), List.mem_of_getElem? (i := 770) (by decide +kernel)⟩
theorem lw_p33 : lw_okq (⟨"RailCargo$Rings", "follows", "(III)Z"⟩, 4) := ⟨⟨by decide +kernel, by decide +kernel⟩, List.mem_of_getElem? (i := 111) (by decide +kernel), List.mem_of_getElem? (i := 779) (by decide +kernel), List.mem_of_getElem? (i := 780) (by decide +kernel)⟩
theorem lw_p34 : lw_okq (⟨"RailCargo$Rings", "offer", "(I)V"⟩, 4) := ⟨⟨by decide +kernel, by decide +kernel⟩, List.mem_of_getElem? (i := 111) (by decide +kernel), List.mem_of_getElem? (i := 783) (by decide +kernel), List.mem_of_getElem? (i := 784) (by decide +kernel)⟩
theorem lw_p35 : lw_okq (⟨"RailCargo", "canBeStopped", "(LRailCargo$Sale;I)Z"⟩, 17) := ⟨⟨by decide +kernel, by decide +kernel⟩, List.mem_of_getElem? (i := 21) (by decide +kernel), List.mem_of_getElem? (i := 799) (by decide +kernel), List.mem_of_getElem? (i := 800) (by decide +kernel)⟩
theorem lw_p36 : lw_okq (⟨"RailCargo", "keepRisk", "(LRailCargo$Cargo;I)V"⟩, 17) := ⟨⟨by decide +kernel, by decide +kernel⟩, List.mem_of_getElem? (i := 21) (by decide +kernel), List.mem_of_getElem? (i := 816) (by decide +kernel), List.mem_of_getElem? (i := 817) (by decide +kernel)⟩
theorem lw_p37 : lw_okq (⟨"RailCargo", "changeWithout", "(LRailCargo$Cargo;II)I"⟩, 17) := ⟨⟨by decide +kernel, by decide +kernel⟩, List.mem_of_getElem? (i := 21) (by decide +kernel), List.mem_of_getElem? (i := 821) (by decide +kernel), List.mem_of_getElem? (i := 822) (by decide +kernel)⟩
theorem lw_p38 : lw_okq (⟨"RailCargo", "papersHandedOn", "()I"⟩, 17) := ⟨⟨by decide +kernel, by decide +kernel⟩, List.mem_of_getElem? (i := 21) (by decide +kernel), List.mem_of_getElem? (i := 865) (by decide +kernel), List.mem_of_getElem? (i := 866) (by decide +kernel)⟩
theorem lw_p39 : lw_okq (⟨"RailCargo", "paidInAll", "()I"⟩, 17) := ⟨⟨by decide +kernel, by decide +kernel⟩, List.mem_of_getElem? (i := 21) (by decide +kernel), List.mem_of_getElem? (i := 869) (by decide +kernel), List.mem_of_getElem? (i := 870) (by decide +kernel)⟩
theorem lw_p40 : lw_okq (⟨"RailCargo", "sheetAt", "(I)LRailCargo$Sheet;"⟩, 17) := ⟨⟨by decide +kernel, by decide +kernel⟩, List.mem_of_getElem? (i := 21) (by decide +kernel), List.mem_of_getElem? (i := 877) (by decide +kernel), List.mem_of_getElem? (i := 878) (by decide +kernel)⟩
theorem lw_p41 : lw_okq (⟨"RailCargoModel", "spell", "(IJ)V"⟩, 46) := ⟨⟨by decide +kernel, by decide +kernel⟩, List.mem_of_getElem? (i := 911) (by decide +kernel), List.mem_of_getElem? (i := 918) (by decide +kernel), List.mem_of_getElem? (i := 919) (by decide +kernel)⟩
theorem lw_p42 : lw_okq (⟨"RailCargoModel", "isCargo", "(I)Z"⟩, 46) := ⟨⟨by decide +kernel, by decide +kernel⟩, List.mem_of_getElem? (i := 911) (by decide +kernel), List.mem_of_getElem? (i := 1083) (by decide +kernel), List.mem_of_getElem? (i := 1084) (by decide +kernel)⟩
theorem lw_p43 : lw_okq (⟨"RailCargoModel", "isSale", "(I)Z"⟩, 46) := ⟨⟨by decide +kernel, by decide +kernel⟩, List.mem_of_getElem? (i := 911) (by decide +kernel), List.mem_of_getElem? (i := 1101) (by decide +kernel), List.mem_of_getElem? (i := 1102) (by decide +kernel)⟩
theorem lw_p44 : lw_okq (⟨"RailCargoModel", "passes", "(II)I"⟩, 46) := ⟨⟨by decide +kernel, by decide +kernel⟩, List.mem_of_getElem? (i := 911) (by decide +kernel), List.mem_of_getElem? (i := 1115) (by decide +kernel), List.mem_of_getElem? (i := 1116) (by decide +kernel)⟩
theorem lw_p45 : lw_okq (⟨"RailCargoModel", "thingBy", "(II)I"⟩, 46) := ⟨⟨by decide +kernel, by decide +kernel⟩, List.mem_of_getElem? (i := 911) (by decide +kernel), List.mem_of_getElem? (i := 1119) (by decide +kernel), List.mem_of_getElem? (i := 1120) (by decide +kernel)⟩
theorem lw_p46 : lw_okq (⟨"RailCargoModel", "lossBy", "(II)I"⟩, 46) := ⟨⟨by decide +kernel, by decide +kernel⟩, List.mem_of_getElem? (i := 911) (by decide +kernel), List.mem_of_getElem? (i := 1126) (by decide +kernel), List.mem_of_getElem? (i := 1127) (by decide +kernel)⟩
theorem lw_p47 : lw_okq (⟨"RailCargoModel", "lays", "(III)V"⟩, 46) := ⟨⟨by decide +kernel, by decide +kernel⟩, List.mem_of_getElem? (i := 911) (by decide +kernel), List.mem_of_getElem? (i := 1134) (by decide +kernel), List.mem_of_getElem? (i := 1135) (by decide +kernel)⟩
def lw_privs_3 : List (MethodName × Nat) := [(⟨"RailCargo$Rings", "walk", "(IIII)V"⟩, 4), (⟨"RailCargo$Rings", "follows", "(III)Z"⟩, 4), (⟨"RailCargo$Rings", "offer", "(I)V"⟩, 4), (⟨"RailCargo", "canBeStopped", "(LRailCargo$Sale;I)Z"⟩, 17), (⟨"RailCargo", "keepRisk", "(LRailCargo$Cargo;I)V"⟩, 17), (⟨"RailCargo", "changeWithout", "(LRailCargo$Cargo;II)I"⟩, 17), (⟨"RailCargo", "papersHandedOn", "()I"⟩, 17), (⟨"RailCargo", "paidInAll", "()I"⟩, 17), (⟨"RailCargo", "sheetAt", "(I)LRailCargo$Sheet;"⟩, 17), (⟨"RailCargoModel", "spell", "(IJ)V"⟩, 46), (⟨"RailCargoModel", "isCargo", "(I)Z"⟩, 46), (⟨"RailCargoModel", "isSale", "(I)Z"⟩, 46), (⟨"RailCargoModel", "passes", "(II)I"⟩, 46), (⟨"RailCargoModel", "thingBy", "(II)I"⟩, 46), (⟨"RailCargoModel", "lossBy", "(II)I"⟩, 46), (⟨"RailCargoModel", "lays", "(III)V"⟩, 46)]
theorem lw_r3 : ∀ q ∈ lw_privs_3, lw_okq q := List.forall_mem_cons.mpr ⟨lw_p32, List.forall_mem_cons.mpr ⟨lw_p33, List.forall_mem_cons.mpr ⟨lw_p34, List.forall_mem_cons.mpr ⟨lw_p35, List.forall_mem_cons.mpr ⟨lw_p36, List.forall_mem_cons.mpr ⟨lw_p37, List.forall_mem_cons.mpr ⟨lw_p38, List.forall_mem_cons.mpr ⟨lw_p39, List.forall_mem_cons.mpr ⟨lw_p40, List.forall_mem_cons.mpr ⟨lw_p41, List.forall_mem_cons.mpr ⟨lw_p42, List.forall_mem_cons.mpr ⟨lw_p43, List.forall_mem_cons.mpr ⟨lw_p44, List.forall_mem_cons.mpr ⟨lw_p45, List.forall_mem_cons.mpr ⟨lw_p46, List.forall_mem_cons.mpr ⟨lw_p47, fun _ h => absurd h List.not_mem_nil⟩⟩⟩⟩⟩⟩⟩⟩⟩⟩⟩⟩⟩⟩⟩⟩
theorem lw_p48 : lw_okq (⟨"RailCargoModel", "ahead", "()I"⟩, 46) := ⟨⟨by decide +kernel, by decide +kernel⟩, List.mem_of_getElem? (i := 911) (by decide +kernel), List.mem_of_getElem? (i := 1138) (by decide +kernel), List.mem_of_getElem? (i := 1139) (by decide +kernel)⟩
theorem lw_p49 : lw_okq (⟨"RailCargoModel", "read", "(IIII)I"⟩, 46) := ⟨⟨by decide +kernel, by decide +kernel⟩, List.mem_of_getElem? (i := 911) (by decide +kernel), List.mem_of_getElem? (i := 1163) (by decide +kernel), List.mem_of_getElem? (i := 1164) (by decide +kernel)⟩
theorem lw_p50 : lw_okq (⟨"RailCargoModel", "next", "()V"⟩, 46) := ⟨⟨by decide +kernel, by decide +kernel⟩, List.mem_of_getElem? (i := 911) (by decide +kernel), List.mem_of_getElem? (i := 1167) (by decide +kernel), List.mem_of_getElem? (i := 1168) (by decide +kernel)⟩
theorem lw_p51 : lw_okq (⟨"RailCargoModel", "byteAt", "(I)I"⟩, 46) := ⟨⟨by decide +kernel, by decide +kernel⟩, List.mem_of_getElem? (i := 911) (by decide +kernel), List.mem_of_getElem? (i := 1171) (by decide +kernel), List.mem_of_getElem? (i := 1172) (by decide +kernel)⟩
theorem lw_p52 : lw_okq (⟨"RailCargoModel", "part", "(J)I"⟩, 46) := ⟨⟨by decide +kernel, by decide +kernel⟩, List.mem_of_getElem? (i := 911) (by decide +kernel), List.mem_of_getElem? (i := 1183) (by decide +kernel), List.mem_of_getElem? (i := 1184) (by decide +kernel)⟩
theorem lw_p53 : lw_okq (⟨"RailCargoModel", "isWord", "(J)Z"⟩, 46) := ⟨⟨by decide +kernel, by decide +kernel⟩, List.mem_of_getElem? (i := 911) (by decide +kernel), List.mem_of_getElem? (i := 1187) (by decide +kernel), List.mem_of_getElem? (i := 1188) (by decide +kernel)⟩
theorem lw_p54 : lw_okq (⟨"RailCargoModel", "fail", "()V"⟩, 46) := ⟨⟨by decide +kernel, by decide +kernel⟩, List.mem_of_getElem? (i := 911) (by decide +kernel), List.mem_of_getElem? (i := 1191) (by decide +kernel), List.mem_of_getElem? (i := 1192) (by decide +kernel)⟩
theorem lw_p55 : lw_okq (⟨"RailCargoModel", "either", "()I"⟩, 46) := ⟨⟨by decide +kernel, by decide +kernel⟩, List.mem_of_getElem? (i := 911) (by decide +kernel), List.mem_of_getElem? (i := 1195) (by decide +kernel), List.mem_of_getElem? (i := 1196) (by decide +kernel)⟩
theorem lw_p56 : lw_okq (⟨"RailCargoModel", "both", "()I"⟩, 46) := ⟨⟨by decide +kernel, by decide +kernel⟩, List.mem_of_getElem? (i := 911) (by decide +kernel), List.mem_of_getElem? (i := 1199) (by decide +kernel), List.mem_of_getElem? (i := 1200) (by decide +kernel)⟩
theorem lw_p57 : lw_okq (⟨"RailCargoModel", "not", "()I"⟩, 46) := ⟨⟨by decide +kernel, by decide +kernel⟩, List.mem_of_getElem? (i := 911) (by decide +kernel), List.mem_of_getElem? (i := 1203) (by decide +kernel), List.mem_of_getElem? (i := 1204) (by decide +kernel)⟩
theorem lw_p58 : lw_okq (⟨"RailCargoModel", "opens", "()Z"⟩, 46) := ⟨⟨by decide +kernel, by decide +kernel⟩, List.mem_of_getElem? (i := 911) (by decide +kernel), List.mem_of_getElem? (i := 1208) (by decide +kernel), List.mem_of_getElem? (i := 1209) (by decide +kernel)⟩
theorem lw_p59 : lw_okq (⟨"RailCargoModel", "added", "()I"⟩, 46) := ⟨⟨by decide +kernel, by decide +kernel⟩, List.mem_of_getElem? (i := 911) (by decide +kernel), List.mem_of_getElem? (i := 1212) (by decide +kernel), List.mem_of_getElem? (i := 1213) (by decide +kernel)⟩
theorem lw_p60 : lw_okq (⟨"RailCargoModel", "term", "()I"⟩, 46) := ⟨⟨by decide +kernel, by decide +kernel⟩, List.mem_of_getElem? (i := 911) (by decide +kernel), List.mem_of_getElem? (i := 1216) (by decide +kernel), List.mem_of_getElem? (i := 1217) (by decide +kernel)⟩
theorem lw_p61 : lw_okq (⟨"RailCargoModel", "one", "()I"⟩, 46) := ⟨⟨by decide +kernel, by decide +kernel⟩, List.mem_of_getElem? (i := 911) (by decide +kernel), List.mem_of_getElem? (i := 1220) (by decide +kernel), List.mem_of_getElem? (i := 1221) (by decide +kernel)⟩
theorem lw_p62 : lw_okq (⟨"RailCargoModel", "isSign", "(I)Z"⟩, 46) := ⟨⟨by decide +kernel, by decide +kernel⟩, List.mem_of_getElem? (i := 911) (by decide +kernel), List.mem_of_getElem? (i := 1224) (by decide +kernel), List.mem_of_getElem? (i := 1225) (by decide +kernel)⟩
theorem lw_p63 : lw_okq (⟨"RailCargoModel", "name", "()I"⟩, 46) := ⟨⟨by decide +kernel, by decide +kernel⟩, List.mem_of_getElem? (i := 911) (by decide +kernel), List.mem_of_getElem? (i := 1228) (by decide +kernel), List.mem_of_getElem? (i := 1229) (by decide +kernel)⟩
def lw_privs_4 : List (MethodName × Nat) := [(⟨"RailCargoModel", "ahead", "()I"⟩, 46), (⟨"RailCargoModel", "read", "(IIII)I"⟩, 46), (⟨"RailCargoModel", "next", "()V"⟩, 46), (⟨"RailCargoModel", "byteAt", "(I)I"⟩, 46), (⟨"RailCargoModel", "part", "(J)I"⟩, 46), (⟨"RailCargoModel", "isWord", "(J)Z"⟩, 46), (⟨"RailCargoModel", "fail", "()V"⟩, 46), (⟨"RailCargoModel", "either", "()I"⟩, 46), (⟨"RailCargoModel", "both", "()I"⟩, 46), (⟨"RailCargoModel", "not", "()I"⟩, 46), (⟨"RailCargoModel", "opens", "()Z"⟩, 46), (⟨"RailCargoModel", "added", "()I"⟩, 46), (⟨"RailCargoModel", "term", "()I"⟩, 46), (⟨"RailCargoModel", "one", "()I"⟩, 46), (⟨"RailCargoModel", "isSign", "(I)Z"⟩, 46), (⟨"RailCargoModel", "name", "()I"⟩, 46)]
theorem lw_r4 : ∀ q ∈ lw_privs_4, lw_okq q := List.forall_mem_cons.mpr ⟨lw_p48, List.forall_mem_cons.mpr ⟨lw_p49, List.forall_mem_cons.mpr ⟨lw_p50, List.forall_mem_cons.mpr ⟨lw_p51, List.forall_mem_cons.mpr ⟨lw_p52, List.forall_mem_cons.mpr ⟨lw_p53, List.forall_mem_cons.mpr ⟨lw_p54, List.forall_mem_cons.mpr ⟨lw_p55, List.forall_mem_cons.mpr ⟨lw_p56, List.forall_mem_cons.mpr ⟨lw_p57, List.forall_mem_cons.mpr ⟨lw_p58, List.forall_mem_cons.mpr ⟨lw_p59, List.forall_mem_cons.mpr ⟨lw_p60, List.forall_mem_cons.mpr ⟨lw_p61, List.forall_mem_cons.mpr ⟨lw_p62, List.forall_mem_cons.mpr ⟨lw_p63, fun _ h => absurd h List.not_mem_nil⟩⟩⟩⟩⟩⟩⟩⟩⟩⟩⟩⟩⟩⟩⟩⟩
theorem lw_p64 : lw_okq (⟨"RailCargoModel", "dueOf", "(I)I"⟩, 46) := ⟨⟨by decide +kernel, by decide +kernel⟩, List.mem_of_getElem? (i := 911) (by decide +kernel), List.mem_of_getElem? (i := 1238) (by decide +kernel), List.mem_of_getElem? (i := 1239) (by decide +kernel)⟩
theorem lw_p65 : lw_okq (⟨"RailCargoModel", "owesOf", "(II)J"⟩, 46) := ⟨⟨by decide +kernel, by decide +kernel⟩, List.mem_of_getElem? (i := 911) (by decide +kernel), List.mem_of_getElem? (i := 1256) (by decide +kernel), List.mem_of_getElem? (i := 1257) (by decide +kernel)⟩
theorem lw_p66 : lw_okq (⟨"RailCargoModel", "areSales", "(I)Z"⟩, 46) := ⟨⟨by decide +kernel, by decide +kernel⟩, List.mem_of_getElem? (i := 911) (by decide +kernel), List.mem_of_getElem? (i := 1271) (by decide +kernel), List.mem_of_getElem? (i := 1272) (by decide +kernel)⟩
theorem lw_p67 : lw_okq (⟨"RailCargoModel", "isRing", "(I)Z"⟩, 46) := ⟨⟨by decide +kernel, by decide +kernel⟩, List.mem_of_getElem? (i := 911) (by decide +kernel), List.mem_of_getElem? (i := 1275) (by decide +kernel), List.mem_of_getElem? (i := 1276) (by decide +kernel)⟩
theorem lw_p68 : lw_okq (⟨"RailCargoModel", "reached", "(II)I"⟩, 46) := ⟨⟨by decide +kernel, by decide +kernel⟩, List.mem_of_getElem? (i := 911) (by decide +kernel), List.mem_of_getElem? (i := 1279) (by decide +kernel), List.mem_of_getElem? (i := 1280) (by decide +kernel)⟩
theorem lw_p69 : lw_okq (⟨"RailCargoModel", "keeps", "(II)V"⟩, 46) := ⟨⟨by decide +kernel, by decide +kernel⟩, List.mem_of_getElem? (i := 911) (by decide +kernel), List.mem_of_getElem? (i := 1320) (by decide +kernel), List.mem_of_getElem? (i := 1321) (by decide +kernel)⟩
theorem lw_p70 : lw_okq (⟨"RailCargoModel", "change", "(II)I"⟩, 46) := ⟨⟨by decide +kernel, by decide +kernel⟩, List.mem_of_getElem? (i := 911) (by decide +kernel), List.mem_of_getElem? (i := 1324) (by decide +kernel), List.mem_of_getElem? (i := 1325) (by decide +kernel)⟩
def lw_privs_5 : List (MethodName × Nat) := [(⟨"RailCargoModel", "dueOf", "(I)I"⟩, 46), (⟨"RailCargoModel", "owesOf", "(II)J"⟩, 46), (⟨"RailCargoModel", "areSales", "(I)Z"⟩, 46), (⟨"RailCargoModel", "isRing", "(I)Z"⟩, 46), (⟨"RailCargoModel", "reached", "(II)I"⟩, 46), (⟨"RailCargoModel", "keeps", "(II)V"⟩, 46), (⟨"RailCargoModel", "change", "(II)I"⟩, 46)]
theorem lw_r5 : ∀ q ∈ lw_privs_5, lw_okq q := List.forall_mem_cons.mpr ⟨lw_p64, List.forall_mem_cons.mpr ⟨lw_p65, List.forall_mem_cons.mpr ⟨lw_p66, List.forall_mem_cons.mpr ⟨lw_p67, List.forall_mem_cons.mpr ⟨lw_p68, List.forall_mem_cons.mpr ⟨lw_p69, List.forall_mem_cons.mpr ⟨lw_p70, fun _ h => absurd h List.not_mem_nil⟩⟩⟩⟩⟩⟩⟩
def lw_privs : List (MethodName × Nat) := lw_privs_1 ++ (lw_privs_2 ++ (lw_privs_3 ++ (lw_privs_4 ++ (lw_privs_5))))
def lw_tbl : List Cond := k2_sels lw_privs ++ tables_1
theorem lw_privs_ok : ∀ q ∈ lw_privs, lw_okq q := by
  show ∀ q ∈ lw_privs_1 ++ (lw_privs_2 ++ (lw_privs_3 ++ (lw_privs_4 ++ (lw_privs_5)))), lw_okq q
  exact List.forall_mem_append.mpr ⟨lw_r1, List.forall_mem_append.mpr ⟨lw_r2, List.forall_mem_append.mpr ⟨lw_r3, List.forall_mem_append.mpr ⟨lw_r4, lw_r5⟩⟩⟩⟩
-- ===== end of PART A; then your names; then what follows =====
/-! ===== BEGIN printed: names, fields, word lists, decode rows ===== -/
def RX0 : String := "RailCargo$Cargo"
def TX0 : u_T := fun k => match k with
  | 0 => ("RailCargo$Cargo", "number", "I", true)
  | 1 => ("RailCargo$Cargo", "amount", "I", true)
  | 2 => ("RailCargo$Cargo", "firstHand", "I", true)
  | 3 => ("RailCargo$Cargo", "hours", "[I", true)
  | _ => ("RailCargo$Cargo", "keptHours", "[I", true)
def tyX0 : Nat → FieldType := fun k => match k with
  | 0 => .int
  | 1 => .int
  | 2 => .int
  | 3 => .array .int
  | _ => .array .int
theorem nmX0 : ∀ a, a < 5 → ∀ b, b < 5 → a ≠ b → (TX0 a).2.1 ≠ (TX0 b).2.1 := by decide +kernel
theorem tyX0_ok : ∀ k, k < 5 → parseFieldDescriptor (TX0 k).2.2.1 = some (tyX0 k) := by decide +kernel
abbrev cX0_init : ByteArray := prog_2_method_1_code
def yX0_init : MethodName := ⟨RX0, "<init>", "(III)V"⟩
abbrev cX0_keep : ByteArray := prog_2_method_2_code
def yX0_keep : MethodName := ⟨RX0, "keep", "()V"⟩
abbrev cX0_layBack : ByteArray := prog_2_method_3_code
def yX0_layBack : MethodName := ⟨RX0, "layBack", "()V"⟩
def RX1 : String := "RailCargo$Ledger"
def TX1 : u_T := fun k => match k with
  | 0 => ("RailCargo$Ledger", "held", "[I", true)
  | 1 => ("RailCargo$Ledger", "order", "[LRailCargo$Sale;", true)
  | 2 => ("RailCargo$Ledger", "passes", "[I", true)
  | 3 => ("RailCargo$Ledger", "size", "I", false)
  | _ => ("RailCargo$Ledger", "done", "I", false)
def tyX1 : Nat → FieldType := fun k => match k with
  | 0 => .array .int
  | 1 => .array (.object "RailCargo$Sale")
  | 2 => .array .int
  | 3 => .int
  | _ => .int
theorem nmX1 : ∀ a, a < 5 → ∀ b, b < 5 → a ≠ b → (TX1 a).2.1 ≠ (TX1 b).2.1 := by decide +kernel
theorem tyX1_ok : ∀ k, k < 5 → parseFieldDescriptor (TX1 k).2.2.1 = some (tyX1 k) := by decide +kernel
abbrev cX1_init : ByteArray := prog_3_method_1_code
def yX1_init : MethodName := ⟨RX1, "<init>", "()V"⟩
abbrev cX1_open : ByteArray := prog_3_method_2_code
def yX1_open : MethodName := ⟨RX1, "open", "(LRailCargo$Cargo;[LRailCargo$Sale;II)V"⟩
abbrev cX1_enter : ByteArray := prog_3_method_3_code
def yX1_enter : MethodName := ⟨RX1, "enter", "(LRailCargo$Sale;I)V"⟩
abbrev cX1_runTo : ByteArray := prog_3_method_4_code
def yX1_runTo : MethodName := ⟨RX1, "runTo", "(I)V"⟩
abbrev cX1_nextHour : ByteArray := prog_3_method_5_code
def yX1_nextHour : MethodName := ⟨RX1, "nextHour", "()I"⟩
def RX2 : String := "RailCargo$Reader"
def TX2 : u_T := fun k => match k with
  | 0 => ("RailCargo$Reader", "tape", "[I", true)
  | 1 => ("RailCargo$Reader", "size", "I", false)
  | 2 => ("RailCargo$Reader", "tokens", "[I", true)
  | 3 => ("RailCargo$Reader", "places", "[I", true)
  | 4 => ("RailCargo$Reader", "tokenCount", "I", false)
  | 5 => ("RailCargo$Reader", "at", "I", false)
  | 6 => ("RailCargo$Reader", "fault", "I", false)
  | 7 => ("RailCargo$Reader", "codes", "[I", true)
  | 8 => ("RailCargo$Reader", "codeCount", "I", false)
  | _ => ("RailCargo$Reader", "ends", "[I", true)
def tyX2 : Nat → FieldType := fun k => match k with
  | 0 => .array .int
  | 1 => .int
  | 2 => .array .int
  | 3 => .array .int
  | 4 => .int
  | 5 => .int
  | 6 => .int
  | 7 => .array .int
  | 8 => .int
  | _ => .array .int
theorem nmX2 : ∀ a, a < 10 → ∀ b, b < 10 → a ≠ b → (TX2 a).2.1 ≠ (TX2 b).2.1 := by decide +kernel
theorem tyX2_ok : ∀ k, k < 10 → parseFieldDescriptor (TX2 k).2.2.1 = some (tyX2 k) := by decide +kernel
abbrev cX2_init : ByteArray := prog_4_method_1_code
def yX2_init : MethodName := ⟨RX2, "<init>", "()V"⟩
abbrev cX2_room : ByteArray := prog_4_method_2_code
def yX2_room : MethodName := ⟨RX2, "room", "()I"⟩
abbrev cX2_put : ByteArray := prog_4_method_3_code
def yX2_put : MethodName := ⟨RX2, "put", "(I)V"⟩
abbrev cX2_empty : ByteArray := prog_4_method_4_code
def yX2_empty : MethodName := ⟨RX2, "empty", "()V"⟩
abbrev cX2_read : ByteArray := prog_4_method_5_code
def yX2_read : MethodName := ⟨RX2, "read", "()I"⟩
abbrev cX2_asText : ByteArray := prog_4_method_6_code
def yX2_asText : MethodName := ⟨RX2, "asText", "()LRailCargo$Text;"⟩
abbrev cX2_split : ByteArray := prog_4_method_7_code
def yX2_split : MethodName := ⟨RX2, "split", "()V"⟩
abbrev cX2_isBlank : ByteArray := prog_4_method_8_code
def yX2_isBlank : MethodName := ⟨RX2, "isBlank", "(I)Z"⟩
abbrev cX2_isLetter : ByteArray := prog_4_method_9_code
def yX2_isLetter : MethodName := ⟨RX2, "isLetter", "(I)Z"⟩
abbrev cX2_isDigit : ByteArray := prog_4_method_10_code
def yX2_isDigit : MethodName := ⟨RX2, "isDigit", "(I)Z"⟩
abbrev cX2_endOfToken : ByteArray := prog_4_method_11_code
def yX2_endOfToken : MethodName := ⟨RX2, "endOfToken", "(I)I"⟩
abbrev cX2_tokenOf : ByteArray := prog_4_method_12_code
def yX2_tokenOf : MethodName := ⟨RX2, "tokenOf", "(II)I"⟩
abbrev cX2_numberOf : ByteArray := prog_4_method_13_code
def yX2_numberOf : MethodName := ⟨RX2, "numberOf", "(II)I"⟩
abbrev cX2_wordOf : ByteArray := prog_4_method_14_code
def yX2_wordOf : MethodName := ⟨RX2, "wordOf", "(II)I"⟩
abbrev cX2_stands : ByteArray := prog_4_method_15_code
def yX2_stands : MethodName := ⟨RX2, "stands", "(III)Z"⟩
abbrev cX2_token : ByteArray := prog_4_method_16_code
def yX2_token : MethodName := ⟨RX2, "token", "()I"⟩
abbrev cX2_fail : ByteArray := prog_4_method_17_code
def yX2_fail : MethodName := ⟨RX2, "fail", "()V"⟩
abbrev cX2_next : ByteArray := prog_4_method_18_code
def yX2_next : MethodName := ⟨RX2, "next", "()V"⟩
abbrev cX2_take : ByteArray := prog_4_method_19_code
def yX2_take : MethodName := ⟨RX2, "take", "(I)V"⟩
abbrev cX2_emit : ByteArray := prog_4_method_20_code
def yX2_emit : MethodName := ⟨RX2, "emit", "(I)V"⟩
abbrev cX2_phrase : ByteArray := prog_4_method_21_code
def yX2_phrase : MethodName := ⟨RX2, "phrase", "(II)V"⟩
abbrev cX2_joins : ByteArray := prog_4_method_22_code
def yX2_joins : MethodName := ⟨RX2, "joins", "(II)Z"⟩
abbrev cX2_denial : ByteArray := prog_4_method_23_code
def yX2_denial : MethodName := ⟨RX2, "denial", "(I)V"⟩
abbrev cX2_one : ByteArray := prog_4_method_24_code
def yX2_one : MethodName := ⟨RX2, "one", "(I)V"⟩
abbrev cX2_opens : ByteArray := prog_4_method_25_code
def yX2_opens : MethodName := ⟨RX2, "opens", "(I)Z"⟩
def RX3 : String := "RailCargo$Reckoner"
def TX3 : u_T := fun k => match k with
  | 0 => ("RailCargo$Reckoner", "stack", "[I", true)
  | _ => ("RailCargo$Reckoner", "top", "I", false)
def tyX3 : Nat → FieldType := fun k => match k with
  | 0 => .array .int
  | _ => .int
theorem nmX3 : ∀ a, a < 2 → ∀ b, b < 2 → a ≠ b → (TX3 a).2.1 ≠ (TX3 b).2.1 := by decide +kernel
theorem tyX3_ok : ∀ k, k < 2 → parseFieldDescriptor (TX3 k).2.2.1 = some (tyX3 k) := by decide +kernel
abbrev cX3_init : ByteArray := prog_5_method_1_code
def yX3_init : MethodName := ⟨RX3, "<init>", "()V"⟩
abbrev cX3_value : ByteArray := prog_5_method_2_code
def yX3_value : MethodName := ⟨RX3, "value", "(LRailCargo$Text;ILRailCargo$Sale;I)I"⟩
abbrev cX3_step : ByteArray := prog_5_method_3_code
def yX3_step : MethodName := ⟨RX3, "step", "(ILRailCargo$Sale;I)V"⟩
abbrev cX3_push : ByteArray := prog_5_method_4_code
def yX3_push : MethodName := ⟨RX3, "push", "(I)V"⟩
abbrev cX3_pop : ByteArray := prog_5_method_5_code
def yX3_pop : MethodName := ⟨RX3, "pop", "()I"⟩
abbrev cX3_truth : ByteArray := prog_5_method_6_code
def yX3_truth : MethodName := ⟨RX3, "truth", "(Z)I"⟩
abbrev cX3_named : ByteArray := prog_5_method_7_code
def yX3_named : MethodName := ⟨RX3, "named", "(ILRailCargo$Sale;I)I"⟩
abbrev cX3_joined : ByteArray := prog_5_method_8_code
def yX3_joined : MethodName := ⟨RX3, "joined", "(III)I"⟩
def RX4 : String := "RailCargo$Rings"
def TX4 : u_T := fun k => match k with
  | 0 => ("RailCargo$Rings", "sellsMore", "[I", true)
  | 1 => ("RailCargo$Rings", "sales", "[LRailCargo$Sale;", false)
  | 2 => ("RailCargo$Rings", "saleCount", "I", false)
  | _ => ("RailCargo$Rings", "best", "I", false)
def tyX4 : Nat → FieldType := fun k => match k with
  | 0 => .array .int
  | 1 => .array (.object "RailCargo$Sale")
  | 2 => .int
  | _ => .int
theorem nmX4 : ∀ a, a < 4 → ∀ b, b < 4 → a ≠ b → (TX4 a).2.1 ≠ (TX4 b).2.1 := by decide +kernel
theorem tyX4_ok : ∀ k, k < 4 → parseFieldDescriptor (TX4 k).2.2.1 = some (tyX4 k) := by decide +kernel
abbrev cX4_init : ByteArray := prog_6_method_1_code
def yX4_init : MethodName := ⟨RX4, "<init>", "()V"⟩
abbrev cX4_isRing : ByteArray := prog_6_method_2_code
def yX4_isRing : MethodName := ⟨RX4, "isRing", "([LRailCargo$Sale;II)Z"⟩
abbrev cX4_has : ByteArray := prog_6_method_3_code
def yX4_has : MethodName := ⟨RX4, "has", "(II)Z"⟩
abbrev cX4_amountsAlike : ByteArray := prog_6_method_4_code
def yX4_amountsAlike : MethodName := ⟨RX4, "amountsAlike", "(I)Z"⟩
abbrev cX4_allSellAsTheyBuy : ByteArray := prog_6_method_5_code
def yX4_allSellAsTheyBuy : MethodName := ⟨RX4, "allSellAsTheyBuy", "(I)Z"⟩
abbrev cX4_handsIn : ByteArray := prog_6_method_6_code
def yX4_handsIn : MethodName := ⟨RX4, "handsIn", "(I)I"⟩
abbrev cX4_handsReached : ByteArray := prog_6_method_7_code
def yX4_handsReached : MethodName := ⟨RX4, "handsReached", "(I)I"⟩
abbrev cX4_least : ByteArray := prog_6_method_8_code
def yX4_least : MethodName := ⟨RX4, "least", "([LRailCargo$Sale;ILRailCargo$Cargo;)I"⟩
abbrev cX4_walk : ByteArray := prog_6_method_9_code
def yX4_walk : MethodName := ⟨RX4, "walk", "(IIII)V"⟩
abbrev cX4_follows : ByteArray := prog_6_method_10_code
def yX4_follows : MethodName := ⟨RX4, "follows", "(III)Z"⟩
abbrev cX4_offer : ByteArray := prog_6_method_11_code
def yX4_offer : MethodName := ⟨RX4, "offer", "(I)V"⟩
def RX5 : String := "RailCargo$Sale"
def TX5 : u_T := fun k => match k with
  | 0 => ("RailCargo$Sale", "kind", "I", false)
  | 1 => ("RailCargo$Sale", "cargo", "LRailCargo$Cargo;", true)
  | 2 => ("RailCargo$Sale", "seller", "I", true)
  | 3 => ("RailCargo$Sale", "buyer", "I", true)
  | 4 => ("RailCargo$Sale", "amount", "I", true)
  | 5 => ("RailCargo$Sale", "price", "I", true)
  | 6 => ("RailCargo$Sale", "hour", "I", true)
  | 7 => ("RailCargo$Sale", "paper", "I", false)
  | 8 => ("RailCargo$Sale", "paid", "I", false)
  | 9 => ("RailCargo$Sale", "keptPaper", "I", false)
  | _ => ("RailCargo$Sale", "keptPaid", "I", false)
def tyX5 : Nat → FieldType := fun k => match k with
  | 0 => .int
  | 1 => .object "RailCargo$Cargo"
  | 2 => .int
  | 3 => .int
  | 4 => .int
  | 5 => .int
  | 6 => .int
  | 7 => .int
  | 8 => .int
  | 9 => .int
  | _ => .int
theorem nmX5 : ∀ a, a < 11 → ∀ b, b < 11 → a ≠ b → (TX5 a).2.1 ≠ (TX5 b).2.1 := by decide +kernel
theorem tyX5_ok : ∀ k, k < 11 → parseFieldDescriptor (TX5 k).2.2.1 = some (tyX5 k) := by decide +kernel
abbrev cX5_init : ByteArray := prog_7_method_1_code
def yX5_init : MethodName := ⟨RX5, "<init>", "(ILRailCargo$Cargo;IIIII)V"⟩
abbrev cX5_due : ByteArray := prog_7_method_2_code
def yX5_due : MethodName := ⟨RX5, "due", "()I"⟩
abbrev cX5_passHour : ByteArray := prog_7_method_3_code
def yX5_passHour : MethodName := ⟨RX5, "passHour", "(I)I"⟩
abbrev cX5_thingHour : ByteArray := prog_7_method_4_code
def yX5_thingHour : MethodName := ⟨RX5, "thingHour", "()I"⟩
abbrev cX5_lossHour : ByteArray := prog_7_method_5_code
def yX5_lossHour : MethodName := ⟨RX5, "lossHour", "()I"⟩
abbrev cX5_laterOf : ByteArray := prog_7_method_6_code
def yX5_laterOf : MethodName := ⟨RX5, "laterOf", "(II)I"⟩
abbrev cX5_halfWayTo : ByteArray := prog_7_method_7_code
def yX5_halfWayTo : MethodName := ⟨RX5, "halfWayTo", "(I)I"⟩
abbrev cX5_tell : ByteArray := prog_7_method_8_code
def yX5_tell : MethodName := ⟨RX5, "tell", "(I)I"⟩
abbrev cX5_keep : ByteArray := prog_7_method_9_code
def yX5_keep : MethodName := ⟨RX5, "keep", "()V"⟩
abbrev cX5_layBack : ByteArray := prog_7_method_10_code
def yX5_layBack : MethodName := ⟨RX5, "layBack", "()V"⟩
def RX6 : String := "RailCargo$Sheet"
def TX6 : u_T := fun k => match k with
  | 0 => ("RailCargo$Sheet", "items", "[I", true)
  | 1 => ("RailCargo$Sheet", "sort", "I", false)
  | _ => ("RailCargo$Sheet", "size", "I", false)
def tyX6 : Nat → FieldType := fun k => match k with
  | 0 => .array .int
  | 1 => .int
  | _ => .int
theorem nmX6 : ∀ a, a < 3 → ∀ b, b < 3 → a ≠ b → (TX6 a).2.1 ≠ (TX6 b).2.1 := by decide +kernel
theorem tyX6_ok : ∀ k, k < 3 → parseFieldDescriptor (TX6 k).2.2.1 = some (tyX6 k) := by decide +kernel
abbrev cX6_init : ByteArray := prog_8_method_1_code
def yX6_init : MethodName := ⟨RX6, "<init>", "()V"⟩
abbrev cX6_become : ByteArray := prog_8_method_2_code
def yX6_become : MethodName := ⟨RX6, "become", "(II)V"⟩
abbrev cX6_put : ByteArray := prog_8_method_3_code
def yX6_put : MethodName := ⟨RX6, "put", "(II)V"⟩
abbrev cX6_has : ByteArray := prog_8_method_4_code
def yX6_has : MethodName := ⟨RX6, "has", "(II)Z"⟩
def RX7 : String := "RailCargo$Text"
def TX7 : u_T := fun k => match k with
  | 0 => ("RailCargo$Text", "codes", "[I", true)
  | _ => ("RailCargo$Text", "ends", "[I", true)
def tyX7 : Nat → FieldType := fun k => match k with
  | 0 => .array .int
  | _ => .array .int
theorem nmX7 : ∀ a, a < 2 → ∀ b, b < 2 → a ≠ b → (TX7 a).2.1 ≠ (TX7 b).2.1 := by decide +kernel
theorem tyX7_ok : ∀ k, k < 2 → parseFieldDescriptor (TX7 k).2.2.1 = some (tyX7 k) := by decide +kernel
abbrev cX7_init : ByteArray := prog_9_method_1_code
def yX7_init : MethodName := ⟨RX7, "<init>", "([I[I)V"⟩
abbrev cX7_startOf : ByteArray := prog_9_method_2_code
def yX7_startOf : MethodName := ⟨RX7, "startOf", "(I)I"⟩
abbrev cX7_endOf : ByteArray := prog_9_method_3_code
def yX7_endOf : MethodName := ⟨RX7, "endOf", "(I)I"⟩
abbrev cX7_codeAt : ByteArray := prog_9_method_4_code
def yX7_codeAt : MethodName := ⟨RX7, "codeAt", "(I)I"⟩
def RX8 : String := "RailCargo$Token"
def TX8 : u_T := fun k => match k with
  | _ => ("", "", "", false)
def tyX8 : Nat → FieldType := fun k => match k with
  | _ => .int
theorem nmX8 : ∀ a, a < 0 → ∀ b, b < 0 → a ≠ b → (TX8 a).2.1 ≠ (TX8 b).2.1 := by decide +kernel
theorem tyX8_ok : ∀ k, k < 0 → parseFieldDescriptor (TX8 k).2.2.1 = some (tyX8 k) := by decide +kernel
def RX9 : String := "RailCargo"
def TX9 : u_T := fun k => match k with
  | 0 => ("RailCargo", "cargoes", "[LRailCargo$Cargo;", true)
  | 1 => ("RailCargo", "cargoCount", "I", false)
  | 2 => ("RailCargo", "sales", "[LRailCargo$Sale;", true)
  | 3 => ("RailCargo", "saleCount", "I", false)
  | 4 => ("RailCargo", "texts", "[LRailCargo$Text;", true)
  | 5 => ("RailCargo", "textCount", "I", false)
  | 6 => ("RailCargo", "rule", "I", false)
  | 7 => ("RailCargo", "reader", "LRailCargo$Reader;", true)
  | 8 => ("RailCargo", "reckoner", "LRailCargo$Reckoner;", true)
  | 9 => ("RailCargo", "ledger", "LRailCargo$Ledger;", true)
  | 10 => ("RailCargo", "rings", "LRailCargo$Rings;", true)
  | 11 => ("RailCargo", "sheets", "[LRailCargo$Sheet;", true)
  | 12 => ("RailCargo", "riskNow", "[I", true)
  | 13 => ("RailCargo", "hasImage", "Z", false)
  | 14 => ("RailCargo", "imageCargoes", "I", false)
  | 15 => ("RailCargo", "imageSales", "I", false)
  | _ => ("RailCargo", "imageRule", "I", false)
def tyX9 : Nat → FieldType := fun k => match k with
  | 0 => .array (.object "RailCargo$Cargo")
  | 1 => .int
  | 2 => .array (.object "RailCargo$Sale")
  | 3 => .int
  | 4 => .array (.object "RailCargo$Text")
  | 5 => .int
  | 6 => .int
  | 7 => .object "RailCargo$Reader"
  | 8 => .object "RailCargo$Reckoner"
  | 9 => .object "RailCargo$Ledger"
  | 10 => .object "RailCargo$Rings"
  | 11 => .array (.object "RailCargo$Sheet")
  | 12 => .array .int
  | 13 => .boolean
  | 14 => .int
  | 15 => .int
  | _ => .int
theorem nmX9 : ∀ a, a < 17 → ∀ b, b < 17 → a ≠ b → (TX9 a).2.1 ≠ (TX9 b).2.1 := by decide +kernel
theorem tyX9_ok : ∀ k, k < 17 → parseFieldDescriptor (TX9 k).2.2.1 = some (tyX9 k) := by decide +kernel
abbrev cX9_init : ByteArray := prog_1_method_1_code
def yX9_init : MethodName := ⟨RX9, "<init>", "()V"⟩
abbrev cX9_cargo : ByteArray := prog_1_method_2_code
def yX9_cargo : MethodName := ⟨RX9, "cargo", "(II)I"⟩
abbrev cX9_hour : ByteArray := prog_1_method_3_code
def yX9_hour : MethodName := ⟨RX9, "hour", "(III)I"⟩
abbrev cX9_sale : ByteArray := prog_1_method_4_code
def yX9_sale : MethodName := ⟨RX9, "sale", "(IIIII)I"⟩
abbrev cX9_paper : ByteArray := prog_1_method_5_code
def yX9_paper : MethodName := ⟨RX9, "paper", "(II)I"⟩
abbrev cX9_pay : ByteArray := prog_1_method_6_code
def yX9_pay : MethodName := ⟨RX9, "pay", "(II)I"⟩
abbrev cX9_told : ByteArray := prog_1_method_7_code
def yX9_told : MethodName := ⟨RX9, "told", "(II)I"⟩
abbrev cX9_whose : ByteArray := prog_1_method_8_code
def yX9_whose : MethodName := ⟨RX9, "whose", "(IIII)I"⟩
abbrev cX9_falls : ByteArray := prog_1_method_9_code
def yX9_falls : MethodName := ⟨RX9, "falls", "(IIII)J"⟩
abbrev cX9_between : ByteArray := prog_1_method_10_code
def yX9_between : MethodName := ⟨RX9, "between", "(IIII)I"⟩
abbrev cX9_feed : ByteArray := prog_1_method_11_code
def yX9_feed : MethodName := ⟨RX9, "feed", "(IJ)I"⟩
abbrev cX9_text : ByteArray := prog_1_method_12_code
def yX9_text : MethodName := ⟨RX9, "text", "()I"⟩
abbrev cX9_force : ByteArray := prog_1_method_13_code
def yX9_force : MethodName := ⟨RX9, "force", "(I)I"⟩
abbrev cX9_owes : ByteArray := prog_1_method_14_code
def yX9_owes : MethodName := ⟨RX9, "owes", "(II)J"⟩
abbrev cX9_balance : ByteArray := prog_1_method_15_code
def yX9_balance : MethodName := ⟨RX9, "balance", "(II)J"⟩
abbrev cX9_closes : ByteArray := prog_1_method_16_code
def yX9_closes : MethodName := ⟨RX9, "closes", "(I)I"⟩
abbrev cX9_differ : ByteArray := prog_1_method_17_code
def yX9_differ : MethodName := ⟨RX9, "differ", "(II)J"⟩
abbrev cX9_found : ByteArray := prog_1_method_18_code
def yX9_found : MethodName := ⟨RX9, "found", "(I)I"⟩
abbrev cX9_loses : ByteArray := prog_1_method_19_code
def yX9_loses : MethodName := ⟨RX9, "loses", "(II)J"⟩
abbrev cX9_stops : ByteArray := prog_1_method_20_code
def yX9_stops : MethodName := ⟨RX9, "stops", "(II)I"⟩
abbrev cX9_two : ByteArray := prog_1_method_21_code
def yX9_two : MethodName := ⟨RX9, "two", "(III)I"⟩
abbrev cX9_hangs : ByteArray := prog_1_method_22_code
def yX9_hangs : MethodName := ⟨RX9, "hangs", "(III)I"⟩
abbrev cX9_moves : ByteArray := prog_1_method_23_code
def yX9_moves : MethodName := ⟨RX9, "moves", "(III)J"⟩
abbrev cX9_telegraph : ByteArray := prog_1_method_24_code
def yX9_telegraph : MethodName := ⟨RX9, "telegraph", "(II)I"⟩
abbrev cX9_image : ByteArray := prog_1_method_25_code
def yX9_image : MethodName := ⟨RX9, "image", "()I"⟩
abbrev cX9_back : ByteArray := prog_1_method_26_code
def yX9_back : MethodName := ⟨RX9, "back", "()I"⟩
abbrev cX9_count : ByteArray := prog_1_method_27_code
def yX9_count : MethodName := ⟨RX9, "count", "(I)I"⟩
abbrev cX9_sheet : ByteArray := prog_1_method_28_code
def yX9_sheet : MethodName := ⟨RX9, "sheet", "(III)I"⟩
abbrev cX9_cell : ByteArray := prog_1_method_29_code
def yX9_cell : MethodName := ⟨RX9, "cell", "(III)I"⟩
abbrev cX9_copy : ByteArray := prog_1_method_30_code
def yX9_copy : MethodName := ⟨RX9, "copy", "(IIIII)I"⟩
abbrev cX9_sales : ByteArray := prog_1_method_31_code
def yX9_sales : MethodName := ⟨RX9, "sales", "(IIII)I"⟩
abbrev cX9_taken : ByteArray := prog_1_method_32_code
def yX9_taken : MethodName := ⟨RX9, "taken", "(II)I"⟩
abbrev cX9_isHand : ByteArray := prog_1_method_33_code
def yX9_isHand : MethodName := ⟨RX9, "isHand", "(I)Z"⟩
abbrev cX9_isHour : ByteArray := prog_1_method_34_code
def yX9_isHour : MethodName := ⟨RX9, "isHour", "(I)Z"⟩
abbrev cX9_isHourOrNone : ByteArray := prog_1_method_35_code
def yX9_isHourOrNone : MethodName := ⟨RX9, "isHourOrNone", "(I)Z"⟩
abbrev cX9_isAmount : ByteArray := prog_1_method_36_code
def yX9_isAmount : MethodName := ⟨RX9, "isAmount", "(I)Z"⟩
abbrev cX9_isCoin : ByteArray := prog_1_method_37_code
def yX9_isCoin : MethodName := ⟨RX9, "isCoin", "(I)Z"⟩
abbrev cX9_isKind : ByteArray := prog_1_method_38_code
def yX9_isKind : MethodName := ⟨RX9, "isKind", "(I)Z"⟩
abbrev cX9_isUnder : ByteArray := prog_1_method_39_code
def yX9_isUnder : MethodName := ⟨RX9, "isUnder", "(II)Z"⟩
abbrev cX9_upperOf : ByteArray := prog_1_method_40_code
def yX9_upperOf : MethodName := ⟨RX9, "upperOf", "(I)I"⟩
abbrev cX9_lowerOf : ByteArray := prog_1_method_41_code
def yX9_lowerOf : MethodName := ⟨RX9, "lowerOf", "(I)I"⟩
abbrev cX9_cargoAt : ByteArray := prog_1_method_42_code
def yX9_cargoAt : MethodName := ⟨RX9, "cargoAt", "(I)LRailCargo$Cargo;"⟩
abbrev cX9_saleAt : ByteArray := prog_1_method_43_code
def yX9_saleAt : MethodName := ⟨RX9, "saleAt", "(I)LRailCargo$Sale;"⟩
abbrev cX9_sheetAt : ByteArray := prog_1_method_44_code
def yX9_sheetAt : MethodName := ⟨RX9, "sheetAt", "(I)LRailCargo$Sheet;"⟩
abbrev cX9_areOfOneCargo : ByteArray := prog_1_method_45_code
def yX9_areOfOneCargo : MethodName := ⟨RX9, "areOfOneCargo", "(I)Z"⟩
abbrev cX9_heldAt : ByteArray := prog_1_method_46_code
def yX9_heldAt : MethodName := ⟨RX9, "heldAt", "(LRailCargo$Cargo;III)I"⟩
abbrev cX9_keepRisk : ByteArray := prog_1_method_47_code
def yX9_keepRisk : MethodName := ⟨RX9, "keepRisk", "(LRailCargo$Cargo;I)V"⟩
abbrev cX9_changeWithout : ByteArray := prog_1_method_48_code
def yX9_changeWithout : MethodName := ⟨RX9, "changeWithout", "(LRailCargo$Cargo;II)I"⟩
abbrev cX9_commonDivisor : ByteArray := prog_1_method_49_code
def yX9_commonDivisor : MethodName := ⟨RX9, "commonDivisor", "(II)I"⟩
abbrev cX9_ruled : ByteArray := prog_1_method_50_code
def yX9_ruled : MethodName := ⟨RX9, "ruled", "(ILRailCargo$Sale;I)I"⟩
abbrev cX9_bounded : ByteArray := prog_1_method_51_code
def yX9_bounded : MethodName := ⟨RX9, "bounded", "(II)I"⟩
abbrev cX9_owedFor : ByteArray := prog_1_method_52_code
def yX9_owedFor : MethodName := ⟨RX9, "owedFor", "(LRailCargo$Sale;I)J"⟩
abbrev cX9_canBeStopped : ByteArray := prog_1_method_53_code
def yX9_canBeStopped : MethodName := ⟨RX9, "canBeStopped", "(LRailCargo$Sale;I)Z"⟩
abbrev cX9_differenceOf : ByteArray := prog_1_method_54_code
def yX9_differenceOf : MethodName := ⟨RX9, "differenceOf", "(II)J"⟩
abbrev cX9_papersHandedOn : ByteArray := prog_1_method_55_code
def yX9_papersHandedOn : MethodName := ⟨RX9, "papersHandedOn", "()I"⟩
abbrev cX9_paidInAll : ByteArray := prog_1_method_56_code
def yX9_paidInAll : MethodName := ⟨RX9, "paidInAll", "()I"⟩
def RX10 : String := "RailCargoModel"
def TX10 : u_T := fun k => match k with
  | 0 => ("RailCargoModel", "thrown", "I", false)
  | 1 => ("RailCargoModel", "texts", "[I", true)
  | 2 => ("RailCargoModel", "textSize", "[I", true)
  | 3 => ("RailCargoModel", "textCount", "I", false)
  | 4 => ("RailCargoModel", "rule", "I", false)
  | 5 => ("RailCargoModel", "tape", "[I", true)
  | 6 => ("RailCargoModel", "taped", "I", false)
  | 7 => ("RailCargoModel", "whole", "[I", true)
  | 8 => ("RailCargoModel", "firstHand", "[I", true)
  | 9 => ("RailCargoModel", "hours", "[I", true)
  | 10 => ("RailCargoModel", "cargoes", "I", false)
  | 11 => ("RailCargoModel", "kind", "[I", true)
  | 12 => ("RailCargoModel", "cargoOf", "[I", true)
  | 13 => ("RailCargoModel", "seller", "[I", true)
  | 14 => ("RailCargoModel", "buyer", "[I", true)
  | 15 => ("RailCargoModel", "amount", "[I", true)
  | 16 => ("RailCargoModel", "price", "[I", true)
  | 17 => ("RailCargoModel", "hourOf", "[I", true)
  | 18 => ("RailCargoModel", "paper", "[I", true)
  | 19 => ("RailCargoModel", "paid", "[I", true)
  | 20 => ("RailCargoModel", "saleMany", "I", false)
  | 21 => ("RailCargoModel", "has", "[I", true)
  | 22 => ("RailCargoModel", "passedAt", "[I", true)
  | 23 => ("RailCargoModel", "from", "I", false)
  | 24 => ("RailCargoModel", "size", "I", false)
  | 25 => ("RailCargoModel", "token", "I", false)
  | 26 => ("RailCargoModel", "tokenAt", "I", false)
  | 27 => ("RailCargoModel", "tokenWorth", "J", false)
  | 28 => ("RailCargoModel", "here", "I", false)
  | 29 => ("RailCargoModel", "open", "I", false)
  | 30 => ("RailCargoModel", "bad", "Z", false)
  | 31 => ("RailCargoModel", "fault", "I", false)
  | 32 => ("RailCargoModel", "about", "I", false)
  | 33 => ("RailCargoModel", "aboutHour", "I", false)
  | 34 => ("RailCargoModel", "before", "[I", true)
  | 35 => ("RailCargoModel", "imageHours", "[I", true)
  | 36 => ("RailCargoModel", "imagePaper", "[I", true)
  | 37 => ("RailCargoModel", "imagePaid", "[I", true)
  | 38 => ("RailCargoModel", "hasImage", "Z", false)
  | 39 => ("RailCargoModel", "imageCargoes", "I", false)
  | 40 => ("RailCargoModel", "imageSales", "I", false)
  | 41 => ("RailCargoModel", "imageRule", "I", false)
  | 42 => ("RailCargoModel", "isThere", "[Z", true)
  | 43 => ("RailCargoModel", "sorts", "[I", true)
  | 44 => ("RailCargoModel", "sheetSize", "[I", true)
  | _ => ("RailCargoModel", "items", "[I", true)
def tyX10 : Nat → FieldType := fun k => match k with
  | 0 => .int
  | 1 => .array .int
  | 2 => .array .int
  | 3 => .int
  | 4 => .int
  | 5 => .array .int
  | 6 => .int
  | 7 => .array .int
  | 8 => .array .int
  | 9 => .array .int
  | 10 => .int
  | 11 => .array .int
  | 12 => .array .int
  | 13 => .array .int
  | 14 => .array .int
  | 15 => .array .int
  | 16 => .array .int
  | 17 => .array .int
  | 18 => .array .int
  | 19 => .array .int
  | 20 => .int
  | 21 => .array .int
  | 22 => .array .int
  | 23 => .int
  | 24 => .int
  | 25 => .int
  | 26 => .int
  | 27 => .long
  | 28 => .int
  | 29 => .int
  | 30 => .boolean
  | 31 => .int
  | 32 => .int
  | 33 => .int
  | 34 => .array .int
  | 35 => .array .int
  | 36 => .array .int
  | 37 => .array .int
  | 38 => .boolean
  | 39 => .int
  | 40 => .int
  | 41 => .int
  | 42 => .array .boolean
  | 43 => .array .int
  | 44 => .array .int
  | _ => .array .int
theorem nmX10 : ∀ a, a < 46 → ∀ b, b < 46 → a ≠ b → (TX10 a).2.1 ≠ (TX10 b).2.1 := by decide +kernel
theorem tyX10_ok : ∀ k, k < 46 → parseFieldDescriptor (TX10 k).2.2.1 = some (tyX10 k) := by decide +kernel
abbrev cX10_in : ByteArray := prog_12_method_2_code
def yX10_in : MethodName := ⟨RX10, "in", "(JJJ)Z"⟩
abbrev cX10_init : ByteArray := prog_12_method_3_code
def yX10_init : MethodName := ⟨RX10, "<init>", "()V"⟩
abbrev cX10_spell : ByteArray := prog_12_method_4_code
def yX10_spell : MethodName := ⟨RX10, "spell", "(IJ)V"⟩
abbrev cX10_isCargo : ByteArray := prog_12_method_5_code
def yX10_isCargo : MethodName := ⟨RX10, "isCargo", "(I)Z"⟩
abbrev cX10_isSale : ByteArray := prog_12_method_6_code
def yX10_isSale : MethodName := ⟨RX10, "isSale", "(I)Z"⟩
abbrev cX10_isHand : ByteArray := prog_12_method_7_code
def yX10_isHand : MethodName := ⟨RX10, "isHand", "(I)Z"⟩
abbrev cX10_isHour : ByteArray := prog_12_method_8_code
def yX10_isHour : MethodName := ⟨RX10, "isHour", "(I)Z"⟩
abbrev cX10_cargo : ByteArray := prog_12_method_9_code
def yX10_cargo : MethodName := ⟨RX10, "cargo", "(II)I"⟩
abbrev cX10_hour : ByteArray := prog_12_method_10_code
def yX10_hour : MethodName := ⟨RX10, "hour", "(III)I"⟩
abbrev cX10_sale : ByteArray := prog_12_method_11_code
def yX10_sale : MethodName := ⟨RX10, "sale", "(IIIII)I"⟩
abbrev cX10_paper : ByteArray := prog_12_method_12_code
def yX10_paper : MethodName := ⟨RX10, "paper", "(II)I"⟩
abbrev cX10_pay : ByteArray := prog_12_method_13_code
def yX10_pay : MethodName := ⟨RX10, "pay", "(II)I"⟩
abbrev cX10_later : ByteArray := prog_12_method_14_code
def yX10_later : MethodName := ⟨RX10, "later", "(II)I"⟩
abbrev cX10_thingBy : ByteArray := prog_12_method_15_code
def yX10_thingBy : MethodName := ⟨RX10, "thingBy", "(II)I"⟩
abbrev cX10_lossBy : ByteArray := prog_12_method_16_code
def yX10_lossBy : MethodName := ⟨RX10, "lossBy", "(II)I"⟩
abbrev cX10_passes : ByteArray := prog_12_method_17_code
def yX10_passes : MethodName := ⟨RX10, "passes", "(II)I"⟩
abbrev cX10_told : ByteArray := prog_12_method_18_code
def yX10_told : MethodName := ⟨RX10, "told", "(II)I"⟩
abbrev cX10_lays : ByteArray := prog_12_method_19_code
def yX10_lays : MethodName := ⟨RX10, "lays", "(III)V"⟩
abbrev cX10_ahead : ByteArray := prog_12_method_20_code
def yX10_ahead : MethodName := ⟨RX10, "ahead", "()I"⟩
abbrev cX10_whose : ByteArray := prog_12_method_21_code
def yX10_whose : MethodName := ⟨RX10, "whose", "(IIII)I"⟩
abbrev cX10_common : ByteArray := prog_12_method_22_code
def yX10_common : MethodName := ⟨RX10, "common", "(JJ)J"⟩
abbrev cX10_falls : ByteArray := prog_12_method_23_code
def yX10_falls : MethodName := ⟨RX10, "falls", "(IIII)J"⟩
abbrev cX10_between : ByteArray := prog_12_method_24_code
def yX10_between : MethodName := ⟨RX10, "between", "(IIII)I"⟩
abbrev cX10_feed : ByteArray := prog_12_method_25_code
def yX10_feed : MethodName := ⟨RX10, "feed", "(IJ)I"⟩
abbrev cX10_byteAt : ByteArray := prog_12_method_26_code
def yX10_byteAt : MethodName := ⟨RX10, "byteAt", "(I)I"⟩
abbrev cX10_next : ByteArray := prog_12_method_27_code
def yX10_next : MethodName := ⟨RX10, "next", "()V"⟩
abbrev cX10_fail : ByteArray := prog_12_method_28_code
def yX10_fail : MethodName := ⟨RX10, "fail", "()V"⟩
abbrev cX10_isWord : ByteArray := prog_12_method_29_code
def yX10_isWord : MethodName := ⟨RX10, "isWord", "(J)Z"⟩
abbrev cX10_isSign : ByteArray := prog_12_method_30_code
def yX10_isSign : MethodName := ⟨RX10, "isSign", "(I)Z"⟩
abbrev cX10_opens : ByteArray := prog_12_method_31_code
def yX10_opens : MethodName := ⟨RX10, "opens", "()Z"⟩
abbrev cX10_name : ByteArray := prog_12_method_32_code
def yX10_name : MethodName := ⟨RX10, "name", "()I"⟩
abbrev cX10_one : ByteArray := prog_12_method_33_code
def yX10_one : MethodName := ⟨RX10, "one", "()I"⟩
abbrev cX10_term : ByteArray := prog_12_method_34_code
def yX10_term : MethodName := ⟨RX10, "term", "()I"⟩
abbrev cX10_added : ByteArray := prog_12_method_35_code
def yX10_added : MethodName := ⟨RX10, "added", "()I"⟩
abbrev cX10_not : ByteArray := prog_12_method_36_code
def yX10_not : MethodName := ⟨RX10, "not", "()I"⟩
abbrev cX10_both : ByteArray := prog_12_method_37_code
def yX10_both : MethodName := ⟨RX10, "both", "()I"⟩
abbrev cX10_either : ByteArray := prog_12_method_38_code
def yX10_either : MethodName := ⟨RX10, "either", "()I"⟩
abbrev cX10_part : ByteArray := prog_12_method_39_code
def yX10_part : MethodName := ⟨RX10, "part", "(J)I"⟩
abbrev cX10_read : ByteArray := prog_12_method_40_code
def yX10_read : MethodName := ⟨RX10, "read", "(IIII)I"⟩
abbrev cX10_text : ByteArray := prog_12_method_41_code
def yX10_text : MethodName := ⟨RX10, "text", "()I"⟩
abbrev cX10_force : ByteArray := prog_12_method_42_code
def yX10_force : MethodName := ⟨RX10, "force", "(I)I"⟩
abbrev cX10_dueOf : ByteArray := prog_12_method_43_code
def yX10_dueOf : MethodName := ⟨RX10, "dueOf", "(I)I"⟩
abbrev cX10_within : ByteArray := prog_12_method_44_code
def yX10_within : MethodName := ⟨RX10, "within", "(III)I"⟩
abbrev cX10_owesOf : ByteArray := prog_12_method_45_code
def yX10_owesOf : MethodName := ⟨RX10, "owesOf", "(II)J"⟩
abbrev cX10_owes : ByteArray := prog_12_method_46_code
def yX10_owes : MethodName := ⟨RX10, "owes", "(II)J"⟩
abbrev cX10_balance : ByteArray := prog_12_method_47_code
def yX10_balance : MethodName := ⟨RX10, "balance", "(II)J"⟩
abbrev cX10_areSales : ByteArray := prog_12_method_48_code
def yX10_areSales : MethodName := ⟨RX10, "areSales", "(I)Z"⟩
abbrev cX10_reached : ByteArray := prog_12_method_49_code
def yX10_reached : MethodName := ⟨RX10, "reached", "(II)I"⟩
abbrev cX10_isRing : ByteArray := prog_12_method_50_code
def yX10_isRing : MethodName := ⟨RX10, "isRing", "(I)Z"⟩
abbrev cX10_closes : ByteArray := prog_12_method_51_code
def yX10_closes : MethodName := ⟨RX10, "closes", "(I)I"⟩
abbrev cX10_differ : ByteArray := prog_12_method_52_code
def yX10_differ : MethodName := ⟨RX10, "differ", "(II)J"⟩
abbrev cX10_bitsOf : ByteArray := prog_12_method_53_code
def yX10_bitsOf : MethodName := ⟨RX10, "bitsOf", "(I)I"⟩
abbrev cX10_found : ByteArray := prog_12_method_54_code
def yX10_found : MethodName := ⟨RX10, "found", "(I)I"⟩
abbrev cX10_loses : ByteArray := prog_12_method_55_code
def yX10_loses : MethodName := ⟨RX10, "loses", "(II)J"⟩
abbrev cX10_stops : ByteArray := prog_12_method_56_code
def yX10_stops : MethodName := ⟨RX10, "stops", "(II)I"⟩
abbrev cX10_over : ByteArray := prog_12_method_57_code
def yX10_over : MethodName := ⟨RX10, "over", "(I)I"⟩
abbrev cX10_isUnder : ByteArray := prog_12_method_58_code
def yX10_isUnder : MethodName := ⟨RX10, "isUnder", "(II)Z"⟩
abbrev cX10_two : ByteArray := prog_12_method_59_code
def yX10_two : MethodName := ⟨RX10, "two", "(III)I"⟩
abbrev cX10_keeps : ByteArray := prog_12_method_60_code
def yX10_keeps : MethodName := ⟨RX10, "keeps", "(II)V"⟩
abbrev cX10_change : ByteArray := prog_12_method_61_code
def yX10_change : MethodName := ⟨RX10, "change", "(II)I"⟩
abbrev cX10_hangs : ByteArray := prog_12_method_62_code
def yX10_hangs : MethodName := ⟨RX10, "hangs", "(III)I"⟩
abbrev cX10_moves : ByteArray := prog_12_method_63_code
def yX10_moves : MethodName := ⟨RX10, "moves", "(III)J"⟩
abbrev cX10_telegraph : ByteArray := prog_12_method_64_code
def yX10_telegraph : MethodName := ⟨RX10, "telegraph", "(II)I"⟩
abbrev cX10_image : ByteArray := prog_12_method_65_code
def yX10_image : MethodName := ⟨RX10, "image", "()I"⟩
abbrev cX10_back : ByteArray := prog_12_method_66_code
def yX10_back : MethodName := ⟨RX10, "back", "()I"⟩
abbrev cX10_count : ByteArray := prog_12_method_67_code
def yX10_count : MethodName := ⟨RX10, "count", "(I)I"⟩
abbrev cX10_isSheet : ByteArray := prog_12_method_68_code
def yX10_isSheet : MethodName := ⟨RX10, "isSheet", "(I)Z"⟩
abbrev cX10_sheet : ByteArray := prog_12_method_69_code
def yX10_sheet : MethodName := ⟨RX10, "sheet", "(III)I"⟩
abbrev cX10_cell : ByteArray := prog_12_method_70_code
def yX10_cell : MethodName := ⟨RX10, "cell", "(III)I"⟩
abbrev cX10_copy : ByteArray := prog_12_method_71_code
def yX10_copy : MethodName := ⟨RX10, "copy", "(IIIII)I"⟩
abbrev cX10_sales : ByteArray := prog_12_method_72_code
def yX10_sales : MethodName := ⟨RX10, "sales", "(IIII)I"⟩
abbrev cX10_taken : ByteArray := prog_12_method_73_code
def yX10_taken : MethodName := ⟨RX10, "taken", "(II)I"⟩
def RJx145de : String := "java/io/Serializable"
def TJx145de : u_T := fun k => match k with
  | _ => ("", "", "", false)
def tyJx145de : Nat → FieldType := fun k => match k with
  | _ => .int
theorem nmJx145de : ∀ a, a < 0 → ∀ b, b < 0 → a ≠ b → (TJx145de a).2.1 ≠ (TJx145de b).2.1 := by decide +kernel
theorem tyJx145de_ok : ∀ k, k < 0 → parseFieldDescriptor (TJx145de k).2.2.1 = some (tyJx145de k) := by decide +kernel
def RJx9f9b0 : String := "java/lang/CharSequence"
def TJx9f9b0 : u_T := fun k => match k with
  | _ => ("", "", "", false)
def tyJx9f9b0 : Nat → FieldType := fun k => match k with
  | _ => .int
theorem nmJx9f9b0 : ∀ a, a < 0 → ∀ b, b < 0 → a ≠ b → (TJx9f9b0 a).2.1 ≠ (TJx9f9b0 b).2.1 := by decide +kernel
theorem tyJx9f9b0_ok : ∀ k, k < 0 → parseFieldDescriptor (TJx9f9b0 k).2.2.1 = some (tyJx9f9b0 k) := by decide +kernel
def RJ11 : String := "java/lang/Character"
def TJ11 : u_T := fun k => match k with
  | _ => ("", "", "", false)
def tyJ11 : Nat → FieldType := fun k => match k with
  | _ => .int
theorem nmJ11 : ∀ a, a < 0 → ∀ b, b < 0 → a ≠ b → (TJ11 a).2.1 ≠ (TJ11 b).2.1 := by decide +kernel
theorem tyJ11_ok : ∀ k, k < 0 → parseFieldDescriptor (TJ11 k).2.2.1 = some (tyJ11 k) := by decide +kernel
abbrev cJ11_isValidCodePoint_9a6ad : ByteArray := prog_13_method_11_code
def yJ11_isValidCodePoint_9a6ad : MethodName := ⟨RJ11, "isValidCodePoint", "(I)Z"⟩
abbrev cJ11_highSurrogate_5068e : ByteArray := prog_13_method_28_code
def yJ11_highSurrogate_5068e : MethodName := ⟨RJ11, "highSurrogate", "(I)C"⟩
abbrev cJ11_lowSurrogate_5068e : ByteArray := prog_13_method_29_code
def yJ11_lowSurrogate_5068e : MethodName := ⟨RJ11, "lowSurrogate", "(I)C"⟩
def RJx8e188 : String := "java/lang/Cloneable"
def TJx8e188 : u_T := fun k => match k with
  | _ => ("", "", "", false)
def tyJx8e188 : Nat → FieldType := fun k => match k with
  | _ => .int
theorem nmJx8e188 : ∀ a, a < 0 → ∀ b, b < 0 → a ≠ b → (TJx8e188 a).2.1 ≠ (TJx8e188 b).2.1 := by decide +kernel
theorem tyJx8e188_ok : ∀ k, k < 0 → parseFieldDescriptor (TJx8e188 k).2.2.1 = some (tyJx8e188 k) := by decide +kernel
def RJxb160c : String := "java/lang/Comparable"
def TJxb160c : u_T := fun k => match k with
  | _ => ("", "", "", false)
def tyJxb160c : Nat → FieldType := fun k => match k with
  | _ => .int
theorem nmJxb160c : ∀ a, a < 0 → ∀ b, b < 0 → a ≠ b → (TJxb160c a).2.1 ≠ (TJxb160c b).2.1 := by decide +kernel
theorem tyJxb160c_ok : ∀ k, k < 0 → parseFieldDescriptor (TJxb160c k).2.2.1 = some (tyJxb160c k) := by decide +kernel
def RJ6 : String := "java/lang/Integer"
def TJ6 : u_T := fun k => match k with
  | _ => ("", "", "", false)
def tyJ6 : Nat → FieldType := fun k => match k with
  | _ => .int
theorem nmJ6 : ∀ a, a < 0 → ∀ b, b < 0 → a ≠ b → (TJ6 a).2.1 ≠ (TJ6 b).2.1 := by decide +kernel
theorem tyJ6_ok : ∀ k, k < 0 → parseFieldDescriptor (TJ6 k).2.2.1 = some (tyJ6 k) := by decide +kernel
abbrev cJ6_bitCount_0f7a4 : ByteArray := prog_15_method_49_code
def yJ6_bitCount_0f7a4 : MethodName := ⟨RJ6, "bitCount", "(I)I"⟩
def RJ9 : String := "java/lang/Math"
def TJ9 : u_T := fun k => match k with
  | _ => ("", "", "", false)
def tyJ9 : Nat → FieldType := fun k => match k with
  | _ => .int
theorem nmJ9 : ∀ a, a < 0 → ∀ b, b < 0 → a ≠ b → (TJ9 a).2.1 ≠ (TJ9 b).2.1 := by decide +kernel
theorem tyJ9_ok : ∀ k, k < 0 → parseFieldDescriptor (TJ9 k).2.2.1 = some (tyJ9 k) := by decide +kernel
abbrev cJ9_abs_0f7a4 : ByteArray := prog_16_method_59_code
def yJ9_abs_0f7a4 : MethodName := ⟨RJ9, "abs", "(I)I"⟩
abbrev cJ9_max_7cf53 : ByteArray := prog_16_method_65_code
def yJ9_max_7cf53 : MethodName := ⟨RJ9, "max", "(II)I"⟩
abbrev cJ9_max_f86c9 : ByteArray := prog_16_method_66_code
def yJ9_max_f86c9 : MethodName := ⟨RJ9, "max", "(JJ)J"⟩
abbrev cJ9_min_7cf53 : ByteArray := prog_16_method_69_code
def yJ9_min_7cf53 : MethodName := ⟨RJ9, "min", "(II)I"⟩
def RJ0 : String := "java/lang/String"
def TJ0 : u_T := fun k => match k with
  | _ => ("", "", "", false)
def tyJ0 : Nat → FieldType := fun k => match k with
  | _ => .int
theorem nmJ0 : ∀ a, a < 0 → ∀ b, b < 0 → a ≠ b → (TJ0 a).2.1 ≠ (TJ0 b).2.1 := by decide +kernel
theorem tyJ0_ok : ∀ k, k < 0 → parseFieldDescriptor (TJ0 k).2.2.1 = some (tyJ0 k) := by decide +kernel
abbrev cJ0_length_8abf5 : ByteArray := prog_17_method_54_code
def yJ0_length_8abf5 : MethodName := ⟨RJ0, "length", "()I"⟩
abbrev cJ0_charAt_5068e : ByteArray := prog_17_method_56_code
def yJ0_charAt_5068e : MethodName := ⟨RJ0, "charAt", "(I)C"⟩
abbrev cJ0_indexOf_0f7a4 : ByteArray := prog_17_method_79_code
def yJ0_indexOf_0f7a4 : MethodName := ⟨RJ0, "indexOf", "(I)I"⟩
abbrev cJ0_indexOf_7cf53 : ByteArray := prog_17_method_80_code
def yJ0_indexOf_7cf53 : MethodName := ⟨RJ0, "indexOf", "(II)I"⟩
abbrev cJ0_coder_7d493 : ByteArray := prog_17_method_152_code
def yJ0_coder_7d493 : MethodName := ⟨RJ0, "coder", "()B"⟩
abbrev cJ0_isLatin1_aae02 : ByteArray := prog_17_method_154_code
def yJ0_isLatin1_aae02 : MethodName := ⟨RJ0, "isLatin1", "()Z"⟩
abbrev cJ0_checkIndex_df160 : ByteArray := prog_17_method_155_code
def yJ0_checkIndex_df160 : MethodName := ⟨RJ0, "checkIndex", "(II)V"⟩
abbrev cJ0_checkBoundsBeginEnd_23922 : ByteArray := prog_17_method_158_code
def yJ0_checkBoundsBeginEnd_23922 : MethodName := ⟨RJ0, "checkBoundsBeginEnd", "(III)V"⟩
def RJ1 : String := "java/lang/StringLatin1"
def TJ1 : u_T := fun k => match k with
  | _ => ("", "", "", false)
def tyJ1 : Nat → FieldType := fun k => match k with
  | _ => .int
theorem nmJ1 : ∀ a, a < 0 → ∀ b, b < 0 → a ≠ b → (TJ1 a).2.1 ≠ (TJ1 b).2.1 := by decide +kernel
theorem tyJ1_ok : ∀ k, k < 0 → parseFieldDescriptor (TJ1 k).2.2.1 = some (tyJ1 k) := by decide +kernel
abbrev cJ1_charAt_3b067 : ByteArray := prog_18_method_2_code
def yJ1_charAt_3b067 : MethodName := ⟨RJ1, "charAt", "([BI)C"⟩
abbrev cJ1_canEncode_9a6ad : ByteArray := prog_18_method_4_code
def yJ1_canEncode_9a6ad : MethodName := ⟨RJ1, "canEncode", "(I)Z"⟩
abbrev cJ1_indexOf_4cfef : ByteArray := prog_18_method_22_code
def yJ1_indexOf_4cfef : MethodName := ⟨RJ1, "indexOf", "([BIII)I"⟩
abbrev cJ1_indexOfChar_4cfef : ByteArray := prog_18_method_23_code
def yJ1_indexOfChar_4cfef : MethodName := ⟨RJ1, "indexOfChar", "([BIII)I"⟩
def RJ2 : String := "java/lang/StringUTF16"
def TJ2 : u_T := fun k => match k with
  | _ => ("", "", "", false)
def tyJ2 : Nat → FieldType := fun k => match k with
  | _ => .int
theorem nmJ2 : ∀ a, a < 0 → ∀ b, b < 0 → a ≠ b → (TJ2 a).2.1 ≠ (TJ2 b).2.1 := by decide +kernel
theorem tyJ2_ok : ∀ k, k < 0 → parseFieldDescriptor (TJ2 k).2.2.1 = some (tyJ2 k) := by decide +kernel
abbrev cJ2_getChar_3b067 : ByteArray := prog_19_method_5_code
def yJ2_getChar_3b067 : MethodName := ⟨RJ2, "getChar", "([BI)C"⟩
abbrev cJ2_length_9d52b : ByteArray := prog_19_method_6_code
def yJ2_length_9d52b : MethodName := ⟨RJ2, "length", "([B)I"⟩
abbrev cJ2_indexOf_4cfef : ByteArray := prog_19_method_40_code
def yJ2_indexOf_4cfef : MethodName := ⟨RJ2, "indexOf", "([BIII)I"⟩
abbrev cJ2_indexOfChar_4cfef : ByteArray := prog_19_method_47_code
def yJ2_indexOfChar_4cfef : MethodName := ⟨RJ2, "indexOfChar", "([BIII)I"⟩
abbrev cJ2_indexOfCharUnsafe_4cfef : ByteArray := prog_19_method_48_code
def yJ2_indexOfCharUnsafe_4cfef : MethodName := ⟨RJ2, "indexOfCharUnsafe", "([BIII)I"⟩
abbrev cJ2_indexOfSupplementary_4cfef : ByteArray := prog_19_method_49_code
def yJ2_indexOfSupplementary_4cfef : MethodName := ⟨RJ2, "indexOfSupplementary", "([BIII)I"⟩
abbrev cJ2_charAt_3b067 : ByteArray := prog_19_method_83_code
def yJ2_charAt_3b067 : MethodName := ⟨RJ2, "charAt", "([BI)C"⟩
abbrev cJ2_checkIndex_2214a : ByteArray := prog_19_method_91_code
def yJ2_checkIndex_2214a : MethodName := ⟨RJ2, "checkIndex", "(I[B)V"⟩
abbrev cJ2_checkBoundsBeginEnd_d044e : ByteArray := prog_19_method_93_code
def yJ2_checkBoundsBeginEnd_d044e : MethodName := ⟨RJ2, "checkBoundsBeginEnd", "(II[B)V"⟩
def RJ10 : String := "java/lang/System"
def TJ10 : u_T := fun k => match k with
  | _ => ("", "", "", false)
def tyJ10 : Nat → FieldType := fun k => match k with
  | _ => .int
theorem nmJ10 : ∀ a, a < 0 → ∀ b, b < 0 → a ≠ b → (TJ10 a).2.1 ≠ (TJ10 b).2.1 := by decide +kernel
theorem tyJ10_ok : ∀ k, k < 0 → parseFieldDescriptor (TJ10 k).2.2.1 = some (tyJ10 k) := by decide +kernel
def RJxfd54e : String := "java/lang/constant/Constable"
def TJxfd54e : u_T := fun k => match k with
  | _ => ("", "", "", false)
def tyJxfd54e : Nat → FieldType := fun k => match k with
  | _ => .int
theorem nmJxfd54e : ∀ a, a < 0 → ∀ b, b < 0 → a ≠ b → (TJxfd54e a).2.1 ≠ (TJxfd54e b).2.1 := by decide +kernel
theorem tyJxfd54e_ok : ∀ k, k < 0 → parseFieldDescriptor (TJxfd54e k).2.2.1 = some (tyJxfd54e k) := by decide +kernel
def RJx3cf43 : String := "java/lang/constant/ConstantDesc"
def TJx3cf43 : u_T := fun k => match k with
  | _ => ("", "", "", false)
def tyJx3cf43 : Nat → FieldType := fun k => match k with
  | _ => .int
theorem nmJx3cf43 : ∀ a, a < 0 → ∀ b, b < 0 → a ≠ b → (TJx3cf43 a).2.1 ≠ (TJx3cf43 b).2.1 := by decide +kernel
theorem tyJx3cf43_ok : ∀ k, k < 0 → parseFieldDescriptor (TJx3cf43 k).2.2.1 = some (tyJx3cf43 k) := by decide +kernel
def RJ7 : String := "java/util/Arrays"
def TJ7 : u_T := fun k => match k with
  | _ => ("", "", "", false)
def tyJ7 : Nat → FieldType := fun k => match k with
  | _ => .int
theorem nmJ7 : ∀ a, a < 0 → ∀ b, b < 0 → a ≠ b → (TJ7 a).2.1 ≠ (TJ7 b).2.1 := by decide +kernel
theorem tyJ7_ok : ∀ k, k < 0 → parseFieldDescriptor (TJ7 k).2.2.1 = some (tyJ7 k) := by decide +kernel
abbrev cJ7_fill_53178 : ByteArray := prog_21_method_103_code
def yJ7_fill_53178 : MethodName := ⟨RJ7, "fill", "([II)V"⟩
abbrev cJ7_copyOf_59c91 : ByteArray := prog_21_method_123_code
def yJ7_copyOf_59c91 : MethodName := ⟨RJ7, "copyOf", "([II)[I"⟩
def RJ3 : String := "jdk/internal/util/Preconditions"
def TJ3 : u_T := fun k => match k with
  | _ => ("", "", "", false)
def tyJ3 : Nat → FieldType := fun k => match k with
  | _ => .int
theorem nmJ3 : ∀ a, a < 0 → ∀ b, b < 0 → a ≠ b → (TJ3 a).2.1 ≠ (TJ3 b).2.1 := by decide +kernel
theorem tyJ3_ok : ∀ k, k < 0 → parseFieldDescriptor (TJ3 k).2.2.1 = some (tyJ3 k) := by decide +kernel
abbrev cJ3_checkIndex_8e157 : ByteArray := prog_22_method_11_code
def yJ3_checkIndex_8e157 : MethodName := ⟨RJ3, "checkIndex", "(IILjava/util/function/BiFunction;)I"⟩
abbrev cJ3_checkFromToIndex_8c36e : ByteArray := prog_22_method_12_code
def yJ3_checkFromToIndex_8c36e : MethodName := ⟨RJ3, "checkFromToIndex", "(IIILjava/util/function/BiFunction;)I"⟩
def RL : String := "RailCargoLaw"
abbrev cL_law : ByteArray := code
def yL_law : MethodName := ⟨RL, "law", "([I)Z"⟩
abbrev vwCl : List vw_C := [(RX0, TX0, 5), (RX1, TX1, 5), (RX2, TX2, 10), (RX3, TX3, 2), (RX4, TX4, 4), (RX5, TX5, 11), (RX6, TX6, 3), (RX7, TX7, 2), (RX9, TX9, 17), (RX10, TX10, 46)]
