-- ===== PART A: goes FIRST, ahead of the names: the tables' words, and 'selects' of the private methods out of them =====
/-- a private method of a class that the tables say can be made, by its rows of tables_1 -/
def lw_okq (q : MethodName × Nat) : Prop := (q.1.cls ≠ "java/lang/invoke/MethodHandle" ∧ q.1.cls ≠ "java/lang/invoke/VarHandle") ∧ Cond.instantiable q.1.cls q.2 ∈ tables_1 ∧ Cond.privateMethod q.1 ∈ tables_1 ∧ Cond.instanceMethod q.1 ∈ tables_1
theorem lw_p0 : lw_okq (⟨"TrapsWatchTraps$Reader", "take", "(I)Z"⟩, 5) := ⟨⟨by decide +kernel, by decide +kernel⟩, List.mem_of_getElem? (i := 100) (by decide +kernel), List.mem_of_getElem? (i := 279) (by decide +kernel), List.mem_of_getElem? (i := 280) (by decide +kernel)⟩
theorem lw_p1 : lw_okq (⟨"TrapsWatchTraps$Reader", "takeOfTrap", "(I)Z"⟩, 5) := ⟨⟨by decide +kernel, by decide +kernel⟩, List.mem_of_getElem? (i := 100) (by decide +kernel), List.mem_of_getElem? (i := 283) (by decide +kernel), List.mem_of_getElem? (i := 284) (by decide +kernel)⟩
theorem lw_p2 : lw_okq (⟨"TrapsWatchTraps$Reader", "takeOfCell", "(II)Z"⟩, 5) := ⟨⟨by decide +kernel, by decide +kernel⟩, List.mem_of_getElem? (i := 100) (by decide +kernel), List.mem_of_getElem? (i := 292) (by decide +kernel), List.mem_of_getElem? (i := 293) (by decide +kernel)⟩
theorem lw_p3 : lw_okq (⟨"TrapsWatchTraps$Reader", "takeOfWire", "(I)Z"⟩, 5) := ⟨⟨by decide +kernel, by decide +kernel⟩, List.mem_of_getElem? (i := 100) (by decide +kernel), List.mem_of_getElem? (i := 306) (by decide +kernel), List.mem_of_getElem? (i := 307) (by decide +kernel)⟩
theorem lw_p4 : lw_okq (⟨"TrapsWatchTraps$Reader", "wiresLeft", "(I)I"⟩, 5) := ⟨⟨by decide +kernel, by decide +kernel⟩, List.mem_of_getElem? (i := 100) (by decide +kernel), List.mem_of_getElem? (i := 310) (by decide +kernel), List.mem_of_getElem? (i := 311) (by decide +kernel)⟩
theorem lw_p5 : lw_okq (⟨"TrapsWatchTraps$Reader", "takeOfClosed", "(I)Z"⟩, 5) := ⟨⟨by decide +kernel, by decide +kernel⟩, List.mem_of_getElem? (i := 100) (by decide +kernel), List.mem_of_getElem? (i := 318) (by decide +kernel), List.mem_of_getElem? (i := 319) (by decide +kernel)⟩
theorem lw_p6 : lw_okq (⟨"TrapsWatchTraps$Reader", "cellsToClose", "()I"⟩, 5) := ⟨⟨by decide +kernel, by decide +kernel⟩, List.mem_of_getElem? (i := 100) (by decide +kernel), List.mem_of_getElem? (i := 322) (by decide +kernel), List.mem_of_getElem? (i := 323) (by decide +kernel)⟩
theorem lw_p7 : lw_okq (⟨"TrapsWatchTraps$Reader", "takeOfWalker", "(I)Z"⟩, 5) := ⟨⟨by decide +kernel, by decide +kernel⟩, List.mem_of_getElem? (i := 100) (by decide +kernel), List.mem_of_getElem? (i := 330) (by decide +kernel), List.mem_of_getElem? (i := 331) (by decide +kernel)⟩
theorem lw_p8 : lw_okq (⟨"TrapsWatchTraps$Reader", "takeFirst", "(I)Z"⟩, 5) := ⟨⟨by decide +kernel, by decide +kernel⟩, List.mem_of_getElem? (i := 100) (by decide +kernel), List.mem_of_getElem? (i := 338) (by decide +kernel), List.mem_of_getElem? (i := 339) (by decide +kernel)⟩
theorem lw_p9 : lw_okq (⟨"TrapsWatchTraps$Reader", "canBeWired", "()Z"⟩, 5) := ⟨⟨by decide +kernel, by decide +kernel⟩, List.mem_of_getElem? (i := 100) (by decide +kernel), List.mem_of_getElem? (i := 342) (by decide +kernel), List.mem_of_getElem? (i := 343) (by decide +kernel)⟩
theorem lw_p10 : lw_okq (⟨"TrapsWatchTraps$Scene", "spring", "(I)V"⟩, 7) := ⟨⟨by decide +kernel, by decide +kernel⟩, List.mem_of_getElem? (i := 122) (by decide +kernel), List.mem_of_getElem? (i := 424) (by decide +kernel), List.mem_of_getElem? (i := 425) (by decide +kernel)⟩
theorem lw_p11 : lw_okq (⟨"TrapsWatchTraps", "unknownFrom", "(II)I"⟩, 12) := ⟨⟨by decide +kernel, by decide +kernel⟩, List.mem_of_getElem? (i := 12) (by decide +kernel), List.mem_of_getElem? (i := 443) (by decide +kernel), List.mem_of_getElem? (i := 444) (by decide +kernel)⟩
theorem lw_p12 : lw_okq (⟨"TrapsWatchTraps", "refusalOfWay", "(II)I"⟩, 12) := ⟨⟨by decide +kernel, by decide +kernel⟩, List.mem_of_getElem? (i := 12) (by decide +kernel), List.mem_of_getElem? (i := 493) (by decide +kernel), List.mem_of_getElem? (i := 494) (by decide +kernel)⟩
theorem lw_p13 : lw_okq (⟨"TrapsWatchTraps", "dangerFor", "(I)I"⟩, 12) := ⟨⟨by decide +kernel, by decide +kernel⟩, List.mem_of_getElem? (i := 12) (by decide +kernel), List.mem_of_getElem? (i := 497) (by decide +kernel), List.mem_of_getElem? (i := 498) (by decide +kernel)⟩
theorem lw_p14 : lw_okq (⟨"TrapsWatchTraps$Way", "nextFrom", "(I)I"⟩, 2) := ⟨⟨by decide +kernel, by decide +kernel⟩, List.mem_of_getElem? (i := 188) (by decide +kernel), List.mem_of_getElem? (i := 521) (by decide +kernel), List.mem_of_getElem? (i := 522) (by decide +kernel)⟩
theorem lw_p15 : lw_okq (⟨"TrapsWatchTraps$Straying", "caughtFrom", "(IIIII)I"⟩, 3) := ⟨⟨by decide +kernel, by decide +kernel⟩, List.mem_of_getElem? (i := 201) (by decide +kernel), List.mem_of_getElem? (i := 542) (by decide +kernel), List.mem_of_getElem? (i := 543) (by decide +kernel)⟩
def lw_privs_1 : List (MethodName × Nat) := [(⟨"TrapsWatchTraps$Reader", "take", "(I)Z"⟩, 5), (⟨"TrapsWatchTraps$Reader", "takeOfTrap", "(I)Z"⟩, 5), (⟨"TrapsWatchTraps$Reader", "takeOfCell", "(II)Z"⟩, 5), (⟨"TrapsWatchTraps$Reader", "takeOfWire", "(I)Z"⟩, 5), (⟨"TrapsWatchTraps$Reader", "wiresLeft", "(I)I"⟩, 5), (⟨"TrapsWatchTraps$Reader", "takeOfClosed", "(I)Z"⟩, 5), (⟨"TrapsWatchTraps$Reader", "cellsToClose", "()I"⟩, 5), (⟨"TrapsWatchTraps$Reader", "takeOfWalker", "(I)Z"⟩, 5), (⟨"TrapsWatchTraps$Reader", "takeFirst", "(I)Z"⟩, 5), (⟨"TrapsWatchTraps$Reader", "canBeWired", "()Z"⟩, 5), (⟨"TrapsWatchTraps$Scene", "spring", "(I)V"⟩, 7), (⟨"TrapsWatchTraps", "unknownFrom", "(II)I"⟩, 12), (⟨"TrapsWatchTraps", "refusalOfWay", "(II)I"⟩, 12), (⟨"TrapsWatchTraps", "dangerFor", "(I)I"⟩, 12), (⟨"TrapsWatchTraps$Way", "nextFrom", "(I)I"⟩, 2), (⟨"TrapsWatchTraps$Straying", "caughtFrom", "(IIIII)I"⟩, 3)]
theorem lw_r1 : ∀ q ∈ lw_privs_1, lw_okq q := List.forall_mem_cons.mpr ⟨lw_p0, List.forall_mem_cons.mpr ⟨lw_p1, List.forall_mem_cons.mpr ⟨lw_p2, List.forall_mem_cons.mpr ⟨lw_p3, List.forall_mem_cons.mpr ⟨lw_p4, List.forall_mem_cons.mpr ⟨lw_p5, List.forall_mem_cons.mpr ⟨lw_p6, List.forall_mem_cons.mpr ⟨lw_p7, List.forall_mem_cons.mpr ⟨lw_p8, List.forall_mem_cons.mpr ⟨lw_p9, List.forall_mem_cons.mpr ⟨lw_p10, List.forall_mem_cons.mpr ⟨lw_p11, List.forall_mem_cons.mpr ⟨lw_p12, List.forall_mem_cons.mpr ⟨lw_p13, List.forall_mem_cons.mpr ⟨lw_p14, List.forall_mem_cons.mpr ⟨lw_p15, fun _ h => absurd h List.not_mem_nil⟩⟩⟩⟩⟩⟩⟩⟩⟩⟩⟩⟩⟩⟩⟩⟩
theorem lw_p16 : lw_okq (⟨"TrapsWatchTraps$Straying", "caughtOn", "(IIIII)I"⟩, 3) := ⟨⟨by decide +kernel, by decide +kernel⟩, List.mem_of_getElem? (i := 201) (by decide +kernel), List.mem_of_getElem? (i := 548) (by decide +kernel), List.mem_of_getElem? (i := 549) (by decide +kernel)⟩
theorem lw_p17 : lw_okq (⟨"TrapsWatchTraps", "drawStep", "(I)V"⟩, 12) := ⟨⟨by decide +kernel, by decide +kernel⟩, List.mem_of_getElem? (i := 12) (by decide +kernel), List.mem_of_getElem? (i := 574) (by decide +kernel), List.mem_of_getElem? (i := 575) (by decide +kernel)⟩
theorem lw_p18 : lw_okq (⟨"TrapsWatchTraps", "freeWalkers", "()I"⟩, 12) := ⟨⟨by decide +kernel, by decide +kernel⟩, List.mem_of_getElem? (i := 12) (by decide +kernel), List.mem_of_getElem? (i := 594) (by decide +kernel), List.mem_of_getElem? (i := 595) (by decide +kernel)⟩
theorem lw_p19 : lw_okq (⟨"TrapsWatchTrapsModel", "readText", "()I"⟩, 28) := ⟨⟨by decide +kernel, by decide +kernel⟩, List.mem_of_getElem? (i := 606) (by decide +kernel), List.mem_of_getElem? (i := 714) (by decide +kernel), List.mem_of_getElem? (i := 715) (by decide +kernel)⟩
theorem lw_p20 : lw_okq (⟨"TrapsWatchTrapsModel", "readPart", "(I)V"⟩, 28) := ⟨⟨by decide +kernel, by decide +kernel⟩, List.mem_of_getElem? (i := 606) (by decide +kernel), List.mem_of_getElem? (i := 718) (by decide +kernel), List.mem_of_getElem? (i := 719) (by decide +kernel)⟩
theorem lw_p21 : lw_okq (⟨"TrapsWatchTrapsModel", "freeCells", "()I"⟩, 28) := ⟨⟨by decide +kernel, by decide +kernel⟩, List.mem_of_getElem? (i := 606) (by decide +kernel), List.mem_of_getElem? (i := 722) (by decide +kernel), List.mem_of_getElem? (i := 723) (by decide +kernel)⟩
theorem lw_p22 : lw_okq (⟨"TrapsWatchTrapsModel", "cell", "(I)I"⟩, 28) := ⟨⟨by decide +kernel, by decide +kernel⟩, List.mem_of_getElem? (i := 606) (by decide +kernel), List.mem_of_getElem? (i := 726) (by decide +kernel), List.mem_of_getElem? (i := 727) (by decide +kernel)⟩
theorem lw_p23 : lw_okq (⟨"TrapsWatchTrapsModel", "figure", "(I)I"⟩, 28) := ⟨⟨by decide +kernel, by decide +kernel⟩, List.mem_of_getElem? (i := 606) (by decide +kernel), List.mem_of_getElem? (i := 730) (by decide +kernel), List.mem_of_getElem? (i := 731) (by decide +kernel)⟩
theorem lw_p24 : lw_okq (⟨"TrapsWatchTrapsModel", "fail", "()V"⟩, 28) := ⟨⟨by decide +kernel, by decide +kernel⟩, List.mem_of_getElem? (i := 606) (by decide +kernel), List.mem_of_getElem? (i := 735) (by decide +kernel), List.mem_of_getElem? (i := 736) (by decide +kernel)⟩
theorem lw_p25 : lw_okq (⟨"TrapsWatchTrapsModel", "begins", "()I"⟩, 28) := ⟨⟨by decide +kernel, by decide +kernel⟩, List.mem_of_getElem? (i := 606) (by decide +kernel), List.mem_of_getElem? (i := 739) (by decide +kernel), List.mem_of_getElem? (i := 740) (by decide +kernel)⟩
theorem lw_p26 : lw_okq (⟨"TrapsWatchTrapsModel", "openWires", "(I)I"⟩, 28) := ⟨⟨by decide +kernel, by decide +kernel⟩, List.mem_of_getElem? (i := 606) (by decide +kernel), List.mem_of_getElem? (i := 743) (by decide +kernel), List.mem_of_getElem? (i := 744) (by decide +kernel)⟩
theorem lw_p27 : lw_okq (⟨"TrapsWatchTrapsModel", "shuttable", "()I"⟩, 28) := ⟨⟨by decide +kernel, by decide +kernel⟩, List.mem_of_getElem? (i := 606) (by decide +kernel), List.mem_of_getElem? (i := 747) (by decide +kernel), List.mem_of_getElem? (i := 748) (by decide +kernel)⟩
theorem lw_p28 : lw_okq (⟨"TrapsWatchTrapsModel", "isTrap", "(I)Z"⟩, 28) := ⟨⟨by decide +kernel, by decide +kernel⟩, List.mem_of_getElem? (i := 606) (by decide +kernel), List.mem_of_getElem? (i := 759) (by decide +kernel), List.mem_of_getElem? (i := 760) (by decide +kernel)⟩
theorem lw_p29 : lw_okq (⟨"TrapsWatchTrapsModel", "isWalker", "(I)Z"⟩, 28) := ⟨⟨by decide +kernel, by decide +kernel⟩, List.mem_of_getElem? (i := 606) (by decide +kernel), List.mem_of_getElem? (i := 767) (by decide +kernel), List.mem_of_getElem? (i := 768) (by decide +kernel)⟩
theorem lw_p30 : lw_okq (⟨"TrapsWatchTrapsModel", "nearTo", "(I)I"⟩, 28) := ⟨⟨by decide +kernel, by decide +kernel⟩, List.mem_of_getElem? (i := 606) (by decide +kernel), List.mem_of_getElem? (i := 779) (by decide +kernel), List.mem_of_getElem? (i := 780) (by decide +kernel)⟩
theorem lw_p31 : lw_okq (⟨"TrapsWatchTrapsModel", "keepAct", "()V"⟩, 28) := ⟨⟨by decide +kernel, by decide +kernel⟩, List.mem_of_getElem? (i := 606) (by decide +kernel), List.mem_of_getElem? (i := 794) (by decide +kernel), List.mem_of_getElem? (i := 795) (by decide +kernel)⟩
def lw_privs_2 : List (MethodName × Nat) := [(⟨"TrapsWatchTraps$Straying", "caughtOn", "(IIIII)I"⟩, 3), (⟨"TrapsWatchTraps", "drawStep", "(I)V"⟩, 12), (⟨"TrapsWatchTraps", "freeWalkers", "()I"⟩, 12), (⟨"TrapsWatchTrapsModel", "readText", "()I"⟩, 28), (⟨"TrapsWatchTrapsModel", "readPart", "(I)V"⟩, 28), (⟨"TrapsWatchTrapsModel", "freeCells", "()I"⟩, 28), (⟨"TrapsWatchTrapsModel", "cell", "(I)I"⟩, 28), (⟨"TrapsWatchTrapsModel", "figure", "(I)I"⟩, 28), (⟨"TrapsWatchTrapsModel", "fail", "()V"⟩, 28), (⟨"TrapsWatchTrapsModel", "begins", "()I"⟩, 28), (⟨"TrapsWatchTrapsModel", "openWires", "(I)I"⟩, 28), (⟨"TrapsWatchTrapsModel", "shuttable", "()I"⟩, 28), (⟨"TrapsWatchTrapsModel", "isTrap", "(I)Z"⟩, 28), (⟨"TrapsWatchTrapsModel", "isWalker", "(I)Z"⟩, 28), (⟨"TrapsWatchTrapsModel", "nearTo", "(I)I"⟩, 28), (⟨"TrapsWatchTrapsModel", "keepAct", "()V"⟩, 28)]
theorem lw_r2 : ∀ q ∈ lw_privs_2, lw_okq q := List.forall_mem_cons.mpr ⟨lw_p16, List.forall_mem_cons.mpr ⟨lw_p17, List.forall_mem_cons.mpr ⟨lw_p18, List.forall_mem_cons.mpr ⟨lw_p19, List.forall_mem_cons.mpr ⟨lw_p20, List.forall_mem_cons.mpr ⟨lw_p21, List.forall_mem_cons.mpr ⟨lw_p22, List.forall_mem_cons.mpr ⟨lw_p23, List.forall_mem_cons.mpr ⟨lw_p24, List.forall_mem_cons.mpr ⟨lw_p25, List.forall_mem_cons.mpr ⟨lw_p26, List.forall_mem_cons.mpr ⟨lw_p27, List.forall_mem_cons.mpr ⟨lw_p28, List.forall_mem_cons.mpr ⟨lw_p29, List.forall_mem_cons.mpr ⟨lw_p30, List.forall_mem_cons.mpr ⟨lw_p31, fun _ h => absurd h List.not_mem_nil⟩⟩⟩⟩⟩⟩⟩⟩⟩⟩⟩⟩⟩⟩⟩⟩
theorem lw_p32 : lw_okq (⟨"TrapsWatchTrapsModel", "stepOn", "(IIII)I"⟩, 28) := ⟨⟨by decide +kernel, by decide +kernel⟩, List.mem_of_getElem? (i := 606) (by decide +kernel), List.mem_of_getElem? (i := 798) (by decide +kernel), List.mem_of_getElem? (i := 799) (by decide +kernel)⟩
theorem lw_p33 : lw_okq (⟨"TrapsWatchTrapsModel", "trapAt", "(II)I"⟩, 28) := ⟨⟨by decide +kernel, by decide +kernel⟩, List.mem_of_getElem? (i := 606) (by decide +kernel), List.mem_of_getElem? (i := 802) (by decide +kernel), List.mem_of_getElem? (i := 803) (by decide +kernel)⟩
theorem lw_p34 : lw_okq (⟨"TrapsWatchTrapsModel", "spring", "(II)I"⟩, 28) := ⟨⟨by decide +kernel, by decide +kernel⟩, List.mem_of_getElem? (i := 606) (by decide +kernel), List.mem_of_getElem? (i := 806) (by decide +kernel), List.mem_of_getElem? (i := 807) (by decide +kernel)⟩
theorem lw_p35 : lw_okq (⟨"TrapsWatchTrapsModel", "wave", "(II)I"⟩, 28) := ⟨⟨by decide +kernel, by decide +kernel⟩, List.mem_of_getElem? (i := 606) (by decide +kernel), List.mem_of_getElem? (i := 810) (by decide +kernel), List.mem_of_getElem? (i := 811) (by decide +kernel)⟩
theorem lw_p36 : lw_okq (⟨"TrapsWatchTrapsModel", "catches", "(II)Z"⟩, 28) := ⟨⟨by decide +kernel, by decide +kernel⟩, List.mem_of_getElem? (i := 606) (by decide +kernel), List.mem_of_getElem? (i := 814) (by decide +kernel), List.mem_of_getElem? (i := 815) (by decide +kernel)⟩
theorem lw_p37 : lw_okq (⟨"TrapsWatchTrapsModel", "finds", "(II)I"⟩, 28) := ⟨⟨by decide +kernel, by decide +kernel⟩, List.mem_of_getElem? (i := 606) (by decide +kernel), List.mem_of_getElem? (i := 826) (by decide +kernel), List.mem_of_getElem? (i := 827) (by decide +kernel)⟩
theorem lw_p38 : lw_okq (⟨"TrapsWatchTrapsModel", "allBy", "(I)I"⟩, 28) := ⟨⟨by decide +kernel, by decide +kernel⟩, List.mem_of_getElem? (i := 606) (by decide +kernel), List.mem_of_getElem? (i := 850) (by decide +kernel), List.mem_of_getElem? (i := 851) (by decide +kernel)⟩
theorem lw_p39 : lw_okq (⟨"TrapsWatchTrapsModel", "layFar", "(II)V"⟩, 28) := ⟨⟨by decide +kernel, by decide +kernel⟩, List.mem_of_getElem? (i := 606) (by decide +kernel), List.mem_of_getElem? (i := 865) (by decide +kernel), List.mem_of_getElem? (i := 866) (by decide +kernel)⟩
theorem lw_p40 : lw_okq (⟨"TrapsWatchTrapsModel", "isDanger", "(II)Z"⟩, 28) := ⟨⟨by decide +kernel, by decide +kernel⟩, List.mem_of_getElem? (i := 606) (by decide +kernel), List.mem_of_getElem? (i := 874) (by decide +kernel), List.mem_of_getElem? (i := 875) (by decide +kernel)⟩
theorem lw_p41 : lw_okq (⟨"TrapsWatchTrapsModel", "caughtParts", "(III)I"⟩, 28) := ⟨⟨by decide +kernel, by decide +kernel⟩, List.mem_of_getElem? (i := 606) (by decide +kernel), List.mem_of_getElem? (i := 887) (by decide +kernel), List.mem_of_getElem? (i := 888) (by decide +kernel)⟩
theorem lw_p42 : lw_okq (⟨"TrapsWatchTrapsModel", "freeMany", "()I"⟩, 28) := ⟨⟨by decide +kernel, by decide +kernel⟩, List.mem_of_getElem? (i := 606) (by decide +kernel), List.mem_of_getElem? (i := 920) (by decide +kernel), List.mem_of_getElem? (i := 921) (by decide +kernel)⟩
def lw_privs_3 : List (MethodName × Nat) := [(⟨"TrapsWatchTrapsModel", "stepOn", "(IIII)I"⟩, 28), (⟨"TrapsWatchTrapsModel", "trapAt", "(II)I"⟩, 28), (⟨"TrapsWatchTrapsModel", "spring", "(II)I"⟩, 28), (⟨"TrapsWatchTrapsModel", "wave", "(II)I"⟩, 28), (⟨"TrapsWatchTrapsModel", "catches", "(II)Z"⟩, 28), (⟨"TrapsWatchTrapsModel", "finds", "(II)I"⟩, 28), (⟨"TrapsWatchTrapsModel", "allBy", "(I)I"⟩, 28), (⟨"TrapsWatchTrapsModel", "layFar", "(II)V"⟩, 28), (⟨"TrapsWatchTrapsModel", "isDanger", "(II)Z"⟩, 28), (⟨"TrapsWatchTrapsModel", "caughtParts", "(III)I"⟩, 28), (⟨"TrapsWatchTrapsModel", "freeMany", "()I"⟩, 28)]
theorem lw_r3 : ∀ q ∈ lw_privs_3, lw_okq q := List.forall_mem_cons.mpr ⟨lw_p32, List.forall_mem_cons.mpr ⟨lw_p33, List.forall_mem_cons.mpr ⟨lw_p34, List.forall_mem_cons.mpr ⟨lw_p35, List.forall_mem_cons.mpr ⟨lw_p36, List.forall_mem_cons.mpr ⟨lw_p37, List.forall_mem_cons.mpr ⟨lw_p38, List.forall_mem_cons.mpr ⟨lw_p39, List.forall_mem_cons.mpr ⟨lw_p40, List.forall_mem_cons.mpr ⟨lw_p41, List.forall_mem_cons.mpr ⟨lw_p42, fun _ h => absurd h List.not_mem_nil⟩⟩⟩⟩⟩⟩⟩⟩⟩⟩⟩
def lw_privs : List (MethodName × Nat) := lw_privs_1 ++ (lw_privs_2 ++ (lw_privs_3))
def lw_tbl : List Cond := k2_sels lw_privs ++ tables_1
theorem lw_privs_ok : ∀ q ∈ lw_privs, lw_okq q := by
  show ∀ q ∈ lw_privs_1 ++ (lw_privs_2 ++ (lw_privs_3)), lw_okq q
  exact List.forall_mem_append.mpr ⟨lw_r1, List.forall_mem_append.mpr ⟨lw_r2, lw_r3⟩⟩
def wsL_law_r1 : List Cond := [Cond.classLink RL 7 RX7, Cond.instantiable RX7 12, Cond.initialized RX7, Cond.classLink RL 10 RX8, Cond.instantiable RX8 28, Cond.initialized RX8, Cond.constantLong RL 13 (4294967295), Cond.methodLink RL 9 yX7_init, Cond.instanceMethod yX7_init, Cond.code yX7_init cX7_init 2 none, Cond.methodLink RX7 1 objectInit, Cond.instanceMethod objectInit, Cond.code objectInit ⟨#[0xb1]⟩ 1 none, Cond.classLink RX7 7 RX5, Cond.instantiable RX5 2, Cond.initialized RX5, Cond.fieldLink RX7 10 "TrapsWatchTraps" "text" "LTrapsWatchTraps$Text;", Cond.classLink RX7 16 RX1, Cond.instantiable RX1 12, Cond.initialized RX1, Cond.fieldLink RX7 19 "TrapsWatchTraps" "draft" "LTrapsWatchTraps$Plan;", Cond.classLink RX7 23 RX2, Cond.instantiable RX2 5, Cond.initialized RX2]
def wsL_law_r2 : List Cond := [Cond.fieldLink RX7 28 "TrapsWatchTraps" "reader" "LTrapsWatchTraps$Reader;", Cond.fieldLink RX7 32 "TrapsWatchTraps" "plan" "LTrapsWatchTraps$Plan;", Cond.classLink RX7 35 RX3, Cond.instantiable RX3 7, Cond.initialized RX3, Cond.fieldLink RX7 38 "TrapsWatchTraps" "now" "LTrapsWatchTraps$Scene;", Cond.fieldLink RX7 45 "TrapsWatchTraps" "dream" "LTrapsWatchTraps$Scene;", Cond.classLink RX7 48 RX0, Cond.instantiable RX0 3, Cond.initialized RX0, Cond.fieldLink RX7 51 "TrapsWatchTraps" "acts" "LTrapsWatchTraps$Acts;", Cond.classLink RX7 55 RX6, Cond.instantiable RX6 2, Cond.initialized RX6, Cond.fieldLink RX7 58 "TrapsWatchTraps" "way" "LTrapsWatchTraps$Way;", Cond.classLink RX7 62 RX4, Cond.instantiable RX4 3, Cond.initialized RX4, Cond.fieldLink RX7 65 "TrapsWatchTraps" "straying" "LTrapsWatchTraps$Straying;", Cond.fieldLink RX7 69 "TrapsWatchTraps" "slots" "[LTrapsWatchTraps$Scene;", Cond.arrayClass .boolean, Cond.fieldLink RX7 73 "TrapsWatchTraps" "isKept" "[Z", Cond.fieldLink RX7 77 "TrapsWatchTraps" "seedNow" "J", Cond.instanceMethod yX5_init]
def wsL_law_r3 : List Cond := [Cond.code yX5_init cX5_init 1 none, Cond.methodLink RX5 3 objectInit, Cond.arrayClass .int, Cond.fieldLink RX5 9 "TrapsWatchTraps$Text" "bytes" "[I", Cond.fieldLink RX5 15 "TrapsWatchTraps$Text" "length" "I", Cond.instanceMethod yX1_init, Cond.code yX1_init cX1_init 1 none, Cond.methodLink RX1 3 objectInit, Cond.fieldLink RX1 9 "TrapsWatchTraps$Plan" "traps" "I", Cond.fieldLink RX1 15 "TrapsWatchTraps$Plan" "walkers" "I", Cond.fieldLink RX1 18 "TrapsWatchTraps$Plan" "closed" "I", Cond.fieldLink RX1 21 "TrapsWatchTraps$Plan" "shams" "I", Cond.fieldLink RX1 24 "TrapsWatchTraps$Plan" "snares" "I", Cond.fieldLink RX1 27 "TrapsWatchTraps$Plan" "nets" "I", Cond.fieldLink RX1 30 "TrapsWatchTraps$Plan" "trapCell" "[I", Cond.fieldLink RX1 34 "TrapsWatchTraps$Plan" "trapSide" "[I", Cond.fieldLink RX1 37 "TrapsWatchTraps$Plan" "trapKind" "[I", Cond.fieldLink RX1 40 "TrapsWatchTraps$Plan" "setsOff" "[I", Cond.fieldLink RX1 43 "TrapsWatchTraps$Plan" "walkerStart" "[I", Cond.fieldLink RX1 46 "TrapsWatchTraps$Plan" "walkerSide" "[I", Cond.methodLink RX7 25 yX2_init, Cond.instanceMethod yX2_init, Cond.code yX2_init cX2_init 2 none, Cond.methodLink RX2 3 objectInit]
def wsL_law_r4 : List Cond := [Cond.fieldLink RX2 11 "TrapsWatchTraps$Reader" "part" "I", Cond.fieldLink RX2 15 "TrapsWatchTraps$Reader" "place" "I", Cond.fieldLink RX2 18 "TrapsWatchTraps$Reader" "one" "I", Cond.fieldLink RX2 21 "TrapsWatchTraps$Reader" "two" "I", Cond.fieldLink RX2 24 "TrapsWatchTraps$Reader" "into" "LTrapsWatchTraps$Plan;", Cond.methodLink RX7 37 yX3_init, Cond.instanceMethod yX3_init, Cond.code yX3_init cX3_init 2 none, Cond.methodLink RX3 3 objectInit, Cond.fieldLink RX3 9 "TrapsWatchTraps$Scene" "armed" "I", Cond.fieldLink RX3 15 "TrapsWatchTraps$Scene" "woken" "I", Cond.fieldLink RX3 18 "TrapsWatchTraps$Scene" "frozen" "Z", Cond.fieldLink RX3 22 "TrapsWatchTraps$Scene" "knows" "[I", Cond.fieldLink RX3 26 "TrapsWatchTraps$Scene" "at" "[I", Cond.fieldLink RX3 29 "TrapsWatchTraps$Scene" "by" "[I", Cond.fieldLink RX3 32 "TrapsWatchTraps$Scene" "plan" "LTrapsWatchTraps$Plan;", Cond.methodLink RX7 42 yX3_begin, Cond.instanceMethod yX3_begin, Cond.selects RX3 yX3_begin yX3_begin, Cond.code yX3_begin cX3_begin 3 none, Cond.fieldLink RX3 42 "TrapsWatchTraps$Plan" "traps" "I", Cond.fieldLink RX3 45 "TrapsWatchTraps$Plan" "trapSide" "[I", Cond.fieldLink RX3 48 "TrapsWatchTraps$Plan" "walkerStart" "[I", Cond.methodLink RX3 36 yX1_allTraps]
def wsL_law_r5 : List Cond := [Cond.instanceMethod yX1_allTraps, Cond.selects RX1 yX1_allTraps yX1_allTraps, Cond.code yX1_allTraps cX1_allTraps 1 (some .int), Cond.methodLink RX7 50 yX0_init, Cond.instanceMethod yX0_init, Cond.code yX0_init cX0_init 3 none, Cond.methodLink RX0 3 objectInit, Cond.classLink RX0 9 RX3, Cond.fieldLink RX0 11 "TrapsWatchTraps$Acts" "ahead" "[LTrapsWatchTraps$Scene;", Cond.fieldLink RX0 17 "TrapsWatchTraps$Acts" "oldest" "I", Cond.fieldLink RX0 21 "TrapsWatchTraps$Acts" "length" "I", Cond.methodLink RX0 24 yX3_init, Cond.methodLink RX7 57 yX6_init, Cond.instanceMethod yX6_init, Cond.code yX6_init cX6_init 2 none, Cond.methodLink RX6 3 objectInit, Cond.fieldLink RX6 9 "TrapsWatchTraps$Way" "left" "[I", Cond.fieldLink RX6 15 "TrapsWatchTraps$Way" "plan" "LTrapsWatchTraps$Plan;", Cond.methodLink RX7 64 yX4_init, Cond.instanceMethod yX4_init, Cond.code yX4_init cX4_init 2 none, Cond.methodLink RX4 3 objectInit, Cond.fieldLink RX4 9 "TrapsWatchTraps$Straying" "walker" "I", Cond.fieldLink RX4 15 "TrapsWatchTraps$Straying" "net" "I"]
def wsL_law_r6 : List Cond := [Cond.fieldLink RX4 18 "TrapsWatchTraps$Straying" "plan" "LTrapsWatchTraps$Plan;", Cond.methodLink RL 12 yX8_init, Cond.instanceMethod yX8_init, Cond.code yX8_init cX8_init 1 none, Cond.methodLink RX8 1 objectInit, Cond.fieldLink RX8 7 "TrapsWatchTrapsModel" "readTraps" "[I", Cond.fieldLink RX8 13 "TrapsWatchTrapsModel" "readWalkers" "[I", Cond.fieldLink RX8 16 "TrapsWatchTrapsModel" "cellOf" "[I", Cond.fieldLink RX8 19 "TrapsWatchTrapsModel" "sideOf" "[I", Cond.fieldLink RX8 22 "TrapsWatchTrapsModel" "kindOf" "[I", Cond.fieldLink RX8 25 "TrapsWatchTrapsModel" "wires" "[I", Cond.fieldLink RX8 28 "TrapsWatchTrapsModel" "walkSide" "[I", Cond.fieldLink RX8 31 "TrapsWatchTrapsModel" "now" "[I", Cond.fieldLink RX8 34 "TrapsWatchTrapsModel" "text" "[I", Cond.fieldLink RX8 37 "TrapsWatchTrapsModel" "row" "[I", Cond.fieldLink RX8 40 "TrapsWatchTrapsModel" "far" "[I", Cond.fieldLink RX8 43 "TrapsWatchTrapsModel" "choice" "[I", Cond.fieldLink RX8 46 "TrapsWatchTrapsModel" "weights" "[I", Cond.fieldLink RX8 49 "TrapsWatchTrapsModel" "isKept" "[Z", Cond.fieldLink RX8 53 "TrapsWatchTrapsModel" "kept" "[I", Cond.fieldLink RX8 56 "TrapsWatchTrapsModel" "traps" "I", Cond.methodLink RL 15 yX7_write, Cond.instanceMethod yX7_write, Cond.selects RX7 yX7_write yX7_write]
def wsL_law_r7 : List Cond := [Cond.code yX7_write cX7_write 4 (some .int), Cond.fieldLink RX7 81 "TrapsWatchTraps$Text" "length" "I", Cond.methodLink RX7 85 yX5_append, Cond.instanceMethod yX5_append, Cond.selects RX5 yX5_append yX5_append, Cond.code yX5_append cX5_append 5 (some .int), Cond.methodLink RL 19 yX8_write, Cond.instanceMethod yX8_write, Cond.selects RX8 yX8_write yX8_write, Cond.code yX8_write cX8_write 5 (some .int), Cond.constantLong RX8 60 (8), Cond.fieldLink RX8 66 "TrapsWatchTrapsModel" "length" "I", Cond.constantLong RX8 69 (255), Cond.methodLink RX8 62 yX8_in, Cond.static yX8_in, Cond.code yX8_in cX8_in 6 (some .boolean), Cond.methodLink RL 20 yX7_wipe, Cond.instanceMethod yX7_wipe, Cond.selects RX7 yX7_wipe yX7_wipe, Cond.code yX7_wipe cX7_wipe 2 (some .int), Cond.methodLink RL 24 yX8_wipe, Cond.instanceMethod yX8_wipe, Cond.selects RX8 yX8_wipe yX8_wipe, Cond.code yX8_wipe cX8_wipe 2 (some .int)]
def wsL_law_r8 : List Cond := [Cond.methodLink RL 25 yX7_fault, Cond.instanceMethod yX7_fault, Cond.selects RX7 yX7_fault yX7_fault, Cond.code yX7_fault cX7_fault 1 (some .int), Cond.methodLink RX7 89 yX2_read, Cond.instanceMethod yX2_read, Cond.selects RX2 yX2_read yX2_read, Cond.code yX2_read cX2_read 4 (some .int), Cond.fieldLink RX2 33 "TrapsWatchTraps$Text" "length" "I", Cond.fieldLink RX2 38 "TrapsWatchTraps$Text" "bytes" "[I", Cond.methodLink RX2 28 yX1_clear, Cond.instanceMethod yX1_clear, Cond.selects RX1 yX1_clear yX1_clear, Cond.code yX1_clear cX1_clear 2 none, Cond.methodLink RX2 42 yX2_take, Cond.instanceMethod yX2_take, Cond.selects RX2 yX2_take yX2_take, Cond.code yX2_take cX2_take 2 (some .boolean), Cond.methodLink RX2 46 yX2_takeOfTrap, Cond.instanceMethod yX2_takeOfTrap, Cond.selects RX2 yX2_takeOfTrap yX2_takeOfTrap, Cond.code yX2_takeOfTrap cX2_takeOfTrap 3 (some .boolean), Cond.methodLink RX2 78 yX1_allTraps, Cond.methodLink RX2 81 yX1_cellsOf]
def wsL_law_r9 : List Cond := [Cond.instanceMethod yX1_cellsOf, Cond.selects RX1 yX1_cellsOf yX1_cellsOf, Cond.code yX1_cellsOf cX1_cellsOf 4 (some .int), Cond.methodLink RX2 85 yX2_takeOfCell, Cond.instanceMethod yX2_takeOfCell, Cond.selects RX2 yX2_takeOfCell yX2_takeOfCell, Cond.code yX2_takeOfCell cX2_takeOfCell 4 (some .boolean), Cond.static yX7_isCell, Cond.code yX7_isCell cX7_isCell 1 (some .boolean), Cond.static yX7_isSide, Cond.code yX7_isSide cX7_isSide 1 (some .boolean), Cond.methodLink RX2 92 yX1_addTrap, Cond.instanceMethod yX1_addTrap, Cond.selects RX1 yX1_addTrap yX1_addTrap, Cond.code yX1_addTrap cX1_addTrap 5 none, Cond.methodLink RX2 49 yX2_takeOfWire, Cond.instanceMethod yX2_takeOfWire, Cond.selects RX2 yX2_takeOfWire yX2_takeOfWire, Cond.code yX2_takeOfWire cX2_takeOfWire 3 (some .boolean), Cond.fieldLink RX2 102 "TrapsWatchTraps$Plan" "setsOff" "[I", Cond.methodLink RX2 96 yX2_wiresLeft, Cond.instanceMethod yX2_wiresLeft, Cond.selects RX2 yX2_wiresLeft yX2_wiresLeft, Cond.code yX2_wiresLeft cX2_wiresLeft 2 (some .int)]
def wsL_law_r10 : List Cond := [Cond.methodLink RX2 99 yX1_hasTrap, Cond.instanceMethod yX1_hasTrap, Cond.selects RX1 yX1_hasTrap yX1_hasTrap, Cond.code yX1_hasTrap cX1_hasTrap 2 (some .boolean), Cond.methodLink RX2 52 yX2_takeOfClosed, Cond.instanceMethod yX2_takeOfClosed, Cond.selects RX2 yX2_takeOfClosed yX2_takeOfClosed, Cond.code yX2_takeOfClosed cX2_takeOfClosed 2 (some .boolean), Cond.fieldLink RX2 75 "TrapsWatchTraps$Plan" "closed" "I", Cond.methodLink RX2 68 yX2_cellsToClose, Cond.instanceMethod yX2_cellsToClose, Cond.selects RX2 yX2_cellsToClose yX2_cellsToClose, Cond.code yX2_cellsToClose cX2_cellsToClose 1 (some .int), Cond.methodLink RX2 112 yX1_startCells, Cond.instanceMethod yX1_startCells, Cond.selects RX1 yX1_startCells yX1_startCells, Cond.code yX1_startCells cX1_startCells 3 (some .int), Cond.methodLink RX2 55 yX2_takeOfWalker, Cond.instanceMethod yX2_takeOfWalker, Cond.selects RX2 yX2_takeOfWalker yX2_takeOfWalker, Cond.code yX2_takeOfWalker cX2_takeOfWalker 3 (some .boolean), Cond.methodLink RX2 105 yX1_addWalker, Cond.instanceMethod yX1_addWalker, Cond.selects RX1 yX1_addWalker yX1_addWalker]
def wsL_law_r11 : List Cond := [Cond.code yX1_addWalker cX1_addWalker 3 none, Cond.methodLink RX2 58 yX2_takeFirst, Cond.instanceMethod yX2_takeFirst, Cond.selects RX2 yX2_takeFirst yX2_takeFirst, Cond.code yX2_takeFirst cX2_takeFirst 2 (some .boolean), Cond.fieldLink RX2 61 "TrapsWatchTraps$Plan" "traps" "I", Cond.fieldLink RX2 72 "TrapsWatchTraps$Plan" "walkers" "I", Cond.methodLink RX2 64 yX2_canBeWired, Cond.instanceMethod yX2_canBeWired, Cond.selects RX2 yX2_canBeWired yX2_canBeWired, Cond.code yX2_canBeWired cX2_canBeWired 3 (some .boolean), Cond.methodLink RL 28 yX8_fault, Cond.instanceMethod yX8_fault, Cond.selects RX8 yX8_fault yX8_fault, Cond.code yX8_fault cX8_fault 1 (some .int), Cond.methodLink RX8 115 yX8_readText, Cond.instanceMethod yX8_readText, Cond.selects RX8 yX8_readText yX8_readText, Cond.code yX8_readText cX8_readText 1 (some .int), Cond.fieldLink RX8 74 "TrapsWatchTrapsModel" "at" "I", Cond.fieldLink RX8 71 "TrapsWatchTrapsModel" "faultAt" "I", Cond.fieldLink RX8 86 "TrapsWatchTrapsModel" "readT" "I", Cond.fieldLink RX8 95 "TrapsWatchTrapsModel" "readG" "I", Cond.fieldLink RX8 92 "TrapsWatchTrapsModel" "readShut" "I"]
def wsL_law_r12 : List Cond := [Cond.methodLink RX8 98 yX8_readPart, Cond.instanceMethod yX8_readPart, Cond.selects RX8 yX8_readPart yX8_readPart, Cond.code yX8_readPart cX8_readPart 4 none, Cond.methodLink RX8 102 yX8_freeCells, Cond.instanceMethod yX8_freeCells, Cond.selects RX8 yX8_freeCells yX8_freeCells, Cond.code yX8_freeCells cX8_freeCells 3 (some .int), Cond.methodLink RX8 106 yX8_cell, Cond.instanceMethod yX8_cell, Cond.selects RX8 yX8_cell yX8_cell, Cond.code yX8_cell cX8_cell 3 (some .int), Cond.methodLink RX8 82 yX8_figure, Cond.instanceMethod yX8_figure, Cond.selects RX8 yX8_figure yX8_figure, Cond.code yX8_figure cX8_figure 3 (some .int), Cond.constantLong RX8 77 (9), Cond.methodLink RX8 79 yX8_fail, Cond.instanceMethod yX8_fail, Cond.selects RX8 yX8_fail yX8_fail, Cond.code yX8_fail cX8_fail 1 none, Cond.methodLink RX8 109 yX8_begins, Cond.instanceMethod yX8_begins, Cond.selects RX8 yX8_begins yX8_begins]
def wsL_law_r13 : List Cond := [Cond.code yX8_begins cX8_begins 3 (some .int), Cond.methodLink RX8 89 yX8_openWires, Cond.instanceMethod yX8_openWires, Cond.selects RX8 yX8_openWires yX8_openWires, Cond.code yX8_openWires cX8_openWires 2 (some .int), Cond.methodLink RX8 112 yX8_shuttable, Cond.instanceMethod yX8_shuttable, Cond.selects RX8 yX8_shuttable yX8_shuttable, Cond.code yX8_shuttable cX8_shuttable 3 (some .int), Cond.methodLink RL 29 yX7_wood, Cond.instanceMethod yX7_wood, Cond.selects RX7 yX7_wood yX7_wood, Cond.code yX7_wood cX7_wood 2 (some .int), Cond.fieldLink RX7 96 "TrapsWatchTraps$Plan" "traps" "I", Cond.fieldLink RX7 99 "TrapsWatchTraps$Plan" "walkers" "I", Cond.methodLink RX7 93 yX0_forget, Cond.instanceMethod yX0_forget, Cond.selects RX0 yX0_forget yX0_forget, Cond.code yX0_forget cX0_forget 1 none, Cond.methodLink RL 32 yX8_wood, Cond.instanceMethod yX8_wood, Cond.selects RX8 yX8_wood yX8_wood, Cond.code yX8_wood cX8_wood 2 (some .int), Cond.fieldLink RX8 118 "TrapsWatchTrapsModel" "walkers" "I"]
def wsL_law_r14 : List Cond := [Cond.fieldLink RX8 121 "TrapsWatchTrapsModel" "shut" "I", Cond.fieldLink RX8 124 "TrapsWatchTrapsModel" "isFrost" "Z", Cond.fieldLink RX8 128 "TrapsWatchTrapsModel" "acts" "I", Cond.methodLink RL 33 yX7_trap, Cond.instanceMethod yX7_trap, Cond.selects RX7 yX7_trap yX7_trap, Cond.code yX7_trap cX7_trap 3 (some .int), Cond.fieldLink RX7 106 "TrapsWatchTraps$Plan" "trapCell" "[I", Cond.fieldLink RX7 110 "TrapsWatchTraps$Plan" "trapSide" "[I", Cond.fieldLink RX7 113 "TrapsWatchTraps$Plan" "trapKind" "[I", Cond.fieldLink RX7 116 "TrapsWatchTraps$Plan" "setsOff" "[I", Cond.fieldLink RX7 119 "TrapsWatchTraps$Scene" "armed" "I", Cond.fieldLink RX7 122 "TrapsWatchTraps$Scene" "woken" "I", Cond.fieldLink RX7 125 "TrapsWatchTraps$Scene" "knows" "[I", Cond.methodLink RX7 102 yX1_hasTrap, Cond.methodLink RL 37 yX8_trap, Cond.instanceMethod yX8_trap, Cond.selects RX8 yX8_trap yX8_trap, Cond.code yX8_trap cX8_trap 3 (some .int), Cond.methodLink RX8 133 yX8_isTrap, Cond.instanceMethod yX8_isTrap, Cond.selects RX8 yX8_isTrap yX8_isTrap, Cond.code yX8_isTrap cX8_isTrap 2 (some .boolean), Cond.methodLink RL 38 yX7_walker]
def wsL_law_r15 : List Cond := [Cond.instanceMethod yX7_walker, Cond.selects RX7 yX7_walker yX7_walker, Cond.code yX7_walker cX7_walker 3 (some .int), Cond.fieldLink RX7 131 "TrapsWatchTraps$Scene" "at" "[I", Cond.fieldLink RX7 134 "TrapsWatchTraps$Plan" "walkerSide" "[I", Cond.fieldLink RX7 140 "TrapsWatchTraps$Scene" "by" "[I", Cond.methodLink RX7 128 yX1_hasWalker, Cond.instanceMethod yX1_hasWalker, Cond.selects RX1 yX1_hasWalker yX1_hasWalker, Cond.code yX1_hasWalker cX1_hasWalker 2 (some .boolean), Cond.methodLink RX7 137 yX3_isFree, Cond.instanceMethod yX3_isFree, Cond.selects RX3 yX3_isFree yX3_isFree, Cond.code yX3_isFree cX3_isFree 2 (some .boolean), Cond.methodLink RX3 54 yX1_hasWalker, Cond.methodLink RL 41 yX8_walker, Cond.instanceMethod yX8_walker, Cond.selects RX8 yX8_walker yX8_walker, Cond.code yX8_walker cX8_walker 3 (some .int), Cond.methodLink RX8 137 yX8_isWalker, Cond.instanceMethod yX8_isWalker, Cond.selects RX8 yX8_isWalker yX8_isWalker, Cond.code yX8_isWalker cX8_isWalker 2 (some .boolean), Cond.methodLink RL 42 yX7_near]
def wsL_law_r16 : List Cond := [Cond.instanceMethod yX7_near, Cond.selects RX7 yX7_near yX7_near, Cond.code yX7_near cX7_near 2 (some .int), Cond.methodLink RX7 143 yX7_isCell, Cond.methodLink RX7 146 yX1_waysFrom, Cond.instanceMethod yX1_waysFrom, Cond.selects RX1 yX1_waysFrom yX1_waysFrom, Cond.code yX1_waysFrom cX1_waysFrom 2 (some .int), Cond.static yX7_neighbours, Cond.code yX7_neighbours cX7_neighbours 1 (some .int), Cond.fieldLink RX7 238 "TrapsWatchTraps" "AROUND" "[I", Cond.methodLink RL 46 yX8_near, Cond.instanceMethod yX8_near, Cond.selects RX8 yX8_near yX8_near, Cond.code yX8_near cX8_near 2 (some .int), Cond.methodLink RX8 143 yX8_isCell, Cond.static yX8_isCell, Cond.code yX8_isCell cX8_isCell 1 (some .boolean), Cond.constantLong RX8 131 (11), Cond.methodLink RX8 146 yX8_nearTo, Cond.instanceMethod yX8_nearTo, Cond.selects RX8 yX8_nearTo yX8_nearTo, Cond.code yX8_nearTo cX8_nearTo 2 (some .int), Cond.methodLink RX8 140 yX8_neighbours]
def wsL_law_r17 : List Cond := [Cond.static yX8_neighbours, Cond.code yX8_neighbours cX8_neighbours 2 (some .int), Cond.methodLink RL 47 yX7_frost, Cond.instanceMethod yX7_frost, Cond.selects RX7 yX7_frost yX7_frost, Cond.code yX7_frost cX7_frost 3 (some .int), Cond.fieldLink RX7 150 "TrapsWatchTraps$Scene" "frozen" "Z", Cond.methodLink RL 51 yX8_frost, Cond.instanceMethod yX8_frost, Cond.selects RX8 yX8_frost yX8_frost, Cond.code yX8_frost cX8_frost 3 (some .int), Cond.methodLink RL 52 yX7_step, Cond.instanceMethod yX7_step, Cond.selects RX7 yX7_step yX7_step, Cond.code yX7_step cX7_step 3 (some .int), Cond.methodLink RX7 154 yX0_remember, Cond.instanceMethod yX0_remember, Cond.selects RX0 yX0_remember yX0_remember, Cond.code yX0_remember cX0_remember 3 none, Cond.methodLink RX0 27 yX3_become, Cond.instanceMethod yX3_become, Cond.selects RX3 yX3_become yX3_become, Cond.code yX3_become cX3_become 3 none, Cond.methodLink RX7 158 yX3_walk]
def wsL_law_r18 : List Cond := [Cond.instanceMethod yX3_walk, Cond.selects RX3 yX3_walk yX3_walk, Cond.code yX3_walk cX3_walk 5 (some .int), Cond.methodLink RX3 61 yX1_trapOn, Cond.instanceMethod yX1_trapOn, Cond.selects RX1 yX1_trapOn yX1_trapOn, Cond.code yX1_trapOn cX1_trapOn 3 (some .int), Cond.methodLink RX3 65 yX1_hasTrap, Cond.methodLink RX3 68 yX3_ready, Cond.instanceMethod yX3_ready, Cond.selects RX3 yX3_ready yX3_ready, Cond.code yX3_ready cX3_ready 1 (some .int), Cond.fieldLink RX3 51 "TrapsWatchTraps$Plan" "shams" "I", Cond.methodLink RX3 71 yX1_onlyWakes, Cond.instanceMethod yX1_onlyWakes, Cond.selects RX1 yX1_onlyWakes yX1_onlyWakes, Cond.code yX1_onlyWakes cX1_onlyWakes 3 (some .boolean), Cond.methodLink RX1 53 yX1_hasTrap, Cond.methodLink RX3 75 yX1_spread, Cond.instanceMethod yX1_spread, Cond.selects RX1 yX1_spread yX1_spread, Cond.code yX1_spread cX1_spread 8 (some .int), Cond.methodLink RX3 79 yX3_spring, Cond.instanceMethod yX3_spring]
def wsL_law_r19 : List Cond := [Cond.selects RX3 yX3_spring yX3_spring, Cond.code yX3_spring cX3_spring 5 none, Cond.fieldLink RX3 58 "TrapsWatchTraps$Plan" "walkers" "I", Cond.methodLink RX3 83 yX3_isFree, Cond.methodLink RX3 86 yX1_catches, Cond.instanceMethod yX1_catches, Cond.selects RX1 yX1_catches yX1_catches, Cond.code yX1_catches cX1_catches 4 (some .boolean), Cond.methodLink RX1 57 yX1_hasWalker, Cond.methodLink RL 55 yX8_step, Cond.instanceMethod yX8_step, Cond.selects RX8 yX8_step yX8_step, Cond.code yX8_step cX8_step 3 (some .int), Cond.methodLink RX8 166 yX8_keepAct, Cond.instanceMethod yX8_keepAct, Cond.selects RX8 yX8_keepAct yX8_keepAct, Cond.code yX8_keepAct cX8_keepAct 2 none, Cond.fieldLink RX8 163 "TrapsWatchTrapsModel" "next" "I", Cond.methodLink RX8 169 yX8_stepOn, Cond.instanceMethod yX8_stepOn, Cond.selects RX8 yX8_stepOn yX8_stepOn, Cond.code yX8_stepOn cX8_stepOn 8 (some .int), Cond.methodLink RX8 157 yX8_trapAt, Cond.instanceMethod yX8_trapAt]
def wsL_law_r20 : List Cond := [Cond.selects RX8 yX8_trapAt yX8_trapAt, Cond.code yX8_trapAt cX8_trapAt 5 (some .int), Cond.methodLink RX8 160 yX8_spring, Cond.instanceMethod yX8_spring, Cond.selects RX8 yX8_spring yX8_spring, Cond.code yX8_spring cX8_spring 8 (some .int), Cond.methodLink RX8 149 yX8_wave, Cond.instanceMethod yX8_wave, Cond.selects RX8 yX8_wave yX8_wave, Cond.code yX8_wave cX8_wave 8 (some .int), Cond.methodLink RX8 153 yX8_catches, Cond.instanceMethod yX8_catches, Cond.selects RX8 yX8_catches yX8_catches, Cond.code yX8_catches cX8_catches 4 (some .boolean), Cond.methodLink RL 56 yX7_arm, Cond.instanceMethod yX7_arm, Cond.selects RX7 yX7_arm yX7_arm, Cond.code yX7_arm cX7_arm 2 (some .int), Cond.methodLink RL 59 yX8_arm, Cond.instanceMethod yX8_arm, Cond.selects RX8 yX8_arm yX8_arm, Cond.code yX8_arm cX8_arm 2 (some .int), Cond.methodLink RL 60 yX7_look, Cond.instanceMethod yX7_look]
def wsL_law_r21 : List Cond := [Cond.selects RX7 yX7_look yX7_look, Cond.code yX7_look cX7_look 4 (some .int), Cond.methodLink RX7 162 yX7_isSide, Cond.methodLink RX7 165 yX7_unknownFrom, Cond.instanceMethod yX7_unknownFrom, Cond.selects RX7 yX7_unknownFrom yX7_unknownFrom, Cond.code yX7_unknownFrom cX7_unknownFrom 3 (some .int), Cond.methodLink RX7 241 yX7_neighbours, Cond.methodLink RX7 244 yX1_trapsOn, Cond.instanceMethod yX1_trapsOn, Cond.selects RX1 yX1_trapsOn yX1_trapsOn, Cond.code yX1_trapsOn cX1_trapsOn 4 (some .int), Cond.methodLink RL 63 yX8_look, Cond.instanceMethod yX8_look, Cond.selects RX8 yX8_look yX8_look, Cond.code yX8_look cX8_look 4 (some .int), Cond.methodLink RX8 173 yX8_finds, Cond.instanceMethod yX8_finds, Cond.selects RX8 yX8_finds yX8_finds, Cond.code yX8_finds cX8_finds 5 (some .int), Cond.methodLink RL 64 yX7_free, Cond.instanceMethod yX7_free, Cond.selects RX7 yX7_free yX7_free, Cond.code yX7_free cX7_free 3 (some .int)]
def wsL_law_r22 : List Cond := [Cond.methodLink RL 67 yX8_free, Cond.instanceMethod yX8_free, Cond.selects RX8 yX8_free yX8_free, Cond.code yX8_free cX8_free 3 (some .int), Cond.methodLink RL 68 yX7_undo, Cond.instanceMethod yX7_undo, Cond.selects RX7 yX7_undo yX7_undo, Cond.code yX7_undo cX7_undo 2 (some .int), Cond.fieldLink RX7 168 "TrapsWatchTraps$Acts" "length" "I", Cond.methodLink RX7 169 yX0_takeBack, Cond.instanceMethod yX0_takeBack, Cond.selects RX0 yX0_takeBack yX0_takeBack, Cond.code yX0_takeBack cX0_takeBack 2 none, Cond.methodLink RL 71 yX8_undo, Cond.instanceMethod yX8_undo, Cond.selects RX8 yX8_undo yX8_undo, Cond.code yX8_undo cX8_undo 2 (some .int), Cond.methodLink RL 72 yX7_sprung, Cond.instanceMethod yX7_sprung, Cond.selects RX7 yX7_sprung yX7_sprung, Cond.code yX7_sprung cX7_sprung 2 (some .int), Cond.methodLink RX7 172 yX3_ready, Cond.methodLink RX7 176 yX1_spread, Cond.methodLink RL 75 yX8_sprung]
def wsL_law_r23 : List Cond := [Cond.instanceMethod yX8_sprung, Cond.selects RX8 yX8_sprung yX8_sprung, Cond.code yX8_sprung cX8_sprung 2 (some .int), Cond.methodLink RL 76 yX7_rings, Cond.instanceMethod yX7_rings, Cond.selects RX7 yX7_rings yX7_rings, Cond.code yX7_rings cX7_rings 4 (some .int), Cond.methodLink RX7 179 yX1_allTraps, Cond.methodLink RL 79 yX8_rings, Cond.instanceMethod yX8_rings, Cond.selects RX8 yX8_rings yX8_rings, Cond.code yX8_rings cX8_rings 6 (some .int), Cond.methodLink RL 80 yX7_all, Cond.instanceMethod yX7_all, Cond.selects RX7 yX7_all yX7_all, Cond.code yX7_all cX7_all 5 (some .int), Cond.methodLink RX7 182 yJ6_bitCount_0f7a4, Cond.static yJ6_bitCount_0f7a4, Cond.initialized RJ6, Cond.code yJ6_bitCount_0f7a4 cJ6_bitCount_0f7a4 1 (some .int), Cond.constant RJ6 265 (1431655765), Cond.constant RJ6 266 (858993459), Cond.constant RJ6 267 (252645135), Cond.methodLink RL 83 yX8_all]
def wsL_law_r24 : List Cond := [Cond.instanceMethod yX8_all, Cond.selects RX8 yX8_all yX8_all, Cond.code yX8_all cX8_all 5 (some .int), Cond.methodLink RX8 176 yX8_allBy, Cond.instanceMethod yX8_allBy, Cond.selects RX8 yX8_allBy yX8_allBy, Cond.code yX8_allBy cX8_allBy 4 (some .int), Cond.methodLink RX8 179 yX8_ones, Cond.static yX8_ones, Cond.code yX8_ones cX8_ones 3 (some .int), Cond.methodLink RL 84 yX7_first, Cond.instanceMethod yX7_first, Cond.selects RX7 yX7_first yX7_first, Cond.code yX7_first cX7_first 5 (some .int), Cond.fieldLink RX7 187 "TrapsWatchTraps$Plan" "shams" "I", Cond.methodLink RL 87 yX8_first, Cond.instanceMethod yX8_first, Cond.selects RX8 yX8_first yX8_first, Cond.code yX8_first cX8_first 4 (some .int), Cond.methodLink RL 88 yX7_safe, Cond.instanceMethod yX7_safe, Cond.selects RX7 yX7_safe yX7_safe, Cond.code yX7_safe cX7_safe 4 (some .int), Cond.methodLink RX7 190 yX7_refusalOfWay]
def wsL_law_r25 : List Cond := [Cond.instanceMethod yX7_refusalOfWay, Cond.selects RX7 yX7_refusalOfWay yX7_refusalOfWay, Cond.code yX7_refusalOfWay cX7_refusalOfWay 3 (some .int), Cond.methodLink RX7 193 yX7_dangerFor, Cond.instanceMethod yX7_dangerFor, Cond.selects RX7 yX7_dangerFor yX7_dangerFor, Cond.code yX7_dangerFor cX7_dangerFor 3 (some .int), Cond.methodLink RX7 247 yX1_cellsOf, Cond.methodLink RX7 196 yX6_measure, Cond.instanceMethod yX6_measure, Cond.selects RX6 yX6_measure yX6_measure, Cond.code yX6_measure cX6_measure 10 none, Cond.fieldLink RX6 19 "TrapsWatchTraps$Plan" "closed" "I", Cond.methodLink RX7 200 yX6_stepsFrom, Cond.instanceMethod yX6_stepsFrom, Cond.selects RX6 yX6_stepsFrom yX6_stepsFrom, Cond.code yX6_stepsFrom cX6_stepsFrom 2 (some .int), Cond.methodLink RL 91 yX8_safe, Cond.instanceMethod yX8_safe, Cond.selects RX8 yX8_safe yX8_safe, Cond.code yX8_safe cX8_safe 3 (some .int), Cond.methodLink RX8 182 yX8_layFar, Cond.instanceMethod yX8_layFar, Cond.selects RX8 yX8_layFar yX8_layFar]
def wsL_law_r26 : List Cond := [Cond.code yX8_layFar cX8_layFar 8 none, Cond.methodLink RL 92 yX7_safeAt, Cond.instanceMethod yX7_safeAt, Cond.selects RX7 yX7_safeAt yX7_safeAt, Cond.code yX7_safeAt cX7_safeAt 5 (some .int), Cond.methodLink RX7 203 yX6_cellBehind, Cond.instanceMethod yX6_cellBehind, Cond.selects RX6 yX6_cellBehind yX6_cellBehind, Cond.code yX6_cellBehind cX6_cellBehind 5 (some .int), Cond.methodLink RX6 33 yX6_stepsFrom, Cond.methodLink RX6 36 yX6_nextFrom, Cond.instanceMethod yX6_nextFrom, Cond.selects RX6 yX6_nextFrom yX6_nextFrom, Cond.code yX6_nextFrom cX6_nextFrom 5 (some .int), Cond.methodLink RL 96 yX8_safeAt, Cond.instanceMethod yX8_safeAt, Cond.selects RX8 yX8_safeAt yX8_safeAt, Cond.code yX8_safeAt cX8_safeAt 8 (some .int), Cond.methodLink RX8 186 yX8_safe, Cond.methodLink RX8 189 yX8_isDanger, Cond.instanceMethod yX8_isDanger, Cond.selects RX8 yX8_isDanger yX8_isDanger, Cond.code yX8_isDanger cX8_isDanger 4 (some .boolean), Cond.methodLink RL 97 yX7_toLook]
def wsL_law_r27 : List Cond := [Cond.instanceMethod yX7_toLook, Cond.selects RX7 yX7_toLook yX7_toLook, Cond.code yX7_toLook cX7_toLook 6 (some .int), Cond.methodLink RL 100 yX8_toLook, Cond.instanceMethod yX8_toLook, Cond.selects RX8 yX8_toLook yX8_toLook, Cond.code yX8_toLook cX8_toLook 4 (some .int), Cond.methodLink RL 101 yX7_strays, Cond.instanceMethod yX7_strays, Cond.selects RX7 yX7_strays yX7_strays, Cond.code yX7_strays cX7_strays 7 (some .int), Cond.methodLink RX7 206 yX4_wholeOf, Cond.static yX4_wholeOf, Cond.code yX4_wholeOf cX4_wholeOf 3 (some .int), Cond.methodLink RX7 209 yX4_chance, Cond.instanceMethod yX4_chance, Cond.selects RX4 yX4_chance yX4_chance, Cond.code yX4_chance cX4_chance 5 (some .int), Cond.fieldLink RX4 22 "TrapsWatchTraps$Scene" "frozen" "Z", Cond.fieldLink RX4 34 "TrapsWatchTraps$Scene" "at" "[I", Cond.fieldLink RX4 38 "TrapsWatchTraps$Scene" "armed" "I", Cond.fieldLink RX4 41 "TrapsWatchTraps$Scene" "woken" "I", Cond.methodLink RX4 28 yX1_hasWalker, Cond.methodLink RX4 44 yX4_wholeOf]
def wsL_law_r28 : List Cond := [Cond.methodLink RX4 48 yX4_caughtFrom, Cond.instanceMethod yX4_caughtFrom, Cond.selects RX4 yX4_caughtFrom yX4_caughtFrom, Cond.code yX4_caughtFrom cX4_caughtFrom 11 (some .int), Cond.methodLink RX4 52 yX1_waysFrom, Cond.methodLink RX4 55 yJ6_bitCount_0f7a4, Cond.methodLink RX4 60 yX4_caughtOn, Cond.instanceMethod yX4_caughtOn, Cond.selects RX4 yX4_caughtOn yX4_caughtOn, Cond.code yX4_caughtOn cX4_caughtOn 9 (some .int), Cond.fieldLink RX4 63 "TrapsWatchTraps$Plan" "shams" "I", Cond.methodLink RX4 66 yX1_trapOn, Cond.methodLink RX4 69 yX1_hasTrap, Cond.methodLink RX4 72 yX1_onlyWakes, Cond.methodLink RX4 76 yX1_catches, Cond.methodLink RX4 79 yX1_spread, Cond.methodLink RX7 213 yX7_greatestDivisor, Cond.static yX7_greatestDivisor, Cond.code yX7_greatestDivisor cX7_greatestDivisor 6 (some .int), Cond.methodLink RL 105 yX8_strays, Cond.instanceMethod yX8_strays, Cond.selects RX8 yX8_strays yX8_strays, Cond.code yX8_strays cX8_strays 6 (some .int), Cond.constantLong RX8 198 (4)]
def wsL_law_r29 : List Cond := [Cond.methodLink RX8 200 yX8_caughtParts, Cond.instanceMethod yX8_caughtParts, Cond.selects RX8 yX8_caughtParts yX8_caughtParts, Cond.code yX8_caughtParts cX8_caughtParts 9 (some .int), Cond.methodLink RX8 192 yX8_twelveTo, Cond.static yX8_twelveTo, Cond.code yX8_twelveTo cX8_twelveTo 3 (some .int), Cond.methodLink RX8 195 yX8_ofCells, Cond.static yX8_ofCells, Cond.code yX8_ofCells cX8_ofCells 4 (some .int), Cond.methodLink RX8 204 yX8_common, Cond.static yX8_common, Cond.code yX8_common cX8_common 5 (some .int), Cond.methodLink RL 106 yX7_oneMore, Cond.instanceMethod yX7_oneMore, Cond.selects RX7 yX7_oneMore yX7_oneMore, Cond.code yX7_oneMore cX7_oneMore 8 (some .int), Cond.fieldLink RX7 216 "TrapsWatchTraps$Plan" "closed" "I", Cond.methodLink RX7 219 yX1_trapOn, Cond.methodLink RL 109 yX8_oneMore, Cond.instanceMethod yX8_oneMore, Cond.selects RX8 yX8_oneMore yX8_oneMore, Cond.code yX8_oneMore cX8_oneMore 9 (some .int), Cond.constantLong RX8 207 (3)]
def wsL_law_r30 : List Cond := [Cond.methodLink RL 110 yX7_seed, Cond.instanceMethod yX7_seed, Cond.selects RX7 yX7_seed yX7_seed, Cond.code yX7_seed cX7_seed 5 (some .long), Cond.methodLink RL 114 yX8_seed, Cond.instanceMethod yX8_seed, Cond.selects RX8 yX8_seed yX8_seed, Cond.code yX8_seed cX8_seed 5 (some .long), Cond.fieldLink RX8 209 "TrapsWatchTrapsModel" "seed" "J", Cond.methodLink RL 115 yX7_night, Cond.instanceMethod yX7_night, Cond.selects RX7 yX7_night yX7_night, Cond.code yX7_night cX7_night 4 (some .int), Cond.methodLink RX7 222 yX3_become, Cond.methodLink RX7 225 yX7_drawStep, Cond.instanceMethod yX7_drawStep, Cond.selects RX7 yX7_drawStep yX7_drawStep, Cond.code yX7_drawStep cX7_drawStep 5 none, Cond.constantLong RX7 250 (6364136223846793005), Cond.constantLong RX7 252 (1442695040888963407), Cond.methodLink RX7 254 yX7_bitAt, Cond.static yX7_bitAt, Cond.code yX7_bitAt cX7_bitAt 4 (some .int), Cond.methodLink RX7 229 yX3_caught]
def wsL_law_r31 : List Cond := [Cond.instanceMethod yX3_caught, Cond.selects RX3 yX3_caught yX3_caught, Cond.code yX3_caught cX3_caught 3 (some .int), Cond.methodLink RL 118 yX8_night, Cond.instanceMethod yX8_night, Cond.selects RX8 yX8_night yX8_night, Cond.code yX8_night cX8_night 5 (some .int), Cond.constantLong RX8 213 (40), Cond.constantLong RX8 215 (6364136223846793005), Cond.constantLong RX8 217 (1442695040888963407), Cond.methodLink RL 119 yX7_keep, Cond.instanceMethod yX7_keep, Cond.selects RX7 yX7_keep yX7_keep, Cond.code yX7_keep cX7_keep 3 (some .int), Cond.methodLink RX7 232 yX7_isSlot, Cond.static yX7_isSlot, Cond.code yX7_isSlot cX7_isSlot 1 (some .boolean), Cond.methodLink RX7 235 yX7_freeWalkers, Cond.instanceMethod yX7_freeWalkers, Cond.selects RX7 yX7_freeWalkers yX7_freeWalkers, Cond.code yX7_freeWalkers cX7_freeWalkers 1 (some .int), Cond.methodLink RL 122 yX8_keep, Cond.instanceMethod yX8_keep, Cond.selects RX8 yX8_keep yX8_keep]
def wsL_law_r32 : List Cond := [Cond.code yX8_keep cX8_keep 3 (some .int), Cond.methodLink RX8 219 yX8_freeMany, Cond.instanceMethod yX8_freeMany, Cond.selects RX8 yX8_freeMany yX8_freeMany, Cond.code yX8_freeMany cX8_freeMany 3 (some .int), Cond.methodLink RL 123 yX7_again, Cond.instanceMethod yX7_again, Cond.selects RX7 yX7_again yX7_again, Cond.code yX7_again cX7_again 2 (some .int), Cond.methodLink RL 126 yX8_again, Cond.instanceMethod yX8_again, Cond.selects RX8 yX8_again yX8_again, Cond.code yX8_again cX8_again 3 (some .int), Cond.methodLink RL 127 yX7_count, Cond.instanceMethod yX7_count, Cond.selects RX7 yX7_count yX7_count, Cond.code yX7_count cX7_count 2 (some .int), Cond.methodLink RL 130 yX8_count, Cond.instanceMethod yX8_count, Cond.selects RX8 yX8_count yX8_count, Cond.code yX8_count cX8_count 4 (some .int)]
def wsL_law : List Cond := (wsL_law_r1 ++ (wsL_law_r2 ++ (wsL_law_r3 ++ (wsL_law_r4 ++ (wsL_law_r5 ++ (wsL_law_r6 ++ (wsL_law_r7 ++ (wsL_law_r8 ++ (wsL_law_r9 ++ (wsL_law_r10 ++ (wsL_law_r11 ++ (wsL_law_r12 ++ (wsL_law_r13 ++ (wsL_law_r14 ++ (wsL_law_r15 ++ (wsL_law_r16 ++ (wsL_law_r17 ++ (wsL_law_r18 ++ (wsL_law_r19 ++ (wsL_law_r20 ++ (wsL_law_r21 ++ (wsL_law_r22 ++ (wsL_law_r23 ++ (wsL_law_r24 ++ (wsL_law_r25 ++ (wsL_law_r26 ++ (wsL_law_r27 ++ (wsL_law_r28 ++ (wsL_law_r29 ++ (wsL_law_r30 ++ (wsL_law_r31 ++ wsL_law_r32))))))))))))))))))))))))))))))) ++ wsX70 ++ wsX80 ++ wsX50 ++ wsX10 ++ wsX20 ++ wsX30 ++ wsX00 ++ wsX60 ++ wsX40 ++ ([] : List Cond)
set_option maxRecDepth 20000 in
theorem wsL_law_r1_in : ∀ w ∈ wsL_law_r1, w ∈ lw_tbl := fun w h => (goodIn_r wsL_law_r1 [54, 55, 44, 648, 649, 52, 974, 56, 57, 58, 59, 60, 61, 62, 63, 45, 259, 79, 80, 46, 261, 142, 143, 47] (by decide +kernel) (by decide +kernel) w h).1
set_option maxRecDepth 20000 in
theorem wsL_law_r2_in : ∀ w ∈ wsL_law_r2, w ∈ lw_tbl := fun w h => (goodIn_r wsL_law_r2 [260, 262, 164, 165, 48, 263, 264, 210, 211, 49, 265, 230, 231, 50, 266, 243, 244, 51, 267, 268, 78, 269, 270, 65] (by decide +kernel) (by decide +kernel) w h).1
set_option maxRecDepth 20000 in
theorem wsL_law_r3_in : ∀ w ∈ wsL_law_r3, w ∈ lw_tbl := fun w h => (goodIn_r wsL_law_r3 [66, 67, 78, 68, 70, 82, 83, 84, 85, 89, 93, 97, 101, 102, 103, 105, 108, 110, 113, 115, 144, 145, 146, 147] (by decide +kernel) (by decide +kernel) w h).1
set_option maxRecDepth 20000 in
theorem wsL_law_r4_in : ∀ w ∈ wsL_law_r4, w ∈ lw_tbl := fun w h => (goodIn_r wsL_law_r4 [149, 150, 151, 152, 148, 166, 167, 168, 169, 171, 174, 177, 180, 182, 185, 170, 202, 203, 204, 205, 86, 106, 114, 206] (by decide +kernel) (by decide +kernel) w h).1
set_option maxRecDepth 20000 in
theorem wsL_law_r5_in : ∀ w ∈ wsL_law_r5, w ∈ lw_tbl := fun w h => (goodIn_r wsL_law_r5 [207, 208, 209, 212, 213, 214, 215, 216, 219, 220, 221, 218, 232, 233, 234, 235, 237, 236, 245, 246, 247, 248, 250, 251] (by decide +kernel) (by decide +kernel) w h).1
set_option maxRecDepth 20000 in
theorem wsL_law_r6_in : ∀ w ∈ wsL_law_r6, w ∈ lw_tbl := fun w h => (goodIn_r wsL_law_r6 [249, 650, 651, 652, 653, 654, 655, 659, 660, 661, 662, 663, 668, 669, 675, 676, 677, 678, 680, 681, 664, 297, 298, 299] (by decide +kernel) (by decide +kernel) w h).1
set_option maxRecDepth 20000 in
theorem wsL_law_r7_in : ∀ w ∈ wsL_law_r7, w ∈ lw_tbl := fun w h => (goodIn_r wsL_law_r7 [300, 71, 301, 302, 303, 304, 739, 740, 741, 742, 743, 670, 747, 744, 745, 746, 305, 306, 307, 308, 748, 749, 750, 751] (by decide +kernel) (by decide +kernel) w h).1
set_option maxRecDepth 20000 in
theorem wsL_law_r8_in : ∀ w ∈ wsL_law_r8, w ∈ lw_tbl := fun w h => (goodIn_r wsL_law_r8 [309, 310, 311, 312, 313, 314, 315, 316, 72, 69, 317, 318, 319, 320, 321, 323, 0, 324, 325, 327, 1, 328, 329, 330] (by decide +kernel) (by decide +kernel) w h).1
set_option maxRecDepth 20000 in
theorem wsL_law_r9_in : ∀ w ∈ wsL_law_r9, w ∈ lw_tbl := fun w h => (goodIn_r wsL_law_r9 [331, 332, 333, 334, 336, 2, 337, 339, 340, 342, 343, 344, 345, 346, 347, 348, 350, 3, 351, 111, 352, 354, 4, 355] (by decide +kernel) (by decide +kernel) w h).1
set_option maxRecDepth 20000 in
theorem wsL_law_r10_in : ∀ w ∈ wsL_law_r10, w ∈ lw_tbl := fun w h => (goodIn_r wsL_law_r10 [356, 357, 358, 359, 360, 362, 5, 363, 95, 364, 366, 6, 367, 368, 369, 370, 371, 372, 374, 7, 375, 376, 377, 378] (by decide +kernel) (by decide +kernel) w h).1
set_option maxRecDepth 20000 in
theorem wsL_law_r11_in : ∀ w ∈ wsL_law_r11, w ∈ lw_tbl := fun w h => (goodIn_r wsL_law_r11 [379, 380, 382, 8, 383, 87, 90, 384, 386, 9, 387, 752, 753, 754, 755, 756, 758, 19, 759, 671, 672, 656, 657, 658] (by decide +kernel) (by decide +kernel) w h).1
set_option maxRecDepth 20000 in
theorem wsL_law_r12_in : ∀ w ∈ wsL_law_r12, w ∈ lw_tbl := fun w h => (goodIn_r wsL_law_r12 [760, 762, 20, 763, 764, 766, 21, 767, 768, 770, 22, 771, 772, 774, 23, 775, 776, 777, 779, 24, 780, 781, 783, 25] (by decide +kernel) (by decide +kernel) w h).1
set_option maxRecDepth 20000 in
theorem wsL_law_r13_in : ∀ w ∈ wsL_law_r13, w ∈ lw_tbl := fun w h => (goodIn_r wsL_law_r13 [784, 785, 787, 26, 788, 789, 791, 27, 792, 388, 389, 390, 391, 88, 91, 392, 393, 394, 395, 793, 794, 795, 796, 665] (by decide +kernel) (by decide +kernel) w h).1
set_option maxRecDepth 20000 in
theorem wsL_law_r14_in : ∀ w ∈ wsL_law_r14, w ∈ lw_tbl := fun w h => (goodIn_r wsL_law_r14 [666, 667, 673, 396, 397, 398, 399, 104, 107, 109, 112, 173, 176, 181, 400, 797, 798, 799, 800, 801, 803, 28, 804, 401] (by decide +kernel) (by decide +kernel) w h).1
set_option maxRecDepth 20000 in
theorem wsL_law_r15_in : ∀ w ∈ wsL_law_r15, w ∈ lw_tbl := fun w h => (goodIn_r wsL_law_r15 [402, 403, 404, 184, 116, 186, 405, 406, 407, 408, 409, 410, 411, 412, 413, 805, 806, 807, 808, 809, 811, 29, 812, 414] (by decide +kernel) (by decide +kernel) w h).1
set_option maxRecDepth 20000 in
theorem wsL_law_r16_in : ∀ w ∈ wsL_law_r16, w ∈ lw_tbl := fun w h => (goodIn_r wsL_law_r16 [415, 416, 417, 418, 419, 420, 421, 422, 424, 425, 426, 813, 814, 815, 816, 817, 818, 819, 820, 821, 823, 30, 824, 825] (by decide +kernel) (by decide +kernel) w h).1
set_option maxRecDepth 20000 in
theorem wsL_law_r17_in : ∀ w ∈ wsL_law_r17, w ∈ lw_tbl := fun w h => (goodIn_r wsL_law_r17 [826, 827, 428, 429, 430, 431, 179, 828, 829, 830, 831, 432, 433, 434, 435, 436, 437, 438, 439, 440, 441, 442, 443, 444] (by decide +kernel) (by decide +kernel) w h).1
set_option maxRecDepth 20000 in
theorem wsL_law_r18_in : ∀ w ∈ wsL_law_r18, w ∈ lw_tbl := fun w h => (goodIn_r wsL_law_r18 [445, 446, 447, 448, 449, 450, 451, 452, 453, 454, 455, 456, 98, 457, 458, 459, 460, 461, 462, 463, 464, 465, 466, 468] (by decide +kernel) (by decide +kernel) w h).1
set_option maxRecDepth 20000 in
theorem wsL_law_r19_in : ∀ w ∈ wsL_law_r19, w ∈ lw_tbl := fun w h => (goodIn_r wsL_law_r19 [10, 469, 92, 470, 471, 472, 473, 474, 475, 832, 833, 834, 835, 836, 838, 31, 839, 674, 840, 842, 32, 843, 844, 846] (by decide +kernel) (by decide +kernel) w h).1
set_option maxRecDepth 20000 in
theorem wsL_law_r20_in : ∀ w ∈ wsL_law_r20, w ∈ lw_tbl := fun w h => (goodIn_r wsL_law_r20 [33, 847, 848, 850, 34, 851, 852, 854, 35, 855, 856, 858, 36, 859, 476, 477, 478, 479, 860, 861, 862, 863, 480, 481] (by decide +kernel) (by decide +kernel) w h).1
set_option maxRecDepth 20000 in
theorem wsL_law_r21_in : ∀ w ∈ wsL_law_r21, w ∈ lw_tbl := fun w h => (goodIn_r wsL_law_r21 [482, 483, 484, 485, 487, 11, 488, 489, 490, 491, 492, 493, 864, 865, 866, 867, 868, 870, 37, 871, 494, 495, 496, 497] (by decide +kernel) (by decide +kernel) w h).1
set_option maxRecDepth 20000 in
theorem wsL_law_r22_in : ∀ w ∈ wsL_law_r22, w ∈ lw_tbl := fun w h => (goodIn_r wsL_law_r22 [872, 873, 874, 875, 498, 499, 500, 501, 222, 502, 503, 504, 505, 876, 877, 878, 879, 506, 507, 508, 509, 510, 511, 880] (by decide +kernel) (by decide +kernel) w h).1
set_option maxRecDepth 20000 in
theorem wsL_law_r23_in : ∀ w ∈ wsL_law_r23, w ∈ lw_tbl := fun w h => (goodIn_r wsL_law_r23 [881, 882, 883, 512, 513, 514, 515, 516, 884, 885, 886, 887, 517, 518, 519, 520, 521, 522, 53, 523, 524, 525, 526, 888] (by decide +kernel) (by decide +kernel) w h).1
set_option maxRecDepth 20000 in
theorem wsL_law_r24_in : ∀ w ∈ wsL_law_r24, w ∈ lw_tbl := fun w h => (goodIn_r wsL_law_r24 [889, 890, 891, 892, 894, 38, 895, 896, 897, 898, 527, 528, 529, 530, 100, 899, 900, 901, 902, 531, 532, 533, 534, 535] (by decide +kernel) (by decide +kernel) w h).1
set_option maxRecDepth 20000 in
theorem wsL_law_r25_in : ∀ w ∈ wsL_law_r25, w ∈ lw_tbl := fun w h => (goodIn_r wsL_law_r25 [537, 12, 538, 539, 541, 13, 542, 543, 544, 545, 546, 547, 94, 549, 550, 551, 552, 903, 904, 905, 906, 907, 909, 39] (by decide +kernel) (by decide +kernel) w h).1
set_option maxRecDepth 20000 in
theorem wsL_law_r26_in : ∀ w ∈ wsL_law_r26, w ∈ lw_tbl := fun w h => (goodIn_r wsL_law_r26 [910, 554, 555, 556, 557, 558, 559, 560, 561, 562, 563, 565, 14, 566, 911, 912, 913, 914, 915, 916, 918, 40, 919, 567] (by decide +kernel) (by decide +kernel) w h).1
set_option maxRecDepth 20000 in
theorem wsL_law_r27_in : ∀ w ∈ wsL_law_r27, w ∈ lw_tbl := fun w h => (goodIn_r wsL_law_r27 [568, 569, 570, 920, 921, 922, 923, 571, 572, 573, 574, 575, 576, 577, 578, 579, 580, 581, 178, 183, 172, 175, 582, 583] (by decide +kernel) (by decide +kernel) w h).1
set_option maxRecDepth 20000 in
theorem wsL_law_r28_in : ∀ w ∈ wsL_law_r28, w ∈ lw_tbl := fun w h => (goodIn_r wsL_law_r28 [584, 586, 15, 587, 588, 589, 590, 592, 16, 593, 99, 594, 595, 596, 597, 598, 599, 600, 601, 924, 925, 926, 927, 928] (by decide +kernel) (by decide +kernel) w h).1
set_option maxRecDepth 20000 in
theorem wsL_law_r29_in : ∀ w ∈ wsL_law_r29, w ∈ lw_tbl := fun w h => (goodIn_r wsL_law_r29 [929, 931, 41, 932, 933, 934, 935, 936, 937, 938, 939, 940, 941, 602, 603, 604, 605, 96, 606, 942, 943, 944, 945, 946] (by decide +kernel) (by decide +kernel) w h).1
set_option maxRecDepth 20000 in
theorem wsL_law_r30_in : ∀ w ∈ wsL_law_r30, w ∈ lw_tbl := fun w h => (goodIn_r wsL_law_r30 [607, 608, 609, 610, 947, 948, 949, 950, 679, 611, 612, 613, 614, 615, 616, 618, 17, 619, 620, 621, 622, 623, 624, 625] (by decide +kernel) (by decide +kernel) w h).1
set_option maxRecDepth 20000 in
theorem wsL_law_r31_in : ∀ w ∈ wsL_law_r31, w ∈ lw_tbl := fun w h => (goodIn_r wsL_law_r31 [626, 627, 628, 951, 952, 953, 954, 955, 956, 957, 629, 630, 631, 632, 633, 634, 635, 636, 638, 18, 639, 958, 959, 960] (by decide +kernel) (by decide +kernel) w h).1
set_option maxRecDepth 20000 in
theorem wsL_law_r32_in : ∀ w ∈ wsL_law_r32, w ∈ lw_tbl := fun w h => (goodIn_r wsL_law_r32 [961, 962, 964, 42, 965, 640, 641, 642, 643, 966, 967, 968, 969, 644, 645, 646, 647, 970, 971, 972, 973] (by decide +kernel) (by decide +kernel) w h).1
theorem inX7 : ∀ w ∈ wsX70, w ∈ lw_tbl := by decide +kernel
theorem inX8 : ∀ w ∈ wsX80, w ∈ lw_tbl := by decide +kernel
theorem inX5 : ∀ w ∈ wsX50, w ∈ lw_tbl := by decide +kernel
theorem inX1 : ∀ w ∈ wsX10, w ∈ lw_tbl := by decide +kernel
theorem inX2 : ∀ w ∈ wsX20, w ∈ lw_tbl := by decide +kernel
theorem inX3 : ∀ w ∈ wsX30, w ∈ lw_tbl := by decide +kernel
theorem inX0 : ∀ w ∈ wsX00, w ∈ lw_tbl := by decide +kernel
theorem inX6 : ∀ w ∈ wsX60, w ∈ lw_tbl := by decide +kernel
theorem inX4 : ∀ w ∈ wsX40, w ∈ lw_tbl := by decide +kernel
theorem wsL_law_in : ∀ w ∈ wsL_law, w ∈ lw_tbl := by
  unfold wsL_law
  exact List.forall_mem_append.mpr ⟨List.forall_mem_append.mpr ⟨List.forall_mem_append.mpr ⟨List.forall_mem_append.mpr ⟨List.forall_mem_append.mpr ⟨List.forall_mem_append.mpr ⟨List.forall_mem_append.mpr ⟨List.forall_mem_append.mpr ⟨List.forall_mem_append.mpr ⟨List.forall_mem_append.mpr ⟨List.forall_mem_append.mpr ⟨wsL_law_r1_in, List.forall_mem_append.mpr ⟨wsL_law_r2_in, List.forall_mem_append.mpr ⟨wsL_law_r3_in, List.forall_mem_append.mpr ⟨wsL_law_r4_in, List.forall_mem_append.mpr ⟨wsL_law_r5_in, List.forall_mem_append.mpr ⟨wsL_law_r6_in, List.forall_mem_append.mpr ⟨wsL_law_r7_in, List.forall_mem_append.mpr ⟨wsL_law_r8_in, List.forall_mem_append.mpr ⟨wsL_law_r9_in, List.forall_mem_append.mpr ⟨wsL_law_r10_in, List.forall_mem_append.mpr ⟨wsL_law_r11_in, List.forall_mem_append.mpr ⟨wsL_law_r12_in, List.forall_mem_append.mpr ⟨wsL_law_r13_in, List.forall_mem_append.mpr ⟨wsL_law_r14_in, List.forall_mem_append.mpr ⟨wsL_law_r15_in, List.forall_mem_append.mpr ⟨wsL_law_r16_in, List.forall_mem_append.mpr ⟨wsL_law_r17_in, List.forall_mem_append.mpr ⟨wsL_law_r18_in, List.forall_mem_append.mpr ⟨wsL_law_r19_in, List.forall_mem_append.mpr ⟨wsL_law_r20_in, List.forall_mem_append.mpr ⟨wsL_law_r21_in, List.forall_mem_append.mpr ⟨wsL_law_r22_in, List.forall_mem_append.mpr ⟨wsL_law_r23_in, List.forall_mem_append.mpr ⟨wsL_law_r24_in, List.forall_mem_append.mpr ⟨wsL_law_r25_in, List.forall_mem_append.mpr ⟨wsL_law_r26_in, List.forall_mem_append.mpr ⟨wsL_law_r27_in, List.forall_mem_append.mpr ⟨wsL_law_r28_in, List.forall_mem_append.mpr ⟨wsL_law_r29_in, List.forall_mem_append.mpr ⟨wsL_law_r30_in, List.forall_mem_append.mpr ⟨wsL_law_r31_in, wsL_law_r32_in⟩⟩⟩⟩⟩⟩⟩⟩⟩⟩⟩⟩⟩⟩⟩⟩⟩⟩⟩⟩⟩⟩⟩⟩⟩⟩⟩⟩⟩⟩⟩, inX7⟩, inX8⟩, inX5⟩, inX1⟩, inX2⟩, inX3⟩, inX0⟩, inX6⟩, inX4⟩, (fun _ h => absurd h List.not_mem_nil)⟩
set_option maxRecDepth 20000 in
theorem ggL_law_X7_init : GoodIn wsL_law wsX7_init := goodIn_r _ [9, 10, 11, 12, 13, 14, 15, 16, 17, 18, 19, 20, 21, 22, 23, 24, 25, 26, 27, 28, 29, 30, 31, 32, 33, 34, 35, 36, 37, 38, 39, 40, 41, 42, 43, 44, 45, 46, 47, 48, 49, 50, 51, 52, 53, 54, 55, 56, 57, 58, 59, 60, 61, 62, 63, 64, 65, 66, 67, 68, 69, 70, 71, 72, 73, 74, 75, 76, 77, 78, 79, 80, 81, 82, 83, 84, 85, 86, 87, 88, 89, 90, 91, 92, 93, 94, 95, 96, 97, 98, 99, 100, 101, 102, 103, 104, 105, 106, 107, 108, 109, 110, 111, 112, 113, 114, 115, 116, 117, 118, 119, 120, 805, 806, 765, 766, 767, 768, 769, 770, 771, 772, 773, 774, 775, 776, 807, 808, 809, 810, 811, 812, 813, 814, 815, 816, 817, 818, 819, 820, 821, 822, 823, 824, 825, 826, 827, 828, 829, 830, 831, 832, 833, 834, 835, 836, 837, 838] (by decide +kernel) (by decide +kernel)
set_option maxRecDepth 20000 in
theorem gL_law_X7_init : GoodIn wsL_law (wsX7_init) := ggL_law_X7_init
set_option maxRecDepth 20000 in
theorem ggL_law_X8_init : GoodIn wsL_law wsX8_init := goodIn_r _ [123, 124, 11, 12, 50, 125, 126, 127, 128, 129, 130, 131, 132, 133, 134, 135, 136, 137, 44, 138, 139, 140, 777, 778, 779, 780, 781, 782, 783, 784, 785, 786, 787, 788, 789, 790, 791, 792, 793, 794, 795, 796, 797, 798, 799, 800, 801, 802, 803, 804] (by decide +kernel) (by decide +kernel)
set_option maxRecDepth 20000 in
theorem gL_law_X8_init : GoodIn wsL_law (wsX8_init) := ggL_law_X8_init
set_option maxRecDepth 20000 in
theorem ggL_law_X7_write : GoodIn wsL_law wsX7_write := goodIn_r _ [144, 16, 145, 146, 147, 148, 15, 149, 52, 51, 765, 766, 767, 768, 769, 770, 771, 772, 773, 774, 775, 776, 805, 806] (by decide +kernel) (by decide +kernel)
set_option maxRecDepth 20000 in
theorem gL_law_X7_write : GoodIn wsL_law (wsV RL 15 RX7 yX7_write wsX7_write) := goodIn_app (goodIn_of _ (by decide +kernel)) ggL_law_X7_write
set_option maxRecDepth 20000 in
theorem ggL_law_X8_write : GoodIn wsL_law wsX8_write := goodIn_r _ [153, 154, 155, 133, 156, 157, 158, 5, 159, 777, 778, 779, 780, 781, 782, 783, 784, 785, 786, 787, 788, 789, 790, 791, 792, 793, 794, 795, 796, 797, 798, 799, 800, 801, 802, 803, 804] (by decide +kernel) (by decide +kernel)
set_option maxRecDepth 20000 in
theorem gL_law_X8_write : GoodIn wsL_law (wsV RL 19 RX8 yX8_write wsX8_write) := goodIn_app (goodIn_of _ (by decide +kernel)) ggL_law_X8_write
set_option maxRecDepth 20000 in
theorem ggL_law_X7_wipe : GoodIn wsL_law wsX7_wipe := goodIn_r _ [163, 16, 145, 765, 766, 767, 768, 769, 770, 771, 772, 773, 774, 775, 776, 805, 806] (by decide +kernel) (by decide +kernel)
set_option maxRecDepth 20000 in
theorem gL_law_X7_wipe : GoodIn wsL_law (wsV RL 20 RX7 yX7_wipe wsX7_wipe) := goodIn_app (goodIn_of _ (by decide +kernel)) ggL_law_X7_wipe
set_option maxRecDepth 20000 in
theorem ggL_law_X8_wipe : GoodIn wsL_law wsX8_wipe := goodIn_r _ [167, 155, 777, 778, 779, 780, 781, 782, 783, 784, 785, 786, 787, 788, 789, 790, 791, 792, 793, 794, 795, 796, 797, 798, 799, 800, 801, 802, 803, 804] (by decide +kernel) (by decide +kernel)
set_option maxRecDepth 20000 in
theorem gL_law_X8_wipe : GoodIn wsL_law (wsV RL 24 RX8 yX8_wipe wsX8_wipe) := goodIn_app (goodIn_of _ (by decide +kernel)) ggL_law_X8_wipe
set_option maxRecDepth 20000 in
theorem ggL_law_X7_fault : GoodIn wsL_law wsX7_fault := goodIn_r _ [171, 24, 16, 20, 172, 173, 174, 23, 175, 76, 72, 176, 177, 178, 179, 180, 19, 181, 56, 57, 58, 59, 60, 61, 65, 182, 183, 184, 185, 186, 187, 188, 189, 73, 75, 74, 190, 96, 97, 98, 191, 192, 193, 194, 62, 195, 196, 197, 198, 199, 2, 200, 201, 202, 203, 204, 205, 206, 63, 64, 207, 208, 209, 210, 211, 212, 213, 214, 215, 216, 217, 218, 219, 220, 221, 222, 223, 224, 225, 226, 227, 228, 229, 230, 231, 232, 66, 233, 234, 235, 236, 237, 238, 239, 240, 67, 241, 242, 243, 244, 245, 246, 247, 248, 249, 250, 765, 766, 767, 768, 769, 770, 771, 772, 773, 774, 775, 776, 819, 820, 821, 822, 823, 805, 806, 807, 808, 809, 810, 811, 812, 813, 814, 815, 816, 817, 818] (by decide +kernel) (by decide +kernel)
set_option maxRecDepth 20000 in
theorem gL_law_X7_fault : GoodIn wsL_law (wsV RL 25 RX7 yX7_fault wsX7_fault) := goodIn_app (goodIn_of _ (by decide +kernel)) ggL_law_X7_fault
set_option maxRecDepth 20000 in
theorem ggL_law_X8_fault : GoodIn wsL_law wsX8_fault := goodIn_r _ [254, 255, 256, 257, 5, 258, 259, 260, 261, 262, 263, 155, 133, 264, 265, 266, 267, 125, 126, 268, 269, 270, 271, 272, 273, 274, 275, 276, 277, 278, 279, 280, 157, 158, 159, 281, 282, 283, 284, 285, 286, 287, 288, 289, 290, 291, 292, 293, 294, 295, 296, 777, 778, 779, 780, 781, 782, 783, 784, 785, 786, 787, 788, 789, 790, 791, 792, 793, 794, 795, 796, 797, 798, 799, 800, 801, 802, 803, 804] (by decide +kernel) (by decide +kernel)
set_option maxRecDepth 20000 in
theorem gL_law_X8_fault : GoodIn wsL_law (wsV RL 28 RX8 yX8_fault wsX8_fault) := goodIn_app (goodIn_of _ (by decide +kernel)) ggL_law_X8_fault
set_option maxRecDepth 20000 in
theorem ggL_law_X7_wood : GoodIn wsL_law wsX7_wood := goodIn_r _ [300, 24, 16, 20, 25, 29, 34, 45, 301, 302, 172, 173, 174, 23, 175, 76, 72, 176, 177, 178, 179, 180, 19, 181, 56, 57, 58, 59, 60, 61, 65, 182, 183, 184, 185, 186, 187, 188, 189, 73, 75, 74, 190, 96, 97, 98, 191, 192, 193, 194, 62, 195, 196, 197, 198, 199, 2, 200, 201, 202, 203, 204, 205, 206, 63, 64, 207, 208, 209, 210, 211, 212, 213, 214, 215, 216, 217, 218, 219, 220, 221, 222, 223, 224, 225, 226, 227, 228, 229, 230, 231, 232, 66, 233, 234, 235, 236, 237, 238, 239, 240, 67, 241, 242, 243, 244, 245, 246, 247, 248, 249, 250, 88, 89, 90, 28, 91, 87, 81, 82, 83, 84, 92, 93, 85, 94, 86, 95, 303, 304, 305, 33, 306, 106, 765, 766, 767, 768, 769, 770, 771, 772, 773, 774, 775, 776, 807, 808, 809, 810, 811, 812, 813, 814, 815, 816, 817, 818, 819, 820, 821, 822, 823, 805, 806, 824, 825, 826, 827, 828, 829, 830, 831, 832, 833] (by decide +kernel) (by decide +kernel)
set_option maxRecDepth 20000 in
theorem gL_law_X7_wood : GoodIn wsL_law (wsV RL 29 RX7 yX7_wood wsX7_wood) := goodIn_app (goodIn_of _ (by decide +kernel)) ggL_law_X7_wood
set_option maxRecDepth 20000 in
theorem ggL_law_X8_wood : GoodIn wsL_law wsX8_wood := goodIn_r _ [310, 261, 140, 262, 311, 263, 312, 313, 132, 127, 125, 128, 129, 130, 126, 131, 314, 138, 255, 256, 257, 5, 258, 259, 260, 155, 133, 264, 265, 266, 267, 268, 269, 270, 271, 272, 273, 274, 275, 276, 277, 278, 279, 280, 157, 158, 159, 281, 282, 283, 284, 285, 286, 287, 288, 289, 290, 291, 292, 293, 294, 295, 296, 777, 778, 779, 780, 781, 782, 783, 784, 785, 786, 787, 788, 789, 790, 791, 792, 793, 794, 795, 796, 797, 798, 799, 800, 801, 802, 803, 804] (by decide +kernel) (by decide +kernel)
set_option maxRecDepth 20000 in
theorem gL_law_X8_wood : GoodIn wsL_law (wsV RL 32 RX8 yX8_wood wsX8_wood) := goodIn_app (goodIn_of _ (by decide +kernel)) ggL_law_X8_wood
set_option maxRecDepth 20000 in
theorem ggL_law_X7_trap : GoodIn wsL_law wsX7_trap := goodIn_r _ [318, 25, 319, 320, 321, 322, 29, 323, 324, 325, 326, 217, 218, 19, 219, 56, 765, 766, 767, 768, 769, 770, 771, 772, 773, 774, 775, 776, 807, 808, 809, 810, 811, 812, 813, 814, 815, 816, 817, 818, 824, 825, 826, 827, 828, 829, 830] (by decide +kernel) (by decide +kernel)
set_option maxRecDepth 20000 in
theorem gL_law_X7_trap : GoodIn wsL_law (wsV RL 33 RX7 yX7_trap wsX7_trap) := goodIn_app (goodIn_of _ (by decide +kernel)) ggL_law_X7_trap
set_option maxRecDepth 20000 in
theorem ggL_law_X8_trap : GoodIn wsL_law wsX8_trap := goodIn_r _ [330, 127, 128, 129, 130, 132, 331, 332, 333, 5, 334, 140, 157, 158, 159, 777, 778, 779, 780, 781, 782, 783, 784, 785, 786, 787, 788, 789, 790, 791, 792, 793, 794, 795, 796, 797, 798, 799, 800, 801, 802, 803, 804] (by decide +kernel) (by decide +kernel)
set_option maxRecDepth 20000 in
theorem gL_law_X8_trap : GoodIn wsL_law (wsV RL 37 RX8 yX8_trap wsX8_trap) := goodIn_app (goodIn_of _ (by decide +kernel)) ggL_law_X8_trap
set_option maxRecDepth 20000 in
theorem ggL_law_X7_walker : GoodIn wsL_law wsX7_walker := goodIn_r _ [338, 25, 29, 339, 340, 341, 342, 343, 344, 19, 345, 57, 346, 347, 348, 28, 349, 87, 86, 350, 765, 766, 767, 768, 769, 770, 771, 772, 773, 774, 775, 776, 824, 825, 826, 827, 828, 829, 830, 807, 808, 809, 810, 811, 812, 813, 814, 815, 816, 817, 818] (by decide +kernel) (by decide +kernel)
set_option maxRecDepth 20000 in
theorem gL_law_X7_walker : GoodIn wsL_law (wsV RL 38 RX7 yX7_walker wsX7_walker) := goodIn_app (goodIn_of _ (by decide +kernel)) ggL_law_X7_walker
set_option maxRecDepth 20000 in
theorem ggL_law_X8_walker : GoodIn wsL_law wsX8_walker := goodIn_r _ [354, 132, 131, 355, 356, 357, 5, 358, 311, 157, 158, 159, 777, 778, 779, 780, 781, 782, 783, 784, 785, 786, 787, 788, 789, 790, 791, 792, 793, 794, 795, 796, 797, 798, 799, 800, 801, 802, 803, 804] (by decide +kernel) (by decide +kernel)
set_option maxRecDepth 20000 in
theorem gL_law_X8_walker : GoodIn wsL_law (wsV RL 41 RX8 yX8_walker wsX8_walker) := goodIn_app (goodIn_of _ (by decide +kernel)) ggL_law_X8_walker
set_option maxRecDepth 20000 in
theorem ggL_law_X7_near : GoodIn wsL_law wsX7_near := goodIn_r _ [362, 25, 363, 199, 2, 200, 364, 365, 366, 19, 367, 58, 368, 369, 370, 765, 766, 767, 768, 769, 770, 771, 772, 773, 774, 775, 776, 807, 808, 809, 810, 811, 812, 813, 814, 815, 816, 817, 818] (by decide +kernel) (by decide +kernel)
set_option maxRecDepth 20000 in
theorem gL_law_X7_near : GoodIn wsL_law (wsV RL 42 RX7 yX7_near wsX7_near) := goodIn_app (goodIn_of _ (by decide +kernel)) ggL_law_X7_near
set_option maxRecDepth 20000 in
theorem ggL_law_X8_near : GoodIn wsL_law wsX8_near := goodIn_r _ [374, 375, 376, 5, 377, 378, 157, 158, 159, 379, 380, 381, 382, 312, 383, 384, 385, 777, 778, 779, 780, 781, 782, 783, 784, 785, 786, 787, 788, 789, 790, 791, 792, 793, 794, 795, 796, 797, 798, 799, 800, 801, 802, 803, 804] (by decide +kernel) (by decide +kernel)
set_option maxRecDepth 20000 in
theorem gL_law_X8_near : GoodIn wsL_law (wsV RL 46 RX8 yX8_near wsX8_near) := goodIn_app (goodIn_of _ (by decide +kernel)) ggL_law_X8_near
set_option maxRecDepth 20000 in
theorem ggL_law_X7_frost : GoodIn wsL_law wsX7_frost := goodIn_r _ [389, 29, 390, 765, 766, 767, 768, 769, 770, 771, 772, 773, 774, 775, 776, 824, 825, 826, 827, 828, 829, 830] (by decide +kernel) (by decide +kernel)
set_option maxRecDepth 20000 in
theorem gL_law_X7_frost : GoodIn wsL_law (wsV RL 47 RX7 yX7_frost wsX7_frost) := goodIn_app (goodIn_of _ (by decide +kernel)) ggL_law_X7_frost
set_option maxRecDepth 20000 in
theorem ggL_law_X8_frost : GoodIn wsL_law wsX8_frost := goodIn_r _ [394, 313, 777, 778, 779, 780, 781, 782, 783, 784, 785, 786, 787, 788, 789, 790, 791, 792, 793, 794, 795, 796, 797, 798, 799, 800, 801, 802, 803, 804] (by decide +kernel) (by decide +kernel)
set_option maxRecDepth 20000 in
theorem gL_law_X8_frost : GoodIn wsL_law (wsV RL 51 RX8 yX8_frost wsX8_frost) := goodIn_app (goodIn_of _ (by decide +kernel)) ggL_law_X8_frost
set_option maxRecDepth 20000 in
theorem ggL_law_X7_step : GoodIn wsL_law wsX7_step := goodIn_r _ [398, 25, 29, 339, 34, 342, 343, 344, 19, 345, 57, 363, 199, 2, 200, 346, 347, 348, 28, 349, 87, 86, 350, 364, 365, 366, 367, 58, 368, 369, 370, 399, 400, 401, 33, 402, 104, 105, 106, 403, 404, 405, 406, 81, 82, 83, 84, 85, 407, 408, 409, 410, 411, 412, 413, 414, 56, 62, 415, 217, 218, 219, 416, 417, 418, 419, 420, 421, 422, 423, 424, 64, 425, 426, 427, 428, 429, 65, 430, 431, 432, 433, 434, 435, 436, 437, 438, 439, 67, 61, 60, 440, 765, 766, 767, 768, 769, 770, 771, 772, 773, 774, 775, 776, 824, 825, 826, 827, 828, 829, 830, 807, 808, 809, 810, 811, 812, 813, 814, 815, 816, 817, 818, 831, 832, 833] (by decide +kernel) (by decide +kernel)
set_option maxRecDepth 20000 in
theorem gL_law_X7_step : GoodIn wsL_law (wsV RL 52 RX7 yX7_step wsX7_step) := goodIn_app (goodIn_of _ (by decide +kernel)) ggL_law_X7_step
set_option maxRecDepth 20000 in
theorem ggL_law_X8_step : GoodIn wsL_law wsX8_step := goodIn_r _ [444, 132, 140, 355, 356, 357, 5, 358, 311, 157, 158, 159, 375, 376, 377, 378, 379, 380, 381, 382, 312, 383, 384, 385, 445, 446, 447, 448, 134, 449, 314, 450, 451, 452, 453, 313, 129, 454, 455, 456, 457, 127, 458, 459, 460, 461, 462, 463, 464, 465, 130, 466, 467, 468, 469, 131, 777, 778, 779, 780, 781, 782, 783, 784, 785, 786, 787, 788, 789, 790, 791, 792, 793, 794, 795, 796, 797, 798, 799, 800, 801, 802, 803, 804] (by decide +kernel) (by decide +kernel)
set_option maxRecDepth 20000 in
theorem gL_law_X8_step : GoodIn wsL_law (wsV RL 55 RX8 yX8_step wsX8_step) := goodIn_app (goodIn_of _ (by decide +kernel)) ggL_law_X8_step
set_option maxRecDepth 20000 in
theorem ggL_law_X7_arm : GoodIn wsL_law wsX7_arm := goodIn_r _ [473, 25, 29, 323, 34, 324, 320, 326, 217, 218, 19, 219, 56, 399, 400, 401, 33, 402, 104, 105, 106, 403, 404, 405, 28, 406, 81, 82, 83, 84, 85, 86, 765, 766, 767, 768, 769, 770, 771, 772, 773, 774, 775, 776, 824, 825, 826, 827, 828, 829, 830, 807, 808, 809, 810, 811, 812, 813, 814, 815, 816, 817, 818, 831, 832, 833] (by decide +kernel) (by decide +kernel)
set_option maxRecDepth 20000 in
theorem gL_law_X7_arm : GoodIn wsL_law (wsV RL 56 RX7 yX7_arm wsX7_arm) := goodIn_app (goodIn_of _ (by decide +kernel)) ggL_law_X7_arm
set_option maxRecDepth 20000 in
theorem ggL_law_X8_arm : GoodIn wsL_law wsX8_arm := goodIn_r _ [477, 132, 128, 331, 332, 333, 5, 334, 140, 157, 158, 159, 445, 446, 447, 448, 134, 449, 314, 777, 778, 779, 780, 781, 782, 783, 784, 785, 786, 787, 788, 789, 790, 791, 792, 793, 794, 795, 796, 797, 798, 799, 800, 801, 802, 803, 804] (by decide +kernel) (by decide +kernel)
set_option maxRecDepth 20000 in
theorem gL_law_X8_arm : GoodIn wsL_law (wsV RL 59 RX8 yX8_arm wsX8_arm) := goodIn_app (goodIn_of _ (by decide +kernel)) ggL_law_X8_arm
set_option maxRecDepth 20000 in
theorem ggL_law_X7_look : GoodIn wsL_law wsX7_look := goodIn_r _ [481, 34, 29, 325, 363, 199, 2, 200, 482, 201, 202, 483, 484, 485, 486, 25, 487, 368, 369, 370, 488, 489, 490, 19, 491, 56, 62, 399, 400, 401, 33, 402, 104, 105, 106, 403, 404, 405, 28, 406, 81, 82, 83, 84, 85, 86, 765, 766, 767, 768, 769, 770, 771, 772, 773, 774, 775, 776, 824, 825, 826, 827, 828, 829, 830, 807, 808, 809, 810, 811, 812, 813, 814, 815, 816, 817, 818, 831, 832, 833] (by decide +kernel) (by decide +kernel)
set_option maxRecDepth 20000 in
theorem gL_law_X7_look : GoodIn wsL_law (wsV RL 60 RX7 yX7_look wsX7_look) := goodIn_app (goodIn_of _ (by decide +kernel)) ggL_law_X7_look
set_option maxRecDepth 20000 in
theorem ggL_law_X8_look : GoodIn wsL_law wsX8_look := goodIn_r _ [495, 132, 375, 376, 5, 377, 378, 157, 158, 159, 445, 446, 447, 448, 134, 449, 314, 496, 497, 498, 499, 140, 127, 383, 384, 385, 777, 778, 779, 780, 781, 782, 783, 784, 785, 786, 787, 788, 789, 790, 791, 792, 793, 794, 795, 796, 797, 798, 799, 800, 801, 802, 803, 804] (by decide +kernel) (by decide +kernel)
set_option maxRecDepth 20000 in
theorem gL_law_X8_look : GoodIn wsL_law (wsV RL 63 RX8 yX8_look wsX8_look) := goodIn_app (goodIn_of _ (by decide +kernel)) ggL_law_X8_look
set_option maxRecDepth 20000 in
theorem ggL_law_X7_free : GoodIn wsL_law wsX7_free := goodIn_r _ [503, 25, 29, 34, 341, 342, 343, 344, 19, 345, 57, 346, 347, 348, 28, 349, 87, 86, 350, 399, 400, 401, 33, 402, 104, 105, 106, 403, 404, 405, 406, 81, 82, 83, 84, 85, 765, 766, 767, 768, 769, 770, 771, 772, 773, 774, 775, 776, 824, 825, 826, 827, 828, 829, 830, 807, 808, 809, 810, 811, 812, 813, 814, 815, 816, 817, 818, 831, 832, 833] (by decide +kernel) (by decide +kernel)
set_option maxRecDepth 20000 in
theorem gL_law_X7_free : GoodIn wsL_law (wsV RL 64 RX7 yX7_free wsX7_free) := goodIn_app (goodIn_of _ (by decide +kernel)) ggL_law_X7_free
set_option maxRecDepth 20000 in
theorem ggL_law_X8_free : GoodIn wsL_law wsX8_free := goodIn_r _ [507, 132, 355, 356, 357, 5, 358, 311, 157, 158, 159, 445, 446, 447, 448, 134, 449, 314, 777, 778, 779, 780, 781, 782, 783, 784, 785, 786, 787, 788, 789, 790, 791, 792, 793, 794, 795, 796, 797, 798, 799, 800, 801, 802, 803, 804] (by decide +kernel) (by decide +kernel)
set_option maxRecDepth 20000 in
theorem gL_law_X8_free : GoodIn wsL_law (wsV RL 67 RX8 yX8_free wsX8_free) := goodIn_app (goodIn_of _ (by decide +kernel)) ggL_law_X8_free
set_option maxRecDepth 20000 in
theorem ggL_law_X7_undo : GoodIn wsL_law wsX7_undo := goodIn_r _ [511, 34, 512, 29, 390, 513, 514, 515, 33, 516, 106, 104, 105, 403, 404, 405, 28, 406, 81, 82, 83, 84, 85, 86, 765, 766, 767, 768, 769, 770, 771, 772, 773, 774, 775, 776, 831, 832, 833, 824, 825, 826, 827, 828, 829, 830] (by decide +kernel) (by decide +kernel)
set_option maxRecDepth 20000 in
theorem gL_law_X7_undo : GoodIn wsL_law (wsV RL 68 RX7 yX7_undo wsX7_undo) := goodIn_app (goodIn_of _ (by decide +kernel)) ggL_law_X7_undo
set_option maxRecDepth 20000 in
theorem ggL_law_X8_undo : GoodIn wsL_law wsX8_undo := goodIn_r _ [520, 314, 449, 132, 134, 777, 778, 779, 780, 781, 782, 783, 784, 785, 786, 787, 788, 789, 790, 791, 792, 793, 794, 795, 796, 797, 798, 799, 800, 801, 802, 803, 804] (by decide +kernel) (by decide +kernel)
set_option maxRecDepth 20000 in
theorem gL_law_X8_undo : GoodIn wsL_law (wsV RL 71 RX8 yX8_undo wsX8_undo) := goodIn_app (goodIn_of _ (by decide +kernel)) ggL_law_X8_undo
set_option maxRecDepth 20000 in
theorem ggL_law_X7_sprung : GoodIn wsL_law wsX7_sprung := goodIn_r _ [524, 25, 29, 326, 217, 218, 19, 219, 56, 525, 417, 418, 28, 419, 83, 81, 87, 420, 526, 427, 428, 429, 65, 765, 766, 767, 768, 769, 770, 771, 772, 773, 774, 775, 776, 807, 808, 809, 810, 811, 812, 813, 814, 815, 816, 817, 818, 824, 825, 826, 827, 828, 829, 830] (by decide +kernel) (by decide +kernel)
set_option maxRecDepth 20000 in
theorem gL_law_X7_sprung : GoodIn wsL_law (wsV RL 72 RX7 yX7_sprung wsX7_sprung) := goodIn_app (goodIn_of _ (by decide +kernel)) ggL_law_X7_sprung
set_option maxRecDepth 20000 in
theorem ggL_law_X8_sprung : GoodIn wsL_law wsX8_sprung := goodIn_r _ [530, 313, 132, 331, 332, 333, 5, 334, 140, 157, 158, 159, 462, 463, 464, 465, 129, 130, 777, 778, 779, 780, 781, 782, 783, 784, 785, 786, 787, 788, 789, 790, 791, 792, 793, 794, 795, 796, 797, 798, 799, 800, 801, 802, 803, 804] (by decide +kernel) (by decide +kernel)
set_option maxRecDepth 20000 in
theorem gL_law_X8_sprung : GoodIn wsL_law (wsV RL 75 RX8 yX8_sprung wsX8_sprung) := goodIn_app (goodIn_of _ (by decide +kernel)) ggL_law_X8_sprung
set_option maxRecDepth 20000 in
theorem ggL_law_X7_rings : GoodIn wsL_law wsX7_rings := goodIn_r _ [534, 25, 322, 535, 96, 97, 19, 98, 56, 526, 427, 428, 429, 65, 765, 766, 767, 768, 769, 770, 771, 772, 773, 774, 775, 776, 807, 808, 809, 810, 811, 812, 813, 814, 815, 816, 817, 818] (by decide +kernel) (by decide +kernel)
set_option maxRecDepth 20000 in
theorem gL_law_X7_rings : GoodIn wsL_law (wsV RL 76 RX7 yX7_rings wsX7_rings) := goodIn_app (goodIn_of _ (by decide +kernel)) ggL_law_X7_rings
set_option maxRecDepth 20000 in
theorem ggL_law_X8_rings : GoodIn wsL_law wsX8_rings := goodIn_r _ [539, 140, 130, 777, 778, 779, 780, 781, 782, 783, 784, 785, 786, 787, 788, 789, 790, 791, 792, 793, 794, 795, 796, 797, 798, 799, 800, 801, 802, 803, 804] (by decide +kernel) (by decide +kernel)
set_option maxRecDepth 20000 in
theorem gL_law_X8_rings : GoodIn wsL_law (wsV RL 79 RX8 yX8_rings wsX8_rings) := goodIn_app (goodIn_of _ (by decide +kernel)) ggL_law_X8_rings
set_option maxRecDepth 20000 in
theorem ggL_law_X7_all : GoodIn wsL_law wsX7_all := goodIn_r _ [543, 29, 25, 525, 417, 418, 28, 419, 83, 81, 87, 420, 535, 96, 97, 19, 98, 56, 544, 545, 546, 547, 548, 549, 550, 526, 427, 428, 429, 65, 765, 766, 767, 768, 769, 770, 771, 772, 773, 774, 775, 776, 824, 825, 826, 827, 828, 829, 830, 807, 808, 809, 810, 811, 812, 813, 814, 815, 816, 817, 818] (by decide +kernel) (by decide +kernel)
set_option maxRecDepth 20000 in
theorem gL_law_X7_all : GoodIn wsL_law (wsV RL 80 RX7 yX7_all wsX7_all) := goodIn_app (goodIn_of _ (by decide +kernel)) ggL_law_X7_all
set_option maxRecDepth 20000 in
theorem ggL_law_X8_all : GoodIn wsL_law wsX8_all := goodIn_r _ [554, 140, 555, 556, 557, 5, 558, 313, 132, 462, 463, 464, 465, 129, 130, 559, 560, 561, 777, 778, 779, 780, 781, 782, 783, 784, 785, 786, 787, 788, 789, 790, 791, 792, 793, 794, 795, 796, 797, 798, 799, 800, 801, 802, 803, 804] (by decide +kernel) (by decide +kernel)
set_option maxRecDepth 20000 in
theorem gL_law_X8_all : GoodIn wsL_law (wsV RL 83 RX8 yX8_all wsX8_all) := goodIn_app (goodIn_of _ (by decide +kernel)) ggL_law_X8_all
set_option maxRecDepth 20000 in
theorem ggL_law_X7_first : GoodIn wsL_law wsX7_first := goodIn_r _ [565, 25, 566, 535, 96, 97, 19, 98, 56, 326, 217, 218, 219, 526, 427, 428, 429, 65, 765, 766, 767, 768, 769, 770, 771, 772, 773, 774, 775, 776, 807, 808, 809, 810, 811, 812, 813, 814, 815, 816, 817, 818] (by decide +kernel) (by decide +kernel)
set_option maxRecDepth 20000 in
theorem gL_law_X7_first : GoodIn wsL_law (wsV RL 84 RX7 yX7_first wsX7_first) := goodIn_app (goodIn_of _ (by decide +kernel)) ggL_law_X7_first
set_option maxRecDepth 20000 in
theorem ggL_law_X8_first : GoodIn wsL_law wsX8_first := goodIn_r _ [570, 140, 157, 158, 5, 159, 462, 463, 464, 465, 129, 130, 777, 778, 779, 780, 781, 782, 783, 784, 785, 786, 787, 788, 789, 790, 791, 792, 793, 794, 795, 796, 797, 798, 799, 800, 801, 802, 803, 804] (by decide +kernel) (by decide +kernel)
set_option maxRecDepth 20000 in
theorem gL_law_X8_first : GoodIn wsL_law (wsV RL 87 RX8 yX8_first wsX8_first) := goodIn_app (goodIn_of _ (by decide +kernel)) ggL_law_X8_first
set_option maxRecDepth 20000 in
theorem ggL_law_X7_safe : GoodIn wsL_law wsX7_safe := goodIn_r _ [574, 38, 29, 339, 575, 576, 577, 2, 578, 25, 342, 343, 344, 19, 345, 57, 363, 199, 200, 346, 347, 348, 28, 349, 87, 86, 350, 579, 580, 581, 582, 340, 325, 323, 566, 482, 201, 202, 583, 192, 193, 194, 56, 62, 584, 585, 586, 37, 587, 112, 113, 588, 368, 369, 370, 589, 590, 591, 592, 765, 766, 767, 768, 769, 770, 771, 772, 773, 774, 775, 776, 824, 825, 826, 827, 828, 829, 830, 807, 808, 809, 810, 811, 812, 813, 814, 815, 816, 817, 818, 834, 835] (by decide +kernel) (by decide +kernel)
set_option maxRecDepth 20000 in
theorem gL_law_X7_safe : GoodIn wsL_law (wsV RL 88 RX7 yX7_safe wsX7_safe) := goodIn_app (goodIn_of _ (by decide +kernel)) ggL_law_X7_safe
set_option maxRecDepth 20000 in
theorem ggL_law_X8_safe : GoodIn wsL_law wsX8_safe := goodIn_r _ [596, 132, 135, 355, 356, 357, 5, 358, 311, 157, 158, 159, 375, 376, 377, 378, 597, 598, 599, 600, 312, 140, 131, 129, 127, 383, 384, 385, 777, 778, 779, 780, 781, 782, 783, 784, 785, 786, 787, 788, 789, 790, 791, 792, 793, 794, 795, 796, 797, 798, 799, 800, 801, 802, 803, 804] (by decide +kernel) (by decide +kernel)
set_option maxRecDepth 20000 in
theorem gL_law_X8_safe : GoodIn wsL_law (wsV RL 91 RX8 yX8_safe wsX8_safe) := goodIn_app (goodIn_of _ (by decide +kernel)) ggL_law_X8_safe
set_option maxRecDepth 20000 in
theorem ggL_law_X7_safeAt : GoodIn wsL_law wsX7_safeAt := goodIn_r _ [604, 38, 29, 339, 575, 576, 577, 2, 578, 25, 342, 343, 344, 19, 345, 57, 363, 199, 200, 346, 347, 348, 28, 349, 87, 86, 350, 579, 580, 581, 582, 340, 325, 323, 566, 482, 201, 202, 583, 192, 193, 194, 56, 62, 584, 585, 586, 37, 587, 112, 113, 588, 368, 369, 370, 605, 606, 607, 608, 609, 590, 591, 592, 610, 611, 612, 613, 765, 766, 767, 768, 769, 770, 771, 772, 773, 774, 775, 776, 824, 825, 826, 827, 828, 829, 830, 807, 808, 809, 810, 811, 812, 813, 814, 815, 816, 817, 818, 834, 835] (by decide +kernel) (by decide +kernel)
set_option maxRecDepth 20000 in
theorem gL_law_X7_safeAt : GoodIn wsL_law (wsV RL 92 RX7 yX7_safeAt wsX7_safeAt) := goodIn_app (goodIn_of _ (by decide +kernel)) ggL_law_X7_safeAt
set_option maxRecDepth 20000 in
theorem ggL_law_X8_safeAt : GoodIn wsL_law wsX8_safeAt := goodIn_r _ [617, 132, 135, 618, 594, 595, 5, 596, 355, 356, 357, 358, 311, 157, 158, 159, 375, 376, 377, 378, 597, 598, 599, 600, 312, 140, 131, 129, 127, 383, 384, 385, 379, 380, 381, 382, 619, 620, 621, 622, 454, 455, 456, 457, 777, 778, 779, 780, 781, 782, 783, 784, 785, 786, 787, 788, 789, 790, 791, 792, 793, 794, 795, 796, 797, 798, 799, 800, 801, 802, 803, 804] (by decide +kernel) (by decide +kernel)
set_option maxRecDepth 20000 in
theorem gL_law_X8_safeAt : GoodIn wsL_law (wsV RL 96 RX8 yX8_safeAt wsX8_safeAt) := goodIn_app (goodIn_of _ (by decide +kernel)) ggL_law_X8_safeAt
set_option maxRecDepth 20000 in
theorem ggL_law_X7_toLook : GoodIn wsL_law wsX7_toLook := goodIn_r _ [626, 482, 201, 2, 202, 483, 484, 485, 486, 25, 29, 325, 363, 199, 200, 487, 368, 369, 370, 488, 489, 490, 19, 491, 56, 62, 544, 545, 546, 547, 548, 549, 550, 765, 766, 767, 768, 769, 770, 771, 772, 773, 774, 775, 776, 824, 825, 826, 827, 828, 829, 830, 807, 808, 809, 810, 811, 812, 813, 814, 815, 816, 817, 818] (by decide +kernel) (by decide +kernel)
set_option maxRecDepth 20000 in
theorem gL_law_X7_toLook : GoodIn wsL_law (wsV RL 97 RX7 yX7_toLook wsX7_toLook) := goodIn_app (goodIn_of _ (by decide +kernel)) ggL_law_X7_toLook
set_option maxRecDepth 20000 in
theorem ggL_law_X8_toLook : GoodIn wsL_law wsX8_toLook := goodIn_r _ [630, 157, 158, 5, 159, 496, 497, 498, 499, 140, 127, 132, 383, 384, 385, 559, 560, 561, 777, 778, 779, 780, 781, 782, 783, 784, 785, 786, 787, 788, 789, 790, 791, 792, 793, 794, 795, 796, 797, 798, 799, 800, 801, 802, 803, 804] (by decide +kernel) (by decide +kernel)
set_option maxRecDepth 20000 in
theorem gL_law_X8_toLook : GoodIn wsL_law (wsV RL 100 RX8 yX8_toLook wsX8_toLook) := goodIn_app (goodIn_of _ (by decide +kernel)) ggL_law_X8_toLook
set_option maxRecDepth 20000 in
theorem ggL_law_X7_strays : GoodIn wsL_law wsX7_strays := goodIn_r _ [634, 25, 29, 42, 342, 343, 344, 19, 345, 57, 346, 347, 348, 28, 349, 87, 86, 350, 635, 636, 41, 637, 638, 639, 640, 641, 642, 120, 118, 119, 643, 644, 645, 646, 647, 648, 649, 650, 651, 652, 365, 366, 367, 58, 368, 2, 369, 370, 363, 199, 200, 653, 545, 546, 547, 548, 549, 550, 654, 655, 656, 657, 658, 659, 412, 413, 414, 56, 62, 660, 217, 218, 219, 661, 422, 423, 424, 64, 425, 662, 437, 438, 439, 67, 61, 60, 440, 663, 427, 428, 429, 65, 664, 665, 666, 765, 766, 767, 768, 769, 770, 771, 772, 773, 774, 775, 776, 807, 808, 809, 810, 811, 812, 813, 814, 815, 816, 817, 818, 824, 825, 826, 827, 828, 829, 830, 836, 837, 838] (by decide +kernel) (by decide +kernel)
set_option maxRecDepth 20000 in
theorem gL_law_X7_strays : GoodIn wsL_law (wsV RL 101 RX7 yX7_strays wsX7_strays) := goodIn_app (goodIn_of _ (by decide +kernel)) ggL_law_X7_strays
set_option maxRecDepth 20000 in
theorem ggL_law_X8_strays : GoodIn wsL_law wsX8_strays := goodIn_r _ [670, 671, 132, 140, 355, 356, 357, 5, 358, 311, 157, 158, 159, 672, 673, 674, 675, 136, 137, 379, 380, 381, 382, 312, 383, 384, 385, 676, 677, 678, 559, 560, 561, 679, 680, 681, 450, 451, 452, 453, 313, 129, 454, 455, 456, 457, 127, 458, 459, 460, 461, 462, 463, 464, 465, 130, 466, 467, 468, 469, 131, 682, 683, 684, 777, 778, 779, 780, 781, 782, 783, 784, 785, 786, 787, 788, 789, 790, 791, 792, 793, 794, 795, 796, 797, 798, 799, 800, 801, 802, 803, 804] (by decide +kernel) (by decide +kernel)
set_option maxRecDepth 20000 in
theorem gL_law_X8_strays : GoodIn wsL_law (wsV RL 105 RX8 yX8_strays wsX8_strays) := goodIn_app (goodIn_of _ (by decide +kernel)) ggL_law_X8_strays
set_option maxRecDepth 20000 in
theorem ggL_law_X7_oneMore : GoodIn wsL_law wsX7_oneMore := goodIn_r _ [688, 25, 29, 301, 689, 42, 342, 343, 344, 19, 345, 57, 346, 347, 348, 28, 349, 87, 86, 350, 690, 412, 413, 414, 56, 62, 638, 639, 640, 41, 641, 642, 120, 118, 119, 643, 644, 645, 646, 647, 636, 637, 648, 649, 650, 651, 652, 365, 366, 367, 58, 368, 2, 369, 370, 363, 199, 200, 653, 545, 546, 547, 548, 549, 550, 654, 655, 656, 657, 658, 659, 660, 217, 218, 219, 661, 422, 423, 424, 64, 425, 662, 437, 438, 439, 67, 61, 60, 440, 663, 427, 428, 429, 65, 765, 766, 767, 768, 769, 770, 771, 772, 773, 774, 775, 776, 807, 808, 809, 810, 811, 812, 813, 814, 815, 816, 817, 818, 824, 825, 826, 827, 828, 829, 830, 836, 837, 838] (by decide +kernel) (by decide +kernel)
set_option maxRecDepth 20000 in
theorem gL_law_X7_oneMore : GoodIn wsL_law (wsV RL 106 RX7 yX7_oneMore wsX7_oneMore) := goodIn_app (goodIn_of _ (by decide +kernel)) ggL_law_X7_oneMore
set_option maxRecDepth 20000 in
theorem ggL_law_X8_oneMore : GoodIn wsL_law wsX8_oneMore := goodIn_r _ [694, 695, 132, 140, 129, 130, 312, 127, 355, 356, 357, 5, 358, 311, 157, 158, 159, 454, 455, 456, 457, 672, 673, 674, 675, 136, 137, 379, 380, 381, 382, 383, 384, 385, 676, 677, 678, 559, 560, 561, 679, 680, 681, 450, 451, 452, 453, 313, 458, 459, 460, 461, 462, 463, 464, 465, 466, 467, 468, 469, 131, 777, 778, 779, 780, 781, 782, 783, 784, 785, 786, 787, 788, 789, 790, 791, 792, 793, 794, 795, 796, 797, 798, 799, 800, 801, 802, 803, 804] (by decide +kernel) (by decide +kernel)
set_option maxRecDepth 20000 in
theorem gL_law_X8_oneMore : GoodIn wsL_law (wsV RL 109 RX8 yX8_oneMore wsX8_oneMore) := goodIn_app (goodIn_of _ (by decide +kernel)) ggL_law_X8_oneMore
set_option maxRecDepth 20000 in
theorem ggL_law_X7_seed : GoodIn wsL_law wsX7_seed := goodIn_r _ [699, 46, 765, 766, 767, 768, 769, 770, 771, 772, 773, 774, 775, 776] (by decide +kernel) (by decide +kernel)
set_option maxRecDepth 20000 in
theorem gL_law_X7_seed : GoodIn wsL_law (wsV RL 110 RX7 yX7_seed wsX7_seed) := goodIn_app (goodIn_of _ (by decide +kernel)) ggL_law_X7_seed
set_option maxRecDepth 20000 in
theorem ggL_law_X8_seed : GoodIn wsL_law wsX8_seed := goodIn_r _ [703, 704, 777, 778, 779, 780, 781, 782, 783, 784, 785, 786, 787, 788, 789, 790, 791, 792, 793, 794, 795, 796, 797, 798, 799, 800, 801, 802, 803, 804] (by decide +kernel) (by decide +kernel)
set_option maxRecDepth 20000 in
theorem gL_law_X8_seed : GoodIn wsL_law (wsV RL 114 RX8 yX8_seed wsX8_seed) := goodIn_app (goodIn_of _ (by decide +kernel)) ggL_law_X8_seed
set_option maxRecDepth 20000 in
theorem ggL_law_X7_night : GoodIn wsL_law wsX7_night := goodIn_r _ [708, 30, 29, 25, 709, 404, 405, 28, 406, 81, 82, 83, 84, 85, 86, 342, 343, 344, 19, 345, 57, 346, 347, 348, 349, 87, 350, 710, 711, 712, 2, 713, 339, 46, 714, 715, 364, 365, 366, 367, 58, 368, 369, 370, 363, 199, 200, 544, 545, 546, 547, 548, 549, 550, 716, 717, 718, 407, 408, 409, 410, 411, 412, 413, 414, 56, 62, 415, 217, 218, 219, 416, 417, 418, 419, 420, 421, 422, 423, 424, 64, 425, 426, 427, 428, 429, 65, 430, 431, 432, 433, 434, 435, 436, 437, 438, 439, 67, 61, 60, 440, 719, 720, 721, 722, 765, 766, 767, 768, 769, 770, 771, 772, 773, 774, 775, 776, 824, 825, 826, 827, 828, 829, 830, 807, 808, 809, 810, 811, 812, 813, 814, 815, 816, 817, 818] (by decide +kernel) (by decide +kernel)
set_option maxRecDepth 20000 in
theorem gL_law_X7_night : GoodIn wsL_law (wsV RL 115 RX7 yX7_night wsX7_night) := goodIn_app (goodIn_of _ (by decide +kernel)) ggL_law_X7_night
set_option maxRecDepth 20000 in
theorem ggL_law_X8_night : GoodIn wsL_law wsX8_night := goodIn_r _ [726, 727, 132, 311, 704, 728, 729, 140, 157, 158, 5, 159, 379, 380, 381, 382, 312, 383, 384, 385, 559, 560, 561, 679, 680, 681, 450, 451, 452, 453, 313, 129, 454, 455, 456, 457, 127, 458, 459, 460, 461, 462, 463, 464, 465, 130, 466, 467, 468, 469, 131, 777, 778, 779, 780, 781, 782, 783, 784, 785, 786, 787, 788, 789, 790, 791, 792, 793, 794, 795, 796, 797, 798, 799, 800, 801, 802, 803, 804] (by decide +kernel) (by decide +kernel)
set_option maxRecDepth 20000 in
theorem gL_law_X8_night : GoodIn wsL_law (wsV RL 118 RX8 yX8_night wsX8_night) := goodIn_app (goodIn_of _ (by decide +kernel)) ggL_law_X8_night
set_option maxRecDepth 20000 in
theorem ggL_law_X7_keep : GoodIn wsL_law wsX7_keep := goodIn_r _ [733, 43, 29, 45, 734, 735, 2, 736, 709, 404, 405, 28, 406, 81, 82, 83, 84, 85, 86, 737, 738, 739, 740, 25, 302, 719, 720, 721, 722, 87, 434, 544, 545, 546, 547, 548, 549, 550, 765, 766, 767, 768, 769, 770, 771, 772, 773, 774, 775, 776, 824, 825, 826, 827, 828, 829, 830, 807, 808, 809, 810, 811, 812, 813, 814, 815, 816, 817, 818] (by decide +kernel) (by decide +kernel)
set_option maxRecDepth 20000 in
theorem gL_law_X7_keep : GoodIn wsL_law (wsV RL 119 RX7 yX7_keep wsX7_keep) := goodIn_app (goodIn_of _ (by decide +kernel)) ggL_law_X7_keep
set_option maxRecDepth 20000 in
theorem ggL_law_X8_keep : GoodIn wsL_law wsX8_keep := goodIn_r _ [744, 138, 139, 132, 313, 157, 158, 5, 159, 745, 746, 747, 748, 311, 777, 778, 779, 780, 781, 782, 783, 784, 785, 786, 787, 788, 789, 790, 791, 792, 793, 794, 795, 796, 797, 798, 799, 800, 801, 802, 803, 804] (by decide +kernel) (by decide +kernel)
set_option maxRecDepth 20000 in
theorem gL_law_X8_keep : GoodIn wsL_law (wsV RL 122 RX8 yX8_keep wsX8_keep) := goodIn_app (goodIn_of _ (by decide +kernel)) ggL_law_X8_keep
set_option maxRecDepth 20000 in
theorem ggL_law_X7_again : GoodIn wsL_law wsX7_again := goodIn_r _ [752, 45, 29, 43, 34, 734, 735, 2, 736, 709, 404, 405, 28, 406, 81, 82, 83, 84, 85, 86, 303, 304, 305, 33, 306, 106, 737, 738, 739, 740, 25, 302, 719, 720, 721, 722, 87, 434, 544, 545, 546, 547, 548, 549, 550, 765, 766, 767, 768, 769, 770, 771, 772, 773, 774, 775, 776, 824, 825, 826, 827, 828, 829, 830, 831, 832, 833, 807, 808, 809, 810, 811, 812, 813, 814, 815, 816, 817, 818] (by decide +kernel) (by decide +kernel)
set_option maxRecDepth 20000 in
theorem gL_law_X7_again : GoodIn wsL_law (wsV RL 123 RX7 yX7_again wsX7_again) := goodIn_app (goodIn_of _ (by decide +kernel)) ggL_law_X7_again
set_option maxRecDepth 20000 in
theorem ggL_law_X8_again : GoodIn wsL_law wsX8_again := goodIn_r _ [756, 138, 132, 139, 313, 314, 157, 158, 5, 159, 745, 746, 747, 748, 311, 777, 778, 779, 780, 781, 782, 783, 784, 785, 786, 787, 788, 789, 790, 791, 792, 793, 794, 795, 796, 797, 798, 799, 800, 801, 802, 803, 804] (by decide +kernel) (by decide +kernel)
set_option maxRecDepth 20000 in
theorem gL_law_X8_again : GoodIn wsL_law (wsV RL 126 RX8 yX8_again wsX8_again) := goodIn_app (goodIn_of _ (by decide +kernel)) ggL_law_X8_again
set_option maxRecDepth 20000 in
theorem ggL_law_X7_count : GoodIn wsL_law wsX7_count := goodIn_r _ [760, 16, 145, 25, 301, 302, 29, 323, 325, 689, 34, 512, 390, 719, 720, 721, 28, 722, 87, 434, 86, 765, 766, 767, 768, 769, 770, 771, 772, 773, 774, 775, 776, 805, 806, 807, 808, 809, 810, 811, 812, 813, 814, 815, 816, 817, 818, 824, 825, 826, 827, 828, 829, 830, 831, 832, 833] (by decide +kernel) (by decide +kernel)
set_option maxRecDepth 20000 in
theorem gL_law_X7_count : GoodIn wsL_law (wsV RL 127 RX7 yX7_count wsX7_count) := goodIn_app (goodIn_of _ (by decide +kernel)) ggL_law_X7_count
set_option maxRecDepth 20000 in
theorem ggL_law_X8_count : GoodIn wsL_law wsX8_count := goodIn_r _ [764, 311, 132, 155, 140, 312, 314, 313, 777, 778, 779, 780, 781, 782, 783, 784, 785, 786, 787, 788, 789, 790, 791, 792, 793, 794, 795, 796, 797, 798, 799, 800, 801, 802, 803, 804] (by decide +kernel) (by decide +kernel)
set_option maxRecDepth 20000 in
theorem gL_law_X8_count : GoodIn wsL_law (wsV RL 130 RX8 yX8_count wsX8_count) := goodIn_app (goodIn_of _ (by decide +kernel)) ggL_law_X8_count
theorem dL_law_0 : decode cL_law 0 = .ok (.new 7, 3) := by decide +kernel
theorem dL_law_3 : decode cL_law 3 = .ok (.dup, 1) := by decide +kernel
theorem dL_law_4 : decode cL_law 4 = .ok (.invokespecial 9, 3) := by decide +kernel
theorem dL_law_7 : decode cL_law 7 = .ok (.astore_n 1, 1) := by decide +kernel
theorem dL_law_8 : decode cL_law 8 = .ok (.new 10, 3) := by decide +kernel
theorem dL_law_11 : decode cL_law 11 = .ok (.dup, 1) := by decide +kernel
theorem dL_law_12 : decode cL_law 12 = .ok (.invokespecial 12, 3) := by decide +kernel
theorem dL_law_15 : decode cL_law 15 = .ok (.astore_n 2, 1) := by decide +kernel
theorem dL_law_16 : decode cL_law 16 = .ok (.iconst 0, 1) := by decide +kernel
theorem dL_law_17 : decode cL_law 17 = .ok (.istore_n 3, 1) := by decide +kernel
theorem dL_law_18 : decode cL_law 18 = .ok (.iload_n 3, 1) := by decide +kernel
theorem dL_law_19 : decode cL_law 19 = .ok (.aload_n 0, 1) := by decide +kernel
theorem dL_law_20 : decode cL_law 20 = .ok (.arraylength, 1) := by decide +kernel
theorem dL_law_21 : decode cL_law 21 = .ok (.iconst 4, 1) := by decide +kernel
theorem dL_law_22 : decode cL_law 22 = .ok (.isub, 1) := by decide +kernel
theorem dL_law_23 : decode cL_law 23 = .ok (.if_icmp .gt 903, 3) := by decide +kernel
theorem dL_law_26 : decode cL_law 26 = .ok (.aload_n 0, 1) := by decide +kernel
theorem dL_law_27 : decode cL_law 27 = .ok (.iload_n 3, 1) := by decide +kernel
theorem dL_law_28 : decode cL_law 28 = .ok (.iaload, 1) := by decide +kernel
theorem dL_law_29 : decode cL_law 29 = .ok (.bipush 31, 2) := by decide +kernel
theorem dL_law_31 : decode cL_law 31 = .ok (.iand, 1) := by decide +kernel
theorem dL_law_32 : decode cL_law 32 = .ok (.tableswitch 888 0 26 #[124, 187, 200, 213, 226, 259, 292, 315, 354, 387, 410, 443, 466, 479, 502, 515, 528, 551, 584, 627, 650, 709, 742, 796, 819, 842, 865], 124) := by decide +kernel
theorem dL_law_156 : decode cL_law 156 = .ok (.aload_n 1, 1) := by decide +kernel
theorem dL_law_157 : decode cL_law 157 = .ok (.aload_n 0, 1) := by decide +kernel
theorem dL_law_158 : decode cL_law 158 = .ok (.iload_n 3, 1) := by decide +kernel
theorem dL_law_159 : decode cL_law 159 = .ok (.iconst 1, 1) := by decide +kernel
theorem dL_law_160 : decode cL_law 160 = .ok (.iadd, 1) := by decide +kernel
theorem dL_law_161 : decode cL_law 161 = .ok (.iaload, 1) := by decide +kernel
theorem dL_law_162 : decode cL_law 162 = .ok (.aload_n 0, 1) := by decide +kernel
theorem dL_law_163 : decode cL_law 163 = .ok (.iload_n 3, 1) := by decide +kernel
theorem dL_law_164 : decode cL_law 164 = .ok (.iconst 2, 1) := by decide +kernel
theorem dL_law_165 : decode cL_law 165 = .ok (.iadd, 1) := by decide +kernel
theorem dL_law_166 : decode cL_law 166 = .ok (.iaload, 1) := by decide +kernel
theorem dL_law_167 : decode cL_law 167 = .ok (.i2l, 1) := by decide +kernel
theorem dL_law_168 : decode cL_law 168 = .ok (.bipush 32, 2) := by decide +kernel
theorem dL_law_170 : decode cL_law 170 = .ok (.lshl, 1) := by decide +kernel
theorem dL_law_171 : decode cL_law 171 = .ok (.aload_n 0, 1) := by decide +kernel
theorem dL_law_172 : decode cL_law 172 = .ok (.iload_n 3, 1) := by decide +kernel
theorem dL_law_173 : decode cL_law 173 = .ok (.iconst 3, 1) := by decide +kernel
theorem dL_law_174 : decode cL_law 174 = .ok (.iadd, 1) := by decide +kernel
theorem dL_law_175 : decode cL_law 175 = .ok (.iaload, 1) := by decide +kernel
theorem dL_law_176 : decode cL_law 176 = .ok (.i2l, 1) := by decide +kernel
theorem dL_law_177 : decode cL_law 177 = .ok (.ldc2_w 13, 3) := by decide +kernel
theorem dL_law_180 : decode cL_law 180 = .ok (.land, 1) := by decide +kernel
theorem dL_law_181 : decode cL_law 181 = .ok (.lor, 1) := by decide +kernel
theorem dL_law_182 : decode cL_law 182 = .ok (.invokevirtual 15, 3) := by decide +kernel
theorem dL_law_185 : decode cL_law 185 = .ok (.aload_n 2, 1) := by decide +kernel
theorem dL_law_186 : decode cL_law 186 = .ok (.aload_n 0, 1) := by decide +kernel
theorem dL_law_187 : decode cL_law 187 = .ok (.iload_n 3, 1) := by decide +kernel
theorem dL_law_188 : decode cL_law 188 = .ok (.iconst 1, 1) := by decide +kernel
theorem dL_law_189 : decode cL_law 189 = .ok (.iadd, 1) := by decide +kernel
theorem dL_law_190 : decode cL_law 190 = .ok (.iaload, 1) := by decide +kernel
theorem dL_law_191 : decode cL_law 191 = .ok (.aload_n 0, 1) := by decide +kernel
theorem dL_law_192 : decode cL_law 192 = .ok (.iload_n 3, 1) := by decide +kernel
theorem dL_law_193 : decode cL_law 193 = .ok (.iconst 2, 1) := by decide +kernel
theorem dL_law_194 : decode cL_law 194 = .ok (.iadd, 1) := by decide +kernel
theorem dL_law_195 : decode cL_law 195 = .ok (.iaload, 1) := by decide +kernel
theorem dL_law_196 : decode cL_law 196 = .ok (.i2l, 1) := by decide +kernel
theorem dL_law_197 : decode cL_law 197 = .ok (.bipush 32, 2) := by decide +kernel
theorem dL_law_199 : decode cL_law 199 = .ok (.lshl, 1) := by decide +kernel
theorem dL_law_200 : decode cL_law 200 = .ok (.aload_n 0, 1) := by decide +kernel
theorem dL_law_201 : decode cL_law 201 = .ok (.iload_n 3, 1) := by decide +kernel
theorem dL_law_202 : decode cL_law 202 = .ok (.iconst 3, 1) := by decide +kernel
theorem dL_law_203 : decode cL_law 203 = .ok (.iadd, 1) := by decide +kernel
theorem dL_law_204 : decode cL_law 204 = .ok (.iaload, 1) := by decide +kernel
theorem dL_law_205 : decode cL_law 205 = .ok (.i2l, 1) := by decide +kernel
theorem dL_law_206 : decode cL_law 206 = .ok (.ldc2_w 13, 3) := by decide +kernel
theorem dL_law_209 : decode cL_law 209 = .ok (.land, 1) := by decide +kernel
theorem dL_law_210 : decode cL_law 210 = .ok (.lor, 1) := by decide +kernel
theorem dL_law_211 : decode cL_law 211 = .ok (.invokevirtual 19, 3) := by decide +kernel
theorem dL_law_214 : decode cL_law 214 = .ok (.if_icmp .eq 706, 3) := by decide +kernel
theorem dL_law_217 : decode cL_law 217 = .ok (.iconst 0, 1) := by decide +kernel
theorem dL_law_218 : decode cL_law 218 = .ok (.ireturn, 1) := by decide +kernel
theorem dL_law_219 : decode cL_law 219 = .ok (.aload_n 1, 1) := by decide +kernel
theorem dL_law_220 : decode cL_law 220 = .ok (.invokevirtual 20, 3) := by decide +kernel
theorem dL_law_223 : decode cL_law 223 = .ok (.aload_n 2, 1) := by decide +kernel
theorem dL_law_224 : decode cL_law 224 = .ok (.invokevirtual 24, 3) := by decide +kernel
theorem dL_law_227 : decode cL_law 227 = .ok (.if_icmp .eq 693, 3) := by decide +kernel
theorem dL_law_230 : decode cL_law 230 = .ok (.iconst 0, 1) := by decide +kernel
theorem dL_law_231 : decode cL_law 231 = .ok (.ireturn, 1) := by decide +kernel
theorem dL_law_232 : decode cL_law 232 = .ok (.aload_n 1, 1) := by decide +kernel
theorem dL_law_233 : decode cL_law 233 = .ok (.invokevirtual 25, 3) := by decide +kernel
theorem dL_law_236 : decode cL_law 236 = .ok (.aload_n 2, 1) := by decide +kernel
theorem dL_law_237 : decode cL_law 237 = .ok (.invokevirtual 28, 3) := by decide +kernel
theorem dL_law_240 : decode cL_law 240 = .ok (.if_icmp .eq 680, 3) := by decide +kernel
theorem dL_law_243 : decode cL_law 243 = .ok (.iconst 0, 1) := by decide +kernel
theorem dL_law_244 : decode cL_law 244 = .ok (.ireturn, 1) := by decide +kernel
theorem dL_law_245 : decode cL_law 245 = .ok (.aload_n 1, 1) := by decide +kernel
theorem dL_law_246 : decode cL_law 246 = .ok (.invokevirtual 29, 3) := by decide +kernel
theorem dL_law_249 : decode cL_law 249 = .ok (.aload_n 2, 1) := by decide +kernel
theorem dL_law_250 : decode cL_law 250 = .ok (.invokevirtual 32, 3) := by decide +kernel
theorem dL_law_253 : decode cL_law 253 = .ok (.if_icmp .eq 667, 3) := by decide +kernel
theorem dL_law_256 : decode cL_law 256 = .ok (.iconst 0, 1) := by decide +kernel
theorem dL_law_257 : decode cL_law 257 = .ok (.ireturn, 1) := by decide +kernel
theorem dL_law_258 : decode cL_law 258 = .ok (.aload_n 1, 1) := by decide +kernel
theorem dL_law_259 : decode cL_law 259 = .ok (.aload_n 0, 1) := by decide +kernel
theorem dL_law_260 : decode cL_law 260 = .ok (.iload_n 3, 1) := by decide +kernel
theorem dL_law_261 : decode cL_law 261 = .ok (.iconst 1, 1) := by decide +kernel
theorem dL_law_262 : decode cL_law 262 = .ok (.iadd, 1) := by decide +kernel
theorem dL_law_263 : decode cL_law 263 = .ok (.iaload, 1) := by decide +kernel
theorem dL_law_264 : decode cL_law 264 = .ok (.aload_n 0, 1) := by decide +kernel
theorem dL_law_265 : decode cL_law 265 = .ok (.iload_n 3, 1) := by decide +kernel
theorem dL_law_266 : decode cL_law 266 = .ok (.iconst 2, 1) := by decide +kernel
theorem dL_law_267 : decode cL_law 267 = .ok (.iadd, 1) := by decide +kernel
theorem dL_law_268 : decode cL_law 268 = .ok (.iaload, 1) := by decide +kernel
theorem dL_law_269 : decode cL_law 269 = .ok (.invokevirtual 33, 3) := by decide +kernel
theorem dL_law_272 : decode cL_law 272 = .ok (.aload_n 2, 1) := by decide +kernel
theorem dL_law_273 : decode cL_law 273 = .ok (.aload_n 0, 1) := by decide +kernel
theorem dL_law_274 : decode cL_law 274 = .ok (.iload_n 3, 1) := by decide +kernel
theorem dL_law_275 : decode cL_law 275 = .ok (.iconst 1, 1) := by decide +kernel
theorem dL_law_276 : decode cL_law 276 = .ok (.iadd, 1) := by decide +kernel
theorem dL_law_277 : decode cL_law 277 = .ok (.iaload, 1) := by decide +kernel
theorem dL_law_278 : decode cL_law 278 = .ok (.aload_n 0, 1) := by decide +kernel
theorem dL_law_279 : decode cL_law 279 = .ok (.iload_n 3, 1) := by decide +kernel
theorem dL_law_280 : decode cL_law 280 = .ok (.iconst 2, 1) := by decide +kernel
theorem dL_law_281 : decode cL_law 281 = .ok (.iadd, 1) := by decide +kernel
theorem dL_law_282 : decode cL_law 282 = .ok (.iaload, 1) := by decide +kernel
theorem dL_law_283 : decode cL_law 283 = .ok (.invokevirtual 37, 3) := by decide +kernel
theorem dL_law_286 : decode cL_law 286 = .ok (.if_icmp .eq 634, 3) := by decide +kernel
theorem dL_law_289 : decode cL_law 289 = .ok (.iconst 0, 1) := by decide +kernel
theorem dL_law_290 : decode cL_law 290 = .ok (.ireturn, 1) := by decide +kernel
theorem dL_law_291 : decode cL_law 291 = .ok (.aload_n 1, 1) := by decide +kernel
theorem dL_law_292 : decode cL_law 292 = .ok (.aload_n 0, 1) := by decide +kernel
theorem dL_law_293 : decode cL_law 293 = .ok (.iload_n 3, 1) := by decide +kernel
theorem dL_law_294 : decode cL_law 294 = .ok (.iconst 1, 1) := by decide +kernel
theorem dL_law_295 : decode cL_law 295 = .ok (.iadd, 1) := by decide +kernel
theorem dL_law_296 : decode cL_law 296 = .ok (.iaload, 1) := by decide +kernel
theorem dL_law_297 : decode cL_law 297 = .ok (.aload_n 0, 1) := by decide +kernel
theorem dL_law_298 : decode cL_law 298 = .ok (.iload_n 3, 1) := by decide +kernel
theorem dL_law_299 : decode cL_law 299 = .ok (.iconst 2, 1) := by decide +kernel
theorem dL_law_300 : decode cL_law 300 = .ok (.iadd, 1) := by decide +kernel
theorem dL_law_301 : decode cL_law 301 = .ok (.iaload, 1) := by decide +kernel
theorem dL_law_302 : decode cL_law 302 = .ok (.invokevirtual 38, 3) := by decide +kernel
theorem dL_law_305 : decode cL_law 305 = .ok (.aload_n 2, 1) := by decide +kernel
theorem dL_law_306 : decode cL_law 306 = .ok (.aload_n 0, 1) := by decide +kernel
theorem dL_law_307 : decode cL_law 307 = .ok (.iload_n 3, 1) := by decide +kernel
theorem dL_law_308 : decode cL_law 308 = .ok (.iconst 1, 1) := by decide +kernel
theorem dL_law_309 : decode cL_law 309 = .ok (.iadd, 1) := by decide +kernel
theorem dL_law_310 : decode cL_law 310 = .ok (.iaload, 1) := by decide +kernel
theorem dL_law_311 : decode cL_law 311 = .ok (.aload_n 0, 1) := by decide +kernel
theorem dL_law_312 : decode cL_law 312 = .ok (.iload_n 3, 1) := by decide +kernel
theorem dL_law_313 : decode cL_law 313 = .ok (.iconst 2, 1) := by decide +kernel
theorem dL_law_314 : decode cL_law 314 = .ok (.iadd, 1) := by decide +kernel
theorem dL_law_315 : decode cL_law 315 = .ok (.iaload, 1) := by decide +kernel
theorem dL_law_316 : decode cL_law 316 = .ok (.invokevirtual 41, 3) := by decide +kernel
theorem dL_law_319 : decode cL_law 319 = .ok (.if_icmp .eq 601, 3) := by decide +kernel
theorem dL_law_322 : decode cL_law 322 = .ok (.iconst 0, 1) := by decide +kernel
theorem dL_law_323 : decode cL_law 323 = .ok (.ireturn, 1) := by decide +kernel
theorem dL_law_324 : decode cL_law 324 = .ok (.aload_n 1, 1) := by decide +kernel
theorem dL_law_325 : decode cL_law 325 = .ok (.aload_n 0, 1) := by decide +kernel
theorem dL_law_326 : decode cL_law 326 = .ok (.iload_n 3, 1) := by decide +kernel
theorem dL_law_327 : decode cL_law 327 = .ok (.iconst 1, 1) := by decide +kernel
theorem dL_law_328 : decode cL_law 328 = .ok (.iadd, 1) := by decide +kernel
theorem dL_law_329 : decode cL_law 329 = .ok (.iaload, 1) := by decide +kernel
theorem dL_law_330 : decode cL_law 330 = .ok (.invokevirtual 42, 3) := by decide +kernel
theorem dL_law_333 : decode cL_law 333 = .ok (.aload_n 2, 1) := by decide +kernel
theorem dL_law_334 : decode cL_law 334 = .ok (.aload_n 0, 1) := by decide +kernel
theorem dL_law_335 : decode cL_law 335 = .ok (.iload_n 3, 1) := by decide +kernel
theorem dL_law_336 : decode cL_law 336 = .ok (.iconst 1, 1) := by decide +kernel
theorem dL_law_337 : decode cL_law 337 = .ok (.iadd, 1) := by decide +kernel
theorem dL_law_338 : decode cL_law 338 = .ok (.iaload, 1) := by decide +kernel
theorem dL_law_339 : decode cL_law 339 = .ok (.invokevirtual 46, 3) := by decide +kernel
theorem dL_law_342 : decode cL_law 342 = .ok (.if_icmp .eq 578, 3) := by decide +kernel
theorem dL_law_345 : decode cL_law 345 = .ok (.iconst 0, 1) := by decide +kernel
theorem dL_law_346 : decode cL_law 346 = .ok (.ireturn, 1) := by decide +kernel
theorem dL_law_347 : decode cL_law 347 = .ok (.aload_n 1, 1) := by decide +kernel
theorem dL_law_348 : decode cL_law 348 = .ok (.aload_n 0, 1) := by decide +kernel
theorem dL_law_349 : decode cL_law 349 = .ok (.iload_n 3, 1) := by decide +kernel
theorem dL_law_350 : decode cL_law 350 = .ok (.iconst 1, 1) := by decide +kernel
theorem dL_law_351 : decode cL_law 351 = .ok (.iadd, 1) := by decide +kernel
theorem dL_law_352 : decode cL_law 352 = .ok (.iaload, 1) := by decide +kernel
theorem dL_law_353 : decode cL_law 353 = .ok (.ifCond .eq 7, 3) := by decide +kernel
theorem dL_law_356 : decode cL_law 356 = .ok (.iconst 1, 1) := by decide +kernel
theorem dL_law_357 : decode cL_law 357 = .ok (.goto 4, 3) := by decide +kernel
theorem dL_law_360 : decode cL_law 360 = .ok (.iconst 0, 1) := by decide +kernel
theorem dL_law_361 : decode cL_law 361 = .ok (.invokevirtual 47, 3) := by decide +kernel
theorem dL_law_364 : decode cL_law 364 = .ok (.aload_n 2, 1) := by decide +kernel
theorem dL_law_365 : decode cL_law 365 = .ok (.aload_n 0, 1) := by decide +kernel
theorem dL_law_366 : decode cL_law 366 = .ok (.iload_n 3, 1) := by decide +kernel
theorem dL_law_367 : decode cL_law 367 = .ok (.iconst 1, 1) := by decide +kernel
theorem dL_law_368 : decode cL_law 368 = .ok (.iadd, 1) := by decide +kernel
theorem dL_law_369 : decode cL_law 369 = .ok (.iaload, 1) := by decide +kernel
theorem dL_law_370 : decode cL_law 370 = .ok (.ifCond .eq 7, 3) := by decide +kernel
theorem dL_law_373 : decode cL_law 373 = .ok (.iconst 1, 1) := by decide +kernel
theorem dL_law_374 : decode cL_law 374 = .ok (.goto 4, 3) := by decide +kernel
theorem dL_law_377 : decode cL_law 377 = .ok (.iconst 0, 1) := by decide +kernel
theorem dL_law_378 : decode cL_law 378 = .ok (.invokevirtual 51, 3) := by decide +kernel
theorem dL_law_381 : decode cL_law 381 = .ok (.if_icmp .eq 539, 3) := by decide +kernel
theorem dL_law_384 : decode cL_law 384 = .ok (.iconst 0, 1) := by decide +kernel
theorem dL_law_385 : decode cL_law 385 = .ok (.ireturn, 1) := by decide +kernel
theorem dL_law_386 : decode cL_law 386 = .ok (.aload_n 1, 1) := by decide +kernel
theorem dL_law_387 : decode cL_law 387 = .ok (.aload_n 0, 1) := by decide +kernel
theorem dL_law_388 : decode cL_law 388 = .ok (.iload_n 3, 1) := by decide +kernel
theorem dL_law_389 : decode cL_law 389 = .ok (.iconst 1, 1) := by decide +kernel
theorem dL_law_390 : decode cL_law 390 = .ok (.iadd, 1) := by decide +kernel
theorem dL_law_391 : decode cL_law 391 = .ok (.iaload, 1) := by decide +kernel
theorem dL_law_392 : decode cL_law 392 = .ok (.aload_n 0, 1) := by decide +kernel
theorem dL_law_393 : decode cL_law 393 = .ok (.iload_n 3, 1) := by decide +kernel
theorem dL_law_394 : decode cL_law 394 = .ok (.iconst 2, 1) := by decide +kernel
theorem dL_law_395 : decode cL_law 395 = .ok (.iadd, 1) := by decide +kernel
theorem dL_law_396 : decode cL_law 396 = .ok (.iaload, 1) := by decide +kernel
theorem dL_law_397 : decode cL_law 397 = .ok (.invokevirtual 52, 3) := by decide +kernel
theorem dL_law_400 : decode cL_law 400 = .ok (.aload_n 2, 1) := by decide +kernel
theorem dL_law_401 : decode cL_law 401 = .ok (.aload_n 0, 1) := by decide +kernel
theorem dL_law_402 : decode cL_law 402 = .ok (.iload_n 3, 1) := by decide +kernel
theorem dL_law_403 : decode cL_law 403 = .ok (.iconst 1, 1) := by decide +kernel
theorem dL_law_404 : decode cL_law 404 = .ok (.iadd, 1) := by decide +kernel
theorem dL_law_405 : decode cL_law 405 = .ok (.iaload, 1) := by decide +kernel
theorem dL_law_406 : decode cL_law 406 = .ok (.aload_n 0, 1) := by decide +kernel
theorem dL_law_407 : decode cL_law 407 = .ok (.iload_n 3, 1) := by decide +kernel
theorem dL_law_408 : decode cL_law 408 = .ok (.iconst 2, 1) := by decide +kernel
theorem dL_law_409 : decode cL_law 409 = .ok (.iadd, 1) := by decide +kernel
theorem dL_law_410 : decode cL_law 410 = .ok (.iaload, 1) := by decide +kernel
theorem dL_law_411 : decode cL_law 411 = .ok (.invokevirtual 55, 3) := by decide +kernel
theorem dL_law_414 : decode cL_law 414 = .ok (.if_icmp .eq 506, 3) := by decide +kernel
theorem dL_law_417 : decode cL_law 417 = .ok (.iconst 0, 1) := by decide +kernel
theorem dL_law_418 : decode cL_law 418 = .ok (.ireturn, 1) := by decide +kernel
theorem dL_law_419 : decode cL_law 419 = .ok (.aload_n 1, 1) := by decide +kernel
theorem dL_law_420 : decode cL_law 420 = .ok (.aload_n 0, 1) := by decide +kernel
theorem dL_law_421 : decode cL_law 421 = .ok (.iload_n 3, 1) := by decide +kernel
theorem dL_law_422 : decode cL_law 422 = .ok (.iconst 1, 1) := by decide +kernel
theorem dL_law_423 : decode cL_law 423 = .ok (.iadd, 1) := by decide +kernel
theorem dL_law_424 : decode cL_law 424 = .ok (.iaload, 1) := by decide +kernel
theorem dL_law_425 : decode cL_law 425 = .ok (.invokevirtual 56, 3) := by decide +kernel
theorem dL_law_428 : decode cL_law 428 = .ok (.aload_n 2, 1) := by decide +kernel
theorem dL_law_429 : decode cL_law 429 = .ok (.aload_n 0, 1) := by decide +kernel
theorem dL_law_430 : decode cL_law 430 = .ok (.iload_n 3, 1) := by decide +kernel
theorem dL_law_431 : decode cL_law 431 = .ok (.iconst 1, 1) := by decide +kernel
theorem dL_law_432 : decode cL_law 432 = .ok (.iadd, 1) := by decide +kernel
theorem dL_law_433 : decode cL_law 433 = .ok (.iaload, 1) := by decide +kernel
theorem dL_law_434 : decode cL_law 434 = .ok (.invokevirtual 59, 3) := by decide +kernel
theorem dL_law_437 : decode cL_law 437 = .ok (.if_icmp .eq 483, 3) := by decide +kernel
theorem dL_law_440 : decode cL_law 440 = .ok (.iconst 0, 1) := by decide +kernel
theorem dL_law_441 : decode cL_law 441 = .ok (.ireturn, 1) := by decide +kernel
theorem dL_law_442 : decode cL_law 442 = .ok (.aload_n 1, 1) := by decide +kernel
theorem dL_law_443 : decode cL_law 443 = .ok (.aload_n 0, 1) := by decide +kernel
theorem dL_law_444 : decode cL_law 444 = .ok (.iload_n 3, 1) := by decide +kernel
theorem dL_law_445 : decode cL_law 445 = .ok (.iconst 1, 1) := by decide +kernel
theorem dL_law_446 : decode cL_law 446 = .ok (.iadd, 1) := by decide +kernel
theorem dL_law_447 : decode cL_law 447 = .ok (.iaload, 1) := by decide +kernel
theorem dL_law_448 : decode cL_law 448 = .ok (.aload_n 0, 1) := by decide +kernel
theorem dL_law_449 : decode cL_law 449 = .ok (.iload_n 3, 1) := by decide +kernel
theorem dL_law_450 : decode cL_law 450 = .ok (.iconst 2, 1) := by decide +kernel
theorem dL_law_451 : decode cL_law 451 = .ok (.iadd, 1) := by decide +kernel
theorem dL_law_452 : decode cL_law 452 = .ok (.iaload, 1) := by decide +kernel
theorem dL_law_453 : decode cL_law 453 = .ok (.invokevirtual 60, 3) := by decide +kernel
theorem dL_law_456 : decode cL_law 456 = .ok (.aload_n 2, 1) := by decide +kernel
theorem dL_law_457 : decode cL_law 457 = .ok (.aload_n 0, 1) := by decide +kernel
theorem dL_law_458 : decode cL_law 458 = .ok (.iload_n 3, 1) := by decide +kernel
theorem dL_law_459 : decode cL_law 459 = .ok (.iconst 1, 1) := by decide +kernel
theorem dL_law_460 : decode cL_law 460 = .ok (.iadd, 1) := by decide +kernel
theorem dL_law_461 : decode cL_law 461 = .ok (.iaload, 1) := by decide +kernel
theorem dL_law_462 : decode cL_law 462 = .ok (.aload_n 0, 1) := by decide +kernel
theorem dL_law_463 : decode cL_law 463 = .ok (.iload_n 3, 1) := by decide +kernel
theorem dL_law_464 : decode cL_law 464 = .ok (.iconst 2, 1) := by decide +kernel
theorem dL_law_465 : decode cL_law 465 = .ok (.iadd, 1) := by decide +kernel
theorem dL_law_466 : decode cL_law 466 = .ok (.iaload, 1) := by decide +kernel
theorem dL_law_467 : decode cL_law 467 = .ok (.invokevirtual 63, 3) := by decide +kernel
theorem dL_law_470 : decode cL_law 470 = .ok (.if_icmp .eq 450, 3) := by decide +kernel
theorem dL_law_473 : decode cL_law 473 = .ok (.iconst 0, 1) := by decide +kernel
theorem dL_law_474 : decode cL_law 474 = .ok (.ireturn, 1) := by decide +kernel
theorem dL_law_475 : decode cL_law 475 = .ok (.aload_n 1, 1) := by decide +kernel
theorem dL_law_476 : decode cL_law 476 = .ok (.aload_n 0, 1) := by decide +kernel
theorem dL_law_477 : decode cL_law 477 = .ok (.iload_n 3, 1) := by decide +kernel
theorem dL_law_478 : decode cL_law 478 = .ok (.iconst 1, 1) := by decide +kernel
theorem dL_law_479 : decode cL_law 479 = .ok (.iadd, 1) := by decide +kernel
theorem dL_law_480 : decode cL_law 480 = .ok (.iaload, 1) := by decide +kernel
theorem dL_law_481 : decode cL_law 481 = .ok (.invokevirtual 64, 3) := by decide +kernel
theorem dL_law_484 : decode cL_law 484 = .ok (.aload_n 2, 1) := by decide +kernel
theorem dL_law_485 : decode cL_law 485 = .ok (.aload_n 0, 1) := by decide +kernel
theorem dL_law_486 : decode cL_law 486 = .ok (.iload_n 3, 1) := by decide +kernel
theorem dL_law_487 : decode cL_law 487 = .ok (.iconst 1, 1) := by decide +kernel
theorem dL_law_488 : decode cL_law 488 = .ok (.iadd, 1) := by decide +kernel
theorem dL_law_489 : decode cL_law 489 = .ok (.iaload, 1) := by decide +kernel
theorem dL_law_490 : decode cL_law 490 = .ok (.invokevirtual 67, 3) := by decide +kernel
theorem dL_law_493 : decode cL_law 493 = .ok (.if_icmp .eq 427, 3) := by decide +kernel
theorem dL_law_496 : decode cL_law 496 = .ok (.iconst 0, 1) := by decide +kernel
theorem dL_law_497 : decode cL_law 497 = .ok (.ireturn, 1) := by decide +kernel
theorem dL_law_498 : decode cL_law 498 = .ok (.aload_n 1, 1) := by decide +kernel
theorem dL_law_499 : decode cL_law 499 = .ok (.invokevirtual 68, 3) := by decide +kernel
theorem dL_law_502 : decode cL_law 502 = .ok (.aload_n 2, 1) := by decide +kernel
theorem dL_law_503 : decode cL_law 503 = .ok (.invokevirtual 71, 3) := by decide +kernel
theorem dL_law_506 : decode cL_law 506 = .ok (.if_icmp .eq 414, 3) := by decide +kernel
theorem dL_law_509 : decode cL_law 509 = .ok (.iconst 0, 1) := by decide +kernel
theorem dL_law_510 : decode cL_law 510 = .ok (.ireturn, 1) := by decide +kernel
theorem dL_law_511 : decode cL_law 511 = .ok (.aload_n 1, 1) := by decide +kernel
theorem dL_law_512 : decode cL_law 512 = .ok (.aload_n 0, 1) := by decide +kernel
theorem dL_law_513 : decode cL_law 513 = .ok (.iload_n 3, 1) := by decide +kernel
theorem dL_law_514 : decode cL_law 514 = .ok (.iconst 1, 1) := by decide +kernel
theorem dL_law_515 : decode cL_law 515 = .ok (.iadd, 1) := by decide +kernel
theorem dL_law_516 : decode cL_law 516 = .ok (.iaload, 1) := by decide +kernel
theorem dL_law_517 : decode cL_law 517 = .ok (.invokevirtual 72, 3) := by decide +kernel
theorem dL_law_520 : decode cL_law 520 = .ok (.aload_n 2, 1) := by decide +kernel
theorem dL_law_521 : decode cL_law 521 = .ok (.aload_n 0, 1) := by decide +kernel
theorem dL_law_522 : decode cL_law 522 = .ok (.iload_n 3, 1) := by decide +kernel
theorem dL_law_523 : decode cL_law 523 = .ok (.iconst 1, 1) := by decide +kernel
theorem dL_law_524 : decode cL_law 524 = .ok (.iadd, 1) := by decide +kernel
theorem dL_law_525 : decode cL_law 525 = .ok (.iaload, 1) := by decide +kernel
theorem dL_law_526 : decode cL_law 526 = .ok (.invokevirtual 75, 3) := by decide +kernel
theorem dL_law_529 : decode cL_law 529 = .ok (.if_icmp .eq 391, 3) := by decide +kernel
theorem dL_law_532 : decode cL_law 532 = .ok (.iconst 0, 1) := by decide +kernel
theorem dL_law_533 : decode cL_law 533 = .ok (.ireturn, 1) := by decide +kernel
theorem dL_law_534 : decode cL_law 534 = .ok (.aload_n 1, 1) := by decide +kernel
theorem dL_law_535 : decode cL_law 535 = .ok (.invokevirtual 76, 3) := by decide +kernel
theorem dL_law_538 : decode cL_law 538 = .ok (.aload_n 2, 1) := by decide +kernel
theorem dL_law_539 : decode cL_law 539 = .ok (.invokevirtual 79, 3) := by decide +kernel
theorem dL_law_542 : decode cL_law 542 = .ok (.if_icmp .eq 378, 3) := by decide +kernel
theorem dL_law_545 : decode cL_law 545 = .ok (.iconst 0, 1) := by decide +kernel
theorem dL_law_546 : decode cL_law 546 = .ok (.ireturn, 1) := by decide +kernel
theorem dL_law_547 : decode cL_law 547 = .ok (.aload_n 1, 1) := by decide +kernel
theorem dL_law_548 : decode cL_law 548 = .ok (.invokevirtual 80, 3) := by decide +kernel
theorem dL_law_551 : decode cL_law 551 = .ok (.aload_n 2, 1) := by decide +kernel
theorem dL_law_552 : decode cL_law 552 = .ok (.invokevirtual 83, 3) := by decide +kernel
theorem dL_law_555 : decode cL_law 555 = .ok (.if_icmp .eq 365, 3) := by decide +kernel
theorem dL_law_558 : decode cL_law 558 = .ok (.iconst 0, 1) := by decide +kernel
theorem dL_law_559 : decode cL_law 559 = .ok (.ireturn, 1) := by decide +kernel
theorem dL_law_560 : decode cL_law 560 = .ok (.aload_n 1, 1) := by decide +kernel
theorem dL_law_561 : decode cL_law 561 = .ok (.aload_n 0, 1) := by decide +kernel
theorem dL_law_562 : decode cL_law 562 = .ok (.iload_n 3, 1) := by decide +kernel
theorem dL_law_563 : decode cL_law 563 = .ok (.iconst 1, 1) := by decide +kernel
theorem dL_law_564 : decode cL_law 564 = .ok (.iadd, 1) := by decide +kernel
theorem dL_law_565 : decode cL_law 565 = .ok (.iaload, 1) := by decide +kernel
theorem dL_law_566 : decode cL_law 566 = .ok (.invokevirtual 84, 3) := by decide +kernel
theorem dL_law_569 : decode cL_law 569 = .ok (.aload_n 2, 1) := by decide +kernel
theorem dL_law_570 : decode cL_law 570 = .ok (.aload_n 0, 1) := by decide +kernel
theorem dL_law_571 : decode cL_law 571 = .ok (.iload_n 3, 1) := by decide +kernel
theorem dL_law_572 : decode cL_law 572 = .ok (.iconst 1, 1) := by decide +kernel
theorem dL_law_573 : decode cL_law 573 = .ok (.iadd, 1) := by decide +kernel
theorem dL_law_574 : decode cL_law 574 = .ok (.iaload, 1) := by decide +kernel
theorem dL_law_575 : decode cL_law 575 = .ok (.invokevirtual 87, 3) := by decide +kernel
theorem dL_law_578 : decode cL_law 578 = .ok (.if_icmp .eq 342, 3) := by decide +kernel
theorem dL_law_581 : decode cL_law 581 = .ok (.iconst 0, 1) := by decide +kernel
theorem dL_law_582 : decode cL_law 582 = .ok (.ireturn, 1) := by decide +kernel
theorem dL_law_583 : decode cL_law 583 = .ok (.aload_n 1, 1) := by decide +kernel
theorem dL_law_584 : decode cL_law 584 = .ok (.aload_n 0, 1) := by decide +kernel
theorem dL_law_585 : decode cL_law 585 = .ok (.iload_n 3, 1) := by decide +kernel
theorem dL_law_586 : decode cL_law 586 = .ok (.iconst 1, 1) := by decide +kernel
theorem dL_law_587 : decode cL_law 587 = .ok (.iadd, 1) := by decide +kernel
theorem dL_law_588 : decode cL_law 588 = .ok (.iaload, 1) := by decide +kernel
theorem dL_law_589 : decode cL_law 589 = .ok (.aload_n 0, 1) := by decide +kernel
theorem dL_law_590 : decode cL_law 590 = .ok (.iload_n 3, 1) := by decide +kernel
theorem dL_law_591 : decode cL_law 591 = .ok (.iconst 2, 1) := by decide +kernel
theorem dL_law_592 : decode cL_law 592 = .ok (.iadd, 1) := by decide +kernel
theorem dL_law_593 : decode cL_law 593 = .ok (.iaload, 1) := by decide +kernel
theorem dL_law_594 : decode cL_law 594 = .ok (.invokevirtual 88, 3) := by decide +kernel
theorem dL_law_597 : decode cL_law 597 = .ok (.aload_n 2, 1) := by decide +kernel
theorem dL_law_598 : decode cL_law 598 = .ok (.aload_n 0, 1) := by decide +kernel
theorem dL_law_599 : decode cL_law 599 = .ok (.iload_n 3, 1) := by decide +kernel
theorem dL_law_600 : decode cL_law 600 = .ok (.iconst 1, 1) := by decide +kernel
theorem dL_law_601 : decode cL_law 601 = .ok (.iadd, 1) := by decide +kernel
theorem dL_law_602 : decode cL_law 602 = .ok (.iaload, 1) := by decide +kernel
theorem dL_law_603 : decode cL_law 603 = .ok (.aload_n 0, 1) := by decide +kernel
theorem dL_law_604 : decode cL_law 604 = .ok (.iload_n 3, 1) := by decide +kernel
theorem dL_law_605 : decode cL_law 605 = .ok (.iconst 2, 1) := by decide +kernel
theorem dL_law_606 : decode cL_law 606 = .ok (.iadd, 1) := by decide +kernel
theorem dL_law_607 : decode cL_law 607 = .ok (.iaload, 1) := by decide +kernel
theorem dL_law_608 : decode cL_law 608 = .ok (.invokevirtual 91, 3) := by decide +kernel
theorem dL_law_611 : decode cL_law 611 = .ok (.if_icmp .eq 309, 3) := by decide +kernel
theorem dL_law_614 : decode cL_law 614 = .ok (.iconst 0, 1) := by decide +kernel
theorem dL_law_615 : decode cL_law 615 = .ok (.ireturn, 1) := by decide +kernel
theorem dL_law_616 : decode cL_law 616 = .ok (.aload_n 1, 1) := by decide +kernel
theorem dL_law_617 : decode cL_law 617 = .ok (.aload_n 0, 1) := by decide +kernel
theorem dL_law_618 : decode cL_law 618 = .ok (.iload_n 3, 1) := by decide +kernel
theorem dL_law_619 : decode cL_law 619 = .ok (.iconst 1, 1) := by decide +kernel
theorem dL_law_620 : decode cL_law 620 = .ok (.iadd, 1) := by decide +kernel
theorem dL_law_621 : decode cL_law 621 = .ok (.iaload, 1) := by decide +kernel
theorem dL_law_622 : decode cL_law 622 = .ok (.aload_n 0, 1) := by decide +kernel
theorem dL_law_623 : decode cL_law 623 = .ok (.iload_n 3, 1) := by decide +kernel
theorem dL_law_624 : decode cL_law 624 = .ok (.iconst 2, 1) := by decide +kernel
theorem dL_law_625 : decode cL_law 625 = .ok (.iadd, 1) := by decide +kernel
theorem dL_law_626 : decode cL_law 626 = .ok (.iaload, 1) := by decide +kernel
theorem dL_law_627 : decode cL_law 627 = .ok (.aload_n 0, 1) := by decide +kernel
theorem dL_law_628 : decode cL_law 628 = .ok (.iload_n 3, 1) := by decide +kernel
theorem dL_law_629 : decode cL_law 629 = .ok (.iconst 3, 1) := by decide +kernel
theorem dL_law_630 : decode cL_law 630 = .ok (.iadd, 1) := by decide +kernel
theorem dL_law_631 : decode cL_law 631 = .ok (.iaload, 1) := by decide +kernel
theorem dL_law_632 : decode cL_law 632 = .ok (.invokevirtual 92, 3) := by decide +kernel
theorem dL_law_635 : decode cL_law 635 = .ok (.aload_n 2, 1) := by decide +kernel
theorem dL_law_636 : decode cL_law 636 = .ok (.aload_n 0, 1) := by decide +kernel
theorem dL_law_637 : decode cL_law 637 = .ok (.iload_n 3, 1) := by decide +kernel
theorem dL_law_638 : decode cL_law 638 = .ok (.iconst 1, 1) := by decide +kernel
theorem dL_law_639 : decode cL_law 639 = .ok (.iadd, 1) := by decide +kernel
theorem dL_law_640 : decode cL_law 640 = .ok (.iaload, 1) := by decide +kernel
theorem dL_law_641 : decode cL_law 641 = .ok (.aload_n 0, 1) := by decide +kernel
theorem dL_law_642 : decode cL_law 642 = .ok (.iload_n 3, 1) := by decide +kernel
theorem dL_law_643 : decode cL_law 643 = .ok (.iconst 2, 1) := by decide +kernel
theorem dL_law_644 : decode cL_law 644 = .ok (.iadd, 1) := by decide +kernel
theorem dL_law_645 : decode cL_law 645 = .ok (.iaload, 1) := by decide +kernel
theorem dL_law_646 : decode cL_law 646 = .ok (.aload_n 0, 1) := by decide +kernel
theorem dL_law_647 : decode cL_law 647 = .ok (.iload_n 3, 1) := by decide +kernel
theorem dL_law_648 : decode cL_law 648 = .ok (.iconst 3, 1) := by decide +kernel
theorem dL_law_649 : decode cL_law 649 = .ok (.iadd, 1) := by decide +kernel
theorem dL_law_650 : decode cL_law 650 = .ok (.iaload, 1) := by decide +kernel
theorem dL_law_651 : decode cL_law 651 = .ok (.invokevirtual 96, 3) := by decide +kernel
theorem dL_law_654 : decode cL_law 654 = .ok (.if_icmp .eq 266, 3) := by decide +kernel
theorem dL_law_657 : decode cL_law 657 = .ok (.iconst 0, 1) := by decide +kernel
theorem dL_law_658 : decode cL_law 658 = .ok (.ireturn, 1) := by decide +kernel
theorem dL_law_659 : decode cL_law 659 = .ok (.aload_n 1, 1) := by decide +kernel
theorem dL_law_660 : decode cL_law 660 = .ok (.aload_n 0, 1) := by decide +kernel
theorem dL_law_661 : decode cL_law 661 = .ok (.iload_n 3, 1) := by decide +kernel
theorem dL_law_662 : decode cL_law 662 = .ok (.iconst 1, 1) := by decide +kernel
theorem dL_law_663 : decode cL_law 663 = .ok (.iadd, 1) := by decide +kernel
theorem dL_law_664 : decode cL_law 664 = .ok (.iaload, 1) := by decide +kernel
theorem dL_law_665 : decode cL_law 665 = .ok (.invokevirtual 97, 3) := by decide +kernel
theorem dL_law_668 : decode cL_law 668 = .ok (.aload_n 2, 1) := by decide +kernel
theorem dL_law_669 : decode cL_law 669 = .ok (.aload_n 0, 1) := by decide +kernel
theorem dL_law_670 : decode cL_law 670 = .ok (.iload_n 3, 1) := by decide +kernel
theorem dL_law_671 : decode cL_law 671 = .ok (.iconst 1, 1) := by decide +kernel
theorem dL_law_672 : decode cL_law 672 = .ok (.iadd, 1) := by decide +kernel
theorem dL_law_673 : decode cL_law 673 = .ok (.iaload, 1) := by decide +kernel
theorem dL_law_674 : decode cL_law 674 = .ok (.invokevirtual 100, 3) := by decide +kernel
theorem dL_law_677 : decode cL_law 677 = .ok (.if_icmp .eq 243, 3) := by decide +kernel
theorem dL_law_680 : decode cL_law 680 = .ok (.iconst 0, 1) := by decide +kernel
theorem dL_law_681 : decode cL_law 681 = .ok (.ireturn, 1) := by decide +kernel
theorem dL_law_682 : decode cL_law 682 = .ok (.aload_n 1, 1) := by decide +kernel
theorem dL_law_683 : decode cL_law 683 = .ok (.aload_n 0, 1) := by decide +kernel
theorem dL_law_684 : decode cL_law 684 = .ok (.iload_n 3, 1) := by decide +kernel
theorem dL_law_685 : decode cL_law 685 = .ok (.iconst 1, 1) := by decide +kernel
theorem dL_law_686 : decode cL_law 686 = .ok (.iadd, 1) := by decide +kernel
theorem dL_law_687 : decode cL_law 687 = .ok (.iaload, 1) := by decide +kernel
theorem dL_law_688 : decode cL_law 688 = .ok (.aload_n 0, 1) := by decide +kernel
theorem dL_law_689 : decode cL_law 689 = .ok (.iload_n 3, 1) := by decide +kernel
theorem dL_law_690 : decode cL_law 690 = .ok (.iconst 2, 1) := by decide +kernel
theorem dL_law_691 : decode cL_law 691 = .ok (.iadd, 1) := by decide +kernel
theorem dL_law_692 : decode cL_law 692 = .ok (.iaload, 1) := by decide +kernel
theorem dL_law_693 : decode cL_law 693 = .ok (.aload_n 0, 1) := by decide +kernel
theorem dL_law_694 : decode cL_law 694 = .ok (.iload_n 3, 1) := by decide +kernel
theorem dL_law_695 : decode cL_law 695 = .ok (.iconst 3, 1) := by decide +kernel
theorem dL_law_696 : decode cL_law 696 = .ok (.iadd, 1) := by decide +kernel
theorem dL_law_697 : decode cL_law 697 = .ok (.iaload, 1) := by decide +kernel
theorem dL_law_698 : decode cL_law 698 = .ok (.ifCond .eq 7, 3) := by decide +kernel
theorem dL_law_701 : decode cL_law 701 = .ok (.iconst 1, 1) := by decide +kernel
theorem dL_law_702 : decode cL_law 702 = .ok (.goto 4, 3) := by decide +kernel
theorem dL_law_705 : decode cL_law 705 = .ok (.iconst 0, 1) := by decide +kernel
theorem dL_law_706 : decode cL_law 706 = .ok (.invokevirtual 101, 3) := by decide +kernel
theorem dL_law_709 : decode cL_law 709 = .ok (.aload_n 2, 1) := by decide +kernel
theorem dL_law_710 : decode cL_law 710 = .ok (.aload_n 0, 1) := by decide +kernel
theorem dL_law_711 : decode cL_law 711 = .ok (.iload_n 3, 1) := by decide +kernel
theorem dL_law_712 : decode cL_law 712 = .ok (.iconst 1, 1) := by decide +kernel
theorem dL_law_713 : decode cL_law 713 = .ok (.iadd, 1) := by decide +kernel
theorem dL_law_714 : decode cL_law 714 = .ok (.iaload, 1) := by decide +kernel
theorem dL_law_715 : decode cL_law 715 = .ok (.aload_n 0, 1) := by decide +kernel
theorem dL_law_716 : decode cL_law 716 = .ok (.iload_n 3, 1) := by decide +kernel
theorem dL_law_717 : decode cL_law 717 = .ok (.iconst 2, 1) := by decide +kernel
theorem dL_law_718 : decode cL_law 718 = .ok (.iadd, 1) := by decide +kernel
theorem dL_law_719 : decode cL_law 719 = .ok (.iaload, 1) := by decide +kernel
theorem dL_law_720 : decode cL_law 720 = .ok (.aload_n 0, 1) := by decide +kernel
theorem dL_law_721 : decode cL_law 721 = .ok (.iload_n 3, 1) := by decide +kernel
theorem dL_law_722 : decode cL_law 722 = .ok (.iconst 3, 1) := by decide +kernel
theorem dL_law_723 : decode cL_law 723 = .ok (.iadd, 1) := by decide +kernel
theorem dL_law_724 : decode cL_law 724 = .ok (.iaload, 1) := by decide +kernel
theorem dL_law_725 : decode cL_law 725 = .ok (.ifCond .eq 7, 3) := by decide +kernel
theorem dL_law_728 : decode cL_law 728 = .ok (.iconst 1, 1) := by decide +kernel
theorem dL_law_729 : decode cL_law 729 = .ok (.goto 4, 3) := by decide +kernel
theorem dL_law_732 : decode cL_law 732 = .ok (.iconst 0, 1) := by decide +kernel
theorem dL_law_733 : decode cL_law 733 = .ok (.invokevirtual 105, 3) := by decide +kernel
theorem dL_law_736 : decode cL_law 736 = .ok (.if_icmp .eq 184, 3) := by decide +kernel
theorem dL_law_739 : decode cL_law 739 = .ok (.iconst 0, 1) := by decide +kernel
theorem dL_law_740 : decode cL_law 740 = .ok (.ireturn, 1) := by decide +kernel
theorem dL_law_741 : decode cL_law 741 = .ok (.aload_n 1, 1) := by decide +kernel
theorem dL_law_742 : decode cL_law 742 = .ok (.aload_n 0, 1) := by decide +kernel
theorem dL_law_743 : decode cL_law 743 = .ok (.iload_n 3, 1) := by decide +kernel
theorem dL_law_744 : decode cL_law 744 = .ok (.iconst 1, 1) := by decide +kernel
theorem dL_law_745 : decode cL_law 745 = .ok (.iadd, 1) := by decide +kernel
theorem dL_law_746 : decode cL_law 746 = .ok (.iaload, 1) := by decide +kernel
theorem dL_law_747 : decode cL_law 747 = .ok (.aload_n 0, 1) := by decide +kernel
theorem dL_law_748 : decode cL_law 748 = .ok (.iload_n 3, 1) := by decide +kernel
theorem dL_law_749 : decode cL_law 749 = .ok (.iconst 2, 1) := by decide +kernel
theorem dL_law_750 : decode cL_law 750 = .ok (.iadd, 1) := by decide +kernel
theorem dL_law_751 : decode cL_law 751 = .ok (.iaload, 1) := by decide +kernel
theorem dL_law_752 : decode cL_law 752 = .ok (.invokevirtual 106, 3) := by decide +kernel
theorem dL_law_755 : decode cL_law 755 = .ok (.aload_n 2, 1) := by decide +kernel
theorem dL_law_756 : decode cL_law 756 = .ok (.aload_n 0, 1) := by decide +kernel
theorem dL_law_757 : decode cL_law 757 = .ok (.iload_n 3, 1) := by decide +kernel
theorem dL_law_758 : decode cL_law 758 = .ok (.iconst 1, 1) := by decide +kernel
theorem dL_law_759 : decode cL_law 759 = .ok (.iadd, 1) := by decide +kernel
theorem dL_law_760 : decode cL_law 760 = .ok (.iaload, 1) := by decide +kernel
theorem dL_law_761 : decode cL_law 761 = .ok (.aload_n 0, 1) := by decide +kernel
theorem dL_law_762 : decode cL_law 762 = .ok (.iload_n 3, 1) := by decide +kernel
theorem dL_law_763 : decode cL_law 763 = .ok (.iconst 2, 1) := by decide +kernel
theorem dL_law_764 : decode cL_law 764 = .ok (.iadd, 1) := by decide +kernel
theorem dL_law_765 : decode cL_law 765 = .ok (.iaload, 1) := by decide +kernel
theorem dL_law_766 : decode cL_law 766 = .ok (.invokevirtual 109, 3) := by decide +kernel
theorem dL_law_769 : decode cL_law 769 = .ok (.if_icmp .eq 151, 3) := by decide +kernel
theorem dL_law_772 : decode cL_law 772 = .ok (.iconst 0, 1) := by decide +kernel
theorem dL_law_773 : decode cL_law 773 = .ok (.ireturn, 1) := by decide +kernel
theorem dL_law_774 : decode cL_law 774 = .ok (.aload_n 1, 1) := by decide +kernel
theorem dL_law_775 : decode cL_law 775 = .ok (.aload_n 0, 1) := by decide +kernel
theorem dL_law_776 : decode cL_law 776 = .ok (.iload_n 3, 1) := by decide +kernel
theorem dL_law_777 : decode cL_law 777 = .ok (.iconst 1, 1) := by decide +kernel
theorem dL_law_778 : decode cL_law 778 = .ok (.iadd, 1) := by decide +kernel
theorem dL_law_779 : decode cL_law 779 = .ok (.iaload, 1) := by decide +kernel
theorem dL_law_780 : decode cL_law 780 = .ok (.i2l, 1) := by decide +kernel
theorem dL_law_781 : decode cL_law 781 = .ok (.bipush 32, 2) := by decide +kernel
theorem dL_law_783 : decode cL_law 783 = .ok (.lshl, 1) := by decide +kernel
theorem dL_law_784 : decode cL_law 784 = .ok (.aload_n 0, 1) := by decide +kernel
theorem dL_law_785 : decode cL_law 785 = .ok (.iload_n 3, 1) := by decide +kernel
theorem dL_law_786 : decode cL_law 786 = .ok (.iconst 2, 1) := by decide +kernel
theorem dL_law_787 : decode cL_law 787 = .ok (.iadd, 1) := by decide +kernel
theorem dL_law_788 : decode cL_law 788 = .ok (.iaload, 1) := by decide +kernel
theorem dL_law_789 : decode cL_law 789 = .ok (.i2l, 1) := by decide +kernel
theorem dL_law_790 : decode cL_law 790 = .ok (.ldc2_w 13, 3) := by decide +kernel
theorem dL_law_793 : decode cL_law 793 = .ok (.land, 1) := by decide +kernel
theorem dL_law_794 : decode cL_law 794 = .ok (.lor, 1) := by decide +kernel
theorem dL_law_795 : decode cL_law 795 = .ok (.invokevirtual 110, 3) := by decide +kernel
theorem dL_law_798 : decode cL_law 798 = .ok (.aload_n 2, 1) := by decide +kernel
theorem dL_law_799 : decode cL_law 799 = .ok (.aload_n 0, 1) := by decide +kernel
theorem dL_law_800 : decode cL_law 800 = .ok (.iload_n 3, 1) := by decide +kernel
theorem dL_law_801 : decode cL_law 801 = .ok (.iconst 1, 1) := by decide +kernel
theorem dL_law_802 : decode cL_law 802 = .ok (.iadd, 1) := by decide +kernel
theorem dL_law_803 : decode cL_law 803 = .ok (.iaload, 1) := by decide +kernel
theorem dL_law_804 : decode cL_law 804 = .ok (.i2l, 1) := by decide +kernel
theorem dL_law_805 : decode cL_law 805 = .ok (.bipush 32, 2) := by decide +kernel
theorem dL_law_807 : decode cL_law 807 = .ok (.lshl, 1) := by decide +kernel
theorem dL_law_808 : decode cL_law 808 = .ok (.aload_n 0, 1) := by decide +kernel
theorem dL_law_809 : decode cL_law 809 = .ok (.iload_n 3, 1) := by decide +kernel
theorem dL_law_810 : decode cL_law 810 = .ok (.iconst 2, 1) := by decide +kernel
theorem dL_law_811 : decode cL_law 811 = .ok (.iadd, 1) := by decide +kernel
theorem dL_law_812 : decode cL_law 812 = .ok (.iaload, 1) := by decide +kernel
theorem dL_law_813 : decode cL_law 813 = .ok (.i2l, 1) := by decide +kernel
theorem dL_law_814 : decode cL_law 814 = .ok (.ldc2_w 13, 3) := by decide +kernel
theorem dL_law_817 : decode cL_law 817 = .ok (.land, 1) := by decide +kernel
theorem dL_law_818 : decode cL_law 818 = .ok (.lor, 1) := by decide +kernel
theorem dL_law_819 : decode cL_law 819 = .ok (.invokevirtual 114, 3) := by decide +kernel
theorem dL_law_822 : decode cL_law 822 = .ok (.lcmp, 1) := by decide +kernel
theorem dL_law_823 : decode cL_law 823 = .ok (.ifCond .eq 97, 3) := by decide +kernel
theorem dL_law_826 : decode cL_law 826 = .ok (.iconst 0, 1) := by decide +kernel
theorem dL_law_827 : decode cL_law 827 = .ok (.ireturn, 1) := by decide +kernel
theorem dL_law_828 : decode cL_law 828 = .ok (.aload_n 1, 1) := by decide +kernel
theorem dL_law_829 : decode cL_law 829 = .ok (.aload_n 0, 1) := by decide +kernel
theorem dL_law_830 : decode cL_law 830 = .ok (.iload_n 3, 1) := by decide +kernel
theorem dL_law_831 : decode cL_law 831 = .ok (.iconst 1, 1) := by decide +kernel
theorem dL_law_832 : decode cL_law 832 = .ok (.iadd, 1) := by decide +kernel
theorem dL_law_833 : decode cL_law 833 = .ok (.iaload, 1) := by decide +kernel
theorem dL_law_834 : decode cL_law 834 = .ok (.invokevirtual 115, 3) := by decide +kernel
theorem dL_law_837 : decode cL_law 837 = .ok (.aload_n 2, 1) := by decide +kernel
theorem dL_law_838 : decode cL_law 838 = .ok (.aload_n 0, 1) := by decide +kernel
theorem dL_law_839 : decode cL_law 839 = .ok (.iload_n 3, 1) := by decide +kernel
theorem dL_law_840 : decode cL_law 840 = .ok (.iconst 1, 1) := by decide +kernel
theorem dL_law_841 : decode cL_law 841 = .ok (.iadd, 1) := by decide +kernel
theorem dL_law_842 : decode cL_law 842 = .ok (.iaload, 1) := by decide +kernel
theorem dL_law_843 : decode cL_law 843 = .ok (.invokevirtual 118, 3) := by decide +kernel
theorem dL_law_846 : decode cL_law 846 = .ok (.if_icmp .eq 74, 3) := by decide +kernel
theorem dL_law_849 : decode cL_law 849 = .ok (.iconst 0, 1) := by decide +kernel
theorem dL_law_850 : decode cL_law 850 = .ok (.ireturn, 1) := by decide +kernel
theorem dL_law_851 : decode cL_law 851 = .ok (.aload_n 1, 1) := by decide +kernel
theorem dL_law_852 : decode cL_law 852 = .ok (.aload_n 0, 1) := by decide +kernel
theorem dL_law_853 : decode cL_law 853 = .ok (.iload_n 3, 1) := by decide +kernel
theorem dL_law_854 : decode cL_law 854 = .ok (.iconst 1, 1) := by decide +kernel
theorem dL_law_855 : decode cL_law 855 = .ok (.iadd, 1) := by decide +kernel
theorem dL_law_856 : decode cL_law 856 = .ok (.iaload, 1) := by decide +kernel
theorem dL_law_857 : decode cL_law 857 = .ok (.invokevirtual 119, 3) := by decide +kernel
theorem dL_law_860 : decode cL_law 860 = .ok (.aload_n 2, 1) := by decide +kernel
theorem dL_law_861 : decode cL_law 861 = .ok (.aload_n 0, 1) := by decide +kernel
theorem dL_law_862 : decode cL_law 862 = .ok (.iload_n 3, 1) := by decide +kernel
theorem dL_law_863 : decode cL_law 863 = .ok (.iconst 1, 1) := by decide +kernel
theorem dL_law_864 : decode cL_law 864 = .ok (.iadd, 1) := by decide +kernel
theorem dL_law_865 : decode cL_law 865 = .ok (.iaload, 1) := by decide +kernel
theorem dL_law_866 : decode cL_law 866 = .ok (.invokevirtual 122, 3) := by decide +kernel
theorem dL_law_869 : decode cL_law 869 = .ok (.if_icmp .eq 51, 3) := by decide +kernel
theorem dL_law_872 : decode cL_law 872 = .ok (.iconst 0, 1) := by decide +kernel
theorem dL_law_873 : decode cL_law 873 = .ok (.ireturn, 1) := by decide +kernel
theorem dL_law_874 : decode cL_law 874 = .ok (.aload_n 1, 1) := by decide +kernel
theorem dL_law_875 : decode cL_law 875 = .ok (.aload_n 0, 1) := by decide +kernel
theorem dL_law_876 : decode cL_law 876 = .ok (.iload_n 3, 1) := by decide +kernel
theorem dL_law_877 : decode cL_law 877 = .ok (.iconst 1, 1) := by decide +kernel
theorem dL_law_878 : decode cL_law 878 = .ok (.iadd, 1) := by decide +kernel
theorem dL_law_879 : decode cL_law 879 = .ok (.iaload, 1) := by decide +kernel
theorem dL_law_880 : decode cL_law 880 = .ok (.invokevirtual 123, 3) := by decide +kernel
theorem dL_law_883 : decode cL_law 883 = .ok (.aload_n 2, 1) := by decide +kernel
theorem dL_law_884 : decode cL_law 884 = .ok (.aload_n 0, 1) := by decide +kernel
theorem dL_law_885 : decode cL_law 885 = .ok (.iload_n 3, 1) := by decide +kernel
theorem dL_law_886 : decode cL_law 886 = .ok (.iconst 1, 1) := by decide +kernel
theorem dL_law_887 : decode cL_law 887 = .ok (.iadd, 1) := by decide +kernel
theorem dL_law_888 : decode cL_law 888 = .ok (.iaload, 1) := by decide +kernel
theorem dL_law_889 : decode cL_law 889 = .ok (.invokevirtual 126, 3) := by decide +kernel
theorem dL_law_892 : decode cL_law 892 = .ok (.if_icmp .eq 28, 3) := by decide +kernel
theorem dL_law_895 : decode cL_law 895 = .ok (.iconst 0, 1) := by decide +kernel
theorem dL_law_896 : decode cL_law 896 = .ok (.ireturn, 1) := by decide +kernel
theorem dL_law_897 : decode cL_law 897 = .ok (.aload_n 1, 1) := by decide +kernel
theorem dL_law_898 : decode cL_law 898 = .ok (.aload_n 0, 1) := by decide +kernel
theorem dL_law_899 : decode cL_law 899 = .ok (.iload_n 3, 1) := by decide +kernel
theorem dL_law_900 : decode cL_law 900 = .ok (.iconst 1, 1) := by decide +kernel
theorem dL_law_901 : decode cL_law 901 = .ok (.iadd, 1) := by decide +kernel
theorem dL_law_902 : decode cL_law 902 = .ok (.iaload, 1) := by decide +kernel
theorem dL_law_903 : decode cL_law 903 = .ok (.invokevirtual 127, 3) := by decide +kernel
theorem dL_law_906 : decode cL_law 906 = .ok (.aload_n 2, 1) := by decide +kernel
theorem dL_law_907 : decode cL_law 907 = .ok (.aload_n 0, 1) := by decide +kernel
theorem dL_law_908 : decode cL_law 908 = .ok (.iload_n 3, 1) := by decide +kernel
theorem dL_law_909 : decode cL_law 909 = .ok (.iconst 1, 1) := by decide +kernel
theorem dL_law_910 : decode cL_law 910 = .ok (.iadd, 1) := by decide +kernel
theorem dL_law_911 : decode cL_law 911 = .ok (.iaload, 1) := by decide +kernel
theorem dL_law_912 : decode cL_law 912 = .ok (.invokevirtual 130, 3) := by decide +kernel
theorem dL_law_915 : decode cL_law 915 = .ok (.if_icmp .eq 5, 3) := by decide +kernel
theorem dL_law_918 : decode cL_law 918 = .ok (.iconst 0, 1) := by decide +kernel
theorem dL_law_919 : decode cL_law 919 = .ok (.ireturn, 1) := by decide +kernel
theorem dL_law_920 : decode cL_law 920 = .ok (.iinc 3 4, 3) := by decide +kernel
theorem dL_law_923 : decode cL_law 923 = .ok (.goto (-905), 3) := by decide +kernel
theorem dL_law_926 : decode cL_law 926 = .ok (.iconst 1, 1) := by decide +kernel
theorem dL_law_927 : decode cL_law 927 = .ok (.ireturn, 1) := by decide +kernel
