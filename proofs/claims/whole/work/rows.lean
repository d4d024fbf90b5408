section
-- ===== PART A: goes FIRST, ahead of the names: the tables' words, and 'selects' of the private methods out of them =====
/-- a private method of a class that the tables say can be made, by its rows of tables_1 -/
def lw_okq (q : MethodName × Nat) : Prop := (q.1.cls ≠ "java/lang/invoke/MethodHandle" ∧ q.1.cls ≠ "java/lang/invoke/VarHandle") ∧ Cond.instantiable q.1.cls q.2 ∈ tables_1 ∧ Cond.privateMethod q.1 ∈ tables_1 ∧ Cond.instanceMethod q.1 ∈ tables_1
theorem lw_p0 : lw_okq (⟨"DowserPegs", "trueOf", "(I)I"⟩, 6) := ⟨⟨by decide +kernel, by decide +kernel⟩, List.mem_of_getElem? (i := 17) (by decide +kernel), List.mem_of_getElem? (i := 158) (by decide +kernel), List.mem_of_getElem? (i := 159) (by decide +kernel)⟩
theorem lw_p1 : lw_okq (⟨"DowserPegs", "isTruePeg", "(I)Z"⟩, 6) := ⟨⟨by decide +kernel, by decide +kernel⟩, List.mem_of_getElem? (i := 17) (by decide +kernel), List.mem_of_getElem? (i := 162) (by decide +kernel), List.mem_of_getElem? (i := 163) (by decide +kernel)⟩
theorem lw_p2 : lw_okq (⟨"DowserPegs", "tellCount", "(I)I"⟩, 6) := ⟨⟨by decide +kernel, by decide +kernel⟩, List.mem_of_getElem? (i := 17) (by decide +kernel), List.mem_of_getElem? (i := 183) (by decide +kernel), List.mem_of_getElem? (i := 184) (by decide +kernel)⟩
theorem lw_p3 : lw_okq (⟨"DowserPegs", "truePegs", "()I"⟩, 6) := ⟨⟨by decide +kernel, by decide +kernel⟩, List.mem_of_getElem? (i := 17) (by decide +kernel), List.mem_of_getElem? (i := 191) (by decide +kernel), List.mem_of_getElem? (i := 192) (by decide +kernel)⟩
theorem lw_p4 : lw_okq (⟨"DowserPegs", "tellDowser", "(II)I"⟩, 6) := ⟨⟨by decide +kernel, by decide +kernel⟩, List.mem_of_getElem? (i := 17) (by decide +kernel), List.mem_of_getElem? (i := 199) (by decide +kernel), List.mem_of_getElem? (i := 200) (by decide +kernel)⟩
theorem lw_p5 : lw_okq (⟨"DowserPegs$Pits", "stakedOn", "(IZ)I"⟩, 7) := ⟨⟨by decide +kernel, by decide +kernel⟩, List.mem_of_getElem? (i := 98) (by decide +kernel), List.mem_of_getElem? (i := 236) (by decide +kernel), List.mem_of_getElem? (i := 237) (by decide +kernel)⟩
theorem lw_p6 : lw_okq (⟨"DowserPegs$Pits", "stakeOn", "(IIZ)I"⟩, 7) := ⟨⟨by decide +kernel, by decide +kernel⟩, List.mem_of_getElem? (i := 98) (by decide +kernel), List.mem_of_getElem? (i := 240) (by decide +kernel), List.mem_of_getElem? (i := 241) (by decide +kernel)⟩
theorem lw_p7 : lw_okq (⟨"DowserPegs", "tellSpot", "(II)I"⟩, 6) := ⟨⟨by decide +kernel, by decide +kernel⟩, List.mem_of_getElem? (i := 17) (by decide +kernel), List.mem_of_getElem? (i := 244) (by decide +kernel), List.mem_of_getElem? (i := 245) (by decide +kernel)⟩
theorem lw_p8 : lw_okq (⟨"DowserPegs$Pegs", "pegsAt", "(II)I"⟩, 3) := ⟨⟨by decide +kernel, by decide +kernel⟩, List.mem_of_getElem? (i := 77) (by decide +kernel), List.mem_of_getElem? (i := 254) (by decide +kernel), List.mem_of_getElem? (i := 255) (by decide +kernel)⟩
theorem lw_p9 : lw_okq (⟨"java/lang/Throwable", "fillInStackTrace", "(I)Ljava/lang/Throwable;"⟩, 6) := ⟨⟨by decide +kernel, by decide +kernel⟩, List.mem_of_getElem? (i := 329) (by decide +kernel), List.mem_of_getElem? (i := 327) (by decide +kernel), List.mem_of_getElem? (i := 328) (by decide +kernel)⟩
theorem lw_p10 : lw_okq (⟨"DowserPegs$Veins", "cover", "(III)V"⟩, 6) := ⟨⟨by decide +kernel, by decide +kernel⟩, List.mem_of_getElem? (i := 25) (by decide +kernel), List.mem_of_getElem? (i := 410) (by decide +kernel), List.mem_of_getElem? (i := 411) (by decide +kernel)⟩
theorem lw_p11 : lw_okq (⟨"DowserPegs$Veins", "raise", "(IIII)V"⟩, 6) := ⟨⟨by decide +kernel, by decide +kernel⟩, List.mem_of_getElem? (i := 25) (by decide +kernel), List.mem_of_getElem? (i := 414) (by decide +kernel), List.mem_of_getElem? (i := 415) (by decide +kernel)⟩
theorem lw_p12 : lw_okq (⟨"DowserPegs", "isDowser", "(I)Z"⟩, 6) := ⟨⟨by decide +kernel, by decide +kernel⟩, List.mem_of_getElem? (i := 17) (by decide +kernel), List.mem_of_getElem? (i := 448) (by decide +kernel), List.mem_of_getElem? (i := 449) (by decide +kernel)⟩
theorem lw_p13 : lw_okq (⟨"DowserPegs", "markPeg", "(II)I"⟩, 6) := ⟨⟨by decide +kernel, by decide +kernel⟩, List.mem_of_getElem? (i := 17) (by decide +kernel), List.mem_of_getElem? (i := 455) (by decide +kernel), List.mem_of_getElem? (i := 456) (by decide +kernel)⟩
theorem lw_p14 : lw_okq (⟨"DowserPegs", "bend", "(II)I"⟩, 6) := ⟨⟨by decide +kernel, by decide +kernel⟩, List.mem_of_getElem? (i := 17) (by decide +kernel), List.mem_of_getElem? (i := 459) (by decide +kernel), List.mem_of_getElem? (i := 460) (by decide +kernel)⟩
theorem lw_p15 : lw_okq (⟨"DowserPegs", "isPit", "(I)Z"⟩, 6) := ⟨⟨by decide +kernel, by decide +kernel⟩, List.mem_of_getElem? (i := 17) (by decide +kernel), List.mem_of_getElem? (i := 507) (by decide +kernel), List.mem_of_getElem? (i := 508) (by decide +kernel)⟩
def lw_privs_1 : List (MethodName × Nat) := [(⟨"DowserPegs", "trueOf", "(I)I"⟩, 6), (⟨"DowserPegs", "isTruePeg", "(I)Z"⟩, 6), (⟨"DowserPegs", "tellCount", "(I)I"⟩, 6), (⟨"DowserPegs", "truePegs", "()I"⟩, 6), (⟨"DowserPegs", "tellDowser", "(II)I"⟩, 6), (⟨"DowserPegs$Pits", "stakedOn", "(IZ)I"⟩, 7), (⟨"DowserPegs$Pits", "stakeOn", "(IIZ)I"⟩, 7), (⟨"DowserPegs", "tellSpot", "(II)I"⟩, 6), (⟨"DowserPegs$Pegs", "pegsAt", "(II)I"⟩, 3), (⟨"java/lang/Throwable", "fillInStackTrace", "(I)Ljava/lang/Throwable;"⟩, 6), (⟨"DowserPegs$Veins", "cover", "(III)V"⟩, 6), (⟨"DowserPegs$Veins", "raise", "(IIII)V"⟩, 6), (⟨"DowserPegs", "isDowser", "(I)Z"⟩, 6), (⟨"DowserPegs", "markPeg", "(II)I"⟩, 6), (⟨"DowserPegs", "bend", "(II)I"⟩, 6), (⟨"DowserPegs", "isPit", "(I)Z"⟩, 6)]
theorem lw_r1 : ∀ q ∈ lw_privs_1, lw_okq q := List.forall_mem_cons.mpr ⟨lw_p0, List.forall_mem_cons.mpr ⟨lw_p1, List.forall_mem_cons.mpr ⟨lw_p2, List.forall_mem_cons.mpr ⟨lw_p3, List.forall_mem_cons.mpr ⟨lw_p4, List.forall_mem_cons.mpr ⟨lw_p5, List.forall_mem_cons.mpr ⟨lw_p6, List.forall_mem_cons.mpr ⟨lw_p7, List.forall_mem_cons.mpr ⟨lw_p8, List.forall_mem_cons.mpr ⟨lw_p9, List.forall_mem_cons.mpr ⟨lw_p10, List.forall_mem_cons.mpr ⟨lw_p11, List.forall_mem_cons.mpr ⟨lw_p12, List.forall_mem_cons.mpr ⟨lw_p13, List.forall_mem_cons.mpr ⟨lw_p14, List.forall_mem_cons.mpr ⟨lw_p15, fun _ h => absurd h List.not_mem_nil⟩⟩⟩⟩⟩⟩⟩⟩⟩⟩⟩⟩⟩⟩⟩⟩
theorem lw_p16 : lw_okq (⟨"DowserPegs", "payBets", "(I)V"⟩, 6) := ⟨⟨by decide +kernel, by decide +kernel⟩, List.mem_of_getElem? (i := 17) (by decide +kernel), List.mem_of_getElem? (i := 537) (by decide +kernel), List.mem_of_getElem? (i := 538) (by decide +kernel)⟩
theorem lw_p17 : lw_okq (⟨"DowserPegs$Pegs", "countByLine", "()V"⟩, 3) := ⟨⟨by decide +kernel, by decide +kernel⟩, List.mem_of_getElem? (i := 77) (by decide +kernel), List.mem_of_getElem? (i := 602) (by decide +kernel), List.mem_of_getElem? (i := 603) (by decide +kernel)⟩
theorem lw_p18 : lw_okq (⟨"DowserPegs$Pegs", "fullestLine", "()I"⟩, 3) := ⟨⟨by decide +kernel, by decide +kernel⟩, List.mem_of_getElem? (i := 77) (by decide +kernel), List.mem_of_getElem? (i := 606) (by decide +kernel), List.mem_of_getElem? (i := 607) (by decide +kernel)⟩
theorem lw_p19 : lw_okq (⟨"DowserPegs", "spotOfGreatestBend", "(I)I"⟩, 6) := ⟨⟨by decide +kernel, by decide +kernel⟩, List.mem_of_getElem? (i := 17) (by decide +kernel), List.mem_of_getElem? (i := 631) (by decide +kernel), List.mem_of_getElem? (i := 632) (by decide +kernel)⟩
theorem lw_p20 : lw_okq (⟨"DowserPegsModel", "no", "(I)I"⟩, 20) := ⟨⟨by decide +kernel, by decide +kernel⟩, List.mem_of_getElem? (i := 635) (by decide +kernel), List.mem_of_getElem? (i := 716) (by decide +kernel), List.mem_of_getElem? (i := 717) (by decide +kernel)⟩
theorem lw_p21 : lw_okq (⟨"DowserPegsModel", "layOut", "(III)V"⟩, 20) := ⟨⟨by decide +kernel, by decide +kernel⟩, List.mem_of_getElem? (i := 635) (by decide +kernel), List.mem_of_getElem? (i := 721) (by decide +kernel), List.mem_of_getElem? (i := 722) (by decide +kernel)⟩
theorem lw_p22 : lw_okq (⟨"DowserPegsModel", "isBeside", "(II)Z"⟩, 20) := ⟨⟨by decide +kernel, by decide +kernel⟩, List.mem_of_getElem? (i := 635) (by decide +kernel), List.mem_of_getElem? (i := 726) (by decide +kernel), List.mem_of_getElem? (i := 727) (by decide +kernel)⟩
theorem lw_p23 : lw_okq (⟨"DowserPegsModel", "isDowser", "(I)Z"⟩, 20) := ⟨⟨by decide +kernel, by decide +kernel⟩, List.mem_of_getElem? (i := 635) (by decide +kernel), List.mem_of_getElem? (i := 745) (by decide +kernel), List.mem_of_getElem? (i := 746) (by decide +kernel)⟩
theorem lw_p24 : lw_okq (⟨"DowserPegsModel", "marks", "(II)I"⟩, 20) := ⟨⟨by decide +kernel, by decide +kernel⟩, List.mem_of_getElem? (i := 635) (by decide +kernel), List.mem_of_getElem? (i := 749) (by decide +kernel), List.mem_of_getElem? (i := 750) (by decide +kernel)⟩
theorem lw_p25 : lw_okq (⟨"DowserPegsModel", "bends", "(II)I"⟩, 20) := ⟨⟨by decide +kernel, by decide +kernel⟩, List.mem_of_getElem? (i := 635) (by decide +kernel), List.mem_of_getElem? (i := 753) (by decide +kernel), List.mem_of_getElem? (i := 754) (by decide +kernel)⟩
theorem lw_p26 : lw_okq (⟨"DowserPegsModel", "pitAt", "(I)I"⟩, 20) := ⟨⟨by decide +kernel, by decide +kernel⟩, List.mem_of_getElem? (i := 635) (by decide +kernel), List.mem_of_getElem? (i := 765) (by decide +kernel), List.mem_of_getElem? (i := 766) (by decide +kernel)⟩
theorem lw_p27 : lw_okq (⟨"DowserPegsModel", "depth", "(I)I"⟩, 20) := ⟨⟨by decide +kernel, by decide +kernel⟩, List.mem_of_getElem? (i := 635) (by decide +kernel), List.mem_of_getElem? (i := 769) (by decide +kernel), List.mem_of_getElem? (i := 770) (by decide +kernel)⟩
theorem lw_p28 : lw_okq (⟨"DowserPegsModel", "isPit", "(I)Z"⟩, 20) := ⟨⟨by decide +kernel, by decide +kernel⟩, List.mem_of_getElem? (i := 635) (by decide +kernel), List.mem_of_getElem? (i := 777) (by decide +kernel), List.mem_of_getElem? (i := 778) (by decide +kernel)⟩
theorem lw_p29 : lw_okq (⟨"DowserPegsModel", "isOver", "(I)Z"⟩, 20) := ⟨⟨by decide +kernel, by decide +kernel⟩, List.mem_of_getElem? (i := 635) (by decide +kernel), List.mem_of_getElem? (i := 785) (by decide +kernel), List.mem_of_getElem? (i := 786) (by decide +kernel)⟩
theorem lw_p30 : lw_okq (⟨"DowserPegsModel", "hasFound", "(I)Z"⟩, 20) := ⟨⟨by decide +kernel, by decide +kernel⟩, List.mem_of_getElem? (i := 635) (by decide +kernel), List.mem_of_getElem? (i := 789) (by decide +kernel), List.mem_of_getElem? (i := 790) (by decide +kernel)⟩
theorem lw_p31 : lw_okq (⟨"DowserPegsModel", "pay", "(I)V"⟩, 20) := ⟨⟨by decide +kernel, by decide +kernel⟩, List.mem_of_getElem? (i := 635) (by decide +kernel), List.mem_of_getElem? (i := 794) (by decide +kernel), List.mem_of_getElem? (i := 795) (by decide +kernel)⟩
def lw_privs_2 : List (MethodName × Nat) := [(⟨"DowserPegs", "payBets", "(I)V"⟩, 6), (⟨"DowserPegs$Pegs", "countByLine", "()V"⟩, 3), (⟨"DowserPegs$Pegs", "fullestLine", "()I"⟩, 3), (⟨"DowserPegs", "spotOfGreatestBend", "(I)I"⟩, 6), (⟨"DowserPegsModel", "no", "(I)I"⟩, 20), (⟨"DowserPegsModel", "layOut", "(III)V"⟩, 20), (⟨"DowserPegsModel", "isBeside", "(II)Z"⟩, 20), (⟨"DowserPegsModel", "isDowser", "(I)Z"⟩, 20), (⟨"DowserPegsModel", "marks", "(II)I"⟩, 20), (⟨"DowserPegsModel", "bends", "(II)I"⟩, 20), (⟨"DowserPegsModel", "pitAt", "(I)I"⟩, 20), (⟨"DowserPegsModel", "depth", "(I)I"⟩, 20), (⟨"DowserPegsModel", "isPit", "(I)Z"⟩, 20), (⟨"DowserPegsModel", "isOver", "(I)Z"⟩, 20), (⟨"DowserPegsModel", "hasFound", "(I)Z"⟩, 20), (⟨"DowserPegsModel", "pay", "(I)V"⟩, 20)]
theorem lw_r2 : ∀ q ∈ lw_privs_2, lw_okq q := List.forall_mem_cons.mpr ⟨lw_p16, List.forall_mem_cons.mpr ⟨lw_p17, List.forall_mem_cons.mpr ⟨lw_p18, List.forall_mem_cons.mpr ⟨lw_p19, List.forall_mem_cons.mpr ⟨lw_p20, List.forall_mem_cons.mpr ⟨lw_p21, List.forall_mem_cons.mpr ⟨lw_p22, List.forall_mem_cons.mpr ⟨lw_p23, List.forall_mem_cons.mpr ⟨lw_p24, List.forall_mem_cons.mpr ⟨lw_p25, List.forall_mem_cons.mpr ⟨lw_p26, List.forall_mem_cons.mpr ⟨lw_p27, List.forall_mem_cons.mpr ⟨lw_p28, List.forall_mem_cons.mpr ⟨lw_p29, List.forall_mem_cons.mpr ⟨lw_p30, List.forall_mem_cons.mpr ⟨lw_p31, fun _ h => absurd h List.not_mem_nil⟩⟩⟩⟩⟩⟩⟩⟩⟩⟩⟩⟩⟩⟩⟩⟩
theorem lw_p32 : lw_okq (⟨"DowserPegsModel", "betOn", "(IZ)I"⟩, 20) := ⟨⟨by decide +kernel, by decide +kernel⟩, List.mem_of_getElem? (i := 635) (by decide +kernel), List.mem_of_getElem? (i := 798) (by decide +kernel), List.mem_of_getElem? (i := 799) (by decide +kernel)⟩
theorem lw_p33 : lw_okq (⟨"DowserPegsModel", "share", "(IIZ)I"⟩, 20) := ⟨⟨by decide +kernel, by decide +kernel⟩, List.mem_of_getElem? (i := 635) (by decide +kernel), List.mem_of_getElem? (i := 802) (by decide +kernel), List.mem_of_getElem? (i := 803) (by decide +kernel)⟩
theorem lw_p34 : lw_okq (⟨"DowserPegsModel", "spotTold", "(II)I"⟩, 20) := ⟨⟨by decide +kernel, by decide +kernel⟩, List.mem_of_getElem? (i := 635) (by decide +kernel), List.mem_of_getElem? (i := 810) (by decide +kernel), List.mem_of_getElem? (i := 811) (by decide +kernel)⟩
theorem lw_p35 : lw_okq (⟨"DowserPegsModel", "water", "(I)I"⟩, 20) := ⟨⟨by decide +kernel, by decide +kernel⟩, List.mem_of_getElem? (i := 635) (by decide +kernel), List.mem_of_getElem? (i := 814) (by decide +kernel), List.mem_of_getElem? (i := 815) (by decide +kernel)⟩
theorem lw_p36 : lw_okq (⟨"DowserPegsModel", "pegsNear", "(I)I"⟩, 20) := ⟨⟨by decide +kernel, by decide +kernel⟩, List.mem_of_getElem? (i := 635) (by decide +kernel), List.mem_of_getElem? (i := 818) (by decide +kernel), List.mem_of_getElem? (i := 819) (by decide +kernel)⟩
theorem lw_p37 : lw_okq (⟨"DowserPegsModel", "nearest", "(I)I"⟩, 20) := ⟨⟨by decide +kernel, by decide +kernel⟩, List.mem_of_getElem? (i := 635) (by decide +kernel), List.mem_of_getElem? (i := 822) (by decide +kernel), List.mem_of_getElem? (i := 823) (by decide +kernel)⟩
theorem lw_p38 : lw_okq (⟨"DowserPegsModel", "dowserTold", "(II)I"⟩, 20) := ⟨⟨by decide +kernel, by decide +kernel⟩, List.mem_of_getElem? (i := 635) (by decide +kernel), List.mem_of_getElem? (i := 834) (by decide +kernel), List.mem_of_getElem? (i := 835) (by decide +kernel)⟩
theorem lw_p39 : lw_okq (⟨"DowserPegsModel", "pegsOf", "(IZ)I"⟩, 20) := ⟨⟨by decide +kernel, by decide +kernel⟩, List.mem_of_getElem? (i := 635) (by decide +kernel), List.mem_of_getElem? (i := 838) (by decide +kernel), List.mem_of_getElem? (i := 839) (by decide +kernel)⟩
theorem lw_p40 : lw_okq (⟨"DowserPegsModel", "inBets", "(I)I"⟩, 20) := ⟨⟨by decide +kernel, by decide +kernel⟩, List.mem_of_getElem? (i := 635) (by decide +kernel), List.mem_of_getElem? (i := 842) (by decide +kernel), List.mem_of_getElem? (i := 843) (by decide +kernel)⟩
theorem lw_p41 : lw_okq (⟨"DowserPegsModel", "pitTold", "(II)I"⟩, 20) := ⟨⟨by decide +kernel, by decide +kernel⟩, List.mem_of_getElem? (i := 635) (by decide +kernel), List.mem_of_getElem? (i := 850) (by decide +kernel), List.mem_of_getElem? (i := 851) (by decide +kernel)⟩
theorem lw_p42 : lw_okq (⟨"DowserPegsModel", "counted", "(I)I"⟩, 20) := ⟨⟨by decide +kernel, by decide +kernel⟩, List.mem_of_getElem? (i := 635) (by decide +kernel), List.mem_of_getElem? (i := 858) (by decide +kernel), List.mem_of_getElem? (i := 859) (by decide +kernel)⟩
theorem lw_p43 : lw_okq (⟨"DowserPegsModel", "lineTold", "(I)I"⟩, 20) := ⟨⟨by decide +kernel, by decide +kernel⟩, List.mem_of_getElem? (i := 635) (by decide +kernel), List.mem_of_getElem? (i := 866) (by decide +kernel), List.mem_of_getElem? (i := 867) (by decide +kernel)⟩
theorem lw_p44 : lw_okq (⟨"DowserPegsModel", "on", "(II)I"⟩, 20) := ⟨⟨by decide +kernel, by decide +kernel⟩, List.mem_of_getElem? (i := 635) (by decide +kernel), List.mem_of_getElem? (i := 870) (by decide +kernel), List.mem_of_getElem? (i := 871) (by decide +kernel)⟩
theorem lw_p45 : lw_okq (⟨"DowserPegsModel", "bestOf", "(II)I"⟩, 20) := ⟨⟨by decide +kernel, by decide +kernel⟩, List.mem_of_getElem? (i := 635) (by decide +kernel), List.mem_of_getElem? (i := 882) (by decide +kernel), List.mem_of_getElem? (i := 883) (by decide +kernel)⟩
def lw_privs_3 : List (MethodName × Nat) := [(⟨"DowserPegsModel", "betOn", "(IZ)I"⟩, 20), (⟨"DowserPegsModel", "share", "(IIZ)I"⟩, 20), (⟨"DowserPegsModel", "spotTold", "(II)I"⟩, 20), (⟨"DowserPegsModel", "water", "(I)I"⟩, 20), (⟨"DowserPegsModel", "pegsNear", "(I)I"⟩, 20), (⟨"DowserPegsModel", "nearest", "(I)I"⟩, 20), (⟨"DowserPegsModel", "dowserTold", "(II)I"⟩, 20), (⟨"DowserPegsModel", "pegsOf", "(IZ)I"⟩, 20), (⟨"DowserPegsModel", "inBets", "(I)I"⟩, 20), (⟨"DowserPegsModel", "pitTold", "(II)I"⟩, 20), (⟨"DowserPegsModel", "counted", "(I)I"⟩, 20), (⟨"DowserPegsModel", "lineTold", "(I)I"⟩, 20), (⟨"DowserPegsModel", "on", "(II)I"⟩, 20), (⟨"DowserPegsModel", "bestOf", "(II)I"⟩, 20)]
theorem lw_r3 : ∀ q ∈ lw_privs_3, lw_okq q := List.forall_mem_cons.mpr ⟨lw_p32, List.forall_mem_cons.mpr ⟨lw_p33, List.forall_mem_cons.mpr ⟨lw_p34, List.forall_mem_cons.mpr ⟨lw_p35, List.forall_mem_cons.mpr ⟨lw_p36, List.forall_mem_cons.mpr ⟨lw_p37, List.forall_mem_cons.mpr ⟨lw_p38, List.forall_mem_cons.mpr ⟨lw_p39, List.forall_mem_cons.mpr ⟨lw_p40, List.forall_mem_cons.mpr ⟨lw_p41, List.forall_mem_cons.mpr ⟨lw_p42, List.forall_mem_cons.mpr ⟨lw_p43, List.forall_mem_cons.mpr ⟨lw_p44, List.forall_mem_cons.mpr ⟨lw_p45, fun _ h => absurd h List.not_mem_nil⟩⟩⟩⟩⟩⟩⟩⟩⟩⟩⟩⟩⟩⟩
def lw_privs : List (MethodName × Nat) := lw_privs_1 ++ (lw_privs_2 ++ (lw_privs_3))
def lw_tbl : List Cond := k2_sels lw_privs ++ tables_1
theorem lw_privs_ok : ∀ q ∈ lw_privs, lw_okq q := by
  show ∀ q ∈ lw_privs_1 ++ (lw_privs_2 ++ (lw_privs_3)), lw_okq q
  exact List.forall_mem_append.mpr ⟨lw_r1, List.forall_mem_append.mpr ⟨lw_r2, lw_r3⟩⟩
/-- the streams that the claim lets the run draw from -/
abbrev lw_cs : List Choice := [Jvm.Choice.named "NaN.bits"]
theorem lw_bits : nanBits ∈ lw_cs := by first | decide | exact List.mem_cons_self | simp [lw_cs, nanBits]
-- names
/-! ===== BEGIN words of one list among another's, by their places ===== -/
theorem goodIn_r {big : List Cond} (ws : List Cond) (ps : List Nat) (hp : ws = ps.filterMap (fun i => big[i]?)) (h : ws.all goodWord = true) : GoodIn big ws := by
  intro w hw
  have h1 := List.all_eq_true.mp h w hw
  rw [hp] at hw
  obtain ⟨i, -, hi⟩ := List.mem_filterMap.mp hw
  have hm : w ∈ big := by first | exact List.mem_of_getElem? hi | exact List.getElem?_mem hi
  exact ⟨hm, good_of_word h1⟩
theorem goodIn_app {big a b : List Cond} (ha : GoodIn big a) (hb : GoodIn big b) : GoodIn big (a ++ b) := fun w h => (List.mem_append.mp h).elim (ha w) (hb w)
theorem goodIn_ca {big a b : List Cond} {c : Cond} (ha : GoodIn big (c :: a)) (hb : GoodIn big b) : GoodIn big (c :: (a ++ b)) := fun w h => (List.mem_cons.mp h).elim (fun e => ha w (List.mem_cons.mpr (Or.inl e))) (fun h => (List.mem_append.mp h).elim (fun h => ha w (List.mem_cons.mpr (Or.inr h))) (hb w))
theorem goodIn_sub {big ws : List Cond} (hm : ∀ w ∈ ws, w ∈ big) (h : ws.all goodWord = true) : GoodIn big ws := fun w hw => ⟨hm w hw, good_of_word (List.all_eq_true.mp h w hw)⟩
/-! ===== END ===== -/

/-! ===== BEGIN exceptions that leave a method, and their catching by the caller (launches without stack traces) ===== -/
section VXA
/-! The laws vx_back, vx_callV, vx_callS, vx_callSW, vx_throw0, vx_throwS follow proofs of the library, with one case more: JvmDerived/Free/Laws.lean (Back.of_free), Shelf42/LK1.lean (callV, callS), Shelf/KitTraced.lean (throwNew0V, throwNewS). -/
/-- where a method has thrown q: the class by its name, the cell, what was written, the world -/
def vx_T (XC : String → State → State → Prop) (st : State) (q : Addr) (t : State) (mc ms : Nat) (free : Addr → Prop) : Prop :=
  ∃ (E : String) (ce : Cell) (L : List Loc), XC E st t ∧ t.heap[q]? = some ce ∧ ce.vm = .none ∧ st.vm.findClass E = some ce.cls ∧ st.WarmedH t.vm ∧ st.sameButNew ({ t with vm := st.vm } : State) L mc ms ∧ ∀ z ∈ L, free z.base
def vx_Q (Qc : Array Value → State → Outcome → State → Prop) (XC : String → State → State → Prop) (mc ms : Nat) (free : Addr → Prop) : Array Value → State → Outcome → State → Prop := fun a st o t =>
  (Qc a st o t ∧ ∃ L, FrameEnd st o t L mc ms ∧ ∀ q ∈ L, free q.base) ∨ ∃ q, o = .threw q ∧ vx_T XC st q t mc ms free
/-- a callee that returns or throws -/
def vx_Met (l : Launch) (y : MethodName) (ws : List Cond) (rm : Room) (Pc : Array Value → State → Prop) (Qc : Array Value → State → Outcome → State → Prop) (XC : String → State → State → Prop) (mc ms : Nat) (free : Addr → Prop) : Prop :=
  MetFree l y (headSpec ws rm) Pc (fun _ _ _ _ _ => True) (vx_Q Qc XC mc ms free)
def vx_Post (XC : String → State → State → Prop) (mc ms : Nat) (free : Addr → Prop) : Pt → Array Value → Addr → Pt → Prop := fun A a q B =>
  ∃ (g : JFrame) (mk : MethodId) (t : State) (L : List Loc) (E : String) (ce : Cell), B.U.heap = t.heap ∧ B.U.vm = t.vm ∧ XC E (A.U.calling g mk a) t ∧ t.heap[q]? = some ce ∧ ce.vm = .none ∧ A.U.vm.findClass E = some ce.cls ∧ B.locs = A.locs ++ L ∧ (∀ z ∈ L, free z.base) ∧ B.cells = A.cells + mc ∧ B.slots = A.slots + ms
def vx_Back (l : Launch) (R : Room) (p : Program) (e : Env) (below : List Frame) (s : State) (sargs : Array Value) (y : MethodName) (len W9 : Nat)
    (Pre : Pt → Array Value → Prop) (Post : Pt → Array Value → Option Value → Pt → Prop) (PostX : Pt → Array Value → Addr → Pt → Prop) : Prop :=
  ∀ (m : MethodId) (meth : Method) (c : Code) (A : Pt) (g : JFrame) (ig : Instr) (mk : MethodId) (a : Array Value),
    Stand p l e R s m sargs below meth c A.U A.locs A.cells A.slots → g.method = m → g.locals.size = c.maxLocals → decode c.code g.pc = .ok (ig, len) →
    2 * g.monitorRoom + (g.stack.map fun v => v.category).sum ≤ W9 → A.U.methodNamed? y = some mk → Pre A a →
    (∃ (v : Option Value) (B : Pt), Stand p l e R s m sargs below meth c B.U B.locs B.cells B.slots ∧ Post A a v B ∧
      Steps p.tables e below (doInvoke e (A.U.setTop g) [] mk a).1 (B.U.setTop { g with pc := g.pc + len, stack := v.toList ++ g.stack })) ∨
    (∃ (q : Addr) (B : Pt), Stand p l e R s m sargs below meth c B.U B.locs B.cells B.slots ∧ PostX A a q B ∧
      Steps p.tables e below (doInvoke e (A.U.setTop g) [] mk a).1 ((B.U.setTop g).pushFrame (.throwing q)))
section Payer
variable {l : Launch} {R : Room} {p : Program} {e : Env} {below : List Frame} {s : State} {sargs : Array Value} {y : MethodName} {len W9 : Nat}
theorem vx_back {ws : List Cond} {rm : Room} {Pc : Array Value → State → Prop} {Qc : Array Value → State → Outcome → State → Prop} {XC : String → State → State → Prop} {mc ms : Nat} {free : Addr → Prop} {bytes : ByteArray} {maxL : Nat} {ret : Option FieldType}
    (hM : vx_Met l y ws rm Pc Qc XC mc ms free) (hblind : FrameBlind Pc) (hrc : rm.cells = mc) (hrs : rm.slots = ms)
    (hframes : rm.frames + 1 ≤ R.frames) (hlocals : W9 + (maxL + 11) + rm.locals ≤ R.locals)
    (hws : ∀ w ∈ ws, ∀ a' U, s.WarmedH U.vm → w.before a' U = true) (hcode : Cond.code y bytes maxL ret ∈ ws) (hinit : ∀ a' U, s.WarmedH U.vm → (Cond.initialized y.cls).before a' U = true) :
    vx_Back l R p e below s sargs y len W9 (PreOf R mc ms Pc) (PostOf Qc mc ms free) (vx_Post XC mc ms free) := by
  intro m meth c A g ig mk a X hg hsize hdg hW hn hp
  have h1 : (headSpec ws rm).pre.before a A.U = true := atoms_intro fun w hw => hws w hw _ _ X.warmed
  have h2 : (Cond.code y bytes maxL ret).before a A.U = true := hws _ hcode _ _ X.warmed
  have h3 : (Cond.initialized y.cls).before a A.U = true := hinit _ _ X.warmed
  have h4 : A.cells + (headSpec ws rm).room.cells ≤ R.cells := by rw [show (headSpec ws rm).room.cells = mc from hrc]; exact hp.1
  have h5 : A.slots + (headSpec ws rm).room.slots ≤ R.slots := by rw [show (headSpec ws rm).room.slots = ms from hrs]; exact hp.2.1
  have hPc : Pc a (A.U.calling g mk a) := hblind _ _ _ _ hp.2.2
  obtain ⟨U, Ls, c0, s0⟩ := A
  dsimp only [Pt.U, Pt.locs, Pt.cells, Pt.slots] at h1 h2 h3 h4 h5 X hn hPc ⊢
  obtain ⟨methY, cY, hmY, hcY, -, hlY, -, -, -, -⟩ := Cond.code_spec hn h2
  obtain ⟨kY, hkY, -⟩ := className_of_methodNamed hn
  have hinitY : kY.init = .initialized := Cond.initialized_spec (findClass_of_methodNamed hn) hkY h3
  have h : At U g.method c below := by rw [hg]; exact X.here
  have hlocals9 : W9 + (maxL + 11) + (headSpec ws rm).room.locals ≤ R.locals := hlocals
  have happ : (headSpec ws rm).appliesLoose y e.platform (U.calling g mk a) = true :=
    Spec.appliesLoose_calling (g := g) h hdg hn hkY hinitY
      (X.room_calling (g := g) (R' := (headSpec ws rm).room) hsize hmY hcY hframes (by rw [hlY]; omega) h4 h5) h1
  obtain ⟨mid, hmid⟩ := h.above
  have hfr : (U.setTop g).frames = (.java g :: mid) ++ below := by rw [State.frames_setTop' g h.top, hmid]; rfl
  obtain ⟨o, s₂, hsteps, -, hend, hq⟩ := Steps.callFree hM p X.admits X.cas X.clock (acts := []) hfr happ hPc trivial
  have hq' : vx_Q Qc XC mc ms free a (U.calling g mk a) o s₂ := hq
  rw [State.frames_setTop' g h.top] at hend
  obtain ⟨g₀, hg0⟩ := Option.isSome_iff_exists.mp h.top
  obtain ⟨r, hr⟩ := State.topJava?_eq_some.mp hg0
  have hr' : (({ U with heap := s₂.heap, slotsUsed := s₂.slotsUsed } : State).setVm s₂.vm).frames = .java g₀ :: r := hr
  rcases hq' with ⟨hqc, L, hfe, hL⟩ | ⟨q, rfl, E, ce, L, hx, hce, hcv, hcl, hW₂, hsm, hL⟩
  · obtain ⟨⟨v, rfl⟩, hW₂, e2, q2, q3, q4, q5, q6⟩ := id hfe
    have e3 : s₂ = ({ (U.calling g mk a).setFrames s₂.frames with heap := s₂.heap, slotsUsed := s₂.slotsUsed } : State).setVm s₂.vm := by
      have : s₂ = ({ s₂ with vm := (U.calling g mk a).vm } : State).setVm s₂.vm := rfl
      rw [e2] at this
      exact this
    obtain ⟨c₂, i₂, len₂, hc₂, hd₂, hf₂⟩ := hend
    have hW' : U.WarmedH s₂.vm := hW₂
    have hcc : c₂ = c := by
      have h1 : s₂.code? g.method = U.code? g.method := by
        rw [State.code?_eq, State.code?_eq, hW'.alike.method?]
      exact Option.some.inj (hc₂.symm.trans (h1.trans h.code))
    subst hcc
    have hlen : len₂ = len := by rw [hdg] at hd₂; cases hd₂; rfl
    subst hlen
    have hs₂ : s₂ = (({ U with heap := s₂.heap, slotsUsed := s₂.slotsUsed } : State).setVm s₂.vm).setTop { g with pc := g.pc + len₂, stack := v.toList ++ g.stack } := by
      refine e3.trans ?_
      rw [hf₂, State.calling_eq h.top, State.setFrames_setFrames, State.setTop_of_frames _ hr', hr]
      rfl
    have hsame : U.sameButNew ({ U with heap := s₂.heap, slotsUsed := s₂.slotsUsed } : State) L mc ms := by
      refine ⟨?_, q2, q3, q4, q5, q6⟩
      obtain ⟨t, ht, -⟩ := State.frames_cons hr
      show ({ U with heap := s₂.heap, slotsUsed := s₂.slotsUsed } : State) = { U.setFrames U.frames with heap := s₂.heap, slotsUsed := s₂.slotsUsed }
      rw [State.setFrames_self ht]
    subst hg
    refine Or.inl ⟨v, ⟨(({ U with heap := s₂.heap, slotsUsed := s₂.slotsUsed } : State).setVm s₂.vm), Ls ++ L, c0 + mc, s0 + ms⟩,
      ⟨X.admits, X.cas, X.clock, X.frames, X.room, X.hears, X.method, X.code, (X.here.setHeapUsed s₂.heap s₂.slotsUsed).setVm hW'.alike, X.tail, State.WarmedH.trans X.warmed hW', X.limits, X.bytes, X.same.trans (hsame.setVm s.vm)⟩,
      ⟨g, mk, s₂, L, rfl, rfl, hqc, rfl, hL, rfl, rfl⟩, ?_⟩
    show Steps p.tables e below _ ((({ U with heap := s₂.heap, slotsUsed := s₂.slotsUsed } : State).setVm s₂.vm).setTop { g with pc := g.pc + len₂, stack := v.toList ++ g.stack })
    rw [← hs₂]
    exact hsteps
  · obtain ⟨e2, q2, q3, q4, q5, q6⟩ := id hsm
    have e3 : s₂ = ({ (U.calling g mk a).setFrames s₂.frames with heap := s₂.heap, slotsUsed := s₂.slotsUsed } : State).setVm s₂.vm := by
      have : s₂ = ({ s₂ with vm := (U.calling g mk a).vm } : State).setVm s₂.vm := rfl
      rw [e2] at this
      exact this
    have hf₂ : s₂.frames = .throwing q :: .java g :: U.frames.tail := hend
    have hW' : U.WarmedH s₂.vm := hW₂
    have hs₂ : s₂ = ((({ U with heap := s₂.heap, slotsUsed := s₂.slotsUsed } : State).setVm s₂.vm).setTop g).pushFrame (.throwing q) := by
      refine e3.trans ?_
      rw [hf₂, State.calling_eq h.top, State.setFrames_setFrames, State.pushFrame, State.frames_setTop _ hr', State.setTop_of_frames _ hr', State.setFrames_setFrames, hr]
      rfl
    have hsame : U.sameButNew ({ U with heap := s₂.heap, slotsUsed := s₂.slotsUsed } : State) L mc ms := by
      refine ⟨?_, q2, q3, q4, q5, q6⟩
      obtain ⟨t, ht, -⟩ := State.frames_cons hr
      show ({ U with heap := s₂.heap, slotsUsed := s₂.slotsUsed } : State) = { U.setFrames U.frames with heap := s₂.heap, slotsUsed := s₂.slotsUsed }
      rw [State.setFrames_self ht]
    subst hg
    refine Or.inr ⟨q, ⟨(({ U with heap := s₂.heap, slotsUsed := s₂.slotsUsed } : State).setVm s₂.vm), Ls ++ L, c0 + mc, s0 + ms⟩,
      ⟨X.admits, X.cas, X.clock, X.frames, X.room, X.hears, X.method, X.code, (X.here.setHeapUsed s₂.heap s₂.slotsUsed).setVm hW'.alike, X.tail, State.WarmedH.trans X.warmed hW', X.limits, X.bytes, X.same.trans (hsame.setVm s.vm)⟩,
      ⟨g, mk, s₂, L, E, ce, rfl, rfl, hx, hce, hcv, hcl, rfl, hL, rfl, rfl⟩, ?_⟩
    show Steps p.tables e below _ (((({ U with heap := s₂.heap, slotsUsed := s₂.slotsUsed } : State).setVm s₂.vm).setTop g).pushFrame (.throwing q))
    rw [← hs₂]
    exact hsteps
end Payer
section Calls
variable {p : Program} {l : Launch} {e : Env} {R : Room} {s : State} {m : MethodId} {args : Array Value} {below : List Frame} {meth : Method} {c : Code} {T : State} {locs : List Loc} {cells slots : Nat}
theorem vx_callV (X : Stand p l e R s m args below meth c T locs cells slots) (hexec : p.tables.exec = Jvm.exec) {own C : String} {index : Nat} {y : MethodName} {bytes : ByteArray} {maxL : Nat} {ret : Option FieldType}
    (hown : s.vm.findClass own = some m.cls) (hlink : (Cond.methodLink own index y).before args s = true) (hinst : (Cond.instanceMethod y).before args s = true) (hsel : (Cond.selects C y y).before args s = true)
    (hcode : (Cond.code y bytes maxL ret).before args s = true) (hy : y.cls ≠ "java/lang/invoke/MethodHandle" ∧ y.cls ≠ "java/lang/invoke/VarHandle")
    {W9 : Nat} {Pre : Pt → Array Value → Prop} {Post : Pt → Array Value → Option Value → Pt → Prop} {PostX : Pt → Array Value → Addr → Pt → Prop} (hK : vx_Back l R p e below s args y 3 W9 Pre Post PostX)
    {b : Addr} {cellB : Cell} (hcell : T.heap[b]? = some cellB) (hobj : cellB.vm.isStatics = false) (hcls : s.vm.findClass C = some cellB.cls)
    {g : JFrame} (hg : g.method = m) (hsize : g.locals.size = c.maxLocals) {argsL rest : List Value} (hlen : ∀ sig, parseMethodDescriptor y.desc = some sig → argsL.length = sig.parameters.length)
    (hstack : g.stack = argsL.reverse ++ .ref b :: rest) (hW : 2 * g.monitorRoom + (rest.map fun v => v.category).sum ≤ W9) (hdg : decode c.code g.pc = .ok (.invokevirtual index, 3))
    (hpre : ∀ vm₁, s.WarmedH vm₁ → Pre ⟨T.setVm vm₁, locs, cells, slots⟩ (Value.ref b :: argsL).toArray) :
    (∃ (v : Option Value) (vm₁ : Vm) (B : Pt), s.WarmedH vm₁ ∧ Stand p l e R s m args below meth c B.U B.locs B.cells B.slots ∧ Post ⟨T.setVm vm₁, locs, cells, slots⟩ (Value.ref b :: argsL).toArray v B ∧
      ∀ target, Steps p.tables e below (B.U.setTop { g with pc := g.pc + 3, stack := v.toList ++ rest }) target → Steps p.tables e below (T.setTop g) target) ∨
    (∃ (q : Addr) (vm₁ : Vm) (B : Pt), s.WarmedH vm₁ ∧ Stand p l e R s m args below meth c B.U B.locs B.cells B.slots ∧ PostX ⟨T.setVm vm₁, locs, cells, slots⟩ (Value.ref b :: argsL).toArray q B ∧
      Steps p.tables e below (T.setTop g) ((B.U.setTop { g with stack := rest }).pushFrame (.throwing q))) := by
  obtain ⟨mk, methM, hnamed, hmethM, hstM, habM⟩ := Cond.instanceMethod_spec hinst
  obtain ⟨methM', cM, hmethM', -, -, -, -, -, -, hsigM⟩ := Cond.code_spec hnamed hcode
  cases hmethM.symm.trans hmethM'
  obtain ⟨c2, r2, m2, q1, q2, q3, q4, kP, hkP, hkPi⟩ := Cond.selects_spec hsel
  cases hcls.symm.trans q1
  cases (State.methodFound?_of_named hnamed hy).symm.trans q2
  cases hnamed.symm.trans q3
  have hselP : selectMethod e.platform s.vm cellB.cls mk = .method mk := by rw [Launch.admits_selectMethod X.admits]; exact q4
  obtain ⟨vm₁, X₁, hstep₁⟩ := X.invokevirtual hexec hown hlink hnamed hmethM hstM hkP hkPi hy (a := b) (cell := cellB) hcell
    (fun z h => by rw [h] at hobj; cases hobj) hselP hmethM habM hkP hkPi (g := g) hg (argsL := argsL) (rest := rest) (hlen _ hsigM) hstack hdg
  rcases hK m meth c ⟨T.setVm vm₁, locs, cells, slots⟩ { g with stack := rest } (.invokevirtual index) mk (Value.ref b :: argsL).toArray X₁ hg hsize hdg hW (X₁.named hnamed) (hpre vm₁ X₁.warmed) with ⟨v, B, X', hpost, hsteps⟩ | ⟨q, B, X', hpost, hsteps⟩
  · exact Or.inl ⟨v, vm₁, B, X₁.warmed, X', hpost, fun target h => hstep₁ _ fun acts => by rw [doInvoke_state]; exact hsteps.trans h⟩
  · exact Or.inr ⟨q, vm₁, B, X₁.warmed, X', hpost, hstep₁ _ fun acts => by rw [doInvoke_state]; exact hsteps⟩
theorem vx_callS (X : Stand p l e R s m args below meth c T locs cells slots) (hexec : p.tables.exec = Jvm.exec) {own : String} {index : Nat} {y : MethodName} {bytes : ByteArray} {maxL : Nat} {ret : Option FieldType}
    (hown : s.vm.findClass own = some m.cls) (hlink : (Cond.methodLink own index y).before args s = true) (hstat : (Cond.static y).before args s = true) (hinit : (Cond.initialized y.cls).before args s = true)
    (hcode : (Cond.code y bytes maxL ret).before args s = true) (hy : y.cls ≠ "java/lang/invoke/MethodHandle" ∧ y.cls ≠ "java/lang/invoke/VarHandle")
    {W9 : Nat} {Pre : Pt → Array Value → Prop} {Post : Pt → Array Value → Option Value → Pt → Prop} {PostX : Pt → Array Value → Addr → Pt → Prop} (hK : vx_Back l R p e below s args y 3 W9 Pre Post PostX)
    {g : JFrame} (hg : g.method = m) (hsize : g.locals.size = c.maxLocals) {argsL rest : List Value} (hlen : ∀ sig, parseMethodDescriptor y.desc = some sig → argsL.length = sig.parameters.length)
    (hstack : g.stack = argsL.reverse ++ rest) (hW : 2 * g.monitorRoom + (rest.map fun v => v.category).sum ≤ W9) (hdg : decode c.code g.pc = .ok (.invokestatic index, 3))
    (hpre : ∀ vm₁, s.WarmedH vm₁ → Pre ⟨T.setVm vm₁, locs, cells, slots⟩ argsL.toArray) :
    (∃ (v : Option Value) (vm₁ : Vm) (B : Pt), s.WarmedH vm₁ ∧ Stand p l e R s m args below meth c B.U B.locs B.cells B.slots ∧ Post ⟨T.setVm vm₁, locs, cells, slots⟩ argsL.toArray v B ∧
      ∀ target, Steps p.tables e below (B.U.setTop { g with pc := g.pc + 3, stack := v.toList ++ rest }) target → Steps p.tables e below (T.setTop g) target) ∨
    (∃ (q : Addr) (vm₁ : Vm) (B : Pt), s.WarmedH vm₁ ∧ Stand p l e R s m args below meth c B.U B.locs B.cells B.slots ∧ PostX ⟨T.setVm vm₁, locs, cells, slots⟩ argsL.toArray q B ∧
      Steps p.tables e below (T.setTop g) ((B.U.setTop { g with stack := rest }).pushFrame (.throwing q))) := by
  obtain ⟨mk, hnamed⟩ := Cond.code_named hcode
  obtain ⟨methM, cM, hmethM, -, -, -, -, -, -, hsigM⟩ := Cond.code_spec hnamed hcode
  have hstatic : methM.isStatic = true := Cond.static_spec hnamed hmethM hstat
  obtain ⟨kP, hkP, -⟩ := className_of_methodNamed hnamed
  have hinitP : kP.init = .initialized := Cond.initialized_spec (findClass_of_methodNamed hnamed) hkP hinit
  obtain ⟨vm₁, X₁, hstep₁⟩ := X.invokestatic hexec hown hlink hnamed hmethM hstatic hkP hinitP hy (g := g) hg (argsL := argsL) (rest := rest) (hlen _ hsigM) hstack hdg
  rcases hK m meth c ⟨T.setVm vm₁, locs, cells, slots⟩ { g with stack := rest } (.invokestatic index) mk argsL.toArray X₁ hg hsize hdg hW (X₁.named hnamed) (hpre vm₁ X₁.warmed) with ⟨v, B, X', hpost, hsteps⟩ | ⟨q, B, X', hpost, hsteps⟩
  · exact Or.inl ⟨v, vm₁, B, X₁.warmed, X', hpost, fun target h => hstep₁ _ fun acts => by rw [doInvoke_state]; exact hsteps.trans h⟩
  · exact Or.inr ⟨q, vm₁, B, X₁.warmed, X', hpost, hstep₁ _ fun acts => by rw [doInvoke_state]; exact hsteps⟩
end Calls
theorem vx_cls {s : State} {T : State} {vm₁ : Vm} {E : String} {k : ClassId} (hW : s.WarmedH vm₁) (h : (T.setVm vm₁).vm.findClass E = some k) : s.vm.findClass E = some k := by
  have h1 : vm₁.findClass E = some k := h
  rw [hW.alike.findClass] at h1
  exact h1
/-- the method's frame g, with q thrown over it -/
def vx_W (p : Program) (l : Launch) (e : Env) (R : Room) (s : State) (m : MethodId) (args : Array Value) (below : List Frame) (meth : Method) (c : Code) (H : Heap) (locs : List Loc) (cells slots : Nat) (Q : State → Prop) (g : JFrame) (q : Addr) : Prop :=
  ∀ T : State, T.heap = H → Stand p l e R s m args below meth c T locs cells slots → ∃ t, Steps p.tables e below ((T.setTop g).pushFrame (.throwing q)) t ∧ Q t
def vx_Run (p : Program) (l : Launch) (e : Env) (R : Room) (s : State) (m : MethodId) (args : Array Value) (below : List Frame) (meth : Method) (c : Code) (H : Heap) (locs : List Loc) (cells slots mc ms : Nat) (g : JFrame) (rest : List Value) (Qa : State → Outcome → State → Prop) (XC : String → State → State → Prop) (free : Addr → Prop) : Prop :=
  ∀ T : State, T.heap = H → Stand p l e R s m args below meth c T locs cells slots →
    (∃ (v : Option Value) (st₀ t T' : State) (L : List Loc), st₀.heap = H ∧ Stand p l e R s m args below meth c T' (locs ++ L) (cells + mc) (slots + ms) ∧ (∀ q ∈ L, free q.base) ∧ T'.heap = t.heap ∧ T'.vm = t.vm ∧ Qa st₀ (.returned v) t ∧
      Goes p e below T g T' { g with pc := g.pc + 3, stack := v.toList ++ rest }) ∨
    (∃ (q : Addr) (st₀ t T' : State) (L : List Loc) (E : String) (ce : Cell), st₀.heap = H ∧ Stand p l e R s m args below meth c T' (locs ++ L) (cells + mc) (slots + ms) ∧ (∀ z ∈ L, free z.base) ∧ T'.heap = t.heap ∧ T'.vm = t.vm ∧ XC E st₀ t ∧ t.heap[q]? = some ce ∧ ce.vm = .none ∧ s.vm.findClass E = some ce.cls ∧
      Steps p.tables e below (T.setTop g) ((T'.setTop { g with stack := rest }).pushFrame (.throwing q)))
def vx_X {S : Type} (px : S → Prop) (B : String → S → State → Prop) (A : Nat → Prop) : String → State → State → Prop := fun E st t => ∃ u : S, px u ∧ B E u t ∧ va_F A st t
section Runs
variable {p : Program} {l : Launch} {e : Env} {R : Room} {s : State} {m : MethodId} {args : Array Value} {below : List Frame} {meth : Method} {c : Code} {H : Heap} {locs : List Loc} {cells slots : Nat}
variable {y : MethodName} {bytes cc : ByteArray} {maxL nL mc ms n index : Nat} {ret : Option FieldType} {ws : List Cond} {rm : Room} {Pc : Array Value → State → Prop} {Qc : Array Value → State → Outcome → State → Prop} {XC : String → State → State → Prop} {free : Addr → Prop} {Ts : List Cond} {own C : String} {b : Addr} {As rest : List Value} {g : JFrame}
theorem vx_callBack (cb : CallB R s args own index y bytes maxL ret ws rm mc ms n) (hM : vx_Met l y ws rm Pc Qc XC mc ms free) (hbl : FrameBlind Pc) : vx_Back l R p e below s args y 3 8 (PreOf R mc ms Pc) (PostOf Qc mc ms free) (vx_Post XC mc ms free) := by
  obtain ⟨hrc, hrs, hfr, hlo, hws, hcw, -, hini, -⟩ := cb
  exact vx_back (bytes := bytes) (maxL := maxL) (ret := ret) hM hbl hrc hrs hfr hlo hws hcw (fun a' U hW => word_at hW (Or.inl (by first | rfl | simp [Cond.onTables, Cond.keeps, Cond.steady])) hini)
theorem vx_runV (S : CallFix p m c cc nL s args Ts own) (hM : vx_Met l y ws rm Pc Qc XC mc ms free) (cw : CallW R s args own C index y bytes maxL ret ws rm mc ms n) (hp : PreV s H C b Pc As)
    (hg : g.method = m) (hn : As.length = n) (hsize : g.locals.size = nL) (hstack : g.stack = As.reverse ++ .ref b :: rest) (hW : 2 * g.monitorRoom + (rest.map fun v => v.category).sum ≤ 8) (hdg : decode cc g.pc = .ok (.invokevirtual index, 3)) (hf : cells + mc ≤ R.cells ∧ slots + ms ≤ R.slots) :
    vx_Run p l e R s m args below meth c H locs cells slots mc ms g rest (Qc (Value.ref b :: As).toArray) XC free := by
  have hK : vx_Back l R p e below s args y 3 8 (PreOf R mc ms Pc) (PostOf Qc mc ms free) (vx_Post XC mc ms free) := vx_callBack cw.1 hM hp.1
  obtain ⟨⟨-, -, -, -, -, -, hcode, -, hy, hlen, hl⟩, hin, hse⟩ := cw
  obtain ⟨hx, hb, hml, ho, -⟩ := S
  obtain ⟨-, ⟨cellB, hcB, hoB, hclB⟩, hPc⟩ := hp
  intro T hT X
  rcases vx_callV X hx (C := C) (bytes := bytes) (maxL := maxL) (ret := ret) ho hl hin hse hcode hy hK (by rw [hT]; exact hcB) hoB hclB hg (hsize.trans hml.symm) (argsL := As) (rest := rest) (fun sig h => hn.trans (hlen sig h)) hstack hW (by rw [hb]; exact hdg)
    (fun vm₁ hW₁ => ⟨hf.1, hf.2, hPc (T.setVm vm₁) hT hW₁⟩) with ⟨v, vm₁, ⟨U', l2, c2, s2⟩, hW₁, X', ⟨g', mk, t, L, e1, e2, hq, h1, hL, h2, h3⟩, st⟩ | ⟨q, vm₁, ⟨U', l2, c2, s2⟩, hW₁, X', ⟨g', mk, t, L, E, ce, e1, e2, hq, hce, hcv, hcl, h1, hL, h2, h3⟩, st⟩
  · dsimp only [Pt.U, Pt.locs, Pt.cells, Pt.slots] at X' e1 e2 h1 h2 h3 st
    subst h1; subst h2; subst h3
    exact Or.inl ⟨v, (T.setVm vm₁).calling g' mk (Value.ref b :: As).toArray, t, U', L, hT, X', hL, e1, e2, hq, st⟩
  · dsimp only [Pt.U, Pt.locs, Pt.cells, Pt.slots] at X' e1 e2 h1 h2 h3 st hcl
    subst h1; subst h2; subst h3
    exact Or.inr ⟨q, (T.setVm vm₁).calling g' mk (Value.ref b :: As).toArray, t, U', L, E, ce, hT, X', hL, e1, e2, hq, hce, hcv, vx_cls hW₁ hcl, st⟩
theorem vx_runS (S : CallFix p m c cc nL s args Ts own) (hM : vx_Met l y ws rm Pc Qc XC mc ms free) (cw : CallB R s args own index y bytes maxL ret ws rm mc ms n ∧ (Cond.static y).before args s = true) (hp : PreS s H Pc As)
    (hg : g.method = m) (hn : As.length = n) (hsize : g.locals.size = nL) (hstack : g.stack = As.reverse ++ rest) (hW : 2 * g.monitorRoom + (rest.map fun v => v.category).sum ≤ 8) (hdg : decode cc g.pc = .ok (.invokestatic index, 3)) (hf : cells + mc ≤ R.cells ∧ slots + ms ≤ R.slots) :
    vx_Run p l e R s m args below meth c H locs cells slots mc ms g rest (Qc As.toArray) XC free := by
  have hK : vx_Back l R p e below s args y 3 8 (PreOf R mc ms Pc) (PostOf Qc mc ms free) (vx_Post XC mc ms free) := vx_callBack cw.1 hM hp.1
  obtain ⟨⟨-, -, -, -, -, -, hcode, hini, hy, hlen, hl⟩, hstt⟩ := cw
  obtain ⟨hx, hb, hml, ho, -⟩ := S
  intro T hT X
  rcases vx_callS X hx (bytes := bytes) (maxL := maxL) (ret := ret) ho hl hstt hini hcode hy hK hg (hsize.trans hml.symm) (argsL := As) (rest := rest) (fun sig h => hn.trans (hlen sig h)) hstack hW (by rw [hb]; exact hdg)
    (fun vm₁ hW₁ => ⟨hf.1, hf.2, hp.2 (T.setVm vm₁) hT hW₁⟩) with ⟨v, vm₁, ⟨U', l2, c2, s2⟩, hW₁, X', ⟨g', mk, t, L, e1, e2, hq, h1, hL, h2, h3⟩, st⟩ | ⟨q, vm₁, ⟨U', l2, c2, s2⟩, hW₁, X', ⟨g', mk, t, L, E, ce, e1, e2, hq, hce, hcv, hcl, h1, hL, h2, h3⟩, st⟩
  · dsimp only [Pt.U, Pt.locs, Pt.cells, Pt.slots] at X' e1 e2 h1 h2 h3 st
    subst h1; subst h2; subst h3
    exact Or.inl ⟨v, (T.setVm vm₁).calling g' mk As.toArray, t, U', L, hT, X', hL, e1, e2, hq, st⟩
  · dsimp only [Pt.U, Pt.locs, Pt.cells, Pt.slots] at X' e1 e2 h1 h2 h3 st hcl
    subst h1; subst h2; subst h3
    exact Or.inr ⟨q, (T.setVm vm₁).calling g' mk As.toArray, t, U', L, E, ce, hT, X', hL, e1, e2, hq, hce, hcv, vx_cls hW₁ hcl, st⟩
end Runs
section Rows
variable {p : Program} {l : Launch} {e : Env} {R : Room} {s : State} {m : MethodId} {args : Array Value} {below : List Frame} {meth : Method} {c : Code} {H : Heap} {locs : List Loc} {cells slots : Nat} {Q : State → Prop}
variable {mc ms : Nat} {free : Addr → Prop} {A0 A1 : Nat → Prop} {H0 : Heap} {a : Array Value} {pc : Nat} {ls : Array Slot} {st0 rest : List Value}
theorem vx_keep {st₀ t T' : State} {L : List Loc} (h0 : st₀.heap = H) (e1 : T'.heap = t.heap) (hS : va_S A0 H0 H locs) (hA : ∀ q, q < H.size → A1 q → A0 q) (hf : ∀ q, free q → A0 q) (hL : ∀ q ∈ L, free q.base) (hF : va_F A1 st₀ t) :
    H.size ≤ T'.heap.size ∧ (∀ q : Nat, q < H.size → ¬ A1 q → T'.heap[q]? = H[q]?) ∧ va_S A0 H0 T'.heap (locs ++ L) := by
  obtain ⟨hz, hk⟩ := hF
  rw [h0] at hz hk
  exact ⟨by rw [e1]; exact hz, fun q h1 h2 => by rw [e1]; exact hk q h1 h2,
    ⟨Nat.le_trans hS.1 (by rw [e1]; exact hz), fun q h1 h2 => by rw [e1, hk q (Nat.lt_of_lt_of_le h1 hS.1) (fun z => h2 (hA q (Nat.lt_of_lt_of_le h1 hS.1) z))]; exact hS.2.1 q h1 h2, fun q hq => by
      rcases List.mem_append.mp hq with h | h
      · exact hS.2.2 q h
      · exact hf _ (hL q h)⟩⟩
theorem vx_calli {S SX : Type} {post : Int32 → S → Prop} {px : SX → Prop} {B : S → State → Prop} {BX : String → SX → State → Prop} {AX : Nat → Prop} (hr : vx_Run p l e R s m args below meth c H locs cells slots mc ms (F0 m pc ls st0) rest (va_Qi post B A1 a) (vx_X px BX AX) free) (hS : va_S A0 H0 H locs) (hA : ∀ q, q < H.size → A1 q → A0 q) (hf : ∀ q, free q → A0 q) (hAX : ∀ q, q < H.size → AX q → A0 q)
    (kx : ∀ (E : String) (ce : Cell) (q9 : Addr) (u : SX) (t : State) (H1 : Heap) (locs1 : List Loc), t.heap = H1 → s.vm.Alike t.vm → px u → BX E u t → H.size ≤ H1.size → (∀ q : Nat, q < H.size → ¬ AX q → H1[q]? = H[q]?) → va_S A0 H0 H1 locs1 → H1[q9]? = some ce → ce.vm = .none → s.vm.findClass E = some ce.cls → vx_W p l e R s m args below meth c H1 locs1 (cells + mc) (slots + ms) Q (F0 m pc ls rest) q9)
    (kk : ∀ (r : Int32) (u : S) (t : State) (H1 : Heap) (locs1 : List Loc), t.heap = H1 → s.vm.Alike t.vm → post r u → B u t → H.size ≤ H1.size → (∀ q : Nat, q < H.size → ¬ A1 q → H1[q]? = H[q]?) → va_S A0 H0 H1 locs1 → W p l e R s m args below meth c H1 locs1 (cells + mc) (slots + ms) Q (F0 m (pc + 3) ls (.int r :: rest))) : W p l e R s m args below meth c H locs cells slots Q (F0 m pc ls st0) := by
  intro T hT X
  rcases hr T hT X with ⟨v, st₀, t, T', L, h0, X', hL, e1, e2, ⟨⟨r, u, hv, hp, hb⟩, hF⟩, st⟩ | ⟨q, st₀, t, T', L, E, ce, h0, X', hL, e1, e2, ⟨u, hp, hb, hF⟩, hce, hcv, hcl, st⟩
  · cases hv
    obtain ⟨k1, k2, k3⟩ := vx_keep h0 e1 hS hA hf hL hF
    obtain ⟨t2, a1, b1⟩ := kk r u t T'.heap (locs ++ L) e1.symm (by rw [← e2]; exact X'.warmed.alike) hp hb k1 k2 k3 T' rfl X'
    exact ⟨t2, st t2 a1, b1⟩
  · obtain ⟨k1, k2, k3⟩ := vx_keep h0 e1 hS hAX hf hL hF
    obtain ⟨t2, a1, b1⟩ := kx E ce q u t T'.heap (locs ++ L) e1.symm (by rw [← e2]; exact X'.warmed.alike) hp hb k1 k2 k3 (by rw [e1]; exact hce) hcv hcl T' rfl X'
    exact ⟨t2, st.trans a1, b1⟩
theorem vx_calll {S SX : Type} {post : Int64 → S → Prop} {px : SX → Prop} {B : S → State → Prop} {BX : String → SX → State → Prop} {AX : Nat → Prop} (hr : vx_Run p l e R s m args below meth c H locs cells slots mc ms (F0 m pc ls st0) rest (va_Ql post B A1 a) (vx_X px BX AX) free) (hS : va_S A0 H0 H locs) (hA : ∀ q, q < H.size → A1 q → A0 q) (hf : ∀ q, free q → A0 q) (hAX : ∀ q, q < H.size → AX q → A0 q)
    (kx : ∀ (E : String) (ce : Cell) (q9 : Addr) (u : SX) (t : State) (H1 : Heap) (locs1 : List Loc), t.heap = H1 → s.vm.Alike t.vm → px u → BX E u t → H.size ≤ H1.size → (∀ q : Nat, q < H.size → ¬ AX q → H1[q]? = H[q]?) → va_S A0 H0 H1 locs1 → H1[q9]? = some ce → ce.vm = .none → s.vm.findClass E = some ce.cls → vx_W p l e R s m args below meth c H1 locs1 (cells + mc) (slots + ms) Q (F0 m pc ls rest) q9)
    (kk : ∀ (r : Int64) (u : S) (t : State) (H1 : Heap) (locs1 : List Loc), t.heap = H1 → s.vm.Alike t.vm → post r u → B u t → H.size ≤ H1.size → (∀ q : Nat, q < H.size → ¬ A1 q → H1[q]? = H[q]?) → va_S A0 H0 H1 locs1 → W p l e R s m args below meth c H1 locs1 (cells + mc) (slots + ms) Q (F0 m (pc + 3) ls (.long r :: rest))) : W p l e R s m args below meth c H locs cells slots Q (F0 m pc ls st0) := by
  intro T hT X
  rcases hr T hT X with ⟨v, st₀, t, T', L, h0, X', hL, e1, e2, ⟨⟨r, u, hv, hp, hb⟩, hF⟩, st⟩ | ⟨q, st₀, t, T', L, E, ce, h0, X', hL, e1, e2, ⟨u, hp, hb, hF⟩, hce, hcv, hcl, st⟩
  · cases hv
    obtain ⟨k1, k2, k3⟩ := vx_keep h0 e1 hS hA hf hL hF
    obtain ⟨t2, a1, b1⟩ := kk r u t T'.heap (locs ++ L) e1.symm (by rw [← e2]; exact X'.warmed.alike) hp hb k1 k2 k3 T' rfl X'
    exact ⟨t2, st t2 a1, b1⟩
  · obtain ⟨k1, k2, k3⟩ := vx_keep h0 e1 hS hAX hf hL hF
    obtain ⟨t2, a1, b1⟩ := kx E ce q u t T'.heap (locs ++ L) e1.symm (by rw [← e2]; exact X'.warmed.alike) hp hb k1 k2 k3 (by rw [e1]; exact hce) hcv hcl T' rfl X'
    exact ⟨t2, st.trans a1, b1⟩
theorem vx_callf {S SX : Type} {post : UInt32 → S → Prop} {px : SX → Prop} {B : S → State → Prop} {BX : String → SX → State → Prop} {AX : Nat → Prop} (hr : vx_Run p l e R s m args below meth c H locs cells slots mc ms (F0 m pc ls st0) rest (va_Qf post B A1 a) (vx_X px BX AX) free) (hS : va_S A0 H0 H locs) (hA : ∀ q, q < H.size → A1 q → A0 q) (hf : ∀ q, free q → A0 q) (hAX : ∀ q, q < H.size → AX q → A0 q)
    (kx : ∀ (E : String) (ce : Cell) (q9 : Addr) (u : SX) (t : State) (H1 : Heap) (locs1 : List Loc), t.heap = H1 → s.vm.Alike t.vm → px u → BX E u t → H.size ≤ H1.size → (∀ q : Nat, q < H.size → ¬ AX q → H1[q]? = H[q]?) → va_S A0 H0 H1 locs1 → H1[q9]? = some ce → ce.vm = .none → s.vm.findClass E = some ce.cls → vx_W p l e R s m args below meth c H1 locs1 (cells + mc) (slots + ms) Q (F0 m pc ls rest) q9)
    (kk : ∀ (r : UInt32) (u : S) (t : State) (H1 : Heap) (locs1 : List Loc), t.heap = H1 → s.vm.Alike t.vm → post r u → B u t → H.size ≤ H1.size → (∀ q : Nat, q < H.size → ¬ A1 q → H1[q]? = H[q]?) → va_S A0 H0 H1 locs1 → W p l e R s m args below meth c H1 locs1 (cells + mc) (slots + ms) Q (F0 m (pc + 3) ls (.float r :: rest))) : W p l e R s m args below meth c H locs cells slots Q (F0 m pc ls st0) := by
  intro T hT X
  rcases hr T hT X with ⟨v, st₀, t, T', L, h0, X', hL, e1, e2, ⟨⟨r, u, hv, hp, hb⟩, hF⟩, st⟩ | ⟨q, st₀, t, T', L, E, ce, h0, X', hL, e1, e2, ⟨u, hp, hb, hF⟩, hce, hcv, hcl, st⟩
  · cases hv
    obtain ⟨k1, k2, k3⟩ := vx_keep h0 e1 hS hA hf hL hF
    obtain ⟨t2, a1, b1⟩ := kk r u t T'.heap (locs ++ L) e1.symm (by rw [← e2]; exact X'.warmed.alike) hp hb k1 k2 k3 T' rfl X'
    exact ⟨t2, st t2 a1, b1⟩
  · obtain ⟨k1, k2, k3⟩ := vx_keep h0 e1 hS hAX hf hL hF
    obtain ⟨t2, a1, b1⟩ := kx E ce q u t T'.heap (locs ++ L) e1.symm (by rw [← e2]; exact X'.warmed.alike) hp hb k1 k2 k3 (by rw [e1]; exact hce) hcv hcl T' rfl X'
    exact ⟨t2, st.trans a1, b1⟩
theorem vx_calld {S SX : Type} {post : UInt64 → S → Prop} {px : SX → Prop} {B : S → State → Prop} {BX : String → SX → State → Prop} {AX : Nat → Prop} (hr : vx_Run p l e R s m args below meth c H locs cells slots mc ms (F0 m pc ls st0) rest (va_Qd post B A1 a) (vx_X px BX AX) free) (hS : va_S A0 H0 H locs) (hA : ∀ q, q < H.size → A1 q → A0 q) (hf : ∀ q, free q → A0 q) (hAX : ∀ q, q < H.size → AX q → A0 q)
    (kx : ∀ (E : String) (ce : Cell) (q9 : Addr) (u : SX) (t : State) (H1 : Heap) (locs1 : List Loc), t.heap = H1 → s.vm.Alike t.vm → px u → BX E u t → H.size ≤ H1.size → (∀ q : Nat, q < H.size → ¬ AX q → H1[q]? = H[q]?) → va_S A0 H0 H1 locs1 → H1[q9]? = some ce → ce.vm = .none → s.vm.findClass E = some ce.cls → vx_W p l e R s m args below meth c H1 locs1 (cells + mc) (slots + ms) Q (F0 m pc ls rest) q9)
    (kk : ∀ (r : UInt64) (u : S) (t : State) (H1 : Heap) (locs1 : List Loc), t.heap = H1 → s.vm.Alike t.vm → post r u → B u t → H.size ≤ H1.size → (∀ q : Nat, q < H.size → ¬ A1 q → H1[q]? = H[q]?) → va_S A0 H0 H1 locs1 → W p l e R s m args below meth c H1 locs1 (cells + mc) (slots + ms) Q (F0 m (pc + 3) ls (.double r :: rest))) : W p l e R s m args below meth c H locs cells slots Q (F0 m pc ls st0) := by
  intro T hT X
  rcases hr T hT X with ⟨v, st₀, t, T', L, h0, X', hL, e1, e2, ⟨⟨r, u, hv, hp, hb⟩, hF⟩, st⟩ | ⟨q, st₀, t, T', L, E, ce, h0, X', hL, e1, e2, ⟨u, hp, hb, hF⟩, hce, hcv, hcl, st⟩
  · cases hv
    obtain ⟨k1, k2, k3⟩ := vx_keep h0 e1 hS hA hf hL hF
    obtain ⟨t2, a1, b1⟩ := kk r u t T'.heap (locs ++ L) e1.symm (by rw [← e2]; exact X'.warmed.alike) hp hb k1 k2 k3 T' rfl X'
    exact ⟨t2, st t2 a1, b1⟩
  · obtain ⟨k1, k2, k3⟩ := vx_keep h0 e1 hS hAX hf hL hF
    obtain ⟨t2, a1, b1⟩ := kx E ce q u t T'.heap (locs ++ L) e1.symm (by rw [← e2]; exact X'.warmed.alike) hp hb k1 k2 k3 (by rw [e1]; exact hce) hcv hcl T' rfl X'
    exact ⟨t2, st.trans a1, b1⟩
theorem vx_callv {S SX : Type} {post : S → Prop} {px : SX → Prop} {B : S → State → Prop} {BX : String → SX → State → Prop} {AX : Nat → Prop} (hr : vx_Run p l e R s m args below meth c H locs cells slots mc ms (F0 m pc ls st0) rest (va_Qv post B A1 a) (vx_X px BX AX) free) (hS : va_S A0 H0 H locs) (hA : ∀ q, q < H.size → A1 q → A0 q) (hf : ∀ q, free q → A0 q) (hAX : ∀ q, q < H.size → AX q → A0 q)
    (kx : ∀ (E : String) (ce : Cell) (q9 : Addr) (u : SX) (t : State) (H1 : Heap) (locs1 : List Loc), t.heap = H1 → s.vm.Alike t.vm → px u → BX E u t → H.size ≤ H1.size → (∀ q : Nat, q < H.size → ¬ AX q → H1[q]? = H[q]?) → va_S A0 H0 H1 locs1 → H1[q9]? = some ce → ce.vm = .none → s.vm.findClass E = some ce.cls → vx_W p l e R s m args below meth c H1 locs1 (cells + mc) (slots + ms) Q (F0 m pc ls rest) q9)
    (kk : ∀ (u : S) (t : State) (H1 : Heap) (locs1 : List Loc), t.heap = H1 → s.vm.Alike t.vm → post u → B u t → H.size ≤ H1.size → (∀ q : Nat, q < H.size → ¬ A1 q → H1[q]? = H[q]?) → va_S A0 H0 H1 locs1 → W p l e R s m args below meth c H1 locs1 (cells + mc) (slots + ms) Q (F0 m (pc + 3) ls (rest))) : W p l e R s m args below meth c H locs cells slots Q (F0 m pc ls st0) := by
  intro T hT X
  rcases hr T hT X with ⟨v, st₀, t, T', L, h0, X', hL, e1, e2, ⟨⟨u, hv, hp, hb⟩, hF⟩, st⟩ | ⟨q, st₀, t, T', L, E, ce, h0, X', hL, e1, e2, ⟨u, hp, hb, hF⟩, hce, hcv, hcl, st⟩
  · cases hv
    obtain ⟨k1, k2, k3⟩ := vx_keep h0 e1 hS hA hf hL hF
    obtain ⟨t2, a1, b1⟩ := kk u t T'.heap (locs ++ L) e1.symm (by rw [← e2]; exact X'.warmed.alike) hp hb k1 k2 k3 T' rfl X'
    exact ⟨t2, st t2 a1, b1⟩
  · obtain ⟨k1, k2, k3⟩ := vx_keep h0 e1 hS hAX hf hL hF
    obtain ⟨t2, a1, b1⟩ := kx E ce q u t T'.heap (locs ++ L) e1.symm (by rw [← e2]; exact X'.warmed.alike) hp hb k1 k2 k3 (by rw [e1]; exact hce) hcv hcl T' rfl X'
    exact ⟨t2, st.trans a1, b1⟩
/-- caught by the row x of this method's table; the rows ahead don't take it -/
theorem vx_catch {own name : String} {E : String} {ce : Cell} {q : Addr} (hown : s.vm.findClass own = some m.cls) (pre : List ExceptionTableEntry) (x : ExceptionTableEntry) (suf : List ExceptionTableEntry) (hsplit : c.exceptionTable.toList = pre ++ x :: suf)
    (hpass : ∀ z ∈ pre, covers z pc = false ∨ (z.catchType ≠ 0 ∧ ∃ nm : String, (Cond.classLink own z.catchType nm).before args s = true ∧ va_Nc E nm s)) (hx : covers x pc = true) (h0 : x.catchType ≠ 0)
    (hlink : (Cond.classLink own x.catchType name).before args s = true) (hcast : (Cond.castable E name).before args s = true) (hcell : H[q]? = some ce) (hv : ce.vm = .none) (hcl : s.vm.findClass E = some ce.cls)
    (kk : W p l e R s m args below meth c H locs cells slots Q (F0 m x.handlerPc ls [.ref q])) : vx_W p l e R s m args below meth c H locs cells slots Q (F0 m pc ls rest) q := by
  intro T hT X
  have hpl : e.platform.magicAccessors = ({} : Platform).magicAccessors := by rw [X.admits.platform]
  obtain ⟨c3, c4, hc3, hc4, hasg⟩ := Cond.castable_spec hcast
  cases Option.some.inj (hc3.symm.trans hcl)
  obtain ⟨c5, hc5, hcl5⟩ := Cond.classLink_spec hown hlink e.platform hpl
  cases Option.some.inj (hc4.symm.trans hc5)
  obtain ⟨vm', X', st⟩ := X.thenCaughtThrough q (g := F0 m pc ls rest) rfl (Steps.refl _) (by rw [hT]; exact hcell) (by rw [hv]; rfl) (by obtain ⟨k9, h9, -⟩ := Vm.findClass_spec hcl; exact ⟨k9, h9⟩) pre x suf hsplit
    (fun z hz => by
      rcases hpass z hz with h | ⟨hz0, nm, hl1, hn1⟩
      · exact Or.inl h
      · obtain ⟨c6, hc6, hcl6⟩ := Cond.classLink_spec hown hl1 e.platform hpl
        obtain ⟨a8, b8, h1, h2, h3⟩ := hn1
        cases Option.some.inj (h1.symm.trans hcl)
        cases Option.some.inj (h2.symm.trans hc6)
        exact Or.inr ⟨hz0, _, hcl6, h3⟩) hx (Or.inr ⟨h0, c4, hcl5, hasg⟩)
  obtain ⟨t, a1, b1⟩ := kk (T.setVm vm') hT X'
  exact ⟨t, st.trans a1, b1⟩
end Rows
section Ends
variable {p : Program} {l : Launch} {e : Env} {R : Room} {s : State} {m : MethodId} {args : Array Value} {below : List Frame} {meth : Method} {c : Code} {H : Heap} {locs : List Loc} {cells slots : Nat} {Q : State → Prop}
variable {mc ms : Nat} {free : Addr → Prop} {A0 A1 : Nat → Prop} {H0 : Heap} {a : Array Value} {ls : Array Slot} {st0 rest : List Value}
variable {Qc : Array Value → State → Outcome → State → Prop} {XC : String → State → State → Prop}
/-- what a body that may throw owes at its end -/
def vx_MQ (below : List Frame) (Qc : Array Value → State → Outcome → State → Prop) (XC : String → State → State → Prop) (a : Array Value) (s : State) (mc ms : Nat) (free : Addr → Prop) : State → Prop := fun t =>
  ∃ o, t.status = .running ∧ Ended t below o ∧ vx_Q Qc XC mc ms free a s o t
theorem vx_ret {g : JFrame} {mc ms : Nat} (k : W p l e R s m args below meth c H locs cells slots (MQ below Qc args s mc ms free) g) : W p l e R s m args below meth c H locs cells slots (vx_MQ below Qc XC args s mc ms free) g := by
  intro T hT X
  obtain ⟨t, a1, o, b1, b2, b3, b4⟩ := k T hT X
  exact ⟨t, a1, o, b1, b2, Or.inl ⟨b3, b4⟩⟩
/-- not caught here: it goes on to the caller -/
theorem vx_widen {g : JFrame} {q : Addr} {k n : Nat} (h1 : cells ≤ k) (h2 : slots ≤ n) (kk : vx_W p l e R s m args below meth c H locs k n Q g q) : vx_W p l e R s m args below meth c H locs cells slots Q g q := fun T hT X => kk T hT (stand_widen X h1 h2)
theorem vx_out {pc : Nat} {E : String} {ce : Cell} {q : Addr} {mc ms : Nat} (hout : ∀ x ∈ c.exceptionTable.toList, covers x pc = false) (hlocks : meth.locks = false) (hcell : H[q]? = some ce) (hv : ce.vm = .none) (hcl : s.vm.findClass E = some ce.cls)
    (hx : ∀ t : State, t.heap = H → s.vm.Alike t.vm → XC E s t) (hf : ∀ z ∈ locs, free z.base) (hc : cells ≤ mc) (hs : slots ≤ ms) :
    vx_W p l e R s m args below meth c H locs cells slots (vx_MQ below Qc XC args s mc ms free) (F0 m pc ls rest) q := by
  intro T hT X
  obtain ⟨st1, hrun, hend, hW, hsm⟩ := X.leaveThrown q (g := F0 m pc ls rest) rfl rfl rfl hout hlocks
  have hcell9 : (T.setFrames (.throwing q :: below)).heap[q]? = some ce := by
    show T.heap[q]? = some ce
    rw [hT]; exact hcell
  exact ⟨_, st1, .threw q, hrun, hend, Or.inr ⟨q, rfl, E, ce, locs, hx _ hT hW.alike, hcell9, hv, hcl, hW, hsm.mono hc hs, hf⟩⟩
theorem vx_frame {U : State} {k n : Nat} (h : s.sameButNew ({ U with vm := s.vm } : State) locs k n) : s.heap.size ≤ U.heap.size ∧ ∀ q : Nat, q < s.heap.size → (∀ z ∈ locs, z.base ≠ q) → U.heap[q]? = s.heap[q]? := by
  obtain ⟨-, h2, -, -, -, h6⟩ := h
  refine ⟨h2, fun q hq hz => ?_⟩
  obtain ⟨c9, e1, e2, e3, e4⟩ := h6 q _ (Array.getElem?_eq_getElem hq)
  have hs : c9.slots = (s.heap[q]).slots := Array.ext_getElem? fun i => e4 i fun hm => hz _ hm rfl
  have h9 : c9 = s.heap[q] := by
    rw [hs] at e2
    exact e2
  have e5 : U.heap[q]? = some c9 := e1
  rw [e5, h9, Array.getElem?_eq_getElem hq]
/-- the words of a throw but the four that speak of the heap -/
def vx_no (w : Cond) : Bool := decide (w ≠ .isRef (.static Bundle.tN "UNASSIGNED_STACK" Bundle.steD)) && decide (w ≠ .isRef (.static Bundle.tN "SUPPRESSED_SENTINEL" Bundle.listD)) && decide (w ≠ .laysStatic Bundle.tN "UNASSIGNED_STACK" Bundle.steD) && decide (w ≠ .laysStatic Bundle.tN "SUPPRESSED_SENTINEL" Bundle.listD)
def vx_at0 (own : String) (ic : Nat) (X : String) (names : List String) : List Cond := (Bundle.ownAtoms0 own ic X names).filter vx_no
def vx_atS (own : String) (ic : Nat) (X : String) (names : List String) : List Cond := (Bundle.ownAtoms own ic X names).filter vx_no
/-- a word that the tables alone decide, or a good one -/
def vx_ot (w : Cond) : Bool := w.onTables || goodWord w
theorem vx_ot_at {args a' : Array Value} {s U : State} {w : Cond} (hW : s.WarmedH U.vm) (hvm : s.vm = U.vm) (hg : vx_ot w = true) (h : w.before args s = true) : w.before a' U = true := by
  simp only [vx_ot, Bool.or_eq_true] at hg
  rcases hg with hg | hg
  · exact va_tabs hg hvm h
  · exact word_at hW (good_of_word hg) h
/-- a list's words: the good ones out of the method's own list, the others by premises of their own -/
theorem vx_hat {args : Array Value} {s : State} {L B : List Cond} (h1 : ∀ w ∈ L.filter goodWord, w.before args s = true) (h2 : ∀ w ∈ L.filter (fun w => !goodWord w), w ∈ B) (h3 : ∀ w ∈ B, w.before args s = true) : ∀ w ∈ L, w.before args s = true := by
  intro w hw
  by_cases g : goodWord w = true
  · exact h1 w (List.mem_filter.mpr ⟨hw, g⟩)
  · refine h3 w (h2 w (List.mem_filter.mpr ⟨hw, ?_⟩))
    show (!goodWord w) = true
    cases hgw : goodWord w
    · rfl
    · exact absurd hgw g
theorem vx_c {args : Array Value} {s : State} {w : Cond} {B : List Cond} (h : w.before args s = true) (t : ∀ w ∈ B, w.before args s = true) : ∀ w' ∈ w :: B, w'.before args s = true := fun w' h' => (List.mem_cons.mp h').elim (fun e => by rw [e]; exact h) (t w')
theorem vx_n {args : Array Value} {s : State} : ∀ w ∈ ([] : List Cond), w.before args s = true := fun _ h => nomatch h
theorem vx_own {args : Array Value} {s : State} {L : List Cond} (h1 : ∀ w ∈ L.filter vx_no, w.before args s = true)
    (hU : (Cond.isRef (.static Bundle.tN "UNASSIGNED_STACK" Bundle.steD)).before args s = true) (hN : (Cond.isRef (.static Bundle.tN "SUPPRESSED_SENTINEL" Bundle.listD)).before args s = true)
    (lU : (Cond.laysStatic Bundle.tN "UNASSIGNED_STACK" Bundle.steD).before args s = true) (lN : (Cond.laysStatic Bundle.tN "SUPPRESSED_SENTINEL" Bundle.listD).before args s = true) : ∀ w ∈ L, w.before args s = true := by
  intro w hw
  by_cases e1 : w = .isRef (.static Bundle.tN "UNASSIGNED_STACK" Bundle.steD)
  · rw [e1]; exact hU
  · by_cases e2 : w = .isRef (.static Bundle.tN "SUPPRESSED_SENTINEL" Bundle.listD)
    · rw [e2]; exact hN
    · by_cases e3 : w = .laysStatic Bundle.tN "UNASSIGNED_STACK" Bundle.steD
      · rw [e3]; exact lU
      · by_cases e4 : w = .laysStatic Bundle.tN "SUPPRESSED_SENTINEL" Bundle.listD
        · rw [e4]; exact lN
        · exact h1 w (List.mem_filter.mpr ⟨hw, by unfold vx_no; rw [decide_eq_true e1, decide_eq_true e2, decide_eq_true e3, decide_eq_true e4]; rfl⟩)
/-- where a static field lies, its class's statics cell in H -/
def vx_L (C n d : String) (A : Nat → Prop) (U : State) (H : Heap) : Prop := ∃ (c : ClassId) (k : Class) (i : Nat) (f : Field) (a : Nat) (cell : Cell), U.vm.findClass C = some c ∧ U.fieldFound? C n d = some (c, k, i, f) ∧ f.isStatic = true ∧ k.statics = some a ∧ H[a]? = some cell ∧ cell.vm.isStatics = true ∧ cell.cls = c ∧ f.slot < cell.slots.size ∧ k.staticTypes[f.slot]? = some f.type ∧ ¬ A a
theorem vx_L.moved {C n d : String} {A : Nat → Prop} {u U : State} {H : Heap} (hvm : u.vm.Alike U.vm) (h : vx_L C n d A u H) : vx_L C n d A U H := by
  obtain ⟨c, k, i, f, a, cell, h1, h2, h3, h4, h5, h6, h7, h8, h9, h10⟩ := h
  obtain ⟨k', hi', he⟩ := State.fieldFound?_setVm hvm h2
  exact ⟨c, k', i, f, a, cell, by rw [hvm.findClass]; exact h1, hi', h3, by rw [he]; exact h4, h5, h6, h7, h8, by rw [he]; exact h9, h10⟩
theorem vx_L.kept {C n d : String} {A : Nat → Prop} {U : State} {H H1 : Heap} (h : vx_L C n d A U H) (hq : ∀ a : Nat, a < H.size → ¬ A a → H1[a]? = H[a]?) : vx_L C n d A U H1 := by
  obtain ⟨c, k, i, f, a, cell, h1, h2, h3, h4, h5, h6, h7, h8, h9, h10⟩ := h
  exact ⟨c, k, i, f, a, cell, h1, h2, h3, h4, by rw [hq a (Array.getElem?_eq_some_iff.mp h5).1 h10]; exact h5, h6, h7, h8, h9, h10⟩
theorem vx_L.narrow {C n d : String} {A B : Nat → Prop} {U : State} {H : Heap} (h : vx_L C n d A U H) (hAB : ∀ q, B q → A q) : vx_L C n d B U H := by
  obtain ⟨c, k, i, f, a, cell, h1, h2, h3, h4, h5, h6, h7, h8, h9, h10⟩ := h
  exact ⟨c, k, i, f, a, cell, h1, h2, h3, h4, h5, h6, h7, h8, h9, fun z => h10 (hAB _ z)⟩
theorem vx_L.word {C n d : String} {A : Nat → Prop} {s : State} {args : Array Value} (h : vx_L C n d A s s.heap) : (Cond.laysStatic C n d).before args s = true := by
  obtain ⟨c, k, i, f, a, cell, h1, h2, h3, h4, h5, h6, h7, h8, h9, -⟩ := h
  show (Cond.laysStatic C n d).holds args s none s [] = true
  exact Cond.laysStatic_of h1 h2 h3 h4 h5 h6 h7 h8 h9
/-- .. and what it holds: null or some reference -/
def vx_Zq (C n d : String) (A : Nat → Prop) (U : State) (H : Heap) : Prop := va_Zq C n d A U H ∧ vx_L C n d A U H
theorem vx_Zq.moved {C n d : String} {A : Nat → Prop} {u U : State} {H : Heap} (hvm : u.vm.Alike U.vm) (h : vx_Zq C n d A u H) : vx_Zq C n d A U H := ⟨va_Zq.moved hvm h.1, vx_L.moved hvm h.2⟩
theorem vx_Zq.kept {C n d : String} {A : Nat → Prop} {U : State} {H H1 : Heap} (h : vx_Zq C n d A U H) (hq : ∀ a : Nat, a < H.size → ¬ A a → H1[a]? = H[a]?) : vx_Zq C n d A U H1 := ⟨va_Zq.kept h.1 hq, vx_L.kept h.2 hq⟩
theorem vx_Zq.narrow {C n d : String} {A B : Nat → Prop} {U : State} {H : Heap} (h : vx_Zq C n d A U H) (hAB : ∀ q, B q → A q) : vx_Zq C n d B U H := ⟨va_Zq.narrow h.1 hAB, vx_L.narrow h.2 hAB⟩
theorem vx_Zqof {args : Array Value} {s : State} {C n d : String} {A : Nat → Prop} (hl : (Cond.laysStatic C n d).before args s = true) (hini : (Cond.initialized C).before args s = true) (h : (Cond.isRef (.static C n d)).before args s = true) (hA : ∀ a : Nat, a < s.heap.size → ¬ A a) : vx_Zq C n d A s s.heap := by
  refine ⟨va_Zqof hl hini h hA, ?_⟩
  obtain ⟨c, k, i, f, a, cell, h1, h2, h3, h4, h5, h6, h7, h8, h9⟩ := Cond.laysStatic_spec hl
  exact ⟨c, k, i, f, a, cell, h1, h2, h3, h4, h5, h6, h7, h8, h9, hA a (Array.getElem?_eq_some_iff.mp h5).1⟩
theorem vx_isRef {C n d : String} {v : Value} {A : Nat → Prop} {s : State} {args : Array Value} (h : va_Z C n d v A s s.heap) (hv : v.isRef = true) : (Cond.isRef (.static C n d)).before args s = true := by
  obtain ⟨cf, kf, fi, f, a, cell, h1, h2, h3, h4, h5, h6, h7, -⟩ := h
  have he : (Term.static C n d).eval args s none [] s = some v := by
    simp [Term.eval, State.fieldNamed?, h1, h2, h4, h5, h6, h7]
  simp only [Cond.before, Cond.holds, Cond.value, he]
  cases v <;> simp_all [Value.isRef]
theorem vx_isRefq {C n d : String} {A : Nat → Prop} {s : State} {args : Array Value} (h : va_Zq C n d A s s.heap) : (Cond.isRef (.static C n d)).before args s = true := by
  rcases h with h | ⟨t, h⟩
  · exact vx_isRef h rfl
  · exact vx_isRef h rfl
/-- the same frame, seen from here: as if the method were called anew in this heap -/
theorem vx_rebase {T : State} (X : Stand p l e R s m args below meth c T locs cells slots) {R' : Room} (hf : R'.frames ≤ R.frames) (hl : R'.locals ≤ R.locals) (hc : cells + R'.cells ≤ R.cells) (hs : slots + R'.slots ≤ R.slots) :
    Stand p l e R' ((T.setVm s.vm).setFrames (.invoking m args :: below)) m args below meth c T [] 0 0 := by
  have htop : (T.setVm s.vm).topJava?.isSome := X.here.top
  have hF : ((T.setVm s.vm).setFrames (.invoking m args :: below)).frames = .invoking m args :: below := State.frames_setFrames _ (State.cur_lt_of_top htop)
  obtain ⟨g₀, hg0⟩ := Option.isSome_iff_exists.mp htop
  obtain ⟨r, hr⟩ := State.topJava?_eq_some.mp hg0
  have hl9 : e.platform.stackLimits (T.setVm s.vm).me = e.platform.stackLimits s.me := X.limits
  have hb9 : (T.setVm s.vm).me.stackBytes = s.me.stackBytes := X.bytes
  refine ⟨X.admits, X.cas, X.clock, hF, ?_, X.hears, X.method, X.code, X.here, X.tail, X.warmed, ?_, ?_, ?_⟩
  · have h := X.room
    have hU : ((T.setVm s.vm).setFrames (.invoking m args :: below)).localsInUse = s.localsInUse := by
      rw [State.localsInUse_invoking hF (meth := meth) (c := c) X.method X.code, State.localsInUse_invoking X.frames X.method X.code]
    simp only [State.hasRoom, Bool.and_eq_true, decide_eq_true_eq] at h ⊢
    obtain ⟨⟨⟨⟨h1, h2, h3, h4, h5, h6⟩, h7⟩, h8⟩, h9⟩ := h
    rw [X.frames, List.length_cons] at h2 h3
    have q1 := X.heapSize
    have q2 := X.used
    simp only [hF, hU, List.length_cons, State.stackLimits_setFrames, State.stackBytes_setFrames, hl9, hb9]
    refine ⟨⟨⟨⟨by omega, by omega, by omega, by omega, by omega, h6⟩, ?_⟩, ?_⟩, X.book⟩
    · show T.heap.size + R'.cells ≤ e.platform.maxCells
      omega
    · show T.slotsUsed + R'.slots ≤ e.platform.maxSlots
      omega
  · rw [State.stackLimits_setFrames]; rfl
  · rw [State.stackBytes_setFrames]; rfl
  · refine ⟨?_, Nat.le_refl _, Nat.le_refl _, ?_, ?_, fun a c9 h9 => ⟨c9, h9, rfl, rfl, fun _ _ => rfl⟩⟩
    · obtain ⟨t, ht, -⟩ := State.frames_cons hr
      show T.setVm s.vm = { ((T.setVm s.vm).setFrames (.invoking m args :: below)).setFrames (T.setVm s.vm).frames with heap := T.heap, slotsUsed := T.slotsUsed }
      rw [State.setFrames_setFrames, State.setFrames_self ht]
      rfl
    · show T.slotsUsed = T.slotsUsed + ((T.heap.toList.drop T.heap.size).map (·.slots.size)).sum
      rw [List.drop_eq_nil_of_le (Nat.le_of_eq Array.length_toList)]
      rfl
    · show ((T.heap.toList.drop T.heap.size).map (·.slots.size)).sum ≤ 0
      rw [List.drop_eq_nil_of_le (Nat.le_of_eq Array.length_toList)]
      exact Nat.le_refl _
/-- 'throw new E()': new; dup; invokespecial; athrow -/
theorem vx_throw0 {cc : ByteArray} {pc : Nat} (hexec : p.tables.exec = Jvm.exec) (hb : c.code = cc) (hl : l.stackTraces = false) {own cls : String} {names : List String} {ik ic mc ms : Nat} {A : Nat → Prop}
    (hown : s.vm.findClass own = some m.cls) (hcls : Bundle.fit cls = true) (hnames : ∀ n ∈ names, Bundle.fit n = true)
    (hk : (Cond.classLink own ik cls).before args s = true) (hini : (Cond.initialized cls).before args s = true) (hat : ∀ w ∈ vx_at0 own ic cls names, w.before args s = true)
    (hgood : ∀ w ∈ Cond.classLink own ik cls :: Cond.initialized cls :: vx_at0 own ic cls names, vx_ot w = true)
    (hU : vx_Zq Bundle.tN "UNASSIGNED_STACK" Bundle.steD A s s.heap) (hN : vx_Zq Bundle.tN "SUPPRESSED_SENTINEL" Bundle.listD A s s.heap) (hS : va_S A s.heap H locs) (hsize : ls.size = c.maxLocals)
    (d0 : decode cc pc = .ok (.new ik, 3)) (d3 : decode cc (pc + 3) = .ok (.dup, 1)) (d4 : decode cc (pc + 4) = .ok (.invokespecial ic, 3)) (d7 : decode cc (pc + 7) = .ok (.athrow, 1))
    (hout : ∀ x ∈ c.exceptionTable.toList, covers x (pc + 7) = false)
    (hRframes : names.length + 3 < R.frames) (hRlocals : (rest.map fun v => v.category).sum + (13 * (names.length + 1) + 42) ≤ R.locals) (hRcells : cells + 1 ≤ R.cells) (hRslots : slots + 6 ≤ R.slots) (hlocks : meth.locks = false)
    (hx : ∀ t : State, s.vm.Alike t.vm → H.size ≤ t.heap.size → (∀ q : Nat, q < H.size → t.heap[q]? = H[q]?) → XC cls s t)
    (hf : ∀ z ∈ locs, free z.base) (hc : cells + 1 ≤ mc) (hs : slots + 6 ≤ ms) :
    W p l e R s m args below meth c H locs cells slots (vx_MQ below Qc XC args s mc ms free) (F0 m pc ls rest) := by
  intro T hT X
  have htr : e.platform.stackTraces = false := (show e.platform.stackTraces = l.stackTraces by rw [X.admits.platform]).trans hl
  have Y := vx_rebase X (R' := { frames := R.frames, locals := R.locals, cells := 1, slots := 6 }) (Nat.le_refl _) (Nat.le_refl _) hRcells hRslots
  obtain ⟨s', hA⟩ : ∃ z, z = (T.setVm s.vm).setFrames (.invoking m args :: below) := ⟨_, rfl⟩
  rw [← hA] at Y
  have hvm : s'.vm = s.vm := by rw [hA]; rfl
  have hhp : s'.heap = H := by rw [hA]; exact hT
  have hW0 : s.WarmedH s'.vm := by rw [hvm]; exact State.WarmedH.refl s
  have hat' : ∀ w ∈ vx_at0 own ic cls names, w.before args s' = true := fun w hw => vx_ot_at hW0 hvm.symm (hgood w (List.mem_cons_of_mem _ (List.mem_cons_of_mem _ hw))) (hat w hw)
  have hk' : (Cond.classLink own ik cls).before args s' = true := vx_ot_at hW0 hvm.symm (hgood _ List.mem_cons_self) hk
  have hini' : (Cond.initialized cls).before args s' = true := vx_ot_at hW0 hvm.symm (hgood _ (List.mem_cons_of_mem _ List.mem_cons_self)) hini
  have hU' : vx_Zq Bundle.tN "UNASSIGNED_STACK" Bundle.steD A s' s'.heap := by rw [hhp]; exact vx_Zq.moved hW0.alike (hU.kept hS.2.1)
  have hN' : vx_Zq Bundle.tN "SUPPRESSED_SENTINEL" Bundle.listD A s' s'.heap := by rw [hhp]; exact vx_Zq.moved hW0.alike (hN.kept hS.2.1)
  have h : ∀ w ∈ Bundle.ownAtoms0 own ic cls names, w.before args s' = true := vx_own hat' (vx_isRefq hU'.1) (vx_isRefq hN'.1) hU'.2.word hN'.2.word
  have hown' : s'.vm.findClass own = some m.cls := by rw [hvm]; exact hown
  have hins : (Cond.instantiable cls 6).before args s' = true := h _ (by simp [Bundle.ownAtoms0])
  obtain ⟨vm₁, cX, kX, hfX, hkX, -, -, X₁, st1⟩ := Y.newCold hexec (own := own) (C := cls) (index := ik) (n := 6) hown' hk' hins hini'
    (g := F0 m pc ls rest) rfl (by rw [hb]; exact d0) (Nat.le_refl _) (Nat.le_refl _)
  generalize hT1 : (T.setVm vm₁).pushCell { cls := cX, slots := kX.instanceTypes.map defaultValue, vm := .none } = T1 at X₁ st1
  have hcat : (Value.ref T.heap.size).category = 1 := rfl
  have hcellA : T1.heap[T.heap.size]? = some (freshCell cX kX) := by rw [← hT1]; exact State.heap_pushCell_size _ _
  have d3' : decode c.code (pc + 3) = .ok (.dup, 1) := by rw [hb]; exact d3
  obtain ⟨U, hsteps, hrun, hend, hW, hsame, ce, hce, hO⟩ := X₁.ctorThrow0 hexec htr (own := own) (cls := cls) (names := names) (ic := ic) hown' hcls hnames h (fun x hx => nomatch hx) hfX hkX hcellA (by rw [hhp, hT]; exact Nat.le_refl _)
    (g := { method := m, pc := pc + 4, locals := ls, stack := .ref T.heap.size :: .ref T.heap.size :: rest, locked := none }) rfl hsize rfl rfl (rest := rest) rfl
    (by rw [hb]; exact d4) (by rw [hb]; exact d7) hout hRframes (by simp only [List.map_cons, List.sum_cons, hcat]; omega) hlocks
  obtain ⟨f1, f2⟩ := vx_frame hsame
  rw [hhp] at f1 f2
  have hWs : s.WarmedH U.vm := State.WarmedH.trans hW0 hW
  have hcl : s.vm.findClass cls = some ce.cls := by
    have h9 := hO.cls
    rw [hvm] at h9
    exact h9
  have hall : s.sameButNew ({ U with vm := s.vm } : State) locs mc ms := by
    subst hA
    obtain ⟨e1, e2⟩ := hsame
    rw [State.setFrames_setFrames] at e1
    have h2 : (T.setVm s.vm).sameButNew ({ U with vm := s.vm } : State) [] (0 + 1) (0 + 6) := ⟨e1, e2⟩
    have h3 := X.same.trans h2
    rw [List.append_nil] at h3
    exact h3.mono hc hs
  refine ⟨U, ?_, .threw T.heap.size, hrun, hend, Or.inr ⟨T.heap.size, rfl, cls, ce, locs, hx U hWs.alike f1 (fun q hq => f2 q hq (fun z hz => nomatch hz)), hce, hO.vm, hcl, hWs, hall, hf⟩⟩
  refine st1 _ ?_
  show Steps p.tables e below (T1.setTop { method := m, pc := pc + 3, locals := ls, stack := .ref T.heap.size :: rest, locked := none }) _
  jvm_step X₁.here [X₁.here.top, hexec, d3', Value.category]
  exact hsteps
/-- 'throw new E("text")': new; dup; ldc; invokespecial; athrow -/
theorem vx_throwS {cc : ByteArray} {pc : Nat} (hexec : p.tables.exec = Jvm.exec) (hb : c.code = cc) (hl : l.stackTraces = false) {own cls text : String} {names : List String} {ik is ic mc ms sa : Nat} {A : Nat → Prop}
    (hown : s.vm.findClass own = some m.cls) (hcls : Bundle.fit cls = true) (hnames : ∀ n ∈ names, Bundle.fit n = true)
    (hk : (Cond.classLink own ik cls).before args s = true) (hini : (Cond.initialized cls).before args s = true) (hstr : vk_R own is text sa s) (hat : ∀ w ∈ vx_atS own ic cls names, w.before args s = true)
    (hgood : ∀ w ∈ Cond.classLink own ik cls :: Cond.initialized cls :: vx_atS own ic cls names, vx_ot w = true)
    (hU : vx_Zq Bundle.tN "UNASSIGNED_STACK" Bundle.steD A s s.heap) (hN : vx_Zq Bundle.tN "SUPPRESSED_SENTINEL" Bundle.listD A s s.heap) (hS : va_S A s.heap H locs) (hsize : ls.size = c.maxLocals)
    (d0 : decode cc pc = .ok (.new ik, 3)) (d3 : decode cc (pc + 3) = .ok (.dup, 1)) (d4 : decode cc (pc + 4) = .ok (.ldc is, 2)) (d6 : decode cc (pc + 6) = .ok (.invokespecial ic, 3)) (d9 : decode cc (pc + 9) = .ok (.athrow, 1))
    (hout : ∀ x ∈ c.exceptionTable.toList, covers x (pc + 9) = false)
    (hRframes : names.length + 3 < R.frames) (hRlocals : (rest.map fun v => v.category).sum + (13 * (names.length + 1) + 43) ≤ R.locals) (hRcells : cells + 1 ≤ R.cells) (hRslots : slots + 6 ≤ R.slots) (hlocks : meth.locks = false)
    (hx : ∀ t : State, s.vm.Alike t.vm → H.size ≤ t.heap.size → (∀ q : Nat, q < H.size → t.heap[q]? = H[q]?) → XC cls s t)
    (hf : ∀ z ∈ locs, free z.base) (hc : cells + 1 ≤ mc) (hs : slots + 6 ≤ ms) :
    W p l e R s m args below meth c H locs cells slots (vx_MQ below Qc XC args s mc ms free) (F0 m pc ls rest) := by
  intro T hT X
  have htr : e.platform.stackTraces = false := (show e.platform.stackTraces = l.stackTraces by rw [X.admits.platform]).trans hl
  have Y := vx_rebase X (R' := { frames := R.frames, locals := R.locals, cells := 1, slots := 6 }) (Nat.le_refl _) (Nat.le_refl _) hRcells hRslots
  obtain ⟨s', hA⟩ : ∃ z, z = (T.setVm s.vm).setFrames (.invoking m args :: below) := ⟨_, rfl⟩
  rw [← hA] at Y
  have hvm : s'.vm = s.vm := by rw [hA]; rfl
  have hhp : s'.heap = H := by rw [hA]; exact hT
  have hW0 : s.WarmedH s'.vm := by rw [hvm]; exact State.WarmedH.refl s
  have hat' : ∀ w ∈ vx_atS own ic cls names, w.before args s' = true := fun w hw => vx_ot_at hW0 hvm.symm (hgood w (List.mem_cons_of_mem _ (List.mem_cons_of_mem _ hw))) (hat w hw)
  have hk' : (Cond.classLink own ik cls).before args s' = true := vx_ot_at hW0 hvm.symm (hgood _ List.mem_cons_self) hk
  have hini' : (Cond.initialized cls).before args s' = true := vx_ot_at hW0 hvm.symm (hgood _ (List.mem_cons_of_mem _ List.mem_cons_self)) hini
  have hU' : vx_Zq Bundle.tN "UNASSIGNED_STACK" Bundle.steD A s' s'.heap := by rw [hhp]; exact vx_Zq.moved hW0.alike (hU.kept hS.2.1)
  have hN' : vx_Zq Bundle.tN "SUPPRESSED_SENTINEL" Bundle.listD A s' s'.heap := by rw [hhp]; exact vx_Zq.moved hW0.alike (hN.kept hS.2.1)
  have h : ∀ w ∈ Bundle.ownAtoms own ic cls names, w.before args s' = true := vx_own hat' (vx_isRefq hU'.1) (vx_isRefq hN'.1) hU'.2.word hN'.2.word
  have hown' : s'.vm.findClass own = some m.cls := by rw [hvm]; exact hown
  have hins : (Cond.instantiable cls 6).before args s' = true := h _ (by simp [Bundle.ownAtoms])
  obtain ⟨vm₁, cX, kX, hfX, hkX, -, -, X₁, st1⟩ := Y.newCold hexec (own := own) (C := cls) (index := ik) (n := 6) hown' hk' hins hini'
    (g := F0 m pc ls rest) rfl (by rw [hb]; exact d0) (Nat.le_refl _) (Nat.le_refl _)
  generalize hT1 : (T.setVm vm₁).pushCell { cls := cX, slots := kX.instanceTypes.map defaultValue, vm := .none } = T1 at X₁ st1
  have hcat : (Value.ref T.heap.size).category = 1 := rfl
  have hcellA : T1.heap[T.heap.size]? = some (freshCell cX kX) := by rw [← hT1]; exact State.heap_pushCell_size _ _
  have d3' : decode c.code (pc + 3) = .ok (.dup, 1) := by rw [hb]; exact d3
  have d4' : decode c.code (pc + 4) = .ok (.ldc is, 2) := by rw [hb]; exact d4
  have hstr' : vk_R own is text sa s' := vk_R.warm hW0 hstr
  obtain ⟨U, hsteps, hrun, hend, hW, hsame, ce, hce, hO⟩ := X₁.ctorThrowS hexec htr (own := own) (cls := cls) (names := names) (ic := ic) hown' hcls hnames h (fun x hx => nomatch hx) hfX hkX hcellA (by rw [hhp, hT]; exact Nat.le_refl _) (msg := .ref sa) rfl
    (g := { method := m, pc := pc + 6, locals := ls, stack := .ref sa :: .ref T.heap.size :: .ref T.heap.size :: rest, locked := none }) rfl hsize rfl rfl (rest := rest) rfl
    (by rw [hb]; exact d6) (by rw [hb]; exact d9) hout hRframes (by simp only [List.map_cons, List.sum_cons, hcat]; omega) hlocks
  obtain ⟨f1, f2⟩ := vx_frame hsame
  rw [hhp] at f1 f2
  have hWs : s.WarmedH U.vm := State.WarmedH.trans hW0 hW
  have hcl : s.vm.findClass cls = some ce.cls := by
    have h9 := hO.cls
    rw [hvm] at h9
    exact h9
  have hall : s.sameButNew ({ U with vm := s.vm } : State) locs mc ms := by
    subst hA
    obtain ⟨e1, e2⟩ := hsame
    rw [State.setFrames_setFrames] at e1
    have h2 : (T.setVm s.vm).sameButNew ({ U with vm := s.vm } : State) [] (0 + 1) (0 + 6) := ⟨e1, e2⟩
    have h3 := X.same.trans h2
    rw [List.append_nil] at h3
    exact h3.mono hc hs
  refine ⟨U, ?_, .threw T.heap.size, hrun, hend, Or.inr ⟨T.heap.size, rfl, cls, ce, locs, hx U hWs.alike f1 (fun q hq => f2 q hq (fun z hz => nomatch hz)), hce, hO.vm, hcl, hWs, hall, hf⟩⟩
  refine st1 _ ?_
  show Steps p.tables e below (T1.setTop { method := m, pc := pc + 3, locals := ls, stack := .ref T.heap.size :: rest, locked := none }) _
  jvm_step X₁.here [X₁.here.top, hexec, d3', Value.category]
  exact X₁.ldcString hexec (own := own) (text := text) (index := is) (a := sa) hown' hstr'.1 hstr'.2
    (g := { method := m, pc := pc + 4, locals := ls, stack := .ref T.heap.size :: .ref T.heap.size :: rest, locked := none }) rfl d4' _ hsteps
/-- 'throw new E("text")', the text by a wide index -/
theorem vx_throwSW {cc : ByteArray} {pc : Nat} (hexec : p.tables.exec = Jvm.exec) (hb : c.code = cc) (hl : l.stackTraces = false) {own cls text : String} {names : List String} {ik is ic mc ms sa : Nat} {A : Nat → Prop}
    (hown : s.vm.findClass own = some m.cls) (hcls : Bundle.fit cls = true) (hnames : ∀ n ∈ names, Bundle.fit n = true)
    (hk : (Cond.classLink own ik cls).before args s = true) (hini : (Cond.initialized cls).before args s = true) (hstr : vk_R own is text sa s) (hat : ∀ w ∈ vx_atS own ic cls names, w.before args s = true)
    (hgood : ∀ w ∈ Cond.classLink own ik cls :: Cond.initialized cls :: vx_atS own ic cls names, vx_ot w = true)
    (hU : vx_Zq Bundle.tN "UNASSIGNED_STACK" Bundle.steD A s s.heap) (hN : vx_Zq Bundle.tN "SUPPRESSED_SENTINEL" Bundle.listD A s s.heap) (hS : va_S A s.heap H locs) (hsize : ls.size = c.maxLocals)
    (d0 : decode cc pc = .ok (.new ik, 3)) (d3 : decode cc (pc + 3) = .ok (.dup, 1)) (d4 : decode cc (pc + 4) = .ok (.ldc_w is, 3)) (d7 : decode cc (pc + 7) = .ok (.invokespecial ic, 3)) (d10 : decode cc (pc + 10) = .ok (.athrow, 1))
    (hout : ∀ x ∈ c.exceptionTable.toList, covers x (pc + 10) = false)
    (hRframes : names.length + 3 < R.frames) (hRlocals : (rest.map fun v => v.category).sum + (13 * (names.length + 1) + 43) ≤ R.locals) (hRcells : cells + 1 ≤ R.cells) (hRslots : slots + 6 ≤ R.slots) (hlocks : meth.locks = false)
    (hx : ∀ t : State, s.vm.Alike t.vm → H.size ≤ t.heap.size → (∀ q : Nat, q < H.size → t.heap[q]? = H[q]?) → XC cls s t)
    (hf : ∀ z ∈ locs, free z.base) (hc : cells + 1 ≤ mc) (hs : slots + 6 ≤ ms) :
    W p l e R s m args below meth c H locs cells slots (vx_MQ below Qc XC args s mc ms free) (F0 m pc ls rest) := by
  intro T hT X
  have htr : e.platform.stackTraces = false := (show e.platform.stackTraces = l.stackTraces by rw [X.admits.platform]).trans hl
  have Y := vx_rebase X (R' := { frames := R.frames, locals := R.locals, cells := 1, slots := 6 }) (Nat.le_refl _) (Nat.le_refl _) hRcells hRslots
  obtain ⟨s', hA⟩ : ∃ z, z = (T.setVm s.vm).setFrames (.invoking m args :: below) := ⟨_, rfl⟩
  rw [← hA] at Y
  have hvm : s'.vm = s.vm := by rw [hA]; rfl
  have hhp : s'.heap = H := by rw [hA]; exact hT
  have hW0 : s.WarmedH s'.vm := by rw [hvm]; exact State.WarmedH.refl s
  have hat' : ∀ w ∈ vx_atS own ic cls names, w.before args s' = true := fun w hw => vx_ot_at hW0 hvm.symm (hgood w (List.mem_cons_of_mem _ (List.mem_cons_of_mem _ hw))) (hat w hw)
  have hk' : (Cond.classLink own ik cls).before args s' = true := vx_ot_at hW0 hvm.symm (hgood _ List.mem_cons_self) hk
  have hini' : (Cond.initialized cls).before args s' = true := vx_ot_at hW0 hvm.symm (hgood _ (List.mem_cons_of_mem _ List.mem_cons_self)) hini
  have hU' : vx_Zq Bundle.tN "UNASSIGNED_STACK" Bundle.steD A s' s'.heap := by rw [hhp]; exact vx_Zq.moved hW0.alike (hU.kept hS.2.1)
  have hN' : vx_Zq Bundle.tN "SUPPRESSED_SENTINEL" Bundle.listD A s' s'.heap := by rw [hhp]; exact vx_Zq.moved hW0.alike (hN.kept hS.2.1)
  have h : ∀ w ∈ Bundle.ownAtoms own ic cls names, w.before args s' = true := vx_own hat' (vx_isRefq hU'.1) (vx_isRefq hN'.1) hU'.2.word hN'.2.word
  have hown' : s'.vm.findClass own = some m.cls := by rw [hvm]; exact hown
  have hins : (Cond.instantiable cls 6).before args s' = true := h _ (by simp [Bundle.ownAtoms])
  obtain ⟨vm₁, cX, kX, hfX, hkX, -, -, X₁, st1⟩ := Y.newCold hexec (own := own) (C := cls) (index := ik) (n := 6) hown' hk' hins hini'
    (g := F0 m pc ls rest) rfl (by rw [hb]; exact d0) (Nat.le_refl _) (Nat.le_refl _)
  generalize hT1 : (T.setVm vm₁).pushCell { cls := cX, slots := kX.instanceTypes.map defaultValue, vm := .none } = T1 at X₁ st1
  have hcat : (Value.ref T.heap.size).category = 1 := rfl
  have hcellA : T1.heap[T.heap.size]? = some (freshCell cX kX) := by rw [← hT1]; exact State.heap_pushCell_size _ _
  have d3' : decode c.code (pc + 3) = .ok (.dup, 1) := by rw [hb]; exact d3
  have d4' : decode c.code (pc + 4) = .ok (.ldc_w is, 3) := by rw [hb]; exact d4
  have hstr' : vk_R own is text sa s' := vk_R.warm hW0 hstr
  obtain ⟨U, hsteps, hrun, hend, hW, hsame, ce, hce, hO⟩ := X₁.ctorThrowS hexec htr (own := own) (cls := cls) (names := names) (ic := ic) hown' hcls hnames h (fun x hx => nomatch hx) hfX hkX hcellA (by rw [hhp, hT]; exact Nat.le_refl _) (msg := .ref sa) rfl
    (g := { method := m, pc := pc + 7, locals := ls, stack := .ref sa :: .ref T.heap.size :: .ref T.heap.size :: rest, locked := none }) rfl hsize rfl rfl (rest := rest) rfl
    (by rw [hb]; exact d7) (by rw [hb]; exact d10) hout hRframes (by simp only [List.map_cons, List.sum_cons, hcat]; omega) hlocks
  obtain ⟨f1, f2⟩ := vx_frame hsame
  rw [hhp] at f1 f2
  have hWs : s.WarmedH U.vm := State.WarmedH.trans hW0 hW
  have hcl : s.vm.findClass cls = some ce.cls := by
    have h9 := hO.cls
    rw [hvm] at h9
    exact h9
  have hall : s.sameButNew ({ U with vm := s.vm } : State) locs mc ms := by
    subst hA
    obtain ⟨e1, e2⟩ := hsame
    rw [State.setFrames_setFrames] at e1
    have h2 : (T.setVm s.vm).sameButNew ({ U with vm := s.vm } : State) [] (0 + 1) (0 + 6) := ⟨e1, e2⟩
    have h3 := X.same.trans h2
    rw [List.append_nil] at h3
    exact h3.mono hc hs
  refine ⟨U, ?_, .threw T.heap.size, hrun, hend, Or.inr ⟨T.heap.size, rfl, cls, ce, locs, hx U hWs.alike f1 (fun q hq => f2 q hq (fun z hz => nomatch hz)), hce, hO.vm, hcl, hWs, hall, hf⟩⟩
  refine st1 _ ?_
  show Steps p.tables e below (T1.setTop { method := m, pc := pc + 3, locals := ls, stack := .ref T.heap.size :: rest, locked := none }) _
  jvm_step X₁.here [X₁.here.top, hexec, d3', Value.category]
  exact X₁.ldcStringW hexec (own := own) (text := text) (index := is) (a := sa) hown' hstr'.1 hstr'.2
    (g := { method := m, pc := pc + 4, locals := ls, stack := .ref T.heap.size :: .ref T.heap.size :: rest, locked := none }) rfl d4' _ hsteps
end Ends
section Bodies
variable {l : Launch}
theorem vx_ofW {y : MethodName} {ws ws' : List Cond} {rm : Room} {Pc : Array Value → State → Prop} {Qc : Array Value → State → Outcome → State → Prop} {XC : String → State → State → Prop} {mc ms : Nat} {free : Addr → Prop} {cc : ByteArray} {maxL : Nat} {ret : Option FieldType}
    (hy : plainName y.cls = true) (hw : ws = Cond.code y cc maxL ret :: ws')
    (body : ∀ p e s m args below meth c s₁, BodyLoose p l y (headSpec ws rm) cc maxL ret e s m args below meth c s₁ → c.maxLocals = maxL → (∀ x ∈ c.exceptionTable.toList, False) → Pc args s →
      W p l e (headSpec ws rm).room s m args below meth c s.heap [] 0 0 (vx_MQ below Qc XC args s mc ms free) (entryFrame m args maxL)) : vx_Met l y ws rm Pc Qc XC mc ms free := by
  refine MetFree.of_bodyS (code := cc) (maxLocals := maxL) (ret := ret) hy ?_ ?_
  · intro args s m h hn
    obtain ⟨meth, c, h1, h2, h3, h4, h5, h6, -, -⟩ := Cond.code_spec hn (atoms_spec (ws := ws) h _ (by rw [hw]; exact List.mem_cons_self))
    exact ⟨meth, c, h1, h2, h3, h4, h5, h6⟩
  · intro p e s m args below meth c s₁ B hml hP _
    have hh0 : s₁.heap = s.heap := by rw [B.state]; rfl
    have ht : ∀ x ∈ c.exceptionTable.toList, False := by
      obtain ⟨meth9, c9, h1, h2, -, -, -, -, h7, -⟩ := Cond.code_spec B.named (atoms_spec (ws := ws) B.pre _ (by rw [hw]; exact List.mem_cons_self))
      cases Option.some.inj (h1.symm.trans B.method)
      cases Option.some.inj (h2.symm.trans (Stand.of_body B).code)
      intro x hx
      rw [Array.isEmpty_iff.mp h7] at hx
      cases hx
    obtain ⟨t, a1, o, b1, b2, b3⟩ := body p e s m args below meth c s₁ B hml ht hP s₁ hh0 (Stand.of_body B)
    exact ⟨t, o, a1, b1, b2, b3⟩
/-- the table of a body with handlers -/
theorem vx_table {p : Program} {x y : MethodName} {S : Spec} {cc bytes : ByteArray} {maxL maxL' : Nat} {ret ret' : Option FieldType} {e : Env} {s s₁ : State} {m : MethodId} {args : Array Value} {below : List Frame} {meth : Method} {c : Code} {hh : List (Nat × Nat × Nat × Nat)}
    (B : BodyLoose p l y S cc maxL ret e s m args below meth c s₁) (h : (Cond.codeWith y bytes maxL' ret' hh).before args s = true) : c.exceptionTable.toList = tableOf hh := by
  obtain ⟨m9, meth9, c9, hn9, h1, h2, -, -, h6, -⟩ := Cond.codeWith_spec h
  cases Option.some.inj (hn9.symm.trans B.named)
  cases Option.some.inj (h1.symm.trans B.method)
  cases Option.some.inj (h2.symm.trans (Stand.of_body B).code)
  rw [← h6, table_eq]
end Bodies
end VXA
/-! ===== END ===== -/
/-! ===== BEGIN a static call of a method with an exception table ===== -/
section VXS
variable {p : Program} {l : Launch} {e : Env} {R : Room} {s : State} {m : MethodId} {args : Array Value} {below : List Frame} {meth : Method} {c : Code} {T : State} {H : Heap} {locs : List Loc} {cells slots : Nat}
abbrev vx_CSW (R : Room) (s : State) (args : Array Value) (own : String) (index : Nat) (y : MethodName) (bytes : ByteArray) (maxL : Nat) (ret : Option FieldType) (hh : List (Nat × Nat × Nat × Nat)) (ws : List Cond) (rm : Room) (mc ms n : Nat) : Prop :=
  (rm.cells = mc ∧ rm.slots = ms ∧ rm.frames + 1 ≤ R.frames ∧ 8 + (maxL + 11) + rm.locals ≤ R.locals ∧ (∀ w ∈ ws, ∀ (a' : Array Value) (U : State), s.WarmedH U.vm → w.before a' U = true) ∧ Cond.codeWith y bytes maxL ret hh ∈ ws) ∧
  (Cond.codeWith y bytes maxL ret hh).before args s = true ∧ (Cond.initialized y.cls).before args s = true ∧ (y.cls ≠ "java/lang/invoke/MethodHandle" ∧ y.cls ≠ "java/lang/invoke/VarHandle") ∧
  (∀ sig, parseMethodDescriptor y.desc = some sig → n = sig.parameters.length) ∧ (Cond.methodLink own index y).before args s = true ∧ (Cond.static y).before args s = true
theorem vx_cwSW {own : String} {index maxL mc ms : Nat} {y : MethodName} {bytes : ByteArray} {ret : Option FieldType} {hh : List (Nat × Nat × Nat × Nat)} {Ts ws ws' : List Cond} {rm : Room} (n : Nat) (ht : ∀ w ∈ Ts, w.before args s = true) (hT : GoodIn Ts (va_wsS own index y ws)) (hw : ws = Cond.codeWith y bytes maxL ret hh :: ws') (hrc : rm.cells = mc) (hrs : rm.slots = ms)
    (hd : y.cls ≠ "java/lang/invoke/MethodHandle" ∧ y.cls ≠ "java/lang/invoke/VarHandle" ∧ (parseMethodDescriptor y.desc).map (fun d => d.parameters.length) = some n) (hR : rm.frames + 1 ≤ R.frames ∧ 8 + (maxL + 11) + rm.locals ≤ R.locals) :
    vx_CSW R s args own index y bytes maxL ret hh ws rm mc ms n := by
  have ok : ∀ w ∈ va_wsS own index y ws, w.before args s = true := fun w h => ht w (hT w h).1
  have hG : GoodIn Ts ws := fun w h => hT w (by unfold va_wsS; exact List.mem_append_right _ h)
  have hc : Cond.codeWith y bytes maxL ret hh ∈ ws := by rw [hw]; exact List.mem_cons_self
  refine ⟨⟨hrc, hrs, hR.1, hR.2, pay_in ht hG, hc⟩, ht _ (hG _ hc).1, ok _ (by simp [va_wsS]), ⟨hd.1, hd.2.1⟩, fun sig h => ?_, ok _ (by simp [va_wsS]), ok _ (by simp [va_wsS])⟩
  have h2 := hd.2.2
  rw [h] at h2
  exact (Option.some.inj h2).symm
theorem vx_callSW (X : Stand p l e R s m args below meth c T locs cells slots) (hexec : p.tables.exec = Jvm.exec) {own : String} {index : Nat} {y : MethodName} {bytes : ByteArray} {maxL : Nat} {ret : Option FieldType} {hh : List (Nat × Nat × Nat × Nat)}
    (hown : s.vm.findClass own = some m.cls) (hlink : (Cond.methodLink own index y).before args s = true) (hstat : (Cond.static y).before args s = true) (hinit : (Cond.initialized y.cls).before args s = true)
    (hcode : (Cond.codeWith y bytes maxL ret hh).before args s = true) (hy : y.cls ≠ "java/lang/invoke/MethodHandle" ∧ y.cls ≠ "java/lang/invoke/VarHandle")
    {W9 : Nat} {Pre : Pt → Array Value → Prop} {Post : Pt → Array Value → Option Value → Pt → Prop} (hK : Back l R p e below s args y 3 W9 Pre Post)
    {g : JFrame} (hg : g.method = m) (hsize : g.locals.size = c.maxLocals) {argsL rest : List Value} (hlen : ∀ sig, parseMethodDescriptor y.desc = some sig → argsL.length = sig.parameters.length)
    (hstack : g.stack = argsL.reverse ++ rest) (hW : 2 * g.monitorRoom + (rest.map fun v => v.category).sum ≤ W9) (hdg : decode c.code g.pc = .ok (.invokestatic index, 3))
    (hpre : ∀ vm₁, s.WarmedH vm₁ → Pre ⟨T.setVm vm₁, locs, cells, slots⟩ argsL.toArray) :
    ∃ (v : Option Value) (vm₁ : Vm) (B : Pt), s.WarmedH vm₁ ∧ Stand p l e R s m args below meth c B.U B.locs B.cells B.slots ∧ Post ⟨T.setVm vm₁, locs, cells, slots⟩ argsL.toArray v B ∧
      ∀ target, Steps p.tables e below (B.U.setTop { g with pc := g.pc + 3, stack := v.toList ++ rest }) target → Steps p.tables e below (T.setTop g) target := by
  obtain ⟨mk, methM, cM, hnamed, hmethM, -, -, -, -, -, -, hsigM⟩ := Cond.codeWith_spec hcode
  have hstatic : methM.isStatic = true := Cond.static_spec hnamed hmethM hstat
  obtain ⟨kP, hkP, -⟩ := className_of_methodNamed hnamed
  have hinitP : kP.init = .initialized := Cond.initialized_spec (findClass_of_methodNamed hnamed) hkP hinit
  obtain ⟨vm₁, X₁, hstep₁⟩ := X.invokestatic hexec hown hlink hnamed hmethM hstatic hkP hinitP hy (g := g) hg (argsL := argsL) (rest := rest) (hlen _ hsigM) hstack hdg
  obtain ⟨v, B, X', hpost, hsteps⟩ := hK m meth c ⟨T.setVm vm₁, locs, cells, slots⟩ { g with stack := rest } (.invokestatic index) mk argsL.toArray X₁ hg hsize hdg hW (X₁.named hnamed) (hpre vm₁ X₁.warmed)
  exact ⟨v, vm₁, B, X₁.warmed, X', hpost, fun target h => hstep₁ _ fun acts => by rw [doInvoke_state]; exact hsteps.trans h⟩
theorem vx_runSW {y : MethodName} {bytes cc : ByteArray} {maxL nL mc ms n index : Nat} {ret : Option FieldType} {hh : List (Nat × Nat × Nat × Nat)} {ws : List Cond} {rm : Room} {Pc : Array Value → State → Prop} {Qc : Array Value → State → Outcome → State → Prop} {free : Addr → Prop} {Ts : List Cond} {own : String} {As rest : List Value} {g : JFrame}
    (S : CallFix p m c cc nL s args Ts own) (hM : Met l y ws rm Pc Qc mc ms free) (cw : vx_CSW R s args own index y bytes maxL ret hh ws rm mc ms n) (hp : PreS s H Pc As)
    (hg : g.method = m) (hn : As.length = n) (hsize : g.locals.size = nL) (hstack : g.stack = As.reverse ++ rest) (hW : 2 * g.monitorRoom + (rest.map fun v => v.category).sum ≤ 8) (hdg : decode cc g.pc = .ok (.invokestatic index, 3)) (hf : cells + mc ≤ R.cells ∧ slots + ms ≤ R.slots) :
    va_Run p l e R s m args below meth c H locs cells slots mc ms g rest (Qc As.toArray) (free) := by
  obtain ⟨⟨hrc, hrs, hfr, hlo, hws, hcw⟩, hcode, hini, hy, hlen, hl, hstt⟩ := cw
  have hK : Back l R p e below s args y 3 8 (PreOf R mc ms Pc) (PostOf Qc mc ms free) := va_backW (hh := hh) (bytes := bytes) (maxL := maxL) (ret := ret) hM hp.1 hrc hrs hfr hlo hws hcw (fun a' U hW => word_at hW (Or.inl (by first | rfl | simp [Cond.onTables, Cond.keeps, Cond.steady])) hini)
  obtain ⟨hx, hb, hml, ho, -⟩ := S
  intro T hT X
  obtain ⟨v, vm₁, ⟨U', l2, c2, s2⟩, hW₁, X', ⟨g', mk, t, L, e1, e2, hq, h1, hL, h2, h3⟩, st⟩ := vx_callSW X hx (hh := hh) (bytes := bytes) (maxL := maxL) (ret := ret) ho hl hstt hini hcode hy hK hg (hsize.trans hml.symm) (argsL := As) (rest := rest) (fun sig h => hn.trans (hlen sig h)) hstack hW (by rw [hb]; exact hdg)
    (fun vm₁ hW₁ => ⟨hf.1, hf.2, hp.2 (T.setVm vm₁) hT hW₁⟩)
  dsimp only [Pt.U, Pt.locs, Pt.cells, Pt.slots] at X' e1 e2 h1 h2 h3 st
  subst h1; subst h2; subst h3
  exact ⟨v, (T.setVm vm₁).calling g' mk As.toArray, t, U', L, hT, X', hL, e1, e2, hq, st⟩
/-- not caught here, past rows that name other classes: it goes on to the caller -/
theorem vx_outP {p : Program} {l : Launch} {e : Env} {R : Room} {s : State} {m : MethodId} {args : Array Value} {below : List Frame} {meth : Method} {c : Code} {H : Heap} {locs : List Loc} {cells slots : Nat} {free : Addr → Prop} {ls : Array Slot} {rest : List Value} {Qc : Array Value → State → Outcome → State → Prop} {XC : String → State → State → Prop}
    {pc : Nat} {own E : String} {ce : Cell} {q : Addr} {mc ms : Nat} (hown : s.vm.findClass own = some m.cls) (hlocks : meth.locks = false)
    (hpass : ∀ z ∈ c.exceptionTable.toList, covers z pc = false ∨ (z.catchType ≠ 0 ∧ ∃ nm : String, (Cond.classLink own z.catchType nm).before args s = true ∧ va_Nc E nm s)) (hcell : H[q]? = some ce) (hv : ce.vm = .none) (hcl : s.vm.findClass E = some ce.cls)
    (hx : ∀ t : State, t.heap = H → s.vm.Alike t.vm → XC E s t) (hf : ∀ z ∈ locs, free z.base) (hc : cells ≤ mc) (hs : slots ≤ ms) :
    vx_W p l e R s m args below meth c H locs cells slots (vx_MQ below Qc XC args s mc ms free) (F0 m pc ls rest) q := by
  intro T hT X
  have hpl : e.platform.magicAccessors = ({} : Platform).magicAccessors := by rw [X.admits.platform]
  obtain ⟨vm', hW', X', st⟩ := X.outThrough hlocks q (g := F0 m pc ls rest) rfl rfl rfl (cell := ce) (by rw [hT]; exact hcell) (by rw [hv]; rfl)
    (by obtain ⟨k9, h9, -⟩ := Vm.findClass_spec hcl; exact ⟨k9, h9⟩) (fun z hz => by
      rcases hpass z hz with h | ⟨hz0, nm, hl1, hn1⟩
      · exact Or.inl h
      · obtain ⟨c6, hc6, hcl6⟩ := Cond.classLink_spec hown hl1 e.platform hpl
        obtain ⟨a8, b8, h1, h2, h3⟩ := hn1
        cases Option.some.inj (h1.symm.trans hcl)
        cases Option.some.inj (h2.symm.trans hc6)
        exact Or.inr ⟨hz0, _, hcl6, h3⟩)
  obtain ⟨g₀, hfr⟩ := X'.frames_eq
  have hcell9 : ((T.setVm vm').setFrames (.throwing q :: below)).heap[q]? = some ce := by
    show T.heap[q]? = some ce
    rw [hT]; exact hcell
  have hend : Ended ((T.setVm vm').setFrames (.throwing q :: below)) below (.threw q) := State.frames_setFrames _ (State.cur_lt_of_frames hfr)
  refine ⟨(T.setVm vm').setFrames (.throwing q :: below), ?_, .threw q, X'.here.running, hend, Or.inr ⟨q, rfl, E, ce, locs, hx _ hT (X'.ends _).1.alike, hcell9, hv, hcl, (X'.ends _).1, (X'.ends _).2.mono hc hs, hf⟩⟩
  rw [X.pushThrowing_eq]
  exact st
/-- a thing of a world lies in the heap -/
theorem vx_lt {D : va_G} {cl : List vw_C} {ws : va_W} {H1 : Heap} (h : va_P D cl ws H1) {k : Nat} {q : Nat × va_E} (hk : ws[k]? = some q) : q.1 < H1.size := (h k q hk).lt
end VXS
/-! ===== END ===== -/
/-! ===== BEGIN methods with a table of their own: called by a name, returning or throwing ===== -/
section VXH
/-! vx_backW, vx_callVX, vx_callSX, vx_callVW, vx_runVW, vx_runVX, vx_runSX, vx_ofWH follow the same proofs as their sisters above (Free/Laws.lean, Shelf42/LK1.lean); vx_outP calls Shelf42/NT130.lean (outThrough). -/
section
variable {l : Launch} {R : Room} {p : Program} {e : Env} {below : List Frame} {s : State} {sargs : Array Value} {y : MethodName} {len W9 : Nat}
theorem vx_backW {ws : List Cond} {rm : Room} {Pc : Array Value → State → Prop} {Qc : Array Value → State → Outcome → State → Prop} {XC : String → State → State → Prop} {mc ms : Nat} {free : Addr → Prop} {bytes : ByteArray} {maxL : Nat} {ret : Option FieldType} {hh : List (Nat × Nat × Nat × Nat)}
    (hM : vx_Met l y ws rm Pc Qc XC mc ms free) (hblind : FrameBlind Pc) (hrc : rm.cells = mc) (hrs : rm.slots = ms)
    (hframes : rm.frames + 1 ≤ R.frames) (hlocals : W9 + (maxL + 11) + rm.locals ≤ R.locals)
    (hws : ∀ w ∈ ws, ∀ a' U, s.WarmedH U.vm → w.before a' U = true) (hcode : Cond.codeWith y bytes maxL ret hh ∈ ws) (hinit : ∀ a' U, s.WarmedH U.vm → (Cond.initialized y.cls).before a' U = true) :
    vx_Back l R p e below s sargs y len W9 (PreOf R mc ms Pc) (PostOf Qc mc ms free) (vx_Post XC mc ms free) := by
  intro m meth c A g ig mk a X hg hsize hdg hW hn hp
  have h1 : (headSpec ws rm).pre.before a A.U = true := atoms_intro fun w hw => hws w hw _ _ X.warmed
  have h2 : (Cond.codeWith y bytes maxL ret hh).before a A.U = true := hws _ hcode _ _ X.warmed
  have h3 : (Cond.initialized y.cls).before a A.U = true := hinit _ _ X.warmed
  have h4 : A.cells + (headSpec ws rm).room.cells ≤ R.cells := by rw [show (headSpec ws rm).room.cells = mc from hrc]; exact hp.1
  have h5 : A.slots + (headSpec ws rm).room.slots ≤ R.slots := by rw [show (headSpec ws rm).room.slots = ms from hrs]; exact hp.2.1
  have hPc : Pc a (A.U.calling g mk a) := hblind _ _ _ _ hp.2.2
  obtain ⟨U, Ls, c0, s0⟩ := A
  dsimp only [Pt.U, Pt.locs, Pt.cells, Pt.slots] at h1 h2 h3 h4 h5 X hn hPc ⊢
  obtain ⟨m9, methY, cY, hn9, hmY, hcY, -, hlY, -⟩ := Cond.codeWith_spec h2
  cases Option.some.inj (hn9.symm.trans hn)
  obtain ⟨kY, hkY, -⟩ := className_of_methodNamed hn
  have hinitY : kY.init = .initialized := Cond.initialized_spec (findClass_of_methodNamed hn) hkY h3
  have h : At U g.method c below := by rw [hg]; exact X.here
  have hlocals9 : W9 + (maxL + 11) + (headSpec ws rm).room.locals ≤ R.locals := hlocals
  have happ : (headSpec ws rm).appliesLoose y e.platform (U.calling g mk a) = true :=
    Spec.appliesLoose_calling (g := g) h hdg hn hkY hinitY
      (X.room_calling (g := g) (R' := (headSpec ws rm).room) hsize hmY hcY hframes (by rw [hlY]; omega) h4 h5) h1
  obtain ⟨mid, hmid⟩ := h.above
  have hfr : (U.setTop g).frames = (.java g :: mid) ++ below := by rw [State.frames_setTop' g h.top, hmid]; rfl
  obtain ⟨o, s₂, hsteps, -, hend, hq⟩ := Steps.callFree hM p X.admits X.cas X.clock (acts := []) hfr happ hPc trivial
  have hq' : vx_Q Qc XC mc ms free a (U.calling g mk a) o s₂ := hq
  rw [State.frames_setTop' g h.top] at hend
  obtain ⟨g₀, hg0⟩ := Option.isSome_iff_exists.mp h.top
  obtain ⟨r, hr⟩ := State.topJava?_eq_some.mp hg0
  have hr' : (({ U with heap := s₂.heap, slotsUsed := s₂.slotsUsed } : State).setVm s₂.vm).frames = .java g₀ :: r := hr
  rcases hq' with ⟨hqc, L, hfe, hL⟩ | ⟨q, rfl, E, ce, L, hx, hce, hcv, hcl, hW₂, hsm, hL⟩
  · obtain ⟨⟨v, rfl⟩, hW₂, e2, q2, q3, q4, q5, q6⟩ := id hfe
    have e3 : s₂ = ({ (U.calling g mk a).setFrames s₂.frames with heap := s₂.heap, slotsUsed := s₂.slotsUsed } : State).setVm s₂.vm := by
      have : s₂ = ({ s₂ with vm := (U.calling g mk a).vm } : State).setVm s₂.vm := rfl
      rw [e2] at this
      exact this
    obtain ⟨c₂, i₂, len₂, hc₂, hd₂, hf₂⟩ := hend
    have hW' : U.WarmedH s₂.vm := hW₂
    have hcc : c₂ = c := by
      have h1 : s₂.code? g.method = U.code? g.method := by
        rw [State.code?_eq, State.code?_eq, hW'.alike.method?]
      exact Option.some.inj (hc₂.symm.trans (h1.trans h.code))
    subst hcc
    have hlen : len₂ = len := by rw [hdg] at hd₂; cases hd₂; rfl
    subst hlen
    have hs₂ : s₂ = (({ U with heap := s₂.heap, slotsUsed := s₂.slotsUsed } : State).setVm s₂.vm).setTop { g with pc := g.pc + len₂, stack := v.toList ++ g.stack } := by
      refine e3.trans ?_
      rw [hf₂, State.calling_eq h.top, State.setFrames_setFrames, State.setTop_of_frames _ hr', hr]
      rfl
    have hsame : U.sameButNew ({ U with heap := s₂.heap, slotsUsed := s₂.slotsUsed } : State) L mc ms := by
      refine ⟨?_, q2, q3, q4, q5, q6⟩
      obtain ⟨t, ht, -⟩ := State.frames_cons hr
      show ({ U with heap := s₂.heap, slotsUsed := s₂.slotsUsed } : State) = { U.setFrames U.frames with heap := s₂.heap, slotsUsed := s₂.slotsUsed }
      rw [State.setFrames_self ht]
    subst hg
    refine Or.inl ⟨v, ⟨(({ U with heap := s₂.heap, slotsUsed := s₂.slotsUsed } : State).setVm s₂.vm), Ls ++ L, c0 + mc, s0 + ms⟩,
      ⟨X.admits, X.cas, X.clock, X.frames, X.room, X.hears, X.method, X.code, (X.here.setHeapUsed s₂.heap s₂.slotsUsed).setVm hW'.alike, X.tail, State.WarmedH.trans X.warmed hW', X.limits, X.bytes, X.same.trans (hsame.setVm s.vm)⟩,
      ⟨g, mk, s₂, L, rfl, rfl, hqc, rfl, hL, rfl, rfl⟩, ?_⟩
    show Steps p.tables e below _ ((({ U with heap := s₂.heap, slotsUsed := s₂.slotsUsed } : State).setVm s₂.vm).setTop { g with pc := g.pc + len₂, stack := v.toList ++ g.stack })
    rw [← hs₂]
    exact hsteps
  · obtain ⟨e2, q2, q3, q4, q5, q6⟩ := id hsm
    have e3 : s₂ = ({ (U.calling g mk a).setFrames s₂.frames with heap := s₂.heap, slotsUsed := s₂.slotsUsed } : State).setVm s₂.vm := by
      have : s₂ = ({ s₂ with vm := (U.calling g mk a).vm } : State).setVm s₂.vm := rfl
      rw [e2] at this
      exact this
    have hf₂ : s₂.frames = .throwing q :: .java g :: U.frames.tail := hend
    have hW' : U.WarmedH s₂.vm := hW₂
    have hs₂ : s₂ = ((({ U with heap := s₂.heap, slotsUsed := s₂.slotsUsed } : State).setVm s₂.vm).setTop g).pushFrame (.throwing q) := by
      refine e3.trans ?_
      rw [hf₂, State.calling_eq h.top, State.setFrames_setFrames, State.pushFrame, State.frames_setTop _ hr', State.setTop_of_frames _ hr', State.setFrames_setFrames, hr]
      rfl
    have hsame : U.sameButNew ({ U with heap := s₂.heap, slotsUsed := s₂.slotsUsed } : State) L mc ms := by
      refine ⟨?_, q2, q3, q4, q5, q6⟩
      obtain ⟨t, ht, -⟩ := State.frames_cons hr
      show ({ U with heap := s₂.heap, slotsUsed := s₂.slotsUsed } : State) = { U.setFrames U.frames with heap := s₂.heap, slotsUsed := s₂.slotsUsed }
      rw [State.setFrames_self ht]
    subst hg
    refine Or.inr ⟨q, ⟨(({ U with heap := s₂.heap, slotsUsed := s₂.slotsUsed } : State).setVm s₂.vm), Ls ++ L, c0 + mc, s0 + ms⟩,
      ⟨X.admits, X.cas, X.clock, X.frames, X.room, X.hears, X.method, X.code, (X.here.setHeapUsed s₂.heap s₂.slotsUsed).setVm hW'.alike, X.tail, State.WarmedH.trans X.warmed hW', X.limits, X.bytes, X.same.trans (hsame.setVm s.vm)⟩,
      ⟨g, mk, s₂, L, E, ce, rfl, rfl, hx, hce, hcv, hcl, rfl, hL, rfl, rfl⟩, ?_⟩
    show Steps p.tables e below _ (((({ U with heap := s₂.heap, slotsUsed := s₂.slotsUsed } : State).setVm s₂.vm).setTop g).pushFrame (.throwing q))
    rw [← hs₂]
    exact hsteps
end
variable {p : Program} {l : Launch} {e : Env} {R : Room} {s : State} {m : MethodId} {args : Array Value} {below : List Frame} {meth : Method} {c : Code} {T : State} {H : Heap} {locs : List Loc} {cells slots : Nat}
theorem vx_callVX (X : Stand p l e R s m args below meth c T locs cells slots) (hexec : p.tables.exec = Jvm.exec) {own C : String} {index : Nat} {y : MethodName} {bytes : ByteArray} {maxL : Nat} {ret : Option FieldType} {hh : List (Nat × Nat × Nat × Nat)}
    (hown : s.vm.findClass own = some m.cls) (hlink : (Cond.methodLink own index y).before args s = true) (hinst : (Cond.instanceMethod y).before args s = true) (hsel : (Cond.selects C y y).before args s = true)
    (hcode : (Cond.codeWith y bytes maxL ret hh).before args s = true) (hy : y.cls ≠ "java/lang/invoke/MethodHandle" ∧ y.cls ≠ "java/lang/invoke/VarHandle")
    {W9 : Nat} {Pre : Pt → Array Value → Prop} {Post : Pt → Array Value → Option Value → Pt → Prop} {PostX : Pt → Array Value → Addr → Pt → Prop} (hK : vx_Back l R p e below s args y 3 W9 Pre Post PostX)
    {b : Addr} {cellB : Cell} (hcell : T.heap[b]? = some cellB) (hobj : cellB.vm.isStatics = false) (hcls : s.vm.findClass C = some cellB.cls)
    {g : JFrame} (hg : g.method = m) (hsize : g.locals.size = c.maxLocals) {argsL rest : List Value} (hlen : ∀ sig, parseMethodDescriptor y.desc = some sig → argsL.length = sig.parameters.length)
    (hstack : g.stack = argsL.reverse ++ .ref b :: rest) (hW : 2 * g.monitorRoom + (rest.map fun v => v.category).sum ≤ W9) (hdg : decode c.code g.pc = .ok (.invokevirtual index, 3))
    (hpre : ∀ vm₁, s.WarmedH vm₁ → Pre ⟨T.setVm vm₁, locs, cells, slots⟩ (Value.ref b :: argsL).toArray) :
    (∃ (v : Option Value) (vm₁ : Vm) (B : Pt), s.WarmedH vm₁ ∧ Stand p l e R s m args below meth c B.U B.locs B.cells B.slots ∧ Post ⟨T.setVm vm₁, locs, cells, slots⟩ (Value.ref b :: argsL).toArray v B ∧
      ∀ target, Steps p.tables e below (B.U.setTop { g with pc := g.pc + 3, stack := v.toList ++ rest }) target → Steps p.tables e below (T.setTop g) target) ∨
    (∃ (q : Addr) (vm₁ : Vm) (B : Pt), s.WarmedH vm₁ ∧ Stand p l e R s m args below meth c B.U B.locs B.cells B.slots ∧ PostX ⟨T.setVm vm₁, locs, cells, slots⟩ (Value.ref b :: argsL).toArray q B ∧
      Steps p.tables e below (T.setTop g) ((B.U.setTop { g with stack := rest }).pushFrame (.throwing q))) := by
  obtain ⟨mk, methM, hnamed, hmethM, hstM, habM⟩ := Cond.instanceMethod_spec hinst
  obtain ⟨m8, methM', cM, hn8, hmethM', -, -, -, -, -, -, hsigM⟩ := Cond.codeWith_spec hcode
  cases Option.some.inj (hn8.symm.trans hnamed)
  cases hmethM.symm.trans hmethM'
  obtain ⟨c2, r2, m2, q1, q2, q3, q4, kP, hkP, hkPi⟩ := Cond.selects_spec hsel
  cases hcls.symm.trans q1
  cases (State.methodFound?_of_named hnamed hy).symm.trans q2
  cases hnamed.symm.trans q3
  have hselP : selectMethod e.platform s.vm cellB.cls mk = .method mk := by rw [Launch.admits_selectMethod X.admits]; exact q4
  obtain ⟨vm₁, X₁, hstep₁⟩ := X.invokevirtual hexec hown hlink hnamed hmethM hstM hkP hkPi hy (a := b) (cell := cellB) hcell
    (fun z h => by rw [h] at hobj; cases hobj) hselP hmethM habM hkP hkPi (g := g) hg (argsL := argsL) (rest := rest) (hlen _ hsigM) hstack hdg
  rcases hK m meth c ⟨T.setVm vm₁, locs, cells, slots⟩ { g with stack := rest } (.invokevirtual index) mk (Value.ref b :: argsL).toArray X₁ hg hsize hdg hW (X₁.named hnamed) (hpre vm₁ X₁.warmed) with ⟨v, B, X', hpost, hsteps⟩ | ⟨q, B, X', hpost, hsteps⟩
  · exact Or.inl ⟨v, vm₁, B, X₁.warmed, X', hpost, fun target h => hstep₁ _ fun acts => by rw [doInvoke_state]; exact hsteps.trans h⟩
  · exact Or.inr ⟨q, vm₁, B, X₁.warmed, X', hpost, hstep₁ _ fun acts => by rw [doInvoke_state]; exact hsteps⟩
theorem vx_callSX (X : Stand p l e R s m args below meth c T locs cells slots) (hexec : p.tables.exec = Jvm.exec) {own : String} {index : Nat} {y : MethodName} {bytes : ByteArray} {maxL : Nat} {ret : Option FieldType} {hh : List (Nat × Nat × Nat × Nat)}
    (hown : s.vm.findClass own = some m.cls) (hlink : (Cond.methodLink own index y).before args s = true) (hstat : (Cond.static y).before args s = true) (hinit : (Cond.initialized y.cls).before args s = true)
    (hcode : (Cond.codeWith y bytes maxL ret hh).before args s = true) (hy : y.cls ≠ "java/lang/invoke/MethodHandle" ∧ y.cls ≠ "java/lang/invoke/VarHandle")
    {W9 : Nat} {Pre : Pt → Array Value → Prop} {Post : Pt → Array Value → Option Value → Pt → Prop} {PostX : Pt → Array Value → Addr → Pt → Prop} (hK : vx_Back l R p e below s args y 3 W9 Pre Post PostX)
    {g : JFrame} (hg : g.method = m) (hsize : g.locals.size = c.maxLocals) {argsL rest : List Value} (hlen : ∀ sig, parseMethodDescriptor y.desc = some sig → argsL.length = sig.parameters.length)
    (hstack : g.stack = argsL.reverse ++ rest) (hW : 2 * g.monitorRoom + (rest.map fun v => v.category).sum ≤ W9) (hdg : decode c.code g.pc = .ok (.invokestatic index, 3))
    (hpre : ∀ vm₁, s.WarmedH vm₁ → Pre ⟨T.setVm vm₁, locs, cells, slots⟩ argsL.toArray) :
    (∃ (v : Option Value) (vm₁ : Vm) (B : Pt), s.WarmedH vm₁ ∧ Stand p l e R s m args below meth c B.U B.locs B.cells B.slots ∧ Post ⟨T.setVm vm₁, locs, cells, slots⟩ argsL.toArray v B ∧
      ∀ target, Steps p.tables e below (B.U.setTop { g with pc := g.pc + 3, stack := v.toList ++ rest }) target → Steps p.tables e below (T.setTop g) target) ∨
    (∃ (q : Addr) (vm₁ : Vm) (B : Pt), s.WarmedH vm₁ ∧ Stand p l e R s m args below meth c B.U B.locs B.cells B.slots ∧ PostX ⟨T.setVm vm₁, locs, cells, slots⟩ argsL.toArray q B ∧
      Steps p.tables e below (T.setTop g) ((B.U.setTop { g with stack := rest }).pushFrame (.throwing q))) := by
  obtain ⟨mk, methM, cM, hnamed, hmethM, -, -, -, -, -, -, hsigM⟩ := Cond.codeWith_spec hcode
  have hstatic : methM.isStatic = true := Cond.static_spec hnamed hmethM hstat
  obtain ⟨kP, hkP, -⟩ := className_of_methodNamed hnamed
  have hinitP : kP.init = .initialized := Cond.initialized_spec (findClass_of_methodNamed hnamed) hkP hinit
  obtain ⟨vm₁, X₁, hstep₁⟩ := X.invokestatic hexec hown hlink hnamed hmethM hstatic hkP hinitP hy (g := g) hg (argsL := argsL) (rest := rest) (hlen _ hsigM) hstack hdg
  rcases hK m meth c ⟨T.setVm vm₁, locs, cells, slots⟩ { g with stack := rest } (.invokestatic index) mk argsL.toArray X₁ hg hsize hdg hW (X₁.named hnamed) (hpre vm₁ X₁.warmed) with ⟨v, B, X', hpost, hsteps⟩ | ⟨q, B, X', hpost, hsteps⟩
  · exact Or.inl ⟨v, vm₁, B, X₁.warmed, X', hpost, fun target h => hstep₁ _ fun acts => by rw [doInvoke_state]; exact hsteps.trans h⟩
  · exact Or.inr ⟨q, vm₁, B, X₁.warmed, X', hpost, hstep₁ _ fun acts => by rw [doInvoke_state]; exact hsteps⟩
theorem vx_callVW (X : Stand p l e R s m args below meth c T locs cells slots) (hexec : p.tables.exec = Jvm.exec) {own C : String} {index : Nat} {y : MethodName} {bytes : ByteArray} {maxL : Nat} {ret : Option FieldType} {hh : List (Nat × Nat × Nat × Nat)}
    (hown : s.vm.findClass own = some m.cls) (hlink : (Cond.methodLink own index y).before args s = true) (hinst : (Cond.instanceMethod y).before args s = true) (hsel : (Cond.selects C y y).before args s = true)
    (hcode : (Cond.codeWith y bytes maxL ret hh).before args s = true) (hy : y.cls ≠ "java/lang/invoke/MethodHandle" ∧ y.cls ≠ "java/lang/invoke/VarHandle")
    {W9 : Nat} {Pre : Pt → Array Value → Prop} {Post : Pt → Array Value → Option Value → Pt → Prop} (hK : Back l R p e below s args y 3 W9 Pre Post)
    {b : Addr} {cellB : Cell} (hcell : T.heap[b]? = some cellB) (hobj : cellB.vm.isStatics = false) (hcls : s.vm.findClass C = some cellB.cls)
    {g : JFrame} (hg : g.method = m) (hsize : g.locals.size = c.maxLocals) {argsL rest : List Value} (hlen : ∀ sig, parseMethodDescriptor y.desc = some sig → argsL.length = sig.parameters.length)
    (hstack : g.stack = argsL.reverse ++ .ref b :: rest) (hW : 2 * g.monitorRoom + (rest.map fun v => v.category).sum ≤ W9) (hdg : decode c.code g.pc = .ok (.invokevirtual index, 3))
    (hpre : ∀ vm₁, s.WarmedH vm₁ → Pre ⟨T.setVm vm₁, locs, cells, slots⟩ (Value.ref b :: argsL).toArray) :
    ∃ (v : Option Value) (vm₁ : Vm) (B : Pt), s.WarmedH vm₁ ∧ Stand p l e R s m args below meth c B.U B.locs B.cells B.slots ∧ Post ⟨T.setVm vm₁, locs, cells, slots⟩ (Value.ref b :: argsL).toArray v B ∧
      ∀ target, Steps p.tables e below (B.U.setTop { g with pc := g.pc + 3, stack := v.toList ++ rest }) target → Steps p.tables e below (T.setTop g) target := by
  obtain ⟨mk, methM, hnamed, hmethM, hstM, habM⟩ := Cond.instanceMethod_spec hinst
  obtain ⟨m8, methM', cM, hn8, hmethM', -, -, -, -, -, -, hsigM⟩ := Cond.codeWith_spec hcode
  cases Option.some.inj (hn8.symm.trans hnamed)
  cases hmethM.symm.trans hmethM'
  obtain ⟨c2, r2, m2, q1, q2, q3, q4, kP, hkP, hkPi⟩ := Cond.selects_spec hsel
  cases hcls.symm.trans q1
  cases (State.methodFound?_of_named hnamed hy).symm.trans q2
  cases hnamed.symm.trans q3
  have hselP : selectMethod e.platform s.vm cellB.cls mk = .method mk := by rw [Launch.admits_selectMethod X.admits]; exact q4
  obtain ⟨vm₁, X₁, hstep₁⟩ := X.invokevirtual hexec hown hlink hnamed hmethM hstM hkP hkPi hy (a := b) (cell := cellB) hcell
    (fun z h => by rw [h] at hobj; cases hobj) hselP hmethM habM hkP hkPi (g := g) hg (argsL := argsL) (rest := rest) (hlen _ hsigM) hstack hdg
  obtain ⟨v, B, X', hpost, hsteps⟩ := hK m meth c ⟨T.setVm vm₁, locs, cells, slots⟩ { g with stack := rest } (.invokevirtual index) mk (Value.ref b :: argsL).toArray X₁ hg hsize hdg hW (X₁.named hnamed) (hpre vm₁ X₁.warmed)
  exact ⟨v, vm₁, B, X₁.warmed, X', hpost, fun target h => hstep₁ _ fun acts => by rw [doInvoke_state]; exact hsteps.trans h⟩
abbrev vx_CVW (R : Room) (s : State) (args : Array Value) (own C : String) (index : Nat) (y : MethodName) (bytes : ByteArray) (maxL : Nat) (ret : Option FieldType) (hh : List (Nat × Nat × Nat × Nat)) (ws : List Cond) (rm : Room) (mc ms n : Nat) : Prop :=
  (rm.cells = mc ∧ rm.slots = ms ∧ rm.frames + 1 ≤ R.frames ∧ 8 + (maxL + 11) + rm.locals ≤ R.locals ∧ (∀ w ∈ ws, ∀ (a' : Array Value) (U : State), s.WarmedH U.vm → w.before a' U = true) ∧ Cond.codeWith y bytes maxL ret hh ∈ ws) ∧
  (Cond.codeWith y bytes maxL ret hh).before args s = true ∧ (Cond.initialized y.cls).before args s = true ∧ (y.cls ≠ "java/lang/invoke/MethodHandle" ∧ y.cls ≠ "java/lang/invoke/VarHandle") ∧
  (∀ sig, parseMethodDescriptor y.desc = some sig → n = sig.parameters.length) ∧ (Cond.methodLink own index y).before args s = true ∧ (Cond.instanceMethod y).before args s = true ∧ (Cond.selects C y y).before args s = true
theorem vx_cwVW {own C : String} {index maxL mc ms : Nat} {y : MethodName} {bytes : ByteArray} {ret : Option FieldType} {hh : List (Nat × Nat × Nat × Nat)} {Ts ws ws' : List Cond} {rm : Room} (n : Nat) (ht : ∀ w ∈ Ts, w.before args s = true) (hT : GoodIn Ts (wsV own index C y ws)) (hw : ws = Cond.codeWith y bytes maxL ret hh :: ws') (hrc : rm.cells = mc) (hrs : rm.slots = ms)
    (hd : y.cls = C ∧ y.cls ≠ "java/lang/invoke/MethodHandle" ∧ y.cls ≠ "java/lang/invoke/VarHandle" ∧ (parseMethodDescriptor y.desc).map (fun d => d.parameters.length) = some n) (hR : rm.frames + 1 ≤ R.frames ∧ 8 + (maxL + 11) + rm.locals ≤ R.locals) :
    vx_CVW R s args own C index y bytes maxL ret hh ws rm mc ms n := by
  obtain ⟨hC, hd⟩ := hd
  subst hC
  have ok : ∀ w ∈ wsV own index y.cls y ws, w.before args s = true := fun w h => ht w (hT w h).1
  have hG : GoodIn Ts ws := fun w h => hT w (by unfold wsV; exact List.mem_append_right _ h)
  have hc : Cond.codeWith y bytes maxL ret hh ∈ ws := by rw [hw]; exact List.mem_cons_self
  refine ⟨⟨hrc, hrs, hR.1, hR.2, pay_in ht hG, hc⟩, ht _ (hG _ hc).1, ok _ (by simp [wsV]), ⟨hd.1, hd.2.1⟩, fun sig h => ?_, ok _ (by simp [wsV]), ok _ (by simp [wsV]), ok _ (by simp [wsV])⟩
  have h2 := hd.2.2
  rw [h] at h2
  exact (Option.some.inj h2).symm
theorem vx_runVW {y : MethodName} {bytes cc : ByteArray} {maxL nL mc ms n index : Nat} {ret : Option FieldType} {hh : List (Nat × Nat × Nat × Nat)} {ws : List Cond} {rm : Room} {Pc : Array Value → State → Prop} {Qc : Array Value → State → Outcome → State → Prop} {free : Addr → Prop} {Ts : List Cond} {own C : String} {b : Addr} {As rest : List Value} {g : JFrame}
    (S : CallFix p m c cc nL s args Ts own) (hM : Met l y ws rm Pc Qc mc ms free) (cw : vx_CVW R s args own C index y bytes maxL ret hh ws rm mc ms n) (hp : PreV s H C b Pc As)
    (hg : g.method = m) (hn : As.length = n) (hsize : g.locals.size = nL) (hstack : g.stack = As.reverse ++ .ref b :: rest) (hW : 2 * g.monitorRoom + (rest.map fun v => v.category).sum ≤ 8) (hdg : decode cc g.pc = .ok (.invokevirtual index, 3)) (hf : cells + mc ≤ R.cells ∧ slots + ms ≤ R.slots) :
    va_Run p l e R s m args below meth c H locs cells slots mc ms g rest (Qc (Value.ref b :: As).toArray) free := by
  obtain ⟨⟨hrc, hrs, hfr, hlo, hws, hcw⟩, hcode, hini, hy, hlen, hl, hin, hse⟩ := cw
  have hK : Back l R p e below s args y 3 8 (PreOf R mc ms Pc) (PostOf Qc mc ms free) := va_backW (hh := hh) (bytes := bytes) (maxL := maxL) (ret := ret) hM hp.1 hrc hrs hfr hlo hws hcw (fun a' U hW => word_at hW (Or.inl (by first | rfl | simp [Cond.onTables, Cond.keeps, Cond.steady])) hini)
  obtain ⟨hx, hb, hml, ho, -⟩ := S
  obtain ⟨-, ⟨cellB, hcB, hoB, hclB⟩, hPc⟩ := hp
  intro T hT X
  obtain ⟨v, vm₁, ⟨U', l2, c2, s2⟩, hW₁, X', ⟨g', mk, t, L, e1, e2, hq, h1, hL, h2, h3⟩, st⟩ := vx_callVW X hx (C := C) (hh := hh) (bytes := bytes) (maxL := maxL) (ret := ret) ho hl hin hse hcode hy hK (by rw [hT]; exact hcB) hoB hclB hg (hsize.trans hml.symm) (argsL := As) (rest := rest) (fun sig h => hn.trans (hlen sig h)) hstack hW (by rw [hb]; exact hdg)
    (fun vm₁ hW₁ => ⟨hf.1, hf.2, hPc (T.setVm vm₁) hT hW₁⟩)
  dsimp only [Pt.U, Pt.locs, Pt.cells, Pt.slots] at X' e1 e2 h1 h2 h3 st
  subst h1; subst h2; subst h3
  exact ⟨v, (T.setVm vm₁).calling g' mk (Value.ref b :: As).toArray, t, U', L, hT, X', hL, e1, e2, hq, st⟩
section
variable {y : MethodName} {bytes cc : ByteArray} {maxL nL mc ms n index : Nat} {ret : Option FieldType} {ws : List Cond} {rm : Room} {Pc : Array Value → State → Prop} {Qc : Array Value → State → Outcome → State → Prop} {XC : String → State → State → Prop} {free : Addr → Prop} {Ts : List Cond} {own C : String} {b : Addr} {As rest : List Value} {g : JFrame}
theorem vx_runVX {hh : List (Nat × Nat × Nat × Nat)} (S : CallFix p m c cc nL s args Ts own) (hM : vx_Met l y ws rm Pc Qc XC mc ms free) (cw : vx_CVW R s args own C index y bytes maxL ret hh ws rm mc ms n) (hp : PreV s H C b Pc As)
    (hg : g.method = m) (hn : As.length = n) (hsize : g.locals.size = nL) (hstack : g.stack = As.reverse ++ .ref b :: rest) (hW : 2 * g.monitorRoom + (rest.map fun v => v.category).sum ≤ 8) (hdg : decode cc g.pc = .ok (.invokevirtual index, 3)) (hf : cells + mc ≤ R.cells ∧ slots + ms ≤ R.slots) :
    vx_Run p l e R s m args below meth c H locs cells slots mc ms g rest (Qc (Value.ref b :: As).toArray) XC free := by
  obtain ⟨⟨hrc, hrs, hfr, hlo, hws, hcw⟩, hcode, hini, hy, hlen, hl, hin, hse⟩ := cw
  have hK : vx_Back l R p e below s args y 3 8 (PreOf R mc ms Pc) (PostOf Qc mc ms free) (vx_Post XC mc ms free) := vx_backW (hh := hh) (bytes := bytes) (maxL := maxL) (ret := ret) hM hp.1 hrc hrs hfr hlo hws hcw (fun a' U hW => word_at hW (Or.inl (by first | rfl | simp [Cond.onTables, Cond.keeps, Cond.steady])) hini)
  obtain ⟨hx, hb, hml, ho, -⟩ := S
  obtain ⟨-, ⟨cellB, hcB, hoB, hclB⟩, hPc⟩ := hp
  intro T hT X
  rcases vx_callVX X hx (C := C) (hh := hh) (bytes := bytes) (maxL := maxL) (ret := ret) ho hl hin hse hcode hy hK (by rw [hT]; exact hcB) hoB hclB hg (hsize.trans hml.symm) (argsL := As) (rest := rest) (fun sig h => hn.trans (hlen sig h)) hstack hW (by rw [hb]; exact hdg)
    (fun vm₁ hW₁ => ⟨hf.1, hf.2, hPc (T.setVm vm₁) hT hW₁⟩) with ⟨v, vm₁, ⟨U', l2, c2, s2⟩, hW₁, X', ⟨g', mk, t, L, e1, e2, hq, h1, hL, h2, h3⟩, st⟩ | ⟨q, vm₁, ⟨U', l2, c2, s2⟩, hW₁, X', ⟨g', mk, t, L, E, ce, e1, e2, hq, hce, hcv, hcl, h1, hL, h2, h3⟩, st⟩
  · dsimp only [Pt.U, Pt.locs, Pt.cells, Pt.slots] at X' e1 e2 h1 h2 h3 st
    subst h1; subst h2; subst h3
    exact Or.inl ⟨v, (T.setVm vm₁).calling g' mk (Value.ref b :: As).toArray, t, U', L, hT, X', hL, e1, e2, hq, st⟩
  · dsimp only [Pt.U, Pt.locs, Pt.cells, Pt.slots] at X' e1 e2 h1 h2 h3 st hcl
    subst h1; subst h2; subst h3
    exact Or.inr ⟨q, (T.setVm vm₁).calling g' mk (Value.ref b :: As).toArray, t, U', L, E, ce, hT, X', hL, e1, e2, hq, hce, hcv, vx_cls hW₁ hcl, st⟩
theorem vx_runSX {hh : List (Nat × Nat × Nat × Nat)} (S : CallFix p m c cc nL s args Ts own) (hM : vx_Met l y ws rm Pc Qc XC mc ms free) (cw : vx_CSW R s args own index y bytes maxL ret hh ws rm mc ms n) (hp : PreS s H Pc As)
    (hg : g.method = m) (hn : As.length = n) (hsize : g.locals.size = nL) (hstack : g.stack = As.reverse ++ rest) (hW : 2 * g.monitorRoom + (rest.map fun v => v.category).sum ≤ 8) (hdg : decode cc g.pc = .ok (.invokestatic index, 3)) (hf : cells + mc ≤ R.cells ∧ slots + ms ≤ R.slots) :
    vx_Run p l e R s m args below meth c H locs cells slots mc ms g rest (Qc As.toArray) XC free := by
  obtain ⟨⟨hrc, hrs, hfr, hlo, hws, hcw⟩, hcode, hini, hy, hlen, hl, hstt⟩ := cw
  have hK : vx_Back l R p e below s args y 3 8 (PreOf R mc ms Pc) (PostOf Qc mc ms free) (vx_Post XC mc ms free) := vx_backW (hh := hh) (bytes := bytes) (maxL := maxL) (ret := ret) hM hp.1 hrc hrs hfr hlo hws hcw (fun a' U hW => word_at hW (Or.inl (by first | rfl | simp [Cond.onTables, Cond.keeps, Cond.steady])) hini)
  obtain ⟨hx, hb, hml, ho, -⟩ := S
  intro T hT X
  rcases vx_callSX X hx (hh := hh) (bytes := bytes) (maxL := maxL) (ret := ret) ho hl hstt hini hcode hy hK hg (hsize.trans hml.symm) (argsL := As) (rest := rest) (fun sig h => hn.trans (hlen sig h)) hstack hW (by rw [hb]; exact hdg)
    (fun vm₁ hW₁ => ⟨hf.1, hf.2, hp.2 (T.setVm vm₁) hT hW₁⟩) with ⟨v, vm₁, ⟨U', l2, c2, s2⟩, hW₁, X', ⟨g', mk, t, L, e1, e2, hq, h1, hL, h2, h3⟩, st⟩ | ⟨q, vm₁, ⟨U', l2, c2, s2⟩, hW₁, X', ⟨g', mk, t, L, E, ce, e1, e2, hq, hce, hcv, hcl, h1, hL, h2, h3⟩, st⟩
  · dsimp only [Pt.U, Pt.locs, Pt.cells, Pt.slots] at X' e1 e2 h1 h2 h3 st
    subst h1; subst h2; subst h3
    exact Or.inl ⟨v, (T.setVm vm₁).calling g' mk As.toArray, t, U', L, hT, X', hL, e1, e2, hq, st⟩
  · dsimp only [Pt.U, Pt.locs, Pt.cells, Pt.slots] at X' e1 e2 h1 h2 h3 st hcl
    subst h1; subst h2; subst h3
    exact Or.inr ⟨q, (T.setVm vm₁).calling g' mk As.toArray, t, U', L, E, ce, hT, X', hL, e1, e2, hq, hce, hcv, vx_cls hW₁ hcl, st⟩
end
end VXH
theorem vx_ofWH {l : Launch} {y : MethodName} {ws ws' : List Cond} {rm : Room} {Pc : Array Value → State → Prop} {Qc : Array Value → State → Outcome → State → Prop} {XC : String → State → State → Prop} {mc ms : Nat} {free : Addr → Prop} {cc : ByteArray} {maxL : Nat} {ret : Option FieldType} {hh : List (Nat × Nat × Nat × Nat)}
    (hy : plainName y.cls = true) (hw : ws = Cond.codeWith y cc maxL ret hh :: ws')
    (body : ∀ p e s m args below meth c s₁, BodyLoose p l y (headSpec ws rm) cc maxL ret e s m args below meth c s₁ → c.maxLocals = maxL → Pc args s →
      W p l e (headSpec ws rm).room s m args below meth c s.heap [] 0 0 (vx_MQ below Qc XC args s mc ms free) (entryFrame m args maxL)) : vx_Met l y ws rm Pc Qc XC mc ms free := by
  refine MetFree.of_bodyS (code := cc) (maxLocals := maxL) (ret := ret) hy ?_ ?_
  · intro args s m h hn
    obtain ⟨m9, meth, c, hn9, h1, h2, h3, h4, -, h5, h6, -⟩ := Cond.codeWith_spec (atoms_spec (ws := ws) h _ (by rw [hw]; exact List.mem_cons_self))
    cases hn.symm.trans hn9
    exact ⟨meth, c, h1, h2, h3, h4, h5, h6⟩
  · intro p e s m args below meth c s₁ B hml hP _
    have hh0 : s₁.heap = s.heap := by rw [B.state]; rfl
    obtain ⟨t, a1, o, b1, b2, b3⟩ := body p e s m args below meth c s₁ B hml hP s₁ hh0 (Stand.of_body B)
    exact ⟨t, o, a1, b1, b2, b3⟩
/-! ===== END ===== -/

def RX0 : String := "DowserPegs$Dowsers"
def TX0 : u_T := fun k => match k with
  | 0 => ("DowserPegs$Dowsers", "size", "I", false)
  | 1 => ("DowserPegs$Dowsers", "feeling", "[I", true)
  | 2 => ("DowserPegs$Dowsers", "lean", "[I", true)
  | _ => ("DowserPegs$Dowsers", "coins", "[I", true)
def tyX0 : Nat → FieldType := fun k => match k with
  | 0 => .int
  | 1 => .array .int
  | 2 => .array .int
  | _ => .array .int
abbrev wsX00 : List Cond := u_ws RX0 TX0 4
theorem nmX0 : ∀ a, a < 4 → ∀ b, b < 4 → a ≠ b → (TX0 a).2.1 ≠ (TX0 b).2.1 := by decide +kernel
theorem tyX0_ok : ∀ k, k < 4 → parseFieldDescriptor (TX0 k).2.2.1 = some (tyX0 k) := by decide +kernel
abbrev cX0_init : ByteArray := prog_2_method_1_code
def yX0_init : MethodName := ⟨RX0, "<init>", "()V"⟩
abbrev cX0_add : ByteArray := prog_2_method_2_code
def yX0_add : MethodName := ⟨RX0, "add", "(II)I"⟩
abbrev cX0_allCoins : ByteArray := prog_2_method_3_code
def yX0_allCoins : MethodName := ⟨RX0, "allCoins", "()I"⟩
def RX1 : String := "DowserPegs$Pegs"
def TX1 : u_T := fun k => match k with
  | 0 => ("DowserPegs$Pegs", "size", "I", false)
  | 1 => ("DowserPegs$Pegs", "owner", "[I", true)
  | _ => ("DowserPegs$Pegs", "onLine", "[I", true)
def tyX1 : Nat → FieldType := fun k => match k with
  | 0 => .int
  | 1 => .array .int
  | _ => .array .int
abbrev wsX10 : List Cond := u_ws RX1 TX1 3
theorem nmX1 : ∀ a, a < 3 → ∀ b, b < 3 → a ≠ b → (TX1 a).2.1 ≠ (TX1 b).2.1 := by decide +kernel
theorem tyX1_ok : ∀ k, k < 3 → parseFieldDescriptor (TX1 k).2.2.1 = some (tyX1 k) := by decide +kernel
abbrev cX1_init : ByteArray := prog_3_method_1_code
def yX1_init : MethodName := ⟨RX1, "<init>", "()V"⟩
abbrev cX1_standsAt : ByteArray := prog_3_method_2_code
def yX1_standsAt : MethodName := ⟨RX1, "standsAt", "(I)Z"⟩
abbrev cX1_add : ByteArray := prog_3_method_3_code
def yX1_add : MethodName := ⟨RX1, "add", "(II)V"⟩
abbrev cX1_remove : ByteArray := prog_3_method_4_code
def yX1_remove : MethodName := ⟨RX1, "remove", "(I)I"⟩
abbrev cX1_standingOf : ByteArray := prog_3_method_5_code
def yX1_standingOf : MethodName := ⟨RX1, "standingOf", "(I)I"⟩
abbrev cX1_besides : ByteArray := prog_3_method_6_code
def yX1_besides : MethodName := ⟨RX1, "besides", "(I)I"⟩
abbrev cX1_pegsAt : ByteArray := prog_3_method_7_code
def yX1_pegsAt : MethodName := ⟨RX1, "pegsAt", "(II)I"⟩
abbrev cX1_nearest : ByteArray := prog_3_method_8_code
def yX1_nearest : MethodName := ⟨RX1, "nearest", "(I)I"⟩
abbrev cX1_tellFullestLine : ByteArray := prog_3_method_9_code
def yX1_tellFullestLine : MethodName := ⟨RX1, "tellFullestLine", "(I)I"⟩
abbrev cX1_countByLine : ByteArray := prog_3_method_10_code
def yX1_countByLine : MethodName := ⟨RX1, "countByLine", "()V"⟩
abbrev cX1_fullestLine : ByteArray := prog_3_method_11_code
def yX1_fullestLine : MethodName := ⟨RX1, "fullestLine", "()I"⟩
abbrev cX1_kindOf : ByteArray := prog_3_method_12_code
def yX1_kindOf : MethodName := ⟨RX1, "kindOf", "(I)I"⟩
abbrev cX1_numberOf : ByteArray := prog_3_method_13_code
def yX1_numberOf : MethodName := ⟨RX1, "numberOf", "(I)I"⟩
def RX2 : String := "DowserPegs$Pits"
def TX2 : u_T := fun k => match k with
  | 0 => ("DowserPegs$Pits", "size", "I", false)
  | 1 => ("DowserPegs$Pits", "at", "[I", true)
  | 2 => ("DowserPegs$Pits", "place", "[I", true)
  | 3 => ("DowserPegs$Pits", "waterDepth", "[I", true)
  | 4 => ("DowserPegs$Pits", "dug", "[I", true)
  | 5 => ("DowserPegs$Pits", "stake", "[I", true)
  | _ => ("DowserPegs$Pits", "betFinds", "[Z", true)
def tyX2 : Nat → FieldType := fun k => match k with
  | 0 => .int
  | 1 => .array .int
  | 2 => .array .int
  | 3 => .array .int
  | 4 => .array .int
  | 5 => .array .int
  | _ => .array .boolean
abbrev wsX20 : List Cond := u_ws RX2 TX2 7
theorem nmX2 : ∀ a, a < 7 → ∀ b, b < 7 → a ≠ b → (TX2 a).2.1 ≠ (TX2 b).2.1 := by decide +kernel
theorem tyX2_ok : ∀ k, k < 7 → parseFieldDescriptor (TX2 k).2.2.1 = some (tyX2 k) := by decide +kernel
abbrev cX2_init : ByteArray := prog_4_method_1_code
def yX2_init : MethodName := ⟨RX2, "<init>", "()V"⟩
abbrev cX2_add : ByteArray := prog_4_method_2_code
def yX2_add : MethodName := ⟨RX2, "add", "(II)I"⟩
abbrev cX2_hasFound : ByteArray := prog_4_method_3_code
def yX2_hasFound : MethodName := ⟨RX2, "hasFound", "(I)Z"⟩
abbrev cX2_isOver : ByteArray := prog_4_method_4_code
def yX2_isOver : MethodName := ⟨RX2, "isOver", "(I)Z"⟩
abbrev cX2_deepen : ByteArray := prog_4_method_5_code
def yX2_deepen : MethodName := ⟨RX2, "deepen", "(II)V"⟩
abbrev cX2_slip : ByteArray := prog_4_method_6_code
def yX2_slip : MethodName := ⟨RX2, "slip", "(II)I"⟩
abbrev cX2_hasBet : ByteArray := prog_4_method_7_code
def yX2_hasBet : MethodName := ⟨RX2, "hasBet", "(II)Z"⟩
abbrev cX2_takeBet : ByteArray := prog_4_method_8_code
def yX2_takeBet : MethodName := ⟨RX2, "takeBet", "(IIIZ)V"⟩
abbrev cX2_stakeOn : ByteArray := prog_4_method_9_code
def yX2_stakeOn : MethodName := ⟨RX2, "stakeOn", "(IIZ)I"⟩
abbrev cX2_stakedOn : ByteArray := prog_4_method_10_code
def yX2_stakedOn : MethodName := ⟨RX2, "stakedOn", "(IZ)I"⟩
abbrev cX2_allStaked : ByteArray := prog_4_method_11_code
def yX2_allStaked : MethodName := ⟨RX2, "allStaked", "(I)I"⟩
abbrev cX2_share : ByteArray := prog_4_method_12_code
def yX2_share : MethodName := ⟨RX2, "share", "(IIZ)I"⟩
abbrev cX2_unpaidOf : ByteArray := prog_4_method_13_code
def yX2_unpaidOf : MethodName := ⟨RX2, "unpaidOf", "(I)I"⟩
abbrev cX2_paidBetsOf : ByteArray := prog_4_method_14_code
def yX2_paidBetsOf : MethodName := ⟨RX2, "paidBetsOf", "(IZ)I"⟩
abbrev cX2_tell : ByteArray := prog_4_method_15_code
def yX2_tell : MethodName := ⟨RX2, "tell", "(II)I"⟩
def RX3 : String := "DowserPegs$Veins"
def TX3 : u_T := fun k => match k with
  | 0 => ("DowserPegs$Veins", "size", "I", false)
  | 1 => ("DowserPegs$Veins", "depth", "[I", true)
  | 2 => ("DowserPegs$Veins", "flow", "[I", true)
  | 3 => ("DowserPegs$Veins", "reach", "[I", true)
  | 4 => ("DowserPegs$Veins", "water", "[I", true)
  | _ => ("DowserPegs$Veins", "shallowest", "[I", true)
def tyX3 : Nat → FieldType := fun k => match k with
  | 0 => .int
  | 1 => .array .int
  | 2 => .array .int
  | 3 => .array .int
  | 4 => .array .int
  | _ => .array .int
abbrev wsX30 : List Cond := u_ws RX3 TX3 6
theorem nmX3 : ∀ a, a < 6 → ∀ b, b < 6 → a ≠ b → (TX3 a).2.1 ≠ (TX3 b).2.1 := by decide +kernel
theorem tyX3_ok : ∀ k, k < 6 → parseFieldDescriptor (TX3 k).2.2.1 = some (tyX3 k) := by decide +kernel
abbrev cX3_init : ByteArray := prog_5_method_1_code
def yX3_init : MethodName := ⟨RX3, "<init>", "()V"⟩
abbrev cX3_open : ByteArray := prog_5_method_2_code
def yX3_open : MethodName := ⟨RX3, "open", "(II)I"⟩
abbrev cX3_lay : ByteArray := prog_5_method_3_code
def yX3_lay : MethodName := ⟨RX3, "lay", "(IIIII)V"⟩
abbrev cX3_cover : ByteArray := prog_5_method_4_code
def yX3_cover : MethodName := ⟨RX3, "cover", "(III)V"⟩
abbrev cX3_raise : ByteArray := prog_5_method_5_code
def yX3_raise : MethodName := ⟨RX3, "raise", "(IIII)V"⟩
abbrev cX3_bend : ByteArray := prog_5_method_6_code
def yX3_bend : MethodName := ⟨RX3, "bend", "(II)I"⟩
abbrev cX3_wetSpots : ByteArray := prog_5_method_7_code
def yX3_wetSpots : MethodName := ⟨RX3, "wetSpots", "()I"⟩
def RX4 : String := "DowserPegs"
def TX4 : u_T := fun k => match k with
  | 0 => ("DowserPegs", "veins", "LDowserPegs$Veins;", true)
  | 1 => ("DowserPegs", "dowsers", "LDowserPegs$Dowsers;", true)
  | 2 => ("DowserPegs", "pegs", "LDowserPegs$Pegs;", true)
  | 3 => ("DowserPegs", "pits", "LDowserPegs$Pits;", true)
  | 4 => ("DowserPegs", "mark", "I", false)
  | _ => ("DowserPegs", "fieldCoins", "I", false)
def tyX4 : Nat → FieldType := fun k => match k with
  | 0 => .object "DowserPegs$Veins"
  | 1 => .object "DowserPegs$Dowsers"
  | 2 => .object "DowserPegs$Pegs"
  | 3 => .object "DowserPegs$Pits"
  | 4 => .int
  | _ => .int
abbrev wsX40 : List Cond := u_ws RX4 TX4 6
theorem nmX4 : ∀ a, a < 6 → ∀ b, b < 6 → a ≠ b → (TX4 a).2.1 ≠ (TX4 b).2.1 := by decide +kernel
theorem tyX4_ok : ∀ k, k < 6 → parseFieldDescriptor (TX4 k).2.2.1 = some (tyX4 k) := by decide +kernel
abbrev cX4_init : ByteArray := prog_1_method_1_code
def yX4_init : MethodName := ⟨RX4, "<init>", "()V"⟩
abbrev cX4_vein : ByteArray := prog_1_method_2_code
def yX4_vein : MethodName := ⟨RX4, "vein", "(IIIIII)I"⟩
abbrev cX4_dowser : ByteArray := prog_1_method_3_code
def yX4_dowser : MethodName := ⟨RX4, "dowser", "(II)I"⟩
abbrev cX4_setMark : ByteArray := prog_1_method_4_code
def yX4_setMark : MethodName := ⟨RX4, "setMark", "(I)I"⟩
abbrev cX4_walk : ByteArray := prog_1_method_5_code
def yX4_walk : MethodName := ⟨RX4, "walk", "(IIIII)I"⟩
abbrev cX4_pull : ByteArray := prog_1_method_6_code
def yX4_pull : MethodName := ⟨RX4, "pull", "(II)I"⟩
abbrev cX4_pit : ByteArray := prog_1_method_7_code
def yX4_pit : MethodName := ⟨RX4, "pit", "(II)I"⟩
abbrev cX4_bet : ByteArray := prog_1_method_8_code
def yX4_bet : MethodName := ⟨RX4, "bet", "(IIIZ)I"⟩
abbrev cX4_dig : ByteArray := prog_1_method_9_code
def yX4_dig : MethodName := ⟨RX4, "dig", "(II)I"⟩
abbrev cX4_spot : ByteArray := prog_1_method_10_code
def yX4_spot : MethodName := ⟨RX4, "spot", "(III)I"⟩
abbrev cX4_rod : ByteArray := prog_1_method_11_code
def yX4_rod : MethodName := ⟨RX4, "rod", "(III)I"⟩
abbrev cX4_told : ByteArray := prog_1_method_12_code
def yX4_told : MethodName := ⟨RX4, "told", "(II)I"⟩
abbrev cX4_about : ByteArray := prog_1_method_13_code
def yX4_about : MethodName := ⟨RX4, "about", "(II)I"⟩
abbrev cX4_count : ByteArray := prog_1_method_14_code
def yX4_count : MethodName := ⟨RX4, "count", "(I)I"⟩
abbrev cX4_line : ByteArray := prog_1_method_15_code
def yX4_line : MethodName := ⟨RX4, "line", "(I)I"⟩
abbrev cX4_would : ByteArray := prog_1_method_16_code
def yX4_would : MethodName := ⟨RX4, "would", "(IIZ)I"⟩
abbrev cX4_best : ByteArray := prog_1_method_17_code
def yX4_best : MethodName := ⟨RX4, "best", "(II)I"⟩
abbrev cX4_advise : ByteArray := prog_1_method_18_code
def yX4_advise : MethodName := ⟨RX4, "advise", "()I"⟩
abbrev cX4_mean : ByteArray := prog_1_method_19_code
def yX4_mean : MethodName := ⟨RX4, "mean", "()D"⟩
abbrev cX4_digest : ByteArray := prog_1_method_20_code
def yX4_digest : MethodName := ⟨RX4, "digest", "()J"⟩
abbrev cX4_within : ByteArray := prog_1_method_21_code
def yX4_within : MethodName := ⟨RX4, "within", "(III)Z"⟩
abbrev cX4_inField : ByteArray := prog_1_method_22_code
def yX4_inField : MethodName := ⟨RX4, "inField", "(II)Z"⟩
abbrev cX4_straight : ByteArray := prog_1_method_23_code
def yX4_straight : MethodName := ⟨RX4, "straight", "(IIII)Z"⟩
abbrev cX4_spotAt : ByteArray := prog_1_method_24_code
def yX4_spotAt : MethodName := ⟨RX4, "spotAt", "(II)I"⟩
abbrev cX4_columnOf : ByteArray := prog_1_method_25_code
def yX4_columnOf : MethodName := ⟨RX4, "columnOf", "(I)I"⟩
abbrev cX4_rowOf : ByteArray := prog_1_method_26_code
def yX4_rowOf : MethodName := ⟨RX4, "rowOf", "(I)I"⟩
abbrev cX4_distance : ByteArray := prog_1_method_27_code
def yX4_distance : MethodName := ⟨RX4, "distance", "(II)I"⟩
abbrev cX4_quotient : ByteArray := prog_1_method_28_code
def yX4_quotient : MethodName := ⟨RX4, "quotient", "(II)I"⟩
abbrev cX4_isDowser : ByteArray := prog_1_method_29_code
def yX4_isDowser : MethodName := ⟨RX4, "isDowser", "(I)Z"⟩
abbrev cX4_isPit : ByteArray := prog_1_method_30_code
def yX4_isPit : MethodName := ⟨RX4, "isPit", "(I)Z"⟩
abbrev cX4_bend : ByteArray := prog_1_method_31_code
def yX4_bend : MethodName := ⟨RX4, "bend", "(II)I"⟩
abbrev cX4_spotOfGreatestBend : ByteArray := prog_1_method_32_code
def yX4_spotOfGreatestBend : MethodName := ⟨RX4, "spotOfGreatestBend", "(I)I"⟩
abbrev cX4_markPeg : ByteArray := prog_1_method_33_code
def yX4_markPeg : MethodName := ⟨RX4, "markPeg", "(II)I"⟩
abbrev cX4_isTruePeg : ByteArray := prog_1_method_34_code
def yX4_isTruePeg : MethodName := ⟨RX4, "isTruePeg", "(I)Z"⟩
abbrev cX4_trueOf : ByteArray := prog_1_method_35_code
def yX4_trueOf : MethodName := ⟨RX4, "trueOf", "(I)I"⟩
abbrev cX4_truePegs : ByteArray := prog_1_method_36_code
def yX4_truePegs : MethodName := ⟨RX4, "truePegs", "()I"⟩
abbrev cX4_truer : ByteArray := prog_1_method_37_code
def yX4_truer : MethodName := ⟨RX4, "truer", "(IIII)Z"⟩
abbrev cX4_payBets : ByteArray := prog_1_method_38_code
def yX4_payBets : MethodName := ⟨RX4, "payBets", "(I)V"⟩
abbrev cX4_tellSpot : ByteArray := prog_1_method_39_code
def yX4_tellSpot : MethodName := ⟨RX4, "tellSpot", "(II)I"⟩
abbrev cX4_tellDowser : ByteArray := prog_1_method_40_code
def yX4_tellDowser : MethodName := ⟨RX4, "tellDowser", "(II)I"⟩
abbrev cX4_tellCount : ByteArray := prog_1_method_41_code
def yX4_tellCount : MethodName := ⟨RX4, "tellCount", "(I)I"⟩
def RX5 : String := "DowserPegsModel"
def TX5 : u_T := fun k => match k with
  | 0 => ("DowserPegsModel", "thrown", "I", false)
  | 1 => ("DowserPegsModel", "mark", "I", false)
  | 2 => ("DowserPegsModel", "field", "I", false)
  | 3 => ("DowserPegsModel", "veins", "I", false)
  | 4 => ("DowserPegsModel", "veinDepth", "[I", true)
  | 5 => ("DowserPegsModel", "flow", "[I", true)
  | 6 => ("DowserPegsModel", "lies", "[I", true)
  | 7 => ("DowserPegsModel", "dowsers", "I", false)
  | 8 => ("DowserPegsModel", "feeling", "[I", true)
  | 9 => ("DowserPegsModel", "lean", "[I", true)
  | 10 => ("DowserPegsModel", "coins", "[I", true)
  | 11 => ("DowserPegsModel", "right", "[I", true)
  | 12 => ("DowserPegsModel", "wrong", "[I", true)
  | 13 => ("DowserPegsModel", "pegs", "I", false)
  | 14 => ("DowserPegsModel", "peg", "[I", true)
  | 15 => ("DowserPegsModel", "pits", "I", false)
  | 16 => ("DowserPegsModel", "pitSpot", "[I", true)
  | 17 => ("DowserPegsModel", "pitDepth", "[I", true)
  | 18 => ("DowserPegsModel", "dug", "[I", true)
  | _ => ("DowserPegsModel", "bets", "[I", true)
def tyX5 : Nat → FieldType := fun k => match k with
  | 0 => .int
  | 1 => .int
  | 2 => .int
  | 3 => .int
  | 4 => .array .int
  | 5 => .array .int
  | 6 => .array .int
  | 7 => .int
  | 8 => .array .int
  | 9 => .array .int
  | 10 => .array .int
  | 11 => .array .int
  | 12 => .array .int
  | 13 => .int
  | 14 => .array .int
  | 15 => .int
  | 16 => .array .int
  | 17 => .array .int
  | 18 => .array .int
  | _ => .array .int
abbrev wsX50 : List Cond := u_ws RX5 TX5 20
theorem nmX5 : ∀ a, a < 20 → ∀ b, b < 20 → a ≠ b → (TX5 a).2.1 ≠ (TX5 b).2.1 := by decide +kernel
theorem tyX5_ok : ∀ k, k < 20 → parseFieldDescriptor (TX5 k).2.2.1 = some (tyX5 k) := by decide +kernel
abbrev cX5_init : ByteArray := prog_7_method_1_code
def yX5_init : MethodName := ⟨RX5, "<init>", "()V"⟩
abbrev cX5_thrown : ByteArray := prog_7_method_2_code
def yX5_thrown : MethodName := ⟨RX5, "thrown", "()I"⟩
abbrev cX5_no : ByteArray := prog_7_method_3_code
def yX5_no : MethodName := ⟨RX5, "no", "(I)I"⟩
abbrev cX5_isIn : ByteArray := prog_7_method_4_code
def yX5_isIn : MethodName := ⟨RX5, "isIn", "(III)Z"⟩
abbrev cX5_isSpot : ByteArray := prog_7_method_5_code
def yX5_isSpot : MethodName := ⟨RX5, "isSpot", "(II)Z"⟩
abbrev cX5_isDowser : ByteArray := prog_7_method_6_code
def yX5_isDowser : MethodName := ⟨RX5, "isDowser", "(I)Z"⟩
abbrev cX5_isPit : ByteArray := prog_7_method_7_code
def yX5_isPit : MethodName := ⟨RX5, "isPit", "(I)Z"⟩
abbrev cX5_far : ByteArray := prog_7_method_8_code
def yX5_far : MethodName := ⟨RX5, "far", "(II)I"⟩
abbrev cX5_water : ByteArray := prog_7_method_9_code
def yX5_water : MethodName := ⟨RX5, "water", "(I)I"⟩
abbrev cX5_depth : ByteArray := prog_7_method_10_code
def yX5_depth : MethodName := ⟨RX5, "depth", "(I)I"⟩
abbrev cX5_bends : ByteArray := prog_7_method_11_code
def yX5_bends : MethodName := ⟨RX5, "bends", "(II)I"⟩
abbrev cX5_pitAt : ByteArray := prog_7_method_12_code
def yX5_pitAt : MethodName := ⟨RX5, "pitAt", "(I)I"⟩
abbrev cX5_pegsNear : ByteArray := prog_7_method_13_code
def yX5_pegsNear : MethodName := ⟨RX5, "pegsNear", "(I)I"⟩
abbrev cX5_nearest : ByteArray := prog_7_method_14_code
def yX5_nearest : MethodName := ⟨RX5, "nearest", "(I)I"⟩
abbrev cX5_layOut : ByteArray := prog_7_method_15_code
def yX5_layOut : MethodName := ⟨RX5, "layOut", "(III)V"⟩
abbrev cX5_isBeside : ByteArray := prog_7_method_16_code
def yX5_isBeside : MethodName := ⟨RX5, "isBeside", "(II)Z"⟩
abbrev cX5_vein : ByteArray := prog_7_method_17_code
def yX5_vein : MethodName := ⟨RX5, "vein", "(IIIIII)I"⟩
abbrev cX5_dowser : ByteArray := prog_7_method_18_code
def yX5_dowser : MethodName := ⟨RX5, "dowser", "(II)I"⟩
abbrev cX5_setMark : ByteArray := prog_7_method_19_code
def yX5_setMark : MethodName := ⟨RX5, "setMark", "(I)I"⟩
abbrev cX5_marks : ByteArray := prog_7_method_20_code
def yX5_marks : MethodName := ⟨RX5, "marks", "(II)I"⟩
abbrev cX5_walk : ByteArray := prog_7_method_21_code
def yX5_walk : MethodName := ⟨RX5, "walk", "(IIIII)I"⟩
abbrev cX5_pull : ByteArray := prog_7_method_22_code
def yX5_pull : MethodName := ⟨RX5, "pull", "(II)I"⟩
abbrev cX5_pit : ByteArray := prog_7_method_23_code
def yX5_pit : MethodName := ⟨RX5, "pit", "(II)I"⟩
abbrev cX5_hasFound : ByteArray := prog_7_method_24_code
def yX5_hasFound : MethodName := ⟨RX5, "hasFound", "(I)Z"⟩
abbrev cX5_isOver : ByteArray := prog_7_method_25_code
def yX5_isOver : MethodName := ⟨RX5, "isOver", "(I)Z"⟩
abbrev cX5_bet : ByteArray := prog_7_method_26_code
def yX5_bet : MethodName := ⟨RX5, "bet", "(IIIZ)I"⟩
abbrev cX5_betOn : ByteArray := prog_7_method_27_code
def yX5_betOn : MethodName := ⟨RX5, "betOn", "(IZ)I"⟩
abbrev cX5_share : ByteArray := prog_7_method_28_code
def yX5_share : MethodName := ⟨RX5, "share", "(IIZ)I"⟩
abbrev cX5_pay : ByteArray := prog_7_method_29_code
def yX5_pay : MethodName := ⟨RX5, "pay", "(I)V"⟩
abbrev cX5_dig : ByteArray := prog_7_method_30_code
def yX5_dig : MethodName := ⟨RX5, "dig", "(II)I"⟩
abbrev cX5_spotTold : ByteArray := prog_7_method_31_code
def yX5_spotTold : MethodName := ⟨RX5, "spotTold", "(II)I"⟩
abbrev cX5_spot : ByteArray := prog_7_method_32_code
def yX5_spot : MethodName := ⟨RX5, "spot", "(III)I"⟩
abbrev cX5_rod : ByteArray := prog_7_method_33_code
def yX5_rod : MethodName := ⟨RX5, "rod", "(III)I"⟩
abbrev cX5_pegsOf : ByteArray := prog_7_method_34_code
def yX5_pegsOf : MethodName := ⟨RX5, "pegsOf", "(IZ)I"⟩
abbrev cX5_inBets : ByteArray := prog_7_method_35_code
def yX5_inBets : MethodName := ⟨RX5, "inBets", "(I)I"⟩
abbrev cX5_dowserTold : ByteArray := prog_7_method_36_code
def yX5_dowserTold : MethodName := ⟨RX5, "dowserTold", "(II)I"⟩
abbrev cX5_told : ByteArray := prog_7_method_37_code
def yX5_told : MethodName := ⟨RX5, "told", "(II)I"⟩
abbrev cX5_pitTold : ByteArray := prog_7_method_38_code
def yX5_pitTold : MethodName := ⟨RX5, "pitTold", "(II)I"⟩
abbrev cX5_about : ByteArray := prog_7_method_39_code
def yX5_about : MethodName := ⟨RX5, "about", "(II)I"⟩
abbrev cX5_counted : ByteArray := prog_7_method_40_code
def yX5_counted : MethodName := ⟨RX5, "counted", "(I)I"⟩
abbrev cX5_count : ByteArray := prog_7_method_41_code
def yX5_count : MethodName := ⟨RX5, "count", "(I)I"⟩
abbrev cX5_on : ByteArray := prog_7_method_42_code
def yX5_on : MethodName := ⟨RX5, "on", "(II)I"⟩
abbrev cX5_lineTold : ByteArray := prog_7_method_43_code
def yX5_lineTold : MethodName := ⟨RX5, "lineTold", "(I)I"⟩
abbrev cX5_line : ByteArray := prog_7_method_44_code
def yX5_line : MethodName := ⟨RX5, "line", "(I)I"⟩
abbrev cX5_would : ByteArray := prog_7_method_45_code
def yX5_would : MethodName := ⟨RX5, "would", "(IIZ)I"⟩
abbrev cX5_bestOf : ByteArray := prog_7_method_46_code
def yX5_bestOf : MethodName := ⟨RX5, "bestOf", "(II)I"⟩
abbrev cX5_best : ByteArray := prog_7_method_47_code
def yX5_best : MethodName := ⟨RX5, "best", "(II)I"⟩
abbrev cX5_advise : ByteArray := prog_7_method_48_code
def yX5_advise : MethodName := ⟨RX5, "advise", "()I"⟩
abbrev cX5_mean : ByteArray := prog_7_method_49_code
def yX5_mean : MethodName := ⟨RX5, "mean", "()D"⟩
abbrev cX5_digest : ByteArray := prog_7_method_50_code
def yX5_digest : MethodName := ⟨RX5, "digest", "()J"⟩
def RJx145de : String := "java/io/Serializable"
def TJx145de : u_T := fun k => match k with
  | _ => ("", "", "", false)
def tyJx145de : Nat → FieldType := fun k => match k with
  | _ => .int
theorem nmJx145de : ∀ a, a < 0 → ∀ b, b < 0 → a ≠ b → (TJx145de a).2.1 ≠ (TJx145de b).2.1 := by decide +kernel
theorem tyJx145de_ok : ∀ k, k < 0 → parseFieldDescriptor (TJx145de k).2.2.1 = some (tyJx145de k) := by decide +kernel
def RJ6 : String := "java/lang/Integer"
def TJ6 : u_T := fun k => match k with
  | _ => ("", "", "", false)
def tyJ6 : Nat → FieldType := fun k => match k with
  | _ => .int
theorem nmJ6 : ∀ a, a < 0 → ∀ b, b < 0 → a ≠ b → (TJ6 a).2.1 ≠ (TJ6 b).2.1 := by decide +kernel
theorem tyJ6_ok : ∀ k, k < 0 → parseFieldDescriptor (TJ6 k).2.2.1 = some (tyJ6 k) := by decide +kernel
abbrev cJ6_signum_0f7a4 : ByteArray := prog_12_method_56_code
def yJ6_signum_0f7a4 : MethodName := ⟨RJ6, "signum", "(I)I"⟩
def RJ9 : String := "java/lang/Math"
def TJ9 : u_T := fun k => match k with
  | _ => ("", "", "", false)
def tyJ9 : Nat → FieldType := fun k => match k with
  | _ => .int
theorem nmJ9 : ∀ a, a < 0 → ∀ b, b < 0 → a ≠ b → (TJ9 a).2.1 ≠ (TJ9 b).2.1 := by decide +kernel
theorem tyJ9_ok : ∀ k, k < 0 → parseFieldDescriptor (TJ9 k).2.2.1 = some (tyJ9 k) := by decide +kernel
abbrev cJ9_abs_0f7a4 : ByteArray := prog_13_method_59_code
def yJ9_abs_0f7a4 : MethodName := ⟨RJ9, "abs", "(I)I"⟩
abbrev cJ9_max_7cf53 : ByteArray := prog_13_method_65_code
def yJ9_max_7cf53 : MethodName := ⟨RJ9, "max", "(II)I"⟩
abbrev cJ9_min_7cf53 : ByteArray := prog_13_method_69_code
def yJ9_min_7cf53 : MethodName := ⟨RJ9, "min", "(II)I"⟩
def RJ0 : String := "java/lang/String"
def TJ0 : u_T := fun k => match k with
  | _ => ("", "", "", false)
def tyJ0 : Nat → FieldType := fun k => match k with
  | _ => .int
theorem nmJ0 : ∀ a, a < 0 → ∀ b, b < 0 → a ≠ b → (TJ0 a).2.1 ≠ (TJ0 b).2.1 := by decide +kernel
theorem tyJ0_ok : ∀ k, k < 0 → parseFieldDescriptor (TJ0 k).2.2.1 = some (tyJ0 k) := by decide +kernel
def RJ7 : String := "java/util/Arrays"
def TJ7 : u_T := fun k => match k with
  | _ => ("", "", "", false)
def tyJ7 : Nat → FieldType := fun k => match k with
  | _ => .int
theorem nmJ7 : ∀ a, a < 0 → ∀ b, b < 0 → a ≠ b → (TJ7 a).2.1 ≠ (TJ7 b).2.1 := by decide +kernel
theorem tyJ7_ok : ∀ k, k < 0 → parseFieldDescriptor (TJ7 k).2.2.1 = some (tyJ7 k) := by decide +kernel
abbrev cJ7_fill_53178 : ByteArray := prog_17_method_103_code
def yJ7_fill_53178 : MethodName := ⟨RJ7, "fill", "([II)V"⟩
def RL : String := "DowserPegsLaw"
abbrev cL_vein : ByteArray := method_3_code
def yL_vein : MethodName := ⟨RL, "vein", "(LDowserPegs;IIIIII[J)I"⟩
abbrev cL_dowser : ByteArray := method_4_code
def yL_dowser : MethodName := ⟨RL, "dowser", "(LDowserPegs;II[J)I"⟩
abbrev cL_setMark : ByteArray := method_5_code
def yL_setMark : MethodName := ⟨RL, "setMark", "(LDowserPegs;I[J)I"⟩
abbrev cL_walk : ByteArray := method_6_code
def yL_walk : MethodName := ⟨RL, "walk", "(LDowserPegs;IIIII[J)I"⟩
abbrev cL_pull : ByteArray := method_7_code
def yL_pull : MethodName := ⟨RL, "pull", "(LDowserPegs;II[J)I"⟩
abbrev cL_pit : ByteArray := method_8_code
def yL_pit : MethodName := ⟨RL, "pit", "(LDowserPegs;II[J)I"⟩
abbrev cL_bet : ByteArray := method_9_code
def yL_bet : MethodName := ⟨RL, "bet", "(LDowserPegs;IIIZ[J)I"⟩
abbrev cL_dig : ByteArray := method_10_code
def yL_dig : MethodName := ⟨RL, "dig", "(LDowserPegs;II[J)I"⟩
abbrev cL_spot : ByteArray := method_11_code
def yL_spot : MethodName := ⟨RL, "spot", "(LDowserPegs;III[J)I"⟩
abbrev cL_rod : ByteArray := method_12_code
def yL_rod : MethodName := ⟨RL, "rod", "(LDowserPegs;III[J)I"⟩
abbrev cL_told : ByteArray := method_13_code
def yL_told : MethodName := ⟨RL, "told", "(LDowserPegs;II[J)I"⟩
abbrev cL_about : ByteArray := method_14_code
def yL_about : MethodName := ⟨RL, "about", "(LDowserPegs;II[J)I"⟩
abbrev cL_count : ByteArray := method_15_code
def yL_count : MethodName := ⟨RL, "count", "(LDowserPegs;I[J)I"⟩
abbrev cL_line : ByteArray := method_16_code
def yL_line : MethodName := ⟨RL, "line", "(LDowserPegs;I[J)I"⟩
abbrev cL_would : ByteArray := method_17_code
def yL_would : MethodName := ⟨RL, "would", "(LDowserPegs;IIZ[J)I"⟩
abbrev cL_best : ByteArray := method_18_code
def yL_best : MethodName := ⟨RL, "best", "(LDowserPegs;II[J)I"⟩
abbrev cL_law : ByteArray := code
def yL_law : MethodName := ⟨RL, "law", "([I)Z"⟩
abbrev vwCl : List vw_C := [(RX0, TX0, 4), (RX1, TX1, 3), (RX2, TX2, 7), (RX3, TX3, 6), (RX4, TX4, 6), (RX5, TX5, 20)]
end
section
theorem dX0_init_0 : decode cX0_init 0 = .ok (.aload_n 0, 1) := by decide +kernel
theorem dX0_init_1 : decode cX0_init 1 = .ok (.invokespecial 3, 3) := by decide +kernel
theorem dX0_init_4 : decode cX0_init 4 = .ok (.aload_n 0, 1) := by decide +kernel
theorem dX0_init_5 : decode cX0_init 5 = .ok (.iconst 0, 1) := by decide +kernel
theorem dX0_init_6 : decode cX0_init 6 = .ok (.putfield 9, 3) := by decide +kernel
theorem dX0_init_9 : decode cX0_init 9 = .ok (.aload_n 0, 1) := by decide +kernel
theorem dX0_init_10 : decode cX0_init 10 = .ok (.iconst 5, 1) := by decide +kernel
theorem dX0_init_11 : decode cX0_init 11 = .ok (.newarray .int, 2) := by decide +kernel
theorem dX0_init_13 : decode cX0_init 13 = .ok (.putfield 15, 3) := by decide +kernel
theorem dX0_init_16 : decode cX0_init 16 = .ok (.aload_n 0, 1) := by decide +kernel
theorem dX0_init_17 : decode cX0_init 17 = .ok (.iconst 5, 1) := by decide +kernel
theorem dX0_init_18 : decode cX0_init 18 = .ok (.newarray .int, 2) := by decide +kernel
theorem dX0_init_20 : decode cX0_init 20 = .ok (.putfield 19, 3) := by decide +kernel
theorem dX0_init_23 : decode cX0_init 23 = .ok (.aload_n 0, 1) := by decide +kernel
theorem dX0_init_24 : decode cX0_init 24 = .ok (.iconst 5, 1) := by decide +kernel
theorem dX0_init_25 : decode cX0_init 25 = .ok (.newarray .int, 2) := by decide +kernel
theorem dX0_init_27 : decode cX0_init 27 = .ok (.putfield 22, 3) := by decide +kernel
theorem dX0_init_30 : decode cX0_init 30 = .ok (.return_, 1) := by decide +kernel
theorem dX0_add_0 : decode cX0_add 0 = .ok (.aload_n 0, 1) := by decide +kernel
theorem dX0_add_1 : decode cX0_add 1 = .ok (.getfield 9, 3) := by decide +kernel
theorem dX0_add_4 : decode cX0_add 4 = .ok (.istore_n 3, 1) := by decide +kernel
theorem dX0_add_5 : decode cX0_add 5 = .ok (.aload_n 0, 1) := by decide +kernel
theorem dX0_add_6 : decode cX0_add 6 = .ok (.getfield 15, 3) := by decide +kernel
theorem dX0_add_9 : decode cX0_add 9 = .ok (.iload_n 3, 1) := by decide +kernel
theorem dX0_add_10 : decode cX0_add 10 = .ok (.iload_n 1, 1) := by decide +kernel
theorem dX0_add_11 : decode cX0_add 11 = .ok (.iastore, 1) := by decide +kernel
theorem dX0_add_12 : decode cX0_add 12 = .ok (.aload_n 0, 1) := by decide +kernel
theorem dX0_add_13 : decode cX0_add 13 = .ok (.getfield 19, 3) := by decide +kernel
theorem dX0_add_16 : decode cX0_add 16 = .ok (.iload_n 3, 1) := by decide +kernel
theorem dX0_add_17 : decode cX0_add 17 = .ok (.iload_n 2, 1) := by decide +kernel
theorem dX0_add_18 : decode cX0_add 18 = .ok (.iastore, 1) := by decide +kernel
theorem dX0_add_19 : decode cX0_add 19 = .ok (.aload_n 0, 1) := by decide +kernel
theorem dX0_add_20 : decode cX0_add 20 = .ok (.getfield 22, 3) := by decide +kernel
theorem dX0_add_23 : decode cX0_add 23 = .ok (.iload_n 3, 1) := by decide +kernel
theorem dX0_add_24 : decode cX0_add 24 = .ok (.bipush 50, 2) := by decide +kernel
theorem dX0_add_26 : decode cX0_add 26 = .ok (.iastore, 1) := by decide +kernel
theorem dX0_add_27 : decode cX0_add 27 = .ok (.aload_n 0, 1) := by decide +kernel
theorem dX0_add_28 : decode cX0_add 28 = .ok (.dup, 1) := by decide +kernel
theorem dX0_add_29 : decode cX0_add 29 = .ok (.getfield 9, 3) := by decide +kernel
theorem dX0_add_32 : decode cX0_add 32 = .ok (.iconst 1, 1) := by decide +kernel
theorem dX0_add_33 : decode cX0_add 33 = .ok (.iadd, 1) := by decide +kernel
theorem dX0_add_34 : decode cX0_add 34 = .ok (.putfield 9, 3) := by decide +kernel
theorem dX0_add_37 : decode cX0_add 37 = .ok (.iload_n 3, 1) := by decide +kernel
theorem dX0_add_38 : decode cX0_add 38 = .ok (.ireturn, 1) := by decide +kernel
theorem dX0_allCoins_0 : decode cX0_allCoins 0 = .ok (.iconst 0, 1) := by decide +kernel
theorem dX0_allCoins_1 : decode cX0_allCoins 1 = .ok (.istore_n 1, 1) := by decide +kernel
theorem dX0_allCoins_2 : decode cX0_allCoins 2 = .ok (.iconst 0, 1) := by decide +kernel
theorem dX0_allCoins_3 : decode cX0_allCoins 3 = .ok (.istore_n 2, 1) := by decide +kernel
theorem dX0_allCoins_4 : decode cX0_allCoins 4 = .ok (.iload_n 2, 1) := by decide +kernel
theorem dX0_allCoins_5 : decode cX0_allCoins 5 = .ok (.aload_n 0, 1) := by decide +kernel
theorem dX0_allCoins_6 : decode cX0_allCoins 6 = .ok (.getfield 9, 3) := by decide +kernel
theorem dX0_allCoins_9 : decode cX0_allCoins 9 = .ok (.if_icmp .ge 18, 3) := by decide +kernel
theorem dX0_allCoins_12 : decode cX0_allCoins 12 = .ok (.iload_n 1, 1) := by decide +kernel
theorem dX0_allCoins_13 : decode cX0_allCoins 13 = .ok (.aload_n 0, 1) := by decide +kernel
theorem dX0_allCoins_14 : decode cX0_allCoins 14 = .ok (.getfield 22, 3) := by decide +kernel
theorem dX0_allCoins_17 : decode cX0_allCoins 17 = .ok (.iload_n 2, 1) := by decide +kernel
theorem dX0_allCoins_18 : decode cX0_allCoins 18 = .ok (.iaload, 1) := by decide +kernel
theorem dX0_allCoins_19 : decode cX0_allCoins 19 = .ok (.iadd, 1) := by decide +kernel
theorem dX0_allCoins_20 : decode cX0_allCoins 20 = .ok (.istore_n 1, 1) := by decide +kernel
theorem dX0_allCoins_21 : decode cX0_allCoins 21 = .ok (.iinc 2 1, 3) := by decide +kernel
theorem dX0_allCoins_24 : decode cX0_allCoins 24 = .ok (.goto (-20), 3) := by decide +kernel
theorem dX0_allCoins_27 : decode cX0_allCoins 27 = .ok (.iload_n 1, 1) := by decide +kernel
theorem dX0_allCoins_28 : decode cX0_allCoins 28 = .ok (.ireturn, 1) := by decide +kernel
theorem dX1_init_0 : decode cX1_init 0 = .ok (.aload_n 0, 1) := by decide +kernel
theorem dX1_init_1 : decode cX1_init 1 = .ok (.invokespecial 5, 3) := by decide +kernel
theorem dX1_init_4 : decode cX1_init 4 = .ok (.aload_n 0, 1) := by decide +kernel
theorem dX1_init_5 : decode cX1_init 5 = .ok (.iconst 0, 1) := by decide +kernel
theorem dX1_init_6 : decode cX1_init 6 = .ok (.putfield 11, 3) := by decide +kernel
theorem dX1_init_9 : decode cX1_init 9 = .ok (.aload_n 0, 1) := by decide +kernel
theorem dX1_init_10 : decode cX1_init 10 = .ok (.sipush 400, 3) := by decide +kernel
theorem dX1_init_13 : decode cX1_init 13 = .ok (.newarray .int, 2) := by decide +kernel
theorem dX1_init_15 : decode cX1_init 15 = .ok (.putfield 15, 3) := by decide +kernel
theorem dX1_init_18 : decode cX1_init 18 = .ok (.aload_n 0, 1) := by decide +kernel
theorem dX1_init_19 : decode cX1_init 19 = .ok (.getfield 15, 3) := by decide +kernel
theorem dX1_init_22 : decode cX1_init 22 = .ok (.iconst (-1), 1) := by decide +kernel
theorem dX1_init_23 : decode cX1_init 23 = .ok (.invokestatic 19, 3) := by decide +kernel
theorem dX1_init_26 : decode cX1_init 26 = .ok (.aload_n 0, 1) := by decide +kernel
theorem dX1_init_27 : decode cX1_init 27 = .ok (.bipush 118, 2) := by decide +kernel
theorem dX1_init_29 : decode cX1_init 29 = .ok (.newarray .int, 2) := by decide +kernel
theorem dX1_init_31 : decode cX1_init 31 = .ok (.putfield 25, 3) := by decide +kernel
theorem dX1_init_34 : decode cX1_init 34 = .ok (.return_, 1) := by decide +kernel
theorem dX1_standsAt_0 : decode cX1_standsAt 0 = .ok (.aload_n 0, 1) := by decide +kernel
theorem dX1_standsAt_1 : decode cX1_standsAt 1 = .ok (.getfield 15, 3) := by decide +kernel
theorem dX1_standsAt_4 : decode cX1_standsAt 4 = .ok (.iload_n 1, 1) := by decide +kernel
theorem dX1_standsAt_5 : decode cX1_standsAt 5 = .ok (.iaload, 1) := by decide +kernel
theorem dX1_standsAt_6 : decode cX1_standsAt 6 = .ok (.iconst (-1), 1) := by decide +kernel
theorem dX1_standsAt_7 : decode cX1_standsAt 7 = .ok (.if_icmp .eq 7, 3) := by decide +kernel
theorem dX1_standsAt_10 : decode cX1_standsAt 10 = .ok (.iconst 1, 1) := by decide +kernel
theorem dX1_standsAt_11 : decode cX1_standsAt 11 = .ok (.goto 4, 3) := by decide +kernel
theorem dX1_standsAt_14 : decode cX1_standsAt 14 = .ok (.iconst 0, 1) := by decide +kernel
theorem dX1_standsAt_15 : decode cX1_standsAt 15 = .ok (.ireturn, 1) := by decide +kernel
theorem dX1_add_0 : decode cX1_add 0 = .ok (.aload_n 0, 1) := by decide +kernel
theorem dX1_add_1 : decode cX1_add 1 = .ok (.getfield 15, 3) := by decide +kernel
theorem dX1_add_4 : decode cX1_add 4 = .ok (.iload_n 1, 1) := by decide +kernel
theorem dX1_add_5 : decode cX1_add 5 = .ok (.iload_n 2, 1) := by decide +kernel
theorem dX1_add_6 : decode cX1_add 6 = .ok (.iastore, 1) := by decide +kernel
theorem dX1_add_7 : decode cX1_add 7 = .ok (.aload_n 0, 1) := by decide +kernel
theorem dX1_add_8 : decode cX1_add 8 = .ok (.dup, 1) := by decide +kernel
theorem dX1_add_9 : decode cX1_add 9 = .ok (.getfield 11, 3) := by decide +kernel
theorem dX1_add_12 : decode cX1_add 12 = .ok (.iconst 1, 1) := by decide +kernel
theorem dX1_add_13 : decode cX1_add 13 = .ok (.iadd, 1) := by decide +kernel
theorem dX1_add_14 : decode cX1_add 14 = .ok (.putfield 11, 3) := by decide +kernel
theorem dX1_add_17 : decode cX1_add 17 = .ok (.return_, 1) := by decide +kernel
theorem dX1_remove_0 : decode cX1_remove 0 = .ok (.aload_n 0, 1) := by decide +kernel
theorem dX1_remove_1 : decode cX1_remove 1 = .ok (.getfield 15, 3) := by decide +kernel
theorem dX1_remove_4 : decode cX1_remove 4 = .ok (.iload_n 1, 1) := by decide +kernel
theorem dX1_remove_5 : decode cX1_remove 5 = .ok (.iaload, 1) := by decide +kernel
theorem dX1_remove_6 : decode cX1_remove 6 = .ok (.istore_n 2, 1) := by decide +kernel
theorem dX1_remove_7 : decode cX1_remove 7 = .ok (.aload_n 0, 1) := by decide +kernel
theorem dX1_remove_8 : decode cX1_remove 8 = .ok (.getfield 15, 3) := by decide +kernel
theorem dX1_remove_11 : decode cX1_remove 11 = .ok (.iload_n 1, 1) := by decide +kernel
theorem dX1_remove_12 : decode cX1_remove 12 = .ok (.iconst (-1), 1) := by decide +kernel
theorem dX1_remove_13 : decode cX1_remove 13 = .ok (.iastore, 1) := by decide +kernel
theorem dX1_remove_14 : decode cX1_remove 14 = .ok (.aload_n 0, 1) := by decide +kernel
theorem dX1_remove_15 : decode cX1_remove 15 = .ok (.dup, 1) := by decide +kernel
theorem dX1_remove_16 : decode cX1_remove 16 = .ok (.getfield 11, 3) := by decide +kernel
theorem dX1_remove_19 : decode cX1_remove 19 = .ok (.iconst 1, 1) := by decide +kernel
theorem dX1_remove_20 : decode cX1_remove 20 = .ok (.isub, 1) := by decide +kernel
theorem dX1_remove_21 : decode cX1_remove 21 = .ok (.putfield 11, 3) := by decide +kernel
theorem dX1_remove_24 : decode cX1_remove 24 = .ok (.iload_n 2, 1) := by decide +kernel
theorem dX1_remove_25 : decode cX1_remove 25 = .ok (.ireturn, 1) := by decide +kernel
theorem dX1_standingOf_0 : decode cX1_standingOf 0 = .ok (.iconst 0, 1) := by decide +kernel
theorem dX1_standingOf_1 : decode cX1_standingOf 1 = .ok (.istore_n 2, 1) := by decide +kernel
theorem dX1_standingOf_2 : decode cX1_standingOf 2 = .ok (.iconst 0, 1) := by decide +kernel
theorem dX1_standingOf_3 : decode cX1_standingOf 3 = .ok (.istore_n 3, 1) := by decide +kernel
theorem dX1_standingOf_4 : decode cX1_standingOf 4 = .ok (.iload_n 3, 1) := by decide +kernel
theorem dX1_standingOf_5 : decode cX1_standingOf 5 = .ok (.sipush 400, 3) := by decide +kernel
theorem dX1_standingOf_8 : decode cX1_standingOf 8 = .ok (.if_icmp .ge 22, 3) := by decide +kernel
theorem dX1_standingOf_11 : decode cX1_standingOf 11 = .ok (.aload_n 0, 1) := by decide +kernel
theorem dX1_standingOf_12 : decode cX1_standingOf 12 = .ok (.getfield 15, 3) := by decide +kernel
theorem dX1_standingOf_15 : decode cX1_standingOf 15 = .ok (.iload_n 3, 1) := by decide +kernel
theorem dX1_standingOf_16 : decode cX1_standingOf 16 = .ok (.iaload, 1) := by decide +kernel
theorem dX1_standingOf_17 : decode cX1_standingOf 17 = .ok (.iload_n 1, 1) := by decide +kernel
theorem dX1_standingOf_18 : decode cX1_standingOf 18 = .ok (.if_icmp .ne 6, 3) := by decide +kernel
theorem dX1_standingOf_21 : decode cX1_standingOf 21 = .ok (.iinc 2 1, 3) := by decide +kernel
theorem dX1_standingOf_24 : decode cX1_standingOf 24 = .ok (.iinc 3 1, 3) := by decide +kernel
theorem dX1_standingOf_27 : decode cX1_standingOf 27 = .ok (.goto (-23), 3) := by decide +kernel
theorem dX1_standingOf_30 : decode cX1_standingOf 30 = .ok (.iload_n 2, 1) := by decide +kernel
theorem dX1_standingOf_31 : decode cX1_standingOf 31 = .ok (.ireturn, 1) := by decide +kernel
theorem dX1_besides_0 : decode cX1_besides 0 = .ok (.iload_n 1, 1) := by decide +kernel
theorem dX1_besides_1 : decode cX1_besides 1 = .ok (.invokestatic 28, 3) := by decide +kernel
theorem dX1_besides_4 : decode cX1_besides 4 = .ok (.istore_n 2, 1) := by decide +kernel
theorem dX1_besides_5 : decode cX1_besides 5 = .ok (.iload_n 1, 1) := by decide +kernel
theorem dX1_besides_6 : decode cX1_besides 6 = .ok (.invokestatic 32, 3) := by decide +kernel
theorem dX1_besides_9 : decode cX1_besides 9 = .ok (.istore_n 3, 1) := by decide +kernel
theorem dX1_besides_10 : decode cX1_besides 10 = .ok (.aload_n 0, 1) := by decide +kernel
theorem dX1_besides_11 : decode cX1_besides 11 = .ok (.iload_n 2, 1) := by decide +kernel
theorem dX1_besides_12 : decode cX1_besides 12 = .ok (.iconst 1, 1) := by decide +kernel
theorem dX1_besides_13 : decode cX1_besides 13 = .ok (.isub, 1) := by decide +kernel
theorem dX1_besides_14 : decode cX1_besides 14 = .ok (.iload_n 3, 1) := by decide +kernel
theorem dX1_besides_15 : decode cX1_besides 15 = .ok (.invokevirtual 35, 3) := by decide +kernel
theorem dX1_besides_18 : decode cX1_besides 18 = .ok (.aload_n 0, 1) := by decide +kernel
theorem dX1_besides_19 : decode cX1_besides 19 = .ok (.iload_n 2, 1) := by decide +kernel
theorem dX1_besides_20 : decode cX1_besides 20 = .ok (.iconst 1, 1) := by decide +kernel
theorem dX1_besides_21 : decode cX1_besides 21 = .ok (.iadd, 1) := by decide +kernel
theorem dX1_besides_22 : decode cX1_besides 22 = .ok (.iload_n 3, 1) := by decide +kernel
theorem dX1_besides_23 : decode cX1_besides 23 = .ok (.invokevirtual 35, 3) := by decide +kernel
theorem dX1_besides_26 : decode cX1_besides 26 = .ok (.iadd, 1) := by decide +kernel
theorem dX1_besides_27 : decode cX1_besides 27 = .ok (.aload_n 0, 1) := by decide +kernel
theorem dX1_besides_28 : decode cX1_besides 28 = .ok (.iload_n 2, 1) := by decide +kernel
theorem dX1_besides_29 : decode cX1_besides 29 = .ok (.iload_n 3, 1) := by decide +kernel
theorem dX1_besides_30 : decode cX1_besides 30 = .ok (.iconst 1, 1) := by decide +kernel
theorem dX1_besides_31 : decode cX1_besides 31 = .ok (.isub, 1) := by decide +kernel
theorem dX1_besides_32 : decode cX1_besides 32 = .ok (.invokevirtual 35, 3) := by decide +kernel
theorem dX1_besides_35 : decode cX1_besides 35 = .ok (.iadd, 1) := by decide +kernel
theorem dX1_besides_36 : decode cX1_besides 36 = .ok (.aload_n 0, 1) := by decide +kernel
theorem dX1_besides_37 : decode cX1_besides 37 = .ok (.iload_n 2, 1) := by decide +kernel
theorem dX1_besides_38 : decode cX1_besides 38 = .ok (.iload_n 3, 1) := by decide +kernel
theorem dX1_besides_39 : decode cX1_besides 39 = .ok (.iconst 1, 1) := by decide +kernel
theorem dX1_besides_40 : decode cX1_besides 40 = .ok (.iadd, 1) := by decide +kernel
theorem dX1_besides_41 : decode cX1_besides 41 = .ok (.invokevirtual 35, 3) := by decide +kernel
theorem dX1_besides_44 : decode cX1_besides 44 = .ok (.iadd, 1) := by decide +kernel
theorem dX1_besides_45 : decode cX1_besides 45 = .ok (.ireturn, 1) := by decide +kernel
theorem dX1_pegsAt_0 : decode cX1_pegsAt 0 = .ok (.iload_n 1, 1) := by decide +kernel
theorem dX1_pegsAt_1 : decode cX1_pegsAt 1 = .ok (.iload_n 2, 1) := by decide +kernel
theorem dX1_pegsAt_2 : decode cX1_pegsAt 2 = .ok (.invokestatic 39, 3) := by decide +kernel
theorem dX1_pegsAt_5 : decode cX1_pegsAt 5 = .ok (.ifCond .eq 19, 3) := by decide +kernel
theorem dX1_pegsAt_8 : decode cX1_pegsAt 8 = .ok (.aload_n 0, 1) := by decide +kernel
theorem dX1_pegsAt_9 : decode cX1_pegsAt 9 = .ok (.iload_n 1, 1) := by decide +kernel
theorem dX1_pegsAt_10 : decode cX1_pegsAt 10 = .ok (.iload_n 2, 1) := by decide +kernel
theorem dX1_pegsAt_11 : decode cX1_pegsAt 11 = .ok (.invokestatic 43, 3) := by decide +kernel
theorem dX1_pegsAt_14 : decode cX1_pegsAt 14 = .ok (.invokevirtual 46, 3) := by decide +kernel
theorem dX1_pegsAt_17 : decode cX1_pegsAt 17 = .ok (.ifCond .eq 7, 3) := by decide +kernel
theorem dX1_pegsAt_20 : decode cX1_pegsAt 20 = .ok (.iconst 1, 1) := by decide +kernel
theorem dX1_pegsAt_21 : decode cX1_pegsAt 21 = .ok (.goto 4, 3) := by decide +kernel
theorem dX1_pegsAt_24 : decode cX1_pegsAt 24 = .ok (.iconst 0, 1) := by decide +kernel
theorem dX1_pegsAt_25 : decode cX1_pegsAt 25 = .ok (.ireturn, 1) := by decide +kernel
theorem dX1_nearest_0 : decode cX1_nearest 0 = .ok (.iconst (-1), 1) := by decide +kernel
theorem dX1_nearest_1 : decode cX1_nearest 1 = .ok (.istore_n 2, 1) := by decide +kernel
theorem dX1_nearest_2 : decode cX1_nearest 2 = .ok (.iconst 0, 1) := by decide +kernel
theorem dX1_nearest_3 : decode cX1_nearest 3 = .ok (.istore_n 3, 1) := by decide +kernel
theorem dX1_nearest_4 : decode cX1_nearest 4 = .ok (.iload_n 3, 1) := by decide +kernel
theorem dX1_nearest_5 : decode cX1_nearest 5 = .ok (.sipush 400, 3) := by decide +kernel
theorem dX1_nearest_8 : decode cX1_nearest 8 = .ok (.if_icmp .ge 36, 3) := by decide +kernel
theorem dX1_nearest_11 : decode cX1_nearest 11 = .ok (.aload_n 0, 1) := by decide +kernel
theorem dX1_nearest_12 : decode cX1_nearest 12 = .ok (.iload_n 3, 1) := by decide +kernel
theorem dX1_nearest_13 : decode cX1_nearest 13 = .ok (.invokevirtual 46, 3) := by decide +kernel
theorem dX1_nearest_16 : decode cX1_nearest 16 = .ok (.ifCond .eq 22, 3) := by decide +kernel
theorem dX1_nearest_19 : decode cX1_nearest 19 = .ok (.iload_n 2, 1) := by decide +kernel
theorem dX1_nearest_20 : decode cX1_nearest 20 = .ok (.ifCond .lt 12, 3) := by decide +kernel
theorem dX1_nearest_23 : decode cX1_nearest 23 = .ok (.iload_n 1, 1) := by decide +kernel
theorem dX1_nearest_24 : decode cX1_nearest 24 = .ok (.iload_n 3, 1) := by decide +kernel
theorem dX1_nearest_25 : decode cX1_nearest 25 = .ok (.invokestatic 50, 3) := by decide +kernel
theorem dX1_nearest_28 : decode cX1_nearest 28 = .ok (.iload_n 2, 1) := by decide +kernel
theorem dX1_nearest_29 : decode cX1_nearest 29 = .ok (.if_icmp .ge 9, 3) := by decide +kernel
theorem dX1_nearest_32 : decode cX1_nearest 32 = .ok (.iload_n 1, 1) := by decide +kernel
theorem dX1_nearest_33 : decode cX1_nearest 33 = .ok (.iload_n 3, 1) := by decide +kernel
theorem dX1_nearest_34 : decode cX1_nearest 34 = .ok (.invokestatic 50, 3) := by decide +kernel
theorem dX1_nearest_37 : decode cX1_nearest 37 = .ok (.istore_n 2, 1) := by decide +kernel
theorem dX1_nearest_38 : decode cX1_nearest 38 = .ok (.iinc 3 1, 3) := by decide +kernel
theorem dX1_nearest_41 : decode cX1_nearest 41 = .ok (.goto (-37), 3) := by decide +kernel
theorem dX1_nearest_44 : decode cX1_nearest 44 = .ok (.iload_n 2, 1) := by decide +kernel
theorem dX1_nearest_45 : decode cX1_nearest 45 = .ok (.ireturn, 1) := by decide +kernel
theorem dX1_tellFullestLine_0 : decode cX1_tellFullestLine 0 = .ok (.aload_n 0, 1) := by decide +kernel
theorem dX1_tellFullestLine_1 : decode cX1_tellFullestLine 1 = .ok (.invokevirtual 53, 3) := by decide +kernel
theorem dX1_tellFullestLine_4 : decode cX1_tellFullestLine 4 = .ok (.aload_n 0, 1) := by decide +kernel
theorem dX1_tellFullestLine_5 : decode cX1_tellFullestLine 5 = .ok (.invokevirtual 56, 3) := by decide +kernel
theorem dX1_tellFullestLine_8 : decode cX1_tellFullestLine 8 = .ok (.istore_n 2, 1) := by decide +kernel
theorem dX1_tellFullestLine_9 : decode cX1_tellFullestLine 9 = .ok (.iload_n 1, 1) := by decide +kernel
theorem dX1_tellFullestLine_10 : decode cX1_tellFullestLine 10 = .ok (.ifCond .ne 10, 3) := by decide +kernel
theorem dX1_tellFullestLine_13 : decode cX1_tellFullestLine 13 = .ok (.aload_n 0, 1) := by decide +kernel
theorem dX1_tellFullestLine_14 : decode cX1_tellFullestLine 14 = .ok (.getfield 25, 3) := by decide +kernel
theorem dX1_tellFullestLine_17 : decode cX1_tellFullestLine 17 = .ok (.iload_n 2, 1) := by decide +kernel
theorem dX1_tellFullestLine_18 : decode cX1_tellFullestLine 18 = .ok (.iaload, 1) := by decide +kernel
theorem dX1_tellFullestLine_19 : decode cX1_tellFullestLine 19 = .ok (.ireturn, 1) := by decide +kernel
theorem dX1_tellFullestLine_20 : decode cX1_tellFullestLine 20 = .ok (.aload_n 0, 1) := by decide +kernel
theorem dX1_tellFullestLine_21 : decode cX1_tellFullestLine 21 = .ok (.getfield 11, 3) := by decide +kernel
theorem dX1_tellFullestLine_24 : decode cX1_tellFullestLine 24 = .ok (.ifCond .ne 5, 3) := by decide +kernel
theorem dX1_tellFullestLine_27 : decode cX1_tellFullestLine 27 = .ok (.iconst (-1), 1) := by decide +kernel
theorem dX1_tellFullestLine_28 : decode cX1_tellFullestLine 28 = .ok (.ireturn, 1) := by decide +kernel
theorem dX1_tellFullestLine_29 : decode cX1_tellFullestLine 29 = .ok (.iload_n 1, 1) := by decide +kernel
theorem dX1_tellFullestLine_30 : decode cX1_tellFullestLine 30 = .ok (.iconst 1, 1) := by decide +kernel
theorem dX1_tellFullestLine_31 : decode cX1_tellFullestLine 31 = .ok (.if_icmp .ne 10, 3) := by decide +kernel
theorem dX1_tellFullestLine_34 : decode cX1_tellFullestLine 34 = .ok (.iload_n 2, 1) := by decide +kernel
theorem dX1_tellFullestLine_35 : decode cX1_tellFullestLine 35 = .ok (.invokestatic 60, 3) := by decide +kernel
theorem dX1_tellFullestLine_38 : decode cX1_tellFullestLine 38 = .ok (.goto 7, 3) := by decide +kernel
theorem dX1_tellFullestLine_41 : decode cX1_tellFullestLine 41 = .ok (.iload_n 2, 1) := by decide +kernel
theorem dX1_tellFullestLine_42 : decode cX1_tellFullestLine 42 = .ok (.invokestatic 63, 3) := by decide +kernel
theorem dX1_tellFullestLine_45 : decode cX1_tellFullestLine 45 = .ok (.ireturn, 1) := by decide +kernel
theorem dX1_countByLine_0 : decode cX1_countByLine 0 = .ok (.aload_n 0, 1) := by decide +kernel
theorem dX1_countByLine_1 : decode cX1_countByLine 1 = .ok (.getfield 25, 3) := by decide +kernel
theorem dX1_countByLine_4 : decode cX1_countByLine 4 = .ok (.iconst 0, 1) := by decide +kernel
theorem dX1_countByLine_5 : decode cX1_countByLine 5 = .ok (.invokestatic 19, 3) := by decide +kernel
theorem dX1_countByLine_8 : decode cX1_countByLine 8 = .ok (.iconst 0, 1) := by decide +kernel
theorem dX1_countByLine_9 : decode cX1_countByLine 9 = .ok (.istore_n 1, 1) := by decide +kernel
theorem dX1_countByLine_10 : decode cX1_countByLine 10 = .ok (.iload_n 1, 1) := by decide +kernel
theorem dX1_countByLine_11 : decode cX1_countByLine 11 = .ok (.sipush 400, 3) := by decide +kernel
theorem dX1_countByLine_14 : decode cX1_countByLine 14 = .ok (.if_icmp .ge 80, 3) := by decide +kernel
theorem dX1_countByLine_17 : decode cX1_countByLine 17 = .ok (.aload_n 0, 1) := by decide +kernel
theorem dX1_countByLine_18 : decode cX1_countByLine 18 = .ok (.iload_n 1, 1) := by decide +kernel
theorem dX1_countByLine_19 : decode cX1_countByLine 19 = .ok (.invokevirtual 46, 3) := by decide +kernel
theorem dX1_countByLine_22 : decode cX1_countByLine 22 = .ok (.ifCond .eq 66, 3) := by decide +kernel
theorem dX1_countByLine_25 : decode cX1_countByLine 25 = .ok (.iload_n 1, 1) := by decide +kernel
theorem dX1_countByLine_26 : decode cX1_countByLine 26 = .ok (.invokestatic 28, 3) := by decide +kernel
theorem dX1_countByLine_29 : decode cX1_countByLine 29 = .ok (.istore_n 2, 1) := by decide +kernel
theorem dX1_countByLine_30 : decode cX1_countByLine 30 = .ok (.iload_n 1, 1) := by decide +kernel
theorem dX1_countByLine_31 : decode cX1_countByLine 31 = .ok (.invokestatic 32, 3) := by decide +kernel
theorem dX1_countByLine_34 : decode cX1_countByLine 34 = .ok (.istore_n 3, 1) := by decide +kernel
theorem dX1_countByLine_35 : decode cX1_countByLine 35 = .ok (.aload_n 0, 1) := by decide +kernel
theorem dX1_countByLine_36 : decode cX1_countByLine 36 = .ok (.getfield 25, 3) := by decide +kernel
theorem dX1_countByLine_39 : decode cX1_countByLine 39 = .ok (.iload_n 3, 1) := by decide +kernel
theorem dX1_countByLine_40 : decode cX1_countByLine 40 = .ok (.dup2, 1) := by decide +kernel
theorem dX1_countByLine_41 : decode cX1_countByLine 41 = .ok (.iaload, 1) := by decide +kernel
theorem dX1_countByLine_42 : decode cX1_countByLine 42 = .ok (.iconst 1, 1) := by decide +kernel
theorem dX1_countByLine_43 : decode cX1_countByLine 43 = .ok (.iadd, 1) := by decide +kernel
theorem dX1_countByLine_44 : decode cX1_countByLine 44 = .ok (.iastore, 1) := by decide +kernel
theorem dX1_countByLine_45 : decode cX1_countByLine 45 = .ok (.aload_n 0, 1) := by decide +kernel
theorem dX1_countByLine_46 : decode cX1_countByLine 46 = .ok (.getfield 25, 3) := by decide +kernel
theorem dX1_countByLine_49 : decode cX1_countByLine 49 = .ok (.bipush 20, 2) := by decide +kernel
theorem dX1_countByLine_51 : decode cX1_countByLine 51 = .ok (.iload_n 2, 1) := by decide +kernel
theorem dX1_countByLine_52 : decode cX1_countByLine 52 = .ok (.iadd, 1) := by decide +kernel
theorem dX1_countByLine_53 : decode cX1_countByLine 53 = .ok (.dup2, 1) := by decide +kernel
theorem dX1_countByLine_54 : decode cX1_countByLine 54 = .ok (.iaload, 1) := by decide +kernel
theorem dX1_countByLine_55 : decode cX1_countByLine 55 = .ok (.iconst 1, 1) := by decide +kernel
theorem dX1_countByLine_56 : decode cX1_countByLine 56 = .ok (.iadd, 1) := by decide +kernel
theorem dX1_countByLine_57 : decode cX1_countByLine 57 = .ok (.iastore, 1) := by decide +kernel
theorem dX1_countByLine_58 : decode cX1_countByLine 58 = .ok (.aload_n 0, 1) := by decide +kernel
theorem dX1_countByLine_59 : decode cX1_countByLine 59 = .ok (.getfield 25, 3) := by decide +kernel
theorem dX1_countByLine_62 : decode cX1_countByLine 62 = .ok (.bipush 59, 2) := by decide +kernel
theorem dX1_countByLine_64 : decode cX1_countByLine 64 = .ok (.iload_n 2, 1) := by decide +kernel
theorem dX1_countByLine_65 : decode cX1_countByLine 65 = .ok (.iadd, 1) := by decide +kernel
theorem dX1_countByLine_66 : decode cX1_countByLine 66 = .ok (.iload_n 3, 1) := by decide +kernel
theorem dX1_countByLine_67 : decode cX1_countByLine 67 = .ok (.isub, 1) := by decide +kernel
theorem dX1_countByLine_68 : decode cX1_countByLine 68 = .ok (.dup2, 1) := by decide +kernel
theorem dX1_countByLine_69 : decode cX1_countByLine 69 = .ok (.iaload, 1) := by decide +kernel
theorem dX1_countByLine_70 : decode cX1_countByLine 70 = .ok (.iconst 1, 1) := by decide +kernel
theorem dX1_countByLine_71 : decode cX1_countByLine 71 = .ok (.iadd, 1) := by decide +kernel
theorem dX1_countByLine_72 : decode cX1_countByLine 72 = .ok (.iastore, 1) := by decide +kernel
theorem dX1_countByLine_73 : decode cX1_countByLine 73 = .ok (.aload_n 0, 1) := by decide +kernel
theorem dX1_countByLine_74 : decode cX1_countByLine 74 = .ok (.getfield 25, 3) := by decide +kernel
theorem dX1_countByLine_77 : decode cX1_countByLine 77 = .ok (.bipush 79, 2) := by decide +kernel
theorem dX1_countByLine_79 : decode cX1_countByLine 79 = .ok (.iload_n 2, 1) := by decide +kernel
theorem dX1_countByLine_80 : decode cX1_countByLine 80 = .ok (.iadd, 1) := by decide +kernel
theorem dX1_countByLine_81 : decode cX1_countByLine 81 = .ok (.iload_n 3, 1) := by decide +kernel
theorem dX1_countByLine_82 : decode cX1_countByLine 82 = .ok (.iadd, 1) := by decide +kernel
theorem dX1_countByLine_83 : decode cX1_countByLine 83 = .ok (.dup2, 1) := by decide +kernel
theorem dX1_countByLine_84 : decode cX1_countByLine 84 = .ok (.iaload, 1) := by decide +kernel
theorem dX1_countByLine_85 : decode cX1_countByLine 85 = .ok (.iconst 1, 1) := by decide +kernel
theorem dX1_countByLine_86 : decode cX1_countByLine 86 = .ok (.iadd, 1) := by decide +kernel
theorem dX1_countByLine_87 : decode cX1_countByLine 87 = .ok (.iastore, 1) := by decide +kernel
theorem dX1_countByLine_88 : decode cX1_countByLine 88 = .ok (.iinc 1 1, 3) := by decide +kernel
theorem dX1_countByLine_91 : decode cX1_countByLine 91 = .ok (.goto (-81), 3) := by decide +kernel
theorem dX1_countByLine_94 : decode cX1_countByLine 94 = .ok (.return_, 1) := by decide +kernel
theorem dX1_fullestLine_0 : decode cX1_fullestLine 0 = .ok (.iconst 0, 1) := by decide +kernel
theorem dX1_fullestLine_1 : decode cX1_fullestLine 1 = .ok (.istore_n 1, 1) := by decide +kernel
theorem dX1_fullestLine_2 : decode cX1_fullestLine 2 = .ok (.iconst 1, 1) := by decide +kernel
theorem dX1_fullestLine_3 : decode cX1_fullestLine 3 = .ok (.istore_n 2, 1) := by decide +kernel
theorem dX1_fullestLine_4 : decode cX1_fullestLine 4 = .ok (.iload_n 2, 1) := by decide +kernel
theorem dX1_fullestLine_5 : decode cX1_fullestLine 5 = .ok (.bipush 118, 2) := by decide +kernel
theorem dX1_fullestLine_7 : decode cX1_fullestLine 7 = .ok (.if_icmp .ge 26, 3) := by decide +kernel
theorem dX1_fullestLine_10 : decode cX1_fullestLine 10 = .ok (.aload_n 0, 1) := by decide +kernel
theorem dX1_fullestLine_11 : decode cX1_fullestLine 11 = .ok (.getfield 25, 3) := by decide +kernel
theorem dX1_fullestLine_14 : decode cX1_fullestLine 14 = .ok (.iload_n 2, 1) := by decide +kernel
theorem dX1_fullestLine_15 : decode cX1_fullestLine 15 = .ok (.iaload, 1) := by decide +kernel
theorem dX1_fullestLine_16 : decode cX1_fullestLine 16 = .ok (.aload_n 0, 1) := by decide +kernel
theorem dX1_fullestLine_17 : decode cX1_fullestLine 17 = .ok (.getfield 25, 3) := by decide +kernel
theorem dX1_fullestLine_20 : decode cX1_fullestLine 20 = .ok (.iload_n 1, 1) := by decide +kernel
theorem dX1_fullestLine_21 : decode cX1_fullestLine 21 = .ok (.iaload, 1) := by decide +kernel
theorem dX1_fullestLine_22 : decode cX1_fullestLine 22 = .ok (.if_icmp .le 5, 3) := by decide +kernel
theorem dX1_fullestLine_25 : decode cX1_fullestLine 25 = .ok (.iload_n 2, 1) := by decide +kernel
theorem dX1_fullestLine_26 : decode cX1_fullestLine 26 = .ok (.istore_n 1, 1) := by decide +kernel
theorem dX1_fullestLine_27 : decode cX1_fullestLine 27 = .ok (.iinc 2 1, 3) := by decide +kernel
theorem dX1_fullestLine_30 : decode cX1_fullestLine 30 = .ok (.goto (-26), 3) := by decide +kernel
theorem dX1_fullestLine_33 : decode cX1_fullestLine 33 = .ok (.iload_n 1, 1) := by decide +kernel
theorem dX1_fullestLine_34 : decode cX1_fullestLine 34 = .ok (.ireturn, 1) := by decide +kernel
theorem dX1_kindOf_0 : decode cX1_kindOf 0 = .ok (.iload_n 0, 1) := by decide +kernel
theorem dX1_kindOf_1 : decode cX1_kindOf 1 = .ok (.bipush 20, 2) := by decide +kernel
theorem dX1_kindOf_3 : decode cX1_kindOf 3 = .ok (.if_icmp .ge 5, 3) := by decide +kernel
theorem dX1_kindOf_6 : decode cX1_kindOf 6 = .ok (.iconst 0, 1) := by decide +kernel
theorem dX1_kindOf_7 : decode cX1_kindOf 7 = .ok (.ireturn, 1) := by decide +kernel
theorem dX1_kindOf_8 : decode cX1_kindOf 8 = .ok (.iload_n 0, 1) := by decide +kernel
theorem dX1_kindOf_9 : decode cX1_kindOf 9 = .ok (.bipush 40, 2) := by decide +kernel
theorem dX1_kindOf_11 : decode cX1_kindOf 11 = .ok (.if_icmp .ge 5, 3) := by decide +kernel
theorem dX1_kindOf_14 : decode cX1_kindOf 14 = .ok (.iconst 1, 1) := by decide +kernel
theorem dX1_kindOf_15 : decode cX1_kindOf 15 = .ok (.ireturn, 1) := by decide +kernel
theorem dX1_kindOf_16 : decode cX1_kindOf 16 = .ok (.iload_n 0, 1) := by decide +kernel
theorem dX1_kindOf_17 : decode cX1_kindOf 17 = .ok (.bipush 79, 2) := by decide +kernel
theorem dX1_kindOf_19 : decode cX1_kindOf 19 = .ok (.if_icmp .ge 7, 3) := by decide +kernel
theorem dX1_kindOf_22 : decode cX1_kindOf 22 = .ok (.iconst 2, 1) := by decide +kernel
theorem dX1_kindOf_23 : decode cX1_kindOf 23 = .ok (.goto 4, 3) := by decide +kernel
theorem dX1_kindOf_26 : decode cX1_kindOf 26 = .ok (.iconst 3, 1) := by decide +kernel
theorem dX1_kindOf_27 : decode cX1_kindOf 27 = .ok (.ireturn, 1) := by decide +kernel
theorem dX1_numberOf_0 : decode cX1_numberOf 0 = .ok (.iload_n 0, 1) := by decide +kernel
theorem dX1_numberOf_1 : decode cX1_numberOf 1 = .ok (.invokestatic 60, 3) := by decide +kernel
theorem dX1_numberOf_4 : decode cX1_numberOf 4 = .ok (.tableswitch 40 0 2 #[28, 30, 35], 28) := by decide +kernel
theorem dX1_numberOf_32 : decode cX1_numberOf 32 = .ok (.iload_n 0, 1) := by decide +kernel
theorem dX1_numberOf_33 : decode cX1_numberOf 33 = .ok (.ireturn, 1) := by decide +kernel
theorem dX1_numberOf_34 : decode cX1_numberOf 34 = .ok (.iload_n 0, 1) := by decide +kernel
theorem dX1_numberOf_35 : decode cX1_numberOf 35 = .ok (.bipush 20, 2) := by decide +kernel
theorem dX1_numberOf_37 : decode cX1_numberOf 37 = .ok (.isub, 1) := by decide +kernel
theorem dX1_numberOf_38 : decode cX1_numberOf 38 = .ok (.ireturn, 1) := by decide +kernel
theorem dX1_numberOf_39 : decode cX1_numberOf 39 = .ok (.iload_n 0, 1) := by decide +kernel
theorem dX1_numberOf_40 : decode cX1_numberOf 40 = .ok (.bipush 59, 2) := by decide +kernel
theorem dX1_numberOf_42 : decode cX1_numberOf 42 = .ok (.isub, 1) := by decide +kernel
theorem dX1_numberOf_43 : decode cX1_numberOf 43 = .ok (.ireturn, 1) := by decide +kernel
theorem dX1_numberOf_44 : decode cX1_numberOf 44 = .ok (.iload_n 0, 1) := by decide +kernel
theorem dX1_numberOf_45 : decode cX1_numberOf 45 = .ok (.bipush 79, 2) := by decide +kernel
theorem dX1_numberOf_47 : decode cX1_numberOf 47 = .ok (.isub, 1) := by decide +kernel
theorem dX1_numberOf_48 : decode cX1_numberOf 48 = .ok (.ireturn, 1) := by decide +kernel
theorem dX2_init_0 : decode cX2_init 0 = .ok (.aload_n 0, 1) := by decide +kernel
theorem dX2_init_1 : decode cX2_init 1 = .ok (.invokespecial 3, 3) := by decide +kernel
theorem dX2_init_4 : decode cX2_init 4 = .ok (.aload_n 0, 1) := by decide +kernel
theorem dX2_init_5 : decode cX2_init 5 = .ok (.iconst 0, 1) := by decide +kernel
theorem dX2_init_6 : decode cX2_init 6 = .ok (.putfield 9, 3) := by decide +kernel
theorem dX2_init_9 : decode cX2_init 9 = .ok (.aload_n 0, 1) := by decide +kernel
theorem dX2_init_10 : decode cX2_init 10 = .ok (.sipush 400, 3) := by decide +kernel
theorem dX2_init_13 : decode cX2_init 13 = .ok (.newarray .int, 2) := by decide +kernel
theorem dX2_init_15 : decode cX2_init 15 = .ok (.putfield 15, 3) := by decide +kernel
theorem dX2_init_18 : decode cX2_init 18 = .ok (.aload_n 0, 1) := by decide +kernel
theorem dX2_init_19 : decode cX2_init 19 = .ok (.getfield 15, 3) := by decide +kernel
theorem dX2_init_22 : decode cX2_init 22 = .ok (.iconst (-1), 1) := by decide +kernel
theorem dX2_init_23 : decode cX2_init 23 = .ok (.invokestatic 19, 3) := by decide +kernel
theorem dX2_init_26 : decode cX2_init 26 = .ok (.aload_n 0, 1) := by decide +kernel
theorem dX2_init_27 : decode cX2_init 27 = .ok (.bipush 10, 2) := by decide +kernel
theorem dX2_init_29 : decode cX2_init 29 = .ok (.newarray .int, 2) := by decide +kernel
theorem dX2_init_31 : decode cX2_init 31 = .ok (.putfield 25, 3) := by decide +kernel
theorem dX2_init_34 : decode cX2_init 34 = .ok (.aload_n 0, 1) := by decide +kernel
theorem dX2_init_35 : decode cX2_init 35 = .ok (.bipush 10, 2) := by decide +kernel
theorem dX2_init_37 : decode cX2_init 37 = .ok (.newarray .int, 2) := by decide +kernel
theorem dX2_init_39 : decode cX2_init 39 = .ok (.putfield 28, 3) := by decide +kernel
theorem dX2_init_42 : decode cX2_init 42 = .ok (.aload_n 0, 1) := by decide +kernel
theorem dX2_init_43 : decode cX2_init 43 = .ok (.bipush 10, 2) := by decide +kernel
theorem dX2_init_45 : decode cX2_init 45 = .ok (.newarray .int, 2) := by decide +kernel
theorem dX2_init_47 : decode cX2_init 47 = .ok (.putfield 31, 3) := by decide +kernel
theorem dX2_init_50 : decode cX2_init 50 = .ok (.aload_n 0, 1) := by decide +kernel
theorem dX2_init_51 : decode cX2_init 51 = .ok (.bipush 50, 2) := by decide +kernel
theorem dX2_init_53 : decode cX2_init 53 = .ok (.newarray .int, 2) := by decide +kernel
theorem dX2_init_55 : decode cX2_init 55 = .ok (.putfield 34, 3) := by decide +kernel
theorem dX2_init_58 : decode cX2_init 58 = .ok (.aload_n 0, 1) := by decide +kernel
theorem dX2_init_59 : decode cX2_init 59 = .ok (.bipush 50, 2) := by decide +kernel
theorem dX2_init_61 : decode cX2_init 61 = .ok (.newarray .boolean, 2) := by decide +kernel
theorem dX2_init_63 : decode cX2_init 63 = .ok (.putfield 37, 3) := by decide +kernel
theorem dX2_init_66 : decode cX2_init 66 = .ok (.return_, 1) := by decide +kernel
theorem dX2_add_0 : decode cX2_add 0 = .ok (.aload_n 0, 1) := by decide +kernel
theorem dX2_add_1 : decode cX2_add 1 = .ok (.getfield 9, 3) := by decide +kernel
theorem dX2_add_4 : decode cX2_add 4 = .ok (.istore_n 3, 1) := by decide +kernel
theorem dX2_add_5 : decode cX2_add 5 = .ok (.aload_n 0, 1) := by decide +kernel
theorem dX2_add_6 : decode cX2_add 6 = .ok (.getfield 25, 3) := by decide +kernel
theorem dX2_add_9 : decode cX2_add 9 = .ok (.iload_n 3, 1) := by decide +kernel
theorem dX2_add_10 : decode cX2_add 10 = .ok (.iload_n 1, 1) := by decide +kernel
theorem dX2_add_11 : decode cX2_add 11 = .ok (.iastore, 1) := by decide +kernel
theorem dX2_add_12 : decode cX2_add 12 = .ok (.aload_n 0, 1) := by decide +kernel
theorem dX2_add_13 : decode cX2_add 13 = .ok (.getfield 28, 3) := by decide +kernel
theorem dX2_add_16 : decode cX2_add 16 = .ok (.iload_n 3, 1) := by decide +kernel
theorem dX2_add_17 : decode cX2_add 17 = .ok (.iload_n 2, 1) := by decide +kernel
theorem dX2_add_18 : decode cX2_add 18 = .ok (.iastore, 1) := by decide +kernel
theorem dX2_add_19 : decode cX2_add 19 = .ok (.aload_n 0, 1) := by decide +kernel
theorem dX2_add_20 : decode cX2_add 20 = .ok (.getfield 15, 3) := by decide +kernel
theorem dX2_add_23 : decode cX2_add 23 = .ok (.iload_n 1, 1) := by decide +kernel
theorem dX2_add_24 : decode cX2_add 24 = .ok (.iload_n 3, 1) := by decide +kernel
theorem dX2_add_25 : decode cX2_add 25 = .ok (.iastore, 1) := by decide +kernel
theorem dX2_add_26 : decode cX2_add 26 = .ok (.aload_n 0, 1) := by decide +kernel
theorem dX2_add_27 : decode cX2_add 27 = .ok (.dup, 1) := by decide +kernel
theorem dX2_add_28 : decode cX2_add 28 = .ok (.getfield 9, 3) := by decide +kernel
theorem dX2_add_31 : decode cX2_add 31 = .ok (.iconst 1, 1) := by decide +kernel
theorem dX2_add_32 : decode cX2_add 32 = .ok (.iadd, 1) := by decide +kernel
theorem dX2_add_33 : decode cX2_add 33 = .ok (.putfield 9, 3) := by decide +kernel
theorem dX2_add_36 : decode cX2_add 36 = .ok (.iload_n 3, 1) := by decide +kernel
theorem dX2_add_37 : decode cX2_add 37 = .ok (.ireturn, 1) := by decide +kernel
theorem dX2_hasFound_0 : decode cX2_hasFound 0 = .ok (.aload_n 0, 1) := by decide +kernel
theorem dX2_hasFound_1 : decode cX2_hasFound 1 = .ok (.getfield 28, 3) := by decide +kernel
theorem dX2_hasFound_4 : decode cX2_hasFound 4 = .ok (.iload_n 1, 1) := by decide +kernel
theorem dX2_hasFound_5 : decode cX2_hasFound 5 = .ok (.iaload, 1) := by decide +kernel
theorem dX2_hasFound_6 : decode cX2_hasFound 6 = .ok (.ifCond .le 22, 3) := by decide +kernel
theorem dX2_hasFound_9 : decode cX2_hasFound 9 = .ok (.aload_n 0, 1) := by decide +kernel
theorem dX2_hasFound_10 : decode cX2_hasFound 10 = .ok (.getfield 31, 3) := by decide +kernel
theorem dX2_hasFound_13 : decode cX2_hasFound 13 = .ok (.iload_n 1, 1) := by decide +kernel
theorem dX2_hasFound_14 : decode cX2_hasFound 14 = .ok (.iaload, 1) := by decide +kernel
theorem dX2_hasFound_15 : decode cX2_hasFound 15 = .ok (.aload_n 0, 1) := by decide +kernel
theorem dX2_hasFound_16 : decode cX2_hasFound 16 = .ok (.getfield 28, 3) := by decide +kernel
theorem dX2_hasFound_19 : decode cX2_hasFound 19 = .ok (.iload_n 1, 1) := by decide +kernel
theorem dX2_hasFound_20 : decode cX2_hasFound 20 = .ok (.iaload, 1) := by decide +kernel
theorem dX2_hasFound_21 : decode cX2_hasFound 21 = .ok (.if_icmp .lt 7, 3) := by decide +kernel
theorem dX2_hasFound_24 : decode cX2_hasFound 24 = .ok (.iconst 1, 1) := by decide +kernel
theorem dX2_hasFound_25 : decode cX2_hasFound 25 = .ok (.goto 4, 3) := by decide +kernel
theorem dX2_hasFound_28 : decode cX2_hasFound 28 = .ok (.iconst 0, 1) := by decide +kernel
theorem dX2_hasFound_29 : decode cX2_hasFound 29 = .ok (.ireturn, 1) := by decide +kernel
theorem dX2_isOver_0 : decode cX2_isOver 0 = .ok (.aload_n 0, 1) := by decide +kernel
theorem dX2_isOver_1 : decode cX2_isOver 1 = .ok (.iload_n 1, 1) := by decide +kernel
theorem dX2_isOver_2 : decode cX2_isOver 2 = .ok (.invokevirtual 41, 3) := by decide +kernel
theorem dX2_isOver_5 : decode cX2_isOver 5 = .ok (.ifCond .ne 14, 3) := by decide +kernel
theorem dX2_isOver_8 : decode cX2_isOver 8 = .ok (.aload_n 0, 1) := by decide +kernel
theorem dX2_isOver_9 : decode cX2_isOver 9 = .ok (.getfield 31, 3) := by decide +kernel
theorem dX2_isOver_12 : decode cX2_isOver 12 = .ok (.iload_n 1, 1) := by decide +kernel
theorem dX2_isOver_13 : decode cX2_isOver 13 = .ok (.iaload, 1) := by decide +kernel
theorem dX2_isOver_14 : decode cX2_isOver 14 = .ok (.bipush 20, 2) := by decide +kernel
theorem dX2_isOver_16 : decode cX2_isOver 16 = .ok (.if_icmp .lt 7, 3) := by decide +kernel
theorem dX2_isOver_19 : decode cX2_isOver 19 = .ok (.iconst 1, 1) := by decide +kernel
theorem dX2_isOver_20 : decode cX2_isOver 20 = .ok (.goto 4, 3) := by decide +kernel
theorem dX2_isOver_23 : decode cX2_isOver 23 = .ok (.iconst 0, 1) := by decide +kernel
theorem dX2_isOver_24 : decode cX2_isOver 24 = .ok (.ireturn, 1) := by decide +kernel
theorem dX2_deepen_0 : decode cX2_deepen 0 = .ok (.aload_n 0, 1) := by decide +kernel
theorem dX2_deepen_1 : decode cX2_deepen 1 = .ok (.getfield 28, 3) := by decide +kernel
theorem dX2_deepen_4 : decode cX2_deepen 4 = .ok (.iload_n 1, 1) := by decide +kernel
theorem dX2_deepen_5 : decode cX2_deepen 5 = .ok (.iaload, 1) := by decide +kernel
theorem dX2_deepen_6 : decode cX2_deepen 6 = .ok (.ifCond .le 12, 3) := by decide +kernel
theorem dX2_deepen_9 : decode cX2_deepen 9 = .ok (.aload_n 0, 1) := by decide +kernel
theorem dX2_deepen_10 : decode cX2_deepen 10 = .ok (.getfield 28, 3) := by decide +kernel
theorem dX2_deepen_13 : decode cX2_deepen 13 = .ok (.iload_n 1, 1) := by decide +kernel
theorem dX2_deepen_14 : decode cX2_deepen 14 = .ok (.iaload, 1) := by decide +kernel
theorem dX2_deepen_15 : decode cX2_deepen 15 = .ok (.goto 5, 3) := by decide +kernel
theorem dX2_deepen_18 : decode cX2_deepen 18 = .ok (.bipush 20, 2) := by decide +kernel
theorem dX2_deepen_20 : decode cX2_deepen 20 = .ok (.istore_n 3, 1) := by decide +kernel
theorem dX2_deepen_21 : decode cX2_deepen 21 = .ok (.aload_n 0, 1) := by decide +kernel
theorem dX2_deepen_22 : decode cX2_deepen 22 = .ok (.getfield 31, 3) := by decide +kernel
theorem dX2_deepen_25 : decode cX2_deepen 25 = .ok (.iload_n 1, 1) := by decide +kernel
theorem dX2_deepen_26 : decode cX2_deepen 26 = .ok (.iload_n 3, 1) := by decide +kernel
theorem dX2_deepen_27 : decode cX2_deepen 27 = .ok (.aload_n 0, 1) := by decide +kernel
theorem dX2_deepen_28 : decode cX2_deepen 28 = .ok (.getfield 31, 3) := by decide +kernel
theorem dX2_deepen_31 : decode cX2_deepen 31 = .ok (.iload_n 1, 1) := by decide +kernel
theorem dX2_deepen_32 : decode cX2_deepen 32 = .ok (.iaload, 1) := by decide +kernel
theorem dX2_deepen_33 : decode cX2_deepen 33 = .ok (.iload_n 2, 1) := by decide +kernel
theorem dX2_deepen_34 : decode cX2_deepen 34 = .ok (.iadd, 1) := by decide +kernel
theorem dX2_deepen_35 : decode cX2_deepen 35 = .ok (.invokestatic 45, 3) := by decide +kernel
theorem dX2_deepen_38 : decode cX2_deepen 38 = .ok (.iastore, 1) := by decide +kernel
theorem dX2_deepen_39 : decode cX2_deepen 39 = .ok (.return_, 1) := by decide +kernel
theorem dX2_slip_0 : decode cX2_slip 0 = .ok (.iload_n 0, 1) := by decide +kernel
theorem dX2_slip_1 : decode cX2_slip 1 = .ok (.iconst 5, 1) := by decide +kernel
theorem dX2_slip_2 : decode cX2_slip 2 = .ok (.imul, 1) := by decide +kernel
theorem dX2_slip_3 : decode cX2_slip 3 = .ok (.iload_n 1, 1) := by decide +kernel
theorem dX2_slip_4 : decode cX2_slip 4 = .ok (.iadd, 1) := by decide +kernel
theorem dX2_slip_5 : decode cX2_slip 5 = .ok (.ireturn, 1) := by decide +kernel
theorem dX2_hasBet_0 : decode cX2_hasBet 0 = .ok (.aload_n 0, 1) := by decide +kernel
theorem dX2_hasBet_1 : decode cX2_hasBet 1 = .ok (.getfield 34, 3) := by decide +kernel
theorem dX2_hasBet_4 : decode cX2_hasBet 4 = .ok (.iload_n 1, 1) := by decide +kernel
theorem dX2_hasBet_5 : decode cX2_hasBet 5 = .ok (.iload_n 2, 1) := by decide +kernel
theorem dX2_hasBet_6 : decode cX2_hasBet 6 = .ok (.invokestatic 51, 3) := by decide +kernel
theorem dX2_hasBet_9 : decode cX2_hasBet 9 = .ok (.iaload, 1) := by decide +kernel
theorem dX2_hasBet_10 : decode cX2_hasBet 10 = .ok (.ifCond .le 7, 3) := by decide +kernel
theorem dX2_hasBet_13 : decode cX2_hasBet 13 = .ok (.iconst 1, 1) := by decide +kernel
theorem dX2_hasBet_14 : decode cX2_hasBet 14 = .ok (.goto 4, 3) := by decide +kernel
theorem dX2_hasBet_17 : decode cX2_hasBet 17 = .ok (.iconst 0, 1) := by decide +kernel
theorem dX2_hasBet_18 : decode cX2_hasBet 18 = .ok (.ireturn, 1) := by decide +kernel
theorem dX2_takeBet_0 : decode cX2_takeBet 0 = .ok (.aload_n 0, 1) := by decide +kernel
theorem dX2_takeBet_1 : decode cX2_takeBet 1 = .ok (.getfield 34, 3) := by decide +kernel
theorem dX2_takeBet_4 : decode cX2_takeBet 4 = .ok (.iload_n 1, 1) := by decide +kernel
theorem dX2_takeBet_5 : decode cX2_takeBet 5 = .ok (.iload_n 2, 1) := by decide +kernel
theorem dX2_takeBet_6 : decode cX2_takeBet 6 = .ok (.invokestatic 51, 3) := by decide +kernel
theorem dX2_takeBet_9 : decode cX2_takeBet 9 = .ok (.iload_n 3, 1) := by decide +kernel
theorem dX2_takeBet_10 : decode cX2_takeBet 10 = .ok (.iastore, 1) := by decide +kernel
theorem dX2_takeBet_11 : decode cX2_takeBet 11 = .ok (.aload_n 0, 1) := by decide +kernel
theorem dX2_takeBet_12 : decode cX2_takeBet 12 = .ok (.getfield 37, 3) := by decide +kernel
theorem dX2_takeBet_15 : decode cX2_takeBet 15 = .ok (.iload_n 1, 1) := by decide +kernel
theorem dX2_takeBet_16 : decode cX2_takeBet 16 = .ok (.iload_n 2, 1) := by decide +kernel
theorem dX2_takeBet_17 : decode cX2_takeBet 17 = .ok (.invokestatic 51, 3) := by decide +kernel
theorem dX2_takeBet_20 : decode cX2_takeBet 20 = .ok (.iload 4, 2) := by decide +kernel
theorem dX2_takeBet_22 : decode cX2_takeBet 22 = .ok (.bastore, 1) := by decide +kernel
theorem dX2_takeBet_23 : decode cX2_takeBet 23 = .ok (.return_, 1) := by decide +kernel
theorem dX2_stakeOn_0 : decode cX2_stakeOn 0 = .ok (.iload_n 1, 1) := by decide +kernel
theorem dX2_stakeOn_1 : decode cX2_stakeOn 1 = .ok (.iload_n 2, 1) := by decide +kernel
theorem dX2_stakeOn_2 : decode cX2_stakeOn 2 = .ok (.invokestatic 51, 3) := by decide +kernel
theorem dX2_stakeOn_5 : decode cX2_stakeOn 5 = .ok (.istore 4, 2) := by decide +kernel
theorem dX2_stakeOn_7 : decode cX2_stakeOn 7 = .ok (.aload_n 0, 1) := by decide +kernel
theorem dX2_stakeOn_8 : decode cX2_stakeOn 8 = .ok (.getfield 37, 3) := by decide +kernel
theorem dX2_stakeOn_11 : decode cX2_stakeOn 11 = .ok (.iload 4, 2) := by decide +kernel
theorem dX2_stakeOn_13 : decode cX2_stakeOn 13 = .ok (.baload, 1) := by decide +kernel
theorem dX2_stakeOn_14 : decode cX2_stakeOn 14 = .ok (.iload_n 3, 1) := by decide +kernel
theorem dX2_stakeOn_15 : decode cX2_stakeOn 15 = .ok (.if_icmp .ne 13, 3) := by decide +kernel
theorem dX2_stakeOn_18 : decode cX2_stakeOn 18 = .ok (.aload_n 0, 1) := by decide +kernel
theorem dX2_stakeOn_19 : decode cX2_stakeOn 19 = .ok (.getfield 34, 3) := by decide +kernel
theorem dX2_stakeOn_22 : decode cX2_stakeOn 22 = .ok (.iload 4, 2) := by decide +kernel
theorem dX2_stakeOn_24 : decode cX2_stakeOn 24 = .ok (.iaload, 1) := by decide +kernel
theorem dX2_stakeOn_25 : decode cX2_stakeOn 25 = .ok (.goto 4, 3) := by decide +kernel
theorem dX2_stakeOn_28 : decode cX2_stakeOn 28 = .ok (.iconst 0, 1) := by decide +kernel
theorem dX2_stakeOn_29 : decode cX2_stakeOn 29 = .ok (.ireturn, 1) := by decide +kernel
theorem dX2_stakedOn_0 : decode cX2_stakedOn 0 = .ok (.iconst 0, 1) := by decide +kernel
theorem dX2_stakedOn_1 : decode cX2_stakedOn 1 = .ok (.istore_n 3, 1) := by decide +kernel
theorem dX2_stakedOn_2 : decode cX2_stakedOn 2 = .ok (.iconst 0, 1) := by decide +kernel
theorem dX2_stakedOn_3 : decode cX2_stakedOn 3 = .ok (.istore 4, 2) := by decide +kernel
theorem dX2_stakedOn_5 : decode cX2_stakedOn 5 = .ok (.iload 4, 2) := by decide +kernel
theorem dX2_stakedOn_7 : decode cX2_stakedOn 7 = .ok (.iconst 5, 1) := by decide +kernel
theorem dX2_stakedOn_8 : decode cX2_stakedOn 8 = .ok (.if_icmp .ge 20, 3) := by decide +kernel
theorem dX2_stakedOn_11 : decode cX2_stakedOn 11 = .ok (.iload_n 3, 1) := by decide +kernel
theorem dX2_stakedOn_12 : decode cX2_stakedOn 12 = .ok (.aload_n 0, 1) := by decide +kernel
theorem dX2_stakedOn_13 : decode cX2_stakedOn 13 = .ok (.iload_n 1, 1) := by decide +kernel
theorem dX2_stakedOn_14 : decode cX2_stakedOn 14 = .ok (.iload 4, 2) := by decide +kernel
theorem dX2_stakedOn_16 : decode cX2_stakedOn 16 = .ok (.iload_n 2, 1) := by decide +kernel
theorem dX2_stakedOn_17 : decode cX2_stakedOn 17 = .ok (.invokevirtual 54, 3) := by decide +kernel
theorem dX2_stakedOn_20 : decode cX2_stakedOn 20 = .ok (.iadd, 1) := by decide +kernel
theorem dX2_stakedOn_21 : decode cX2_stakedOn 21 = .ok (.istore_n 3, 1) := by decide +kernel
theorem dX2_stakedOn_22 : decode cX2_stakedOn 22 = .ok (.iinc 4 1, 3) := by decide +kernel
theorem dX2_stakedOn_25 : decode cX2_stakedOn 25 = .ok (.goto (-20), 3) := by decide +kernel
theorem dX2_stakedOn_28 : decode cX2_stakedOn 28 = .ok (.iload_n 3, 1) := by decide +kernel
theorem dX2_stakedOn_29 : decode cX2_stakedOn 29 = .ok (.ireturn, 1) := by decide +kernel
theorem dX2_allStaked_0 : decode cX2_allStaked 0 = .ok (.aload_n 0, 1) := by decide +kernel
theorem dX2_allStaked_1 : decode cX2_allStaked 1 = .ok (.iload_n 1, 1) := by decide +kernel
theorem dX2_allStaked_2 : decode cX2_allStaked 2 = .ok (.iconst 1, 1) := by decide +kernel
theorem dX2_allStaked_3 : decode cX2_allStaked 3 = .ok (.invokevirtual 58, 3) := by decide +kernel
theorem dX2_allStaked_6 : decode cX2_allStaked 6 = .ok (.aload_n 0, 1) := by decide +kernel
theorem dX2_allStaked_7 : decode cX2_allStaked 7 = .ok (.iload_n 1, 1) := by decide +kernel
theorem dX2_allStaked_8 : decode cX2_allStaked 8 = .ok (.iconst 0, 1) := by decide +kernel
theorem dX2_allStaked_9 : decode cX2_allStaked 9 = .ok (.invokevirtual 58, 3) := by decide +kernel
theorem dX2_allStaked_12 : decode cX2_allStaked 12 = .ok (.iadd, 1) := by decide +kernel
theorem dX2_allStaked_13 : decode cX2_allStaked 13 = .ok (.ireturn, 1) := by decide +kernel
theorem dX2_share_0 : decode cX2_share 0 = .ok (.aload_n 0, 1) := by decide +kernel
theorem dX2_share_1 : decode cX2_share 1 = .ok (.iload_n 1, 1) := by decide +kernel
theorem dX2_share_2 : decode cX2_share 2 = .ok (.invokevirtual 62, 3) := by decide +kernel
theorem dX2_share_5 : decode cX2_share 5 = .ok (.aload_n 0, 1) := by decide +kernel
theorem dX2_share_6 : decode cX2_share 6 = .ok (.iload_n 1, 1) := by decide +kernel
theorem dX2_share_7 : decode cX2_share 7 = .ok (.iload_n 2, 1) := by decide +kernel
theorem dX2_share_8 : decode cX2_share 8 = .ok (.iload_n 3, 1) := by decide +kernel
theorem dX2_share_9 : decode cX2_share 9 = .ok (.invokevirtual 54, 3) := by decide +kernel
theorem dX2_share_12 : decode cX2_share 12 = .ok (.imul, 1) := by decide +kernel
theorem dX2_share_13 : decode cX2_share 13 = .ok (.aload_n 0, 1) := by decide +kernel
theorem dX2_share_14 : decode cX2_share 14 = .ok (.iload_n 1, 1) := by decide +kernel
theorem dX2_share_15 : decode cX2_share 15 = .ok (.iload_n 3, 1) := by decide +kernel
theorem dX2_share_16 : decode cX2_share 16 = .ok (.invokevirtual 58, 3) := by decide +kernel
theorem dX2_share_19 : decode cX2_share 19 = .ok (.invokestatic 66, 3) := by decide +kernel
theorem dX2_share_22 : decode cX2_share 22 = .ok (.ireturn, 1) := by decide +kernel
theorem dX2_unpaidOf_0 : decode cX2_unpaidOf 0 = .ok (.iconst 0, 1) := by decide +kernel
theorem dX2_unpaidOf_1 : decode cX2_unpaidOf 1 = .ok (.istore_n 2, 1) := by decide +kernel
theorem dX2_unpaidOf_2 : decode cX2_unpaidOf 2 = .ok (.iconst 0, 1) := by decide +kernel
theorem dX2_unpaidOf_3 : decode cX2_unpaidOf 3 = .ok (.istore_n 3, 1) := by decide +kernel
theorem dX2_unpaidOf_4 : decode cX2_unpaidOf 4 = .ok (.iload_n 3, 1) := by decide +kernel
theorem dX2_unpaidOf_5 : decode cX2_unpaidOf 5 = .ok (.aload_n 0, 1) := by decide +kernel
theorem dX2_unpaidOf_6 : decode cX2_unpaidOf 6 = .ok (.getfield 9, 3) := by decide +kernel
theorem dX2_unpaidOf_9 : decode cX2_unpaidOf 9 = .ok (.if_icmp .ge 30, 3) := by decide +kernel
theorem dX2_unpaidOf_12 : decode cX2_unpaidOf 12 = .ok (.aload_n 0, 1) := by decide +kernel
theorem dX2_unpaidOf_13 : decode cX2_unpaidOf 13 = .ok (.iload_n 3, 1) := by decide +kernel
theorem dX2_unpaidOf_14 : decode cX2_unpaidOf 14 = .ok (.invokevirtual 69, 3) := by decide +kernel
theorem dX2_unpaidOf_17 : decode cX2_unpaidOf 17 = .ok (.ifCond .ne 16, 3) := by decide +kernel
theorem dX2_unpaidOf_20 : decode cX2_unpaidOf 20 = .ok (.iload_n 2, 1) := by decide +kernel
theorem dX2_unpaidOf_21 : decode cX2_unpaidOf 21 = .ok (.aload_n 0, 1) := by decide +kernel
theorem dX2_unpaidOf_22 : decode cX2_unpaidOf 22 = .ok (.getfield 34, 3) := by decide +kernel
theorem dX2_unpaidOf_25 : decode cX2_unpaidOf 25 = .ok (.iload_n 3, 1) := by decide +kernel
theorem dX2_unpaidOf_26 : decode cX2_unpaidOf 26 = .ok (.iload_n 1, 1) := by decide +kernel
theorem dX2_unpaidOf_27 : decode cX2_unpaidOf 27 = .ok (.invokestatic 51, 3) := by decide +kernel
theorem dX2_unpaidOf_30 : decode cX2_unpaidOf 30 = .ok (.iaload, 1) := by decide +kernel
theorem dX2_unpaidOf_31 : decode cX2_unpaidOf 31 = .ok (.iadd, 1) := by decide +kernel
theorem dX2_unpaidOf_32 : decode cX2_unpaidOf 32 = .ok (.istore_n 2, 1) := by decide +kernel
theorem dX2_unpaidOf_33 : decode cX2_unpaidOf 33 = .ok (.iinc 3 1, 3) := by decide +kernel
theorem dX2_unpaidOf_36 : decode cX2_unpaidOf 36 = .ok (.goto (-32), 3) := by decide +kernel
theorem dX2_unpaidOf_39 : decode cX2_unpaidOf 39 = .ok (.iload_n 2, 1) := by decide +kernel
theorem dX2_unpaidOf_40 : decode cX2_unpaidOf 40 = .ok (.ireturn, 1) := by decide +kernel
theorem dX2_paidBetsOf_0 : decode cX2_paidBetsOf 0 = .ok (.iconst 0, 1) := by decide +kernel
theorem dX2_paidBetsOf_1 : decode cX2_paidBetsOf 1 = .ok (.istore_n 3, 1) := by decide +kernel
theorem dX2_paidBetsOf_2 : decode cX2_paidBetsOf 2 = .ok (.iconst 0, 1) := by decide +kernel
theorem dX2_paidBetsOf_3 : decode cX2_paidBetsOf 3 = .ok (.istore 4, 2) := by decide +kernel
theorem dX2_paidBetsOf_5 : decode cX2_paidBetsOf 5 = .ok (.iload 4, 2) := by decide +kernel
theorem dX2_paidBetsOf_7 : decode cX2_paidBetsOf 7 = .ok (.aload_n 0, 1) := by decide +kernel
theorem dX2_paidBetsOf_8 : decode cX2_paidBetsOf 8 = .ok (.getfield 9, 3) := by decide +kernel
theorem dX2_paidBetsOf_11 : decode cX2_paidBetsOf 11 = .ok (.if_icmp .ge 64, 3) := by decide +kernel
theorem dX2_paidBetsOf_14 : decode cX2_paidBetsOf 14 = .ok (.aload_n 0, 1) := by decide +kernel
theorem dX2_paidBetsOf_15 : decode cX2_paidBetsOf 15 = .ok (.getfield 37, 3) := by decide +kernel
theorem dX2_paidBetsOf_18 : decode cX2_paidBetsOf 18 = .ok (.iload 4, 2) := by decide +kernel
theorem dX2_paidBetsOf_20 : decode cX2_paidBetsOf 20 = .ok (.iload_n 1, 1) := by decide +kernel
theorem dX2_paidBetsOf_21 : decode cX2_paidBetsOf 21 = .ok (.invokestatic 51, 3) := by decide +kernel
theorem dX2_paidBetsOf_24 : decode cX2_paidBetsOf 24 = .ok (.baload, 1) := by decide +kernel
theorem dX2_paidBetsOf_25 : decode cX2_paidBetsOf 25 = .ok (.aload_n 0, 1) := by decide +kernel
theorem dX2_paidBetsOf_26 : decode cX2_paidBetsOf 26 = .ok (.iload 4, 2) := by decide +kernel
theorem dX2_paidBetsOf_28 : decode cX2_paidBetsOf 28 = .ok (.invokevirtual 41, 3) := by decide +kernel
theorem dX2_paidBetsOf_31 : decode cX2_paidBetsOf 31 = .ok (.if_icmp .ne 7, 3) := by decide +kernel
theorem dX2_paidBetsOf_34 : decode cX2_paidBetsOf 34 = .ok (.iconst 1, 1) := by decide +kernel
theorem dX2_paidBetsOf_35 : decode cX2_paidBetsOf 35 = .ok (.goto 4, 3) := by decide +kernel
theorem dX2_paidBetsOf_38 : decode cX2_paidBetsOf 38 = .ok (.iconst 0, 1) := by decide +kernel
theorem dX2_paidBetsOf_39 : decode cX2_paidBetsOf 39 = .ok (.istore 5, 2) := by decide +kernel
theorem dX2_paidBetsOf_41 : decode cX2_paidBetsOf 41 = .ok (.aload_n 0, 1) := by decide +kernel
theorem dX2_paidBetsOf_42 : decode cX2_paidBetsOf 42 = .ok (.iload 4, 2) := by decide +kernel
theorem dX2_paidBetsOf_44 : decode cX2_paidBetsOf 44 = .ok (.invokevirtual 69, 3) := by decide +kernel
theorem dX2_paidBetsOf_47 : decode cX2_paidBetsOf 47 = .ok (.ifCond .eq 22, 3) := by decide +kernel
theorem dX2_paidBetsOf_50 : decode cX2_paidBetsOf 50 = .ok (.aload_n 0, 1) := by decide +kernel
theorem dX2_paidBetsOf_51 : decode cX2_paidBetsOf 51 = .ok (.iload 4, 2) := by decide +kernel
theorem dX2_paidBetsOf_53 : decode cX2_paidBetsOf 53 = .ok (.iload_n 1, 1) := by decide +kernel
theorem dX2_paidBetsOf_54 : decode cX2_paidBetsOf 54 = .ok (.invokevirtual 72, 3) := by decide +kernel
theorem dX2_paidBetsOf_57 : decode cX2_paidBetsOf 57 = .ok (.ifCond .eq 12, 3) := by decide +kernel
theorem dX2_paidBetsOf_60 : decode cX2_paidBetsOf 60 = .ok (.iload 5, 2) := by decide +kernel
theorem dX2_paidBetsOf_62 : decode cX2_paidBetsOf 62 = .ok (.iload_n 2, 1) := by decide +kernel
theorem dX2_paidBetsOf_63 : decode cX2_paidBetsOf 63 = .ok (.if_icmp .ne 6, 3) := by decide +kernel
theorem dX2_paidBetsOf_66 : decode cX2_paidBetsOf 66 = .ok (.iinc 3 1, 3) := by decide +kernel
theorem dX2_paidBetsOf_69 : decode cX2_paidBetsOf 69 = .ok (.iinc 4 1, 3) := by decide +kernel
theorem dX2_paidBetsOf_72 : decode cX2_paidBetsOf 72 = .ok (.goto (-67), 3) := by decide +kernel
theorem dX2_paidBetsOf_75 : decode cX2_paidBetsOf 75 = .ok (.iload_n 3, 1) := by decide +kernel
theorem dX2_paidBetsOf_76 : decode cX2_paidBetsOf 76 = .ok (.ireturn, 1) := by decide +kernel
theorem dX2_tell_0 : decode cX2_tell 0 = .ok (.iload_n 2, 1) := by decide +kernel
theorem dX2_tell_1 : decode cX2_tell 1 = .ok (.tableswitch 101 0 5 #[39, 49, 59, 66, 80, 94], 39) := by decide +kernel
theorem dX2_tell_40 : decode cX2_tell 40 = .ok (.aload_n 0, 1) := by decide +kernel
theorem dX2_tell_41 : decode cX2_tell 41 = .ok (.getfield 25, 3) := by decide +kernel
theorem dX2_tell_44 : decode cX2_tell 44 = .ok (.iload_n 1, 1) := by decide +kernel
theorem dX2_tell_45 : decode cX2_tell 45 = .ok (.iaload, 1) := by decide +kernel
theorem dX2_tell_46 : decode cX2_tell 46 = .ok (.invokestatic 76, 3) := by decide +kernel
theorem dX2_tell_49 : decode cX2_tell 49 = .ok (.ireturn, 1) := by decide +kernel
theorem dX2_tell_50 : decode cX2_tell 50 = .ok (.aload_n 0, 1) := by decide +kernel
theorem dX2_tell_51 : decode cX2_tell 51 = .ok (.getfield 25, 3) := by decide +kernel
theorem dX2_tell_54 : decode cX2_tell 54 = .ok (.iload_n 1, 1) := by decide +kernel
theorem dX2_tell_55 : decode cX2_tell 55 = .ok (.iaload, 1) := by decide +kernel
theorem dX2_tell_56 : decode cX2_tell 56 = .ok (.invokestatic 79, 3) := by decide +kernel
theorem dX2_tell_59 : decode cX2_tell 59 = .ok (.ireturn, 1) := by decide +kernel
theorem dX2_tell_60 : decode cX2_tell 60 = .ok (.aload_n 0, 1) := by decide +kernel
theorem dX2_tell_61 : decode cX2_tell 61 = .ok (.getfield 31, 3) := by decide +kernel
theorem dX2_tell_64 : decode cX2_tell 64 = .ok (.iload_n 1, 1) := by decide +kernel
theorem dX2_tell_65 : decode cX2_tell 65 = .ok (.iaload, 1) := by decide +kernel
theorem dX2_tell_66 : decode cX2_tell 66 = .ok (.ireturn, 1) := by decide +kernel
theorem dX2_tell_67 : decode cX2_tell 67 = .ok (.aload_n 0, 1) := by decide +kernel
theorem dX2_tell_68 : decode cX2_tell 68 = .ok (.iload_n 1, 1) := by decide +kernel
theorem dX2_tell_69 : decode cX2_tell 69 = .ok (.invokevirtual 41, 3) := by decide +kernel
theorem dX2_tell_72 : decode cX2_tell 72 = .ok (.ifCond .eq 7, 3) := by decide +kernel
theorem dX2_tell_75 : decode cX2_tell 75 = .ok (.iconst 1, 1) := by decide +kernel
theorem dX2_tell_76 : decode cX2_tell 76 = .ok (.goto 4, 3) := by decide +kernel
theorem dX2_tell_79 : decode cX2_tell 79 = .ok (.iconst 0, 1) := by decide +kernel
theorem dX2_tell_80 : decode cX2_tell 80 = .ok (.ireturn, 1) := by decide +kernel
theorem dX2_tell_81 : decode cX2_tell 81 = .ok (.aload_n 0, 1) := by decide +kernel
theorem dX2_tell_82 : decode cX2_tell 82 = .ok (.iload_n 1, 1) := by decide +kernel
theorem dX2_tell_83 : decode cX2_tell 83 = .ok (.invokevirtual 69, 3) := by decide +kernel
theorem dX2_tell_86 : decode cX2_tell 86 = .ok (.ifCond .eq 7, 3) := by decide +kernel
theorem dX2_tell_89 : decode cX2_tell 89 = .ok (.iconst 1, 1) := by decide +kernel
theorem dX2_tell_90 : decode cX2_tell 90 = .ok (.goto 4, 3) := by decide +kernel
theorem dX2_tell_93 : decode cX2_tell 93 = .ok (.iconst 0, 1) := by decide +kernel
theorem dX2_tell_94 : decode cX2_tell 94 = .ok (.ireturn, 1) := by decide +kernel
theorem dX2_tell_95 : decode cX2_tell 95 = .ok (.aload_n 0, 1) := by decide +kernel
theorem dX2_tell_96 : decode cX2_tell 96 = .ok (.iload_n 1, 1) := by decide +kernel
theorem dX2_tell_97 : decode cX2_tell 97 = .ok (.iconst 1, 1) := by decide +kernel
theorem dX2_tell_98 : decode cX2_tell 98 = .ok (.invokevirtual 58, 3) := by decide +kernel
theorem dX2_tell_101 : decode cX2_tell 101 = .ok (.ireturn, 1) := by decide +kernel
theorem dX2_tell_102 : decode cX2_tell 102 = .ok (.aload_n 0, 1) := by decide +kernel
theorem dX2_tell_103 : decode cX2_tell 103 = .ok (.iload_n 1, 1) := by decide +kernel
theorem dX2_tell_104 : decode cX2_tell 104 = .ok (.iconst 0, 1) := by decide +kernel
theorem dX2_tell_105 : decode cX2_tell 105 = .ok (.invokevirtual 58, 3) := by decide +kernel
theorem dX2_tell_108 : decode cX2_tell 108 = .ok (.ireturn, 1) := by decide +kernel
theorem dX3_init_0 : decode cX3_init 0 = .ok (.aload_n 0, 1) := by decide +kernel
theorem dX3_init_1 : decode cX3_init 1 = .ok (.invokespecial 3, 3) := by decide +kernel
theorem dX3_init_4 : decode cX3_init 4 = .ok (.aload_n 0, 1) := by decide +kernel
theorem dX3_init_5 : decode cX3_init 5 = .ok (.iconst 0, 1) := by decide +kernel
theorem dX3_init_6 : decode cX3_init 6 = .ok (.putfield 9, 3) := by decide +kernel
theorem dX3_init_9 : decode cX3_init 9 = .ok (.aload_n 0, 1) := by decide +kernel
theorem dX3_init_10 : decode cX3_init 10 = .ok (.bipush 6, 2) := by decide +kernel
theorem dX3_init_12 : decode cX3_init 12 = .ok (.newarray .int, 2) := by decide +kernel
theorem dX3_init_14 : decode cX3_init 14 = .ok (.putfield 15, 3) := by decide +kernel
theorem dX3_init_17 : decode cX3_init 17 = .ok (.aload_n 0, 1) := by decide +kernel
theorem dX3_init_18 : decode cX3_init 18 = .ok (.bipush 6, 2) := by decide +kernel
theorem dX3_init_20 : decode cX3_init 20 = .ok (.newarray .int, 2) := by decide +kernel
theorem dX3_init_22 : decode cX3_init 22 = .ok (.putfield 19, 3) := by decide +kernel
theorem dX3_init_25 : decode cX3_init 25 = .ok (.aload_n 0, 1) := by decide +kernel
theorem dX3_init_26 : decode cX3_init 26 = .ok (.sipush 2400, 3) := by decide +kernel
theorem dX3_init_29 : decode cX3_init 29 = .ok (.newarray .int, 2) := by decide +kernel
theorem dX3_init_31 : decode cX3_init 31 = .ok (.putfield 22, 3) := by decide +kernel
theorem dX3_init_34 : decode cX3_init 34 = .ok (.aload_n 0, 1) := by decide +kernel
theorem dX3_init_35 : decode cX3_init 35 = .ok (.sipush 400, 3) := by decide +kernel
theorem dX3_init_38 : decode cX3_init 38 = .ok (.newarray .int, 2) := by decide +kernel
theorem dX3_init_40 : decode cX3_init 40 = .ok (.putfield 25, 3) := by decide +kernel
theorem dX3_init_43 : decode cX3_init 43 = .ok (.aload_n 0, 1) := by decide +kernel
theorem dX3_init_44 : decode cX3_init 44 = .ok (.sipush 400, 3) := by decide +kernel
theorem dX3_init_47 : decode cX3_init 47 = .ok (.newarray .int, 2) := by decide +kernel
theorem dX3_init_49 : decode cX3_init 49 = .ok (.putfield 28, 3) := by decide +kernel
theorem dX3_init_52 : decode cX3_init 52 = .ok (.return_, 1) := by decide +kernel
theorem dX3_open_0 : decode cX3_open 0 = .ok (.aload_n 0, 1) := by decide +kernel
theorem dX3_open_1 : decode cX3_open 1 = .ok (.getfield 9, 3) := by decide +kernel
theorem dX3_open_4 : decode cX3_open 4 = .ok (.istore_n 3, 1) := by decide +kernel
theorem dX3_open_5 : decode cX3_open 5 = .ok (.aload_n 0, 1) := by decide +kernel
theorem dX3_open_6 : decode cX3_open 6 = .ok (.getfield 15, 3) := by decide +kernel
theorem dX3_open_9 : decode cX3_open 9 = .ok (.iload_n 3, 1) := by decide +kernel
theorem dX3_open_10 : decode cX3_open 10 = .ok (.iload_n 1, 1) := by decide +kernel
theorem dX3_open_11 : decode cX3_open 11 = .ok (.iastore, 1) := by decide +kernel
theorem dX3_open_12 : decode cX3_open 12 = .ok (.aload_n 0, 1) := by decide +kernel
theorem dX3_open_13 : decode cX3_open 13 = .ok (.getfield 19, 3) := by decide +kernel
theorem dX3_open_16 : decode cX3_open 16 = .ok (.iload_n 3, 1) := by decide +kernel
theorem dX3_open_17 : decode cX3_open 17 = .ok (.iload_n 2, 1) := by decide +kernel
theorem dX3_open_18 : decode cX3_open 18 = .ok (.iastore, 1) := by decide +kernel
theorem dX3_open_19 : decode cX3_open 19 = .ok (.aload_n 0, 1) := by decide +kernel
theorem dX3_open_20 : decode cX3_open 20 = .ok (.dup, 1) := by decide +kernel
theorem dX3_open_21 : decode cX3_open 21 = .ok (.getfield 9, 3) := by decide +kernel
theorem dX3_open_24 : decode cX3_open 24 = .ok (.iconst 1, 1) := by decide +kernel
theorem dX3_open_25 : decode cX3_open 25 = .ok (.iadd, 1) := by decide +kernel
theorem dX3_open_26 : decode cX3_open 26 = .ok (.putfield 9, 3) := by decide +kernel
theorem dX3_open_29 : decode cX3_open 29 = .ok (.iload_n 3, 1) := by decide +kernel
theorem dX3_open_30 : decode cX3_open 30 = .ok (.ireturn, 1) := by decide +kernel
theorem dX3_lay_0 : decode cX3_lay 0 = .ok (.iload 4, 2) := by decide +kernel
theorem dX3_lay_2 : decode cX3_lay 2 = .ok (.iload_n 2, 1) := by decide +kernel
theorem dX3_lay_3 : decode cX3_lay 3 = .ok (.isub, 1) := by decide +kernel
theorem dX3_lay_4 : decode cX3_lay 4 = .ok (.invokestatic 31, 3) := by decide +kernel
theorem dX3_lay_7 : decode cX3_lay 7 = .ok (.istore 6, 2) := by decide +kernel
theorem dX3_lay_9 : decode cX3_lay 9 = .ok (.iload 5, 2) := by decide +kernel
theorem dX3_lay_11 : decode cX3_lay 11 = .ok (.iload_n 3, 1) := by decide +kernel
theorem dX3_lay_12 : decode cX3_lay 12 = .ok (.isub, 1) := by decide +kernel
theorem dX3_lay_13 : decode cX3_lay 13 = .ok (.invokestatic 31, 3) := by decide +kernel
theorem dX3_lay_16 : decode cX3_lay 16 = .ok (.istore 7, 2) := by decide +kernel
theorem dX3_lay_18 : decode cX3_lay 18 = .ok (.iload 4, 2) := by decide +kernel
theorem dX3_lay_20 : decode cX3_lay 20 = .ok (.iload_n 2, 1) := by decide +kernel
theorem dX3_lay_21 : decode cX3_lay 21 = .ok (.isub, 1) := by decide +kernel
theorem dX3_lay_22 : decode cX3_lay 22 = .ok (.invokestatic 37, 3) := by decide +kernel
theorem dX3_lay_25 : decode cX3_lay 25 = .ok (.iload 5, 2) := by decide +kernel
theorem dX3_lay_27 : decode cX3_lay 27 = .ok (.iload_n 3, 1) := by decide +kernel
theorem dX3_lay_28 : decode cX3_lay 28 = .ok (.isub, 1) := by decide +kernel
theorem dX3_lay_29 : decode cX3_lay 29 = .ok (.invokestatic 37, 3) := by decide +kernel
theorem dX3_lay_32 : decode cX3_lay 32 = .ok (.invokestatic 42, 3) := by decide +kernel
theorem dX3_lay_35 : decode cX3_lay 35 = .ok (.istore 8, 2) := by decide +kernel
theorem dX3_lay_37 : decode cX3_lay 37 = .ok (.iconst 0, 1) := by decide +kernel
theorem dX3_lay_38 : decode cX3_lay 38 = .ok (.istore 9, 2) := by decide +kernel
theorem dX3_lay_40 : decode cX3_lay 40 = .ok (.iload 9, 2) := by decide +kernel
theorem dX3_lay_42 : decode cX3_lay 42 = .ok (.iload 8, 2) := by decide +kernel
theorem dX3_lay_44 : decode cX3_lay 44 = .ok (.if_icmp .gt 28, 3) := by decide +kernel
theorem dX3_lay_47 : decode cX3_lay 47 = .ok (.aload_n 0, 1) := by decide +kernel
theorem dX3_lay_48 : decode cX3_lay 48 = .ok (.iload_n 1, 1) := by decide +kernel
theorem dX3_lay_49 : decode cX3_lay 49 = .ok (.iload_n 2, 1) := by decide +kernel
theorem dX3_lay_50 : decode cX3_lay 50 = .ok (.iload 9, 2) := by decide +kernel
theorem dX3_lay_52 : decode cX3_lay 52 = .ok (.iload 6, 2) := by decide +kernel
theorem dX3_lay_54 : decode cX3_lay 54 = .ok (.imul, 1) := by decide +kernel
theorem dX3_lay_55 : decode cX3_lay 55 = .ok (.iadd, 1) := by decide +kernel
theorem dX3_lay_56 : decode cX3_lay 56 = .ok (.iload_n 3, 1) := by decide +kernel
theorem dX3_lay_57 : decode cX3_lay 57 = .ok (.iload 9, 2) := by decide +kernel
theorem dX3_lay_59 : decode cX3_lay 59 = .ok (.iload 7, 2) := by decide +kernel
theorem dX3_lay_61 : decode cX3_lay 61 = .ok (.imul, 1) := by decide +kernel
theorem dX3_lay_62 : decode cX3_lay 62 = .ok (.iadd, 1) := by decide +kernel
theorem dX3_lay_63 : decode cX3_lay 63 = .ok (.invokevirtual 46, 3) := by decide +kernel
theorem dX3_lay_66 : decode cX3_lay 66 = .ok (.iinc 9 1, 3) := by decide +kernel
theorem dX3_lay_69 : decode cX3_lay 69 = .ok (.goto (-29), 3) := by decide +kernel
theorem dX3_lay_72 : decode cX3_lay 72 = .ok (.return_, 1) := by decide +kernel
theorem dX3_cover_0 : decode cX3_cover 0 = .ok (.aload_n 0, 1) := by decide +kernel
theorem dX3_cover_1 : decode cX3_cover 1 = .ok (.iload_n 1, 1) := by decide +kernel
theorem dX3_cover_2 : decode cX3_cover 2 = .ok (.iload_n 2, 1) := by decide +kernel
theorem dX3_cover_3 : decode cX3_cover 3 = .ok (.iload_n 3, 1) := by decide +kernel
theorem dX3_cover_4 : decode cX3_cover 4 = .ok (.iconst 2, 1) := by decide +kernel
theorem dX3_cover_5 : decode cX3_cover 5 = .ok (.invokevirtual 50, 3) := by decide +kernel
theorem dX3_cover_8 : decode cX3_cover 8 = .ok (.aload_n 0, 1) := by decide +kernel
theorem dX3_cover_9 : decode cX3_cover 9 = .ok (.iload_n 1, 1) := by decide +kernel
theorem dX3_cover_10 : decode cX3_cover 10 = .ok (.iload_n 2, 1) := by decide +kernel
theorem dX3_cover_11 : decode cX3_cover 11 = .ok (.iconst 1, 1) := by decide +kernel
theorem dX3_cover_12 : decode cX3_cover 12 = .ok (.isub, 1) := by decide +kernel
theorem dX3_cover_13 : decode cX3_cover 13 = .ok (.iload_n 3, 1) := by decide +kernel
theorem dX3_cover_14 : decode cX3_cover 14 = .ok (.iconst 1, 1) := by decide +kernel
theorem dX3_cover_15 : decode cX3_cover 15 = .ok (.invokevirtual 50, 3) := by decide +kernel
theorem dX3_cover_18 : decode cX3_cover 18 = .ok (.aload_n 0, 1) := by decide +kernel
theorem dX3_cover_19 : decode cX3_cover 19 = .ok (.iload_n 1, 1) := by decide +kernel
theorem dX3_cover_20 : decode cX3_cover 20 = .ok (.iload_n 2, 1) := by decide +kernel
theorem dX3_cover_21 : decode cX3_cover 21 = .ok (.iconst 1, 1) := by decide +kernel
theorem dX3_cover_22 : decode cX3_cover 22 = .ok (.iadd, 1) := by decide +kernel
theorem dX3_cover_23 : decode cX3_cover 23 = .ok (.iload_n 3, 1) := by decide +kernel
theorem dX3_cover_24 : decode cX3_cover 24 = .ok (.iconst 1, 1) := by decide +kernel
theorem dX3_cover_25 : decode cX3_cover 25 = .ok (.invokevirtual 50, 3) := by decide +kernel
theorem dX3_cover_28 : decode cX3_cover 28 = .ok (.aload_n 0, 1) := by decide +kernel
theorem dX3_cover_29 : decode cX3_cover 29 = .ok (.iload_n 1, 1) := by decide +kernel
theorem dX3_cover_30 : decode cX3_cover 30 = .ok (.iload_n 2, 1) := by decide +kernel
theorem dX3_cover_31 : decode cX3_cover 31 = .ok (.iload_n 3, 1) := by decide +kernel
theorem dX3_cover_32 : decode cX3_cover 32 = .ok (.iconst 1, 1) := by decide +kernel
theorem dX3_cover_33 : decode cX3_cover 33 = .ok (.isub, 1) := by decide +kernel
theorem dX3_cover_34 : decode cX3_cover 34 = .ok (.iconst 1, 1) := by decide +kernel
theorem dX3_cover_35 : decode cX3_cover 35 = .ok (.invokevirtual 50, 3) := by decide +kernel
theorem dX3_cover_38 : decode cX3_cover 38 = .ok (.aload_n 0, 1) := by decide +kernel
theorem dX3_cover_39 : decode cX3_cover 39 = .ok (.iload_n 1, 1) := by decide +kernel
theorem dX3_cover_40 : decode cX3_cover 40 = .ok (.iload_n 2, 1) := by decide +kernel
theorem dX3_cover_41 : decode cX3_cover 41 = .ok (.iload_n 3, 1) := by decide +kernel
theorem dX3_cover_42 : decode cX3_cover 42 = .ok (.iconst 1, 1) := by decide +kernel
theorem dX3_cover_43 : decode cX3_cover 43 = .ok (.iadd, 1) := by decide +kernel
theorem dX3_cover_44 : decode cX3_cover 44 = .ok (.iconst 1, 1) := by decide +kernel
theorem dX3_cover_45 : decode cX3_cover 45 = .ok (.invokevirtual 50, 3) := by decide +kernel
theorem dX3_cover_48 : decode cX3_cover 48 = .ok (.iload_n 2, 1) := by decide +kernel
theorem dX3_cover_49 : decode cX3_cover 49 = .ok (.iload_n 3, 1) := by decide +kernel
theorem dX3_cover_50 : decode cX3_cover 50 = .ok (.invokestatic 54, 3) := by decide +kernel
theorem dX3_cover_53 : decode cX3_cover 53 = .ok (.istore 4, 2) := by decide +kernel
theorem dX3_cover_55 : decode cX3_cover 55 = .ok (.aload_n 0, 1) := by decide +kernel
theorem dX3_cover_56 : decode cX3_cover 56 = .ok (.getfield 25, 3) := by decide +kernel
theorem dX3_cover_59 : decode cX3_cover 59 = .ok (.iload 4, 2) := by decide +kernel
theorem dX3_cover_61 : decode cX3_cover 61 = .ok (.dup2, 1) := by decide +kernel
theorem dX3_cover_62 : decode cX3_cover 62 = .ok (.iaload, 1) := by decide +kernel
theorem dX3_cover_63 : decode cX3_cover 63 = .ok (.aload_n 0, 1) := by decide +kernel
theorem dX3_cover_64 : decode cX3_cover 64 = .ok (.getfield 19, 3) := by decide +kernel
theorem dX3_cover_67 : decode cX3_cover 67 = .ok (.iload_n 1, 1) := by decide +kernel
theorem dX3_cover_68 : decode cX3_cover 68 = .ok (.iaload, 1) := by decide +kernel
theorem dX3_cover_69 : decode cX3_cover 69 = .ok (.iadd, 1) := by decide +kernel
theorem dX3_cover_70 : decode cX3_cover 70 = .ok (.iastore, 1) := by decide +kernel
theorem dX3_cover_71 : decode cX3_cover 71 = .ok (.aload_n 0, 1) := by decide +kernel
theorem dX3_cover_72 : decode cX3_cover 72 = .ok (.getfield 28, 3) := by decide +kernel
theorem dX3_cover_75 : decode cX3_cover 75 = .ok (.iload 4, 2) := by decide +kernel
theorem dX3_cover_77 : decode cX3_cover 77 = .ok (.iaload, 1) := by decide +kernel
theorem dX3_cover_78 : decode cX3_cover 78 = .ok (.ifCond .eq 19, 3) := by decide +kernel
theorem dX3_cover_81 : decode cX3_cover 81 = .ok (.aload_n 0, 1) := by decide +kernel
theorem dX3_cover_82 : decode cX3_cover 82 = .ok (.getfield 15, 3) := by decide +kernel
theorem dX3_cover_85 : decode cX3_cover 85 = .ok (.iload_n 1, 1) := by decide +kernel
theorem dX3_cover_86 : decode cX3_cover 86 = .ok (.iaload, 1) := by decide +kernel
theorem dX3_cover_87 : decode cX3_cover 87 = .ok (.aload_n 0, 1) := by decide +kernel
theorem dX3_cover_88 : decode cX3_cover 88 = .ok (.getfield 28, 3) := by decide +kernel
theorem dX3_cover_91 : decode cX3_cover 91 = .ok (.iload 4, 2) := by decide +kernel
theorem dX3_cover_93 : decode cX3_cover 93 = .ok (.iaload, 1) := by decide +kernel
theorem dX3_cover_94 : decode cX3_cover 94 = .ok (.if_icmp .ge 7, 3) := by decide +kernel
theorem dX3_cover_97 : decode cX3_cover 97 = .ok (.iconst 1, 1) := by decide +kernel
theorem dX3_cover_98 : decode cX3_cover 98 = .ok (.goto 4, 3) := by decide +kernel
theorem dX3_cover_101 : decode cX3_cover 101 = .ok (.iconst 0, 1) := by decide +kernel
theorem dX3_cover_102 : decode cX3_cover 102 = .ok (.istore 5, 2) := by decide +kernel
theorem dX3_cover_104 : decode cX3_cover 104 = .ok (.aload_n 0, 1) := by decide +kernel
theorem dX3_cover_105 : decode cX3_cover 105 = .ok (.getfield 28, 3) := by decide +kernel
theorem dX3_cover_108 : decode cX3_cover 108 = .ok (.iload 4, 2) := by decide +kernel
theorem dX3_cover_110 : decode cX3_cover 110 = .ok (.iload 5, 2) := by decide +kernel
theorem dX3_cover_112 : decode cX3_cover 112 = .ok (.ifCond .eq 12, 3) := by decide +kernel
theorem dX3_cover_115 : decode cX3_cover 115 = .ok (.aload_n 0, 1) := by decide +kernel
theorem dX3_cover_116 : decode cX3_cover 116 = .ok (.getfield 15, 3) := by decide +kernel
theorem dX3_cover_119 : decode cX3_cover 119 = .ok (.iload_n 1, 1) := by decide +kernel
theorem dX3_cover_120 : decode cX3_cover 120 = .ok (.iaload, 1) := by decide +kernel
theorem dX3_cover_121 : decode cX3_cover 121 = .ok (.goto 10, 3) := by decide +kernel
theorem dX3_cover_124 : decode cX3_cover 124 = .ok (.aload_n 0, 1) := by decide +kernel
theorem dX3_cover_125 : decode cX3_cover 125 = .ok (.getfield 28, 3) := by decide +kernel
theorem dX3_cover_128 : decode cX3_cover 128 = .ok (.iload 4, 2) := by decide +kernel
theorem dX3_cover_130 : decode cX3_cover 130 = .ok (.iaload, 1) := by decide +kernel
theorem dX3_cover_131 : decode cX3_cover 131 = .ok (.iastore, 1) := by decide +kernel
theorem dX3_cover_132 : decode cX3_cover 132 = .ok (.return_, 1) := by decide +kernel
theorem dX3_raise_0 : decode cX3_raise 0 = .ok (.iload_n 2, 1) := by decide +kernel
theorem dX3_raise_1 : decode cX3_raise 1 = .ok (.iload_n 3, 1) := by decide +kernel
theorem dX3_raise_2 : decode cX3_raise 2 = .ok (.invokestatic 57, 3) := by decide +kernel
theorem dX3_raise_5 : decode cX3_raise 5 = .ok (.ifCond .eq 35, 3) := by decide +kernel
theorem dX3_raise_8 : decode cX3_raise 8 = .ok (.iload_n 1, 1) := by decide +kernel
theorem dX3_raise_9 : decode cX3_raise 9 = .ok (.sipush 400, 3) := by decide +kernel
theorem dX3_raise_12 : decode cX3_raise 12 = .ok (.imul, 1) := by decide +kernel
theorem dX3_raise_13 : decode cX3_raise 13 = .ok (.iload_n 2, 1) := by decide +kernel
theorem dX3_raise_14 : decode cX3_raise 14 = .ok (.iload_n 3, 1) := by decide +kernel
theorem dX3_raise_15 : decode cX3_raise 15 = .ok (.invokestatic 54, 3) := by decide +kernel
theorem dX3_raise_18 : decode cX3_raise 18 = .ok (.iadd, 1) := by decide +kernel
theorem dX3_raise_19 : decode cX3_raise 19 = .ok (.istore 5, 2) := by decide +kernel
theorem dX3_raise_21 : decode cX3_raise 21 = .ok (.aload_n 0, 1) := by decide +kernel
theorem dX3_raise_22 : decode cX3_raise 22 = .ok (.getfield 22, 3) := by decide +kernel
theorem dX3_raise_25 : decode cX3_raise 25 = .ok (.iload 5, 2) := by decide +kernel
theorem dX3_raise_27 : decode cX3_raise 27 = .ok (.aload_n 0, 1) := by decide +kernel
theorem dX3_raise_28 : decode cX3_raise 28 = .ok (.getfield 22, 3) := by decide +kernel
theorem dX3_raise_31 : decode cX3_raise 31 = .ok (.iload 5, 2) := by decide +kernel
theorem dX3_raise_33 : decode cX3_raise 33 = .ok (.iaload, 1) := by decide +kernel
theorem dX3_raise_34 : decode cX3_raise 34 = .ok (.iload 4, 2) := by decide +kernel
theorem dX3_raise_36 : decode cX3_raise 36 = .ok (.invokestatic 42, 3) := by decide +kernel
theorem dX3_raise_39 : decode cX3_raise 39 = .ok (.iastore, 1) := by decide +kernel
theorem dX3_raise_40 : decode cX3_raise 40 = .ok (.return_, 1) := by decide +kernel
theorem dX3_bend_0 : decode cX3_bend 0 = .ok (.iconst 0, 1) := by decide +kernel
theorem dX3_bend_1 : decode cX3_bend 1 = .ok (.istore_n 3, 1) := by decide +kernel
theorem dX3_bend_2 : decode cX3_bend 2 = .ok (.iconst 0, 1) := by decide +kernel
theorem dX3_bend_3 : decode cX3_bend 3 = .ok (.istore 4, 2) := by decide +kernel
theorem dX3_bend_5 : decode cX3_bend 5 = .ok (.iload 4, 2) := by decide +kernel
theorem dX3_bend_7 : decode cX3_bend 7 = .ok (.aload_n 0, 1) := by decide +kernel
theorem dX3_bend_8 : decode cX3_bend 8 = .ok (.getfield 9, 3) := by decide +kernel
theorem dX3_bend_11 : decode cX3_bend 11 = .ok (.if_icmp .ge 72, 3) := by decide +kernel
theorem dX3_bend_14 : decode cX3_bend 14 = .ok (.aload_n 0, 1) := by decide +kernel
theorem dX3_bend_15 : decode cX3_bend 15 = .ok (.getfield 22, 3) := by decide +kernel
theorem dX3_bend_18 : decode cX3_bend 18 = .ok (.iload 4, 2) := by decide +kernel
theorem dX3_bend_20 : decode cX3_bend 20 = .ok (.sipush 400, 3) := by decide +kernel
theorem dX3_bend_23 : decode cX3_bend 23 = .ok (.imul, 1) := by decide +kernel
theorem dX3_bend_24 : decode cX3_bend 24 = .ok (.iload_n 1, 1) := by decide +kernel
theorem dX3_bend_25 : decode cX3_bend 25 = .ok (.iadd, 1) := by decide +kernel
theorem dX3_bend_26 : decode cX3_bend 26 = .ok (.iaload, 1) := by decide +kernel
theorem dX3_bend_27 : decode cX3_bend 27 = .ok (.istore 5, 2) := by decide +kernel
theorem dX3_bend_29 : decode cX3_bend 29 = .ok (.aload_n 0, 1) := by decide +kernel
theorem dX3_bend_30 : decode cX3_bend 30 = .ok (.getfield 19, 3) := by decide +kernel
theorem dX3_bend_33 : decode cX3_bend 33 = .ok (.iload 4, 2) := by decide +kernel
theorem dX3_bend_35 : decode cX3_bend 35 = .ok (.iaload, 1) := by decide +kernel
theorem dX3_bend_36 : decode cX3_bend 36 = .ok (.iload_n 2, 1) := by decide +kernel
theorem dX3_bend_37 : decode cX3_bend 37 = .ok (.imul, 1) := by decide +kernel
theorem dX3_bend_38 : decode cX3_bend 38 = .ok (.aload_n 0, 1) := by decide +kernel
theorem dX3_bend_39 : decode cX3_bend 39 = .ok (.getfield 15, 3) := by decide +kernel
theorem dX3_bend_42 : decode cX3_bend 42 = .ok (.iload 4, 2) := by decide +kernel
theorem dX3_bend_44 : decode cX3_bend 44 = .ok (.iaload, 1) := by decide +kernel
theorem dX3_bend_45 : decode cX3_bend 45 = .ok (.invokestatic 61, 3) := by decide +kernel
theorem dX3_bend_48 : decode cX3_bend 48 = .ok (.istore 6, 2) := by decide +kernel
theorem dX3_bend_50 : decode cX3_bend 50 = .ok (.iload 5, 2) := by decide +kernel
theorem dX3_bend_52 : decode cX3_bend 52 = .ok (.iconst 2, 1) := by decide +kernel
theorem dX3_bend_53 : decode cX3_bend 53 = .ok (.if_icmp .ne 11, 3) := by decide +kernel
theorem dX3_bend_56 : decode cX3_bend 56 = .ok (.iload_n 3, 1) := by decide +kernel
theorem dX3_bend_57 : decode cX3_bend 57 = .ok (.iload 6, 2) := by decide +kernel
theorem dX3_bend_59 : decode cX3_bend 59 = .ok (.iadd, 1) := by decide +kernel
theorem dX3_bend_60 : decode cX3_bend 60 = .ok (.istore_n 3, 1) := by decide +kernel
theorem dX3_bend_61 : decode cX3_bend 61 = .ok (.goto 16, 3) := by decide +kernel
theorem dX3_bend_64 : decode cX3_bend 64 = .ok (.iload 5, 2) := by decide +kernel
theorem dX3_bend_66 : decode cX3_bend 66 = .ok (.iconst 1, 1) := by decide +kernel
theorem dX3_bend_67 : decode cX3_bend 67 = .ok (.if_icmp .ne 10, 3) := by decide +kernel
theorem dX3_bend_70 : decode cX3_bend 70 = .ok (.iload_n 3, 1) := by decide +kernel
theorem dX3_bend_71 : decode cX3_bend 71 = .ok (.iload 6, 2) := by decide +kernel
theorem dX3_bend_73 : decode cX3_bend 73 = .ok (.iconst 2, 1) := by decide +kernel
theorem dX3_bend_74 : decode cX3_bend 74 = .ok (.idiv, 1) := by decide +kernel
theorem dX3_bend_75 : decode cX3_bend 75 = .ok (.iadd, 1) := by decide +kernel
theorem dX3_bend_76 : decode cX3_bend 76 = .ok (.istore_n 3, 1) := by decide +kernel
theorem dX3_bend_77 : decode cX3_bend 77 = .ok (.iinc 4 1, 3) := by decide +kernel
theorem dX3_bend_80 : decode cX3_bend 80 = .ok (.goto (-75), 3) := by decide +kernel
theorem dX3_bend_83 : decode cX3_bend 83 = .ok (.iload_n 3, 1) := by decide +kernel
theorem dX3_bend_84 : decode cX3_bend 84 = .ok (.ireturn, 1) := by decide +kernel
theorem dX3_wetSpots_0 : decode cX3_wetSpots 0 = .ok (.iconst 0, 1) := by decide +kernel
theorem dX3_wetSpots_1 : decode cX3_wetSpots 1 = .ok (.istore_n 1, 1) := by decide +kernel
theorem dX3_wetSpots_2 : decode cX3_wetSpots 2 = .ok (.iconst 0, 1) := by decide +kernel
theorem dX3_wetSpots_3 : decode cX3_wetSpots 3 = .ok (.istore_n 2, 1) := by decide +kernel
theorem dX3_wetSpots_4 : decode cX3_wetSpots 4 = .ok (.iload_n 2, 1) := by decide +kernel
theorem dX3_wetSpots_5 : decode cX3_wetSpots 5 = .ok (.sipush 400, 3) := by decide +kernel
theorem dX3_wetSpots_8 : decode cX3_wetSpots 8 = .ok (.if_icmp .ge 21, 3) := by decide +kernel
theorem dX3_wetSpots_11 : decode cX3_wetSpots 11 = .ok (.aload_n 0, 1) := by decide +kernel
theorem dX3_wetSpots_12 : decode cX3_wetSpots 12 = .ok (.getfield 25, 3) := by decide +kernel
theorem dX3_wetSpots_15 : decode cX3_wetSpots 15 = .ok (.iload_n 2, 1) := by decide +kernel
theorem dX3_wetSpots_16 : decode cX3_wetSpots 16 = .ok (.iaload, 1) := by decide +kernel
theorem dX3_wetSpots_17 : decode cX3_wetSpots 17 = .ok (.ifCond .le 6, 3) := by decide +kernel
theorem dX3_wetSpots_20 : decode cX3_wetSpots 20 = .ok (.iinc 1 1, 3) := by decide +kernel
theorem dX3_wetSpots_23 : decode cX3_wetSpots 23 = .ok (.iinc 2 1, 3) := by decide +kernel
theorem dX3_wetSpots_26 : decode cX3_wetSpots 26 = .ok (.goto (-22), 3) := by decide +kernel
theorem dX3_wetSpots_29 : decode cX3_wetSpots 29 = .ok (.iload_n 1, 1) := by decide +kernel
theorem dX3_wetSpots_30 : decode cX3_wetSpots 30 = .ok (.ireturn, 1) := by decide +kernel
theorem dX4_init_0 : decode cX4_init 0 = .ok (.aload_n 0, 1) := by decide +kernel
theorem dX4_init_1 : decode cX4_init 1 = .ok (.invokespecial 3, 3) := by decide +kernel
theorem dX4_init_4 : decode cX4_init 4 = .ok (.aload_n 0, 1) := by decide +kernel
theorem dX4_init_5 : decode cX4_init 5 = .ok (.new 9, 3) := by decide +kernel
theorem dX4_init_8 : decode cX4_init 8 = .ok (.dup, 1) := by decide +kernel
theorem dX4_init_9 : decode cX4_init 9 = .ok (.invokespecial 11, 3) := by decide +kernel
theorem dX4_init_12 : decode cX4_init 12 = .ok (.putfield 12, 3) := by decide +kernel
theorem dX4_init_15 : decode cX4_init 15 = .ok (.aload_n 0, 1) := by decide +kernel
theorem dX4_init_16 : decode cX4_init 16 = .ok (.new 16, 3) := by decide +kernel
theorem dX4_init_19 : decode cX4_init 19 = .ok (.dup, 1) := by decide +kernel
theorem dX4_init_20 : decode cX4_init 20 = .ok (.invokespecial 18, 3) := by decide +kernel
theorem dX4_init_23 : decode cX4_init 23 = .ok (.putfield 19, 3) := by decide +kernel
theorem dX4_init_26 : decode cX4_init 26 = .ok (.aload_n 0, 1) := by decide +kernel
theorem dX4_init_27 : decode cX4_init 27 = .ok (.new 23, 3) := by decide +kernel
theorem dX4_init_30 : decode cX4_init 30 = .ok (.dup, 1) := by decide +kernel
theorem dX4_init_31 : decode cX4_init 31 = .ok (.invokespecial 25, 3) := by decide +kernel
theorem dX4_init_34 : decode cX4_init 34 = .ok (.putfield 26, 3) := by decide +kernel
theorem dX4_init_37 : decode cX4_init 37 = .ok (.aload_n 0, 1) := by decide +kernel
theorem dX4_init_38 : decode cX4_init 38 = .ok (.new 30, 3) := by decide +kernel
theorem dX4_init_41 : decode cX4_init 41 = .ok (.dup, 1) := by decide +kernel
theorem dX4_init_42 : decode cX4_init 42 = .ok (.invokespecial 32, 3) := by decide +kernel
theorem dX4_init_45 : decode cX4_init 45 = .ok (.putfield 33, 3) := by decide +kernel
theorem dX4_init_48 : decode cX4_init 48 = .ok (.aload_n 0, 1) := by decide +kernel
theorem dX4_init_49 : decode cX4_init 49 = .ok (.iconst 3, 1) := by decide +kernel
theorem dX4_init_50 : decode cX4_init 50 = .ok (.putfield 37, 3) := by decide +kernel
theorem dX4_init_53 : decode cX4_init 53 = .ok (.aload_n 0, 1) := by decide +kernel
theorem dX4_init_54 : decode cX4_init 54 = .ok (.iconst 0, 1) := by decide +kernel
theorem dX4_init_55 : decode cX4_init 55 = .ok (.putfield 41, 3) := by decide +kernel
theorem dX4_init_58 : decode cX4_init 58 = .ok (.return_, 1) := by decide +kernel
theorem dX4_vein_0 : decode cX4_vein 0 = .ok (.iload_n 1, 1) := by decide +kernel
theorem dX4_vein_1 : decode cX4_vein 1 = .ok (.iload_n 2, 1) := by decide +kernel
theorem dX4_vein_2 : decode cX4_vein 2 = .ok (.invokestatic 44, 3) := by decide +kernel
theorem dX4_vein_5 : decode cX4_vein 5 = .ok (.ifCond .eq 12, 3) := by decide +kernel
theorem dX4_vein_8 : decode cX4_vein 8 = .ok (.iload_n 3, 1) := by decide +kernel
theorem dX4_vein_9 : decode cX4_vein 9 = .ok (.iload 4, 2) := by decide +kernel
theorem dX4_vein_11 : decode cX4_vein 11 = .ok (.invokestatic 44, 3) := by decide +kernel
theorem dX4_vein_14 : decode cX4_vein 14 = .ok (.ifCond .ne 13, 3) := by decide +kernel
theorem dX4_vein_17 : decode cX4_vein 17 = .ok (.new 48, 3) := by decide +kernel
theorem dX4_vein_20 : decode cX4_vein 20 = .ok (.dup, 1) := by decide +kernel
theorem dX4_vein_21 : decode cX4_vein 21 = .ok (.ldc 50, 2) := by decide +kernel
theorem dX4_vein_23 : decode cX4_vein 23 = .ok (.invokespecial 52, 3) := by decide +kernel
theorem dX4_vein_26 : decode cX4_vein 26 = .ok (.athrow, 1) := by decide +kernel
theorem dX4_vein_27 : decode cX4_vein 27 = .ok (.iload_n 1, 1) := by decide +kernel
theorem dX4_vein_28 : decode cX4_vein 28 = .ok (.iload_n 2, 1) := by decide +kernel
theorem dX4_vein_29 : decode cX4_vein 29 = .ok (.iload_n 3, 1) := by decide +kernel
theorem dX4_vein_30 : decode cX4_vein 30 = .ok (.iload 4, 2) := by decide +kernel
theorem dX4_vein_32 : decode cX4_vein 32 = .ok (.invokestatic 55, 3) := by decide +kernel
theorem dX4_vein_35 : decode cX4_vein 35 = .ok (.ifCond .ne 13, 3) := by decide +kernel
theorem dX4_vein_38 : decode cX4_vein 38 = .ok (.new 59, 3) := by decide +kernel
theorem dX4_vein_41 : decode cX4_vein 41 = .ok (.dup, 1) := by decide +kernel
theorem dX4_vein_42 : decode cX4_vein 42 = .ok (.ldc 61, 2) := by decide +kernel
theorem dX4_vein_44 : decode cX4_vein 44 = .ok (.invokespecial 63, 3) := by decide +kernel
theorem dX4_vein_47 : decode cX4_vein 47 = .ok (.athrow, 1) := by decide +kernel
theorem dX4_vein_48 : decode cX4_vein 48 = .ok (.iload 5, 2) := by decide +kernel
theorem dX4_vein_50 : decode cX4_vein 50 = .ok (.iconst 1, 1) := by decide +kernel
theorem dX4_vein_51 : decode cX4_vein 51 = .ok (.bipush 20, 2) := by decide +kernel
theorem dX4_vein_53 : decode cX4_vein 53 = .ok (.invokestatic 64, 3) := by decide +kernel
theorem dX4_vein_56 : decode cX4_vein 56 = .ok (.ifCond .eq 14, 3) := by decide +kernel
theorem dX4_vein_59 : decode cX4_vein 59 = .ok (.iload 6, 2) := by decide +kernel
theorem dX4_vein_61 : decode cX4_vein 61 = .ok (.iconst 1, 1) := by decide +kernel
theorem dX4_vein_62 : decode cX4_vein 62 = .ok (.bipush 9, 2) := by decide +kernel
theorem dX4_vein_64 : decode cX4_vein 64 = .ok (.invokestatic 64, 3) := by decide +kernel
theorem dX4_vein_67 : decode cX4_vein 67 = .ok (.ifCond .ne 13, 3) := by decide +kernel
theorem dX4_vein_70 : decode cX4_vein 70 = .ok (.new 59, 3) := by decide +kernel
theorem dX4_vein_73 : decode cX4_vein 73 = .ok (.dup, 1) := by decide +kernel
theorem dX4_vein_74 : decode cX4_vein 74 = .ok (.ldc 68, 2) := by decide +kernel
theorem dX4_vein_76 : decode cX4_vein 76 = .ok (.invokespecial 63, 3) := by decide +kernel
theorem dX4_vein_79 : decode cX4_vein 79 = .ok (.athrow, 1) := by decide +kernel
theorem dX4_vein_80 : decode cX4_vein 80 = .ok (.aload_n 0, 1) := by decide +kernel
theorem dX4_vein_81 : decode cX4_vein 81 = .ok (.getfield 12, 3) := by decide +kernel
theorem dX4_vein_84 : decode cX4_vein 84 = .ok (.getfield 70, 3) := by decide +kernel
theorem dX4_vein_87 : decode cX4_vein 87 = .ok (.bipush 6, 2) := by decide +kernel
theorem dX4_vein_89 : decode cX4_vein 89 = .ok (.if_icmp .lt 13, 3) := by decide +kernel
theorem dX4_vein_92 : decode cX4_vein 92 = .ok (.new 73, 3) := by decide +kernel
theorem dX4_vein_95 : decode cX4_vein 95 = .ok (.dup, 1) := by decide +kernel
theorem dX4_vein_96 : decode cX4_vein 96 = .ok (.ldc 75, 2) := by decide +kernel
theorem dX4_vein_98 : decode cX4_vein 98 = .ok (.invokespecial 77, 3) := by decide +kernel
theorem dX4_vein_101 : decode cX4_vein 101 = .ok (.athrow, 1) := by decide +kernel
theorem dX4_vein_102 : decode cX4_vein 102 = .ok (.aload_n 0, 1) := by decide +kernel
theorem dX4_vein_103 : decode cX4_vein 103 = .ok (.getfield 12, 3) := by decide +kernel
theorem dX4_vein_106 : decode cX4_vein 106 = .ok (.iload 5, 2) := by decide +kernel
theorem dX4_vein_108 : decode cX4_vein 108 = .ok (.iload 6, 2) := by decide +kernel
theorem dX4_vein_110 : decode cX4_vein 110 = .ok (.invokevirtual 78, 3) := by decide +kernel
theorem dX4_vein_113 : decode cX4_vein 113 = .ok (.istore 7, 2) := by decide +kernel
theorem dX4_vein_115 : decode cX4_vein 115 = .ok (.aload_n 0, 1) := by decide +kernel
theorem dX4_vein_116 : decode cX4_vein 116 = .ok (.getfield 12, 3) := by decide +kernel
theorem dX4_vein_119 : decode cX4_vein 119 = .ok (.iload 7, 2) := by decide +kernel
theorem dX4_vein_121 : decode cX4_vein 121 = .ok (.iload_n 1, 1) := by decide +kernel
theorem dX4_vein_122 : decode cX4_vein 122 = .ok (.iload_n 2, 1) := by decide +kernel
theorem dX4_vein_123 : decode cX4_vein 123 = .ok (.iload_n 3, 1) := by decide +kernel
theorem dX4_vein_124 : decode cX4_vein 124 = .ok (.iload 4, 2) := by decide +kernel
theorem dX4_vein_126 : decode cX4_vein 126 = .ok (.invokevirtual 82, 3) := by decide +kernel
theorem dX4_vein_129 : decode cX4_vein 129 = .ok (.iload 7, 2) := by decide +kernel
theorem dX4_vein_131 : decode cX4_vein 131 = .ok (.ireturn, 1) := by decide +kernel
theorem dX4_dowser_0 : decode cX4_dowser 0 = .ok (.iload_n 1, 1) := by decide +kernel
theorem dX4_dowser_1 : decode cX4_dowser 1 = .ok (.iconst 0, 1) := by decide +kernel
theorem dX4_dowser_2 : decode cX4_dowser 2 = .ok (.bipush 9, 2) := by decide +kernel
theorem dX4_dowser_4 : decode cX4_dowser 4 = .ok (.invokestatic 64, 3) := by decide +kernel
theorem dX4_dowser_7 : decode cX4_dowser 7 = .ok (.ifCond .eq 13, 3) := by decide +kernel
theorem dX4_dowser_10 : decode cX4_dowser 10 = .ok (.iload_n 2, 1) := by decide +kernel
theorem dX4_dowser_11 : decode cX4_dowser 11 = .ok (.bipush (-3), 2) := by decide +kernel
theorem dX4_dowser_13 : decode cX4_dowser 13 = .ok (.iconst 3, 1) := by decide +kernel
theorem dX4_dowser_14 : decode cX4_dowser 14 = .ok (.invokestatic 64, 3) := by decide +kernel
theorem dX4_dowser_17 : decode cX4_dowser 17 = .ok (.ifCond .ne 13, 3) := by decide +kernel
theorem dX4_dowser_20 : decode cX4_dowser 20 = .ok (.new 59, 3) := by decide +kernel
theorem dX4_dowser_23 : decode cX4_dowser 23 = .ok (.dup, 1) := by decide +kernel
theorem dX4_dowser_24 : decode cX4_dowser 24 = .ok (.ldc 86, 2) := by decide +kernel
theorem dX4_dowser_26 : decode cX4_dowser 26 = .ok (.invokespecial 63, 3) := by decide +kernel
theorem dX4_dowser_29 : decode cX4_dowser 29 = .ok (.athrow, 1) := by decide +kernel
theorem dX4_dowser_30 : decode cX4_dowser 30 = .ok (.aload_n 0, 1) := by decide +kernel
theorem dX4_dowser_31 : decode cX4_dowser 31 = .ok (.getfield 19, 3) := by decide +kernel
theorem dX4_dowser_34 : decode cX4_dowser 34 = .ok (.getfield 88, 3) := by decide +kernel
theorem dX4_dowser_37 : decode cX4_dowser 37 = .ok (.iconst 5, 1) := by decide +kernel
theorem dX4_dowser_38 : decode cX4_dowser 38 = .ok (.if_icmp .lt 13, 3) := by decide +kernel
theorem dX4_dowser_41 : decode cX4_dowser 41 = .ok (.new 73, 3) := by decide +kernel
theorem dX4_dowser_44 : decode cX4_dowser 44 = .ok (.dup, 1) := by decide +kernel
theorem dX4_dowser_45 : decode cX4_dowser 45 = .ok (.ldc 89, 2) := by decide +kernel
theorem dX4_dowser_47 : decode cX4_dowser 47 = .ok (.invokespecial 77, 3) := by decide +kernel
theorem dX4_dowser_50 : decode cX4_dowser 50 = .ok (.athrow, 1) := by decide +kernel
theorem dX4_dowser_51 : decode cX4_dowser 51 = .ok (.aload_n 0, 1) := by decide +kernel
theorem dX4_dowser_52 : decode cX4_dowser 52 = .ok (.getfield 19, 3) := by decide +kernel
theorem dX4_dowser_55 : decode cX4_dowser 55 = .ok (.iload_n 1, 1) := by decide +kernel
theorem dX4_dowser_56 : decode cX4_dowser 56 = .ok (.iload_n 2, 1) := by decide +kernel
theorem dX4_dowser_57 : decode cX4_dowser 57 = .ok (.invokevirtual 91, 3) := by decide +kernel
theorem dX4_dowser_60 : decode cX4_dowser 60 = .ok (.ireturn, 1) := by decide +kernel
theorem dX4_setMark_0 : decode cX4_setMark 0 = .ok (.iload_n 1, 1) := by decide +kernel
theorem dX4_setMark_1 : decode cX4_setMark 1 = .ok (.iconst 1, 1) := by decide +kernel
theorem dX4_setMark_2 : decode cX4_setMark 2 = .ok (.bipush 30, 2) := by decide +kernel
theorem dX4_setMark_4 : decode cX4_setMark 4 = .ok (.invokestatic 64, 3) := by decide +kernel
theorem dX4_setMark_7 : decode cX4_setMark 7 = .ok (.ifCond .ne 13, 3) := by decide +kernel
theorem dX4_setMark_10 : decode cX4_setMark 10 = .ok (.new 59, 3) := by decide +kernel
theorem dX4_setMark_13 : decode cX4_setMark 13 = .ok (.dup, 1) := by decide +kernel
theorem dX4_setMark_14 : decode cX4_setMark 14 = .ok (.ldc 94, 2) := by decide +kernel
theorem dX4_setMark_16 : decode cX4_setMark 16 = .ok (.invokespecial 63, 3) := by decide +kernel
theorem dX4_setMark_19 : decode cX4_setMark 19 = .ok (.athrow, 1) := by decide +kernel
theorem dX4_setMark_20 : decode cX4_setMark 20 = .ok (.aload_n 0, 1) := by decide +kernel
theorem dX4_setMark_21 : decode cX4_setMark 21 = .ok (.getfield 37, 3) := by decide +kernel
theorem dX4_setMark_24 : decode cX4_setMark 24 = .ok (.istore_n 2, 1) := by decide +kernel
theorem dX4_setMark_25 : decode cX4_setMark 25 = .ok (.aload_n 0, 1) := by decide +kernel
theorem dX4_setMark_26 : decode cX4_setMark 26 = .ok (.iload_n 1, 1) := by decide +kernel
theorem dX4_setMark_27 : decode cX4_setMark 27 = .ok (.putfield 37, 3) := by decide +kernel
theorem dX4_setMark_30 : decode cX4_setMark 30 = .ok (.iload_n 2, 1) := by decide +kernel
theorem dX4_setMark_31 : decode cX4_setMark 31 = .ok (.ireturn, 1) := by decide +kernel
theorem dX4_walk_0 : decode cX4_walk 0 = .ok (.aload_n 0, 1) := by decide +kernel
theorem dX4_walk_1 : decode cX4_walk 1 = .ok (.iload_n 1, 1) := by decide +kernel
theorem dX4_walk_2 : decode cX4_walk 2 = .ok (.invokevirtual 96, 3) := by decide +kernel
theorem dX4_walk_5 : decode cX4_walk 5 = .ok (.ifCond .eq 21, 3) := by decide +kernel
theorem dX4_walk_8 : decode cX4_walk 8 = .ok (.iload_n 2, 1) := by decide +kernel
theorem dX4_walk_9 : decode cX4_walk 9 = .ok (.iload_n 3, 1) := by decide +kernel
theorem dX4_walk_10 : decode cX4_walk 10 = .ok (.invokestatic 44, 3) := by decide +kernel
theorem dX4_walk_13 : decode cX4_walk 13 = .ok (.ifCond .eq 13, 3) := by decide +kernel
theorem dX4_walk_16 : decode cX4_walk 16 = .ok (.iload 4, 2) := by decide +kernel
theorem dX4_walk_18 : decode cX4_walk 18 = .ok (.iload 5, 2) := by decide +kernel
theorem dX4_walk_20 : decode cX4_walk 20 = .ok (.invokestatic 44, 3) := by decide +kernel
theorem dX4_walk_23 : decode cX4_walk 23 = .ok (.ifCond .ne 13, 3) := by decide +kernel
theorem dX4_walk_26 : decode cX4_walk 26 = .ok (.new 48, 3) := by decide +kernel
theorem dX4_walk_29 : decode cX4_walk 29 = .ok (.dup, 1) := by decide +kernel
theorem dX4_walk_30 : decode cX4_walk 30 = .ok (.ldc 100, 2) := by decide +kernel
theorem dX4_walk_32 : decode cX4_walk 32 = .ok (.invokespecial 52, 3) := by decide +kernel
theorem dX4_walk_35 : decode cX4_walk 35 = .ok (.athrow, 1) := by decide +kernel
theorem dX4_walk_36 : decode cX4_walk 36 = .ok (.iconst 0, 1) := by decide +kernel
theorem dX4_walk_37 : decode cX4_walk 37 = .ok (.istore 6, 2) := by decide +kernel
theorem dX4_walk_39 : decode cX4_walk 39 = .ok (.iload 4, 2) := by decide +kernel
theorem dX4_walk_41 : decode cX4_walk 41 = .ok (.iload_n 2, 1) := by decide +kernel
theorem dX4_walk_42 : decode cX4_walk 42 = .ok (.isub, 1) := by decide +kernel
theorem dX4_walk_43 : decode cX4_walk 43 = .ok (.invokestatic 102, 3) := by decide +kernel
theorem dX4_walk_46 : decode cX4_walk 46 = .ok (.istore 7, 2) := by decide +kernel
theorem dX4_walk_48 : decode cX4_walk 48 = .ok (.iload 4, 2) := by decide +kernel
theorem dX4_walk_50 : decode cX4_walk 50 = .ok (.iload_n 2, 1) := by decide +kernel
theorem dX4_walk_51 : decode cX4_walk 51 = .ok (.isub, 1) := by decide +kernel
theorem dX4_walk_52 : decode cX4_walk 52 = .ok (.invokestatic 108, 3) := by decide +kernel
theorem dX4_walk_55 : decode cX4_walk 55 = .ok (.istore 8, 2) := by decide +kernel
theorem dX4_walk_57 : decode cX4_walk 57 = .ok (.iconst 0, 1) := by decide +kernel
theorem dX4_walk_58 : decode cX4_walk 58 = .ok (.istore 9, 2) := by decide +kernel
theorem dX4_walk_60 : decode cX4_walk 60 = .ok (.iload 9, 2) := by decide +kernel
theorem dX4_walk_62 : decode cX4_walk 62 = .ok (.iload 8, 2) := by decide +kernel
theorem dX4_walk_64 : decode cX4_walk 64 = .ok (.if_icmp .gt 30, 3) := by decide +kernel
theorem dX4_walk_67 : decode cX4_walk 67 = .ok (.iload 6, 2) := by decide +kernel
theorem dX4_walk_69 : decode cX4_walk 69 = .ok (.aload_n 0, 1) := by decide +kernel
theorem dX4_walk_70 : decode cX4_walk 70 = .ok (.iload_n 1, 1) := by decide +kernel
theorem dX4_walk_71 : decode cX4_walk 71 = .ok (.iload_n 2, 1) := by decide +kernel
theorem dX4_walk_72 : decode cX4_walk 72 = .ok (.iload 9, 2) := by decide +kernel
theorem dX4_walk_74 : decode cX4_walk 74 = .ok (.iload 7, 2) := by decide +kernel
theorem dX4_walk_76 : decode cX4_walk 76 = .ok (.imul, 1) := by decide +kernel
theorem dX4_walk_77 : decode cX4_walk 77 = .ok (.iadd, 1) := by decide +kernel
theorem dX4_walk_78 : decode cX4_walk 78 = .ok (.iload_n 3, 1) := by decide +kernel
theorem dX4_walk_79 : decode cX4_walk 79 = .ok (.invokestatic 113, 3) := by decide +kernel
theorem dX4_walk_82 : decode cX4_walk 82 = .ok (.invokevirtual 116, 3) := by decide +kernel
theorem dX4_walk_85 : decode cX4_walk 85 = .ok (.iadd, 1) := by decide +kernel
theorem dX4_walk_86 : decode cX4_walk 86 = .ok (.istore 6, 2) := by decide +kernel
theorem dX4_walk_88 : decode cX4_walk 88 = .ok (.iinc 9 1, 3) := by decide +kernel
theorem dX4_walk_91 : decode cX4_walk 91 = .ok (.goto (-31), 3) := by decide +kernel
theorem dX4_walk_94 : decode cX4_walk 94 = .ok (.iload 5, 2) := by decide +kernel
theorem dX4_walk_96 : decode cX4_walk 96 = .ok (.iload_n 3, 1) := by decide +kernel
theorem dX4_walk_97 : decode cX4_walk 97 = .ok (.isub, 1) := by decide +kernel
theorem dX4_walk_98 : decode cX4_walk 98 = .ok (.invokestatic 102, 3) := by decide +kernel
theorem dX4_walk_101 : decode cX4_walk 101 = .ok (.istore 9, 2) := by decide +kernel
theorem dX4_walk_103 : decode cX4_walk 103 = .ok (.iload 5, 2) := by decide +kernel
theorem dX4_walk_105 : decode cX4_walk 105 = .ok (.iload_n 3, 1) := by decide +kernel
theorem dX4_walk_106 : decode cX4_walk 106 = .ok (.isub, 1) := by decide +kernel
theorem dX4_walk_107 : decode cX4_walk 107 = .ok (.invokestatic 108, 3) := by decide +kernel
theorem dX4_walk_110 : decode cX4_walk 110 = .ok (.istore 10, 2) := by decide +kernel
theorem dX4_walk_112 : decode cX4_walk 112 = .ok (.iconst 1, 1) := by decide +kernel
theorem dX4_walk_113 : decode cX4_walk 113 = .ok (.istore 11, 2) := by decide +kernel
theorem dX4_walk_115 : decode cX4_walk 115 = .ok (.iload 11, 2) := by decide +kernel
theorem dX4_walk_117 : decode cX4_walk 117 = .ok (.iload 10, 2) := by decide +kernel
theorem dX4_walk_119 : decode cX4_walk 119 = .ok (.if_icmp .gt 31, 3) := by decide +kernel
theorem dX4_walk_122 : decode cX4_walk 122 = .ok (.iload 6, 2) := by decide +kernel
theorem dX4_walk_124 : decode cX4_walk 124 = .ok (.aload_n 0, 1) := by decide +kernel
theorem dX4_walk_125 : decode cX4_walk 125 = .ok (.iload_n 1, 1) := by decide +kernel
theorem dX4_walk_126 : decode cX4_walk 126 = .ok (.iload 4, 2) := by decide +kernel
theorem dX4_walk_128 : decode cX4_walk 128 = .ok (.iload_n 3, 1) := by decide +kernel
theorem dX4_walk_129 : decode cX4_walk 129 = .ok (.iload 11, 2) := by decide +kernel
theorem dX4_walk_131 : decode cX4_walk 131 = .ok (.iload 9, 2) := by decide +kernel
theorem dX4_walk_133 : decode cX4_walk 133 = .ok (.imul, 1) := by decide +kernel
theorem dX4_walk_134 : decode cX4_walk 134 = .ok (.iadd, 1) := by decide +kernel
theorem dX4_walk_135 : decode cX4_walk 135 = .ok (.invokestatic 113, 3) := by decide +kernel
theorem dX4_walk_138 : decode cX4_walk 138 = .ok (.invokevirtual 116, 3) := by decide +kernel
theorem dX4_walk_141 : decode cX4_walk 141 = .ok (.iadd, 1) := by decide +kernel
theorem dX4_walk_142 : decode cX4_walk 142 = .ok (.istore 6, 2) := by decide +kernel
theorem dX4_walk_144 : decode cX4_walk 144 = .ok (.iinc 11 1, 3) := by decide +kernel
theorem dX4_walk_147 : decode cX4_walk 147 = .ok (.goto (-32), 3) := by decide +kernel
theorem dX4_walk_150 : decode cX4_walk 150 = .ok (.iload 6, 2) := by decide +kernel
theorem dX4_walk_152 : decode cX4_walk 152 = .ok (.ireturn, 1) := by decide +kernel
theorem dX4_pull_0 : decode cX4_pull 0 = .ok (.iload_n 1, 1) := by decide +kernel
theorem dX4_pull_1 : decode cX4_pull 1 = .ok (.iload_n 2, 1) := by decide +kernel
theorem dX4_pull_2 : decode cX4_pull 2 = .ok (.invokestatic 44, 3) := by decide +kernel
theorem dX4_pull_5 : decode cX4_pull 5 = .ok (.ifCond .ne 13, 3) := by decide +kernel
theorem dX4_pull_8 : decode cX4_pull 8 = .ok (.new 48, 3) := by decide +kernel
theorem dX4_pull_11 : decode cX4_pull 11 = .ok (.dup, 1) := by decide +kernel
theorem dX4_pull_12 : decode cX4_pull 12 = .ok (.ldc 119, 2) := by decide +kernel
theorem dX4_pull_14 : decode cX4_pull 14 = .ok (.invokespecial 52, 3) := by decide +kernel
theorem dX4_pull_17 : decode cX4_pull 17 = .ok (.athrow, 1) := by decide +kernel
theorem dX4_pull_18 : decode cX4_pull 18 = .ok (.iload_n 1, 1) := by decide +kernel
theorem dX4_pull_19 : decode cX4_pull 19 = .ok (.iload_n 2, 1) := by decide +kernel
theorem dX4_pull_20 : decode cX4_pull 20 = .ok (.invokestatic 113, 3) := by decide +kernel
theorem dX4_pull_23 : decode cX4_pull 23 = .ok (.istore_n 3, 1) := by decide +kernel
theorem dX4_pull_24 : decode cX4_pull 24 = .ok (.aload_n 0, 1) := by decide +kernel
theorem dX4_pull_25 : decode cX4_pull 25 = .ok (.getfield 26, 3) := by decide +kernel
theorem dX4_pull_28 : decode cX4_pull 28 = .ok (.iload_n 3, 1) := by decide +kernel
theorem dX4_pull_29 : decode cX4_pull 29 = .ok (.invokevirtual 121, 3) := by decide +kernel
theorem dX4_pull_32 : decode cX4_pull 32 = .ok (.ifCond .ne 13, 3) := by decide +kernel
theorem dX4_pull_35 : decode cX4_pull 35 = .ok (.new 73, 3) := by decide +kernel
theorem dX4_pull_38 : decode cX4_pull 38 = .ok (.dup, 1) := by decide +kernel
theorem dX4_pull_39 : decode cX4_pull 39 = .ok (.ldc 124, 2) := by decide +kernel
theorem dX4_pull_41 : decode cX4_pull 41 = .ok (.invokespecial 77, 3) := by decide +kernel
theorem dX4_pull_44 : decode cX4_pull 44 = .ok (.athrow, 1) := by decide +kernel
theorem dX4_pull_45 : decode cX4_pull 45 = .ok (.aload_n 0, 1) := by decide +kernel
theorem dX4_pull_46 : decode cX4_pull 46 = .ok (.getfield 26, 3) := by decide +kernel
theorem dX4_pull_49 : decode cX4_pull 49 = .ok (.iload_n 3, 1) := by decide +kernel
theorem dX4_pull_50 : decode cX4_pull 50 = .ok (.invokevirtual 126, 3) := by decide +kernel
theorem dX4_pull_53 : decode cX4_pull 53 = .ok (.ireturn, 1) := by decide +kernel
theorem dX4_pit_0 : decode cX4_pit 0 = .ok (.iload_n 1, 1) := by decide +kernel
theorem dX4_pit_1 : decode cX4_pit 1 = .ok (.iload_n 2, 1) := by decide +kernel
theorem dX4_pit_2 : decode cX4_pit 2 = .ok (.invokestatic 44, 3) := by decide +kernel
theorem dX4_pit_5 : decode cX4_pit 5 = .ok (.ifCond .ne 13, 3) := by decide +kernel
theorem dX4_pit_8 : decode cX4_pit 8 = .ok (.new 48, 3) := by decide +kernel
theorem dX4_pit_11 : decode cX4_pit 11 = .ok (.dup, 1) := by decide +kernel
theorem dX4_pit_12 : decode cX4_pit 12 = .ok (.ldc 119, 2) := by decide +kernel
theorem dX4_pit_14 : decode cX4_pit 14 = .ok (.invokespecial 52, 3) := by decide +kernel
theorem dX4_pit_17 : decode cX4_pit 17 = .ok (.athrow, 1) := by decide +kernel
theorem dX4_pit_18 : decode cX4_pit 18 = .ok (.iload_n 1, 1) := by decide +kernel
theorem dX4_pit_19 : decode cX4_pit 19 = .ok (.iload_n 2, 1) := by decide +kernel
theorem dX4_pit_20 : decode cX4_pit 20 = .ok (.invokestatic 113, 3) := by decide +kernel
theorem dX4_pit_23 : decode cX4_pit 23 = .ok (.istore_n 3, 1) := by decide +kernel
theorem dX4_pit_24 : decode cX4_pit 24 = .ok (.aload_n 0, 1) := by decide +kernel
theorem dX4_pit_25 : decode cX4_pit 25 = .ok (.getfield 33, 3) := by decide +kernel
theorem dX4_pit_28 : decode cX4_pit 28 = .ok (.getfield 129, 3) := by decide +kernel
theorem dX4_pit_31 : decode cX4_pit 31 = .ok (.bipush 10, 2) := by decide +kernel
theorem dX4_pit_33 : decode cX4_pit 33 = .ok (.if_icmp .ge 15, 3) := by decide +kernel
theorem dX4_pit_36 : decode cX4_pit 36 = .ok (.aload_n 0, 1) := by decide +kernel
theorem dX4_pit_37 : decode cX4_pit 37 = .ok (.getfield 33, 3) := by decide +kernel
theorem dX4_pit_40 : decode cX4_pit 40 = .ok (.getfield 130, 3) := by decide +kernel
theorem dX4_pit_43 : decode cX4_pit 43 = .ok (.iload_n 3, 1) := by decide +kernel
theorem dX4_pit_44 : decode cX4_pit 44 = .ok (.iaload, 1) := by decide +kernel
theorem dX4_pit_45 : decode cX4_pit 45 = .ok (.ifCond .lt 13, 3) := by decide +kernel
theorem dX4_pit_48 : decode cX4_pit 48 = .ok (.new 73, 3) := by decide +kernel
theorem dX4_pit_51 : decode cX4_pit 51 = .ok (.dup, 1) := by decide +kernel
theorem dX4_pit_52 : decode cX4_pit 52 = .ok (.ldc 134, 2) := by decide +kernel
theorem dX4_pit_54 : decode cX4_pit 54 = .ok (.invokespecial 77, 3) := by decide +kernel
theorem dX4_pit_57 : decode cX4_pit 57 = .ok (.athrow, 1) := by decide +kernel
theorem dX4_pit_58 : decode cX4_pit 58 = .ok (.aload_n 0, 1) := by decide +kernel
theorem dX4_pit_59 : decode cX4_pit 59 = .ok (.getfield 33, 3) := by decide +kernel
theorem dX4_pit_62 : decode cX4_pit 62 = .ok (.iload_n 3, 1) := by decide +kernel
theorem dX4_pit_63 : decode cX4_pit 63 = .ok (.aload_n 0, 1) := by decide +kernel
theorem dX4_pit_64 : decode cX4_pit 64 = .ok (.getfield 12, 3) := by decide +kernel
theorem dX4_pit_67 : decode cX4_pit 67 = .ok (.getfield 136, 3) := by decide +kernel
theorem dX4_pit_70 : decode cX4_pit 70 = .ok (.iload_n 3, 1) := by decide +kernel
theorem dX4_pit_71 : decode cX4_pit 71 = .ok (.iaload, 1) := by decide +kernel
theorem dX4_pit_72 : decode cX4_pit 72 = .ok (.invokevirtual 139, 3) := by decide +kernel
theorem dX4_pit_75 : decode cX4_pit 75 = .ok (.ireturn, 1) := by decide +kernel
theorem dX4_bet_0 : decode cX4_bet 0 = .ok (.aload_n 0, 1) := by decide +kernel
theorem dX4_bet_1 : decode cX4_bet 1 = .ok (.iload_n 1, 1) := by decide +kernel
theorem dX4_bet_2 : decode cX4_bet 2 = .ok (.invokevirtual 96, 3) := by decide +kernel
theorem dX4_bet_5 : decode cX4_bet 5 = .ok (.ifCond .eq 11, 3) := by decide +kernel
theorem dX4_bet_8 : decode cX4_bet 8 = .ok (.aload_n 0, 1) := by decide +kernel
theorem dX4_bet_9 : decode cX4_bet 9 = .ok (.iload_n 2, 1) := by decide +kernel
theorem dX4_bet_10 : decode cX4_bet 10 = .ok (.invokevirtual 140, 3) := by decide +kernel
theorem dX4_bet_13 : decode cX4_bet 13 = .ok (.ifCond .ne 13, 3) := by decide +kernel
theorem dX4_bet_16 : decode cX4_bet 16 = .ok (.new 48, 3) := by decide +kernel
theorem dX4_bet_19 : decode cX4_bet 19 = .ok (.dup, 1) := by decide +kernel
theorem dX4_bet_20 : decode cX4_bet 20 = .ok (.ldc 143, 2) := by decide +kernel
theorem dX4_bet_22 : decode cX4_bet 22 = .ok (.invokespecial 52, 3) := by decide +kernel
theorem dX4_bet_25 : decode cX4_bet 25 = .ok (.athrow, 1) := by decide +kernel
theorem dX4_bet_26 : decode cX4_bet 26 = .ok (.iload_n 3, 1) := by decide +kernel
theorem dX4_bet_27 : decode cX4_bet 27 = .ok (.iconst 1, 1) := by decide +kernel
theorem dX4_bet_28 : decode cX4_bet 28 = .ok (.bipush 99, 2) := by decide +kernel
theorem dX4_bet_30 : decode cX4_bet 30 = .ok (.invokestatic 64, 3) := by decide +kernel
theorem dX4_bet_33 : decode cX4_bet 33 = .ok (.ifCond .ne 13, 3) := by decide +kernel
theorem dX4_bet_36 : decode cX4_bet 36 = .ok (.new 59, 3) := by decide +kernel
theorem dX4_bet_39 : decode cX4_bet 39 = .ok (.dup, 1) := by decide +kernel
theorem dX4_bet_40 : decode cX4_bet 40 = .ok (.ldc 145, 2) := by decide +kernel
theorem dX4_bet_42 : decode cX4_bet 42 = .ok (.invokespecial 63, 3) := by decide +kernel
theorem dX4_bet_45 : decode cX4_bet 45 = .ok (.athrow, 1) := by decide +kernel
theorem dX4_bet_46 : decode cX4_bet 46 = .ok (.aload_n 0, 1) := by decide +kernel
theorem dX4_bet_47 : decode cX4_bet 47 = .ok (.getfield 33, 3) := by decide +kernel
theorem dX4_bet_50 : decode cX4_bet 50 = .ok (.getfield 147, 3) := by decide +kernel
theorem dX4_bet_53 : decode cX4_bet 53 = .ok (.iload_n 2, 1) := by decide +kernel
theorem dX4_bet_54 : decode cX4_bet 54 = .ok (.iaload, 1) := by decide +kernel
theorem dX4_bet_55 : decode cX4_bet 55 = .ok (.ifCond .gt 28, 3) := by decide +kernel
theorem dX4_bet_58 : decode cX4_bet 58 = .ok (.aload_n 0, 1) := by decide +kernel
theorem dX4_bet_59 : decode cX4_bet 59 = .ok (.getfield 33, 3) := by decide +kernel
theorem dX4_bet_62 : decode cX4_bet 62 = .ok (.iload_n 2, 1) := by decide +kernel
theorem dX4_bet_63 : decode cX4_bet 63 = .ok (.iload_n 1, 1) := by decide +kernel
theorem dX4_bet_64 : decode cX4_bet 64 = .ok (.invokevirtual 150, 3) := by decide +kernel
theorem dX4_bet_67 : decode cX4_bet 67 = .ok (.ifCond .ne 16, 3) := by decide +kernel
theorem dX4_bet_70 : decode cX4_bet 70 = .ok (.aload_n 0, 1) := by decide +kernel
theorem dX4_bet_71 : decode cX4_bet 71 = .ok (.getfield 19, 3) := by decide +kernel
theorem dX4_bet_74 : decode cX4_bet 74 = .ok (.getfield 153, 3) := by decide +kernel
theorem dX4_bet_77 : decode cX4_bet 77 = .ok (.iload_n 1, 1) := by decide +kernel
theorem dX4_bet_78 : decode cX4_bet 78 = .ok (.iaload, 1) := by decide +kernel
theorem dX4_bet_79 : decode cX4_bet 79 = .ok (.iload_n 3, 1) := by decide +kernel
theorem dX4_bet_80 : decode cX4_bet 80 = .ok (.if_icmp .ge 13, 3) := by decide +kernel
theorem dX4_bet_83 : decode cX4_bet 83 = .ok (.new 73, 3) := by decide +kernel
theorem dX4_bet_86 : decode cX4_bet 86 = .ok (.dup, 1) := by decide +kernel
theorem dX4_bet_87 : decode cX4_bet 87 = .ok (.ldc 156, 2) := by decide +kernel
theorem dX4_bet_89 : decode cX4_bet 89 = .ok (.invokespecial 77, 3) := by decide +kernel
theorem dX4_bet_92 : decode cX4_bet 92 = .ok (.athrow, 1) := by decide +kernel
theorem dX4_bet_93 : decode cX4_bet 93 = .ok (.aload_n 0, 1) := by decide +kernel
theorem dX4_bet_94 : decode cX4_bet 94 = .ok (.getfield 33, 3) := by decide +kernel
theorem dX4_bet_97 : decode cX4_bet 97 = .ok (.iload_n 2, 1) := by decide +kernel
theorem dX4_bet_98 : decode cX4_bet 98 = .ok (.iload_n 1, 1) := by decide +kernel
theorem dX4_bet_99 : decode cX4_bet 99 = .ok (.iload_n 3, 1) := by decide +kernel
theorem dX4_bet_100 : decode cX4_bet 100 = .ok (.iload 4, 2) := by decide +kernel
theorem dX4_bet_102 : decode cX4_bet 102 = .ok (.invokevirtual 158, 3) := by decide +kernel
theorem dX4_bet_105 : decode cX4_bet 105 = .ok (.aload_n 0, 1) := by decide +kernel
theorem dX4_bet_106 : decode cX4_bet 106 = .ok (.getfield 19, 3) := by decide +kernel
theorem dX4_bet_109 : decode cX4_bet 109 = .ok (.getfield 153, 3) := by decide +kernel
theorem dX4_bet_112 : decode cX4_bet 112 = .ok (.iload_n 1, 1) := by decide +kernel
theorem dX4_bet_113 : decode cX4_bet 113 = .ok (.dup2, 1) := by decide +kernel
theorem dX4_bet_114 : decode cX4_bet 114 = .ok (.iaload, 1) := by decide +kernel
theorem dX4_bet_115 : decode cX4_bet 115 = .ok (.iload_n 3, 1) := by decide +kernel
theorem dX4_bet_116 : decode cX4_bet 116 = .ok (.isub, 1) := by decide +kernel
theorem dX4_bet_117 : decode cX4_bet 117 = .ok (.iastore, 1) := by decide +kernel
theorem dX4_bet_118 : decode cX4_bet 118 = .ok (.aload_n 0, 1) := by decide +kernel
theorem dX4_bet_119 : decode cX4_bet 119 = .ok (.getfield 19, 3) := by decide +kernel
theorem dX4_bet_122 : decode cX4_bet 122 = .ok (.getfield 153, 3) := by decide +kernel
theorem dX4_bet_125 : decode cX4_bet 125 = .ok (.iload_n 1, 1) := by decide +kernel
theorem dX4_bet_126 : decode cX4_bet 126 = .ok (.iaload, 1) := by decide +kernel
theorem dX4_bet_127 : decode cX4_bet 127 = .ok (.ireturn, 1) := by decide +kernel
theorem dX4_dig_0 : decode cX4_dig 0 = .ok (.aload_n 0, 1) := by decide +kernel
theorem dX4_dig_1 : decode cX4_dig 1 = .ok (.iload_n 1, 1) := by decide +kernel
theorem dX4_dig_2 : decode cX4_dig 2 = .ok (.invokevirtual 140, 3) := by decide +kernel
theorem dX4_dig_5 : decode cX4_dig 5 = .ok (.ifCond .ne 13, 3) := by decide +kernel
theorem dX4_dig_8 : decode cX4_dig 8 = .ok (.new 48, 3) := by decide +kernel
theorem dX4_dig_11 : decode cX4_dig 11 = .ok (.dup, 1) := by decide +kernel
theorem dX4_dig_12 : decode cX4_dig 12 = .ok (.ldc 162, 2) := by decide +kernel
theorem dX4_dig_14 : decode cX4_dig 14 = .ok (.invokespecial 52, 3) := by decide +kernel
theorem dX4_dig_17 : decode cX4_dig 17 = .ok (.athrow, 1) := by decide +kernel
theorem dX4_dig_18 : decode cX4_dig 18 = .ok (.iload_n 2, 1) := by decide +kernel
theorem dX4_dig_19 : decode cX4_dig 19 = .ok (.iconst 1, 1) := by decide +kernel
theorem dX4_dig_20 : decode cX4_dig 20 = .ok (.bipush 20, 2) := by decide +kernel
theorem dX4_dig_22 : decode cX4_dig 22 = .ok (.invokestatic 64, 3) := by decide +kernel
theorem dX4_dig_25 : decode cX4_dig 25 = .ok (.ifCond .ne 13, 3) := by decide +kernel
theorem dX4_dig_28 : decode cX4_dig 28 = .ok (.new 59, 3) := by decide +kernel
theorem dX4_dig_31 : decode cX4_dig 31 = .ok (.dup, 1) := by decide +kernel
theorem dX4_dig_32 : decode cX4_dig 32 = .ok (.ldc 164, 2) := by decide +kernel
theorem dX4_dig_34 : decode cX4_dig 34 = .ok (.invokespecial 63, 3) := by decide +kernel
theorem dX4_dig_37 : decode cX4_dig 37 = .ok (.athrow, 1) := by decide +kernel
theorem dX4_dig_38 : decode cX4_dig 38 = .ok (.aload_n 0, 1) := by decide +kernel
theorem dX4_dig_39 : decode cX4_dig 39 = .ok (.getfield 33, 3) := by decide +kernel
theorem dX4_dig_42 : decode cX4_dig 42 = .ok (.iload_n 1, 1) := by decide +kernel
theorem dX4_dig_43 : decode cX4_dig 43 = .ok (.invokevirtual 166, 3) := by decide +kernel
theorem dX4_dig_46 : decode cX4_dig 46 = .ok (.ifCond .eq 13, 3) := by decide +kernel
theorem dX4_dig_49 : decode cX4_dig 49 = .ok (.new 73, 3) := by decide +kernel
theorem dX4_dig_52 : decode cX4_dig 52 = .ok (.dup, 1) := by decide +kernel
theorem dX4_dig_53 : decode cX4_dig 53 = .ok (.ldc 169, 2) := by decide +kernel
theorem dX4_dig_55 : decode cX4_dig 55 = .ok (.invokespecial 77, 3) := by decide +kernel
theorem dX4_dig_58 : decode cX4_dig 58 = .ok (.athrow, 1) := by decide +kernel
theorem dX4_dig_59 : decode cX4_dig 59 = .ok (.aload_n 0, 1) := by decide +kernel
theorem dX4_dig_60 : decode cX4_dig 60 = .ok (.getfield 33, 3) := by decide +kernel
theorem dX4_dig_63 : decode cX4_dig 63 = .ok (.iload_n 1, 1) := by decide +kernel
theorem dX4_dig_64 : decode cX4_dig 64 = .ok (.iload_n 2, 1) := by decide +kernel
theorem dX4_dig_65 : decode cX4_dig 65 = .ok (.invokevirtual 171, 3) := by decide +kernel
theorem dX4_dig_68 : decode cX4_dig 68 = .ok (.aload_n 0, 1) := by decide +kernel
theorem dX4_dig_69 : decode cX4_dig 69 = .ok (.getfield 33, 3) := by decide +kernel
theorem dX4_dig_72 : decode cX4_dig 72 = .ok (.iload_n 1, 1) := by decide +kernel
theorem dX4_dig_73 : decode cX4_dig 73 = .ok (.invokevirtual 166, 3) := by decide +kernel
theorem dX4_dig_76 : decode cX4_dig 76 = .ok (.ifCond .eq 8, 3) := by decide +kernel
theorem dX4_dig_79 : decode cX4_dig 79 = .ok (.aload_n 0, 1) := by decide +kernel
theorem dX4_dig_80 : decode cX4_dig 80 = .ok (.iload_n 1, 1) := by decide +kernel
theorem dX4_dig_81 : decode cX4_dig 81 = .ok (.invokevirtual 175, 3) := by decide +kernel
theorem dX4_dig_84 : decode cX4_dig 84 = .ok (.aload_n 0, 1) := by decide +kernel
theorem dX4_dig_85 : decode cX4_dig 85 = .ok (.getfield 33, 3) := by decide +kernel
theorem dX4_dig_88 : decode cX4_dig 88 = .ok (.getfield 147, 3) := by decide +kernel
theorem dX4_dig_91 : decode cX4_dig 91 = .ok (.iload_n 1, 1) := by decide +kernel
theorem dX4_dig_92 : decode cX4_dig 92 = .ok (.iaload, 1) := by decide +kernel
theorem dX4_dig_93 : decode cX4_dig 93 = .ok (.ireturn, 1) := by decide +kernel
theorem dX4_spot_0 : decode cX4_spot 0 = .ok (.iload_n 1, 1) := by decide +kernel
theorem dX4_spot_1 : decode cX4_spot 1 = .ok (.iload_n 2, 1) := by decide +kernel
theorem dX4_spot_2 : decode cX4_spot 2 = .ok (.invokestatic 44, 3) := by decide +kernel
theorem dX4_spot_5 : decode cX4_spot 5 = .ok (.ifCond .eq 12, 3) := by decide +kernel
theorem dX4_spot_8 : decode cX4_spot 8 = .ok (.iload_n 3, 1) := by decide +kernel
theorem dX4_spot_9 : decode cX4_spot 9 = .ok (.iconst 0, 1) := by decide +kernel
theorem dX4_spot_10 : decode cX4_spot 10 = .ok (.iconst 5, 1) := by decide +kernel
theorem dX4_spot_11 : decode cX4_spot 11 = .ok (.invokestatic 64, 3) := by decide +kernel
theorem dX4_spot_14 : decode cX4_spot 14 = .ok (.ifCond .ne 13, 3) := by decide +kernel
theorem dX4_spot_17 : decode cX4_spot 17 = .ok (.new 48, 3) := by decide +kernel
theorem dX4_spot_20 : decode cX4_spot 20 = .ok (.dup, 1) := by decide +kernel
theorem dX4_spot_21 : decode cX4_spot 21 = .ok (.ldc 179, 2) := by decide +kernel
theorem dX4_spot_23 : decode cX4_spot 23 = .ok (.invokespecial 52, 3) := by decide +kernel
theorem dX4_spot_26 : decode cX4_spot 26 = .ok (.athrow, 1) := by decide +kernel
theorem dX4_spot_27 : decode cX4_spot 27 = .ok (.aload_n 0, 1) := by decide +kernel
theorem dX4_spot_28 : decode cX4_spot 28 = .ok (.iload_n 1, 1) := by decide +kernel
theorem dX4_spot_29 : decode cX4_spot 29 = .ok (.iload_n 2, 1) := by decide +kernel
theorem dX4_spot_30 : decode cX4_spot 30 = .ok (.invokestatic 113, 3) := by decide +kernel
theorem dX4_spot_33 : decode cX4_spot 33 = .ok (.iload_n 3, 1) := by decide +kernel
theorem dX4_spot_34 : decode cX4_spot 34 = .ok (.invokevirtual 181, 3) := by decide +kernel
theorem dX4_spot_37 : decode cX4_spot 37 = .ok (.ireturn, 1) := by decide +kernel
theorem dX4_rod_0 : decode cX4_rod 0 = .ok (.aload_n 0, 1) := by decide +kernel
theorem dX4_rod_1 : decode cX4_rod 1 = .ok (.iload_n 1, 1) := by decide +kernel
theorem dX4_rod_2 : decode cX4_rod 2 = .ok (.invokevirtual 96, 3) := by decide +kernel
theorem dX4_rod_5 : decode cX4_rod 5 = .ok (.ifCond .eq 11, 3) := by decide +kernel
theorem dX4_rod_8 : decode cX4_rod 8 = .ok (.iload_n 2, 1) := by decide +kernel
theorem dX4_rod_9 : decode cX4_rod 9 = .ok (.iload_n 3, 1) := by decide +kernel
theorem dX4_rod_10 : decode cX4_rod 10 = .ok (.invokestatic 44, 3) := by decide +kernel
theorem dX4_rod_13 : decode cX4_rod 13 = .ok (.ifCond .ne 13, 3) := by decide +kernel
theorem dX4_rod_16 : decode cX4_rod 16 = .ok (.new 48, 3) := by decide +kernel
theorem dX4_rod_19 : decode cX4_rod 19 = .ok (.dup, 1) := by decide +kernel
theorem dX4_rod_20 : decode cX4_rod 20 = .ok (.ldc 100, 2) := by decide +kernel
theorem dX4_rod_22 : decode cX4_rod 22 = .ok (.invokespecial 52, 3) := by decide +kernel
theorem dX4_rod_25 : decode cX4_rod 25 = .ok (.athrow, 1) := by decide +kernel
theorem dX4_rod_26 : decode cX4_rod 26 = .ok (.aload_n 0, 1) := by decide +kernel
theorem dX4_rod_27 : decode cX4_rod 27 = .ok (.iload_n 1, 1) := by decide +kernel
theorem dX4_rod_28 : decode cX4_rod 28 = .ok (.iload_n 2, 1) := by decide +kernel
theorem dX4_rod_29 : decode cX4_rod 29 = .ok (.iload_n 3, 1) := by decide +kernel
theorem dX4_rod_30 : decode cX4_rod 30 = .ok (.invokestatic 113, 3) := by decide +kernel
theorem dX4_rod_33 : decode cX4_rod 33 = .ok (.invokevirtual 184, 3) := by decide +kernel
theorem dX4_rod_36 : decode cX4_rod 36 = .ok (.ireturn, 1) := by decide +kernel
theorem dX4_told_0 : decode cX4_told 0 = .ok (.aload_n 0, 1) := by decide +kernel
theorem dX4_told_1 : decode cX4_told 1 = .ok (.iload_n 1, 1) := by decide +kernel
theorem dX4_told_2 : decode cX4_told 2 = .ok (.invokevirtual 96, 3) := by decide +kernel
theorem dX4_told_5 : decode cX4_told 5 = .ok (.ifCond .eq 13, 3) := by decide +kernel
theorem dX4_told_8 : decode cX4_told 8 = .ok (.iload_n 2, 1) := by decide +kernel
theorem dX4_told_9 : decode cX4_told 9 = .ok (.iconst 0, 1) := by decide +kernel
theorem dX4_told_10 : decode cX4_told 10 = .ok (.bipush 7, 2) := by decide +kernel
theorem dX4_told_12 : decode cX4_told 12 = .ok (.invokestatic 64, 3) := by decide +kernel
theorem dX4_told_15 : decode cX4_told 15 = .ok (.ifCond .ne 13, 3) := by decide +kernel
theorem dX4_told_18 : decode cX4_told 18 = .ok (.new 48, 3) := by decide +kernel
theorem dX4_told_21 : decode cX4_told 21 = .ok (.dup, 1) := by decide +kernel
theorem dX4_told_22 : decode cX4_told 22 = .ok (.ldc 187, 2) := by decide +kernel
theorem dX4_told_24 : decode cX4_told 24 = .ok (.invokespecial 52, 3) := by decide +kernel
theorem dX4_told_27 : decode cX4_told 27 = .ok (.athrow, 1) := by decide +kernel
theorem dX4_told_28 : decode cX4_told 28 = .ok (.aload_n 0, 1) := by decide +kernel
theorem dX4_told_29 : decode cX4_told 29 = .ok (.iload_n 1, 1) := by decide +kernel
theorem dX4_told_30 : decode cX4_told 30 = .ok (.iload_n 2, 1) := by decide +kernel
theorem dX4_told_31 : decode cX4_told 31 = .ok (.invokevirtual 189, 3) := by decide +kernel
theorem dX4_told_34 : decode cX4_told 34 = .ok (.ireturn, 1) := by decide +kernel
theorem dX4_about_0 : decode cX4_about 0 = .ok (.aload_n 0, 1) := by decide +kernel
theorem dX4_about_1 : decode cX4_about 1 = .ok (.iload_n 1, 1) := by decide +kernel
theorem dX4_about_2 : decode cX4_about 2 = .ok (.invokevirtual 140, 3) := by decide +kernel
theorem dX4_about_5 : decode cX4_about 5 = .ok (.ifCond .eq 13, 3) := by decide +kernel
theorem dX4_about_8 : decode cX4_about 8 = .ok (.iload_n 2, 1) := by decide +kernel
theorem dX4_about_9 : decode cX4_about 9 = .ok (.iconst 0, 1) := by decide +kernel
theorem dX4_about_10 : decode cX4_about 10 = .ok (.bipush 6, 2) := by decide +kernel
theorem dX4_about_12 : decode cX4_about 12 = .ok (.invokestatic 64, 3) := by decide +kernel
theorem dX4_about_15 : decode cX4_about 15 = .ok (.ifCond .ne 13, 3) := by decide +kernel
theorem dX4_about_18 : decode cX4_about 18 = .ok (.new 48, 3) := by decide +kernel
theorem dX4_about_21 : decode cX4_about 21 = .ok (.dup, 1) := by decide +kernel
theorem dX4_about_22 : decode cX4_about 22 = .ok (.ldc 192, 2) := by decide +kernel
theorem dX4_about_24 : decode cX4_about 24 = .ok (.invokespecial 52, 3) := by decide +kernel
theorem dX4_about_27 : decode cX4_about 27 = .ok (.athrow, 1) := by decide +kernel
theorem dX4_about_28 : decode cX4_about 28 = .ok (.aload_n 0, 1) := by decide +kernel
theorem dX4_about_29 : decode cX4_about 29 = .ok (.getfield 33, 3) := by decide +kernel
theorem dX4_about_32 : decode cX4_about 32 = .ok (.iload_n 1, 1) := by decide +kernel
theorem dX4_about_33 : decode cX4_about 33 = .ok (.iload_n 2, 1) := by decide +kernel
theorem dX4_about_34 : decode cX4_about 34 = .ok (.invokevirtual 194, 3) := by decide +kernel
theorem dX4_about_37 : decode cX4_about 37 = .ok (.ireturn, 1) := by decide +kernel
theorem dX4_count_0 : decode cX4_count 0 = .ok (.iload_n 1, 1) := by decide +kernel
theorem dX4_count_1 : decode cX4_count 1 = .ok (.iconst 0, 1) := by decide +kernel
theorem dX4_count_2 : decode cX4_count 2 = .ok (.bipush 8, 2) := by decide +kernel
theorem dX4_count_4 : decode cX4_count 4 = .ok (.invokestatic 64, 3) := by decide +kernel
theorem dX4_count_7 : decode cX4_count 7 = .ok (.ifCond .ne 13, 3) := by decide +kernel
theorem dX4_count_10 : decode cX4_count 10 = .ok (.new 48, 3) := by decide +kernel
theorem dX4_count_13 : decode cX4_count 13 = .ok (.dup, 1) := by decide +kernel
theorem dX4_count_14 : decode cX4_count 14 = .ok (.ldc 197, 2) := by decide +kernel
theorem dX4_count_16 : decode cX4_count 16 = .ok (.invokespecial 52, 3) := by decide +kernel
theorem dX4_count_19 : decode cX4_count 19 = .ok (.athrow, 1) := by decide +kernel
theorem dX4_count_20 : decode cX4_count 20 = .ok (.aload_n 0, 1) := by decide +kernel
theorem dX4_count_21 : decode cX4_count 21 = .ok (.iload_n 1, 1) := by decide +kernel
theorem dX4_count_22 : decode cX4_count 22 = .ok (.invokevirtual 199, 3) := by decide +kernel
theorem dX4_count_25 : decode cX4_count 25 = .ok (.ireturn, 1) := by decide +kernel
theorem dX4_line_0 : decode cX4_line 0 = .ok (.iload_n 1, 1) := by decide +kernel
theorem dX4_line_1 : decode cX4_line 1 = .ok (.iconst 0, 1) := by decide +kernel
theorem dX4_line_2 : decode cX4_line 2 = .ok (.iconst 2, 1) := by decide +kernel
theorem dX4_line_3 : decode cX4_line 3 = .ok (.invokestatic 64, 3) := by decide +kernel
theorem dX4_line_6 : decode cX4_line 6 = .ok (.ifCond .ne 13, 3) := by decide +kernel
theorem dX4_line_9 : decode cX4_line 9 = .ok (.new 48, 3) := by decide +kernel
theorem dX4_line_12 : decode cX4_line 12 = .ok (.dup, 1) := by decide +kernel
theorem dX4_line_13 : decode cX4_line 13 = .ok (.ldc 197, 2) := by decide +kernel
theorem dX4_line_15 : decode cX4_line 15 = .ok (.invokespecial 52, 3) := by decide +kernel
theorem dX4_line_18 : decode cX4_line 18 = .ok (.athrow, 1) := by decide +kernel
theorem dX4_line_19 : decode cX4_line 19 = .ok (.aload_n 0, 1) := by decide +kernel
theorem dX4_line_20 : decode cX4_line 20 = .ok (.getfield 26, 3) := by decide +kernel
theorem dX4_line_23 : decode cX4_line 23 = .ok (.iload_n 1, 1) := by decide +kernel
theorem dX4_line_24 : decode cX4_line 24 = .ok (.invokevirtual 202, 3) := by decide +kernel
theorem dX4_line_27 : decode cX4_line 27 = .ok (.ireturn, 1) := by decide +kernel
theorem dX4_would_0 : decode cX4_would 0 = .ok (.aload_n 0, 1) := by decide +kernel
theorem dX4_would_1 : decode cX4_would 1 = .ok (.iload_n 1, 1) := by decide +kernel
theorem dX4_would_2 : decode cX4_would 2 = .ok (.invokevirtual 140, 3) := by decide +kernel
theorem dX4_would_5 : decode cX4_would 5 = .ok (.ifCond .eq 11, 3) := by decide +kernel
theorem dX4_would_8 : decode cX4_would 8 = .ok (.aload_n 0, 1) := by decide +kernel
theorem dX4_would_9 : decode cX4_would 9 = .ok (.iload_n 2, 1) := by decide +kernel
theorem dX4_would_10 : decode cX4_would 10 = .ok (.invokevirtual 96, 3) := by decide +kernel
theorem dX4_would_13 : decode cX4_would 13 = .ok (.ifCond .ne 13, 3) := by decide +kernel
theorem dX4_would_16 : decode cX4_would 16 = .ok (.new 48, 3) := by decide +kernel
theorem dX4_would_19 : decode cX4_would 19 = .ok (.dup, 1) := by decide +kernel
theorem dX4_would_20 : decode cX4_would 20 = .ok (.ldc 205, 2) := by decide +kernel
theorem dX4_would_22 : decode cX4_would 22 = .ok (.invokespecial 52, 3) := by decide +kernel
theorem dX4_would_25 : decode cX4_would 25 = .ok (.athrow, 1) := by decide +kernel
theorem dX4_would_26 : decode cX4_would 26 = .ok (.aload_n 0, 1) := by decide +kernel
theorem dX4_would_27 : decode cX4_would 27 = .ok (.getfield 33, 3) := by decide +kernel
theorem dX4_would_30 : decode cX4_would 30 = .ok (.iload_n 1, 1) := by decide +kernel
theorem dX4_would_31 : decode cX4_would 31 = .ok (.invokevirtual 166, 3) := by decide +kernel
theorem dX4_would_34 : decode cX4_would 34 = .ok (.ifCond .eq 5, 3) := by decide +kernel
theorem dX4_would_37 : decode cX4_would 37 = .ok (.iconst 0, 1) := by decide +kernel
theorem dX4_would_38 : decode cX4_would 38 = .ok (.ireturn, 1) := by decide +kernel
theorem dX4_would_39 : decode cX4_would 39 = .ok (.aload_n 0, 1) := by decide +kernel
theorem dX4_would_40 : decode cX4_would 40 = .ok (.getfield 33, 3) := by decide +kernel
theorem dX4_would_43 : decode cX4_would 43 = .ok (.iload_n 1, 1) := by decide +kernel
theorem dX4_would_44 : decode cX4_would 44 = .ok (.iload_n 2, 1) := by decide +kernel
theorem dX4_would_45 : decode cX4_would 45 = .ok (.iload_n 3, 1) := by decide +kernel
theorem dX4_would_46 : decode cX4_would 46 = .ok (.invokevirtual 207, 3) := by decide +kernel
theorem dX4_would_49 : decode cX4_would 49 = .ok (.ireturn, 1) := by decide +kernel
theorem dX4_best_0 : decode cX4_best 0 = .ok (.aload_n 0, 1) := by decide +kernel
theorem dX4_best_1 : decode cX4_best 1 = .ok (.iload_n 1, 1) := by decide +kernel
theorem dX4_best_2 : decode cX4_best 2 = .ok (.invokevirtual 96, 3) := by decide +kernel
theorem dX4_best_5 : decode cX4_best 5 = .ok (.ifCond .eq 12, 3) := by decide +kernel
theorem dX4_best_8 : decode cX4_best 8 = .ok (.iload_n 2, 1) := by decide +kernel
theorem dX4_best_9 : decode cX4_best 9 = .ok (.iconst 0, 1) := by decide +kernel
theorem dX4_best_10 : decode cX4_best 10 = .ok (.iconst 2, 1) := by decide +kernel
theorem dX4_best_11 : decode cX4_best 11 = .ok (.invokestatic 64, 3) := by decide +kernel
theorem dX4_best_14 : decode cX4_best 14 = .ok (.ifCond .ne 13, 3) := by decide +kernel
theorem dX4_best_17 : decode cX4_best 17 = .ok (.new 48, 3) := by decide +kernel
theorem dX4_best_20 : decode cX4_best 20 = .ok (.dup, 1) := by decide +kernel
theorem dX4_best_21 : decode cX4_best 21 = .ok (.ldc 187, 2) := by decide +kernel
theorem dX4_best_23 : decode cX4_best 23 = .ok (.invokespecial 52, 3) := by decide +kernel
theorem dX4_best_26 : decode cX4_best 26 = .ok (.athrow, 1) := by decide +kernel
theorem dX4_best_27 : decode cX4_best 27 = .ok (.aload_n 0, 1) := by decide +kernel
theorem dX4_best_28 : decode cX4_best 28 = .ok (.iload_n 1, 1) := by decide +kernel
theorem dX4_best_29 : decode cX4_best 29 = .ok (.invokevirtual 211, 3) := by decide +kernel
theorem dX4_best_32 : decode cX4_best 32 = .ok (.istore_n 3, 1) := by decide +kernel
theorem dX4_best_33 : decode cX4_best 33 = .ok (.iload_n 2, 1) := by decide +kernel
theorem dX4_best_34 : decode cX4_best 34 = .ok (.lookupswitch 36 #[(0, 26), (1, 31)], 26) := by decide +kernel
theorem dX4_best_60 : decode cX4_best 60 = .ok (.iload_n 3, 1) := by decide +kernel
theorem dX4_best_61 : decode cX4_best 61 = .ok (.invokestatic 214, 3) := by decide +kernel
theorem dX4_best_64 : decode cX4_best 64 = .ok (.ireturn, 1) := by decide +kernel
theorem dX4_best_65 : decode cX4_best 65 = .ok (.iload_n 3, 1) := by decide +kernel
theorem dX4_best_66 : decode cX4_best 66 = .ok (.invokestatic 217, 3) := by decide +kernel
theorem dX4_best_69 : decode cX4_best 69 = .ok (.ireturn, 1) := by decide +kernel
theorem dX4_best_70 : decode cX4_best 70 = .ok (.aload_n 0, 1) := by decide +kernel
theorem dX4_best_71 : decode cX4_best 71 = .ok (.iload_n 1, 1) := by decide +kernel
theorem dX4_best_72 : decode cX4_best 72 = .ok (.iload_n 3, 1) := by decide +kernel
theorem dX4_best_73 : decode cX4_best 73 = .ok (.invokevirtual 184, 3) := by decide +kernel
theorem dX4_best_76 : decode cX4_best 76 = .ok (.ireturn, 1) := by decide +kernel
theorem dX4_advise_0 : decode cX4_advise 0 = .ok (.iconst (-1), 1) := by decide +kernel
theorem dX4_advise_1 : decode cX4_advise 1 = .ok (.istore_n 1, 1) := by decide +kernel
theorem dX4_advise_2 : decode cX4_advise 2 = .ok (.iconst 0, 1) := by decide +kernel
theorem dX4_advise_3 : decode cX4_advise 3 = .ok (.istore_n 2, 1) := by decide +kernel
theorem dX4_advise_4 : decode cX4_advise 4 = .ok (.iconst 0, 1) := by decide +kernel
theorem dX4_advise_5 : decode cX4_advise 5 = .ok (.istore_n 3, 1) := by decide +kernel
theorem dX4_advise_6 : decode cX4_advise 6 = .ok (.iconst 0, 1) := by decide +kernel
theorem dX4_advise_7 : decode cX4_advise 7 = .ok (.istore 4, 2) := by decide +kernel
theorem dX4_advise_9 : decode cX4_advise 9 = .ok (.iload 4, 2) := by decide +kernel
theorem dX4_advise_11 : decode cX4_advise 11 = .ok (.aload_n 0, 1) := by decide +kernel
theorem dX4_advise_12 : decode cX4_advise 12 = .ok (.getfield 19, 3) := by decide +kernel
theorem dX4_advise_15 : decode cX4_advise 15 = .ok (.getfield 88, 3) := by decide +kernel
theorem dX4_advise_18 : decode cX4_advise 18 = .ok (.if_icmp .ge 59, 3) := by decide +kernel
theorem dX4_advise_21 : decode cX4_advise 21 = .ok (.aload_n 0, 1) := by decide +kernel
theorem dX4_advise_22 : decode cX4_advise 22 = .ok (.getfield 26, 3) := by decide +kernel
theorem dX4_advise_25 : decode cX4_advise 25 = .ok (.iload 4, 2) := by decide +kernel
theorem dX4_advise_27 : decode cX4_advise 27 = .ok (.invokevirtual 220, 3) := by decide +kernel
theorem dX4_advise_30 : decode cX4_advise 30 = .ok (.istore 5, 2) := by decide +kernel
theorem dX4_advise_32 : decode cX4_advise 32 = .ok (.aload_n 0, 1) := by decide +kernel
theorem dX4_advise_33 : decode cX4_advise 33 = .ok (.iload 4, 2) := by decide +kernel
theorem dX4_advise_35 : decode cX4_advise 35 = .ok (.invokevirtual 223, 3) := by decide +kernel
theorem dX4_advise_38 : decode cX4_advise 38 = .ok (.istore 6, 2) := by decide +kernel
theorem dX4_advise_40 : decode cX4_advise 40 = .ok (.iload 5, 2) := by decide +kernel
theorem dX4_advise_42 : decode cX4_advise 42 = .ok (.ifCond .le 29, 3) := by decide +kernel
theorem dX4_advise_45 : decode cX4_advise 45 = .ok (.iload_n 1, 1) := by decide +kernel
theorem dX4_advise_46 : decode cX4_advise 46 = .ok (.iconst (-1), 1) := by decide +kernel
theorem dX4_advise_47 : decode cX4_advise 47 = .ok (.if_icmp .eq 15, 3) := by decide +kernel
theorem dX4_advise_50 : decode cX4_advise 50 = .ok (.iload 6, 2) := by decide +kernel
theorem dX4_advise_52 : decode cX4_advise 52 = .ok (.iload 5, 2) := by decide +kernel
theorem dX4_advise_54 : decode cX4_advise 54 = .ok (.iload_n 3, 1) := by decide +kernel
theorem dX4_advise_55 : decode cX4_advise 55 = .ok (.iload_n 2, 1) := by decide +kernel
theorem dX4_advise_56 : decode cX4_advise 56 = .ok (.invokestatic 226, 3) := by decide +kernel
theorem dX4_advise_59 : decode cX4_advise 59 = .ok (.ifCond .eq 12, 3) := by decide +kernel
theorem dX4_advise_62 : decode cX4_advise 62 = .ok (.iload 4, 2) := by decide +kernel
theorem dX4_advise_64 : decode cX4_advise 64 = .ok (.istore_n 1, 1) := by decide +kernel
theorem dX4_advise_65 : decode cX4_advise 65 = .ok (.iload 5, 2) := by decide +kernel
theorem dX4_advise_67 : decode cX4_advise 67 = .ok (.istore_n 2, 1) := by decide +kernel
theorem dX4_advise_68 : decode cX4_advise 68 = .ok (.iload 6, 2) := by decide +kernel
theorem dX4_advise_70 : decode cX4_advise 70 = .ok (.istore_n 3, 1) := by decide +kernel
theorem dX4_advise_71 : decode cX4_advise 71 = .ok (.iinc 4 1, 3) := by decide +kernel
theorem dX4_advise_74 : decode cX4_advise 74 = .ok (.goto (-65), 3) := by decide +kernel
theorem dX4_advise_77 : decode cX4_advise 77 = .ok (.iload_n 1, 1) := by decide +kernel
theorem dX4_advise_78 : decode cX4_advise 78 = .ok (.ireturn, 1) := by decide +kernel
theorem dX4_mean_0 : decode cX4_mean 0 = .ok (.iconst 0, 1) := by decide +kernel
theorem dX4_mean_1 : decode cX4_mean 1 = .ok (.istore_n 1, 1) := by decide +kernel
theorem dX4_mean_2 : decode cX4_mean 2 = .ok (.iconst 0, 1) := by decide +kernel
theorem dX4_mean_3 : decode cX4_mean 3 = .ok (.istore_n 2, 1) := by decide +kernel
theorem dX4_mean_4 : decode cX4_mean 4 = .ok (.iload_n 2, 1) := by decide +kernel
theorem dX4_mean_5 : decode cX4_mean 5 = .ok (.sipush 400, 3) := by decide +kernel
theorem dX4_mean_8 : decode cX4_mean 8 = .ok (.if_icmp .ge 32, 3) := by decide +kernel
theorem dX4_mean_11 : decode cX4_mean 11 = .ok (.aload_n 0, 1) := by decide +kernel
theorem dX4_mean_12 : decode cX4_mean 12 = .ok (.getfield 26, 3) := by decide +kernel
theorem dX4_mean_15 : decode cX4_mean 15 = .ok (.iload_n 2, 1) := by decide +kernel
theorem dX4_mean_16 : decode cX4_mean 16 = .ok (.invokevirtual 121, 3) := by decide +kernel
theorem dX4_mean_19 : decode cX4_mean 19 = .ok (.ifCond .eq 15, 3) := by decide +kernel
theorem dX4_mean_22 : decode cX4_mean 22 = .ok (.iload_n 1, 1) := by decide +kernel
theorem dX4_mean_23 : decode cX4_mean 23 = .ok (.aload_n 0, 1) := by decide +kernel
theorem dX4_mean_24 : decode cX4_mean 24 = .ok (.getfield 12, 3) := by decide +kernel
theorem dX4_mean_27 : decode cX4_mean 27 = .ok (.getfield 229, 3) := by decide +kernel
theorem dX4_mean_30 : decode cX4_mean 30 = .ok (.iload_n 2, 1) := by decide +kernel
theorem dX4_mean_31 : decode cX4_mean 31 = .ok (.iaload, 1) := by decide +kernel
theorem dX4_mean_32 : decode cX4_mean 32 = .ok (.iadd, 1) := by decide +kernel
theorem dX4_mean_33 : decode cX4_mean 33 = .ok (.istore_n 1, 1) := by decide +kernel
theorem dX4_mean_34 : decode cX4_mean 34 = .ok (.iinc 2 1, 3) := by decide +kernel
theorem dX4_mean_37 : decode cX4_mean 37 = .ok (.goto (-33), 3) := by decide +kernel
theorem dX4_mean_40 : decode cX4_mean 40 = .ok (.aload_n 0, 1) := by decide +kernel
theorem dX4_mean_41 : decode cX4_mean 41 = .ok (.getfield 26, 3) := by decide +kernel
theorem dX4_mean_44 : decode cX4_mean 44 = .ok (.getfield 232, 3) := by decide +kernel
theorem dX4_mean_47 : decode cX4_mean 47 = .ok (.ifCond .le 17, 3) := by decide +kernel
theorem dX4_mean_50 : decode cX4_mean 50 = .ok (.iload_n 1, 1) := by decide +kernel
theorem dX4_mean_51 : decode cX4_mean 51 = .ok (.i2d, 1) := by decide +kernel
theorem dX4_mean_52 : decode cX4_mean 52 = .ok (.aload_n 0, 1) := by decide +kernel
theorem dX4_mean_53 : decode cX4_mean 53 = .ok (.getfield 26, 3) := by decide +kernel
theorem dX4_mean_56 : decode cX4_mean 56 = .ok (.getfield 232, 3) := by decide +kernel
theorem dX4_mean_59 : decode cX4_mean 59 = .ok (.i2d, 1) := by decide +kernel
theorem dX4_mean_60 : decode cX4_mean 60 = .ok (.ddiv, 1) := by decide +kernel
theorem dX4_mean_61 : decode cX4_mean 61 = .ok (.goto 4, 3) := by decide +kernel
theorem dX4_mean_64 : decode cX4_mean 64 = .ok (.dconst 0, 1) := by decide +kernel
theorem dX4_mean_65 : decode cX4_mean 65 = .ok (.dreturn, 1) := by decide +kernel
theorem dX4_digest_0 : decode cX4_digest 0 = .ok (.ldc2_w 233, 3) := by decide +kernel
theorem dX4_digest_3 : decode cX4_digest 3 = .ok (.lstore_n 1, 1) := by decide +kernel
theorem dX4_digest_4 : decode cX4_digest 4 = .ok (.iconst 0, 1) := by decide +kernel
theorem dX4_digest_5 : decode cX4_digest 5 = .ok (.istore_n 3, 1) := by decide +kernel
theorem dX4_digest_6 : decode cX4_digest 6 = .ok (.iload_n 3, 1) := by decide +kernel
theorem dX4_digest_7 : decode cX4_digest 7 = .ok (.bipush 9, 2) := by decide +kernel
theorem dX4_digest_9 : decode cX4_digest 9 = .ok (.if_icmp .ge 22, 3) := by decide +kernel
theorem dX4_digest_12 : decode cX4_digest 12 = .ok (.lload_n 1, 1) := by decide +kernel
theorem dX4_digest_13 : decode cX4_digest 13 = .ok (.ldc2_w 235, 3) := by decide +kernel
theorem dX4_digest_16 : decode cX4_digest 16 = .ok (.lmul, 1) := by decide +kernel
theorem dX4_digest_17 : decode cX4_digest 17 = .ok (.aload_n 0, 1) := by decide +kernel
theorem dX4_digest_18 : decode cX4_digest 18 = .ok (.iload_n 3, 1) := by decide +kernel
theorem dX4_digest_19 : decode cX4_digest 19 = .ok (.invokevirtual 199, 3) := by decide +kernel
theorem dX4_digest_22 : decode cX4_digest 22 = .ok (.i2l, 1) := by decide +kernel
theorem dX4_digest_23 : decode cX4_digest 23 = .ok (.ladd, 1) := by decide +kernel
theorem dX4_digest_24 : decode cX4_digest 24 = .ok (.lstore_n 1, 1) := by decide +kernel
theorem dX4_digest_25 : decode cX4_digest 25 = .ok (.iinc 3 1, 3) := by decide +kernel
theorem dX4_digest_28 : decode cX4_digest 28 = .ok (.goto (-22), 3) := by decide +kernel
theorem dX4_digest_31 : decode cX4_digest 31 = .ok (.iconst 0, 1) := by decide +kernel
theorem dX4_digest_32 : decode cX4_digest 32 = .ok (.istore_n 3, 1) := by decide +kernel
theorem dX4_digest_33 : decode cX4_digest 33 = .ok (.iload_n 3, 1) := by decide +kernel
theorem dX4_digest_34 : decode cX4_digest 34 = .ok (.aload_n 0, 1) := by decide +kernel
theorem dX4_digest_35 : decode cX4_digest 35 = .ok (.getfield 19, 3) := by decide +kernel
theorem dX4_digest_38 : decode cX4_digest 38 = .ok (.getfield 88, 3) := by decide +kernel
theorem dX4_digest_41 : decode cX4_digest 41 = .ok (.if_icmp .ge 40, 3) := by decide +kernel
theorem dX4_digest_44 : decode cX4_digest 44 = .ok (.iconst 0, 1) := by decide +kernel
theorem dX4_digest_45 : decode cX4_digest 45 = .ok (.istore 4, 2) := by decide +kernel
theorem dX4_digest_47 : decode cX4_digest 47 = .ok (.iload 4, 2) := by decide +kernel
theorem dX4_digest_49 : decode cX4_digest 49 = .ok (.bipush 8, 2) := by decide +kernel
theorem dX4_digest_51 : decode cX4_digest 51 = .ok (.if_icmp .ge 24, 3) := by decide +kernel
theorem dX4_digest_54 : decode cX4_digest 54 = .ok (.lload_n 1, 1) := by decide +kernel
theorem dX4_digest_55 : decode cX4_digest 55 = .ok (.ldc2_w 235, 3) := by decide +kernel
theorem dX4_digest_58 : decode cX4_digest 58 = .ok (.lmul, 1) := by decide +kernel
theorem dX4_digest_59 : decode cX4_digest 59 = .ok (.aload_n 0, 1) := by decide +kernel
theorem dX4_digest_60 : decode cX4_digest 60 = .ok (.iload_n 3, 1) := by decide +kernel
theorem dX4_digest_61 : decode cX4_digest 61 = .ok (.iload 4, 2) := by decide +kernel
theorem dX4_digest_63 : decode cX4_digest 63 = .ok (.invokevirtual 189, 3) := by decide +kernel
theorem dX4_digest_66 : decode cX4_digest 66 = .ok (.i2l, 1) := by decide +kernel
theorem dX4_digest_67 : decode cX4_digest 67 = .ok (.ladd, 1) := by decide +kernel
theorem dX4_digest_68 : decode cX4_digest 68 = .ok (.lstore_n 1, 1) := by decide +kernel
theorem dX4_digest_69 : decode cX4_digest 69 = .ok (.iinc 4 1, 3) := by decide +kernel
theorem dX4_digest_72 : decode cX4_digest 72 = .ok (.goto (-25), 3) := by decide +kernel
theorem dX4_digest_75 : decode cX4_digest 75 = .ok (.iinc 3 1, 3) := by decide +kernel
theorem dX4_digest_78 : decode cX4_digest 78 = .ok (.goto (-45), 3) := by decide +kernel
theorem dX4_digest_81 : decode cX4_digest 81 = .ok (.iconst 0, 1) := by decide +kernel
theorem dX4_digest_82 : decode cX4_digest 82 = .ok (.istore_n 3, 1) := by decide +kernel
theorem dX4_digest_83 : decode cX4_digest 83 = .ok (.iload_n 3, 1) := by decide +kernel
theorem dX4_digest_84 : decode cX4_digest 84 = .ok (.aload_n 0, 1) := by decide +kernel
theorem dX4_digest_85 : decode cX4_digest 85 = .ok (.getfield 33, 3) := by decide +kernel
theorem dX4_digest_88 : decode cX4_digest 88 = .ok (.getfield 129, 3) := by decide +kernel
theorem dX4_digest_91 : decode cX4_digest 91 = .ok (.if_icmp .ge 43, 3) := by decide +kernel
theorem dX4_digest_94 : decode cX4_digest 94 = .ok (.iconst 0, 1) := by decide +kernel
theorem dX4_digest_95 : decode cX4_digest 95 = .ok (.istore 4, 2) := by decide +kernel
theorem dX4_digest_97 : decode cX4_digest 97 = .ok (.iload 4, 2) := by decide +kernel
theorem dX4_digest_99 : decode cX4_digest 99 = .ok (.bipush 7, 2) := by decide +kernel
theorem dX4_digest_101 : decode cX4_digest 101 = .ok (.if_icmp .ge 27, 3) := by decide +kernel
theorem dX4_digest_104 : decode cX4_digest 104 = .ok (.lload_n 1, 1) := by decide +kernel
theorem dX4_digest_105 : decode cX4_digest 105 = .ok (.ldc2_w 235, 3) := by decide +kernel
theorem dX4_digest_108 : decode cX4_digest 108 = .ok (.lmul, 1) := by decide +kernel
theorem dX4_digest_109 : decode cX4_digest 109 = .ok (.aload_n 0, 1) := by decide +kernel
theorem dX4_digest_110 : decode cX4_digest 110 = .ok (.getfield 33, 3) := by decide +kernel
theorem dX4_digest_113 : decode cX4_digest 113 = .ok (.iload_n 3, 1) := by decide +kernel
theorem dX4_digest_114 : decode cX4_digest 114 = .ok (.iload 4, 2) := by decide +kernel
theorem dX4_digest_116 : decode cX4_digest 116 = .ok (.invokevirtual 194, 3) := by decide +kernel
theorem dX4_digest_119 : decode cX4_digest 119 = .ok (.i2l, 1) := by decide +kernel
theorem dX4_digest_120 : decode cX4_digest 120 = .ok (.ladd, 1) := by decide +kernel
theorem dX4_digest_121 : decode cX4_digest 121 = .ok (.lstore_n 1, 1) := by decide +kernel
theorem dX4_digest_122 : decode cX4_digest 122 = .ok (.iinc 4 1, 3) := by decide +kernel
theorem dX4_digest_125 : decode cX4_digest 125 = .ok (.goto (-28), 3) := by decide +kernel
theorem dX4_digest_128 : decode cX4_digest 128 = .ok (.iinc 3 1, 3) := by decide +kernel
theorem dX4_digest_131 : decode cX4_digest 131 = .ok (.goto (-48), 3) := by decide +kernel
theorem dX4_digest_134 : decode cX4_digest 134 = .ok (.iconst 0, 1) := by decide +kernel
theorem dX4_digest_135 : decode cX4_digest 135 = .ok (.istore_n 3, 1) := by decide +kernel
theorem dX4_digest_136 : decode cX4_digest 136 = .ok (.iload_n 3, 1) := by decide +kernel
theorem dX4_digest_137 : decode cX4_digest 137 = .ok (.sipush 400, 3) := by decide +kernel
theorem dX4_digest_140 : decode cX4_digest 140 = .ok (.if_icmp .ge 39, 3) := by decide +kernel
theorem dX4_digest_143 : decode cX4_digest 143 = .ok (.iconst 0, 1) := by decide +kernel
theorem dX4_digest_144 : decode cX4_digest 144 = .ok (.istore 4, 2) := by decide +kernel
theorem dX4_digest_146 : decode cX4_digest 146 = .ok (.iload 4, 2) := by decide +kernel
theorem dX4_digest_148 : decode cX4_digest 148 = .ok (.iconst 4, 1) := by decide +kernel
theorem dX4_digest_149 : decode cX4_digest 149 = .ok (.if_icmp .ge 24, 3) := by decide +kernel
theorem dX4_digest_152 : decode cX4_digest 152 = .ok (.lload_n 1, 1) := by decide +kernel
theorem dX4_digest_153 : decode cX4_digest 153 = .ok (.ldc2_w 235, 3) := by decide +kernel
theorem dX4_digest_156 : decode cX4_digest 156 = .ok (.lmul, 1) := by decide +kernel
theorem dX4_digest_157 : decode cX4_digest 157 = .ok (.aload_n 0, 1) := by decide +kernel
theorem dX4_digest_158 : decode cX4_digest 158 = .ok (.iload_n 3, 1) := by decide +kernel
theorem dX4_digest_159 : decode cX4_digest 159 = .ok (.iload 4, 2) := by decide +kernel
theorem dX4_digest_161 : decode cX4_digest 161 = .ok (.invokevirtual 181, 3) := by decide +kernel
theorem dX4_digest_164 : decode cX4_digest 164 = .ok (.i2l, 1) := by decide +kernel
theorem dX4_digest_165 : decode cX4_digest 165 = .ok (.ladd, 1) := by decide +kernel
theorem dX4_digest_166 : decode cX4_digest 166 = .ok (.lstore_n 1, 1) := by decide +kernel
theorem dX4_digest_167 : decode cX4_digest 167 = .ok (.iinc 4 1, 3) := by decide +kernel
theorem dX4_digest_170 : decode cX4_digest 170 = .ok (.goto (-24), 3) := by decide +kernel
theorem dX4_digest_173 : decode cX4_digest 173 = .ok (.iinc 3 1, 3) := by decide +kernel
theorem dX4_digest_176 : decode cX4_digest 176 = .ok (.goto (-40), 3) := by decide +kernel
theorem dX4_digest_179 : decode cX4_digest 179 = .ok (.lload_n 1, 1) := by decide +kernel
theorem dX4_digest_180 : decode cX4_digest 180 = .ok (.lreturn, 1) := by decide +kernel
theorem dX4_within_0 : decode cX4_within 0 = .ok (.iload_n 0, 1) := by decide +kernel
theorem dX4_within_1 : decode cX4_within 1 = .ok (.iload_n 1, 1) := by decide +kernel
theorem dX4_within_2 : decode cX4_within 2 = .ok (.if_icmp .lt 12, 3) := by decide +kernel
theorem dX4_within_5 : decode cX4_within 5 = .ok (.iload_n 0, 1) := by decide +kernel
theorem dX4_within_6 : decode cX4_within 6 = .ok (.iload_n 2, 1) := by decide +kernel
theorem dX4_within_7 : decode cX4_within 7 = .ok (.if_icmp .gt 7, 3) := by decide +kernel
theorem dX4_within_10 : decode cX4_within 10 = .ok (.iconst 1, 1) := by decide +kernel
theorem dX4_within_11 : decode cX4_within 11 = .ok (.goto 4, 3) := by decide +kernel
theorem dX4_within_14 : decode cX4_within 14 = .ok (.iconst 0, 1) := by decide +kernel
theorem dX4_within_15 : decode cX4_within 15 = .ok (.ireturn, 1) := by decide +kernel
theorem dX4_inField_0 : decode cX4_inField 0 = .ok (.iload_n 0, 1) := by decide +kernel
theorem dX4_inField_1 : decode cX4_inField 1 = .ok (.iconst 0, 1) := by decide +kernel
theorem dX4_inField_2 : decode cX4_inField 2 = .ok (.bipush 19, 2) := by decide +kernel
theorem dX4_inField_4 : decode cX4_inField 4 = .ok (.invokestatic 64, 3) := by decide +kernel
theorem dX4_inField_7 : decode cX4_inField 7 = .ok (.ifCond .eq 17, 3) := by decide +kernel
theorem dX4_inField_10 : decode cX4_inField 10 = .ok (.iload_n 1, 1) := by decide +kernel
theorem dX4_inField_11 : decode cX4_inField 11 = .ok (.iconst 0, 1) := by decide +kernel
theorem dX4_inField_12 : decode cX4_inField 12 = .ok (.bipush 19, 2) := by decide +kernel
theorem dX4_inField_14 : decode cX4_inField 14 = .ok (.invokestatic 64, 3) := by decide +kernel
theorem dX4_inField_17 : decode cX4_inField 17 = .ok (.ifCond .eq 7, 3) := by decide +kernel
theorem dX4_inField_20 : decode cX4_inField 20 = .ok (.iconst 1, 1) := by decide +kernel
theorem dX4_inField_21 : decode cX4_inField 21 = .ok (.goto 4, 3) := by decide +kernel
theorem dX4_inField_24 : decode cX4_inField 24 = .ok (.iconst 0, 1) := by decide +kernel
theorem dX4_inField_25 : decode cX4_inField 25 = .ok (.ireturn, 1) := by decide +kernel
theorem dX4_straight_0 : decode cX4_straight 0 = .ok (.iload_n 0, 1) := by decide +kernel
theorem dX4_straight_1 : decode cX4_straight 1 = .ok (.iload_n 2, 1) := by decide +kernel
theorem dX4_straight_2 : decode cX4_straight 2 = .ok (.if_icmp .eq 23, 3) := by decide +kernel
theorem dX4_straight_5 : decode cX4_straight 5 = .ok (.iload_n 1, 1) := by decide +kernel
theorem dX4_straight_6 : decode cX4_straight 6 = .ok (.iload_n 3, 1) := by decide +kernel
theorem dX4_straight_7 : decode cX4_straight 7 = .ok (.if_icmp .eq 18, 3) := by decide +kernel
theorem dX4_straight_10 : decode cX4_straight 10 = .ok (.iload_n 2, 1) := by decide +kernel
theorem dX4_straight_11 : decode cX4_straight 11 = .ok (.iload_n 0, 1) := by decide +kernel
theorem dX4_straight_12 : decode cX4_straight 12 = .ok (.isub, 1) := by decide +kernel
theorem dX4_straight_13 : decode cX4_straight 13 = .ok (.invokestatic 108, 3) := by decide +kernel
theorem dX4_straight_16 : decode cX4_straight 16 = .ok (.iload_n 3, 1) := by decide +kernel
theorem dX4_straight_17 : decode cX4_straight 17 = .ok (.iload_n 1, 1) := by decide +kernel
theorem dX4_straight_18 : decode cX4_straight 18 = .ok (.isub, 1) := by decide +kernel
theorem dX4_straight_19 : decode cX4_straight 19 = .ok (.invokestatic 108, 3) := by decide +kernel
theorem dX4_straight_22 : decode cX4_straight 22 = .ok (.if_icmp .ne 7, 3) := by decide +kernel
theorem dX4_straight_25 : decode cX4_straight 25 = .ok (.iconst 1, 1) := by decide +kernel
theorem dX4_straight_26 : decode cX4_straight 26 = .ok (.goto 4, 3) := by decide +kernel
theorem dX4_straight_29 : decode cX4_straight 29 = .ok (.iconst 0, 1) := by decide +kernel
theorem dX4_straight_30 : decode cX4_straight 30 = .ok (.ireturn, 1) := by decide +kernel
theorem dX4_spotAt_0 : decode cX4_spotAt 0 = .ok (.iload_n 1, 1) := by decide +kernel
theorem dX4_spotAt_1 : decode cX4_spotAt 1 = .ok (.bipush 20, 2) := by decide +kernel
theorem dX4_spotAt_3 : decode cX4_spotAt 3 = .ok (.imul, 1) := by decide +kernel
theorem dX4_spotAt_4 : decode cX4_spotAt 4 = .ok (.iload_n 0, 1) := by decide +kernel
theorem dX4_spotAt_5 : decode cX4_spotAt 5 = .ok (.iadd, 1) := by decide +kernel
theorem dX4_spotAt_6 : decode cX4_spotAt 6 = .ok (.ireturn, 1) := by decide +kernel
theorem dX4_columnOf_0 : decode cX4_columnOf 0 = .ok (.iload_n 0, 1) := by decide +kernel
theorem dX4_columnOf_1 : decode cX4_columnOf 1 = .ok (.bipush 20, 2) := by decide +kernel
theorem dX4_columnOf_3 : decode cX4_columnOf 3 = .ok (.irem, 1) := by decide +kernel
theorem dX4_columnOf_4 : decode cX4_columnOf 4 = .ok (.ireturn, 1) := by decide +kernel
theorem dX4_rowOf_0 : decode cX4_rowOf 0 = .ok (.iload_n 0, 1) := by decide +kernel
theorem dX4_rowOf_1 : decode cX4_rowOf 1 = .ok (.bipush 20, 2) := by decide +kernel
theorem dX4_rowOf_3 : decode cX4_rowOf 3 = .ok (.idiv, 1) := by decide +kernel
theorem dX4_rowOf_4 : decode cX4_rowOf 4 = .ok (.ireturn, 1) := by decide +kernel
theorem dX4_distance_0 : decode cX4_distance 0 = .ok (.iload_n 0, 1) := by decide +kernel
theorem dX4_distance_1 : decode cX4_distance 1 = .ok (.invokestatic 214, 3) := by decide +kernel
theorem dX4_distance_4 : decode cX4_distance 4 = .ok (.iload_n 1, 1) := by decide +kernel
theorem dX4_distance_5 : decode cX4_distance 5 = .ok (.invokestatic 214, 3) := by decide +kernel
theorem dX4_distance_8 : decode cX4_distance 8 = .ok (.isub, 1) := by decide +kernel
theorem dX4_distance_9 : decode cX4_distance 9 = .ok (.invokestatic 108, 3) := by decide +kernel
theorem dX4_distance_12 : decode cX4_distance 12 = .ok (.iload_n 0, 1) := by decide +kernel
theorem dX4_distance_13 : decode cX4_distance 13 = .ok (.invokestatic 217, 3) := by decide +kernel
theorem dX4_distance_16 : decode cX4_distance 16 = .ok (.iload_n 1, 1) := by decide +kernel
theorem dX4_distance_17 : decode cX4_distance 17 = .ok (.invokestatic 217, 3) := by decide +kernel
theorem dX4_distance_20 : decode cX4_distance 20 = .ok (.isub, 1) := by decide +kernel
theorem dX4_distance_21 : decode cX4_distance 21 = .ok (.invokestatic 108, 3) := by decide +kernel
theorem dX4_distance_24 : decode cX4_distance 24 = .ok (.iadd, 1) := by decide +kernel
theorem dX4_distance_25 : decode cX4_distance 25 = .ok (.ireturn, 1) := by decide +kernel
theorem dX4_quotient_0 : decode cX4_quotient 0 = .ok (.iload_n 1, 1) := by decide +kernel
theorem dX4_quotient_1 : decode cX4_quotient 1 = .ok (.ifCond .le 9, 3) := by decide +kernel
theorem dX4_quotient_4 : decode cX4_quotient 4 = .ok (.iload_n 0, 1) := by decide +kernel
theorem dX4_quotient_5 : decode cX4_quotient 5 = .ok (.iload_n 1, 1) := by decide +kernel
theorem dX4_quotient_6 : decode cX4_quotient 6 = .ok (.idiv, 1) := by decide +kernel
theorem dX4_quotient_7 : decode cX4_quotient 7 = .ok (.goto 4, 3) := by decide +kernel
theorem dX4_quotient_10 : decode cX4_quotient 10 = .ok (.iconst 0, 1) := by decide +kernel
theorem dX4_quotient_11 : decode cX4_quotient 11 = .ok (.ireturn, 1) := by decide +kernel
theorem dX4_isDowser_0 : decode cX4_isDowser 0 = .ok (.iload_n 1, 1) := by decide +kernel
theorem dX4_isDowser_1 : decode cX4_isDowser 1 = .ok (.iconst 0, 1) := by decide +kernel
theorem dX4_isDowser_2 : decode cX4_isDowser 2 = .ok (.aload_n 0, 1) := by decide +kernel
theorem dX4_isDowser_3 : decode cX4_isDowser 3 = .ok (.getfield 19, 3) := by decide +kernel
theorem dX4_isDowser_6 : decode cX4_isDowser 6 = .ok (.getfield 88, 3) := by decide +kernel
theorem dX4_isDowser_9 : decode cX4_isDowser 9 = .ok (.iconst 1, 1) := by decide +kernel
theorem dX4_isDowser_10 : decode cX4_isDowser 10 = .ok (.isub, 1) := by decide +kernel
theorem dX4_isDowser_11 : decode cX4_isDowser 11 = .ok (.invokestatic 64, 3) := by decide +kernel
theorem dX4_isDowser_14 : decode cX4_isDowser 14 = .ok (.ireturn, 1) := by decide +kernel
theorem dX4_isPit_0 : decode cX4_isPit 0 = .ok (.iload_n 1, 1) := by decide +kernel
theorem dX4_isPit_1 : decode cX4_isPit 1 = .ok (.iconst 0, 1) := by decide +kernel
theorem dX4_isPit_2 : decode cX4_isPit 2 = .ok (.aload_n 0, 1) := by decide +kernel
theorem dX4_isPit_3 : decode cX4_isPit 3 = .ok (.getfield 33, 3) := by decide +kernel
theorem dX4_isPit_6 : decode cX4_isPit 6 = .ok (.getfield 129, 3) := by decide +kernel
theorem dX4_isPit_9 : decode cX4_isPit 9 = .ok (.iconst 1, 1) := by decide +kernel
theorem dX4_isPit_10 : decode cX4_isPit 10 = .ok (.isub, 1) := by decide +kernel
theorem dX4_isPit_11 : decode cX4_isPit 11 = .ok (.invokestatic 64, 3) := by decide +kernel
theorem dX4_isPit_14 : decode cX4_isPit 14 = .ok (.ireturn, 1) := by decide +kernel
theorem dX4_bend_0 : decode cX4_bend 0 = .ok (.iconst 0, 1) := by decide +kernel
theorem dX4_bend_1 : decode cX4_bend 1 = .ok (.aload_n 0, 1) := by decide +kernel
theorem dX4_bend_2 : decode cX4_bend 2 = .ok (.getfield 12, 3) := by decide +kernel
theorem dX4_bend_5 : decode cX4_bend 5 = .ok (.iload_n 2, 1) := by decide +kernel
theorem dX4_bend_6 : decode cX4_bend 6 = .ok (.aload_n 0, 1) := by decide +kernel
theorem dX4_bend_7 : decode cX4_bend 7 = .ok (.getfield 19, 3) := by decide +kernel
theorem dX4_bend_10 : decode cX4_bend 10 = .ok (.getfield 237, 3) := by decide +kernel
theorem dX4_bend_13 : decode cX4_bend 13 = .ok (.iload_n 1, 1) := by decide +kernel
theorem dX4_bend_14 : decode cX4_bend 14 = .ok (.iaload, 1) := by decide +kernel
theorem dX4_bend_15 : decode cX4_bend 15 = .ok (.invokevirtual 240, 3) := by decide +kernel
theorem dX4_bend_18 : decode cX4_bend 18 = .ok (.aload_n 0, 1) := by decide +kernel
theorem dX4_bend_19 : decode cX4_bend 19 = .ok (.getfield 19, 3) := by decide +kernel
theorem dX4_bend_22 : decode cX4_bend 22 = .ok (.getfield 241, 3) := by decide +kernel
theorem dX4_bend_25 : decode cX4_bend 25 = .ok (.iload_n 1, 1) := by decide +kernel
theorem dX4_bend_26 : decode cX4_bend 26 = .ok (.iaload, 1) := by decide +kernel
theorem dX4_bend_27 : decode cX4_bend 27 = .ok (.iadd, 1) := by decide +kernel
theorem dX4_bend_28 : decode cX4_bend 28 = .ok (.invokestatic 244, 3) := by decide +kernel
theorem dX4_bend_31 : decode cX4_bend 31 = .ok (.ireturn, 1) := by decide +kernel
theorem dX4_spotOfGreatestBend_0 : decode cX4_spotOfGreatestBend 0 = .ok (.iconst 0, 1) := by decide +kernel
theorem dX4_spotOfGreatestBend_1 : decode cX4_spotOfGreatestBend 1 = .ok (.istore_n 2, 1) := by decide +kernel
theorem dX4_spotOfGreatestBend_2 : decode cX4_spotOfGreatestBend 2 = .ok (.aload_n 0, 1) := by decide +kernel
theorem dX4_spotOfGreatestBend_3 : decode cX4_spotOfGreatestBend 3 = .ok (.iload_n 1, 1) := by decide +kernel
theorem dX4_spotOfGreatestBend_4 : decode cX4_spotOfGreatestBend 4 = .ok (.iconst 0, 1) := by decide +kernel
theorem dX4_spotOfGreatestBend_5 : decode cX4_spotOfGreatestBend 5 = .ok (.invokevirtual 184, 3) := by decide +kernel
theorem dX4_spotOfGreatestBend_8 : decode cX4_spotOfGreatestBend 8 = .ok (.istore_n 3, 1) := by decide +kernel
theorem dX4_spotOfGreatestBend_9 : decode cX4_spotOfGreatestBend 9 = .ok (.iconst 1, 1) := by decide +kernel
theorem dX4_spotOfGreatestBend_10 : decode cX4_spotOfGreatestBend 10 = .ok (.istore 4, 2) := by decide +kernel
theorem dX4_spotOfGreatestBend_12 : decode cX4_spotOfGreatestBend 12 = .ok (.iload 4, 2) := by decide +kernel
theorem dX4_spotOfGreatestBend_14 : decode cX4_spotOfGreatestBend 14 = .ok (.sipush 400, 3) := by decide +kernel
theorem dX4_spotOfGreatestBend_17 : decode cX4_spotOfGreatestBend 17 = .ok (.if_icmp .ge 30, 3) := by decide +kernel
theorem dX4_spotOfGreatestBend_20 : decode cX4_spotOfGreatestBend 20 = .ok (.aload_n 0, 1) := by decide +kernel
theorem dX4_spotOfGreatestBend_21 : decode cX4_spotOfGreatestBend 21 = .ok (.iload_n 1, 1) := by decide +kernel
theorem dX4_spotOfGreatestBend_22 : decode cX4_spotOfGreatestBend 22 = .ok (.iload 4, 2) := by decide +kernel
theorem dX4_spotOfGreatestBend_24 : decode cX4_spotOfGreatestBend 24 = .ok (.invokevirtual 184, 3) := by decide +kernel
theorem dX4_spotOfGreatestBend_27 : decode cX4_spotOfGreatestBend 27 = .ok (.istore 5, 2) := by decide +kernel
theorem dX4_spotOfGreatestBend_29 : decode cX4_spotOfGreatestBend 29 = .ok (.iload 5, 2) := by decide +kernel
theorem dX4_spotOfGreatestBend_31 : decode cX4_spotOfGreatestBend 31 = .ok (.iload_n 3, 1) := by decide +kernel
theorem dX4_spotOfGreatestBend_32 : decode cX4_spotOfGreatestBend 32 = .ok (.if_icmp .le 9, 3) := by decide +kernel
theorem dX4_spotOfGreatestBend_35 : decode cX4_spotOfGreatestBend 35 = .ok (.iload 4, 2) := by decide +kernel
theorem dX4_spotOfGreatestBend_37 : decode cX4_spotOfGreatestBend 37 = .ok (.istore_n 2, 1) := by decide +kernel
theorem dX4_spotOfGreatestBend_38 : decode cX4_spotOfGreatestBend 38 = .ok (.iload 5, 2) := by decide +kernel
theorem dX4_spotOfGreatestBend_40 : decode cX4_spotOfGreatestBend 40 = .ok (.istore_n 3, 1) := by decide +kernel
theorem dX4_spotOfGreatestBend_41 : decode cX4_spotOfGreatestBend 41 = .ok (.iinc 4 1, 3) := by decide +kernel
theorem dX4_spotOfGreatestBend_44 : decode cX4_spotOfGreatestBend 44 = .ok (.goto (-32), 3) := by decide +kernel
theorem dX4_spotOfGreatestBend_47 : decode cX4_spotOfGreatestBend 47 = .ok (.iload_n 2, 1) := by decide +kernel
theorem dX4_spotOfGreatestBend_48 : decode cX4_spotOfGreatestBend 48 = .ok (.ireturn, 1) := by decide +kernel
theorem dX4_markPeg_0 : decode cX4_markPeg 0 = .ok (.aload_n 0, 1) := by decide +kernel
theorem dX4_markPeg_1 : decode cX4_markPeg 1 = .ok (.getfield 26, 3) := by decide +kernel
theorem dX4_markPeg_4 : decode cX4_markPeg 4 = .ok (.getfield 232, 3) := by decide +kernel
theorem dX4_markPeg_7 : decode cX4_markPeg 7 = .ok (.bipush 60, 2) := by decide +kernel
theorem dX4_markPeg_9 : decode cX4_markPeg 9 = .ok (.if_icmp .ge 27, 3) := by decide +kernel
theorem dX4_markPeg_12 : decode cX4_markPeg 12 = .ok (.aload_n 0, 1) := by decide +kernel
theorem dX4_markPeg_13 : decode cX4_markPeg 13 = .ok (.getfield 26, 3) := by decide +kernel
theorem dX4_markPeg_16 : decode cX4_markPeg 16 = .ok (.iload_n 2, 1) := by decide +kernel
theorem dX4_markPeg_17 : decode cX4_markPeg 17 = .ok (.invokevirtual 121, 3) := by decide +kernel
theorem dX4_markPeg_20 : decode cX4_markPeg 20 = .ok (.ifCond .ne 16, 3) := by decide +kernel
theorem dX4_markPeg_23 : decode cX4_markPeg 23 = .ok (.aload_n 0, 1) := by decide +kernel
theorem dX4_markPeg_24 : decode cX4_markPeg 24 = .ok (.iload_n 1, 1) := by decide +kernel
theorem dX4_markPeg_25 : decode cX4_markPeg 25 = .ok (.iload_n 2, 1) := by decide +kernel
theorem dX4_markPeg_26 : decode cX4_markPeg 26 = .ok (.invokevirtual 184, 3) := by decide +kernel
theorem dX4_markPeg_29 : decode cX4_markPeg 29 = .ok (.aload_n 0, 1) := by decide +kernel
theorem dX4_markPeg_30 : decode cX4_markPeg 30 = .ok (.getfield 37, 3) := by decide +kernel
theorem dX4_markPeg_33 : decode cX4_markPeg 33 = .ok (.if_icmp .ge 5, 3) := by decide +kernel
theorem dX4_markPeg_36 : decode cX4_markPeg 36 = .ok (.iconst 0, 1) := by decide +kernel
theorem dX4_markPeg_37 : decode cX4_markPeg 37 = .ok (.ireturn, 1) := by decide +kernel
theorem dX4_markPeg_38 : decode cX4_markPeg 38 = .ok (.aload_n 0, 1) := by decide +kernel
theorem dX4_markPeg_39 : decode cX4_markPeg 39 = .ok (.getfield 26, 3) := by decide +kernel
theorem dX4_markPeg_42 : decode cX4_markPeg 42 = .ok (.iload_n 2, 1) := by decide +kernel
theorem dX4_markPeg_43 : decode cX4_markPeg 43 = .ok (.iload_n 1, 1) := by decide +kernel
theorem dX4_markPeg_44 : decode cX4_markPeg 44 = .ok (.invokevirtual 247, 3) := by decide +kernel
theorem dX4_markPeg_47 : decode cX4_markPeg 47 = .ok (.iconst 1, 1) := by decide +kernel
theorem dX4_markPeg_48 : decode cX4_markPeg 48 = .ok (.ireturn, 1) := by decide +kernel
theorem dX4_isTruePeg_0 : decode cX4_isTruePeg 0 = .ok (.aload_n 0, 1) := by decide +kernel
theorem dX4_isTruePeg_1 : decode cX4_isTruePeg 1 = .ok (.getfield 26, 3) := by decide +kernel
theorem dX4_isTruePeg_4 : decode cX4_isTruePeg 4 = .ok (.iload_n 1, 1) := by decide +kernel
theorem dX4_isTruePeg_5 : decode cX4_isTruePeg 5 = .ok (.invokevirtual 121, 3) := by decide +kernel
theorem dX4_isTruePeg_8 : decode cX4_isTruePeg 8 = .ok (.ifCond .eq 19, 3) := by decide +kernel
theorem dX4_isTruePeg_11 : decode cX4_isTruePeg 11 = .ok (.aload_n 0, 1) := by decide +kernel
theorem dX4_isTruePeg_12 : decode cX4_isTruePeg 12 = .ok (.getfield 12, 3) := by decide +kernel
theorem dX4_isTruePeg_15 : decode cX4_isTruePeg 15 = .ok (.getfield 229, 3) := by decide +kernel
theorem dX4_isTruePeg_18 : decode cX4_isTruePeg 18 = .ok (.iload_n 1, 1) := by decide +kernel
theorem dX4_isTruePeg_19 : decode cX4_isTruePeg 19 = .ok (.iaload, 1) := by decide +kernel
theorem dX4_isTruePeg_20 : decode cX4_isTruePeg 20 = .ok (.ifCond .le 7, 3) := by decide +kernel
theorem dX4_isTruePeg_23 : decode cX4_isTruePeg 23 = .ok (.iconst 1, 1) := by decide +kernel
theorem dX4_isTruePeg_24 : decode cX4_isTruePeg 24 = .ok (.goto 4, 3) := by decide +kernel
theorem dX4_isTruePeg_27 : decode cX4_isTruePeg 27 = .ok (.iconst 0, 1) := by decide +kernel
theorem dX4_isTruePeg_28 : decode cX4_isTruePeg 28 = .ok (.ireturn, 1) := by decide +kernel
theorem dX4_trueOf_0 : decode cX4_trueOf 0 = .ok (.iconst 0, 1) := by decide +kernel
theorem dX4_trueOf_1 : decode cX4_trueOf 1 = .ok (.istore_n 2, 1) := by decide +kernel
theorem dX4_trueOf_2 : decode cX4_trueOf 2 = .ok (.iconst 0, 1) := by decide +kernel
theorem dX4_trueOf_3 : decode cX4_trueOf 3 = .ok (.istore_n 3, 1) := by decide +kernel
theorem dX4_trueOf_4 : decode cX4_trueOf 4 = .ok (.iload_n 3, 1) := by decide +kernel
theorem dX4_trueOf_5 : decode cX4_trueOf 5 = .ok (.sipush 400, 3) := by decide +kernel
theorem dX4_trueOf_8 : decode cX4_trueOf 8 = .ok (.if_icmp .ge 33, 3) := by decide +kernel
theorem dX4_trueOf_11 : decode cX4_trueOf 11 = .ok (.aload_n 0, 1) := by decide +kernel
theorem dX4_trueOf_12 : decode cX4_trueOf 12 = .ok (.getfield 26, 3) := by decide +kernel
theorem dX4_trueOf_15 : decode cX4_trueOf 15 = .ok (.getfield 249, 3) := by decide +kernel
theorem dX4_trueOf_18 : decode cX4_trueOf 18 = .ok (.iload_n 3, 1) := by decide +kernel
theorem dX4_trueOf_19 : decode cX4_trueOf 19 = .ok (.iaload, 1) := by decide +kernel
theorem dX4_trueOf_20 : decode cX4_trueOf 20 = .ok (.iload_n 1, 1) := by decide +kernel
theorem dX4_trueOf_21 : decode cX4_trueOf 21 = .ok (.if_icmp .ne 14, 3) := by decide +kernel
theorem dX4_trueOf_24 : decode cX4_trueOf 24 = .ok (.aload_n 0, 1) := by decide +kernel
theorem dX4_trueOf_25 : decode cX4_trueOf 25 = .ok (.iload_n 3, 1) := by decide +kernel
theorem dX4_trueOf_26 : decode cX4_trueOf 26 = .ok (.invokevirtual 252, 3) := by decide +kernel
theorem dX4_trueOf_29 : decode cX4_trueOf 29 = .ok (.ifCond .eq 6, 3) := by decide +kernel
theorem dX4_trueOf_32 : decode cX4_trueOf 32 = .ok (.iinc 2 1, 3) := by decide +kernel
theorem dX4_trueOf_35 : decode cX4_trueOf 35 = .ok (.iinc 3 1, 3) := by decide +kernel
theorem dX4_trueOf_38 : decode cX4_trueOf 38 = .ok (.goto (-34), 3) := by decide +kernel
theorem dX4_trueOf_41 : decode cX4_trueOf 41 = .ok (.iload_n 2, 1) := by decide +kernel
theorem dX4_trueOf_42 : decode cX4_trueOf 42 = .ok (.ireturn, 1) := by decide +kernel
theorem dX4_truePegs_0 : decode cX4_truePegs 0 = .ok (.iconst 0, 1) := by decide +kernel
theorem dX4_truePegs_1 : decode cX4_truePegs 1 = .ok (.istore_n 1, 1) := by decide +kernel
theorem dX4_truePegs_2 : decode cX4_truePegs 2 = .ok (.iconst 0, 1) := by decide +kernel
theorem dX4_truePegs_3 : decode cX4_truePegs 3 = .ok (.istore_n 2, 1) := by decide +kernel
theorem dX4_truePegs_4 : decode cX4_truePegs 4 = .ok (.iload_n 2, 1) := by decide +kernel
theorem dX4_truePegs_5 : decode cX4_truePegs 5 = .ok (.sipush 400, 3) := by decide +kernel
theorem dX4_truePegs_8 : decode cX4_truePegs 8 = .ok (.if_icmp .ge 20, 3) := by decide +kernel
theorem dX4_truePegs_11 : decode cX4_truePegs 11 = .ok (.aload_n 0, 1) := by decide +kernel
theorem dX4_truePegs_12 : decode cX4_truePegs 12 = .ok (.iload_n 2, 1) := by decide +kernel
theorem dX4_truePegs_13 : decode cX4_truePegs 13 = .ok (.invokevirtual 252, 3) := by decide +kernel
theorem dX4_truePegs_16 : decode cX4_truePegs 16 = .ok (.ifCond .eq 6, 3) := by decide +kernel
theorem dX4_truePegs_19 : decode cX4_truePegs 19 = .ok (.iinc 1 1, 3) := by decide +kernel
theorem dX4_truePegs_22 : decode cX4_truePegs 22 = .ok (.iinc 2 1, 3) := by decide +kernel
theorem dX4_truePegs_25 : decode cX4_truePegs 25 = .ok (.goto (-21), 3) := by decide +kernel
theorem dX4_truePegs_28 : decode cX4_truePegs 28 = .ok (.iload_n 1, 1) := by decide +kernel
theorem dX4_truePegs_29 : decode cX4_truePegs 29 = .ok (.ireturn, 1) := by decide +kernel
theorem dX4_truer_0 : decode cX4_truer 0 = .ok (.iload_n 0, 1) := by decide +kernel
theorem dX4_truer_1 : decode cX4_truer 1 = .ok (.iload_n 3, 1) := by decide +kernel
theorem dX4_truer_2 : decode cX4_truer 2 = .ok (.imul, 1) := by decide +kernel
theorem dX4_truer_3 : decode cX4_truer 3 = .ok (.istore 4, 2) := by decide +kernel
theorem dX4_truer_5 : decode cX4_truer 5 = .ok (.iload_n 2, 1) := by decide +kernel
theorem dX4_truer_6 : decode cX4_truer 6 = .ok (.iload_n 1, 1) := by decide +kernel
theorem dX4_truer_7 : decode cX4_truer 7 = .ok (.imul, 1) := by decide +kernel
theorem dX4_truer_8 : decode cX4_truer 8 = .ok (.istore 5, 2) := by decide +kernel
theorem dX4_truer_10 : decode cX4_truer 10 = .ok (.iload 4, 2) := by decide +kernel
theorem dX4_truer_12 : decode cX4_truer 12 = .ok (.iload 5, 2) := by decide +kernel
theorem dX4_truer_14 : decode cX4_truer 14 = .ok (.if_icmp .gt 15, 3) := by decide +kernel
theorem dX4_truer_17 : decode cX4_truer 17 = .ok (.iload 4, 2) := by decide +kernel
theorem dX4_truer_19 : decode cX4_truer 19 = .ok (.iload 5, 2) := by decide +kernel
theorem dX4_truer_21 : decode cX4_truer 21 = .ok (.if_icmp .ne 12, 3) := by decide +kernel
theorem dX4_truer_24 : decode cX4_truer 24 = .ok (.iload_n 1, 1) := by decide +kernel
theorem dX4_truer_25 : decode cX4_truer 25 = .ok (.iload_n 3, 1) := by decide +kernel
theorem dX4_truer_26 : decode cX4_truer 26 = .ok (.if_icmp .le 7, 3) := by decide +kernel
theorem dX4_truer_29 : decode cX4_truer 29 = .ok (.iconst 1, 1) := by decide +kernel
theorem dX4_truer_30 : decode cX4_truer 30 = .ok (.goto 4, 3) := by decide +kernel
theorem dX4_truer_33 : decode cX4_truer 33 = .ok (.iconst 0, 1) := by decide +kernel
theorem dX4_truer_34 : decode cX4_truer 34 = .ok (.ireturn, 1) := by decide +kernel
theorem dX4_payBets_0 : decode cX4_payBets 0 = .ok (.aload_n 0, 1) := by decide +kernel
theorem dX4_payBets_1 : decode cX4_payBets 1 = .ok (.getfield 33, 3) := by decide +kernel
theorem dX4_payBets_4 : decode cX4_payBets 4 = .ok (.iload_n 1, 1) := by decide +kernel
theorem dX4_payBets_5 : decode cX4_payBets 5 = .ok (.invokevirtual 255, 3) := by decide +kernel
theorem dX4_payBets_8 : decode cX4_payBets 8 = .ok (.istore_n 2, 1) := by decide +kernel
theorem dX4_payBets_9 : decode cX4_payBets 9 = .ok (.aload_n 0, 1) := by decide +kernel
theorem dX4_payBets_10 : decode cX4_payBets 10 = .ok (.getfield 33, 3) := by decide +kernel
theorem dX4_payBets_13 : decode cX4_payBets 13 = .ok (.iload_n 1, 1) := by decide +kernel
theorem dX4_payBets_14 : decode cX4_payBets 14 = .ok (.invokevirtual 258, 3) := by decide +kernel
theorem dX4_payBets_17 : decode cX4_payBets 17 = .ok (.istore_n 3, 1) := by decide +kernel
theorem dX4_payBets_18 : decode cX4_payBets 18 = .ok (.iconst 0, 1) := by decide +kernel
theorem dX4_payBets_19 : decode cX4_payBets 19 = .ok (.istore 4, 2) := by decide +kernel
theorem dX4_payBets_21 : decode cX4_payBets 21 = .ok (.iload 4, 2) := by decide +kernel
theorem dX4_payBets_23 : decode cX4_payBets 23 = .ok (.aload_n 0, 1) := by decide +kernel
theorem dX4_payBets_24 : decode cX4_payBets 24 = .ok (.getfield 19, 3) := by decide +kernel
theorem dX4_payBets_27 : decode cX4_payBets 27 = .ok (.getfield 88, 3) := by decide +kernel
theorem dX4_payBets_30 : decode cX4_payBets 30 = .ok (.if_icmp .ge 42, 3) := by decide +kernel
theorem dX4_payBets_33 : decode cX4_payBets 33 = .ok (.aload_n 0, 1) := by decide +kernel
theorem dX4_payBets_34 : decode cX4_payBets 34 = .ok (.getfield 33, 3) := by decide +kernel
theorem dX4_payBets_37 : decode cX4_payBets 37 = .ok (.iload_n 1, 1) := by decide +kernel
theorem dX4_payBets_38 : decode cX4_payBets 38 = .ok (.iload 4, 2) := by decide +kernel
theorem dX4_payBets_40 : decode cX4_payBets 40 = .ok (.iload_n 2, 1) := by decide +kernel
theorem dX4_payBets_41 : decode cX4_payBets 41 = .ok (.invokevirtual 207, 3) := by decide +kernel
theorem dX4_payBets_44 : decode cX4_payBets 44 = .ok (.istore 5, 2) := by decide +kernel
theorem dX4_payBets_46 : decode cX4_payBets 46 = .ok (.aload_n 0, 1) := by decide +kernel
theorem dX4_payBets_47 : decode cX4_payBets 47 = .ok (.getfield 19, 3) := by decide +kernel
theorem dX4_payBets_50 : decode cX4_payBets 50 = .ok (.getfield 153, 3) := by decide +kernel
theorem dX4_payBets_53 : decode cX4_payBets 53 = .ok (.iload 4, 2) := by decide +kernel
theorem dX4_payBets_55 : decode cX4_payBets 55 = .ok (.dup2, 1) := by decide +kernel
theorem dX4_payBets_56 : decode cX4_payBets 56 = .ok (.iaload, 1) := by decide +kernel
theorem dX4_payBets_57 : decode cX4_payBets 57 = .ok (.iload 5, 2) := by decide +kernel
theorem dX4_payBets_59 : decode cX4_payBets 59 = .ok (.iadd, 1) := by decide +kernel
theorem dX4_payBets_60 : decode cX4_payBets 60 = .ok (.iastore, 1) := by decide +kernel
theorem dX4_payBets_61 : decode cX4_payBets 61 = .ok (.iload_n 3, 1) := by decide +kernel
theorem dX4_payBets_62 : decode cX4_payBets 62 = .ok (.iload 5, 2) := by decide +kernel
theorem dX4_payBets_64 : decode cX4_payBets 64 = .ok (.isub, 1) := by decide +kernel
theorem dX4_payBets_65 : decode cX4_payBets 65 = .ok (.istore_n 3, 1) := by decide +kernel
theorem dX4_payBets_66 : decode cX4_payBets 66 = .ok (.iinc 4 1, 3) := by decide +kernel
theorem dX4_payBets_69 : decode cX4_payBets 69 = .ok (.goto (-48), 3) := by decide +kernel
theorem dX4_payBets_72 : decode cX4_payBets 72 = .ok (.aload_n 0, 1) := by decide +kernel
theorem dX4_payBets_73 : decode cX4_payBets 73 = .ok (.dup, 1) := by decide +kernel
theorem dX4_payBets_74 : decode cX4_payBets 74 = .ok (.getfield 41, 3) := by decide +kernel
theorem dX4_payBets_77 : decode cX4_payBets 77 = .ok (.iload_n 3, 1) := by decide +kernel
theorem dX4_payBets_78 : decode cX4_payBets 78 = .ok (.iadd, 1) := by decide +kernel
theorem dX4_payBets_79 : decode cX4_payBets 79 = .ok (.putfield 41, 3) := by decide +kernel
theorem dX4_payBets_82 : decode cX4_payBets 82 = .ok (.return_, 1) := by decide +kernel
theorem dX4_tellSpot_0 : decode cX4_tellSpot 0 = .ok (.iload_n 2, 1) := by decide +kernel
theorem dX4_tellSpot_1 : decode cX4_tellSpot 1 = .ok (.tableswitch 84 0 4 #[35, 45, 55, 65, 75], 35) := by decide +kernel
theorem dX4_tellSpot_36 : decode cX4_tellSpot 36 = .ok (.aload_n 0, 1) := by decide +kernel
theorem dX4_tellSpot_37 : decode cX4_tellSpot 37 = .ok (.getfield 12, 3) := by decide +kernel
theorem dX4_tellSpot_40 : decode cX4_tellSpot 40 = .ok (.getfield 229, 3) := by decide +kernel
theorem dX4_tellSpot_43 : decode cX4_tellSpot 43 = .ok (.iload_n 1, 1) := by decide +kernel
theorem dX4_tellSpot_44 : decode cX4_tellSpot 44 = .ok (.iaload, 1) := by decide +kernel
theorem dX4_tellSpot_45 : decode cX4_tellSpot 45 = .ok (.ireturn, 1) := by decide +kernel
theorem dX4_tellSpot_46 : decode cX4_tellSpot 46 = .ok (.aload_n 0, 1) := by decide +kernel
theorem dX4_tellSpot_47 : decode cX4_tellSpot 47 = .ok (.getfield 12, 3) := by decide +kernel
theorem dX4_tellSpot_50 : decode cX4_tellSpot 50 = .ok (.getfield 136, 3) := by decide +kernel
theorem dX4_tellSpot_53 : decode cX4_tellSpot 53 = .ok (.iload_n 1, 1) := by decide +kernel
theorem dX4_tellSpot_54 : decode cX4_tellSpot 54 = .ok (.iaload, 1) := by decide +kernel
theorem dX4_tellSpot_55 : decode cX4_tellSpot 55 = .ok (.ireturn, 1) := by decide +kernel
theorem dX4_tellSpot_56 : decode cX4_tellSpot 56 = .ok (.aload_n 0, 1) := by decide +kernel
theorem dX4_tellSpot_57 : decode cX4_tellSpot 57 = .ok (.getfield 26, 3) := by decide +kernel
theorem dX4_tellSpot_60 : decode cX4_tellSpot 60 = .ok (.getfield 249, 3) := by decide +kernel
theorem dX4_tellSpot_63 : decode cX4_tellSpot 63 = .ok (.iload_n 1, 1) := by decide +kernel
theorem dX4_tellSpot_64 : decode cX4_tellSpot 64 = .ok (.iaload, 1) := by decide +kernel
theorem dX4_tellSpot_65 : decode cX4_tellSpot 65 = .ok (.ireturn, 1) := by decide +kernel
theorem dX4_tellSpot_66 : decode cX4_tellSpot 66 = .ok (.aload_n 0, 1) := by decide +kernel
theorem dX4_tellSpot_67 : decode cX4_tellSpot 67 = .ok (.getfield 33, 3) := by decide +kernel
theorem dX4_tellSpot_70 : decode cX4_tellSpot 70 = .ok (.getfield 130, 3) := by decide +kernel
theorem dX4_tellSpot_73 : decode cX4_tellSpot 73 = .ok (.iload_n 1, 1) := by decide +kernel
theorem dX4_tellSpot_74 : decode cX4_tellSpot 74 = .ok (.iaload, 1) := by decide +kernel
theorem dX4_tellSpot_75 : decode cX4_tellSpot 75 = .ok (.ireturn, 1) := by decide +kernel
theorem dX4_tellSpot_76 : decode cX4_tellSpot 76 = .ok (.aload_n 0, 1) := by decide +kernel
theorem dX4_tellSpot_77 : decode cX4_tellSpot 77 = .ok (.getfield 26, 3) := by decide +kernel
theorem dX4_tellSpot_80 : decode cX4_tellSpot 80 = .ok (.iload_n 1, 1) := by decide +kernel
theorem dX4_tellSpot_81 : decode cX4_tellSpot 81 = .ok (.invokevirtual 261, 3) := by decide +kernel
theorem dX4_tellSpot_84 : decode cX4_tellSpot 84 = .ok (.ireturn, 1) := by decide +kernel
theorem dX4_tellSpot_85 : decode cX4_tellSpot 85 = .ok (.aload_n 0, 1) := by decide +kernel
theorem dX4_tellSpot_86 : decode cX4_tellSpot 86 = .ok (.getfield 26, 3) := by decide +kernel
theorem dX4_tellSpot_89 : decode cX4_tellSpot 89 = .ok (.iload_n 1, 1) := by decide +kernel
theorem dX4_tellSpot_90 : decode cX4_tellSpot 90 = .ok (.invokevirtual 264, 3) := by decide +kernel
theorem dX4_tellSpot_93 : decode cX4_tellSpot 93 = .ok (.ireturn, 1) := by decide +kernel
theorem dX4_tellDowser_0 : decode cX4_tellDowser 0 = .ok (.iload_n 2, 1) := by decide +kernel
theorem dX4_tellDowser_1 : decode cX4_tellDowser 1 = .ok (.tableswitch 107 0 6 #[43, 53, 63, 73, 82, 88, 97], 43) := by decide +kernel
theorem dX4_tellDowser_44 : decode cX4_tellDowser 44 = .ok (.aload_n 0, 1) := by decide +kernel
theorem dX4_tellDowser_45 : decode cX4_tellDowser 45 = .ok (.getfield 19, 3) := by decide +kernel
theorem dX4_tellDowser_48 : decode cX4_tellDowser 48 = .ok (.getfield 237, 3) := by decide +kernel
theorem dX4_tellDowser_51 : decode cX4_tellDowser 51 = .ok (.iload_n 1, 1) := by decide +kernel
theorem dX4_tellDowser_52 : decode cX4_tellDowser 52 = .ok (.iaload, 1) := by decide +kernel
theorem dX4_tellDowser_53 : decode cX4_tellDowser 53 = .ok (.ireturn, 1) := by decide +kernel
theorem dX4_tellDowser_54 : decode cX4_tellDowser 54 = .ok (.aload_n 0, 1) := by decide +kernel
theorem dX4_tellDowser_55 : decode cX4_tellDowser 55 = .ok (.getfield 19, 3) := by decide +kernel
theorem dX4_tellDowser_58 : decode cX4_tellDowser 58 = .ok (.getfield 241, 3) := by decide +kernel
theorem dX4_tellDowser_61 : decode cX4_tellDowser 61 = .ok (.iload_n 1, 1) := by decide +kernel
theorem dX4_tellDowser_62 : decode cX4_tellDowser 62 = .ok (.iaload, 1) := by decide +kernel
theorem dX4_tellDowser_63 : decode cX4_tellDowser 63 = .ok (.ireturn, 1) := by decide +kernel
theorem dX4_tellDowser_64 : decode cX4_tellDowser 64 = .ok (.aload_n 0, 1) := by decide +kernel
theorem dX4_tellDowser_65 : decode cX4_tellDowser 65 = .ok (.getfield 19, 3) := by decide +kernel
theorem dX4_tellDowser_68 : decode cX4_tellDowser 68 = .ok (.getfield 153, 3) := by decide +kernel
theorem dX4_tellDowser_71 : decode cX4_tellDowser 71 = .ok (.iload_n 1, 1) := by decide +kernel
theorem dX4_tellDowser_72 : decode cX4_tellDowser 72 = .ok (.iaload, 1) := by decide +kernel
theorem dX4_tellDowser_73 : decode cX4_tellDowser 73 = .ok (.ireturn, 1) := by decide +kernel
theorem dX4_tellDowser_74 : decode cX4_tellDowser 74 = .ok (.aload_n 0, 1) := by decide +kernel
theorem dX4_tellDowser_75 : decode cX4_tellDowser 75 = .ok (.getfield 26, 3) := by decide +kernel
theorem dX4_tellDowser_78 : decode cX4_tellDowser 78 = .ok (.iload_n 1, 1) := by decide +kernel
theorem dX4_tellDowser_79 : decode cX4_tellDowser 79 = .ok (.invokevirtual 220, 3) := by decide +kernel
theorem dX4_tellDowser_82 : decode cX4_tellDowser 82 = .ok (.ireturn, 1) := by decide +kernel
theorem dX4_tellDowser_83 : decode cX4_tellDowser 83 = .ok (.aload_n 0, 1) := by decide +kernel
theorem dX4_tellDowser_84 : decode cX4_tellDowser 84 = .ok (.iload_n 1, 1) := by decide +kernel
theorem dX4_tellDowser_85 : decode cX4_tellDowser 85 = .ok (.invokevirtual 223, 3) := by decide +kernel
theorem dX4_tellDowser_88 : decode cX4_tellDowser 88 = .ok (.ireturn, 1) := by decide +kernel
theorem dX4_tellDowser_89 : decode cX4_tellDowser 89 = .ok (.aload_n 0, 1) := by decide +kernel
theorem dX4_tellDowser_90 : decode cX4_tellDowser 90 = .ok (.getfield 33, 3) := by decide +kernel
theorem dX4_tellDowser_93 : decode cX4_tellDowser 93 = .ok (.iload_n 1, 1) := by decide +kernel
theorem dX4_tellDowser_94 : decode cX4_tellDowser 94 = .ok (.invokevirtual 267, 3) := by decide +kernel
theorem dX4_tellDowser_97 : decode cX4_tellDowser 97 = .ok (.ireturn, 1) := by decide +kernel
theorem dX4_tellDowser_98 : decode cX4_tellDowser 98 = .ok (.aload_n 0, 1) := by decide +kernel
theorem dX4_tellDowser_99 : decode cX4_tellDowser 99 = .ok (.getfield 33, 3) := by decide +kernel
theorem dX4_tellDowser_102 : decode cX4_tellDowser 102 = .ok (.iload_n 1, 1) := by decide +kernel
theorem dX4_tellDowser_103 : decode cX4_tellDowser 103 = .ok (.iconst 1, 1) := by decide +kernel
theorem dX4_tellDowser_104 : decode cX4_tellDowser 104 = .ok (.invokevirtual 270, 3) := by decide +kernel
theorem dX4_tellDowser_107 : decode cX4_tellDowser 107 = .ok (.ireturn, 1) := by decide +kernel
theorem dX4_tellDowser_108 : decode cX4_tellDowser 108 = .ok (.aload_n 0, 1) := by decide +kernel
theorem dX4_tellDowser_109 : decode cX4_tellDowser 109 = .ok (.getfield 33, 3) := by decide +kernel
theorem dX4_tellDowser_112 : decode cX4_tellDowser 112 = .ok (.iload_n 1, 1) := by decide +kernel
theorem dX4_tellDowser_113 : decode cX4_tellDowser 113 = .ok (.iconst 0, 1) := by decide +kernel
theorem dX4_tellDowser_114 : decode cX4_tellDowser 114 = .ok (.invokevirtual 270, 3) := by decide +kernel
theorem dX4_tellDowser_117 : decode cX4_tellDowser 117 = .ok (.ireturn, 1) := by decide +kernel
theorem dX4_tellCount_0 : decode cX4_tellCount 0 = .ok (.iload_n 1, 1) := by decide +kernel
theorem dX4_tellCount_1 : decode cX4_tellCount 1 = .ok (.tableswitch 102 0 7 #[47, 55, 63, 71, 79, 84, 92, 97], 47) := by decide +kernel
theorem dX4_tellCount_48 : decode cX4_tellCount 48 = .ok (.aload_n 0, 1) := by decide +kernel
theorem dX4_tellCount_49 : decode cX4_tellCount 49 = .ok (.getfield 12, 3) := by decide +kernel
theorem dX4_tellCount_52 : decode cX4_tellCount 52 = .ok (.getfield 70, 3) := by decide +kernel
theorem dX4_tellCount_55 : decode cX4_tellCount 55 = .ok (.ireturn, 1) := by decide +kernel
theorem dX4_tellCount_56 : decode cX4_tellCount 56 = .ok (.aload_n 0, 1) := by decide +kernel
theorem dX4_tellCount_57 : decode cX4_tellCount 57 = .ok (.getfield 19, 3) := by decide +kernel
theorem dX4_tellCount_60 : decode cX4_tellCount 60 = .ok (.getfield 88, 3) := by decide +kernel
theorem dX4_tellCount_63 : decode cX4_tellCount 63 = .ok (.ireturn, 1) := by decide +kernel
theorem dX4_tellCount_64 : decode cX4_tellCount 64 = .ok (.aload_n 0, 1) := by decide +kernel
theorem dX4_tellCount_65 : decode cX4_tellCount 65 = .ok (.getfield 26, 3) := by decide +kernel
theorem dX4_tellCount_68 : decode cX4_tellCount 68 = .ok (.getfield 232, 3) := by decide +kernel
theorem dX4_tellCount_71 : decode cX4_tellCount 71 = .ok (.ireturn, 1) := by decide +kernel
theorem dX4_tellCount_72 : decode cX4_tellCount 72 = .ok (.aload_n 0, 1) := by decide +kernel
theorem dX4_tellCount_73 : decode cX4_tellCount 73 = .ok (.getfield 33, 3) := by decide +kernel
theorem dX4_tellCount_76 : decode cX4_tellCount 76 = .ok (.getfield 129, 3) := by decide +kernel
theorem dX4_tellCount_79 : decode cX4_tellCount 79 = .ok (.ireturn, 1) := by decide +kernel
theorem dX4_tellCount_80 : decode cX4_tellCount 80 = .ok (.aload_n 0, 1) := by decide +kernel
theorem dX4_tellCount_81 : decode cX4_tellCount 81 = .ok (.getfield 37, 3) := by decide +kernel
theorem dX4_tellCount_84 : decode cX4_tellCount 84 = .ok (.ireturn, 1) := by decide +kernel
theorem dX4_tellCount_85 : decode cX4_tellCount 85 = .ok (.aload_n 0, 1) := by decide +kernel
theorem dX4_tellCount_86 : decode cX4_tellCount 86 = .ok (.getfield 12, 3) := by decide +kernel
theorem dX4_tellCount_89 : decode cX4_tellCount 89 = .ok (.invokevirtual 274, 3) := by decide +kernel
theorem dX4_tellCount_92 : decode cX4_tellCount 92 = .ok (.ireturn, 1) := by decide +kernel
theorem dX4_tellCount_93 : decode cX4_tellCount 93 = .ok (.aload_n 0, 1) := by decide +kernel
theorem dX4_tellCount_94 : decode cX4_tellCount 94 = .ok (.invokevirtual 278, 3) := by decide +kernel
theorem dX4_tellCount_97 : decode cX4_tellCount 97 = .ok (.ireturn, 1) := by decide +kernel
theorem dX4_tellCount_98 : decode cX4_tellCount 98 = .ok (.aload_n 0, 1) := by decide +kernel
theorem dX4_tellCount_99 : decode cX4_tellCount 99 = .ok (.getfield 41, 3) := by decide +kernel
theorem dX4_tellCount_102 : decode cX4_tellCount 102 = .ok (.ireturn, 1) := by decide +kernel
theorem dX4_tellCount_103 : decode cX4_tellCount 103 = .ok (.aload_n 0, 1) := by decide +kernel
theorem dX4_tellCount_104 : decode cX4_tellCount 104 = .ok (.getfield 19, 3) := by decide +kernel
theorem dX4_tellCount_107 : decode cX4_tellCount 107 = .ok (.invokevirtual 281, 3) := by decide +kernel
theorem dX4_tellCount_110 : decode cX4_tellCount 110 = .ok (.ireturn, 1) := by decide +kernel
theorem dJ6_signum_0f7a4_0 : decode cJ6_signum_0f7a4 0 = .ok (.iload_n 0, 1) := by decide +kernel
theorem dJ6_signum_0f7a4_1 : decode cJ6_signum_0f7a4 1 = .ok (.bipush 31, 2) := by decide +kernel
theorem dJ6_signum_0f7a4_3 : decode cJ6_signum_0f7a4 3 = .ok (.ishr, 1) := by decide +kernel
theorem dJ6_signum_0f7a4_4 : decode cJ6_signum_0f7a4 4 = .ok (.iload_n 0, 1) := by decide +kernel
theorem dJ6_signum_0f7a4_5 : decode cJ6_signum_0f7a4 5 = .ok (.ineg, 1) := by decide +kernel
theorem dJ6_signum_0f7a4_6 : decode cJ6_signum_0f7a4 6 = .ok (.bipush 31, 2) := by decide +kernel
theorem dJ6_signum_0f7a4_8 : decode cJ6_signum_0f7a4 8 = .ok (.iushr, 1) := by decide +kernel
theorem dJ6_signum_0f7a4_9 : decode cJ6_signum_0f7a4 9 = .ok (.ior, 1) := by decide +kernel
theorem dJ6_signum_0f7a4_10 : decode cJ6_signum_0f7a4 10 = .ok (.ireturn, 1) := by decide +kernel
theorem dJ9_abs_0f7a4_0 : decode cJ9_abs_0f7a4 0 = .ok (.iload_n 0, 1) := by decide +kernel
theorem dJ9_abs_0f7a4_1 : decode cJ9_abs_0f7a4 1 = .ok (.ifCond .ge 8, 3) := by decide +kernel
theorem dJ9_abs_0f7a4_4 : decode cJ9_abs_0f7a4 4 = .ok (.iload_n 0, 1) := by decide +kernel
theorem dJ9_abs_0f7a4_5 : decode cJ9_abs_0f7a4 5 = .ok (.ineg, 1) := by decide +kernel
theorem dJ9_abs_0f7a4_6 : decode cJ9_abs_0f7a4 6 = .ok (.goto 4, 3) := by decide +kernel
theorem dJ9_abs_0f7a4_9 : decode cJ9_abs_0f7a4 9 = .ok (.iload_n 0, 1) := by decide +kernel
theorem dJ9_abs_0f7a4_10 : decode cJ9_abs_0f7a4 10 = .ok (.ireturn, 1) := by decide +kernel
theorem dJ9_max_7cf53_0 : decode cJ9_max_7cf53 0 = .ok (.iload_n 0, 1) := by decide +kernel
theorem dJ9_max_7cf53_1 : decode cJ9_max_7cf53 1 = .ok (.iload_n 1, 1) := by decide +kernel
theorem dJ9_max_7cf53_2 : decode cJ9_max_7cf53 2 = .ok (.if_icmp .lt 7, 3) := by decide +kernel
theorem dJ9_max_7cf53_5 : decode cJ9_max_7cf53 5 = .ok (.iload_n 0, 1) := by decide +kernel
theorem dJ9_max_7cf53_6 : decode cJ9_max_7cf53 6 = .ok (.goto 4, 3) := by decide +kernel
theorem dJ9_max_7cf53_9 : decode cJ9_max_7cf53 9 = .ok (.iload_n 1, 1) := by decide +kernel
theorem dJ9_max_7cf53_10 : decode cJ9_max_7cf53 10 = .ok (.ireturn, 1) := by decide +kernel
theorem dJ9_min_7cf53_0 : decode cJ9_min_7cf53 0 = .ok (.iload_n 0, 1) := by decide +kernel
theorem dJ9_min_7cf53_1 : decode cJ9_min_7cf53 1 = .ok (.iload_n 1, 1) := by decide +kernel
theorem dJ9_min_7cf53_2 : decode cJ9_min_7cf53 2 = .ok (.if_icmp .gt 7, 3) := by decide +kernel
theorem dJ9_min_7cf53_5 : decode cJ9_min_7cf53 5 = .ok (.iload_n 0, 1) := by decide +kernel
theorem dJ9_min_7cf53_6 : decode cJ9_min_7cf53 6 = .ok (.goto 4, 3) := by decide +kernel
theorem dJ9_min_7cf53_9 : decode cJ9_min_7cf53 9 = .ok (.iload_n 1, 1) := by decide +kernel
theorem dJ9_min_7cf53_10 : decode cJ9_min_7cf53 10 = .ok (.ireturn, 1) := by decide +kernel
theorem dJ7_fill_53178_0 : decode cJ7_fill_53178 0 = .ok (.iconst 0, 1) := by decide +kernel
theorem dJ7_fill_53178_1 : decode cJ7_fill_53178 1 = .ok (.istore_n 2, 1) := by decide +kernel
theorem dJ7_fill_53178_2 : decode cJ7_fill_53178 2 = .ok (.aload_n 0, 1) := by decide +kernel
theorem dJ7_fill_53178_3 : decode cJ7_fill_53178 3 = .ok (.arraylength, 1) := by decide +kernel
theorem dJ7_fill_53178_4 : decode cJ7_fill_53178 4 = .ok (.istore_n 3, 1) := by decide +kernel
theorem dJ7_fill_53178_5 : decode cJ7_fill_53178 5 = .ok (.iload_n 2, 1) := by decide +kernel
theorem dJ7_fill_53178_6 : decode cJ7_fill_53178 6 = .ok (.iload_n 3, 1) := by decide +kernel
theorem dJ7_fill_53178_7 : decode cJ7_fill_53178 7 = .ok (.if_icmp .ge 13, 3) := by decide +kernel
theorem dJ7_fill_53178_10 : decode cJ7_fill_53178 10 = .ok (.aload_n 0, 1) := by decide +kernel
theorem dJ7_fill_53178_11 : decode cJ7_fill_53178 11 = .ok (.iload_n 2, 1) := by decide +kernel
theorem dJ7_fill_53178_12 : decode cJ7_fill_53178 12 = .ok (.iload_n 1, 1) := by decide +kernel
theorem dJ7_fill_53178_13 : decode cJ7_fill_53178 13 = .ok (.iastore, 1) := by decide +kernel
theorem dJ7_fill_53178_14 : decode cJ7_fill_53178 14 = .ok (.iinc 2 1, 3) := by decide +kernel
theorem dJ7_fill_53178_17 : decode cJ7_fill_53178 17 = .ok (.goto (-12), 3) := by decide +kernel
theorem dJ7_fill_53178_20 : decode cJ7_fill_53178 20 = .ok (.return_, 1) := by decide +kernel
end
section
theorem dX5_init_0 : decode cX5_init 0 = .ok (.aload_n 0, 1) := by decide +kernel
theorem dX5_init_1 : decode cX5_init 1 = .ok (.invokespecial 3, 3) := by decide +kernel
theorem dX5_init_4 : decode cX5_init 4 = .ok (.aload_n 0, 1) := by decide +kernel
theorem dX5_init_5 : decode cX5_init 5 = .ok (.iconst 3, 1) := by decide +kernel
theorem dX5_init_6 : decode cX5_init 6 = .ok (.putfield 9, 3) := by decide +kernel
theorem dX5_init_9 : decode cX5_init 9 = .ok (.aload_n 0, 1) := by decide +kernel
theorem dX5_init_10 : decode cX5_init 10 = .ok (.bipush 6, 2) := by decide +kernel
theorem dX5_init_12 : decode cX5_init 12 = .ok (.newarray .int, 2) := by decide +kernel
theorem dX5_init_14 : decode cX5_init 14 = .ok (.putfield 13, 3) := by decide +kernel
theorem dX5_init_17 : decode cX5_init 17 = .ok (.aload_n 0, 1) := by decide +kernel
theorem dX5_init_18 : decode cX5_init 18 = .ok (.bipush 6, 2) := by decide +kernel
theorem dX5_init_20 : decode cX5_init 20 = .ok (.newarray .int, 2) := by decide +kernel
theorem dX5_init_22 : decode cX5_init 22 = .ok (.putfield 17, 3) := by decide +kernel
theorem dX5_init_25 : decode cX5_init 25 = .ok (.aload_n 0, 1) := by decide +kernel
theorem dX5_init_26 : decode cX5_init 26 = .ok (.sipush 2400, 3) := by decide +kernel
theorem dX5_init_29 : decode cX5_init 29 = .ok (.newarray .int, 2) := by decide +kernel
theorem dX5_init_31 : decode cX5_init 31 = .ok (.putfield 20, 3) := by decide +kernel
theorem dX5_init_34 : decode cX5_init 34 = .ok (.aload_n 0, 1) := by decide +kernel
theorem dX5_init_35 : decode cX5_init 35 = .ok (.iconst 5, 1) := by decide +kernel
theorem dX5_init_36 : decode cX5_init 36 = .ok (.newarray .int, 2) := by decide +kernel
theorem dX5_init_38 : decode cX5_init 38 = .ok (.putfield 23, 3) := by decide +kernel
theorem dX5_init_41 : decode cX5_init 41 = .ok (.aload_n 0, 1) := by decide +kernel
theorem dX5_init_42 : decode cX5_init 42 = .ok (.iconst 5, 1) := by decide +kernel
theorem dX5_init_43 : decode cX5_init 43 = .ok (.newarray .int, 2) := by decide +kernel
theorem dX5_init_45 : decode cX5_init 45 = .ok (.putfield 26, 3) := by decide +kernel
theorem dX5_init_48 : decode cX5_init 48 = .ok (.aload_n 0, 1) := by decide +kernel
theorem dX5_init_49 : decode cX5_init 49 = .ok (.iconst 5, 1) := by decide +kernel
theorem dX5_init_50 : decode cX5_init 50 = .ok (.newarray .int, 2) := by decide +kernel
theorem dX5_init_52 : decode cX5_init 52 = .ok (.putfield 29, 3) := by decide +kernel
theorem dX5_init_55 : decode cX5_init 55 = .ok (.aload_n 0, 1) := by decide +kernel
theorem dX5_init_56 : decode cX5_init 56 = .ok (.iconst 5, 1) := by decide +kernel
theorem dX5_init_57 : decode cX5_init 57 = .ok (.newarray .int, 2) := by decide +kernel
theorem dX5_init_59 : decode cX5_init 59 = .ok (.putfield 32, 3) := by decide +kernel
theorem dX5_init_62 : decode cX5_init 62 = .ok (.aload_n 0, 1) := by decide +kernel
theorem dX5_init_63 : decode cX5_init 63 = .ok (.iconst 5, 1) := by decide +kernel
theorem dX5_init_64 : decode cX5_init 64 = .ok (.newarray .int, 2) := by decide +kernel
theorem dX5_init_66 : decode cX5_init 66 = .ok (.putfield 35, 3) := by decide +kernel
theorem dX5_init_69 : decode cX5_init 69 = .ok (.aload_n 0, 1) := by decide +kernel
theorem dX5_init_70 : decode cX5_init 70 = .ok (.sipush 400, 3) := by decide +kernel
theorem dX5_init_73 : decode cX5_init 73 = .ok (.newarray .int, 2) := by decide +kernel
theorem dX5_init_75 : decode cX5_init 75 = .ok (.putfield 38, 3) := by decide +kernel
theorem dX5_init_78 : decode cX5_init 78 = .ok (.aload_n 0, 1) := by decide +kernel
theorem dX5_init_79 : decode cX5_init 79 = .ok (.bipush 10, 2) := by decide +kernel
theorem dX5_init_81 : decode cX5_init 81 = .ok (.newarray .int, 2) := by decide +kernel
theorem dX5_init_83 : decode cX5_init 83 = .ok (.putfield 41, 3) := by decide +kernel
theorem dX5_init_86 : decode cX5_init 86 = .ok (.aload_n 0, 1) := by decide +kernel
theorem dX5_init_87 : decode cX5_init 87 = .ok (.bipush 10, 2) := by decide +kernel
theorem dX5_init_89 : decode cX5_init 89 = .ok (.newarray .int, 2) := by decide +kernel
theorem dX5_init_91 : decode cX5_init 91 = .ok (.putfield 44, 3) := by decide +kernel
theorem dX5_init_94 : decode cX5_init 94 = .ok (.aload_n 0, 1) := by decide +kernel
theorem dX5_init_95 : decode cX5_init 95 = .ok (.bipush 10, 2) := by decide +kernel
theorem dX5_init_97 : decode cX5_init 97 = .ok (.newarray .int, 2) := by decide +kernel
theorem dX5_init_99 : decode cX5_init 99 = .ok (.putfield 47, 3) := by decide +kernel
theorem dX5_init_102 : decode cX5_init 102 = .ok (.aload_n 0, 1) := by decide +kernel
theorem dX5_init_103 : decode cX5_init 103 = .ok (.bipush 50, 2) := by decide +kernel
theorem dX5_init_105 : decode cX5_init 105 = .ok (.newarray .int, 2) := by decide +kernel
theorem dX5_init_107 : decode cX5_init 107 = .ok (.putfield 50, 3) := by decide +kernel
theorem dX5_init_110 : decode cX5_init 110 = .ok (.return_, 1) := by decide +kernel
theorem dX5_thrown_0 : decode cX5_thrown 0 = .ok (.aload_n 0, 1) := by decide +kernel
theorem dX5_thrown_1 : decode cX5_thrown 1 = .ok (.getfield 53, 3) := by decide +kernel
theorem dX5_thrown_4 : decode cX5_thrown 4 = .ok (.ireturn, 1) := by decide +kernel
theorem dX5_no_0 : decode cX5_no 0 = .ok (.aload_n 0, 1) := by decide +kernel
theorem dX5_no_1 : decode cX5_no 1 = .ok (.iload_n 1, 1) := by decide +kernel
theorem dX5_no_2 : decode cX5_no 2 = .ok (.putfield 53, 3) := by decide +kernel
theorem dX5_no_5 : decode cX5_no 5 = .ok (.iconst 0, 1) := by decide +kernel
theorem dX5_no_6 : decode cX5_no 6 = .ok (.ireturn, 1) := by decide +kernel
theorem dX5_isIn_0 : decode cX5_isIn 0 = .ok (.iload_n 0, 1) := by decide +kernel
theorem dX5_isIn_1 : decode cX5_isIn 1 = .ok (.iload_n 1, 1) := by decide +kernel
theorem dX5_isIn_2 : decode cX5_isIn 2 = .ok (.if_icmp .lt 12, 3) := by decide +kernel
theorem dX5_isIn_5 : decode cX5_isIn 5 = .ok (.iload_n 0, 1) := by decide +kernel
theorem dX5_isIn_6 : decode cX5_isIn 6 = .ok (.iload_n 2, 1) := by decide +kernel
theorem dX5_isIn_7 : decode cX5_isIn 7 = .ok (.if_icmp .gt 7, 3) := by decide +kernel
theorem dX5_isIn_10 : decode cX5_isIn 10 = .ok (.iconst 1, 1) := by decide +kernel
theorem dX5_isIn_11 : decode cX5_isIn 11 = .ok (.goto 4, 3) := by decide +kernel
theorem dX5_isIn_14 : decode cX5_isIn 14 = .ok (.iconst 0, 1) := by decide +kernel
theorem dX5_isIn_15 : decode cX5_isIn 15 = .ok (.ireturn, 1) := by decide +kernel
theorem dX5_isSpot_0 : decode cX5_isSpot 0 = .ok (.iload_n 0, 1) := by decide +kernel
theorem dX5_isSpot_1 : decode cX5_isSpot 1 = .ok (.iconst 0, 1) := by decide +kernel
theorem dX5_isSpot_2 : decode cX5_isSpot 2 = .ok (.bipush 19, 2) := by decide +kernel
theorem dX5_isSpot_4 : decode cX5_isSpot 4 = .ok (.invokestatic 56, 3) := by decide +kernel
theorem dX5_isSpot_7 : decode cX5_isSpot 7 = .ok (.ifCond .eq 17, 3) := by decide +kernel
theorem dX5_isSpot_10 : decode cX5_isSpot 10 = .ok (.iload_n 1, 1) := by decide +kernel
theorem dX5_isSpot_11 : decode cX5_isSpot 11 = .ok (.iconst 0, 1) := by decide +kernel
theorem dX5_isSpot_12 : decode cX5_isSpot 12 = .ok (.bipush 19, 2) := by decide +kernel
theorem dX5_isSpot_14 : decode cX5_isSpot 14 = .ok (.invokestatic 56, 3) := by decide +kernel
theorem dX5_isSpot_17 : decode cX5_isSpot 17 = .ok (.ifCond .eq 7, 3) := by decide +kernel
theorem dX5_isSpot_20 : decode cX5_isSpot 20 = .ok (.iconst 1, 1) := by decide +kernel
theorem dX5_isSpot_21 : decode cX5_isSpot 21 = .ok (.goto 4, 3) := by decide +kernel
theorem dX5_isSpot_24 : decode cX5_isSpot 24 = .ok (.iconst 0, 1) := by decide +kernel
theorem dX5_isSpot_25 : decode cX5_isSpot 25 = .ok (.ireturn, 1) := by decide +kernel
theorem dX5_isDowser_0 : decode cX5_isDowser 0 = .ok (.iload_n 1, 1) := by decide +kernel
theorem dX5_isDowser_1 : decode cX5_isDowser 1 = .ok (.iconst 0, 1) := by decide +kernel
theorem dX5_isDowser_2 : decode cX5_isDowser 2 = .ok (.aload_n 0, 1) := by decide +kernel
theorem dX5_isDowser_3 : decode cX5_isDowser 3 = .ok (.getfield 60, 3) := by decide +kernel
theorem dX5_isDowser_6 : decode cX5_isDowser 6 = .ok (.iconst 1, 1) := by decide +kernel
theorem dX5_isDowser_7 : decode cX5_isDowser 7 = .ok (.isub, 1) := by decide +kernel
theorem dX5_isDowser_8 : decode cX5_isDowser 8 = .ok (.invokestatic 56, 3) := by decide +kernel
theorem dX5_isDowser_11 : decode cX5_isDowser 11 = .ok (.ireturn, 1) := by decide +kernel
theorem dX5_isPit_0 : decode cX5_isPit 0 = .ok (.iload_n 1, 1) := by decide +kernel
theorem dX5_isPit_1 : decode cX5_isPit 1 = .ok (.iconst 0, 1) := by decide +kernel
theorem dX5_isPit_2 : decode cX5_isPit 2 = .ok (.aload_n 0, 1) := by decide +kernel
theorem dX5_isPit_3 : decode cX5_isPit 3 = .ok (.getfield 63, 3) := by decide +kernel
theorem dX5_isPit_6 : decode cX5_isPit 6 = .ok (.iconst 1, 1) := by decide +kernel
theorem dX5_isPit_7 : decode cX5_isPit 7 = .ok (.isub, 1) := by decide +kernel
theorem dX5_isPit_8 : decode cX5_isPit 8 = .ok (.invokestatic 56, 3) := by decide +kernel
theorem dX5_isPit_11 : decode cX5_isPit 11 = .ok (.ireturn, 1) := by decide +kernel
theorem dX5_far_0 : decode cX5_far 0 = .ok (.iload_n 0, 1) := by decide +kernel
theorem dX5_far_1 : decode cX5_far 1 = .ok (.bipush 20, 2) := by decide +kernel
theorem dX5_far_3 : decode cX5_far 3 = .ok (.irem, 1) := by decide +kernel
theorem dX5_far_4 : decode cX5_far 4 = .ok (.iload_n 1, 1) := by decide +kernel
theorem dX5_far_5 : decode cX5_far 5 = .ok (.bipush 20, 2) := by decide +kernel
theorem dX5_far_7 : decode cX5_far 7 = .ok (.irem, 1) := by decide +kernel
theorem dX5_far_8 : decode cX5_far 8 = .ok (.isub, 1) := by decide +kernel
theorem dX5_far_9 : decode cX5_far 9 = .ok (.invokestatic 66, 3) := by decide +kernel
theorem dX5_far_12 : decode cX5_far 12 = .ok (.iload_n 0, 1) := by decide +kernel
theorem dX5_far_13 : decode cX5_far 13 = .ok (.bipush 20, 2) := by decide +kernel
theorem dX5_far_15 : decode cX5_far 15 = .ok (.idiv, 1) := by decide +kernel
theorem dX5_far_16 : decode cX5_far 16 = .ok (.iload_n 1, 1) := by decide +kernel
theorem dX5_far_17 : decode cX5_far 17 = .ok (.bipush 20, 2) := by decide +kernel
theorem dX5_far_19 : decode cX5_far 19 = .ok (.idiv, 1) := by decide +kernel
theorem dX5_far_20 : decode cX5_far 20 = .ok (.isub, 1) := by decide +kernel
theorem dX5_far_21 : decode cX5_far 21 = .ok (.invokestatic 66, 3) := by decide +kernel
theorem dX5_far_24 : decode cX5_far 24 = .ok (.iadd, 1) := by decide +kernel
theorem dX5_far_25 : decode cX5_far 25 = .ok (.ireturn, 1) := by decide +kernel
theorem dX5_water_0 : decode cX5_water 0 = .ok (.iconst 0, 1) := by decide +kernel
theorem dX5_water_1 : decode cX5_water 1 = .ok (.istore_n 2, 1) := by decide +kernel
theorem dX5_water_2 : decode cX5_water 2 = .ok (.iconst 0, 1) := by decide +kernel
theorem dX5_water_3 : decode cX5_water 3 = .ok (.istore_n 3, 1) := by decide +kernel
theorem dX5_water_4 : decode cX5_water 4 = .ok (.iload_n 3, 1) := by decide +kernel
theorem dX5_water_5 : decode cX5_water 5 = .ok (.aload_n 0, 1) := by decide +kernel
theorem dX5_water_6 : decode cX5_water 6 = .ok (.getfield 72, 3) := by decide +kernel
theorem dX5_water_9 : decode cX5_water 9 = .ok (.if_icmp .ge 38, 3) := by decide +kernel
theorem dX5_water_12 : decode cX5_water 12 = .ok (.iload_n 2, 1) := by decide +kernel
theorem dX5_water_13 : decode cX5_water 13 = .ok (.aload_n 0, 1) := by decide +kernel
theorem dX5_water_14 : decode cX5_water 14 = .ok (.getfield 20, 3) := by decide +kernel
theorem dX5_water_17 : decode cX5_water 17 = .ok (.sipush 400, 3) := by decide +kernel
theorem dX5_water_20 : decode cX5_water 20 = .ok (.iload_n 3, 1) := by decide +kernel
theorem dX5_water_21 : decode cX5_water 21 = .ok (.imul, 1) := by decide +kernel
theorem dX5_water_22 : decode cX5_water 22 = .ok (.iload_n 1, 1) := by decide +kernel
theorem dX5_water_23 : decode cX5_water 23 = .ok (.iadd, 1) := by decide +kernel
theorem dX5_water_24 : decode cX5_water 24 = .ok (.iaload, 1) := by decide +kernel
theorem dX5_water_25 : decode cX5_water 25 = .ok (.iconst 2, 1) := by decide +kernel
theorem dX5_water_26 : decode cX5_water 26 = .ok (.if_icmp .ne 12, 3) := by decide +kernel
theorem dX5_water_29 : decode cX5_water 29 = .ok (.aload_n 0, 1) := by decide +kernel
theorem dX5_water_30 : decode cX5_water 30 = .ok (.getfield 17, 3) := by decide +kernel
theorem dX5_water_33 : decode cX5_water 33 = .ok (.iload_n 3, 1) := by decide +kernel
theorem dX5_water_34 : decode cX5_water 34 = .ok (.iaload, 1) := by decide +kernel
theorem dX5_water_35 : decode cX5_water 35 = .ok (.goto 4, 3) := by decide +kernel
theorem dX5_water_38 : decode cX5_water 38 = .ok (.iconst 0, 1) := by decide +kernel
theorem dX5_water_39 : decode cX5_water 39 = .ok (.iadd, 1) := by decide +kernel
theorem dX5_water_40 : decode cX5_water 40 = .ok (.istore_n 2, 1) := by decide +kernel
theorem dX5_water_41 : decode cX5_water 41 = .ok (.iinc 3 1, 3) := by decide +kernel
theorem dX5_water_44 : decode cX5_water 44 = .ok (.goto (-40), 3) := by decide +kernel
theorem dX5_water_47 : decode cX5_water 47 = .ok (.iload_n 2, 1) := by decide +kernel
theorem dX5_water_48 : decode cX5_water 48 = .ok (.ireturn, 1) := by decide +kernel
theorem dX5_depth_0 : decode cX5_depth 0 = .ok (.iconst 0, 1) := by decide +kernel
theorem dX5_depth_1 : decode cX5_depth 1 = .ok (.istore_n 2, 1) := by decide +kernel
theorem dX5_depth_2 : decode cX5_depth 2 = .ok (.iconst 0, 1) := by decide +kernel
theorem dX5_depth_3 : decode cX5_depth 3 = .ok (.istore_n 3, 1) := by decide +kernel
theorem dX5_depth_4 : decode cX5_depth 4 = .ok (.iload_n 3, 1) := by decide +kernel
theorem dX5_depth_5 : decode cX5_depth 5 = .ok (.aload_n 0, 1) := by decide +kernel
theorem dX5_depth_6 : decode cX5_depth 6 = .ok (.getfield 72, 3) := by decide +kernel
theorem dX5_depth_9 : decode cX5_depth 9 = .ok (.if_icmp .ge 46, 3) := by decide +kernel
theorem dX5_depth_12 : decode cX5_depth 12 = .ok (.aload_n 0, 1) := by decide +kernel
theorem dX5_depth_13 : decode cX5_depth 13 = .ok (.getfield 20, 3) := by decide +kernel
theorem dX5_depth_16 : decode cX5_depth 16 = .ok (.sipush 400, 3) := by decide +kernel
theorem dX5_depth_19 : decode cX5_depth 19 = .ok (.iload_n 3, 1) := by decide +kernel
theorem dX5_depth_20 : decode cX5_depth 20 = .ok (.imul, 1) := by decide +kernel
theorem dX5_depth_21 : decode cX5_depth 21 = .ok (.iload_n 1, 1) := by decide +kernel
theorem dX5_depth_22 : decode cX5_depth 22 = .ok (.iadd, 1) := by decide +kernel
theorem dX5_depth_23 : decode cX5_depth 23 = .ok (.iaload, 1) := by decide +kernel
theorem dX5_depth_24 : decode cX5_depth 24 = .ok (.iconst 2, 1) := by decide +kernel
theorem dX5_depth_25 : decode cX5_depth 25 = .ok (.if_icmp .ne 24, 3) := by decide +kernel
theorem dX5_depth_28 : decode cX5_depth 28 = .ok (.iload_n 2, 1) := by decide +kernel
theorem dX5_depth_29 : decode cX5_depth 29 = .ok (.ifCond .eq 13, 3) := by decide +kernel
theorem dX5_depth_32 : decode cX5_depth 32 = .ok (.aload_n 0, 1) := by decide +kernel
theorem dX5_depth_33 : decode cX5_depth 33 = .ok (.getfield 13, 3) := by decide +kernel
theorem dX5_depth_36 : decode cX5_depth 36 = .ok (.iload_n 3, 1) := by decide +kernel
theorem dX5_depth_37 : decode cX5_depth 37 = .ok (.iaload, 1) := by decide +kernel
theorem dX5_depth_38 : decode cX5_depth 38 = .ok (.iload_n 2, 1) := by decide +kernel
theorem dX5_depth_39 : decode cX5_depth 39 = .ok (.if_icmp .ge 10, 3) := by decide +kernel
theorem dX5_depth_42 : decode cX5_depth 42 = .ok (.aload_n 0, 1) := by decide +kernel
theorem dX5_depth_43 : decode cX5_depth 43 = .ok (.getfield 13, 3) := by decide +kernel
theorem dX5_depth_46 : decode cX5_depth 46 = .ok (.iload_n 3, 1) := by decide +kernel
theorem dX5_depth_47 : decode cX5_depth 47 = .ok (.iaload, 1) := by decide +kernel
theorem dX5_depth_48 : decode cX5_depth 48 = .ok (.istore_n 2, 1) := by decide +kernel
theorem dX5_depth_49 : decode cX5_depth 49 = .ok (.iinc 3 1, 3) := by decide +kernel
theorem dX5_depth_52 : decode cX5_depth 52 = .ok (.goto (-48), 3) := by decide +kernel
theorem dX5_depth_55 : decode cX5_depth 55 = .ok (.iload_n 2, 1) := by decide +kernel
theorem dX5_depth_56 : decode cX5_depth 56 = .ok (.ireturn, 1) := by decide +kernel
theorem dX5_bends_0 : decode cX5_bends 0 = .ok (.aload_n 0, 1) := by decide +kernel
theorem dX5_bends_1 : decode cX5_bends 1 = .ok (.getfield 26, 3) := by decide +kernel
theorem dX5_bends_4 : decode cX5_bends 4 = .ok (.iload_n 1, 1) := by decide +kernel
theorem dX5_bends_5 : decode cX5_bends 5 = .ok (.iaload, 1) := by decide +kernel
theorem dX5_bends_6 : decode cX5_bends 6 = .ok (.istore_n 3, 1) := by decide +kernel
theorem dX5_bends_7 : decode cX5_bends 7 = .ok (.iconst 0, 1) := by decide +kernel
theorem dX5_bends_8 : decode cX5_bends 8 = .ok (.istore 4, 2) := by decide +kernel
theorem dX5_bends_10 : decode cX5_bends 10 = .ok (.iload 4, 2) := by decide +kernel
theorem dX5_bends_12 : decode cX5_bends 12 = .ok (.aload_n 0, 1) := by decide +kernel
theorem dX5_bends_13 : decode cX5_bends 13 = .ok (.getfield 72, 3) := by decide +kernel
theorem dX5_bends_16 : decode cX5_bends 16 = .ok (.if_icmp .ge 76, 3) := by decide +kernel
theorem dX5_bends_19 : decode cX5_bends 19 = .ok (.aload_n 0, 1) := by decide +kernel
theorem dX5_bends_20 : decode cX5_bends 20 = .ok (.getfield 17, 3) := by decide +kernel
theorem dX5_bends_23 : decode cX5_bends 23 = .ok (.iload 4, 2) := by decide +kernel
theorem dX5_bends_25 : decode cX5_bends 25 = .ok (.iaload, 1) := by decide +kernel
theorem dX5_bends_26 : decode cX5_bends 26 = .ok (.aload_n 0, 1) := by decide +kernel
theorem dX5_bends_27 : decode cX5_bends 27 = .ok (.getfield 23, 3) := by decide +kernel
theorem dX5_bends_30 : decode cX5_bends 30 = .ok (.iload_n 1, 1) := by decide +kernel
theorem dX5_bends_31 : decode cX5_bends 31 = .ok (.iaload, 1) := by decide +kernel
theorem dX5_bends_32 : decode cX5_bends 32 = .ok (.imul, 1) := by decide +kernel
theorem dX5_bends_33 : decode cX5_bends 33 = .ok (.aload_n 0, 1) := by decide +kernel
theorem dX5_bends_34 : decode cX5_bends 34 = .ok (.getfield 13, 3) := by decide +kernel
theorem dX5_bends_37 : decode cX5_bends 37 = .ok (.iload 4, 2) := by decide +kernel
theorem dX5_bends_39 : decode cX5_bends 39 = .ok (.iaload, 1) := by decide +kernel
theorem dX5_bends_40 : decode cX5_bends 40 = .ok (.idiv, 1) := by decide +kernel
theorem dX5_bends_41 : decode cX5_bends 41 = .ok (.istore 5, 2) := by decide +kernel
theorem dX5_bends_43 : decode cX5_bends 43 = .ok (.aload_n 0, 1) := by decide +kernel
theorem dX5_bends_44 : decode cX5_bends 44 = .ok (.getfield 20, 3) := by decide +kernel
theorem dX5_bends_47 : decode cX5_bends 47 = .ok (.sipush 400, 3) := by decide +kernel
theorem dX5_bends_50 : decode cX5_bends 50 = .ok (.iload 4, 2) := by decide +kernel
theorem dX5_bends_52 : decode cX5_bends 52 = .ok (.imul, 1) := by decide +kernel
theorem dX5_bends_53 : decode cX5_bends 53 = .ok (.iload_n 2, 1) := by decide +kernel
theorem dX5_bends_54 : decode cX5_bends 54 = .ok (.iadd, 1) := by decide +kernel
theorem dX5_bends_55 : decode cX5_bends 55 = .ok (.iaload, 1) := by decide +kernel
theorem dX5_bends_56 : decode cX5_bends 56 = .ok (.istore 6, 2) := by decide +kernel
theorem dX5_bends_58 : decode cX5_bends 58 = .ok (.iload_n 3, 1) := by decide +kernel
theorem dX5_bends_59 : decode cX5_bends 59 = .ok (.iload 6, 2) := by decide +kernel
theorem dX5_bends_61 : decode cX5_bends 61 = .ok (.iconst 2, 1) := by decide +kernel
theorem dX5_bends_62 : decode cX5_bends 62 = .ok (.if_icmp .ne 8, 3) := by decide +kernel
theorem dX5_bends_65 : decode cX5_bends 65 = .ok (.iload 5, 2) := by decide +kernel
theorem dX5_bends_67 : decode cX5_bends 67 = .ok (.goto 17, 3) := by decide +kernel
theorem dX5_bends_70 : decode cX5_bends 70 = .ok (.iload 6, 2) := by decide +kernel
theorem dX5_bends_72 : decode cX5_bends 72 = .ok (.iconst 1, 1) := by decide +kernel
theorem dX5_bends_73 : decode cX5_bends 73 = .ok (.if_icmp .ne 10, 3) := by decide +kernel
theorem dX5_bends_76 : decode cX5_bends 76 = .ok (.iload 5, 2) := by decide +kernel
theorem dX5_bends_78 : decode cX5_bends 78 = .ok (.iconst 2, 1) := by decide +kernel
theorem dX5_bends_79 : decode cX5_bends 79 = .ok (.idiv, 1) := by decide +kernel
theorem dX5_bends_80 : decode cX5_bends 80 = .ok (.goto 4, 3) := by decide +kernel
theorem dX5_bends_83 : decode cX5_bends 83 = .ok (.iconst 0, 1) := by decide +kernel
theorem dX5_bends_84 : decode cX5_bends 84 = .ok (.iadd, 1) := by decide +kernel
theorem dX5_bends_85 : decode cX5_bends 85 = .ok (.istore_n 3, 1) := by decide +kernel
theorem dX5_bends_86 : decode cX5_bends 86 = .ok (.iinc 4 1, 3) := by decide +kernel
theorem dX5_bends_89 : decode cX5_bends 89 = .ok (.goto (-79), 3) := by decide +kernel
theorem dX5_bends_92 : decode cX5_bends 92 = .ok (.iconst 0, 1) := by decide +kernel
theorem dX5_bends_93 : decode cX5_bends 93 = .ok (.iload_n 3, 1) := by decide +kernel
theorem dX5_bends_94 : decode cX5_bends 94 = .ok (.invokestatic 75, 3) := by decide +kernel
theorem dX5_bends_97 : decode cX5_bends 97 = .ok (.ireturn, 1) := by decide +kernel
theorem dX5_pitAt_0 : decode cX5_pitAt 0 = .ok (.iconst 0, 1) := by decide +kernel
theorem dX5_pitAt_1 : decode cX5_pitAt 1 = .ok (.istore_n 2, 1) := by decide +kernel
theorem dX5_pitAt_2 : decode cX5_pitAt 2 = .ok (.iload_n 2, 1) := by decide +kernel
theorem dX5_pitAt_3 : decode cX5_pitAt 3 = .ok (.aload_n 0, 1) := by decide +kernel
theorem dX5_pitAt_4 : decode cX5_pitAt 4 = .ok (.getfield 63, 3) := by decide +kernel
theorem dX5_pitAt_7 : decode cX5_pitAt 7 = .ok (.if_icmp .ge 21, 3) := by decide +kernel
theorem dX5_pitAt_10 : decode cX5_pitAt 10 = .ok (.aload_n 0, 1) := by decide +kernel
theorem dX5_pitAt_11 : decode cX5_pitAt 11 = .ok (.getfield 41, 3) := by decide +kernel
theorem dX5_pitAt_14 : decode cX5_pitAt 14 = .ok (.iload_n 2, 1) := by decide +kernel
theorem dX5_pitAt_15 : decode cX5_pitAt 15 = .ok (.iaload, 1) := by decide +kernel
theorem dX5_pitAt_16 : decode cX5_pitAt 16 = .ok (.iload_n 1, 1) := by decide +kernel
theorem dX5_pitAt_17 : decode cX5_pitAt 17 = .ok (.if_icmp .ne 5, 3) := by decide +kernel
theorem dX5_pitAt_20 : decode cX5_pitAt 20 = .ok (.iload_n 2, 1) := by decide +kernel
theorem dX5_pitAt_21 : decode cX5_pitAt 21 = .ok (.ireturn, 1) := by decide +kernel
theorem dX5_pitAt_22 : decode cX5_pitAt 22 = .ok (.iinc 2 1, 3) := by decide +kernel
theorem dX5_pitAt_25 : decode cX5_pitAt 25 = .ok (.goto (-23), 3) := by decide +kernel
theorem dX5_pitAt_28 : decode cX5_pitAt 28 = .ok (.iconst (-1), 1) := by decide +kernel
theorem dX5_pitAt_29 : decode cX5_pitAt 29 = .ok (.ireturn, 1) := by decide +kernel
theorem dX5_pegsNear_0 : decode cX5_pegsNear 0 = .ok (.iconst 0, 1) := by decide +kernel
theorem dX5_pegsNear_1 : decode cX5_pegsNear 1 = .ok (.istore_n 2, 1) := by decide +kernel
theorem dX5_pegsNear_2 : decode cX5_pegsNear 2 = .ok (.iconst 0, 1) := by decide +kernel
theorem dX5_pegsNear_3 : decode cX5_pegsNear 3 = .ok (.istore_n 3, 1) := by decide +kernel
theorem dX5_pegsNear_4 : decode cX5_pegsNear 4 = .ok (.iload_n 3, 1) := by decide +kernel
theorem dX5_pegsNear_5 : decode cX5_pegsNear 5 = .ok (.sipush 400, 3) := by decide +kernel
theorem dX5_pegsNear_8 : decode cX5_pegsNear 8 = .ok (.if_icmp .ge 35, 3) := by decide +kernel
theorem dX5_pegsNear_11 : decode cX5_pegsNear 11 = .ok (.iload_n 2, 1) := by decide +kernel
theorem dX5_pegsNear_12 : decode cX5_pegsNear 12 = .ok (.aload_n 0, 1) := by decide +kernel
theorem dX5_pegsNear_13 : decode cX5_pegsNear 13 = .ok (.getfield 38, 3) := by decide +kernel
theorem dX5_pegsNear_16 : decode cX5_pegsNear 16 = .ok (.iload_n 3, 1) := by decide +kernel
theorem dX5_pegsNear_17 : decode cX5_pegsNear 17 = .ok (.iaload, 1) := by decide +kernel
theorem dX5_pegsNear_18 : decode cX5_pegsNear 18 = .ok (.ifCond .le 16, 3) := by decide +kernel
theorem dX5_pegsNear_21 : decode cX5_pegsNear 21 = .ok (.iload_n 3, 1) := by decide +kernel
theorem dX5_pegsNear_22 : decode cX5_pegsNear 22 = .ok (.iload_n 1, 1) := by decide +kernel
theorem dX5_pegsNear_23 : decode cX5_pegsNear 23 = .ok (.invokestatic 79, 3) := by decide +kernel
theorem dX5_pegsNear_26 : decode cX5_pegsNear 26 = .ok (.iconst 1, 1) := by decide +kernel
theorem dX5_pegsNear_27 : decode cX5_pegsNear 27 = .ok (.if_icmp .ne 7, 3) := by decide +kernel
theorem dX5_pegsNear_30 : decode cX5_pegsNear 30 = .ok (.iconst 1, 1) := by decide +kernel
theorem dX5_pegsNear_31 : decode cX5_pegsNear 31 = .ok (.goto 4, 3) := by decide +kernel
theorem dX5_pegsNear_34 : decode cX5_pegsNear 34 = .ok (.iconst 0, 1) := by decide +kernel
theorem dX5_pegsNear_35 : decode cX5_pegsNear 35 = .ok (.iadd, 1) := by decide +kernel
theorem dX5_pegsNear_36 : decode cX5_pegsNear 36 = .ok (.istore_n 2, 1) := by decide +kernel
theorem dX5_pegsNear_37 : decode cX5_pegsNear 37 = .ok (.iinc 3 1, 3) := by decide +kernel
theorem dX5_pegsNear_40 : decode cX5_pegsNear 40 = .ok (.goto (-36), 3) := by decide +kernel
theorem dX5_pegsNear_43 : decode cX5_pegsNear 43 = .ok (.iload_n 2, 1) := by decide +kernel
theorem dX5_pegsNear_44 : decode cX5_pegsNear 44 = .ok (.ireturn, 1) := by decide +kernel
theorem dX5_nearest_0 : decode cX5_nearest 0 = .ok (.iconst (-1), 1) := by decide +kernel
theorem dX5_nearest_1 : decode cX5_nearest 1 = .ok (.istore_n 2, 1) := by decide +kernel
theorem dX5_nearest_2 : decode cX5_nearest 2 = .ok (.iconst 0, 1) := by decide +kernel
theorem dX5_nearest_3 : decode cX5_nearest 3 = .ok (.istore_n 3, 1) := by decide +kernel
theorem dX5_nearest_4 : decode cX5_nearest 4 = .ok (.iload_n 3, 1) := by decide +kernel
theorem dX5_nearest_5 : decode cX5_nearest 5 = .ok (.sipush 400, 3) := by decide +kernel
theorem dX5_nearest_8 : decode cX5_nearest 8 = .ok (.if_icmp .ge 38, 3) := by decide +kernel
theorem dX5_nearest_11 : decode cX5_nearest 11 = .ok (.aload_n 0, 1) := by decide +kernel
theorem dX5_nearest_12 : decode cX5_nearest 12 = .ok (.getfield 38, 3) := by decide +kernel
theorem dX5_nearest_15 : decode cX5_nearest 15 = .ok (.iload_n 3, 1) := by decide +kernel
theorem dX5_nearest_16 : decode cX5_nearest 16 = .ok (.iaload, 1) := by decide +kernel
theorem dX5_nearest_17 : decode cX5_nearest 17 = .ok (.ifCond .le 23, 3) := by decide +kernel
theorem dX5_nearest_20 : decode cX5_nearest 20 = .ok (.iload_n 2, 1) := by decide +kernel
theorem dX5_nearest_21 : decode cX5_nearest 21 = .ok (.iconst (-1), 1) := by decide +kernel
theorem dX5_nearest_22 : decode cX5_nearest 22 = .ok (.if_icmp .eq 12, 3) := by decide +kernel
theorem dX5_nearest_25 : decode cX5_nearest 25 = .ok (.iload_n 3, 1) := by decide +kernel
theorem dX5_nearest_26 : decode cX5_nearest 26 = .ok (.iload_n 1, 1) := by decide +kernel
theorem dX5_nearest_27 : decode cX5_nearest 27 = .ok (.invokestatic 79, 3) := by decide +kernel
theorem dX5_nearest_30 : decode cX5_nearest 30 = .ok (.iload_n 2, 1) := by decide +kernel
theorem dX5_nearest_31 : decode cX5_nearest 31 = .ok (.if_icmp .ge 9, 3) := by decide +kernel
theorem dX5_nearest_34 : decode cX5_nearest 34 = .ok (.iload_n 3, 1) := by decide +kernel
theorem dX5_nearest_35 : decode cX5_nearest 35 = .ok (.iload_n 1, 1) := by decide +kernel
theorem dX5_nearest_36 : decode cX5_nearest 36 = .ok (.invokestatic 79, 3) := by decide +kernel
theorem dX5_nearest_39 : decode cX5_nearest 39 = .ok (.istore_n 2, 1) := by decide +kernel
theorem dX5_nearest_40 : decode cX5_nearest 40 = .ok (.iinc 3 1, 3) := by decide +kernel
theorem dX5_nearest_43 : decode cX5_nearest 43 = .ok (.goto (-39), 3) := by decide +kernel
theorem dX5_nearest_46 : decode cX5_nearest 46 = .ok (.iload_n 2, 1) := by decide +kernel
theorem dX5_nearest_47 : decode cX5_nearest 47 = .ok (.ireturn, 1) := by decide +kernel
theorem dX5_layOut_0 : decode cX5_layOut 0 = .ok (.iload_n 3, 1) := by decide +kernel
theorem dX5_layOut_1 : decode cX5_layOut 1 = .ok (.bipush 20, 2) := by decide +kernel
theorem dX5_layOut_3 : decode cX5_layOut 3 = .ok (.irem, 1) := by decide +kernel
theorem dX5_layOut_4 : decode cX5_layOut 4 = .ok (.iload_n 2, 1) := by decide +kernel
theorem dX5_layOut_5 : decode cX5_layOut 5 = .ok (.bipush 20, 2) := by decide +kernel
theorem dX5_layOut_7 : decode cX5_layOut 7 = .ok (.irem, 1) := by decide +kernel
theorem dX5_layOut_8 : decode cX5_layOut 8 = .ok (.isub, 1) := by decide +kernel
theorem dX5_layOut_9 : decode cX5_layOut 9 = .ok (.invokestatic 66, 3) := by decide +kernel
theorem dX5_layOut_12 : decode cX5_layOut 12 = .ok (.iload_n 3, 1) := by decide +kernel
theorem dX5_layOut_13 : decode cX5_layOut 13 = .ok (.bipush 20, 2) := by decide +kernel
theorem dX5_layOut_15 : decode cX5_layOut 15 = .ok (.idiv, 1) := by decide +kernel
theorem dX5_layOut_16 : decode cX5_layOut 16 = .ok (.iload_n 2, 1) := by decide +kernel
theorem dX5_layOut_17 : decode cX5_layOut 17 = .ok (.bipush 20, 2) := by decide +kernel
theorem dX5_layOut_19 : decode cX5_layOut 19 = .ok (.idiv, 1) := by decide +kernel
theorem dX5_layOut_20 : decode cX5_layOut 20 = .ok (.isub, 1) := by decide +kernel
theorem dX5_layOut_21 : decode cX5_layOut 21 = .ok (.invokestatic 66, 3) := by decide +kernel
theorem dX5_layOut_24 : decode cX5_layOut 24 = .ok (.invokestatic 75, 3) := by decide +kernel
theorem dX5_layOut_27 : decode cX5_layOut 27 = .ok (.istore 4, 2) := by decide +kernel
theorem dX5_layOut_29 : decode cX5_layOut 29 = .ok (.iload 4, 2) := by decide +kernel
theorem dX5_layOut_31 : decode cX5_layOut 31 = .ok (.ifCond .ne 7, 3) := by decide +kernel
theorem dX5_layOut_34 : decode cX5_layOut 34 = .ok (.iconst 0, 1) := by decide +kernel
theorem dX5_layOut_35 : decode cX5_layOut 35 = .ok (.goto 9, 3) := by decide +kernel
theorem dX5_layOut_38 : decode cX5_layOut 38 = .ok (.iload_n 3, 1) := by decide +kernel
theorem dX5_layOut_39 : decode cX5_layOut 39 = .ok (.iload_n 2, 1) := by decide +kernel
theorem dX5_layOut_40 : decode cX5_layOut 40 = .ok (.isub, 1) := by decide +kernel
theorem dX5_layOut_41 : decode cX5_layOut 41 = .ok (.iload 4, 2) := by decide +kernel
theorem dX5_layOut_43 : decode cX5_layOut 43 = .ok (.idiv, 1) := by decide +kernel
theorem dX5_layOut_44 : decode cX5_layOut 44 = .ok (.istore 5, 2) := by decide +kernel
theorem dX5_layOut_46 : decode cX5_layOut 46 = .ok (.iconst 0, 1) := by decide +kernel
theorem dX5_layOut_47 : decode cX5_layOut 47 = .ok (.istore 6, 2) := by decide +kernel
theorem dX5_layOut_49 : decode cX5_layOut 49 = .ok (.iload 6, 2) := by decide +kernel
theorem dX5_layOut_51 : decode cX5_layOut 51 = .ok (.iload 4, 2) := by decide +kernel
theorem dX5_layOut_53 : decode cX5_layOut 53 = .ok (.if_icmp .gt 28, 3) := by decide +kernel
theorem dX5_layOut_56 : decode cX5_layOut 56 = .ok (.aload_n 0, 1) := by decide +kernel
theorem dX5_layOut_57 : decode cX5_layOut 57 = .ok (.getfield 20, 3) := by decide +kernel
theorem dX5_layOut_60 : decode cX5_layOut 60 = .ok (.sipush 400, 3) := by decide +kernel
theorem dX5_layOut_63 : decode cX5_layOut 63 = .ok (.iload_n 1, 1) := by decide +kernel
theorem dX5_layOut_64 : decode cX5_layOut 64 = .ok (.imul, 1) := by decide +kernel
theorem dX5_layOut_65 : decode cX5_layOut 65 = .ok (.iload_n 2, 1) := by decide +kernel
theorem dX5_layOut_66 : decode cX5_layOut 66 = .ok (.iadd, 1) := by decide +kernel
theorem dX5_layOut_67 : decode cX5_layOut 67 = .ok (.iload 6, 2) := by decide +kernel
theorem dX5_layOut_69 : decode cX5_layOut 69 = .ok (.iload 5, 2) := by decide +kernel
theorem dX5_layOut_71 : decode cX5_layOut 71 = .ok (.imul, 1) := by decide +kernel
theorem dX5_layOut_72 : decode cX5_layOut 72 = .ok (.iadd, 1) := by decide +kernel
theorem dX5_layOut_73 : decode cX5_layOut 73 = .ok (.iconst 2, 1) := by decide +kernel
theorem dX5_layOut_74 : decode cX5_layOut 74 = .ok (.iastore, 1) := by decide +kernel
theorem dX5_layOut_75 : decode cX5_layOut 75 = .ok (.iinc 6 1, 3) := by decide +kernel
theorem dX5_layOut_78 : decode cX5_layOut 78 = .ok (.goto (-29), 3) := by decide +kernel
theorem dX5_layOut_81 : decode cX5_layOut 81 = .ok (.iconst 0, 1) := by decide +kernel
theorem dX5_layOut_82 : decode cX5_layOut 82 = .ok (.istore 6, 2) := by decide +kernel
theorem dX5_layOut_84 : decode cX5_layOut 84 = .ok (.iload 6, 2) := by decide +kernel
theorem dX5_layOut_86 : decode cX5_layOut 86 = .ok (.sipush 400, 3) := by decide +kernel
theorem dX5_layOut_89 : decode cX5_layOut 89 = .ok (.if_icmp .ge 49, 3) := by decide +kernel
theorem dX5_layOut_92 : decode cX5_layOut 92 = .ok (.aload_n 0, 1) := by decide +kernel
theorem dX5_layOut_93 : decode cX5_layOut 93 = .ok (.getfield 20, 3) := by decide +kernel
theorem dX5_layOut_96 : decode cX5_layOut 96 = .ok (.sipush 400, 3) := by decide +kernel
theorem dX5_layOut_99 : decode cX5_layOut 99 = .ok (.iload_n 1, 1) := by decide +kernel
theorem dX5_layOut_100 : decode cX5_layOut 100 = .ok (.imul, 1) := by decide +kernel
theorem dX5_layOut_101 : decode cX5_layOut 101 = .ok (.iload 6, 2) := by decide +kernel
theorem dX5_layOut_103 : decode cX5_layOut 103 = .ok (.iadd, 1) := by decide +kernel
theorem dX5_layOut_104 : decode cX5_layOut 104 = .ok (.iaload, 1) := by decide +kernel
theorem dX5_layOut_105 : decode cX5_layOut 105 = .ok (.ifCond .ne 27, 3) := by decide +kernel
theorem dX5_layOut_108 : decode cX5_layOut 108 = .ok (.aload_n 0, 1) := by decide +kernel
theorem dX5_layOut_109 : decode cX5_layOut 109 = .ok (.iload_n 1, 1) := by decide +kernel
theorem dX5_layOut_110 : decode cX5_layOut 110 = .ok (.iload 6, 2) := by decide +kernel
theorem dX5_layOut_112 : decode cX5_layOut 112 = .ok (.invokevirtual 82, 3) := by decide +kernel
theorem dX5_layOut_115 : decode cX5_layOut 115 = .ok (.ifCond .eq 17, 3) := by decide +kernel
theorem dX5_layOut_118 : decode cX5_layOut 118 = .ok (.aload_n 0, 1) := by decide +kernel
theorem dX5_layOut_119 : decode cX5_layOut 119 = .ok (.getfield 20, 3) := by decide +kernel
theorem dX5_layOut_122 : decode cX5_layOut 122 = .ok (.sipush 400, 3) := by decide +kernel
theorem dX5_layOut_125 : decode cX5_layOut 125 = .ok (.iload_n 1, 1) := by decide +kernel
theorem dX5_layOut_126 : decode cX5_layOut 126 = .ok (.imul, 1) := by decide +kernel
theorem dX5_layOut_127 : decode cX5_layOut 127 = .ok (.iload 6, 2) := by decide +kernel
theorem dX5_layOut_129 : decode cX5_layOut 129 = .ok (.iadd, 1) := by decide +kernel
theorem dX5_layOut_130 : decode cX5_layOut 130 = .ok (.iconst 1, 1) := by decide +kernel
theorem dX5_layOut_131 : decode cX5_layOut 131 = .ok (.iastore, 1) := by decide +kernel
theorem dX5_layOut_132 : decode cX5_layOut 132 = .ok (.iinc 6 1, 3) := by decide +kernel
theorem dX5_layOut_135 : decode cX5_layOut 135 = .ok (.goto (-51), 3) := by decide +kernel
theorem dX5_layOut_138 : decode cX5_layOut 138 = .ok (.return_, 1) := by decide +kernel
theorem dX5_isBeside_0 : decode cX5_isBeside 0 = .ok (.iconst 0, 1) := by decide +kernel
theorem dX5_isBeside_1 : decode cX5_isBeside 1 = .ok (.istore_n 3, 1) := by decide +kernel
theorem dX5_isBeside_2 : decode cX5_isBeside 2 = .ok (.iload_n 3, 1) := by decide +kernel
theorem dX5_isBeside_3 : decode cX5_isBeside 3 = .ok (.sipush 400, 3) := by decide +kernel
theorem dX5_isBeside_6 : decode cX5_isBeside 6 = .ok (.if_icmp .ge 36, 3) := by decide +kernel
theorem dX5_isBeside_9 : decode cX5_isBeside 9 = .ok (.aload_n 0, 1) := by decide +kernel
theorem dX5_isBeside_10 : decode cX5_isBeside 10 = .ok (.getfield 20, 3) := by decide +kernel
theorem dX5_isBeside_13 : decode cX5_isBeside 13 = .ok (.sipush 400, 3) := by decide +kernel
theorem dX5_isBeside_16 : decode cX5_isBeside 16 = .ok (.iload_n 1, 1) := by decide +kernel
theorem dX5_isBeside_17 : decode cX5_isBeside 17 = .ok (.imul, 1) := by decide +kernel
theorem dX5_isBeside_18 : decode cX5_isBeside 18 = .ok (.iload_n 3, 1) := by decide +kernel
theorem dX5_isBeside_19 : decode cX5_isBeside 19 = .ok (.iadd, 1) := by decide +kernel
theorem dX5_isBeside_20 : decode cX5_isBeside 20 = .ok (.iaload, 1) := by decide +kernel
theorem dX5_isBeside_21 : decode cX5_isBeside 21 = .ok (.iconst 2, 1) := by decide +kernel
theorem dX5_isBeside_22 : decode cX5_isBeside 22 = .ok (.if_icmp .ne 14, 3) := by decide +kernel
theorem dX5_isBeside_25 : decode cX5_isBeside 25 = .ok (.iload_n 3, 1) := by decide +kernel
theorem dX5_isBeside_26 : decode cX5_isBeside 26 = .ok (.iload_n 2, 1) := by decide +kernel
theorem dX5_isBeside_27 : decode cX5_isBeside 27 = .ok (.invokestatic 79, 3) := by decide +kernel
theorem dX5_isBeside_30 : decode cX5_isBeside 30 = .ok (.iconst 1, 1) := by decide +kernel
theorem dX5_isBeside_31 : decode cX5_isBeside 31 = .ok (.if_icmp .ne 5, 3) := by decide +kernel
theorem dX5_isBeside_34 : decode cX5_isBeside 34 = .ok (.iconst 1, 1) := by decide +kernel
theorem dX5_isBeside_35 : decode cX5_isBeside 35 = .ok (.ireturn, 1) := by decide +kernel
theorem dX5_isBeside_36 : decode cX5_isBeside 36 = .ok (.iinc 3 1, 3) := by decide +kernel
theorem dX5_isBeside_39 : decode cX5_isBeside 39 = .ok (.goto (-37), 3) := by decide +kernel
theorem dX5_isBeside_42 : decode cX5_isBeside 42 = .ok (.iconst 0, 1) := by decide +kernel
theorem dX5_isBeside_43 : decode cX5_isBeside 43 = .ok (.ireturn, 1) := by decide +kernel
theorem dX5_vein_0 : decode cX5_vein 0 = .ok (.aload_n 0, 1) := by decide +kernel
theorem dX5_vein_1 : decode cX5_vein 1 = .ok (.iconst 0, 1) := by decide +kernel
theorem dX5_vein_2 : decode cX5_vein 2 = .ok (.putfield 53, 3) := by decide +kernel
theorem dX5_vein_5 : decode cX5_vein 5 = .ok (.iload_n 1, 1) := by decide +kernel
theorem dX5_vein_6 : decode cX5_vein 6 = .ok (.iload_n 2, 1) := by decide +kernel
theorem dX5_vein_7 : decode cX5_vein 7 = .ok (.invokestatic 86, 3) := by decide +kernel
theorem dX5_vein_10 : decode cX5_vein 10 = .ok (.ifCond .eq 12, 3) := by decide +kernel
theorem dX5_vein_13 : decode cX5_vein 13 = .ok (.iload_n 3, 1) := by decide +kernel
theorem dX5_vein_14 : decode cX5_vein 14 = .ok (.iload 4, 2) := by decide +kernel
theorem dX5_vein_16 : decode cX5_vein 16 = .ok (.invokestatic 86, 3) := by decide +kernel
theorem dX5_vein_19 : decode cX5_vein 19 = .ok (.ifCond .ne 9, 3) := by decide +kernel
theorem dX5_vein_22 : decode cX5_vein 22 = .ok (.aload_n 0, 1) := by decide +kernel
theorem dX5_vein_23 : decode cX5_vein 23 = .ok (.iconst 1, 1) := by decide +kernel
theorem dX5_vein_24 : decode cX5_vein 24 = .ok (.invokevirtual 89, 3) := by decide +kernel
theorem dX5_vein_27 : decode cX5_vein 27 = .ok (.ireturn, 1) := by decide +kernel
theorem dX5_vein_28 : decode cX5_vein 28 = .ok (.iload_n 1, 1) := by decide +kernel
theorem dX5_vein_29 : decode cX5_vein 29 = .ok (.iload_n 3, 1) := by decide +kernel
theorem dX5_vein_30 : decode cX5_vein 30 = .ok (.if_icmp .eq 25, 3) := by decide +kernel
theorem dX5_vein_33 : decode cX5_vein 33 = .ok (.iload_n 2, 1) := by decide +kernel
theorem dX5_vein_34 : decode cX5_vein 34 = .ok (.iload 4, 2) := by decide +kernel
theorem dX5_vein_36 : decode cX5_vein 36 = .ok (.if_icmp .eq 19, 3) := by decide +kernel
theorem dX5_vein_39 : decode cX5_vein 39 = .ok (.iload_n 1, 1) := by decide +kernel
theorem dX5_vein_40 : decode cX5_vein 40 = .ok (.iload_n 3, 1) := by decide +kernel
theorem dX5_vein_41 : decode cX5_vein 41 = .ok (.isub, 1) := by decide +kernel
theorem dX5_vein_42 : decode cX5_vein 42 = .ok (.invokestatic 66, 3) := by decide +kernel
theorem dX5_vein_45 : decode cX5_vein 45 = .ok (.iload_n 2, 1) := by decide +kernel
theorem dX5_vein_46 : decode cX5_vein 46 = .ok (.iload 4, 2) := by decide +kernel
theorem dX5_vein_48 : decode cX5_vein 48 = .ok (.isub, 1) := by decide +kernel
theorem dX5_vein_49 : decode cX5_vein 49 = .ok (.invokestatic 66, 3) := by decide +kernel
theorem dX5_vein_52 : decode cX5_vein 52 = .ok (.if_icmp .ne 7, 3) := by decide +kernel
theorem dX5_vein_55 : decode cX5_vein 55 = .ok (.iconst 1, 1) := by decide +kernel
theorem dX5_vein_56 : decode cX5_vein 56 = .ok (.goto 4, 3) := by decide +kernel
theorem dX5_vein_59 : decode cX5_vein 59 = .ok (.iconst 0, 1) := by decide +kernel
theorem dX5_vein_60 : decode cX5_vein 60 = .ok (.istore 7, 2) := by decide +kernel
theorem dX5_vein_62 : decode cX5_vein 62 = .ok (.iload 7, 2) := by decide +kernel
theorem dX5_vein_64 : decode cX5_vein 64 = .ok (.ifCond .eq 25, 3) := by decide +kernel
theorem dX5_vein_67 : decode cX5_vein 67 = .ok (.iload 5, 2) := by decide +kernel
theorem dX5_vein_69 : decode cX5_vein 69 = .ok (.iconst 1, 1) := by decide +kernel
theorem dX5_vein_70 : decode cX5_vein 70 = .ok (.bipush 20, 2) := by decide +kernel
theorem dX5_vein_72 : decode cX5_vein 72 = .ok (.invokestatic 56, 3) := by decide +kernel
theorem dX5_vein_75 : decode cX5_vein 75 = .ok (.ifCond .eq 14, 3) := by decide +kernel
theorem dX5_vein_78 : decode cX5_vein 78 = .ok (.iload 6, 2) := by decide +kernel
theorem dX5_vein_80 : decode cX5_vein 80 = .ok (.iconst 1, 1) := by decide +kernel
theorem dX5_vein_81 : decode cX5_vein 81 = .ok (.bipush 9, 2) := by decide +kernel
theorem dX5_vein_83 : decode cX5_vein 83 = .ok (.invokestatic 56, 3) := by decide +kernel
theorem dX5_vein_86 : decode cX5_vein 86 = .ok (.ifCond .ne 9, 3) := by decide +kernel
theorem dX5_vein_89 : decode cX5_vein 89 = .ok (.aload_n 0, 1) := by decide +kernel
theorem dX5_vein_90 : decode cX5_vein 90 = .ok (.iconst 2, 1) := by decide +kernel
theorem dX5_vein_91 : decode cX5_vein 91 = .ok (.invokevirtual 89, 3) := by decide +kernel
theorem dX5_vein_94 : decode cX5_vein 94 = .ok (.ireturn, 1) := by decide +kernel
theorem dX5_vein_95 : decode cX5_vein 95 = .ok (.aload_n 0, 1) := by decide +kernel
theorem dX5_vein_96 : decode cX5_vein 96 = .ok (.getfield 72, 3) := by decide +kernel
theorem dX5_vein_99 : decode cX5_vein 99 = .ok (.bipush 6, 2) := by decide +kernel
theorem dX5_vein_101 : decode cX5_vein 101 = .ok (.if_icmp .ne 9, 3) := by decide +kernel
theorem dX5_vein_104 : decode cX5_vein 104 = .ok (.aload_n 0, 1) := by decide +kernel
theorem dX5_vein_105 : decode cX5_vein 105 = .ok (.iconst 3, 1) := by decide +kernel
theorem dX5_vein_106 : decode cX5_vein 106 = .ok (.invokevirtual 89, 3) := by decide +kernel
theorem dX5_vein_109 : decode cX5_vein 109 = .ok (.ireturn, 1) := by decide +kernel
theorem dX5_vein_110 : decode cX5_vein 110 = .ok (.aload_n 0, 1) := by decide +kernel
theorem dX5_vein_111 : decode cX5_vein 111 = .ok (.getfield 13, 3) := by decide +kernel
theorem dX5_vein_114 : decode cX5_vein 114 = .ok (.aload_n 0, 1) := by decide +kernel
theorem dX5_vein_115 : decode cX5_vein 115 = .ok (.getfield 72, 3) := by decide +kernel
theorem dX5_vein_118 : decode cX5_vein 118 = .ok (.iload 5, 2) := by decide +kernel
theorem dX5_vein_120 : decode cX5_vein 120 = .ok (.iastore, 1) := by decide +kernel
theorem dX5_vein_121 : decode cX5_vein 121 = .ok (.aload_n 0, 1) := by decide +kernel
theorem dX5_vein_122 : decode cX5_vein 122 = .ok (.getfield 17, 3) := by decide +kernel
theorem dX5_vein_125 : decode cX5_vein 125 = .ok (.aload_n 0, 1) := by decide +kernel
theorem dX5_vein_126 : decode cX5_vein 126 = .ok (.getfield 72, 3) := by decide +kernel
theorem dX5_vein_129 : decode cX5_vein 129 = .ok (.iload 6, 2) := by decide +kernel
theorem dX5_vein_131 : decode cX5_vein 131 = .ok (.iastore, 1) := by decide +kernel
theorem dX5_vein_132 : decode cX5_vein 132 = .ok (.aload_n 0, 1) := by decide +kernel
theorem dX5_vein_133 : decode cX5_vein 133 = .ok (.aload_n 0, 1) := by decide +kernel
theorem dX5_vein_134 : decode cX5_vein 134 = .ok (.getfield 72, 3) := by decide +kernel
theorem dX5_vein_137 : decode cX5_vein 137 = .ok (.bipush 20, 2) := by decide +kernel
theorem dX5_vein_139 : decode cX5_vein 139 = .ok (.iload_n 2, 1) := by decide +kernel
theorem dX5_vein_140 : decode cX5_vein 140 = .ok (.imul, 1) := by decide +kernel
theorem dX5_vein_141 : decode cX5_vein 141 = .ok (.iload_n 1, 1) := by decide +kernel
theorem dX5_vein_142 : decode cX5_vein 142 = .ok (.iadd, 1) := by decide +kernel
theorem dX5_vein_143 : decode cX5_vein 143 = .ok (.bipush 20, 2) := by decide +kernel
theorem dX5_vein_145 : decode cX5_vein 145 = .ok (.iload 4, 2) := by decide +kernel
theorem dX5_vein_147 : decode cX5_vein 147 = .ok (.imul, 1) := by decide +kernel
theorem dX5_vein_148 : decode cX5_vein 148 = .ok (.iload_n 3, 1) := by decide +kernel
theorem dX5_vein_149 : decode cX5_vein 149 = .ok (.iadd, 1) := by decide +kernel
theorem dX5_vein_150 : decode cX5_vein 150 = .ok (.invokevirtual 92, 3) := by decide +kernel
theorem dX5_vein_153 : decode cX5_vein 153 = .ok (.aload_n 0, 1) := by decide +kernel
theorem dX5_vein_154 : decode cX5_vein 154 = .ok (.dup, 1) := by decide +kernel
theorem dX5_vein_155 : decode cX5_vein 155 = .ok (.getfield 72, 3) := by decide +kernel
theorem dX5_vein_158 : decode cX5_vein 158 = .ok (.iconst 1, 1) := by decide +kernel
theorem dX5_vein_159 : decode cX5_vein 159 = .ok (.iadd, 1) := by decide +kernel
theorem dX5_vein_160 : decode cX5_vein 160 = .ok (.putfield 72, 3) := by decide +kernel
theorem dX5_vein_163 : decode cX5_vein 163 = .ok (.aload_n 0, 1) := by decide +kernel
theorem dX5_vein_164 : decode cX5_vein 164 = .ok (.getfield 72, 3) := by decide +kernel
theorem dX5_vein_167 : decode cX5_vein 167 = .ok (.iconst 1, 1) := by decide +kernel
theorem dX5_vein_168 : decode cX5_vein 168 = .ok (.isub, 1) := by decide +kernel
theorem dX5_vein_169 : decode cX5_vein 169 = .ok (.ireturn, 1) := by decide +kernel
theorem dX5_dowser_0 : decode cX5_dowser 0 = .ok (.aload_n 0, 1) := by decide +kernel
theorem dX5_dowser_1 : decode cX5_dowser 1 = .ok (.iconst 0, 1) := by decide +kernel
theorem dX5_dowser_2 : decode cX5_dowser 2 = .ok (.putfield 53, 3) := by decide +kernel
theorem dX5_dowser_5 : decode cX5_dowser 5 = .ok (.iload_n 1, 1) := by decide +kernel
theorem dX5_dowser_6 : decode cX5_dowser 6 = .ok (.iconst 0, 1) := by decide +kernel
theorem dX5_dowser_7 : decode cX5_dowser 7 = .ok (.bipush 9, 2) := by decide +kernel
theorem dX5_dowser_9 : decode cX5_dowser 9 = .ok (.invokestatic 56, 3) := by decide +kernel
theorem dX5_dowser_12 : decode cX5_dowser 12 = .ok (.ifCond .eq 13, 3) := by decide +kernel
theorem dX5_dowser_15 : decode cX5_dowser 15 = .ok (.iload_n 2, 1) := by decide +kernel
theorem dX5_dowser_16 : decode cX5_dowser 16 = .ok (.bipush (-3), 2) := by decide +kernel
theorem dX5_dowser_18 : decode cX5_dowser 18 = .ok (.iconst 3, 1) := by decide +kernel
theorem dX5_dowser_19 : decode cX5_dowser 19 = .ok (.invokestatic 56, 3) := by decide +kernel
theorem dX5_dowser_22 : decode cX5_dowser 22 = .ok (.ifCond .ne 9, 3) := by decide +kernel
theorem dX5_dowser_25 : decode cX5_dowser 25 = .ok (.aload_n 0, 1) := by decide +kernel
theorem dX5_dowser_26 : decode cX5_dowser 26 = .ok (.iconst 1, 1) := by decide +kernel
theorem dX5_dowser_27 : decode cX5_dowser 27 = .ok (.invokevirtual 89, 3) := by decide +kernel
theorem dX5_dowser_30 : decode cX5_dowser 30 = .ok (.ireturn, 1) := by decide +kernel
theorem dX5_dowser_31 : decode cX5_dowser 31 = .ok (.aload_n 0, 1) := by decide +kernel
theorem dX5_dowser_32 : decode cX5_dowser 32 = .ok (.getfield 60, 3) := by decide +kernel
theorem dX5_dowser_35 : decode cX5_dowser 35 = .ok (.iconst 5, 1) := by decide +kernel
theorem dX5_dowser_36 : decode cX5_dowser 36 = .ok (.if_icmp .ne 9, 3) := by decide +kernel
theorem dX5_dowser_39 : decode cX5_dowser 39 = .ok (.aload_n 0, 1) := by decide +kernel
theorem dX5_dowser_40 : decode cX5_dowser 40 = .ok (.iconst 2, 1) := by decide +kernel
theorem dX5_dowser_41 : decode cX5_dowser 41 = .ok (.invokevirtual 89, 3) := by decide +kernel
theorem dX5_dowser_44 : decode cX5_dowser 44 = .ok (.ireturn, 1) := by decide +kernel
theorem dX5_dowser_45 : decode cX5_dowser 45 = .ok (.aload_n 0, 1) := by decide +kernel
theorem dX5_dowser_46 : decode cX5_dowser 46 = .ok (.getfield 23, 3) := by decide +kernel
theorem dX5_dowser_49 : decode cX5_dowser 49 = .ok (.aload_n 0, 1) := by decide +kernel
theorem dX5_dowser_50 : decode cX5_dowser 50 = .ok (.getfield 60, 3) := by decide +kernel
theorem dX5_dowser_53 : decode cX5_dowser 53 = .ok (.iload_n 1, 1) := by decide +kernel
theorem dX5_dowser_54 : decode cX5_dowser 54 = .ok (.iastore, 1) := by decide +kernel
theorem dX5_dowser_55 : decode cX5_dowser 55 = .ok (.aload_n 0, 1) := by decide +kernel
theorem dX5_dowser_56 : decode cX5_dowser 56 = .ok (.getfield 26, 3) := by decide +kernel
theorem dX5_dowser_59 : decode cX5_dowser 59 = .ok (.aload_n 0, 1) := by decide +kernel
theorem dX5_dowser_60 : decode cX5_dowser 60 = .ok (.getfield 60, 3) := by decide +kernel
theorem dX5_dowser_63 : decode cX5_dowser 63 = .ok (.iload_n 2, 1) := by decide +kernel
theorem dX5_dowser_64 : decode cX5_dowser 64 = .ok (.iastore, 1) := by decide +kernel
theorem dX5_dowser_65 : decode cX5_dowser 65 = .ok (.aload_n 0, 1) := by decide +kernel
theorem dX5_dowser_66 : decode cX5_dowser 66 = .ok (.getfield 29, 3) := by decide +kernel
theorem dX5_dowser_69 : decode cX5_dowser 69 = .ok (.aload_n 0, 1) := by decide +kernel
theorem dX5_dowser_70 : decode cX5_dowser 70 = .ok (.getfield 60, 3) := by decide +kernel
theorem dX5_dowser_73 : decode cX5_dowser 73 = .ok (.bipush 50, 2) := by decide +kernel
theorem dX5_dowser_75 : decode cX5_dowser 75 = .ok (.iastore, 1) := by decide +kernel
theorem dX5_dowser_76 : decode cX5_dowser 76 = .ok (.aload_n 0, 1) := by decide +kernel
theorem dX5_dowser_77 : decode cX5_dowser 77 = .ok (.dup, 1) := by decide +kernel
theorem dX5_dowser_78 : decode cX5_dowser 78 = .ok (.getfield 60, 3) := by decide +kernel
theorem dX5_dowser_81 : decode cX5_dowser 81 = .ok (.iconst 1, 1) := by decide +kernel
theorem dX5_dowser_82 : decode cX5_dowser 82 = .ok (.iadd, 1) := by decide +kernel
theorem dX5_dowser_83 : decode cX5_dowser 83 = .ok (.putfield 60, 3) := by decide +kernel
theorem dX5_dowser_86 : decode cX5_dowser 86 = .ok (.aload_n 0, 1) := by decide +kernel
theorem dX5_dowser_87 : decode cX5_dowser 87 = .ok (.getfield 60, 3) := by decide +kernel
theorem dX5_dowser_90 : decode cX5_dowser 90 = .ok (.iconst 1, 1) := by decide +kernel
theorem dX5_dowser_91 : decode cX5_dowser 91 = .ok (.isub, 1) := by decide +kernel
theorem dX5_dowser_92 : decode cX5_dowser 92 = .ok (.ireturn, 1) := by decide +kernel
theorem dX5_setMark_0 : decode cX5_setMark 0 = .ok (.aload_n 0, 1) := by decide +kernel
theorem dX5_setMark_1 : decode cX5_setMark 1 = .ok (.iconst 0, 1) := by decide +kernel
theorem dX5_setMark_2 : decode cX5_setMark 2 = .ok (.putfield 53, 3) := by decide +kernel
theorem dX5_setMark_5 : decode cX5_setMark 5 = .ok (.iload_n 1, 1) := by decide +kernel
theorem dX5_setMark_6 : decode cX5_setMark 6 = .ok (.iconst 1, 1) := by decide +kernel
theorem dX5_setMark_7 : decode cX5_setMark 7 = .ok (.bipush 30, 2) := by decide +kernel
theorem dX5_setMark_9 : decode cX5_setMark 9 = .ok (.invokestatic 56, 3) := by decide +kernel
theorem dX5_setMark_12 : decode cX5_setMark 12 = .ok (.ifCond .ne 9, 3) := by decide +kernel
theorem dX5_setMark_15 : decode cX5_setMark 15 = .ok (.aload_n 0, 1) := by decide +kernel
theorem dX5_setMark_16 : decode cX5_setMark 16 = .ok (.iconst 1, 1) := by decide +kernel
theorem dX5_setMark_17 : decode cX5_setMark 17 = .ok (.invokevirtual 89, 3) := by decide +kernel
theorem dX5_setMark_20 : decode cX5_setMark 20 = .ok (.ireturn, 1) := by decide +kernel
theorem dX5_setMark_21 : decode cX5_setMark 21 = .ok (.aload_n 0, 1) := by decide +kernel
theorem dX5_setMark_22 : decode cX5_setMark 22 = .ok (.getfield 9, 3) := by decide +kernel
theorem dX5_setMark_25 : decode cX5_setMark 25 = .ok (.istore_n 2, 1) := by decide +kernel
theorem dX5_setMark_26 : decode cX5_setMark 26 = .ok (.aload_n 0, 1) := by decide +kernel
theorem dX5_setMark_27 : decode cX5_setMark 27 = .ok (.iload_n 1, 1) := by decide +kernel
theorem dX5_setMark_28 : decode cX5_setMark 28 = .ok (.putfield 9, 3) := by decide +kernel
theorem dX5_setMark_31 : decode cX5_setMark 31 = .ok (.iload_n 2, 1) := by decide +kernel
theorem dX5_setMark_32 : decode cX5_setMark 32 = .ok (.ireturn, 1) := by decide +kernel
theorem dX5_marks_0 : decode cX5_marks 0 = .ok (.aload_n 0, 1) := by decide +kernel
theorem dX5_marks_1 : decode cX5_marks 1 = .ok (.getfield 96, 3) := by decide +kernel
theorem dX5_marks_4 : decode cX5_marks 4 = .ok (.bipush 60, 2) := by decide +kernel
theorem dX5_marks_6 : decode cX5_marks 6 = .ok (.if_icmp .eq 25, 3) := by decide +kernel
theorem dX5_marks_9 : decode cX5_marks 9 = .ok (.aload_n 0, 1) := by decide +kernel
theorem dX5_marks_10 : decode cX5_marks 10 = .ok (.getfield 38, 3) := by decide +kernel
theorem dX5_marks_13 : decode cX5_marks 13 = .ok (.iload_n 2, 1) := by decide +kernel
theorem dX5_marks_14 : decode cX5_marks 14 = .ok (.iaload, 1) := by decide +kernel
theorem dX5_marks_15 : decode cX5_marks 15 = .ok (.ifCond .gt 16, 3) := by decide +kernel
theorem dX5_marks_18 : decode cX5_marks 18 = .ok (.aload_n 0, 1) := by decide +kernel
theorem dX5_marks_19 : decode cX5_marks 19 = .ok (.iload_n 1, 1) := by decide +kernel
theorem dX5_marks_20 : decode cX5_marks 20 = .ok (.iload_n 2, 1) := by decide +kernel
theorem dX5_marks_21 : decode cX5_marks 21 = .ok (.invokevirtual 99, 3) := by decide +kernel
theorem dX5_marks_24 : decode cX5_marks 24 = .ok (.aload_n 0, 1) := by decide +kernel
theorem dX5_marks_25 : decode cX5_marks 25 = .ok (.getfield 9, 3) := by decide +kernel
theorem dX5_marks_28 : decode cX5_marks 28 = .ok (.if_icmp .ge 5, 3) := by decide +kernel
theorem dX5_marks_31 : decode cX5_marks 31 = .ok (.iconst 0, 1) := by decide +kernel
theorem dX5_marks_32 : decode cX5_marks 32 = .ok (.ireturn, 1) := by decide +kernel
theorem dX5_marks_33 : decode cX5_marks 33 = .ok (.aload_n 0, 1) := by decide +kernel
theorem dX5_marks_34 : decode cX5_marks 34 = .ok (.getfield 38, 3) := by decide +kernel
theorem dX5_marks_37 : decode cX5_marks 37 = .ok (.iload_n 2, 1) := by decide +kernel
theorem dX5_marks_38 : decode cX5_marks 38 = .ok (.iload_n 1, 1) := by decide +kernel
theorem dX5_marks_39 : decode cX5_marks 39 = .ok (.iconst 1, 1) := by decide +kernel
theorem dX5_marks_40 : decode cX5_marks 40 = .ok (.iadd, 1) := by decide +kernel
theorem dX5_marks_41 : decode cX5_marks 41 = .ok (.iastore, 1) := by decide +kernel
theorem dX5_marks_42 : decode cX5_marks 42 = .ok (.aload_n 0, 1) := by decide +kernel
theorem dX5_marks_43 : decode cX5_marks 43 = .ok (.dup, 1) := by decide +kernel
theorem dX5_marks_44 : decode cX5_marks 44 = .ok (.getfield 96, 3) := by decide +kernel
theorem dX5_marks_47 : decode cX5_marks 47 = .ok (.iconst 1, 1) := by decide +kernel
theorem dX5_marks_48 : decode cX5_marks 48 = .ok (.iadd, 1) := by decide +kernel
theorem dX5_marks_49 : decode cX5_marks 49 = .ok (.putfield 96, 3) := by decide +kernel
theorem dX5_marks_52 : decode cX5_marks 52 = .ok (.iconst 1, 1) := by decide +kernel
theorem dX5_marks_53 : decode cX5_marks 53 = .ok (.ireturn, 1) := by decide +kernel
theorem dX5_walk_0 : decode cX5_walk 0 = .ok (.aload_n 0, 1) := by decide +kernel
theorem dX5_walk_1 : decode cX5_walk 1 = .ok (.iconst 0, 1) := by decide +kernel
theorem dX5_walk_2 : decode cX5_walk 2 = .ok (.putfield 53, 3) := by decide +kernel
theorem dX5_walk_5 : decode cX5_walk 5 = .ok (.aload_n 0, 1) := by decide +kernel
theorem dX5_walk_6 : decode cX5_walk 6 = .ok (.iload_n 1, 1) := by decide +kernel
theorem dX5_walk_7 : decode cX5_walk 7 = .ok (.invokevirtual 102, 3) := by decide +kernel
theorem dX5_walk_10 : decode cX5_walk 10 = .ok (.ifCond .eq 21, 3) := by decide +kernel
theorem dX5_walk_13 : decode cX5_walk 13 = .ok (.iload_n 2, 1) := by decide +kernel
theorem dX5_walk_14 : decode cX5_walk 14 = .ok (.iload_n 3, 1) := by decide +kernel
theorem dX5_walk_15 : decode cX5_walk 15 = .ok (.invokestatic 86, 3) := by decide +kernel
theorem dX5_walk_18 : decode cX5_walk 18 = .ok (.ifCond .eq 13, 3) := by decide +kernel
theorem dX5_walk_21 : decode cX5_walk 21 = .ok (.iload 4, 2) := by decide +kernel
theorem dX5_walk_23 : decode cX5_walk 23 = .ok (.iload 5, 2) := by decide +kernel
theorem dX5_walk_25 : decode cX5_walk 25 = .ok (.invokestatic 86, 3) := by decide +kernel
theorem dX5_walk_28 : decode cX5_walk 28 = .ok (.ifCond .ne 9, 3) := by decide +kernel
theorem dX5_walk_31 : decode cX5_walk 31 = .ok (.aload_n 0, 1) := by decide +kernel
theorem dX5_walk_32 : decode cX5_walk 32 = .ok (.iconst 1, 1) := by decide +kernel
theorem dX5_walk_33 : decode cX5_walk 33 = .ok (.invokevirtual 89, 3) := by decide +kernel
theorem dX5_walk_36 : decode cX5_walk 36 = .ok (.ireturn, 1) := by decide +kernel
theorem dX5_walk_37 : decode cX5_walk 37 = .ok (.iload 4, 2) := by decide +kernel
theorem dX5_walk_39 : decode cX5_walk 39 = .ok (.iload_n 2, 1) := by decide +kernel
theorem dX5_walk_40 : decode cX5_walk 40 = .ok (.if_icmp .ge 7, 3) := by decide +kernel
theorem dX5_walk_43 : decode cX5_walk 43 = .ok (.iconst (-1), 1) := by decide +kernel
theorem dX5_walk_44 : decode cX5_walk 44 = .ok (.goto 4, 3) := by decide +kernel
theorem dX5_walk_47 : decode cX5_walk 47 = .ok (.iconst 1, 1) := by decide +kernel
theorem dX5_walk_48 : decode cX5_walk 48 = .ok (.istore 6, 2) := by decide +kernel
theorem dX5_walk_50 : decode cX5_walk 50 = .ok (.iload 5, 2) := by decide +kernel
theorem dX5_walk_52 : decode cX5_walk 52 = .ok (.iload_n 3, 1) := by decide +kernel
theorem dX5_walk_53 : decode cX5_walk 53 = .ok (.if_icmp .ge 7, 3) := by decide +kernel
theorem dX5_walk_56 : decode cX5_walk 56 = .ok (.iconst (-1), 1) := by decide +kernel
theorem dX5_walk_57 : decode cX5_walk 57 = .ok (.goto 4, 3) := by decide +kernel
theorem dX5_walk_60 : decode cX5_walk 60 = .ok (.iconst 1, 1) := by decide +kernel
theorem dX5_walk_61 : decode cX5_walk 61 = .ok (.istore 7, 2) := by decide +kernel
theorem dX5_walk_63 : decode cX5_walk 63 = .ok (.iconst 0, 1) := by decide +kernel
theorem dX5_walk_64 : decode cX5_walk 64 = .ok (.istore 8, 2) := by decide +kernel
theorem dX5_walk_66 : decode cX5_walk 66 = .ok (.iload_n 2, 1) := by decide +kernel
theorem dX5_walk_67 : decode cX5_walk 67 = .ok (.istore 9, 2) := by decide +kernel
theorem dX5_walk_69 : decode cX5_walk 69 = .ok (.iload 9, 2) := by decide +kernel
theorem dX5_walk_71 : decode cX5_walk 71 = .ok (.iload 4, 2) := by decide +kernel
theorem dX5_walk_73 : decode cX5_walk 73 = .ok (.if_icmp .eq 30, 3) := by decide +kernel
theorem dX5_walk_76 : decode cX5_walk 76 = .ok (.iload 8, 2) := by decide +kernel
theorem dX5_walk_78 : decode cX5_walk 78 = .ok (.aload_n 0, 1) := by decide +kernel
theorem dX5_walk_79 : decode cX5_walk 79 = .ok (.iload_n 1, 1) := by decide +kernel
theorem dX5_walk_80 : decode cX5_walk 80 = .ok (.bipush 20, 2) := by decide +kernel
theorem dX5_walk_82 : decode cX5_walk 82 = .ok (.iload_n 3, 1) := by decide +kernel
theorem dX5_walk_83 : decode cX5_walk 83 = .ok (.imul, 1) := by decide +kernel
theorem dX5_walk_84 : decode cX5_walk 84 = .ok (.iload 9, 2) := by decide +kernel
theorem dX5_walk_86 : decode cX5_walk 86 = .ok (.iadd, 1) := by decide +kernel
theorem dX5_walk_87 : decode cX5_walk 87 = .ok (.invokevirtual 106, 3) := by decide +kernel
theorem dX5_walk_90 : decode cX5_walk 90 = .ok (.iadd, 1) := by decide +kernel
theorem dX5_walk_91 : decode cX5_walk 91 = .ok (.istore 8, 2) := by decide +kernel
theorem dX5_walk_93 : decode cX5_walk 93 = .ok (.iload 9, 2) := by decide +kernel
theorem dX5_walk_95 : decode cX5_walk 95 = .ok (.iload 6, 2) := by decide +kernel
theorem dX5_walk_97 : decode cX5_walk 97 = .ok (.iadd, 1) := by decide +kernel
theorem dX5_walk_98 : decode cX5_walk 98 = .ok (.istore 9, 2) := by decide +kernel
theorem dX5_walk_100 : decode cX5_walk 100 = .ok (.goto (-31), 3) := by decide +kernel
theorem dX5_walk_103 : decode cX5_walk 103 = .ok (.iload_n 3, 1) := by decide +kernel
theorem dX5_walk_104 : decode cX5_walk 104 = .ok (.istore 9, 2) := by decide +kernel
theorem dX5_walk_106 : decode cX5_walk 106 = .ok (.iload 9, 2) := by decide +kernel
theorem dX5_walk_108 : decode cX5_walk 108 = .ok (.iload 5, 2) := by decide +kernel
theorem dX5_walk_110 : decode cX5_walk 110 = .ok (.if_icmp .eq 31, 3) := by decide +kernel
theorem dX5_walk_113 : decode cX5_walk 113 = .ok (.iload 8, 2) := by decide +kernel
theorem dX5_walk_115 : decode cX5_walk 115 = .ok (.aload_n 0, 1) := by decide +kernel
theorem dX5_walk_116 : decode cX5_walk 116 = .ok (.iload_n 1, 1) := by decide +kernel
theorem dX5_walk_117 : decode cX5_walk 117 = .ok (.bipush 20, 2) := by decide +kernel
theorem dX5_walk_119 : decode cX5_walk 119 = .ok (.iload 9, 2) := by decide +kernel
theorem dX5_walk_121 : decode cX5_walk 121 = .ok (.imul, 1) := by decide +kernel
theorem dX5_walk_122 : decode cX5_walk 122 = .ok (.iload 4, 2) := by decide +kernel
theorem dX5_walk_124 : decode cX5_walk 124 = .ok (.iadd, 1) := by decide +kernel
theorem dX5_walk_125 : decode cX5_walk 125 = .ok (.invokevirtual 106, 3) := by decide +kernel
theorem dX5_walk_128 : decode cX5_walk 128 = .ok (.iadd, 1) := by decide +kernel
theorem dX5_walk_129 : decode cX5_walk 129 = .ok (.istore 8, 2) := by decide +kernel
theorem dX5_walk_131 : decode cX5_walk 131 = .ok (.iload 9, 2) := by decide +kernel
theorem dX5_walk_133 : decode cX5_walk 133 = .ok (.iload 7, 2) := by decide +kernel
theorem dX5_walk_135 : decode cX5_walk 135 = .ok (.iadd, 1) := by decide +kernel
theorem dX5_walk_136 : decode cX5_walk 136 = .ok (.istore 9, 2) := by decide +kernel
theorem dX5_walk_138 : decode cX5_walk 138 = .ok (.goto (-32), 3) := by decide +kernel
theorem dX5_walk_141 : decode cX5_walk 141 = .ok (.iload 8, 2) := by decide +kernel
theorem dX5_walk_143 : decode cX5_walk 143 = .ok (.aload_n 0, 1) := by decide +kernel
theorem dX5_walk_144 : decode cX5_walk 144 = .ok (.iload_n 1, 1) := by decide +kernel
theorem dX5_walk_145 : decode cX5_walk 145 = .ok (.bipush 20, 2) := by decide +kernel
theorem dX5_walk_147 : decode cX5_walk 147 = .ok (.iload 5, 2) := by decide +kernel
theorem dX5_walk_149 : decode cX5_walk 149 = .ok (.imul, 1) := by decide +kernel
theorem dX5_walk_150 : decode cX5_walk 150 = .ok (.iload 4, 2) := by decide +kernel
theorem dX5_walk_152 : decode cX5_walk 152 = .ok (.iadd, 1) := by decide +kernel
theorem dX5_walk_153 : decode cX5_walk 153 = .ok (.invokevirtual 106, 3) := by decide +kernel
theorem dX5_walk_156 : decode cX5_walk 156 = .ok (.iadd, 1) := by decide +kernel
theorem dX5_walk_157 : decode cX5_walk 157 = .ok (.ireturn, 1) := by decide +kernel
theorem dX5_pull_0 : decode cX5_pull 0 = .ok (.aload_n 0, 1) := by decide +kernel
theorem dX5_pull_1 : decode cX5_pull 1 = .ok (.iconst 0, 1) := by decide +kernel
theorem dX5_pull_2 : decode cX5_pull 2 = .ok (.putfield 53, 3) := by decide +kernel
theorem dX5_pull_5 : decode cX5_pull 5 = .ok (.iload_n 1, 1) := by decide +kernel
theorem dX5_pull_6 : decode cX5_pull 6 = .ok (.iload_n 2, 1) := by decide +kernel
theorem dX5_pull_7 : decode cX5_pull 7 = .ok (.invokestatic 86, 3) := by decide +kernel
theorem dX5_pull_10 : decode cX5_pull 10 = .ok (.ifCond .ne 9, 3) := by decide +kernel
theorem dX5_pull_13 : decode cX5_pull 13 = .ok (.aload_n 0, 1) := by decide +kernel
theorem dX5_pull_14 : decode cX5_pull 14 = .ok (.iconst 1, 1) := by decide +kernel
theorem dX5_pull_15 : decode cX5_pull 15 = .ok (.invokevirtual 89, 3) := by decide +kernel
theorem dX5_pull_18 : decode cX5_pull 18 = .ok (.ireturn, 1) := by decide +kernel
theorem dX5_pull_19 : decode cX5_pull 19 = .ok (.aload_n 0, 1) := by decide +kernel
theorem dX5_pull_20 : decode cX5_pull 20 = .ok (.getfield 38, 3) := by decide +kernel
theorem dX5_pull_23 : decode cX5_pull 23 = .ok (.bipush 20, 2) := by decide +kernel
theorem dX5_pull_25 : decode cX5_pull 25 = .ok (.iload_n 2, 1) := by decide +kernel
theorem dX5_pull_26 : decode cX5_pull 26 = .ok (.imul, 1) := by decide +kernel
theorem dX5_pull_27 : decode cX5_pull 27 = .ok (.iload_n 1, 1) := by decide +kernel
theorem dX5_pull_28 : decode cX5_pull 28 = .ok (.iadd, 1) := by decide +kernel
theorem dX5_pull_29 : decode cX5_pull 29 = .ok (.iaload, 1) := by decide +kernel
theorem dX5_pull_30 : decode cX5_pull 30 = .ok (.istore_n 3, 1) := by decide +kernel
theorem dX5_pull_31 : decode cX5_pull 31 = .ok (.iload_n 3, 1) := by decide +kernel
theorem dX5_pull_32 : decode cX5_pull 32 = .ok (.ifCond .ne 9, 3) := by decide +kernel
theorem dX5_pull_35 : decode cX5_pull 35 = .ok (.aload_n 0, 1) := by decide +kernel
theorem dX5_pull_36 : decode cX5_pull 36 = .ok (.iconst 2, 1) := by decide +kernel
theorem dX5_pull_37 : decode cX5_pull 37 = .ok (.invokevirtual 89, 3) := by decide +kernel
theorem dX5_pull_40 : decode cX5_pull 40 = .ok (.ireturn, 1) := by decide +kernel
theorem dX5_pull_41 : decode cX5_pull 41 = .ok (.aload_n 0, 1) := by decide +kernel
theorem dX5_pull_42 : decode cX5_pull 42 = .ok (.getfield 38, 3) := by decide +kernel
theorem dX5_pull_45 : decode cX5_pull 45 = .ok (.bipush 20, 2) := by decide +kernel
theorem dX5_pull_47 : decode cX5_pull 47 = .ok (.iload_n 2, 1) := by decide +kernel
theorem dX5_pull_48 : decode cX5_pull 48 = .ok (.imul, 1) := by decide +kernel
theorem dX5_pull_49 : decode cX5_pull 49 = .ok (.iload_n 1, 1) := by decide +kernel
theorem dX5_pull_50 : decode cX5_pull 50 = .ok (.iadd, 1) := by decide +kernel
theorem dX5_pull_51 : decode cX5_pull 51 = .ok (.iconst 0, 1) := by decide +kernel
theorem dX5_pull_52 : decode cX5_pull 52 = .ok (.iastore, 1) := by decide +kernel
theorem dX5_pull_53 : decode cX5_pull 53 = .ok (.aload_n 0, 1) := by decide +kernel
theorem dX5_pull_54 : decode cX5_pull 54 = .ok (.dup, 1) := by decide +kernel
theorem dX5_pull_55 : decode cX5_pull 55 = .ok (.getfield 96, 3) := by decide +kernel
theorem dX5_pull_58 : decode cX5_pull 58 = .ok (.iconst 1, 1) := by decide +kernel
theorem dX5_pull_59 : decode cX5_pull 59 = .ok (.isub, 1) := by decide +kernel
theorem dX5_pull_60 : decode cX5_pull 60 = .ok (.putfield 96, 3) := by decide +kernel
theorem dX5_pull_63 : decode cX5_pull 63 = .ok (.iload_n 3, 1) := by decide +kernel
theorem dX5_pull_64 : decode cX5_pull 64 = .ok (.iconst 1, 1) := by decide +kernel
theorem dX5_pull_65 : decode cX5_pull 65 = .ok (.isub, 1) := by decide +kernel
theorem dX5_pull_66 : decode cX5_pull 66 = .ok (.ireturn, 1) := by decide +kernel
theorem dX5_pit_0 : decode cX5_pit 0 = .ok (.aload_n 0, 1) := by decide +kernel
theorem dX5_pit_1 : decode cX5_pit 1 = .ok (.iconst 0, 1) := by decide +kernel
theorem dX5_pit_2 : decode cX5_pit 2 = .ok (.putfield 53, 3) := by decide +kernel
theorem dX5_pit_5 : decode cX5_pit 5 = .ok (.iload_n 1, 1) := by decide +kernel
theorem dX5_pit_6 : decode cX5_pit 6 = .ok (.iload_n 2, 1) := by decide +kernel
theorem dX5_pit_7 : decode cX5_pit 7 = .ok (.invokestatic 86, 3) := by decide +kernel
theorem dX5_pit_10 : decode cX5_pit 10 = .ok (.ifCond .ne 9, 3) := by decide +kernel
theorem dX5_pit_13 : decode cX5_pit 13 = .ok (.aload_n 0, 1) := by decide +kernel
theorem dX5_pit_14 : decode cX5_pit 14 = .ok (.iconst 1, 1) := by decide +kernel
theorem dX5_pit_15 : decode cX5_pit 15 = .ok (.invokevirtual 89, 3) := by decide +kernel
theorem dX5_pit_18 : decode cX5_pit 18 = .ok (.ireturn, 1) := by decide +kernel
theorem dX5_pit_19 : decode cX5_pit 19 = .ok (.aload_n 0, 1) := by decide +kernel
theorem dX5_pit_20 : decode cX5_pit 20 = .ok (.getfield 63, 3) := by decide +kernel
theorem dX5_pit_23 : decode cX5_pit 23 = .ok (.bipush 10, 2) := by decide +kernel
theorem dX5_pit_25 : decode cX5_pit 25 = .ok (.if_icmp .eq 17, 3) := by decide +kernel
theorem dX5_pit_28 : decode cX5_pit 28 = .ok (.aload_n 0, 1) := by decide +kernel
theorem dX5_pit_29 : decode cX5_pit 29 = .ok (.bipush 20, 2) := by decide +kernel
theorem dX5_pit_31 : decode cX5_pit 31 = .ok (.iload_n 2, 1) := by decide +kernel
theorem dX5_pit_32 : decode cX5_pit 32 = .ok (.imul, 1) := by decide +kernel
theorem dX5_pit_33 : decode cX5_pit 33 = .ok (.iload_n 1, 1) := by decide +kernel
theorem dX5_pit_34 : decode cX5_pit 34 = .ok (.iadd, 1) := by decide +kernel
theorem dX5_pit_35 : decode cX5_pit 35 = .ok (.invokevirtual 109, 3) := by decide +kernel
theorem dX5_pit_38 : decode cX5_pit 38 = .ok (.iconst (-1), 1) := by decide +kernel
theorem dX5_pit_39 : decode cX5_pit 39 = .ok (.if_icmp .eq 9, 3) := by decide +kernel
theorem dX5_pit_42 : decode cX5_pit 42 = .ok (.aload_n 0, 1) := by decide +kernel
theorem dX5_pit_43 : decode cX5_pit 43 = .ok (.iconst 2, 1) := by decide +kernel
theorem dX5_pit_44 : decode cX5_pit 44 = .ok (.invokevirtual 89, 3) := by decide +kernel
theorem dX5_pit_47 : decode cX5_pit 47 = .ok (.ireturn, 1) := by decide +kernel
theorem dX5_pit_48 : decode cX5_pit 48 = .ok (.aload_n 0, 1) := by decide +kernel
theorem dX5_pit_49 : decode cX5_pit 49 = .ok (.getfield 41, 3) := by decide +kernel
theorem dX5_pit_52 : decode cX5_pit 52 = .ok (.aload_n 0, 1) := by decide +kernel
theorem dX5_pit_53 : decode cX5_pit 53 = .ok (.getfield 63, 3) := by decide +kernel
theorem dX5_pit_56 : decode cX5_pit 56 = .ok (.bipush 20, 2) := by decide +kernel
theorem dX5_pit_58 : decode cX5_pit 58 = .ok (.iload_n 2, 1) := by decide +kernel
theorem dX5_pit_59 : decode cX5_pit 59 = .ok (.imul, 1) := by decide +kernel
theorem dX5_pit_60 : decode cX5_pit 60 = .ok (.iload_n 1, 1) := by decide +kernel
theorem dX5_pit_61 : decode cX5_pit 61 = .ok (.iadd, 1) := by decide +kernel
theorem dX5_pit_62 : decode cX5_pit 62 = .ok (.iastore, 1) := by decide +kernel
theorem dX5_pit_63 : decode cX5_pit 63 = .ok (.aload_n 0, 1) := by decide +kernel
theorem dX5_pit_64 : decode cX5_pit 64 = .ok (.getfield 44, 3) := by decide +kernel
theorem dX5_pit_67 : decode cX5_pit 67 = .ok (.aload_n 0, 1) := by decide +kernel
theorem dX5_pit_68 : decode cX5_pit 68 = .ok (.getfield 63, 3) := by decide +kernel
theorem dX5_pit_71 : decode cX5_pit 71 = .ok (.aload_n 0, 1) := by decide +kernel
theorem dX5_pit_72 : decode cX5_pit 72 = .ok (.bipush 20, 2) := by decide +kernel
theorem dX5_pit_74 : decode cX5_pit 74 = .ok (.iload_n 2, 1) := by decide +kernel
theorem dX5_pit_75 : decode cX5_pit 75 = .ok (.imul, 1) := by decide +kernel
theorem dX5_pit_76 : decode cX5_pit 76 = .ok (.iload_n 1, 1) := by decide +kernel
theorem dX5_pit_77 : decode cX5_pit 77 = .ok (.iadd, 1) := by decide +kernel
theorem dX5_pit_78 : decode cX5_pit 78 = .ok (.invokevirtual 112, 3) := by decide +kernel
theorem dX5_pit_81 : decode cX5_pit 81 = .ok (.iastore, 1) := by decide +kernel
theorem dX5_pit_82 : decode cX5_pit 82 = .ok (.aload_n 0, 1) := by decide +kernel
theorem dX5_pit_83 : decode cX5_pit 83 = .ok (.dup, 1) := by decide +kernel
theorem dX5_pit_84 : decode cX5_pit 84 = .ok (.getfield 63, 3) := by decide +kernel
theorem dX5_pit_87 : decode cX5_pit 87 = .ok (.iconst 1, 1) := by decide +kernel
theorem dX5_pit_88 : decode cX5_pit 88 = .ok (.iadd, 1) := by decide +kernel
theorem dX5_pit_89 : decode cX5_pit 89 = .ok (.putfield 63, 3) := by decide +kernel
theorem dX5_pit_92 : decode cX5_pit 92 = .ok (.aload_n 0, 1) := by decide +kernel
theorem dX5_pit_93 : decode cX5_pit 93 = .ok (.getfield 63, 3) := by decide +kernel
theorem dX5_pit_96 : decode cX5_pit 96 = .ok (.iconst 1, 1) := by decide +kernel
theorem dX5_pit_97 : decode cX5_pit 97 = .ok (.isub, 1) := by decide +kernel
theorem dX5_pit_98 : decode cX5_pit 98 = .ok (.ireturn, 1) := by decide +kernel
theorem dX5_hasFound_0 : decode cX5_hasFound 0 = .ok (.aload_n 0, 1) := by decide +kernel
theorem dX5_hasFound_1 : decode cX5_hasFound 1 = .ok (.getfield 44, 3) := by decide +kernel
theorem dX5_hasFound_4 : decode cX5_hasFound 4 = .ok (.iload_n 1, 1) := by decide +kernel
theorem dX5_hasFound_5 : decode cX5_hasFound 5 = .ok (.iaload, 1) := by decide +kernel
theorem dX5_hasFound_6 : decode cX5_hasFound 6 = .ok (.ifCond .le 22, 3) := by decide +kernel
theorem dX5_hasFound_9 : decode cX5_hasFound 9 = .ok (.aload_n 0, 1) := by decide +kernel
theorem dX5_hasFound_10 : decode cX5_hasFound 10 = .ok (.getfield 47, 3) := by decide +kernel
theorem dX5_hasFound_13 : decode cX5_hasFound 13 = .ok (.iload_n 1, 1) := by decide +kernel
theorem dX5_hasFound_14 : decode cX5_hasFound 14 = .ok (.iaload, 1) := by decide +kernel
theorem dX5_hasFound_15 : decode cX5_hasFound 15 = .ok (.aload_n 0, 1) := by decide +kernel
theorem dX5_hasFound_16 : decode cX5_hasFound 16 = .ok (.getfield 44, 3) := by decide +kernel
theorem dX5_hasFound_19 : decode cX5_hasFound 19 = .ok (.iload_n 1, 1) := by decide +kernel
theorem dX5_hasFound_20 : decode cX5_hasFound 20 = .ok (.iaload, 1) := by decide +kernel
theorem dX5_hasFound_21 : decode cX5_hasFound 21 = .ok (.if_icmp .lt 7, 3) := by decide +kernel
theorem dX5_hasFound_24 : decode cX5_hasFound 24 = .ok (.iconst 1, 1) := by decide +kernel
theorem dX5_hasFound_25 : decode cX5_hasFound 25 = .ok (.goto 4, 3) := by decide +kernel
theorem dX5_hasFound_28 : decode cX5_hasFound 28 = .ok (.iconst 0, 1) := by decide +kernel
theorem dX5_hasFound_29 : decode cX5_hasFound 29 = .ok (.ireturn, 1) := by decide +kernel
theorem dX5_isOver_0 : decode cX5_isOver 0 = .ok (.aload_n 0, 1) := by decide +kernel
theorem dX5_isOver_1 : decode cX5_isOver 1 = .ok (.iload_n 1, 1) := by decide +kernel
theorem dX5_isOver_2 : decode cX5_isOver 2 = .ok (.invokevirtual 115, 3) := by decide +kernel
theorem dX5_isOver_5 : decode cX5_isOver 5 = .ok (.ifCond .ne 14, 3) := by decide +kernel
theorem dX5_isOver_8 : decode cX5_isOver 8 = .ok (.aload_n 0, 1) := by decide +kernel
theorem dX5_isOver_9 : decode cX5_isOver 9 = .ok (.getfield 47, 3) := by decide +kernel
theorem dX5_isOver_12 : decode cX5_isOver 12 = .ok (.iload_n 1, 1) := by decide +kernel
theorem dX5_isOver_13 : decode cX5_isOver 13 = .ok (.iaload, 1) := by decide +kernel
theorem dX5_isOver_14 : decode cX5_isOver 14 = .ok (.bipush 20, 2) := by decide +kernel
theorem dX5_isOver_16 : decode cX5_isOver 16 = .ok (.if_icmp .ne 7, 3) := by decide +kernel
theorem dX5_isOver_19 : decode cX5_isOver 19 = .ok (.iconst 1, 1) := by decide +kernel
theorem dX5_isOver_20 : decode cX5_isOver 20 = .ok (.goto 4, 3) := by decide +kernel
theorem dX5_isOver_23 : decode cX5_isOver 23 = .ok (.iconst 0, 1) := by decide +kernel
theorem dX5_isOver_24 : decode cX5_isOver 24 = .ok (.ireturn, 1) := by decide +kernel
theorem dX5_bet_0 : decode cX5_bet 0 = .ok (.aload_n 0, 1) := by decide +kernel
theorem dX5_bet_1 : decode cX5_bet 1 = .ok (.iconst 0, 1) := by decide +kernel
theorem dX5_bet_2 : decode cX5_bet 2 = .ok (.putfield 53, 3) := by decide +kernel
theorem dX5_bet_5 : decode cX5_bet 5 = .ok (.aload_n 0, 1) := by decide +kernel
theorem dX5_bet_6 : decode cX5_bet 6 = .ok (.iload_n 1, 1) := by decide +kernel
theorem dX5_bet_7 : decode cX5_bet 7 = .ok (.invokevirtual 102, 3) := by decide +kernel
theorem dX5_bet_10 : decode cX5_bet 10 = .ok (.ifCond .eq 11, 3) := by decide +kernel
theorem dX5_bet_13 : decode cX5_bet 13 = .ok (.aload_n 0, 1) := by decide +kernel
theorem dX5_bet_14 : decode cX5_bet 14 = .ok (.iload_n 2, 1) := by decide +kernel
theorem dX5_bet_15 : decode cX5_bet 15 = .ok (.invokevirtual 118, 3) := by decide +kernel
theorem dX5_bet_18 : decode cX5_bet 18 = .ok (.ifCond .ne 9, 3) := by decide +kernel
theorem dX5_bet_21 : decode cX5_bet 21 = .ok (.aload_n 0, 1) := by decide +kernel
theorem dX5_bet_22 : decode cX5_bet 22 = .ok (.iconst 1, 1) := by decide +kernel
theorem dX5_bet_23 : decode cX5_bet 23 = .ok (.invokevirtual 89, 3) := by decide +kernel
theorem dX5_bet_26 : decode cX5_bet 26 = .ok (.ireturn, 1) := by decide +kernel
theorem dX5_bet_27 : decode cX5_bet 27 = .ok (.iload_n 3, 1) := by decide +kernel
theorem dX5_bet_28 : decode cX5_bet 28 = .ok (.iconst 1, 1) := by decide +kernel
theorem dX5_bet_29 : decode cX5_bet 29 = .ok (.bipush 99, 2) := by decide +kernel
theorem dX5_bet_31 : decode cX5_bet 31 = .ok (.invokestatic 56, 3) := by decide +kernel
theorem dX5_bet_34 : decode cX5_bet 34 = .ok (.ifCond .ne 9, 3) := by decide +kernel
theorem dX5_bet_37 : decode cX5_bet 37 = .ok (.aload_n 0, 1) := by decide +kernel
theorem dX5_bet_38 : decode cX5_bet 38 = .ok (.iconst 2, 1) := by decide +kernel
theorem dX5_bet_39 : decode cX5_bet 39 = .ok (.invokevirtual 89, 3) := by decide +kernel
theorem dX5_bet_42 : decode cX5_bet 42 = .ok (.ireturn, 1) := by decide +kernel
theorem dX5_bet_43 : decode cX5_bet 43 = .ok (.aload_n 0, 1) := by decide +kernel
theorem dX5_bet_44 : decode cX5_bet 44 = .ok (.getfield 47, 3) := by decide +kernel
theorem dX5_bet_47 : decode cX5_bet 47 = .ok (.iload_n 2, 1) := by decide +kernel
theorem dX5_bet_48 : decode cX5_bet 48 = .ok (.iaload, 1) := by decide +kernel
theorem dX5_bet_49 : decode cX5_bet 49 = .ok (.ifCond .gt 26, 3) := by decide +kernel
theorem dX5_bet_52 : decode cX5_bet 52 = .ok (.aload_n 0, 1) := by decide +kernel
theorem dX5_bet_53 : decode cX5_bet 53 = .ok (.getfield 50, 3) := by decide +kernel
theorem dX5_bet_56 : decode cX5_bet 56 = .ok (.iconst 5, 1) := by decide +kernel
theorem dX5_bet_57 : decode cX5_bet 57 = .ok (.iload_n 2, 1) := by decide +kernel
theorem dX5_bet_58 : decode cX5_bet 58 = .ok (.imul, 1) := by decide +kernel
theorem dX5_bet_59 : decode cX5_bet 59 = .ok (.iload_n 1, 1) := by decide +kernel
theorem dX5_bet_60 : decode cX5_bet 60 = .ok (.iadd, 1) := by decide +kernel
theorem dX5_bet_61 : decode cX5_bet 61 = .ok (.iaload, 1) := by decide +kernel
theorem dX5_bet_62 : decode cX5_bet 62 = .ok (.ifCond .ne 13, 3) := by decide +kernel
theorem dX5_bet_65 : decode cX5_bet 65 = .ok (.aload_n 0, 1) := by decide +kernel
theorem dX5_bet_66 : decode cX5_bet 66 = .ok (.getfield 29, 3) := by decide +kernel
theorem dX5_bet_69 : decode cX5_bet 69 = .ok (.iload_n 1, 1) := by decide +kernel
theorem dX5_bet_70 : decode cX5_bet 70 = .ok (.iaload, 1) := by decide +kernel
theorem dX5_bet_71 : decode cX5_bet 71 = .ok (.iload_n 3, 1) := by decide +kernel
theorem dX5_bet_72 : decode cX5_bet 72 = .ok (.if_icmp .ge 9, 3) := by decide +kernel
theorem dX5_bet_75 : decode cX5_bet 75 = .ok (.aload_n 0, 1) := by decide +kernel
theorem dX5_bet_76 : decode cX5_bet 76 = .ok (.iconst 3, 1) := by decide +kernel
theorem dX5_bet_77 : decode cX5_bet 77 = .ok (.invokevirtual 89, 3) := by decide +kernel
theorem dX5_bet_80 : decode cX5_bet 80 = .ok (.ireturn, 1) := by decide +kernel
theorem dX5_bet_81 : decode cX5_bet 81 = .ok (.aload_n 0, 1) := by decide +kernel
theorem dX5_bet_82 : decode cX5_bet 82 = .ok (.getfield 29, 3) := by decide +kernel
theorem dX5_bet_85 : decode cX5_bet 85 = .ok (.iload_n 1, 1) := by decide +kernel
theorem dX5_bet_86 : decode cX5_bet 86 = .ok (.dup2, 1) := by decide +kernel
theorem dX5_bet_87 : decode cX5_bet 87 = .ok (.iaload, 1) := by decide +kernel
theorem dX5_bet_88 : decode cX5_bet 88 = .ok (.iload_n 3, 1) := by decide +kernel
theorem dX5_bet_89 : decode cX5_bet 89 = .ok (.isub, 1) := by decide +kernel
theorem dX5_bet_90 : decode cX5_bet 90 = .ok (.iastore, 1) := by decide +kernel
theorem dX5_bet_91 : decode cX5_bet 91 = .ok (.aload_n 0, 1) := by decide +kernel
theorem dX5_bet_92 : decode cX5_bet 92 = .ok (.getfield 50, 3) := by decide +kernel
theorem dX5_bet_95 : decode cX5_bet 95 = .ok (.iconst 5, 1) := by decide +kernel
theorem dX5_bet_96 : decode cX5_bet 96 = .ok (.iload_n 2, 1) := by decide +kernel
theorem dX5_bet_97 : decode cX5_bet 97 = .ok (.imul, 1) := by decide +kernel
theorem dX5_bet_98 : decode cX5_bet 98 = .ok (.iload_n 1, 1) := by decide +kernel
theorem dX5_bet_99 : decode cX5_bet 99 = .ok (.iadd, 1) := by decide +kernel
theorem dX5_bet_100 : decode cX5_bet 100 = .ok (.iload 4, 2) := by decide +kernel
theorem dX5_bet_102 : decode cX5_bet 102 = .ok (.ifCond .eq 7, 3) := by decide +kernel
theorem dX5_bet_105 : decode cX5_bet 105 = .ok (.iload_n 3, 1) := by decide +kernel
theorem dX5_bet_106 : decode cX5_bet 106 = .ok (.goto 5, 3) := by decide +kernel
theorem dX5_bet_109 : decode cX5_bet 109 = .ok (.iload_n 3, 1) := by decide +kernel
theorem dX5_bet_110 : decode cX5_bet 110 = .ok (.ineg, 1) := by decide +kernel
theorem dX5_bet_111 : decode cX5_bet 111 = .ok (.iastore, 1) := by decide +kernel
theorem dX5_bet_112 : decode cX5_bet 112 = .ok (.aload_n 0, 1) := by decide +kernel
theorem dX5_bet_113 : decode cX5_bet 113 = .ok (.getfield 29, 3) := by decide +kernel
theorem dX5_bet_116 : decode cX5_bet 116 = .ok (.iload_n 1, 1) := by decide +kernel
theorem dX5_bet_117 : decode cX5_bet 117 = .ok (.iaload, 1) := by decide +kernel
theorem dX5_bet_118 : decode cX5_bet 118 = .ok (.ireturn, 1) := by decide +kernel
theorem dX5_betOn_0 : decode cX5_betOn 0 = .ok (.iconst 0, 1) := by decide +kernel
theorem dX5_betOn_1 : decode cX5_betOn 1 = .ok (.istore_n 3, 1) := by decide +kernel
theorem dX5_betOn_2 : decode cX5_betOn 2 = .ok (.iconst 0, 1) := by decide +kernel
theorem dX5_betOn_3 : decode cX5_betOn 3 = .ok (.istore 4, 2) := by decide +kernel
theorem dX5_betOn_5 : decode cX5_betOn 5 = .ok (.iload 4, 2) := by decide +kernel
theorem dX5_betOn_7 : decode cX5_betOn 7 = .ok (.iconst 5, 1) := by decide +kernel
theorem dX5_betOn_8 : decode cX5_betOn 8 = .ok (.if_icmp .ge 46, 3) := by decide +kernel
theorem dX5_betOn_11 : decode cX5_betOn 11 = .ok (.iload_n 3, 1) := by decide +kernel
theorem dX5_betOn_12 : decode cX5_betOn 12 = .ok (.iconst 0, 1) := by decide +kernel
theorem dX5_betOn_13 : decode cX5_betOn 13 = .ok (.iload_n 2, 1) := by decide +kernel
theorem dX5_betOn_14 : decode cX5_betOn 14 = .ok (.ifCond .eq 17, 3) := by decide +kernel
theorem dX5_betOn_17 : decode cX5_betOn 17 = .ok (.aload_n 0, 1) := by decide +kernel
theorem dX5_betOn_18 : decode cX5_betOn 18 = .ok (.getfield 50, 3) := by decide +kernel
theorem dX5_betOn_21 : decode cX5_betOn 21 = .ok (.iconst 5, 1) := by decide +kernel
theorem dX5_betOn_22 : decode cX5_betOn 22 = .ok (.iload_n 1, 1) := by decide +kernel
theorem dX5_betOn_23 : decode cX5_betOn 23 = .ok (.imul, 1) := by decide +kernel
theorem dX5_betOn_24 : decode cX5_betOn 24 = .ok (.iload 4, 2) := by decide +kernel
theorem dX5_betOn_26 : decode cX5_betOn 26 = .ok (.iadd, 1) := by decide +kernel
theorem dX5_betOn_27 : decode cX5_betOn 27 = .ok (.iaload, 1) := by decide +kernel
theorem dX5_betOn_28 : decode cX5_betOn 28 = .ok (.goto 15, 3) := by decide +kernel
theorem dX5_betOn_31 : decode cX5_betOn 31 = .ok (.aload_n 0, 1) := by decide +kernel
theorem dX5_betOn_32 : decode cX5_betOn 32 = .ok (.getfield 50, 3) := by decide +kernel
theorem dX5_betOn_35 : decode cX5_betOn 35 = .ok (.iconst 5, 1) := by decide +kernel
theorem dX5_betOn_36 : decode cX5_betOn 36 = .ok (.iload_n 1, 1) := by decide +kernel
theorem dX5_betOn_37 : decode cX5_betOn 37 = .ok (.imul, 1) := by decide +kernel
theorem dX5_betOn_38 : decode cX5_betOn 38 = .ok (.iload 4, 2) := by decide +kernel
theorem dX5_betOn_40 : decode cX5_betOn 40 = .ok (.iadd, 1) := by decide +kernel
theorem dX5_betOn_41 : decode cX5_betOn 41 = .ok (.iaload, 1) := by decide +kernel
theorem dX5_betOn_42 : decode cX5_betOn 42 = .ok (.ineg, 1) := by decide +kernel
theorem dX5_betOn_43 : decode cX5_betOn 43 = .ok (.invokestatic 75, 3) := by decide +kernel
theorem dX5_betOn_46 : decode cX5_betOn 46 = .ok (.iadd, 1) := by decide +kernel
theorem dX5_betOn_47 : decode cX5_betOn 47 = .ok (.istore_n 3, 1) := by decide +kernel
theorem dX5_betOn_48 : decode cX5_betOn 48 = .ok (.iinc 4 1, 3) := by decide +kernel
theorem dX5_betOn_51 : decode cX5_betOn 51 = .ok (.goto (-46), 3) := by decide +kernel
theorem dX5_betOn_54 : decode cX5_betOn 54 = .ok (.iload_n 3, 1) := by decide +kernel
theorem dX5_betOn_55 : decode cX5_betOn 55 = .ok (.ireturn, 1) := by decide +kernel
theorem dX5_share_0 : decode cX5_share 0 = .ok (.iload_n 3, 1) := by decide +kernel
theorem dX5_share_1 : decode cX5_share 1 = .ok (.ifCond .eq 16, 3) := by decide +kernel
theorem dX5_share_4 : decode cX5_share 4 = .ok (.aload_n 0, 1) := by decide +kernel
theorem dX5_share_5 : decode cX5_share 5 = .ok (.getfield 50, 3) := by decide +kernel
theorem dX5_share_8 : decode cX5_share 8 = .ok (.iconst 5, 1) := by decide +kernel
theorem dX5_share_9 : decode cX5_share 9 = .ok (.iload_n 1, 1) := by decide +kernel
theorem dX5_share_10 : decode cX5_share 10 = .ok (.imul, 1) := by decide +kernel
theorem dX5_share_11 : decode cX5_share 11 = .ok (.iload_n 2, 1) := by decide +kernel
theorem dX5_share_12 : decode cX5_share 12 = .ok (.iadd, 1) := by decide +kernel
theorem dX5_share_13 : decode cX5_share 13 = .ok (.iaload, 1) := by decide +kernel
theorem dX5_share_14 : decode cX5_share 14 = .ok (.goto 14, 3) := by decide +kernel
theorem dX5_share_17 : decode cX5_share 17 = .ok (.aload_n 0, 1) := by decide +kernel
theorem dX5_share_18 : decode cX5_share 18 = .ok (.getfield 50, 3) := by decide +kernel
theorem dX5_share_21 : decode cX5_share 21 = .ok (.iconst 5, 1) := by decide +kernel
theorem dX5_share_22 : decode cX5_share 22 = .ok (.iload_n 1, 1) := by decide +kernel
theorem dX5_share_23 : decode cX5_share 23 = .ok (.imul, 1) := by decide +kernel
theorem dX5_share_24 : decode cX5_share 24 = .ok (.iload_n 2, 1) := by decide +kernel
theorem dX5_share_25 : decode cX5_share 25 = .ok (.iadd, 1) := by decide +kernel
theorem dX5_share_26 : decode cX5_share 26 = .ok (.iaload, 1) := by decide +kernel
theorem dX5_share_27 : decode cX5_share 27 = .ok (.ineg, 1) := by decide +kernel
theorem dX5_share_28 : decode cX5_share 28 = .ok (.istore 4, 2) := by decide +kernel
theorem dX5_share_30 : decode cX5_share 30 = .ok (.iload 4, 2) := by decide +kernel
theorem dX5_share_32 : decode cX5_share 32 = .ok (.ifCond .gt 7, 3) := by decide +kernel
theorem dX5_share_35 : decode cX5_share 35 = .ok (.iconst 0, 1) := by decide +kernel
theorem dX5_share_36 : decode cX5_share 36 = .ok (.goto 26, 3) := by decide +kernel
theorem dX5_share_39 : decode cX5_share 39 = .ok (.aload_n 0, 1) := by decide +kernel
theorem dX5_share_40 : decode cX5_share 40 = .ok (.iload_n 1, 1) := by decide +kernel
theorem dX5_share_41 : decode cX5_share 41 = .ok (.iconst 1, 1) := by decide +kernel
theorem dX5_share_42 : decode cX5_share 42 = .ok (.invokevirtual 121, 3) := by decide +kernel
theorem dX5_share_45 : decode cX5_share 45 = .ok (.aload_n 0, 1) := by decide +kernel
theorem dX5_share_46 : decode cX5_share 46 = .ok (.iload_n 1, 1) := by decide +kernel
theorem dX5_share_47 : decode cX5_share 47 = .ok (.iconst 0, 1) := by decide +kernel
theorem dX5_share_48 : decode cX5_share 48 = .ok (.invokevirtual 121, 3) := by decide +kernel
theorem dX5_share_51 : decode cX5_share 51 = .ok (.iadd, 1) := by decide +kernel
theorem dX5_share_52 : decode cX5_share 52 = .ok (.iload 4, 2) := by decide +kernel
theorem dX5_share_54 : decode cX5_share 54 = .ok (.imul, 1) := by decide +kernel
theorem dX5_share_55 : decode cX5_share 55 = .ok (.aload_n 0, 1) := by decide +kernel
theorem dX5_share_56 : decode cX5_share 56 = .ok (.iload_n 1, 1) := by decide +kernel
theorem dX5_share_57 : decode cX5_share 57 = .ok (.iload_n 3, 1) := by decide +kernel
theorem dX5_share_58 : decode cX5_share 58 = .ok (.invokevirtual 121, 3) := by decide +kernel
theorem dX5_share_61 : decode cX5_share 61 = .ok (.idiv, 1) := by decide +kernel
theorem dX5_share_62 : decode cX5_share 62 = .ok (.ireturn, 1) := by decide +kernel
theorem dX5_pay_0 : decode cX5_pay 0 = .ok (.aload_n 0, 1) := by decide +kernel
theorem dX5_pay_1 : decode cX5_pay 1 = .ok (.iload_n 1, 1) := by decide +kernel
theorem dX5_pay_2 : decode cX5_pay 2 = .ok (.invokevirtual 115, 3) := by decide +kernel
theorem dX5_pay_5 : decode cX5_pay 5 = .ok (.istore_n 2, 1) := by decide +kernel
theorem dX5_pay_6 : decode cX5_pay 6 = .ok (.aload_n 0, 1) := by decide +kernel
theorem dX5_pay_7 : decode cX5_pay 7 = .ok (.iload_n 1, 1) := by decide +kernel
theorem dX5_pay_8 : decode cX5_pay 8 = .ok (.iconst 1, 1) := by decide +kernel
theorem dX5_pay_9 : decode cX5_pay 9 = .ok (.invokevirtual 121, 3) := by decide +kernel
theorem dX5_pay_12 : decode cX5_pay 12 = .ok (.aload_n 0, 1) := by decide +kernel
theorem dX5_pay_13 : decode cX5_pay 13 = .ok (.iload_n 1, 1) := by decide +kernel
theorem dX5_pay_14 : decode cX5_pay 14 = .ok (.iconst 0, 1) := by decide +kernel
theorem dX5_pay_15 : decode cX5_pay 15 = .ok (.invokevirtual 121, 3) := by decide +kernel
theorem dX5_pay_18 : decode cX5_pay 18 = .ok (.iadd, 1) := by decide +kernel
theorem dX5_pay_19 : decode cX5_pay 19 = .ok (.istore_n 3, 1) := by decide +kernel
theorem dX5_pay_20 : decode cX5_pay 20 = .ok (.iconst 0, 1) := by decide +kernel
theorem dX5_pay_21 : decode cX5_pay 21 = .ok (.istore 4, 2) := by decide +kernel
theorem dX5_pay_23 : decode cX5_pay 23 = .ok (.iload 4, 2) := by decide +kernel
theorem dX5_pay_25 : decode cX5_pay 25 = .ok (.aload_n 0, 1) := by decide +kernel
theorem dX5_pay_26 : decode cX5_pay 26 = .ok (.getfield 60, 3) := by decide +kernel
theorem dX5_pay_29 : decode cX5_pay 29 = .ok (.if_icmp .ge 96, 3) := by decide +kernel
theorem dX5_pay_32 : decode cX5_pay 32 = .ok (.aload_n 0, 1) := by decide +kernel
theorem dX5_pay_33 : decode cX5_pay 33 = .ok (.iload_n 1, 1) := by decide +kernel
theorem dX5_pay_34 : decode cX5_pay 34 = .ok (.iload 4, 2) := by decide +kernel
theorem dX5_pay_36 : decode cX5_pay 36 = .ok (.iload_n 2, 1) := by decide +kernel
theorem dX5_pay_37 : decode cX5_pay 37 = .ok (.invokevirtual 125, 3) := by decide +kernel
theorem dX5_pay_40 : decode cX5_pay 40 = .ok (.istore 5, 2) := by decide +kernel
theorem dX5_pay_42 : decode cX5_pay 42 = .ok (.iload_n 3, 1) := by decide +kernel
theorem dX5_pay_43 : decode cX5_pay 43 = .ok (.iload 5, 2) := by decide +kernel
theorem dX5_pay_45 : decode cX5_pay 45 = .ok (.isub, 1) := by decide +kernel
theorem dX5_pay_46 : decode cX5_pay 46 = .ok (.istore_n 3, 1) := by decide +kernel
theorem dX5_pay_47 : decode cX5_pay 47 = .ok (.aload_n 0, 1) := by decide +kernel
theorem dX5_pay_48 : decode cX5_pay 48 = .ok (.getfield 29, 3) := by decide +kernel
theorem dX5_pay_51 : decode cX5_pay 51 = .ok (.iload 4, 2) := by decide +kernel
theorem dX5_pay_53 : decode cX5_pay 53 = .ok (.dup2, 1) := by decide +kernel
theorem dX5_pay_54 : decode cX5_pay 54 = .ok (.iaload, 1) := by decide +kernel
theorem dX5_pay_55 : decode cX5_pay 55 = .ok (.iload 5, 2) := by decide +kernel
theorem dX5_pay_57 : decode cX5_pay 57 = .ok (.iadd, 1) := by decide +kernel
theorem dX5_pay_58 : decode cX5_pay 58 = .ok (.iastore, 1) := by decide +kernel
theorem dX5_pay_59 : decode cX5_pay 59 = .ok (.aload_n 0, 1) := by decide +kernel
theorem dX5_pay_60 : decode cX5_pay 60 = .ok (.getfield 50, 3) := by decide +kernel
theorem dX5_pay_63 : decode cX5_pay 63 = .ok (.iconst 5, 1) := by decide +kernel
theorem dX5_pay_64 : decode cX5_pay 64 = .ok (.iload_n 1, 1) := by decide +kernel
theorem dX5_pay_65 : decode cX5_pay 65 = .ok (.imul, 1) := by decide +kernel
theorem dX5_pay_66 : decode cX5_pay 66 = .ok (.iload 4, 2) := by decide +kernel
theorem dX5_pay_68 : decode cX5_pay 68 = .ok (.iadd, 1) := by decide +kernel
theorem dX5_pay_69 : decode cX5_pay 69 = .ok (.iaload, 1) := by decide +kernel
theorem dX5_pay_70 : decode cX5_pay 70 = .ok (.istore 6, 2) := by decide +kernel
theorem dX5_pay_72 : decode cX5_pay 72 = .ok (.iload 6, 2) := by decide +kernel
theorem dX5_pay_74 : decode cX5_pay 74 = .ok (.ifCond .ne 6, 3) := by decide +kernel
theorem dX5_pay_77 : decode cX5_pay 77 = .ok (.goto 42, 3) := by decide +kernel
theorem dX5_pay_80 : decode cX5_pay 80 = .ok (.iload 6, 2) := by decide +kernel
theorem dX5_pay_82 : decode cX5_pay 82 = .ok (.ifCond .le 7, 3) := by decide +kernel
theorem dX5_pay_85 : decode cX5_pay 85 = .ok (.iconst 1, 1) := by decide +kernel
theorem dX5_pay_86 : decode cX5_pay 86 = .ok (.goto 4, 3) := by decide +kernel
theorem dX5_pay_89 : decode cX5_pay 89 = .ok (.iconst 0, 1) := by decide +kernel
theorem dX5_pay_90 : decode cX5_pay 90 = .ok (.iload_n 2, 1) := by decide +kernel
theorem dX5_pay_91 : decode cX5_pay 91 = .ok (.if_icmp .ne 17, 3) := by decide +kernel
theorem dX5_pay_94 : decode cX5_pay 94 = .ok (.aload_n 0, 1) := by decide +kernel
theorem dX5_pay_95 : decode cX5_pay 95 = .ok (.getfield 32, 3) := by decide +kernel
theorem dX5_pay_98 : decode cX5_pay 98 = .ok (.iload 4, 2) := by decide +kernel
theorem dX5_pay_100 : decode cX5_pay 100 = .ok (.dup2, 1) := by decide +kernel
theorem dX5_pay_101 : decode cX5_pay 101 = .ok (.iaload, 1) := by decide +kernel
theorem dX5_pay_102 : decode cX5_pay 102 = .ok (.iconst 1, 1) := by decide +kernel
theorem dX5_pay_103 : decode cX5_pay 103 = .ok (.iadd, 1) := by decide +kernel
theorem dX5_pay_104 : decode cX5_pay 104 = .ok (.iastore, 1) := by decide +kernel
theorem dX5_pay_105 : decode cX5_pay 105 = .ok (.goto 14, 3) := by decide +kernel
theorem dX5_pay_108 : decode cX5_pay 108 = .ok (.aload_n 0, 1) := by decide +kernel
theorem dX5_pay_109 : decode cX5_pay 109 = .ok (.getfield 35, 3) := by decide +kernel
theorem dX5_pay_112 : decode cX5_pay 112 = .ok (.iload 4, 2) := by decide +kernel
theorem dX5_pay_114 : decode cX5_pay 114 = .ok (.dup2, 1) := by decide +kernel
theorem dX5_pay_115 : decode cX5_pay 115 = .ok (.iaload, 1) := by decide +kernel
theorem dX5_pay_116 : decode cX5_pay 116 = .ok (.iconst 1, 1) := by decide +kernel
theorem dX5_pay_117 : decode cX5_pay 117 = .ok (.iadd, 1) := by decide +kernel
theorem dX5_pay_118 : decode cX5_pay 118 = .ok (.iastore, 1) := by decide +kernel
theorem dX5_pay_119 : decode cX5_pay 119 = .ok (.iinc 4 1, 3) := by decide +kernel
theorem dX5_pay_122 : decode cX5_pay 122 = .ok (.goto (-99), 3) := by decide +kernel
theorem dX5_pay_125 : decode cX5_pay 125 = .ok (.aload_n 0, 1) := by decide +kernel
theorem dX5_pay_126 : decode cX5_pay 126 = .ok (.dup, 1) := by decide +kernel
theorem dX5_pay_127 : decode cX5_pay 127 = .ok (.getfield 129, 3) := by decide +kernel
theorem dX5_pay_130 : decode cX5_pay 130 = .ok (.iload_n 3, 1) := by decide +kernel
theorem dX5_pay_131 : decode cX5_pay 131 = .ok (.iadd, 1) := by decide +kernel
theorem dX5_pay_132 : decode cX5_pay 132 = .ok (.putfield 129, 3) := by decide +kernel
theorem dX5_pay_135 : decode cX5_pay 135 = .ok (.return_, 1) := by decide +kernel
theorem dX5_dig_0 : decode cX5_dig 0 = .ok (.aload_n 0, 1) := by decide +kernel
theorem dX5_dig_1 : decode cX5_dig 1 = .ok (.iconst 0, 1) := by decide +kernel
theorem dX5_dig_2 : decode cX5_dig 2 = .ok (.putfield 53, 3) := by decide +kernel
theorem dX5_dig_5 : decode cX5_dig 5 = .ok (.aload_n 0, 1) := by decide +kernel
theorem dX5_dig_6 : decode cX5_dig 6 = .ok (.iload_n 1, 1) := by decide +kernel
theorem dX5_dig_7 : decode cX5_dig 7 = .ok (.invokevirtual 118, 3) := by decide +kernel
theorem dX5_dig_10 : decode cX5_dig 10 = .ok (.ifCond .ne 9, 3) := by decide +kernel
theorem dX5_dig_13 : decode cX5_dig 13 = .ok (.aload_n 0, 1) := by decide +kernel
theorem dX5_dig_14 : decode cX5_dig 14 = .ok (.iconst 1, 1) := by decide +kernel
theorem dX5_dig_15 : decode cX5_dig 15 = .ok (.invokevirtual 89, 3) := by decide +kernel
theorem dX5_dig_18 : decode cX5_dig 18 = .ok (.ireturn, 1) := by decide +kernel
theorem dX5_dig_19 : decode cX5_dig 19 = .ok (.iload_n 2, 1) := by decide +kernel
theorem dX5_dig_20 : decode cX5_dig 20 = .ok (.iconst 1, 1) := by decide +kernel
theorem dX5_dig_21 : decode cX5_dig 21 = .ok (.bipush 20, 2) := by decide +kernel
theorem dX5_dig_23 : decode cX5_dig 23 = .ok (.invokestatic 56, 3) := by decide +kernel
theorem dX5_dig_26 : decode cX5_dig 26 = .ok (.ifCond .ne 9, 3) := by decide +kernel
theorem dX5_dig_29 : decode cX5_dig 29 = .ok (.aload_n 0, 1) := by decide +kernel
theorem dX5_dig_30 : decode cX5_dig 30 = .ok (.iconst 2, 1) := by decide +kernel
theorem dX5_dig_31 : decode cX5_dig 31 = .ok (.invokevirtual 89, 3) := by decide +kernel
theorem dX5_dig_34 : decode cX5_dig 34 = .ok (.ireturn, 1) := by decide +kernel
theorem dX5_dig_35 : decode cX5_dig 35 = .ok (.aload_n 0, 1) := by decide +kernel
theorem dX5_dig_36 : decode cX5_dig 36 = .ok (.iload_n 1, 1) := by decide +kernel
theorem dX5_dig_37 : decode cX5_dig 37 = .ok (.invokevirtual 132, 3) := by decide +kernel
theorem dX5_dig_40 : decode cX5_dig 40 = .ok (.ifCond .eq 9, 3) := by decide +kernel
theorem dX5_dig_43 : decode cX5_dig 43 = .ok (.aload_n 0, 1) := by decide +kernel
theorem dX5_dig_44 : decode cX5_dig 44 = .ok (.iconst 3, 1) := by decide +kernel
theorem dX5_dig_45 : decode cX5_dig 45 = .ok (.invokevirtual 89, 3) := by decide +kernel
theorem dX5_dig_48 : decode cX5_dig 48 = .ok (.ireturn, 1) := by decide +kernel
theorem dX5_dig_49 : decode cX5_dig 49 = .ok (.aload_n 0, 1) := by decide +kernel
theorem dX5_dig_50 : decode cX5_dig 50 = .ok (.getfield 47, 3) := by decide +kernel
theorem dX5_dig_53 : decode cX5_dig 53 = .ok (.iload_n 1, 1) := by decide +kernel
theorem dX5_dig_54 : decode cX5_dig 54 = .ok (.aload_n 0, 1) := by decide +kernel
theorem dX5_dig_55 : decode cX5_dig 55 = .ok (.getfield 47, 3) := by decide +kernel
theorem dX5_dig_58 : decode cX5_dig 58 = .ok (.iload_n 1, 1) := by decide +kernel
theorem dX5_dig_59 : decode cX5_dig 59 = .ok (.iaload, 1) := by decide +kernel
theorem dX5_dig_60 : decode cX5_dig 60 = .ok (.iload_n 2, 1) := by decide +kernel
theorem dX5_dig_61 : decode cX5_dig 61 = .ok (.iadd, 1) := by decide +kernel
theorem dX5_dig_62 : decode cX5_dig 62 = .ok (.aload_n 0, 1) := by decide +kernel
theorem dX5_dig_63 : decode cX5_dig 63 = .ok (.getfield 44, 3) := by decide +kernel
theorem dX5_dig_66 : decode cX5_dig 66 = .ok (.iload_n 1, 1) := by decide +kernel
theorem dX5_dig_67 : decode cX5_dig 67 = .ok (.iaload, 1) := by decide +kernel
theorem dX5_dig_68 : decode cX5_dig 68 = .ok (.ifCond .le 12, 3) := by decide +kernel
theorem dX5_dig_71 : decode cX5_dig 71 = .ok (.aload_n 0, 1) := by decide +kernel
theorem dX5_dig_72 : decode cX5_dig 72 = .ok (.getfield 44, 3) := by decide +kernel
theorem dX5_dig_75 : decode cX5_dig 75 = .ok (.iload_n 1, 1) := by decide +kernel
theorem dX5_dig_76 : decode cX5_dig 76 = .ok (.iaload, 1) := by decide +kernel
theorem dX5_dig_77 : decode cX5_dig 77 = .ok (.goto 5, 3) := by decide +kernel
theorem dX5_dig_80 : decode cX5_dig 80 = .ok (.bipush 20, 2) := by decide +kernel
theorem dX5_dig_82 : decode cX5_dig 82 = .ok (.invokestatic 135, 3) := by decide +kernel
theorem dX5_dig_85 : decode cX5_dig 85 = .ok (.iastore, 1) := by decide +kernel
theorem dX5_dig_86 : decode cX5_dig 86 = .ok (.aload_n 0, 1) := by decide +kernel
theorem dX5_dig_87 : decode cX5_dig 87 = .ok (.iload_n 1, 1) := by decide +kernel
theorem dX5_dig_88 : decode cX5_dig 88 = .ok (.invokevirtual 132, 3) := by decide +kernel
theorem dX5_dig_91 : decode cX5_dig 91 = .ok (.ifCond .eq 8, 3) := by decide +kernel
theorem dX5_dig_94 : decode cX5_dig 94 = .ok (.aload_n 0, 1) := by decide +kernel
theorem dX5_dig_95 : decode cX5_dig 95 = .ok (.iload_n 1, 1) := by decide +kernel
theorem dX5_dig_96 : decode cX5_dig 96 = .ok (.invokevirtual 138, 3) := by decide +kernel
theorem dX5_dig_99 : decode cX5_dig 99 = .ok (.aload_n 0, 1) := by decide +kernel
theorem dX5_dig_100 : decode cX5_dig 100 = .ok (.getfield 47, 3) := by decide +kernel
theorem dX5_dig_103 : decode cX5_dig 103 = .ok (.iload_n 1, 1) := by decide +kernel
theorem dX5_dig_104 : decode cX5_dig 104 = .ok (.iaload, 1) := by decide +kernel
theorem dX5_dig_105 : decode cX5_dig 105 = .ok (.ireturn, 1) := by decide +kernel
theorem dX5_spotTold_0 : decode cX5_spotTold 0 = .ok (.iload_n 2, 1) := by decide +kernel
theorem dX5_spotTold_1 : decode cX5_spotTold 1 = .ok (.tableswitch 68 0 4 #[35, 41, 47, 56, 62], 35) := by decide +kernel
theorem dX5_spotTold_36 : decode cX5_spotTold 36 = .ok (.aload_n 0, 1) := by decide +kernel
theorem dX5_spotTold_37 : decode cX5_spotTold 37 = .ok (.iload_n 1, 1) := by decide +kernel
theorem dX5_spotTold_38 : decode cX5_spotTold 38 = .ok (.invokevirtual 142, 3) := by decide +kernel
theorem dX5_spotTold_41 : decode cX5_spotTold 41 = .ok (.ireturn, 1) := by decide +kernel
theorem dX5_spotTold_42 : decode cX5_spotTold 42 = .ok (.aload_n 0, 1) := by decide +kernel
theorem dX5_spotTold_43 : decode cX5_spotTold 43 = .ok (.iload_n 1, 1) := by decide +kernel
theorem dX5_spotTold_44 : decode cX5_spotTold 44 = .ok (.invokevirtual 112, 3) := by decide +kernel
theorem dX5_spotTold_47 : decode cX5_spotTold 47 = .ok (.ireturn, 1) := by decide +kernel
theorem dX5_spotTold_48 : decode cX5_spotTold 48 = .ok (.aload_n 0, 1) := by decide +kernel
theorem dX5_spotTold_49 : decode cX5_spotTold 49 = .ok (.getfield 38, 3) := by decide +kernel
theorem dX5_spotTold_52 : decode cX5_spotTold 52 = .ok (.iload_n 1, 1) := by decide +kernel
theorem dX5_spotTold_53 : decode cX5_spotTold 53 = .ok (.iaload, 1) := by decide +kernel
theorem dX5_spotTold_54 : decode cX5_spotTold 54 = .ok (.iconst 1, 1) := by decide +kernel
theorem dX5_spotTold_55 : decode cX5_spotTold 55 = .ok (.isub, 1) := by decide +kernel
theorem dX5_spotTold_56 : decode cX5_spotTold 56 = .ok (.ireturn, 1) := by decide +kernel
theorem dX5_spotTold_57 : decode cX5_spotTold 57 = .ok (.aload_n 0, 1) := by decide +kernel
theorem dX5_spotTold_58 : decode cX5_spotTold 58 = .ok (.iload_n 1, 1) := by decide +kernel
theorem dX5_spotTold_59 : decode cX5_spotTold 59 = .ok (.invokevirtual 109, 3) := by decide +kernel
theorem dX5_spotTold_62 : decode cX5_spotTold 62 = .ok (.ireturn, 1) := by decide +kernel
theorem dX5_spotTold_63 : decode cX5_spotTold 63 = .ok (.aload_n 0, 1) := by decide +kernel
theorem dX5_spotTold_64 : decode cX5_spotTold 64 = .ok (.iload_n 1, 1) := by decide +kernel
theorem dX5_spotTold_65 : decode cX5_spotTold 65 = .ok (.invokevirtual 145, 3) := by decide +kernel
theorem dX5_spotTold_68 : decode cX5_spotTold 68 = .ok (.ireturn, 1) := by decide +kernel
theorem dX5_spotTold_69 : decode cX5_spotTold 69 = .ok (.aload_n 0, 1) := by decide +kernel
theorem dX5_spotTold_70 : decode cX5_spotTold 70 = .ok (.iload_n 1, 1) := by decide +kernel
theorem dX5_spotTold_71 : decode cX5_spotTold 71 = .ok (.invokevirtual 148, 3) := by decide +kernel
theorem dX5_spotTold_74 : decode cX5_spotTold 74 = .ok (.ireturn, 1) := by decide +kernel
theorem dX5_spot_0 : decode cX5_spot 0 = .ok (.aload_n 0, 1) := by decide +kernel
theorem dX5_spot_1 : decode cX5_spot 1 = .ok (.iconst 0, 1) := by decide +kernel
theorem dX5_spot_2 : decode cX5_spot 2 = .ok (.putfield 53, 3) := by decide +kernel
theorem dX5_spot_5 : decode cX5_spot 5 = .ok (.iload_n 1, 1) := by decide +kernel
theorem dX5_spot_6 : decode cX5_spot 6 = .ok (.iload_n 2, 1) := by decide +kernel
theorem dX5_spot_7 : decode cX5_spot 7 = .ok (.invokestatic 86, 3) := by decide +kernel
theorem dX5_spot_10 : decode cX5_spot 10 = .ok (.ifCond .eq 26, 3) := by decide +kernel
theorem dX5_spot_13 : decode cX5_spot 13 = .ok (.iload_n 3, 1) := by decide +kernel
theorem dX5_spot_14 : decode cX5_spot 14 = .ok (.iconst 0, 1) := by decide +kernel
theorem dX5_spot_15 : decode cX5_spot 15 = .ok (.iconst 5, 1) := by decide +kernel
theorem dX5_spot_16 : decode cX5_spot 16 = .ok (.invokestatic 56, 3) := by decide +kernel
theorem dX5_spot_19 : decode cX5_spot 19 = .ok (.ifCond .eq 17, 3) := by decide +kernel
theorem dX5_spot_22 : decode cX5_spot 22 = .ok (.aload_n 0, 1) := by decide +kernel
theorem dX5_spot_23 : decode cX5_spot 23 = .ok (.bipush 20, 2) := by decide +kernel
theorem dX5_spot_25 : decode cX5_spot 25 = .ok (.iload_n 2, 1) := by decide +kernel
theorem dX5_spot_26 : decode cX5_spot 26 = .ok (.imul, 1) := by decide +kernel
theorem dX5_spot_27 : decode cX5_spot 27 = .ok (.iload_n 1, 1) := by decide +kernel
theorem dX5_spot_28 : decode cX5_spot 28 = .ok (.iadd, 1) := by decide +kernel
theorem dX5_spot_29 : decode cX5_spot 29 = .ok (.iload_n 3, 1) := by decide +kernel
theorem dX5_spot_30 : decode cX5_spot 30 = .ok (.invokevirtual 151, 3) := by decide +kernel
theorem dX5_spot_33 : decode cX5_spot 33 = .ok (.goto 8, 3) := by decide +kernel
theorem dX5_spot_36 : decode cX5_spot 36 = .ok (.aload_n 0, 1) := by decide +kernel
theorem dX5_spot_37 : decode cX5_spot 37 = .ok (.iconst 1, 1) := by decide +kernel
theorem dX5_spot_38 : decode cX5_spot 38 = .ok (.invokevirtual 89, 3) := by decide +kernel
theorem dX5_spot_41 : decode cX5_spot 41 = .ok (.ireturn, 1) := by decide +kernel
theorem dX5_rod_0 : decode cX5_rod 0 = .ok (.aload_n 0, 1) := by decide +kernel
theorem dX5_rod_1 : decode cX5_rod 1 = .ok (.iconst 0, 1) := by decide +kernel
theorem dX5_rod_2 : decode cX5_rod 2 = .ok (.putfield 53, 3) := by decide +kernel
theorem dX5_rod_5 : decode cX5_rod 5 = .ok (.aload_n 0, 1) := by decide +kernel
theorem dX5_rod_6 : decode cX5_rod 6 = .ok (.iload_n 1, 1) := by decide +kernel
theorem dX5_rod_7 : decode cX5_rod 7 = .ok (.invokevirtual 102, 3) := by decide +kernel
theorem dX5_rod_10 : decode cX5_rod 10 = .ok (.ifCond .eq 25, 3) := by decide +kernel
theorem dX5_rod_13 : decode cX5_rod 13 = .ok (.iload_n 2, 1) := by decide +kernel
theorem dX5_rod_14 : decode cX5_rod 14 = .ok (.iload_n 3, 1) := by decide +kernel
theorem dX5_rod_15 : decode cX5_rod 15 = .ok (.invokestatic 86, 3) := by decide +kernel
theorem dX5_rod_18 : decode cX5_rod 18 = .ok (.ifCond .eq 17, 3) := by decide +kernel
theorem dX5_rod_21 : decode cX5_rod 21 = .ok (.aload_n 0, 1) := by decide +kernel
theorem dX5_rod_22 : decode cX5_rod 22 = .ok (.iload_n 1, 1) := by decide +kernel
theorem dX5_rod_23 : decode cX5_rod 23 = .ok (.bipush 20, 2) := by decide +kernel
theorem dX5_rod_25 : decode cX5_rod 25 = .ok (.iload_n 3, 1) := by decide +kernel
theorem dX5_rod_26 : decode cX5_rod 26 = .ok (.imul, 1) := by decide +kernel
theorem dX5_rod_27 : decode cX5_rod 27 = .ok (.iload_n 2, 1) := by decide +kernel
theorem dX5_rod_28 : decode cX5_rod 28 = .ok (.iadd, 1) := by decide +kernel
theorem dX5_rod_29 : decode cX5_rod 29 = .ok (.invokevirtual 99, 3) := by decide +kernel
theorem dX5_rod_32 : decode cX5_rod 32 = .ok (.goto 8, 3) := by decide +kernel
theorem dX5_rod_35 : decode cX5_rod 35 = .ok (.aload_n 0, 1) := by decide +kernel
theorem dX5_rod_36 : decode cX5_rod 36 = .ok (.iconst 1, 1) := by decide +kernel
theorem dX5_rod_37 : decode cX5_rod 37 = .ok (.invokevirtual 89, 3) := by decide +kernel
theorem dX5_rod_40 : decode cX5_rod 40 = .ok (.ireturn, 1) := by decide +kernel
theorem dX5_pegsOf_0 : decode cX5_pegsOf 0 = .ok (.iconst 0, 1) := by decide +kernel
theorem dX5_pegsOf_1 : decode cX5_pegsOf 1 = .ok (.istore_n 3, 1) := by decide +kernel
theorem dX5_pegsOf_2 : decode cX5_pegsOf 2 = .ok (.iconst 0, 1) := by decide +kernel
theorem dX5_pegsOf_3 : decode cX5_pegsOf 3 = .ok (.istore 4, 2) := by decide +kernel
theorem dX5_pegsOf_5 : decode cX5_pegsOf 5 = .ok (.iload 4, 2) := by decide +kernel
theorem dX5_pegsOf_7 : decode cX5_pegsOf 7 = .ok (.sipush 400, 3) := by decide +kernel
theorem dX5_pegsOf_10 : decode cX5_pegsOf 10 = .ok (.if_icmp .ge 61, 3) := by decide +kernel
theorem dX5_pegsOf_13 : decode cX5_pegsOf 13 = .ok (.aload_n 0, 1) := by decide +kernel
theorem dX5_pegsOf_14 : decode cX5_pegsOf 14 = .ok (.getfield 38, 3) := by decide +kernel
theorem dX5_pegsOf_17 : decode cX5_pegsOf 17 = .ok (.iload 4, 2) := by decide +kernel
theorem dX5_pegsOf_19 : decode cX5_pegsOf 19 = .ok (.iaload, 1) := by decide +kernel
theorem dX5_pegsOf_20 : decode cX5_pegsOf 20 = .ok (.ifCond .eq 45, 3) := by decide +kernel
theorem dX5_pegsOf_23 : decode cX5_pegsOf 23 = .ok (.iload_n 1, 1) := by decide +kernel
theorem dX5_pegsOf_24 : decode cX5_pegsOf 24 = .ok (.iconst (-1), 1) := by decide +kernel
theorem dX5_pegsOf_25 : decode cX5_pegsOf 25 = .ok (.if_icmp .eq 19, 3) := by decide +kernel
theorem dX5_pegsOf_28 : decode cX5_pegsOf 28 = .ok (.aload_n 0, 1) := by decide +kernel
theorem dX5_pegsOf_29 : decode cX5_pegsOf 29 = .ok (.getfield 38, 3) := by decide +kernel
theorem dX5_pegsOf_32 : decode cX5_pegsOf 32 = .ok (.iload 4, 2) := by decide +kernel
theorem dX5_pegsOf_34 : decode cX5_pegsOf 34 = .ok (.iaload, 1) := by decide +kernel
theorem dX5_pegsOf_35 : decode cX5_pegsOf 35 = .ok (.iload_n 1, 1) := by decide +kernel
theorem dX5_pegsOf_36 : decode cX5_pegsOf 36 = .ok (.iconst 1, 1) := by decide +kernel
theorem dX5_pegsOf_37 : decode cX5_pegsOf 37 = .ok (.iadd, 1) := by decide +kernel
theorem dX5_pegsOf_38 : decode cX5_pegsOf 38 = .ok (.if_icmp .eq 6, 3) := by decide +kernel
theorem dX5_pegsOf_41 : decode cX5_pegsOf 41 = .ok (.goto 24, 3) := by decide +kernel
theorem dX5_pegsOf_44 : decode cX5_pegsOf 44 = .ok (.iload_n 3, 1) := by decide +kernel
theorem dX5_pegsOf_45 : decode cX5_pegsOf 45 = .ok (.iload_n 2, 1) := by decide +kernel
theorem dX5_pegsOf_46 : decode cX5_pegsOf 46 = .ok (.ifCond .eq 12, 3) := by decide +kernel
theorem dX5_pegsOf_49 : decode cX5_pegsOf 49 = .ok (.aload_n 0, 1) := by decide +kernel
theorem dX5_pegsOf_50 : decode cX5_pegsOf 50 = .ok (.iload 4, 2) := by decide +kernel
theorem dX5_pegsOf_52 : decode cX5_pegsOf 52 = .ok (.invokevirtual 142, 3) := by decide +kernel
theorem dX5_pegsOf_55 : decode cX5_pegsOf 55 = .ok (.ifCond .le 7, 3) := by decide +kernel
theorem dX5_pegsOf_58 : decode cX5_pegsOf 58 = .ok (.iconst 1, 1) := by decide +kernel
theorem dX5_pegsOf_59 : decode cX5_pegsOf 59 = .ok (.goto 4, 3) := by decide +kernel
theorem dX5_pegsOf_62 : decode cX5_pegsOf 62 = .ok (.iconst 0, 1) := by decide +kernel
theorem dX5_pegsOf_63 : decode cX5_pegsOf 63 = .ok (.iadd, 1) := by decide +kernel
theorem dX5_pegsOf_64 : decode cX5_pegsOf 64 = .ok (.istore_n 3, 1) := by decide +kernel
theorem dX5_pegsOf_65 : decode cX5_pegsOf 65 = .ok (.iinc 4 1, 3) := by decide +kernel
theorem dX5_pegsOf_68 : decode cX5_pegsOf 68 = .ok (.goto (-63), 3) := by decide +kernel
theorem dX5_pegsOf_71 : decode cX5_pegsOf 71 = .ok (.iload_n 3, 1) := by decide +kernel
theorem dX5_pegsOf_72 : decode cX5_pegsOf 72 = .ok (.ireturn, 1) := by decide +kernel
theorem dX5_inBets_0 : decode cX5_inBets 0 = .ok (.iconst 0, 1) := by decide +kernel
theorem dX5_inBets_1 : decode cX5_inBets 1 = .ok (.istore_n 2, 1) := by decide +kernel
theorem dX5_inBets_2 : decode cX5_inBets 2 = .ok (.iconst 0, 1) := by decide +kernel
theorem dX5_inBets_3 : decode cX5_inBets 3 = .ok (.istore_n 3, 1) := by decide +kernel
theorem dX5_inBets_4 : decode cX5_inBets 4 = .ok (.iload_n 3, 1) := by decide +kernel
theorem dX5_inBets_5 : decode cX5_inBets 5 = .ok (.aload_n 0, 1) := by decide +kernel
theorem dX5_inBets_6 : decode cX5_inBets 6 = .ok (.getfield 63, 3) := by decide +kernel
theorem dX5_inBets_9 : decode cX5_inBets 9 = .ok (.if_icmp .ge 37, 3) := by decide +kernel
theorem dX5_inBets_12 : decode cX5_inBets 12 = .ok (.iload_n 2, 1) := by decide +kernel
theorem dX5_inBets_13 : decode cX5_inBets 13 = .ok (.aload_n 0, 1) := by decide +kernel
theorem dX5_inBets_14 : decode cX5_inBets 14 = .ok (.iload_n 3, 1) := by decide +kernel
theorem dX5_inBets_15 : decode cX5_inBets 15 = .ok (.invokevirtual 132, 3) := by decide +kernel
theorem dX5_inBets_18 : decode cX5_inBets 18 = .ok (.ifCond .eq 7, 3) := by decide +kernel
theorem dX5_inBets_21 : decode cX5_inBets 21 = .ok (.iconst 0, 1) := by decide +kernel
theorem dX5_inBets_22 : decode cX5_inBets 22 = .ok (.goto 16, 3) := by decide +kernel
theorem dX5_inBets_25 : decode cX5_inBets 25 = .ok (.aload_n 0, 1) := by decide +kernel
theorem dX5_inBets_26 : decode cX5_inBets 26 = .ok (.getfield 50, 3) := by decide +kernel
theorem dX5_inBets_29 : decode cX5_inBets 29 = .ok (.iconst 5, 1) := by decide +kernel
theorem dX5_inBets_30 : decode cX5_inBets 30 = .ok (.iload_n 3, 1) := by decide +kernel
theorem dX5_inBets_31 : decode cX5_inBets 31 = .ok (.imul, 1) := by decide +kernel
theorem dX5_inBets_32 : decode cX5_inBets 32 = .ok (.iload_n 1, 1) := by decide +kernel
theorem dX5_inBets_33 : decode cX5_inBets 33 = .ok (.iadd, 1) := by decide +kernel
theorem dX5_inBets_34 : decode cX5_inBets 34 = .ok (.iaload, 1) := by decide +kernel
theorem dX5_inBets_35 : decode cX5_inBets 35 = .ok (.invokestatic 66, 3) := by decide +kernel
theorem dX5_inBets_38 : decode cX5_inBets 38 = .ok (.iadd, 1) := by decide +kernel
theorem dX5_inBets_39 : decode cX5_inBets 39 = .ok (.istore_n 2, 1) := by decide +kernel
theorem dX5_inBets_40 : decode cX5_inBets 40 = .ok (.iinc 3 1, 3) := by decide +kernel
theorem dX5_inBets_43 : decode cX5_inBets 43 = .ok (.goto (-39), 3) := by decide +kernel
theorem dX5_inBets_46 : decode cX5_inBets 46 = .ok (.iload_n 2, 1) := by decide +kernel
theorem dX5_inBets_47 : decode cX5_inBets 47 = .ok (.ireturn, 1) := by decide +kernel
theorem dX5_dowserTold_0 : decode cX5_dowserTold 0 = .ok (.iload_n 2, 1) := by decide +kernel
theorem dX5_dowserTold_1 : decode cX5_dowserTold 1 = .ok (.tableswitch 91 0 6 #[43, 50, 57, 64, 71, 78, 84], 43) := by decide +kernel
theorem dX5_dowserTold_44 : decode cX5_dowserTold 44 = .ok (.aload_n 0, 1) := by decide +kernel
theorem dX5_dowserTold_45 : decode cX5_dowserTold 45 = .ok (.getfield 23, 3) := by decide +kernel
theorem dX5_dowserTold_48 : decode cX5_dowserTold 48 = .ok (.iload_n 1, 1) := by decide +kernel
theorem dX5_dowserTold_49 : decode cX5_dowserTold 49 = .ok (.iaload, 1) := by decide +kernel
theorem dX5_dowserTold_50 : decode cX5_dowserTold 50 = .ok (.ireturn, 1) := by decide +kernel
theorem dX5_dowserTold_51 : decode cX5_dowserTold 51 = .ok (.aload_n 0, 1) := by decide +kernel
theorem dX5_dowserTold_52 : decode cX5_dowserTold 52 = .ok (.getfield 26, 3) := by decide +kernel
theorem dX5_dowserTold_55 : decode cX5_dowserTold 55 = .ok (.iload_n 1, 1) := by decide +kernel
theorem dX5_dowserTold_56 : decode cX5_dowserTold 56 = .ok (.iaload, 1) := by decide +kernel
theorem dX5_dowserTold_57 : decode cX5_dowserTold 57 = .ok (.ireturn, 1) := by decide +kernel
theorem dX5_dowserTold_58 : decode cX5_dowserTold 58 = .ok (.aload_n 0, 1) := by decide +kernel
theorem dX5_dowserTold_59 : decode cX5_dowserTold 59 = .ok (.getfield 29, 3) := by decide +kernel
theorem dX5_dowserTold_62 : decode cX5_dowserTold 62 = .ok (.iload_n 1, 1) := by decide +kernel
theorem dX5_dowserTold_63 : decode cX5_dowserTold 63 = .ok (.iaload, 1) := by decide +kernel
theorem dX5_dowserTold_64 : decode cX5_dowserTold 64 = .ok (.ireturn, 1) := by decide +kernel
theorem dX5_dowserTold_65 : decode cX5_dowserTold 65 = .ok (.aload_n 0, 1) := by decide +kernel
theorem dX5_dowserTold_66 : decode cX5_dowserTold 66 = .ok (.iload_n 1, 1) := by decide +kernel
theorem dX5_dowserTold_67 : decode cX5_dowserTold 67 = .ok (.iconst 0, 1) := by decide +kernel
theorem dX5_dowserTold_68 : decode cX5_dowserTold 68 = .ok (.invokevirtual 154, 3) := by decide +kernel
theorem dX5_dowserTold_71 : decode cX5_dowserTold 71 = .ok (.ireturn, 1) := by decide +kernel
theorem dX5_dowserTold_72 : decode cX5_dowserTold 72 = .ok (.aload_n 0, 1) := by decide +kernel
theorem dX5_dowserTold_73 : decode cX5_dowserTold 73 = .ok (.iload_n 1, 1) := by decide +kernel
theorem dX5_dowserTold_74 : decode cX5_dowserTold 74 = .ok (.iconst 1, 1) := by decide +kernel
theorem dX5_dowserTold_75 : decode cX5_dowserTold 75 = .ok (.invokevirtual 154, 3) := by decide +kernel
theorem dX5_dowserTold_78 : decode cX5_dowserTold 78 = .ok (.ireturn, 1) := by decide +kernel
theorem dX5_dowserTold_79 : decode cX5_dowserTold 79 = .ok (.aload_n 0, 1) := by decide +kernel
theorem dX5_dowserTold_80 : decode cX5_dowserTold 80 = .ok (.iload_n 1, 1) := by decide +kernel
theorem dX5_dowserTold_81 : decode cX5_dowserTold 81 = .ok (.invokevirtual 157, 3) := by decide +kernel
theorem dX5_dowserTold_84 : decode cX5_dowserTold 84 = .ok (.ireturn, 1) := by decide +kernel
theorem dX5_dowserTold_85 : decode cX5_dowserTold 85 = .ok (.aload_n 0, 1) := by decide +kernel
theorem dX5_dowserTold_86 : decode cX5_dowserTold 86 = .ok (.getfield 32, 3) := by decide +kernel
theorem dX5_dowserTold_89 : decode cX5_dowserTold 89 = .ok (.iload_n 1, 1) := by decide +kernel
theorem dX5_dowserTold_90 : decode cX5_dowserTold 90 = .ok (.iaload, 1) := by decide +kernel
theorem dX5_dowserTold_91 : decode cX5_dowserTold 91 = .ok (.ireturn, 1) := by decide +kernel
theorem dX5_dowserTold_92 : decode cX5_dowserTold 92 = .ok (.aload_n 0, 1) := by decide +kernel
theorem dX5_dowserTold_93 : decode cX5_dowserTold 93 = .ok (.getfield 35, 3) := by decide +kernel
theorem dX5_dowserTold_96 : decode cX5_dowserTold 96 = .ok (.iload_n 1, 1) := by decide +kernel
theorem dX5_dowserTold_97 : decode cX5_dowserTold 97 = .ok (.iaload, 1) := by decide +kernel
theorem dX5_dowserTold_98 : decode cX5_dowserTold 98 = .ok (.ireturn, 1) := by decide +kernel
theorem dX5_told_0 : decode cX5_told 0 = .ok (.aload_n 0, 1) := by decide +kernel
theorem dX5_told_1 : decode cX5_told 1 = .ok (.iconst 0, 1) := by decide +kernel
theorem dX5_told_2 : decode cX5_told 2 = .ok (.putfield 53, 3) := by decide +kernel
theorem dX5_told_5 : decode cX5_told 5 = .ok (.aload_n 0, 1) := by decide +kernel
theorem dX5_told_6 : decode cX5_told 6 = .ok (.iload_n 1, 1) := by decide +kernel
theorem dX5_told_7 : decode cX5_told 7 = .ok (.invokevirtual 102, 3) := by decide +kernel
theorem dX5_told_10 : decode cX5_told 10 = .ok (.ifCond .eq 22, 3) := by decide +kernel
theorem dX5_told_13 : decode cX5_told 13 = .ok (.iload_n 2, 1) := by decide +kernel
theorem dX5_told_14 : decode cX5_told 14 = .ok (.iconst 0, 1) := by decide +kernel
theorem dX5_told_15 : decode cX5_told 15 = .ok (.bipush 7, 2) := by decide +kernel
theorem dX5_told_17 : decode cX5_told 17 = .ok (.invokestatic 56, 3) := by decide +kernel
theorem dX5_told_20 : decode cX5_told 20 = .ok (.ifCond .eq 12, 3) := by decide +kernel
theorem dX5_told_23 : decode cX5_told 23 = .ok (.aload_n 0, 1) := by decide +kernel
theorem dX5_told_24 : decode cX5_told 24 = .ok (.iload_n 1, 1) := by decide +kernel
theorem dX5_told_25 : decode cX5_told 25 = .ok (.iload_n 2, 1) := by decide +kernel
theorem dX5_told_26 : decode cX5_told 26 = .ok (.invokevirtual 160, 3) := by decide +kernel
theorem dX5_told_29 : decode cX5_told 29 = .ok (.goto 8, 3) := by decide +kernel
theorem dX5_told_32 : decode cX5_told 32 = .ok (.aload_n 0, 1) := by decide +kernel
theorem dX5_told_33 : decode cX5_told 33 = .ok (.iconst 1, 1) := by decide +kernel
theorem dX5_told_34 : decode cX5_told 34 = .ok (.invokevirtual 89, 3) := by decide +kernel
theorem dX5_told_37 : decode cX5_told 37 = .ok (.ireturn, 1) := by decide +kernel
theorem dX5_pitTold_0 : decode cX5_pitTold 0 = .ok (.iload_n 2, 1) := by decide +kernel
theorem dX5_pitTold_1 : decode cX5_pitTold 1 = .ok (.tableswitch 90 0 4 #[35, 45, 55, 62, 76], 35) := by decide +kernel
theorem dX5_pitTold_36 : decode cX5_pitTold 36 = .ok (.aload_n 0, 1) := by decide +kernel
theorem dX5_pitTold_37 : decode cX5_pitTold 37 = .ok (.getfield 41, 3) := by decide +kernel
theorem dX5_pitTold_40 : decode cX5_pitTold 40 = .ok (.iload_n 1, 1) := by decide +kernel
theorem dX5_pitTold_41 : decode cX5_pitTold 41 = .ok (.iaload, 1) := by decide +kernel
theorem dX5_pitTold_42 : decode cX5_pitTold 42 = .ok (.bipush 20, 2) := by decide +kernel
theorem dX5_pitTold_44 : decode cX5_pitTold 44 = .ok (.irem, 1) := by decide +kernel
theorem dX5_pitTold_45 : decode cX5_pitTold 45 = .ok (.ireturn, 1) := by decide +kernel
theorem dX5_pitTold_46 : decode cX5_pitTold 46 = .ok (.aload_n 0, 1) := by decide +kernel
theorem dX5_pitTold_47 : decode cX5_pitTold 47 = .ok (.getfield 41, 3) := by decide +kernel
theorem dX5_pitTold_50 : decode cX5_pitTold 50 = .ok (.iload_n 1, 1) := by decide +kernel
theorem dX5_pitTold_51 : decode cX5_pitTold 51 = .ok (.iaload, 1) := by decide +kernel
theorem dX5_pitTold_52 : decode cX5_pitTold 52 = .ok (.bipush 20, 2) := by decide +kernel
theorem dX5_pitTold_54 : decode cX5_pitTold 54 = .ok (.idiv, 1) := by decide +kernel
theorem dX5_pitTold_55 : decode cX5_pitTold 55 = .ok (.ireturn, 1) := by decide +kernel
theorem dX5_pitTold_56 : decode cX5_pitTold 56 = .ok (.aload_n 0, 1) := by decide +kernel
theorem dX5_pitTold_57 : decode cX5_pitTold 57 = .ok (.getfield 47, 3) := by decide +kernel
theorem dX5_pitTold_60 : decode cX5_pitTold 60 = .ok (.iload_n 1, 1) := by decide +kernel
theorem dX5_pitTold_61 : decode cX5_pitTold 61 = .ok (.iaload, 1) := by decide +kernel
theorem dX5_pitTold_62 : decode cX5_pitTold 62 = .ok (.ireturn, 1) := by decide +kernel
theorem dX5_pitTold_63 : decode cX5_pitTold 63 = .ok (.aload_n 0, 1) := by decide +kernel
theorem dX5_pitTold_64 : decode cX5_pitTold 64 = .ok (.iload_n 1, 1) := by decide +kernel
theorem dX5_pitTold_65 : decode cX5_pitTold 65 = .ok (.invokevirtual 115, 3) := by decide +kernel
theorem dX5_pitTold_68 : decode cX5_pitTold 68 = .ok (.ifCond .eq 7, 3) := by decide +kernel
theorem dX5_pitTold_71 : decode cX5_pitTold 71 = .ok (.iconst 1, 1) := by decide +kernel
theorem dX5_pitTold_72 : decode cX5_pitTold 72 = .ok (.goto 4, 3) := by decide +kernel
theorem dX5_pitTold_75 : decode cX5_pitTold 75 = .ok (.iconst 0, 1) := by decide +kernel
theorem dX5_pitTold_76 : decode cX5_pitTold 76 = .ok (.ireturn, 1) := by decide +kernel
theorem dX5_pitTold_77 : decode cX5_pitTold 77 = .ok (.aload_n 0, 1) := by decide +kernel
theorem dX5_pitTold_78 : decode cX5_pitTold 78 = .ok (.iload_n 1, 1) := by decide +kernel
theorem dX5_pitTold_79 : decode cX5_pitTold 79 = .ok (.invokevirtual 132, 3) := by decide +kernel
theorem dX5_pitTold_82 : decode cX5_pitTold 82 = .ok (.ifCond .eq 7, 3) := by decide +kernel
theorem dX5_pitTold_85 : decode cX5_pitTold 85 = .ok (.iconst 1, 1) := by decide +kernel
theorem dX5_pitTold_86 : decode cX5_pitTold 86 = .ok (.goto 4, 3) := by decide +kernel
theorem dX5_pitTold_89 : decode cX5_pitTold 89 = .ok (.iconst 0, 1) := by decide +kernel
theorem dX5_pitTold_90 : decode cX5_pitTold 90 = .ok (.ireturn, 1) := by decide +kernel
theorem dX5_pitTold_91 : decode cX5_pitTold 91 = .ok (.aload_n 0, 1) := by decide +kernel
theorem dX5_pitTold_92 : decode cX5_pitTold 92 = .ok (.iload_n 1, 1) := by decide +kernel
theorem dX5_pitTold_93 : decode cX5_pitTold 93 = .ok (.iload_n 2, 1) := by decide +kernel
theorem dX5_pitTold_94 : decode cX5_pitTold 94 = .ok (.iconst 5, 1) := by decide +kernel
theorem dX5_pitTold_95 : decode cX5_pitTold 95 = .ok (.if_icmp .ne 7, 3) := by decide +kernel
theorem dX5_pitTold_98 : decode cX5_pitTold 98 = .ok (.iconst 1, 1) := by decide +kernel
theorem dX5_pitTold_99 : decode cX5_pitTold 99 = .ok (.goto 4, 3) := by decide +kernel
theorem dX5_pitTold_102 : decode cX5_pitTold 102 = .ok (.iconst 0, 1) := by decide +kernel
theorem dX5_pitTold_103 : decode cX5_pitTold 103 = .ok (.invokevirtual 121, 3) := by decide +kernel
theorem dX5_pitTold_106 : decode cX5_pitTold 106 = .ok (.ireturn, 1) := by decide +kernel
theorem dX5_about_0 : decode cX5_about 0 = .ok (.aload_n 0, 1) := by decide +kernel
theorem dX5_about_1 : decode cX5_about 1 = .ok (.iconst 0, 1) := by decide +kernel
theorem dX5_about_2 : decode cX5_about 2 = .ok (.putfield 53, 3) := by decide +kernel
theorem dX5_about_5 : decode cX5_about 5 = .ok (.aload_n 0, 1) := by decide +kernel
theorem dX5_about_6 : decode cX5_about 6 = .ok (.iload_n 1, 1) := by decide +kernel
theorem dX5_about_7 : decode cX5_about 7 = .ok (.invokevirtual 118, 3) := by decide +kernel
theorem dX5_about_10 : decode cX5_about 10 = .ok (.ifCond .eq 22, 3) := by decide +kernel
theorem dX5_about_13 : decode cX5_about 13 = .ok (.iload_n 2, 1) := by decide +kernel
theorem dX5_about_14 : decode cX5_about 14 = .ok (.iconst 0, 1) := by decide +kernel
theorem dX5_about_15 : decode cX5_about 15 = .ok (.bipush 6, 2) := by decide +kernel
theorem dX5_about_17 : decode cX5_about 17 = .ok (.invokestatic 56, 3) := by decide +kernel
theorem dX5_about_20 : decode cX5_about 20 = .ok (.ifCond .eq 12, 3) := by decide +kernel
theorem dX5_about_23 : decode cX5_about 23 = .ok (.aload_n 0, 1) := by decide +kernel
theorem dX5_about_24 : decode cX5_about 24 = .ok (.iload_n 1, 1) := by decide +kernel
theorem dX5_about_25 : decode cX5_about 25 = .ok (.iload_n 2, 1) := by decide +kernel
theorem dX5_about_26 : decode cX5_about 26 = .ok (.invokevirtual 163, 3) := by decide +kernel
theorem dX5_about_29 : decode cX5_about 29 = .ok (.goto 8, 3) := by decide +kernel
theorem dX5_about_32 : decode cX5_about 32 = .ok (.aload_n 0, 1) := by decide +kernel
theorem dX5_about_33 : decode cX5_about 33 = .ok (.iconst 1, 1) := by decide +kernel
theorem dX5_about_34 : decode cX5_about 34 = .ok (.invokevirtual 89, 3) := by decide +kernel
theorem dX5_about_37 : decode cX5_about 37 = .ok (.ireturn, 1) := by decide +kernel
theorem dX5_counted_0 : decode cX5_counted 0 = .ok (.iconst 0, 1) := by decide +kernel
theorem dX5_counted_1 : decode cX5_counted 1 = .ok (.istore_n 2, 1) := by decide +kernel
theorem dX5_counted_2 : decode cX5_counted 2 = .ok (.iload_n 1, 1) := by decide +kernel
theorem dX5_counted_3 : decode cX5_counted 3 = .ok (.tableswitch 115 0 7 #[45, 50, 55, 60, 65, 70, 103, 110], 45) := by decide +kernel
theorem dX5_counted_48 : decode cX5_counted 48 = .ok (.aload_n 0, 1) := by decide +kernel
theorem dX5_counted_49 : decode cX5_counted 49 = .ok (.getfield 72, 3) := by decide +kernel
theorem dX5_counted_52 : decode cX5_counted 52 = .ok (.ireturn, 1) := by decide +kernel
theorem dX5_counted_53 : decode cX5_counted 53 = .ok (.aload_n 0, 1) := by decide +kernel
theorem dX5_counted_54 : decode cX5_counted 54 = .ok (.getfield 60, 3) := by decide +kernel
theorem dX5_counted_57 : decode cX5_counted 57 = .ok (.ireturn, 1) := by decide +kernel
theorem dX5_counted_58 : decode cX5_counted 58 = .ok (.aload_n 0, 1) := by decide +kernel
theorem dX5_counted_59 : decode cX5_counted 59 = .ok (.getfield 96, 3) := by decide +kernel
theorem dX5_counted_62 : decode cX5_counted 62 = .ok (.ireturn, 1) := by decide +kernel
theorem dX5_counted_63 : decode cX5_counted 63 = .ok (.aload_n 0, 1) := by decide +kernel
theorem dX5_counted_64 : decode cX5_counted 64 = .ok (.getfield 63, 3) := by decide +kernel
theorem dX5_counted_67 : decode cX5_counted 67 = .ok (.ireturn, 1) := by decide +kernel
theorem dX5_counted_68 : decode cX5_counted 68 = .ok (.aload_n 0, 1) := by decide +kernel
theorem dX5_counted_69 : decode cX5_counted 69 = .ok (.getfield 9, 3) := by decide +kernel
theorem dX5_counted_72 : decode cX5_counted 72 = .ok (.ireturn, 1) := by decide +kernel
theorem dX5_counted_73 : decode cX5_counted 73 = .ok (.iconst 0, 1) := by decide +kernel
theorem dX5_counted_74 : decode cX5_counted 74 = .ok (.istore_n 3, 1) := by decide +kernel
theorem dX5_counted_75 : decode cX5_counted 75 = .ok (.iload_n 3, 1) := by decide +kernel
theorem dX5_counted_76 : decode cX5_counted 76 = .ok (.sipush 400, 3) := by decide +kernel
theorem dX5_counted_79 : decode cX5_counted 79 = .ok (.if_icmp .ge 25, 3) := by decide +kernel
theorem dX5_counted_82 : decode cX5_counted 82 = .ok (.iload_n 2, 1) := by decide +kernel
theorem dX5_counted_83 : decode cX5_counted 83 = .ok (.aload_n 0, 1) := by decide +kernel
theorem dX5_counted_84 : decode cX5_counted 84 = .ok (.iload_n 3, 1) := by decide +kernel
theorem dX5_counted_85 : decode cX5_counted 85 = .ok (.invokevirtual 142, 3) := by decide +kernel
theorem dX5_counted_88 : decode cX5_counted 88 = .ok (.ifCond .le 7, 3) := by decide +kernel
theorem dX5_counted_91 : decode cX5_counted 91 = .ok (.iconst 1, 1) := by decide +kernel
theorem dX5_counted_92 : decode cX5_counted 92 = .ok (.goto 4, 3) := by decide +kernel
theorem dX5_counted_95 : decode cX5_counted 95 = .ok (.iconst 0, 1) := by decide +kernel
theorem dX5_counted_96 : decode cX5_counted 96 = .ok (.iadd, 1) := by decide +kernel
theorem dX5_counted_97 : decode cX5_counted 97 = .ok (.istore_n 2, 1) := by decide +kernel
theorem dX5_counted_98 : decode cX5_counted 98 = .ok (.iinc 3 1, 3) := by decide +kernel
theorem dX5_counted_101 : decode cX5_counted 101 = .ok (.goto (-26), 3) := by decide +kernel
theorem dX5_counted_104 : decode cX5_counted 104 = .ok (.iload_n 2, 1) := by decide +kernel
theorem dX5_counted_105 : decode cX5_counted 105 = .ok (.ireturn, 1) := by decide +kernel
theorem dX5_counted_106 : decode cX5_counted 106 = .ok (.aload_n 0, 1) := by decide +kernel
theorem dX5_counted_107 : decode cX5_counted 107 = .ok (.iconst (-1), 1) := by decide +kernel
theorem dX5_counted_108 : decode cX5_counted 108 = .ok (.iconst 1, 1) := by decide +kernel
theorem dX5_counted_109 : decode cX5_counted 109 = .ok (.invokevirtual 154, 3) := by decide +kernel
theorem dX5_counted_112 : decode cX5_counted 112 = .ok (.ireturn, 1) := by decide +kernel
theorem dX5_counted_113 : decode cX5_counted 113 = .ok (.aload_n 0, 1) := by decide +kernel
theorem dX5_counted_114 : decode cX5_counted 114 = .ok (.getfield 129, 3) := by decide +kernel
theorem dX5_counted_117 : decode cX5_counted 117 = .ok (.ireturn, 1) := by decide +kernel
theorem dX5_counted_118 : decode cX5_counted 118 = .ok (.iconst 0, 1) := by decide +kernel
theorem dX5_counted_119 : decode cX5_counted 119 = .ok (.istore_n 3, 1) := by decide +kernel
theorem dX5_counted_120 : decode cX5_counted 120 = .ok (.iload_n 3, 1) := by decide +kernel
theorem dX5_counted_121 : decode cX5_counted 121 = .ok (.aload_n 0, 1) := by decide +kernel
theorem dX5_counted_122 : decode cX5_counted 122 = .ok (.getfield 60, 3) := by decide +kernel
theorem dX5_counted_125 : decode cX5_counted 125 = .ok (.if_icmp .ge 18, 3) := by decide +kernel
theorem dX5_counted_128 : decode cX5_counted 128 = .ok (.iload_n 2, 1) := by decide +kernel
theorem dX5_counted_129 : decode cX5_counted 129 = .ok (.aload_n 0, 1) := by decide +kernel
theorem dX5_counted_130 : decode cX5_counted 130 = .ok (.getfield 29, 3) := by decide +kernel
theorem dX5_counted_133 : decode cX5_counted 133 = .ok (.iload_n 3, 1) := by decide +kernel
theorem dX5_counted_134 : decode cX5_counted 134 = .ok (.iaload, 1) := by decide +kernel
theorem dX5_counted_135 : decode cX5_counted 135 = .ok (.iadd, 1) := by decide +kernel
theorem dX5_counted_136 : decode cX5_counted 136 = .ok (.istore_n 2, 1) := by decide +kernel
theorem dX5_counted_137 : decode cX5_counted 137 = .ok (.iinc 3 1, 3) := by decide +kernel
theorem dX5_counted_140 : decode cX5_counted 140 = .ok (.goto (-20), 3) := by decide +kernel
theorem dX5_counted_143 : decode cX5_counted 143 = .ok (.iload_n 2, 1) := by decide +kernel
theorem dX5_counted_144 : decode cX5_counted 144 = .ok (.ireturn, 1) := by decide +kernel
theorem dX5_count_0 : decode cX5_count 0 = .ok (.aload_n 0, 1) := by decide +kernel
theorem dX5_count_1 : decode cX5_count 1 = .ok (.iconst 0, 1) := by decide +kernel
theorem dX5_count_2 : decode cX5_count 2 = .ok (.putfield 53, 3) := by decide +kernel
theorem dX5_count_5 : decode cX5_count 5 = .ok (.iload_n 1, 1) := by decide +kernel
theorem dX5_count_6 : decode cX5_count 6 = .ok (.iconst 0, 1) := by decide +kernel
theorem dX5_count_7 : decode cX5_count 7 = .ok (.bipush 8, 2) := by decide +kernel
theorem dX5_count_9 : decode cX5_count 9 = .ok (.invokestatic 56, 3) := by decide +kernel
theorem dX5_count_12 : decode cX5_count 12 = .ok (.ifCond .eq 11, 3) := by decide +kernel
theorem dX5_count_15 : decode cX5_count 15 = .ok (.aload_n 0, 1) := by decide +kernel
theorem dX5_count_16 : decode cX5_count 16 = .ok (.iload_n 1, 1) := by decide +kernel
theorem dX5_count_17 : decode cX5_count 17 = .ok (.invokevirtual 166, 3) := by decide +kernel
theorem dX5_count_20 : decode cX5_count 20 = .ok (.goto 8, 3) := by decide +kernel
theorem dX5_count_23 : decode cX5_count 23 = .ok (.aload_n 0, 1) := by decide +kernel
theorem dX5_count_24 : decode cX5_count 24 = .ok (.iconst 1, 1) := by decide +kernel
theorem dX5_count_25 : decode cX5_count 25 = .ok (.invokevirtual 89, 3) := by decide +kernel
theorem dX5_count_28 : decode cX5_count 28 = .ok (.ireturn, 1) := by decide +kernel
theorem dX5_on_0 : decode cX5_on 0 = .ok (.iconst 0, 1) := by decide +kernel
theorem dX5_on_1 : decode cX5_on 1 = .ok (.istore_n 3, 1) := by decide +kernel
theorem dX5_on_2 : decode cX5_on 2 = .ok (.iconst 0, 1) := by decide +kernel
theorem dX5_on_3 : decode cX5_on 3 = .ok (.istore 4, 2) := by decide +kernel
theorem dX5_on_5 : decode cX5_on 5 = .ok (.iload 4, 2) := by decide +kernel
theorem dX5_on_7 : decode cX5_on 7 = .ok (.sipush 400, 3) := by decide +kernel
theorem dX5_on_10 : decode cX5_on 10 = .ok (.if_icmp .ge 86, 3) := by decide +kernel
theorem dX5_on_13 : decode cX5_on 13 = .ok (.iload 4, 2) := by decide +kernel
theorem dX5_on_15 : decode cX5_on 15 = .ok (.bipush 20, 2) := by decide +kernel
theorem dX5_on_17 : decode cX5_on 17 = .ok (.irem, 1) := by decide +kernel
theorem dX5_on_18 : decode cX5_on 18 = .ok (.istore 5, 2) := by decide +kernel
theorem dX5_on_20 : decode cX5_on 20 = .ok (.iload 4, 2) := by decide +kernel
theorem dX5_on_22 : decode cX5_on 22 = .ok (.bipush 20, 2) := by decide +kernel
theorem dX5_on_24 : decode cX5_on 24 = .ok (.idiv, 1) := by decide +kernel
theorem dX5_on_25 : decode cX5_on 25 = .ok (.istore 6, 2) := by decide +kernel
theorem dX5_on_27 : decode cX5_on 27 = .ok (.iload_n 1, 1) := by decide +kernel
theorem dX5_on_28 : decode cX5_on 28 = .ok (.ifCond .ne 8, 3) := by decide +kernel
theorem dX5_on_31 : decode cX5_on 31 = .ok (.iload 6, 2) := by decide +kernel
theorem dX5_on_33 : decode cX5_on 33 = .ok (.goto 31, 3) := by decide +kernel
theorem dX5_on_36 : decode cX5_on 36 = .ok (.iload_n 1, 1) := by decide +kernel
theorem dX5_on_37 : decode cX5_on 37 = .ok (.iconst 1, 1) := by decide +kernel
theorem dX5_on_38 : decode cX5_on 38 = .ok (.if_icmp .ne 8, 3) := by decide +kernel
theorem dX5_on_41 : decode cX5_on 41 = .ok (.iload 5, 2) := by decide +kernel
theorem dX5_on_43 : decode cX5_on 43 = .ok (.goto 21, 3) := by decide +kernel
theorem dX5_on_46 : decode cX5_on 46 = .ok (.iload_n 1, 1) := by decide +kernel
theorem dX5_on_47 : decode cX5_on 47 = .ok (.iconst 2, 1) := by decide +kernel
theorem dX5_on_48 : decode cX5_on 48 = .ok (.if_icmp .ne 11, 3) := by decide +kernel
theorem dX5_on_51 : decode cX5_on 51 = .ok (.iload 5, 2) := by decide +kernel
theorem dX5_on_53 : decode cX5_on 53 = .ok (.iload 6, 2) := by decide +kernel
theorem dX5_on_55 : decode cX5_on 55 = .ok (.isub, 1) := by decide +kernel
theorem dX5_on_56 : decode cX5_on 56 = .ok (.goto 8, 3) := by decide +kernel
theorem dX5_on_59 : decode cX5_on 59 = .ok (.iload 5, 2) := by decide +kernel
theorem dX5_on_61 : decode cX5_on 61 = .ok (.iload 6, 2) := by decide +kernel
theorem dX5_on_63 : decode cX5_on 63 = .ok (.iadd, 1) := by decide +kernel
theorem dX5_on_64 : decode cX5_on 64 = .ok (.istore 7, 2) := by decide +kernel
theorem dX5_on_66 : decode cX5_on 66 = .ok (.iload_n 3, 1) := by decide +kernel
theorem dX5_on_67 : decode cX5_on 67 = .ok (.aload_n 0, 1) := by decide +kernel
theorem dX5_on_68 : decode cX5_on 68 = .ok (.getfield 38, 3) := by decide +kernel
theorem dX5_on_71 : decode cX5_on 71 = .ok (.iload 4, 2) := by decide +kernel
theorem dX5_on_73 : decode cX5_on 73 = .ok (.iaload, 1) := by decide +kernel
theorem dX5_on_74 : decode cX5_on 74 = .ok (.ifCond .le 13, 3) := by decide +kernel
theorem dX5_on_77 : decode cX5_on 77 = .ok (.iload 7, 2) := by decide +kernel
theorem dX5_on_79 : decode cX5_on 79 = .ok (.iload_n 2, 1) := by decide +kernel
theorem dX5_on_80 : decode cX5_on 80 = .ok (.if_icmp .ne 7, 3) := by decide +kernel
theorem dX5_on_83 : decode cX5_on 83 = .ok (.iconst 1, 1) := by decide +kernel
theorem dX5_on_84 : decode cX5_on 84 = .ok (.goto 4, 3) := by decide +kernel
theorem dX5_on_87 : decode cX5_on 87 = .ok (.iconst 0, 1) := by decide +kernel
theorem dX5_on_88 : decode cX5_on 88 = .ok (.iadd, 1) := by decide +kernel
theorem dX5_on_89 : decode cX5_on 89 = .ok (.istore_n 3, 1) := by decide +kernel
theorem dX5_on_90 : decode cX5_on 90 = .ok (.iinc 4 1, 3) := by decide +kernel
theorem dX5_on_93 : decode cX5_on 93 = .ok (.goto (-88), 3) := by decide +kernel
theorem dX5_on_96 : decode cX5_on 96 = .ok (.iload_n 3, 1) := by decide +kernel
theorem dX5_on_97 : decode cX5_on 97 = .ok (.ireturn, 1) := by decide +kernel
theorem dX5_lineTold_0 : decode cX5_lineTold 0 = .ok (.iconst 0, 1) := by decide +kernel
theorem dX5_lineTold_1 : decode cX5_lineTold 1 = .ok (.istore_n 2, 1) := by decide +kernel
theorem dX5_lineTold_2 : decode cX5_lineTold 2 = .ok (.iconst (-1), 1) := by decide +kernel
theorem dX5_lineTold_3 : decode cX5_lineTold 3 = .ok (.istore_n 3, 1) := by decide +kernel
theorem dX5_lineTold_4 : decode cX5_lineTold 4 = .ok (.iconst (-1), 1) := by decide +kernel
theorem dX5_lineTold_5 : decode cX5_lineTold 5 = .ok (.istore 4, 2) := by decide +kernel
theorem dX5_lineTold_7 : decode cX5_lineTold 7 = .ok (.iconst 0, 1) := by decide +kernel
theorem dX5_lineTold_8 : decode cX5_lineTold 8 = .ok (.istore 5, 2) := by decide +kernel
theorem dX5_lineTold_10 : decode cX5_lineTold 10 = .ok (.iload 5, 2) := by decide +kernel
theorem dX5_lineTold_12 : decode cX5_lineTold 12 = .ok (.iconst 4, 1) := by decide +kernel
theorem dX5_lineTold_13 : decode cX5_lineTold 13 = .ok (.if_icmp .ge 55, 3) := by decide +kernel
theorem dX5_lineTold_16 : decode cX5_lineTold 16 = .ok (.bipush (-19), 2) := by decide +kernel
theorem dX5_lineTold_18 : decode cX5_lineTold 18 = .ok (.istore 6, 2) := by decide +kernel
theorem dX5_lineTold_20 : decode cX5_lineTold 20 = .ok (.iload 6, 2) := by decide +kernel
theorem dX5_lineTold_22 : decode cX5_lineTold 22 = .ok (.bipush 40, 2) := by decide +kernel
theorem dX5_lineTold_24 : decode cX5_lineTold 24 = .ok (.if_icmp .ge 38, 3) := by decide +kernel
theorem dX5_lineTold_27 : decode cX5_lineTold 27 = .ok (.aload_n 0, 1) := by decide +kernel
theorem dX5_lineTold_28 : decode cX5_lineTold 28 = .ok (.iload 5, 2) := by decide +kernel
theorem dX5_lineTold_30 : decode cX5_lineTold 30 = .ok (.iload 6, 2) := by decide +kernel
theorem dX5_lineTold_32 : decode cX5_lineTold 32 = .ok (.invokevirtual 169, 3) := by decide +kernel
theorem dX5_lineTold_35 : decode cX5_lineTold 35 = .ok (.istore 7, 2) := by decide +kernel
theorem dX5_lineTold_37 : decode cX5_lineTold 37 = .ok (.iload 7, 2) := by decide +kernel
theorem dX5_lineTold_39 : decode cX5_lineTold 39 = .ok (.iload_n 2, 1) := by decide +kernel
theorem dX5_lineTold_40 : decode cX5_lineTold 40 = .ok (.if_icmp .gt 6, 3) := by decide +kernel
theorem dX5_lineTold_43 : decode cX5_lineTold 43 = .ok (.goto 13, 3) := by decide +kernel
theorem dX5_lineTold_46 : decode cX5_lineTold 46 = .ok (.iload 7, 2) := by decide +kernel
theorem dX5_lineTold_48 : decode cX5_lineTold 48 = .ok (.istore_n 2, 1) := by decide +kernel
theorem dX5_lineTold_49 : decode cX5_lineTold 49 = .ok (.iload 5, 2) := by decide +kernel
theorem dX5_lineTold_51 : decode cX5_lineTold 51 = .ok (.istore_n 3, 1) := by decide +kernel
theorem dX5_lineTold_52 : decode cX5_lineTold 52 = .ok (.iload 6, 2) := by decide +kernel
theorem dX5_lineTold_54 : decode cX5_lineTold 54 = .ok (.istore 4, 2) := by decide +kernel
theorem dX5_lineTold_56 : decode cX5_lineTold 56 = .ok (.iinc 6 1, 3) := by decide +kernel
theorem dX5_lineTold_59 : decode cX5_lineTold 59 = .ok (.goto (-39), 3) := by decide +kernel
theorem dX5_lineTold_62 : decode cX5_lineTold 62 = .ok (.iinc 5 1, 3) := by decide +kernel
theorem dX5_lineTold_65 : decode cX5_lineTold 65 = .ok (.goto (-55), 3) := by decide +kernel
theorem dX5_lineTold_68 : decode cX5_lineTold 68 = .ok (.iload_n 1, 1) := by decide +kernel
theorem dX5_lineTold_69 : decode cX5_lineTold 69 = .ok (.ifCond .ne 7, 3) := by decide +kernel
theorem dX5_lineTold_72 : decode cX5_lineTold 72 = .ok (.iload_n 2, 1) := by decide +kernel
theorem dX5_lineTold_73 : decode cX5_lineTold 73 = .ok (.goto 14, 3) := by decide +kernel
theorem dX5_lineTold_76 : decode cX5_lineTold 76 = .ok (.iload_n 1, 1) := by decide +kernel
theorem dX5_lineTold_77 : decode cX5_lineTold 77 = .ok (.iconst 1, 1) := by decide +kernel
theorem dX5_lineTold_78 : decode cX5_lineTold 78 = .ok (.if_icmp .ne 7, 3) := by decide +kernel
theorem dX5_lineTold_81 : decode cX5_lineTold 81 = .ok (.iload_n 3, 1) := by decide +kernel
theorem dX5_lineTold_82 : decode cX5_lineTold 82 = .ok (.goto 5, 3) := by decide +kernel
theorem dX5_lineTold_85 : decode cX5_lineTold 85 = .ok (.iload 4, 2) := by decide +kernel
theorem dX5_lineTold_87 : decode cX5_lineTold 87 = .ok (.ireturn, 1) := by decide +kernel
theorem dX5_line_0 : decode cX5_line 0 = .ok (.aload_n 0, 1) := by decide +kernel
theorem dX5_line_1 : decode cX5_line 1 = .ok (.iconst 0, 1) := by decide +kernel
theorem dX5_line_2 : decode cX5_line 2 = .ok (.putfield 53, 3) := by decide +kernel
theorem dX5_line_5 : decode cX5_line 5 = .ok (.iload_n 1, 1) := by decide +kernel
theorem dX5_line_6 : decode cX5_line 6 = .ok (.iconst 0, 1) := by decide +kernel
theorem dX5_line_7 : decode cX5_line 7 = .ok (.iconst 2, 1) := by decide +kernel
theorem dX5_line_8 : decode cX5_line 8 = .ok (.invokestatic 56, 3) := by decide +kernel
theorem dX5_line_11 : decode cX5_line 11 = .ok (.ifCond .eq 11, 3) := by decide +kernel
theorem dX5_line_14 : decode cX5_line 14 = .ok (.aload_n 0, 1) := by decide +kernel
theorem dX5_line_15 : decode cX5_line 15 = .ok (.iload_n 1, 1) := by decide +kernel
theorem dX5_line_16 : decode cX5_line 16 = .ok (.invokevirtual 172, 3) := by decide +kernel
theorem dX5_line_19 : decode cX5_line 19 = .ok (.goto 8, 3) := by decide +kernel
theorem dX5_line_22 : decode cX5_line 22 = .ok (.aload_n 0, 1) := by decide +kernel
theorem dX5_line_23 : decode cX5_line 23 = .ok (.iconst 1, 1) := by decide +kernel
theorem dX5_line_24 : decode cX5_line 24 = .ok (.invokevirtual 89, 3) := by decide +kernel
theorem dX5_line_27 : decode cX5_line 27 = .ok (.ireturn, 1) := by decide +kernel
theorem dX5_would_0 : decode cX5_would 0 = .ok (.aload_n 0, 1) := by decide +kernel
theorem dX5_would_1 : decode cX5_would 1 = .ok (.iconst 0, 1) := by decide +kernel
theorem dX5_would_2 : decode cX5_would 2 = .ok (.putfield 53, 3) := by decide +kernel
theorem dX5_would_5 : decode cX5_would 5 = .ok (.aload_n 0, 1) := by decide +kernel
theorem dX5_would_6 : decode cX5_would 6 = .ok (.iload_n 1, 1) := by decide +kernel
theorem dX5_would_7 : decode cX5_would 7 = .ok (.invokevirtual 118, 3) := by decide +kernel
theorem dX5_would_10 : decode cX5_would 10 = .ok (.ifCond .eq 11, 3) := by decide +kernel
theorem dX5_would_13 : decode cX5_would 13 = .ok (.aload_n 0, 1) := by decide +kernel
theorem dX5_would_14 : decode cX5_would 14 = .ok (.iload_n 2, 1) := by decide +kernel
theorem dX5_would_15 : decode cX5_would 15 = .ok (.invokevirtual 102, 3) := by decide +kernel
theorem dX5_would_18 : decode cX5_would 18 = .ok (.ifCond .ne 9, 3) := by decide +kernel
theorem dX5_would_21 : decode cX5_would 21 = .ok (.aload_n 0, 1) := by decide +kernel
theorem dX5_would_22 : decode cX5_would 22 = .ok (.iconst 1, 1) := by decide +kernel
theorem dX5_would_23 : decode cX5_would 23 = .ok (.invokevirtual 89, 3) := by decide +kernel
theorem dX5_would_26 : decode cX5_would 26 = .ok (.ireturn, 1) := by decide +kernel
theorem dX5_would_27 : decode cX5_would 27 = .ok (.aload_n 0, 1) := by decide +kernel
theorem dX5_would_28 : decode cX5_would 28 = .ok (.iload_n 1, 1) := by decide +kernel
theorem dX5_would_29 : decode cX5_would 29 = .ok (.invokevirtual 132, 3) := by decide +kernel
theorem dX5_would_32 : decode cX5_would 32 = .ok (.ifCond .eq 7, 3) := by decide +kernel
theorem dX5_would_35 : decode cX5_would 35 = .ok (.iconst 0, 1) := by decide +kernel
theorem dX5_would_36 : decode cX5_would 36 = .ok (.goto 10, 3) := by decide +kernel
theorem dX5_would_39 : decode cX5_would 39 = .ok (.aload_n 0, 1) := by decide +kernel
theorem dX5_would_40 : decode cX5_would 40 = .ok (.iload_n 1, 1) := by decide +kernel
theorem dX5_would_41 : decode cX5_would 41 = .ok (.iload_n 2, 1) := by decide +kernel
theorem dX5_would_42 : decode cX5_would 42 = .ok (.iload_n 3, 1) := by decide +kernel
theorem dX5_would_43 : decode cX5_would 43 = .ok (.invokevirtual 125, 3) := by decide +kernel
theorem dX5_would_46 : decode cX5_would 46 = .ok (.ireturn, 1) := by decide +kernel
theorem dX5_bestOf_0 : decode cX5_bestOf 0 = .ok (.iconst 0, 1) := by decide +kernel
theorem dX5_bestOf_1 : decode cX5_bestOf 1 = .ok (.istore_n 3, 1) := by decide +kernel
theorem dX5_bestOf_2 : decode cX5_bestOf 2 = .ok (.iconst 1, 1) := by decide +kernel
theorem dX5_bestOf_3 : decode cX5_bestOf 3 = .ok (.istore 4, 2) := by decide +kernel
theorem dX5_bestOf_5 : decode cX5_bestOf 5 = .ok (.iload 4, 2) := by decide +kernel
theorem dX5_bestOf_7 : decode cX5_bestOf 7 = .ok (.sipush 400, 3) := by decide +kernel
theorem dX5_bestOf_10 : decode cX5_bestOf 10 = .ok (.if_icmp .ge 28, 3) := by decide +kernel
theorem dX5_bestOf_13 : decode cX5_bestOf 13 = .ok (.aload_n 0, 1) := by decide +kernel
theorem dX5_bestOf_14 : decode cX5_bestOf 14 = .ok (.iload_n 1, 1) := by decide +kernel
theorem dX5_bestOf_15 : decode cX5_bestOf 15 = .ok (.iload 4, 2) := by decide +kernel
theorem dX5_bestOf_17 : decode cX5_bestOf 17 = .ok (.invokevirtual 99, 3) := by decide +kernel
theorem dX5_bestOf_20 : decode cX5_bestOf 20 = .ok (.aload_n 0, 1) := by decide +kernel
theorem dX5_bestOf_21 : decode cX5_bestOf 21 = .ok (.iload_n 1, 1) := by decide +kernel
theorem dX5_bestOf_22 : decode cX5_bestOf 22 = .ok (.iload_n 3, 1) := by decide +kernel
theorem dX5_bestOf_23 : decode cX5_bestOf 23 = .ok (.invokevirtual 99, 3) := by decide +kernel
theorem dX5_bestOf_26 : decode cX5_bestOf 26 = .ok (.if_icmp .le 6, 3) := by decide +kernel
theorem dX5_bestOf_29 : decode cX5_bestOf 29 = .ok (.iload 4, 2) := by decide +kernel
theorem dX5_bestOf_31 : decode cX5_bestOf 31 = .ok (.istore_n 3, 1) := by decide +kernel
theorem dX5_bestOf_32 : decode cX5_bestOf 32 = .ok (.iinc 4 1, 3) := by decide +kernel
theorem dX5_bestOf_35 : decode cX5_bestOf 35 = .ok (.goto (-30), 3) := by decide +kernel
theorem dX5_bestOf_38 : decode cX5_bestOf 38 = .ok (.iload_n 2, 1) := by decide +kernel
theorem dX5_bestOf_39 : decode cX5_bestOf 39 = .ok (.ifCond .ne 10, 3) := by decide +kernel
theorem dX5_bestOf_42 : decode cX5_bestOf 42 = .ok (.iload_n 3, 1) := by decide +kernel
theorem dX5_bestOf_43 : decode cX5_bestOf 43 = .ok (.bipush 20, 2) := by decide +kernel
theorem dX5_bestOf_45 : decode cX5_bestOf 45 = .ok (.irem, 1) := by decide +kernel
theorem dX5_bestOf_46 : decode cX5_bestOf 46 = .ok (.goto 21, 3) := by decide +kernel
theorem dX5_bestOf_49 : decode cX5_bestOf 49 = .ok (.iload_n 2, 1) := by decide +kernel
theorem dX5_bestOf_50 : decode cX5_bestOf 50 = .ok (.iconst 1, 1) := by decide +kernel
theorem dX5_bestOf_51 : decode cX5_bestOf 51 = .ok (.if_icmp .ne 10, 3) := by decide +kernel
theorem dX5_bestOf_54 : decode cX5_bestOf 54 = .ok (.iload_n 3, 1) := by decide +kernel
theorem dX5_bestOf_55 : decode cX5_bestOf 55 = .ok (.bipush 20, 2) := by decide +kernel
theorem dX5_bestOf_57 : decode cX5_bestOf 57 = .ok (.idiv, 1) := by decide +kernel
theorem dX5_bestOf_58 : decode cX5_bestOf 58 = .ok (.goto 9, 3) := by decide +kernel
theorem dX5_bestOf_61 : decode cX5_bestOf 61 = .ok (.aload_n 0, 1) := by decide +kernel
theorem dX5_bestOf_62 : decode cX5_bestOf 62 = .ok (.iload_n 1, 1) := by decide +kernel
theorem dX5_bestOf_63 : decode cX5_bestOf 63 = .ok (.iload_n 3, 1) := by decide +kernel
theorem dX5_bestOf_64 : decode cX5_bestOf 64 = .ok (.invokevirtual 99, 3) := by decide +kernel
theorem dX5_bestOf_67 : decode cX5_bestOf 67 = .ok (.ireturn, 1) := by decide +kernel
theorem dX5_best_0 : decode cX5_best 0 = .ok (.aload_n 0, 1) := by decide +kernel
theorem dX5_best_1 : decode cX5_best 1 = .ok (.iconst 0, 1) := by decide +kernel
theorem dX5_best_2 : decode cX5_best 2 = .ok (.putfield 53, 3) := by decide +kernel
theorem dX5_best_5 : decode cX5_best 5 = .ok (.aload_n 0, 1) := by decide +kernel
theorem dX5_best_6 : decode cX5_best 6 = .ok (.iload_n 1, 1) := by decide +kernel
theorem dX5_best_7 : decode cX5_best 7 = .ok (.invokevirtual 102, 3) := by decide +kernel
theorem dX5_best_10 : decode cX5_best 10 = .ok (.ifCond .eq 21, 3) := by decide +kernel
theorem dX5_best_13 : decode cX5_best 13 = .ok (.iload_n 2, 1) := by decide +kernel
theorem dX5_best_14 : decode cX5_best 14 = .ok (.iconst 0, 1) := by decide +kernel
theorem dX5_best_15 : decode cX5_best 15 = .ok (.iconst 2, 1) := by decide +kernel
theorem dX5_best_16 : decode cX5_best 16 = .ok (.invokestatic 56, 3) := by decide +kernel
theorem dX5_best_19 : decode cX5_best 19 = .ok (.ifCond .eq 12, 3) := by decide +kernel
theorem dX5_best_22 : decode cX5_best 22 = .ok (.aload_n 0, 1) := by decide +kernel
theorem dX5_best_23 : decode cX5_best 23 = .ok (.iload_n 1, 1) := by decide +kernel
theorem dX5_best_24 : decode cX5_best 24 = .ok (.iload_n 2, 1) := by decide +kernel
theorem dX5_best_25 : decode cX5_best 25 = .ok (.invokevirtual 175, 3) := by decide +kernel
theorem dX5_best_28 : decode cX5_best 28 = .ok (.goto 8, 3) := by decide +kernel
theorem dX5_best_31 : decode cX5_best 31 = .ok (.aload_n 0, 1) := by decide +kernel
theorem dX5_best_32 : decode cX5_best 32 = .ok (.iconst 1, 1) := by decide +kernel
theorem dX5_best_33 : decode cX5_best 33 = .ok (.invokevirtual 89, 3) := by decide +kernel
theorem dX5_best_36 : decode cX5_best 36 = .ok (.ireturn, 1) := by decide +kernel
theorem dX5_advise_0 : decode cX5_advise 0 = .ok (.aload_n 0, 1) := by decide +kernel
theorem dX5_advise_1 : decode cX5_advise 1 = .ok (.iconst 0, 1) := by decide +kernel
theorem dX5_advise_2 : decode cX5_advise 2 = .ok (.putfield 53, 3) := by decide +kernel
theorem dX5_advise_5 : decode cX5_advise 5 = .ok (.iconst (-1), 1) := by decide +kernel
theorem dX5_advise_6 : decode cX5_advise 6 = .ok (.istore_n 1, 1) := by decide +kernel
theorem dX5_advise_7 : decode cX5_advise 7 = .ok (.iconst 0, 1) := by decide +kernel
theorem dX5_advise_8 : decode cX5_advise 8 = .ok (.istore_n 2, 1) := by decide +kernel
theorem dX5_advise_9 : decode cX5_advise 9 = .ok (.iload_n 2, 1) := by decide +kernel
theorem dX5_advise_10 : decode cX5_advise 10 = .ok (.aload_n 0, 1) := by decide +kernel
theorem dX5_advise_11 : decode cX5_advise 11 = .ok (.getfield 60, 3) := by decide +kernel
theorem dX5_advise_14 : decode cX5_advise 14 = .ok (.if_icmp .ge 84, 3) := by decide +kernel
theorem dX5_advise_17 : decode cX5_advise 17 = .ok (.aload_n 0, 1) := by decide +kernel
theorem dX5_advise_18 : decode cX5_advise 18 = .ok (.iload_n 2, 1) := by decide +kernel
theorem dX5_advise_19 : decode cX5_advise 19 = .ok (.iconst 0, 1) := by decide +kernel
theorem dX5_advise_20 : decode cX5_advise 20 = .ok (.invokevirtual 154, 3) := by decide +kernel
theorem dX5_advise_23 : decode cX5_advise 23 = .ok (.ifCond .ne 6, 3) := by decide +kernel
theorem dX5_advise_26 : decode cX5_advise 26 = .ok (.goto 66, 3) := by decide +kernel
theorem dX5_advise_29 : decode cX5_advise 29 = .ok (.iload_n 1, 1) := by decide +kernel
theorem dX5_advise_30 : decode cX5_advise 30 = .ok (.iconst (-1), 1) := by decide +kernel
theorem dX5_advise_31 : decode cX5_advise 31 = .ok (.if_icmp .ne 8, 3) := by decide +kernel
theorem dX5_advise_34 : decode cX5_advise 34 = .ok (.iload_n 2, 1) := by decide +kernel
theorem dX5_advise_35 : decode cX5_advise 35 = .ok (.istore_n 1, 1) := by decide +kernel
theorem dX5_advise_36 : decode cX5_advise 36 = .ok (.goto 56, 3) := by decide +kernel
theorem dX5_advise_39 : decode cX5_advise 39 = .ok (.aload_n 0, 1) := by decide +kernel
theorem dX5_advise_40 : decode cX5_advise 40 = .ok (.iload_n 2, 1) := by decide +kernel
theorem dX5_advise_41 : decode cX5_advise 41 = .ok (.iconst 1, 1) := by decide +kernel
theorem dX5_advise_42 : decode cX5_advise 42 = .ok (.invokevirtual 154, 3) := by decide +kernel
theorem dX5_advise_45 : decode cX5_advise 45 = .ok (.aload_n 0, 1) := by decide +kernel
theorem dX5_advise_46 : decode cX5_advise 46 = .ok (.iload_n 1, 1) := by decide +kernel
theorem dX5_advise_47 : decode cX5_advise 47 = .ok (.iconst 0, 1) := by decide +kernel
theorem dX5_advise_48 : decode cX5_advise 48 = .ok (.invokevirtual 154, 3) := by decide +kernel
theorem dX5_advise_51 : decode cX5_advise 51 = .ok (.imul, 1) := by decide +kernel
theorem dX5_advise_52 : decode cX5_advise 52 = .ok (.aload_n 0, 1) := by decide +kernel
theorem dX5_advise_53 : decode cX5_advise 53 = .ok (.iload_n 1, 1) := by decide +kernel
theorem dX5_advise_54 : decode cX5_advise 54 = .ok (.iconst 1, 1) := by decide +kernel
theorem dX5_advise_55 : decode cX5_advise 55 = .ok (.invokevirtual 154, 3) := by decide +kernel
theorem dX5_advise_58 : decode cX5_advise 58 = .ok (.aload_n 0, 1) := by decide +kernel
theorem dX5_advise_59 : decode cX5_advise 59 = .ok (.iload_n 2, 1) := by decide +kernel
theorem dX5_advise_60 : decode cX5_advise 60 = .ok (.iconst 0, 1) := by decide +kernel
theorem dX5_advise_61 : decode cX5_advise 61 = .ok (.invokevirtual 154, 3) := by decide +kernel
theorem dX5_advise_64 : decode cX5_advise 64 = .ok (.imul, 1) := by decide +kernel
theorem dX5_advise_65 : decode cX5_advise 65 = .ok (.isub, 1) := by decide +kernel
theorem dX5_advise_66 : decode cX5_advise 66 = .ok (.istore_n 3, 1) := by decide +kernel
theorem dX5_advise_67 : decode cX5_advise 67 = .ok (.iload_n 3, 1) := by decide +kernel
theorem dX5_advise_68 : decode cX5_advise 68 = .ok (.ifCond .gt 22, 3) := by decide +kernel
theorem dX5_advise_71 : decode cX5_advise 71 = .ok (.iload_n 3, 1) := by decide +kernel
theorem dX5_advise_72 : decode cX5_advise 72 = .ok (.ifCond .ne 20, 3) := by decide +kernel
theorem dX5_advise_75 : decode cX5_advise 75 = .ok (.aload_n 0, 1) := by decide +kernel
theorem dX5_advise_76 : decode cX5_advise 76 = .ok (.iload_n 2, 1) := by decide +kernel
theorem dX5_advise_77 : decode cX5_advise 77 = .ok (.iconst 0, 1) := by decide +kernel
theorem dX5_advise_78 : decode cX5_advise 78 = .ok (.invokevirtual 154, 3) := by decide +kernel
theorem dX5_advise_81 : decode cX5_advise 81 = .ok (.aload_n 0, 1) := by decide +kernel
theorem dX5_advise_82 : decode cX5_advise 82 = .ok (.iload_n 1, 1) := by decide +kernel
theorem dX5_advise_83 : decode cX5_advise 83 = .ok (.iconst 0, 1) := by decide +kernel
theorem dX5_advise_84 : decode cX5_advise 84 = .ok (.invokevirtual 154, 3) := by decide +kernel
theorem dX5_advise_87 : decode cX5_advise 87 = .ok (.if_icmp .le 5, 3) := by decide +kernel
theorem dX5_advise_90 : decode cX5_advise 90 = .ok (.iload_n 2, 1) := by decide +kernel
theorem dX5_advise_91 : decode cX5_advise 91 = .ok (.istore_n 1, 1) := by decide +kernel
theorem dX5_advise_92 : decode cX5_advise 92 = .ok (.iinc 2 1, 3) := by decide +kernel
theorem dX5_advise_95 : decode cX5_advise 95 = .ok (.goto (-86), 3) := by decide +kernel
theorem dX5_advise_98 : decode cX5_advise 98 = .ok (.iload_n 1, 1) := by decide +kernel
theorem dX5_advise_99 : decode cX5_advise 99 = .ok (.ireturn, 1) := by decide +kernel
theorem dX5_mean_0 : decode cX5_mean 0 = .ok (.aload_n 0, 1) := by decide +kernel
theorem dX5_mean_1 : decode cX5_mean 1 = .ok (.iconst 0, 1) := by decide +kernel
theorem dX5_mean_2 : decode cX5_mean 2 = .ok (.putfield 53, 3) := by decide +kernel
theorem dX5_mean_5 : decode cX5_mean 5 = .ok (.iconst 0, 1) := by decide +kernel
theorem dX5_mean_6 : decode cX5_mean 6 = .ok (.istore_n 1, 1) := by decide +kernel
theorem dX5_mean_7 : decode cX5_mean 7 = .ok (.iconst 0, 1) := by decide +kernel
theorem dX5_mean_8 : decode cX5_mean 8 = .ok (.istore_n 2, 1) := by decide +kernel
theorem dX5_mean_9 : decode cX5_mean 9 = .ok (.iload_n 2, 1) := by decide +kernel
theorem dX5_mean_10 : decode cX5_mean 10 = .ok (.sipush 400, 3) := by decide +kernel
theorem dX5_mean_13 : decode cX5_mean 13 = .ok (.if_icmp .ge 30, 3) := by decide +kernel
theorem dX5_mean_16 : decode cX5_mean 16 = .ok (.iload_n 1, 1) := by decide +kernel
theorem dX5_mean_17 : decode cX5_mean 17 = .ok (.aload_n 0, 1) := by decide +kernel
theorem dX5_mean_18 : decode cX5_mean 18 = .ok (.getfield 38, 3) := by decide +kernel
theorem dX5_mean_21 : decode cX5_mean 21 = .ok (.iload_n 2, 1) := by decide +kernel
theorem dX5_mean_22 : decode cX5_mean 22 = .ok (.iaload, 1) := by decide +kernel
theorem dX5_mean_23 : decode cX5_mean 23 = .ok (.ifCond .le 11, 3) := by decide +kernel
theorem dX5_mean_26 : decode cX5_mean 26 = .ok (.aload_n 0, 1) := by decide +kernel
theorem dX5_mean_27 : decode cX5_mean 27 = .ok (.iload_n 2, 1) := by decide +kernel
theorem dX5_mean_28 : decode cX5_mean 28 = .ok (.invokevirtual 142, 3) := by decide +kernel
theorem dX5_mean_31 : decode cX5_mean 31 = .ok (.goto 4, 3) := by decide +kernel
theorem dX5_mean_34 : decode cX5_mean 34 = .ok (.iconst 0, 1) := by decide +kernel
theorem dX5_mean_35 : decode cX5_mean 35 = .ok (.iadd, 1) := by decide +kernel
theorem dX5_mean_36 : decode cX5_mean 36 = .ok (.istore_n 1, 1) := by decide +kernel
theorem dX5_mean_37 : decode cX5_mean 37 = .ok (.iinc 2 1, 3) := by decide +kernel
theorem dX5_mean_40 : decode cX5_mean 40 = .ok (.goto (-31), 3) := by decide +kernel
theorem dX5_mean_43 : decode cX5_mean 43 = .ok (.aload_n 0, 1) := by decide +kernel
theorem dX5_mean_44 : decode cX5_mean 44 = .ok (.getfield 96, 3) := by decide +kernel
theorem dX5_mean_47 : decode cX5_mean 47 = .ok (.ifCond .ne 7, 3) := by decide +kernel
theorem dX5_mean_50 : decode cX5_mean 50 = .ok (.dconst 0, 1) := by decide +kernel
theorem dX5_mean_51 : decode cX5_mean 51 = .ok (.goto 11, 3) := by decide +kernel
theorem dX5_mean_54 : decode cX5_mean 54 = .ok (.iload_n 1, 1) := by decide +kernel
theorem dX5_mean_55 : decode cX5_mean 55 = .ok (.i2d, 1) := by decide +kernel
theorem dX5_mean_56 : decode cX5_mean 56 = .ok (.aload_n 0, 1) := by decide +kernel
theorem dX5_mean_57 : decode cX5_mean 57 = .ok (.getfield 96, 3) := by decide +kernel
theorem dX5_mean_60 : decode cX5_mean 60 = .ok (.i2d, 1) := by decide +kernel
theorem dX5_mean_61 : decode cX5_mean 61 = .ok (.ddiv, 1) := by decide +kernel
theorem dX5_mean_62 : decode cX5_mean 62 = .ok (.dreturn, 1) := by decide +kernel
theorem dX5_digest_0 : decode cX5_digest 0 = .ok (.aload_n 0, 1) := by decide +kernel
theorem dX5_digest_1 : decode cX5_digest 1 = .ok (.iconst 0, 1) := by decide +kernel
theorem dX5_digest_2 : decode cX5_digest 2 = .ok (.putfield 53, 3) := by decide +kernel
theorem dX5_digest_5 : decode cX5_digest 5 = .ok (.ldc2_w 178, 3) := by decide +kernel
theorem dX5_digest_8 : decode cX5_digest 8 = .ok (.lstore_n 1, 1) := by decide +kernel
theorem dX5_digest_9 : decode cX5_digest 9 = .ok (.iconst 0, 1) := by decide +kernel
theorem dX5_digest_10 : decode cX5_digest 10 = .ok (.istore_n 3, 1) := by decide +kernel
theorem dX5_digest_11 : decode cX5_digest 11 = .ok (.iload_n 3, 1) := by decide +kernel
theorem dX5_digest_12 : decode cX5_digest 12 = .ok (.bipush 8, 2) := by decide +kernel
theorem dX5_digest_14 : decode cX5_digest 14 = .ok (.if_icmp .gt 22, 3) := by decide +kernel
theorem dX5_digest_17 : decode cX5_digest 17 = .ok (.lload_n 1, 1) := by decide +kernel
theorem dX5_digest_18 : decode cX5_digest 18 = .ok (.ldc2_w 180, 3) := by decide +kernel
theorem dX5_digest_21 : decode cX5_digest 21 = .ok (.lmul, 1) := by decide +kernel
theorem dX5_digest_22 : decode cX5_digest 22 = .ok (.aload_n 0, 1) := by decide +kernel
theorem dX5_digest_23 : decode cX5_digest 23 = .ok (.iload_n 3, 1) := by decide +kernel
theorem dX5_digest_24 : decode cX5_digest 24 = .ok (.invokevirtual 166, 3) := by decide +kernel
theorem dX5_digest_27 : decode cX5_digest 27 = .ok (.i2l, 1) := by decide +kernel
theorem dX5_digest_28 : decode cX5_digest 28 = .ok (.ladd, 1) := by decide +kernel
theorem dX5_digest_29 : decode cX5_digest 29 = .ok (.lstore_n 1, 1) := by decide +kernel
theorem dX5_digest_30 : decode cX5_digest 30 = .ok (.iinc 3 1, 3) := by decide +kernel
theorem dX5_digest_33 : decode cX5_digest 33 = .ok (.goto (-22), 3) := by decide +kernel
theorem dX5_digest_36 : decode cX5_digest 36 = .ok (.iconst 0, 1) := by decide +kernel
theorem dX5_digest_37 : decode cX5_digest 37 = .ok (.istore_n 3, 1) := by decide +kernel
theorem dX5_digest_38 : decode cX5_digest 38 = .ok (.iload_n 3, 1) := by decide +kernel
theorem dX5_digest_39 : decode cX5_digest 39 = .ok (.aload_n 0, 1) := by decide +kernel
theorem dX5_digest_40 : decode cX5_digest 40 = .ok (.getfield 60, 3) := by decide +kernel
theorem dX5_digest_43 : decode cX5_digest 43 = .ok (.if_icmp .ge 40, 3) := by decide +kernel
theorem dX5_digest_46 : decode cX5_digest 46 = .ok (.iconst 0, 1) := by decide +kernel
theorem dX5_digest_47 : decode cX5_digest 47 = .ok (.istore 4, 2) := by decide +kernel
theorem dX5_digest_49 : decode cX5_digest 49 = .ok (.iload 4, 2) := by decide +kernel
theorem dX5_digest_51 : decode cX5_digest 51 = .ok (.bipush 7, 2) := by decide +kernel
theorem dX5_digest_53 : decode cX5_digest 53 = .ok (.if_icmp .gt 24, 3) := by decide +kernel
theorem dX5_digest_56 : decode cX5_digest 56 = .ok (.lload_n 1, 1) := by decide +kernel
theorem dX5_digest_57 : decode cX5_digest 57 = .ok (.ldc2_w 180, 3) := by decide +kernel
theorem dX5_digest_60 : decode cX5_digest 60 = .ok (.lmul, 1) := by decide +kernel
theorem dX5_digest_61 : decode cX5_digest 61 = .ok (.aload_n 0, 1) := by decide +kernel
theorem dX5_digest_62 : decode cX5_digest 62 = .ok (.iload_n 3, 1) := by decide +kernel
theorem dX5_digest_63 : decode cX5_digest 63 = .ok (.iload 4, 2) := by decide +kernel
theorem dX5_digest_65 : decode cX5_digest 65 = .ok (.invokevirtual 160, 3) := by decide +kernel
theorem dX5_digest_68 : decode cX5_digest 68 = .ok (.i2l, 1) := by decide +kernel
theorem dX5_digest_69 : decode cX5_digest 69 = .ok (.ladd, 1) := by decide +kernel
theorem dX5_digest_70 : decode cX5_digest 70 = .ok (.lstore_n 1, 1) := by decide +kernel
theorem dX5_digest_71 : decode cX5_digest 71 = .ok (.iinc 4 1, 3) := by decide +kernel
theorem dX5_digest_74 : decode cX5_digest 74 = .ok (.goto (-25), 3) := by decide +kernel
theorem dX5_digest_77 : decode cX5_digest 77 = .ok (.iinc 3 1, 3) := by decide +kernel
theorem dX5_digest_80 : decode cX5_digest 80 = .ok (.goto (-42), 3) := by decide +kernel
theorem dX5_digest_83 : decode cX5_digest 83 = .ok (.iconst 0, 1) := by decide +kernel
theorem dX5_digest_84 : decode cX5_digest 84 = .ok (.istore_n 3, 1) := by decide +kernel
theorem dX5_digest_85 : decode cX5_digest 85 = .ok (.iload_n 3, 1) := by decide +kernel
theorem dX5_digest_86 : decode cX5_digest 86 = .ok (.aload_n 0, 1) := by decide +kernel
theorem dX5_digest_87 : decode cX5_digest 87 = .ok (.getfield 63, 3) := by decide +kernel
theorem dX5_digest_90 : decode cX5_digest 90 = .ok (.if_icmp .ge 40, 3) := by decide +kernel
theorem dX5_digest_93 : decode cX5_digest 93 = .ok (.iconst 0, 1) := by decide +kernel
theorem dX5_digest_94 : decode cX5_digest 94 = .ok (.istore 4, 2) := by decide +kernel
theorem dX5_digest_96 : decode cX5_digest 96 = .ok (.iload 4, 2) := by decide +kernel
theorem dX5_digest_98 : decode cX5_digest 98 = .ok (.bipush 6, 2) := by decide +kernel
theorem dX5_digest_100 : decode cX5_digest 100 = .ok (.if_icmp .gt 24, 3) := by decide +kernel
theorem dX5_digest_103 : decode cX5_digest 103 = .ok (.lload_n 1, 1) := by decide +kernel
theorem dX5_digest_104 : decode cX5_digest 104 = .ok (.ldc2_w 180, 3) := by decide +kernel
theorem dX5_digest_107 : decode cX5_digest 107 = .ok (.lmul, 1) := by decide +kernel
theorem dX5_digest_108 : decode cX5_digest 108 = .ok (.aload_n 0, 1) := by decide +kernel
theorem dX5_digest_109 : decode cX5_digest 109 = .ok (.iload_n 3, 1) := by decide +kernel
theorem dX5_digest_110 : decode cX5_digest 110 = .ok (.iload 4, 2) := by decide +kernel
theorem dX5_digest_112 : decode cX5_digest 112 = .ok (.invokevirtual 163, 3) := by decide +kernel
theorem dX5_digest_115 : decode cX5_digest 115 = .ok (.i2l, 1) := by decide +kernel
theorem dX5_digest_116 : decode cX5_digest 116 = .ok (.ladd, 1) := by decide +kernel
theorem dX5_digest_117 : decode cX5_digest 117 = .ok (.lstore_n 1, 1) := by decide +kernel
theorem dX5_digest_118 : decode cX5_digest 118 = .ok (.iinc 4 1, 3) := by decide +kernel
theorem dX5_digest_121 : decode cX5_digest 121 = .ok (.goto (-25), 3) := by decide +kernel
theorem dX5_digest_124 : decode cX5_digest 124 = .ok (.iinc 3 1, 3) := by decide +kernel
theorem dX5_digest_127 : decode cX5_digest 127 = .ok (.goto (-42), 3) := by decide +kernel
theorem dX5_digest_130 : decode cX5_digest 130 = .ok (.iconst 0, 1) := by decide +kernel
theorem dX5_digest_131 : decode cX5_digest 131 = .ok (.istore_n 3, 1) := by decide +kernel
theorem dX5_digest_132 : decode cX5_digest 132 = .ok (.iload_n 3, 1) := by decide +kernel
theorem dX5_digest_133 : decode cX5_digest 133 = .ok (.sipush 400, 3) := by decide +kernel
theorem dX5_digest_136 : decode cX5_digest 136 = .ok (.if_icmp .ge 39, 3) := by decide +kernel
theorem dX5_digest_139 : decode cX5_digest 139 = .ok (.iconst 0, 1) := by decide +kernel
theorem dX5_digest_140 : decode cX5_digest 140 = .ok (.istore 4, 2) := by decide +kernel
theorem dX5_digest_142 : decode cX5_digest 142 = .ok (.iload 4, 2) := by decide +kernel
theorem dX5_digest_144 : decode cX5_digest 144 = .ok (.iconst 3, 1) := by decide +kernel
theorem dX5_digest_145 : decode cX5_digest 145 = .ok (.if_icmp .gt 24, 3) := by decide +kernel
theorem dX5_digest_148 : decode cX5_digest 148 = .ok (.lload_n 1, 1) := by decide +kernel
theorem dX5_digest_149 : decode cX5_digest 149 = .ok (.ldc2_w 180, 3) := by decide +kernel
theorem dX5_digest_152 : decode cX5_digest 152 = .ok (.lmul, 1) := by decide +kernel
theorem dX5_digest_153 : decode cX5_digest 153 = .ok (.aload_n 0, 1) := by decide +kernel
theorem dX5_digest_154 : decode cX5_digest 154 = .ok (.iload_n 3, 1) := by decide +kernel
theorem dX5_digest_155 : decode cX5_digest 155 = .ok (.iload 4, 2) := by decide +kernel
theorem dX5_digest_157 : decode cX5_digest 157 = .ok (.invokevirtual 151, 3) := by decide +kernel
theorem dX5_digest_160 : decode cX5_digest 160 = .ok (.i2l, 1) := by decide +kernel
theorem dX5_digest_161 : decode cX5_digest 161 = .ok (.ladd, 1) := by decide +kernel
theorem dX5_digest_162 : decode cX5_digest 162 = .ok (.lstore_n 1, 1) := by decide +kernel
theorem dX5_digest_163 : decode cX5_digest 163 = .ok (.iinc 4 1, 3) := by decide +kernel
theorem dX5_digest_166 : decode cX5_digest 166 = .ok (.goto (-24), 3) := by decide +kernel
theorem dX5_digest_169 : decode cX5_digest 169 = .ok (.iinc 3 1, 3) := by decide +kernel
theorem dX5_digest_172 : decode cX5_digest 172 = .ok (.goto (-40), 3) := by decide +kernel
theorem dX5_digest_175 : decode cX5_digest 175 = .ok (.lload_n 1, 1) := by decide +kernel
theorem dX5_digest_176 : decode cX5_digest 176 = .ok (.lreturn, 1) := by decide +kernel
end
section
theorem dL_vein_0 : decode cL_vein 0 = .ok (.aload 7, 2) := by decide +kernel
theorem dL_vein_2 : decode cL_vein 2 = .ok (.iconst 0, 1) := by decide +kernel
theorem dL_vein_3 : decode cL_vein 3 = .ok (.aload_n 0, 1) := by decide +kernel
theorem dL_vein_4 : decode cL_vein 4 = .ok (.iload_n 1, 1) := by decide +kernel
theorem dL_vein_5 : decode cL_vein 5 = .ok (.iload_n 2, 1) := by decide +kernel
theorem dL_vein_6 : decode cL_vein 6 = .ok (.iload_n 3, 1) := by decide +kernel
theorem dL_vein_7 : decode cL_vein 7 = .ok (.iload 4, 2) := by decide +kernel
theorem dL_vein_9 : decode cL_vein 9 = .ok (.iload 5, 2) := by decide +kernel
theorem dL_vein_11 : decode cL_vein 11 = .ok (.iload 6, 2) := by decide +kernel
theorem dL_vein_13 : decode cL_vein 13 = .ok (.invokevirtual 7, 3) := by decide +kernel
theorem dL_vein_16 : decode cL_vein 16 = .ok (.i2l, 1) := by decide +kernel
theorem dL_vein_17 : decode cL_vein 17 = .ok (.lastore, 1) := by decide +kernel
theorem dL_vein_18 : decode cL_vein 18 = .ok (.goto 15, 3) := by decide +kernel
theorem dL_vein_21 : decode cL_vein 21 = .ok (.astore 8, 2) := by decide +kernel
theorem dL_vein_23 : decode cL_vein 23 = .ok (.iconst 1, 1) := by decide +kernel
theorem dL_vein_24 : decode cL_vein 24 = .ok (.ireturn, 1) := by decide +kernel
theorem dL_vein_25 : decode cL_vein 25 = .ok (.astore 8, 2) := by decide +kernel
theorem dL_vein_27 : decode cL_vein 27 = .ok (.iconst 2, 1) := by decide +kernel
theorem dL_vein_28 : decode cL_vein 28 = .ok (.ireturn, 1) := by decide +kernel
theorem dL_vein_29 : decode cL_vein 29 = .ok (.astore 8, 2) := by decide +kernel
theorem dL_vein_31 : decode cL_vein 31 = .ok (.iconst 3, 1) := by decide +kernel
theorem dL_vein_32 : decode cL_vein 32 = .ok (.ireturn, 1) := by decide +kernel
theorem dL_vein_33 : decode cL_vein 33 = .ok (.iconst 0, 1) := by decide +kernel
theorem dL_vein_34 : decode cL_vein 34 = .ok (.ireturn, 1) := by decide +kernel
theorem dL_dowser_0 : decode cL_dowser 0 = .ok (.aload_n 3, 1) := by decide +kernel
theorem dL_dowser_1 : decode cL_dowser 1 = .ok (.iconst 0, 1) := by decide +kernel
theorem dL_dowser_2 : decode cL_dowser 2 = .ok (.aload_n 0, 1) := by decide +kernel
theorem dL_dowser_3 : decode cL_dowser 3 = .ok (.iload_n 1, 1) := by decide +kernel
theorem dL_dowser_4 : decode cL_dowser 4 = .ok (.iload_n 2, 1) := by decide +kernel
theorem dL_dowser_5 : decode cL_dowser 5 = .ok (.invokevirtual 19, 3) := by decide +kernel
theorem dL_dowser_8 : decode cL_dowser 8 = .ok (.i2l, 1) := by decide +kernel
theorem dL_dowser_9 : decode cL_dowser 9 = .ok (.lastore, 1) := by decide +kernel
theorem dL_dowser_10 : decode cL_dowser 10 = .ok (.goto 11, 3) := by decide +kernel
theorem dL_dowser_13 : decode cL_dowser 13 = .ok (.astore 4, 2) := by decide +kernel
theorem dL_dowser_15 : decode cL_dowser 15 = .ok (.iconst 1, 1) := by decide +kernel
theorem dL_dowser_16 : decode cL_dowser 16 = .ok (.ireturn, 1) := by decide +kernel
theorem dL_dowser_17 : decode cL_dowser 17 = .ok (.astore 4, 2) := by decide +kernel
theorem dL_dowser_19 : decode cL_dowser 19 = .ok (.iconst 2, 1) := by decide +kernel
theorem dL_dowser_20 : decode cL_dowser 20 = .ok (.ireturn, 1) := by decide +kernel
theorem dL_dowser_21 : decode cL_dowser 21 = .ok (.iconst 0, 1) := by decide +kernel
theorem dL_dowser_22 : decode cL_dowser 22 = .ok (.ireturn, 1) := by decide +kernel
theorem dL_setMark_0 : decode cL_setMark 0 = .ok (.aload_n 2, 1) := by decide +kernel
theorem dL_setMark_1 : decode cL_setMark 1 = .ok (.iconst 0, 1) := by decide +kernel
theorem dL_setMark_2 : decode cL_setMark 2 = .ok (.aload_n 0, 1) := by decide +kernel
theorem dL_setMark_3 : decode cL_setMark 3 = .ok (.iload_n 1, 1) := by decide +kernel
theorem dL_setMark_4 : decode cL_setMark 4 = .ok (.invokevirtual 23, 3) := by decide +kernel
theorem dL_setMark_7 : decode cL_setMark 7 = .ok (.i2l, 1) := by decide +kernel
theorem dL_setMark_8 : decode cL_setMark 8 = .ok (.lastore, 1) := by decide +kernel
theorem dL_setMark_9 : decode cL_setMark 9 = .ok (.goto 6, 3) := by decide +kernel
theorem dL_setMark_12 : decode cL_setMark 12 = .ok (.astore_n 3, 1) := by decide +kernel
theorem dL_setMark_13 : decode cL_setMark 13 = .ok (.iconst 1, 1) := by decide +kernel
theorem dL_setMark_14 : decode cL_setMark 14 = .ok (.ireturn, 1) := by decide +kernel
theorem dL_setMark_15 : decode cL_setMark 15 = .ok (.iconst 0, 1) := by decide +kernel
theorem dL_setMark_16 : decode cL_setMark 16 = .ok (.ireturn, 1) := by decide +kernel
theorem dL_walk_0 : decode cL_walk 0 = .ok (.aload 6, 2) := by decide +kernel
theorem dL_walk_2 : decode cL_walk 2 = .ok (.iconst 0, 1) := by decide +kernel
theorem dL_walk_3 : decode cL_walk 3 = .ok (.aload_n 0, 1) := by decide +kernel
theorem dL_walk_4 : decode cL_walk 4 = .ok (.iload_n 1, 1) := by decide +kernel
theorem dL_walk_5 : decode cL_walk 5 = .ok (.iload_n 2, 1) := by decide +kernel
theorem dL_walk_6 : decode cL_walk 6 = .ok (.iload_n 3, 1) := by decide +kernel
theorem dL_walk_7 : decode cL_walk 7 = .ok (.iload 4, 2) := by decide +kernel
theorem dL_walk_9 : decode cL_walk 9 = .ok (.iload 5, 2) := by decide +kernel
theorem dL_walk_11 : decode cL_walk 11 = .ok (.invokevirtual 27, 3) := by decide +kernel
theorem dL_walk_14 : decode cL_walk 14 = .ok (.i2l, 1) := by decide +kernel
theorem dL_walk_15 : decode cL_walk 15 = .ok (.lastore, 1) := by decide +kernel
theorem dL_walk_16 : decode cL_walk 16 = .ok (.goto 7, 3) := by decide +kernel
theorem dL_walk_19 : decode cL_walk 19 = .ok (.astore 7, 2) := by decide +kernel
theorem dL_walk_21 : decode cL_walk 21 = .ok (.iconst 1, 1) := by decide +kernel
theorem dL_walk_22 : decode cL_walk 22 = .ok (.ireturn, 1) := by decide +kernel
theorem dL_walk_23 : decode cL_walk 23 = .ok (.iconst 0, 1) := by decide +kernel
theorem dL_walk_24 : decode cL_walk 24 = .ok (.ireturn, 1) := by decide +kernel
theorem dL_pull_0 : decode cL_pull 0 = .ok (.aload_n 3, 1) := by decide +kernel
theorem dL_pull_1 : decode cL_pull 1 = .ok (.iconst 0, 1) := by decide +kernel
theorem dL_pull_2 : decode cL_pull 2 = .ok (.aload_n 0, 1) := by decide +kernel
theorem dL_pull_3 : decode cL_pull 3 = .ok (.iload_n 1, 1) := by decide +kernel
theorem dL_pull_4 : decode cL_pull 4 = .ok (.iload_n 2, 1) := by decide +kernel
theorem dL_pull_5 : decode cL_pull 5 = .ok (.invokevirtual 31, 3) := by decide +kernel
theorem dL_pull_8 : decode cL_pull 8 = .ok (.i2l, 1) := by decide +kernel
theorem dL_pull_9 : decode cL_pull 9 = .ok (.lastore, 1) := by decide +kernel
theorem dL_pull_10 : decode cL_pull 10 = .ok (.goto 11, 3) := by decide +kernel
theorem dL_pull_13 : decode cL_pull 13 = .ok (.astore 4, 2) := by decide +kernel
theorem dL_pull_15 : decode cL_pull 15 = .ok (.iconst 1, 1) := by decide +kernel
theorem dL_pull_16 : decode cL_pull 16 = .ok (.ireturn, 1) := by decide +kernel
theorem dL_pull_17 : decode cL_pull 17 = .ok (.astore 4, 2) := by decide +kernel
theorem dL_pull_19 : decode cL_pull 19 = .ok (.iconst 2, 1) := by decide +kernel
theorem dL_pull_20 : decode cL_pull 20 = .ok (.ireturn, 1) := by decide +kernel
theorem dL_pull_21 : decode cL_pull 21 = .ok (.iconst 0, 1) := by decide +kernel
theorem dL_pull_22 : decode cL_pull 22 = .ok (.ireturn, 1) := by decide +kernel
theorem dL_pit_0 : decode cL_pit 0 = .ok (.aload_n 3, 1) := by decide +kernel
theorem dL_pit_1 : decode cL_pit 1 = .ok (.iconst 0, 1) := by decide +kernel
theorem dL_pit_2 : decode cL_pit 2 = .ok (.aload_n 0, 1) := by decide +kernel
theorem dL_pit_3 : decode cL_pit 3 = .ok (.iload_n 1, 1) := by decide +kernel
theorem dL_pit_4 : decode cL_pit 4 = .ok (.iload_n 2, 1) := by decide +kernel
theorem dL_pit_5 : decode cL_pit 5 = .ok (.invokevirtual 34, 3) := by decide +kernel
theorem dL_pit_8 : decode cL_pit 8 = .ok (.i2l, 1) := by decide +kernel
theorem dL_pit_9 : decode cL_pit 9 = .ok (.lastore, 1) := by decide +kernel
theorem dL_pit_10 : decode cL_pit 10 = .ok (.goto 11, 3) := by decide +kernel
theorem dL_pit_13 : decode cL_pit 13 = .ok (.astore 4, 2) := by decide +kernel
theorem dL_pit_15 : decode cL_pit 15 = .ok (.iconst 1, 1) := by decide +kernel
theorem dL_pit_16 : decode cL_pit 16 = .ok (.ireturn, 1) := by decide +kernel
theorem dL_pit_17 : decode cL_pit 17 = .ok (.astore 4, 2) := by decide +kernel
theorem dL_pit_19 : decode cL_pit 19 = .ok (.iconst 2, 1) := by decide +kernel
theorem dL_pit_20 : decode cL_pit 20 = .ok (.ireturn, 1) := by decide +kernel
theorem dL_pit_21 : decode cL_pit 21 = .ok (.iconst 0, 1) := by decide +kernel
theorem dL_pit_22 : decode cL_pit 22 = .ok (.ireturn, 1) := by decide +kernel
theorem dL_bet_0 : decode cL_bet 0 = .ok (.aload 5, 2) := by decide +kernel
theorem dL_bet_2 : decode cL_bet 2 = .ok (.iconst 0, 1) := by decide +kernel
theorem dL_bet_3 : decode cL_bet 3 = .ok (.aload_n 0, 1) := by decide +kernel
theorem dL_bet_4 : decode cL_bet 4 = .ok (.iload_n 1, 1) := by decide +kernel
theorem dL_bet_5 : decode cL_bet 5 = .ok (.iload_n 2, 1) := by decide +kernel
theorem dL_bet_6 : decode cL_bet 6 = .ok (.iload_n 3, 1) := by decide +kernel
theorem dL_bet_7 : decode cL_bet 7 = .ok (.iload 4, 2) := by decide +kernel
theorem dL_bet_9 : decode cL_bet 9 = .ok (.invokevirtual 37, 3) := by decide +kernel
theorem dL_bet_12 : decode cL_bet 12 = .ok (.i2l, 1) := by decide +kernel
theorem dL_bet_13 : decode cL_bet 13 = .ok (.lastore, 1) := by decide +kernel
theorem dL_bet_14 : decode cL_bet 14 = .ok (.goto 15, 3) := by decide +kernel
theorem dL_bet_17 : decode cL_bet 17 = .ok (.astore 6, 2) := by decide +kernel
theorem dL_bet_19 : decode cL_bet 19 = .ok (.iconst 1, 1) := by decide +kernel
theorem dL_bet_20 : decode cL_bet 20 = .ok (.ireturn, 1) := by decide +kernel
theorem dL_bet_21 : decode cL_bet 21 = .ok (.astore 6, 2) := by decide +kernel
theorem dL_bet_23 : decode cL_bet 23 = .ok (.iconst 2, 1) := by decide +kernel
theorem dL_bet_24 : decode cL_bet 24 = .ok (.ireturn, 1) := by decide +kernel
theorem dL_bet_25 : decode cL_bet 25 = .ok (.astore 6, 2) := by decide +kernel
theorem dL_bet_27 : decode cL_bet 27 = .ok (.iconst 3, 1) := by decide +kernel
theorem dL_bet_28 : decode cL_bet 28 = .ok (.ireturn, 1) := by decide +kernel
theorem dL_bet_29 : decode cL_bet 29 = .ok (.iconst 0, 1) := by decide +kernel
theorem dL_bet_30 : decode cL_bet 30 = .ok (.ireturn, 1) := by decide +kernel
theorem dL_dig_0 : decode cL_dig 0 = .ok (.aload_n 3, 1) := by decide +kernel
theorem dL_dig_1 : decode cL_dig 1 = .ok (.iconst 0, 1) := by decide +kernel
theorem dL_dig_2 : decode cL_dig 2 = .ok (.aload_n 0, 1) := by decide +kernel
theorem dL_dig_3 : decode cL_dig 3 = .ok (.iload_n 1, 1) := by decide +kernel
theorem dL_dig_4 : decode cL_dig 4 = .ok (.iload_n 2, 1) := by decide +kernel
theorem dL_dig_5 : decode cL_dig 5 = .ok (.invokevirtual 41, 3) := by decide +kernel
theorem dL_dig_8 : decode cL_dig 8 = .ok (.i2l, 1) := by decide +kernel
theorem dL_dig_9 : decode cL_dig 9 = .ok (.lastore, 1) := by decide +kernel
theorem dL_dig_10 : decode cL_dig 10 = .ok (.goto 15, 3) := by decide +kernel
theorem dL_dig_13 : decode cL_dig 13 = .ok (.astore 4, 2) := by decide +kernel
theorem dL_dig_15 : decode cL_dig 15 = .ok (.iconst 1, 1) := by decide +kernel
theorem dL_dig_16 : decode cL_dig 16 = .ok (.ireturn, 1) := by decide +kernel
theorem dL_dig_17 : decode cL_dig 17 = .ok (.astore 4, 2) := by decide +kernel
theorem dL_dig_19 : decode cL_dig 19 = .ok (.iconst 2, 1) := by decide +kernel
theorem dL_dig_20 : decode cL_dig 20 = .ok (.ireturn, 1) := by decide +kernel
theorem dL_dig_21 : decode cL_dig 21 = .ok (.astore 4, 2) := by decide +kernel
theorem dL_dig_23 : decode cL_dig 23 = .ok (.iconst 3, 1) := by decide +kernel
theorem dL_dig_24 : decode cL_dig 24 = .ok (.ireturn, 1) := by decide +kernel
theorem dL_dig_25 : decode cL_dig 25 = .ok (.iconst 0, 1) := by decide +kernel
theorem dL_dig_26 : decode cL_dig 26 = .ok (.ireturn, 1) := by decide +kernel
theorem dL_spot_0 : decode cL_spot 0 = .ok (.aload 4, 2) := by decide +kernel
theorem dL_spot_2 : decode cL_spot 2 = .ok (.iconst 0, 1) := by decide +kernel
theorem dL_spot_3 : decode cL_spot 3 = .ok (.aload_n 0, 1) := by decide +kernel
theorem dL_spot_4 : decode cL_spot 4 = .ok (.iload_n 1, 1) := by decide +kernel
theorem dL_spot_5 : decode cL_spot 5 = .ok (.iload_n 2, 1) := by decide +kernel
theorem dL_spot_6 : decode cL_spot 6 = .ok (.iload_n 3, 1) := by decide +kernel
theorem dL_spot_7 : decode cL_spot 7 = .ok (.invokevirtual 44, 3) := by decide +kernel
theorem dL_spot_10 : decode cL_spot 10 = .ok (.i2l, 1) := by decide +kernel
theorem dL_spot_11 : decode cL_spot 11 = .ok (.lastore, 1) := by decide +kernel
theorem dL_spot_12 : decode cL_spot 12 = .ok (.goto 7, 3) := by decide +kernel
theorem dL_spot_15 : decode cL_spot 15 = .ok (.astore 5, 2) := by decide +kernel
theorem dL_spot_17 : decode cL_spot 17 = .ok (.iconst 1, 1) := by decide +kernel
theorem dL_spot_18 : decode cL_spot 18 = .ok (.ireturn, 1) := by decide +kernel
theorem dL_spot_19 : decode cL_spot 19 = .ok (.iconst 0, 1) := by decide +kernel
theorem dL_spot_20 : decode cL_spot 20 = .ok (.ireturn, 1) := by decide +kernel
theorem dL_rod_0 : decode cL_rod 0 = .ok (.aload 4, 2) := by decide +kernel
theorem dL_rod_2 : decode cL_rod 2 = .ok (.iconst 0, 1) := by decide +kernel
theorem dL_rod_3 : decode cL_rod 3 = .ok (.aload_n 0, 1) := by decide +kernel
theorem dL_rod_4 : decode cL_rod 4 = .ok (.iload_n 1, 1) := by decide +kernel
theorem dL_rod_5 : decode cL_rod 5 = .ok (.iload_n 2, 1) := by decide +kernel
theorem dL_rod_6 : decode cL_rod 6 = .ok (.iload_n 3, 1) := by decide +kernel
theorem dL_rod_7 : decode cL_rod 7 = .ok (.invokevirtual 48, 3) := by decide +kernel
theorem dL_rod_10 : decode cL_rod 10 = .ok (.i2l, 1) := by decide +kernel
theorem dL_rod_11 : decode cL_rod 11 = .ok (.lastore, 1) := by decide +kernel
theorem dL_rod_12 : decode cL_rod 12 = .ok (.goto 7, 3) := by decide +kernel
theorem dL_rod_15 : decode cL_rod 15 = .ok (.astore 5, 2) := by decide +kernel
theorem dL_rod_17 : decode cL_rod 17 = .ok (.iconst 1, 1) := by decide +kernel
theorem dL_rod_18 : decode cL_rod 18 = .ok (.ireturn, 1) := by decide +kernel
theorem dL_rod_19 : decode cL_rod 19 = .ok (.iconst 0, 1) := by decide +kernel
theorem dL_rod_20 : decode cL_rod 20 = .ok (.ireturn, 1) := by decide +kernel
theorem dL_told_0 : decode cL_told 0 = .ok (.aload_n 3, 1) := by decide +kernel
theorem dL_told_1 : decode cL_told 1 = .ok (.iconst 0, 1) := by decide +kernel
theorem dL_told_2 : decode cL_told 2 = .ok (.aload_n 0, 1) := by decide +kernel
theorem dL_told_3 : decode cL_told 3 = .ok (.iload_n 1, 1) := by decide +kernel
theorem dL_told_4 : decode cL_told 4 = .ok (.iload_n 2, 1) := by decide +kernel
theorem dL_told_5 : decode cL_told 5 = .ok (.invokevirtual 51, 3) := by decide +kernel
theorem dL_told_8 : decode cL_told 8 = .ok (.i2l, 1) := by decide +kernel
theorem dL_told_9 : decode cL_told 9 = .ok (.lastore, 1) := by decide +kernel
theorem dL_told_10 : decode cL_told 10 = .ok (.goto 7, 3) := by decide +kernel
theorem dL_told_13 : decode cL_told 13 = .ok (.astore 4, 2) := by decide +kernel
theorem dL_told_15 : decode cL_told 15 = .ok (.iconst 1, 1) := by decide +kernel
theorem dL_told_16 : decode cL_told 16 = .ok (.ireturn, 1) := by decide +kernel
theorem dL_told_17 : decode cL_told 17 = .ok (.iconst 0, 1) := by decide +kernel
theorem dL_told_18 : decode cL_told 18 = .ok (.ireturn, 1) := by decide +kernel
theorem dL_about_0 : decode cL_about 0 = .ok (.aload_n 3, 1) := by decide +kernel
theorem dL_about_1 : decode cL_about 1 = .ok (.iconst 0, 1) := by decide +kernel
theorem dL_about_2 : decode cL_about 2 = .ok (.aload_n 0, 1) := by decide +kernel
theorem dL_about_3 : decode cL_about 3 = .ok (.iload_n 1, 1) := by decide +kernel
theorem dL_about_4 : decode cL_about 4 = .ok (.iload_n 2, 1) := by decide +kernel
theorem dL_about_5 : decode cL_about 5 = .ok (.invokevirtual 54, 3) := by decide +kernel
theorem dL_about_8 : decode cL_about 8 = .ok (.i2l, 1) := by decide +kernel
theorem dL_about_9 : decode cL_about 9 = .ok (.lastore, 1) := by decide +kernel
theorem dL_about_10 : decode cL_about 10 = .ok (.goto 7, 3) := by decide +kernel
theorem dL_about_13 : decode cL_about 13 = .ok (.astore 4, 2) := by decide +kernel
theorem dL_about_15 : decode cL_about 15 = .ok (.iconst 1, 1) := by decide +kernel
theorem dL_about_16 : decode cL_about 16 = .ok (.ireturn, 1) := by decide +kernel
theorem dL_about_17 : decode cL_about 17 = .ok (.iconst 0, 1) := by decide +kernel
theorem dL_about_18 : decode cL_about 18 = .ok (.ireturn, 1) := by decide +kernel
theorem dL_count_0 : decode cL_count 0 = .ok (.aload_n 2, 1) := by decide +kernel
theorem dL_count_1 : decode cL_count 1 = .ok (.iconst 0, 1) := by decide +kernel
theorem dL_count_2 : decode cL_count 2 = .ok (.aload_n 0, 1) := by decide +kernel
theorem dL_count_3 : decode cL_count 3 = .ok (.iload_n 1, 1) := by decide +kernel
theorem dL_count_4 : decode cL_count 4 = .ok (.invokevirtual 57, 3) := by decide +kernel
theorem dL_count_7 : decode cL_count 7 = .ok (.i2l, 1) := by decide +kernel
theorem dL_count_8 : decode cL_count 8 = .ok (.lastore, 1) := by decide +kernel
theorem dL_count_9 : decode cL_count 9 = .ok (.goto 6, 3) := by decide +kernel
theorem dL_count_12 : decode cL_count 12 = .ok (.astore_n 3, 1) := by decide +kernel
theorem dL_count_13 : decode cL_count 13 = .ok (.iconst 1, 1) := by decide +kernel
theorem dL_count_14 : decode cL_count 14 = .ok (.ireturn, 1) := by decide +kernel
theorem dL_count_15 : decode cL_count 15 = .ok (.iconst 0, 1) := by decide +kernel
theorem dL_count_16 : decode cL_count 16 = .ok (.ireturn, 1) := by decide +kernel
theorem dL_line_0 : decode cL_line 0 = .ok (.aload_n 2, 1) := by decide +kernel
theorem dL_line_1 : decode cL_line 1 = .ok (.iconst 0, 1) := by decide +kernel
theorem dL_line_2 : decode cL_line 2 = .ok (.aload_n 0, 1) := by decide +kernel
theorem dL_line_3 : decode cL_line 3 = .ok (.iload_n 1, 1) := by decide +kernel
theorem dL_line_4 : decode cL_line 4 = .ok (.invokevirtual 60, 3) := by decide +kernel
theorem dL_line_7 : decode cL_line 7 = .ok (.i2l, 1) := by decide +kernel
theorem dL_line_8 : decode cL_line 8 = .ok (.lastore, 1) := by decide +kernel
theorem dL_line_9 : decode cL_line 9 = .ok (.goto 6, 3) := by decide +kernel
theorem dL_line_12 : decode cL_line 12 = .ok (.astore_n 3, 1) := by decide +kernel
theorem dL_line_13 : decode cL_line 13 = .ok (.iconst 1, 1) := by decide +kernel
theorem dL_line_14 : decode cL_line 14 = .ok (.ireturn, 1) := by decide +kernel
theorem dL_line_15 : decode cL_line 15 = .ok (.iconst 0, 1) := by decide +kernel
theorem dL_line_16 : decode cL_line 16 = .ok (.ireturn, 1) := by decide +kernel
theorem dL_would_0 : decode cL_would 0 = .ok (.aload 4, 2) := by decide +kernel
theorem dL_would_2 : decode cL_would 2 = .ok (.iconst 0, 1) := by decide +kernel
theorem dL_would_3 : decode cL_would 3 = .ok (.aload_n 0, 1) := by decide +kernel
theorem dL_would_4 : decode cL_would 4 = .ok (.iload_n 1, 1) := by decide +kernel
theorem dL_would_5 : decode cL_would 5 = .ok (.iload_n 2, 1) := by decide +kernel
theorem dL_would_6 : decode cL_would 6 = .ok (.iload_n 3, 1) := by decide +kernel
theorem dL_would_7 : decode cL_would 7 = .ok (.invokevirtual 63, 3) := by decide +kernel
theorem dL_would_10 : decode cL_would 10 = .ok (.i2l, 1) := by decide +kernel
theorem dL_would_11 : decode cL_would 11 = .ok (.lastore, 1) := by decide +kernel
theorem dL_would_12 : decode cL_would 12 = .ok (.goto 7, 3) := by decide +kernel
theorem dL_would_15 : decode cL_would 15 = .ok (.astore 5, 2) := by decide +kernel
theorem dL_would_17 : decode cL_would 17 = .ok (.iconst 1, 1) := by decide +kernel
theorem dL_would_18 : decode cL_would 18 = .ok (.ireturn, 1) := by decide +kernel
theorem dL_would_19 : decode cL_would 19 = .ok (.iconst 0, 1) := by decide +kernel
theorem dL_would_20 : decode cL_would 20 = .ok (.ireturn, 1) := by decide +kernel
theorem dL_best_0 : decode cL_best 0 = .ok (.aload_n 3, 1) := by decide +kernel
theorem dL_best_1 : decode cL_best 1 = .ok (.iconst 0, 1) := by decide +kernel
theorem dL_best_2 : decode cL_best 2 = .ok (.aload_n 0, 1) := by decide +kernel
theorem dL_best_3 : decode cL_best 3 = .ok (.iload_n 1, 1) := by decide +kernel
theorem dL_best_4 : decode cL_best 4 = .ok (.iload_n 2, 1) := by decide +kernel
theorem dL_best_5 : decode cL_best 5 = .ok (.invokevirtual 67, 3) := by decide +kernel
theorem dL_best_8 : decode cL_best 8 = .ok (.i2l, 1) := by decide +kernel
theorem dL_best_9 : decode cL_best 9 = .ok (.lastore, 1) := by decide +kernel
theorem dL_best_10 : decode cL_best 10 = .ok (.goto 7, 3) := by decide +kernel
theorem dL_best_13 : decode cL_best 13 = .ok (.astore 4, 2) := by decide +kernel
theorem dL_best_15 : decode cL_best 15 = .ok (.iconst 1, 1) := by decide +kernel
theorem dL_best_16 : decode cL_best 16 = .ok (.ireturn, 1) := by decide +kernel
theorem dL_best_17 : decode cL_best 17 = .ok (.iconst 0, 1) := by decide +kernel
theorem dL_best_18 : decode cL_best 18 = .ok (.ireturn, 1) := by decide +kernel
theorem dL_law_0 : decode cL_law 0 = .ok (.new 8, 3) := by decide +kernel
theorem dL_law_3 : decode cL_law 3 = .ok (.dup, 1) := by decide +kernel
theorem dL_law_4 : decode cL_law 4 = .ok (.invokespecial 70, 3) := by decide +kernel
theorem dL_law_7 : decode cL_law 7 = .ok (.astore_n 1, 1) := by decide +kernel
theorem dL_law_8 : decode cL_law 8 = .ok (.new 71, 3) := by decide +kernel
theorem dL_law_11 : decode cL_law 11 = .ok (.dup, 1) := by decide +kernel
theorem dL_law_12 : decode cL_law 12 = .ok (.invokespecial 73, 3) := by decide +kernel
theorem dL_law_15 : decode cL_law 15 = .ok (.astore_n 2, 1) := by decide +kernel
theorem dL_law_16 : decode cL_law 16 = .ok (.iconst 1, 1) := by decide +kernel
theorem dL_law_17 : decode cL_law 17 = .ok (.newarray .long, 2) := by decide +kernel
theorem dL_law_19 : decode cL_law 19 = .ok (.astore_n 3, 1) := by decide +kernel
theorem dL_law_20 : decode cL_law 20 = .ok (.iconst 0, 1) := by decide +kernel
theorem dL_law_21 : decode cL_law 21 = .ok (.istore 4, 2) := by decide +kernel
theorem dL_law_23 : decode cL_law 23 = .ok (.iload 4, 2) := by decide +kernel
theorem dL_law_25 : decode cL_law 25 = .ok (.aload_n 0, 1) := by decide +kernel
theorem dL_law_26 : decode cL_law 26 = .ok (.arraylength, 1) := by decide +kernel
theorem dL_law_27 : decode cL_law 27 = .ok (.bipush 7, 2) := by decide +kernel
theorem dL_law_29 : decode cL_law 29 = .ok (.isub, 1) := by decide +kernel
theorem dL_law_30 : decode cL_law 30 = .ok (.if_icmp .gt 1406, 3) := by decide +kernel
theorem dL_law_33 : decode cL_law 33 = .ok (.aload_n 0, 1) := by decide +kernel
theorem dL_law_34 : decode cL_law 34 = .ok (.iload 4, 2) := by decide +kernel
theorem dL_law_36 : decode cL_law 36 = .ok (.iaload, 1) := by decide +kernel
theorem dL_law_37 : decode cL_law 37 = .ok (.bipush 31, 2) := by decide +kernel
theorem dL_law_39 : decode cL_law 39 = .ok (.iand, 1) := by decide +kernel
theorem dL_law_40 : decode cL_law 40 = .ok (.tableswitch 1390 0 18 #[92, 210, 278, 334, 438, 506, 574, 682, 750, 830, 910, 978, 1046, 1102, 1158, 1254, 1322, 1335, 1376], 92) := by decide +kernel
theorem dL_law_132 : decode cL_law 132 = .ok (.aload_n 1, 1) := by decide +kernel
theorem dL_law_133 : decode cL_law 133 = .ok (.aload_n 0, 1) := by decide +kernel
theorem dL_law_134 : decode cL_law 134 = .ok (.iload 4, 2) := by decide +kernel
theorem dL_law_136 : decode cL_law 136 = .ok (.iconst 1, 1) := by decide +kernel
theorem dL_law_137 : decode cL_law 137 = .ok (.iadd, 1) := by decide +kernel
theorem dL_law_138 : decode cL_law 138 = .ok (.iaload, 1) := by decide +kernel
theorem dL_law_139 : decode cL_law 139 = .ok (.aload_n 0, 1) := by decide +kernel
theorem dL_law_140 : decode cL_law 140 = .ok (.iload 4, 2) := by decide +kernel
theorem dL_law_142 : decode cL_law 142 = .ok (.iconst 2, 1) := by decide +kernel
theorem dL_law_143 : decode cL_law 143 = .ok (.iadd, 1) := by decide +kernel
theorem dL_law_144 : decode cL_law 144 = .ok (.iaload, 1) := by decide +kernel
theorem dL_law_145 : decode cL_law 145 = .ok (.aload_n 0, 1) := by decide +kernel
theorem dL_law_146 : decode cL_law 146 = .ok (.iload 4, 2) := by decide +kernel
theorem dL_law_148 : decode cL_law 148 = .ok (.iconst 3, 1) := by decide +kernel
theorem dL_law_149 : decode cL_law 149 = .ok (.iadd, 1) := by decide +kernel
theorem dL_law_150 : decode cL_law 150 = .ok (.iaload, 1) := by decide +kernel
theorem dL_law_151 : decode cL_law 151 = .ok (.aload_n 0, 1) := by decide +kernel
theorem dL_law_152 : decode cL_law 152 = .ok (.iload 4, 2) := by decide +kernel
theorem dL_law_154 : decode cL_law 154 = .ok (.iconst 4, 1) := by decide +kernel
theorem dL_law_155 : decode cL_law 155 = .ok (.iadd, 1) := by decide +kernel
theorem dL_law_156 : decode cL_law 156 = .ok (.iaload, 1) := by decide +kernel
theorem dL_law_157 : decode cL_law 157 = .ok (.aload_n 0, 1) := by decide +kernel
theorem dL_law_158 : decode cL_law 158 = .ok (.iload 4, 2) := by decide +kernel
theorem dL_law_160 : decode cL_law 160 = .ok (.iconst 5, 1) := by decide +kernel
theorem dL_law_161 : decode cL_law 161 = .ok (.iadd, 1) := by decide +kernel
theorem dL_law_162 : decode cL_law 162 = .ok (.iaload, 1) := by decide +kernel
theorem dL_law_163 : decode cL_law 163 = .ok (.aload_n 0, 1) := by decide +kernel
theorem dL_law_164 : decode cL_law 164 = .ok (.iload 4, 2) := by decide +kernel
theorem dL_law_166 : decode cL_law 166 = .ok (.bipush 6, 2) := by decide +kernel
theorem dL_law_168 : decode cL_law 168 = .ok (.iadd, 1) := by decide +kernel
theorem dL_law_169 : decode cL_law 169 = .ok (.iaload, 1) := by decide +kernel
theorem dL_law_170 : decode cL_law 170 = .ok (.aload_n 3, 1) := by decide +kernel
theorem dL_law_171 : decode cL_law 171 = .ok (.invokestatic 74, 3) := by decide +kernel
theorem dL_law_174 : decode cL_law 174 = .ok (.istore 5, 2) := by decide +kernel
theorem dL_law_176 : decode cL_law 176 = .ok (.aload_n 2, 1) := by decide +kernel
theorem dL_law_177 : decode cL_law 177 = .ok (.aload_n 0, 1) := by decide +kernel
theorem dL_law_178 : decode cL_law 178 = .ok (.iload 4, 2) := by decide +kernel
theorem dL_law_180 : decode cL_law 180 = .ok (.iconst 1, 1) := by decide +kernel
theorem dL_law_181 : decode cL_law 181 = .ok (.iadd, 1) := by decide +kernel
theorem dL_law_182 : decode cL_law 182 = .ok (.iaload, 1) := by decide +kernel
theorem dL_law_183 : decode cL_law 183 = .ok (.aload_n 0, 1) := by decide +kernel
theorem dL_law_184 : decode cL_law 184 = .ok (.iload 4, 2) := by decide +kernel
theorem dL_law_186 : decode cL_law 186 = .ok (.iconst 2, 1) := by decide +kernel
theorem dL_law_187 : decode cL_law 187 = .ok (.iadd, 1) := by decide +kernel
theorem dL_law_188 : decode cL_law 188 = .ok (.iaload, 1) := by decide +kernel
theorem dL_law_189 : decode cL_law 189 = .ok (.aload_n 0, 1) := by decide +kernel
theorem dL_law_190 : decode cL_law 190 = .ok (.iload 4, 2) := by decide +kernel
theorem dL_law_192 : decode cL_law 192 = .ok (.iconst 3, 1) := by decide +kernel
theorem dL_law_193 : decode cL_law 193 = .ok (.iadd, 1) := by decide +kernel
theorem dL_law_194 : decode cL_law 194 = .ok (.iaload, 1) := by decide +kernel
theorem dL_law_195 : decode cL_law 195 = .ok (.aload_n 0, 1) := by decide +kernel
theorem dL_law_196 : decode cL_law 196 = .ok (.iload 4, 2) := by decide +kernel
theorem dL_law_198 : decode cL_law 198 = .ok (.iconst 4, 1) := by decide +kernel
theorem dL_law_199 : decode cL_law 199 = .ok (.iadd, 1) := by decide +kernel
theorem dL_law_200 : decode cL_law 200 = .ok (.iaload, 1) := by decide +kernel
theorem dL_law_201 : decode cL_law 201 = .ok (.aload_n 0, 1) := by decide +kernel
theorem dL_law_202 : decode cL_law 202 = .ok (.iload 4, 2) := by decide +kernel
theorem dL_law_204 : decode cL_law 204 = .ok (.iconst 5, 1) := by decide +kernel
theorem dL_law_205 : decode cL_law 205 = .ok (.iadd, 1) := by decide +kernel
theorem dL_law_206 : decode cL_law 206 = .ok (.iaload, 1) := by decide +kernel
theorem dL_law_207 : decode cL_law 207 = .ok (.aload_n 0, 1) := by decide +kernel
theorem dL_law_208 : decode cL_law 208 = .ok (.iload 4, 2) := by decide +kernel
theorem dL_law_210 : decode cL_law 210 = .ok (.bipush 6, 2) := by decide +kernel
theorem dL_law_212 : decode cL_law 212 = .ok (.iadd, 1) := by decide +kernel
theorem dL_law_213 : decode cL_law 213 = .ok (.iaload, 1) := by decide +kernel
theorem dL_law_214 : decode cL_law 214 = .ok (.invokevirtual 79, 3) := by decide +kernel
theorem dL_law_217 : decode cL_law 217 = .ok (.istore 6, 2) := by decide +kernel
theorem dL_law_219 : decode cL_law 219 = .ok (.aload_n 2, 1) := by decide +kernel
theorem dL_law_220 : decode cL_law 220 = .ok (.invokevirtual 80, 3) := by decide +kernel
theorem dL_law_223 : decode cL_law 223 = .ok (.iload 5, 2) := by decide +kernel
theorem dL_law_225 : decode cL_law 225 = .ok (.if_icmp .eq 5, 3) := by decide +kernel
theorem dL_law_228 : decode cL_law 228 = .ok (.iconst 0, 1) := by decide +kernel
theorem dL_law_229 : decode cL_law 229 = .ok (.ireturn, 1) := by decide +kernel
theorem dL_law_230 : decode cL_law 230 = .ok (.iload 5, 2) := by decide +kernel
theorem dL_law_232 : decode cL_law 232 = .ok (.ifCond .ne 15, 3) := by decide +kernel
theorem dL_law_235 : decode cL_law 235 = .ok (.aload_n 3, 1) := by decide +kernel
theorem dL_law_236 : decode cL_law 236 = .ok (.iconst 0, 1) := by decide +kernel
theorem dL_law_237 : decode cL_law 237 = .ok (.laload, 1) := by decide +kernel
theorem dL_law_238 : decode cL_law 238 = .ok (.iload 6, 2) := by decide +kernel
theorem dL_law_240 : decode cL_law 240 = .ok (.i2l, 1) := by decide +kernel
theorem dL_law_241 : decode cL_law 241 = .ok (.lcmp, 1) := by decide +kernel
theorem dL_law_242 : decode cL_law 242 = .ok (.ifCond .eq 5, 3) := by decide +kernel
theorem dL_law_245 : decode cL_law 245 = .ok (.iconst 0, 1) := by decide +kernel
theorem dL_law_246 : decode cL_law 246 = .ok (.ireturn, 1) := by decide +kernel
theorem dL_law_247 : decode cL_law 247 = .ok (.goto 1183, 3) := by decide +kernel
theorem dL_law_250 : decode cL_law 250 = .ok (.aload_n 1, 1) := by decide +kernel
theorem dL_law_251 : decode cL_law 251 = .ok (.aload_n 0, 1) := by decide +kernel
theorem dL_law_252 : decode cL_law 252 = .ok (.iload 4, 2) := by decide +kernel
theorem dL_law_254 : decode cL_law 254 = .ok (.iconst 1, 1) := by decide +kernel
theorem dL_law_255 : decode cL_law 255 = .ok (.iadd, 1) := by decide +kernel
theorem dL_law_256 : decode cL_law 256 = .ok (.iaload, 1) := by decide +kernel
theorem dL_law_257 : decode cL_law 257 = .ok (.aload_n 0, 1) := by decide +kernel
theorem dL_law_258 : decode cL_law 258 = .ok (.iload 4, 2) := by decide +kernel
theorem dL_law_260 : decode cL_law 260 = .ok (.iconst 2, 1) := by decide +kernel
theorem dL_law_261 : decode cL_law 261 = .ok (.iadd, 1) := by decide +kernel
theorem dL_law_262 : decode cL_law 262 = .ok (.iaload, 1) := by decide +kernel
theorem dL_law_263 : decode cL_law 263 = .ok (.aload_n 3, 1) := by decide +kernel
theorem dL_law_264 : decode cL_law 264 = .ok (.invokestatic 84, 3) := by decide +kernel
theorem dL_law_267 : decode cL_law 267 = .ok (.istore 5, 2) := by decide +kernel
theorem dL_law_269 : decode cL_law 269 = .ok (.aload_n 2, 1) := by decide +kernel
theorem dL_law_270 : decode cL_law 270 = .ok (.aload_n 0, 1) := by decide +kernel
theorem dL_law_271 : decode cL_law 271 = .ok (.iload 4, 2) := by decide +kernel
theorem dL_law_273 : decode cL_law 273 = .ok (.iconst 1, 1) := by decide +kernel
theorem dL_law_274 : decode cL_law 274 = .ok (.iadd, 1) := by decide +kernel
theorem dL_law_275 : decode cL_law 275 = .ok (.iaload, 1) := by decide +kernel
theorem dL_law_276 : decode cL_law 276 = .ok (.aload_n 0, 1) := by decide +kernel
theorem dL_law_277 : decode cL_law 277 = .ok (.iload 4, 2) := by decide +kernel
theorem dL_law_279 : decode cL_law 279 = .ok (.iconst 2, 1) := by decide +kernel
theorem dL_law_280 : decode cL_law 280 = .ok (.iadd, 1) := by decide +kernel
theorem dL_law_281 : decode cL_law 281 = .ok (.iaload, 1) := by decide +kernel
theorem dL_law_282 : decode cL_law 282 = .ok (.invokevirtual 87, 3) := by decide +kernel
theorem dL_law_285 : decode cL_law 285 = .ok (.istore 6, 2) := by decide +kernel
theorem dL_law_287 : decode cL_law 287 = .ok (.aload_n 2, 1) := by decide +kernel
theorem dL_law_288 : decode cL_law 288 = .ok (.invokevirtual 80, 3) := by decide +kernel
theorem dL_law_291 : decode cL_law 291 = .ok (.iload 5, 2) := by decide +kernel
theorem dL_law_293 : decode cL_law 293 = .ok (.if_icmp .eq 5, 3) := by decide +kernel
theorem dL_law_296 : decode cL_law 296 = .ok (.iconst 0, 1) := by decide +kernel
theorem dL_law_297 : decode cL_law 297 = .ok (.ireturn, 1) := by decide +kernel
theorem dL_law_298 : decode cL_law 298 = .ok (.iload 5, 2) := by decide +kernel
theorem dL_law_300 : decode cL_law 300 = .ok (.ifCond .ne 15, 3) := by decide +kernel
theorem dL_law_303 : decode cL_law 303 = .ok (.aload_n 3, 1) := by decide +kernel
theorem dL_law_304 : decode cL_law 304 = .ok (.iconst 0, 1) := by decide +kernel
theorem dL_law_305 : decode cL_law 305 = .ok (.laload, 1) := by decide +kernel
theorem dL_law_306 : decode cL_law 306 = .ok (.iload 6, 2) := by decide +kernel
theorem dL_law_308 : decode cL_law 308 = .ok (.i2l, 1) := by decide +kernel
theorem dL_law_309 : decode cL_law 309 = .ok (.lcmp, 1) := by decide +kernel
theorem dL_law_310 : decode cL_law 310 = .ok (.ifCond .eq 5, 3) := by decide +kernel
theorem dL_law_313 : decode cL_law 313 = .ok (.iconst 0, 1) := by decide +kernel
theorem dL_law_314 : decode cL_law 314 = .ok (.ireturn, 1) := by decide +kernel
theorem dL_law_315 : decode cL_law 315 = .ok (.goto 1115, 3) := by decide +kernel
theorem dL_law_318 : decode cL_law 318 = .ok (.aload_n 1, 1) := by decide +kernel
theorem dL_law_319 : decode cL_law 319 = .ok (.aload_n 0, 1) := by decide +kernel
theorem dL_law_320 : decode cL_law 320 = .ok (.iload 4, 2) := by decide +kernel
theorem dL_law_322 : decode cL_law 322 = .ok (.iconst 1, 1) := by decide +kernel
theorem dL_law_323 : decode cL_law 323 = .ok (.iadd, 1) := by decide +kernel
theorem dL_law_324 : decode cL_law 324 = .ok (.iaload, 1) := by decide +kernel
theorem dL_law_325 : decode cL_law 325 = .ok (.aload_n 3, 1) := by decide +kernel
theorem dL_law_326 : decode cL_law 326 = .ok (.invokestatic 88, 3) := by decide +kernel
theorem dL_law_329 : decode cL_law 329 = .ok (.istore 5, 2) := by decide +kernel
theorem dL_law_331 : decode cL_law 331 = .ok (.aload_n 2, 1) := by decide +kernel
theorem dL_law_332 : decode cL_law 332 = .ok (.aload_n 0, 1) := by decide +kernel
theorem dL_law_333 : decode cL_law 333 = .ok (.iload 4, 2) := by decide +kernel
theorem dL_law_335 : decode cL_law 335 = .ok (.iconst 1, 1) := by decide +kernel
theorem dL_law_336 : decode cL_law 336 = .ok (.iadd, 1) := by decide +kernel
theorem dL_law_337 : decode cL_law 337 = .ok (.iaload, 1) := by decide +kernel
theorem dL_law_338 : decode cL_law 338 = .ok (.invokevirtual 91, 3) := by decide +kernel
theorem dL_law_341 : decode cL_law 341 = .ok (.istore 6, 2) := by decide +kernel
theorem dL_law_343 : decode cL_law 343 = .ok (.aload_n 2, 1) := by decide +kernel
theorem dL_law_344 : decode cL_law 344 = .ok (.invokevirtual 80, 3) := by decide +kernel
theorem dL_law_347 : decode cL_law 347 = .ok (.iload 5, 2) := by decide +kernel
theorem dL_law_349 : decode cL_law 349 = .ok (.if_icmp .eq 5, 3) := by decide +kernel
theorem dL_law_352 : decode cL_law 352 = .ok (.iconst 0, 1) := by decide +kernel
theorem dL_law_353 : decode cL_law 353 = .ok (.ireturn, 1) := by decide +kernel
theorem dL_law_354 : decode cL_law 354 = .ok (.iload 5, 2) := by decide +kernel
theorem dL_law_356 : decode cL_law 356 = .ok (.ifCond .ne 15, 3) := by decide +kernel
theorem dL_law_359 : decode cL_law 359 = .ok (.aload_n 3, 1) := by decide +kernel
theorem dL_law_360 : decode cL_law 360 = .ok (.iconst 0, 1) := by decide +kernel
theorem dL_law_361 : decode cL_law 361 = .ok (.laload, 1) := by decide +kernel
theorem dL_law_362 : decode cL_law 362 = .ok (.iload 6, 2) := by decide +kernel
theorem dL_law_364 : decode cL_law 364 = .ok (.i2l, 1) := by decide +kernel
theorem dL_law_365 : decode cL_law 365 = .ok (.lcmp, 1) := by decide +kernel
theorem dL_law_366 : decode cL_law 366 = .ok (.ifCond .eq 5, 3) := by decide +kernel
theorem dL_law_369 : decode cL_law 369 = .ok (.iconst 0, 1) := by decide +kernel
theorem dL_law_370 : decode cL_law 370 = .ok (.ireturn, 1) := by decide +kernel
theorem dL_law_371 : decode cL_law 371 = .ok (.goto 1059, 3) := by decide +kernel
theorem dL_law_374 : decode cL_law 374 = .ok (.aload_n 1, 1) := by decide +kernel
theorem dL_law_375 : decode cL_law 375 = .ok (.aload_n 0, 1) := by decide +kernel
theorem dL_law_376 : decode cL_law 376 = .ok (.iload 4, 2) := by decide +kernel
theorem dL_law_378 : decode cL_law 378 = .ok (.iconst 1, 1) := by decide +kernel
theorem dL_law_379 : decode cL_law 379 = .ok (.iadd, 1) := by decide +kernel
theorem dL_law_380 : decode cL_law 380 = .ok (.iaload, 1) := by decide +kernel
theorem dL_law_381 : decode cL_law 381 = .ok (.aload_n 0, 1) := by decide +kernel
theorem dL_law_382 : decode cL_law 382 = .ok (.iload 4, 2) := by decide +kernel
theorem dL_law_384 : decode cL_law 384 = .ok (.iconst 2, 1) := by decide +kernel
theorem dL_law_385 : decode cL_law 385 = .ok (.iadd, 1) := by decide +kernel
theorem dL_law_386 : decode cL_law 386 = .ok (.iaload, 1) := by decide +kernel
theorem dL_law_387 : decode cL_law 387 = .ok (.aload_n 0, 1) := by decide +kernel
theorem dL_law_388 : decode cL_law 388 = .ok (.iload 4, 2) := by decide +kernel
theorem dL_law_390 : decode cL_law 390 = .ok (.iconst 3, 1) := by decide +kernel
theorem dL_law_391 : decode cL_law 391 = .ok (.iadd, 1) := by decide +kernel
theorem dL_law_392 : decode cL_law 392 = .ok (.iaload, 1) := by decide +kernel
theorem dL_law_393 : decode cL_law 393 = .ok (.aload_n 0, 1) := by decide +kernel
theorem dL_law_394 : decode cL_law 394 = .ok (.iload 4, 2) := by decide +kernel
theorem dL_law_396 : decode cL_law 396 = .ok (.iconst 4, 1) := by decide +kernel
theorem dL_law_397 : decode cL_law 397 = .ok (.iadd, 1) := by decide +kernel
theorem dL_law_398 : decode cL_law 398 = .ok (.iaload, 1) := by decide +kernel
theorem dL_law_399 : decode cL_law 399 = .ok (.aload_n 0, 1) := by decide +kernel
theorem dL_law_400 : decode cL_law 400 = .ok (.iload 4, 2) := by decide +kernel
theorem dL_law_402 : decode cL_law 402 = .ok (.iconst 5, 1) := by decide +kernel
theorem dL_law_403 : decode cL_law 403 = .ok (.iadd, 1) := by decide +kernel
theorem dL_law_404 : decode cL_law 404 = .ok (.iaload, 1) := by decide +kernel
theorem dL_law_405 : decode cL_law 405 = .ok (.aload_n 3, 1) := by decide +kernel
theorem dL_law_406 : decode cL_law 406 = .ok (.invokestatic 92, 3) := by decide +kernel
theorem dL_law_409 : decode cL_law 409 = .ok (.istore 5, 2) := by decide +kernel
theorem dL_law_411 : decode cL_law 411 = .ok (.aload_n 2, 1) := by decide +kernel
theorem dL_law_412 : decode cL_law 412 = .ok (.aload_n 0, 1) := by decide +kernel
theorem dL_law_413 : decode cL_law 413 = .ok (.iload 4, 2) := by decide +kernel
theorem dL_law_415 : decode cL_law 415 = .ok (.iconst 1, 1) := by decide +kernel
theorem dL_law_416 : decode cL_law 416 = .ok (.iadd, 1) := by decide +kernel
theorem dL_law_417 : decode cL_law 417 = .ok (.iaload, 1) := by decide +kernel
theorem dL_law_418 : decode cL_law 418 = .ok (.aload_n 0, 1) := by decide +kernel
theorem dL_law_419 : decode cL_law 419 = .ok (.iload 4, 2) := by decide +kernel
theorem dL_law_421 : decode cL_law 421 = .ok (.iconst 2, 1) := by decide +kernel
theorem dL_law_422 : decode cL_law 422 = .ok (.iadd, 1) := by decide +kernel
theorem dL_law_423 : decode cL_law 423 = .ok (.iaload, 1) := by decide +kernel
theorem dL_law_424 : decode cL_law 424 = .ok (.aload_n 0, 1) := by decide +kernel
theorem dL_law_425 : decode cL_law 425 = .ok (.iload 4, 2) := by decide +kernel
theorem dL_law_427 : decode cL_law 427 = .ok (.iconst 3, 1) := by decide +kernel
theorem dL_law_428 : decode cL_law 428 = .ok (.iadd, 1) := by decide +kernel
theorem dL_law_429 : decode cL_law 429 = .ok (.iaload, 1) := by decide +kernel
theorem dL_law_430 : decode cL_law 430 = .ok (.aload_n 0, 1) := by decide +kernel
theorem dL_law_431 : decode cL_law 431 = .ok (.iload 4, 2) := by decide +kernel
theorem dL_law_433 : decode cL_law 433 = .ok (.iconst 4, 1) := by decide +kernel
theorem dL_law_434 : decode cL_law 434 = .ok (.iadd, 1) := by decide +kernel
theorem dL_law_435 : decode cL_law 435 = .ok (.iaload, 1) := by decide +kernel
theorem dL_law_436 : decode cL_law 436 = .ok (.aload_n 0, 1) := by decide +kernel
theorem dL_law_437 : decode cL_law 437 = .ok (.iload 4, 2) := by decide +kernel
theorem dL_law_439 : decode cL_law 439 = .ok (.iconst 5, 1) := by decide +kernel
theorem dL_law_440 : decode cL_law 440 = .ok (.iadd, 1) := by decide +kernel
theorem dL_law_441 : decode cL_law 441 = .ok (.iaload, 1) := by decide +kernel
theorem dL_law_442 : decode cL_law 442 = .ok (.invokevirtual 95, 3) := by decide +kernel
theorem dL_law_445 : decode cL_law 445 = .ok (.istore 6, 2) := by decide +kernel
theorem dL_law_447 : decode cL_law 447 = .ok (.aload_n 2, 1) := by decide +kernel
theorem dL_law_448 : decode cL_law 448 = .ok (.invokevirtual 80, 3) := by decide +kernel
theorem dL_law_451 : decode cL_law 451 = .ok (.iload 5, 2) := by decide +kernel
theorem dL_law_453 : decode cL_law 453 = .ok (.if_icmp .eq 5, 3) := by decide +kernel
theorem dL_law_456 : decode cL_law 456 = .ok (.iconst 0, 1) := by decide +kernel
theorem dL_law_457 : decode cL_law 457 = .ok (.ireturn, 1) := by decide +kernel
theorem dL_law_458 : decode cL_law 458 = .ok (.iload 5, 2) := by decide +kernel
theorem dL_law_460 : decode cL_law 460 = .ok (.ifCond .ne 15, 3) := by decide +kernel
theorem dL_law_463 : decode cL_law 463 = .ok (.aload_n 3, 1) := by decide +kernel
theorem dL_law_464 : decode cL_law 464 = .ok (.iconst 0, 1) := by decide +kernel
theorem dL_law_465 : decode cL_law 465 = .ok (.laload, 1) := by decide +kernel
theorem dL_law_466 : decode cL_law 466 = .ok (.iload 6, 2) := by decide +kernel
theorem dL_law_468 : decode cL_law 468 = .ok (.i2l, 1) := by decide +kernel
theorem dL_law_469 : decode cL_law 469 = .ok (.lcmp, 1) := by decide +kernel
theorem dL_law_470 : decode cL_law 470 = .ok (.ifCond .eq 5, 3) := by decide +kernel
theorem dL_law_473 : decode cL_law 473 = .ok (.iconst 0, 1) := by decide +kernel
theorem dL_law_474 : decode cL_law 474 = .ok (.ireturn, 1) := by decide +kernel
theorem dL_law_475 : decode cL_law 475 = .ok (.goto 955, 3) := by decide +kernel
theorem dL_law_478 : decode cL_law 478 = .ok (.aload_n 1, 1) := by decide +kernel
theorem dL_law_479 : decode cL_law 479 = .ok (.aload_n 0, 1) := by decide +kernel
theorem dL_law_480 : decode cL_law 480 = .ok (.iload 4, 2) := by decide +kernel
theorem dL_law_482 : decode cL_law 482 = .ok (.iconst 1, 1) := by decide +kernel
theorem dL_law_483 : decode cL_law 483 = .ok (.iadd, 1) := by decide +kernel
theorem dL_law_484 : decode cL_law 484 = .ok (.iaload, 1) := by decide +kernel
theorem dL_law_485 : decode cL_law 485 = .ok (.aload_n 0, 1) := by decide +kernel
theorem dL_law_486 : decode cL_law 486 = .ok (.iload 4, 2) := by decide +kernel
theorem dL_law_488 : decode cL_law 488 = .ok (.iconst 2, 1) := by decide +kernel
theorem dL_law_489 : decode cL_law 489 = .ok (.iadd, 1) := by decide +kernel
theorem dL_law_490 : decode cL_law 490 = .ok (.iaload, 1) := by decide +kernel
theorem dL_law_491 : decode cL_law 491 = .ok (.aload_n 3, 1) := by decide +kernel
theorem dL_law_492 : decode cL_law 492 = .ok (.invokestatic 96, 3) := by decide +kernel
theorem dL_law_495 : decode cL_law 495 = .ok (.istore 5, 2) := by decide +kernel
theorem dL_law_497 : decode cL_law 497 = .ok (.aload_n 2, 1) := by decide +kernel
theorem dL_law_498 : decode cL_law 498 = .ok (.aload_n 0, 1) := by decide +kernel
theorem dL_law_499 : decode cL_law 499 = .ok (.iload 4, 2) := by decide +kernel
theorem dL_law_501 : decode cL_law 501 = .ok (.iconst 1, 1) := by decide +kernel
theorem dL_law_502 : decode cL_law 502 = .ok (.iadd, 1) := by decide +kernel
theorem dL_law_503 : decode cL_law 503 = .ok (.iaload, 1) := by decide +kernel
theorem dL_law_504 : decode cL_law 504 = .ok (.aload_n 0, 1) := by decide +kernel
theorem dL_law_505 : decode cL_law 505 = .ok (.iload 4, 2) := by decide +kernel
theorem dL_law_507 : decode cL_law 507 = .ok (.iconst 2, 1) := by decide +kernel
theorem dL_law_508 : decode cL_law 508 = .ok (.iadd, 1) := by decide +kernel
theorem dL_law_509 : decode cL_law 509 = .ok (.iaload, 1) := by decide +kernel
theorem dL_law_510 : decode cL_law 510 = .ok (.invokevirtual 98, 3) := by decide +kernel
theorem dL_law_513 : decode cL_law 513 = .ok (.istore 6, 2) := by decide +kernel
theorem dL_law_515 : decode cL_law 515 = .ok (.aload_n 2, 1) := by decide +kernel
theorem dL_law_516 : decode cL_law 516 = .ok (.invokevirtual 80, 3) := by decide +kernel
theorem dL_law_519 : decode cL_law 519 = .ok (.iload 5, 2) := by decide +kernel
theorem dL_law_521 : decode cL_law 521 = .ok (.if_icmp .eq 5, 3) := by decide +kernel
theorem dL_law_524 : decode cL_law 524 = .ok (.iconst 0, 1) := by decide +kernel
theorem dL_law_525 : decode cL_law 525 = .ok (.ireturn, 1) := by decide +kernel
theorem dL_law_526 : decode cL_law 526 = .ok (.iload 5, 2) := by decide +kernel
theorem dL_law_528 : decode cL_law 528 = .ok (.ifCond .ne 15, 3) := by decide +kernel
theorem dL_law_531 : decode cL_law 531 = .ok (.aload_n 3, 1) := by decide +kernel
theorem dL_law_532 : decode cL_law 532 = .ok (.iconst 0, 1) := by decide +kernel
theorem dL_law_533 : decode cL_law 533 = .ok (.laload, 1) := by decide +kernel
theorem dL_law_534 : decode cL_law 534 = .ok (.iload 6, 2) := by decide +kernel
theorem dL_law_536 : decode cL_law 536 = .ok (.i2l, 1) := by decide +kernel
theorem dL_law_537 : decode cL_law 537 = .ok (.lcmp, 1) := by decide +kernel
theorem dL_law_538 : decode cL_law 538 = .ok (.ifCond .eq 5, 3) := by decide +kernel
theorem dL_law_541 : decode cL_law 541 = .ok (.iconst 0, 1) := by decide +kernel
theorem dL_law_542 : decode cL_law 542 = .ok (.ireturn, 1) := by decide +kernel
theorem dL_law_543 : decode cL_law 543 = .ok (.goto 887, 3) := by decide +kernel
theorem dL_law_546 : decode cL_law 546 = .ok (.aload_n 1, 1) := by decide +kernel
theorem dL_law_547 : decode cL_law 547 = .ok (.aload_n 0, 1) := by decide +kernel
theorem dL_law_548 : decode cL_law 548 = .ok (.iload 4, 2) := by decide +kernel
theorem dL_law_550 : decode cL_law 550 = .ok (.iconst 1, 1) := by decide +kernel
theorem dL_law_551 : decode cL_law 551 = .ok (.iadd, 1) := by decide +kernel
theorem dL_law_552 : decode cL_law 552 = .ok (.iaload, 1) := by decide +kernel
theorem dL_law_553 : decode cL_law 553 = .ok (.aload_n 0, 1) := by decide +kernel
theorem dL_law_554 : decode cL_law 554 = .ok (.iload 4, 2) := by decide +kernel
theorem dL_law_556 : decode cL_law 556 = .ok (.iconst 2, 1) := by decide +kernel
theorem dL_law_557 : decode cL_law 557 = .ok (.iadd, 1) := by decide +kernel
theorem dL_law_558 : decode cL_law 558 = .ok (.iaload, 1) := by decide +kernel
theorem dL_law_559 : decode cL_law 559 = .ok (.aload_n 3, 1) := by decide +kernel
theorem dL_law_560 : decode cL_law 560 = .ok (.invokestatic 99, 3) := by decide +kernel
theorem dL_law_563 : decode cL_law 563 = .ok (.istore 5, 2) := by decide +kernel
theorem dL_law_565 : decode cL_law 565 = .ok (.aload_n 2, 1) := by decide +kernel
theorem dL_law_566 : decode cL_law 566 = .ok (.aload_n 0, 1) := by decide +kernel
theorem dL_law_567 : decode cL_law 567 = .ok (.iload 4, 2) := by decide +kernel
theorem dL_law_569 : decode cL_law 569 = .ok (.iconst 1, 1) := by decide +kernel
theorem dL_law_570 : decode cL_law 570 = .ok (.iadd, 1) := by decide +kernel
theorem dL_law_571 : decode cL_law 571 = .ok (.iaload, 1) := by decide +kernel
theorem dL_law_572 : decode cL_law 572 = .ok (.aload_n 0, 1) := by decide +kernel
theorem dL_law_573 : decode cL_law 573 = .ok (.iload 4, 2) := by decide +kernel
theorem dL_law_575 : decode cL_law 575 = .ok (.iconst 2, 1) := by decide +kernel
theorem dL_law_576 : decode cL_law 576 = .ok (.iadd, 1) := by decide +kernel
theorem dL_law_577 : decode cL_law 577 = .ok (.iaload, 1) := by decide +kernel
theorem dL_law_578 : decode cL_law 578 = .ok (.invokevirtual 101, 3) := by decide +kernel
theorem dL_law_581 : decode cL_law 581 = .ok (.istore 6, 2) := by decide +kernel
theorem dL_law_583 : decode cL_law 583 = .ok (.aload_n 2, 1) := by decide +kernel
theorem dL_law_584 : decode cL_law 584 = .ok (.invokevirtual 80, 3) := by decide +kernel
theorem dL_law_587 : decode cL_law 587 = .ok (.iload 5, 2) := by decide +kernel
theorem dL_law_589 : decode cL_law 589 = .ok (.if_icmp .eq 5, 3) := by decide +kernel
theorem dL_law_592 : decode cL_law 592 = .ok (.iconst 0, 1) := by decide +kernel
theorem dL_law_593 : decode cL_law 593 = .ok (.ireturn, 1) := by decide +kernel
theorem dL_law_594 : decode cL_law 594 = .ok (.iload 5, 2) := by decide +kernel
theorem dL_law_596 : decode cL_law 596 = .ok (.ifCond .ne 15, 3) := by decide +kernel
theorem dL_law_599 : decode cL_law 599 = .ok (.aload_n 3, 1) := by decide +kernel
theorem dL_law_600 : decode cL_law 600 = .ok (.iconst 0, 1) := by decide +kernel
theorem dL_law_601 : decode cL_law 601 = .ok (.laload, 1) := by decide +kernel
theorem dL_law_602 : decode cL_law 602 = .ok (.iload 6, 2) := by decide +kernel
theorem dL_law_604 : decode cL_law 604 = .ok (.i2l, 1) := by decide +kernel
theorem dL_law_605 : decode cL_law 605 = .ok (.lcmp, 1) := by decide +kernel
theorem dL_law_606 : decode cL_law 606 = .ok (.ifCond .eq 5, 3) := by decide +kernel
theorem dL_law_609 : decode cL_law 609 = .ok (.iconst 0, 1) := by decide +kernel
theorem dL_law_610 : decode cL_law 610 = .ok (.ireturn, 1) := by decide +kernel
theorem dL_law_611 : decode cL_law 611 = .ok (.goto 819, 3) := by decide +kernel
theorem dL_law_614 : decode cL_law 614 = .ok (.aload_n 1, 1) := by decide +kernel
theorem dL_law_615 : decode cL_law 615 = .ok (.aload_n 0, 1) := by decide +kernel
theorem dL_law_616 : decode cL_law 616 = .ok (.iload 4, 2) := by decide +kernel
theorem dL_law_618 : decode cL_law 618 = .ok (.iconst 1, 1) := by decide +kernel
theorem dL_law_619 : decode cL_law 619 = .ok (.iadd, 1) := by decide +kernel
theorem dL_law_620 : decode cL_law 620 = .ok (.iaload, 1) := by decide +kernel
theorem dL_law_621 : decode cL_law 621 = .ok (.aload_n 0, 1) := by decide +kernel
theorem dL_law_622 : decode cL_law 622 = .ok (.iload 4, 2) := by decide +kernel
theorem dL_law_624 : decode cL_law 624 = .ok (.iconst 2, 1) := by decide +kernel
theorem dL_law_625 : decode cL_law 625 = .ok (.iadd, 1) := by decide +kernel
theorem dL_law_626 : decode cL_law 626 = .ok (.iaload, 1) := by decide +kernel
theorem dL_law_627 : decode cL_law 627 = .ok (.aload_n 0, 1) := by decide +kernel
theorem dL_law_628 : decode cL_law 628 = .ok (.iload 4, 2) := by decide +kernel
theorem dL_law_630 : decode cL_law 630 = .ok (.iconst 3, 1) := by decide +kernel
theorem dL_law_631 : decode cL_law 631 = .ok (.iadd, 1) := by decide +kernel
theorem dL_law_632 : decode cL_law 632 = .ok (.iaload, 1) := by decide +kernel
theorem dL_law_633 : decode cL_law 633 = .ok (.aload_n 0, 1) := by decide +kernel
theorem dL_law_634 : decode cL_law 634 = .ok (.iload 4, 2) := by decide +kernel
theorem dL_law_636 : decode cL_law 636 = .ok (.iconst 4, 1) := by decide +kernel
theorem dL_law_637 : decode cL_law 637 = .ok (.iadd, 1) := by decide +kernel
theorem dL_law_638 : decode cL_law 638 = .ok (.iaload, 1) := by decide +kernel
theorem dL_law_639 : decode cL_law 639 = .ok (.ifCond .eq 7, 3) := by decide +kernel
theorem dL_law_642 : decode cL_law 642 = .ok (.iconst 1, 1) := by decide +kernel
theorem dL_law_643 : decode cL_law 643 = .ok (.goto 4, 3) := by decide +kernel
theorem dL_law_646 : decode cL_law 646 = .ok (.iconst 0, 1) := by decide +kernel
theorem dL_law_647 : decode cL_law 647 = .ok (.aload_n 3, 1) := by decide +kernel
theorem dL_law_648 : decode cL_law 648 = .ok (.invokestatic 102, 3) := by decide +kernel
theorem dL_law_651 : decode cL_law 651 = .ok (.istore 5, 2) := by decide +kernel
theorem dL_law_653 : decode cL_law 653 = .ok (.aload_n 2, 1) := by decide +kernel
theorem dL_law_654 : decode cL_law 654 = .ok (.aload_n 0, 1) := by decide +kernel
theorem dL_law_655 : decode cL_law 655 = .ok (.iload 4, 2) := by decide +kernel
theorem dL_law_657 : decode cL_law 657 = .ok (.iconst 1, 1) := by decide +kernel
theorem dL_law_658 : decode cL_law 658 = .ok (.iadd, 1) := by decide +kernel
theorem dL_law_659 : decode cL_law 659 = .ok (.iaload, 1) := by decide +kernel
theorem dL_law_660 : decode cL_law 660 = .ok (.aload_n 0, 1) := by decide +kernel
theorem dL_law_661 : decode cL_law 661 = .ok (.iload 4, 2) := by decide +kernel
theorem dL_law_663 : decode cL_law 663 = .ok (.iconst 2, 1) := by decide +kernel
theorem dL_law_664 : decode cL_law 664 = .ok (.iadd, 1) := by decide +kernel
theorem dL_law_665 : decode cL_law 665 = .ok (.iaload, 1) := by decide +kernel
theorem dL_law_666 : decode cL_law 666 = .ok (.aload_n 0, 1) := by decide +kernel
theorem dL_law_667 : decode cL_law 667 = .ok (.iload 4, 2) := by decide +kernel
theorem dL_law_669 : decode cL_law 669 = .ok (.iconst 3, 1) := by decide +kernel
theorem dL_law_670 : decode cL_law 670 = .ok (.iadd, 1) := by decide +kernel
theorem dL_law_671 : decode cL_law 671 = .ok (.iaload, 1) := by decide +kernel
theorem dL_law_672 : decode cL_law 672 = .ok (.aload_n 0, 1) := by decide +kernel
theorem dL_law_673 : decode cL_law 673 = .ok (.iload 4, 2) := by decide +kernel
theorem dL_law_675 : decode cL_law 675 = .ok (.iconst 4, 1) := by decide +kernel
theorem dL_law_676 : decode cL_law 676 = .ok (.iadd, 1) := by decide +kernel
theorem dL_law_677 : decode cL_law 677 = .ok (.iaload, 1) := by decide +kernel
theorem dL_law_678 : decode cL_law 678 = .ok (.ifCond .eq 7, 3) := by decide +kernel
theorem dL_law_681 : decode cL_law 681 = .ok (.iconst 1, 1) := by decide +kernel
theorem dL_law_682 : decode cL_law 682 = .ok (.goto 4, 3) := by decide +kernel
theorem dL_law_685 : decode cL_law 685 = .ok (.iconst 0, 1) := by decide +kernel
theorem dL_law_686 : decode cL_law 686 = .ok (.invokevirtual 105, 3) := by decide +kernel
theorem dL_law_689 : decode cL_law 689 = .ok (.istore 6, 2) := by decide +kernel
theorem dL_law_691 : decode cL_law 691 = .ok (.aload_n 2, 1) := by decide +kernel
theorem dL_law_692 : decode cL_law 692 = .ok (.invokevirtual 80, 3) := by decide +kernel
theorem dL_law_695 : decode cL_law 695 = .ok (.iload 5, 2) := by decide +kernel
theorem dL_law_697 : decode cL_law 697 = .ok (.if_icmp .eq 5, 3) := by decide +kernel
theorem dL_law_700 : decode cL_law 700 = .ok (.iconst 0, 1) := by decide +kernel
theorem dL_law_701 : decode cL_law 701 = .ok (.ireturn, 1) := by decide +kernel
theorem dL_law_702 : decode cL_law 702 = .ok (.iload 5, 2) := by decide +kernel
theorem dL_law_704 : decode cL_law 704 = .ok (.ifCond .ne 15, 3) := by decide +kernel
theorem dL_law_707 : decode cL_law 707 = .ok (.aload_n 3, 1) := by decide +kernel
theorem dL_law_708 : decode cL_law 708 = .ok (.iconst 0, 1) := by decide +kernel
theorem dL_law_709 : decode cL_law 709 = .ok (.laload, 1) := by decide +kernel
theorem dL_law_710 : decode cL_law 710 = .ok (.iload 6, 2) := by decide +kernel
theorem dL_law_712 : decode cL_law 712 = .ok (.i2l, 1) := by decide +kernel
theorem dL_law_713 : decode cL_law 713 = .ok (.lcmp, 1) := by decide +kernel
theorem dL_law_714 : decode cL_law 714 = .ok (.ifCond .eq 5, 3) := by decide +kernel
theorem dL_law_717 : decode cL_law 717 = .ok (.iconst 0, 1) := by decide +kernel
theorem dL_law_718 : decode cL_law 718 = .ok (.ireturn, 1) := by decide +kernel
theorem dL_law_719 : decode cL_law 719 = .ok (.goto 711, 3) := by decide +kernel
theorem dL_law_722 : decode cL_law 722 = .ok (.aload_n 1, 1) := by decide +kernel
theorem dL_law_723 : decode cL_law 723 = .ok (.aload_n 0, 1) := by decide +kernel
theorem dL_law_724 : decode cL_law 724 = .ok (.iload 4, 2) := by decide +kernel
theorem dL_law_726 : decode cL_law 726 = .ok (.iconst 1, 1) := by decide +kernel
theorem dL_law_727 : decode cL_law 727 = .ok (.iadd, 1) := by decide +kernel
theorem dL_law_728 : decode cL_law 728 = .ok (.iaload, 1) := by decide +kernel
theorem dL_law_729 : decode cL_law 729 = .ok (.aload_n 0, 1) := by decide +kernel
theorem dL_law_730 : decode cL_law 730 = .ok (.iload 4, 2) := by decide +kernel
theorem dL_law_732 : decode cL_law 732 = .ok (.iconst 2, 1) := by decide +kernel
theorem dL_law_733 : decode cL_law 733 = .ok (.iadd, 1) := by decide +kernel
theorem dL_law_734 : decode cL_law 734 = .ok (.iaload, 1) := by decide +kernel
theorem dL_law_735 : decode cL_law 735 = .ok (.aload_n 3, 1) := by decide +kernel
theorem dL_law_736 : decode cL_law 736 = .ok (.invokestatic 106, 3) := by decide +kernel
theorem dL_law_739 : decode cL_law 739 = .ok (.istore 5, 2) := by decide +kernel
theorem dL_law_741 : decode cL_law 741 = .ok (.aload_n 2, 1) := by decide +kernel
theorem dL_law_742 : decode cL_law 742 = .ok (.aload_n 0, 1) := by decide +kernel
theorem dL_law_743 : decode cL_law 743 = .ok (.iload 4, 2) := by decide +kernel
theorem dL_law_745 : decode cL_law 745 = .ok (.iconst 1, 1) := by decide +kernel
theorem dL_law_746 : decode cL_law 746 = .ok (.iadd, 1) := by decide +kernel
theorem dL_law_747 : decode cL_law 747 = .ok (.iaload, 1) := by decide +kernel
theorem dL_law_748 : decode cL_law 748 = .ok (.aload_n 0, 1) := by decide +kernel
theorem dL_law_749 : decode cL_law 749 = .ok (.iload 4, 2) := by decide +kernel
theorem dL_law_751 : decode cL_law 751 = .ok (.iconst 2, 1) := by decide +kernel
theorem dL_law_752 : decode cL_law 752 = .ok (.iadd, 1) := by decide +kernel
theorem dL_law_753 : decode cL_law 753 = .ok (.iaload, 1) := by decide +kernel
theorem dL_law_754 : decode cL_law 754 = .ok (.invokevirtual 108, 3) := by decide +kernel
theorem dL_law_757 : decode cL_law 757 = .ok (.istore 6, 2) := by decide +kernel
theorem dL_law_759 : decode cL_law 759 = .ok (.aload_n 2, 1) := by decide +kernel
theorem dL_law_760 : decode cL_law 760 = .ok (.invokevirtual 80, 3) := by decide +kernel
theorem dL_law_763 : decode cL_law 763 = .ok (.iload 5, 2) := by decide +kernel
theorem dL_law_765 : decode cL_law 765 = .ok (.if_icmp .eq 5, 3) := by decide +kernel
theorem dL_law_768 : decode cL_law 768 = .ok (.iconst 0, 1) := by decide +kernel
theorem dL_law_769 : decode cL_law 769 = .ok (.ireturn, 1) := by decide +kernel
theorem dL_law_770 : decode cL_law 770 = .ok (.iload 5, 2) := by decide +kernel
theorem dL_law_772 : decode cL_law 772 = .ok (.ifCond .ne 15, 3) := by decide +kernel
theorem dL_law_775 : decode cL_law 775 = .ok (.aload_n 3, 1) := by decide +kernel
theorem dL_law_776 : decode cL_law 776 = .ok (.iconst 0, 1) := by decide +kernel
theorem dL_law_777 : decode cL_law 777 = .ok (.laload, 1) := by decide +kernel
theorem dL_law_778 : decode cL_law 778 = .ok (.iload 6, 2) := by decide +kernel
theorem dL_law_780 : decode cL_law 780 = .ok (.i2l, 1) := by decide +kernel
theorem dL_law_781 : decode cL_law 781 = .ok (.lcmp, 1) := by decide +kernel
theorem dL_law_782 : decode cL_law 782 = .ok (.ifCond .eq 5, 3) := by decide +kernel
theorem dL_law_785 : decode cL_law 785 = .ok (.iconst 0, 1) := by decide +kernel
theorem dL_law_786 : decode cL_law 786 = .ok (.ireturn, 1) := by decide +kernel
theorem dL_law_787 : decode cL_law 787 = .ok (.goto 643, 3) := by decide +kernel
theorem dL_law_790 : decode cL_law 790 = .ok (.aload_n 1, 1) := by decide +kernel
theorem dL_law_791 : decode cL_law 791 = .ok (.aload_n 0, 1) := by decide +kernel
theorem dL_law_792 : decode cL_law 792 = .ok (.iload 4, 2) := by decide +kernel
theorem dL_law_794 : decode cL_law 794 = .ok (.iconst 1, 1) := by decide +kernel
theorem dL_law_795 : decode cL_law 795 = .ok (.iadd, 1) := by decide +kernel
theorem dL_law_796 : decode cL_law 796 = .ok (.iaload, 1) := by decide +kernel
theorem dL_law_797 : decode cL_law 797 = .ok (.aload_n 0, 1) := by decide +kernel
theorem dL_law_798 : decode cL_law 798 = .ok (.iload 4, 2) := by decide +kernel
theorem dL_law_800 : decode cL_law 800 = .ok (.iconst 2, 1) := by decide +kernel
theorem dL_law_801 : decode cL_law 801 = .ok (.iadd, 1) := by decide +kernel
theorem dL_law_802 : decode cL_law 802 = .ok (.iaload, 1) := by decide +kernel
theorem dL_law_803 : decode cL_law 803 = .ok (.aload_n 0, 1) := by decide +kernel
theorem dL_law_804 : decode cL_law 804 = .ok (.iload 4, 2) := by decide +kernel
theorem dL_law_806 : decode cL_law 806 = .ok (.iconst 3, 1) := by decide +kernel
theorem dL_law_807 : decode cL_law 807 = .ok (.iadd, 1) := by decide +kernel
theorem dL_law_808 : decode cL_law 808 = .ok (.iaload, 1) := by decide +kernel
theorem dL_law_809 : decode cL_law 809 = .ok (.aload_n 3, 1) := by decide +kernel
theorem dL_law_810 : decode cL_law 810 = .ok (.invokestatic 109, 3) := by decide +kernel
theorem dL_law_813 : decode cL_law 813 = .ok (.istore 5, 2) := by decide +kernel
theorem dL_law_815 : decode cL_law 815 = .ok (.aload_n 2, 1) := by decide +kernel
theorem dL_law_816 : decode cL_law 816 = .ok (.aload_n 0, 1) := by decide +kernel
theorem dL_law_817 : decode cL_law 817 = .ok (.iload 4, 2) := by decide +kernel
theorem dL_law_819 : decode cL_law 819 = .ok (.iconst 1, 1) := by decide +kernel
theorem dL_law_820 : decode cL_law 820 = .ok (.iadd, 1) := by decide +kernel
theorem dL_law_821 : decode cL_law 821 = .ok (.iaload, 1) := by decide +kernel
theorem dL_law_822 : decode cL_law 822 = .ok (.aload_n 0, 1) := by decide +kernel
theorem dL_law_823 : decode cL_law 823 = .ok (.iload 4, 2) := by decide +kernel
theorem dL_law_825 : decode cL_law 825 = .ok (.iconst 2, 1) := by decide +kernel
theorem dL_law_826 : decode cL_law 826 = .ok (.iadd, 1) := by decide +kernel
theorem dL_law_827 : decode cL_law 827 = .ok (.iaload, 1) := by decide +kernel
theorem dL_law_828 : decode cL_law 828 = .ok (.aload_n 0, 1) := by decide +kernel
theorem dL_law_829 : decode cL_law 829 = .ok (.iload 4, 2) := by decide +kernel
theorem dL_law_831 : decode cL_law 831 = .ok (.iconst 3, 1) := by decide +kernel
theorem dL_law_832 : decode cL_law 832 = .ok (.iadd, 1) := by decide +kernel
theorem dL_law_833 : decode cL_law 833 = .ok (.iaload, 1) := by decide +kernel
theorem dL_law_834 : decode cL_law 834 = .ok (.invokevirtual 112, 3) := by decide +kernel
theorem dL_law_837 : decode cL_law 837 = .ok (.istore 6, 2) := by decide +kernel
theorem dL_law_839 : decode cL_law 839 = .ok (.aload_n 2, 1) := by decide +kernel
theorem dL_law_840 : decode cL_law 840 = .ok (.invokevirtual 80, 3) := by decide +kernel
theorem dL_law_843 : decode cL_law 843 = .ok (.iload 5, 2) := by decide +kernel
theorem dL_law_845 : decode cL_law 845 = .ok (.if_icmp .eq 5, 3) := by decide +kernel
theorem dL_law_848 : decode cL_law 848 = .ok (.iconst 0, 1) := by decide +kernel
theorem dL_law_849 : decode cL_law 849 = .ok (.ireturn, 1) := by decide +kernel
theorem dL_law_850 : decode cL_law 850 = .ok (.iload 5, 2) := by decide +kernel
theorem dL_law_852 : decode cL_law 852 = .ok (.ifCond .ne 15, 3) := by decide +kernel
theorem dL_law_855 : decode cL_law 855 = .ok (.aload_n 3, 1) := by decide +kernel
theorem dL_law_856 : decode cL_law 856 = .ok (.iconst 0, 1) := by decide +kernel
theorem dL_law_857 : decode cL_law 857 = .ok (.laload, 1) := by decide +kernel
theorem dL_law_858 : decode cL_law 858 = .ok (.iload 6, 2) := by decide +kernel
theorem dL_law_860 : decode cL_law 860 = .ok (.i2l, 1) := by decide +kernel
theorem dL_law_861 : decode cL_law 861 = .ok (.lcmp, 1) := by decide +kernel
theorem dL_law_862 : decode cL_law 862 = .ok (.ifCond .eq 5, 3) := by decide +kernel
theorem dL_law_865 : decode cL_law 865 = .ok (.iconst 0, 1) := by decide +kernel
theorem dL_law_866 : decode cL_law 866 = .ok (.ireturn, 1) := by decide +kernel
theorem dL_law_867 : decode cL_law 867 = .ok (.goto 563, 3) := by decide +kernel
theorem dL_law_870 : decode cL_law 870 = .ok (.aload_n 1, 1) := by decide +kernel
theorem dL_law_871 : decode cL_law 871 = .ok (.aload_n 0, 1) := by decide +kernel
theorem dL_law_872 : decode cL_law 872 = .ok (.iload 4, 2) := by decide +kernel
theorem dL_law_874 : decode cL_law 874 = .ok (.iconst 1, 1) := by decide +kernel
theorem dL_law_875 : decode cL_law 875 = .ok (.iadd, 1) := by decide +kernel
theorem dL_law_876 : decode cL_law 876 = .ok (.iaload, 1) := by decide +kernel
theorem dL_law_877 : decode cL_law 877 = .ok (.aload_n 0, 1) := by decide +kernel
theorem dL_law_878 : decode cL_law 878 = .ok (.iload 4, 2) := by decide +kernel
theorem dL_law_880 : decode cL_law 880 = .ok (.iconst 2, 1) := by decide +kernel
theorem dL_law_881 : decode cL_law 881 = .ok (.iadd, 1) := by decide +kernel
theorem dL_law_882 : decode cL_law 882 = .ok (.iaload, 1) := by decide +kernel
theorem dL_law_883 : decode cL_law 883 = .ok (.aload_n 0, 1) := by decide +kernel
theorem dL_law_884 : decode cL_law 884 = .ok (.iload 4, 2) := by decide +kernel
theorem dL_law_886 : decode cL_law 886 = .ok (.iconst 3, 1) := by decide +kernel
theorem dL_law_887 : decode cL_law 887 = .ok (.iadd, 1) := by decide +kernel
theorem dL_law_888 : decode cL_law 888 = .ok (.iaload, 1) := by decide +kernel
theorem dL_law_889 : decode cL_law 889 = .ok (.aload_n 3, 1) := by decide +kernel
theorem dL_law_890 : decode cL_law 890 = .ok (.invokestatic 113, 3) := by decide +kernel
theorem dL_law_893 : decode cL_law 893 = .ok (.istore 5, 2) := by decide +kernel
theorem dL_law_895 : decode cL_law 895 = .ok (.aload_n 2, 1) := by decide +kernel
theorem dL_law_896 : decode cL_law 896 = .ok (.aload_n 0, 1) := by decide +kernel
theorem dL_law_897 : decode cL_law 897 = .ok (.iload 4, 2) := by decide +kernel
theorem dL_law_899 : decode cL_law 899 = .ok (.iconst 1, 1) := by decide +kernel
theorem dL_law_900 : decode cL_law 900 = .ok (.iadd, 1) := by decide +kernel
theorem dL_law_901 : decode cL_law 901 = .ok (.iaload, 1) := by decide +kernel
theorem dL_law_902 : decode cL_law 902 = .ok (.aload_n 0, 1) := by decide +kernel
theorem dL_law_903 : decode cL_law 903 = .ok (.iload 4, 2) := by decide +kernel
theorem dL_law_905 : decode cL_law 905 = .ok (.iconst 2, 1) := by decide +kernel
theorem dL_law_906 : decode cL_law 906 = .ok (.iadd, 1) := by decide +kernel
theorem dL_law_907 : decode cL_law 907 = .ok (.iaload, 1) := by decide +kernel
theorem dL_law_908 : decode cL_law 908 = .ok (.aload_n 0, 1) := by decide +kernel
theorem dL_law_909 : decode cL_law 909 = .ok (.iload 4, 2) := by decide +kernel
theorem dL_law_911 : decode cL_law 911 = .ok (.iconst 3, 1) := by decide +kernel
theorem dL_law_912 : decode cL_law 912 = .ok (.iadd, 1) := by decide +kernel
theorem dL_law_913 : decode cL_law 913 = .ok (.iaload, 1) := by decide +kernel
theorem dL_law_914 : decode cL_law 914 = .ok (.invokevirtual 115, 3) := by decide +kernel
theorem dL_law_917 : decode cL_law 917 = .ok (.istore 6, 2) := by decide +kernel
theorem dL_law_919 : decode cL_law 919 = .ok (.aload_n 2, 1) := by decide +kernel
theorem dL_law_920 : decode cL_law 920 = .ok (.invokevirtual 80, 3) := by decide +kernel
theorem dL_law_923 : decode cL_law 923 = .ok (.iload 5, 2) := by decide +kernel
theorem dL_law_925 : decode cL_law 925 = .ok (.if_icmp .eq 5, 3) := by decide +kernel
theorem dL_law_928 : decode cL_law 928 = .ok (.iconst 0, 1) := by decide +kernel
theorem dL_law_929 : decode cL_law 929 = .ok (.ireturn, 1) := by decide +kernel
theorem dL_law_930 : decode cL_law 930 = .ok (.iload 5, 2) := by decide +kernel
theorem dL_law_932 : decode cL_law 932 = .ok (.ifCond .ne 15, 3) := by decide +kernel
theorem dL_law_935 : decode cL_law 935 = .ok (.aload_n 3, 1) := by decide +kernel
theorem dL_law_936 : decode cL_law 936 = .ok (.iconst 0, 1) := by decide +kernel
theorem dL_law_937 : decode cL_law 937 = .ok (.laload, 1) := by decide +kernel
theorem dL_law_938 : decode cL_law 938 = .ok (.iload 6, 2) := by decide +kernel
theorem dL_law_940 : decode cL_law 940 = .ok (.i2l, 1) := by decide +kernel
theorem dL_law_941 : decode cL_law 941 = .ok (.lcmp, 1) := by decide +kernel
theorem dL_law_942 : decode cL_law 942 = .ok (.ifCond .eq 5, 3) := by decide +kernel
theorem dL_law_945 : decode cL_law 945 = .ok (.iconst 0, 1) := by decide +kernel
theorem dL_law_946 : decode cL_law 946 = .ok (.ireturn, 1) := by decide +kernel
theorem dL_law_947 : decode cL_law 947 = .ok (.goto 483, 3) := by decide +kernel
theorem dL_law_950 : decode cL_law 950 = .ok (.aload_n 1, 1) := by decide +kernel
theorem dL_law_951 : decode cL_law 951 = .ok (.aload_n 0, 1) := by decide +kernel
theorem dL_law_952 : decode cL_law 952 = .ok (.iload 4, 2) := by decide +kernel
theorem dL_law_954 : decode cL_law 954 = .ok (.iconst 1, 1) := by decide +kernel
theorem dL_law_955 : decode cL_law 955 = .ok (.iadd, 1) := by decide +kernel
theorem dL_law_956 : decode cL_law 956 = .ok (.iaload, 1) := by decide +kernel
theorem dL_law_957 : decode cL_law 957 = .ok (.aload_n 0, 1) := by decide +kernel
theorem dL_law_958 : decode cL_law 958 = .ok (.iload 4, 2) := by decide +kernel
theorem dL_law_960 : decode cL_law 960 = .ok (.iconst 2, 1) := by decide +kernel
theorem dL_law_961 : decode cL_law 961 = .ok (.iadd, 1) := by decide +kernel
theorem dL_law_962 : decode cL_law 962 = .ok (.iaload, 1) := by decide +kernel
theorem dL_law_963 : decode cL_law 963 = .ok (.aload_n 3, 1) := by decide +kernel
theorem dL_law_964 : decode cL_law 964 = .ok (.invokestatic 116, 3) := by decide +kernel
theorem dL_law_967 : decode cL_law 967 = .ok (.istore 5, 2) := by decide +kernel
theorem dL_law_969 : decode cL_law 969 = .ok (.aload_n 2, 1) := by decide +kernel
theorem dL_law_970 : decode cL_law 970 = .ok (.aload_n 0, 1) := by decide +kernel
theorem dL_law_971 : decode cL_law 971 = .ok (.iload 4, 2) := by decide +kernel
theorem dL_law_973 : decode cL_law 973 = .ok (.iconst 1, 1) := by decide +kernel
theorem dL_law_974 : decode cL_law 974 = .ok (.iadd, 1) := by decide +kernel
theorem dL_law_975 : decode cL_law 975 = .ok (.iaload, 1) := by decide +kernel
theorem dL_law_976 : decode cL_law 976 = .ok (.aload_n 0, 1) := by decide +kernel
theorem dL_law_977 : decode cL_law 977 = .ok (.iload 4, 2) := by decide +kernel
theorem dL_law_979 : decode cL_law 979 = .ok (.iconst 2, 1) := by decide +kernel
theorem dL_law_980 : decode cL_law 980 = .ok (.iadd, 1) := by decide +kernel
theorem dL_law_981 : decode cL_law 981 = .ok (.iaload, 1) := by decide +kernel
theorem dL_law_982 : decode cL_law 982 = .ok (.invokevirtual 118, 3) := by decide +kernel
theorem dL_law_985 : decode cL_law 985 = .ok (.istore 6, 2) := by decide +kernel
theorem dL_law_987 : decode cL_law 987 = .ok (.aload_n 2, 1) := by decide +kernel
theorem dL_law_988 : decode cL_law 988 = .ok (.invokevirtual 80, 3) := by decide +kernel
theorem dL_law_991 : decode cL_law 991 = .ok (.iload 5, 2) := by decide +kernel
theorem dL_law_993 : decode cL_law 993 = .ok (.if_icmp .eq 5, 3) := by decide +kernel
theorem dL_law_996 : decode cL_law 996 = .ok (.iconst 0, 1) := by decide +kernel
theorem dL_law_997 : decode cL_law 997 = .ok (.ireturn, 1) := by decide +kernel
theorem dL_law_998 : decode cL_law 998 = .ok (.iload 5, 2) := by decide +kernel
theorem dL_law_1000 : decode cL_law 1000 = .ok (.ifCond .ne 15, 3) := by decide +kernel
theorem dL_law_1003 : decode cL_law 1003 = .ok (.aload_n 3, 1) := by decide +kernel
theorem dL_law_1004 : decode cL_law 1004 = .ok (.iconst 0, 1) := by decide +kernel
theorem dL_law_1005 : decode cL_law 1005 = .ok (.laload, 1) := by decide +kernel
theorem dL_law_1006 : decode cL_law 1006 = .ok (.iload 6, 2) := by decide +kernel
theorem dL_law_1008 : decode cL_law 1008 = .ok (.i2l, 1) := by decide +kernel
theorem dL_law_1009 : decode cL_law 1009 = .ok (.lcmp, 1) := by decide +kernel
theorem dL_law_1010 : decode cL_law 1010 = .ok (.ifCond .eq 5, 3) := by decide +kernel
theorem dL_law_1013 : decode cL_law 1013 = .ok (.iconst 0, 1) := by decide +kernel
theorem dL_law_1014 : decode cL_law 1014 = .ok (.ireturn, 1) := by decide +kernel
theorem dL_law_1015 : decode cL_law 1015 = .ok (.goto 415, 3) := by decide +kernel
theorem dL_law_1018 : decode cL_law 1018 = .ok (.aload_n 1, 1) := by decide +kernel
theorem dL_law_1019 : decode cL_law 1019 = .ok (.aload_n 0, 1) := by decide +kernel
theorem dL_law_1020 : decode cL_law 1020 = .ok (.iload 4, 2) := by decide +kernel
theorem dL_law_1022 : decode cL_law 1022 = .ok (.iconst 1, 1) := by decide +kernel
theorem dL_law_1023 : decode cL_law 1023 = .ok (.iadd, 1) := by decide +kernel
theorem dL_law_1024 : decode cL_law 1024 = .ok (.iaload, 1) := by decide +kernel
theorem dL_law_1025 : decode cL_law 1025 = .ok (.aload_n 0, 1) := by decide +kernel
theorem dL_law_1026 : decode cL_law 1026 = .ok (.iload 4, 2) := by decide +kernel
theorem dL_law_1028 : decode cL_law 1028 = .ok (.iconst 2, 1) := by decide +kernel
theorem dL_law_1029 : decode cL_law 1029 = .ok (.iadd, 1) := by decide +kernel
theorem dL_law_1030 : decode cL_law 1030 = .ok (.iaload, 1) := by decide +kernel
theorem dL_law_1031 : decode cL_law 1031 = .ok (.aload_n 3, 1) := by decide +kernel
theorem dL_law_1032 : decode cL_law 1032 = .ok (.invokestatic 119, 3) := by decide +kernel
theorem dL_law_1035 : decode cL_law 1035 = .ok (.istore 5, 2) := by decide +kernel
theorem dL_law_1037 : decode cL_law 1037 = .ok (.aload_n 2, 1) := by decide +kernel
theorem dL_law_1038 : decode cL_law 1038 = .ok (.aload_n 0, 1) := by decide +kernel
theorem dL_law_1039 : decode cL_law 1039 = .ok (.iload 4, 2) := by decide +kernel
theorem dL_law_1041 : decode cL_law 1041 = .ok (.iconst 1, 1) := by decide +kernel
theorem dL_law_1042 : decode cL_law 1042 = .ok (.iadd, 1) := by decide +kernel
theorem dL_law_1043 : decode cL_law 1043 = .ok (.iaload, 1) := by decide +kernel
theorem dL_law_1044 : decode cL_law 1044 = .ok (.aload_n 0, 1) := by decide +kernel
theorem dL_law_1045 : decode cL_law 1045 = .ok (.iload 4, 2) := by decide +kernel
theorem dL_law_1047 : decode cL_law 1047 = .ok (.iconst 2, 1) := by decide +kernel
theorem dL_law_1048 : decode cL_law 1048 = .ok (.iadd, 1) := by decide +kernel
theorem dL_law_1049 : decode cL_law 1049 = .ok (.iaload, 1) := by decide +kernel
theorem dL_law_1050 : decode cL_law 1050 = .ok (.invokevirtual 121, 3) := by decide +kernel
theorem dL_law_1053 : decode cL_law 1053 = .ok (.istore 6, 2) := by decide +kernel
theorem dL_law_1055 : decode cL_law 1055 = .ok (.aload_n 2, 1) := by decide +kernel
theorem dL_law_1056 : decode cL_law 1056 = .ok (.invokevirtual 80, 3) := by decide +kernel
theorem dL_law_1059 : decode cL_law 1059 = .ok (.iload 5, 2) := by decide +kernel
theorem dL_law_1061 : decode cL_law 1061 = .ok (.if_icmp .eq 5, 3) := by decide +kernel
theorem dL_law_1064 : decode cL_law 1064 = .ok (.iconst 0, 1) := by decide +kernel
theorem dL_law_1065 : decode cL_law 1065 = .ok (.ireturn, 1) := by decide +kernel
theorem dL_law_1066 : decode cL_law 1066 = .ok (.iload 5, 2) := by decide +kernel
theorem dL_law_1068 : decode cL_law 1068 = .ok (.ifCond .ne 15, 3) := by decide +kernel
theorem dL_law_1071 : decode cL_law 1071 = .ok (.aload_n 3, 1) := by decide +kernel
theorem dL_law_1072 : decode cL_law 1072 = .ok (.iconst 0, 1) := by decide +kernel
theorem dL_law_1073 : decode cL_law 1073 = .ok (.laload, 1) := by decide +kernel
theorem dL_law_1074 : decode cL_law 1074 = .ok (.iload 6, 2) := by decide +kernel
theorem dL_law_1076 : decode cL_law 1076 = .ok (.i2l, 1) := by decide +kernel
theorem dL_law_1077 : decode cL_law 1077 = .ok (.lcmp, 1) := by decide +kernel
theorem dL_law_1078 : decode cL_law 1078 = .ok (.ifCond .eq 5, 3) := by decide +kernel
theorem dL_law_1081 : decode cL_law 1081 = .ok (.iconst 0, 1) := by decide +kernel
theorem dL_law_1082 : decode cL_law 1082 = .ok (.ireturn, 1) := by decide +kernel
theorem dL_law_1083 : decode cL_law 1083 = .ok (.goto 347, 3) := by decide +kernel
theorem dL_law_1086 : decode cL_law 1086 = .ok (.aload_n 1, 1) := by decide +kernel
theorem dL_law_1087 : decode cL_law 1087 = .ok (.aload_n 0, 1) := by decide +kernel
theorem dL_law_1088 : decode cL_law 1088 = .ok (.iload 4, 2) := by decide +kernel
theorem dL_law_1090 : decode cL_law 1090 = .ok (.iconst 1, 1) := by decide +kernel
theorem dL_law_1091 : decode cL_law 1091 = .ok (.iadd, 1) := by decide +kernel
theorem dL_law_1092 : decode cL_law 1092 = .ok (.iaload, 1) := by decide +kernel
theorem dL_law_1093 : decode cL_law 1093 = .ok (.aload_n 3, 1) := by decide +kernel
theorem dL_law_1094 : decode cL_law 1094 = .ok (.invokestatic 122, 3) := by decide +kernel
theorem dL_law_1097 : decode cL_law 1097 = .ok (.istore 5, 2) := by decide +kernel
theorem dL_law_1099 : decode cL_law 1099 = .ok (.aload_n 2, 1) := by decide +kernel
theorem dL_law_1100 : decode cL_law 1100 = .ok (.aload_n 0, 1) := by decide +kernel
theorem dL_law_1101 : decode cL_law 1101 = .ok (.iload 4, 2) := by decide +kernel
theorem dL_law_1103 : decode cL_law 1103 = .ok (.iconst 1, 1) := by decide +kernel
theorem dL_law_1104 : decode cL_law 1104 = .ok (.iadd, 1) := by decide +kernel
theorem dL_law_1105 : decode cL_law 1105 = .ok (.iaload, 1) := by decide +kernel
theorem dL_law_1106 : decode cL_law 1106 = .ok (.invokevirtual 124, 3) := by decide +kernel
theorem dL_law_1109 : decode cL_law 1109 = .ok (.istore 6, 2) := by decide +kernel
theorem dL_law_1111 : decode cL_law 1111 = .ok (.aload_n 2, 1) := by decide +kernel
theorem dL_law_1112 : decode cL_law 1112 = .ok (.invokevirtual 80, 3) := by decide +kernel
theorem dL_law_1115 : decode cL_law 1115 = .ok (.iload 5, 2) := by decide +kernel
theorem dL_law_1117 : decode cL_law 1117 = .ok (.if_icmp .eq 5, 3) := by decide +kernel
theorem dL_law_1120 : decode cL_law 1120 = .ok (.iconst 0, 1) := by decide +kernel
theorem dL_law_1121 : decode cL_law 1121 = .ok (.ireturn, 1) := by decide +kernel
theorem dL_law_1122 : decode cL_law 1122 = .ok (.iload 5, 2) := by decide +kernel
theorem dL_law_1124 : decode cL_law 1124 = .ok (.ifCond .ne 15, 3) := by decide +kernel
theorem dL_law_1127 : decode cL_law 1127 = .ok (.aload_n 3, 1) := by decide +kernel
theorem dL_law_1128 : decode cL_law 1128 = .ok (.iconst 0, 1) := by decide +kernel
theorem dL_law_1129 : decode cL_law 1129 = .ok (.laload, 1) := by decide +kernel
theorem dL_law_1130 : decode cL_law 1130 = .ok (.iload 6, 2) := by decide +kernel
theorem dL_law_1132 : decode cL_law 1132 = .ok (.i2l, 1) := by decide +kernel
theorem dL_law_1133 : decode cL_law 1133 = .ok (.lcmp, 1) := by decide +kernel
theorem dL_law_1134 : decode cL_law 1134 = .ok (.ifCond .eq 5, 3) := by decide +kernel
theorem dL_law_1137 : decode cL_law 1137 = .ok (.iconst 0, 1) := by decide +kernel
theorem dL_law_1138 : decode cL_law 1138 = .ok (.ireturn, 1) := by decide +kernel
theorem dL_law_1139 : decode cL_law 1139 = .ok (.goto 291, 3) := by decide +kernel
theorem dL_law_1142 : decode cL_law 1142 = .ok (.aload_n 1, 1) := by decide +kernel
theorem dL_law_1143 : decode cL_law 1143 = .ok (.aload_n 0, 1) := by decide +kernel
theorem dL_law_1144 : decode cL_law 1144 = .ok (.iload 4, 2) := by decide +kernel
theorem dL_law_1146 : decode cL_law 1146 = .ok (.iconst 1, 1) := by decide +kernel
theorem dL_law_1147 : decode cL_law 1147 = .ok (.iadd, 1) := by decide +kernel
theorem dL_law_1148 : decode cL_law 1148 = .ok (.iaload, 1) := by decide +kernel
theorem dL_law_1149 : decode cL_law 1149 = .ok (.aload_n 3, 1) := by decide +kernel
theorem dL_law_1150 : decode cL_law 1150 = .ok (.invokestatic 125, 3) := by decide +kernel
theorem dL_law_1153 : decode cL_law 1153 = .ok (.istore 5, 2) := by decide +kernel
theorem dL_law_1155 : decode cL_law 1155 = .ok (.aload_n 2, 1) := by decide +kernel
theorem dL_law_1156 : decode cL_law 1156 = .ok (.aload_n 0, 1) := by decide +kernel
theorem dL_law_1157 : decode cL_law 1157 = .ok (.iload 4, 2) := by decide +kernel
theorem dL_law_1159 : decode cL_law 1159 = .ok (.iconst 1, 1) := by decide +kernel
theorem dL_law_1160 : decode cL_law 1160 = .ok (.iadd, 1) := by decide +kernel
theorem dL_law_1161 : decode cL_law 1161 = .ok (.iaload, 1) := by decide +kernel
theorem dL_law_1162 : decode cL_law 1162 = .ok (.invokevirtual 127, 3) := by decide +kernel
theorem dL_law_1165 : decode cL_law 1165 = .ok (.istore 6, 2) := by decide +kernel
theorem dL_law_1167 : decode cL_law 1167 = .ok (.aload_n 2, 1) := by decide +kernel
theorem dL_law_1168 : decode cL_law 1168 = .ok (.invokevirtual 80, 3) := by decide +kernel
theorem dL_law_1171 : decode cL_law 1171 = .ok (.iload 5, 2) := by decide +kernel
theorem dL_law_1173 : decode cL_law 1173 = .ok (.if_icmp .eq 5, 3) := by decide +kernel
theorem dL_law_1176 : decode cL_law 1176 = .ok (.iconst 0, 1) := by decide +kernel
theorem dL_law_1177 : decode cL_law 1177 = .ok (.ireturn, 1) := by decide +kernel
theorem dL_law_1178 : decode cL_law 1178 = .ok (.iload 5, 2) := by decide +kernel
theorem dL_law_1180 : decode cL_law 1180 = .ok (.ifCond .ne 15, 3) := by decide +kernel
theorem dL_law_1183 : decode cL_law 1183 = .ok (.aload_n 3, 1) := by decide +kernel
theorem dL_law_1184 : decode cL_law 1184 = .ok (.iconst 0, 1) := by decide +kernel
theorem dL_law_1185 : decode cL_law 1185 = .ok (.laload, 1) := by decide +kernel
theorem dL_law_1186 : decode cL_law 1186 = .ok (.iload 6, 2) := by decide +kernel
theorem dL_law_1188 : decode cL_law 1188 = .ok (.i2l, 1) := by decide +kernel
theorem dL_law_1189 : decode cL_law 1189 = .ok (.lcmp, 1) := by decide +kernel
theorem dL_law_1190 : decode cL_law 1190 = .ok (.ifCond .eq 5, 3) := by decide +kernel
theorem dL_law_1193 : decode cL_law 1193 = .ok (.iconst 0, 1) := by decide +kernel
theorem dL_law_1194 : decode cL_law 1194 = .ok (.ireturn, 1) := by decide +kernel
theorem dL_law_1195 : decode cL_law 1195 = .ok (.goto 235, 3) := by decide +kernel
theorem dL_law_1198 : decode cL_law 1198 = .ok (.aload_n 1, 1) := by decide +kernel
theorem dL_law_1199 : decode cL_law 1199 = .ok (.aload_n 0, 1) := by decide +kernel
theorem dL_law_1200 : decode cL_law 1200 = .ok (.iload 4, 2) := by decide +kernel
theorem dL_law_1202 : decode cL_law 1202 = .ok (.iconst 1, 1) := by decide +kernel
theorem dL_law_1203 : decode cL_law 1203 = .ok (.iadd, 1) := by decide +kernel
theorem dL_law_1204 : decode cL_law 1204 = .ok (.iaload, 1) := by decide +kernel
theorem dL_law_1205 : decode cL_law 1205 = .ok (.aload_n 0, 1) := by decide +kernel
theorem dL_law_1206 : decode cL_law 1206 = .ok (.iload 4, 2) := by decide +kernel
theorem dL_law_1208 : decode cL_law 1208 = .ok (.iconst 2, 1) := by decide +kernel
theorem dL_law_1209 : decode cL_law 1209 = .ok (.iadd, 1) := by decide +kernel
theorem dL_law_1210 : decode cL_law 1210 = .ok (.iaload, 1) := by decide +kernel
theorem dL_law_1211 : decode cL_law 1211 = .ok (.aload_n 0, 1) := by decide +kernel
theorem dL_law_1212 : decode cL_law 1212 = .ok (.iload 4, 2) := by decide +kernel
theorem dL_law_1214 : decode cL_law 1214 = .ok (.iconst 3, 1) := by decide +kernel
theorem dL_law_1215 : decode cL_law 1215 = .ok (.iadd, 1) := by decide +kernel
theorem dL_law_1216 : decode cL_law 1216 = .ok (.iaload, 1) := by decide +kernel
theorem dL_law_1217 : decode cL_law 1217 = .ok (.ifCond .eq 7, 3) := by decide +kernel
theorem dL_law_1220 : decode cL_law 1220 = .ok (.iconst 1, 1) := by decide +kernel
theorem dL_law_1221 : decode cL_law 1221 = .ok (.goto 4, 3) := by decide +kernel
theorem dL_law_1224 : decode cL_law 1224 = .ok (.iconst 0, 1) := by decide +kernel
theorem dL_law_1225 : decode cL_law 1225 = .ok (.aload_n 3, 1) := by decide +kernel
theorem dL_law_1226 : decode cL_law 1226 = .ok (.invokestatic 128, 3) := by decide +kernel
theorem dL_law_1229 : decode cL_law 1229 = .ok (.istore 5, 2) := by decide +kernel
theorem dL_law_1231 : decode cL_law 1231 = .ok (.aload_n 2, 1) := by decide +kernel
theorem dL_law_1232 : decode cL_law 1232 = .ok (.aload_n 0, 1) := by decide +kernel
theorem dL_law_1233 : decode cL_law 1233 = .ok (.iload 4, 2) := by decide +kernel
theorem dL_law_1235 : decode cL_law 1235 = .ok (.iconst 1, 1) := by decide +kernel
theorem dL_law_1236 : decode cL_law 1236 = .ok (.iadd, 1) := by decide +kernel
theorem dL_law_1237 : decode cL_law 1237 = .ok (.iaload, 1) := by decide +kernel
theorem dL_law_1238 : decode cL_law 1238 = .ok (.aload_n 0, 1) := by decide +kernel
theorem dL_law_1239 : decode cL_law 1239 = .ok (.iload 4, 2) := by decide +kernel
theorem dL_law_1241 : decode cL_law 1241 = .ok (.iconst 2, 1) := by decide +kernel
theorem dL_law_1242 : decode cL_law 1242 = .ok (.iadd, 1) := by decide +kernel
theorem dL_law_1243 : decode cL_law 1243 = .ok (.iaload, 1) := by decide +kernel
theorem dL_law_1244 : decode cL_law 1244 = .ok (.aload_n 0, 1) := by decide +kernel
theorem dL_law_1245 : decode cL_law 1245 = .ok (.iload 4, 2) := by decide +kernel
theorem dL_law_1247 : decode cL_law 1247 = .ok (.iconst 3, 1) := by decide +kernel
theorem dL_law_1248 : decode cL_law 1248 = .ok (.iadd, 1) := by decide +kernel
theorem dL_law_1249 : decode cL_law 1249 = .ok (.iaload, 1) := by decide +kernel
theorem dL_law_1250 : decode cL_law 1250 = .ok (.ifCond .eq 7, 3) := by decide +kernel
theorem dL_law_1253 : decode cL_law 1253 = .ok (.iconst 1, 1) := by decide +kernel
theorem dL_law_1254 : decode cL_law 1254 = .ok (.goto 4, 3) := by decide +kernel
theorem dL_law_1257 : decode cL_law 1257 = .ok (.iconst 0, 1) := by decide +kernel
theorem dL_law_1258 : decode cL_law 1258 = .ok (.invokevirtual 131, 3) := by decide +kernel
theorem dL_law_1261 : decode cL_law 1261 = .ok (.istore 6, 2) := by decide +kernel
theorem dL_law_1263 : decode cL_law 1263 = .ok (.aload_n 2, 1) := by decide +kernel
theorem dL_law_1264 : decode cL_law 1264 = .ok (.invokevirtual 80, 3) := by decide +kernel
theorem dL_law_1267 : decode cL_law 1267 = .ok (.iload 5, 2) := by decide +kernel
theorem dL_law_1269 : decode cL_law 1269 = .ok (.if_icmp .eq 5, 3) := by decide +kernel
theorem dL_law_1272 : decode cL_law 1272 = .ok (.iconst 0, 1) := by decide +kernel
theorem dL_law_1273 : decode cL_law 1273 = .ok (.ireturn, 1) := by decide +kernel
theorem dL_law_1274 : decode cL_law 1274 = .ok (.iload 5, 2) := by decide +kernel
theorem dL_law_1276 : decode cL_law 1276 = .ok (.ifCond .ne 15, 3) := by decide +kernel
theorem dL_law_1279 : decode cL_law 1279 = .ok (.aload_n 3, 1) := by decide +kernel
theorem dL_law_1280 : decode cL_law 1280 = .ok (.iconst 0, 1) := by decide +kernel
theorem dL_law_1281 : decode cL_law 1281 = .ok (.laload, 1) := by decide +kernel
theorem dL_law_1282 : decode cL_law 1282 = .ok (.iload 6, 2) := by decide +kernel
theorem dL_law_1284 : decode cL_law 1284 = .ok (.i2l, 1) := by decide +kernel
theorem dL_law_1285 : decode cL_law 1285 = .ok (.lcmp, 1) := by decide +kernel
theorem dL_law_1286 : decode cL_law 1286 = .ok (.ifCond .eq 5, 3) := by decide +kernel
theorem dL_law_1289 : decode cL_law 1289 = .ok (.iconst 0, 1) := by decide +kernel
theorem dL_law_1290 : decode cL_law 1290 = .ok (.ireturn, 1) := by decide +kernel
theorem dL_law_1291 : decode cL_law 1291 = .ok (.goto 139, 3) := by decide +kernel
theorem dL_law_1294 : decode cL_law 1294 = .ok (.aload_n 1, 1) := by decide +kernel
theorem dL_law_1295 : decode cL_law 1295 = .ok (.aload_n 0, 1) := by decide +kernel
theorem dL_law_1296 : decode cL_law 1296 = .ok (.iload 4, 2) := by decide +kernel
theorem dL_law_1298 : decode cL_law 1298 = .ok (.iconst 1, 1) := by decide +kernel
theorem dL_law_1299 : decode cL_law 1299 = .ok (.iadd, 1) := by decide +kernel
theorem dL_law_1300 : decode cL_law 1300 = .ok (.iaload, 1) := by decide +kernel
theorem dL_law_1301 : decode cL_law 1301 = .ok (.aload_n 0, 1) := by decide +kernel
theorem dL_law_1302 : decode cL_law 1302 = .ok (.iload 4, 2) := by decide +kernel
theorem dL_law_1304 : decode cL_law 1304 = .ok (.iconst 2, 1) := by decide +kernel
theorem dL_law_1305 : decode cL_law 1305 = .ok (.iadd, 1) := by decide +kernel
theorem dL_law_1306 : decode cL_law 1306 = .ok (.iaload, 1) := by decide +kernel
theorem dL_law_1307 : decode cL_law 1307 = .ok (.aload_n 3, 1) := by decide +kernel
theorem dL_law_1308 : decode cL_law 1308 = .ok (.invokestatic 132, 3) := by decide +kernel
theorem dL_law_1311 : decode cL_law 1311 = .ok (.istore 5, 2) := by decide +kernel
theorem dL_law_1313 : decode cL_law 1313 = .ok (.aload_n 2, 1) := by decide +kernel
theorem dL_law_1314 : decode cL_law 1314 = .ok (.aload_n 0, 1) := by decide +kernel
theorem dL_law_1315 : decode cL_law 1315 = .ok (.iload 4, 2) := by decide +kernel
theorem dL_law_1317 : decode cL_law 1317 = .ok (.iconst 1, 1) := by decide +kernel
theorem dL_law_1318 : decode cL_law 1318 = .ok (.iadd, 1) := by decide +kernel
theorem dL_law_1319 : decode cL_law 1319 = .ok (.iaload, 1) := by decide +kernel
theorem dL_law_1320 : decode cL_law 1320 = .ok (.aload_n 0, 1) := by decide +kernel
theorem dL_law_1321 : decode cL_law 1321 = .ok (.iload 4, 2) := by decide +kernel
theorem dL_law_1323 : decode cL_law 1323 = .ok (.iconst 2, 1) := by decide +kernel
theorem dL_law_1324 : decode cL_law 1324 = .ok (.iadd, 1) := by decide +kernel
theorem dL_law_1325 : decode cL_law 1325 = .ok (.iaload, 1) := by decide +kernel
theorem dL_law_1326 : decode cL_law 1326 = .ok (.invokevirtual 134, 3) := by decide +kernel
theorem dL_law_1329 : decode cL_law 1329 = .ok (.istore 6, 2) := by decide +kernel
theorem dL_law_1331 : decode cL_law 1331 = .ok (.aload_n 2, 1) := by decide +kernel
theorem dL_law_1332 : decode cL_law 1332 = .ok (.invokevirtual 80, 3) := by decide +kernel
theorem dL_law_1335 : decode cL_law 1335 = .ok (.iload 5, 2) := by decide +kernel
theorem dL_law_1337 : decode cL_law 1337 = .ok (.if_icmp .eq 5, 3) := by decide +kernel
theorem dL_law_1340 : decode cL_law 1340 = .ok (.iconst 0, 1) := by decide +kernel
theorem dL_law_1341 : decode cL_law 1341 = .ok (.ireturn, 1) := by decide +kernel
theorem dL_law_1342 : decode cL_law 1342 = .ok (.iload 5, 2) := by decide +kernel
theorem dL_law_1344 : decode cL_law 1344 = .ok (.ifCond .ne 15, 3) := by decide +kernel
theorem dL_law_1347 : decode cL_law 1347 = .ok (.aload_n 3, 1) := by decide +kernel
theorem dL_law_1348 : decode cL_law 1348 = .ok (.iconst 0, 1) := by decide +kernel
theorem dL_law_1349 : decode cL_law 1349 = .ok (.laload, 1) := by decide +kernel
theorem dL_law_1350 : decode cL_law 1350 = .ok (.iload 6, 2) := by decide +kernel
theorem dL_law_1352 : decode cL_law 1352 = .ok (.i2l, 1) := by decide +kernel
theorem dL_law_1353 : decode cL_law 1353 = .ok (.lcmp, 1) := by decide +kernel
theorem dL_law_1354 : decode cL_law 1354 = .ok (.ifCond .eq 5, 3) := by decide +kernel
theorem dL_law_1357 : decode cL_law 1357 = .ok (.iconst 0, 1) := by decide +kernel
theorem dL_law_1358 : decode cL_law 1358 = .ok (.ireturn, 1) := by decide +kernel
theorem dL_law_1359 : decode cL_law 1359 = .ok (.goto 71, 3) := by decide +kernel
theorem dL_law_1362 : decode cL_law 1362 = .ok (.aload_n 1, 1) := by decide +kernel
theorem dL_law_1363 : decode cL_law 1363 = .ok (.invokevirtual 135, 3) := by decide +kernel
theorem dL_law_1366 : decode cL_law 1366 = .ok (.aload_n 2, 1) := by decide +kernel
theorem dL_law_1367 : decode cL_law 1367 = .ok (.invokevirtual 138, 3) := by decide +kernel
theorem dL_law_1370 : decode cL_law 1370 = .ok (.if_icmp .eq 60, 3) := by decide +kernel
theorem dL_law_1373 : decode cL_law 1373 = .ok (.iconst 0, 1) := by decide +kernel
theorem dL_law_1374 : decode cL_law 1374 = .ok (.ireturn, 1) := by decide +kernel
theorem dL_law_1375 : decode cL_law 1375 = .ok (.aload_n 1, 1) := by decide +kernel
theorem dL_law_1376 : decode cL_law 1376 = .ok (.invokevirtual 139, 3) := by decide +kernel
theorem dL_law_1379 : decode cL_law 1379 = .ok (.dstore 5, 2) := by decide +kernel
theorem dL_law_1381 : decode cL_law 1381 = .ok (.aload_n 2, 1) := by decide +kernel
theorem dL_law_1382 : decode cL_law 1382 = .ok (.invokevirtual 143, 3) := by decide +kernel
theorem dL_law_1385 : decode cL_law 1385 = .ok (.dstore 7, 2) := by decide +kernel
theorem dL_law_1387 : decode cL_law 1387 = .ok (.dload 5, 2) := by decide +kernel
theorem dL_law_1389 : decode cL_law 1389 = .ok (.dload 7, 2) := by decide +kernel
theorem dL_law_1391 : decode cL_law 1391 = .ok (.dcmp .l, 1) := by decide +kernel
theorem dL_law_1392 : decode cL_law 1392 = .ok (.ifCond .eq 21, 3) := by decide +kernel
theorem dL_law_1395 : decode cL_law 1395 = .ok (.dload 5, 2) := by decide +kernel
theorem dL_law_1397 : decode cL_law 1397 = .ok (.dload 5, 2) := by decide +kernel
theorem dL_law_1399 : decode cL_law 1399 = .ok (.dcmp .l, 1) := by decide +kernel
theorem dL_law_1400 : decode cL_law 1400 = .ok (.ifCond .eq 11, 3) := by decide +kernel
theorem dL_law_1403 : decode cL_law 1403 = .ok (.dload 7, 2) := by decide +kernel
theorem dL_law_1405 : decode cL_law 1405 = .ok (.dload 7, 2) := by decide +kernel
theorem dL_law_1407 : decode cL_law 1407 = .ok (.dcmp .l, 1) := by decide +kernel
theorem dL_law_1408 : decode cL_law 1408 = .ok (.ifCond .ne 5, 3) := by decide +kernel
theorem dL_law_1411 : decode cL_law 1411 = .ok (.iconst 0, 1) := by decide +kernel
theorem dL_law_1412 : decode cL_law 1412 = .ok (.ireturn, 1) := by decide +kernel
theorem dL_law_1413 : decode cL_law 1413 = .ok (.goto 17, 3) := by decide +kernel
theorem dL_law_1416 : decode cL_law 1416 = .ok (.aload_n 1, 1) := by decide +kernel
theorem dL_law_1417 : decode cL_law 1417 = .ok (.invokevirtual 144, 3) := by decide +kernel
theorem dL_law_1420 : decode cL_law 1420 = .ok (.aload_n 2, 1) := by decide +kernel
theorem dL_law_1421 : decode cL_law 1421 = .ok (.invokevirtual 148, 3) := by decide +kernel
theorem dL_law_1424 : decode cL_law 1424 = .ok (.lcmp, 1) := by decide +kernel
theorem dL_law_1425 : decode cL_law 1425 = .ok (.ifCond .eq 5, 3) := by decide +kernel
theorem dL_law_1428 : decode cL_law 1428 = .ok (.iconst 0, 1) := by decide +kernel
theorem dL_law_1429 : decode cL_law 1429 = .ok (.ireturn, 1) := by decide +kernel
theorem dL_law_1430 : decode cL_law 1430 = .ok (.iinc 4 7, 3) := by decide +kernel
theorem dL_law_1433 : decode cL_law 1433 = .ok (.goto (-1410), 3) := by decide +kernel
theorem dL_law_1436 : decode cL_law 1436 = .ok (.iconst 1, 1) := by decide +kernel
theorem dL_law_1437 : decode cL_law 1437 = .ok (.ireturn, 1) := by decide +kernel
end
section
def AW : List Cond := lw_tbl.filter goodWord
theorem AW_tbl : ∀ w ∈ AW, w ∈ lw_tbl := fun _ h => (List.mem_filter.mp h).1
theorem AW_of {w : Cond} (h : w ∈ lw_tbl) (g : goodWord w = true) : w ∈ AW := List.mem_filter.mpr ⟨h, g⟩
theorem AW_good : ∀ w ∈ AW, goodWord w = true := fun _ h => (List.mem_filter.mp h).2
theorem tb_i {w : Cond} (i : Nat) (h : tables_1[i]? = some w) : w ∈ lw_tbl := List.mem_append_right _ (List.mem_of_getElem? h)
theorem tb_s {w : Cond} (i : Nat) (h : (k2_sels lw_privs)[i]? = some w) : w ∈ lw_tbl := List.mem_append_left _ (List.mem_of_getElem? h)
theorem ini_L : Cond.initialized RL ∈ AW := AW_of (tb_i 0 (by decide +kernel)) (by decide +kernel)
theorem ini_X4 : Cond.initialized RX4 ∈ AW := AW_of (tb_i 1 (by decide +kernel)) (by decide +kernel)
theorem ini_X3 : Cond.initialized RX3 ∈ AW := AW_of (tb_i 2 (by decide +kernel)) (by decide +kernel)
theorem ini_X0 : Cond.initialized RX0 ∈ AW := AW_of (tb_i 3 (by decide +kernel)) (by decide +kernel)
theorem ini_X1 : Cond.initialized RX1 ∈ AW := AW_of (tb_i 4 (by decide +kernel)) (by decide +kernel)
theorem ini_J7 : Cond.initialized RJ7 ∈ AW := AW_of (tb_i 5 (by decide +kernel)) (by decide +kernel)
theorem ini_X2 : Cond.initialized RX2 ∈ AW := AW_of (tb_i 6 (by decide +kernel)) (by decide +kernel)
theorem ini_X5 : Cond.initialized RX5 ∈ AW := AW_of (tb_i 7 (by decide +kernel)) (by decide +kernel)
theorem ini_Throwable : Cond.initialized "java/lang/Throwable" ∈ AW := AW_of (tb_i 8 (by decide +kernel)) (by decide +kernel)
theorem ini_Exception : Cond.initialized "java/lang/Exception" ∈ AW := AW_of (tb_i 9 (by decide +kernel)) (by decide +kernel)
theorem ini_RuntimeException : Cond.initialized "java/lang/RuntimeException" ∈ AW := AW_of (tb_i 10 (by decide +kernel)) (by decide +kernel)
theorem ini_IndexOutOfBoundsException : Cond.initialized "java/lang/IndexOutOfBoundsException" ∈ AW := AW_of (tb_i 11 (by decide +kernel)) (by decide +kernel)
theorem ini_J9 : Cond.initialized RJ9 ∈ AW := AW_of (tb_i 12 (by decide +kernel)) (by decide +kernel)
theorem ini_IllegalArgumentException : Cond.initialized "java/lang/IllegalArgumentException" ∈ AW := AW_of (tb_i 13 (by decide +kernel)) (by decide +kernel)
theorem ini_IllegalStateException : Cond.initialized "java/lang/IllegalStateException" ∈ AW := AW_of (tb_i 14 (by decide +kernel)) (by decide +kernel)
theorem ini_J6 : Cond.initialized RJ6 ∈ AW := AW_of (tb_i 15 (by decide +kernel)) (by decide +kernel)
theorem cl_L_8 : Cond.classLink RL 8 RX4 ∈ AW := AW_of (tb_i 16 (by decide +kernel)) (by decide +kernel)
theorem ins_X4 : Cond.instantiable RX4 6 ∈ AW := AW_of (tb_i 17 (by decide +kernel)) (by decide +kernel)
theorem ml_L_70 : Cond.methodLink RL 70 yX4_init ∈ AW := AW_of (tb_i 18 (by decide +kernel)) (by decide +kernel)
theorem im_X4_init : Cond.instanceMethod yX4_init ∈ AW := AW_of (tb_i 19 (by decide +kernel)) (by decide +kernel)
theorem cd_X4_init : Cond.code yX4_init cX4_init 1 none ∈ AW := AW_of (tb_i 20 (by decide +kernel)) (by decide +kernel)
theorem ml_X4_3 : Cond.methodLink RX4 3 objectInit ∈ AW := AW_of (tb_i 21 (by decide +kernel)) (by decide +kernel)
theorem im_objInit : Cond.instanceMethod objectInit ∈ AW := AW_of (tb_i 22 (by decide +kernel)) (by decide +kernel)
theorem cd_objInit : Cond.code objectInit ⟨#[0xb1]⟩ 1 none ∈ AW := AW_of (tb_i 23 (by decide +kernel)) (by decide +kernel)
theorem cl_X4_9 : Cond.classLink RX4 9 RX3 ∈ AW := AW_of (tb_i 24 (by decide +kernel)) (by decide +kernel)
theorem ins_X3 : Cond.instantiable RX3 6 ∈ AW := AW_of (tb_i 25 (by decide +kernel)) (by decide +kernel)
theorem ml_X4_11 : Cond.methodLink RX4 11 yX3_init ∈ AW := AW_of (tb_i 26 (by decide +kernel)) (by decide +kernel)
theorem im_X3_init : Cond.instanceMethod yX3_init ∈ AW := AW_of (tb_i 27 (by decide +kernel)) (by decide +kernel)
theorem cd_X3_init : Cond.code yX3_init cX3_init 1 none ∈ AW := AW_of (tb_i 28 (by decide +kernel)) (by decide +kernel)
theorem ml_X3_3 : Cond.methodLink RX3 3 objectInit ∈ AW := AW_of (tb_i 29 (by decide +kernel)) (by decide +kernel)
theorem fl_X3_9 : Cond.fieldLink RX3 9 "DowserPegs$Veins" "size" "I" ∈ AW := AW_of (tb_i 30 (by decide +kernel)) (by decide +kernel)
theorem fl_X4_70 : Cond.fieldLink RX4 70 "DowserPegs$Veins" "size" "I" ∈ AW := AW_of (tb_i 31 (by decide +kernel)) (by decide +kernel)
theorem fl_X3_15 : Cond.fieldLink RX3 15 "DowserPegs$Veins" "depth" "[I" ∈ AW := AW_of (tb_i 32 (by decide +kernel)) (by decide +kernel)
theorem fl_X3_19 : Cond.fieldLink RX3 19 "DowserPegs$Veins" "flow" "[I" ∈ AW := AW_of (tb_i 33 (by decide +kernel)) (by decide +kernel)
theorem fl_X3_22 : Cond.fieldLink RX3 22 "DowserPegs$Veins" "reach" "[I" ∈ AW := AW_of (tb_i 34 (by decide +kernel)) (by decide +kernel)
theorem fl_X3_25 : Cond.fieldLink RX3 25 "DowserPegs$Veins" "water" "[I" ∈ AW := AW_of (tb_i 35 (by decide +kernel)) (by decide +kernel)
theorem fl_X4_229 : Cond.fieldLink RX4 229 "DowserPegs$Veins" "water" "[I" ∈ AW := AW_of (tb_i 36 (by decide +kernel)) (by decide +kernel)
theorem fl_X3_28 : Cond.fieldLink RX3 28 "DowserPegs$Veins" "shallowest" "[I" ∈ AW := AW_of (tb_i 37 (by decide +kernel)) (by decide +kernel)
theorem fl_X4_136 : Cond.fieldLink RX4 136 "DowserPegs$Veins" "shallowest" "[I" ∈ AW := AW_of (tb_i 38 (by decide +kernel)) (by decide +kernel)
theorem ac_int : Cond.arrayClass .int ∈ AW := AW_of (tb_i 52 (by decide +kernel)) (by decide +kernel)
theorem cl_X4_16 : Cond.classLink RX4 16 RX0 ∈ AW := AW_of (tb_i 53 (by decide +kernel)) (by decide +kernel)
theorem ins_X0 : Cond.instantiable RX0 4 ∈ AW := AW_of (tb_i 54 (by decide +kernel)) (by decide +kernel)
theorem ml_X4_18 : Cond.methodLink RX4 18 yX0_init ∈ AW := AW_of (tb_i 55 (by decide +kernel)) (by decide +kernel)
theorem im_X0_init : Cond.instanceMethod yX0_init ∈ AW := AW_of (tb_i 56 (by decide +kernel)) (by decide +kernel)
theorem cd_X0_init : Cond.code yX0_init cX0_init 1 none ∈ AW := AW_of (tb_i 57 (by decide +kernel)) (by decide +kernel)
theorem ml_X0_3 : Cond.methodLink RX0 3 objectInit ∈ AW := AW_of (tb_i 58 (by decide +kernel)) (by decide +kernel)
theorem fl_X0_9 : Cond.fieldLink RX0 9 "DowserPegs$Dowsers" "size" "I" ∈ AW := AW_of (tb_i 59 (by decide +kernel)) (by decide +kernel)
theorem fl_X4_88 : Cond.fieldLink RX4 88 "DowserPegs$Dowsers" "size" "I" ∈ AW := AW_of (tb_i 60 (by decide +kernel)) (by decide +kernel)
theorem fl_X0_15 : Cond.fieldLink RX0 15 "DowserPegs$Dowsers" "feeling" "[I" ∈ AW := AW_of (tb_i 61 (by decide +kernel)) (by decide +kernel)
theorem fl_X4_237 : Cond.fieldLink RX4 237 "DowserPegs$Dowsers" "feeling" "[I" ∈ AW := AW_of (tb_i 62 (by decide +kernel)) (by decide +kernel)
theorem fl_X0_19 : Cond.fieldLink RX0 19 "DowserPegs$Dowsers" "lean" "[I" ∈ AW := AW_of (tb_i 63 (by decide +kernel)) (by decide +kernel)
theorem fl_X4_241 : Cond.fieldLink RX4 241 "DowserPegs$Dowsers" "lean" "[I" ∈ AW := AW_of (tb_i 64 (by decide +kernel)) (by decide +kernel)
theorem fl_X0_22 : Cond.fieldLink RX0 22 "DowserPegs$Dowsers" "coins" "[I" ∈ AW := AW_of (tb_i 65 (by decide +kernel)) (by decide +kernel)
theorem fl_X4_153 : Cond.fieldLink RX4 153 "DowserPegs$Dowsers" "coins" "[I" ∈ AW := AW_of (tb_i 66 (by decide +kernel)) (by decide +kernel)
theorem cl_X4_23 : Cond.classLink RX4 23 RX1 ∈ AW := AW_of (tb_i 76 (by decide +kernel)) (by decide +kernel)
theorem ins_X1 : Cond.instantiable RX1 3 ∈ AW := AW_of (tb_i 77 (by decide +kernel)) (by decide +kernel)
theorem ml_X4_25 : Cond.methodLink RX4 25 yX1_init ∈ AW := AW_of (tb_i 78 (by decide +kernel)) (by decide +kernel)
theorem im_X1_init : Cond.instanceMethod yX1_init ∈ AW := AW_of (tb_i 79 (by decide +kernel)) (by decide +kernel)
theorem cd_X1_init : Cond.code yX1_init cX1_init 1 none ∈ AW := AW_of (tb_i 80 (by decide +kernel)) (by decide +kernel)
theorem ml_X1_5 : Cond.methodLink RX1 5 objectInit ∈ AW := AW_of (tb_i 81 (by decide +kernel)) (by decide +kernel)
theorem ml_X1_19 : Cond.methodLink RX1 19 yJ7_fill_53178 ∈ AW := AW_of (tb_i 82 (by decide +kernel)) (by decide +kernel)
theorem sm_J7_fill_53178 : Cond.static yJ7_fill_53178 ∈ AW := AW_of (tb_i 83 (by decide +kernel)) (by decide +kernel)
theorem cd_J7_fill_53178 : Cond.code yJ7_fill_53178 cJ7_fill_53178 4 none ∈ AW := AW_of (tb_i 84 (by decide +kernel)) (by decide +kernel)
theorem fl_X1_11 : Cond.fieldLink RX1 11 "DowserPegs$Pegs" "size" "I" ∈ AW := AW_of (tb_i 85 (by decide +kernel)) (by decide +kernel)
theorem fl_X4_232 : Cond.fieldLink RX4 232 "DowserPegs$Pegs" "size" "I" ∈ AW := AW_of (tb_i 86 (by decide +kernel)) (by decide +kernel)
theorem fl_X1_15 : Cond.fieldLink RX1 15 "DowserPegs$Pegs" "owner" "[I" ∈ AW := AW_of (tb_i 87 (by decide +kernel)) (by decide +kernel)
theorem fl_X4_249 : Cond.fieldLink RX4 249 "DowserPegs$Pegs" "owner" "[I" ∈ AW := AW_of (tb_i 88 (by decide +kernel)) (by decide +kernel)
theorem fl_X1_25 : Cond.fieldLink RX1 25 "DowserPegs$Pegs" "onLine" "[I" ∈ AW := AW_of (tb_i 89 (by decide +kernel)) (by decide +kernel)
theorem cl_X4_30 : Cond.classLink RX4 30 RX2 ∈ AW := AW_of (tb_i 97 (by decide +kernel)) (by decide +kernel)
theorem ins_X2 : Cond.instantiable RX2 7 ∈ AW := AW_of (tb_i 98 (by decide +kernel)) (by decide +kernel)
theorem ml_X4_32 : Cond.methodLink RX4 32 yX2_init ∈ AW := AW_of (tb_i 99 (by decide +kernel)) (by decide +kernel)
theorem im_X2_init : Cond.instanceMethod yX2_init ∈ AW := AW_of (tb_i 100 (by decide +kernel)) (by decide +kernel)
theorem cd_X2_init : Cond.code yX2_init cX2_init 1 none ∈ AW := AW_of (tb_i 101 (by decide +kernel)) (by decide +kernel)
theorem ml_X2_3 : Cond.methodLink RX2 3 objectInit ∈ AW := AW_of (tb_i 102 (by decide +kernel)) (by decide +kernel)
theorem ml_X2_19 : Cond.methodLink RX2 19 yJ7_fill_53178 ∈ AW := AW_of (tb_i 103 (by decide +kernel)) (by decide +kernel)
theorem fl_X2_9 : Cond.fieldLink RX2 9 "DowserPegs$Pits" "size" "I" ∈ AW := AW_of (tb_i 104 (by decide +kernel)) (by decide +kernel)
theorem fl_X4_129 : Cond.fieldLink RX4 129 "DowserPegs$Pits" "size" "I" ∈ AW := AW_of (tb_i 105 (by decide +kernel)) (by decide +kernel)
theorem fl_X2_15 : Cond.fieldLink RX2 15 "DowserPegs$Pits" "at" "[I" ∈ AW := AW_of (tb_i 106 (by decide +kernel)) (by decide +kernel)
theorem fl_X4_130 : Cond.fieldLink RX4 130 "DowserPegs$Pits" "at" "[I" ∈ AW := AW_of (tb_i 107 (by decide +kernel)) (by decide +kernel)
theorem fl_X2_25 : Cond.fieldLink RX2 25 "DowserPegs$Pits" "place" "[I" ∈ AW := AW_of (tb_i 108 (by decide +kernel)) (by decide +kernel)
theorem fl_X2_28 : Cond.fieldLink RX2 28 "DowserPegs$Pits" "waterDepth" "[I" ∈ AW := AW_of (tb_i 109 (by decide +kernel)) (by decide +kernel)
theorem fl_X2_31 : Cond.fieldLink RX2 31 "DowserPegs$Pits" "dug" "[I" ∈ AW := AW_of (tb_i 110 (by decide +kernel)) (by decide +kernel)
theorem fl_X4_147 : Cond.fieldLink RX4 147 "DowserPegs$Pits" "dug" "[I" ∈ AW := AW_of (tb_i 111 (by decide +kernel)) (by decide +kernel)
theorem fl_X2_34 : Cond.fieldLink RX2 34 "DowserPegs$Pits" "stake" "[I" ∈ AW := AW_of (tb_i 112 (by decide +kernel)) (by decide +kernel)
theorem fl_X2_37 : Cond.fieldLink RX2 37 "DowserPegs$Pits" "betFinds" "[Z" ∈ AW := AW_of (tb_i 113 (by decide +kernel)) (by decide +kernel)
theorem ac_boolean : Cond.arrayClass .boolean ∈ AW := AW_of (tb_i 129 (by decide +kernel)) (by decide +kernel)
theorem fl_X4_12 : Cond.fieldLink RX4 12 "DowserPegs" "veins" "LDowserPegs$Veins;" ∈ AW := AW_of (tb_i 130 (by decide +kernel)) (by decide +kernel)
theorem fl_X4_19 : Cond.fieldLink RX4 19 "DowserPegs" "dowsers" "LDowserPegs$Dowsers;" ∈ AW := AW_of (tb_i 131 (by decide +kernel)) (by decide +kernel)
theorem fl_X4_26 : Cond.fieldLink RX4 26 "DowserPegs" "pegs" "LDowserPegs$Pegs;" ∈ AW := AW_of (tb_i 132 (by decide +kernel)) (by decide +kernel)
theorem fl_X4_33 : Cond.fieldLink RX4 33 "DowserPegs" "pits" "LDowserPegs$Pits;" ∈ AW := AW_of (tb_i 133 (by decide +kernel)) (by decide +kernel)
theorem fl_X4_37 : Cond.fieldLink RX4 37 "DowserPegs" "mark" "I" ∈ AW := AW_of (tb_i 134 (by decide +kernel)) (by decide +kernel)
theorem fl_X4_41 : Cond.fieldLink RX4 41 "DowserPegs" "fieldCoins" "I" ∈ AW := AW_of (tb_i 135 (by decide +kernel)) (by decide +kernel)
theorem ml_L_135 : Cond.methodLink RL 135 yX4_advise ∈ AW := AW_of (tb_i 149 (by decide +kernel)) (by decide +kernel)
theorem im_X4_advise : Cond.instanceMethod yX4_advise ∈ AW := AW_of (tb_i 150 (by decide +kernel)) (by decide +kernel)
theorem se_X4_advise : Cond.selects RX4 yX4_advise yX4_advise ∈ AW := AW_of (tb_i 151 (by decide +kernel)) (by decide +kernel)
theorem cd_X4_advise : Cond.code yX4_advise cX4_advise 7 (some .int) ∈ AW := AW_of (tb_i 152 (by decide +kernel)) (by decide +kernel)
theorem ml_X4_220 : Cond.methodLink RX4 220 yX1_standingOf ∈ AW := AW_of (tb_i 153 (by decide +kernel)) (by decide +kernel)
theorem im_X1_standingOf : Cond.instanceMethod yX1_standingOf ∈ AW := AW_of (tb_i 154 (by decide +kernel)) (by decide +kernel)
theorem se_X1_standingOf : Cond.selects RX1 yX1_standingOf yX1_standingOf ∈ AW := AW_of (tb_i 155 (by decide +kernel)) (by decide +kernel)
theorem cd_X1_standingOf : Cond.code yX1_standingOf cX1_standingOf 4 (some .int) ∈ AW := AW_of (tb_i 156 (by decide +kernel)) (by decide +kernel)
theorem ml_X4_223 : Cond.methodLink RX4 223 yX4_trueOf ∈ AW := AW_of (tb_i 157 (by decide +kernel)) (by decide +kernel)
theorem im_X4_trueOf : Cond.instanceMethod yX4_trueOf ∈ AW := AW_of (tb_i 159 (by decide +kernel)) (by decide +kernel)
theorem cd_X4_trueOf : Cond.code yX4_trueOf cX4_trueOf 4 (some .int) ∈ AW := AW_of (tb_i 160 (by decide +kernel)) (by decide +kernel)
theorem ml_X4_252 : Cond.methodLink RX4 252 yX4_isTruePeg ∈ AW := AW_of (tb_i 161 (by decide +kernel)) (by decide +kernel)
theorem im_X4_isTruePeg : Cond.instanceMethod yX4_isTruePeg ∈ AW := AW_of (tb_i 163 (by decide +kernel)) (by decide +kernel)
theorem cd_X4_isTruePeg : Cond.code yX4_isTruePeg cX4_isTruePeg 2 (some .boolean) ∈ AW := AW_of (tb_i 164 (by decide +kernel)) (by decide +kernel)
theorem ml_X4_121 : Cond.methodLink RX4 121 yX1_standsAt ∈ AW := AW_of (tb_i 165 (by decide +kernel)) (by decide +kernel)
theorem im_X1_standsAt : Cond.instanceMethod yX1_standsAt ∈ AW := AW_of (tb_i 166 (by decide +kernel)) (by decide +kernel)
theorem se_X1_standsAt : Cond.selects RX1 yX1_standsAt yX1_standsAt ∈ AW := AW_of (tb_i 167 (by decide +kernel)) (by decide +kernel)
theorem cd_X1_standsAt : Cond.code yX1_standsAt cX1_standsAt 2 (some .boolean) ∈ AW := AW_of (tb_i 168 (by decide +kernel)) (by decide +kernel)
theorem ml_X4_226 : Cond.methodLink RX4 226 yX4_truer ∈ AW := AW_of (tb_i 169 (by decide +kernel)) (by decide +kernel)
theorem sm_X4_truer : Cond.static yX4_truer ∈ AW := AW_of (tb_i 170 (by decide +kernel)) (by decide +kernel)
theorem cd_X4_truer : Cond.code yX4_truer cX4_truer 6 (some .boolean) ∈ AW := AW_of (tb_i 171 (by decide +kernel)) (by decide +kernel)
theorem ml_L_139 : Cond.methodLink RL 139 yX4_mean ∈ AW := AW_of (tb_i 172 (by decide +kernel)) (by decide +kernel)
theorem im_X4_mean : Cond.instanceMethod yX4_mean ∈ AW := AW_of (tb_i 173 (by decide +kernel)) (by decide +kernel)
theorem se_X4_mean : Cond.selects RX4 yX4_mean yX4_mean ∈ AW := AW_of (tb_i 174 (by decide +kernel)) (by decide +kernel)
theorem cd_X4_mean : Cond.code yX4_mean cX4_mean 3 (some .double) ∈ AW := AW_of (tb_i 175 (by decide +kernel)) (by decide +kernel)
theorem ml_L_144 : Cond.methodLink RL 144 yX4_digest ∈ AW := AW_of (tb_i 176 (by decide +kernel)) (by decide +kernel)
theorem im_X4_digest : Cond.instanceMethod yX4_digest ∈ AW := AW_of (tb_i 177 (by decide +kernel)) (by decide +kernel)
theorem se_X4_digest : Cond.selects RX4 yX4_digest yX4_digest ∈ AW := AW_of (tb_i 178 (by decide +kernel)) (by decide +kernel)
theorem cd_X4_digest : Cond.code yX4_digest cX4_digest 5 (some .long) ∈ AW := AW_of (tb_i 179 (by decide +kernel)) (by decide +kernel)
theorem kl_X4_233 : Cond.constantLong RX4 233 1801 ∈ AW := AW_of (tb_i 180 (by decide +kernel)) (by decide +kernel)
theorem kl_X4_235 : Cond.constantLong RX4 235 31 ∈ AW := AW_of (tb_i 181 (by decide +kernel)) (by decide +kernel)
theorem ml_X4_199 : Cond.methodLink RX4 199 yX4_tellCount ∈ AW := AW_of (tb_i 182 (by decide +kernel)) (by decide +kernel)
theorem im_X4_tellCount : Cond.instanceMethod yX4_tellCount ∈ AW := AW_of (tb_i 184 (by decide +kernel)) (by decide +kernel)
theorem cd_X4_tellCount : Cond.code yX4_tellCount cX4_tellCount 2 (some .int) ∈ AW := AW_of (tb_i 185 (by decide +kernel)) (by decide +kernel)
theorem ml_X4_274 : Cond.methodLink RX4 274 yX3_wetSpots ∈ AW := AW_of (tb_i 186 (by decide +kernel)) (by decide +kernel)
theorem im_X3_wetSpots : Cond.instanceMethod yX3_wetSpots ∈ AW := AW_of (tb_i 187 (by decide +kernel)) (by decide +kernel)
theorem se_X3_wetSpots : Cond.selects RX3 yX3_wetSpots yX3_wetSpots ∈ AW := AW_of (tb_i 188 (by decide +kernel)) (by decide +kernel)
theorem cd_X3_wetSpots : Cond.code yX3_wetSpots cX3_wetSpots 3 (some .int) ∈ AW := AW_of (tb_i 189 (by decide +kernel)) (by decide +kernel)
theorem ml_X4_278 : Cond.methodLink RX4 278 yX4_truePegs ∈ AW := AW_of (tb_i 190 (by decide +kernel)) (by decide +kernel)
theorem im_X4_truePegs : Cond.instanceMethod yX4_truePegs ∈ AW := AW_of (tb_i 192 (by decide +kernel)) (by decide +kernel)
theorem cd_X4_truePegs : Cond.code yX4_truePegs cX4_truePegs 3 (some .int) ∈ AW := AW_of (tb_i 193 (by decide +kernel)) (by decide +kernel)
theorem ml_X4_281 : Cond.methodLink RX4 281 yX0_allCoins ∈ AW := AW_of (tb_i 194 (by decide +kernel)) (by decide +kernel)
theorem im_X0_allCoins : Cond.instanceMethod yX0_allCoins ∈ AW := AW_of (tb_i 195 (by decide +kernel)) (by decide +kernel)
theorem se_X0_allCoins : Cond.selects RX0 yX0_allCoins yX0_allCoins ∈ AW := AW_of (tb_i 196 (by decide +kernel)) (by decide +kernel)
theorem cd_X0_allCoins : Cond.code yX0_allCoins cX0_allCoins 3 (some .int) ∈ AW := AW_of (tb_i 197 (by decide +kernel)) (by decide +kernel)
theorem ml_X4_189 : Cond.methodLink RX4 189 yX4_tellDowser ∈ AW := AW_of (tb_i 198 (by decide +kernel)) (by decide +kernel)
theorem im_X4_tellDowser : Cond.instanceMethod yX4_tellDowser ∈ AW := AW_of (tb_i 200 (by decide +kernel)) (by decide +kernel)
theorem cd_X4_tellDowser : Cond.code yX4_tellDowser cX4_tellDowser 3 (some .int) ∈ AW := AW_of (tb_i 201 (by decide +kernel)) (by decide +kernel)
theorem ml_X4_267 : Cond.methodLink RX4 267 yX2_unpaidOf ∈ AW := AW_of (tb_i 202 (by decide +kernel)) (by decide +kernel)
theorem im_X2_unpaidOf : Cond.instanceMethod yX2_unpaidOf ∈ AW := AW_of (tb_i 203 (by decide +kernel)) (by decide +kernel)
theorem se_X2_unpaidOf : Cond.selects RX2 yX2_unpaidOf yX2_unpaidOf ∈ AW := AW_of (tb_i 204 (by decide +kernel)) (by decide +kernel)
theorem cd_X2_unpaidOf : Cond.code yX2_unpaidOf cX2_unpaidOf 4 (some .int) ∈ AW := AW_of (tb_i 205 (by decide +kernel)) (by decide +kernel)
theorem ml_X2_69 : Cond.methodLink RX2 69 yX2_isOver ∈ AW := AW_of (tb_i 206 (by decide +kernel)) (by decide +kernel)
theorem im_X2_isOver : Cond.instanceMethod yX2_isOver ∈ AW := AW_of (tb_i 207 (by decide +kernel)) (by decide +kernel)
theorem se_X2_isOver : Cond.selects RX2 yX2_isOver yX2_isOver ∈ AW := AW_of (tb_i 208 (by decide +kernel)) (by decide +kernel)
theorem cd_X2_isOver : Cond.code yX2_isOver cX2_isOver 2 (some .boolean) ∈ AW := AW_of (tb_i 209 (by decide +kernel)) (by decide +kernel)
theorem ml_X2_41 : Cond.methodLink RX2 41 yX2_hasFound ∈ AW := AW_of (tb_i 210 (by decide +kernel)) (by decide +kernel)
theorem im_X2_hasFound : Cond.instanceMethod yX2_hasFound ∈ AW := AW_of (tb_i 211 (by decide +kernel)) (by decide +kernel)
theorem se_X2_hasFound : Cond.selects RX2 yX2_hasFound yX2_hasFound ∈ AW := AW_of (tb_i 212 (by decide +kernel)) (by decide +kernel)
theorem cd_X2_hasFound : Cond.code yX2_hasFound cX2_hasFound 2 (some .boolean) ∈ AW := AW_of (tb_i 213 (by decide +kernel)) (by decide +kernel)
theorem ml_X2_51 : Cond.methodLink RX2 51 yX2_slip ∈ AW := AW_of (tb_i 214 (by decide +kernel)) (by decide +kernel)
theorem sm_X2_slip : Cond.static yX2_slip ∈ AW := AW_of (tb_i 215 (by decide +kernel)) (by decide +kernel)
theorem cd_X2_slip : Cond.code yX2_slip cX2_slip 2 (some .int) ∈ AW := AW_of (tb_i 216 (by decide +kernel)) (by decide +kernel)
theorem ml_X4_270 : Cond.methodLink RX4 270 yX2_paidBetsOf ∈ AW := AW_of (tb_i 217 (by decide +kernel)) (by decide +kernel)
theorem im_X2_paidBetsOf : Cond.instanceMethod yX2_paidBetsOf ∈ AW := AW_of (tb_i 218 (by decide +kernel)) (by decide +kernel)
theorem se_X2_paidBetsOf : Cond.selects RX2 yX2_paidBetsOf yX2_paidBetsOf ∈ AW := AW_of (tb_i 219 (by decide +kernel)) (by decide +kernel)
theorem cd_X2_paidBetsOf : Cond.code yX2_paidBetsOf cX2_paidBetsOf 6 (some .int) ∈ AW := AW_of (tb_i 220 (by decide +kernel)) (by decide +kernel)
theorem ml_X2_72 : Cond.methodLink RX2 72 yX2_hasBet ∈ AW := AW_of (tb_i 221 (by decide +kernel)) (by decide +kernel)
theorem im_X2_hasBet : Cond.instanceMethod yX2_hasBet ∈ AW := AW_of (tb_i 222 (by decide +kernel)) (by decide +kernel)
theorem se_X2_hasBet : Cond.selects RX2 yX2_hasBet yX2_hasBet ∈ AW := AW_of (tb_i 223 (by decide +kernel)) (by decide +kernel)
theorem cd_X2_hasBet : Cond.code yX2_hasBet cX2_hasBet 3 (some .boolean) ∈ AW := AW_of (tb_i 224 (by decide +kernel)) (by decide +kernel)
theorem ml_X4_194 : Cond.methodLink RX4 194 yX2_tell ∈ AW := AW_of (tb_i 225 (by decide +kernel)) (by decide +kernel)
theorem im_X2_tell : Cond.instanceMethod yX2_tell ∈ AW := AW_of (tb_i 226 (by decide +kernel)) (by decide +kernel)
theorem se_X2_tell : Cond.selects RX2 yX2_tell yX2_tell ∈ AW := AW_of (tb_i 227 (by decide +kernel)) (by decide +kernel)
theorem cd_X2_tell : Cond.code yX2_tell cX2_tell 3 (some .int) ∈ AW := AW_of (tb_i 228 (by decide +kernel)) (by decide +kernel)
theorem mn_X2_76 : Cond.methodLinkNest RX2 76 yX4_columnOf RX4 ∈ lw_tbl := tb_i 229 (by decide +kernel)
theorem sm_X4_columnOf : Cond.static yX4_columnOf ∈ AW := AW_of (tb_i 230 (by decide +kernel)) (by decide +kernel)
theorem cd_X4_columnOf : Cond.code yX4_columnOf cX4_columnOf 1 (some .int) ∈ AW := AW_of (tb_i 231 (by decide +kernel)) (by decide +kernel)
theorem mn_X2_79 : Cond.methodLinkNest RX2 79 yX4_rowOf RX4 ∈ lw_tbl := tb_i 232 (by decide +kernel)
theorem sm_X4_rowOf : Cond.static yX4_rowOf ∈ AW := AW_of (tb_i 233 (by decide +kernel)) (by decide +kernel)
theorem cd_X4_rowOf : Cond.code yX4_rowOf cX4_rowOf 1 (some .int) ∈ AW := AW_of (tb_i 234 (by decide +kernel)) (by decide +kernel)
theorem ml_X2_58 : Cond.methodLink RX2 58 yX2_stakedOn ∈ AW := AW_of (tb_i 235 (by decide +kernel)) (by decide +kernel)
theorem im_X2_stakedOn : Cond.instanceMethod yX2_stakedOn ∈ AW := AW_of (tb_i 237 (by decide +kernel)) (by decide +kernel)
theorem cd_X2_stakedOn : Cond.code yX2_stakedOn cX2_stakedOn 5 (some .int) ∈ AW := AW_of (tb_i 238 (by decide +kernel)) (by decide +kernel)
theorem ml_X2_54 : Cond.methodLink RX2 54 yX2_stakeOn ∈ AW := AW_of (tb_i 239 (by decide +kernel)) (by decide +kernel)
theorem im_X2_stakeOn : Cond.instanceMethod yX2_stakeOn ∈ AW := AW_of (tb_i 241 (by decide +kernel)) (by decide +kernel)
theorem cd_X2_stakeOn : Cond.code yX2_stakeOn cX2_stakeOn 5 (some .int) ∈ AW := AW_of (tb_i 242 (by decide +kernel)) (by decide +kernel)
theorem ml_X4_181 : Cond.methodLink RX4 181 yX4_tellSpot ∈ AW := AW_of (tb_i 243 (by decide +kernel)) (by decide +kernel)
theorem im_X4_tellSpot : Cond.instanceMethod yX4_tellSpot ∈ AW := AW_of (tb_i 245 (by decide +kernel)) (by decide +kernel)
theorem cd_X4_tellSpot : Cond.code yX4_tellSpot cX4_tellSpot 3 (some .int) ∈ AW := AW_of (tb_i 246 (by decide +kernel)) (by decide +kernel)
theorem ml_X4_261 : Cond.methodLink RX4 261 yX1_besides ∈ AW := AW_of (tb_i 247 (by decide +kernel)) (by decide +kernel)
theorem im_X1_besides : Cond.instanceMethod yX1_besides ∈ AW := AW_of (tb_i 248 (by decide +kernel)) (by decide +kernel)
theorem se_X1_besides : Cond.selects RX1 yX1_besides yX1_besides ∈ AW := AW_of (tb_i 249 (by decide +kernel)) (by decide +kernel)
theorem cd_X1_besides : Cond.code yX1_besides cX1_besides 4 (some .int) ∈ AW := AW_of (tb_i 250 (by decide +kernel)) (by decide +kernel)
theorem mn_X1_28 : Cond.methodLinkNest RX1 28 yX4_columnOf RX4 ∈ lw_tbl := tb_i 251 (by decide +kernel)
theorem mn_X1_32 : Cond.methodLinkNest RX1 32 yX4_rowOf RX4 ∈ lw_tbl := tb_i 252 (by decide +kernel)
theorem ml_X1_35 : Cond.methodLink RX1 35 yX1_pegsAt ∈ AW := AW_of (tb_i 253 (by decide +kernel)) (by decide +kernel)
theorem im_X1_pegsAt : Cond.instanceMethod yX1_pegsAt ∈ AW := AW_of (tb_i 255 (by decide +kernel)) (by decide +kernel)
theorem cd_X1_pegsAt : Cond.code yX1_pegsAt cX1_pegsAt 3 (some .int) ∈ AW := AW_of (tb_i 256 (by decide +kernel)) (by decide +kernel)
theorem mn_X1_39 : Cond.methodLinkNest RX1 39 yX4_inField RX4 ∈ lw_tbl := tb_i 257 (by decide +kernel)
theorem sm_X4_inField : Cond.static yX4_inField ∈ AW := AW_of (tb_i 258 (by decide +kernel)) (by decide +kernel)
theorem cd_X4_inField : Cond.code yX4_inField cX4_inField 2 (some .boolean) ∈ AW := AW_of (tb_i 259 (by decide +kernel)) (by decide +kernel)
theorem ml_X4_64 : Cond.methodLink RX4 64 yX4_within ∈ AW := AW_of (tb_i 260 (by decide +kernel)) (by decide +kernel)
theorem sm_X4_within : Cond.static yX4_within ∈ AW := AW_of (tb_i 261 (by decide +kernel)) (by decide +kernel)
theorem cd_X4_within : Cond.code yX4_within cX4_within 3 (some .boolean) ∈ AW := AW_of (tb_i 262 (by decide +kernel)) (by decide +kernel)
theorem mn_X1_43 : Cond.methodLinkNest RX1 43 yX4_spotAt RX4 ∈ lw_tbl := tb_i 263 (by decide +kernel)
theorem sm_X4_spotAt : Cond.static yX4_spotAt ∈ AW := AW_of (tb_i 264 (by decide +kernel)) (by decide +kernel)
theorem cd_X4_spotAt : Cond.code yX4_spotAt cX4_spotAt 2 (some .int) ∈ AW := AW_of (tb_i 265 (by decide +kernel)) (by decide +kernel)
theorem ml_X1_46 : Cond.methodLink RX1 46 yX1_standsAt ∈ AW := AW_of (tb_i 266 (by decide +kernel)) (by decide +kernel)
theorem ml_X4_264 : Cond.methodLink RX4 264 yX1_nearest ∈ AW := AW_of (tb_i 267 (by decide +kernel)) (by decide +kernel)
theorem im_X1_nearest : Cond.instanceMethod yX1_nearest ∈ AW := AW_of (tb_i 268 (by decide +kernel)) (by decide +kernel)
theorem se_X1_nearest : Cond.selects RX1 yX1_nearest yX1_nearest ∈ AW := AW_of (tb_i 269 (by decide +kernel)) (by decide +kernel)
theorem cd_X1_nearest : Cond.code yX1_nearest cX1_nearest 4 (some .int) ∈ AW := AW_of (tb_i 270 (by decide +kernel)) (by decide +kernel)
theorem mn_X1_50 : Cond.methodLinkNest RX1 50 yX4_distance RX4 ∈ lw_tbl := tb_i 271 (by decide +kernel)
theorem sm_X4_distance : Cond.static yX4_distance ∈ AW := AW_of (tb_i 272 (by decide +kernel)) (by decide +kernel)
theorem cd_X4_distance : Cond.code yX4_distance cX4_distance 2 (some .int) ∈ AW := AW_of (tb_i 273 (by decide +kernel)) (by decide +kernel)
theorem ml_X4_214 : Cond.methodLink RX4 214 yX4_columnOf ∈ AW := AW_of (tb_i 274 (by decide +kernel)) (by decide +kernel)
theorem ml_X4_108 : Cond.methodLink RX4 108 Lib.Math.abs.name ∈ AW := AW_of (tb_i 275 (by decide +kernel)) (by decide +kernel)
theorem sm_Math_abs : Cond.static Lib.Math.abs.name ∈ AW := AW_of (tb_i 276 (by decide +kernel)) (by decide +kernel)
theorem cd_Math_abs : Cond.code Lib.Math.abs.name Lib.Math.abs.code 1 (some .int) ∈ AW := AW_of (tb_i 277 (by decide +kernel)) (by decide +kernel)
theorem ml_X4_217 : Cond.methodLink RX4 217 yX4_rowOf ∈ AW := AW_of (tb_i 278 (by decide +kernel)) (by decide +kernel)
theorem ml_L_74 : Cond.methodLink RL 74 yL_vein ∈ AW := AW_of (tb_i 279 (by decide +kernel)) (by decide +kernel)
theorem sm_L_vein : Cond.static yL_vein ∈ AW := AW_of (tb_i 280 (by decide +kernel)) (by decide +kernel)
theorem cw_L_vein : Cond.codeWith yL_vein cL_vein 9 (some .int) [(0, 18, 21, 13), (0, 18, 25, 15), (0, 18, 29, 17)] ∈ AW := AW_of (tb_i 281 (by decide +kernel)) (by decide +kernel)
theorem cl_L_13 : Cond.classLink RL 13 "java/lang/IndexOutOfBoundsException" ∈ AW := AW_of (tb_i 282 (by decide +kernel)) (by decide +kernel)
theorem cl_L_15 : Cond.classLink RL 15 "java/lang/IllegalArgumentException" ∈ AW := AW_of (tb_i 283 (by decide +kernel)) (by decide +kernel)
theorem cl_L_17 : Cond.classLink RL 17 "java/lang/IllegalStateException" ∈ AW := AW_of (tb_i 284 (by decide +kernel)) (by decide +kernel)
theorem ml_L_7 : Cond.methodLink RL 7 yX4_vein ∈ AW := AW_of (tb_i 285 (by decide +kernel)) (by decide +kernel)
theorem im_X4_vein : Cond.instanceMethod yX4_vein ∈ AW := AW_of (tb_i 286 (by decide +kernel)) (by decide +kernel)
theorem se_X4_vein : Cond.selects RX4 yX4_vein yX4_vein ∈ AW := AW_of (tb_i 287 (by decide +kernel)) (by decide +kernel)
theorem cd_X4_vein : Cond.code yX4_vein cX4_vein 8 (some .int) ∈ AW := AW_of (tb_i 288 (by decide +kernel)) (by decide +kernel)
theorem ml_X4_44 : Cond.methodLink RX4 44 yX4_inField ∈ AW := AW_of (tb_i 289 (by decide +kernel)) (by decide +kernel)
theorem cl_X4_48 : Cond.classLink RX4 48 "java/lang/IndexOutOfBoundsException" ∈ AW := AW_of (tb_i 290 (by decide +kernel)) (by decide +kernel)
theorem ins_IndexOutOfBoundsException : Cond.instantiable "java/lang/IndexOutOfBoundsException" 6 ∈ AW := AW_of (tb_i 291 (by decide +kernel)) (by decide +kernel)
theorem ca_IndexOutOfBoundsException_IndexOutOfBoundsException : Cond.castable "java/lang/IndexOutOfBoundsException" "java/lang/IndexOutOfBoundsException" ∈ lw_tbl := tb_i 292 (by decide +kernel)
theorem fl_Throwable_198 : Cond.fieldLink "java/lang/Throwable" 198 "java/lang/Throwable" "backtrace" "Ljava/lang/Object;" ∈ AW := AW_of (tb_i 311 (by decide +kernel)) (by decide +kernel)
theorem im_Throwable__init____V : Cond.instanceMethod ⟨"java/lang/Throwable", "<init>", "()V"⟩ ∈ AW := AW_of (tb_i 313 (by decide +kernel)) (by decide +kernel)
theorem ml_Throwable_1 : Cond.methodLink "java/lang/Throwable" 1 objectInit ∈ AW := AW_of (tb_i 315 (by decide +kernel)) (by decide +kernel)
theorem fl_Throwable_13 : Cond.fieldLink "java/lang/Throwable" 13 "java/lang/Throwable" "UNASSIGNED_STACK" "[Ljava/lang/StackTraceElement;" ∈ AW := AW_of (tb_i 316 (by decide +kernel)) (by decide +kernel)
theorem fl_Throwable_20 : Cond.fieldLink "java/lang/Throwable" 20 "java/lang/Throwable" "SUPPRESSED_SENTINEL" "Ljava/util/List;" ∈ AW := AW_of (tb_i 318 (by decide +kernel)) (by decide +kernel)
theorem ml_Throwable_27 : Cond.methodLink "java/lang/Throwable" 27 ⟨"java/lang/Throwable", "fillInStackTrace", "()Ljava/lang/Throwable;"⟩ ∈ AW := AW_of (tb_i 320 (by decide +kernel)) (by decide +kernel)
theorem im_Throwable_fillInStackTrace___Ljava_lang_Throwable : Cond.instanceMethod ⟨"java/lang/Throwable", "fillInStackTrace", "()Ljava/lang/Throwable;"⟩ ∈ AW := AW_of (tb_i 321 (by decide +kernel)) (by decide +kernel)
theorem ml_Throwable_202 : Cond.methodLink "java/lang/Throwable" 202 ⟨"java/lang/Throwable", "fillInStackTrace", "(I)Ljava/lang/Throwable;"⟩ ∈ AW := AW_of (tb_i 326 (by decide +kernel)) (by decide +kernel)
theorem im_Throwable_fillInStackTrace__I_Ljava_lang_Throwable : Cond.instanceMethod ⟨"java/lang/Throwable", "fillInStackTrace", "(I)Ljava/lang/Throwable;"⟩ ∈ AW := AW_of (tb_i 328 (by decide +kernel)) (by decide +kernel)
theorem ins_Throwable : Cond.instantiable "java/lang/Throwable" 6 ∈ AW := AW_of (tb_i 329 (by decide +kernel)) (by decide +kernel)
theorem ml_X4_52 : Cond.methodLink RX4 52 ⟨"java/lang/IndexOutOfBoundsException", "<init>", "(Ljava/lang/String;)V"⟩ ∈ AW := AW_of (tb_i 332 (by decide +kernel)) (by decide +kernel)
theorem im_IndexOutOfBoundsException__init___Ljava_lang_String__V : Cond.instanceMethod ⟨"java/lang/IndexOutOfBoundsException", "<init>", "(Ljava/lang/String;)V"⟩ ∈ AW := AW_of (tb_i 333 (by decide +kernel)) (by decide +kernel)
theorem ml_IndexOutOfBoundsException_7 : Cond.methodLink "java/lang/IndexOutOfBoundsException" 7 ⟨"java/lang/RuntimeException", "<init>", "(Ljava/lang/String;)V"⟩ ∈ AW := AW_of (tb_i 335 (by decide +kernel)) (by decide +kernel)
theorem im_RuntimeException__init___Ljava_lang_String__V : Cond.instanceMethod ⟨"java/lang/RuntimeException", "<init>", "(Ljava/lang/String;)V"⟩ ∈ AW := AW_of (tb_i 336 (by decide +kernel)) (by decide +kernel)
theorem ml_RuntimeException_7 : Cond.methodLink "java/lang/RuntimeException" 7 ⟨"java/lang/Exception", "<init>", "(Ljava/lang/String;)V"⟩ ∈ AW := AW_of (tb_i 338 (by decide +kernel)) (by decide +kernel)
theorem im_Exception__init___Ljava_lang_String__V : Cond.instanceMethod ⟨"java/lang/Exception", "<init>", "(Ljava/lang/String;)V"⟩ ∈ AW := AW_of (tb_i 339 (by decide +kernel)) (by decide +kernel)
theorem ml_Exception_7 : Cond.methodLink "java/lang/Exception" 7 ⟨"java/lang/Throwable", "<init>", "(Ljava/lang/String;)V"⟩ ∈ AW := AW_of (tb_i 341 (by decide +kernel)) (by decide +kernel)
theorem im_Throwable__init___Ljava_lang_String__V : Cond.instanceMethod ⟨"java/lang/Throwable", "<init>", "(Ljava/lang/String;)V"⟩ ∈ AW := AW_of (tb_i 342 (by decide +kernel)) (by decide +kernel)
theorem fl_Throwable_31 : Cond.fieldLink "java/lang/Throwable" 31 "java/lang/Throwable" "detailMessage" "Ljava/lang/String;" ∈ AW := AW_of (tb_i 345 (by decide +kernel)) (by decide +kernel)
theorem fl_Throwable_7 : Cond.fieldLink "java/lang/Throwable" 7 "java/lang/Throwable" "cause" "Ljava/lang/Throwable;" ∈ AW := AW_of (tb_i 346 (by decide +kernel)) (by decide +kernel)
theorem fl_Throwable_17 : Cond.fieldLink "java/lang/Throwable" 17 "java/lang/Throwable" "stackTrace" "[Ljava/lang/StackTraceElement;" ∈ AW := AW_of (tb_i 347 (by decide +kernel)) (by decide +kernel)
theorem fl_Throwable_24 : Cond.fieldLink "java/lang/Throwable" 24 "java/lang/Throwable" "suppressedExceptions" "Ljava/util/List;" ∈ AW := AW_of (tb_i 348 (by decide +kernel)) (by decide +kernel)
theorem ac_byte : Cond.arrayClass .byte ∈ AW := AW_of (tb_i 357 (by decide +kernel)) (by decide +kernel)
theorem ml_X4_55 : Cond.methodLink RX4 55 yX4_straight ∈ AW := AW_of (tb_i 358 (by decide +kernel)) (by decide +kernel)
theorem sm_X4_straight : Cond.static yX4_straight ∈ AW := AW_of (tb_i 359 (by decide +kernel)) (by decide +kernel)
theorem cd_X4_straight : Cond.code yX4_straight cX4_straight 4 (some .boolean) ∈ AW := AW_of (tb_i 360 (by decide +kernel)) (by decide +kernel)
theorem cl_X4_59 : Cond.classLink RX4 59 "java/lang/IllegalArgumentException" ∈ AW := AW_of (tb_i 361 (by decide +kernel)) (by decide +kernel)
theorem ins_IllegalArgumentException : Cond.instantiable "java/lang/IllegalArgumentException" 6 ∈ AW := AW_of (tb_i 362 (by decide +kernel)) (by decide +kernel)
theorem ca_IllegalArgumentException_IllegalArgumentException : Cond.castable "java/lang/IllegalArgumentException" "java/lang/IllegalArgumentException" ∈ lw_tbl := tb_i 363 (by decide +kernel)
theorem ml_X4_63 : Cond.methodLink RX4 63 ⟨"java/lang/IllegalArgumentException", "<init>", "(Ljava/lang/String;)V"⟩ ∈ AW := AW_of (tb_i 371 (by decide +kernel)) (by decide +kernel)
theorem im_IllegalArgumentException__init___Ljava_lang_String__V : Cond.instanceMethod ⟨"java/lang/IllegalArgumentException", "<init>", "(Ljava/lang/String;)V"⟩ ∈ AW := AW_of (tb_i 372 (by decide +kernel)) (by decide +kernel)
theorem ml_IllegalArgumentException_7 : Cond.methodLink "java/lang/IllegalArgumentException" 7 ⟨"java/lang/RuntimeException", "<init>", "(Ljava/lang/String;)V"⟩ ∈ AW := AW_of (tb_i 374 (by decide +kernel)) (by decide +kernel)
theorem cl_X4_73 : Cond.classLink RX4 73 "java/lang/IllegalStateException" ∈ AW := AW_of (tb_i 378 (by decide +kernel)) (by decide +kernel)
theorem ins_IllegalStateException : Cond.instantiable "java/lang/IllegalStateException" 6 ∈ AW := AW_of (tb_i 379 (by decide +kernel)) (by decide +kernel)
theorem ca_IllegalStateException_IllegalStateException : Cond.castable "java/lang/IllegalStateException" "java/lang/IllegalStateException" ∈ lw_tbl := tb_i 380 (by decide +kernel)
theorem ml_X4_77 : Cond.methodLink RX4 77 ⟨"java/lang/IllegalStateException", "<init>", "(Ljava/lang/String;)V"⟩ ∈ AW := AW_of (tb_i 388 (by decide +kernel)) (by decide +kernel)
theorem im_IllegalStateException__init___Ljava_lang_String__V : Cond.instanceMethod ⟨"java/lang/IllegalStateException", "<init>", "(Ljava/lang/String;)V"⟩ ∈ AW := AW_of (tb_i 389 (by decide +kernel)) (by decide +kernel)
theorem ml_IllegalStateException_7 : Cond.methodLink "java/lang/IllegalStateException" 7 ⟨"java/lang/RuntimeException", "<init>", "(Ljava/lang/String;)V"⟩ ∈ AW := AW_of (tb_i 391 (by decide +kernel)) (by decide +kernel)
theorem ml_X4_78 : Cond.methodLink RX4 78 yX3_open ∈ AW := AW_of (tb_i 394 (by decide +kernel)) (by decide +kernel)
theorem im_X3_open : Cond.instanceMethod yX3_open ∈ AW := AW_of (tb_i 395 (by decide +kernel)) (by decide +kernel)
theorem se_X3_open : Cond.selects RX3 yX3_open yX3_open ∈ AW := AW_of (tb_i 396 (by decide +kernel)) (by decide +kernel)
theorem cd_X3_open : Cond.code yX3_open cX3_open 4 (some .int) ∈ AW := AW_of (tb_i 397 (by decide +kernel)) (by decide +kernel)
theorem ml_X4_82 : Cond.methodLink RX4 82 yX3_lay ∈ AW := AW_of (tb_i 398 (by decide +kernel)) (by decide +kernel)
theorem im_X3_lay : Cond.instanceMethod yX3_lay ∈ AW := AW_of (tb_i 399 (by decide +kernel)) (by decide +kernel)
theorem se_X3_lay : Cond.selects RX3 yX3_lay yX3_lay ∈ AW := AW_of (tb_i 400 (by decide +kernel)) (by decide +kernel)
theorem cd_X3_lay : Cond.code yX3_lay cX3_lay 10 none ∈ AW := AW_of (tb_i 401 (by decide +kernel)) (by decide +kernel)
theorem ml_X3_31 : Cond.methodLink RX3 31 yJ6_signum_0f7a4 ∈ AW := AW_of (tb_i 402 (by decide +kernel)) (by decide +kernel)
theorem sm_J6_signum_0f7a4 : Cond.static yJ6_signum_0f7a4 ∈ AW := AW_of (tb_i 403 (by decide +kernel)) (by decide +kernel)
theorem cd_J6_signum_0f7a4 : Cond.code yJ6_signum_0f7a4 cJ6_signum_0f7a4 1 (some .int) ∈ AW := AW_of (tb_i 404 (by decide +kernel)) (by decide +kernel)
theorem ml_X3_37 : Cond.methodLink RX3 37 Lib.Math.abs.name ∈ AW := AW_of (tb_i 405 (by decide +kernel)) (by decide +kernel)
theorem ml_X3_42 : Cond.methodLink RX3 42 Lib.Math.max.name ∈ AW := AW_of (tb_i 406 (by decide +kernel)) (by decide +kernel)
theorem sm_Math_max : Cond.static Lib.Math.max.name ∈ AW := AW_of (tb_i 407 (by decide +kernel)) (by decide +kernel)
theorem cd_Math_max : Cond.code Lib.Math.max.name Lib.Math.max.code 2 (some .int) ∈ AW := AW_of (tb_i 408 (by decide +kernel)) (by decide +kernel)
theorem ml_X3_46 : Cond.methodLink RX3 46 yX3_cover ∈ AW := AW_of (tb_i 409 (by decide +kernel)) (by decide +kernel)
theorem im_X3_cover : Cond.instanceMethod yX3_cover ∈ AW := AW_of (tb_i 411 (by decide +kernel)) (by decide +kernel)
theorem cd_X3_cover : Cond.code yX3_cover cX3_cover 6 none ∈ AW := AW_of (tb_i 412 (by decide +kernel)) (by decide +kernel)
theorem ml_X3_50 : Cond.methodLink RX3 50 yX3_raise ∈ AW := AW_of (tb_i 413 (by decide +kernel)) (by decide +kernel)
theorem im_X3_raise : Cond.instanceMethod yX3_raise ∈ AW := AW_of (tb_i 415 (by decide +kernel)) (by decide +kernel)
theorem cd_X3_raise : Cond.code yX3_raise cX3_raise 6 none ∈ AW := AW_of (tb_i 416 (by decide +kernel)) (by decide +kernel)
theorem mn_X3_57 : Cond.methodLinkNest RX3 57 yX4_inField RX4 ∈ lw_tbl := tb_i 417 (by decide +kernel)
theorem mn_X3_54 : Cond.methodLinkNest RX3 54 yX4_spotAt RX4 ∈ lw_tbl := tb_i 418 (by decide +kernel)
theorem ml_L_84 : Cond.methodLink RL 84 yL_dowser ∈ AW := AW_of (tb_i 419 (by decide +kernel)) (by decide +kernel)
theorem sm_L_dowser : Cond.static yL_dowser ∈ AW := AW_of (tb_i 420 (by decide +kernel)) (by decide +kernel)
theorem cw_L_dowser : Cond.codeWith yL_dowser cL_dowser 5 (some .int) [(0, 10, 13, 15), (0, 10, 17, 17)] ∈ AW := AW_of (tb_i 421 (by decide +kernel)) (by decide +kernel)
theorem ml_L_19 : Cond.methodLink RL 19 yX4_dowser ∈ AW := AW_of (tb_i 422 (by decide +kernel)) (by decide +kernel)
theorem im_X4_dowser : Cond.instanceMethod yX4_dowser ∈ AW := AW_of (tb_i 423 (by decide +kernel)) (by decide +kernel)
theorem se_X4_dowser : Cond.selects RX4 yX4_dowser yX4_dowser ∈ AW := AW_of (tb_i 424 (by decide +kernel)) (by decide +kernel)
theorem cd_X4_dowser : Cond.code yX4_dowser cX4_dowser 3 (some .int) ∈ AW := AW_of (tb_i 425 (by decide +kernel)) (by decide +kernel)
theorem ml_X4_91 : Cond.methodLink RX4 91 yX0_add ∈ AW := AW_of (tb_i 428 (by decide +kernel)) (by decide +kernel)
theorem im_X0_add : Cond.instanceMethod yX0_add ∈ AW := AW_of (tb_i 429 (by decide +kernel)) (by decide +kernel)
theorem se_X0_add : Cond.selects RX0 yX0_add yX0_add ∈ AW := AW_of (tb_i 430 (by decide +kernel)) (by decide +kernel)
theorem cd_X0_add : Cond.code yX0_add cX0_add 4 (some .int) ∈ AW := AW_of (tb_i 431 (by decide +kernel)) (by decide +kernel)
theorem ml_L_88 : Cond.methodLink RL 88 yL_setMark ∈ AW := AW_of (tb_i 432 (by decide +kernel)) (by decide +kernel)
theorem sm_L_setMark : Cond.static yL_setMark ∈ AW := AW_of (tb_i 433 (by decide +kernel)) (by decide +kernel)
theorem cw_L_setMark : Cond.codeWith yL_setMark cL_setMark 4 (some .int) [(0, 9, 12, 15)] ∈ AW := AW_of (tb_i 434 (by decide +kernel)) (by decide +kernel)
theorem ml_L_23 : Cond.methodLink RL 23 yX4_setMark ∈ AW := AW_of (tb_i 435 (by decide +kernel)) (by decide +kernel)
theorem im_X4_setMark : Cond.instanceMethod yX4_setMark ∈ AW := AW_of (tb_i 436 (by decide +kernel)) (by decide +kernel)
theorem se_X4_setMark : Cond.selects RX4 yX4_setMark yX4_setMark ∈ AW := AW_of (tb_i 437 (by decide +kernel)) (by decide +kernel)
theorem cd_X4_setMark : Cond.code yX4_setMark cX4_setMark 3 (some .int) ∈ AW := AW_of (tb_i 438 (by decide +kernel)) (by decide +kernel)
theorem ml_L_92 : Cond.methodLink RL 92 yL_walk ∈ AW := AW_of (tb_i 440 (by decide +kernel)) (by decide +kernel)
theorem sm_L_walk : Cond.static yL_walk ∈ AW := AW_of (tb_i 441 (by decide +kernel)) (by decide +kernel)
theorem cw_L_walk : Cond.codeWith yL_walk cL_walk 8 (some .int) [(0, 16, 19, 13)] ∈ AW := AW_of (tb_i 442 (by decide +kernel)) (by decide +kernel)
theorem ml_L_27 : Cond.methodLink RL 27 yX4_walk ∈ AW := AW_of (tb_i 443 (by decide +kernel)) (by decide +kernel)
theorem im_X4_walk : Cond.instanceMethod yX4_walk ∈ AW := AW_of (tb_i 444 (by decide +kernel)) (by decide +kernel)
theorem se_X4_walk : Cond.selects RX4 yX4_walk yX4_walk ∈ AW := AW_of (tb_i 445 (by decide +kernel)) (by decide +kernel)
theorem cd_X4_walk : Cond.code yX4_walk cX4_walk 12 (some .int) ∈ AW := AW_of (tb_i 446 (by decide +kernel)) (by decide +kernel)
theorem ml_X4_96 : Cond.methodLink RX4 96 yX4_isDowser ∈ AW := AW_of (tb_i 447 (by decide +kernel)) (by decide +kernel)
theorem im_X4_isDowser : Cond.instanceMethod yX4_isDowser ∈ AW := AW_of (tb_i 449 (by decide +kernel)) (by decide +kernel)
theorem cd_X4_isDowser : Cond.code yX4_isDowser cX4_isDowser 2 (some .boolean) ∈ AW := AW_of (tb_i 450 (by decide +kernel)) (by decide +kernel)
theorem ml_X4_102 : Cond.methodLink RX4 102 yJ6_signum_0f7a4 ∈ AW := AW_of (tb_i 452 (by decide +kernel)) (by decide +kernel)
theorem ml_X4_113 : Cond.methodLink RX4 113 yX4_spotAt ∈ AW := AW_of (tb_i 453 (by decide +kernel)) (by decide +kernel)
theorem ml_X4_116 : Cond.methodLink RX4 116 yX4_markPeg ∈ AW := AW_of (tb_i 454 (by decide +kernel)) (by decide +kernel)
theorem im_X4_markPeg : Cond.instanceMethod yX4_markPeg ∈ AW := AW_of (tb_i 456 (by decide +kernel)) (by decide +kernel)
theorem cd_X4_markPeg : Cond.code yX4_markPeg cX4_markPeg 3 (some .int) ∈ AW := AW_of (tb_i 457 (by decide +kernel)) (by decide +kernel)
theorem ml_X4_184 : Cond.methodLink RX4 184 yX4_bend ∈ AW := AW_of (tb_i 458 (by decide +kernel)) (by decide +kernel)
theorem im_X4_bend : Cond.instanceMethod yX4_bend ∈ AW := AW_of (tb_i 460 (by decide +kernel)) (by decide +kernel)
theorem cd_X4_bend : Cond.code yX4_bend cX4_bend 3 (some .int) ∈ AW := AW_of (tb_i 461 (by decide +kernel)) (by decide +kernel)
theorem ml_X4_240 : Cond.methodLink RX4 240 yX3_bend ∈ AW := AW_of (tb_i 462 (by decide +kernel)) (by decide +kernel)
theorem im_X3_bend : Cond.instanceMethod yX3_bend ∈ AW := AW_of (tb_i 463 (by decide +kernel)) (by decide +kernel)
theorem se_X3_bend : Cond.selects RX3 yX3_bend yX3_bend ∈ AW := AW_of (tb_i 464 (by decide +kernel)) (by decide +kernel)
theorem cd_X3_bend : Cond.code yX3_bend cX3_bend 7 (some .int) ∈ AW := AW_of (tb_i 465 (by decide +kernel)) (by decide +kernel)
theorem mn_X3_61 : Cond.methodLinkNest RX3 61 yX4_quotient RX4 ∈ lw_tbl := tb_i 466 (by decide +kernel)
theorem sm_X4_quotient : Cond.static yX4_quotient ∈ AW := AW_of (tb_i 467 (by decide +kernel)) (by decide +kernel)
theorem cd_X4_quotient : Cond.code yX4_quotient cX4_quotient 2 (some .int) ∈ AW := AW_of (tb_i 468 (by decide +kernel)) (by decide +kernel)
theorem ml_X4_244 : Cond.methodLink RX4 244 Lib.Math.max.name ∈ AW := AW_of (tb_i 469 (by decide +kernel)) (by decide +kernel)
theorem ml_X4_247 : Cond.methodLink RX4 247 yX1_add ∈ AW := AW_of (tb_i 470 (by decide +kernel)) (by decide +kernel)
theorem im_X1_add : Cond.instanceMethod yX1_add ∈ AW := AW_of (tb_i 471 (by decide +kernel)) (by decide +kernel)
theorem se_X1_add : Cond.selects RX1 yX1_add yX1_add ∈ AW := AW_of (tb_i 472 (by decide +kernel)) (by decide +kernel)
theorem cd_X1_add : Cond.code yX1_add cX1_add 3 none ∈ AW := AW_of (tb_i 473 (by decide +kernel)) (by decide +kernel)
theorem ml_L_96 : Cond.methodLink RL 96 yL_pull ∈ AW := AW_of (tb_i 474 (by decide +kernel)) (by decide +kernel)
theorem sm_L_pull : Cond.static yL_pull ∈ AW := AW_of (tb_i 475 (by decide +kernel)) (by decide +kernel)
theorem cw_L_pull : Cond.codeWith yL_pull cL_pull 5 (some .int) [(0, 10, 13, 13), (0, 10, 17, 17)] ∈ AW := AW_of (tb_i 476 (by decide +kernel)) (by decide +kernel)
theorem ml_L_31 : Cond.methodLink RL 31 yX4_pull ∈ AW := AW_of (tb_i 477 (by decide +kernel)) (by decide +kernel)
theorem im_X4_pull : Cond.instanceMethod yX4_pull ∈ AW := AW_of (tb_i 478 (by decide +kernel)) (by decide +kernel)
theorem se_X4_pull : Cond.selects RX4 yX4_pull yX4_pull ∈ AW := AW_of (tb_i 479 (by decide +kernel)) (by decide +kernel)
theorem cd_X4_pull : Cond.code yX4_pull cX4_pull 4 (some .int) ∈ AW := AW_of (tb_i 480 (by decide +kernel)) (by decide +kernel)
theorem ml_X4_126 : Cond.methodLink RX4 126 yX1_remove ∈ AW := AW_of (tb_i 483 (by decide +kernel)) (by decide +kernel)
theorem im_X1_remove : Cond.instanceMethod yX1_remove ∈ AW := AW_of (tb_i 484 (by decide +kernel)) (by decide +kernel)
theorem se_X1_remove : Cond.selects RX1 yX1_remove yX1_remove ∈ AW := AW_of (tb_i 485 (by decide +kernel)) (by decide +kernel)
theorem cd_X1_remove : Cond.code yX1_remove cX1_remove 3 (some .int) ∈ AW := AW_of (tb_i 486 (by decide +kernel)) (by decide +kernel)
theorem ml_L_99 : Cond.methodLink RL 99 yL_pit ∈ AW := AW_of (tb_i 487 (by decide +kernel)) (by decide +kernel)
theorem sm_L_pit : Cond.static yL_pit ∈ AW := AW_of (tb_i 488 (by decide +kernel)) (by decide +kernel)
theorem cw_L_pit : Cond.codeWith yL_pit cL_pit 5 (some .int) [(0, 10, 13, 13), (0, 10, 17, 17)] ∈ AW := AW_of (tb_i 489 (by decide +kernel)) (by decide +kernel)
theorem ml_L_34 : Cond.methodLink RL 34 yX4_pit ∈ AW := AW_of (tb_i 490 (by decide +kernel)) (by decide +kernel)
theorem im_X4_pit : Cond.instanceMethod yX4_pit ∈ AW := AW_of (tb_i 491 (by decide +kernel)) (by decide +kernel)
theorem se_X4_pit : Cond.selects RX4 yX4_pit yX4_pit ∈ AW := AW_of (tb_i 492 (by decide +kernel)) (by decide +kernel)
theorem cd_X4_pit : Cond.code yX4_pit cX4_pit 4 (some .int) ∈ AW := AW_of (tb_i 493 (by decide +kernel)) (by decide +kernel)
theorem ml_X4_139 : Cond.methodLink RX4 139 yX2_add ∈ AW := AW_of (tb_i 495 (by decide +kernel)) (by decide +kernel)
theorem im_X2_add : Cond.instanceMethod yX2_add ∈ AW := AW_of (tb_i 496 (by decide +kernel)) (by decide +kernel)
theorem se_X2_add : Cond.selects RX2 yX2_add yX2_add ∈ AW := AW_of (tb_i 497 (by decide +kernel)) (by decide +kernel)
theorem cd_X2_add : Cond.code yX2_add cX2_add 4 (some .int) ∈ AW := AW_of (tb_i 498 (by decide +kernel)) (by decide +kernel)
theorem ml_L_102 : Cond.methodLink RL 102 yL_bet ∈ AW := AW_of (tb_i 499 (by decide +kernel)) (by decide +kernel)
theorem sm_L_bet : Cond.static yL_bet ∈ AW := AW_of (tb_i 500 (by decide +kernel)) (by decide +kernel)
theorem cw_L_bet : Cond.codeWith yL_bet cL_bet 7 (some .int) [(0, 14, 17, 13), (0, 14, 21, 15), (0, 14, 25, 17)] ∈ AW := AW_of (tb_i 501 (by decide +kernel)) (by decide +kernel)
theorem ml_L_37 : Cond.methodLink RL 37 yX4_bet ∈ AW := AW_of (tb_i 502 (by decide +kernel)) (by decide +kernel)
theorem im_X4_bet : Cond.instanceMethod yX4_bet ∈ AW := AW_of (tb_i 503 (by decide +kernel)) (by decide +kernel)
theorem se_X4_bet : Cond.selects RX4 yX4_bet yX4_bet ∈ AW := AW_of (tb_i 504 (by decide +kernel)) (by decide +kernel)
theorem cd_X4_bet : Cond.code yX4_bet cX4_bet 5 (some .int) ∈ AW := AW_of (tb_i 505 (by decide +kernel)) (by decide +kernel)
theorem ml_X4_140 : Cond.methodLink RX4 140 yX4_isPit ∈ AW := AW_of (tb_i 506 (by decide +kernel)) (by decide +kernel)
theorem im_X4_isPit : Cond.instanceMethod yX4_isPit ∈ AW := AW_of (tb_i 508 (by decide +kernel)) (by decide +kernel)
theorem cd_X4_isPit : Cond.code yX4_isPit cX4_isPit 2 (some .boolean) ∈ AW := AW_of (tb_i 509 (by decide +kernel)) (by decide +kernel)
theorem ml_X4_150 : Cond.methodLink RX4 150 yX2_hasBet ∈ AW := AW_of (tb_i 512 (by decide +kernel)) (by decide +kernel)
theorem ml_X4_158 : Cond.methodLink RX4 158 yX2_takeBet ∈ AW := AW_of (tb_i 514 (by decide +kernel)) (by decide +kernel)
theorem im_X2_takeBet : Cond.instanceMethod yX2_takeBet ∈ AW := AW_of (tb_i 515 (by decide +kernel)) (by decide +kernel)
theorem se_X2_takeBet : Cond.selects RX2 yX2_takeBet yX2_takeBet ∈ AW := AW_of (tb_i 516 (by decide +kernel)) (by decide +kernel)
theorem cd_X2_takeBet : Cond.code yX2_takeBet cX2_takeBet 5 none ∈ AW := AW_of (tb_i 517 (by decide +kernel)) (by decide +kernel)
theorem ml_L_106 : Cond.methodLink RL 106 yL_dig ∈ AW := AW_of (tb_i 518 (by decide +kernel)) (by decide +kernel)
theorem sm_L_dig : Cond.static yL_dig ∈ AW := AW_of (tb_i 519 (by decide +kernel)) (by decide +kernel)
theorem cw_L_dig : Cond.codeWith yL_dig cL_dig 5 (some .int) [(0, 10, 13, 13), (0, 10, 17, 15), (0, 10, 21, 17)] ∈ AW := AW_of (tb_i 520 (by decide +kernel)) (by decide +kernel)
theorem ml_L_41 : Cond.methodLink RL 41 yX4_dig ∈ AW := AW_of (tb_i 521 (by decide +kernel)) (by decide +kernel)
theorem im_X4_dig : Cond.instanceMethod yX4_dig ∈ AW := AW_of (tb_i 522 (by decide +kernel)) (by decide +kernel)
theorem se_X4_dig : Cond.selects RX4 yX4_dig yX4_dig ∈ AW := AW_of (tb_i 523 (by decide +kernel)) (by decide +kernel)
theorem cd_X4_dig : Cond.code yX4_dig cX4_dig 3 (some .int) ∈ AW := AW_of (tb_i 524 (by decide +kernel)) (by decide +kernel)
theorem ml_X4_166 : Cond.methodLink RX4 166 yX2_isOver ∈ AW := AW_of (tb_i 527 (by decide +kernel)) (by decide +kernel)
theorem ml_X4_171 : Cond.methodLink RX4 171 yX2_deepen ∈ AW := AW_of (tb_i 529 (by decide +kernel)) (by decide +kernel)
theorem im_X2_deepen : Cond.instanceMethod yX2_deepen ∈ AW := AW_of (tb_i 530 (by decide +kernel)) (by decide +kernel)
theorem se_X2_deepen : Cond.selects RX2 yX2_deepen yX2_deepen ∈ AW := AW_of (tb_i 531 (by decide +kernel)) (by decide +kernel)
theorem cd_X2_deepen : Cond.code yX2_deepen cX2_deepen 4 none ∈ AW := AW_of (tb_i 532 (by decide +kernel)) (by decide +kernel)
theorem ml_X2_45 : Cond.methodLink RX2 45 Lib.Math.min.name ∈ AW := AW_of (tb_i 533 (by decide +kernel)) (by decide +kernel)
theorem sm_Math_min : Cond.static Lib.Math.min.name ∈ AW := AW_of (tb_i 534 (by decide +kernel)) (by decide +kernel)
theorem cd_Math_min : Cond.code Lib.Math.min.name Lib.Math.min.code 2 (some .int) ∈ AW := AW_of (tb_i 535 (by decide +kernel)) (by decide +kernel)
theorem ml_X4_175 : Cond.methodLink RX4 175 yX4_payBets ∈ AW := AW_of (tb_i 536 (by decide +kernel)) (by decide +kernel)
theorem im_X4_payBets : Cond.instanceMethod yX4_payBets ∈ AW := AW_of (tb_i 538 (by decide +kernel)) (by decide +kernel)
theorem cd_X4_payBets : Cond.code yX4_payBets cX4_payBets 6 none ∈ AW := AW_of (tb_i 539 (by decide +kernel)) (by decide +kernel)
theorem ml_X4_255 : Cond.methodLink RX4 255 yX2_hasFound ∈ AW := AW_of (tb_i 540 (by decide +kernel)) (by decide +kernel)
theorem ml_X4_258 : Cond.methodLink RX4 258 yX2_allStaked ∈ AW := AW_of (tb_i 541 (by decide +kernel)) (by decide +kernel)
theorem im_X2_allStaked : Cond.instanceMethod yX2_allStaked ∈ AW := AW_of (tb_i 542 (by decide +kernel)) (by decide +kernel)
theorem se_X2_allStaked : Cond.selects RX2 yX2_allStaked yX2_allStaked ∈ AW := AW_of (tb_i 543 (by decide +kernel)) (by decide +kernel)
theorem cd_X2_allStaked : Cond.code yX2_allStaked cX2_allStaked 2 (some .int) ∈ AW := AW_of (tb_i 544 (by decide +kernel)) (by decide +kernel)
theorem ml_X4_207 : Cond.methodLink RX4 207 yX2_share ∈ AW := AW_of (tb_i 545 (by decide +kernel)) (by decide +kernel)
theorem im_X2_share : Cond.instanceMethod yX2_share ∈ AW := AW_of (tb_i 546 (by decide +kernel)) (by decide +kernel)
theorem se_X2_share : Cond.selects RX2 yX2_share yX2_share ∈ AW := AW_of (tb_i 547 (by decide +kernel)) (by decide +kernel)
theorem cd_X2_share : Cond.code yX2_share cX2_share 4 (some .int) ∈ AW := AW_of (tb_i 548 (by decide +kernel)) (by decide +kernel)
theorem ml_X2_62 : Cond.methodLink RX2 62 yX2_allStaked ∈ AW := AW_of (tb_i 549 (by decide +kernel)) (by decide +kernel)
theorem mn_X2_66 : Cond.methodLinkNest RX2 66 yX4_quotient RX4 ∈ lw_tbl := tb_i 550 (by decide +kernel)
theorem ml_L_109 : Cond.methodLink RL 109 yL_spot ∈ AW := AW_of (tb_i 551 (by decide +kernel)) (by decide +kernel)
theorem sm_L_spot : Cond.static yL_spot ∈ AW := AW_of (tb_i 552 (by decide +kernel)) (by decide +kernel)
theorem cw_L_spot : Cond.codeWith yL_spot cL_spot 6 (some .int) [(0, 12, 15, 13)] ∈ AW := AW_of (tb_i 553 (by decide +kernel)) (by decide +kernel)
theorem ml_L_44 : Cond.methodLink RL 44 yX4_spot ∈ AW := AW_of (tb_i 554 (by decide +kernel)) (by decide +kernel)
theorem im_X4_spot : Cond.instanceMethod yX4_spot ∈ AW := AW_of (tb_i 555 (by decide +kernel)) (by decide +kernel)
theorem se_X4_spot : Cond.selects RX4 yX4_spot yX4_spot ∈ AW := AW_of (tb_i 556 (by decide +kernel)) (by decide +kernel)
theorem cd_X4_spot : Cond.code yX4_spot cX4_spot 4 (some .int) ∈ AW := AW_of (tb_i 557 (by decide +kernel)) (by decide +kernel)
theorem ml_L_113 : Cond.methodLink RL 113 yL_rod ∈ AW := AW_of (tb_i 559 (by decide +kernel)) (by decide +kernel)
theorem sm_L_rod : Cond.static yL_rod ∈ AW := AW_of (tb_i 560 (by decide +kernel)) (by decide +kernel)
theorem cw_L_rod : Cond.codeWith yL_rod cL_rod 6 (some .int) [(0, 12, 15, 13)] ∈ AW := AW_of (tb_i 561 (by decide +kernel)) (by decide +kernel)
theorem ml_L_48 : Cond.methodLink RL 48 yX4_rod ∈ AW := AW_of (tb_i 562 (by decide +kernel)) (by decide +kernel)
theorem im_X4_rod : Cond.instanceMethod yX4_rod ∈ AW := AW_of (tb_i 563 (by decide +kernel)) (by decide +kernel)
theorem se_X4_rod : Cond.selects RX4 yX4_rod yX4_rod ∈ AW := AW_of (tb_i 564 (by decide +kernel)) (by decide +kernel)
theorem cd_X4_rod : Cond.code yX4_rod cX4_rod 4 (some .int) ∈ AW := AW_of (tb_i 565 (by decide +kernel)) (by decide +kernel)
theorem ml_L_116 : Cond.methodLink RL 116 yL_told ∈ AW := AW_of (tb_i 566 (by decide +kernel)) (by decide +kernel)
theorem sm_L_told : Cond.static yL_told ∈ AW := AW_of (tb_i 567 (by decide +kernel)) (by decide +kernel)
theorem cw_L_told : Cond.codeWith yL_told cL_told 5 (some .int) [(0, 10, 13, 13)] ∈ AW := AW_of (tb_i 568 (by decide +kernel)) (by decide +kernel)
theorem ml_L_51 : Cond.methodLink RL 51 yX4_told ∈ AW := AW_of (tb_i 569 (by decide +kernel)) (by decide +kernel)
theorem im_X4_told : Cond.instanceMethod yX4_told ∈ AW := AW_of (tb_i 570 (by decide +kernel)) (by decide +kernel)
theorem se_X4_told : Cond.selects RX4 yX4_told yX4_told ∈ AW := AW_of (tb_i 571 (by decide +kernel)) (by decide +kernel)
theorem cd_X4_told : Cond.code yX4_told cX4_told 3 (some .int) ∈ AW := AW_of (tb_i 572 (by decide +kernel)) (by decide +kernel)
theorem ml_L_119 : Cond.methodLink RL 119 yL_about ∈ AW := AW_of (tb_i 574 (by decide +kernel)) (by decide +kernel)
theorem sm_L_about : Cond.static yL_about ∈ AW := AW_of (tb_i 575 (by decide +kernel)) (by decide +kernel)
theorem cw_L_about : Cond.codeWith yL_about cL_about 5 (some .int) [(0, 10, 13, 13)] ∈ AW := AW_of (tb_i 576 (by decide +kernel)) (by decide +kernel)
theorem ml_L_54 : Cond.methodLink RL 54 yX4_about ∈ AW := AW_of (tb_i 577 (by decide +kernel)) (by decide +kernel)
theorem im_X4_about : Cond.instanceMethod yX4_about ∈ AW := AW_of (tb_i 578 (by decide +kernel)) (by decide +kernel)
theorem se_X4_about : Cond.selects RX4 yX4_about yX4_about ∈ AW := AW_of (tb_i 579 (by decide +kernel)) (by decide +kernel)
theorem cd_X4_about : Cond.code yX4_about cX4_about 3 (some .int) ∈ AW := AW_of (tb_i 580 (by decide +kernel)) (by decide +kernel)
theorem ml_L_122 : Cond.methodLink RL 122 yL_count ∈ AW := AW_of (tb_i 582 (by decide +kernel)) (by decide +kernel)
theorem sm_L_count : Cond.static yL_count ∈ AW := AW_of (tb_i 583 (by decide +kernel)) (by decide +kernel)
theorem cw_L_count : Cond.codeWith yL_count cL_count 4 (some .int) [(0, 9, 12, 13)] ∈ AW := AW_of (tb_i 584 (by decide +kernel)) (by decide +kernel)
theorem ml_L_57 : Cond.methodLink RL 57 yX4_count ∈ AW := AW_of (tb_i 585 (by decide +kernel)) (by decide +kernel)
theorem im_X4_count : Cond.instanceMethod yX4_count ∈ AW := AW_of (tb_i 586 (by decide +kernel)) (by decide +kernel)
theorem se_X4_count : Cond.selects RX4 yX4_count yX4_count ∈ AW := AW_of (tb_i 587 (by decide +kernel)) (by decide +kernel)
theorem cd_X4_count : Cond.code yX4_count cX4_count 2 (some .int) ∈ AW := AW_of (tb_i 588 (by decide +kernel)) (by decide +kernel)
theorem ml_L_125 : Cond.methodLink RL 125 yL_line ∈ AW := AW_of (tb_i 590 (by decide +kernel)) (by decide +kernel)
theorem sm_L_line : Cond.static yL_line ∈ AW := AW_of (tb_i 591 (by decide +kernel)) (by decide +kernel)
theorem cw_L_line : Cond.codeWith yL_line cL_line 4 (some .int) [(0, 9, 12, 13)] ∈ AW := AW_of (tb_i 592 (by decide +kernel)) (by decide +kernel)
theorem ml_L_60 : Cond.methodLink RL 60 yX4_line ∈ AW := AW_of (tb_i 593 (by decide +kernel)) (by decide +kernel)
theorem im_X4_line : Cond.instanceMethod yX4_line ∈ AW := AW_of (tb_i 594 (by decide +kernel)) (by decide +kernel)
theorem se_X4_line : Cond.selects RX4 yX4_line yX4_line ∈ AW := AW_of (tb_i 595 (by decide +kernel)) (by decide +kernel)
theorem cd_X4_line : Cond.code yX4_line cX4_line 2 (some .int) ∈ AW := AW_of (tb_i 596 (by decide +kernel)) (by decide +kernel)
theorem ml_X4_202 : Cond.methodLink RX4 202 yX1_tellFullestLine ∈ AW := AW_of (tb_i 597 (by decide +kernel)) (by decide +kernel)
theorem im_X1_tellFullestLine : Cond.instanceMethod yX1_tellFullestLine ∈ AW := AW_of (tb_i 598 (by decide +kernel)) (by decide +kernel)
theorem se_X1_tellFullestLine : Cond.selects RX1 yX1_tellFullestLine yX1_tellFullestLine ∈ AW := AW_of (tb_i 599 (by decide +kernel)) (by decide +kernel)
theorem cd_X1_tellFullestLine : Cond.code yX1_tellFullestLine cX1_tellFullestLine 3 (some .int) ∈ AW := AW_of (tb_i 600 (by decide +kernel)) (by decide +kernel)
theorem ml_X1_53 : Cond.methodLink RX1 53 yX1_countByLine ∈ AW := AW_of (tb_i 601 (by decide +kernel)) (by decide +kernel)
theorem im_X1_countByLine : Cond.instanceMethod yX1_countByLine ∈ AW := AW_of (tb_i 603 (by decide +kernel)) (by decide +kernel)
theorem cd_X1_countByLine : Cond.code yX1_countByLine cX1_countByLine 4 none ∈ AW := AW_of (tb_i 604 (by decide +kernel)) (by decide +kernel)
theorem ml_X1_56 : Cond.methodLink RX1 56 yX1_fullestLine ∈ AW := AW_of (tb_i 605 (by decide +kernel)) (by decide +kernel)
theorem im_X1_fullestLine : Cond.instanceMethod yX1_fullestLine ∈ AW := AW_of (tb_i 607 (by decide +kernel)) (by decide +kernel)
theorem cd_X1_fullestLine : Cond.code yX1_fullestLine cX1_fullestLine 3 (some .int) ∈ AW := AW_of (tb_i 608 (by decide +kernel)) (by decide +kernel)
theorem ml_X1_60 : Cond.methodLink RX1 60 yX1_kindOf ∈ AW := AW_of (tb_i 609 (by decide +kernel)) (by decide +kernel)
theorem sm_X1_kindOf : Cond.static yX1_kindOf ∈ AW := AW_of (tb_i 610 (by decide +kernel)) (by decide +kernel)
theorem cd_X1_kindOf : Cond.code yX1_kindOf cX1_kindOf 1 (some .int) ∈ AW := AW_of (tb_i 611 (by decide +kernel)) (by decide +kernel)
theorem ml_X1_63 : Cond.methodLink RX1 63 yX1_numberOf ∈ AW := AW_of (tb_i 612 (by decide +kernel)) (by decide +kernel)
theorem sm_X1_numberOf : Cond.static yX1_numberOf ∈ AW := AW_of (tb_i 613 (by decide +kernel)) (by decide +kernel)
theorem cd_X1_numberOf : Cond.code yX1_numberOf cX1_numberOf 1 (some .int) ∈ AW := AW_of (tb_i 614 (by decide +kernel)) (by decide +kernel)
theorem ml_L_128 : Cond.methodLink RL 128 yL_would ∈ AW := AW_of (tb_i 615 (by decide +kernel)) (by decide +kernel)
theorem sm_L_would : Cond.static yL_would ∈ AW := AW_of (tb_i 616 (by decide +kernel)) (by decide +kernel)
theorem cw_L_would : Cond.codeWith yL_would cL_would 6 (some .int) [(0, 12, 15, 13)] ∈ AW := AW_of (tb_i 617 (by decide +kernel)) (by decide +kernel)
theorem ml_L_63 : Cond.methodLink RL 63 yX4_would ∈ AW := AW_of (tb_i 618 (by decide +kernel)) (by decide +kernel)
theorem im_X4_would : Cond.instanceMethod yX4_would ∈ AW := AW_of (tb_i 619 (by decide +kernel)) (by decide +kernel)
theorem se_X4_would : Cond.selects RX4 yX4_would yX4_would ∈ AW := AW_of (tb_i 620 (by decide +kernel)) (by decide +kernel)
theorem cd_X4_would : Cond.code yX4_would cX4_would 4 (some .int) ∈ AW := AW_of (tb_i 621 (by decide +kernel)) (by decide +kernel)
theorem ml_L_132 : Cond.methodLink RL 132 yL_best ∈ AW := AW_of (tb_i 623 (by decide +kernel)) (by decide +kernel)
theorem sm_L_best : Cond.static yL_best ∈ AW := AW_of (tb_i 624 (by decide +kernel)) (by decide +kernel)
theorem cw_L_best : Cond.codeWith yL_best cL_best 5 (some .int) [(0, 10, 13, 13)] ∈ AW := AW_of (tb_i 625 (by decide +kernel)) (by decide +kernel)
theorem ml_L_67 : Cond.methodLink RL 67 yX4_best ∈ AW := AW_of (tb_i 626 (by decide +kernel)) (by decide +kernel)
theorem im_X4_best : Cond.instanceMethod yX4_best ∈ AW := AW_of (tb_i 627 (by decide +kernel)) (by decide +kernel)
theorem se_X4_best : Cond.selects RX4 yX4_best yX4_best ∈ AW := AW_of (tb_i 628 (by decide +kernel)) (by decide +kernel)
theorem cd_X4_best : Cond.code yX4_best cX4_best 4 (some .int) ∈ AW := AW_of (tb_i 629 (by decide +kernel)) (by decide +kernel)
theorem ml_X4_211 : Cond.methodLink RX4 211 yX4_spotOfGreatestBend ∈ AW := AW_of (tb_i 630 (by decide +kernel)) (by decide +kernel)
theorem im_X4_spotOfGreatestBend : Cond.instanceMethod yX4_spotOfGreatestBend ∈ AW := AW_of (tb_i 632 (by decide +kernel)) (by decide +kernel)
theorem cd_X4_spotOfGreatestBend : Cond.code yX4_spotOfGreatestBend cX4_spotOfGreatestBend 6 (some .int) ∈ AW := AW_of (tb_i 633 (by decide +kernel)) (by decide +kernel)
theorem cl_L_71 : Cond.classLink RL 71 RX5 ∈ AW := AW_of (tb_i 634 (by decide +kernel)) (by decide +kernel)
theorem ins_X5 : Cond.instantiable RX5 20 ∈ AW := AW_of (tb_i 635 (by decide +kernel)) (by decide +kernel)
theorem ml_L_73 : Cond.methodLink RL 73 yX5_init ∈ AW := AW_of (tb_i 636 (by decide +kernel)) (by decide +kernel)
theorem im_X5_init : Cond.instanceMethod yX5_init ∈ AW := AW_of (tb_i 637 (by decide +kernel)) (by decide +kernel)
theorem cd_X5_init : Cond.code yX5_init cX5_init 1 none ∈ AW := AW_of (tb_i 638 (by decide +kernel)) (by decide +kernel)
theorem ml_X5_3 : Cond.methodLink RX5 3 objectInit ∈ AW := AW_of (tb_i 639 (by decide +kernel)) (by decide +kernel)
theorem fl_X5_53 : Cond.fieldLink RX5 53 "DowserPegsModel" "thrown" "I" ∈ AW := AW_of (tb_i 640 (by decide +kernel)) (by decide +kernel)
theorem fl_X5_9 : Cond.fieldLink RX5 9 "DowserPegsModel" "mark" "I" ∈ AW := AW_of (tb_i 641 (by decide +kernel)) (by decide +kernel)
theorem fl_X5_129 : Cond.fieldLink RX5 129 "DowserPegsModel" "field" "I" ∈ AW := AW_of (tb_i 642 (by decide +kernel)) (by decide +kernel)
theorem fl_X5_72 : Cond.fieldLink RX5 72 "DowserPegsModel" "veins" "I" ∈ AW := AW_of (tb_i 643 (by decide +kernel)) (by decide +kernel)
theorem fl_X5_13 : Cond.fieldLink RX5 13 "DowserPegsModel" "veinDepth" "[I" ∈ AW := AW_of (tb_i 644 (by decide +kernel)) (by decide +kernel)
theorem fl_X5_17 : Cond.fieldLink RX5 17 "DowserPegsModel" "flow" "[I" ∈ AW := AW_of (tb_i 645 (by decide +kernel)) (by decide +kernel)
theorem fl_X5_20 : Cond.fieldLink RX5 20 "DowserPegsModel" "lies" "[I" ∈ AW := AW_of (tb_i 646 (by decide +kernel)) (by decide +kernel)
theorem fl_X5_60 : Cond.fieldLink RX5 60 "DowserPegsModel" "dowsers" "I" ∈ AW := AW_of (tb_i 647 (by decide +kernel)) (by decide +kernel)
theorem fl_X5_23 : Cond.fieldLink RX5 23 "DowserPegsModel" "feeling" "[I" ∈ AW := AW_of (tb_i 648 (by decide +kernel)) (by decide +kernel)
theorem fl_X5_26 : Cond.fieldLink RX5 26 "DowserPegsModel" "lean" "[I" ∈ AW := AW_of (tb_i 649 (by decide +kernel)) (by decide +kernel)
theorem fl_X5_29 : Cond.fieldLink RX5 29 "DowserPegsModel" "coins" "[I" ∈ AW := AW_of (tb_i 650 (by decide +kernel)) (by decide +kernel)
theorem fl_X5_32 : Cond.fieldLink RX5 32 "DowserPegsModel" "right" "[I" ∈ AW := AW_of (tb_i 651 (by decide +kernel)) (by decide +kernel)
theorem fl_X5_35 : Cond.fieldLink RX5 35 "DowserPegsModel" "wrong" "[I" ∈ AW := AW_of (tb_i 652 (by decide +kernel)) (by decide +kernel)
theorem fl_X5_96 : Cond.fieldLink RX5 96 "DowserPegsModel" "pegs" "I" ∈ AW := AW_of (tb_i 653 (by decide +kernel)) (by decide +kernel)
theorem fl_X5_38 : Cond.fieldLink RX5 38 "DowserPegsModel" "peg" "[I" ∈ AW := AW_of (tb_i 654 (by decide +kernel)) (by decide +kernel)
theorem fl_X5_63 : Cond.fieldLink RX5 63 "DowserPegsModel" "pits" "I" ∈ AW := AW_of (tb_i 655 (by decide +kernel)) (by decide +kernel)
theorem fl_X5_41 : Cond.fieldLink RX5 41 "DowserPegsModel" "pitSpot" "[I" ∈ AW := AW_of (tb_i 656 (by decide +kernel)) (by decide +kernel)
theorem fl_X5_44 : Cond.fieldLink RX5 44 "DowserPegsModel" "pitDepth" "[I" ∈ AW := AW_of (tb_i 657 (by decide +kernel)) (by decide +kernel)
theorem fl_X5_47 : Cond.fieldLink RX5 47 "DowserPegsModel" "dug" "[I" ∈ AW := AW_of (tb_i 658 (by decide +kernel)) (by decide +kernel)
theorem fl_X5_50 : Cond.fieldLink RX5 50 "DowserPegsModel" "bets" "[I" ∈ AW := AW_of (tb_i 659 (by decide +kernel)) (by decide +kernel)
theorem ml_L_80 : Cond.methodLink RL 80 yX5_thrown ∈ AW := AW_of (tb_i 701 (by decide +kernel)) (by decide +kernel)
theorem im_X5_thrown : Cond.instanceMethod yX5_thrown ∈ AW := AW_of (tb_i 702 (by decide +kernel)) (by decide +kernel)
theorem se_X5_thrown : Cond.selects RX5 yX5_thrown yX5_thrown ∈ AW := AW_of (tb_i 703 (by decide +kernel)) (by decide +kernel)
theorem cd_X5_thrown : Cond.code yX5_thrown cX5_thrown 1 (some .int) ∈ AW := AW_of (tb_i 704 (by decide +kernel)) (by decide +kernel)
theorem ml_L_79 : Cond.methodLink RL 79 yX5_vein ∈ AW := AW_of (tb_i 705 (by decide +kernel)) (by decide +kernel)
theorem im_X5_vein : Cond.instanceMethod yX5_vein ∈ AW := AW_of (tb_i 706 (by decide +kernel)) (by decide +kernel)
theorem se_X5_vein : Cond.selects RX5 yX5_vein yX5_vein ∈ AW := AW_of (tb_i 707 (by decide +kernel)) (by decide +kernel)
theorem cd_X5_vein : Cond.code yX5_vein cX5_vein 8 (some .int) ∈ AW := AW_of (tb_i 708 (by decide +kernel)) (by decide +kernel)
theorem ml_X5_86 : Cond.methodLink RX5 86 yX5_isSpot ∈ AW := AW_of (tb_i 709 (by decide +kernel)) (by decide +kernel)
theorem sm_X5_isSpot : Cond.static yX5_isSpot ∈ AW := AW_of (tb_i 710 (by decide +kernel)) (by decide +kernel)
theorem cd_X5_isSpot : Cond.code yX5_isSpot cX5_isSpot 2 (some .boolean) ∈ AW := AW_of (tb_i 711 (by decide +kernel)) (by decide +kernel)
theorem ml_X5_56 : Cond.methodLink RX5 56 yX5_isIn ∈ AW := AW_of (tb_i 712 (by decide +kernel)) (by decide +kernel)
theorem sm_X5_isIn : Cond.static yX5_isIn ∈ AW := AW_of (tb_i 713 (by decide +kernel)) (by decide +kernel)
theorem cd_X5_isIn : Cond.code yX5_isIn cX5_isIn 3 (some .boolean) ∈ AW := AW_of (tb_i 714 (by decide +kernel)) (by decide +kernel)
theorem ml_X5_89 : Cond.methodLink RX5 89 yX5_no ∈ AW := AW_of (tb_i 715 (by decide +kernel)) (by decide +kernel)
theorem im_X5_no : Cond.instanceMethod yX5_no ∈ AW := AW_of (tb_i 717 (by decide +kernel)) (by decide +kernel)
theorem cd_X5_no : Cond.code yX5_no cX5_no 2 (some .int) ∈ AW := AW_of (tb_i 718 (by decide +kernel)) (by decide +kernel)
theorem ml_X5_66 : Cond.methodLink RX5 66 Lib.Math.abs.name ∈ AW := AW_of (tb_i 719 (by decide +kernel)) (by decide +kernel)
theorem ml_X5_92 : Cond.methodLink RX5 92 yX5_layOut ∈ AW := AW_of (tb_i 720 (by decide +kernel)) (by decide +kernel)
theorem im_X5_layOut : Cond.instanceMethod yX5_layOut ∈ AW := AW_of (tb_i 722 (by decide +kernel)) (by decide +kernel)
theorem cd_X5_layOut : Cond.code yX5_layOut cX5_layOut 7 none ∈ AW := AW_of (tb_i 723 (by decide +kernel)) (by decide +kernel)
theorem ml_X5_75 : Cond.methodLink RX5 75 Lib.Math.max.name ∈ AW := AW_of (tb_i 724 (by decide +kernel)) (by decide +kernel)
theorem ml_X5_82 : Cond.methodLink RX5 82 yX5_isBeside ∈ AW := AW_of (tb_i 725 (by decide +kernel)) (by decide +kernel)
theorem im_X5_isBeside : Cond.instanceMethod yX5_isBeside ∈ AW := AW_of (tb_i 727 (by decide +kernel)) (by decide +kernel)
theorem cd_X5_isBeside : Cond.code yX5_isBeside cX5_isBeside 4 (some .boolean) ∈ AW := AW_of (tb_i 728 (by decide +kernel)) (by decide +kernel)
theorem ml_X5_79 : Cond.methodLink RX5 79 yX5_far ∈ AW := AW_of (tb_i 729 (by decide +kernel)) (by decide +kernel)
theorem sm_X5_far : Cond.static yX5_far ∈ AW := AW_of (tb_i 730 (by decide +kernel)) (by decide +kernel)
theorem cd_X5_far : Cond.code yX5_far cX5_far 2 (some .int) ∈ AW := AW_of (tb_i 731 (by decide +kernel)) (by decide +kernel)
theorem ml_L_87 : Cond.methodLink RL 87 yX5_dowser ∈ AW := AW_of (tb_i 732 (by decide +kernel)) (by decide +kernel)
theorem im_X5_dowser : Cond.instanceMethod yX5_dowser ∈ AW := AW_of (tb_i 733 (by decide +kernel)) (by decide +kernel)
theorem se_X5_dowser : Cond.selects RX5 yX5_dowser yX5_dowser ∈ AW := AW_of (tb_i 734 (by decide +kernel)) (by decide +kernel)
theorem cd_X5_dowser : Cond.code yX5_dowser cX5_dowser 3 (some .int) ∈ AW := AW_of (tb_i 735 (by decide +kernel)) (by decide +kernel)
theorem ml_L_91 : Cond.methodLink RL 91 yX5_setMark ∈ AW := AW_of (tb_i 736 (by decide +kernel)) (by decide +kernel)
theorem im_X5_setMark : Cond.instanceMethod yX5_setMark ∈ AW := AW_of (tb_i 737 (by decide +kernel)) (by decide +kernel)
theorem se_X5_setMark : Cond.selects RX5 yX5_setMark yX5_setMark ∈ AW := AW_of (tb_i 738 (by decide +kernel)) (by decide +kernel)
theorem cd_X5_setMark : Cond.code yX5_setMark cX5_setMark 3 (some .int) ∈ AW := AW_of (tb_i 739 (by decide +kernel)) (by decide +kernel)
theorem ml_L_95 : Cond.methodLink RL 95 yX5_walk ∈ AW := AW_of (tb_i 740 (by decide +kernel)) (by decide +kernel)
theorem im_X5_walk : Cond.instanceMethod yX5_walk ∈ AW := AW_of (tb_i 741 (by decide +kernel)) (by decide +kernel)
theorem se_X5_walk : Cond.selects RX5 yX5_walk yX5_walk ∈ AW := AW_of (tb_i 742 (by decide +kernel)) (by decide +kernel)
theorem cd_X5_walk : Cond.code yX5_walk cX5_walk 10 (some .int) ∈ AW := AW_of (tb_i 743 (by decide +kernel)) (by decide +kernel)
theorem ml_X5_102 : Cond.methodLink RX5 102 yX5_isDowser ∈ AW := AW_of (tb_i 744 (by decide +kernel)) (by decide +kernel)
theorem im_X5_isDowser : Cond.instanceMethod yX5_isDowser ∈ AW := AW_of (tb_i 746 (by decide +kernel)) (by decide +kernel)
theorem cd_X5_isDowser : Cond.code yX5_isDowser cX5_isDowser 2 (some .boolean) ∈ AW := AW_of (tb_i 747 (by decide +kernel)) (by decide +kernel)
theorem ml_X5_106 : Cond.methodLink RX5 106 yX5_marks ∈ AW := AW_of (tb_i 748 (by decide +kernel)) (by decide +kernel)
theorem im_X5_marks : Cond.instanceMethod yX5_marks ∈ AW := AW_of (tb_i 750 (by decide +kernel)) (by decide +kernel)
theorem cd_X5_marks : Cond.code yX5_marks cX5_marks 3 (some .int) ∈ AW := AW_of (tb_i 751 (by decide +kernel)) (by decide +kernel)
theorem ml_X5_99 : Cond.methodLink RX5 99 yX5_bends ∈ AW := AW_of (tb_i 752 (by decide +kernel)) (by decide +kernel)
theorem im_X5_bends : Cond.instanceMethod yX5_bends ∈ AW := AW_of (tb_i 754 (by decide +kernel)) (by decide +kernel)
theorem cd_X5_bends : Cond.code yX5_bends cX5_bends 7 (some .int) ∈ AW := AW_of (tb_i 755 (by decide +kernel)) (by decide +kernel)
theorem ml_L_98 : Cond.methodLink RL 98 yX5_pull ∈ AW := AW_of (tb_i 756 (by decide +kernel)) (by decide +kernel)
theorem im_X5_pull : Cond.instanceMethod yX5_pull ∈ AW := AW_of (tb_i 757 (by decide +kernel)) (by decide +kernel)
theorem se_X5_pull : Cond.selects RX5 yX5_pull yX5_pull ∈ AW := AW_of (tb_i 758 (by decide +kernel)) (by decide +kernel)
theorem cd_X5_pull : Cond.code yX5_pull cX5_pull 4 (some .int) ∈ AW := AW_of (tb_i 759 (by decide +kernel)) (by decide +kernel)
theorem ml_L_101 : Cond.methodLink RL 101 yX5_pit ∈ AW := AW_of (tb_i 760 (by decide +kernel)) (by decide +kernel)
theorem im_X5_pit : Cond.instanceMethod yX5_pit ∈ AW := AW_of (tb_i 761 (by decide +kernel)) (by decide +kernel)
theorem se_X5_pit : Cond.selects RX5 yX5_pit yX5_pit ∈ AW := AW_of (tb_i 762 (by decide +kernel)) (by decide +kernel)
theorem cd_X5_pit : Cond.code yX5_pit cX5_pit 3 (some .int) ∈ AW := AW_of (tb_i 763 (by decide +kernel)) (by decide +kernel)
theorem ml_X5_109 : Cond.methodLink RX5 109 yX5_pitAt ∈ AW := AW_of (tb_i 764 (by decide +kernel)) (by decide +kernel)
theorem im_X5_pitAt : Cond.instanceMethod yX5_pitAt ∈ AW := AW_of (tb_i 766 (by decide +kernel)) (by decide +kernel)
theorem cd_X5_pitAt : Cond.code yX5_pitAt cX5_pitAt 3 (some .int) ∈ AW := AW_of (tb_i 767 (by decide +kernel)) (by decide +kernel)
theorem ml_X5_112 : Cond.methodLink RX5 112 yX5_depth ∈ AW := AW_of (tb_i 768 (by decide +kernel)) (by decide +kernel)
theorem im_X5_depth : Cond.instanceMethod yX5_depth ∈ AW := AW_of (tb_i 770 (by decide +kernel)) (by decide +kernel)
theorem cd_X5_depth : Cond.code yX5_depth cX5_depth 4 (some .int) ∈ AW := AW_of (tb_i 771 (by decide +kernel)) (by decide +kernel)
theorem ml_L_105 : Cond.methodLink RL 105 yX5_bet ∈ AW := AW_of (tb_i 772 (by decide +kernel)) (by decide +kernel)
theorem im_X5_bet : Cond.instanceMethod yX5_bet ∈ AW := AW_of (tb_i 773 (by decide +kernel)) (by decide +kernel)
theorem se_X5_bet : Cond.selects RX5 yX5_bet yX5_bet ∈ AW := AW_of (tb_i 774 (by decide +kernel)) (by decide +kernel)
theorem cd_X5_bet : Cond.code yX5_bet cX5_bet 5 (some .int) ∈ AW := AW_of (tb_i 775 (by decide +kernel)) (by decide +kernel)
theorem ml_X5_118 : Cond.methodLink RX5 118 yX5_isPit ∈ AW := AW_of (tb_i 776 (by decide +kernel)) (by decide +kernel)
theorem im_X5_isPit : Cond.instanceMethod yX5_isPit ∈ AW := AW_of (tb_i 778 (by decide +kernel)) (by decide +kernel)
theorem cd_X5_isPit : Cond.code yX5_isPit cX5_isPit 2 (some .boolean) ∈ AW := AW_of (tb_i 779 (by decide +kernel)) (by decide +kernel)
theorem ml_L_108 : Cond.methodLink RL 108 yX5_dig ∈ AW := AW_of (tb_i 780 (by decide +kernel)) (by decide +kernel)
theorem im_X5_dig : Cond.instanceMethod yX5_dig ∈ AW := AW_of (tb_i 781 (by decide +kernel)) (by decide +kernel)
theorem se_X5_dig : Cond.selects RX5 yX5_dig yX5_dig ∈ AW := AW_of (tb_i 782 (by decide +kernel)) (by decide +kernel)
theorem cd_X5_dig : Cond.code yX5_dig cX5_dig 3 (some .int) ∈ AW := AW_of (tb_i 783 (by decide +kernel)) (by decide +kernel)
theorem ml_X5_132 : Cond.methodLink RX5 132 yX5_isOver ∈ AW := AW_of (tb_i 784 (by decide +kernel)) (by decide +kernel)
theorem im_X5_isOver : Cond.instanceMethod yX5_isOver ∈ AW := AW_of (tb_i 786 (by decide +kernel)) (by decide +kernel)
theorem cd_X5_isOver : Cond.code yX5_isOver cX5_isOver 2 (some .boolean) ∈ AW := AW_of (tb_i 787 (by decide +kernel)) (by decide +kernel)
theorem ml_X5_115 : Cond.methodLink RX5 115 yX5_hasFound ∈ AW := AW_of (tb_i 788 (by decide +kernel)) (by decide +kernel)
theorem im_X5_hasFound : Cond.instanceMethod yX5_hasFound ∈ AW := AW_of (tb_i 790 (by decide +kernel)) (by decide +kernel)
theorem cd_X5_hasFound : Cond.code yX5_hasFound cX5_hasFound 2 (some .boolean) ∈ AW := AW_of (tb_i 791 (by decide +kernel)) (by decide +kernel)
theorem ml_X5_135 : Cond.methodLink RX5 135 Lib.Math.min.name ∈ AW := AW_of (tb_i 792 (by decide +kernel)) (by decide +kernel)
theorem ml_X5_138 : Cond.methodLink RX5 138 yX5_pay ∈ AW := AW_of (tb_i 793 (by decide +kernel)) (by decide +kernel)
theorem im_X5_pay : Cond.instanceMethod yX5_pay ∈ AW := AW_of (tb_i 795 (by decide +kernel)) (by decide +kernel)
theorem cd_X5_pay : Cond.code yX5_pay cX5_pay 7 none ∈ AW := AW_of (tb_i 796 (by decide +kernel)) (by decide +kernel)
theorem ml_X5_121 : Cond.methodLink RX5 121 yX5_betOn ∈ AW := AW_of (tb_i 797 (by decide +kernel)) (by decide +kernel)
theorem im_X5_betOn : Cond.instanceMethod yX5_betOn ∈ AW := AW_of (tb_i 799 (by decide +kernel)) (by decide +kernel)
theorem cd_X5_betOn : Cond.code yX5_betOn cX5_betOn 5 (some .int) ∈ AW := AW_of (tb_i 800 (by decide +kernel)) (by decide +kernel)
theorem ml_X5_125 : Cond.methodLink RX5 125 yX5_share ∈ AW := AW_of (tb_i 801 (by decide +kernel)) (by decide +kernel)
theorem im_X5_share : Cond.instanceMethod yX5_share ∈ AW := AW_of (tb_i 803 (by decide +kernel)) (by decide +kernel)
theorem cd_X5_share : Cond.code yX5_share cX5_share 5 (some .int) ∈ AW := AW_of (tb_i 804 (by decide +kernel)) (by decide +kernel)
theorem ml_L_112 : Cond.methodLink RL 112 yX5_spot ∈ AW := AW_of (tb_i 805 (by decide +kernel)) (by decide +kernel)
theorem im_X5_spot : Cond.instanceMethod yX5_spot ∈ AW := AW_of (tb_i 806 (by decide +kernel)) (by decide +kernel)
theorem se_X5_spot : Cond.selects RX5 yX5_spot yX5_spot ∈ AW := AW_of (tb_i 807 (by decide +kernel)) (by decide +kernel)
theorem cd_X5_spot : Cond.code yX5_spot cX5_spot 4 (some .int) ∈ AW := AW_of (tb_i 808 (by decide +kernel)) (by decide +kernel)
theorem ml_X5_151 : Cond.methodLink RX5 151 yX5_spotTold ∈ AW := AW_of (tb_i 809 (by decide +kernel)) (by decide +kernel)
theorem im_X5_spotTold : Cond.instanceMethod yX5_spotTold ∈ AW := AW_of (tb_i 811 (by decide +kernel)) (by decide +kernel)
theorem cd_X5_spotTold : Cond.code yX5_spotTold cX5_spotTold 3 (some .int) ∈ AW := AW_of (tb_i 812 (by decide +kernel)) (by decide +kernel)
theorem ml_X5_142 : Cond.methodLink RX5 142 yX5_water ∈ AW := AW_of (tb_i 813 (by decide +kernel)) (by decide +kernel)
theorem im_X5_water : Cond.instanceMethod yX5_water ∈ AW := AW_of (tb_i 815 (by decide +kernel)) (by decide +kernel)
theorem cd_X5_water : Cond.code yX5_water cX5_water 4 (some .int) ∈ AW := AW_of (tb_i 816 (by decide +kernel)) (by decide +kernel)
theorem ml_X5_145 : Cond.methodLink RX5 145 yX5_pegsNear ∈ AW := AW_of (tb_i 817 (by decide +kernel)) (by decide +kernel)
theorem im_X5_pegsNear : Cond.instanceMethod yX5_pegsNear ∈ AW := AW_of (tb_i 819 (by decide +kernel)) (by decide +kernel)
theorem cd_X5_pegsNear : Cond.code yX5_pegsNear cX5_pegsNear 4 (some .int) ∈ AW := AW_of (tb_i 820 (by decide +kernel)) (by decide +kernel)
theorem ml_X5_148 : Cond.methodLink RX5 148 yX5_nearest ∈ AW := AW_of (tb_i 821 (by decide +kernel)) (by decide +kernel)
theorem im_X5_nearest : Cond.instanceMethod yX5_nearest ∈ AW := AW_of (tb_i 823 (by decide +kernel)) (by decide +kernel)
theorem cd_X5_nearest : Cond.code yX5_nearest cX5_nearest 4 (some .int) ∈ AW := AW_of (tb_i 824 (by decide +kernel)) (by decide +kernel)
theorem ml_L_115 : Cond.methodLink RL 115 yX5_rod ∈ AW := AW_of (tb_i 825 (by decide +kernel)) (by decide +kernel)
theorem im_X5_rod : Cond.instanceMethod yX5_rod ∈ AW := AW_of (tb_i 826 (by decide +kernel)) (by decide +kernel)
theorem se_X5_rod : Cond.selects RX5 yX5_rod yX5_rod ∈ AW := AW_of (tb_i 827 (by decide +kernel)) (by decide +kernel)
theorem cd_X5_rod : Cond.code yX5_rod cX5_rod 4 (some .int) ∈ AW := AW_of (tb_i 828 (by decide +kernel)) (by decide +kernel)
theorem ml_L_118 : Cond.methodLink RL 118 yX5_told ∈ AW := AW_of (tb_i 829 (by decide +kernel)) (by decide +kernel)
theorem im_X5_told : Cond.instanceMethod yX5_told ∈ AW := AW_of (tb_i 830 (by decide +kernel)) (by decide +kernel)
theorem se_X5_told : Cond.selects RX5 yX5_told yX5_told ∈ AW := AW_of (tb_i 831 (by decide +kernel)) (by decide +kernel)
theorem cd_X5_told : Cond.code yX5_told cX5_told 3 (some .int) ∈ AW := AW_of (tb_i 832 (by decide +kernel)) (by decide +kernel)
theorem ml_X5_160 : Cond.methodLink RX5 160 yX5_dowserTold ∈ AW := AW_of (tb_i 833 (by decide +kernel)) (by decide +kernel)
theorem im_X5_dowserTold : Cond.instanceMethod yX5_dowserTold ∈ AW := AW_of (tb_i 835 (by decide +kernel)) (by decide +kernel)
theorem cd_X5_dowserTold : Cond.code yX5_dowserTold cX5_dowserTold 3 (some .int) ∈ AW := AW_of (tb_i 836 (by decide +kernel)) (by decide +kernel)
theorem ml_X5_154 : Cond.methodLink RX5 154 yX5_pegsOf ∈ AW := AW_of (tb_i 837 (by decide +kernel)) (by decide +kernel)
theorem im_X5_pegsOf : Cond.instanceMethod yX5_pegsOf ∈ AW := AW_of (tb_i 839 (by decide +kernel)) (by decide +kernel)
theorem cd_X5_pegsOf : Cond.code yX5_pegsOf cX5_pegsOf 5 (some .int) ∈ AW := AW_of (tb_i 840 (by decide +kernel)) (by decide +kernel)
theorem ml_X5_157 : Cond.methodLink RX5 157 yX5_inBets ∈ AW := AW_of (tb_i 841 (by decide +kernel)) (by decide +kernel)
theorem im_X5_inBets : Cond.instanceMethod yX5_inBets ∈ AW := AW_of (tb_i 843 (by decide +kernel)) (by decide +kernel)
theorem cd_X5_inBets : Cond.code yX5_inBets cX5_inBets 4 (some .int) ∈ AW := AW_of (tb_i 844 (by decide +kernel)) (by decide +kernel)
theorem ml_L_121 : Cond.methodLink RL 121 yX5_about ∈ AW := AW_of (tb_i 845 (by decide +kernel)) (by decide +kernel)
theorem im_X5_about : Cond.instanceMethod yX5_about ∈ AW := AW_of (tb_i 846 (by decide +kernel)) (by decide +kernel)
theorem se_X5_about : Cond.selects RX5 yX5_about yX5_about ∈ AW := AW_of (tb_i 847 (by decide +kernel)) (by decide +kernel)
theorem cd_X5_about : Cond.code yX5_about cX5_about 3 (some .int) ∈ AW := AW_of (tb_i 848 (by decide +kernel)) (by decide +kernel)
theorem ml_X5_163 : Cond.methodLink RX5 163 yX5_pitTold ∈ AW := AW_of (tb_i 849 (by decide +kernel)) (by decide +kernel)
theorem im_X5_pitTold : Cond.instanceMethod yX5_pitTold ∈ AW := AW_of (tb_i 851 (by decide +kernel)) (by decide +kernel)
theorem cd_X5_pitTold : Cond.code yX5_pitTold cX5_pitTold 3 (some .int) ∈ AW := AW_of (tb_i 852 (by decide +kernel)) (by decide +kernel)
theorem ml_L_124 : Cond.methodLink RL 124 yX5_count ∈ AW := AW_of (tb_i 853 (by decide +kernel)) (by decide +kernel)
theorem im_X5_count : Cond.instanceMethod yX5_count ∈ AW := AW_of (tb_i 854 (by decide +kernel)) (by decide +kernel)
theorem se_X5_count : Cond.selects RX5 yX5_count yX5_count ∈ AW := AW_of (tb_i 855 (by decide +kernel)) (by decide +kernel)
theorem cd_X5_count : Cond.code yX5_count cX5_count 2 (some .int) ∈ AW := AW_of (tb_i 856 (by decide +kernel)) (by decide +kernel)
theorem ml_X5_166 : Cond.methodLink RX5 166 yX5_counted ∈ AW := AW_of (tb_i 857 (by decide +kernel)) (by decide +kernel)
theorem im_X5_counted : Cond.instanceMethod yX5_counted ∈ AW := AW_of (tb_i 859 (by decide +kernel)) (by decide +kernel)
theorem cd_X5_counted : Cond.code yX5_counted cX5_counted 4 (some .int) ∈ AW := AW_of (tb_i 860 (by decide +kernel)) (by decide +kernel)
theorem ml_L_127 : Cond.methodLink RL 127 yX5_line ∈ AW := AW_of (tb_i 861 (by decide +kernel)) (by decide +kernel)
theorem im_X5_line : Cond.instanceMethod yX5_line ∈ AW := AW_of (tb_i 862 (by decide +kernel)) (by decide +kernel)
theorem se_X5_line : Cond.selects RX5 yX5_line yX5_line ∈ AW := AW_of (tb_i 863 (by decide +kernel)) (by decide +kernel)
theorem cd_X5_line : Cond.code yX5_line cX5_line 2 (some .int) ∈ AW := AW_of (tb_i 864 (by decide +kernel)) (by decide +kernel)
theorem ml_X5_172 : Cond.methodLink RX5 172 yX5_lineTold ∈ AW := AW_of (tb_i 865 (by decide +kernel)) (by decide +kernel)
theorem im_X5_lineTold : Cond.instanceMethod yX5_lineTold ∈ AW := AW_of (tb_i 867 (by decide +kernel)) (by decide +kernel)
theorem cd_X5_lineTold : Cond.code yX5_lineTold cX5_lineTold 8 (some .int) ∈ AW := AW_of (tb_i 868 (by decide +kernel)) (by decide +kernel)
theorem ml_X5_169 : Cond.methodLink RX5 169 yX5_on ∈ AW := AW_of (tb_i 869 (by decide +kernel)) (by decide +kernel)
theorem im_X5_on : Cond.instanceMethod yX5_on ∈ AW := AW_of (tb_i 871 (by decide +kernel)) (by decide +kernel)
theorem cd_X5_on : Cond.code yX5_on cX5_on 8 (some .int) ∈ AW := AW_of (tb_i 872 (by decide +kernel)) (by decide +kernel)
theorem ml_L_131 : Cond.methodLink RL 131 yX5_would ∈ AW := AW_of (tb_i 873 (by decide +kernel)) (by decide +kernel)
theorem im_X5_would : Cond.instanceMethod yX5_would ∈ AW := AW_of (tb_i 874 (by decide +kernel)) (by decide +kernel)
theorem se_X5_would : Cond.selects RX5 yX5_would yX5_would ∈ AW := AW_of (tb_i 875 (by decide +kernel)) (by decide +kernel)
theorem cd_X5_would : Cond.code yX5_would cX5_would 4 (some .int) ∈ AW := AW_of (tb_i 876 (by decide +kernel)) (by decide +kernel)
theorem ml_L_134 : Cond.methodLink RL 134 yX5_best ∈ AW := AW_of (tb_i 877 (by decide +kernel)) (by decide +kernel)
theorem im_X5_best : Cond.instanceMethod yX5_best ∈ AW := AW_of (tb_i 878 (by decide +kernel)) (by decide +kernel)
theorem se_X5_best : Cond.selects RX5 yX5_best yX5_best ∈ AW := AW_of (tb_i 879 (by decide +kernel)) (by decide +kernel)
theorem cd_X5_best : Cond.code yX5_best cX5_best 3 (some .int) ∈ AW := AW_of (tb_i 880 (by decide +kernel)) (by decide +kernel)
theorem ml_X5_175 : Cond.methodLink RX5 175 yX5_bestOf ∈ AW := AW_of (tb_i 881 (by decide +kernel)) (by decide +kernel)
theorem im_X5_bestOf : Cond.instanceMethod yX5_bestOf ∈ AW := AW_of (tb_i 883 (by decide +kernel)) (by decide +kernel)
theorem cd_X5_bestOf : Cond.code yX5_bestOf cX5_bestOf 5 (some .int) ∈ AW := AW_of (tb_i 884 (by decide +kernel)) (by decide +kernel)
theorem ml_L_138 : Cond.methodLink RL 138 yX5_advise ∈ AW := AW_of (tb_i 885 (by decide +kernel)) (by decide +kernel)
theorem im_X5_advise : Cond.instanceMethod yX5_advise ∈ AW := AW_of (tb_i 886 (by decide +kernel)) (by decide +kernel)
theorem se_X5_advise : Cond.selects RX5 yX5_advise yX5_advise ∈ AW := AW_of (tb_i 887 (by decide +kernel)) (by decide +kernel)
theorem cd_X5_advise : Cond.code yX5_advise cX5_advise 4 (some .int) ∈ AW := AW_of (tb_i 888 (by decide +kernel)) (by decide +kernel)
theorem ml_L_143 : Cond.methodLink RL 143 yX5_mean ∈ AW := AW_of (tb_i 889 (by decide +kernel)) (by decide +kernel)
theorem im_X5_mean : Cond.instanceMethod yX5_mean ∈ AW := AW_of (tb_i 890 (by decide +kernel)) (by decide +kernel)
theorem se_X5_mean : Cond.selects RX5 yX5_mean yX5_mean ∈ AW := AW_of (tb_i 891 (by decide +kernel)) (by decide +kernel)
theorem cd_X5_mean : Cond.code yX5_mean cX5_mean 3 (some .double) ∈ AW := AW_of (tb_i 892 (by decide +kernel)) (by decide +kernel)
theorem ml_L_148 : Cond.methodLink RL 148 yX5_digest ∈ AW := AW_of (tb_i 893 (by decide +kernel)) (by decide +kernel)
theorem im_X5_digest : Cond.instanceMethod yX5_digest ∈ AW := AW_of (tb_i 894 (by decide +kernel)) (by decide +kernel)
theorem se_X5_digest : Cond.selects RX5 yX5_digest yX5_digest ∈ AW := AW_of (tb_i 895 (by decide +kernel)) (by decide +kernel)
theorem cd_X5_digest : Cond.code yX5_digest cX5_digest 5 (some .long) ∈ AW := AW_of (tb_i 896 (by decide +kernel)) (by decide +kernel)
theorem kl_X5_178 : Cond.constantLong RX5 178 1801 ∈ AW := AW_of (tb_i 897 (by decide +kernel)) (by decide +kernel)
theorem kl_X5_180 : Cond.constantLong RX5 180 31 ∈ AW := AW_of (tb_i 898 (by decide +kernel)) (by decide +kernel)
theorem ac_long : Cond.arrayClass .long ∈ AW := AW_of (tb_i 899 (by decide +kernel)) (by decide +kernel)
theorem se_X4_trueOf : Cond.selects RX4 yX4_trueOf yX4_trueOf ∈ AW := AW_of (tb_s 0 (by decide +kernel)) (by decide +kernel)
theorem se_X4_isTruePeg : Cond.selects RX4 yX4_isTruePeg yX4_isTruePeg ∈ AW := AW_of (tb_s 1 (by decide +kernel)) (by decide +kernel)
theorem se_X4_tellCount : Cond.selects RX4 yX4_tellCount yX4_tellCount ∈ AW := AW_of (tb_s 2 (by decide +kernel)) (by decide +kernel)
theorem se_X4_truePegs : Cond.selects RX4 yX4_truePegs yX4_truePegs ∈ AW := AW_of (tb_s 3 (by decide +kernel)) (by decide +kernel)
theorem se_X4_tellDowser : Cond.selects RX4 yX4_tellDowser yX4_tellDowser ∈ AW := AW_of (tb_s 4 (by decide +kernel)) (by decide +kernel)
theorem se_X2_stakedOn : Cond.selects RX2 yX2_stakedOn yX2_stakedOn ∈ AW := AW_of (tb_s 5 (by decide +kernel)) (by decide +kernel)
theorem se_X2_stakeOn : Cond.selects RX2 yX2_stakeOn yX2_stakeOn ∈ AW := AW_of (tb_s 6 (by decide +kernel)) (by decide +kernel)
theorem se_X4_tellSpot : Cond.selects RX4 yX4_tellSpot yX4_tellSpot ∈ AW := AW_of (tb_s 7 (by decide +kernel)) (by decide +kernel)
theorem se_X1_pegsAt : Cond.selects RX1 yX1_pegsAt yX1_pegsAt ∈ AW := AW_of (tb_s 8 (by decide +kernel)) (by decide +kernel)
theorem se_X3_cover : Cond.selects RX3 yX3_cover yX3_cover ∈ AW := AW_of (tb_s 10 (by decide +kernel)) (by decide +kernel)
theorem se_X3_raise : Cond.selects RX3 yX3_raise yX3_raise ∈ AW := AW_of (tb_s 11 (by decide +kernel)) (by decide +kernel)
theorem se_X4_isDowser : Cond.selects RX4 yX4_isDowser yX4_isDowser ∈ AW := AW_of (tb_s 12 (by decide +kernel)) (by decide +kernel)
theorem se_X4_markPeg : Cond.selects RX4 yX4_markPeg yX4_markPeg ∈ AW := AW_of (tb_s 13 (by decide +kernel)) (by decide +kernel)
theorem se_X4_bend : Cond.selects RX4 yX4_bend yX4_bend ∈ AW := AW_of (tb_s 14 (by decide +kernel)) (by decide +kernel)
theorem se_X4_isPit : Cond.selects RX4 yX4_isPit yX4_isPit ∈ AW := AW_of (tb_s 15 (by decide +kernel)) (by decide +kernel)
theorem se_X4_payBets : Cond.selects RX4 yX4_payBets yX4_payBets ∈ AW := AW_of (tb_s 16 (by decide +kernel)) (by decide +kernel)
theorem se_X1_countByLine : Cond.selects RX1 yX1_countByLine yX1_countByLine ∈ AW := AW_of (tb_s 17 (by decide +kernel)) (by decide +kernel)
theorem se_X1_fullestLine : Cond.selects RX1 yX1_fullestLine yX1_fullestLine ∈ AW := AW_of (tb_s 18 (by decide +kernel)) (by decide +kernel)
theorem se_X4_spotOfGreatestBend : Cond.selects RX4 yX4_spotOfGreatestBend yX4_spotOfGreatestBend ∈ AW := AW_of (tb_s 19 (by decide +kernel)) (by decide +kernel)
theorem se_X5_no : Cond.selects RX5 yX5_no yX5_no ∈ AW := AW_of (tb_s 20 (by decide +kernel)) (by decide +kernel)
theorem se_X5_layOut : Cond.selects RX5 yX5_layOut yX5_layOut ∈ AW := AW_of (tb_s 21 (by decide +kernel)) (by decide +kernel)
theorem se_X5_isBeside : Cond.selects RX5 yX5_isBeside yX5_isBeside ∈ AW := AW_of (tb_s 22 (by decide +kernel)) (by decide +kernel)
theorem se_X5_isDowser : Cond.selects RX5 yX5_isDowser yX5_isDowser ∈ AW := AW_of (tb_s 23 (by decide +kernel)) (by decide +kernel)
theorem se_X5_marks : Cond.selects RX5 yX5_marks yX5_marks ∈ AW := AW_of (tb_s 24 (by decide +kernel)) (by decide +kernel)
theorem se_X5_bends : Cond.selects RX5 yX5_bends yX5_bends ∈ AW := AW_of (tb_s 25 (by decide +kernel)) (by decide +kernel)
theorem se_X5_pitAt : Cond.selects RX5 yX5_pitAt yX5_pitAt ∈ AW := AW_of (tb_s 26 (by decide +kernel)) (by decide +kernel)
theorem se_X5_depth : Cond.selects RX5 yX5_depth yX5_depth ∈ AW := AW_of (tb_s 27 (by decide +kernel)) (by decide +kernel)
theorem se_X5_isPit : Cond.selects RX5 yX5_isPit yX5_isPit ∈ AW := AW_of (tb_s 28 (by decide +kernel)) (by decide +kernel)
theorem se_X5_isOver : Cond.selects RX5 yX5_isOver yX5_isOver ∈ AW := AW_of (tb_s 29 (by decide +kernel)) (by decide +kernel)
theorem se_X5_hasFound : Cond.selects RX5 yX5_hasFound yX5_hasFound ∈ AW := AW_of (tb_s 30 (by decide +kernel)) (by decide +kernel)
theorem se_X5_pay : Cond.selects RX5 yX5_pay yX5_pay ∈ AW := AW_of (tb_s 31 (by decide +kernel)) (by decide +kernel)
theorem se_X5_betOn : Cond.selects RX5 yX5_betOn yX5_betOn ∈ AW := AW_of (tb_s 32 (by decide +kernel)) (by decide +kernel)
theorem se_X5_share : Cond.selects RX5 yX5_share yX5_share ∈ AW := AW_of (tb_s 33 (by decide +kernel)) (by decide +kernel)
theorem se_X5_spotTold : Cond.selects RX5 yX5_spotTold yX5_spotTold ∈ AW := AW_of (tb_s 34 (by decide +kernel)) (by decide +kernel)
theorem se_X5_water : Cond.selects RX5 yX5_water yX5_water ∈ AW := AW_of (tb_s 35 (by decide +kernel)) (by decide +kernel)
theorem se_X5_pegsNear : Cond.selects RX5 yX5_pegsNear yX5_pegsNear ∈ AW := AW_of (tb_s 36 (by decide +kernel)) (by decide +kernel)
theorem se_X5_nearest : Cond.selects RX5 yX5_nearest yX5_nearest ∈ AW := AW_of (tb_s 37 (by decide +kernel)) (by decide +kernel)
theorem se_X5_dowserTold : Cond.selects RX5 yX5_dowserTold yX5_dowserTold ∈ AW := AW_of (tb_s 38 (by decide +kernel)) (by decide +kernel)
theorem se_X5_pegsOf : Cond.selects RX5 yX5_pegsOf yX5_pegsOf ∈ AW := AW_of (tb_s 39 (by decide +kernel)) (by decide +kernel)
theorem se_X5_inBets : Cond.selects RX5 yX5_inBets yX5_inBets ∈ AW := AW_of (tb_s 40 (by decide +kernel)) (by decide +kernel)
theorem se_X5_pitTold : Cond.selects RX5 yX5_pitTold yX5_pitTold ∈ AW := AW_of (tb_s 41 (by decide +kernel)) (by decide +kernel)
theorem se_X5_counted : Cond.selects RX5 yX5_counted yX5_counted ∈ AW := AW_of (tb_s 42 (by decide +kernel)) (by decide +kernel)
theorem se_X5_lineTold : Cond.selects RX5 yX5_lineTold yX5_lineTold ∈ AW := AW_of (tb_s 43 (by decide +kernel)) (by decide +kernel)
theorem se_X5_on : Cond.selects RX5 yX5_on yX5_on ∈ AW := AW_of (tb_s 44 (by decide +kernel)) (by decide +kernel)
theorem se_X5_bestOf : Cond.selects RX5 yX5_bestOf yX5_bestOf ∈ AW := AW_of (tb_s 45 (by decide +kernel)) (by decide +kernel)
theorem inA0 : ∀ w ∈ u_ws RX0 TX0 4, w ∈ AW := fun w h => AW_of ((by decide +kernel : ∀ w ∈ u_ws RX0 TX0 4, w ∈ lw_tbl) w h) ((by decide +kernel : ∀ w ∈ u_ws RX0 TX0 4, goodWord w = true) w h)
theorem inA1 : ∀ w ∈ u_ws RX1 TX1 3, w ∈ AW := fun w h => AW_of ((by decide +kernel : ∀ w ∈ u_ws RX1 TX1 3, w ∈ lw_tbl) w h) ((by decide +kernel : ∀ w ∈ u_ws RX1 TX1 3, goodWord w = true) w h)
theorem inA2 : ∀ w ∈ u_ws RX2 TX2 7, w ∈ AW := fun w h => AW_of ((by decide +kernel : ∀ w ∈ u_ws RX2 TX2 7, w ∈ lw_tbl) w h) ((by decide +kernel : ∀ w ∈ u_ws RX2 TX2 7, goodWord w = true) w h)
theorem inA3 : ∀ w ∈ u_ws RX3 TX3 6, w ∈ AW := fun w h => AW_of ((by decide +kernel : ∀ w ∈ u_ws RX3 TX3 6, w ∈ lw_tbl) w h) ((by decide +kernel : ∀ w ∈ u_ws RX3 TX3 6, goodWord w = true) w h)
theorem inA4 : ∀ w ∈ u_ws RX4 TX4 6, w ∈ AW := fun w h => AW_of ((by decide +kernel : ∀ w ∈ u_ws RX4 TX4 6, w ∈ lw_tbl) w h) ((by decide +kernel : ∀ w ∈ u_ws RX4 TX4 6, goodWord w = true) w h)
theorem inA5 : ∀ w ∈ u_ws RX5 TX5 20, w ∈ AW := fun w h => AW_of ((by decide +kernel : ∀ w ∈ u_ws RX5 TX5 20, w ∈ lw_tbl) w h) ((by decide +kernel : ∀ w ∈ u_ws RX5 TX5 20, goodWord w = true) w h)
theorem ds_X0_init : yX0_init.cls = RX0 ∧ yX0_init.cls ≠ "java/lang/invoke/MethodHandle" ∧ yX0_init.cls ≠ "java/lang/invoke/VarHandle" ∧ (parseMethodDescriptor yX0_init.desc).map (fun d => d.parameters.length) = some 0 := by decide +kernel
theorem ds_X0_add : yX0_add.cls = RX0 ∧ yX0_add.cls ≠ "java/lang/invoke/MethodHandle" ∧ yX0_add.cls ≠ "java/lang/invoke/VarHandle" ∧ (parseMethodDescriptor yX0_add.desc).map (fun d => d.parameters.length) = some 2 := by decide +kernel
theorem ds_X0_allCoins : yX0_allCoins.cls = RX0 ∧ yX0_allCoins.cls ≠ "java/lang/invoke/MethodHandle" ∧ yX0_allCoins.cls ≠ "java/lang/invoke/VarHandle" ∧ (parseMethodDescriptor yX0_allCoins.desc).map (fun d => d.parameters.length) = some 0 := by decide +kernel
theorem ds_X1_init : yX1_init.cls = RX1 ∧ yX1_init.cls ≠ "java/lang/invoke/MethodHandle" ∧ yX1_init.cls ≠ "java/lang/invoke/VarHandle" ∧ (parseMethodDescriptor yX1_init.desc).map (fun d => d.parameters.length) = some 0 := by decide +kernel
theorem ds_X1_standsAt : yX1_standsAt.cls = RX1 ∧ yX1_standsAt.cls ≠ "java/lang/invoke/MethodHandle" ∧ yX1_standsAt.cls ≠ "java/lang/invoke/VarHandle" ∧ (parseMethodDescriptor yX1_standsAt.desc).map (fun d => d.parameters.length) = some 1 := by decide +kernel
theorem ds_X1_add : yX1_add.cls = RX1 ∧ yX1_add.cls ≠ "java/lang/invoke/MethodHandle" ∧ yX1_add.cls ≠ "java/lang/invoke/VarHandle" ∧ (parseMethodDescriptor yX1_add.desc).map (fun d => d.parameters.length) = some 2 := by decide +kernel
theorem ds_X1_remove : yX1_remove.cls = RX1 ∧ yX1_remove.cls ≠ "java/lang/invoke/MethodHandle" ∧ yX1_remove.cls ≠ "java/lang/invoke/VarHandle" ∧ (parseMethodDescriptor yX1_remove.desc).map (fun d => d.parameters.length) = some 1 := by decide +kernel
theorem ds_X1_standingOf : yX1_standingOf.cls = RX1 ∧ yX1_standingOf.cls ≠ "java/lang/invoke/MethodHandle" ∧ yX1_standingOf.cls ≠ "java/lang/invoke/VarHandle" ∧ (parseMethodDescriptor yX1_standingOf.desc).map (fun d => d.parameters.length) = some 1 := by decide +kernel
theorem ds_X1_besides : yX1_besides.cls = RX1 ∧ yX1_besides.cls ≠ "java/lang/invoke/MethodHandle" ∧ yX1_besides.cls ≠ "java/lang/invoke/VarHandle" ∧ (parseMethodDescriptor yX1_besides.desc).map (fun d => d.parameters.length) = some 1 := by decide +kernel
theorem ds_X1_pegsAt : yX1_pegsAt.cls = RX1 ∧ yX1_pegsAt.cls ≠ "java/lang/invoke/MethodHandle" ∧ yX1_pegsAt.cls ≠ "java/lang/invoke/VarHandle" ∧ (parseMethodDescriptor yX1_pegsAt.desc).map (fun d => d.parameters.length) = some 2 := by decide +kernel
theorem ds_X1_nearest : yX1_nearest.cls = RX1 ∧ yX1_nearest.cls ≠ "java/lang/invoke/MethodHandle" ∧ yX1_nearest.cls ≠ "java/lang/invoke/VarHandle" ∧ (parseMethodDescriptor yX1_nearest.desc).map (fun d => d.parameters.length) = some 1 := by decide +kernel
theorem ds_X1_tellFullestLine : yX1_tellFullestLine.cls = RX1 ∧ yX1_tellFullestLine.cls ≠ "java/lang/invoke/MethodHandle" ∧ yX1_tellFullestLine.cls ≠ "java/lang/invoke/VarHandle" ∧ (parseMethodDescriptor yX1_tellFullestLine.desc).map (fun d => d.parameters.length) = some 1 := by decide +kernel
theorem ds_X1_countByLine : yX1_countByLine.cls = RX1 ∧ yX1_countByLine.cls ≠ "java/lang/invoke/MethodHandle" ∧ yX1_countByLine.cls ≠ "java/lang/invoke/VarHandle" ∧ (parseMethodDescriptor yX1_countByLine.desc).map (fun d => d.parameters.length) = some 0 := by decide +kernel
theorem ds_X1_fullestLine : yX1_fullestLine.cls = RX1 ∧ yX1_fullestLine.cls ≠ "java/lang/invoke/MethodHandle" ∧ yX1_fullestLine.cls ≠ "java/lang/invoke/VarHandle" ∧ (parseMethodDescriptor yX1_fullestLine.desc).map (fun d => d.parameters.length) = some 0 := by decide +kernel
theorem ds_X1_kindOf : yX1_kindOf.cls = RX1 ∧ yX1_kindOf.cls ≠ "java/lang/invoke/MethodHandle" ∧ yX1_kindOf.cls ≠ "java/lang/invoke/VarHandle" ∧ (parseMethodDescriptor yX1_kindOf.desc).map (fun d => d.parameters.length) = some 1 := by decide +kernel
theorem ds_X1_numberOf : yX1_numberOf.cls = RX1 ∧ yX1_numberOf.cls ≠ "java/lang/invoke/MethodHandle" ∧ yX1_numberOf.cls ≠ "java/lang/invoke/VarHandle" ∧ (parseMethodDescriptor yX1_numberOf.desc).map (fun d => d.parameters.length) = some 1 := by decide +kernel
theorem ds_X2_init : yX2_init.cls = RX2 ∧ yX2_init.cls ≠ "java/lang/invoke/MethodHandle" ∧ yX2_init.cls ≠ "java/lang/invoke/VarHandle" ∧ (parseMethodDescriptor yX2_init.desc).map (fun d => d.parameters.length) = some 0 := by decide +kernel
theorem ds_X2_add : yX2_add.cls = RX2 ∧ yX2_add.cls ≠ "java/lang/invoke/MethodHandle" ∧ yX2_add.cls ≠ "java/lang/invoke/VarHandle" ∧ (parseMethodDescriptor yX2_add.desc).map (fun d => d.parameters.length) = some 2 := by decide +kernel
theorem ds_X2_hasFound : yX2_hasFound.cls = RX2 ∧ yX2_hasFound.cls ≠ "java/lang/invoke/MethodHandle" ∧ yX2_hasFound.cls ≠ "java/lang/invoke/VarHandle" ∧ (parseMethodDescriptor yX2_hasFound.desc).map (fun d => d.parameters.length) = some 1 := by decide +kernel
theorem ds_X2_isOver : yX2_isOver.cls = RX2 ∧ yX2_isOver.cls ≠ "java/lang/invoke/MethodHandle" ∧ yX2_isOver.cls ≠ "java/lang/invoke/VarHandle" ∧ (parseMethodDescriptor yX2_isOver.desc).map (fun d => d.parameters.length) = some 1 := by decide +kernel
theorem ds_X2_deepen : yX2_deepen.cls = RX2 ∧ yX2_deepen.cls ≠ "java/lang/invoke/MethodHandle" ∧ yX2_deepen.cls ≠ "java/lang/invoke/VarHandle" ∧ (parseMethodDescriptor yX2_deepen.desc).map (fun d => d.parameters.length) = some 2 := by decide +kernel
theorem ds_X2_slip : yX2_slip.cls = RX2 ∧ yX2_slip.cls ≠ "java/lang/invoke/MethodHandle" ∧ yX2_slip.cls ≠ "java/lang/invoke/VarHandle" ∧ (parseMethodDescriptor yX2_slip.desc).map (fun d => d.parameters.length) = some 2 := by decide +kernel
theorem ds_X2_hasBet : yX2_hasBet.cls = RX2 ∧ yX2_hasBet.cls ≠ "java/lang/invoke/MethodHandle" ∧ yX2_hasBet.cls ≠ "java/lang/invoke/VarHandle" ∧ (parseMethodDescriptor yX2_hasBet.desc).map (fun d => d.parameters.length) = some 2 := by decide +kernel
theorem ds_X2_takeBet : yX2_takeBet.cls = RX2 ∧ yX2_takeBet.cls ≠ "java/lang/invoke/MethodHandle" ∧ yX2_takeBet.cls ≠ "java/lang/invoke/VarHandle" ∧ (parseMethodDescriptor yX2_takeBet.desc).map (fun d => d.parameters.length) = some 4 := by decide +kernel
theorem ds_X2_stakeOn : yX2_stakeOn.cls = RX2 ∧ yX2_stakeOn.cls ≠ "java/lang/invoke/MethodHandle" ∧ yX2_stakeOn.cls ≠ "java/lang/invoke/VarHandle" ∧ (parseMethodDescriptor yX2_stakeOn.desc).map (fun d => d.parameters.length) = some 3 := by decide +kernel
theorem ds_X2_stakedOn : yX2_stakedOn.cls = RX2 ∧ yX2_stakedOn.cls ≠ "java/lang/invoke/MethodHandle" ∧ yX2_stakedOn.cls ≠ "java/lang/invoke/VarHandle" ∧ (parseMethodDescriptor yX2_stakedOn.desc).map (fun d => d.parameters.length) = some 2 := by decide +kernel
theorem ds_X2_allStaked : yX2_allStaked.cls = RX2 ∧ yX2_allStaked.cls ≠ "java/lang/invoke/MethodHandle" ∧ yX2_allStaked.cls ≠ "java/lang/invoke/VarHandle" ∧ (parseMethodDescriptor yX2_allStaked.desc).map (fun d => d.parameters.length) = some 1 := by decide +kernel
theorem ds_X2_share : yX2_share.cls = RX2 ∧ yX2_share.cls ≠ "java/lang/invoke/MethodHandle" ∧ yX2_share.cls ≠ "java/lang/invoke/VarHandle" ∧ (parseMethodDescriptor yX2_share.desc).map (fun d => d.parameters.length) = some 3 := by decide +kernel
theorem ds_X2_unpaidOf : yX2_unpaidOf.cls = RX2 ∧ yX2_unpaidOf.cls ≠ "java/lang/invoke/MethodHandle" ∧ yX2_unpaidOf.cls ≠ "java/lang/invoke/VarHandle" ∧ (parseMethodDescriptor yX2_unpaidOf.desc).map (fun d => d.parameters.length) = some 1 := by decide +kernel
theorem ds_X2_paidBetsOf : yX2_paidBetsOf.cls = RX2 ∧ yX2_paidBetsOf.cls ≠ "java/lang/invoke/MethodHandle" ∧ yX2_paidBetsOf.cls ≠ "java/lang/invoke/VarHandle" ∧ (parseMethodDescriptor yX2_paidBetsOf.desc).map (fun d => d.parameters.length) = some 2 := by decide +kernel
theorem ds_X2_tell : yX2_tell.cls = RX2 ∧ yX2_tell.cls ≠ "java/lang/invoke/MethodHandle" ∧ yX2_tell.cls ≠ "java/lang/invoke/VarHandle" ∧ (parseMethodDescriptor yX2_tell.desc).map (fun d => d.parameters.length) = some 2 := by decide +kernel
theorem ds_X3_init : yX3_init.cls = RX3 ∧ yX3_init.cls ≠ "java/lang/invoke/MethodHandle" ∧ yX3_init.cls ≠ "java/lang/invoke/VarHandle" ∧ (parseMethodDescriptor yX3_init.desc).map (fun d => d.parameters.length) = some 0 := by decide +kernel
theorem ds_X3_open : yX3_open.cls = RX3 ∧ yX3_open.cls ≠ "java/lang/invoke/MethodHandle" ∧ yX3_open.cls ≠ "java/lang/invoke/VarHandle" ∧ (parseMethodDescriptor yX3_open.desc).map (fun d => d.parameters.length) = some 2 := by decide +kernel
theorem ds_X3_lay : yX3_lay.cls = RX3 ∧ yX3_lay.cls ≠ "java/lang/invoke/MethodHandle" ∧ yX3_lay.cls ≠ "java/lang/invoke/VarHandle" ∧ (parseMethodDescriptor yX3_lay.desc).map (fun d => d.parameters.length) = some 5 := by decide +kernel
theorem ds_X3_cover : yX3_cover.cls = RX3 ∧ yX3_cover.cls ≠ "java/lang/invoke/MethodHandle" ∧ yX3_cover.cls ≠ "java/lang/invoke/VarHandle" ∧ (parseMethodDescriptor yX3_cover.desc).map (fun d => d.parameters.length) = some 3 := by decide +kernel
theorem ds_X3_raise : yX3_raise.cls = RX3 ∧ yX3_raise.cls ≠ "java/lang/invoke/MethodHandle" ∧ yX3_raise.cls ≠ "java/lang/invoke/VarHandle" ∧ (parseMethodDescriptor yX3_raise.desc).map (fun d => d.parameters.length) = some 4 := by decide +kernel
theorem ds_X3_bend : yX3_bend.cls = RX3 ∧ yX3_bend.cls ≠ "java/lang/invoke/MethodHandle" ∧ yX3_bend.cls ≠ "java/lang/invoke/VarHandle" ∧ (parseMethodDescriptor yX3_bend.desc).map (fun d => d.parameters.length) = some 2 := by decide +kernel
theorem ds_X3_wetSpots : yX3_wetSpots.cls = RX3 ∧ yX3_wetSpots.cls ≠ "java/lang/invoke/MethodHandle" ∧ yX3_wetSpots.cls ≠ "java/lang/invoke/VarHandle" ∧ (parseMethodDescriptor yX3_wetSpots.desc).map (fun d => d.parameters.length) = some 0 := by decide +kernel
theorem ds_X4_init : yX4_init.cls = RX4 ∧ yX4_init.cls ≠ "java/lang/invoke/MethodHandle" ∧ yX4_init.cls ≠ "java/lang/invoke/VarHandle" ∧ (parseMethodDescriptor yX4_init.desc).map (fun d => d.parameters.length) = some 0 := by decide +kernel
theorem ds_X4_vein : yX4_vein.cls = RX4 ∧ yX4_vein.cls ≠ "java/lang/invoke/MethodHandle" ∧ yX4_vein.cls ≠ "java/lang/invoke/VarHandle" ∧ (parseMethodDescriptor yX4_vein.desc).map (fun d => d.parameters.length) = some 6 := by decide +kernel
theorem ds_X4_dowser : yX4_dowser.cls = RX4 ∧ yX4_dowser.cls ≠ "java/lang/invoke/MethodHandle" ∧ yX4_dowser.cls ≠ "java/lang/invoke/VarHandle" ∧ (parseMethodDescriptor yX4_dowser.desc).map (fun d => d.parameters.length) = some 2 := by decide +kernel
theorem ds_X4_setMark : yX4_setMark.cls = RX4 ∧ yX4_setMark.cls ≠ "java/lang/invoke/MethodHandle" ∧ yX4_setMark.cls ≠ "java/lang/invoke/VarHandle" ∧ (parseMethodDescriptor yX4_setMark.desc).map (fun d => d.parameters.length) = some 1 := by decide +kernel
theorem ds_X4_walk : yX4_walk.cls = RX4 ∧ yX4_walk.cls ≠ "java/lang/invoke/MethodHandle" ∧ yX4_walk.cls ≠ "java/lang/invoke/VarHandle" ∧ (parseMethodDescriptor yX4_walk.desc).map (fun d => d.parameters.length) = some 5 := by decide +kernel
theorem ds_X4_pull : yX4_pull.cls = RX4 ∧ yX4_pull.cls ≠ "java/lang/invoke/MethodHandle" ∧ yX4_pull.cls ≠ "java/lang/invoke/VarHandle" ∧ (parseMethodDescriptor yX4_pull.desc).map (fun d => d.parameters.length) = some 2 := by decide +kernel
theorem ds_X4_pit : yX4_pit.cls = RX4 ∧ yX4_pit.cls ≠ "java/lang/invoke/MethodHandle" ∧ yX4_pit.cls ≠ "java/lang/invoke/VarHandle" ∧ (parseMethodDescriptor yX4_pit.desc).map (fun d => d.parameters.length) = some 2 := by decide +kernel
theorem ds_X4_bet : yX4_bet.cls = RX4 ∧ yX4_bet.cls ≠ "java/lang/invoke/MethodHandle" ∧ yX4_bet.cls ≠ "java/lang/invoke/VarHandle" ∧ (parseMethodDescriptor yX4_bet.desc).map (fun d => d.parameters.length) = some 4 := by decide +kernel
theorem ds_X4_dig : yX4_dig.cls = RX4 ∧ yX4_dig.cls ≠ "java/lang/invoke/MethodHandle" ∧ yX4_dig.cls ≠ "java/lang/invoke/VarHandle" ∧ (parseMethodDescriptor yX4_dig.desc).map (fun d => d.parameters.length) = some 2 := by decide +kernel
theorem ds_X4_spot : yX4_spot.cls = RX4 ∧ yX4_spot.cls ≠ "java/lang/invoke/MethodHandle" ∧ yX4_spot.cls ≠ "java/lang/invoke/VarHandle" ∧ (parseMethodDescriptor yX4_spot.desc).map (fun d => d.parameters.length) = some 3 := by decide +kernel
theorem ds_X4_rod : yX4_rod.cls = RX4 ∧ yX4_rod.cls ≠ "java/lang/invoke/MethodHandle" ∧ yX4_rod.cls ≠ "java/lang/invoke/VarHandle" ∧ (parseMethodDescriptor yX4_rod.desc).map (fun d => d.parameters.length) = some 3 := by decide +kernel
theorem ds_X4_told : yX4_told.cls = RX4 ∧ yX4_told.cls ≠ "java/lang/invoke/MethodHandle" ∧ yX4_told.cls ≠ "java/lang/invoke/VarHandle" ∧ (parseMethodDescriptor yX4_told.desc).map (fun d => d.parameters.length) = some 2 := by decide +kernel
theorem ds_X4_about : yX4_about.cls = RX4 ∧ yX4_about.cls ≠ "java/lang/invoke/MethodHandle" ∧ yX4_about.cls ≠ "java/lang/invoke/VarHandle" ∧ (parseMethodDescriptor yX4_about.desc).map (fun d => d.parameters.length) = some 2 := by decide +kernel
theorem ds_X4_count : yX4_count.cls = RX4 ∧ yX4_count.cls ≠ "java/lang/invoke/MethodHandle" ∧ yX4_count.cls ≠ "java/lang/invoke/VarHandle" ∧ (parseMethodDescriptor yX4_count.desc).map (fun d => d.parameters.length) = some 1 := by decide +kernel
theorem ds_X4_line : yX4_line.cls = RX4 ∧ yX4_line.cls ≠ "java/lang/invoke/MethodHandle" ∧ yX4_line.cls ≠ "java/lang/invoke/VarHandle" ∧ (parseMethodDescriptor yX4_line.desc).map (fun d => d.parameters.length) = some 1 := by decide +kernel
theorem ds_X4_would : yX4_would.cls = RX4 ∧ yX4_would.cls ≠ "java/lang/invoke/MethodHandle" ∧ yX4_would.cls ≠ "java/lang/invoke/VarHandle" ∧ (parseMethodDescriptor yX4_would.desc).map (fun d => d.parameters.length) = some 3 := by decide +kernel
theorem ds_X4_best : yX4_best.cls = RX4 ∧ yX4_best.cls ≠ "java/lang/invoke/MethodHandle" ∧ yX4_best.cls ≠ "java/lang/invoke/VarHandle" ∧ (parseMethodDescriptor yX4_best.desc).map (fun d => d.parameters.length) = some 2 := by decide +kernel
theorem ds_X4_advise : yX4_advise.cls = RX4 ∧ yX4_advise.cls ≠ "java/lang/invoke/MethodHandle" ∧ yX4_advise.cls ≠ "java/lang/invoke/VarHandle" ∧ (parseMethodDescriptor yX4_advise.desc).map (fun d => d.parameters.length) = some 0 := by decide +kernel
theorem ds_X4_mean : yX4_mean.cls = RX4 ∧ yX4_mean.cls ≠ "java/lang/invoke/MethodHandle" ∧ yX4_mean.cls ≠ "java/lang/invoke/VarHandle" ∧ (parseMethodDescriptor yX4_mean.desc).map (fun d => d.parameters.length) = some 0 := by decide +kernel
theorem ds_X4_digest : yX4_digest.cls = RX4 ∧ yX4_digest.cls ≠ "java/lang/invoke/MethodHandle" ∧ yX4_digest.cls ≠ "java/lang/invoke/VarHandle" ∧ (parseMethodDescriptor yX4_digest.desc).map (fun d => d.parameters.length) = some 0 := by decide +kernel
theorem ds_X4_within : yX4_within.cls = RX4 ∧ yX4_within.cls ≠ "java/lang/invoke/MethodHandle" ∧ yX4_within.cls ≠ "java/lang/invoke/VarHandle" ∧ (parseMethodDescriptor yX4_within.desc).map (fun d => d.parameters.length) = some 3 := by decide +kernel
theorem ds_X4_inField : yX4_inField.cls = RX4 ∧ yX4_inField.cls ≠ "java/lang/invoke/MethodHandle" ∧ yX4_inField.cls ≠ "java/lang/invoke/VarHandle" ∧ (parseMethodDescriptor yX4_inField.desc).map (fun d => d.parameters.length) = some 2 := by decide +kernel
theorem ds_X4_straight : yX4_straight.cls = RX4 ∧ yX4_straight.cls ≠ "java/lang/invoke/MethodHandle" ∧ yX4_straight.cls ≠ "java/lang/invoke/VarHandle" ∧ (parseMethodDescriptor yX4_straight.desc).map (fun d => d.parameters.length) = some 4 := by decide +kernel
theorem ds_X4_spotAt : yX4_spotAt.cls = RX4 ∧ yX4_spotAt.cls ≠ "java/lang/invoke/MethodHandle" ∧ yX4_spotAt.cls ≠ "java/lang/invoke/VarHandle" ∧ (parseMethodDescriptor yX4_spotAt.desc).map (fun d => d.parameters.length) = some 2 := by decide +kernel
theorem ds_X4_columnOf : yX4_columnOf.cls = RX4 ∧ yX4_columnOf.cls ≠ "java/lang/invoke/MethodHandle" ∧ yX4_columnOf.cls ≠ "java/lang/invoke/VarHandle" ∧ (parseMethodDescriptor yX4_columnOf.desc).map (fun d => d.parameters.length) = some 1 := by decide +kernel
theorem ds_X4_rowOf : yX4_rowOf.cls = RX4 ∧ yX4_rowOf.cls ≠ "java/lang/invoke/MethodHandle" ∧ yX4_rowOf.cls ≠ "java/lang/invoke/VarHandle" ∧ (parseMethodDescriptor yX4_rowOf.desc).map (fun d => d.parameters.length) = some 1 := by decide +kernel
theorem ds_X4_distance : yX4_distance.cls = RX4 ∧ yX4_distance.cls ≠ "java/lang/invoke/MethodHandle" ∧ yX4_distance.cls ≠ "java/lang/invoke/VarHandle" ∧ (parseMethodDescriptor yX4_distance.desc).map (fun d => d.parameters.length) = some 2 := by decide +kernel
theorem ds_X4_quotient : yX4_quotient.cls = RX4 ∧ yX4_quotient.cls ≠ "java/lang/invoke/MethodHandle" ∧ yX4_quotient.cls ≠ "java/lang/invoke/VarHandle" ∧ (parseMethodDescriptor yX4_quotient.desc).map (fun d => d.parameters.length) = some 2 := by decide +kernel
theorem ds_X4_isDowser : yX4_isDowser.cls = RX4 ∧ yX4_isDowser.cls ≠ "java/lang/invoke/MethodHandle" ∧ yX4_isDowser.cls ≠ "java/lang/invoke/VarHandle" ∧ (parseMethodDescriptor yX4_isDowser.desc).map (fun d => d.parameters.length) = some 1 := by decide +kernel
theorem ds_X4_isPit : yX4_isPit.cls = RX4 ∧ yX4_isPit.cls ≠ "java/lang/invoke/MethodHandle" ∧ yX4_isPit.cls ≠ "java/lang/invoke/VarHandle" ∧ (parseMethodDescriptor yX4_isPit.desc).map (fun d => d.parameters.length) = some 1 := by decide +kernel
theorem ds_X4_bend : yX4_bend.cls = RX4 ∧ yX4_bend.cls ≠ "java/lang/invoke/MethodHandle" ∧ yX4_bend.cls ≠ "java/lang/invoke/VarHandle" ∧ (parseMethodDescriptor yX4_bend.desc).map (fun d => d.parameters.length) = some 2 := by decide +kernel
theorem ds_X4_spotOfGreatestBend : yX4_spotOfGreatestBend.cls = RX4 ∧ yX4_spotOfGreatestBend.cls ≠ "java/lang/invoke/MethodHandle" ∧ yX4_spotOfGreatestBend.cls ≠ "java/lang/invoke/VarHandle" ∧ (parseMethodDescriptor yX4_spotOfGreatestBend.desc).map (fun d => d.parameters.length) = some 1 := by decide +kernel
theorem ds_X4_markPeg : yX4_markPeg.cls = RX4 ∧ yX4_markPeg.cls ≠ "java/lang/invoke/MethodHandle" ∧ yX4_markPeg.cls ≠ "java/lang/invoke/VarHandle" ∧ (parseMethodDescriptor yX4_markPeg.desc).map (fun d => d.parameters.length) = some 2 := by decide +kernel
theorem ds_X4_isTruePeg : yX4_isTruePeg.cls = RX4 ∧ yX4_isTruePeg.cls ≠ "java/lang/invoke/MethodHandle" ∧ yX4_isTruePeg.cls ≠ "java/lang/invoke/VarHandle" ∧ (parseMethodDescriptor yX4_isTruePeg.desc).map (fun d => d.parameters.length) = some 1 := by decide +kernel
theorem ds_X4_trueOf : yX4_trueOf.cls = RX4 ∧ yX4_trueOf.cls ≠ "java/lang/invoke/MethodHandle" ∧ yX4_trueOf.cls ≠ "java/lang/invoke/VarHandle" ∧ (parseMethodDescriptor yX4_trueOf.desc).map (fun d => d.parameters.length) = some 1 := by decide +kernel
theorem ds_X4_truePegs : yX4_truePegs.cls = RX4 ∧ yX4_truePegs.cls ≠ "java/lang/invoke/MethodHandle" ∧ yX4_truePegs.cls ≠ "java/lang/invoke/VarHandle" ∧ (parseMethodDescriptor yX4_truePegs.desc).map (fun d => d.parameters.length) = some 0 := by decide +kernel
theorem ds_X4_truer : yX4_truer.cls = RX4 ∧ yX4_truer.cls ≠ "java/lang/invoke/MethodHandle" ∧ yX4_truer.cls ≠ "java/lang/invoke/VarHandle" ∧ (parseMethodDescriptor yX4_truer.desc).map (fun d => d.parameters.length) = some 4 := by decide +kernel
theorem ds_X4_payBets : yX4_payBets.cls = RX4 ∧ yX4_payBets.cls ≠ "java/lang/invoke/MethodHandle" ∧ yX4_payBets.cls ≠ "java/lang/invoke/VarHandle" ∧ (parseMethodDescriptor yX4_payBets.desc).map (fun d => d.parameters.length) = some 1 := by decide +kernel
theorem ds_X4_tellSpot : yX4_tellSpot.cls = RX4 ∧ yX4_tellSpot.cls ≠ "java/lang/invoke/MethodHandle" ∧ yX4_tellSpot.cls ≠ "java/lang/invoke/VarHandle" ∧ (parseMethodDescriptor yX4_tellSpot.desc).map (fun d => d.parameters.length) = some 2 := by decide +kernel
theorem ds_X4_tellDowser : yX4_tellDowser.cls = RX4 ∧ yX4_tellDowser.cls ≠ "java/lang/invoke/MethodHandle" ∧ yX4_tellDowser.cls ≠ "java/lang/invoke/VarHandle" ∧ (parseMethodDescriptor yX4_tellDowser.desc).map (fun d => d.parameters.length) = some 2 := by decide +kernel
theorem ds_X4_tellCount : yX4_tellCount.cls = RX4 ∧ yX4_tellCount.cls ≠ "java/lang/invoke/MethodHandle" ∧ yX4_tellCount.cls ≠ "java/lang/invoke/VarHandle" ∧ (parseMethodDescriptor yX4_tellCount.desc).map (fun d => d.parameters.length) = some 1 := by decide +kernel
theorem ds_X5_init : yX5_init.cls = RX5 ∧ yX5_init.cls ≠ "java/lang/invoke/MethodHandle" ∧ yX5_init.cls ≠ "java/lang/invoke/VarHandle" ∧ (parseMethodDescriptor yX5_init.desc).map (fun d => d.parameters.length) = some 0 := by decide +kernel
theorem ds_X5_thrown : yX5_thrown.cls = RX5 ∧ yX5_thrown.cls ≠ "java/lang/invoke/MethodHandle" ∧ yX5_thrown.cls ≠ "java/lang/invoke/VarHandle" ∧ (parseMethodDescriptor yX5_thrown.desc).map (fun d => d.parameters.length) = some 0 := by decide +kernel
theorem ds_X5_no : yX5_no.cls = RX5 ∧ yX5_no.cls ≠ "java/lang/invoke/MethodHandle" ∧ yX5_no.cls ≠ "java/lang/invoke/VarHandle" ∧ (parseMethodDescriptor yX5_no.desc).map (fun d => d.parameters.length) = some 1 := by decide +kernel
theorem ds_X5_isIn : yX5_isIn.cls = RX5 ∧ yX5_isIn.cls ≠ "java/lang/invoke/MethodHandle" ∧ yX5_isIn.cls ≠ "java/lang/invoke/VarHandle" ∧ (parseMethodDescriptor yX5_isIn.desc).map (fun d => d.parameters.length) = some 3 := by decide +kernel
theorem ds_X5_isSpot : yX5_isSpot.cls = RX5 ∧ yX5_isSpot.cls ≠ "java/lang/invoke/MethodHandle" ∧ yX5_isSpot.cls ≠ "java/lang/invoke/VarHandle" ∧ (parseMethodDescriptor yX5_isSpot.desc).map (fun d => d.parameters.length) = some 2 := by decide +kernel
theorem ds_X5_isDowser : yX5_isDowser.cls = RX5 ∧ yX5_isDowser.cls ≠ "java/lang/invoke/MethodHandle" ∧ yX5_isDowser.cls ≠ "java/lang/invoke/VarHandle" ∧ (parseMethodDescriptor yX5_isDowser.desc).map (fun d => d.parameters.length) = some 1 := by decide +kernel
theorem ds_X5_isPit : yX5_isPit.cls = RX5 ∧ yX5_isPit.cls ≠ "java/lang/invoke/MethodHandle" ∧ yX5_isPit.cls ≠ "java/lang/invoke/VarHandle" ∧ (parseMethodDescriptor yX5_isPit.desc).map (fun d => d.parameters.length) = some 1 := by decide +kernel
theorem ds_X5_far : yX5_far.cls = RX5 ∧ yX5_far.cls ≠ "java/lang/invoke/MethodHandle" ∧ yX5_far.cls ≠ "java/lang/invoke/VarHandle" ∧ (parseMethodDescriptor yX5_far.desc).map (fun d => d.parameters.length) = some 2 := by decide +kernel
theorem ds_X5_water : yX5_water.cls = RX5 ∧ yX5_water.cls ≠ "java/lang/invoke/MethodHandle" ∧ yX5_water.cls ≠ "java/lang/invoke/VarHandle" ∧ (parseMethodDescriptor yX5_water.desc).map (fun d => d.parameters.length) = some 1 := by decide +kernel
theorem ds_X5_depth : yX5_depth.cls = RX5 ∧ yX5_depth.cls ≠ "java/lang/invoke/MethodHandle" ∧ yX5_depth.cls ≠ "java/lang/invoke/VarHandle" ∧ (parseMethodDescriptor yX5_depth.desc).map (fun d => d.parameters.length) = some 1 := by decide +kernel
theorem ds_X5_bends : yX5_bends.cls = RX5 ∧ yX5_bends.cls ≠ "java/lang/invoke/MethodHandle" ∧ yX5_bends.cls ≠ "java/lang/invoke/VarHandle" ∧ (parseMethodDescriptor yX5_bends.desc).map (fun d => d.parameters.length) = some 2 := by decide +kernel
theorem ds_X5_pitAt : yX5_pitAt.cls = RX5 ∧ yX5_pitAt.cls ≠ "java/lang/invoke/MethodHandle" ∧ yX5_pitAt.cls ≠ "java/lang/invoke/VarHandle" ∧ (parseMethodDescriptor yX5_pitAt.desc).map (fun d => d.parameters.length) = some 1 := by decide +kernel
theorem ds_X5_pegsNear : yX5_pegsNear.cls = RX5 ∧ yX5_pegsNear.cls ≠ "java/lang/invoke/MethodHandle" ∧ yX5_pegsNear.cls ≠ "java/lang/invoke/VarHandle" ∧ (parseMethodDescriptor yX5_pegsNear.desc).map (fun d => d.parameters.length) = some 1 := by decide +kernel
theorem ds_X5_nearest : yX5_nearest.cls = RX5 ∧ yX5_nearest.cls ≠ "java/lang/invoke/MethodHandle" ∧ yX5_nearest.cls ≠ "java/lang/invoke/VarHandle" ∧ (parseMethodDescriptor yX5_nearest.desc).map (fun d => d.parameters.length) = some 1 := by decide +kernel
theorem ds_X5_layOut : yX5_layOut.cls = RX5 ∧ yX5_layOut.cls ≠ "java/lang/invoke/MethodHandle" ∧ yX5_layOut.cls ≠ "java/lang/invoke/VarHandle" ∧ (parseMethodDescriptor yX5_layOut.desc).map (fun d => d.parameters.length) = some 3 := by decide +kernel
theorem ds_X5_isBeside : yX5_isBeside.cls = RX5 ∧ yX5_isBeside.cls ≠ "java/lang/invoke/MethodHandle" ∧ yX5_isBeside.cls ≠ "java/lang/invoke/VarHandle" ∧ (parseMethodDescriptor yX5_isBeside.desc).map (fun d => d.parameters.length) = some 2 := by decide +kernel
theorem ds_X5_vein : yX5_vein.cls = RX5 ∧ yX5_vein.cls ≠ "java/lang/invoke/MethodHandle" ∧ yX5_vein.cls ≠ "java/lang/invoke/VarHandle" ∧ (parseMethodDescriptor yX5_vein.desc).map (fun d => d.parameters.length) = some 6 := by decide +kernel
theorem ds_X5_dowser : yX5_dowser.cls = RX5 ∧ yX5_dowser.cls ≠ "java/lang/invoke/MethodHandle" ∧ yX5_dowser.cls ≠ "java/lang/invoke/VarHandle" ∧ (parseMethodDescriptor yX5_dowser.desc).map (fun d => d.parameters.length) = some 2 := by decide +kernel
theorem ds_X5_setMark : yX5_setMark.cls = RX5 ∧ yX5_setMark.cls ≠ "java/lang/invoke/MethodHandle" ∧ yX5_setMark.cls ≠ "java/lang/invoke/VarHandle" ∧ (parseMethodDescriptor yX5_setMark.desc).map (fun d => d.parameters.length) = some 1 := by decide +kernel
theorem ds_X5_marks : yX5_marks.cls = RX5 ∧ yX5_marks.cls ≠ "java/lang/invoke/MethodHandle" ∧ yX5_marks.cls ≠ "java/lang/invoke/VarHandle" ∧ (parseMethodDescriptor yX5_marks.desc).map (fun d => d.parameters.length) = some 2 := by decide +kernel
theorem ds_X5_walk : yX5_walk.cls = RX5 ∧ yX5_walk.cls ≠ "java/lang/invoke/MethodHandle" ∧ yX5_walk.cls ≠ "java/lang/invoke/VarHandle" ∧ (parseMethodDescriptor yX5_walk.desc).map (fun d => d.parameters.length) = some 5 := by decide +kernel
theorem ds_X5_pull : yX5_pull.cls = RX5 ∧ yX5_pull.cls ≠ "java/lang/invoke/MethodHandle" ∧ yX5_pull.cls ≠ "java/lang/invoke/VarHandle" ∧ (parseMethodDescriptor yX5_pull.desc).map (fun d => d.parameters.length) = some 2 := by decide +kernel
theorem ds_X5_pit : yX5_pit.cls = RX5 ∧ yX5_pit.cls ≠ "java/lang/invoke/MethodHandle" ∧ yX5_pit.cls ≠ "java/lang/invoke/VarHandle" ∧ (parseMethodDescriptor yX5_pit.desc).map (fun d => d.parameters.length) = some 2 := by decide +kernel
theorem ds_X5_hasFound : yX5_hasFound.cls = RX5 ∧ yX5_hasFound.cls ≠ "java/lang/invoke/MethodHandle" ∧ yX5_hasFound.cls ≠ "java/lang/invoke/VarHandle" ∧ (parseMethodDescriptor yX5_hasFound.desc).map (fun d => d.parameters.length) = some 1 := by decide +kernel
theorem ds_X5_isOver : yX5_isOver.cls = RX5 ∧ yX5_isOver.cls ≠ "java/lang/invoke/MethodHandle" ∧ yX5_isOver.cls ≠ "java/lang/invoke/VarHandle" ∧ (parseMethodDescriptor yX5_isOver.desc).map (fun d => d.parameters.length) = some 1 := by decide +kernel
theorem ds_X5_bet : yX5_bet.cls = RX5 ∧ yX5_bet.cls ≠ "java/lang/invoke/MethodHandle" ∧ yX5_bet.cls ≠ "java/lang/invoke/VarHandle" ∧ (parseMethodDescriptor yX5_bet.desc).map (fun d => d.parameters.length) = some 4 := by decide +kernel
theorem ds_X5_betOn : yX5_betOn.cls = RX5 ∧ yX5_betOn.cls ≠ "java/lang/invoke/MethodHandle" ∧ yX5_betOn.cls ≠ "java/lang/invoke/VarHandle" ∧ (parseMethodDescriptor yX5_betOn.desc).map (fun d => d.parameters.length) = some 2 := by decide +kernel
theorem ds_X5_share : yX5_share.cls = RX5 ∧ yX5_share.cls ≠ "java/lang/invoke/MethodHandle" ∧ yX5_share.cls ≠ "java/lang/invoke/VarHandle" ∧ (parseMethodDescriptor yX5_share.desc).map (fun d => d.parameters.length) = some 3 := by decide +kernel
theorem ds_X5_pay : yX5_pay.cls = RX5 ∧ yX5_pay.cls ≠ "java/lang/invoke/MethodHandle" ∧ yX5_pay.cls ≠ "java/lang/invoke/VarHandle" ∧ (parseMethodDescriptor yX5_pay.desc).map (fun d => d.parameters.length) = some 1 := by decide +kernel
theorem ds_X5_dig : yX5_dig.cls = RX5 ∧ yX5_dig.cls ≠ "java/lang/invoke/MethodHandle" ∧ yX5_dig.cls ≠ "java/lang/invoke/VarHandle" ∧ (parseMethodDescriptor yX5_dig.desc).map (fun d => d.parameters.length) = some 2 := by decide +kernel
theorem ds_X5_spotTold : yX5_spotTold.cls = RX5 ∧ yX5_spotTold.cls ≠ "java/lang/invoke/MethodHandle" ∧ yX5_spotTold.cls ≠ "java/lang/invoke/VarHandle" ∧ (parseMethodDescriptor yX5_spotTold.desc).map (fun d => d.parameters.length) = some 2 := by decide +kernel
theorem ds_X5_spot : yX5_spot.cls = RX5 ∧ yX5_spot.cls ≠ "java/lang/invoke/MethodHandle" ∧ yX5_spot.cls ≠ "java/lang/invoke/VarHandle" ∧ (parseMethodDescriptor yX5_spot.desc).map (fun d => d.parameters.length) = some 3 := by decide +kernel
theorem ds_X5_rod : yX5_rod.cls = RX5 ∧ yX5_rod.cls ≠ "java/lang/invoke/MethodHandle" ∧ yX5_rod.cls ≠ "java/lang/invoke/VarHandle" ∧ (parseMethodDescriptor yX5_rod.desc).map (fun d => d.parameters.length) = some 3 := by decide +kernel
theorem ds_X5_pegsOf : yX5_pegsOf.cls = RX5 ∧ yX5_pegsOf.cls ≠ "java/lang/invoke/MethodHandle" ∧ yX5_pegsOf.cls ≠ "java/lang/invoke/VarHandle" ∧ (parseMethodDescriptor yX5_pegsOf.desc).map (fun d => d.parameters.length) = some 2 := by decide +kernel
theorem ds_X5_inBets : yX5_inBets.cls = RX5 ∧ yX5_inBets.cls ≠ "java/lang/invoke/MethodHandle" ∧ yX5_inBets.cls ≠ "java/lang/invoke/VarHandle" ∧ (parseMethodDescriptor yX5_inBets.desc).map (fun d => d.parameters.length) = some 1 := by decide +kernel
theorem ds_X5_dowserTold : yX5_dowserTold.cls = RX5 ∧ yX5_dowserTold.cls ≠ "java/lang/invoke/MethodHandle" ∧ yX5_dowserTold.cls ≠ "java/lang/invoke/VarHandle" ∧ (parseMethodDescriptor yX5_dowserTold.desc).map (fun d => d.parameters.length) = some 2 := by decide +kernel
theorem ds_X5_told : yX5_told.cls = RX5 ∧ yX5_told.cls ≠ "java/lang/invoke/MethodHandle" ∧ yX5_told.cls ≠ "java/lang/invoke/VarHandle" ∧ (parseMethodDescriptor yX5_told.desc).map (fun d => d.parameters.length) = some 2 := by decide +kernel
theorem ds_X5_pitTold : yX5_pitTold.cls = RX5 ∧ yX5_pitTold.cls ≠ "java/lang/invoke/MethodHandle" ∧ yX5_pitTold.cls ≠ "java/lang/invoke/VarHandle" ∧ (parseMethodDescriptor yX5_pitTold.desc).map (fun d => d.parameters.length) = some 2 := by decide +kernel
theorem ds_X5_about : yX5_about.cls = RX5 ∧ yX5_about.cls ≠ "java/lang/invoke/MethodHandle" ∧ yX5_about.cls ≠ "java/lang/invoke/VarHandle" ∧ (parseMethodDescriptor yX5_about.desc).map (fun d => d.parameters.length) = some 2 := by decide +kernel
theorem ds_X5_counted : yX5_counted.cls = RX5 ∧ yX5_counted.cls ≠ "java/lang/invoke/MethodHandle" ∧ yX5_counted.cls ≠ "java/lang/invoke/VarHandle" ∧ (parseMethodDescriptor yX5_counted.desc).map (fun d => d.parameters.length) = some 1 := by decide +kernel
theorem ds_X5_count : yX5_count.cls = RX5 ∧ yX5_count.cls ≠ "java/lang/invoke/MethodHandle" ∧ yX5_count.cls ≠ "java/lang/invoke/VarHandle" ∧ (parseMethodDescriptor yX5_count.desc).map (fun d => d.parameters.length) = some 1 := by decide +kernel
theorem ds_X5_on : yX5_on.cls = RX5 ∧ yX5_on.cls ≠ "java/lang/invoke/MethodHandle" ∧ yX5_on.cls ≠ "java/lang/invoke/VarHandle" ∧ (parseMethodDescriptor yX5_on.desc).map (fun d => d.parameters.length) = some 2 := by decide +kernel
theorem ds_X5_lineTold : yX5_lineTold.cls = RX5 ∧ yX5_lineTold.cls ≠ "java/lang/invoke/MethodHandle" ∧ yX5_lineTold.cls ≠ "java/lang/invoke/VarHandle" ∧ (parseMethodDescriptor yX5_lineTold.desc).map (fun d => d.parameters.length) = some 1 := by decide +kernel
theorem ds_X5_line : yX5_line.cls = RX5 ∧ yX5_line.cls ≠ "java/lang/invoke/MethodHandle" ∧ yX5_line.cls ≠ "java/lang/invoke/VarHandle" ∧ (parseMethodDescriptor yX5_line.desc).map (fun d => d.parameters.length) = some 1 := by decide +kernel
theorem ds_X5_would : yX5_would.cls = RX5 ∧ yX5_would.cls ≠ "java/lang/invoke/MethodHandle" ∧ yX5_would.cls ≠ "java/lang/invoke/VarHandle" ∧ (parseMethodDescriptor yX5_would.desc).map (fun d => d.parameters.length) = some 3 := by decide +kernel
theorem ds_X5_bestOf : yX5_bestOf.cls = RX5 ∧ yX5_bestOf.cls ≠ "java/lang/invoke/MethodHandle" ∧ yX5_bestOf.cls ≠ "java/lang/invoke/VarHandle" ∧ (parseMethodDescriptor yX5_bestOf.desc).map (fun d => d.parameters.length) = some 2 := by decide +kernel
theorem ds_X5_best : yX5_best.cls = RX5 ∧ yX5_best.cls ≠ "java/lang/invoke/MethodHandle" ∧ yX5_best.cls ≠ "java/lang/invoke/VarHandle" ∧ (parseMethodDescriptor yX5_best.desc).map (fun d => d.parameters.length) = some 2 := by decide +kernel
theorem ds_X5_advise : yX5_advise.cls = RX5 ∧ yX5_advise.cls ≠ "java/lang/invoke/MethodHandle" ∧ yX5_advise.cls ≠ "java/lang/invoke/VarHandle" ∧ (parseMethodDescriptor yX5_advise.desc).map (fun d => d.parameters.length) = some 0 := by decide +kernel
theorem ds_X5_mean : yX5_mean.cls = RX5 ∧ yX5_mean.cls ≠ "java/lang/invoke/MethodHandle" ∧ yX5_mean.cls ≠ "java/lang/invoke/VarHandle" ∧ (parseMethodDescriptor yX5_mean.desc).map (fun d => d.parameters.length) = some 0 := by decide +kernel
theorem ds_X5_digest : yX5_digest.cls = RX5 ∧ yX5_digest.cls ≠ "java/lang/invoke/MethodHandle" ∧ yX5_digest.cls ≠ "java/lang/invoke/VarHandle" ∧ (parseMethodDescriptor yX5_digest.desc).map (fun d => d.parameters.length) = some 0 := by decide +kernel
theorem ds_J6_signum_0f7a4 : yJ6_signum_0f7a4.cls = RJ6 ∧ yJ6_signum_0f7a4.cls ≠ "java/lang/invoke/MethodHandle" ∧ yJ6_signum_0f7a4.cls ≠ "java/lang/invoke/VarHandle" ∧ (parseMethodDescriptor yJ6_signum_0f7a4.desc).map (fun d => d.parameters.length) = some 1 := by decide +kernel
theorem ds_J9_abs_0f7a4 : yJ9_abs_0f7a4.cls = RJ9 ∧ yJ9_abs_0f7a4.cls ≠ "java/lang/invoke/MethodHandle" ∧ yJ9_abs_0f7a4.cls ≠ "java/lang/invoke/VarHandle" ∧ (parseMethodDescriptor yJ9_abs_0f7a4.desc).map (fun d => d.parameters.length) = some 1 := by decide +kernel
theorem ds_J9_max_7cf53 : yJ9_max_7cf53.cls = RJ9 ∧ yJ9_max_7cf53.cls ≠ "java/lang/invoke/MethodHandle" ∧ yJ9_max_7cf53.cls ≠ "java/lang/invoke/VarHandle" ∧ (parseMethodDescriptor yJ9_max_7cf53.desc).map (fun d => d.parameters.length) = some 2 := by decide +kernel
theorem ds_J9_min_7cf53 : yJ9_min_7cf53.cls = RJ9 ∧ yJ9_min_7cf53.cls ≠ "java/lang/invoke/MethodHandle" ∧ yJ9_min_7cf53.cls ≠ "java/lang/invoke/VarHandle" ∧ (parseMethodDescriptor yJ9_min_7cf53.desc).map (fun d => d.parameters.length) = some 2 := by decide +kernel
theorem ds_J7_fill_53178 : yJ7_fill_53178.cls = RJ7 ∧ yJ7_fill_53178.cls ≠ "java/lang/invoke/MethodHandle" ∧ yJ7_fill_53178.cls ≠ "java/lang/invoke/VarHandle" ∧ (parseMethodDescriptor yJ7_fill_53178.desc).map (fun d => d.parameters.length) = some 2 := by decide +kernel
theorem ds_L_vein : yL_vein.cls = RL ∧ yL_vein.cls ≠ "java/lang/invoke/MethodHandle" ∧ yL_vein.cls ≠ "java/lang/invoke/VarHandle" ∧ (parseMethodDescriptor yL_vein.desc).map (fun d => d.parameters.length) = some 8 := by decide +kernel
theorem ds_L_dowser : yL_dowser.cls = RL ∧ yL_dowser.cls ≠ "java/lang/invoke/MethodHandle" ∧ yL_dowser.cls ≠ "java/lang/invoke/VarHandle" ∧ (parseMethodDescriptor yL_dowser.desc).map (fun d => d.parameters.length) = some 4 := by decide +kernel
theorem ds_L_setMark : yL_setMark.cls = RL ∧ yL_setMark.cls ≠ "java/lang/invoke/MethodHandle" ∧ yL_setMark.cls ≠ "java/lang/invoke/VarHandle" ∧ (parseMethodDescriptor yL_setMark.desc).map (fun d => d.parameters.length) = some 3 := by decide +kernel
theorem ds_L_walk : yL_walk.cls = RL ∧ yL_walk.cls ≠ "java/lang/invoke/MethodHandle" ∧ yL_walk.cls ≠ "java/lang/invoke/VarHandle" ∧ (parseMethodDescriptor yL_walk.desc).map (fun d => d.parameters.length) = some 7 := by decide +kernel
theorem ds_L_pull : yL_pull.cls = RL ∧ yL_pull.cls ≠ "java/lang/invoke/MethodHandle" ∧ yL_pull.cls ≠ "java/lang/invoke/VarHandle" ∧ (parseMethodDescriptor yL_pull.desc).map (fun d => d.parameters.length) = some 4 := by decide +kernel
theorem ds_L_pit : yL_pit.cls = RL ∧ yL_pit.cls ≠ "java/lang/invoke/MethodHandle" ∧ yL_pit.cls ≠ "java/lang/invoke/VarHandle" ∧ (parseMethodDescriptor yL_pit.desc).map (fun d => d.parameters.length) = some 4 := by decide +kernel
theorem ds_L_bet : yL_bet.cls = RL ∧ yL_bet.cls ≠ "java/lang/invoke/MethodHandle" ∧ yL_bet.cls ≠ "java/lang/invoke/VarHandle" ∧ (parseMethodDescriptor yL_bet.desc).map (fun d => d.parameters.length) = some 6 := by decide +kernel
theorem ds_L_dig : yL_dig.cls = RL ∧ yL_dig.cls ≠ "java/lang/invoke/MethodHandle" ∧ yL_dig.cls ≠ "java/lang/invoke/VarHandle" ∧ (parseMethodDescriptor yL_dig.desc).map (fun d => d.parameters.length) = some 4 := by decide +kernel
theorem ds_L_spot : yL_spot.cls = RL ∧ yL_spot.cls ≠ "java/lang/invoke/MethodHandle" ∧ yL_spot.cls ≠ "java/lang/invoke/VarHandle" ∧ (parseMethodDescriptor yL_spot.desc).map (fun d => d.parameters.length) = some 5 := by decide +kernel
theorem ds_L_rod : yL_rod.cls = RL ∧ yL_rod.cls ≠ "java/lang/invoke/MethodHandle" ∧ yL_rod.cls ≠ "java/lang/invoke/VarHandle" ∧ (parseMethodDescriptor yL_rod.desc).map (fun d => d.parameters.length) = some 5 := by decide +kernel
theorem ds_L_told : yL_told.cls = RL ∧ yL_told.cls ≠ "java/lang/invoke/MethodHandle" ∧ yL_told.cls ≠ "java/lang/invoke/VarHandle" ∧ (parseMethodDescriptor yL_told.desc).map (fun d => d.parameters.length) = some 4 := by decide +kernel
theorem ds_L_about : yL_about.cls = RL ∧ yL_about.cls ≠ "java/lang/invoke/MethodHandle" ∧ yL_about.cls ≠ "java/lang/invoke/VarHandle" ∧ (parseMethodDescriptor yL_about.desc).map (fun d => d.parameters.length) = some 4 := by decide +kernel
theorem ds_L_count : yL_count.cls = RL ∧ yL_count.cls ≠ "java/lang/invoke/MethodHandle" ∧ yL_count.cls ≠ "java/lang/invoke/VarHandle" ∧ (parseMethodDescriptor yL_count.desc).map (fun d => d.parameters.length) = some 3 := by decide +kernel
theorem ds_L_line : yL_line.cls = RL ∧ yL_line.cls ≠ "java/lang/invoke/MethodHandle" ∧ yL_line.cls ≠ "java/lang/invoke/VarHandle" ∧ (parseMethodDescriptor yL_line.desc).map (fun d => d.parameters.length) = some 3 := by decide +kernel
theorem ds_L_would : yL_would.cls = RL ∧ yL_would.cls ≠ "java/lang/invoke/MethodHandle" ∧ yL_would.cls ≠ "java/lang/invoke/VarHandle" ∧ (parseMethodDescriptor yL_would.desc).map (fun d => d.parameters.length) = some 5 := by decide +kernel
theorem ds_L_best : yL_best.cls = RL ∧ yL_best.cls ≠ "java/lang/invoke/MethodHandle" ∧ yL_best.cls ≠ "java/lang/invoke/VarHandle" ∧ (parseMethodDescriptor yL_best.desc).map (fun d => d.parameters.length) = some 4 := by decide +kernel
theorem ds_L_law : yL_law.cls = RL ∧ yL_law.cls ≠ "java/lang/invoke/MethodHandle" ∧ yL_law.cls ≠ "java/lang/invoke/VarHandle" ∧ (parseMethodDescriptor yL_law.desc).map (fun d => d.parameters.length) = some 1 := by decide +kernel
end
section
/-! BASE: whole numbers as Int, rows over them, contracts of one form -/
def zI (z : Int) : Int32 := Int32.ofInt z
abbrev I32 (z : Int) : Prop := -2147483648 ≤ z ∧ z ≤ 2147483647
theorem zI_toInt {z : Int} (h : I32 z) : (zI z).toInt = z := Int32.toInt_ofInt_of_le (by omega) (by omega)
theorem zI_add (a b : Int) : zI a + zI b = zI (a + b) := (Int32.ofInt_add a b).symm
theorem zI_sub (a b : Int) : zI a - zI b = zI (a - b) := (Int32.ofInt_sub a b).symm
theorem zI_mul (a b : Int) : zI a * zI b = zI (a * b) := (Int32.ofInt_mul a b).symm
theorem zI_neg (a : Int) : -zI a = zI (-a) := (Int32.ofInt_neg a).symm
theorem zI_le {a b : Int} (ha : I32 a) (hb : I32 b) : zI a ≤ zI b ↔ a ≤ b := by rw [Int32.le_iff_toInt_le, zI_toInt ha, zI_toInt hb]
theorem zI_lt {a b : Int} (ha : I32 a) (hb : I32 b) : zI a < zI b ↔ a < b := by rw [Int32.lt_iff_toInt_lt, zI_toInt ha, zI_toInt hb]
theorem zI_eq {a b : Int} (ha : I32 a) (hb : I32 b) : zI a = zI b ↔ a = b := by rw [← Int32.toInt_inj, zI_toInt ha, zI_toInt hb]
theorem zI_of (x : Int32) : x = zI x.toInt := (Int32.ofInt_toInt x).symm
theorem I32_of (x : Int32) : I32 x.toInt := by
  have h1 := x.toInt_lt
  have h2 := x.le_toInt
  constructor <;> omega
theorem zI_nI (n : Nat) : nI n = zI (n : Int) := Int32.ofInt_eq_ofNat.symm
theorem zI_clamp {z : Int} (h : 0 ≤ z ∧ z ≤ 2147483647) : (((zI z).toNatClampNeg : Nat) : Int) = z := by
  show (((zI z).toInt.toNat : Nat) : Int) = z
  rw [zI_toInt (by omega)]
  omega
theorem zI_in {i : Int} {n : Nat} (h : 0 ≤ i ∧ i < (n : Int)) (hn : n < 2147483648) : vp_in (zI i) n := by
  rw [vp_in_iff, zI_toInt (by omega)]
  exact h
theorem zI_div {a b : Int} (ha : I32 a) (hb : I32 b) : zI a / zI b = zI (a.tdiv b) := by
  refine (Int32.ofInt_tdiv ?_ ?_ ?_ ?_).symm
  · exact ha.1
  · exact ha.2
  · exact hb.1
  · exact hb.2
theorem zI_divn {a b : Int} (h : 0 ≤ a ∧ a ≤ 2147483647 ∧ 0 < b ∧ b ≤ 2147483647) : zI a / zI b = zI (a / b) := by
  rw [zI_div (by omega) (by omega), Int.tdiv_eq_ediv_of_nonneg h.1]
theorem zI_remn {a b : Int} (h : 0 ≤ a ∧ a ≤ 2147483647 ∧ 0 < b ∧ b ≤ 2147483647) : zI a - zI a / zI b * zI b = zI (a % b) := by
  rw [zI_divn h, zI_mul, zI_sub]
  congr 1
  rw [Int.emod_def, Int.mul_comm]
theorem zI_ne0 {b : Int} (h : I32 b) (h0 : b ≠ 0) : ¬ zI b = 0 := fun q => h0 ((zI_eq h (by decide)).mp (show zI b = zI 0 from q))
/-- the contents of an array of ints -/
def zA (F : Int → Int) : Nat → Int32 := fun j => zI (F (j : Int))
def upZ (F : Int → Int) (i v : Int) : Int → Int := fun j => if j = i then v else F j
theorem upZ_same {F : Int → Int} {i v : Int} : upZ F i v i = v := if_pos rfl
theorem upZ_ne {F : Int → Int} {i v j : Int} (h : j ≠ i) : upZ F i v j = F j := if_neg h
theorem zA_at {F : Int → Int} {i : Int} (h : 0 ≤ i ∧ i ≤ 2147483647) : zA F (zI i).toNatClampNeg = zI (F i) := by
  show zI (F (((zI i).toNatClampNeg : Nat) : Int)) = _
  rw [zI_clamp h]
theorem zA_up {F : Int → Int} {i v : Int} (h : 0 ≤ i ∧ i ≤ 2147483647) : upd (zA F) (zI i).toNatClampNeg (zI v) = zA (upZ F i v) := by
  have hc := zI_clamp h
  funext j
  by_cases hj : (j : Int) = i
  · have hj2 : j = (zI i).toNatClampNeg := by omega
    simp only [upd, zA, upZ, if_pos hj, if_pos hj2]
  · have hj2 : ¬ j = (zI i).toNatClampNeg := by omega
    simp only [upd, zA, upZ, if_neg hj, if_neg hj2]
/-- 1 if so, else 0 -/
def b01 (P : Prop) [Decidable P] : Int := if P then 1 else 0
theorem b01_t {P : Prop} [Decidable P] (h : P) : b01 P = 1 := if_pos h
theorem b01_f {P : Prop} [Decidable P] (h : ¬ P) : b01 P = 0 := if_neg h
theorem b01_01 (P : Prop) [Decidable P] : 0 ≤ b01 P ∧ b01 P ≤ 1 := by
  by_cases h : P
  · rw [b01_t h]; decide
  · rw [b01_f h]; decide
theorem b01_eq {P : Prop} [Decidable P] : b01 P = 1 ↔ P := by
  by_cases h : P
  · rw [b01_t h]; exact ⟨fun _ => h, fun _ => rfl⟩
  · rw [b01_f h]; exact ⟨fun q => absurd q (by decide), fun q => absurd q h⟩
theorem b01_congr {P P' : Prop} [Decidable P] [Decidable P'] (h : P ↔ P') : b01 P = b01 P' := by
  by_cases q : P
  · rw [b01_t q, b01_t (h.mp q)]
  · rw [b01_f q, b01_f (fun z => q (h.mpr z))]
/-- the sum of f 0, .. f (n-1) -/
def sm (f : Int → Int) : Nat → Int
  | 0 => 0
  | n + 1 => sm f n + f (n : Int)
/-- the same reckoned on a long: d = d * 31 + f k -/
def dg (f : Int → Int) (d : Int64) : Nat → Int64
  | 0 => d
  | n + 1 => dg f d n * 31 + (zI (f (n : Int))).toInt64
/-- facts of the tables that no list of words carries: links to nest mates, and text constants -/
def NWl : List (String × Nat × MethodName × String) := [(RX2, 76, yX4_columnOf, RX4), (RX2, 79, yX4_rowOf, RX4), (RX2, 66, yX4_quotient, RX4), (RX1, 28, yX4_columnOf, RX4), (RX1, 32, yX4_rowOf, RX4), (RX1, 39, yX4_inField, RX4), (RX1, 43, yX4_spotAt, RX4), (RX1, 50, yX4_distance, RX4), (RX3, 57, yX4_inField, RX4), (RX3, 54, yX4_spotAt, RX4), (RX3, 61, yX4_quotient, RX4)]
def NW (U : State) : Prop := ∀ q ∈ NWl, va_Nw (.methodLinkNest q.1 q.2.1 q.2.2.1 q.2.2.2) U
theorem NW.same {u U : State} (h : u.vm = U.vm) (q : NW u) : NW U := fun w hw => va_Nw.same rfl h (q w hw)
theorem NW.warm {s U : State} (hW : s.WarmedH U.vm) (q : NW s) : NW U := fun w hw => va_Nw.warmM hW (q w hw)
/-- what the tables say: the classes of the worlds, of int[], boolean[], long[]; nest links -/
abbrev tysG (g : ClassId × ClassId × ClassId) : List (ClassId × FieldType) := [(g.1, .int), (g.2.1, .boolean), (g.2.2, .long)]
def KG (D : va_G) (g : ClassId × ClassId × ClassId) (U : State) : Prop := va_K D vwCl (tysG g) U ∧ NW U
theorem KG.warm {D : va_G} {g : ClassId × ClassId × ClassId} {s U : State} (hW : s.WarmedH U.vm) (h : KG D g s) : KG D g U := ⟨va_K.moved hW.alike h.1, h.2.warm hW⟩
theorem KG.calling {D : va_G} {g : ClassId × ClassId × ClassId} {U : State} (f : JFrame) (mk : MethodId) (a : Array Value) (h : KG D g U) : KG D g (U.calling f mk a) := ⟨va_K.moved (u := U) (U := U.calling f mk a) (Vm.Alike.refl U.vm) h.1, h.2.same rfl⟩
/-- a method's start: the world ws -/
def PW (D : va_G) (g : ClassId × ClassId × ClassId) (ws : va_W) : State → Prop := fun U => va_P D vwCl ws U.heap ∧ KG D g U
theorem PW.blind {D : va_G} {g : ClassId × ClassId × ClassId} {ws : va_W} {As : List Value} : FrameBlind (va_Pc As (PW D g ws)) := fun a U f mk h => ⟨h.1, h.2.1, h.2.2.calling f mk a⟩
/-- a method's words: its own code, and all good words of the tables -/
abbrev WS (y : MethodName) (b : ByteArray) (n : Nat) (ret : Option FieldType) : List Cond := .code y b n ret :: AW
theorem gin_AW : GoodIn AW AW := fun w h => ⟨h, good_of_word (AW_good w h)⟩
theorem gin_WS {y : MethodName} {b : ByteArray} {n : Nat} {ret : Option FieldType} (h : Cond.code y b n ret ∈ AW) : GoodIn AW (WS y b n ret) := fun w hw => (List.mem_cons.mp hw).elim (fun e => by rw [e]; exact gin_AW _ h) (fun q => gin_AW w q)
theorem gin_4 {w1 w2 w3 w4 : Cond} {ws : List Cond} (h1 : w1 ∈ AW) (h2 : w2 ∈ AW) (h3 : w3 ∈ AW) (h4 : w4 ∈ AW) (h : GoodIn AW ws) : GoodIn AW ([w1, w2, w3, w4] ++ ws) := fun w hw => by
  rcases List.mem_append.mp hw with q | q
  · rcases List.mem_cons.mp q with e | q
    · rw [e]; exact gin_AW _ h1
    rcases List.mem_cons.mp q with e | q
    · rw [e]; exact gin_AW _ h2
    rcases List.mem_cons.mp q with e | q
    · rw [e]; exact gin_AW _ h3
    rcases List.mem_cons.mp q with e | q
    · rw [e]; exact gin_AW _ h4
    · exact absurd q List.not_mem_nil
  · exact h w q
theorem gin_3 {w1 w2 w3 : Cond} {ws : List Cond} (h1 : w1 ∈ AW) (h2 : w2 ∈ AW) (h3 : w3 ∈ AW) (h : GoodIn AW ws) : GoodIn AW ([w1, w2, w3] ++ ws) := fun w hw => by
  rcases List.mem_append.mp hw with q | q
  · rcases List.mem_cons.mp q with e | q
    · rw [e]; exact gin_AW _ h1
    rcases List.mem_cons.mp q with e | q
    · rw [e]; exact gin_AW _ h2
    rcases List.mem_cons.mp q with e | q
    · rw [e]; exact gin_AW _ h3
    · exact absurd q List.not_mem_nil
  · exact h w q
section ZR
variable {p : Program} {l : Launch} {e : Env} {R : Room} {s : State} {m : MethodId} {args : Array Value} {below : List Frame} {meth : Method} {c : Code} {H : Heap} {locs : List Loc} {cells slots : Nat} {Q : State → Prop}
variable {cc : ByteArray} {nL pc : Nat} {Ts : List Cond} {own : String} {ls : Array Slot} {rest st0 : List Value} {D : va_G} {A : Nat → Prop} {a0 : Nat} {g : ClassId × ClassId × ClassId} {ws wc wc' : va_W} {H0 : Heap}
theorem z_iconst (S : CallFix p m c cc nL s args Ts own) {n : Int} (hdg : decode cc pc = .ok (.iconst n, 1))
    (k : W p l e R s m args below meth c H locs cells slots Q (F0 m (pc + 1) ls (.int (zI n) :: rest))) : W p l e R s m args below meth c H locs cells slots Q (F0 m pc ls rest) := lv_iconst S.1 S.2.1 hdg rfl k
theorem z_bipush (S : CallFix p m c cc nL s args Ts own) {n : Int} (hv : (Int8.ofInt n).toInt32 = zI n) (hdg : decode cc pc = .ok (.bipush n, 2))
    (k : W p l e R s m args below meth c H locs cells slots Q (F0 m (pc + 2) ls (.int (zI n) :: rest))) : W p l e R s m args below meth c H locs cells slots Q (F0 m pc ls rest) := lv_bipush S.1 S.2.1 hdg hv k
theorem z_sipush (S : CallFix p m c cc nL s args Ts own) {n : Int} (hv : (Int16.ofInt n).toInt32 = zI n) (hdg : decode cc pc = .ok (.sipush n, 3))
    (k : W p l e R s m args below meth c H locs cells slots Q (F0 m (pc + 3) ls (.int (zI n) :: rest))) : W p l e R s m args below meth c H locs cells slots Q (F0 m pc ls rest) := lv_sipush S.1 S.2.1 hdg hv k
theorem z_iadd (S : CallFix p m c cc nL s args Ts own) {a b : Int} (hdg : decode cc pc = .ok (.iadd, 1)) (k : W p l e R s m args below meth c H locs cells slots Q (F0 m (pc + 1) ls (.int (zI (a + b)) :: rest))) : W p l e R s m args below meth c H locs cells slots Q (F0 m pc ls (.int (zI b) :: .int (zI a) :: rest)) := lv_iadd S.1 S.2.1 hdg (by rw [zI_add]; exact k)
theorem z_isub (S : CallFix p m c cc nL s args Ts own) {a b : Int} (hdg : decode cc pc = .ok (.isub, 1)) (k : W p l e R s m args below meth c H locs cells slots Q (F0 m (pc + 1) ls (.int (zI (a - b)) :: rest))) : W p l e R s m args below meth c H locs cells slots Q (F0 m pc ls (.int (zI b) :: .int (zI a) :: rest)) := lv_isub S.1 S.2.1 hdg (by rw [zI_sub]; exact k)
theorem z_imul (S : CallFix p m c cc nL s args Ts own) {a b : Int} (hdg : decode cc pc = .ok (.imul, 1)) (k : W p l e R s m args below meth c H locs cells slots Q (F0 m (pc + 1) ls (.int (zI (a * b)) :: rest))) : W p l e R s m args below meth c H locs cells slots Q (F0 m pc ls (.int (zI b) :: .int (zI a) :: rest)) := lv_imul S.1 S.2.1 hdg (by rw [zI_mul]; exact k)
theorem z_ineg (S : CallFix p m c cc nL s args Ts own) {a : Int} (hdg : decode cc pc = .ok (.ineg, 1)) (k : W p l e R s m args below meth c H locs cells slots Q (F0 m (pc + 1) ls (.int (zI (-a)) :: rest))) : W p l e R s m args below meth c H locs cells slots Q (F0 m pc ls (.int (zI a) :: rest)) := lv_ineg S.1 S.2.1 hdg (by rw [zI_neg]; exact k)
theorem z_idivn (S : CallFix p m c cc nL s args Ts own) {a b : Int} (h : 0 ≤ a ∧ a ≤ 2147483647 ∧ 0 < b ∧ b ≤ 2147483647) (hdg : decode cc pc = .ok (.idiv, 1)) (k : W p l e R s m args below meth c H locs cells slots Q (F0 m (pc + 1) ls (.int (zI (a / b)) :: rest))) : W p l e R s m args below meth c H locs cells slots Q (F0 m pc ls (.int (zI b) :: .int (zI a) :: rest)) := lv_idiv S.1 S.2.1 hdg (zI_ne0 (by omega) (by omega)) (by rw [zI_divn h]; exact k)
theorem z_idiv (S : CallFix p m c cc nL s args Ts own) {a b : Int} (h : I32 a ∧ I32 b ∧ b ≠ 0) (hdg : decode cc pc = .ok (.idiv, 1)) (k : W p l e R s m args below meth c H locs cells slots Q (F0 m (pc + 1) ls (.int (zI (a.tdiv b)) :: rest))) : W p l e R s m args below meth c H locs cells slots Q (F0 m pc ls (.int (zI b) :: .int (zI a) :: rest)) := lv_idiv S.1 S.2.1 hdg (zI_ne0 h.2.1 h.2.2) (by rw [zI_div h.1 h.2.1]; exact k)
theorem z_iremn (S : CallFix p m c cc nL s args Ts own) {a b : Int} (h : 0 ≤ a ∧ a ≤ 2147483647 ∧ 0 < b ∧ b ≤ 2147483647) (hdg : decode cc pc = .ok (.irem, 1)) (k : W p l e R s m args below meth c H locs cells slots Q (F0 m (pc + 1) ls (.int (zI (a % b)) :: rest))) : W p l e R s m args below meth c H locs cells slots Q (F0 m pc ls (.int (zI b) :: .int (zI a) :: rest)) := lv_irem S.1 S.2.1 hdg (zI_ne0 (by omega) (by omega)) (by rw [zI_remn h]; exact k)
theorem z_iinc (S : CallFix p m c cc nL s args Ts own) {i k : Nat} {n a : Int} {lv lv' : List (Nat × Value)} (hdg : decode cc pc = .ok (.iinc i n, 3)) (h : lv_has ls nL lv) (hk : lv[k]? = some (i, .int (zI a))) (hn : i < nL) (hl : (i, Value.int (zI (a + n))) :: lv.filter (fun q => !(q.1 == i) && !(q.1 + 1 == i && q.2.category == 2)) = lv')
    (kk : ∀ ls' : Array Slot, lv_has ls' nL lv' → W p l e R s m args below meth c H locs cells slots Q (F0 m (pc + 3) ls' rest)) : W p l e R s m args below meth c H locs cells slots Q (F0 m pc ls rest) := lv_iinc S.1 S.2.1 hdg h hk (zI_add a n) hn hl kk
theorem z_icmp_eq (S : CallFix p m c cc nL s args Ts own) {a b off : Int} {tgt : Nat} (hdg : decode cc pc = .ok (.if_icmp .eq off, 3)) (ht : (pc : Int) + off = (tgt : Int)) (hab : I32 a ∧ I32 b)
    (kt : a = b → W p l e R s m args below meth c H locs cells slots Q (F0 m tgt ls rest)) (kf : ¬ a = b → W p l e R s m args below meth c H locs cells slots Q (F0 m (pc + 3) ls rest)) : W p l e R s m args below meth c H locs cells slots Q (F0 m pc ls (.int (zI b) :: .int (zI a) :: rest)) := lv_icmp_eq S.1 S.2.1 hdg ht (fun h => kt ((zI_eq hab.1 hab.2).mp h)) (fun h => kf (fun q => h ((zI_eq hab.1 hab.2).mpr q)))
theorem z_icmp_ne (S : CallFix p m c cc nL s args Ts own) {a b off : Int} {tgt : Nat} (hdg : decode cc pc = .ok (.if_icmp .ne off, 3)) (ht : (pc : Int) + off = (tgt : Int)) (hab : I32 a ∧ I32 b)
    (kt : ¬ a = b → W p l e R s m args below meth c H locs cells slots Q (F0 m tgt ls rest)) (kf : a = b → W p l e R s m args below meth c H locs cells slots Q (F0 m (pc + 3) ls rest)) : W p l e R s m args below meth c H locs cells slots Q (F0 m pc ls (.int (zI b) :: .int (zI a) :: rest)) := lv_icmp_ne S.1 S.2.1 hdg ht (fun h => kt (fun q => h ((zI_eq hab.1 hab.2).mpr q))) (fun h => kf ((zI_eq hab.1 hab.2).mp h))
theorem z_icmp_lt (S : CallFix p m c cc nL s args Ts own) {a b off : Int} {tgt : Nat} (hdg : decode cc pc = .ok (.if_icmp .lt off, 3)) (ht : (pc : Int) + off = (tgt : Int)) (hab : I32 a ∧ I32 b)
    (kt : a < b → W p l e R s m args below meth c H locs cells slots Q (F0 m tgt ls rest)) (kf : b ≤ a → W p l e R s m args below meth c H locs cells slots Q (F0 m (pc + 3) ls rest)) : W p l e R s m args below meth c H locs cells slots Q (F0 m pc ls (.int (zI b) :: .int (zI a) :: rest)) := lv_icmp_lt S.1 S.2.1 hdg ht (fun h => kt ((zI_lt hab.1 hab.2).mp h)) (fun h => kf (Int.not_lt.mp (fun q => h ((zI_lt hab.1 hab.2).mpr q))))
theorem z_icmp_ge (S : CallFix p m c cc nL s args Ts own) {a b off : Int} {tgt : Nat} (hdg : decode cc pc = .ok (.if_icmp .ge off, 3)) (ht : (pc : Int) + off = (tgt : Int)) (hab : I32 a ∧ I32 b)
    (kt : b ≤ a → W p l e R s m args below meth c H locs cells slots Q (F0 m tgt ls rest)) (kf : a < b → W p l e R s m args below meth c H locs cells slots Q (F0 m (pc + 3) ls rest)) : W p l e R s m args below meth c H locs cells slots Q (F0 m pc ls (.int (zI b) :: .int (zI a) :: rest)) := lv_icmp_ge S.1 S.2.1 hdg ht (fun h => kt ((zI_le hab.2 hab.1).mp h)) (fun h => kf (Int.not_le.mp (fun q => h ((zI_le hab.2 hab.1).mpr q))))
theorem z_icmp_gt (S : CallFix p m c cc nL s args Ts own) {a b off : Int} {tgt : Nat} (hdg : decode cc pc = .ok (.if_icmp .gt off, 3)) (ht : (pc : Int) + off = (tgt : Int)) (hab : I32 a ∧ I32 b)
    (kt : b < a → W p l e R s m args below meth c H locs cells slots Q (F0 m tgt ls rest)) (kf : a ≤ b → W p l e R s m args below meth c H locs cells slots Q (F0 m (pc + 3) ls rest)) : W p l e R s m args below meth c H locs cells slots Q (F0 m pc ls (.int (zI b) :: .int (zI a) :: rest)) := lv_icmp_gt S.1 S.2.1 hdg ht (fun h => kt ((zI_lt hab.2 hab.1).mp h)) (fun h => kf (Int.not_lt.mp (fun q => h ((zI_lt hab.2 hab.1).mpr q))))
theorem z_icmp_le (S : CallFix p m c cc nL s args Ts own) {a b off : Int} {tgt : Nat} (hdg : decode cc pc = .ok (.if_icmp .le off, 3)) (ht : (pc : Int) + off = (tgt : Int)) (hab : I32 a ∧ I32 b)
    (kt : a ≤ b → W p l e R s m args below meth c H locs cells slots Q (F0 m tgt ls rest)) (kf : b < a → W p l e R s m args below meth c H locs cells slots Q (F0 m (pc + 3) ls rest)) : W p l e R s m args below meth c H locs cells slots Q (F0 m pc ls (.int (zI b) :: .int (zI a) :: rest)) := lv_icmp_le S.1 S.2.1 hdg ht (fun h => kt ((zI_le hab.1 hab.2).mp h)) (fun h => kf (Int.not_le.mp (fun q => h ((zI_le hab.1 hab.2).mpr q))))
theorem z_if_eq (S : CallFix p m c cc nL s args Ts own) {a off : Int} {tgt : Nat} (hdg : decode cc pc = .ok (.ifCond .eq off, 3)) (ht : (pc : Int) + off = (tgt : Int)) (hab : I32 a)
    (kt : a = 0 → W p l e R s m args below meth c H locs cells slots Q (F0 m tgt ls rest)) (kf : ¬ a = 0 → W p l e R s m args below meth c H locs cells slots Q (F0 m (pc + 3) ls rest)) : W p l e R s m args below meth c H locs cells slots Q (F0 m pc ls (.int (zI a) :: rest)) := lv_if_eq S.1 S.2.1 hdg ht (fun h => kt ((zI_eq (b := 0) hab (by decide)).mp h)) (fun h => kf (fun q => h ((zI_eq (b := 0) hab (by decide)).mpr q)))
theorem z_if_ne (S : CallFix p m c cc nL s args Ts own) {a off : Int} {tgt : Nat} (hdg : decode cc pc = .ok (.ifCond .ne off, 3)) (ht : (pc : Int) + off = (tgt : Int)) (hab : I32 a)
    (kt : ¬ a = 0 → W p l e R s m args below meth c H locs cells slots Q (F0 m tgt ls rest)) (kf : a = 0 → W p l e R s m args below meth c H locs cells slots Q (F0 m (pc + 3) ls rest)) : W p l e R s m args below meth c H locs cells slots Q (F0 m pc ls (.int (zI a) :: rest)) := lv_if_ne S.1 S.2.1 hdg ht (fun h => kt (fun q => h ((zI_eq (b := 0) hab (by decide)).mpr q))) (fun h => kf ((zI_eq (b := 0) hab (by decide)).mp h))
theorem z_if_lt (S : CallFix p m c cc nL s args Ts own) {a off : Int} {tgt : Nat} (hdg : decode cc pc = .ok (.ifCond .lt off, 3)) (ht : (pc : Int) + off = (tgt : Int)) (hab : I32 a)
    (kt : a < 0 → W p l e R s m args below meth c H locs cells slots Q (F0 m tgt ls rest)) (kf : 0 ≤ a → W p l e R s m args below meth c H locs cells slots Q (F0 m (pc + 3) ls rest)) : W p l e R s m args below meth c H locs cells slots Q (F0 m pc ls (.int (zI a) :: rest)) := lv_if_lt S.1 S.2.1 hdg ht (fun h => kt ((zI_lt (b := 0) hab (by decide)).mp h)) (fun h => kf (Int.not_lt.mp (fun q => h ((zI_lt (b := 0) hab (by decide)).mpr q))))
theorem z_if_ge (S : CallFix p m c cc nL s args Ts own) {a off : Int} {tgt : Nat} (hdg : decode cc pc = .ok (.ifCond .ge off, 3)) (ht : (pc : Int) + off = (tgt : Int)) (hab : I32 a)
    (kt : 0 ≤ a → W p l e R s m args below meth c H locs cells slots Q (F0 m tgt ls rest)) (kf : a < 0 → W p l e R s m args below meth c H locs cells slots Q (F0 m (pc + 3) ls rest)) : W p l e R s m args below meth c H locs cells slots Q (F0 m pc ls (.int (zI a) :: rest)) := lv_if_ge S.1 S.2.1 hdg ht (fun h => kt ((zI_le (a := 0) (by decide) hab).mp h)) (fun h => kf (Int.not_le.mp (fun q => h ((zI_le (a := 0) (by decide) hab).mpr q))))
theorem z_if_gt (S : CallFix p m c cc nL s args Ts own) {a off : Int} {tgt : Nat} (hdg : decode cc pc = .ok (.ifCond .gt off, 3)) (ht : (pc : Int) + off = (tgt : Int)) (hab : I32 a)
    (kt : 0 < a → W p l e R s m args below meth c H locs cells slots Q (F0 m tgt ls rest)) (kf : a ≤ 0 → W p l e R s m args below meth c H locs cells slots Q (F0 m (pc + 3) ls rest)) : W p l e R s m args below meth c H locs cells slots Q (F0 m pc ls (.int (zI a) :: rest)) := lv_if_gt S.1 S.2.1 hdg ht (fun h => kt ((zI_lt (a := 0) (by decide) hab).mp h)) (fun h => kf (Int.not_lt.mp (fun q => h ((zI_lt (a := 0) (by decide) hab).mpr q))))
theorem z_if_le (S : CallFix p m c cc nL s args Ts own) {a off : Int} {tgt : Nat} (hdg : decode cc pc = .ok (.ifCond .le off, 3)) (ht : (pc : Int) + off = (tgt : Int)) (hab : I32 a)
    (kt : a ≤ 0 → W p l e R s m args below meth c H locs cells slots Q (F0 m tgt ls rest)) (kf : 0 < a → W p l e R s m args below meth c H locs cells slots Q (F0 m (pc + 3) ls rest)) : W p l e R s m args below meth c H locs cells slots Q (F0 m pc ls (.int (zI a) :: rest)) := lv_if_le S.1 S.2.1 hdg ht (fun h => kt ((zI_le (b := 0) hab (by decide)).mp h)) (fun h => kf (Int.not_le.mp (fun q => h ((zI_le (b := 0) hab (by decide)).mpr q))))
/-- a truth value is asked -/
theorem z_ifb_eq (S : CallFix p m c cc nL s args Ts own) {P : Prop} [Decidable P] {off : Int} {tgt : Nat} (hdg : decode cc pc = .ok (.ifCond .eq off, 3)) (ht : (pc : Int) + off = (tgt : Int))
    (kt : ¬ P → W p l e R s m args below meth c H locs cells slots Q (F0 m tgt ls rest)) (kf : P → W p l e R s m args below meth c H locs cells slots Q (F0 m (pc + 3) ls rest)) : W p l e R s m args below meth c H locs cells slots Q (F0 m pc ls (.int (zI (b01 P)) :: rest)) := by
  have h01 := b01_01 P
  refine z_if_eq S hdg ht (by omega) (fun h => kt (fun q => ?_)) (fun h => kf ?_)
  · rw [b01_t q] at h; exact absurd h (by decide)
  · by_cases q : P
    · exact q
    · exact absurd (b01_f q) h
theorem z_ifb_ne (S : CallFix p m c cc nL s args Ts own) {P : Prop} [Decidable P] {off : Int} {tgt : Nat} (hdg : decode cc pc = .ok (.ifCond .ne off, 3)) (ht : (pc : Int) + off = (tgt : Int))
    (kt : P → W p l e R s m args below meth c H locs cells slots Q (F0 m tgt ls rest)) (kf : ¬ P → W p l e R s m args below meth c H locs cells slots Q (F0 m (pc + 3) ls rest)) : W p l e R s m args below meth c H locs cells slots Q (F0 m pc ls (.int (zI (b01 P)) :: rest)) := by
  have h01 := b01_01 P
  refine z_if_ne S hdg ht (by omega) (fun h => kt ?_) (fun h => kf (fun q => ?_))
  · by_cases q : P
    · exact q
    · exact absurd (b01_f q) h
  · rw [b01_t q] at h; exact absurd h (by decide)
theorem z_goto (S : CallFix p m c cc nL s args Ts own) {off : Int} {tgt : Nat} (hdg : decode cc pc = .ok (.goto off, 3)) (ht : (pc : Int) + off = (tgt : Int)) (k : W p l e R s m args below meth c H locs cells slots Q (F0 m tgt ls rest)) : W p l e R s m args below meth c H locs cells slots Q (F0 m pc ls rest) := lv_goto S.1 S.2.1 hdg ht k
theorem z_tabIn (S : CallFix p m c cc nL s args Ts own) {dflt lo hi : Int} {offs : Array Int} {len : Nat} {x : Int} (j : Int) {off : Int} {tgt : Nat} (hx : x = j) (hj : I32 j) (hdg : decode cc pc = .ok (.tableswitch dflt lo hi offs, len)) (h1 : ¬ j < lo) (h2 : ¬ hi < j) (ho : offs[(j - lo).toNat]? = some off) (ht : (pc : Int) + off = (tgt : Int))
    (k : W p l e R s m args below meth c H locs cells slots Q (F0 m tgt ls rest)) : W p l e R s m args below meth c H locs cells slots Q (F0 m pc ls (.int (zI x) :: rest)) := by
  subst hx
  have ht0 := zI_toInt hj
  exact lv_tableIn S.1 S.2.1 hdg (by rw [ht0]; exact h1) (by rw [ht0]; exact h2) (by rw [ht0]; exact ho) ht k
theorem z_tabOut (S : CallFix p m c cc nL s args Ts own) {dflt lo hi : Int} {offs : Array Int} {len : Nat} {x : Int} {tgt : Nat} (hj : I32 x) (hdg : decode cc pc = .ok (.tableswitch dflt lo hi offs, len)) (h : x < lo ∨ hi < x) (ht : (pc : Int) + dflt = (tgt : Int))
    (k : W p l e R s m args below meth c H locs cells slots Q (F0 m tgt ls rest)) : W p l e R s m args below meth c H locs cells slots Q (F0 m pc ls (.int (zI x) :: rest)) := by
  have ht0 := zI_toInt hj
  exact lv_tableOut S.1 S.2.1 hdg (by rw [ht0]; exact h) ht k
theorem z_iald (S : CallFix p m c cc nL s args Ts own) (hK : KG D g s) (hP : va_P D vwCl ws H) (q0 : Nat) {n : Nat} {F : Int → Int} (ha : ws[q0]? = some (a0, .inl (g.1, n, .inl (zA F)))) {i : Int} (hn : n < 2147483648) (hi : 0 ≤ i ∧ i < (n : Int)) (hdg : decode cc pc = .ok (.iaload, 1))
    (kk : W p l e R s m args below meth c H locs cells slots Q (F0 m (pc + 1) ls (.int (zI (F i)) :: rest))) : W p l e R s m args below meth c H locs cells slots Q (F0 m pc ls (.int (zI i) :: .ref a0 :: rest)) := va_iald S.1 S.2.1 hK.1 hP q0 0 ha rfl (zI_in hi hn) hdg (by rw [zA_at (by omega)]; exact kk)
theorem z_zald (S : CallFix p m c cc nL s args Ts own) (hK : KG D g s) (hP : va_P D vwCl ws H) (q0 : Nat) {n : Nat} {F : Int → Int} (ha : ws[q0]? = some (a0, .inl (g.2.1, n, .inl (zA F)))) {i : Int} (hn : n < 2147483648) (hi : 0 ≤ i ∧ i < (n : Int)) (hdg : decode cc pc = .ok (.baload, 1))
    (kk : W p l e R s m args below meth c H locs cells slots Q (F0 m (pc + 1) ls (.int (zI (F i)) :: rest))) : W p l e R s m args below meth c H locs cells slots Q (F0 m pc ls (.int (zI i) :: .ref a0 :: rest)) := va_zald S.1 S.2.1 hK.1 hP q0 1 ha rfl (zI_in hi hn) hdg (by rw [zA_at (by omega)]; exact kk)
theorem z_iast (S : CallFix p m c cc nL s args Ts own) (hK : KG D g s) (hP : va_P D vwCl ws H) (hD : va_D A ws) (hS : va_S A H0 H locs) (q0 : Nat) {n : Nat} {F : Int → Int} (ha : ws[q0]? = some (a0, .inl (g.1, n, .inl (zA F)))) {i v : Int} (hn : n < 2147483648) (hi : 0 ≤ i ∧ i < (n : Int)) (hdg : decode cc pc = .ok (.iastore, 1))
    (kk : ∀ (H1 : Heap) (locs1 : List Loc), va_P D vwCl (ws.set q0 (a0, .inl (g.1, n, .inl (zA (upZ F i v))))) H1 → va_S A H0 H1 locs1 → W p l e R s m args below meth c H1 locs1 cells slots Q (F0 m (pc + 1) ls rest)) : W p l e R s m args below meth c H locs cells slots Q (F0 m pc ls (.int (zI v) :: .int (zI i) :: .ref a0 :: rest)) := va_iast S.1 S.2.1 hK.1 hP hD hS q0 0 ha rfl (zI_in hi hn) hdg (fun H1 locs1 h1 _ h3 => kk H1 locs1 (by rw [zA_up (by omega)] at h1; exact h1) h3)
theorem z_nar_bool {v : Int} (h : v = 0 ∨ v = 1) : vp_nar .boolean (zI v) = zI v := by rcases h with rfl | rfl <;> decide
theorem z_zast (S : CallFix p m c cc nL s args Ts own) (hK : KG D g s) (hP : va_P D vwCl ws H) (hD : va_D A ws) (hS : va_S A H0 H locs) (q0 : Nat) {n : Nat} {F : Int → Int} (ha : ws[q0]? = some (a0, .inl (g.2.1, n, .inl (zA F)))) {i v : Int} (hn : n < 2147483648) (hi : 0 ≤ i ∧ i < (n : Int)) (hv : v = 0 ∨ v = 1) (hdg : decode cc pc = .ok (.bastore, 1))
    (kk : ∀ (H1 : Heap) (locs1 : List Loc), va_P D vwCl (ws.set q0 (a0, .inl (g.2.1, n, .inl (zA (upZ F i v))))) H1 → va_S A H0 H1 locs1 → W p l e R s m args below meth c H1 locs1 cells slots Q (F0 m (pc + 1) ls rest)) : W p l e R s m args below meth c H locs cells slots Q (F0 m pc ls (.int (zI v) :: .int (zI i) :: .ref a0 :: rest)) := va_zast S.1 S.2.1 hK.1 hP hD hS q0 1 ha rfl (zI_in hi hn) hdg (fun H1 locs1 h1 _ h3 => kk H1 locs1 (by rw [z_nar_bool hv, zA_up (by omega)] at h1; exact h1) h3)
theorem z_get (S : CallFix p m c cc nL s args AW own) {C : String} {T : u_T} {N ci index : Nat} (hin : ∀ w ∈ u_ws C T N, w ∈ AW) (hK : KG D g s) (hP : va_P D vwCl ws H) (q0 : Nat) {fs : List Value} (he : ws[q0]? = some (a0, .inr (ci, fs))) (hc : vwCl[ci]? = some (C, T, N)) (k : Nat) (hk : k < N) (hlink : Cond.fieldLink own index (T k).1 (T k).2.1 (T k).2.2.1 ∈ AW) {v : Value} (hv : fs[k]? = some v) (hdg : decode cc pc = .ok (.getfield index, 3))
    (kk : W p l e R s m args below meth c H locs cells slots Q (F0 m (pc + 3) ls (v :: rest))) : W p l e R s m args below meth c H locs cells slots Q (F0 m pc ls (.ref a0 :: rest)) := va_get S.1 S.2.1 S.2.2.2.2 hin S.2.2.2.1 hK.1 hP q0 he hc k hk (S.2.2.2.2 _ hlink) (fun _ h => h) hv hdg kk
theorem z_fits (v : Int) : fits .int (.int (zI v)) = true := rfl
theorem z_put (S : CallFix p m c cc nL s args AW own) {C : String} {T : u_T} {N ci index : Nat} (hin : ∀ w ∈ u_ws C T N, w ∈ AW) (ty0 : Nat → FieldType) (hty : ∀ k, k < N → parseFieldDescriptor (T k).2.2.1 = some (ty0 k)) (hnm : ∀ a, a < N → ∀ b, b < N → a ≠ b → (T a).2.1 ≠ (T b).2.1) (hK : KG D g s) (hP : va_P D vwCl ws H) (hD : va_D A ws) (hS : va_S A H0 H locs) (q0 : Nat) {fs : List Value} (he : ws[q0]? = some (a0, .inr (ci, fs))) (hc : vwCl[ci]? = some (C, T, N)) (k : Nat) (hk : k < N) (hlink : Cond.fieldLink own index (T k).1 (T k).2.1 (T k).2.2.1 ∈ AW) (hfin : (T k).2.2.2 = false) {v : Int} (hd : parseFieldDescriptor (T k).2.2.1 = some .int) (hl : k < fs.length)
    (hdg : decode cc pc = .ok (.putfield index, 3)) (kk : ∀ (H1 : Heap) (locs1 : List Loc), va_P D vwCl (ws.set q0 (a0, .inr (ci, fs.set k (.int (zI v))))) H1 → va_S A H0 H1 locs1 → W p l e R s m args below meth c H1 locs1 cells slots Q (F0 m (pc + 3) ls rest)) : W p l e R s m args below meth c H locs cells slots Q (F0 m pc ls (.int (zI v) :: .ref a0 :: rest)) :=
  va_put S.1 S.2.1 S.2.2.2.2 hin ty0 hty hnm S.2.2.2.1 hK.1 hP hD hS q0 he hc k hk (S.2.2.2.2 _ hlink) (fun _ h => h) hfin hd rfl rfl hl hdg (fun H1 locs1 h1 _ h3 => kk H1 locs1 h1 h3)
/-- Math.max, min, abs -/
theorem z_max (S : CallFix p m c cc nL s args AW own) {index : Nat} (hlink : Cond.methodLink own index Lib.Math.max.name ∈ AW) (hsz : ls.size = nL) (hframes : 1 ≤ R.frames) (hlocals : (rest.map fun v => v.category).sum + 13 ≤ R.locals) (hc : cells ≤ R.cells ∧ slots ≤ R.slots) {a b : Int} (hab : I32 a ∧ I32 b) (hdg : decode cc pc = .ok (.invokestatic index, 3))
    (kk : W p l e R s m args below meth c H locs cells slots Q (F0 m (pc + 3) ls (.int (zI (max a b)) :: rest))) : W p l e R s m args below meth c H locs cells slots Q (F0 m pc ls (.int (zI b) :: .int (zI a) :: rest)) := by
  refine va_mmax S.1 S.2.1 (S.2.2.1.trans hsz.symm) S.2.2.2.1 (S.2.2.2.2 _ hlink) (S.2.2.2.2 _ sm_Math_max) (S.2.2.2.2 _ ini_J9) (S.2.2.2.2 _ cd_Math_max) hframes hlocals hc.1 hc.2 hdg ?_
  have e : (if zI a < zI b then zI b else zI a) = zI (max a b) := by
    by_cases h : a < b
    · rw [if_pos ((zI_lt hab.1 hab.2).mpr h)]; congr 1; omega
    · rw [if_neg (fun q => h ((zI_lt hab.1 hab.2).mp q))]; congr 1; omega
  rw [e]
  exact kk
theorem z_min (S : CallFix p m c cc nL s args AW own) {index : Nat} (hlink : Cond.methodLink own index Lib.Math.min.name ∈ AW) (hsz : ls.size = nL) (hframes : 1 ≤ R.frames) (hlocals : (rest.map fun v => v.category).sum + 13 ≤ R.locals) (hc : cells ≤ R.cells ∧ slots ≤ R.slots) {a b : Int} (hab : I32 a ∧ I32 b) (hdg : decode cc pc = .ok (.invokestatic index, 3))
    (kk : W p l e R s m args below meth c H locs cells slots Q (F0 m (pc + 3) ls (.int (zI (min a b)) :: rest))) : W p l e R s m args below meth c H locs cells slots Q (F0 m pc ls (.int (zI b) :: .int (zI a) :: rest)) := by
  refine va_mmin S.1 S.2.1 (S.2.2.1.trans hsz.symm) S.2.2.2.1 (S.2.2.2.2 _ hlink) (S.2.2.2.2 _ sm_Math_min) (S.2.2.2.2 _ ini_J9) (S.2.2.2.2 _ cd_Math_min) hframes hlocals hc.1 hc.2 hdg ?_
  have e : (if zI b < zI a then zI b else zI a) = zI (min a b) := by
    by_cases h : b < a
    · rw [if_pos ((zI_lt hab.2 hab.1).mpr h)]; congr 1; omega
    · rw [if_neg (fun q => h ((zI_lt hab.2 hab.1).mp q))]; congr 1; omega
  rw [e]
  exact kk
def ab (a : Int) : Int := if 0 ≤ a then a else -a
theorem z_abs (S : CallFix p m c cc nL s args AW own) {index : Nat} (hlink : Cond.methodLink own index Lib.Math.abs.name ∈ AW) (hsz : ls.size = nL) (hframes : 1 ≤ R.frames) (hlocals : (rest.map fun v => v.category).sum + 13 ≤ R.locals) (hc : cells ≤ R.cells ∧ slots ≤ R.slots) {a : Int} (hab : I32 a) (hdg : decode cc pc = .ok (.invokestatic index, 3))
    (kk : W p l e R s m args below meth c H locs cells slots Q (F0 m (pc + 3) ls (.int (zI (ab a)) :: rest))) : W p l e R s m args below meth c H locs cells slots Q (F0 m pc ls (.int (zI a) :: rest)) := by
  refine va_mabs S.1 S.2.1 (S.2.2.1.trans hsz.symm) S.2.2.2.1 (S.2.2.2.2 _ hlink) (S.2.2.2.2 _ sm_Math_abs) (S.2.2.2.2 _ ini_J9) (S.2.2.2.2 _ cd_Math_abs) hframes hlocals hc.1 hc.2 hdg ?_
  have e : (if (0 : Int32) ≤ zI a then zI a else 0 - zI a) = zI (ab a) := by
    have h0 : (0 : Int32) = zI 0 := rfl
    unfold ab
    by_cases h : 0 ≤ a
    · rw [if_pos h, if_pos (h0 ▸ (zI_le (by decide) hab).mpr h)]
    · rw [if_neg h, if_neg (fun q => h ((zI_le (by decide) hab).mp (h0 ▸ q))), h0, zI_sub]; congr 1; omega
  rw [e]
  exact kk
/-- behind a call that leaves the heap -/
theorem z_Si {post : Int32 → Prop} {a : Array Value} (hr : va_Run p l e R s m args below meth c H locs cells slots 0 0 (F0 m pc ls st0) rest (vp_Si post a) (fun _ => False))
    (kk : ∀ r : Int32, post r → W p l e R s m args below meth c H locs cells slots Q (F0 m (pc + 3) ls (.int r :: rest))) : W p l e R s m args below meth c H locs cells slots Q (F0 m pc ls st0) := by
  intro T hT X
  obtain ⟨v, st₀, t, T', L, h0, X', hL, e1, e2, ⟨r, hv, hp, hh⟩, st⟩ := hr T hT X
  cases hv
  obtain ⟨t2, a1, b1⟩ := kk r hp T' (by rw [e1, hh, h0]) (Stand.forget X' (fun q h => (hL q h).elim))
  exact ⟨t2, st t2 a1, b1⟩
theorem z_Sl {post : Int64 → Prop} {a : Array Value} (hr : va_Run p l e R s m args below meth c H locs cells slots 0 0 (F0 m pc ls st0) rest (vp_Sl post a) (fun _ => False))
    (kk : ∀ r : Int64, post r → W p l e R s m args below meth c H locs cells slots Q (F0 m (pc + 3) ls (.long r :: rest))) : W p l e R s m args below meth c H locs cells slots Q (F0 m pc ls st0) := by
  intro T hT X
  obtain ⟨v, st₀, t, T', L, h0, X', hL, e1, e2, ⟨r, hv, hp, hh⟩, st⟩ := hr T hT X
  cases hv
  obtain ⟨t2, a1, b1⟩ := kk r hp T' (by rw [e1, hh, h0]) (Stand.forget X' (fun q h => (hL q h).elim))
  exact ⟨t2, st t2 a1, b1⟩
end ZR
section ZC
variable {p : Program} {l : Launch} {e : Env} {R : Room} {s : State} {m : MethodId} {args : Array Value} {below : List Frame} {meth : Method} {c : Code} {H : Heap} {locs : List Loc} {cells slots : Nat} {Q : State → Prop}
variable {cc : ByteArray} {nL pc : Nat} {own : String} {ls : Array Slot} {rest st0 : List Value} {D : va_G} {A A1 : Nat → Prop} {g : ClassId × ClassId × ClassId} {ws wc wc' : va_W} {H0 : Heap}
variable {y : MethodName} {bytes : ByteArray} {maxL n index b : Nat} {ret : Option FieldType} {rm : Room} {C host : String} {As : List Value}
theorem mkV (ht : ∀ w ∈ AW, w.before args s = true) (h1 : Cond.methodLink own index y ∈ AW) (h2 : Cond.instanceMethod y ∈ AW) (h3 : Cond.selects C y y ∈ AW) (h4 : Cond.initialized C ∈ AW) (h5 : Cond.code y bytes maxL ret ∈ AW)
    (hd : y.cls = C ∧ y.cls ≠ "java/lang/invoke/MethodHandle" ∧ y.cls ≠ "java/lang/invoke/VarHandle" ∧ (parseMethodDescriptor y.desc).map (fun d => d.parameters.length) = some n) (hR : rm.frames + 1 ≤ R.frames ∧ 8 + (maxL + 11) + rm.locals ≤ R.locals) : CallW R s args own C index y bytes maxL ret (WS y bytes maxL ret) rm rm.cells rm.slots n :=
  cwV n ht (gin_4 h1 h2 h3 h4 (gin_WS h5)) rfl rfl rfl hd hR
theorem mkS (ht : ∀ w ∈ AW, w.before args s = true) (h1 : Cond.methodLink own index y ∈ AW) (h2 : Cond.static y ∈ AW) (h4 : Cond.initialized y.cls ∈ AW) (h5 : Cond.code y bytes maxL ret ∈ AW)
    (hd : y.cls = C ∧ y.cls ≠ "java/lang/invoke/MethodHandle" ∧ y.cls ≠ "java/lang/invoke/VarHandle" ∧ (parseMethodDescriptor y.desc).map (fun d => d.parameters.length) = some n) (hR : rm.frames + 1 ≤ R.frames ∧ 8 + (maxL + 11) + rm.locals ≤ R.locals) : CallB R s args own index y bytes maxL ret (WS y bytes maxL ret) rm rm.cells rm.slots n ∧ (Cond.static y).before args s = true :=
  ⟨callB_of n ht (gin_WS h5) rfl rfl rfl (ht _ h4) (ht _ h1) hd.2 hR, ht _ h2⟩
theorem mkN (ht : ∀ w ∈ AW, w.before args s = true) (hl : va_Nw (.methodLinkNest own index y host) s) (h2 : Cond.static y ∈ AW) (h4 : Cond.initialized y.cls ∈ AW) (h5 : Cond.code y bytes maxL ret ∈ AW)
    (hd : y.cls = C ∧ y.cls ≠ "java/lang/invoke/MethodHandle" ∧ y.cls ≠ "java/lang/invoke/VarHandle" ∧ (parseMethodDescriptor y.desc).map (fun d => d.parameters.length) = some n) (hR : rm.frames + 1 ≤ R.frames ∧ 8 + (maxL + 11) + rm.locals ≤ R.locals) : va_CN R s args own index y host bytes maxL ret (WS y bytes maxL ret) rm rm.cells rm.slots n ∧ (Cond.static y).before args s = true ∧ True :=
  ⟨va_cnB n ht (gin_WS h5) rfl rfl rfl hl (ht _ h4) hd.2 hR, ht _ h2, trivial⟩
/-- a read contract: from the world wc the method answers r and leaves the heap -/
abbrev RD (l : Launch) (y : MethodName) (b : ByteArray) (n : Nat) (ret : Option FieldType) (fr lo : Nat) (D : va_G) (g : ClassId × ClassId × ClassId) (wc : va_W) (As : List Value) (r : Int) : Prop := Met l y (WS y b n ret) { frames := fr, cells := 0, slots := 0, locals := lo } (va_Pc As (PW D g wc)) (vp_Si (fun v => v = zI r)) 0 0 (fun _ => False)
abbrev RDl (l : Launch) (y : MethodName) (b : ByteArray) (n : Nat) (ret : Option FieldType) (fr lo : Nat) (D : va_G) (g : ClassId × ClassId × ClassId) (wc : va_W) (As : List Value) (r : Int64) : Prop := Met l y (WS y b n ret) { frames := fr, cells := 0, slots := 0, locals := lo } (va_Pc As (PW D g wc)) (vp_Sl (fun v => v = r)) 0 0 (fun _ => False)
/-- a write contract: from the world wc the method answers r and leaves the world wc' -/
abbrev WRi (l : Launch) (y : MethodName) (b : ByteArray) (n : Nat) (ret : Option FieldType) (fr lo : Nat) (D : va_G) (g : ClassId × ClassId × ClassId) (A : Nat → Prop) (wc : va_W) (As : List Value) (wc' : va_W) (r : Int) : Prop := Met l y (WS y b n ret) { frames := fr, cells := 0, slots := 0, locals := lo } (va_Pc As (PW D g wc)) (va_Qi (fun v (_ : Unit) => v = zI r) (fun _ t => va_P D vwCl wc' t.heap) A) 0 0 A
abbrev WRv (l : Launch) (y : MethodName) (b : ByteArray) (n : Nat) (ret : Option FieldType) (fr lo : Nat) (D : va_G) (g : ClassId × ClassId × ClassId) (A : Nat → Prop) (wc : va_W) (As : List Value) (wc' : va_W) : Prop := Met l y (WS y b n ret) { frames := fr, cells := 0, slots := 0, locals := lo } (va_Pc As (PW D g wc)) (va_Qv (fun (_ : Unit) => True) (fun _ t => va_P D vwCl wc' t.heap) A) 0 0 A
variable {fr lo : Nat} {r : Int} {rl : Int64}
theorem z_preV (hK : KG D g s) (hPc : va_P D vwCl wc H) (hv : ∃ cellB : Cell, H[b]? = some cellB ∧ cellB.vm.isStatics = false ∧ s.vm.findClass C = some cellB.cls) : PreV s H C b (va_Pc (.ref b :: As) (PW D g wc)) As := ⟨PW.blind, hv, fun U hU hW => ⟨rfl, by rw [hU]; exact hPc, hK.warm hW⟩⟩
theorem z_preS (hK : KG D g s) (hPc : va_P D vwCl wc H) : PreS s H (va_Pc As (PW D g wc)) As := ⟨PW.blind, fun U hU hW => ⟨rfl, by rw [hU]; exact hPc, hK.warm hW⟩⟩
theorem z_lroom (h : (rest.map fun v => v.category).sum ≤ 8) : 2 * (F0 m pc ls st0).monitorRoom + (rest.map fun v => v.category).sum ≤ 8 := by
  show 2 * 0 + _ ≤ 8
  omega
/-- a read call by invokevirtual, static, static of a nest mate -/
theorem z_rV (S : CallFix p m c cc nL s args AW own) (hM : RD l y bytes maxL ret fr lo D g wc (.ref b :: As) r) (h1 : Cond.methodLink own index y ∈ AW) (h2 : Cond.instanceMethod y ∈ AW) (h3 : Cond.selects C y y ∈ AW) (h4 : Cond.initialized C ∈ AW) (h5 : Cond.code y bytes maxL ret ∈ AW)
    (hd : y.cls = C ∧ y.cls ≠ "java/lang/invoke/MethodHandle" ∧ y.cls ≠ "java/lang/invoke/VarHandle" ∧ (parseMethodDescriptor y.desc).map (fun d => d.parameters.length) = some n) (hR : fr + 1 ≤ R.frames ∧ 8 + (maxL + 11) + lo ≤ R.locals)
    (hK : KG D g s) (hPc : va_P D vwCl wc H) (hv : ∃ cellB : Cell, H[b]? = some cellB ∧ cellB.vm.isStatics = false ∧ s.vm.findClass C = some cellB.cls) (hn : As.length = n) (hsz : ls.size = nL) (hst : st0 = As.reverse ++ .ref b :: rest) (hr : (rest.map fun v => v.category).sum ≤ 8) (hc : cells ≤ R.cells ∧ slots ≤ R.slots) (hdg : decode cc pc = .ok (.invokevirtual index, 3))
    (kk : W p l e R s m args below meth c H locs cells slots Q (F0 m (pc + 3) ls (.int (zI r) :: rest))) : W p l e R s m args below meth c H locs cells slots Q (F0 m pc ls st0) :=
  z_Si (va_runV (rest := rest) S hM (mkV S.2.2.2.2 h1 h2 h3 h4 h5 hd hR) (z_preV hK hPc hv) rfl hn hsz hst (z_lroom hr) hdg hc) (fun v hv => by subst hv; exact kk)
theorem z_rS (S : CallFix p m c cc nL s args AW own) (hM : RD l y bytes maxL ret fr lo D g wc As r) (h1 : Cond.methodLink own index y ∈ AW) (h2 : Cond.static y ∈ AW) (h4 : Cond.initialized y.cls ∈ AW) (h5 : Cond.code y bytes maxL ret ∈ AW)
    (hd : y.cls = C ∧ y.cls ≠ "java/lang/invoke/MethodHandle" ∧ y.cls ≠ "java/lang/invoke/VarHandle" ∧ (parseMethodDescriptor y.desc).map (fun d => d.parameters.length) = some n) (hR : fr + 1 ≤ R.frames ∧ 8 + (maxL + 11) + lo ≤ R.locals)
    (hK : KG D g s) (hPc : va_P D vwCl wc H) (hn : As.length = n) (hsz : ls.size = nL) (hst : st0 = As.reverse ++ rest) (hr : (rest.map fun v => v.category).sum ≤ 8) (hc : cells ≤ R.cells ∧ slots ≤ R.slots) (hdg : decode cc pc = .ok (.invokestatic index, 3))
    (kk : W p l e R s m args below meth c H locs cells slots Q (F0 m (pc + 3) ls (.int (zI r) :: rest))) : W p l e R s m args below meth c H locs cells slots Q (F0 m pc ls st0) :=
  z_Si (va_runS (rest := rest) S hM (mkS S.2.2.2.2 h1 h2 h4 h5 hd hR) (z_preS hK hPc) rfl hn hsz hst (z_lroom hr) hdg hc) (fun v hv => by subst hv; exact kk)
theorem z_rN (S : CallFix p m c cc nL s args AW own) (hM : RD l y bytes maxL ret fr lo D g wc As r) (h1 : (own, index, y, host) ∈ NWl) (h2 : Cond.static y ∈ AW) (h4 : Cond.initialized y.cls ∈ AW) (h5 : Cond.code y bytes maxL ret ∈ AW)
    (hd : y.cls = C ∧ y.cls ≠ "java/lang/invoke/MethodHandle" ∧ y.cls ≠ "java/lang/invoke/VarHandle" ∧ (parseMethodDescriptor y.desc).map (fun d => d.parameters.length) = some n) (hR : fr + 1 ≤ R.frames ∧ 8 + (maxL + 11) + lo ≤ R.locals)
    (hK : KG D g s) (hPc : va_P D vwCl wc H) (hn : As.length = n) (hsz : ls.size = nL) (hst : st0 = As.reverse ++ rest) (hr : (rest.map fun v => v.category).sum ≤ 8) (hc : cells ≤ R.cells ∧ slots ≤ R.slots) (hdg : decode cc pc = .ok (.invokestatic index, 3))
    (kk : W p l e R s m args below meth c H locs cells slots Q (F0 m (pc + 3) ls (.int (zI r) :: rest))) : W p l e R s m args below meth c H locs cells slots Q (F0 m pc ls st0) :=
  z_Si (va_runSN (rest := rest) S hM (mkN S.2.2.2.2 (hK.2 _ h1) h2 h4 h5 hd hR) (z_preS hK hPc) rfl hn hsz hst (z_lroom hr) hdg hc) (fun v hv => by subst hv; exact kk)
theorem z_rVl (S : CallFix p m c cc nL s args AW own) (hM : RDl l y bytes maxL ret fr lo D g wc (.ref b :: As) rl) (h1 : Cond.methodLink own index y ∈ AW) (h2 : Cond.instanceMethod y ∈ AW) (h3 : Cond.selects C y y ∈ AW) (h4 : Cond.initialized C ∈ AW) (h5 : Cond.code y bytes maxL ret ∈ AW)
    (hd : y.cls = C ∧ y.cls ≠ "java/lang/invoke/MethodHandle" ∧ y.cls ≠ "java/lang/invoke/VarHandle" ∧ (parseMethodDescriptor y.desc).map (fun d => d.parameters.length) = some n) (hR : fr + 1 ≤ R.frames ∧ 8 + (maxL + 11) + lo ≤ R.locals)
    (hK : KG D g s) (hPc : va_P D vwCl wc H) (hv : ∃ cellB : Cell, H[b]? = some cellB ∧ cellB.vm.isStatics = false ∧ s.vm.findClass C = some cellB.cls) (hn : As.length = n) (hsz : ls.size = nL) (hst : st0 = As.reverse ++ .ref b :: rest) (hr : (rest.map fun v => v.category).sum ≤ 8) (hc : cells ≤ R.cells ∧ slots ≤ R.slots) (hdg : decode cc pc = .ok (.invokevirtual index, 3))
    (kk : W p l e R s m args below meth c H locs cells slots Q (F0 m (pc + 3) ls (.long rl :: rest))) : W p l e R s m args below meth c H locs cells slots Q (F0 m pc ls st0) :=
  z_Sl (va_runV (rest := rest) S hM (mkV S.2.2.2.2 h1 h2 h3 h4 h5 hd hR) (z_preV hK hPc hv) rfl hn hsz hst (z_lroom hr) hdg hc) (fun v hv => by subst hv; exact kk)
/-- a write call: the world behind it, and what it leaves -/
theorem z_wV (S : CallFix p m c cc nL s args AW own) (hM : WRi l y bytes maxL ret fr lo D g A1 wc (.ref b :: As) wc' r) (h1 : Cond.methodLink own index y ∈ AW) (h2 : Cond.instanceMethod y ∈ AW) (h3 : Cond.selects C y y ∈ AW) (h4 : Cond.initialized C ∈ AW) (h5 : Cond.code y bytes maxL ret ∈ AW)
    (hd : y.cls = C ∧ y.cls ≠ "java/lang/invoke/MethodHandle" ∧ y.cls ≠ "java/lang/invoke/VarHandle" ∧ (parseMethodDescriptor y.desc).map (fun d => d.parameters.length) = some n) (hR : fr + 1 ≤ R.frames ∧ 8 + (maxL + 11) + lo ≤ R.locals)
    (hK : KG D g s) (hPc : va_P D vwCl wc H) (hv : ∃ cellB : Cell, H[b]? = some cellB ∧ cellB.vm.isStatics = false ∧ s.vm.findClass C = some cellB.cls) (hn : As.length = n) (hsz : ls.size = nL) (hst : st0 = As.reverse ++ .ref b :: rest) (hr : (rest.map fun v => v.category).sum ≤ 8) (hc : cells ≤ R.cells ∧ slots ≤ R.slots) (hS : va_S A H0 H locs) (hA : ∀ q, A1 q → A q) (hdg : decode cc pc = .ok (.invokevirtual index, 3))
    (kk : ∀ (H1 : Heap) (locs1 : List Loc), va_P D vwCl wc' H1 → H.size ≤ H1.size → (∀ q : Nat, q < H.size → ¬ A1 q → H1[q]? = H[q]?) → va_S A H0 H1 locs1 → W p l e R s m args below meth c H1 locs1 cells slots Q (F0 m (pc + 3) ls (.int (zI r) :: rest))) : W p l e R s m args below meth c H locs cells slots Q (F0 m pc ls st0) :=
  va_calli (va_runV (rest := rest) S hM (mkV S.2.2.2.2 h1 h2 h3 h4 h5 hd hR) (z_preV hK hPc hv) rfl hn hsz hst (z_lroom hr) hdg hc) hS (fun q _ h => hA q h) hA (fun v u t H1 locs1 ht _ hv hB hz hk hS1 => by subst hv; rw [ht] at hB; exact kk H1 locs1 hB hz hk hS1)
theorem z_wVv (S : CallFix p m c cc nL s args AW own) (hM : WRv l y bytes maxL ret fr lo D g A1 wc (.ref b :: As) wc') (h1 : Cond.methodLink own index y ∈ AW) (h2 : Cond.instanceMethod y ∈ AW) (h3 : Cond.selects C y y ∈ AW) (h4 : Cond.initialized C ∈ AW) (h5 : Cond.code y bytes maxL ret ∈ AW)
    (hd : y.cls = C ∧ y.cls ≠ "java/lang/invoke/MethodHandle" ∧ y.cls ≠ "java/lang/invoke/VarHandle" ∧ (parseMethodDescriptor y.desc).map (fun d => d.parameters.length) = some n) (hR : fr + 1 ≤ R.frames ∧ 8 + (maxL + 11) + lo ≤ R.locals)
    (hK : KG D g s) (hPc : va_P D vwCl wc H) (hv : ∃ cellB : Cell, H[b]? = some cellB ∧ cellB.vm.isStatics = false ∧ s.vm.findClass C = some cellB.cls) (hn : As.length = n) (hsz : ls.size = nL) (hst : st0 = As.reverse ++ .ref b :: rest) (hr : (rest.map fun v => v.category).sum ≤ 8) (hc : cells ≤ R.cells ∧ slots ≤ R.slots) (hS : va_S A H0 H locs) (hA : ∀ q, A1 q → A q) (hdg : decode cc pc = .ok (.invokevirtual index, 3))
    (kk : ∀ (H1 : Heap) (locs1 : List Loc), va_P D vwCl wc' H1 → H.size ≤ H1.size → (∀ q : Nat, q < H.size → ¬ A1 q → H1[q]? = H[q]?) → va_S A H0 H1 locs1 → W p l e R s m args below meth c H1 locs1 cells slots Q (F0 m (pc + 3) ls rest)) : W p l e R s m args below meth c H locs cells slots Q (F0 m pc ls st0) :=
  va_callv (va_runV (rest := rest) S hM (mkV S.2.2.2.2 h1 h2 h3 h4 h5 hd hR) (z_preV hK hPc hv) rfl hn hsz hst (z_lroom hr) hdg hc) hS (fun q _ h => hA q h) hA (fun u t H1 locs1 ht _ _ hB hz hk hS1 => by rw [ht] at hB; exact kk H1 locs1 hB hz hk hS1)
theorem z_wSv (S : CallFix p m c cc nL s args AW own) (hM : WRv l y bytes maxL ret fr lo D g A1 wc As wc') (h1 : Cond.methodLink own index y ∈ AW) (h2 : Cond.static y ∈ AW) (h4 : Cond.initialized y.cls ∈ AW) (h5 : Cond.code y bytes maxL ret ∈ AW)
    (hd : y.cls = C ∧ y.cls ≠ "java/lang/invoke/MethodHandle" ∧ y.cls ≠ "java/lang/invoke/VarHandle" ∧ (parseMethodDescriptor y.desc).map (fun d => d.parameters.length) = some n) (hR : fr + 1 ≤ R.frames ∧ 8 + (maxL + 11) + lo ≤ R.locals)
    (hK : KG D g s) (hPc : va_P D vwCl wc H) (hn : As.length = n) (hsz : ls.size = nL) (hst : st0 = As.reverse ++ rest) (hr : (rest.map fun v => v.category).sum ≤ 8) (hc : cells ≤ R.cells ∧ slots ≤ R.slots) (hS : va_S A H0 H locs) (hA : ∀ q, A1 q → A q) (hdg : decode cc pc = .ok (.invokestatic index, 3))
    (kk : ∀ (H1 : Heap) (locs1 : List Loc), va_P D vwCl wc' H1 → H.size ≤ H1.size → (∀ q : Nat, q < H.size → ¬ A1 q → H1[q]? = H[q]?) → va_S A H0 H1 locs1 → W p l e R s m args below meth c H1 locs1 cells slots Q (F0 m (pc + 3) ls rest)) : W p l e R s m args below meth c H locs cells slots Q (F0 m pc ls st0) :=
  va_callv (va_runS (rest := rest) S hM (mkS S.2.2.2.2 h1 h2 h4 h5 hd hR) (z_preS hK hPc) rfl hn hsz hst (z_lroom hr) hdg hc) hS (fun q _ h => hA q h) hA (fun u t H1 locs1 ht _ _ hB hz hk hS1 => by rw [ht] at hB; exact kk H1 locs1 hB hz hk hS1)
/-- a body's start -/
theorem z_enter {y : MethodName} {cc : ByteArray} {maxL : Nat} {ret : Option FieldType} {rm : Room} {Qc : Array Value → State → Outcome → State → Prop} {mc ms : Nat} {free : Addr → Prop} (own : String) (hy : plainName y.cls = true) (ho : y.cls = own) (hlen : (lg_sl As).length ≤ maxL)
    (body : ∀ p e s m args below meth c, CallFix p m c cc maxL s args AW own → meth.sig.returnType = ret → meth.locks = false → KG D g s → va_P D vwCl wc s.heap → ∀ ls, lv_has ls maxL (lv_args 0 As) →
      W p l e rm s m args below meth c s.heap [] 0 0 (MQ below Qc args s mc ms free) (F0 m 0 ls [])) : Met l y (WS y cc maxL ret) rm (va_Pc As (PW D g wc)) Qc mc ms free := by
  refine Met.ofW (cc := cc) (maxL := maxL) (ret := ret) hy rfl ?_
  intro p e s m args below meth c s₁ B hml hv
  obtain ⟨rfl, hP, hK⟩ := hv
  have hts := atoms_spec (ws := WS y cc maxL ret) B.pre
  have hown : s.vm.findClass own = some m.cls := by rw [← ho]; exact findClass_of_methodNamed B.named
  rw [lg_entry_eq]
  exact body p e s m _ below meth c ⟨B.exec, B.bytes, hml, hown, fun w h => hts w (List.mem_cons_of_mem _ h)⟩ B.returns B.notSynchronized hK hP _ (lv_entry As hlen)
/-- ends -/
theorem z_ret (S : CallFix p m c cc nL s args AW own) (hr : meth.sig.returnType = some .int) (hlk : meth.locks = false) {x r : Int} (he : x = r) (hdg : decode cc pc = .ok (.ireturn, 1)) : W p l e R s m args below meth c s.heap [] 0 0 (MQ below (vp_Si (fun v => v = zI r)) args s 0 0 (fun _ => False)) (F0 m pc ls [.int (zI x)]) :=
  W.iret S.1 S.2.1 hr (fun t ht _ => ⟨_, rfl, by rw [he], ht⟩) (fun q h => absurd h List.not_mem_nil) hdg hlk
theorem z_narr {x : Int} (h : x = 0 ∨ x = 1) : narrow .boolean (.int (zI x)) = .int (zI x) := by rcases h with rfl | rfl <;> decide
theorem z_retb (S : CallFix p m c cc nL s args AW own) (hr : meth.sig.returnType = some .boolean) (hlk : meth.locks = false) {x r : Int} (h01 : x = 0 ∨ x = 1) (he : x = r) (hdg : decode cc pc = .ok (.ireturn, 1)) : W p l e R s m args below meth c s.heap [] 0 0 (MQ below (vp_Si (fun v => v = zI r)) args s 0 0 (fun _ => False)) (F0 m pc ls [.int (zI x)]) :=
  W.zret S.1 S.2.1 hr (z_narr h01) (fun t ht _ => ⟨_, rfl, by rw [he], ht⟩) (fun q h => absurd h List.not_mem_nil) hdg hlk
theorem z_retl (S : CallFix p m c cc nL s args AW own) (hr : meth.sig.returnType = some .long) (hlk : meth.locks = false) {x r : Int64} (he : x = r) (hdg : decode cc pc = .ok (.lreturn, 1)) : W p l e R s m args below meth c s.heap [] 0 0 (MQ below (vp_Sl (fun v => v = r)) args s 0 0 (fun _ => False)) (F0 m pc ls [.long x]) :=
  W.lret S.1 S.2.1 hr (fun t ht _ => ⟨_, rfl, he, ht⟩) (fun q h => absurd h List.not_mem_nil) hdg hlk
theorem z_retw (S : CallFix p m c cc nL s args AW own) (hr : meth.sig.returnType = some .int) (hlk : meth.locks = false) {x r : Int} (he : x = r) (hP : va_P D vwCl wc' H) (hS : va_S A s.heap H locs) (hdg : decode cc pc = .ok (.ireturn, 1)) : W p l e R s m args below meth c H locs 0 0 (MQ below (va_Qi (fun v (_ : Unit) => v = zI r) (fun _ t => va_P D vwCl wc' t.heap) A) args s 0 0 A) (F0 m pc ls [.int (zI x)]) :=
  W.iret S.1 S.2.1 hr (fun t ht _ => ⟨⟨_, (), rfl, by rw [he], by show va_P D vwCl wc' t.heap; rw [ht]; exact hP⟩, hS.F ht⟩) hS.2.2 hdg hlk
theorem z_retv (S : CallFix p m c cc nL s args AW own) (hr : meth.sig.returnType = none) (hlk : meth.locks = false) (hP : va_P D vwCl wc' H) (hS : va_S A s.heap H locs) (hdg : decode cc pc = .ok (.return_, 1)) : W p l e R s m args below meth c H locs 0 0 (MQ below (va_Qv (fun (_ : Unit) => True) (fun _ t => va_P D vwCl wc' t.heap) A) args s 0 0 A) (F0 m pc ls []) :=
  W.vret S.1 S.2.1 hr (fun t ht _ => ⟨⟨(), rfl, trivial, by show va_P D vwCl wc' t.heap; rw [ht]; exact hP⟩, hS.F ht⟩) hS.2.2 hdg hlk
/-- a loop that counts from k0 to N, what it holds in its locals a function of the count; J: what else holds -/
theorem z_for {head : Nat} (N : Nat) (f : Nat → List (Nat × Value)) (J : Nat → Prop)
    (step : ∀ k : Nat, k < N → J k → ∀ ls : Array Slot, lv_has ls nL (f k) → (∀ ls' : Array Slot, lv_has ls' nL (f (k + 1)) → J (k + 1) → W p l e R s m args below meth c H locs cells slots Q (F0 m head ls' [])) → W p l e R s m args below meth c H locs cells slots Q (F0 m head ls []))
    (done : J N → ∀ ls : Array Slot, lv_has ls nL (f N) → W p l e R s m args below meth c H locs cells slots Q (F0 m head ls [])) (k0 : Nat) (hk : k0 ≤ N) (hJ : J k0) (ls : Array Slot) (h : lv_has ls nL (f k0)) : W p l e R s m args below meth c H locs cells slots Q (F0 m head ls []) := by
  have G : ∀ n k : Nat, k + n = N → J k → ∀ ls : Array Slot, lv_has ls nL (f k) → W p l e R s m args below meth c H locs cells slots Q (F0 m head ls []) := by
    intro n
    induction n with
    | zero => intro k hk hJ ls h; obtain rfl : k = N := by omega
              exact done hJ ls h
    | succ n ih => intro k hk hJ ls h; exact step k (by omega) hJ ls h (fun ls' h' hJ' => ih (k + 1) (by omega) hJ' ls' h')
  exact G (N - k0) k0 (by omega) hJ ls h
/-- a loop that writes: its world is a function of the count too -/
theorem z_forW {head : Nat} (N : Nat) (f : Nat → List (Nat × Value)) (wd : Nat → va_W) (J : Nat → Prop)
    (step : ∀ k : Nat, k < N → J k → ∀ (H : Heap) (locs : List Loc), va_P D vwCl (wd k) H → va_S A H0 H locs → ∀ ls : Array Slot, lv_has ls nL (f k) → (∀ (H' : Heap) (locs' : List Loc), va_P D vwCl (wd (k + 1)) H' → va_S A H0 H' locs' → ∀ ls' : Array Slot, lv_has ls' nL (f (k + 1)) → J (k + 1) → W p l e R s m args below meth c H' locs' cells slots Q (F0 m head ls' [])) → W p l e R s m args below meth c H locs cells slots Q (F0 m head ls []))
    (done : J N → ∀ (H : Heap) (locs : List Loc), va_P D vwCl (wd N) H → va_S A H0 H locs → ∀ ls : Array Slot, lv_has ls nL (f N) → W p l e R s m args below meth c H locs cells slots Q (F0 m head ls [])) (k0 : Nat) (hk : k0 ≤ N) (hJ : J k0) (H : Heap) (locs : List Loc) (hP : va_P D vwCl (wd k0) H) (hS : va_S A H0 H locs) (ls : Array Slot) (h : lv_has ls nL (f k0)) : W p l e R s m args below meth c H locs cells slots Q (F0 m head ls []) := by
  have G : ∀ n k : Nat, k + n = N → J k → ∀ (H : Heap) (locs : List Loc), va_P D vwCl (wd k) H → va_S A H0 H locs → ∀ ls : Array Slot, lv_has ls nL (f k) → W p l e R s m args below meth c H locs cells slots Q (F0 m head ls []) := by
    intro n
    induction n with
    | zero => intro k hk hJ H locs hP hS ls h; obtain rfl : k = N := by omega
              exact done hJ H locs hP hS ls h
    | succ n ih => intro k hk hJ H locs hP hS ls h; exact step k (by omega) hJ H locs hP hS ls h (fun H' locs' hP' hS' ls' h' hJ' => ih (k + 1) (by omega) hJ' H' locs' hP' hS' ls' h')
  exact G (N - k0) k0 (by omega) hJ H locs hP hS ls h
end ZC
end
section
theorem va_P_nil {D : va_G} {cl : List vw_C} {H : Heap} : va_P D cl [] H := fun k q h => by simp at h
theorem nw_X2_76 : (RX2, 76, yX4_columnOf, RX4) ∈ NWl := by decide +kernel
theorem nw_X2_79 : (RX2, 79, yX4_rowOf, RX4) ∈ NWl := by decide +kernel
theorem nw_X1_28 : (RX1, 28, yX4_columnOf, RX4) ∈ NWl := by decide +kernel
theorem nw_X1_32 : (RX1, 32, yX4_rowOf, RX4) ∈ NWl := by decide +kernel
theorem nw_X1_39 : (RX1, 39, yX4_inField, RX4) ∈ NWl := by decide +kernel
theorem nw_X1_43 : (RX1, 43, yX4_spotAt, RX4) ∈ NWl := by decide +kernel
theorem nw_X1_50 : (RX1, 50, yX4_distance, RX4) ∈ NWl := by decide +kernel
theorem nw_X3_57 : (RX3, 57, yX4_inField, RX4) ∈ NWl := by decide +kernel
theorem nw_X3_54 : (RX3, 54, yX4_spotAt, RX4) ∈ NWl := by decide +kernel
theorem nw_X3_61 : (RX3, 61, yX4_quotient, RX4) ∈ NWl := by decide +kernel
theorem nw_X2_66 : (RX2, 66, yX4_quotient, RX4) ∈ NWl := by decide +kernel
/-! THE STATE. A state of the class or of the reference: its whole numbers by place, its rows by place.
Class: numbers 0 mark, 1 fieldCoins, 2 veins.size, 3 dowsers.size, 4 pegs.size, 5 pits.size; rows 0 depth, 1 flow, 2 reach, 3 water, 4 shallowest, 5 feeling, 6 lean, 7 coins, 8 owner, 9 onLine, 10 at, 11 place, 12 waterDepth, 13 dug, 14 stake, 15 betFinds.
Reference: numbers 0 thrown, 1 mark, 2 field, 3 veins, 4 dowsers, 5 pegs, 6 pits; rows 0 veinDepth, 1 flow, 2 lies, 3 feeling, 4 lean, 5 coins, 6 right, 7 wrong, 8 peg, 9 pitSpot, 10 pitDepth, 11 dug, 12 bets. -/
abbrev CS : Type := (Nat → Int) × (Nat → Int → Int)
def sS (c : CS) (k : Nat) (v : Int) : CS := (fun j => bif Nat.beq j k then v else c.1 j, c.2)
def sA (c : CS) (k : Nat) (F : Int → Int) : CS := (c.1, fun j => bif Nat.beq j k then F else c.2 j)
def CW (g : ClassId × ClassId × ClassId) (a : Nat → Nat) (c : CS) : va_W := [
  (a 0, .inr (4, [.ref (a 1), .ref (a 2), .ref (a 3), .ref (a 4), .int (zI (c.1 0)), .int (zI (c.1 1))])),
  (a 1, .inr (3, [.int (zI (c.1 2)), .ref (a 5), .ref (a 6), .ref (a 7), .ref (a 8), .ref (a 9)])),
  (a 2, .inr (0, [.int (zI (c.1 3)), .ref (a 10), .ref (a 11), .ref (a 12)])),
  (a 3, .inr (1, [.int (zI (c.1 4)), .ref (a 13), .ref (a 14)])),
  (a 4, .inr (2, [.int (zI (c.1 5)), .ref (a 15), .ref (a 16), .ref (a 17), .ref (a 18), .ref (a 19), .ref (a 20)])),
  (a 5, .inl (g.1, 6, .inl (zA (c.2 0)))),
  (a 6, .inl (g.1, 6, .inl (zA (c.2 1)))),
  (a 7, .inl (g.1, 2400, .inl (zA (c.2 2)))),
  (a 8, .inl (g.1, 400, .inl (zA (c.2 3)))),
  (a 9, .inl (g.1, 400, .inl (zA (c.2 4)))),
  (a 10, .inl (g.1, 5, .inl (zA (c.2 5)))),
  (a 11, .inl (g.1, 5, .inl (zA (c.2 6)))),
  (a 12, .inl (g.1, 5, .inl (zA (c.2 7)))),
  (a 13, .inl (g.1, 400, .inl (zA (c.2 8)))),
  (a 14, .inl (g.1, 118, .inl (zA (c.2 9)))),
  (a 15, .inl (g.1, 400, .inl (zA (c.2 10)))),
  (a 16, .inl (g.1, 10, .inl (zA (c.2 11)))),
  (a 17, .inl (g.1, 10, .inl (zA (c.2 12)))),
  (a 18, .inl (g.1, 10, .inl (zA (c.2 13)))),
  (a 19, .inl (g.1, 50, .inl (zA (c.2 14)))),
  (a 20, .inl (g.2.1, 50, .inl (zA (c.2 15))))]
def MW (g : ClassId × ClassId × ClassId) (b : Nat → Nat) (c : CS) : va_W := [
  (b 0, .inr (5, [.int (zI (c.1 0)), .int (zI (c.1 1)), .int (zI (c.1 2)), .int (zI (c.1 3)), .ref (b 1), .ref (b 2), .ref (b 3), .int (zI (c.1 4)), .ref (b 4), .ref (b 5), .ref (b 6), .ref (b 7), .ref (b 8), .int (zI (c.1 5)), .ref (b 9), .int (zI (c.1 6)), .ref (b 10), .ref (b 11), .ref (b 12), .ref (b 13)])),
  (b 1, .inl (g.1, 6, .inl (zA (c.2 0)))),
  (b 2, .inl (g.1, 6, .inl (zA (c.2 1)))),
  (b 3, .inl (g.1, 2400, .inl (zA (c.2 2)))),
  (b 4, .inl (g.1, 5, .inl (zA (c.2 3)))),
  (b 5, .inl (g.1, 5, .inl (zA (c.2 4)))),
  (b 6, .inl (g.1, 5, .inl (zA (c.2 5)))),
  (b 7, .inl (g.1, 5, .inl (zA (c.2 6)))),
  (b 8, .inl (g.1, 5, .inl (zA (c.2 7)))),
  (b 9, .inl (g.1, 400, .inl (zA (c.2 8)))),
  (b 10, .inl (g.1, 10, .inl (zA (c.2 9)))),
  (b 11, .inl (g.1, 10, .inl (zA (c.2 10)))),
  (b 12, .inl (g.1, 10, .inl (zA (c.2 11)))),
  (b 13, .inl (g.1, 50, .inl (zA (c.2 12))))]
/-- the cells of a world of n cells at a 0, .. a (n-1) -/
def CA (n : Nat) (a : Nat → Nat) : Nat → Prop := fun q => ∃ k : Nat, k < n ∧ q = a k
def CD (n : Nat) (a : Nat → Nat) : Prop := ∀ i j : Nat, i < n → j < n → a i = a j → i = j
theorem WD_of {n : Nat} {a : Nat → Nat} {ws : va_W} (h : CD n a) (hw : ws.map Prod.fst = (List.range n).map a) : va_D (CA n a) ws := by
  have key : ∀ (k : Nat) (q : Nat × va_E), ws[k]? = some q → k < n ∧ q.1 = a k := by
    intro k q hq
    have h1 : (ws.map Prod.fst)[k]? = some q.1 := by rw [List.getElem?_map, hq]; rfl
    rw [hw, List.getElem?_map] at h1
    by_cases hk : k < n
    · rw [List.getElem?_range hk] at h1
      exact ⟨hk, (Option.some.inj h1).symm⟩
    · rw [List.getElem?_eq_none (by simp; omega)] at h1
      exact absurd h1 (by simp)
  refine ⟨fun i j p q hi hj e => ?_, fun k q hk => ⟨k, (key k q hk).1, (key k q hk).2⟩⟩
  obtain ⟨h1, h2⟩ := key i p hi
  obtain ⟨h3, h4⟩ := key j q hj
  exact h i j h1 h3 (by rw [← h2, ← h4]; exact e)
theorem CW_D {g : ClassId × ClassId × ClassId} {a : Nat → Nat} (h : CD 21 a) (c : CS) : va_D (CA 21 a) (CW g a c) := WD_of h rfl
theorem MW_D {g : ClassId × ClassId × ClassId} {b : Nat → Nat} (h : CD 14 b) (c : CS) : va_D (CA 14 b) (MW g b c) := WD_of h rfl
/-- bounds of a state of the class; B bounds the coins -/
def IN (c : CS) (k : Nat) (lo hi : Int) : Prop := ∀ j : Int, lo ≤ c.2 k j ∧ c.2 k j ≤ hi
abbrev ICs (B : Int) (c : CS) : Prop := 0 ≤ B ∧ B ≤ 1000000000 ∧ 1 ≤ c.1 0 ∧ c.1 0 ≤ 30 ∧ 0 ≤ c.1 2 ∧ c.1 2 ≤ 6 ∧ 0 ≤ c.1 3 ∧ c.1 3 ≤ 5 ∧ 0 ≤ c.1 4 ∧ c.1 4 ≤ 60 ∧ 0 ≤ c.1 5 ∧ c.1 5 ≤ 10
abbrev IMs (B : Int) (c : CS) : Prop := 0 ≤ B ∧ B ≤ 1000000000 ∧ 1 ≤ c.1 1 ∧ c.1 1 ≤ 30 ∧ 0 ≤ c.1 3 ∧ c.1 3 ≤ 6 ∧ 0 ≤ c.1 4 ∧ c.1 4 ≤ 5 ∧ 0 ≤ c.1 5 ∧ c.1 5 ≤ 60 ∧ 0 ≤ c.1 6 ∧ c.1 6 ≤ 10
def IC (B : Int) (c : CS) : Prop := ICs B c ∧ IN c 0 0 20 ∧ IN c 1 0 9 ∧ IN c 2 0 2 ∧ IN c 3 0 100000 ∧ IN c 4 0 20 ∧ IN c 5 0 9 ∧ IN c 6 (-3) 3 ∧ IN c 7 (-B) B ∧ IN c 8 (-1) 4 ∧ IN c 10 (-1) 9 ∧ IN c 11 0 399 ∧ IN c 12 0 20 ∧ IN c 13 0 20 ∧ IN c 14 0 99 ∧ IN c 15 0 1
def IM (B : Int) (c : CS) : Prop := IMs B c ∧ (∀ j : Int, 0 ≤ j ∧ j < c.1 3 → 1 ≤ c.2 0 j) ∧ IN c 0 0 20 ∧ IN c 1 0 9 ∧ IN c 2 0 2 ∧ IN c 3 0 9 ∧ IN c 4 (-3) 3 ∧ IN c 5 (-B) B ∧ IN c 8 0 5 ∧ IN c 9 0 399 ∧ IN c 10 0 20 ∧ IN c 11 0 20 ∧ IN c 12 (-99) 99
theorem IC.s {B : Int} {c : CS} (h : IC B c) : ICs B c := h.1
theorem IM.s {B : Int} {c : CS} (h : IM B c) : IMs B c := h.1
theorem IM.v {B : Int} {c : CS} (h : IM B c) : ∀ j : Int, 0 ≤ j ∧ j < c.1 3 → 1 ≤ c.2 0 j := h.2.1
theorem IC.r0 {B : Int} {c : CS} (h : IC B c) (j : Int) : 0 ≤ c.2 0 j ∧ c.2 0 j ≤ 20 := h.2.1 j
theorem IC.r1 {B : Int} {c : CS} (h : IC B c) (j : Int) : 0 ≤ c.2 1 j ∧ c.2 1 j ≤ 9 := h.2.2.1 j
theorem IC.r2 {B : Int} {c : CS} (h : IC B c) (j : Int) : 0 ≤ c.2 2 j ∧ c.2 2 j ≤ 2 := h.2.2.2.1 j
theorem IC.r3 {B : Int} {c : CS} (h : IC B c) (j : Int) : 0 ≤ c.2 3 j ∧ c.2 3 j ≤ 100000 := h.2.2.2.2.1 j
theorem IC.r4 {B : Int} {c : CS} (h : IC B c) (j : Int) : 0 ≤ c.2 4 j ∧ c.2 4 j ≤ 20 := h.2.2.2.2.2.1 j
theorem IC.r5 {B : Int} {c : CS} (h : IC B c) (j : Int) : 0 ≤ c.2 5 j ∧ c.2 5 j ≤ 9 := h.2.2.2.2.2.2.1 j
theorem IC.r6 {B : Int} {c : CS} (h : IC B c) (j : Int) : (-3) ≤ c.2 6 j ∧ c.2 6 j ≤ 3 := h.2.2.2.2.2.2.2.1 j
theorem IC.r7 {B : Int} {c : CS} (h : IC B c) (j : Int) : (-B) ≤ c.2 7 j ∧ c.2 7 j ≤ B := h.2.2.2.2.2.2.2.2.1 j
theorem IC.r8 {B : Int} {c : CS} (h : IC B c) (j : Int) : (-1) ≤ c.2 8 j ∧ c.2 8 j ≤ 4 := h.2.2.2.2.2.2.2.2.2.1 j
theorem IC.r10 {B : Int} {c : CS} (h : IC B c) (j : Int) : (-1) ≤ c.2 10 j ∧ c.2 10 j ≤ 9 := h.2.2.2.2.2.2.2.2.2.2.1 j
theorem IC.r11 {B : Int} {c : CS} (h : IC B c) (j : Int) : 0 ≤ c.2 11 j ∧ c.2 11 j ≤ 399 := h.2.2.2.2.2.2.2.2.2.2.2.1 j
theorem IC.r12 {B : Int} {c : CS} (h : IC B c) (j : Int) : 0 ≤ c.2 12 j ∧ c.2 12 j ≤ 20 := h.2.2.2.2.2.2.2.2.2.2.2.2.1 j
theorem IC.r13 {B : Int} {c : CS} (h : IC B c) (j : Int) : 0 ≤ c.2 13 j ∧ c.2 13 j ≤ 20 := h.2.2.2.2.2.2.2.2.2.2.2.2.2.1 j
theorem IC.r14 {B : Int} {c : CS} (h : IC B c) (j : Int) : 0 ≤ c.2 14 j ∧ c.2 14 j ≤ 99 := h.2.2.2.2.2.2.2.2.2.2.2.2.2.2.1 j
theorem IC.r15 {B : Int} {c : CS} (h : IC B c) (j : Int) : 0 ≤ c.2 15 j ∧ c.2 15 j ≤ 1 := h.2.2.2.2.2.2.2.2.2.2.2.2.2.2.2 j
theorem IM.r0 {B : Int} {c : CS} (h : IM B c) (j : Int) : 0 ≤ c.2 0 j ∧ c.2 0 j ≤ 20 := h.2.2.1 j
theorem IM.r1 {B : Int} {c : CS} (h : IM B c) (j : Int) : 0 ≤ c.2 1 j ∧ c.2 1 j ≤ 9 := h.2.2.2.1 j
theorem IM.r2 {B : Int} {c : CS} (h : IM B c) (j : Int) : 0 ≤ c.2 2 j ∧ c.2 2 j ≤ 2 := h.2.2.2.2.1 j
theorem IM.r3 {B : Int} {c : CS} (h : IM B c) (j : Int) : 0 ≤ c.2 3 j ∧ c.2 3 j ≤ 9 := h.2.2.2.2.2.1 j
theorem IM.r4 {B : Int} {c : CS} (h : IM B c) (j : Int) : (-3) ≤ c.2 4 j ∧ c.2 4 j ≤ 3 := h.2.2.2.2.2.2.1 j
theorem IM.r5 {B : Int} {c : CS} (h : IM B c) (j : Int) : (-B) ≤ c.2 5 j ∧ c.2 5 j ≤ B := h.2.2.2.2.2.2.2.1 j
theorem IM.r8 {B : Int} {c : CS} (h : IM B c) (j : Int) : 0 ≤ c.2 8 j ∧ c.2 8 j ≤ 5 := h.2.2.2.2.2.2.2.2.1 j
theorem IM.r9 {B : Int} {c : CS} (h : IM B c) (j : Int) : 0 ≤ c.2 9 j ∧ c.2 9 j ≤ 399 := h.2.2.2.2.2.2.2.2.2.1 j
theorem IM.r10 {B : Int} {c : CS} (h : IM B c) (j : Int) : 0 ≤ c.2 10 j ∧ c.2 10 j ≤ 20 := h.2.2.2.2.2.2.2.2.2.2.1 j
theorem IM.r11 {B : Int} {c : CS} (h : IM B c) (j : Int) : 0 ≤ c.2 11 j ∧ c.2 11 j ≤ 20 := h.2.2.2.2.2.2.2.2.2.2.2.1 j
theorem IM.r12 {B : Int} {c : CS} (h : IM B c) (j : Int) : (-99) ≤ c.2 12 j ∧ c.2 12 j ≤ 99 := h.2.2.2.2.2.2.2.2.2.2.2.2 j
end
section
/-! WHAT THE CLASS'S METHODS ANSWER AND DO, in words over the state -/
theorem sm_b {f : Int → Int} {lo hi : Int} : ∀ n : Nat, (∀ j : Int, 0 ≤ j → j < n → lo ≤ f j ∧ f j ≤ hi) → lo * n ≤ sm f n ∧ sm f n ≤ hi * n
  | 0, _ => by simp [sm]
  | n + 1, h => by
    have h1 := sm_b (f := f) (lo := lo) (hi := hi) n (fun j h0 h1 => h j h0 (by omega))
    have h2 := h (n : Int) (by omega) (by omega)
    have e1 : lo * ((n + 1 : Nat) : Int) = lo * n + lo := by show lo * ((n : Int) + 1) = _; rw [Int.mul_add, Int.mul_one]
    have e2 : hi * ((n + 1 : Nat) : Int) = hi * n + hi := by show hi * ((n : Int) + 1) = _; rw [Int.mul_add, Int.mul_one]
    show lo * ((n + 1 : Nat) : Int) ≤ sm f n + f n ∧ sm f n + f n ≤ hi * ((n + 1 : Nat) : Int)
    rw [e1, e2]
    omega
theorem sm_congr {f f' : Int → Int} : ∀ n : Nat, (∀ j : Int, 0 ≤ j → j < n → f j = f' j) → sm f n = sm f' n
  | 0, _ => rfl
  | n + 1, h => by
    show sm f n + f n = sm f' n + f' n
    rw [sm_congr n (fun j h0 h1 => h j h0 (by omega)), h n (by omega) (by omega)]
theorem ab_le {x n : Int} (h : -n ≤ x ∧ x ≤ n) : 0 ≤ ab x ∧ ab x ≤ n := by
  unfold ab
  by_cases q : 0 ≤ x
  · rw [if_pos q]; omega
  · rw [if_neg q]; omega
theorem ab_comm (x y : Int) : ab (x - y) = ab (y - x) := by
  unfold ab
  by_cases q : 0 ≤ x - y
  · rw [if_pos q]
    by_cases q2 : 0 ≤ y - x
    · rw [if_pos q2]; omega
    · rw [if_neg q2]; omega
  · rw [if_neg q, if_pos (by omega)]; omega
/-- how far two spots are from each other -/
def dist (i j : Int) : Int := ab (i % 20 - j % 20) + ab (i / 20 - j / 20)
theorem dist_b {i j : Int} (h : 0 ≤ i ∧ i < 400 ∧ 0 ≤ j ∧ j < 400) : 0 ≤ dist i j ∧ dist i j ≤ 38 := by
  have h1 := ab_le (x := i % 20 - j % 20) (n := 19) (by omega)
  have h2 := ab_le (x := i / 20 - j / 20) (n := 19) (by omega)
  unfold dist
  omega
theorem dist_comm (i j : Int) : dist i j = dist j i := by
  unfold dist
  rw [ab_comm (i % 20), ab_comm (i / 20)]
def sgn (x : Int) : Int := if 0 < x then 1 else if x < 0 then -1 else 0
abbrev inF (x y : Int) : Prop := (0 ≤ x ∧ x ≤ 19) ∧ 0 ≤ y ∧ y ≤ 19
-- pegs
def pgOf (c : CS) (d : Int) : Int := sm (fun j => b01 (c.2 8 j = d)) 400
theorem pgOf_b (c : CS) (d : Int) : 0 ≤ pgOf c d ∧ pgOf c d ≤ 400 := by
  have h := sm_b (f := fun j => b01 (c.2 8 j = d)) (lo := 0) (hi := 1) 400 (fun j _ _ => b01_01 _)
  unfold pgOf
  omega
def pgAt (c : CS) (x y : Int) : Int := b01 (inF x y ∧ c.2 8 (y * 20 + x) ≠ -1)
def beside (c : CS) (sp : Int) : Int := ((pgAt c (sp % 20 - 1) (sp / 20) + pgAt c (sp % 20 + 1) (sp / 20)) + pgAt c (sp % 20) (sp / 20 - 1)) + pgAt c (sp % 20) (sp / 20 + 1)
def nr (c : CS) (sp : Int) : Nat → Int
  | 0 => -1
  | n + 1 => if c.2 8 (n : Int) ≠ -1 ∧ (nr c sp n < 0 ∨ dist sp n < nr c sp n) then dist sp n else nr c sp n
theorem nr_b {c : CS} {sp : Int} (h : 0 ≤ sp ∧ sp < 400) : ∀ n : Nat, n ≤ 400 → -1 ≤ nr c sp n ∧ nr c sp n ≤ 38
  | 0, _ => by simp [nr]
  | n + 1, hn => by
    have h1 := nr_b (c := c) h n (by omega)
    have h2 := dist_b (i := sp) (j := n) (by omega)
    show -1 ≤ (if _ then _ else _) ∧ (if _ then _ else _) ≤ (38 : Int)
    by_cases q : c.2 8 (n : Int) ≠ -1 ∧ (nr c sp n < 0 ∨ dist sp n < nr c sp n)
    · rw [if_pos q]; omega
    · rw [if_neg q]; exact h1
def bump (F : Int → Int) (i : Int) : Int → Int := upZ F i (F i + 1)
def onL (c : CS) : Nat → Int → Int
  | 0 => fun _ => 0
  | n + 1 => if c.2 8 (n : Int) ≠ -1 then bump (bump (bump (bump (onL c n) ((n : Int) / 20)) (20 + (n : Int) % 20)) ((59 + (n : Int) % 20) - (n : Int) / 20)) ((79 + (n : Int) % 20) + (n : Int) / 20) else onL c n
theorem bump_b {F : Int → Int} {i n : Int} (h : ∀ j, 0 ≤ F j ∧ F j ≤ n) : ∀ j, 0 ≤ bump F i j ∧ bump F i j ≤ n + 1 := fun j => by
  have h1 := h j
  have h2 := h i
  unfold bump upZ
  by_cases q : j = i
  · rw [if_pos q]; omega
  · rw [if_neg q]; omega
theorem onL_b (c : CS) : ∀ n : Nat, ∀ j : Int, 0 ≤ onL c n j ∧ onL c n j ≤ 4 * n
  | 0, j => by simp [onL]
  | n + 1, j => by
    have h1 := onL_b c n
    show 0 ≤ (if _ then _ else _ : Int → Int) j ∧ (if _ then _ else _ : Int → Int) j ≤ 4 * ((n + 1 : Nat) : Int)
    by_cases q : c.2 8 (n : Int) ≠ -1
    · rw [if_pos q]
      have h2 := bump_b (bump_b (bump_b (bump_b h1 (i := (n : Int) / 20)) (i := 20 + (n : Int) % 20)) (i := (59 + (n : Int) % 20) - (n : Int) / 20)) (i := (79 + (n : Int) % 20) + (n : Int) / 20) j
      omega
    · rw [if_neg q]
      have := h1 j
      omega
/-- the first greatest of F 0, .. F (n-1) -/
def fm (F : Int → Int) : Nat → Int
  | 0 => 0
  | n + 1 => if F (fm F n) < F (n : Int) then (n : Int) else fm F n
theorem fm_1 (F : Int → Int) : fm F 1 = 0 := by
  show (if F 0 < F 0 then ((0 : Nat) : Int) else 0) = 0
  by_cases q : F 0 < F 0
  · rw [if_pos q]; rfl
  · rw [if_neg q]
theorem fm_b (F : Int → Int) : ∀ n : Nat, 0 ≤ fm F n ∧ (fm F n < n ∨ n = 0)
  | 0 => by simp [fm]
  | n + 1 => by
    have h1 := fm_b F n
    show 0 ≤ (if _ then _ else _ : Int) ∧ ((if _ then _ else _ : Int) < ((n + 1 : Nat) : Int) ∨ n + 1 = 0)
    by_cases q : F (fm F n) < F (n : Int)
    · rw [if_pos q]; omega
    · rw [if_neg q]
      rcases h1 with ⟨h1, h2 | h2⟩
      · omega
      · subst h2; exact ⟨h1, Or.inl (by simp [fm])⟩
def kindL (q : Int) : Int := if q < 20 then 0 else if q < 40 then 1 else if q < 79 then 2 else 3
def numL (q : Int) : Int := if q < 20 then q else if q < 40 then q - 20 else if q < 79 then q - 59 else q - 79
def lineT (c : CS) (what : Int) : Int := if what = 0 then onL c 400 (fm (onL c 400) 118) else if c.1 4 = 0 then -1 else if what = 1 then kindL (fm (onL c 400) 118) else numL (fm (onL c 400) 118)
-- veins
def vterm (c : CS) (sp feel v : Int) : Int := if c.2 2 (v * 400 + sp) = 2 then c.2 1 v * feel / c.2 0 v else if c.2 2 (v * 400 + sp) = 1 then c.2 1 v * feel / c.2 0 v / 2 else 0
def vbend (c : CS) (sp feel : Int) (n : Nat) : Int := sm (vterm c sp feel) n
theorem prod_b {x y m n : Int} (hx : 0 ≤ x ∧ x ≤ m) (hy : 0 ≤ y ∧ y ≤ n) : 0 ≤ x * y ∧ x * y ≤ m * n := by
  refine ⟨Int.mul_nonneg hx.1 hy.1, ?_⟩
  have h1 : x * y ≤ m * y := Int.mul_le_mul_of_nonneg_right hx.2 hy.1
  have h2 : m * y ≤ m * n := Int.mul_le_mul_of_nonneg_left hy.2 (by omega)
  exact Int.le_trans h1 h2
theorem div_b {x y n : Int} (hx : 0 ≤ x ∧ x ≤ n) (hy : 0 ≤ y) : 0 ≤ x / y ∧ x / y ≤ n := by
  refine ⟨Int.ediv_nonneg hx.1 hy, ?_⟩
  exact Int.le_trans (Int.ediv_le_self y hx.1) hx.2
theorem vw_b {B : Int} {c : CS} (h : IC B c) {feel : Int} (hf : 0 ≤ feel ∧ feel ≤ 9) (v : Int) : (0 ≤ c.2 1 v * feel ∧ c.2 1 v * feel ≤ 81) ∧ (0 ≤ c.2 1 v * feel / c.2 0 v ∧ c.2 1 v * feel / c.2 0 v ≤ 81) := by
  have h1 := prod_b (h.r1 v) hf
  have h2 := h.r0 v
  exact ⟨by omega, div_b (by omega) h2.1⟩
theorem vterm_b {B : Int} {c : CS} (h : IC B c) {feel : Int} (hf : 0 ≤ feel ∧ feel ≤ 9) (sp v : Int) : 0 ≤ vterm c sp feel v ∧ vterm c sp feel v ≤ 81 := by
  have h1 := (vw_b h hf v).2
  unfold vterm
  by_cases q : c.2 2 (v * 400 + sp) = 2
  · rw [if_pos q]; exact h1
  · rw [if_neg q]
    by_cases q : c.2 2 (v * 400 + sp) = 1
    · rw [if_pos q]; omega
    · rw [if_neg q]; omega
theorem vbend_b {B : Int} {c : CS} (h : IC B c) {feel : Int} (hf : 0 ≤ feel ∧ feel ≤ 9) (sp : Int) {n : Nat} (hn : n ≤ 6) : 0 ≤ vbend c sp feel n ∧ vbend c sp feel n ≤ 486 := by
  have h1 := sm_b (f := vterm c sp feel) (lo := 0) (hi := 81) n (fun j _ _ => vterm_b h hf sp j)
  unfold vbend
  omega
def wet (c : CS) : Int := sm (fun j => b01 (0 < c.2 3 j)) 400
def rse (c : CS) (v x y lv : Int) : CS := if inF x y then sA c 2 (upZ (c.2 2) (v * 400 + (y * 20 + x)) (max (c.2 2 (v * 400 + (y * 20 + x))) lv)) else c
def cov5 (c : CS) (v x y : Int) : CS := rse (rse (rse (rse (rse c v x y 2) v (x - 1) y 1) v (x + 1) y 1) v x (y - 1) 1) v x (y + 1) 1
def shlw (c : CS) (v sp : Int) : Int := if c.2 4 sp = 0 ∨ c.2 0 v < c.2 4 sp then c.2 0 v else c.2 4 sp
def cov (c : CS) (v x y : Int) : CS := sA (sA (cov5 c v x y) 3 (upZ (c.2 3) (y * 20 + x) (c.2 3 (y * 20 + x) + c.2 1 v))) 4 (upZ (c.2 4) (y * 20 + x) (shlw c v (y * 20 + x)))
def lay (c : CS) (v x y dx dy : Int) : Nat → CS
  | 0 => c
  | n + 1 => cov (lay c v x y dx dy n) v (x + (n : Int) * dx) (y + (n : Int) * dy)
-- dowsers, pits
def allC (c : CS) : Int := sm (fun j => c.2 7 j) (c.1 3).toNat
abbrev fnd (c : CS) (q : Int) : Prop := 0 < c.2 12 q ∧ c.2 12 q ≤ c.2 13 q
abbrev over (c : CS) (q : Int) : Prop := fnd c q ∨ 20 ≤ c.2 13 q
def dpn (c : CS) (q by' : Int) : Int := min (if 0 < c.2 12 q then c.2 12 q else 20) (c.2 13 q + by')
def stk (c : CS) (q d f : Int) : Int := if c.2 15 (q * 5 + d) = f then c.2 14 (q * 5 + d) else 0
theorem stk_b {B : Int} {c : CS} (h : IC B c) (q d f : Int) : 0 ≤ stk c q d f ∧ stk c q d f ≤ 99 := by
  have h1 := h.r14 (q * 5 + d)
  unfold stk
  by_cases w : c.2 15 (q * 5 + d) = f
  · rw [if_pos w]; exact h1
  · rw [if_neg w]; omega
def stOn (c : CS) (q f : Int) : Int := sm (fun d => stk c q d f) 5
theorem stOn_b {B : Int} {c : CS} (h : IC B c) (q f : Int) : 0 ≤ stOn c q f ∧ stOn c q f ≤ 495 := by
  have h1 := sm_b (f := fun d => stk c q d f) (lo := 0) (hi := 99) 5 (fun j _ _ => stk_b h q j f)
  unfold stOn
  omega
def allS (c : CS) (q : Int) : Int := stOn c q 1 + stOn c q 0
def shr (c : CS) (q d f : Int) : Int := allS c q * stk c q d f / stOn c q f
theorem shr_b {B : Int} {c : CS} (h : IC B c) (q d f : Int) : (0 ≤ allS c q ∧ allS c q ≤ 990) ∧ (0 ≤ allS c q * stk c q d f ∧ allS c q * stk c q d f ≤ 98010) ∧ (0 ≤ shr c q d f ∧ shr c q d f ≤ 98010) := by
  have h1 := stOn_b h q 1
  have h0 := stOn_b h q 0
  have hf := stOn_b h q f
  have ha : 0 ≤ allS c q ∧ allS c q ≤ 990 := by unfold allS; omega
  have hp := prod_b ha (stk_b h q d f)
  refine ⟨ha, by omega, ?_⟩
  have := div_b (n := 98010) ⟨hp.1, by omega⟩ hf.1
  exact this
def unp (c : CS) (d : Int) : Int := sm (fun q => if over c q then 0 else c.2 14 (q * 5 + d)) (c.1 5).toNat
def pbets (c : CS) (d rt : Int) : Int := sm (fun q => b01 ((over c q ∧ 0 < c.2 14 (q * 5 + d)) ∧ b01 (c.2 15 (q * 5 + d) = b01 (fnd c q)) = rt)) (c.1 5).toNat
def pitT (c : CS) (q what : Int) : Int := if what = 0 then c.2 11 q % 20 else if what = 1 then c.2 11 q / 20 else if what = 2 then c.2 13 q else if what = 3 then b01 (fnd c q) else if what = 4 then b01 (over c q) else if what = 5 then stOn c q 1 else stOn c q 0
-- the class's own
def bendC (c : CS) (d sp : Int) : Int := max 0 (vbend c sp (c.2 5 d) (c.1 2).toNat + c.2 6 d)
theorem bendC_b {B : Int} {c : CS} (h : IC B c) (d sp : Int) : 0 ≤ bendC c d sp ∧ bendC c d sp ≤ 489 := by
  have hs := h.s
  have h1 := vbend_b h (h.r5 d) sp (n := (c.1 2).toNat) (by omega)
  have h2 := h.r6 d
  unfold bendC
  omega
def bestS (c : CS) (d : Int) : Int := fm (bendC c d) 400
abbrev mrk (c : CS) (d sp : Int) : Prop := ¬ (60 ≤ c.1 4 ∨ c.2 8 sp ≠ -1 ∨ bendC c d sp < c.1 0)
def mrkC (c : CS) (d sp : Int) : CS := if mrk c d sp then sS (sA c 8 (upZ (c.2 8) sp d)) 4 (c.1 4 + 1) else c
abbrev truP (c : CS) (sp : Int) : Prop := c.2 8 sp ≠ -1 ∧ 0 < c.2 3 sp
def truOf (c : CS) (d : Int) : Int := sm (fun j => b01 (c.2 8 j = d ∧ truP c j)) 400
theorem truOf_b (c : CS) (d : Int) : 0 ≤ truOf c d ∧ truOf c d ≤ 400 := by
  have h := sm_b (f := fun j => b01 (c.2 8 j = d ∧ truP c j)) (lo := 0) (hi := 1) 400 (fun j _ _ => b01_01 _)
  unfold truOf
  omega
def truAll (c : CS) : Int := sm (fun j => b01 (truP c j)) 400
def spotT (c : CS) (sp what : Int) : Int := if what = 0 then c.2 3 sp else if what = 1 then c.2 4 sp else if what = 2 then c.2 8 sp else if what = 3 then c.2 10 sp else if what = 4 then beside c sp else nr c sp 400
def dowT (c : CS) (d what : Int) : Int := if what = 0 then c.2 5 d else if what = 1 then c.2 6 d else if what = 2 then c.2 7 d else if what = 3 then pgOf c d else if what = 4 then truOf c d else if what = 5 then unp c d else if what = 6 then pbets c d 1 else pbets c d 0
def cntT (c : CS) (what : Int) : Int := if what = 0 then c.1 2 else if what = 1 then c.1 3 else if what = 2 then c.1 4 else if what = 3 then c.1 5 else if what = 4 then c.1 0 else if what = 5 then wet c else if what = 6 then truAll c else if what = 7 then c.1 1 else allC c
/-- payBets: the dowsers 0 .. n-1 have got their shares -/
def payD (c : CS) (q f : Int) : Nat → CS
  | 0 => c
  | n + 1 => sA (payD c q f n) 7 (upZ ((payD c q f n).2 7) (n : Int) ((payD c q f n).2 7 (n : Int) + shr c q (n : Int) f))
def left (c : CS) (q f : Int) : Nat → Int
  | 0 => allS c q
  | n + 1 => left c q f n - shr c q (n : Int) f
def payC (c : CS) (q : Int) : CS := sS (payD c q (b01 (fnd c q)) (c.1 3).toNat) 1 (c.1 1 + left c q (b01 (fnd c q)) (c.1 3).toNat)
end
section
set_option maxHeartbeats 4000000 in
set_option maxRecDepth 100000 in
theorem m_X4_within (l : Launch) (D : va_G) (g : ClassId × ClassId × ClassId) (nb : Int) (lst : Int) (mst : Int) (h0 : I32 nb ∧ I32 lst ∧ I32 mst) : RD l yX4_within cX4_within 3 (some .boolean) 0 0 D g [] [.int (zI nb), .int (zI lst), .int (zI mst)] (b01 (lst ≤ nb ∧ nb ≤ mst)) := by
  refine z_enter RX4 (by decide) rfl (Nat.le_of_ble_eq_true rfl) ?_
  intro p e s m args below meth co S hr hlk hK hP ls hl
  have hl : lv_has ls 3 [(0, .int (zI nb)), (1, .int (zI lst)), (2, .int (zI mst))] := hl
  refine lv_iload_n S.1 S.2.1 dX4_within_0 rfl (lv_at hl 0 rfl) ?_
  refine lv_iload_n S.1 S.2.1 dX4_within_1 rfl (lv_at hl 1 rfl) ?_
  refine z_icmp_lt (tgt := 14) S dX4_within_2 (by decide) (by omega) (fun h_1 => ?_) (fun h_1 => ?_)
  · refine z_iconst S dX4_within_14 ?_
    exact z_retb S hr hlk (Or.inl rfl) ((b01_f (by omega)).symm) dX4_within_15
  · refine lv_iload_n S.1 S.2.1 dX4_within_5 rfl (lv_at hl 0 rfl) ?_
    refine lv_iload_n S.1 S.2.1 dX4_within_6 rfl (lv_at hl 2 rfl) ?_
    refine z_icmp_gt (tgt := 14) S dX4_within_7 (by decide) (by omega) (fun h_2 => ?_) (fun h_2 => ?_)
    · refine z_iconst S dX4_within_14 ?_
      exact z_retb S hr hlk (Or.inl rfl) ((b01_f (by omega)).symm) dX4_within_15
    · refine z_iconst S dX4_within_10 ?_
      refine z_goto (tgt := 15) S dX4_within_11 (by decide) ?_
      exact z_retb S hr hlk (Or.inr rfl) ((b01_t (by omega)).symm) dX4_within_15
set_option maxHeartbeats 4000000 in
set_option maxRecDepth 100000 in
theorem m_X4_inField (l : Launch) (D : va_G) (g : ClassId × ClassId × ClassId) (x : Int) (y : Int) (h0 : I32 x ∧ I32 y) : RD l yX4_inField cX4_inField 2 (some .boolean) 1 22 D g [] [.int (zI x), .int (zI y)] (b01 (inF x y)) := by
  refine z_enter RX4 (by decide) rfl (Nat.le_of_ble_eq_true rfl) ?_
  intro p e s m args below meth co S hr hlk hK hP ls hl
  have hl : lv_has ls 2 [(0, .int (zI x)), (1, .int (zI y))] := hl
  refine lv_iload_n S.1 S.2.1 dX4_inField_0 rfl (lv_at hl 0 rfl) ?_
  refine z_iconst S dX4_inField_1 ?_
  refine z_bipush S (by decide) dX4_inField_2 ?_
  refine z_rS (As := [.int (zI x), .int (zI 0), .int (zI 19)]) (rest := []) S (m_X4_within l D g x 0 19 (by omega)) ml_X4_64 sm_X4_within ini_X4 cd_X4_within ds_X4_within ⟨Nat.le_of_ble_eq_true rfl, Nat.le_of_ble_eq_true rfl⟩ hK va_P_nil rfl hl.1 rfl (Nat.le_of_ble_eq_true rfl) ⟨Nat.zero_le _, Nat.zero_le _⟩ dX4_inField_4 ?_
  refine z_ifb_eq (tgt := 24) S dX4_inField_7 (by decide) (fun h_1 => ?_) (fun h_1 => ?_)
  · refine z_iconst S dX4_inField_24 ?_
    exact z_retb S hr hlk (Or.inl rfl) ((b01_f (by omega)).symm) dX4_inField_25
  · refine lv_iload_n S.1 S.2.1 dX4_inField_10 rfl (lv_at hl 1 rfl) ?_
    refine z_iconst S dX4_inField_11 ?_
    refine z_bipush S (by decide) dX4_inField_12 ?_
    refine z_rS (As := [.int (zI y), .int (zI 0), .int (zI 19)]) (rest := []) S (m_X4_within l D g y 0 19 (by omega)) ml_X4_64 sm_X4_within ini_X4 cd_X4_within ds_X4_within ⟨Nat.le_of_ble_eq_true rfl, Nat.le_of_ble_eq_true rfl⟩ hK va_P_nil rfl hl.1 rfl (Nat.le_of_ble_eq_true rfl) ⟨Nat.zero_le _, Nat.zero_le _⟩ dX4_inField_14 ?_
    refine z_ifb_eq (tgt := 24) S dX4_inField_17 (by decide) (fun h_2 => ?_) (fun h_2 => ?_)
    · refine z_iconst S dX4_inField_24 ?_
      exact z_retb S hr hlk (Or.inl rfl) ((b01_f (by omega)).symm) dX4_inField_25
    · refine z_iconst S dX4_inField_20 ?_
      refine z_goto (tgt := 25) S dX4_inField_21 (by decide) ?_
      exact z_retb S hr hlk (Or.inr rfl) ((b01_t (by omega)).symm) dX4_inField_25
set_option maxHeartbeats 4000000 in
set_option maxRecDepth 100000 in
theorem m_X4_straight (l : Launch) (D : va_G) (g : ClassId × ClassId × ClassId) (x : Int) (y : Int) (tx : Int) (ty : Int) (h0 : (0 ≤ x ∧ x ≤ 19) ∧ (0 ≤ y ∧ y ≤ 19) ∧ (0 ≤ tx ∧ tx ≤ 19) ∧ 0 ≤ ty ∧ ty ≤ 19) : RD l yX4_straight cX4_straight 4 (some .boolean) 1 21 D g [] [.int (zI x), .int (zI y), .int (zI tx), .int (zI ty)] (b01 (x = tx ∨ y = ty ∨ ab (tx - x) = ab (ty - y))) := by
  refine z_enter RX4 (by decide) rfl (Nat.le_of_ble_eq_true rfl) ?_
  intro p e s m args below meth co S hr hlk hK hP ls hl
  have hl : lv_has ls 4 [(0, .int (zI x)), (1, .int (zI y)), (2, .int (zI tx)), (3, .int (zI ty))] := hl
  have hb1 := ab_le (x := tx - x) (n := 19) (by omega)
  have hb2 := ab_le (x := ty - y) (n := 19) (by omega)
  refine lv_iload_n S.1 S.2.1 dX4_straight_0 rfl (lv_at hl 0 rfl) ?_
  refine lv_iload_n S.1 S.2.1 dX4_straight_1 rfl (lv_at hl 2 rfl) ?_
  refine z_icmp_eq (tgt := 25) S dX4_straight_2 (by decide) (by omega) (fun h_1 => ?_) (fun h_1 => ?_)
  · refine z_iconst S dX4_straight_25 ?_
    refine z_goto (tgt := 30) S dX4_straight_26 (by decide) ?_
    exact z_retb S hr hlk (Or.inr rfl) ((b01_t (by omega)).symm) dX4_straight_30
  · refine lv_iload_n S.1 S.2.1 dX4_straight_5 rfl (lv_at hl 1 rfl) ?_
    refine lv_iload_n S.1 S.2.1 dX4_straight_6 rfl (lv_at hl 3 rfl) ?_
    refine z_icmp_eq (tgt := 25) S dX4_straight_7 (by decide) (by omega) (fun h_2 => ?_) (fun h_2 => ?_)
    · refine z_iconst S dX4_straight_25 ?_
      refine z_goto (tgt := 30) S dX4_straight_26 (by decide) ?_
      exact z_retb S hr hlk (Or.inr rfl) ((b01_t (by omega)).symm) dX4_straight_30
    · refine lv_iload_n S.1 S.2.1 dX4_straight_10 rfl (lv_at hl 2 rfl) ?_
      refine lv_iload_n S.1 S.2.1 dX4_straight_11 rfl (lv_at hl 0 rfl) ?_
      refine z_isub S dX4_straight_12 ?_
      refine z_abs S ml_X4_108 hl.1 (Nat.le_of_ble_eq_true rfl) (Nat.le_of_ble_eq_true rfl) ⟨Nat.zero_le _, Nat.zero_le _⟩ (by omega) dX4_straight_13 ?_
      refine lv_iload_n S.1 S.2.1 dX4_straight_16 rfl (lv_at hl 3 rfl) ?_
      refine lv_iload_n S.1 S.2.1 dX4_straight_17 rfl (lv_at hl 1 rfl) ?_
      refine z_isub S dX4_straight_18 ?_
      refine z_abs S ml_X4_108 hl.1 (Nat.le_of_ble_eq_true rfl) (Nat.le_of_ble_eq_true rfl) ⟨Nat.zero_le _, Nat.zero_le _⟩ (by omega) dX4_straight_19 ?_
      refine z_icmp_ne (tgt := 29) S dX4_straight_22 (by decide) (by omega) (fun h_3 => ?_) (fun h_3 => ?_)
      · refine z_iconst S dX4_straight_29 ?_
        exact z_retb S hr hlk (Or.inl rfl) ((b01_f (by omega)).symm) dX4_straight_30
      · refine z_iconst S dX4_straight_25 ?_
        refine z_goto (tgt := 30) S dX4_straight_26 (by decide) ?_
        exact z_retb S hr hlk (Or.inr rfl) ((b01_t (by omega)).symm) dX4_straight_30
set_option maxHeartbeats 4000000 in
set_option maxRecDepth 100000 in
theorem m_X4_spotAt (l : Launch) (D : va_G) (g : ClassId × ClassId × ClassId) (x : Int) (y : Int) : RD l yX4_spotAt cX4_spotAt 2 (some .int) 0 0 D g [] [.int (zI x), .int (zI y)] (y * 20 + x) := by
  refine z_enter RX4 (by decide) rfl (Nat.le_of_ble_eq_true rfl) ?_
  intro p e s m args below meth co S hr hlk hK hP ls hl
  have hl : lv_has ls 2 [(0, .int (zI x)), (1, .int (zI y))] := hl
  refine lv_iload_n S.1 S.2.1 dX4_spotAt_0 rfl (lv_at hl 1 rfl) ?_
  refine z_bipush S (by decide) dX4_spotAt_1 ?_
  refine z_imul S dX4_spotAt_3 ?_
  refine lv_iload_n S.1 S.2.1 dX4_spotAt_4 rfl (lv_at hl 0 rfl) ?_
  refine z_iadd S dX4_spotAt_5 ?_
  exact z_ret S hr hlk (by first | rfl | grind) dX4_spotAt_6
set_option maxHeartbeats 4000000 in
set_option maxRecDepth 100000 in
theorem m_X4_columnOf (l : Launch) (D : va_G) (g : ClassId × ClassId × ClassId) (sp : Int) (h0 : 0 ≤ sp ∧ sp < 400) : RD l yX4_columnOf cX4_columnOf 1 (some .int) 0 0 D g [] [.int (zI sp)] (sp % 20) := by
  refine z_enter RX4 (by decide) rfl (Nat.le_of_ble_eq_true rfl) ?_
  intro p e s m args below meth co S hr hlk hK hP ls hl
  have hl : lv_has ls 1 [(0, .int (zI sp))] := hl
  refine lv_iload_n S.1 S.2.1 dX4_columnOf_0 rfl (lv_at hl 0 rfl) ?_
  refine z_bipush S (by decide) dX4_columnOf_1 ?_
  refine z_iremn S (by omega) dX4_columnOf_3 ?_
  exact z_ret S hr hlk (by first | rfl | grind) dX4_columnOf_4
set_option maxHeartbeats 4000000 in
set_option maxRecDepth 100000 in
theorem m_X4_rowOf (l : Launch) (D : va_G) (g : ClassId × ClassId × ClassId) (sp : Int) (h0 : 0 ≤ sp ∧ sp < 400) : RD l yX4_rowOf cX4_rowOf 1 (some .int) 0 0 D g [] [.int (zI sp)] (sp / 20) := by
  refine z_enter RX4 (by decide) rfl (Nat.le_of_ble_eq_true rfl) ?_
  intro p e s m args below meth co S hr hlk hK hP ls hl
  have hl : lv_has ls 1 [(0, .int (zI sp))] := hl
  refine lv_iload_n S.1 S.2.1 dX4_rowOf_0 rfl (lv_at hl 0 rfl) ?_
  refine z_bipush S (by decide) dX4_rowOf_1 ?_
  refine z_idivn S (by omega) dX4_rowOf_3 ?_
  exact z_ret S hr hlk (by first | rfl | grind) dX4_rowOf_4
set_option maxHeartbeats 4000000 in
set_option maxRecDepth 100000 in
theorem m_X4_distance (l : Launch) (D : va_G) (g : ClassId × ClassId × ClassId) (on : Int) (ot : Int) (h0 : 0 ≤ on ∧ on < 400) (h1 : 0 ≤ ot ∧ ot < 400) : RD l yX4_distance cX4_distance 2 (some .int) 1 21 D g [] [.int (zI on), .int (zI ot)] (dist on ot) := by
  refine z_enter RX4 (by decide) rfl (Nat.le_of_ble_eq_true rfl) ?_
  intro p e s m args below meth co S hr hlk hK hP ls hl
  have hl : lv_has ls 2 [(0, .int (zI on)), (1, .int (zI ot))] := hl
  refine lv_iload_n S.1 S.2.1 dX4_distance_0 rfl (lv_at hl 0 rfl) ?_
  refine z_rS (As := [.int (zI on)]) (rest := []) S (m_X4_columnOf l D g on (by omega)) ml_X4_214 sm_X4_columnOf ini_X4 cd_X4_columnOf ds_X4_columnOf ⟨Nat.le_of_ble_eq_true rfl, Nat.le_of_ble_eq_true rfl⟩ hK va_P_nil rfl hl.1 rfl (Nat.le_of_ble_eq_true rfl) ⟨Nat.zero_le _, Nat.zero_le _⟩ dX4_distance_1 ?_
  refine lv_iload_n S.1 S.2.1 dX4_distance_4 rfl (lv_at hl 1 rfl) ?_
  refine z_rS (As := [.int (zI ot)]) (rest := [.int (zI (on % 20))]) S (m_X4_columnOf l D g ot (by omega)) ml_X4_214 sm_X4_columnOf ini_X4 cd_X4_columnOf ds_X4_columnOf ⟨Nat.le_of_ble_eq_true rfl, Nat.le_of_ble_eq_true rfl⟩ hK va_P_nil rfl hl.1 rfl (Nat.le_of_ble_eq_true rfl) ⟨Nat.zero_le _, Nat.zero_le _⟩ dX4_distance_5 ?_
  refine z_isub S dX4_distance_8 ?_
  refine z_abs S ml_X4_108 hl.1 (Nat.le_of_ble_eq_true rfl) (Nat.le_of_ble_eq_true rfl) ⟨Nat.zero_le _, Nat.zero_le _⟩ (by omega) dX4_distance_9 ?_
  refine lv_iload_n S.1 S.2.1 dX4_distance_12 rfl (lv_at hl 0 rfl) ?_
  refine z_rS (As := [.int (zI on)]) (rest := [.int (zI (ab ((on % 20) - (ot % 20))))]) S (m_X4_rowOf l D g on (by omega)) ml_X4_217 sm_X4_rowOf ini_X4 cd_X4_rowOf ds_X4_rowOf ⟨Nat.le_of_ble_eq_true rfl, Nat.le_of_ble_eq_true rfl⟩ hK va_P_nil rfl hl.1 rfl (Nat.le_of_ble_eq_true rfl) ⟨Nat.zero_le _, Nat.zero_le _⟩ dX4_distance_13 ?_
  refine lv_iload_n S.1 S.2.1 dX4_distance_16 rfl (lv_at hl 1 rfl) ?_
  refine z_rS (As := [.int (zI ot)]) (rest := [.int (zI (on / 20)), .int (zI (ab ((on % 20) - (ot % 20))))]) S (m_X4_rowOf l D g ot (by omega)) ml_X4_217 sm_X4_rowOf ini_X4 cd_X4_rowOf ds_X4_rowOf ⟨Nat.le_of_ble_eq_true rfl, Nat.le_of_ble_eq_true rfl⟩ hK va_P_nil rfl hl.1 rfl (Nat.le_of_ble_eq_true rfl) ⟨Nat.zero_le _, Nat.zero_le _⟩ dX4_distance_17 ?_
  refine z_isub S dX4_distance_20 ?_
  refine z_abs S ml_X4_108 hl.1 (Nat.le_of_ble_eq_true rfl) (Nat.le_of_ble_eq_true rfl) ⟨Nat.zero_le _, Nat.zero_le _⟩ (by omega) dX4_distance_21 ?_
  refine z_iadd S dX4_distance_24 ?_
  exact z_ret S hr hlk (by first | rfl | grind) dX4_distance_25
set_option maxHeartbeats 4000000 in
set_option maxRecDepth 100000 in
theorem m_X4_quotient (l : Launch) (D : va_G) (g : ClassId × ClassId × ClassId) (dd : Int) (dv : Int) (h0 : 0 ≤ dd ∧ dd ≤ 2147483647 ∧ 0 ≤ dv ∧ dv ≤ 2147483647) : RD l yX4_quotient cX4_quotient 2 (some .int) 0 0 D g [] [.int (zI dd), .int (zI dv)] (dd / dv) := by
  refine z_enter RX4 (by decide) rfl (Nat.le_of_ble_eq_true rfl) ?_
  intro p e s m args below meth co S hr hlk hK hP ls hl
  have hl : lv_has ls 2 [(0, .int (zI dd)), (1, .int (zI dv))] := hl
  refine lv_iload_n S.1 S.2.1 dX4_quotient_0 rfl (lv_at hl 1 rfl) ?_
  refine z_if_le (tgt := 10) S dX4_quotient_1 (by decide) (by omega) (fun h_1 => ?_) (fun h_1 => ?_)
  · refine z_iconst S dX4_quotient_10 ?_
    exact z_ret S hr hlk (by first | rfl | (rw [show dv = 0 by omega, Int.ediv_zero])) dX4_quotient_11
  · refine lv_iload_n S.1 S.2.1 dX4_quotient_4 rfl (lv_at hl 0 rfl) ?_
    refine lv_iload_n S.1 S.2.1 dX4_quotient_5 rfl (lv_at hl 1 rfl) ?_
    refine z_idivn S (by omega) dX4_quotient_6 ?_
    refine z_goto (tgt := 11) S dX4_quotient_7 (by decide) ?_
    exact z_ret S hr hlk (by first | rfl | (rw [show dv = 0 by omega, Int.ediv_zero])) dX4_quotient_11
set_option maxHeartbeats 4000000 in
set_option maxRecDepth 100000 in
theorem m_X4_truer (l : Launch) (D : va_G) (g : ClassId × ClassId × ClassId) (tr : Int) (st : Int) (otr : Int) (ost : Int) (h0 : 0 ≤ tr ∧ tr ≤ 400) (h1 : 0 ≤ st ∧ st ≤ 400) (h2 : 0 ≤ otr ∧ otr ≤ 400) (h3 : 0 ≤ ost ∧ ost ≤ 400) : RD l yX4_truer cX4_truer 6 (some .boolean) 0 0 D g [] [.int (zI tr), .int (zI st), .int (zI otr), .int (zI ost)] (b01 (otr * st < tr * ost ∨ (tr * ost = otr * st ∧ ost < st))) := by
  refine z_enter RX4 (by decide) rfl (Nat.le_of_ble_eq_true rfl) ?_
  intro p e s m args below meth co S hr hlk hK hP ls hl
  have hl : lv_has ls 6 [(0, .int (zI tr)), (1, .int (zI st)), (2, .int (zI otr)), (3, .int (zI ost))] := hl
  have hb1 := prod_b h0 h3
  have hb2 := prod_b h2 h1
  refine lv_iload_n S.1 S.2.1 dX4_truer_0 rfl (lv_at hl 0 rfl) ?_
  refine lv_iload_n S.1 S.2.1 dX4_truer_1 rfl (lv_at hl 3 rfl) ?_
  refine z_imul S dX4_truer_2 ?_
  refine lv_istore (lv' := [(4, .int (zI (tr * ost))), (0, .int (zI tr)), (1, .int (zI st)), (2, .int (zI otr)), (3, .int (zI ost))]) S.1 S.2.1 dX4_truer_3 hl (by decide) rfl (fun ls hl => ?_)
  refine lv_iload_n S.1 S.2.1 dX4_truer_5 rfl (lv_at hl 3 rfl) ?_
  refine lv_iload_n S.1 S.2.1 dX4_truer_6 rfl (lv_at hl 2 rfl) ?_
  refine z_imul S dX4_truer_7 ?_
  refine lv_istore (lv' := [(5, .int (zI (otr * st))), (4, .int (zI (tr * ost))), (0, .int (zI tr)), (1, .int (zI st)), (2, .int (zI otr)), (3, .int (zI ost))]) S.1 S.2.1 dX4_truer_8 hl (by decide) rfl (fun ls hl => ?_)
  refine lv_iload S.1 S.2.1 dX4_truer_10 (lv_at hl 1 rfl) ?_
  refine lv_iload S.1 S.2.1 dX4_truer_12 (lv_at hl 0 rfl) ?_
  refine z_icmp_gt (tgt := 29) S dX4_truer_14 (by decide) (by omega) (fun h_1 => ?_) (fun h_1 => ?_)
  · refine z_iconst S dX4_truer_29 ?_
    refine z_goto (tgt := 34) S dX4_truer_30 (by decide) ?_
    exact z_retb S hr hlk (Or.inr rfl) ((b01_t (by omega)).symm) dX4_truer_34
  · refine lv_iload S.1 S.2.1 dX4_truer_17 (lv_at hl 1 rfl) ?_
    refine lv_iload S.1 S.2.1 dX4_truer_19 (lv_at hl 0 rfl) ?_
    refine z_icmp_ne (tgt := 33) S dX4_truer_21 (by decide) (by omega) (fun h_2 => ?_) (fun h_2 => ?_)
    · refine z_iconst S dX4_truer_33 ?_
      exact z_retb S hr hlk (Or.inl rfl) ((b01_f (by omega)).symm) dX4_truer_34
    · refine lv_iload_n S.1 S.2.1 dX4_truer_24 rfl (lv_at hl 3 rfl) ?_
      refine lv_iload_n S.1 S.2.1 dX4_truer_25 rfl (lv_at hl 5 rfl) ?_
      refine z_icmp_le (tgt := 33) S dX4_truer_26 (by decide) (by omega) (fun h_3 => ?_) (fun h_3 => ?_)
      · refine z_iconst S dX4_truer_33 ?_
        exact z_retb S hr hlk (Or.inl rfl) ((b01_f (by omega)).symm) dX4_truer_34
      · refine z_iconst S dX4_truer_29 ?_
        refine z_goto (tgt := 34) S dX4_truer_30 (by decide) ?_
        exact z_retb S hr hlk (Or.inr rfl) ((b01_t (by omega)).symm) dX4_truer_34
set_option maxHeartbeats 4000000 in
set_option maxRecDepth 100000 in
theorem m_X1_standsAt (l : Launch) (D : va_G) (g : ClassId × ClassId × ClassId) (a : Nat → Nat) {B : Int} (c : CS) (hI : IC B c) (sp : Int) (h0 : 0 ≤ sp ∧ sp < 400) : RD l yX1_standsAt cX1_standsAt 2 (some .boolean) 0 0 D g (CW g a c) [.ref (a 3), .int (zI sp)] (b01 (c.2 8 sp ≠ -1)) := by
  refine z_enter RX1 (by decide) rfl (Nat.le_of_ble_eq_true rfl) ?_
  intro p e s m args below meth co S hr hlk hK hP ls hl
  have hl : lv_has ls 2 [(0, .ref (a 3)), (1, .int (zI sp))] := hl
  have hs := hI.s
  refine lv_aload_n S.1 S.2.1 dX1_standsAt_0 rfl (lv_at hl 0 rfl) ?_
  refine z_get (v := .ref (a 13)) S inA1 hK hP 3 rfl rfl 1 (by decide) fl_X1_15 rfl dX1_standsAt_1 ?_
  refine lv_iload_n S.1 S.2.1 dX1_standsAt_4 rfl (lv_at hl 1 rfl) ?_
  refine z_iald S hK hP 13 rfl (by decide) (by omega) dX1_standsAt_5 ?_
  have hb_1 := hI.r8 sp
  refine z_iconst S dX1_standsAt_6 ?_
  refine z_icmp_eq (tgt := 14) S dX1_standsAt_7 (by decide) (by omega) (fun h_2 => ?_) (fun h_2 => ?_)
  · refine z_iconst S dX1_standsAt_14 ?_
    exact z_retb S hr hlk (Or.inl rfl) ((b01_f (by omega)).symm) dX1_standsAt_15
  · refine z_iconst S dX1_standsAt_10 ?_
    refine z_goto (tgt := 15) S dX1_standsAt_11 (by decide) ?_
    exact z_retb S hr hlk (Or.inr rfl) ((b01_t (by omega)).symm) dX1_standsAt_15
set_option maxHeartbeats 4000000 in
set_option maxRecDepth 100000 in
theorem m_X1_add (l : Launch) (D : va_G) (g : ClassId × ClassId × ClassId) (a : Nat → Nat) {B : Int} (c : CS) (hI : IC B c) (hda : CD 21 a) (sp : Int) (d : Int) (h0 : 0 ≤ sp ∧ sp < 400) : WRv l yX1_add cX1_add 3 none 0 0 D g (CA 21 a) (CW g a c) [.ref (a 3), .int (zI sp), .int (zI d)] (CW g a (sS (sA c 8 (upZ (c.2 8) sp d)) 4 (c.1 4 + 1))) := by
  refine z_enter RX1 (by decide) rfl (Nat.le_of_ble_eq_true rfl) ?_
  intro p e s m args below meth co S hr hlk hK hP ls hl
  have hl : lv_has ls 3 [(0, .ref (a 3)), (1, .int (zI sp)), (2, .int (zI d))] := hl
  have hs := hI.s
  have hS : va_S (CA 21 a) s.heap s.heap [] := va_S.rf
  refine lv_aload_n S.1 S.2.1 dX1_add_0 rfl (lv_at hl 0 rfl) ?_
  refine z_get (v := .ref (a 13)) S inA1 hK hP 3 rfl rfl 1 (by decide) fl_X1_15 rfl dX1_add_1 ?_
  refine lv_iload_n S.1 S.2.1 dX1_add_4 rfl (lv_at hl 1 rfl) ?_
  refine lv_iload_n S.1 S.2.1 dX1_add_5 rfl (lv_at hl 2 rfl) ?_
  refine z_iast S hK hP (CW_D hda _) hS 13 rfl (by decide) (by omega) dX1_add_6 (fun H locs hP hS => ?_)
  have hP : va_P D vwCl (CW g a (sA c 8 (upZ (c.2 8) sp d))) H := hP
  refine lv_aload_n S.1 S.2.1 dX1_add_7 rfl (lv_at hl 0 rfl) ?_
  refine lv_dup S.1 S.2.1 dX1_add_8 rfl ?_
  refine z_get (v := .int (zI (c.1 4))) S inA1 hK hP 3 rfl rfl 0 (by decide) fl_X1_11 rfl dX1_add_9 ?_
  refine z_iconst S dX1_add_12 ?_
  refine z_iadd S dX1_add_13 ?_
  refine z_put S inA1 tyX1 tyX1_ok nmX1 hK hP (CW_D hda _) hS 3 rfl rfl 0 (by decide) fl_X1_11 rfl (by decide +kernel) (Nat.le_of_ble_eq_true rfl) dX1_add_14 (fun H locs hP hS => ?_)
  have hP : va_P D vwCl (CW g a (sS (sA c 8 (upZ (c.2 8) sp d)) 4 ((c.1 4) + 1))) H := hP
  have hw : CW g a (sS (sA c 8 (upZ (c.2 8) sp d)) 4 ((c.1 4) + 1)) = CW g a (sS (sA c 8 (upZ (c.2 8) sp d)) 4 (c.1 4 + 1)) := by exact rfl
  rw [hw] at hP
  exact z_retv S hr hlk hP hS dX1_add_17
set_option maxHeartbeats 4000000 in
set_option maxRecDepth 100000 in
theorem m_X1_remove (l : Launch) (D : va_G) (g : ClassId × ClassId × ClassId) (a : Nat → Nat) {B : Int} (c : CS) (hI : IC B c) (hda : CD 21 a) (sp : Int) (h0 : 0 ≤ sp ∧ sp < 400) : WRi l yX1_remove cX1_remove 3 (some .int) 0 0 D g (CA 21 a) (CW g a c) [.ref (a 3), .int (zI sp)] (CW g a (sS (sA c 8 (upZ (c.2 8) sp (-1))) 4 (c.1 4 - 1))) (c.2 8 sp) := by
  refine z_enter RX1 (by decide) rfl (Nat.le_of_ble_eq_true rfl) ?_
  intro p e s m args below meth co S hr hlk hK hP ls hl
  have hl : lv_has ls 3 [(0, .ref (a 3)), (1, .int (zI sp))] := hl
  have hs := hI.s
  have hS : va_S (CA 21 a) s.heap s.heap [] := va_S.rf
  refine lv_aload_n S.1 S.2.1 dX1_remove_0 rfl (lv_at hl 0 rfl) ?_
  refine z_get (v := .ref (a 13)) S inA1 hK hP 3 rfl rfl 1 (by decide) fl_X1_15 rfl dX1_remove_1 ?_
  refine lv_iload_n S.1 S.2.1 dX1_remove_4 rfl (lv_at hl 1 rfl) ?_
  refine z_iald S hK hP 13 rfl (by decide) (by omega) dX1_remove_5 ?_
  have hb_1 := hI.r8 sp
  refine lv_istore_n (lv' := [(2, .int (zI (c.2 8 sp))), (0, .ref (a 3)), (1, .int (zI sp))]) S.1 S.2.1 dX1_remove_6 rfl hl (by decide) rfl (fun ls hl => ?_)
  refine lv_aload_n S.1 S.2.1 dX1_remove_7 rfl (lv_at hl 1 rfl) ?_
  refine z_get (v := .ref (a 13)) S inA1 hK hP 3 rfl rfl 1 (by decide) fl_X1_15 rfl dX1_remove_8 ?_
  refine lv_iload_n S.1 S.2.1 dX1_remove_11 rfl (lv_at hl 2 rfl) ?_
  refine z_iconst S dX1_remove_12 ?_
  refine z_iast S hK hP (CW_D hda _) hS 13 rfl (by decide) (by omega) dX1_remove_13 (fun H locs hP hS => ?_)
  have hP : va_P D vwCl (CW g a (sA c 8 (upZ (c.2 8) sp (-1)))) H := hP
  refine lv_aload_n S.1 S.2.1 dX1_remove_14 rfl (lv_at hl 1 rfl) ?_
  refine lv_dup S.1 S.2.1 dX1_remove_15 rfl ?_
  refine z_get (v := .int (zI (c.1 4))) S inA1 hK hP 3 rfl rfl 0 (by decide) fl_X1_11 rfl dX1_remove_16 ?_
  refine z_iconst S dX1_remove_19 ?_
  refine z_isub S dX1_remove_20 ?_
  refine z_put S inA1 tyX1 tyX1_ok nmX1 hK hP (CW_D hda _) hS 3 rfl rfl 0 (by decide) fl_X1_11 rfl (by decide +kernel) (Nat.le_of_ble_eq_true rfl) dX1_remove_21 (fun H locs hP hS => ?_)
  have hP : va_P D vwCl (CW g a (sS (sA c 8 (upZ (c.2 8) sp (-1))) 4 ((c.1 4) - 1))) H := hP
  refine lv_iload_n S.1 S.2.1 dX1_remove_24 rfl (lv_at hl 0 rfl) ?_
  have hw : CW g a (sS (sA c 8 (upZ (c.2 8) sp (-1))) 4 ((c.1 4) - 1)) = CW g a (sS (sA c 8 (upZ (c.2 8) sp (-1))) 4 (c.1 4 - 1)) := by exact rfl
  rw [hw] at hP
  exact z_retw S hr hlk (by first | rfl | grind) hP hS dX1_remove_25
set_option maxHeartbeats 4000000 in
set_option maxRecDepth 100000 in
theorem m_X1_standingOf (l : Launch) (D : va_G) (g : ClassId × ClassId × ClassId) (a : Nat → Nat) {B : Int} (c : CS) (hI : IC B c) (d : Int) (h0 : I32 d) : RD l yX1_standingOf cX1_standingOf 4 (some .int) 0 0 D g (CW g a c) [.ref (a 3), .int (zI d)] (pgOf c d) := by
  refine z_enter RX1 (by decide) rfl (Nat.le_of_ble_eq_true rfl) ?_
  intro p e s m args below meth co S hr hlk hK hP ls hl
  have hl : lv_has ls 4 [(0, .ref (a 3)), (1, .int (zI d))] := hl
  have hs := hI.s
  refine z_iconst S dX1_standingOf_0 ?_
  refine lv_istore_n (lv' := [(2, .int (zI 0)), (0, .ref (a 3)), (1, .int (zI d))]) S.1 S.2.1 dX1_standingOf_1 rfl hl (by decide) rfl (fun ls hl => ?_)
  refine z_iconst S dX1_standingOf_2 ?_
  refine lv_istore_n (lv' := [(3, .int (zI 0)), (2, .int (zI 0)), (0, .ref (a 3)), (1, .int (zI d))]) S.1 S.2.1 dX1_standingOf_3 rfl hl (by decide) rfl (fun ls hl => ?_)
  refine z_for (nL := 4) (400) (fun (k4 : Nat) => [(3, .int (zI (k4 : Int))), (2, .int (zI (sm (fun j => b01 (c.2 8 j = d)) k4))), (0, .ref (a 3)), (1, .int (zI d))]) (fun k4 => True) (fun k4 hk4 hJ4 ls hl ih4 => ?_) (fun hJ4 ls hl => ?_) 0 (by omega) trivial ls (lv_sub hl [0, 1, 2, 3] rfl)
  · have hl : lv_has ls 4 [(3, .int (zI (k4 : Int))), (2, .int (zI (sm (fun j => b01 (c.2 8 j = d)) k4))), (0, .ref (a 3)), (1, .int (zI d))] := hl
    refine lv_iload_n S.1 S.2.1 dX1_standingOf_4 rfl (lv_at hl 0 rfl) ?_
    refine z_sipush S (by decide) dX1_standingOf_5 ?_
    refine z_icmp_ge (tgt := 30) S dX1_standingOf_8 (by decide) (by omega) (fun h_1 => ?_) (fun h_1 => ?_)
    · exact absurd h_1 (by omega)
    · refine lv_aload_n S.1 S.2.1 dX1_standingOf_11 rfl (lv_at hl 2 rfl) ?_
      refine z_get (v := .ref (a 13)) S inA1 hK hP 3 rfl rfl 1 (by decide) fl_X1_15 rfl dX1_standingOf_12 ?_
      refine lv_iload_n S.1 S.2.1 dX1_standingOf_15 rfl (lv_at hl 0 rfl) ?_
      refine z_iald S hK hP 13 rfl (by decide) (by omega) dX1_standingOf_16 ?_
      have hb_2 := hI.r8 (k4 : Int)
      refine lv_iload_n S.1 S.2.1 dX1_standingOf_17 rfl (lv_at hl 3 rfl) ?_
      refine z_icmp_ne (tgt := 24) S dX1_standingOf_18 (by decide) (by omega) (fun h_3 => ?_) (fun h_3 => ?_)
      · refine z_iinc (lv' := [(3, .int (zI ((k4 : Int) + 1))), (2, .int (zI (sm (fun j => b01 (c.2 8 j = d)) k4))), (0, .ref (a 3)), (1, .int (zI d))]) S dX1_standingOf_24 hl (k := 0) rfl (by decide) rfl (fun ls hl => ?_)
        refine z_goto (tgt := 4) S dX1_standingOf_27 (by decide) ?_
        have e_4 : sm (fun j => b01 (c.2 8 j = d)) (k4 + 1) = sm (fun j => b01 (c.2 8 j = d)) k4 := by grind [sm, b01]
        exact ih4 _ (lv_sub hl [0, 1, 2, 3] (by show _ = ([(3, .int (zI ((k4 + 1 : Nat) : Int))), (2, .int (zI (sm (fun j => b01 (c.2 8 j = d)) (k4 + 1)))), (0, .ref (a 3)), (1, .int (zI d))] : List (Nat × Value)); rw [e_4]; first | done | rfl)) trivial
      · refine z_iinc (lv' := [(2, .int (zI ((sm (fun j => b01 (c.2 8 j = d)) k4) + 1))), (3, .int (zI (k4 : Int))), (0, .ref (a 3)), (1, .int (zI d))]) S dX1_standingOf_21 hl (k := 1) rfl (by decide) rfl (fun ls hl => ?_)
        refine z_iinc (lv' := [(3, .int (zI ((k4 : Int) + 1))), (2, .int (zI ((sm (fun j => b01 (c.2 8 j = d)) k4) + 1))), (0, .ref (a 3)), (1, .int (zI d))]) S dX1_standingOf_24 hl (k := 1) rfl (by decide) rfl (fun ls hl => ?_)
        refine z_goto (tgt := 4) S dX1_standingOf_27 (by decide) ?_
        have e_5 : sm (fun j => b01 (c.2 8 j = d)) (k4 + 1) = (sm (fun j => b01 (c.2 8 j = d)) k4) + 1 := by grind [sm, b01]
        exact ih4 _ (lv_sub hl [0, 1, 2, 3] (by show _ = ([(3, .int (zI ((k4 + 1 : Nat) : Int))), (2, .int (zI (sm (fun j => b01 (c.2 8 j = d)) (k4 + 1)))), (0, .ref (a 3)), (1, .int (zI d))] : List (Nat × Value)); rw [e_5]; first | done | rfl)) trivial
  · have hl : lv_has ls 4 [(3, .int (zI ((400 : Nat) : Int))), (2, .int (zI (sm (fun j => b01 (c.2 8 j = d)) 400))), (0, .ref (a 3)), (1, .int (zI d))] := hl
    refine lv_iload_n S.1 S.2.1 dX1_standingOf_4 rfl (lv_at hl 0 rfl) ?_
    refine z_sipush S (by decide) dX1_standingOf_5 ?_
    refine z_icmp_ge (tgt := 30) S dX1_standingOf_8 (by decide) (by omega) (fun h_6 => ?_) (fun h_6 => ?_)
    · refine lv_iload_n S.1 S.2.1 dX1_standingOf_30 rfl (lv_at hl 1 rfl) ?_
      exact z_ret S hr hlk (by first | rfl | grind) dX1_standingOf_31
    · exact absurd h_6 (by omega)
set_option maxHeartbeats 4000000 in
set_option maxRecDepth 100000 in
theorem m_X1_pegsAt (l : Launch) (D : va_G) (g : ClassId × ClassId × ClassId) (a : Nat → Nat) {B : Int} (c : CS) (hI : IC B c) (x : Int) (y : Int) (h0 : I32 x ∧ I32 y) : RD l yX1_pegsAt cX1_pegsAt 3 (some .int) 2 43 D g (CW g a c) [.ref (a 3), .int (zI x), .int (zI y)] (pgAt c x y) := by
  refine z_enter RX1 (by decide) rfl (Nat.le_of_ble_eq_true rfl) ?_
  intro p e s m args below meth co S hr hlk hK hP ls hl
  have hl : lv_has ls 3 [(0, .ref (a 3)), (1, .int (zI x)), (2, .int (zI y))] := hl
  have hs := hI.s
  refine lv_iload_n S.1 S.2.1 dX1_pegsAt_0 rfl (lv_at hl 1 rfl) ?_
  refine lv_iload_n S.1 S.2.1 dX1_pegsAt_1 rfl (lv_at hl 2 rfl) ?_
  refine z_rN (As := [.int (zI x), .int (zI y)]) (rest := []) S (m_X4_inField l D g x y (by omega)) nw_X1_39 sm_X4_inField ini_X4 cd_X4_inField ds_X4_inField ⟨Nat.le_of_ble_eq_true rfl, Nat.le_of_ble_eq_true rfl⟩ hK va_P_nil rfl hl.1 rfl (Nat.le_of_ble_eq_true rfl) ⟨Nat.zero_le _, Nat.zero_le _⟩ dX1_pegsAt_2 ?_
  refine z_ifb_eq (tgt := 24) S dX1_pegsAt_5 (by decide) (fun h_1 => ?_) (fun h_1 => ?_)
  · refine z_iconst S dX1_pegsAt_24 ?_
    exact z_ret S hr hlk (by grind [pgAt, b01]) dX1_pegsAt_25
  · refine lv_aload_n S.1 S.2.1 dX1_pegsAt_8 rfl (lv_at hl 0 rfl) ?_
    refine lv_iload_n S.1 S.2.1 dX1_pegsAt_9 rfl (lv_at hl 1 rfl) ?_
    refine lv_iload_n S.1 S.2.1 dX1_pegsAt_10 rfl (lv_at hl 2 rfl) ?_
    refine z_rN (As := [.int (zI x), .int (zI y)]) (rest := [.ref (a 3)]) S (m_X4_spotAt l D g x y) nw_X1_43 sm_X4_spotAt ini_X4 cd_X4_spotAt ds_X4_spotAt ⟨Nat.le_of_ble_eq_true rfl, Nat.le_of_ble_eq_true rfl⟩ hK va_P_nil rfl hl.1 rfl (Nat.le_of_ble_eq_true rfl) ⟨Nat.zero_le _, Nat.zero_le _⟩ dX1_pegsAt_11 ?_
    refine z_rV (As := [.int (zI (y * 20 + x))]) (rest := []) S (m_X1_standsAt l D g a c hI (y * 20 + x) (by omega)) ml_X1_46 im_X1_standsAt se_X1_standsAt ini_X1 cd_X1_standsAt ds_X1_standsAt ⟨Nat.le_of_ble_eq_true rfl, Nat.le_of_ble_eq_true rfl⟩ hK hP (va_recv hK.1 hP (ci := 1) (q0 := 3) rfl rfl) rfl hl.1 rfl (Nat.le_of_ble_eq_true rfl) ⟨Nat.zero_le _, Nat.zero_le _⟩ dX1_pegsAt_14 ?_
    refine z_ifb_eq (tgt := 24) S dX1_pegsAt_17 (by decide) (fun h_2 => ?_) (fun h_2 => ?_)
    · refine z_iconst S dX1_pegsAt_24 ?_
      exact z_ret S hr hlk (by grind [pgAt, b01]) dX1_pegsAt_25
    · refine z_iconst S dX1_pegsAt_20 ?_
      refine z_goto (tgt := 25) S dX1_pegsAt_21 (by decide) ?_
      exact z_ret S hr hlk (by grind [pgAt, b01]) dX1_pegsAt_25
set_option maxHeartbeats 4000000 in
set_option maxRecDepth 100000 in
theorem m_X1_besides (l : Launch) (D : va_G) (g : ClassId × ClassId × ClassId) (a : Nat → Nat) {B : Int} (c : CS) (hI : IC B c) (sp : Int) (h0 : 0 ≤ sp ∧ sp < 400) : RD l yX1_besides cX1_besides 4 (some .int) 3 65 D g (CW g a c) [.ref (a 3), .int (zI sp)] (beside c sp) := by
  refine z_enter RX1 (by decide) rfl (Nat.le_of_ble_eq_true rfl) ?_
  intro p e s m args below meth co S hr hlk hK hP ls hl
  have hl : lv_has ls 4 [(0, .ref (a 3)), (1, .int (zI sp))] := hl
  have hs := hI.s
  refine lv_iload_n S.1 S.2.1 dX1_besides_0 rfl (lv_at hl 1 rfl) ?_
  refine z_rN (As := [.int (zI sp)]) (rest := []) S (m_X4_columnOf l D g sp (by omega)) nw_X1_28 sm_X4_columnOf ini_X4 cd_X4_columnOf ds_X4_columnOf ⟨Nat.le_of_ble_eq_true rfl, Nat.le_of_ble_eq_true rfl⟩ hK va_P_nil rfl hl.1 rfl (Nat.le_of_ble_eq_true rfl) ⟨Nat.zero_le _, Nat.zero_le _⟩ dX1_besides_1 ?_
  refine lv_istore_n (lv' := [(2, .int (zI (sp % 20))), (0, .ref (a 3)), (1, .int (zI sp))]) S.1 S.2.1 dX1_besides_4 rfl hl (by decide) rfl (fun ls hl => ?_)
  refine lv_iload_n S.1 S.2.1 dX1_besides_5 rfl (lv_at hl 2 rfl) ?_
  refine z_rN (As := [.int (zI sp)]) (rest := []) S (m_X4_rowOf l D g sp (by omega)) nw_X1_32 sm_X4_rowOf ini_X4 cd_X4_rowOf ds_X4_rowOf ⟨Nat.le_of_ble_eq_true rfl, Nat.le_of_ble_eq_true rfl⟩ hK va_P_nil rfl hl.1 rfl (Nat.le_of_ble_eq_true rfl) ⟨Nat.zero_le _, Nat.zero_le _⟩ dX1_besides_6 ?_
  refine lv_istore_n (lv' := [(3, .int (zI (sp / 20))), (2, .int (zI (sp % 20))), (0, .ref (a 3)), (1, .int (zI sp))]) S.1 S.2.1 dX1_besides_9 rfl hl (by decide) rfl (fun ls hl => ?_)
  refine lv_aload_n S.1 S.2.1 dX1_besides_10 rfl (lv_at hl 2 rfl) ?_
  refine lv_iload_n S.1 S.2.1 dX1_besides_11 rfl (lv_at hl 1 rfl) ?_
  refine z_iconst S dX1_besides_12 ?_
  refine z_isub S dX1_besides_13 ?_
  refine lv_iload_n S.1 S.2.1 dX1_besides_14 rfl (lv_at hl 0 rfl) ?_
  refine z_rV (As := [.int (zI ((sp % 20) - 1)), .int (zI (sp / 20))]) (rest := []) S (m_X1_pegsAt l D g a c hI ((sp % 20) - 1) (sp / 20) (by omega)) ml_X1_35 im_X1_pegsAt se_X1_pegsAt ini_X1 cd_X1_pegsAt ds_X1_pegsAt ⟨Nat.le_of_ble_eq_true rfl, Nat.le_of_ble_eq_true rfl⟩ hK hP (va_recv hK.1 hP (ci := 1) (q0 := 3) rfl rfl) rfl hl.1 rfl (Nat.le_of_ble_eq_true rfl) ⟨Nat.zero_le _, Nat.zero_le _⟩ dX1_besides_15 ?_
  refine lv_aload_n S.1 S.2.1 dX1_besides_18 rfl (lv_at hl 2 rfl) ?_
  refine lv_iload_n S.1 S.2.1 dX1_besides_19 rfl (lv_at hl 1 rfl) ?_
  refine z_iconst S dX1_besides_20 ?_
  refine z_iadd S dX1_besides_21 ?_
  refine lv_iload_n S.1 S.2.1 dX1_besides_22 rfl (lv_at hl 0 rfl) ?_
  refine z_rV (As := [.int (zI ((sp % 20) + 1)), .int (zI (sp / 20))]) (rest := [.int (zI (pgAt c ((sp % 20) - 1) (sp / 20)))]) S (m_X1_pegsAt l D g a c hI ((sp % 20) + 1) (sp / 20) (by omega)) ml_X1_35 im_X1_pegsAt se_X1_pegsAt ini_X1 cd_X1_pegsAt ds_X1_pegsAt ⟨Nat.le_of_ble_eq_true rfl, Nat.le_of_ble_eq_true rfl⟩ hK hP (va_recv hK.1 hP (ci := 1) (q0 := 3) rfl rfl) rfl hl.1 rfl (Nat.le_of_ble_eq_true rfl) ⟨Nat.zero_le _, Nat.zero_le _⟩ dX1_besides_23 ?_
  refine z_iadd S dX1_besides_26 ?_
  refine lv_aload_n S.1 S.2.1 dX1_besides_27 rfl (lv_at hl 2 rfl) ?_
  refine lv_iload_n S.1 S.2.1 dX1_besides_28 rfl (lv_at hl 1 rfl) ?_
  refine lv_iload_n S.1 S.2.1 dX1_besides_29 rfl (lv_at hl 0 rfl) ?_
  refine z_iconst S dX1_besides_30 ?_
  refine z_isub S dX1_besides_31 ?_
  refine z_rV (As := [.int (zI (sp % 20)), .int (zI ((sp / 20) - 1))]) (rest := [.int (zI ((pgAt c ((sp % 20) - 1) (sp / 20)) + (pgAt c ((sp % 20) + 1) (sp / 20))))]) S (m_X1_pegsAt l D g a c hI (sp % 20) ((sp / 20) - 1) (by omega)) ml_X1_35 im_X1_pegsAt se_X1_pegsAt ini_X1 cd_X1_pegsAt ds_X1_pegsAt ⟨Nat.le_of_ble_eq_true rfl, Nat.le_of_ble_eq_true rfl⟩ hK hP (va_recv hK.1 hP (ci := 1) (q0 := 3) rfl rfl) rfl hl.1 rfl (Nat.le_of_ble_eq_true rfl) ⟨Nat.zero_le _, Nat.zero_le _⟩ dX1_besides_32 ?_
  refine z_iadd S dX1_besides_35 ?_
  refine lv_aload_n S.1 S.2.1 dX1_besides_36 rfl (lv_at hl 2 rfl) ?_
  refine lv_iload_n S.1 S.2.1 dX1_besides_37 rfl (lv_at hl 1 rfl) ?_
  refine lv_iload_n S.1 S.2.1 dX1_besides_38 rfl (lv_at hl 0 rfl) ?_
  refine z_iconst S dX1_besides_39 ?_
  refine z_iadd S dX1_besides_40 ?_
  refine z_rV (As := [.int (zI (sp % 20)), .int (zI ((sp / 20) + 1))]) (rest := [.int (zI (((pgAt c ((sp % 20) - 1) (sp / 20)) + (pgAt c ((sp % 20) + 1) (sp / 20))) + (pgAt c (sp % 20) ((sp / 20) - 1))))]) S (m_X1_pegsAt l D g a c hI (sp % 20) ((sp / 20) + 1) (by omega)) ml_X1_35 im_X1_pegsAt se_X1_pegsAt ini_X1 cd_X1_pegsAt ds_X1_pegsAt ⟨Nat.le_of_ble_eq_true rfl, Nat.le_of_ble_eq_true rfl⟩ hK hP (va_recv hK.1 hP (ci := 1) (q0 := 3) rfl rfl) rfl hl.1 rfl (Nat.le_of_ble_eq_true rfl) ⟨Nat.zero_le _, Nat.zero_le _⟩ dX1_besides_41 ?_
  refine z_iadd S dX1_besides_44 ?_
  exact z_ret S hr hlk (by first | rfl | grind) dX1_besides_45
set_option maxHeartbeats 4000000 in
set_option maxRecDepth 100000 in
theorem m_X1_nearest (l : Launch) (D : va_G) (g : ClassId × ClassId × ClassId) (a : Nat → Nat) {B : Int} (c : CS) (hI : IC B c) (sp : Int) (h0 : 0 ≤ sp ∧ sp < 400) : RD l yX1_nearest cX1_nearest 4 (some .int) 2 42 D g (CW g a c) [.ref (a 3), .int (zI sp)] (nr c sp 400) := by
  refine z_enter RX1 (by decide) rfl (Nat.le_of_ble_eq_true rfl) ?_
  intro p e s m args below meth co S hr hlk hK hP ls hl
  have hl : lv_has ls 4 [(0, .ref (a 3)), (1, .int (zI sp))] := hl
  have hs := hI.s
  refine z_iconst S dX1_nearest_0 ?_
  refine lv_istore_n (lv' := [(2, .int (zI (-1))), (0, .ref (a 3)), (1, .int (zI sp))]) S.1 S.2.1 dX1_nearest_1 rfl hl (by decide) rfl (fun ls hl => ?_)
  refine z_iconst S dX1_nearest_2 ?_
  refine lv_istore_n (lv' := [(3, .int (zI 0)), (2, .int (zI (-1))), (0, .ref (a 3)), (1, .int (zI sp))]) S.1 S.2.1 dX1_nearest_3 rfl hl (by decide) rfl (fun ls hl => ?_)
  refine z_for (nL := 4) (400) (fun (k4 : Nat) => [(3, .int (zI (k4 : Int))), (2, .int (zI (nr c sp k4))), (0, .ref (a 3)), (1, .int (zI sp))]) (fun k4 => True) (fun k4 hk4 hJ4 ls hl ih4 => ?_) (fun hJ4 ls hl => ?_) 0 (by omega) trivial ls (lv_sub hl [0, 1, 2, 3] rfl)
  · have hl : lv_has ls 4 [(3, .int (zI (k4 : Int))), (2, .int (zI (nr c sp k4))), (0, .ref (a 3)), (1, .int (zI sp))] := hl
    have hb0 := nr_b (c := c) h0 k4 (by omega)
    have hb1 := dist_b (i := sp) (j := (k4 : Int)) (by omega)
    refine lv_iload_n S.1 S.2.1 dX1_nearest_4 rfl (lv_at hl 0 rfl) ?_
    refine z_sipush S (by decide) dX1_nearest_5 ?_
    refine z_icmp_ge (tgt := 44) S dX1_nearest_8 (by decide) (by omega) (fun h_1 => ?_) (fun h_1 => ?_)
    · exact absurd h_1 (by omega)
    · refine lv_aload_n S.1 S.2.1 dX1_nearest_11 rfl (lv_at hl 2 rfl) ?_
      refine lv_iload_n S.1 S.2.1 dX1_nearest_12 rfl (lv_at hl 0 rfl) ?_
      refine z_rV (As := [.int (zI (k4 : Int))]) (rest := []) S (m_X1_standsAt l D g a c hI (k4 : Int) (by omega)) ml_X1_46 im_X1_standsAt se_X1_standsAt ini_X1 cd_X1_standsAt ds_X1_standsAt ⟨Nat.le_of_ble_eq_true rfl, Nat.le_of_ble_eq_true rfl⟩ hK hP (va_recv hK.1 hP (ci := 1) (q0 := 3) rfl rfl) rfl hl.1 rfl (Nat.le_of_ble_eq_true rfl) ⟨Nat.zero_le _, Nat.zero_le _⟩ dX1_nearest_13 ?_
      refine z_ifb_eq (tgt := 38) S dX1_nearest_16 (by decide) (fun h_2 => ?_) (fun h_2 => ?_)
      · refine z_iinc (lv' := [(3, .int (zI ((k4 : Int) + 1))), (2, .int (zI (nr c sp k4))), (0, .ref (a 3)), (1, .int (zI sp))]) S dX1_nearest_38 hl (k := 0) rfl (by decide) rfl (fun ls hl => ?_)
        refine z_goto (tgt := 4) S dX1_nearest_41 (by decide) ?_
        have e_3 : nr c sp (k4 + 1) = nr c sp k4 := by grind [nr]
        exact ih4 _ (lv_sub hl [0, 1, 2, 3] (by show _ = ([(3, .int (zI ((k4 + 1 : Nat) : Int))), (2, .int (zI (nr c sp (k4 + 1)))), (0, .ref (a 3)), (1, .int (zI sp))] : List (Nat × Value)); rw [e_3]; first | done | rfl)) trivial
      · refine lv_iload_n S.1 S.2.1 dX1_nearest_19 rfl (lv_at hl 1 rfl) ?_
        refine z_if_lt (tgt := 32) S dX1_nearest_20 (by decide) (by omega) (fun h_4 => ?_) (fun h_4 => ?_)
        · refine lv_iload_n S.1 S.2.1 dX1_nearest_32 rfl (lv_at hl 3 rfl) ?_
          refine lv_iload_n S.1 S.2.1 dX1_nearest_33 rfl (lv_at hl 0 rfl) ?_
          refine z_rN (As := [.int (zI sp), .int (zI (k4 : Int))]) (rest := []) S (m_X4_distance l D g sp (k4 : Int) (by omega) (by omega)) nw_X1_50 sm_X4_distance ini_X4 cd_X4_distance ds_X4_distance ⟨Nat.le_of_ble_eq_true rfl, Nat.le_of_ble_eq_true rfl⟩ hK va_P_nil rfl hl.1 rfl (Nat.le_of_ble_eq_true rfl) ⟨Nat.zero_le _, Nat.zero_le _⟩ dX1_nearest_34 ?_
          refine lv_istore_n (lv' := [(2, .int (zI (dist sp (k4 : Int)))), (3, .int (zI (k4 : Int))), (0, .ref (a 3)), (1, .int (zI sp))]) S.1 S.2.1 dX1_nearest_37 rfl hl (by decide) rfl (fun ls hl => ?_)
          refine z_iinc (lv' := [(3, .int (zI ((k4 : Int) + 1))), (2, .int (zI (dist sp (k4 : Int)))), (0, .ref (a 3)), (1, .int (zI sp))]) S dX1_nearest_38 hl (k := 1) rfl (by decide) rfl (fun ls hl => ?_)
          refine z_goto (tgt := 4) S dX1_nearest_41 (by decide) ?_
          have e_5 : nr c sp (k4 + 1) = dist sp (k4 : Int) := by grind [nr]
          exact ih4 _ (lv_sub hl [0, 1, 2, 3] (by show _ = ([(3, .int (zI ((k4 + 1 : Nat) : Int))), (2, .int (zI (nr c sp (k4 + 1)))), (0, .ref (a 3)), (1, .int (zI sp))] : List (Nat × Value)); rw [e_5]; first | done | rfl)) trivial
        · refine lv_iload_n S.1 S.2.1 dX1_nearest_23 rfl (lv_at hl 3 rfl) ?_
          refine lv_iload_n S.1 S.2.1 dX1_nearest_24 rfl (lv_at hl 0 rfl) ?_
          refine z_rN (As := [.int (zI sp), .int (zI (k4 : Int))]) (rest := []) S (m_X4_distance l D g sp (k4 : Int) (by omega) (by omega)) nw_X1_50 sm_X4_distance ini_X4 cd_X4_distance ds_X4_distance ⟨Nat.le_of_ble_eq_true rfl, Nat.le_of_ble_eq_true rfl⟩ hK va_P_nil rfl hl.1 rfl (Nat.le_of_ble_eq_true rfl) ⟨Nat.zero_le _, Nat.zero_le _⟩ dX1_nearest_25 ?_
          refine lv_iload_n S.1 S.2.1 dX1_nearest_28 rfl (lv_at hl 1 rfl) ?_
          refine z_icmp_ge (tgt := 38) S dX1_nearest_29 (by decide) (by omega) (fun h_6 => ?_) (fun h_6 => ?_)
          · refine z_iinc (lv' := [(3, .int (zI ((k4 : Int) + 1))), (2, .int (zI (nr c sp k4))), (0, .ref (a 3)), (1, .int (zI sp))]) S dX1_nearest_38 hl (k := 0) rfl (by decide) rfl (fun ls hl => ?_)
            refine z_goto (tgt := 4) S dX1_nearest_41 (by decide) ?_
            have e_7 : nr c sp (k4 + 1) = nr c sp k4 := by grind [nr]
            exact ih4 _ (lv_sub hl [0, 1, 2, 3] (by show _ = ([(3, .int (zI ((k4 + 1 : Nat) : Int))), (2, .int (zI (nr c sp (k4 + 1)))), (0, .ref (a 3)), (1, .int (zI sp))] : List (Nat × Value)); rw [e_7]; first | done | rfl)) trivial
          · refine lv_iload_n S.1 S.2.1 dX1_nearest_32 rfl (lv_at hl 3 rfl) ?_
            refine lv_iload_n S.1 S.2.1 dX1_nearest_33 rfl (lv_at hl 0 rfl) ?_
            refine z_rN (As := [.int (zI sp), .int (zI (k4 : Int))]) (rest := []) S (m_X4_distance l D g sp (k4 : Int) (by omega) (by omega)) nw_X1_50 sm_X4_distance ini_X4 cd_X4_distance ds_X4_distance ⟨Nat.le_of_ble_eq_true rfl, Nat.le_of_ble_eq_true rfl⟩ hK va_P_nil rfl hl.1 rfl (Nat.le_of_ble_eq_true rfl) ⟨Nat.zero_le _, Nat.zero_le _⟩ dX1_nearest_34 ?_
            refine lv_istore_n (lv' := [(2, .int (zI (dist sp (k4 : Int)))), (3, .int (zI (k4 : Int))), (0, .ref (a 3)), (1, .int (zI sp))]) S.1 S.2.1 dX1_nearest_37 rfl hl (by decide) rfl (fun ls hl => ?_)
            refine z_iinc (lv' := [(3, .int (zI ((k4 : Int) + 1))), (2, .int (zI (dist sp (k4 : Int)))), (0, .ref (a 3)), (1, .int (zI sp))]) S dX1_nearest_38 hl (k := 1) rfl (by decide) rfl (fun ls hl => ?_)
            refine z_goto (tgt := 4) S dX1_nearest_41 (by decide) ?_
            have e_8 : nr c sp (k4 + 1) = dist sp (k4 : Int) := by grind [nr]
            exact ih4 _ (lv_sub hl [0, 1, 2, 3] (by show _ = ([(3, .int (zI ((k4 + 1 : Nat) : Int))), (2, .int (zI (nr c sp (k4 + 1)))), (0, .ref (a 3)), (1, .int (zI sp))] : List (Nat × Value)); rw [e_8]; first | done | rfl)) trivial
  · have hl : lv_has ls 4 [(3, .int (zI ((400 : Nat) : Int))), (2, .int (zI (nr c sp 400))), (0, .ref (a 3)), (1, .int (zI sp))] := hl
    refine lv_iload_n S.1 S.2.1 dX1_nearest_4 rfl (lv_at hl 0 rfl) ?_
    refine z_sipush S (by decide) dX1_nearest_5 ?_
    refine z_icmp_ge (tgt := 44) S dX1_nearest_8 (by decide) (by omega) (fun h_9 => ?_) (fun h_9 => ?_)
    · refine lv_iload_n S.1 S.2.1 dX1_nearest_44 rfl (lv_at hl 1 rfl) ?_
      exact z_ret S hr hlk (by first | rfl | grind) dX1_nearest_45
    · exact absurd h_9 (by omega)
set_option maxHeartbeats 4000000 in
set_option maxRecDepth 100000 in
theorem m_X1_fullestLine (l : Launch) (D : va_G) (g : ClassId × ClassId × ClassId) (a : Nat → Nat) {B : Int} (c : CS) (hI : IC B c) (h0 : ∀ j : Int, 0 ≤ c.2 9 j ∧ c.2 9 j ≤ 100000) : RD l yX1_fullestLine cX1_fullestLine 3 (some .int) 0 0 D g (CW g a c) [.ref (a 3)] (fm (c.2 9) 118) := by
  refine z_enter RX1 (by decide) rfl (Nat.le_of_ble_eq_true rfl) ?_
  intro p e s m args below meth co S hr hlk hK hP ls hl
  have hl : lv_has ls 3 [(0, .ref (a 3))] := hl
  have hs := hI.s
  refine z_iconst S dX1_fullestLine_0 ?_
  refine lv_istore_n (lv' := [(1, .int (zI 0)), (0, .ref (a 3))]) S.1 S.2.1 dX1_fullestLine_1 rfl hl (by decide) rfl (fun ls hl => ?_)
  refine z_iconst S dX1_fullestLine_2 ?_
  refine lv_istore_n (lv' := [(2, .int (zI 1)), (1, .int (zI 0)), (0, .ref (a 3))]) S.1 S.2.1 dX1_fullestLine_3 rfl hl (by decide) rfl (fun ls hl => ?_)
  have e_1 : fm (c.2 9) 1 = 0 := by exact fm_1 _
  refine z_for (nL := 3) (118) (fun (k4 : Nat) => [(2, .int (zI (k4 : Int))), (1, .int (zI (fm (c.2 9) k4))), (0, .ref (a 3))]) (fun k4 => 1 ≤ k4) (fun k4 hk4 hJ4 ls hl ih4 => ?_) (fun hJ4 ls hl => ?_) 1 (by omega) (by omega) ls (lv_sub hl [0, 1, 2] (by show _ = ([(2, .int (zI ((1 : Nat) : Int))), (1, .int (zI (fm (c.2 9) 1))), (0, .ref (a 3))] : List (Nat × Value)); rw [e_1]; first | done | rfl))
  · have hl : lv_has ls 3 [(2, .int (zI (k4 : Int))), (1, .int (zI (fm (c.2 9) k4))), (0, .ref (a 3))] := hl
    have hJ4 : 1 ≤ k4 := hJ4
    have hb0 := fm_b (c.2 9) k4
    have hb1 := h0 (k4 : Int)
    have hb2 := h0 (fm (c.2 9) k4)
    refine lv_iload_n S.1 S.2.1 dX1_fullestLine_4 rfl (lv_at hl 0 rfl) ?_
    refine z_bipush S (by decide) dX1_fullestLine_5 ?_
    refine z_icmp_ge (tgt := 33) S dX1_fullestLine_7 (by decide) (by omega) (fun h_2 => ?_) (fun h_2 => ?_)
    · exact absurd h_2 (by omega)
    · refine lv_aload_n S.1 S.2.1 dX1_fullestLine_10 rfl (lv_at hl 2 rfl) ?_
      refine z_get (v := .ref (a 14)) S inA1 hK hP 3 rfl rfl 2 (by decide) fl_X1_25 rfl dX1_fullestLine_11 ?_
      refine lv_iload_n S.1 S.2.1 dX1_fullestLine_14 rfl (lv_at hl 0 rfl) ?_
      refine z_iald S hK hP 14 rfl (by decide) (by omega) dX1_fullestLine_15 ?_
      refine lv_aload_n S.1 S.2.1 dX1_fullestLine_16 rfl (lv_at hl 2 rfl) ?_
      refine z_get (v := .ref (a 14)) S inA1 hK hP 3 rfl rfl 2 (by decide) fl_X1_25 rfl dX1_fullestLine_17 ?_
      refine lv_iload_n S.1 S.2.1 dX1_fullestLine_20 rfl (lv_at hl 1 rfl) ?_
      refine z_iald S hK hP 14 rfl (by decide) (by omega) dX1_fullestLine_21 ?_
      refine z_icmp_le (tgt := 27) S dX1_fullestLine_22 (by decide) (by omega) (fun h_3 => ?_) (fun h_3 => ?_)
      · refine z_iinc (lv' := [(2, .int (zI ((k4 : Int) + 1))), (1, .int (zI (fm (c.2 9) k4))), (0, .ref (a 3))]) S dX1_fullestLine_27 hl (k := 0) rfl (by decide) rfl (fun ls hl => ?_)
        refine z_goto (tgt := 4) S dX1_fullestLine_30 (by decide) ?_
        have e_4 : fm (c.2 9) (k4 + 1) = fm (c.2 9) k4 := by grind [fm]
        exact ih4 _ (lv_sub hl [0, 1, 2] (by show _ = ([(2, .int (zI ((k4 + 1 : Nat) : Int))), (1, .int (zI (fm (c.2 9) (k4 + 1)))), (0, .ref (a 3))] : List (Nat × Value)); rw [e_4]; first | done | rfl)) (by omega)
      · refine lv_iload_n S.1 S.2.1 dX1_fullestLine_25 rfl (lv_at hl 0 rfl) ?_
        refine lv_istore_n (lv' := [(1, .int (zI (k4 : Int))), (2, .int (zI (k4 : Int))), (0, .ref (a 3))]) S.1 S.2.1 dX1_fullestLine_26 rfl hl (by decide) rfl (fun ls hl => ?_)
        refine z_iinc (lv' := [(2, .int (zI ((k4 : Int) + 1))), (1, .int (zI (k4 : Int))), (0, .ref (a 3))]) S dX1_fullestLine_27 hl (k := 1) rfl (by decide) rfl (fun ls hl => ?_)
        refine z_goto (tgt := 4) S dX1_fullestLine_30 (by decide) ?_
        have e_5 : fm (c.2 9) (k4 + 1) = (k4 : Int) := by grind [fm]
        exact ih4 _ (lv_sub hl [0, 1, 2] (by show _ = ([(2, .int (zI ((k4 + 1 : Nat) : Int))), (1, .int (zI (fm (c.2 9) (k4 + 1)))), (0, .ref (a 3))] : List (Nat × Value)); rw [e_5]; first | done | rfl)) (by omega)
  · have hl : lv_has ls 3 [(2, .int (zI ((118 : Nat) : Int))), (1, .int (zI (fm (c.2 9) 118))), (0, .ref (a 3))] := hl
    have hJ4 : 1 ≤ 118 := hJ4
    refine lv_iload_n S.1 S.2.1 dX1_fullestLine_4 rfl (lv_at hl 0 rfl) ?_
    refine z_bipush S (by decide) dX1_fullestLine_5 ?_
    refine z_icmp_ge (tgt := 33) S dX1_fullestLine_7 (by decide) (by omega) (fun h_6 => ?_) (fun h_6 => ?_)
    · refine lv_iload_n S.1 S.2.1 dX1_fullestLine_33 rfl (lv_at hl 1 rfl) ?_
      exact z_ret S hr hlk (by first | rfl | grind) dX1_fullestLine_34
    · exact absurd h_6 (by omega)
set_option maxHeartbeats 4000000 in
set_option maxRecDepth 100000 in
theorem m_X1_kindOf (l : Launch) (D : va_G) (g : ClassId × ClassId × ClassId) (q : Int) (h0 : 0 ≤ q ∧ q ≤ 1000) : RD l yX1_kindOf cX1_kindOf 1 (some .int) 0 0 D g [] [.int (zI q)] (kindL q) := by
  refine z_enter RX1 (by decide) rfl (Nat.le_of_ble_eq_true rfl) ?_
  intro p e s m args below meth co S hr hlk hK hP ls hl
  have hl : lv_has ls 1 [(0, .int (zI q))] := hl
  refine lv_iload_n S.1 S.2.1 dX1_kindOf_0 rfl (lv_at hl 0 rfl) ?_
  refine z_bipush S (by decide) dX1_kindOf_1 ?_
  refine z_icmp_ge (tgt := 8) S dX1_kindOf_3 (by decide) (by omega) (fun h_1 => ?_) (fun h_1 => ?_)
  · refine lv_iload_n S.1 S.2.1 dX1_kindOf_8 rfl (lv_at hl 0 rfl) ?_
    refine z_bipush S (by decide) dX1_kindOf_9 ?_
    refine z_icmp_ge (tgt := 16) S dX1_kindOf_11 (by decide) (by omega) (fun h_2 => ?_) (fun h_2 => ?_)
    · refine lv_iload_n S.1 S.2.1 dX1_kindOf_16 rfl (lv_at hl 0 rfl) ?_
      refine z_bipush S (by decide) dX1_kindOf_17 ?_
      refine z_icmp_ge (tgt := 26) S dX1_kindOf_19 (by decide) (by omega) (fun h_3 => ?_) (fun h_3 => ?_)
      · refine z_iconst S dX1_kindOf_26 ?_
        exact z_ret S hr hlk (by grind [kindL]) dX1_kindOf_27
      · refine z_iconst S dX1_kindOf_22 ?_
        refine z_goto (tgt := 27) S dX1_kindOf_23 (by decide) ?_
        exact z_ret S hr hlk (by grind [kindL]) dX1_kindOf_27
    · refine z_iconst S dX1_kindOf_14 ?_
      exact z_ret S hr hlk (by grind [kindL]) dX1_kindOf_15
  · refine z_iconst S dX1_kindOf_6 ?_
    exact z_ret S hr hlk (by grind [kindL]) dX1_kindOf_7
set_option maxHeartbeats 4000000 in
set_option maxRecDepth 100000 in
theorem m_X1_numberOf (l : Launch) (D : va_G) (g : ClassId × ClassId × ClassId) (q : Int) (h0 : 0 ≤ q ∧ q ≤ 1000) : RD l yX1_numberOf cX1_numberOf 1 (some .int) 1 20 D g [] [.int (zI q)] (numL q) := by
  refine z_enter RX1 (by decide) rfl (Nat.le_of_ble_eq_true rfl) ?_
  intro p e s m args below meth co S hr hlk hK hP ls hl
  have hl : lv_has ls 1 [(0, .int (zI q))] := hl
  have hb0 : 0 ≤ kindL q ∧ kindL q ≤ 3 := by grind [kindL]
  refine lv_iload_n S.1 S.2.1 dX1_numberOf_0 rfl (lv_at hl 0 rfl) ?_
  refine z_rS (As := [.int (zI q)]) (rest := []) S (m_X1_kindOf l D g q (by omega)) ml_X1_60 sm_X1_kindOf ini_X1 cd_X1_kindOf ds_X1_kindOf ⟨Nat.le_of_ble_eq_true rfl, Nat.le_of_ble_eq_true rfl⟩ hK va_P_nil rfl hl.1 rfl (Nat.le_of_ble_eq_true rfl) ⟨Nat.zero_le _, Nat.zero_le _⟩ dX1_numberOf_1 ?_
  rcases (show (kindL q) = 0 ∨ (kindL q) = 1 ∨ (kindL q) = 2 ∨ ((kindL q) < 0 ∨ 2 < (kindL q)) by omega) with h_1 | h_1 | h_1 | h_1
  · refine z_tabIn (off := 28) (tgt := 32) S 0 h_1 (by decide) dX1_numberOf_4 (by decide) (by decide) rfl (by decide) ?_
    refine lv_iload_n S.1 S.2.1 dX1_numberOf_32 rfl (lv_at hl 0 rfl) ?_
    exact z_ret S hr hlk (by grind [kindL, numL]) dX1_numberOf_33
  · refine z_tabIn (off := 30) (tgt := 34) S 1 h_1 (by decide) dX1_numberOf_4 (by decide) (by decide) rfl (by decide) ?_
    refine lv_iload_n S.1 S.2.1 dX1_numberOf_34 rfl (lv_at hl 0 rfl) ?_
    refine z_bipush S (by decide) dX1_numberOf_35 ?_
    refine z_isub S dX1_numberOf_37 ?_
    exact z_ret S hr hlk (by grind [kindL, numL]) dX1_numberOf_38
  · refine z_tabIn (off := 35) (tgt := 39) S 2 h_1 (by decide) dX1_numberOf_4 (by decide) (by decide) rfl (by decide) ?_
    refine lv_iload_n S.1 S.2.1 dX1_numberOf_39 rfl (lv_at hl 0 rfl) ?_
    refine z_bipush S (by decide) dX1_numberOf_40 ?_
    refine z_isub S dX1_numberOf_42 ?_
    exact z_ret S hr hlk (by grind [kindL, numL]) dX1_numberOf_43
  · refine z_tabOut (tgt := 44) S (by omega) dX1_numberOf_4 h_1 (by decide) ?_
    refine lv_iload_n S.1 S.2.1 dX1_numberOf_44 rfl (lv_at hl 0 rfl) ?_
    refine z_bipush S (by decide) dX1_numberOf_45 ?_
    refine z_isub S dX1_numberOf_47 ?_
    exact z_ret S hr hlk (by grind [kindL, numL]) dX1_numberOf_48
set_option maxHeartbeats 4000000 in
set_option maxRecDepth 100000 in
theorem m_X3_open (l : Launch) (D : va_G) (g : ClassId × ClassId × ClassId) (a : Nat → Nat) {B : Int} (c : CS) (hI : IC B c) (hda : CD 21 a) (dp : Int) (fl : Int) (h0 : c.1 2 < 6) : WRi l yX3_open cX3_open 4 (some .int) 0 0 D g (CA 21 a) (CW g a c) [.ref (a 1), .int (zI dp), .int (zI fl)] (CW g a (sS (sA (sA c 0 (upZ (c.2 0) (c.1 2) dp)) 1 (upZ (c.2 1) (c.1 2) fl)) 2 (c.1 2 + 1))) (c.1 2) := by
  refine z_enter RX3 (by decide) rfl (Nat.le_of_ble_eq_true rfl) ?_
  intro p e s m args below meth co S hr hlk hK hP ls hl
  have hl : lv_has ls 4 [(0, .ref (a 1)), (1, .int (zI dp)), (2, .int (zI fl))] := hl
  have hs := hI.s
  have hS : va_S (CA 21 a) s.heap s.heap [] := va_S.rf
  refine lv_aload_n S.1 S.2.1 dX3_open_0 rfl (lv_at hl 0 rfl) ?_
  refine z_get (v := .int (zI (c.1 2))) S inA3 hK hP 1 rfl rfl 0 (by decide) fl_X3_9 rfl dX3_open_1 ?_
  refine lv_istore_n (lv' := [(3, .int (zI (c.1 2))), (0, .ref (a 1)), (1, .int (zI dp)), (2, .int (zI fl))]) S.1 S.2.1 dX3_open_4 rfl hl (by decide) rfl (fun ls hl => ?_)
  refine lv_aload_n S.1 S.2.1 dX3_open_5 rfl (lv_at hl 1 rfl) ?_
  refine z_get (v := .ref (a 5)) S inA3 hK hP 1 rfl rfl 1 (by decide) fl_X3_15 rfl dX3_open_6 ?_
  refine lv_iload_n S.1 S.2.1 dX3_open_9 rfl (lv_at hl 0 rfl) ?_
  refine lv_iload_n S.1 S.2.1 dX3_open_10 rfl (lv_at hl 2 rfl) ?_
  refine z_iast S hK hP (CW_D hda _) hS 5 rfl (by decide) (by omega) dX3_open_11 (fun H locs hP hS => ?_)
  have hP : va_P D vwCl (CW g a (sA c 0 (upZ (c.2 0) (c.1 2) dp))) H := hP
  refine lv_aload_n S.1 S.2.1 dX3_open_12 rfl (lv_at hl 1 rfl) ?_
  refine z_get (v := .ref (a 6)) S inA3 hK hP 1 rfl rfl 2 (by decide) fl_X3_19 rfl dX3_open_13 ?_
  refine lv_iload_n S.1 S.2.1 dX3_open_16 rfl (lv_at hl 0 rfl) ?_
  refine lv_iload_n S.1 S.2.1 dX3_open_17 rfl (lv_at hl 3 rfl) ?_
  refine z_iast S hK hP (CW_D hda _) hS 6 rfl (by decide) (by omega) dX3_open_18 (fun H locs hP hS => ?_)
  have hP : va_P D vwCl (CW g a (sA (sA c 0 (upZ (c.2 0) (c.1 2) dp)) 1 (upZ (c.2 1) (c.1 2) fl))) H := hP
  refine lv_aload_n S.1 S.2.1 dX3_open_19 rfl (lv_at hl 1 rfl) ?_
  refine lv_dup S.1 S.2.1 dX3_open_20 rfl ?_
  refine z_get (v := .int (zI (c.1 2))) S inA3 hK hP 1 rfl rfl 0 (by decide) fl_X3_9 rfl dX3_open_21 ?_
  refine z_iconst S dX3_open_24 ?_
  refine z_iadd S dX3_open_25 ?_
  refine z_put S inA3 tyX3 tyX3_ok nmX3 hK hP (CW_D hda _) hS 1 rfl rfl 0 (by decide) fl_X3_9 rfl (by decide +kernel) (Nat.le_of_ble_eq_true rfl) dX3_open_26 (fun H locs hP hS => ?_)
  have hP : va_P D vwCl (CW g a (sS (sA (sA c 0 (upZ (c.2 0) (c.1 2) dp)) 1 (upZ (c.2 1) (c.1 2) fl)) 2 ((c.1 2) + 1))) H := hP
  refine lv_iload_n S.1 S.2.1 dX3_open_29 rfl (lv_at hl 0 rfl) ?_
  have hw : CW g a (sS (sA (sA c 0 (upZ (c.2 0) (c.1 2) dp)) 1 (upZ (c.2 1) (c.1 2) fl)) 2 ((c.1 2) + 1)) = CW g a (sS (sA (sA c 0 (upZ (c.2 0) (c.1 2) dp)) 1 (upZ (c.2 1) (c.1 2) fl)) 2 (c.1 2 + 1)) := by exact rfl
  rw [hw] at hP
  exact z_retw S hr hlk (by first | rfl | grind) hP hS dX3_open_30
set_option maxHeartbeats 4000000 in
set_option maxRecDepth 100000 in
theorem m_X3_raise (l : Launch) (D : va_G) (g : ClassId × ClassId × ClassId) (a : Nat → Nat) {B : Int} (c : CS) (hI : IC B c) (hda : CD 21 a) (v : Int) (x : Int) (y : Int) (lv : Int) (h0 : 0 ≤ v ∧ v < 6) (h1 : I32 x ∧ I32 y) (h2 : 1 ≤ lv ∧ lv ≤ 2) : WRv l yX3_raise cX3_raise 6 none 2 43 D g (CA 21 a) (CW g a c) [.ref (a 1), .int (zI v), .int (zI x), .int (zI y), .int (zI lv)] (CW g a (rse c v x y lv)) := by
  refine z_enter RX3 (by decide) rfl (Nat.le_of_ble_eq_true rfl) ?_
  intro p e s m args below meth co S hr hlk hK hP ls hl
  have hl : lv_has ls 6 [(0, .ref (a 1)), (1, .int (zI v)), (2, .int (zI x)), (3, .int (zI y)), (4, .int (zI lv))] := hl
  have hs := hI.s
  have hS : va_S (CA 21 a) s.heap s.heap [] := va_S.rf
  refine lv_iload_n S.1 S.2.1 dX3_raise_0 rfl (lv_at hl 2 rfl) ?_
  refine lv_iload_n S.1 S.2.1 dX3_raise_1 rfl (lv_at hl 3 rfl) ?_
  refine z_rN (As := [.int (zI x), .int (zI y)]) (rest := []) S (m_X4_inField l D g x y (by omega)) nw_X3_57 sm_X4_inField ini_X4 cd_X4_inField ds_X4_inField ⟨Nat.le_of_ble_eq_true rfl, Nat.le_of_ble_eq_true rfl⟩ hK va_P_nil rfl hl.1 rfl (Nat.le_of_ble_eq_true rfl) ⟨Nat.zero_le _, Nat.zero_le _⟩ dX3_raise_2 ?_
  refine z_ifb_eq (tgt := 40) S dX3_raise_5 (by decide) (fun h_1 => ?_) (fun h_1 => ?_)
  · have hw : CW g a c = CW g a (rse c v x y lv) := by first | rw [rse, if_pos (by assumption)] | rw [rse, if_neg (by assumption)]
    rw [hw] at hP
    exact z_retv S hr hlk hP hS dX3_raise_40
  · refine lv_iload_n S.1 S.2.1 dX3_raise_8 rfl (lv_at hl 1 rfl) ?_
    refine z_sipush S (by decide) dX3_raise_9 ?_
    refine z_imul S dX3_raise_12 ?_
    refine lv_iload_n S.1 S.2.1 dX3_raise_13 rfl (lv_at hl 2 rfl) ?_
    refine lv_iload_n S.1 S.2.1 dX3_raise_14 rfl (lv_at hl 3 rfl) ?_
    refine z_rN (As := [.int (zI x), .int (zI y)]) (rest := [.int (zI (v * 400))]) S (m_X4_spotAt l D g x y) nw_X3_54 sm_X4_spotAt ini_X4 cd_X4_spotAt ds_X4_spotAt ⟨Nat.le_of_ble_eq_true rfl, Nat.le_of_ble_eq_true rfl⟩ hK va_P_nil rfl hl.1 rfl (Nat.le_of_ble_eq_true rfl) ⟨Nat.zero_le _, Nat.zero_le _⟩ dX3_raise_15 ?_
    refine z_iadd S dX3_raise_18 ?_
    refine lv_istore (lv' := [(5, .int (zI ((v * 400) + (y * 20 + x)))), (0, .ref (a 1)), (1, .int (zI v)), (2, .int (zI x)), (3, .int (zI y)), (4, .int (zI lv))]) S.1 S.2.1 dX3_raise_19 hl (by decide) rfl (fun ls hl => ?_)
    refine lv_aload_n S.1 S.2.1 dX3_raise_21 rfl (lv_at hl 1 rfl) ?_
    refine z_get (v := .ref (a 7)) S inA3 hK hP 1 rfl rfl 3 (by decide) fl_X3_22 rfl dX3_raise_22 ?_
    refine lv_iload S.1 S.2.1 dX3_raise_25 (lv_at hl 0 rfl) ?_
    refine lv_aload_n S.1 S.2.1 dX3_raise_27 rfl (lv_at hl 1 rfl) ?_
    refine z_get (v := .ref (a 7)) S inA3 hK hP 1 rfl rfl 3 (by decide) fl_X3_22 rfl dX3_raise_28 ?_
    refine lv_iload S.1 S.2.1 dX3_raise_31 (lv_at hl 0 rfl) ?_
    refine z_iald S hK hP 7 rfl (by decide) (by omega) dX3_raise_33 ?_
    have hb_2 := hI.r2 ((v * 400) + (y * 20 + x))
    refine lv_iload S.1 S.2.1 dX3_raise_34 (lv_at hl 5 rfl) ?_
    refine z_max S ml_X3_42 hl.1 (Nat.le_of_ble_eq_true rfl) (Nat.le_of_ble_eq_true rfl) ⟨Nat.zero_le _, Nat.zero_le _⟩ (by omega) dX3_raise_36 ?_
    refine z_iast S hK hP (CW_D hda _) hS 7 rfl (by decide) (by omega) dX3_raise_39 (fun H locs hP hS => ?_)
    have hP : va_P D vwCl (CW g a (sA c 2 (upZ (c.2 2) ((v * 400) + (y * 20 + x)) (max (c.2 2 ((v * 400) + (y * 20 + x))) lv)))) H := hP
    have hw : CW g a (sA c 2 (upZ (c.2 2) ((v * 400) + (y * 20 + x)) (max (c.2 2 ((v * 400) + (y * 20 + x))) lv))) = CW g a (rse c v x y lv) := by first | rw [rse, if_pos (by assumption)] | rw [rse, if_neg (by assumption)]
    rw [hw] at hP
    exact z_retv S hr hlk hP hS dX3_raise_40
set_option maxHeartbeats 4000000 in
set_option maxRecDepth 100000 in
theorem m_X3_bend (l : Launch) (D : va_G) (g : ClassId × ClassId × ClassId) (a : Nat → Nat) {B : Int} (c : CS) (hI : IC B c) (sp : Int) (feel : Int) (h0 : 0 ≤ sp ∧ sp < 400) (h1 : 0 ≤ feel ∧ feel ≤ 9) : RD l yX3_bend cX3_bend 7 (some .int) 1 21 D g (CW g a c) [.ref (a 1), .int (zI sp), .int (zI feel)] (vbend c sp feel (c.1 2).toNat) := by
  refine z_enter RX3 (by decide) rfl (Nat.le_of_ble_eq_true rfl) ?_
  intro p e s m args below meth co S hr hlk hK hP ls hl
  have hl : lv_has ls 7 [(0, .ref (a 1)), (1, .int (zI sp)), (2, .int (zI feel))] := hl
  have hs := hI.s
  refine z_iconst S dX3_bend_0 ?_
  refine lv_istore_n (lv' := [(3, .int (zI 0)), (0, .ref (a 1)), (1, .int (zI sp)), (2, .int (zI feel))]) S.1 S.2.1 dX3_bend_1 rfl hl (by decide) rfl (fun ls hl => ?_)
  refine z_iconst S dX3_bend_2 ?_
  refine lv_istore (lv' := [(4, .int (zI 0)), (3, .int (zI 0)), (0, .ref (a 1)), (1, .int (zI sp)), (2, .int (zI feel))]) S.1 S.2.1 dX3_bend_3 hl (by decide) rfl (fun ls hl => ?_)
  refine z_for (nL := 7) ((c.1 2).toNat) (fun (k5 : Nat) => [(4, .int (zI (k5 : Int))), (3, .int (zI (vbend c sp feel k5))), (0, .ref (a 1)), (1, .int (zI sp)), (2, .int (zI feel))]) (fun k5 => True) (fun k5 hk5 hJ5 ls hl ih5 => ?_) (fun hJ5 ls hl => ?_) 0 (by omega) trivial ls (lv_sub hl [0, 1, 2, 3, 4] rfl)
  · have hl : lv_has ls 7 [(4, .int (zI (k5 : Int))), (3, .int (zI (vbend c sp feel k5))), (0, .ref (a 1)), (1, .int (zI sp)), (2, .int (zI feel))] := hl
    have hb0 := vw_b hI h1 (k5 : Int)
    refine lv_iload S.1 S.2.1 dX3_bend_5 (lv_at hl 0 rfl) ?_
    refine lv_aload_n S.1 S.2.1 dX3_bend_7 rfl (lv_at hl 2 rfl) ?_
    refine z_get (v := .int (zI (c.1 2))) S inA3 hK hP 1 rfl rfl 0 (by decide) fl_X3_9 rfl dX3_bend_8 ?_
    refine z_icmp_ge (tgt := 83) S dX3_bend_11 (by decide) (by omega) (fun h_1 => ?_) (fun h_1 => ?_)
    · exact absurd h_1 (by omega)
    · refine lv_aload_n S.1 S.2.1 dX3_bend_14 rfl (lv_at hl 2 rfl) ?_
      refine z_get (v := .ref (a 7)) S inA3 hK hP 1 rfl rfl 3 (by decide) fl_X3_22 rfl dX3_bend_15 ?_
      refine lv_iload S.1 S.2.1 dX3_bend_18 (lv_at hl 0 rfl) ?_
      refine z_sipush S (by decide) dX3_bend_20 ?_
      refine z_imul S dX3_bend_23 ?_
      refine lv_iload_n S.1 S.2.1 dX3_bend_24 rfl (lv_at hl 3 rfl) ?_
      refine z_iadd S dX3_bend_25 ?_
      refine z_iald S hK hP 7 rfl (by decide) (by omega) dX3_bend_26 ?_
      have hb_2 := hI.r2 (((k5 : Int) * 400) + sp)
      refine lv_istore (lv' := [(5, .int (zI (c.2 2 (((k5 : Int) * 400) + sp)))), (4, .int (zI (k5 : Int))), (3, .int (zI (vbend c sp feel k5))), (0, .ref (a 1)), (1, .int (zI sp)), (2, .int (zI feel))]) S.1 S.2.1 dX3_bend_27 hl (by decide) rfl (fun ls hl => ?_)
      refine lv_aload_n S.1 S.2.1 dX3_bend_29 rfl (lv_at hl 3 rfl) ?_
      refine z_get (v := .ref (a 6)) S inA3 hK hP 1 rfl rfl 2 (by decide) fl_X3_19 rfl dX3_bend_30 ?_
      refine lv_iload S.1 S.2.1 dX3_bend_33 (lv_at hl 1 rfl) ?_
      refine z_iald S hK hP 6 rfl (by decide) (by omega) dX3_bend_35 ?_
      have hb_3 := hI.r1 (k5 : Int)
      refine lv_iload_n S.1 S.2.1 dX3_bend_36 rfl (lv_at hl 5 rfl) ?_
      refine z_imul S dX3_bend_37 ?_
      refine lv_aload_n S.1 S.2.1 dX3_bend_38 rfl (lv_at hl 3 rfl) ?_
      refine z_get (v := .ref (a 5)) S inA3 hK hP 1 rfl rfl 1 (by decide) fl_X3_15 rfl dX3_bend_39 ?_
      refine lv_iload S.1 S.2.1 dX3_bend_42 (lv_at hl 1 rfl) ?_
      refine z_iald S hK hP 5 rfl (by decide) (by omega) dX3_bend_44 ?_
      have hb_4 := hI.r0 (k5 : Int)
      refine z_rN (As := [.int (zI ((c.2 1 (k5 : Int)) * feel)), .int (zI (c.2 0 (k5 : Int)))]) (rest := []) S (m_X4_quotient l D g ((c.2 1 (k5 : Int)) * feel) (c.2 0 (k5 : Int)) (by omega)) nw_X3_61 sm_X4_quotient ini_X4 cd_X4_quotient ds_X4_quotient ⟨Nat.le_of_ble_eq_true rfl, Nat.le_of_ble_eq_true rfl⟩ hK va_P_nil rfl hl.1 rfl (Nat.le_of_ble_eq_true rfl) ⟨Nat.zero_le _, Nat.zero_le _⟩ dX3_bend_45 ?_
      refine lv_istore (lv' := [(6, .int (zI (((c.2 1 (k5 : Int)) * feel) / (c.2 0 (k5 : Int))))), (5, .int (zI (c.2 2 (((k5 : Int) * 400) + sp)))), (4, .int (zI (k5 : Int))), (3, .int (zI (vbend c sp feel k5))), (0, .ref (a 1)), (1, .int (zI sp)), (2, .int (zI feel))]) S.1 S.2.1 dX3_bend_48 hl (by decide) rfl (fun ls hl => ?_)
      refine lv_iload S.1 S.2.1 dX3_bend_50 (lv_at hl 1 rfl) ?_
      refine z_iconst S dX3_bend_52 ?_
      refine z_icmp_ne (tgt := 64) S dX3_bend_53 (by decide) (by omega) (fun h_5 => ?_) (fun h_5 => ?_)
      · refine lv_iload S.1 S.2.1 dX3_bend_64 (lv_at hl 1 rfl) ?_
        refine z_iconst S dX3_bend_66 ?_
        refine z_icmp_ne (tgt := 77) S dX3_bend_67 (by decide) (by omega) (fun h_6 => ?_) (fun h_6 => ?_)
        · refine z_iinc (lv' := [(4, .int (zI ((k5 : Int) + 1))), (6, .int (zI (((c.2 1 (k5 : Int)) * feel) / (c.2 0 (k5 : Int))))), (5, .int (zI (c.2 2 (((k5 : Int) * 400) + sp)))), (3, .int (zI (vbend c sp feel k5))), (0, .ref (a 1)), (1, .int (zI sp)), (2, .int (zI feel))]) S dX3_bend_77 hl (k := 2) rfl (by decide) rfl (fun ls hl => ?_)
          refine z_goto (tgt := 5) S dX3_bend_80 (by decide) ?_
          have e_7 : vbend c sp feel (k5 + 1) = vbend c sp feel k5 := by grind [vbend, sm, vterm]
          exact ih5 _ (lv_sub hl [0, 3, 4, 5, 6] (by show _ = ([(4, .int (zI ((k5 + 1 : Nat) : Int))), (3, .int (zI (vbend c sp feel (k5 + 1)))), (0, .ref (a 1)), (1, .int (zI sp)), (2, .int (zI feel))] : List (Nat × Value)); rw [e_7]; first | done | rfl)) trivial
        · refine lv_iload_n S.1 S.2.1 dX3_bend_70 rfl (lv_at hl 3 rfl) ?_
          refine lv_iload S.1 S.2.1 dX3_bend_71 (lv_at hl 0 rfl) ?_
          refine z_iconst S dX3_bend_73 ?_
          refine z_idivn S (by omega) dX3_bend_74 ?_
          refine z_iadd S dX3_bend_75 ?_
          refine lv_istore_n (lv' := [(3, .int (zI ((vbend c sp feel k5) + ((((c.2 1 (k5 : Int)) * feel) / (c.2 0 (k5 : Int))) / 2)))), (6, .int (zI (((c.2 1 (k5 : Int)) * feel) / (c.2 0 (k5 : Int))))), (5, .int (zI (c.2 2 (((k5 : Int) * 400) + sp)))), (4, .int (zI (k5 : Int))), (0, .ref (a 1)), (1, .int (zI sp)), (2, .int (zI feel))]) S.1 S.2.1 dX3_bend_76 rfl hl (by decide) rfl (fun ls hl => ?_)
          refine z_iinc (lv' := [(4, .int (zI ((k5 : Int) + 1))), (3, .int (zI ((vbend c sp feel k5) + ((((c.2 1 (k5 : Int)) * feel) / (c.2 0 (k5 : Int))) / 2)))), (6, .int (zI (((c.2 1 (k5 : Int)) * feel) / (c.2 0 (k5 : Int))))), (5, .int (zI (c.2 2 (((k5 : Int) * 400) + sp)))), (0, .ref (a 1)), (1, .int (zI sp)), (2, .int (zI feel))]) S dX3_bend_77 hl (k := 3) rfl (by decide) rfl (fun ls hl => ?_)
          refine z_goto (tgt := 5) S dX3_bend_80 (by decide) ?_
          have e_8 : vbend c sp feel (k5 + 1) = (vbend c sp feel k5) + ((((c.2 1 (k5 : Int)) * feel) / (c.2 0 (k5 : Int))) / 2) := by grind [vbend, sm, vterm]
          exact ih5 _ (lv_sub hl [0, 1, 4, 5, 6] (by show _ = ([(4, .int (zI ((k5 + 1 : Nat) : Int))), (3, .int (zI (vbend c sp feel (k5 + 1)))), (0, .ref (a 1)), (1, .int (zI sp)), (2, .int (zI feel))] : List (Nat × Value)); rw [e_8]; first | done | rfl)) trivial
      · refine lv_iload_n S.1 S.2.1 dX3_bend_56 rfl (lv_at hl 3 rfl) ?_
        refine lv_iload S.1 S.2.1 dX3_bend_57 (lv_at hl 0 rfl) ?_
        refine z_iadd S dX3_bend_59 ?_
        refine lv_istore_n (lv' := [(3, .int (zI ((vbend c sp feel k5) + (((c.2 1 (k5 : Int)) * feel) / (c.2 0 (k5 : Int)))))), (6, .int (zI (((c.2 1 (k5 : Int)) * feel) / (c.2 0 (k5 : Int))))), (5, .int (zI (c.2 2 (((k5 : Int) * 400) + sp)))), (4, .int (zI (k5 : Int))), (0, .ref (a 1)), (1, .int (zI sp)), (2, .int (zI feel))]) S.1 S.2.1 dX3_bend_60 rfl hl (by decide) rfl (fun ls hl => ?_)
        refine z_goto (tgt := 77) S dX3_bend_61 (by decide) ?_
        refine z_iinc (lv' := [(4, .int (zI ((k5 : Int) + 1))), (3, .int (zI ((vbend c sp feel k5) + (((c.2 1 (k5 : Int)) * feel) / (c.2 0 (k5 : Int)))))), (6, .int (zI (((c.2 1 (k5 : Int)) * feel) / (c.2 0 (k5 : Int))))), (5, .int (zI (c.2 2 (((k5 : Int) * 400) + sp)))), (0, .ref (a 1)), (1, .int (zI sp)), (2, .int (zI feel))]) S dX3_bend_77 hl (k := 3) rfl (by decide) rfl (fun ls hl => ?_)
        refine z_goto (tgt := 5) S dX3_bend_80 (by decide) ?_
        have e_9 : vbend c sp feel (k5 + 1) = (vbend c sp feel k5) + (((c.2 1 (k5 : Int)) * feel) / (c.2 0 (k5 : Int))) := by grind [vbend, sm, vterm]
        exact ih5 _ (lv_sub hl [0, 1, 4, 5, 6] (by show _ = ([(4, .int (zI ((k5 + 1 : Nat) : Int))), (3, .int (zI (vbend c sp feel (k5 + 1)))), (0, .ref (a 1)), (1, .int (zI sp)), (2, .int (zI feel))] : List (Nat × Value)); rw [e_9]; first | done | rfl)) trivial
  · have hl : lv_has ls 7 [(4, .int (zI (((c.1 2).toNat : Nat) : Int))), (3, .int (zI (vbend c sp feel ((c.1 2).toNat)))), (0, .ref (a 1)), (1, .int (zI sp)), (2, .int (zI feel))] := hl
    refine lv_iload S.1 S.2.1 dX3_bend_5 (lv_at hl 0 rfl) ?_
    refine lv_aload_n S.1 S.2.1 dX3_bend_7 rfl (lv_at hl 2 rfl) ?_
    refine z_get (v := .int (zI (c.1 2))) S inA3 hK hP 1 rfl rfl 0 (by decide) fl_X3_9 rfl dX3_bend_8 ?_
    refine z_icmp_ge (tgt := 83) S dX3_bend_11 (by decide) (by omega) (fun h_10 => ?_) (fun h_10 => ?_)
    · refine lv_iload_n S.1 S.2.1 dX3_bend_83 rfl (lv_at hl 1 rfl) ?_
      exact z_ret S hr hlk (by first | rfl | grind) dX3_bend_84
    · exact absurd h_10 (by omega)
set_option maxHeartbeats 4000000 in
set_option maxRecDepth 100000 in
theorem m_X3_wetSpots (l : Launch) (D : va_G) (g : ClassId × ClassId × ClassId) (a : Nat → Nat) {B : Int} (c : CS) (hI : IC B c) : RD l yX3_wetSpots cX3_wetSpots 3 (some .int) 0 0 D g (CW g a c) [.ref (a 1)] (wet c) := by
  refine z_enter RX3 (by decide) rfl (Nat.le_of_ble_eq_true rfl) ?_
  intro p e s m args below meth co S hr hlk hK hP ls hl
  have hl : lv_has ls 3 [(0, .ref (a 1))] := hl
  have hs := hI.s
  refine z_iconst S dX3_wetSpots_0 ?_
  refine lv_istore_n (lv' := [(1, .int (zI 0)), (0, .ref (a 1))]) S.1 S.2.1 dX3_wetSpots_1 rfl hl (by decide) rfl (fun ls hl => ?_)
  refine z_iconst S dX3_wetSpots_2 ?_
  refine lv_istore_n (lv' := [(2, .int (zI 0)), (1, .int (zI 0)), (0, .ref (a 1))]) S.1 S.2.1 dX3_wetSpots_3 rfl hl (by decide) rfl (fun ls hl => ?_)
  refine z_for (nL := 3) (400) (fun (k4 : Nat) => [(2, .int (zI (k4 : Int))), (1, .int (zI (sm (fun j => b01 (0 < c.2 3 j)) k4))), (0, .ref (a 1))]) (fun k4 => True) (fun k4 hk4 hJ4 ls hl ih4 => ?_) (fun hJ4 ls hl => ?_) 0 (by omega) trivial ls (lv_sub hl [0, 1, 2] rfl)
  · have hl : lv_has ls 3 [(2, .int (zI (k4 : Int))), (1, .int (zI (sm (fun j => b01 (0 < c.2 3 j)) k4))), (0, .ref (a 1))] := hl
    refine lv_iload_n S.1 S.2.1 dX3_wetSpots_4 rfl (lv_at hl 0 rfl) ?_
    refine z_sipush S (by decide) dX3_wetSpots_5 ?_
    refine z_icmp_ge (tgt := 29) S dX3_wetSpots_8 (by decide) (by omega) (fun h_1 => ?_) (fun h_1 => ?_)
    · exact absurd h_1 (by omega)
    · refine lv_aload_n S.1 S.2.1 dX3_wetSpots_11 rfl (lv_at hl 2 rfl) ?_
      refine z_get (v := .ref (a 8)) S inA3 hK hP 1 rfl rfl 4 (by decide) fl_X3_25 rfl dX3_wetSpots_12 ?_
      refine lv_iload_n S.1 S.2.1 dX3_wetSpots_15 rfl (lv_at hl 0 rfl) ?_
      refine z_iald S hK hP 8 rfl (by decide) (by omega) dX3_wetSpots_16 ?_
      have hb_2 := hI.r3 (k4 : Int)
      refine z_if_le (tgt := 23) S dX3_wetSpots_17 (by decide) (by omega) (fun h_3 => ?_) (fun h_3 => ?_)
      · refine z_iinc (lv' := [(2, .int (zI ((k4 : Int) + 1))), (1, .int (zI (sm (fun j => b01 (0 < c.2 3 j)) k4))), (0, .ref (a 1))]) S dX3_wetSpots_23 hl (k := 0) rfl (by decide) rfl (fun ls hl => ?_)
        refine z_goto (tgt := 4) S dX3_wetSpots_26 (by decide) ?_
        have e_4 : sm (fun j => b01 (0 < c.2 3 j)) (k4 + 1) = sm (fun j => b01 (0 < c.2 3 j)) k4 := by grind [sm, b01]
        exact ih4 _ (lv_sub hl [0, 1, 2] (by show _ = ([(2, .int (zI ((k4 + 1 : Nat) : Int))), (1, .int (zI (sm (fun j => b01 (0 < c.2 3 j)) (k4 + 1)))), (0, .ref (a 1))] : List (Nat × Value)); rw [e_4]; first | done | rfl)) trivial
      · refine z_iinc (lv' := [(1, .int (zI ((sm (fun j => b01 (0 < c.2 3 j)) k4) + 1))), (2, .int (zI (k4 : Int))), (0, .ref (a 1))]) S dX3_wetSpots_20 hl (k := 1) rfl (by decide) rfl (fun ls hl => ?_)
        refine z_iinc (lv' := [(2, .int (zI ((k4 : Int) + 1))), (1, .int (zI ((sm (fun j => b01 (0 < c.2 3 j)) k4) + 1))), (0, .ref (a 1))]) S dX3_wetSpots_23 hl (k := 1) rfl (by decide) rfl (fun ls hl => ?_)
        refine z_goto (tgt := 4) S dX3_wetSpots_26 (by decide) ?_
        have e_5 : sm (fun j => b01 (0 < c.2 3 j)) (k4 + 1) = (sm (fun j => b01 (0 < c.2 3 j)) k4) + 1 := by grind [sm, b01]
        exact ih4 _ (lv_sub hl [0, 1, 2] (by show _ = ([(2, .int (zI ((k4 + 1 : Nat) : Int))), (1, .int (zI (sm (fun j => b01 (0 < c.2 3 j)) (k4 + 1)))), (0, .ref (a 1))] : List (Nat × Value)); rw [e_5]; first | done | rfl)) trivial
  · have hl : lv_has ls 3 [(2, .int (zI ((400 : Nat) : Int))), (1, .int (zI (sm (fun j => b01 (0 < c.2 3 j)) 400))), (0, .ref (a 1))] := hl
    refine lv_iload_n S.1 S.2.1 dX3_wetSpots_4 rfl (lv_at hl 0 rfl) ?_
    refine z_sipush S (by decide) dX3_wetSpots_5 ?_
    refine z_icmp_ge (tgt := 29) S dX3_wetSpots_8 (by decide) (by omega) (fun h_6 => ?_) (fun h_6 => ?_)
    · refine lv_iload_n S.1 S.2.1 dX3_wetSpots_29 rfl (lv_at hl 1 rfl) ?_
      exact z_ret S hr hlk (by first | rfl | grind) dX3_wetSpots_30
    · exact absurd h_6 (by omega)
set_option maxHeartbeats 4000000 in
set_option maxRecDepth 100000 in
theorem m_X0_add (l : Launch) (D : va_G) (g : ClassId × ClassId × ClassId) (a : Nat → Nat) {B : Int} (c : CS) (hI : IC B c) (hda : CD 21 a) (fl : Int) (ln : Int) (h0 : c.1 3 < 5) : WRi l yX0_add cX0_add 4 (some .int) 0 0 D g (CA 21 a) (CW g a c) [.ref (a 2), .int (zI fl), .int (zI ln)] (CW g a (sS (sA (sA (sA c 5 (upZ (c.2 5) (c.1 3) fl)) 6 (upZ (c.2 6) (c.1 3) ln)) 7 (upZ (c.2 7) (c.1 3) 50)) 3 (c.1 3 + 1))) (c.1 3) := by
  refine z_enter RX0 (by decide) rfl (Nat.le_of_ble_eq_true rfl) ?_
  intro p e s m args below meth co S hr hlk hK hP ls hl
  have hl : lv_has ls 4 [(0, .ref (a 2)), (1, .int (zI fl)), (2, .int (zI ln))] := hl
  have hs := hI.s
  have hS : va_S (CA 21 a) s.heap s.heap [] := va_S.rf
  refine lv_aload_n S.1 S.2.1 dX0_add_0 rfl (lv_at hl 0 rfl) ?_
  refine z_get (v := .int (zI (c.1 3))) S inA0 hK hP 2 rfl rfl 0 (by decide) fl_X0_9 rfl dX0_add_1 ?_
  refine lv_istore_n (lv' := [(3, .int (zI (c.1 3))), (0, .ref (a 2)), (1, .int (zI fl)), (2, .int (zI ln))]) S.1 S.2.1 dX0_add_4 rfl hl (by decide) rfl (fun ls hl => ?_)
  refine lv_aload_n S.1 S.2.1 dX0_add_5 rfl (lv_at hl 1 rfl) ?_
  refine z_get (v := .ref (a 10)) S inA0 hK hP 2 rfl rfl 1 (by decide) fl_X0_15 rfl dX0_add_6 ?_
  refine lv_iload_n S.1 S.2.1 dX0_add_9 rfl (lv_at hl 0 rfl) ?_
  refine lv_iload_n S.1 S.2.1 dX0_add_10 rfl (lv_at hl 2 rfl) ?_
  refine z_iast S hK hP (CW_D hda _) hS 10 rfl (by decide) (by omega) dX0_add_11 (fun H locs hP hS => ?_)
  have hP : va_P D vwCl (CW g a (sA c 5 (upZ (c.2 5) (c.1 3) fl))) H := hP
  refine lv_aload_n S.1 S.2.1 dX0_add_12 rfl (lv_at hl 1 rfl) ?_
  refine z_get (v := .ref (a 11)) S inA0 hK hP 2 rfl rfl 2 (by decide) fl_X0_19 rfl dX0_add_13 ?_
  refine lv_iload_n S.1 S.2.1 dX0_add_16 rfl (lv_at hl 0 rfl) ?_
  refine lv_iload_n S.1 S.2.1 dX0_add_17 rfl (lv_at hl 3 rfl) ?_
  refine z_iast S hK hP (CW_D hda _) hS 11 rfl (by decide) (by omega) dX0_add_18 (fun H locs hP hS => ?_)
  have hP : va_P D vwCl (CW g a (sA (sA c 5 (upZ (c.2 5) (c.1 3) fl)) 6 (upZ (c.2 6) (c.1 3) ln))) H := hP
  refine lv_aload_n S.1 S.2.1 dX0_add_19 rfl (lv_at hl 1 rfl) ?_
  refine z_get (v := .ref (a 12)) S inA0 hK hP 2 rfl rfl 3 (by decide) fl_X0_22 rfl dX0_add_20 ?_
  refine lv_iload_n S.1 S.2.1 dX0_add_23 rfl (lv_at hl 0 rfl) ?_
  refine z_bipush S (by decide) dX0_add_24 ?_
  refine z_iast S hK hP (CW_D hda _) hS 12 rfl (by decide) (by omega) dX0_add_26 (fun H locs hP hS => ?_)
  have hP : va_P D vwCl (CW g a (sA (sA (sA c 5 (upZ (c.2 5) (c.1 3) fl)) 6 (upZ (c.2 6) (c.1 3) ln)) 7 (upZ (c.2 7) (c.1 3) 50))) H := hP
  refine lv_aload_n S.1 S.2.1 dX0_add_27 rfl (lv_at hl 1 rfl) ?_
  refine lv_dup S.1 S.2.1 dX0_add_28 rfl ?_
  refine z_get (v := .int (zI (c.1 3))) S inA0 hK hP 2 rfl rfl 0 (by decide) fl_X0_9 rfl dX0_add_29 ?_
  refine z_iconst S dX0_add_32 ?_
  refine z_iadd S dX0_add_33 ?_
  refine z_put S inA0 tyX0 tyX0_ok nmX0 hK hP (CW_D hda _) hS 2 rfl rfl 0 (by decide) fl_X0_9 rfl (by decide +kernel) (Nat.le_of_ble_eq_true rfl) dX0_add_34 (fun H locs hP hS => ?_)
  have hP : va_P D vwCl (CW g a (sS (sA (sA (sA c 5 (upZ (c.2 5) (c.1 3) fl)) 6 (upZ (c.2 6) (c.1 3) ln)) 7 (upZ (c.2 7) (c.1 3) 50)) 3 ((c.1 3) + 1))) H := hP
  refine lv_iload_n S.1 S.2.1 dX0_add_37 rfl (lv_at hl 0 rfl) ?_
  have hw : CW g a (sS (sA (sA (sA c 5 (upZ (c.2 5) (c.1 3) fl)) 6 (upZ (c.2 6) (c.1 3) ln)) 7 (upZ (c.2 7) (c.1 3) 50)) 3 ((c.1 3) + 1)) = CW g a (sS (sA (sA (sA c 5 (upZ (c.2 5) (c.1 3) fl)) 6 (upZ (c.2 6) (c.1 3) ln)) 7 (upZ (c.2 7) (c.1 3) 50)) 3 (c.1 3 + 1)) := by exact rfl
  rw [hw] at hP
  exact z_retw S hr hlk (by first | rfl | grind) hP hS dX0_add_38
set_option maxHeartbeats 4000000 in
set_option maxRecDepth 100000 in
theorem m_X0_allCoins (l : Launch) (D : va_G) (g : ClassId × ClassId × ClassId) (a : Nat → Nat) {B : Int} (c : CS) (hI : IC B c) : RD l yX0_allCoins cX0_allCoins 3 (some .int) 0 0 D g (CW g a c) [.ref (a 2)] (allC c) := by
  refine z_enter RX0 (by decide) rfl (Nat.le_of_ble_eq_true rfl) ?_
  intro p e s m args below meth co S hr hlk hK hP ls hl
  have hl : lv_has ls 3 [(0, .ref (a 2))] := hl
  have hs := hI.s
  refine z_iconst S dX0_allCoins_0 ?_
  refine lv_istore_n (lv' := [(1, .int (zI 0)), (0, .ref (a 2))]) S.1 S.2.1 dX0_allCoins_1 rfl hl (by decide) rfl (fun ls hl => ?_)
  refine z_iconst S dX0_allCoins_2 ?_
  refine lv_istore_n (lv' := [(2, .int (zI 0)), (1, .int (zI 0)), (0, .ref (a 2))]) S.1 S.2.1 dX0_allCoins_3 rfl hl (by decide) rfl (fun ls hl => ?_)
  refine z_for (nL := 3) ((c.1 3).toNat) (fun (k4 : Nat) => [(2, .int (zI (k4 : Int))), (1, .int (zI (sm (fun j => c.2 7 j) k4))), (0, .ref (a 2))]) (fun k4 => True) (fun k4 hk4 hJ4 ls hl ih4 => ?_) (fun hJ4 ls hl => ?_) 0 (by omega) trivial ls (lv_sub hl [0, 1, 2] rfl)
  · have hl : lv_has ls 3 [(2, .int (zI (k4 : Int))), (1, .int (zI (sm (fun j => c.2 7 j) k4))), (0, .ref (a 2))] := hl
    refine lv_iload_n S.1 S.2.1 dX0_allCoins_4 rfl (lv_at hl 0 rfl) ?_
    refine lv_aload_n S.1 S.2.1 dX0_allCoins_5 rfl (lv_at hl 2 rfl) ?_
    refine z_get (v := .int (zI (c.1 3))) S inA0 hK hP 2 rfl rfl 0 (by decide) fl_X0_9 rfl dX0_allCoins_6 ?_
    refine z_icmp_ge (tgt := 27) S dX0_allCoins_9 (by decide) (by omega) (fun h_1 => ?_) (fun h_1 => ?_)
    · exact absurd h_1 (by omega)
    · refine lv_iload_n S.1 S.2.1 dX0_allCoins_12 rfl (lv_at hl 1 rfl) ?_
      refine lv_aload_n S.1 S.2.1 dX0_allCoins_13 rfl (lv_at hl 2 rfl) ?_
      refine z_get (v := .ref (a 12)) S inA0 hK hP 2 rfl rfl 3 (by decide) fl_X0_22 rfl dX0_allCoins_14 ?_
      refine lv_iload_n S.1 S.2.1 dX0_allCoins_17 rfl (lv_at hl 0 rfl) ?_
      refine z_iald S hK hP 12 rfl (by decide) (by omega) dX0_allCoins_18 ?_
      have hb_2 := hI.r7 (k4 : Int)
      refine z_iadd S dX0_allCoins_19 ?_
      refine lv_istore_n (lv' := [(1, .int (zI ((sm (fun j => c.2 7 j) k4) + (c.2 7 (k4 : Int))))), (2, .int (zI (k4 : Int))), (0, .ref (a 2))]) S.1 S.2.1 dX0_allCoins_20 rfl hl (by decide) rfl (fun ls hl => ?_)
      refine z_iinc (lv' := [(2, .int (zI ((k4 : Int) + 1))), (1, .int (zI ((sm (fun j => c.2 7 j) k4) + (c.2 7 (k4 : Int))))), (0, .ref (a 2))]) S dX0_allCoins_21 hl (k := 1) rfl (by decide) rfl (fun ls hl => ?_)
      refine z_goto (tgt := 4) S dX0_allCoins_24 (by decide) ?_
      exact ih4 _ (lv_sub hl [0, 1, 2] rfl) trivial
  · have hl : lv_has ls 3 [(2, .int (zI (((c.1 3).toNat : Nat) : Int))), (1, .int (zI (sm (fun j => c.2 7 j) ((c.1 3).toNat)))), (0, .ref (a 2))] := hl
    refine lv_iload_n S.1 S.2.1 dX0_allCoins_4 rfl (lv_at hl 0 rfl) ?_
    refine lv_aload_n S.1 S.2.1 dX0_allCoins_5 rfl (lv_at hl 2 rfl) ?_
    refine z_get (v := .int (zI (c.1 3))) S inA0 hK hP 2 rfl rfl 0 (by decide) fl_X0_9 rfl dX0_allCoins_6 ?_
    refine z_icmp_ge (tgt := 27) S dX0_allCoins_9 (by decide) (by omega) (fun h_3 => ?_) (fun h_3 => ?_)
    · refine lv_iload_n S.1 S.2.1 dX0_allCoins_27 rfl (lv_at hl 1 rfl) ?_
      exact z_ret S hr hlk (by first | rfl | grind) dX0_allCoins_28
    · exact absurd h_3 (by omega)
set_option maxHeartbeats 4000000 in
set_option maxRecDepth 100000 in
theorem m_X2_add (l : Launch) (D : va_G) (g : ClassId × ClassId × ClassId) (a : Nat → Nat) {B : Int} (c : CS) (hI : IC B c) (hda : CD 21 a) (sp : Int) (dw : Int) (h0 : c.1 5 < 10) (h1 : 0 ≤ sp ∧ sp < 400) : WRi l yX2_add cX2_add 4 (some .int) 0 0 D g (CA 21 a) (CW g a c) [.ref (a 4), .int (zI sp), .int (zI dw)] (CW g a (sS (sA (sA (sA c 11 (upZ (c.2 11) (c.1 5) sp)) 12 (upZ (c.2 12) (c.1 5) dw)) 10 (upZ (c.2 10) sp (c.1 5))) 5 (c.1 5 + 1))) (c.1 5) := by
  refine z_enter RX2 (by decide) rfl (Nat.le_of_ble_eq_true rfl) ?_
  intro p e s m args below meth co S hr hlk hK hP ls hl
  have hl : lv_has ls 4 [(0, .ref (a 4)), (1, .int (zI sp)), (2, .int (zI dw))] := hl
  have hs := hI.s
  have hS : va_S (CA 21 a) s.heap s.heap [] := va_S.rf
  refine lv_aload_n S.1 S.2.1 dX2_add_0 rfl (lv_at hl 0 rfl) ?_
  refine z_get (v := .int (zI (c.1 5))) S inA2 hK hP 4 rfl rfl 0 (by decide) fl_X2_9 rfl dX2_add_1 ?_
  refine lv_istore_n (lv' := [(3, .int (zI (c.1 5))), (0, .ref (a 4)), (1, .int (zI sp)), (2, .int (zI dw))]) S.1 S.2.1 dX2_add_4 rfl hl (by decide) rfl (fun ls hl => ?_)
  refine lv_aload_n S.1 S.2.1 dX2_add_5 rfl (lv_at hl 1 rfl) ?_
  refine z_get (v := .ref (a 16)) S inA2 hK hP 4 rfl rfl 2 (by decide) fl_X2_25 rfl dX2_add_6 ?_
  refine lv_iload_n S.1 S.2.1 dX2_add_9 rfl (lv_at hl 0 rfl) ?_
  refine lv_iload_n S.1 S.2.1 dX2_add_10 rfl (lv_at hl 2 rfl) ?_
  refine z_iast S hK hP (CW_D hda _) hS 16 rfl (by decide) (by omega) dX2_add_11 (fun H locs hP hS => ?_)
  have hP : va_P D vwCl (CW g a (sA c 11 (upZ (c.2 11) (c.1 5) sp))) H := hP
  refine lv_aload_n S.1 S.2.1 dX2_add_12 rfl (lv_at hl 1 rfl) ?_
  refine z_get (v := .ref (a 17)) S inA2 hK hP 4 rfl rfl 3 (by decide) fl_X2_28 rfl dX2_add_13 ?_
  refine lv_iload_n S.1 S.2.1 dX2_add_16 rfl (lv_at hl 0 rfl) ?_
  refine lv_iload_n S.1 S.2.1 dX2_add_17 rfl (lv_at hl 3 rfl) ?_
  refine z_iast S hK hP (CW_D hda _) hS 17 rfl (by decide) (by omega) dX2_add_18 (fun H locs hP hS => ?_)
  have hP : va_P D vwCl (CW g a (sA (sA c 11 (upZ (c.2 11) (c.1 5) sp)) 12 (upZ (c.2 12) (c.1 5) dw))) H := hP
  refine lv_aload_n S.1 S.2.1 dX2_add_19 rfl (lv_at hl 1 rfl) ?_
  refine z_get (v := .ref (a 15)) S inA2 hK hP 4 rfl rfl 1 (by decide) fl_X2_15 rfl dX2_add_20 ?_
  refine lv_iload_n S.1 S.2.1 dX2_add_23 rfl (lv_at hl 2 rfl) ?_
  refine lv_iload_n S.1 S.2.1 dX2_add_24 rfl (lv_at hl 0 rfl) ?_
  refine z_iast S hK hP (CW_D hda _) hS 15 rfl (by decide) (by omega) dX2_add_25 (fun H locs hP hS => ?_)
  have hP : va_P D vwCl (CW g a (sA (sA (sA c 11 (upZ (c.2 11) (c.1 5) sp)) 12 (upZ (c.2 12) (c.1 5) dw)) 10 (upZ (c.2 10) sp (c.1 5)))) H := hP
  refine lv_aload_n S.1 S.2.1 dX2_add_26 rfl (lv_at hl 1 rfl) ?_
  refine lv_dup S.1 S.2.1 dX2_add_27 rfl ?_
  refine z_get (v := .int (zI (c.1 5))) S inA2 hK hP 4 rfl rfl 0 (by decide) fl_X2_9 rfl dX2_add_28 ?_
  refine z_iconst S dX2_add_31 ?_
  refine z_iadd S dX2_add_32 ?_
  refine z_put S inA2 tyX2 tyX2_ok nmX2 hK hP (CW_D hda _) hS 4 rfl rfl 0 (by decide) fl_X2_9 rfl (by decide +kernel) (Nat.le_of_ble_eq_true rfl) dX2_add_33 (fun H locs hP hS => ?_)
  have hP : va_P D vwCl (CW g a (sS (sA (sA (sA c 11 (upZ (c.2 11) (c.1 5) sp)) 12 (upZ (c.2 12) (c.1 5) dw)) 10 (upZ (c.2 10) sp (c.1 5))) 5 ((c.1 5) + 1))) H := hP
  refine lv_iload_n S.1 S.2.1 dX2_add_36 rfl (lv_at hl 0 rfl) ?_
  have hw : CW g a (sS (sA (sA (sA c 11 (upZ (c.2 11) (c.1 5) sp)) 12 (upZ (c.2 12) (c.1 5) dw)) 10 (upZ (c.2 10) sp (c.1 5))) 5 ((c.1 5) + 1)) = CW g a (sS (sA (sA (sA c 11 (upZ (c.2 11) (c.1 5) sp)) 12 (upZ (c.2 12) (c.1 5) dw)) 10 (upZ (c.2 10) sp (c.1 5))) 5 (c.1 5 + 1)) := by exact rfl
  rw [hw] at hP
  exact z_retw S hr hlk (by first | rfl | grind) hP hS dX2_add_37
set_option maxHeartbeats 4000000 in
set_option maxRecDepth 100000 in
theorem m_X2_hasFound (l : Launch) (D : va_G) (g : ClassId × ClassId × ClassId) (a : Nat → Nat) {B : Int} (c : CS) (hI : IC B c) (q : Int) (h0 : 0 ≤ q ∧ q < 10) : RD l yX2_hasFound cX2_hasFound 2 (some .boolean) 0 0 D g (CW g a c) [.ref (a 4), .int (zI q)] (b01 (fnd c q)) := by
  refine z_enter RX2 (by decide) rfl (Nat.le_of_ble_eq_true rfl) ?_
  intro p e s m args below meth co S hr hlk hK hP ls hl
  have hl : lv_has ls 2 [(0, .ref (a 4)), (1, .int (zI q))] := hl
  have hs := hI.s
  refine lv_aload_n S.1 S.2.1 dX2_hasFound_0 rfl (lv_at hl 0 rfl) ?_
  refine z_get (v := .ref (a 17)) S inA2 hK hP 4 rfl rfl 3 (by decide) fl_X2_28 rfl dX2_hasFound_1 ?_
  refine lv_iload_n S.1 S.2.1 dX2_hasFound_4 rfl (lv_at hl 1 rfl) ?_
  refine z_iald S hK hP 17 rfl (by decide) (by omega) dX2_hasFound_5 ?_
  have hb_1 := hI.r12 q
  refine z_if_le (tgt := 28) S dX2_hasFound_6 (by decide) (by omega) (fun h_2 => ?_) (fun h_2 => ?_)
  · refine z_iconst S dX2_hasFound_28 ?_
    exact z_retb S hr hlk (Or.inl rfl) ((b01_f (by omega)).symm) dX2_hasFound_29
  · refine lv_aload_n S.1 S.2.1 dX2_hasFound_9 rfl (lv_at hl 0 rfl) ?_
    refine z_get (v := .ref (a 18)) S inA2 hK hP 4 rfl rfl 4 (by decide) fl_X2_31 rfl dX2_hasFound_10 ?_
    refine lv_iload_n S.1 S.2.1 dX2_hasFound_13 rfl (lv_at hl 1 rfl) ?_
    refine z_iald S hK hP 18 rfl (by decide) (by omega) dX2_hasFound_14 ?_
    have hb_3 := hI.r13 q
    refine lv_aload_n S.1 S.2.1 dX2_hasFound_15 rfl (lv_at hl 0 rfl) ?_
    refine z_get (v := .ref (a 17)) S inA2 hK hP 4 rfl rfl 3 (by decide) fl_X2_28 rfl dX2_hasFound_16 ?_
    refine lv_iload_n S.1 S.2.1 dX2_hasFound_19 rfl (lv_at hl 1 rfl) ?_
    refine z_iald S hK hP 17 rfl (by decide) (by omega) dX2_hasFound_20 ?_
    have hb_4 := hI.r12 q
    refine z_icmp_lt (tgt := 28) S dX2_hasFound_21 (by decide) (by omega) (fun h_5 => ?_) (fun h_5 => ?_)
    · refine z_iconst S dX2_hasFound_28 ?_
      exact z_retb S hr hlk (Or.inl rfl) ((b01_f (by omega)).symm) dX2_hasFound_29
    · refine z_iconst S dX2_hasFound_24 ?_
      refine z_goto (tgt := 29) S dX2_hasFound_25 (by decide) ?_
      exact z_retb S hr hlk (Or.inr rfl) ((b01_t (by omega)).symm) dX2_hasFound_29
set_option maxHeartbeats 4000000 in
set_option maxRecDepth 100000 in
theorem m_X2_isOver (l : Launch) (D : va_G) (g : ClassId × ClassId × ClassId) (a : Nat → Nat) {B : Int} (c : CS) (hI : IC B c) (q : Int) (h0 : 0 ≤ q ∧ q < 10) : RD l yX2_isOver cX2_isOver 2 (some .boolean) 1 21 D g (CW g a c) [.ref (a 4), .int (zI q)] (b01 (over c q)) := by
  refine z_enter RX2 (by decide) rfl (Nat.le_of_ble_eq_true rfl) ?_
  intro p e s m args below meth co S hr hlk hK hP ls hl
  have hl : lv_has ls 2 [(0, .ref (a 4)), (1, .int (zI q))] := hl
  have hs := hI.s
  refine lv_aload_n S.1 S.2.1 dX2_isOver_0 rfl (lv_at hl 0 rfl) ?_
  refine lv_iload_n S.1 S.2.1 dX2_isOver_1 rfl (lv_at hl 1 rfl) ?_
  refine z_rV (As := [.int (zI q)]) (rest := []) S (m_X2_hasFound l D g a c hI q (by omega)) ml_X2_41 im_X2_hasFound se_X2_hasFound ini_X2 cd_X2_hasFound ds_X2_hasFound ⟨Nat.le_of_ble_eq_true rfl, Nat.le_of_ble_eq_true rfl⟩ hK hP (va_recv hK.1 hP (ci := 2) (q0 := 4) rfl rfl) rfl hl.1 rfl (Nat.le_of_ble_eq_true rfl) ⟨Nat.zero_le _, Nat.zero_le _⟩ dX2_isOver_2 ?_
  refine z_ifb_ne (tgt := 19) S dX2_isOver_5 (by decide) (fun h_1 => ?_) (fun h_1 => ?_)
  · refine z_iconst S dX2_isOver_19 ?_
    refine z_goto (tgt := 24) S dX2_isOver_20 (by decide) ?_
    exact z_retb S hr hlk (Or.inr rfl) ((b01_t (by omega)).symm) dX2_isOver_24
  · refine lv_aload_n S.1 S.2.1 dX2_isOver_8 rfl (lv_at hl 0 rfl) ?_
    refine z_get (v := .ref (a 18)) S inA2 hK hP 4 rfl rfl 4 (by decide) fl_X2_31 rfl dX2_isOver_9 ?_
    refine lv_iload_n S.1 S.2.1 dX2_isOver_12 rfl (lv_at hl 1 rfl) ?_
    refine z_iald S hK hP 18 rfl (by decide) (by omega) dX2_isOver_13 ?_
    have hb_2 := hI.r13 q
    refine z_bipush S (by decide) dX2_isOver_14 ?_
    refine z_icmp_lt (tgt := 23) S dX2_isOver_16 (by decide) (by omega) (fun h_3 => ?_) (fun h_3 => ?_)
    · refine z_iconst S dX2_isOver_23 ?_
      exact z_retb S hr hlk (Or.inl rfl) ((b01_f (by omega)).symm) dX2_isOver_24
    · refine z_iconst S dX2_isOver_19 ?_
      refine z_goto (tgt := 24) S dX2_isOver_20 (by decide) ?_
      exact z_retb S hr hlk (Or.inr rfl) ((b01_t (by omega)).symm) dX2_isOver_24
set_option maxHeartbeats 4000000 in
set_option maxRecDepth 100000 in
theorem m_X2_deepen (l : Launch) (D : va_G) (g : ClassId × ClassId × ClassId) (a : Nat → Nat) {B : Int} (c : CS) (hI : IC B c) (hda : CD 21 a) (q : Int) (by9 : Int) (h0 : 0 ≤ q ∧ q < 10) (h1 : 1 ≤ by9 ∧ by9 ≤ 20) : WRv l yX2_deepen cX2_deepen 4 none 1 21 D g (CA 21 a) (CW g a c) [.ref (a 4), .int (zI q), .int (zI by9)] (CW g a (sA c 13 (upZ (c.2 13) q (dpn c q by9)))) := by
  refine z_enter RX2 (by decide) rfl (Nat.le_of_ble_eq_true rfl) ?_
  intro p e s m args below meth co S hr hlk hK hP ls hl
  have hl : lv_has ls 4 [(0, .ref (a 4)), (1, .int (zI q)), (2, .int (zI by9))] := hl
  have hs := hI.s
  have hS : va_S (CA 21 a) s.heap s.heap [] := va_S.rf
  refine lv_aload_n S.1 S.2.1 dX2_deepen_0 rfl (lv_at hl 0 rfl) ?_
  refine z_get (v := .ref (a 17)) S inA2 hK hP 4 rfl rfl 3 (by decide) fl_X2_28 rfl dX2_deepen_1 ?_
  refine lv_iload_n S.1 S.2.1 dX2_deepen_4 rfl (lv_at hl 1 rfl) ?_
  refine z_iald S hK hP 17 rfl (by decide) (by omega) dX2_deepen_5 ?_
  have hb_1 := hI.r12 q
  refine z_if_le (tgt := 18) S dX2_deepen_6 (by decide) (by omega) (fun h_2 => ?_) (fun h_2 => ?_)
  · refine z_bipush S (by decide) dX2_deepen_18 ?_
    refine lv_istore_n (lv' := [(3, .int (zI 20)), (0, .ref (a 4)), (1, .int (zI q)), (2, .int (zI by9))]) S.1 S.2.1 dX2_deepen_20 rfl hl (by decide) rfl (fun ls hl => ?_)
    refine lv_aload_n S.1 S.2.1 dX2_deepen_21 rfl (lv_at hl 1 rfl) ?_
    refine z_get (v := .ref (a 18)) S inA2 hK hP 4 rfl rfl 4 (by decide) fl_X2_31 rfl dX2_deepen_22 ?_
    refine lv_iload_n S.1 S.2.1 dX2_deepen_25 rfl (lv_at hl 2 rfl) ?_
    refine lv_iload_n S.1 S.2.1 dX2_deepen_26 rfl (lv_at hl 0 rfl) ?_
    refine lv_aload_n S.1 S.2.1 dX2_deepen_27 rfl (lv_at hl 1 rfl) ?_
    refine z_get (v := .ref (a 18)) S inA2 hK hP 4 rfl rfl 4 (by decide) fl_X2_31 rfl dX2_deepen_28 ?_
    refine lv_iload_n S.1 S.2.1 dX2_deepen_31 rfl (lv_at hl 2 rfl) ?_
    refine z_iald S hK hP 18 rfl (by decide) (by omega) dX2_deepen_32 ?_
    have hb_3 := hI.r13 q
    refine lv_iload_n S.1 S.2.1 dX2_deepen_33 rfl (lv_at hl 3 rfl) ?_
    refine z_iadd S dX2_deepen_34 ?_
    refine z_min S ml_X2_45 hl.1 (Nat.le_of_ble_eq_true rfl) (Nat.le_of_ble_eq_true rfl) ⟨Nat.zero_le _, Nat.zero_le _⟩ (by omega) dX2_deepen_35 ?_
    refine z_iast S hK hP (CW_D hda _) hS 18 rfl (by decide) (by omega) dX2_deepen_38 (fun H locs hP hS => ?_)
    have hP : va_P D vwCl (CW g a (sA c 13 (upZ (c.2 13) q (min 20 ((c.2 13 q) + by9))))) H := hP
    have hw : CW g a (sA c 13 (upZ (c.2 13) q (min 20 ((c.2 13 q) + by9)))) = CW g a (sA c 13 (upZ (c.2 13) q (dpn c q by9))) := by first | rw [dpn, if_pos (by omega)] | rw [dpn, if_neg (by omega)]
    rw [hw] at hP
    exact z_retv S hr hlk hP hS dX2_deepen_39
  · refine lv_aload_n S.1 S.2.1 dX2_deepen_9 rfl (lv_at hl 0 rfl) ?_
    refine z_get (v := .ref (a 17)) S inA2 hK hP 4 rfl rfl 3 (by decide) fl_X2_28 rfl dX2_deepen_10 ?_
    refine lv_iload_n S.1 S.2.1 dX2_deepen_13 rfl (lv_at hl 1 rfl) ?_
    refine z_iald S hK hP 17 rfl (by decide) (by omega) dX2_deepen_14 ?_
    have hb_4 := hI.r12 q
    refine z_goto (tgt := 20) S dX2_deepen_15 (by decide) ?_
    refine lv_istore_n (lv' := [(3, .int (zI (c.2 12 q))), (0, .ref (a 4)), (1, .int (zI q)), (2, .int (zI by9))]) S.1 S.2.1 dX2_deepen_20 rfl hl (by decide) rfl (fun ls hl => ?_)
    refine lv_aload_n S.1 S.2.1 dX2_deepen_21 rfl (lv_at hl 1 rfl) ?_
    refine z_get (v := .ref (a 18)) S inA2 hK hP 4 rfl rfl 4 (by decide) fl_X2_31 rfl dX2_deepen_22 ?_
    refine lv_iload_n S.1 S.2.1 dX2_deepen_25 rfl (lv_at hl 2 rfl) ?_
    refine lv_iload_n S.1 S.2.1 dX2_deepen_26 rfl (lv_at hl 0 rfl) ?_
    refine lv_aload_n S.1 S.2.1 dX2_deepen_27 rfl (lv_at hl 1 rfl) ?_
    refine z_get (v := .ref (a 18)) S inA2 hK hP 4 rfl rfl 4 (by decide) fl_X2_31 rfl dX2_deepen_28 ?_
    refine lv_iload_n S.1 S.2.1 dX2_deepen_31 rfl (lv_at hl 2 rfl) ?_
    refine z_iald S hK hP 18 rfl (by decide) (by omega) dX2_deepen_32 ?_
    have hb_5 := hI.r13 q
    refine lv_iload_n S.1 S.2.1 dX2_deepen_33 rfl (lv_at hl 3 rfl) ?_
    refine z_iadd S dX2_deepen_34 ?_
    refine z_min S ml_X2_45 hl.1 (Nat.le_of_ble_eq_true rfl) (Nat.le_of_ble_eq_true rfl) ⟨Nat.zero_le _, Nat.zero_le _⟩ (by omega) dX2_deepen_35 ?_
    refine z_iast S hK hP (CW_D hda _) hS 18 rfl (by decide) (by omega) dX2_deepen_38 (fun H locs hP hS => ?_)
    have hP : va_P D vwCl (CW g a (sA c 13 (upZ (c.2 13) q (min (c.2 12 q) ((c.2 13 q) + by9))))) H := hP
    have hw : CW g a (sA c 13 (upZ (c.2 13) q (min (c.2 12 q) ((c.2 13 q) + by9)))) = CW g a (sA c 13 (upZ (c.2 13) q (dpn c q by9))) := by first | rw [dpn, if_pos (by omega)] | rw [dpn, if_neg (by omega)]
    rw [hw] at hP
    exact z_retv S hr hlk hP hS dX2_deepen_39
set_option maxHeartbeats 4000000 in
set_option maxRecDepth 100000 in
theorem m_X2_slip (l : Launch) (D : va_G) (g : ClassId × ClassId × ClassId) (q : Int) (d : Int) : RD l yX2_slip cX2_slip 2 (some .int) 0 0 D g [] [.int (zI q), .int (zI d)] (q * 5 + d) := by
  refine z_enter RX2 (by decide) rfl (Nat.le_of_ble_eq_true rfl) ?_
  intro p e s m args below meth co S hr hlk hK hP ls hl
  have hl : lv_has ls 2 [(0, .int (zI q)), (1, .int (zI d))] := hl
  refine lv_iload_n S.1 S.2.1 dX2_slip_0 rfl (lv_at hl 0 rfl) ?_
  refine z_iconst S dX2_slip_1 ?_
  refine z_imul S dX2_slip_2 ?_
  refine lv_iload_n S.1 S.2.1 dX2_slip_3 rfl (lv_at hl 1 rfl) ?_
  refine z_iadd S dX2_slip_4 ?_
  exact z_ret S hr hlk (by first | rfl | grind) dX2_slip_5
set_option maxHeartbeats 4000000 in
set_option maxRecDepth 100000 in
theorem m_X2_hasBet (l : Launch) (D : va_G) (g : ClassId × ClassId × ClassId) (a : Nat → Nat) {B : Int} (c : CS) (hI : IC B c) (q : Int) (d : Int) (h0 : 0 ≤ q ∧ q < 10) (h1 : 0 ≤ d ∧ d < 5) : RD l yX2_hasBet cX2_hasBet 3 (some .boolean) 1 21 D g (CW g a c) [.ref (a 4), .int (zI q), .int (zI d)] (b01 (0 < c.2 14 (q * 5 + d))) := by
  refine z_enter RX2 (by decide) rfl (Nat.le_of_ble_eq_true rfl) ?_
  intro p e s m args below meth co S hr hlk hK hP ls hl
  have hl : lv_has ls 3 [(0, .ref (a 4)), (1, .int (zI q)), (2, .int (zI d))] := hl
  have hs := hI.s
  refine lv_aload_n S.1 S.2.1 dX2_hasBet_0 rfl (lv_at hl 0 rfl) ?_
  refine z_get (v := .ref (a 19)) S inA2 hK hP 4 rfl rfl 5 (by decide) fl_X2_34 rfl dX2_hasBet_1 ?_
  refine lv_iload_n S.1 S.2.1 dX2_hasBet_4 rfl (lv_at hl 1 rfl) ?_
  refine lv_iload_n S.1 S.2.1 dX2_hasBet_5 rfl (lv_at hl 2 rfl) ?_
  refine z_rS (As := [.int (zI q), .int (zI d)]) (rest := [.ref (a 19)]) S (m_X2_slip l D g q d) ml_X2_51 sm_X2_slip ini_X2 cd_X2_slip ds_X2_slip ⟨Nat.le_of_ble_eq_true rfl, Nat.le_of_ble_eq_true rfl⟩ hK va_P_nil rfl hl.1 rfl (Nat.le_of_ble_eq_true rfl) ⟨Nat.zero_le _, Nat.zero_le _⟩ dX2_hasBet_6 ?_
  refine z_iald S hK hP 19 rfl (by decide) (by omega) dX2_hasBet_9 ?_
  have hb_1 := hI.r14 (q * 5 + d)
  refine z_if_le (tgt := 17) S dX2_hasBet_10 (by decide) (by omega) (fun h_2 => ?_) (fun h_2 => ?_)
  · refine z_iconst S dX2_hasBet_17 ?_
    exact z_retb S hr hlk (Or.inl rfl) ((b01_f (by omega)).symm) dX2_hasBet_18
  · refine z_iconst S dX2_hasBet_13 ?_
    refine z_goto (tgt := 18) S dX2_hasBet_14 (by decide) ?_
    exact z_retb S hr hlk (Or.inr rfl) ((b01_t (by omega)).symm) dX2_hasBet_18
set_option maxHeartbeats 4000000 in
set_option maxRecDepth 100000 in
theorem m_X2_takeBet (l : Launch) (D : va_G) (g : ClassId × ClassId × ClassId) (a : Nat → Nat) {B : Int} (c : CS) (hI : IC B c) (hda : CD 21 a) (q : Int) (d : Int) (co9 : Int) (f : Int) (h0 : 0 ≤ q ∧ q < 10) (h1 : 0 ≤ d ∧ d < 5) (h2 : 0 ≤ f ∧ f ≤ 1) : WRv l yX2_takeBet cX2_takeBet 5 none 1 21 D g (CA 21 a) (CW g a c) [.ref (a 4), .int (zI q), .int (zI d), .int (zI co9), .int (zI f)] (CW g a (sA (sA c 14 (upZ (c.2 14) (q * 5 + d) co9)) 15 (upZ (c.2 15) (q * 5 + d) f))) := by
  refine z_enter RX2 (by decide) rfl (Nat.le_of_ble_eq_true rfl) ?_
  intro p e s m args below meth co S hr hlk hK hP ls hl
  have hl : lv_has ls 5 [(0, .ref (a 4)), (1, .int (zI q)), (2, .int (zI d)), (3, .int (zI co9)), (4, .int (zI f))] := hl
  have hs := hI.s
  have hS : va_S (CA 21 a) s.heap s.heap [] := va_S.rf
  refine lv_aload_n S.1 S.2.1 dX2_takeBet_0 rfl (lv_at hl 0 rfl) ?_
  refine z_get (v := .ref (a 19)) S inA2 hK hP 4 rfl rfl 5 (by decide) fl_X2_34 rfl dX2_takeBet_1 ?_
  refine lv_iload_n S.1 S.2.1 dX2_takeBet_4 rfl (lv_at hl 1 rfl) ?_
  refine lv_iload_n S.1 S.2.1 dX2_takeBet_5 rfl (lv_at hl 2 rfl) ?_
  refine z_rS (As := [.int (zI q), .int (zI d)]) (rest := [.ref (a 19)]) S (m_X2_slip l D g q d) ml_X2_51 sm_X2_slip ini_X2 cd_X2_slip ds_X2_slip ⟨Nat.le_of_ble_eq_true rfl, Nat.le_of_ble_eq_true rfl⟩ hK va_P_nil rfl hl.1 rfl (Nat.le_of_ble_eq_true rfl) ⟨Nat.zero_le _, Nat.zero_le _⟩ dX2_takeBet_6 ?_
  refine lv_iload_n S.1 S.2.1 dX2_takeBet_9 rfl (lv_at hl 3 rfl) ?_
  refine z_iast S hK hP (CW_D hda _) hS 19 rfl (by decide) (by omega) dX2_takeBet_10 (fun H locs hP hS => ?_)
  have hP : va_P D vwCl (CW g a (sA c 14 (upZ (c.2 14) (q * 5 + d) co9))) H := hP
  refine lv_aload_n S.1 S.2.1 dX2_takeBet_11 rfl (lv_at hl 0 rfl) ?_
  refine z_get (v := .ref (a 20)) S inA2 hK hP 4 rfl rfl 6 (by decide) fl_X2_37 rfl dX2_takeBet_12 ?_
  refine lv_iload_n S.1 S.2.1 dX2_takeBet_15 rfl (lv_at hl 1 rfl) ?_
  refine lv_iload_n S.1 S.2.1 dX2_takeBet_16 rfl (lv_at hl 2 rfl) ?_
  refine z_rS (As := [.int (zI q), .int (zI d)]) (rest := [.ref (a 20)]) S (m_X2_slip l D g q d) ml_X2_51 sm_X2_slip ini_X2 cd_X2_slip ds_X2_slip ⟨Nat.le_of_ble_eq_true rfl, Nat.le_of_ble_eq_true rfl⟩ hK va_P_nil rfl hl.1 rfl (Nat.le_of_ble_eq_true rfl) ⟨Nat.zero_le _, Nat.zero_le _⟩ dX2_takeBet_17 ?_
  refine lv_iload S.1 S.2.1 dX2_takeBet_20 (lv_at hl 4 rfl) ?_
  refine z_zast S hK hP (CW_D hda _) hS 20 rfl (by decide) (by omega) (by omega) dX2_takeBet_22 (fun H locs hP hS => ?_)
  have hP : va_P D vwCl (CW g a (sA (sA c 14 (upZ (c.2 14) (q * 5 + d) co9)) 15 (upZ (c.2 15) (q * 5 + d) f))) H := hP
  have hw : CW g a (sA (sA c 14 (upZ (c.2 14) (q * 5 + d) co9)) 15 (upZ (c.2 15) (q * 5 + d) f)) = CW g a (sA (sA c 14 (upZ (c.2 14) (q * 5 + d) co9)) 15 (upZ (c.2 15) (q * 5 + d) f)) := by exact rfl
  rw [hw] at hP
  exact z_retv S hr hlk hP hS dX2_takeBet_23
set_option maxHeartbeats 4000000 in
set_option maxRecDepth 100000 in
theorem m_X2_stakeOn (l : Launch) (D : va_G) (g : ClassId × ClassId × ClassId) (a : Nat → Nat) {B : Int} (c : CS) (hI : IC B c) (q : Int) (d : Int) (f : Int) (h0 : 0 ≤ q ∧ q < 10) (h1 : 0 ≤ d ∧ d < 5) (h2 : 0 ≤ f ∧ f ≤ 1) : RD l yX2_stakeOn cX2_stakeOn 5 (some .int) 1 21 D g (CW g a c) [.ref (a 4), .int (zI q), .int (zI d), .int (zI f)] (stk c q d f) := by
  refine z_enter RX2 (by decide) rfl (Nat.le_of_ble_eq_true rfl) ?_
  intro p e s m args below meth co S hr hlk hK hP ls hl
  have hl : lv_has ls 5 [(0, .ref (a 4)), (1, .int (zI q)), (2, .int (zI d)), (3, .int (zI f))] := hl
  have hs := hI.s
  refine lv_iload_n S.1 S.2.1 dX2_stakeOn_0 rfl (lv_at hl 1 rfl) ?_
  refine lv_iload_n S.1 S.2.1 dX2_stakeOn_1 rfl (lv_at hl 2 rfl) ?_
  refine z_rS (As := [.int (zI q), .int (zI d)]) (rest := []) S (m_X2_slip l D g q d) ml_X2_51 sm_X2_slip ini_X2 cd_X2_slip ds_X2_slip ⟨Nat.le_of_ble_eq_true rfl, Nat.le_of_ble_eq_true rfl⟩ hK va_P_nil rfl hl.1 rfl (Nat.le_of_ble_eq_true rfl) ⟨Nat.zero_le _, Nat.zero_le _⟩ dX2_stakeOn_2 ?_
  refine lv_istore (lv' := [(4, .int (zI (q * 5 + d))), (0, .ref (a 4)), (1, .int (zI q)), (2, .int (zI d)), (3, .int (zI f))]) S.1 S.2.1 dX2_stakeOn_5 hl (by decide) rfl (fun ls hl => ?_)
  refine lv_aload_n S.1 S.2.1 dX2_stakeOn_7 rfl (lv_at hl 1 rfl) ?_
  refine z_get (v := .ref (a 20)) S inA2 hK hP 4 rfl rfl 6 (by decide) fl_X2_37 rfl dX2_stakeOn_8 ?_
  refine lv_iload S.1 S.2.1 dX2_stakeOn_11 (lv_at hl 0 rfl) ?_
  refine z_zald S hK hP 20 rfl (by decide) (by omega) dX2_stakeOn_13 ?_
  have hb_1 := hI.r15 (q * 5 + d)
  refine lv_iload_n S.1 S.2.1 dX2_stakeOn_14 rfl (lv_at hl 4 rfl) ?_
  refine z_icmp_ne (tgt := 28) S dX2_stakeOn_15 (by decide) (by omega) (fun h_2 => ?_) (fun h_2 => ?_)
  · refine z_iconst S dX2_stakeOn_28 ?_
    exact z_ret S hr hlk (by grind [stk]) dX2_stakeOn_29
  · refine lv_aload_n S.1 S.2.1 dX2_stakeOn_18 rfl (lv_at hl 1 rfl) ?_
    refine z_get (v := .ref (a 19)) S inA2 hK hP 4 rfl rfl 5 (by decide) fl_X2_34 rfl dX2_stakeOn_19 ?_
    refine lv_iload S.1 S.2.1 dX2_stakeOn_22 (lv_at hl 0 rfl) ?_
    refine z_iald S hK hP 19 rfl (by decide) (by omega) dX2_stakeOn_24 ?_
    have hb_3 := hI.r14 (q * 5 + d)
    refine z_goto (tgt := 29) S dX2_stakeOn_25 (by decide) ?_
    exact z_ret S hr hlk (by grind [stk]) dX2_stakeOn_29
set_option maxHeartbeats 4000000 in
set_option maxRecDepth 100000 in
theorem m_X2_stakedOn (l : Launch) (D : va_G) (g : ClassId × ClassId × ClassId) (a : Nat → Nat) {B : Int} (c : CS) (hI : IC B c) (q : Int) (f : Int) (h0 : 0 ≤ q ∧ q < 10) (h2 : 0 ≤ f ∧ f ≤ 1) : RD l yX2_stakedOn cX2_stakedOn 5 (some .int) 2 45 D g (CW g a c) [.ref (a 4), .int (zI q), .int (zI f)] (stOn c q f) := by
  refine z_enter RX2 (by decide) rfl (Nat.le_of_ble_eq_true rfl) ?_
  intro p e s m args below meth co S hr hlk hK hP ls hl
  have hl : lv_has ls 5 [(0, .ref (a 4)), (1, .int (zI q)), (2, .int (zI f))] := hl
  have hs := hI.s
  refine z_iconst S dX2_stakedOn_0 ?_
  refine lv_istore_n (lv' := [(3, .int (zI 0)), (0, .ref (a 4)), (1, .int (zI q)), (2, .int (zI f))]) S.1 S.2.1 dX2_stakedOn_1 rfl hl (by decide) rfl (fun ls hl => ?_)
  refine z_iconst S dX2_stakedOn_2 ?_
  refine lv_istore (lv' := [(4, .int (zI 0)), (3, .int (zI 0)), (0, .ref (a 4)), (1, .int (zI q)), (2, .int (zI f))]) S.1 S.2.1 dX2_stakedOn_3 hl (by decide) rfl (fun ls hl => ?_)
  refine z_for (nL := 5) (5) (fun (k5 : Nat) => [(4, .int (zI (k5 : Int))), (3, .int (zI (sm (fun d => stk c q d f) k5))), (0, .ref (a 4)), (1, .int (zI q)), (2, .int (zI f))]) (fun k5 => True) (fun k5 hk5 hJ5 ls hl ih5 => ?_) (fun hJ5 ls hl => ?_) 0 (by omega) trivial ls (lv_sub hl [0, 1, 2, 3, 4] rfl)
  · have hl : lv_has ls 5 [(4, .int (zI (k5 : Int))), (3, .int (zI (sm (fun d => stk c q d f) k5))), (0, .ref (a 4)), (1, .int (zI q)), (2, .int (zI f))] := hl
    refine lv_iload S.1 S.2.1 dX2_stakedOn_5 (lv_at hl 0 rfl) ?_
    refine z_iconst S dX2_stakedOn_7 ?_
    refine z_icmp_ge (tgt := 28) S dX2_stakedOn_8 (by decide) (by omega) (fun h_1 => ?_) (fun h_1 => ?_)
    · exact absurd h_1 (by omega)
    · refine lv_iload_n S.1 S.2.1 dX2_stakedOn_11 rfl (lv_at hl 1 rfl) ?_
      refine lv_aload_n S.1 S.2.1 dX2_stakedOn_12 rfl (lv_at hl 2 rfl) ?_
      refine lv_iload_n S.1 S.2.1 dX2_stakedOn_13 rfl (lv_at hl 3 rfl) ?_
      refine lv_iload S.1 S.2.1 dX2_stakedOn_14 (lv_at hl 0 rfl) ?_
      refine lv_iload_n S.1 S.2.1 dX2_stakedOn_16 rfl (lv_at hl 4 rfl) ?_
      refine z_rV (As := [.int (zI q), .int (zI (k5 : Int)), .int (zI f)]) (rest := [.int (zI (sm (fun d => stk c q d f) k5))]) S (m_X2_stakeOn l D g a c hI q (k5 : Int) f (by omega) (by omega) (by omega)) ml_X2_54 im_X2_stakeOn se_X2_stakeOn ini_X2 cd_X2_stakeOn ds_X2_stakeOn ⟨Nat.le_of_ble_eq_true rfl, Nat.le_of_ble_eq_true rfl⟩ hK hP (va_recv hK.1 hP (ci := 2) (q0 := 4) rfl rfl) rfl hl.1 rfl (Nat.le_of_ble_eq_true rfl) ⟨Nat.zero_le _, Nat.zero_le _⟩ dX2_stakedOn_17 ?_
      refine z_iadd S dX2_stakedOn_20 ?_
      refine lv_istore_n (lv' := [(3, .int (zI ((sm (fun d => stk c q d f) k5) + (stk c q (k5 : Int) f)))), (4, .int (zI (k5 : Int))), (0, .ref (a 4)), (1, .int (zI q)), (2, .int (zI f))]) S.1 S.2.1 dX2_stakedOn_21 rfl hl (by decide) rfl (fun ls hl => ?_)
      refine z_iinc (lv' := [(4, .int (zI ((k5 : Int) + 1))), (3, .int (zI ((sm (fun d => stk c q d f) k5) + (stk c q (k5 : Int) f)))), (0, .ref (a 4)), (1, .int (zI q)), (2, .int (zI f))]) S dX2_stakedOn_22 hl (k := 1) rfl (by decide) rfl (fun ls hl => ?_)
      refine z_goto (tgt := 5) S dX2_stakedOn_25 (by decide) ?_
      exact ih5 _ (lv_sub hl [0, 1, 2, 3, 4] rfl) trivial
  · have hl : lv_has ls 5 [(4, .int (zI ((5 : Nat) : Int))), (3, .int (zI (sm (fun d => stk c q d f) 5))), (0, .ref (a 4)), (1, .int (zI q)), (2, .int (zI f))] := hl
    refine lv_iload S.1 S.2.1 dX2_stakedOn_5 (lv_at hl 0 rfl) ?_
    refine z_iconst S dX2_stakedOn_7 ?_
    refine z_icmp_ge (tgt := 28) S dX2_stakedOn_8 (by decide) (by omega) (fun h_2 => ?_) (fun h_2 => ?_)
    · refine lv_iload_n S.1 S.2.1 dX2_stakedOn_28 rfl (lv_at hl 1 rfl) ?_
      exact z_ret S hr hlk (by first | rfl | grind) dX2_stakedOn_29
    · exact absurd h_2 (by omega)
set_option maxHeartbeats 4000000 in
set_option maxRecDepth 100000 in
theorem m_X2_allStaked (l : Launch) (D : va_G) (g : ClassId × ClassId × ClassId) (a : Nat → Nat) {B : Int} (c : CS) (hI : IC B c) (q : Int) (h0 : 0 ≤ q ∧ q < 10) : RD l yX2_allStaked cX2_allStaked 2 (some .int) 3 69 D g (CW g a c) [.ref (a 4), .int (zI q)] (allS c q) := by
  refine z_enter RX2 (by decide) rfl (Nat.le_of_ble_eq_true rfl) ?_
  intro p e s m args below meth co S hr hlk hK hP ls hl
  have hl : lv_has ls 2 [(0, .ref (a 4)), (1, .int (zI q))] := hl
  have hs := hI.s
  refine lv_aload_n S.1 S.2.1 dX2_allStaked_0 rfl (lv_at hl 0 rfl) ?_
  refine lv_iload_n S.1 S.2.1 dX2_allStaked_1 rfl (lv_at hl 1 rfl) ?_
  refine z_iconst S dX2_allStaked_2 ?_
  refine z_rV (As := [.int (zI q), .int (zI 1)]) (rest := []) S (m_X2_stakedOn l D g a c hI q 1 (by omega) (by omega)) ml_X2_58 im_X2_stakedOn se_X2_stakedOn ini_X2 cd_X2_stakedOn ds_X2_stakedOn ⟨Nat.le_of_ble_eq_true rfl, Nat.le_of_ble_eq_true rfl⟩ hK hP (va_recv hK.1 hP (ci := 2) (q0 := 4) rfl rfl) rfl hl.1 rfl (Nat.le_of_ble_eq_true rfl) ⟨Nat.zero_le _, Nat.zero_le _⟩ dX2_allStaked_3 ?_
  refine lv_aload_n S.1 S.2.1 dX2_allStaked_6 rfl (lv_at hl 0 rfl) ?_
  refine lv_iload_n S.1 S.2.1 dX2_allStaked_7 rfl (lv_at hl 1 rfl) ?_
  refine z_iconst S dX2_allStaked_8 ?_
  refine z_rV (As := [.int (zI q), .int (zI 0)]) (rest := [.int (zI (stOn c q 1))]) S (m_X2_stakedOn l D g a c hI q 0 (by omega) (by omega)) ml_X2_58 im_X2_stakedOn se_X2_stakedOn ini_X2 cd_X2_stakedOn ds_X2_stakedOn ⟨Nat.le_of_ble_eq_true rfl, Nat.le_of_ble_eq_true rfl⟩ hK hP (va_recv hK.1 hP (ci := 2) (q0 := 4) rfl rfl) rfl hl.1 rfl (Nat.le_of_ble_eq_true rfl) ⟨Nat.zero_le _, Nat.zero_le _⟩ dX2_allStaked_9 ?_
  refine z_iadd S dX2_allStaked_12 ?_
  exact z_ret S hr hlk (by first | rfl | grind) dX2_allStaked_13
set_option maxHeartbeats 4000000 in
set_option maxRecDepth 100000 in
theorem m_X2_share (l : Launch) (D : va_G) (g : ClassId × ClassId × ClassId) (a : Nat → Nat) {B : Int} (c : CS) (hI : IC B c) (q : Int) (d : Int) (f : Int) (h0 : 0 ≤ q ∧ q < 10) (h1 : 0 ≤ d ∧ d < 5) (h2 : 0 ≤ f ∧ f ≤ 1) : RD l yX2_share cX2_share 4 (some .int) 4 90 D g (CW g a c) [.ref (a 4), .int (zI q), .int (zI d), .int (zI f)] (shr c q d f) := by
  refine z_enter RX2 (by decide) rfl (Nat.le_of_ble_eq_true rfl) ?_
  intro p e s m args below meth co S hr hlk hK hP ls hl
  have hl : lv_has ls 4 [(0, .ref (a 4)), (1, .int (zI q)), (2, .int (zI d)), (3, .int (zI f))] := hl
  have hs := hI.s
  have hb1 := shr_b hI q d f
  have hb2 := stOn_b hI q f
  refine lv_aload_n S.1 S.2.1 dX2_share_0 rfl (lv_at hl 0 rfl) ?_
  refine lv_iload_n S.1 S.2.1 dX2_share_1 rfl (lv_at hl 1 rfl) ?_
  refine z_rV (As := [.int (zI q)]) (rest := []) S (m_X2_allStaked l D g a c hI q (by omega)) ml_X2_62 im_X2_allStaked se_X2_allStaked ini_X2 cd_X2_allStaked ds_X2_allStaked ⟨Nat.le_of_ble_eq_true rfl, Nat.le_of_ble_eq_true rfl⟩ hK hP (va_recv hK.1 hP (ci := 2) (q0 := 4) rfl rfl) rfl hl.1 rfl (Nat.le_of_ble_eq_true rfl) ⟨Nat.zero_le _, Nat.zero_le _⟩ dX2_share_2 ?_
  refine lv_aload_n S.1 S.2.1 dX2_share_5 rfl (lv_at hl 0 rfl) ?_
  refine lv_iload_n S.1 S.2.1 dX2_share_6 rfl (lv_at hl 1 rfl) ?_
  refine lv_iload_n S.1 S.2.1 dX2_share_7 rfl (lv_at hl 2 rfl) ?_
  refine lv_iload_n S.1 S.2.1 dX2_share_8 rfl (lv_at hl 3 rfl) ?_
  refine z_rV (As := [.int (zI q), .int (zI d), .int (zI f)]) (rest := [.int (zI (allS c q))]) S (m_X2_stakeOn l D g a c hI q d f (by omega) (by omega) (by omega)) ml_X2_54 im_X2_stakeOn se_X2_stakeOn ini_X2 cd_X2_stakeOn ds_X2_stakeOn ⟨Nat.le_of_ble_eq_true rfl, Nat.le_of_ble_eq_true rfl⟩ hK hP (va_recv hK.1 hP (ci := 2) (q0 := 4) rfl rfl) rfl hl.1 rfl (Nat.le_of_ble_eq_true rfl) ⟨Nat.zero_le _, Nat.zero_le _⟩ dX2_share_9 ?_
  refine z_imul S dX2_share_12 ?_
  refine lv_aload_n S.1 S.2.1 dX2_share_13 rfl (lv_at hl 0 rfl) ?_
  refine lv_iload_n S.1 S.2.1 dX2_share_14 rfl (lv_at hl 1 rfl) ?_
  refine lv_iload_n S.1 S.2.1 dX2_share_15 rfl (lv_at hl 3 rfl) ?_
  refine z_rV (As := [.int (zI q), .int (zI f)]) (rest := [.int (zI ((allS c q) * (stk c q d f)))]) S (m_X2_stakedOn l D g a c hI q f (by omega) (by omega)) ml_X2_58 im_X2_stakedOn se_X2_stakedOn ini_X2 cd_X2_stakedOn ds_X2_stakedOn ⟨Nat.le_of_ble_eq_true rfl, Nat.le_of_ble_eq_true rfl⟩ hK hP (va_recv hK.1 hP (ci := 2) (q0 := 4) rfl rfl) rfl hl.1 rfl (Nat.le_of_ble_eq_true rfl) ⟨Nat.zero_le _, Nat.zero_le _⟩ dX2_share_16 ?_
  refine z_rN (As := [.int (zI ((allS c q) * (stk c q d f))), .int (zI (stOn c q f))]) (rest := []) S (m_X4_quotient l D g ((allS c q) * (stk c q d f)) (stOn c q f) (by omega)) nw_X2_66 sm_X4_quotient ini_X4 cd_X4_quotient ds_X4_quotient ⟨Nat.le_of_ble_eq_true rfl, Nat.le_of_ble_eq_true rfl⟩ hK va_P_nil rfl hl.1 rfl (Nat.le_of_ble_eq_true rfl) ⟨Nat.zero_le _, Nat.zero_le _⟩ dX2_share_19 ?_
  exact z_ret S hr hlk (by first | rfl | grind) dX2_share_22
set_option maxHeartbeats 4000000 in
set_option maxRecDepth 100000 in
theorem m_X2_unpaidOf (l : Launch) (D : va_G) (g : ClassId × ClassId × ClassId) (a : Nat → Nat) {B : Int} (c : CS) (hI : IC B c) (d : Int) (h1 : 0 ≤ d ∧ d < 5) : RD l yX2_unpaidOf cX2_unpaidOf 4 (some .int) 2 42 D g (CW g a c) [.ref (a 4), .int (zI d)] (unp c d) := by
  refine z_enter RX2 (by decide) rfl (Nat.le_of_ble_eq_true rfl) ?_
  intro p e s m args below meth co S hr hlk hK hP ls hl
  have hl : lv_has ls 4 [(0, .ref (a 4)), (1, .int (zI d))] := hl
  have hs := hI.s
  refine z_iconst S dX2_unpaidOf_0 ?_
  refine lv_istore_n (lv' := [(2, .int (zI 0)), (0, .ref (a 4)), (1, .int (zI d))]) S.1 S.2.1 dX2_unpaidOf_1 rfl hl (by decide) rfl (fun ls hl => ?_)
  refine z_iconst S dX2_unpaidOf_2 ?_
  refine lv_istore_n (lv' := [(3, .int (zI 0)), (2, .int (zI 0)), (0, .ref (a 4)), (1, .int (zI d))]) S.1 S.2.1 dX2_unpaidOf_3 rfl hl (by decide) rfl (fun ls hl => ?_)
  refine z_for (nL := 4) ((c.1 5).toNat) (fun (k4 : Nat) => [(3, .int (zI (k4 : Int))), (2, .int (zI (sm (fun q => if over c q then 0 else c.2 14 (q * 5 + d)) k4))), (0, .ref (a 4)), (1, .int (zI d))]) (fun k4 => True) (fun k4 hk4 hJ4 ls hl ih4 => ?_) (fun hJ4 ls hl => ?_) 0 (by omega) trivial ls (lv_sub hl [0, 1, 2, 3] rfl)
  · have hl : lv_has ls 4 [(3, .int (zI (k4 : Int))), (2, .int (zI (sm (fun q => if over c q then 0 else c.2 14 (q * 5 + d)) k4))), (0, .ref (a 4)), (1, .int (zI d))] := hl
    refine lv_iload_n S.1 S.2.1 dX2_unpaidOf_4 rfl (lv_at hl 0 rfl) ?_
    refine lv_aload_n S.1 S.2.1 dX2_unpaidOf_5 rfl (lv_at hl 2 rfl) ?_
    refine z_get (v := .int (zI (c.1 5))) S inA2 hK hP 4 rfl rfl 0 (by decide) fl_X2_9 rfl dX2_unpaidOf_6 ?_
    refine z_icmp_ge (tgt := 39) S dX2_unpaidOf_9 (by decide) (by omega) (fun h_1 => ?_) (fun h_1 => ?_)
    · exact absurd h_1 (by omega)
    · refine lv_aload_n S.1 S.2.1 dX2_unpaidOf_12 rfl (lv_at hl 2 rfl) ?_
      refine lv_iload_n S.1 S.2.1 dX2_unpaidOf_13 rfl (lv_at hl 0 rfl) ?_
      refine z_rV (As := [.int (zI (k4 : Int))]) (rest := []) S (m_X2_isOver l D g a c hI (k4 : Int) (by omega)) ml_X2_69 im_X2_isOver se_X2_isOver ini_X2 cd_X2_isOver ds_X2_isOver ⟨Nat.le_of_ble_eq_true rfl, Nat.le_of_ble_eq_true rfl⟩ hK hP (va_recv hK.1 hP (ci := 2) (q0 := 4) rfl rfl) rfl hl.1 rfl (Nat.le_of_ble_eq_true rfl) ⟨Nat.zero_le _, Nat.zero_le _⟩ dX2_unpaidOf_14 ?_
      refine z_ifb_ne (tgt := 33) S dX2_unpaidOf_17 (by decide) (fun h_2 => ?_) (fun h_2 => ?_)
      · refine z_iinc (lv' := [(3, .int (zI ((k4 : Int) + 1))), (2, .int (zI (sm (fun q => if over c q then 0 else c.2 14 (q * 5 + d)) k4))), (0, .ref (a 4)), (1, .int (zI d))]) S dX2_unpaidOf_33 hl (k := 0) rfl (by decide) rfl (fun ls hl => ?_)
        refine z_goto (tgt := 4) S dX2_unpaidOf_36 (by decide) ?_
        have e_3 : sm (fun q => if over c q then 0 else c.2 14 (q * 5 + d)) (k4 + 1) = sm (fun q => if over c q then 0 else c.2 14 (q * 5 + d)) k4 := by grind [sm, b01]
        exact ih4 _ (lv_sub hl [0, 1, 2, 3] (by show _ = ([(3, .int (zI ((k4 + 1 : Nat) : Int))), (2, .int (zI (sm (fun q => if over c q then 0 else c.2 14 (q * 5 + d)) (k4 + 1)))), (0, .ref (a 4)), (1, .int (zI d))] : List (Nat × Value)); rw [e_3]; first | done | rfl)) trivial
      · refine lv_iload_n S.1 S.2.1 dX2_unpaidOf_20 rfl (lv_at hl 1 rfl) ?_
        refine lv_aload_n S.1 S.2.1 dX2_unpaidOf_21 rfl (lv_at hl 2 rfl) ?_
        refine z_get (v := .ref (a 19)) S inA2 hK hP 4 rfl rfl 5 (by decide) fl_X2_34 rfl dX2_unpaidOf_22 ?_
        refine lv_iload_n S.1 S.2.1 dX2_unpaidOf_25 rfl (lv_at hl 0 rfl) ?_
        refine lv_iload_n S.1 S.2.1 dX2_unpaidOf_26 rfl (lv_at hl 3 rfl) ?_
        refine z_rS (As := [.int (zI (k4 : Int)), .int (zI d)]) (rest := [.ref (a 19), .int (zI (sm (fun q => if over c q then 0 else c.2 14 (q * 5 + d)) k4))]) S (m_X2_slip l D g (k4 : Int) d) ml_X2_51 sm_X2_slip ini_X2 cd_X2_slip ds_X2_slip ⟨Nat.le_of_ble_eq_true rfl, Nat.le_of_ble_eq_true rfl⟩ hK va_P_nil rfl hl.1 rfl (Nat.le_of_ble_eq_true rfl) ⟨Nat.zero_le _, Nat.zero_le _⟩ dX2_unpaidOf_27 ?_
        refine z_iald S hK hP 19 rfl (by decide) (by omega) dX2_unpaidOf_30 ?_
        have hb_4 := hI.r14 ((k4 : Int) * 5 + d)
        refine z_iadd S dX2_unpaidOf_31 ?_
        refine lv_istore_n (lv' := [(2, .int (zI ((sm (fun q => if over c q then 0 else c.2 14 (q * 5 + d)) k4) + (c.2 14 ((k4 : Int) * 5 + d))))), (3, .int (zI (k4 : Int))), (0, .ref (a 4)), (1, .int (zI d))]) S.1 S.2.1 dX2_unpaidOf_32 rfl hl (by decide) rfl (fun ls hl => ?_)
        refine z_iinc (lv' := [(3, .int (zI ((k4 : Int) + 1))), (2, .int (zI ((sm (fun q => if over c q then 0 else c.2 14 (q * 5 + d)) k4) + (c.2 14 ((k4 : Int) * 5 + d))))), (0, .ref (a 4)), (1, .int (zI d))]) S dX2_unpaidOf_33 hl (k := 1) rfl (by decide) rfl (fun ls hl => ?_)
        refine z_goto (tgt := 4) S dX2_unpaidOf_36 (by decide) ?_
        have e_5 : sm (fun q => if over c q then 0 else c.2 14 (q * 5 + d)) (k4 + 1) = (sm (fun q => if over c q then 0 else c.2 14 (q * 5 + d)) k4) + (c.2 14 ((k4 : Int) * 5 + d)) := by grind [sm, b01]
        exact ih4 _ (lv_sub hl [0, 1, 2, 3] (by show _ = ([(3, .int (zI ((k4 + 1 : Nat) : Int))), (2, .int (zI (sm (fun q => if over c q then 0 else c.2 14 (q * 5 + d)) (k4 + 1)))), (0, .ref (a 4)), (1, .int (zI d))] : List (Nat × Value)); rw [e_5]; first | done | rfl)) trivial
  · have hl : lv_has ls 4 [(3, .int (zI (((c.1 5).toNat : Nat) : Int))), (2, .int (zI (sm (fun q => if over c q then 0 else c.2 14 (q * 5 + d)) ((c.1 5).toNat)))), (0, .ref (a 4)), (1, .int (zI d))] := hl
    refine lv_iload_n S.1 S.2.1 dX2_unpaidOf_4 rfl (lv_at hl 0 rfl) ?_
    refine lv_aload_n S.1 S.2.1 dX2_unpaidOf_5 rfl (lv_at hl 2 rfl) ?_
    refine z_get (v := .int (zI (c.1 5))) S inA2 hK hP 4 rfl rfl 0 (by decide) fl_X2_9 rfl dX2_unpaidOf_6 ?_
    refine z_icmp_ge (tgt := 39) S dX2_unpaidOf_9 (by decide) (by omega) (fun h_6 => ?_) (fun h_6 => ?_)
    · refine lv_iload_n S.1 S.2.1 dX2_unpaidOf_39 rfl (lv_at hl 1 rfl) ?_
      exact z_ret S hr hlk (by first | rfl | grind) dX2_unpaidOf_40
    · exact absurd h_6 (by omega)
set_option maxHeartbeats 4000000 in
set_option maxRecDepth 100000 in
theorem m_X2_paidBetsOf (l : Launch) (D : va_G) (g : ClassId × ClassId × ClassId) (a : Nat → Nat) {B : Int} (c : CS) (hI : IC B c) (d : Int) (rt : Int) (h1 : 0 ≤ d ∧ d < 5) (h2 : 0 ≤ rt ∧ rt ≤ 1) : RD l yX2_paidBetsOf cX2_paidBetsOf 6 (some .int) 2 43 D g (CW g a c) [.ref (a 4), .int (zI d), .int (zI rt)] (pbets c d rt) := by
  refine z_enter RX2 (by decide) rfl (Nat.le_of_ble_eq_true rfl) ?_
  intro p e s m args below meth co S hr hlk hK hP ls hl
  have hl : lv_has ls 6 [(0, .ref (a 4)), (1, .int (zI d)), (2, .int (zI rt))] := hl
  have hs := hI.s
  refine z_iconst S dX2_paidBetsOf_0 ?_
  refine lv_istore_n (lv' := [(3, .int (zI 0)), (0, .ref (a 4)), (1, .int (zI d)), (2, .int (zI rt))]) S.1 S.2.1 dX2_paidBetsOf_1 rfl hl (by decide) rfl (fun ls hl => ?_)
  refine z_iconst S dX2_paidBetsOf_2 ?_
  refine lv_istore (lv' := [(4, .int (zI 0)), (3, .int (zI 0)), (0, .ref (a 4)), (1, .int (zI d)), (2, .int (zI rt))]) S.1 S.2.1 dX2_paidBetsOf_3 hl (by decide) rfl (fun ls hl => ?_)
  refine z_for (nL := 6) ((c.1 5).toNat) (fun (k5 : Nat) => [(4, .int (zI (k5 : Int))), (3, .int (zI (sm (fun q => b01 ((over c q ∧ 0 < c.2 14 (q * 5 + d)) ∧ b01 (c.2 15 (q * 5 + d) = b01 (fnd c q)) = rt)) k5))), (0, .ref (a 4)), (1, .int (zI d)), (2, .int (zI rt))]) (fun k5 => True) (fun k5 hk5 hJ5 ls hl ih5 => ?_) (fun hJ5 ls hl => ?_) 0 (by omega) trivial ls (lv_sub hl [0, 1, 2, 3, 4] rfl)
  · have hl : lv_has ls 6 [(4, .int (zI (k5 : Int))), (3, .int (zI (sm (fun q => b01 ((over c q ∧ 0 < c.2 14 (q * 5 + d)) ∧ b01 (c.2 15 (q * 5 + d) = b01 (fnd c q)) = rt)) k5))), (0, .ref (a 4)), (1, .int (zI d)), (2, .int (zI rt))] := hl
    refine lv_iload S.1 S.2.1 dX2_paidBetsOf_5 (lv_at hl 0 rfl) ?_
    refine lv_aload_n S.1 S.2.1 dX2_paidBetsOf_7 rfl (lv_at hl 2 rfl) ?_
    refine z_get (v := .int (zI (c.1 5))) S inA2 hK hP 4 rfl rfl 0 (by decide) fl_X2_9 rfl dX2_paidBetsOf_8 ?_
    refine z_icmp_ge (tgt := 75) S dX2_paidBetsOf_11 (by decide) (by omega) (fun h_1 => ?_) (fun h_1 => ?_)
    · exact absurd h_1 (by omega)
    · refine lv_aload_n S.1 S.2.1 dX2_paidBetsOf_14 rfl (lv_at hl 2 rfl) ?_
      refine z_get (v := .ref (a 20)) S inA2 hK hP 4 rfl rfl 6 (by decide) fl_X2_37 rfl dX2_paidBetsOf_15 ?_
      refine lv_iload S.1 S.2.1 dX2_paidBetsOf_18 (lv_at hl 0 rfl) ?_
      refine lv_iload_n S.1 S.2.1 dX2_paidBetsOf_20 rfl (lv_at hl 3 rfl) ?_
      refine z_rS (As := [.int (zI (k5 : Int)), .int (zI d)]) (rest := [.ref (a 20)]) S (m_X2_slip l D g (k5 : Int) d) ml_X2_51 sm_X2_slip ini_X2 cd_X2_slip ds_X2_slip ⟨Nat.le_of_ble_eq_true rfl, Nat.le_of_ble_eq_true rfl⟩ hK va_P_nil rfl hl.1 rfl (Nat.le_of_ble_eq_true rfl) ⟨Nat.zero_le _, Nat.zero_le _⟩ dX2_paidBetsOf_21 ?_
      refine z_zald S hK hP 20 rfl (by decide) (by omega) dX2_paidBetsOf_24 ?_
      have hb_2 := hI.r15 ((k5 : Int) * 5 + d)
      refine lv_aload_n S.1 S.2.1 dX2_paidBetsOf_25 rfl (lv_at hl 2 rfl) ?_
      refine lv_iload S.1 S.2.1 dX2_paidBetsOf_26 (lv_at hl 0 rfl) ?_
      refine z_rV (As := [.int (zI (k5 : Int))]) (rest := [.int (zI (c.2 15 ((k5 : Int) * 5 + d)))]) S (m_X2_hasFound l D g a c hI (k5 : Int) (by omega)) ml_X2_41 im_X2_hasFound se_X2_hasFound ini_X2 cd_X2_hasFound ds_X2_hasFound ⟨Nat.le_of_ble_eq_true rfl, Nat.le_of_ble_eq_true rfl⟩ hK hP (va_recv hK.1 hP (ci := 2) (q0 := 4) rfl rfl) rfl hl.1 rfl (Nat.le_of_ble_eq_true rfl) ⟨Nat.zero_le _, Nat.zero_le _⟩ dX2_paidBetsOf_28 ?_
      have hb_4 := b01_01 (fnd c (k5 : Int))
      refine z_icmp_ne (tgt := 38) S dX2_paidBetsOf_31 (by decide) (by omega) (fun h_3 => ?_) (fun h_3 => ?_)
      · refine z_iconst S dX2_paidBetsOf_38 ?_
        refine lv_istore (lv' := [(5, .int (zI 0)), (4, .int (zI (k5 : Int))), (3, .int (zI (sm (fun q => b01 ((over c q ∧ 0 < c.2 14 (q * 5 + d)) ∧ b01 (c.2 15 (q * 5 + d) = b01 (fnd c q)) = rt)) k5))), (0, .ref (a 4)), (1, .int (zI d)), (2, .int (zI rt))]) S.1 S.2.1 dX2_paidBetsOf_39 hl (by decide) rfl (fun ls hl => ?_)
        refine lv_aload_n S.1 S.2.1 dX2_paidBetsOf_41 rfl (lv_at hl 3 rfl) ?_
        refine lv_iload S.1 S.2.1 dX2_paidBetsOf_42 (lv_at hl 1 rfl) ?_
        refine z_rV (As := [.int (zI (k5 : Int))]) (rest := []) S (m_X2_isOver l D g a c hI (k5 : Int) (by omega)) ml_X2_69 im_X2_isOver se_X2_isOver ini_X2 cd_X2_isOver ds_X2_isOver ⟨Nat.le_of_ble_eq_true rfl, Nat.le_of_ble_eq_true rfl⟩ hK hP (va_recv hK.1 hP (ci := 2) (q0 := 4) rfl rfl) rfl hl.1 rfl (Nat.le_of_ble_eq_true rfl) ⟨Nat.zero_le _, Nat.zero_le _⟩ dX2_paidBetsOf_44 ?_
        refine z_ifb_eq (tgt := 69) S dX2_paidBetsOf_47 (by decide) (fun h_5 => ?_) (fun h_5 => ?_)
        · refine z_iinc (lv' := [(4, .int (zI ((k5 : Int) + 1))), (5, .int (zI 0)), (3, .int (zI (sm (fun q => b01 ((over c q ∧ 0 < c.2 14 (q * 5 + d)) ∧ b01 (c.2 15 (q * 5 + d) = b01 (fnd c q)) = rt)) k5))), (0, .ref (a 4)), (1, .int (zI d)), (2, .int (zI rt))]) S dX2_paidBetsOf_69 hl (k := 1) rfl (by decide) rfl (fun ls hl => ?_)
          refine z_goto (tgt := 5) S dX2_paidBetsOf_72 (by decide) ?_
          have e_6 : sm (fun q => b01 ((over c q ∧ 0 < c.2 14 (q * 5 + d)) ∧ b01 (c.2 15 (q * 5 + d) = b01 (fnd c q)) = rt)) (k5 + 1) = sm (fun q => b01 ((over c q ∧ 0 < c.2 14 (q * 5 + d)) ∧ b01 (c.2 15 (q * 5 + d) = b01 (fnd c q)) = rt)) k5 := by grind [sm, b01]
          exact ih5 _ (lv_sub hl [0, 2, 3, 4, 5] (by show _ = ([(4, .int (zI ((k5 + 1 : Nat) : Int))), (3, .int (zI (sm (fun q => b01 ((over c q ∧ 0 < c.2 14 (q * 5 + d)) ∧ b01 (c.2 15 (q * 5 + d) = b01 (fnd c q)) = rt)) (k5 + 1)))), (0, .ref (a 4)), (1, .int (zI d)), (2, .int (zI rt))] : List (Nat × Value)); rw [e_6]; first | done | rfl)) trivial
        · refine lv_aload_n S.1 S.2.1 dX2_paidBetsOf_50 rfl (lv_at hl 3 rfl) ?_
          refine lv_iload S.1 S.2.1 dX2_paidBetsOf_51 (lv_at hl 1 rfl) ?_
          refine lv_iload_n S.1 S.2.1 dX2_paidBetsOf_53 rfl (lv_at hl 4 rfl) ?_
          refine z_rV (As := [.int (zI (k5 : Int)), .int (zI d)]) (rest := []) S (m_X2_hasBet l D g a c hI (k5 : Int) d (by omega) (by omega)) ml_X2_72 im_X2_hasBet se_X2_hasBet ini_X2 cd_X2_hasBet ds_X2_hasBet ⟨Nat.le_of_ble_eq_true rfl, Nat.le_of_ble_eq_true rfl⟩ hK hP (va_recv hK.1 hP (ci := 2) (q0 := 4) rfl rfl) rfl hl.1 rfl (Nat.le_of_ble_eq_true rfl) ⟨Nat.zero_le _, Nat.zero_le _⟩ dX2_paidBetsOf_54 ?_
          refine z_ifb_eq (tgt := 69) S dX2_paidBetsOf_57 (by decide) (fun h_7 => ?_) (fun h_7 => ?_)
          · refine z_iinc (lv' := [(4, .int (zI ((k5 : Int) + 1))), (5, .int (zI 0)), (3, .int (zI (sm (fun q => b01 ((over c q ∧ 0 < c.2 14 (q * 5 + d)) ∧ b01 (c.2 15 (q * 5 + d) = b01 (fnd c q)) = rt)) k5))), (0, .ref (a 4)), (1, .int (zI d)), (2, .int (zI rt))]) S dX2_paidBetsOf_69 hl (k := 1) rfl (by decide) rfl (fun ls hl => ?_)
            refine z_goto (tgt := 5) S dX2_paidBetsOf_72 (by decide) ?_
            have e_8 : sm (fun q => b01 ((over c q ∧ 0 < c.2 14 (q * 5 + d)) ∧ b01 (c.2 15 (q * 5 + d) = b01 (fnd c q)) = rt)) (k5 + 1) = sm (fun q => b01 ((over c q ∧ 0 < c.2 14 (q * 5 + d)) ∧ b01 (c.2 15 (q * 5 + d) = b01 (fnd c q)) = rt)) k5 := by grind [sm, b01]
            exact ih5 _ (lv_sub hl [0, 2, 3, 4, 5] (by show _ = ([(4, .int (zI ((k5 + 1 : Nat) : Int))), (3, .int (zI (sm (fun q => b01 ((over c q ∧ 0 < c.2 14 (q * 5 + d)) ∧ b01 (c.2 15 (q * 5 + d) = b01 (fnd c q)) = rt)) (k5 + 1)))), (0, .ref (a 4)), (1, .int (zI d)), (2, .int (zI rt))] : List (Nat × Value)); rw [e_8]; first | done | rfl)) trivial
          · refine lv_iload S.1 S.2.1 dX2_paidBetsOf_60 (lv_at hl 0 rfl) ?_
            refine lv_iload_n S.1 S.2.1 dX2_paidBetsOf_62 rfl (lv_at hl 5 rfl) ?_
            refine z_icmp_ne (tgt := 69) S dX2_paidBetsOf_63 (by decide) (by omega) (fun h_9 => ?_) (fun h_9 => ?_)
            · refine z_iinc (lv' := [(4, .int (zI ((k5 : Int) + 1))), (5, .int (zI 0)), (3, .int (zI (sm (fun q => b01 ((over c q ∧ 0 < c.2 14 (q * 5 + d)) ∧ b01 (c.2 15 (q * 5 + d) = b01 (fnd c q)) = rt)) k5))), (0, .ref (a 4)), (1, .int (zI d)), (2, .int (zI rt))]) S dX2_paidBetsOf_69 hl (k := 1) rfl (by decide) rfl (fun ls hl => ?_)
              refine z_goto (tgt := 5) S dX2_paidBetsOf_72 (by decide) ?_
              have e_10 : sm (fun q => b01 ((over c q ∧ 0 < c.2 14 (q * 5 + d)) ∧ b01 (c.2 15 (q * 5 + d) = b01 (fnd c q)) = rt)) (k5 + 1) = sm (fun q => b01 ((over c q ∧ 0 < c.2 14 (q * 5 + d)) ∧ b01 (c.2 15 (q * 5 + d) = b01 (fnd c q)) = rt)) k5 := by grind [sm, b01]
              exact ih5 _ (lv_sub hl [0, 2, 3, 4, 5] (by show _ = ([(4, .int (zI ((k5 + 1 : Nat) : Int))), (3, .int (zI (sm (fun q => b01 ((over c q ∧ 0 < c.2 14 (q * 5 + d)) ∧ b01 (c.2 15 (q * 5 + d) = b01 (fnd c q)) = rt)) (k5 + 1)))), (0, .ref (a 4)), (1, .int (zI d)), (2, .int (zI rt))] : List (Nat × Value)); rw [e_10]; first | done | rfl)) trivial
            · refine z_iinc (lv' := [(3, .int (zI ((sm (fun q => b01 ((over c q ∧ 0 < c.2 14 (q * 5 + d)) ∧ b01 (c.2 15 (q * 5 + d) = b01 (fnd c q)) = rt)) k5) + 1))), (5, .int (zI 0)), (4, .int (zI (k5 : Int))), (0, .ref (a 4)), (1, .int (zI d)), (2, .int (zI rt))]) S dX2_paidBetsOf_66 hl (k := 2) rfl (by decide) rfl (fun ls hl => ?_)
              refine z_iinc (lv' := [(4, .int (zI ((k5 : Int) + 1))), (3, .int (zI ((sm (fun q => b01 ((over c q ∧ 0 < c.2 14 (q * 5 + d)) ∧ b01 (c.2 15 (q * 5 + d) = b01 (fnd c q)) = rt)) k5) + 1))), (5, .int (zI 0)), (0, .ref (a 4)), (1, .int (zI d)), (2, .int (zI rt))]) S dX2_paidBetsOf_69 hl (k := 2) rfl (by decide) rfl (fun ls hl => ?_)
              refine z_goto (tgt := 5) S dX2_paidBetsOf_72 (by decide) ?_
              have e_11 : sm (fun q => b01 ((over c q ∧ 0 < c.2 14 (q * 5 + d)) ∧ b01 (c.2 15 (q * 5 + d) = b01 (fnd c q)) = rt)) (k5 + 1) = (sm (fun q => b01 ((over c q ∧ 0 < c.2 14 (q * 5 + d)) ∧ b01 (c.2 15 (q * 5 + d) = b01 (fnd c q)) = rt)) k5) + 1 := by grind [sm, b01]
              exact ih5 _ (lv_sub hl [0, 1, 3, 4, 5] (by show _ = ([(4, .int (zI ((k5 + 1 : Nat) : Int))), (3, .int (zI (sm (fun q => b01 ((over c q ∧ 0 < c.2 14 (q * 5 + d)) ∧ b01 (c.2 15 (q * 5 + d) = b01 (fnd c q)) = rt)) (k5 + 1)))), (0, .ref (a 4)), (1, .int (zI d)), (2, .int (zI rt))] : List (Nat × Value)); rw [e_11]; first | done | rfl)) trivial
      · refine z_iconst S dX2_paidBetsOf_34 ?_
        refine z_goto (tgt := 39) S dX2_paidBetsOf_35 (by decide) ?_
        refine lv_istore (lv' := [(5, .int (zI 1)), (4, .int (zI (k5 : Int))), (3, .int (zI (sm (fun q => b01 ((over c q ∧ 0 < c.2 14 (q * 5 + d)) ∧ b01 (c.2 15 (q * 5 + d) = b01 (fnd c q)) = rt)) k5))), (0, .ref (a 4)), (1, .int (zI d)), (2, .int (zI rt))]) S.1 S.2.1 dX2_paidBetsOf_39 hl (by decide) rfl (fun ls hl => ?_)
        refine lv_aload_n S.1 S.2.1 dX2_paidBetsOf_41 rfl (lv_at hl 3 rfl) ?_
        refine lv_iload S.1 S.2.1 dX2_paidBetsOf_42 (lv_at hl 1 rfl) ?_
        refine z_rV (As := [.int (zI (k5 : Int))]) (rest := []) S (m_X2_isOver l D g a c hI (k5 : Int) (by omega)) ml_X2_69 im_X2_isOver se_X2_isOver ini_X2 cd_X2_isOver ds_X2_isOver ⟨Nat.le_of_ble_eq_true rfl, Nat.le_of_ble_eq_true rfl⟩ hK hP (va_recv hK.1 hP (ci := 2) (q0 := 4) rfl rfl) rfl hl.1 rfl (Nat.le_of_ble_eq_true rfl) ⟨Nat.zero_le _, Nat.zero_le _⟩ dX2_paidBetsOf_44 ?_
        refine z_ifb_eq (tgt := 69) S dX2_paidBetsOf_47 (by decide) (fun h_12 => ?_) (fun h_12 => ?_)
        · refine z_iinc (lv' := [(4, .int (zI ((k5 : Int) + 1))), (5, .int (zI 1)), (3, .int (zI (sm (fun q => b01 ((over c q ∧ 0 < c.2 14 (q * 5 + d)) ∧ b01 (c.2 15 (q * 5 + d) = b01 (fnd c q)) = rt)) k5))), (0, .ref (a 4)), (1, .int (zI d)), (2, .int (zI rt))]) S dX2_paidBetsOf_69 hl (k := 1) rfl (by decide) rfl (fun ls hl => ?_)
          refine z_goto (tgt := 5) S dX2_paidBetsOf_72 (by decide) ?_
          have e_13 : sm (fun q => b01 ((over c q ∧ 0 < c.2 14 (q * 5 + d)) ∧ b01 (c.2 15 (q * 5 + d) = b01 (fnd c q)) = rt)) (k5 + 1) = sm (fun q => b01 ((over c q ∧ 0 < c.2 14 (q * 5 + d)) ∧ b01 (c.2 15 (q * 5 + d) = b01 (fnd c q)) = rt)) k5 := by grind [sm, b01]
          exact ih5 _ (lv_sub hl [0, 2, 3, 4, 5] (by show _ = ([(4, .int (zI ((k5 + 1 : Nat) : Int))), (3, .int (zI (sm (fun q => b01 ((over c q ∧ 0 < c.2 14 (q * 5 + d)) ∧ b01 (c.2 15 (q * 5 + d) = b01 (fnd c q)) = rt)) (k5 + 1)))), (0, .ref (a 4)), (1, .int (zI d)), (2, .int (zI rt))] : List (Nat × Value)); rw [e_13]; first | done | rfl)) trivial
        · refine lv_aload_n S.1 S.2.1 dX2_paidBetsOf_50 rfl (lv_at hl 3 rfl) ?_
          refine lv_iload S.1 S.2.1 dX2_paidBetsOf_51 (lv_at hl 1 rfl) ?_
          refine lv_iload_n S.1 S.2.1 dX2_paidBetsOf_53 rfl (lv_at hl 4 rfl) ?_
          refine z_rV (As := [.int (zI (k5 : Int)), .int (zI d)]) (rest := []) S (m_X2_hasBet l D g a c hI (k5 : Int) d (by omega) (by omega)) ml_X2_72 im_X2_hasBet se_X2_hasBet ini_X2 cd_X2_hasBet ds_X2_hasBet ⟨Nat.le_of_ble_eq_true rfl, Nat.le_of_ble_eq_true rfl⟩ hK hP (va_recv hK.1 hP (ci := 2) (q0 := 4) rfl rfl) rfl hl.1 rfl (Nat.le_of_ble_eq_true rfl) ⟨Nat.zero_le _, Nat.zero_le _⟩ dX2_paidBetsOf_54 ?_
          refine z_ifb_eq (tgt := 69) S dX2_paidBetsOf_57 (by decide) (fun h_14 => ?_) (fun h_14 => ?_)
          · refine z_iinc (lv' := [(4, .int (zI ((k5 : Int) + 1))), (5, .int (zI 1)), (3, .int (zI (sm (fun q => b01 ((over c q ∧ 0 < c.2 14 (q * 5 + d)) ∧ b01 (c.2 15 (q * 5 + d) = b01 (fnd c q)) = rt)) k5))), (0, .ref (a 4)), (1, .int (zI d)), (2, .int (zI rt))]) S dX2_paidBetsOf_69 hl (k := 1) rfl (by decide) rfl (fun ls hl => ?_)
            refine z_goto (tgt := 5) S dX2_paidBetsOf_72 (by decide) ?_
            have e_15 : sm (fun q => b01 ((over c q ∧ 0 < c.2 14 (q * 5 + d)) ∧ b01 (c.2 15 (q * 5 + d) = b01 (fnd c q)) = rt)) (k5 + 1) = sm (fun q => b01 ((over c q ∧ 0 < c.2 14 (q * 5 + d)) ∧ b01 (c.2 15 (q * 5 + d) = b01 (fnd c q)) = rt)) k5 := by grind [sm, b01]
            exact ih5 _ (lv_sub hl [0, 2, 3, 4, 5] (by show _ = ([(4, .int (zI ((k5 + 1 : Nat) : Int))), (3, .int (zI (sm (fun q => b01 ((over c q ∧ 0 < c.2 14 (q * 5 + d)) ∧ b01 (c.2 15 (q * 5 + d) = b01 (fnd c q)) = rt)) (k5 + 1)))), (0, .ref (a 4)), (1, .int (zI d)), (2, .int (zI rt))] : List (Nat × Value)); rw [e_15]; first | done | rfl)) trivial
          · refine lv_iload S.1 S.2.1 dX2_paidBetsOf_60 (lv_at hl 0 rfl) ?_
            refine lv_iload_n S.1 S.2.1 dX2_paidBetsOf_62 rfl (lv_at hl 5 rfl) ?_
            refine z_icmp_ne (tgt := 69) S dX2_paidBetsOf_63 (by decide) (by omega) (fun h_16 => ?_) (fun h_16 => ?_)
            · refine z_iinc (lv' := [(4, .int (zI ((k5 : Int) + 1))), (5, .int (zI 1)), (3, .int (zI (sm (fun q => b01 ((over c q ∧ 0 < c.2 14 (q * 5 + d)) ∧ b01 (c.2 15 (q * 5 + d) = b01 (fnd c q)) = rt)) k5))), (0, .ref (a 4)), (1, .int (zI d)), (2, .int (zI rt))]) S dX2_paidBetsOf_69 hl (k := 1) rfl (by decide) rfl (fun ls hl => ?_)
              refine z_goto (tgt := 5) S dX2_paidBetsOf_72 (by decide) ?_
              have e_17 : sm (fun q => b01 ((over c q ∧ 0 < c.2 14 (q * 5 + d)) ∧ b01 (c.2 15 (q * 5 + d) = b01 (fnd c q)) = rt)) (k5 + 1) = sm (fun q => b01 ((over c q ∧ 0 < c.2 14 (q * 5 + d)) ∧ b01 (c.2 15 (q * 5 + d) = b01 (fnd c q)) = rt)) k5 := by grind [sm, b01]
              exact ih5 _ (lv_sub hl [0, 2, 3, 4, 5] (by show _ = ([(4, .int (zI ((k5 + 1 : Nat) : Int))), (3, .int (zI (sm (fun q => b01 ((over c q ∧ 0 < c.2 14 (q * 5 + d)) ∧ b01 (c.2 15 (q * 5 + d) = b01 (fnd c q)) = rt)) (k5 + 1)))), (0, .ref (a 4)), (1, .int (zI d)), (2, .int (zI rt))] : List (Nat × Value)); rw [e_17]; first | done | rfl)) trivial
            · refine z_iinc (lv' := [(3, .int (zI ((sm (fun q => b01 ((over c q ∧ 0 < c.2 14 (q * 5 + d)) ∧ b01 (c.2 15 (q * 5 + d) = b01 (fnd c q)) = rt)) k5) + 1))), (5, .int (zI 1)), (4, .int (zI (k5 : Int))), (0, .ref (a 4)), (1, .int (zI d)), (2, .int (zI rt))]) S dX2_paidBetsOf_66 hl (k := 2) rfl (by decide) rfl (fun ls hl => ?_)
              refine z_iinc (lv' := [(4, .int (zI ((k5 : Int) + 1))), (3, .int (zI ((sm (fun q => b01 ((over c q ∧ 0 < c.2 14 (q * 5 + d)) ∧ b01 (c.2 15 (q * 5 + d) = b01 (fnd c q)) = rt)) k5) + 1))), (5, .int (zI 1)), (0, .ref (a 4)), (1, .int (zI d)), (2, .int (zI rt))]) S dX2_paidBetsOf_69 hl (k := 2) rfl (by decide) rfl (fun ls hl => ?_)
              refine z_goto (tgt := 5) S dX2_paidBetsOf_72 (by decide) ?_
              have e_18 : sm (fun q => b01 ((over c q ∧ 0 < c.2 14 (q * 5 + d)) ∧ b01 (c.2 15 (q * 5 + d) = b01 (fnd c q)) = rt)) (k5 + 1) = (sm (fun q => b01 ((over c q ∧ 0 < c.2 14 (q * 5 + d)) ∧ b01 (c.2 15 (q * 5 + d) = b01 (fnd c q)) = rt)) k5) + 1 := by grind [sm, b01]
              exact ih5 _ (lv_sub hl [0, 1, 3, 4, 5] (by show _ = ([(4, .int (zI ((k5 + 1 : Nat) : Int))), (3, .int (zI (sm (fun q => b01 ((over c q ∧ 0 < c.2 14 (q * 5 + d)) ∧ b01 (c.2 15 (q * 5 + d) = b01 (fnd c q)) = rt)) (k5 + 1)))), (0, .ref (a 4)), (1, .int (zI d)), (2, .int (zI rt))] : List (Nat × Value)); rw [e_18]; first | done | rfl)) trivial
  · have hl : lv_has ls 6 [(4, .int (zI (((c.1 5).toNat : Nat) : Int))), (3, .int (zI (sm (fun q => b01 ((over c q ∧ 0 < c.2 14 (q * 5 + d)) ∧ b01 (c.2 15 (q * 5 + d) = b01 (fnd c q)) = rt)) ((c.1 5).toNat)))), (0, .ref (a 4)), (1, .int (zI d)), (2, .int (zI rt))] := hl
    refine lv_iload S.1 S.2.1 dX2_paidBetsOf_5 (lv_at hl 0 rfl) ?_
    refine lv_aload_n S.1 S.2.1 dX2_paidBetsOf_7 rfl (lv_at hl 2 rfl) ?_
    refine z_get (v := .int (zI (c.1 5))) S inA2 hK hP 4 rfl rfl 0 (by decide) fl_X2_9 rfl dX2_paidBetsOf_8 ?_
    refine z_icmp_ge (tgt := 75) S dX2_paidBetsOf_11 (by decide) (by omega) (fun h_19 => ?_) (fun h_19 => ?_)
    · refine lv_iload_n S.1 S.2.1 dX2_paidBetsOf_75 rfl (lv_at hl 1 rfl) ?_
      exact z_ret S hr hlk (by first | rfl | grind) dX2_paidBetsOf_76
    · exact absurd h_19 (by omega)
set_option maxHeartbeats 4000000 in
set_option maxRecDepth 100000 in
theorem m_X2_tell (l : Launch) (D : va_G) (g : ClassId × ClassId × ClassId) (a : Nat → Nat) {B : Int} (c : CS) (hI : IC B c) (q : Int) (what : Int) (h0 : 0 ≤ q ∧ q < 10) (h1 : 0 ≤ what ∧ what ≤ 6) : RD l yX2_tell cX2_tell 3 (some .int) 3 69 D g (CW g a c) [.ref (a 4), .int (zI q), .int (zI what)] (pitT c q what) := by
  refine z_enter RX2 (by decide) rfl (Nat.le_of_ble_eq_true rfl) ?_
  intro p e s m args below meth co S hr hlk hK hP ls hl
  have hl : lv_has ls 3 [(0, .ref (a 4)), (1, .int (zI q)), (2, .int (zI what))] := hl
  have hs := hI.s
  refine lv_iload_n S.1 S.2.1 dX2_tell_0 rfl (lv_at hl 2 rfl) ?_
  rcases (show what = 0 ∨ what = 1 ∨ what = 2 ∨ what = 3 ∨ what = 4 ∨ what = 5 ∨ (what < 0 ∨ 5 < what) by omega) with h_1 | h_1 | h_1 | h_1 | h_1 | h_1 | h_1
  · refine z_tabIn (off := 39) (tgt := 40) S 0 h_1 (by decide) dX2_tell_1 (by decide) (by decide) rfl (by decide) ?_
    refine lv_aload_n S.1 S.2.1 dX2_tell_40 rfl (lv_at hl 0 rfl) ?_
    refine z_get (v := .ref (a 16)) S inA2 hK hP 4 rfl rfl 2 (by decide) fl_X2_25 rfl dX2_tell_41 ?_
    refine lv_iload_n S.1 S.2.1 dX2_tell_44 rfl (lv_at hl 1 rfl) ?_
    refine z_iald S hK hP 16 rfl (by decide) (by omega) dX2_tell_45 ?_
    have hb_2 := hI.r11 q
    refine z_rN (As := [.int (zI (c.2 11 q))]) (rest := []) S (m_X4_columnOf l D g (c.2 11 q) (by omega)) nw_X2_76 sm_X4_columnOf ini_X4 cd_X4_columnOf ds_X4_columnOf ⟨Nat.le_of_ble_eq_true rfl, Nat.le_of_ble_eq_true rfl⟩ hK va_P_nil rfl hl.1 rfl (Nat.le_of_ble_eq_true rfl) ⟨Nat.zero_le _, Nat.zero_le _⟩ dX2_tell_46 ?_
    exact z_ret S hr hlk (by grind [pitT, b01]) dX2_tell_49
  · refine z_tabIn (off := 49) (tgt := 50) S 1 h_1 (by decide) dX2_tell_1 (by decide) (by decide) rfl (by decide) ?_
    refine lv_aload_n S.1 S.2.1 dX2_tell_50 rfl (lv_at hl 0 rfl) ?_
    refine z_get (v := .ref (a 16)) S inA2 hK hP 4 rfl rfl 2 (by decide) fl_X2_25 rfl dX2_tell_51 ?_
    refine lv_iload_n S.1 S.2.1 dX2_tell_54 rfl (lv_at hl 1 rfl) ?_
    refine z_iald S hK hP 16 rfl (by decide) (by omega) dX2_tell_55 ?_
    have hb_3 := hI.r11 q
    refine z_rN (As := [.int (zI (c.2 11 q))]) (rest := []) S (m_X4_rowOf l D g (c.2 11 q) (by omega)) nw_X2_79 sm_X4_rowOf ini_X4 cd_X4_rowOf ds_X4_rowOf ⟨Nat.le_of_ble_eq_true rfl, Nat.le_of_ble_eq_true rfl⟩ hK va_P_nil rfl hl.1 rfl (Nat.le_of_ble_eq_true rfl) ⟨Nat.zero_le _, Nat.zero_le _⟩ dX2_tell_56 ?_
    exact z_ret S hr hlk (by grind [pitT, b01]) dX2_tell_59
  · refine z_tabIn (off := 59) (tgt := 60) S 2 h_1 (by decide) dX2_tell_1 (by decide) (by decide) rfl (by decide) ?_
    refine lv_aload_n S.1 S.2.1 dX2_tell_60 rfl (lv_at hl 0 rfl) ?_
    refine z_get (v := .ref (a 18)) S inA2 hK hP 4 rfl rfl 4 (by decide) fl_X2_31 rfl dX2_tell_61 ?_
    refine lv_iload_n S.1 S.2.1 dX2_tell_64 rfl (lv_at hl 1 rfl) ?_
    refine z_iald S hK hP 18 rfl (by decide) (by omega) dX2_tell_65 ?_
    have hb_4 := hI.r13 q
    exact z_ret S hr hlk (by grind [pitT, b01]) dX2_tell_66
  · refine z_tabIn (off := 66) (tgt := 67) S 3 h_1 (by decide) dX2_tell_1 (by decide) (by decide) rfl (by decide) ?_
    refine lv_aload_n S.1 S.2.1 dX2_tell_67 rfl (lv_at hl 0 rfl) ?_
    refine lv_iload_n S.1 S.2.1 dX2_tell_68 rfl (lv_at hl 1 rfl) ?_
    refine z_rV (As := [.int (zI q)]) (rest := []) S (m_X2_hasFound l D g a c hI q (by omega)) ml_X2_41 im_X2_hasFound se_X2_hasFound ini_X2 cd_X2_hasFound ds_X2_hasFound ⟨Nat.le_of_ble_eq_true rfl, Nat.le_of_ble_eq_true rfl⟩ hK hP (va_recv hK.1 hP (ci := 2) (q0 := 4) rfl rfl) rfl hl.1 rfl (Nat.le_of_ble_eq_true rfl) ⟨Nat.zero_le _, Nat.zero_le _⟩ dX2_tell_69 ?_
    refine z_ifb_eq (tgt := 79) S dX2_tell_72 (by decide) (fun h_5 => ?_) (fun h_5 => ?_)
    · refine z_iconst S dX2_tell_79 ?_
      exact z_ret S hr hlk (by grind [pitT, b01]) dX2_tell_80
    · refine z_iconst S dX2_tell_75 ?_
      refine z_goto (tgt := 80) S dX2_tell_76 (by decide) ?_
      exact z_ret S hr hlk (by grind [pitT, b01]) dX2_tell_80
  · refine z_tabIn (off := 80) (tgt := 81) S 4 h_1 (by decide) dX2_tell_1 (by decide) (by decide) rfl (by decide) ?_
    refine lv_aload_n S.1 S.2.1 dX2_tell_81 rfl (lv_at hl 0 rfl) ?_
    refine lv_iload_n S.1 S.2.1 dX2_tell_82 rfl (lv_at hl 1 rfl) ?_
    refine z_rV (As := [.int (zI q)]) (rest := []) S (m_X2_isOver l D g a c hI q (by omega)) ml_X2_69 im_X2_isOver se_X2_isOver ini_X2 cd_X2_isOver ds_X2_isOver ⟨Nat.le_of_ble_eq_true rfl, Nat.le_of_ble_eq_true rfl⟩ hK hP (va_recv hK.1 hP (ci := 2) (q0 := 4) rfl rfl) rfl hl.1 rfl (Nat.le_of_ble_eq_true rfl) ⟨Nat.zero_le _, Nat.zero_le _⟩ dX2_tell_83 ?_
    refine z_ifb_eq (tgt := 93) S dX2_tell_86 (by decide) (fun h_6 => ?_) (fun h_6 => ?_)
    · refine z_iconst S dX2_tell_93 ?_
      exact z_ret S hr hlk (by grind [pitT, b01]) dX2_tell_94
    · refine z_iconst S dX2_tell_89 ?_
      refine z_goto (tgt := 94) S dX2_tell_90 (by decide) ?_
      exact z_ret S hr hlk (by grind [pitT, b01]) dX2_tell_94
  · refine z_tabIn (off := 94) (tgt := 95) S 5 h_1 (by decide) dX2_tell_1 (by decide) (by decide) rfl (by decide) ?_
    refine lv_aload_n S.1 S.2.1 dX2_tell_95 rfl (lv_at hl 0 rfl) ?_
    refine lv_iload_n S.1 S.2.1 dX2_tell_96 rfl (lv_at hl 1 rfl) ?_
    refine z_iconst S dX2_tell_97 ?_
    refine z_rV (As := [.int (zI q), .int (zI 1)]) (rest := []) S (m_X2_stakedOn l D g a c hI q 1 (by omega) (by omega)) ml_X2_58 im_X2_stakedOn se_X2_stakedOn ini_X2 cd_X2_stakedOn ds_X2_stakedOn ⟨Nat.le_of_ble_eq_true rfl, Nat.le_of_ble_eq_true rfl⟩ hK hP (va_recv hK.1 hP (ci := 2) (q0 := 4) rfl rfl) rfl hl.1 rfl (Nat.le_of_ble_eq_true rfl) ⟨Nat.zero_le _, Nat.zero_le _⟩ dX2_tell_98 ?_
    exact z_ret S hr hlk (by grind [pitT, b01]) dX2_tell_101
  · refine z_tabOut (tgt := 102) S (by omega) dX2_tell_1 h_1 (by decide) ?_
    refine lv_aload_n S.1 S.2.1 dX2_tell_102 rfl (lv_at hl 0 rfl) ?_
    refine lv_iload_n S.1 S.2.1 dX2_tell_103 rfl (lv_at hl 1 rfl) ?_
    refine z_iconst S dX2_tell_104 ?_
    refine z_rV (As := [.int (zI q), .int (zI 0)]) (rest := []) S (m_X2_stakedOn l D g a c hI q 0 (by omega) (by omega)) ml_X2_58 im_X2_stakedOn se_X2_stakedOn ini_X2 cd_X2_stakedOn ds_X2_stakedOn ⟨Nat.le_of_ble_eq_true rfl, Nat.le_of_ble_eq_true rfl⟩ hK hP (va_recv hK.1 hP (ci := 2) (q0 := 4) rfl rfl) rfl hl.1 rfl (Nat.le_of_ble_eq_true rfl) ⟨Nat.zero_le _, Nat.zero_le _⟩ dX2_tell_105 ?_
    exact z_ret S hr hlk (by grind [pitT, b01]) dX2_tell_108
end
