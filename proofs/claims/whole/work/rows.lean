section
-- ===== PART A: goes FIRST, ahead of the names: the tables' words, and 'selects' of the private methods out of them =====
/-- a private method of a class that the tables say can be made, by its rows of tables_1 -/
def lw_okq (q : MethodName × Nat) : Prop := (q.1.cls ≠ "java/lang/invoke/MethodHandle" ∧ q.1.cls ≠ "java/lang/invoke/VarHandle") ∧ Cond.instantiable q.1.cls q.2 ∈ tables_1 ∧ Cond.privateMethod q.1 ∈ tables_1 ∧ Cond.instanceMethod q.1 ∈ tables_1
theorem lw_p0 : lw_okq (⟨"QuietYards$Reader", "nextToken", "()V"⟩, 6) := ⟨⟨by decide +kernel, by decide +kernel⟩, List.mem_of_getElem? (i := 27) (by decide +kernel), List.mem_of_getElem? (i := 310) (by decide +kernel), List.mem_of_getElem? (i := 311) (by decide +kernel)⟩
theorem lw_p1 : lw_okq (⟨"QuietYards$Reader", "isLetter", "(I)Z"⟩, 6) := ⟨⟨by decide +kernel, by decide +kernel⟩, List.mem_of_getElem? (i := 27) (by decide +kernel), List.mem_of_getElem? (i := 314) (by decide +kernel), List.mem_of_getElem? (i := 315) (by decide +kernel)⟩
theorem lw_p2 : lw_okq (⟨"QuietYards$Reader", "wordToken", "()I"⟩, 6) := ⟨⟨by decide +kernel, by decide +kernel⟩, List.mem_of_getElem? (i := 27) (by decide +kernel), List.mem_of_getElem? (i := 318) (by decide +kernel), List.mem_of_getElem? (i := 319) (by decide +kernel)⟩
theorem lw_p3 : lw_okq (⟨"QuietYards$Reader", "spells", "(Ljava/lang/String;)Z"⟩, 6) := ⟨⟨by decide +kernel, by decide +kernel⟩, List.mem_of_getElem? (i := 27) (by decide +kernel), List.mem_of_getElem? (i := 323) (by decide +kernel), List.mem_of_getElem? (i := 324) (by decide +kernel)⟩
theorem lw_p4 : lw_okq (⟨"QuietYards$Reader", "isDigit", "(I)Z"⟩, 6) := ⟨⟨by decide +kernel, by decide +kernel⟩, List.mem_of_getElem? (i := 27) (by decide +kernel), List.mem_of_getElem? (i := 384) (by decide +kernel), List.mem_of_getElem? (i := 385) (by decide +kernel)⟩
theorem lw_p5 : lw_okq (⟨"QuietYards$Reader", "numberToken", "()I"⟩, 6) := ⟨⟨by decide +kernel, by decide +kernel⟩, List.mem_of_getElem? (i := 27) (by decide +kernel), List.mem_of_getElem? (i := 388) (by decide +kernel), List.mem_of_getElem? (i := 389) (by decide +kernel)⟩
theorem lw_p6 : lw_okq (⟨"QuietYards$Reader", "readSize", "(LQuietYards$Hill;)Z"⟩, 6) := ⟨⟨by decide +kernel, by decide +kernel⟩, List.mem_of_getElem? (i := 27) (by decide +kernel), List.mem_of_getElem? (i := 392) (by decide +kernel), List.mem_of_getElem? (i := 393) (by decide +kernel)⟩
theorem lw_p7 : lw_okq (⟨"QuietYards$Reader", "readNumber", "(II[II)Z"⟩, 6) := ⟨⟨by decide +kernel, by decide +kernel⟩, List.mem_of_getElem? (i := 27) (by decide +kernel), List.mem_of_getElem? (i := 396) (by decide +kernel), List.mem_of_getElem? (i := 397) (by decide +kernel)⟩
theorem lw_p8 : lw_okq (⟨"QuietYards$Reader", "readBorder", "(LQuietYards$Hill;I)Z"⟩, 6) := ⟨⟨by decide +kernel, by decide +kernel⟩, List.mem_of_getElem? (i := 27) (by decide +kernel), List.mem_of_getElem? (i := 401) (by decide +kernel), List.mem_of_getElem? (i := 402) (by decide +kernel)⟩
theorem lw_p9 : lw_okq (⟨"QuietYards$Reader", "readWind", "(LQuietYards$Ground;)Z"⟩, 6) := ⟨⟨by decide +kernel, by decide +kernel⟩, List.mem_of_getElem? (i := 27) (by decide +kernel), List.mem_of_getElem? (i := 434) (by decide +kernel), List.mem_of_getElem? (i := 435) (by decide +kernel)⟩
theorem lw_p10 : lw_okq (⟨"QuietYards$Reader", "readWorker", "(LQuietYards$Hill;)Z"⟩, 6) := ⟨⟨by decide +kernel, by decide +kernel⟩, List.mem_of_getElem? (i := 27) (by decide +kernel), List.mem_of_getElem? (i := 438) (by decide +kernel), List.mem_of_getElem? (i := 439) (by decide +kernel)⟩
theorem lw_p11 : lw_okq (⟨"QuietYards$Reader", "readDeed", "(LQuietYards$Hill;)Z"⟩, 6) := ⟨⟨by decide +kernel, by decide +kernel⟩, List.mem_of_getElem? (i := 27) (by decide +kernel), List.mem_of_getElem? (i := 442) (by decide +kernel), List.mem_of_getElem? (i := 443) (by decide +kernel)⟩
theorem lw_p12 : lw_okq (⟨"QuietYards$Reader", "readSemicolon", "()Z"⟩, 6) := ⟨⟨by decide +kernel, by decide +kernel⟩, List.mem_of_getElem? (i := 27) (by decide +kernel), List.mem_of_getElem? (i := 446) (by decide +kernel), List.mem_of_getElem? (i := 447) (by decide +kernel)⟩
theorem lw_p13 : lw_okq (⟨"QuietYards$Hill", "settleHours", "(I)V"⟩, 10) := ⟨⟨by decide +kernel, by decide +kernel⟩, List.mem_of_getElem? (i := 134) (by decide +kernel), List.mem_of_getElem? (i := 455) (by decide +kernel), List.mem_of_getElem? (i := 456) (by decide +kernel)⟩
theorem lw_p14 : lw_okq (⟨"QuietYards$Hill", "isOwned", "(II)Z"⟩, 10) := ⟨⟨by decide +kernel, by decide +kernel⟩, List.mem_of_getElem? (i := 134) (by decide +kernel), List.mem_of_getElem? (i := 459) (by decide +kernel), List.mem_of_getElem? (i := 460) (by decide +kernel)⟩
theorem lw_p15 : lw_okq (⟨"QuietYards", "listen", "()V"⟩, 8) := ⟨⟨by decide +kernel, by decide +kernel⟩, List.mem_of_getElem? (i := 19) (by decide +kernel), List.mem_of_getElem? (i := 467) (by decide +kernel), List.mem_of_getElem? (i := 468) (by decide +kernel)⟩
def lw_privs_1 : List (MethodName × Nat) := [(⟨"QuietYards$Reader", "nextToken", "()V"⟩, 6), (⟨"QuietYards$Reader", "isLetter", "(I)Z"⟩, 6), (⟨"QuietYards$Reader", "wordToken", "()I"⟩, 6), (⟨"QuietYards$Reader", "spells", "(Ljava/lang/String;)Z"⟩, 6), (⟨"QuietYards$Reader", "isDigit", "(I)Z"⟩, 6), (⟨"QuietYards$Reader", "numberToken", "()I"⟩, 6), (⟨"QuietYards$Reader", "readSize", "(LQuietYards$Hill;)Z"⟩, 6), (⟨"QuietYards$Reader", "readNumber", "(II[II)Z"⟩, 6), (⟨"QuietYards$Reader", "readBorder", "(LQuietYards$Hill;I)Z"⟩, 6), (⟨"QuietYards$Reader", "readWind", "(LQuietYards$Ground;)Z"⟩, 6), (⟨"QuietYards$Reader", "readWorker", "(LQuietYards$Hill;)Z"⟩, 6), (⟨"QuietYards$Reader", "readDeed", "(LQuietYards$Hill;)Z"⟩, 6), (⟨"QuietYards$Reader", "readSemicolon", "()Z"⟩, 6), (⟨"QuietYards$Hill", "settleHours", "(I)V"⟩, 10), (⟨"QuietYards$Hill", "isOwned", "(II)Z"⟩, 10), (⟨"QuietYards", "listen", "()V"⟩, 8)]
theorem lw_r1 : ∀ q ∈ lw_privs_1, lw_okq q := List.forall_mem_cons.mpr ⟨lw_p0, List.forall_mem_cons.mpr ⟨lw_p1, List.forall_mem_cons.mpr ⟨lw_p2, List.forall_mem_cons.mpr ⟨lw_p3, List.forall_mem_cons.mpr ⟨lw_p4, List.forall_mem_cons.mpr ⟨lw_p5, List.forall_mem_cons.mpr ⟨lw_p6, List.forall_mem_cons.mpr ⟨lw_p7, List.forall_mem_cons.mpr ⟨lw_p8, List.forall_mem_cons.mpr ⟨lw_p9, List.forall_mem_cons.mpr ⟨lw_p10, List.forall_mem_cons.mpr ⟨lw_p11, List.forall_mem_cons.mpr ⟨lw_p12, List.forall_mem_cons.mpr ⟨lw_p13, List.forall_mem_cons.mpr ⟨lw_p14, List.forall_mem_cons.mpr ⟨lw_p15, fun _ h => absurd h List.not_mem_nil⟩⟩⟩⟩⟩⟩⟩⟩⟩⟩⟩⟩⟩⟩⟩⟩
theorem lw_p16 : lw_okq (⟨"QuietYards$Sound", "spread", "(LQuietYards$Hill;II[I)V"⟩, 3) := ⟨⟨by decide +kernel, by decide +kernel⟩, List.mem_of_getElem? (i := 70) (by decide +kernel), List.mem_of_getElem? (i := 475) (by decide +kernel), List.mem_of_getElem? (i := 476) (by decide +kernel)⟩
theorem lw_p17 : lw_okq (⟨"QuietYards$Sound", "sweepOn", "(LQuietYards$Hill;[I)V"⟩, 3) := ⟨⟨by decide +kernel, by decide +kernel⟩, List.mem_of_getElem? (i := 70) (by decide +kernel), List.mem_of_getElem? (i := 480) (by decide +kernel), List.mem_of_getElem? (i := 481) (by decide +kernel)⟩
theorem lw_p18 : lw_okq (⟨"QuietYards$Sound", "lossWith", "(I)I"⟩, 3) := ⟨⟨by decide +kernel, by decide +kernel⟩, List.mem_of_getElem? (i := 70) (by decide +kernel), List.mem_of_getElem? (i := 484) (by decide +kernel), List.mem_of_getElem? (i := 485) (by decide +kernel)⟩
theorem lw_p19 : lw_okq (⟨"QuietYards$Sound", "sweepAgainst", "(LQuietYards$Hill;[I)Z"⟩, 3) := ⟨⟨by decide +kernel, by decide +kernel⟩, List.mem_of_getElem? (i := 70) (by decide +kernel), List.mem_of_getElem? (i := 492) (by decide +kernel), List.mem_of_getElem? (i := 493) (by decide +kernel)⟩
theorem lw_p20 : lw_okq (⟨"QuietYards$Plans", "addWorker", "(IIII)V"⟩, 4) := ⟨⟨by decide +kernel, by decide +kernel⟩, List.mem_of_getElem? (i := 91) (by decide +kernel), List.mem_of_getElem? (i := 501) (by decide +kernel), List.mem_of_getElem? (i := 502) (by decide +kernel)⟩
theorem lw_p21 : lw_okq (⟨"QuietYards", "owedFrom", "(III)I"⟩, 8) := ⟨⟨by decide +kernel, by decide +kernel⟩, List.mem_of_getElem? (i := 19) (by decide +kernel), List.mem_of_getElem? (i := 595) (by decide +kernel), List.mem_of_getElem? (i := 596) (by decide +kernel)⟩
theorem lw_p22 : lw_okq (⟨"QuietYards", "fitsHearsay", "(I)Z"⟩, 8) := ⟨⟨by decide +kernel, by decide +kernel⟩, List.mem_of_getElem? (i := 19) (by decide +kernel), List.mem_of_getElem? (i := 620) (by decide +kernel), List.mem_of_getElem? (i := 621) (by decide +kernel)⟩
theorem lw_p23 : lw_okq (⟨"QuietYards", "asNoise", "(I)I"⟩, 8) := ⟨⟨by decide +kernel, by decide +kernel⟩, List.mem_of_getElem? (i := 19) (by decide +kernel), List.mem_of_getElem? (i := 641) (by decide +kernel), List.mem_of_getElem? (i := 642) (by decide +kernel)⟩
theorem lw_p24 : lw_okq (⟨"QuietYards", "asStruck", "(I)I"⟩, 8) := ⟨⟨by decide +kernel, by decide +kernel⟩, List.mem_of_getElem? (i := 19) (by decide +kernel), List.mem_of_getElem? (i := 645) (by decide +kernel), List.mem_of_getElem? (i := 646) (by decide +kernel)⟩
theorem lw_p25 : lw_okq (⟨"QuietYards", "asHeld", "(I)I"⟩, 8) := ⟨⟨by decide +kernel, by decide +kernel⟩, List.mem_of_getElem? (i := 19) (by decide +kernel), List.mem_of_getElem? (i := 650) (by decide +kernel), List.mem_of_getElem? (i := 651) (by decide +kernel)⟩
theorem lw_p26 : lw_okq (⟨"QuietYards", "asBlown", "(I)I"⟩, 8) := ⟨⟨by decide +kernel, by decide +kernel⟩, List.mem_of_getElem? (i := 19) (by decide +kernel), List.mem_of_getElem? (i := 655) (by decide +kernel), List.mem_of_getElem? (i := 656) (by decide +kernel)⟩
theorem lw_p27 : lw_okq (⟨"QuietYards", "asDrummed", "(I)I"⟩, 8) := ⟨⟨by decide +kernel, by decide +kernel⟩, List.mem_of_getElem? (i := 19) (by decide +kernel), List.mem_of_getElem? (i := 660) (by decide +kernel), List.mem_of_getElem? (i := 661) (by decide +kernel)⟩
theorem lw_p28 : lw_okq (⟨"QuietYards", "asMany", "(I)I"⟩, 8) := ⟨⟨by decide +kernel, by decide +kernel⟩, List.mem_of_getElem? (i := 19) (by decide +kernel), List.mem_of_getElem? (i := 665) (by decide +kernel), List.mem_of_getElem? (i := 666) (by decide +kernel)⟩
theorem lw_p29 : lw_okq (⟨"QuietYardsModel", "begins", "()V"⟩, 27) := ⟨⟨by decide +kernel, by decide +kernel⟩, List.mem_of_getElem? (i := 703) (by decide +kernel), List.mem_of_getElem? (i := 709) (by decide +kernel), List.mem_of_getElem? (i := 710) (by decide +kernel)⟩
theorem lw_p30 : lw_okq (⟨"QuietYardsModel", "adopts", "()V"⟩, 27) := ⟨⟨by decide +kernel, by decide +kernel⟩, List.mem_of_getElem? (i := 703) (by decide +kernel), List.mem_of_getElem? (i := 713) (by decide +kernel), List.mem_of_getElem? (i := 714) (by decide +kernel)⟩
theorem lw_p31 : lw_okq (⟨"QuietYardsModel", "advances", "()V"⟩, 27) := ⟨⟨by decide +kernel, by decide +kernel⟩, List.mem_of_getElem? (i := 703) (by decide +kernel), List.mem_of_getElem? (i := 816) (by decide +kernel), List.mem_of_getElem? (i := 817) (by decide +kernel)⟩
def lw_privs_2 : List (MethodName × Nat) := [(⟨"QuietYards$Sound", "spread", "(LQuietYards$Hill;II[I)V"⟩, 3), (⟨"QuietYards$Sound", "sweepOn", "(LQuietYards$Hill;[I)V"⟩, 3), (⟨"QuietYards$Sound", "lossWith", "(I)I"⟩, 3), (⟨"QuietYards$Sound", "sweepAgainst", "(LQuietYards$Hill;[I)Z"⟩, 3), (⟨"QuietYards$Plans", "addWorker", "(IIII)V"⟩, 4), (⟨"QuietYards", "owedFrom", "(III)I"⟩, 8), (⟨"QuietYards", "fitsHearsay", "(I)Z"⟩, 8), (⟨"QuietYards", "asNoise", "(I)I"⟩, 8), (⟨"QuietYards", "asStruck", "(I)I"⟩, 8), (⟨"QuietYards", "asHeld", "(I)I"⟩, 8), (⟨"QuietYards", "asBlown", "(I)I"⟩, 8), (⟨"QuietYards", "asDrummed", "(I)I"⟩, 8), (⟨"QuietYards", "asMany", "(I)I"⟩, 8), (⟨"QuietYardsModel", "begins", "()V"⟩, 27), (⟨"QuietYardsModel", "adopts", "()V"⟩, 27), (⟨"QuietYardsModel", "advances", "()V"⟩, 27)]
theorem lw_r2 : ∀ q ∈ lw_privs_2, lw_okq q := List.forall_mem_cons.mpr ⟨lw_p16, List.forall_mem_cons.mpr ⟨lw_p17, List.forall_mem_cons.mpr ⟨lw_p18, List.forall_mem_cons.mpr ⟨lw_p19, List.forall_mem_cons.mpr ⟨lw_p20, List.forall_mem_cons.mpr ⟨lw_p21, List.forall_mem_cons.mpr ⟨lw_p22, List.forall_mem_cons.mpr ⟨lw_p23, List.forall_mem_cons.mpr ⟨lw_p24, List.forall_mem_cons.mpr ⟨lw_p25, List.forall_mem_cons.mpr ⟨lw_p26, List.forall_mem_cons.mpr ⟨lw_p27, List.forall_mem_cons.mpr ⟨lw_p28, List.forall_mem_cons.mpr ⟨lw_p29, List.forall_mem_cons.mpr ⟨lw_p30, List.forall_mem_cons.mpr ⟨lw_p31, fun _ h => absurd h List.not_mem_nil⟩⟩⟩⟩⟩⟩⟩⟩⟩⟩⟩⟩⟩⟩⟩⟩
theorem lw_p32 : lw_okq (⟨"QuietYardsModel", "byteAt", "(I)I"⟩, 27) := ⟨⟨by decide +kernel, by decide +kernel⟩, List.mem_of_getElem? (i := 703) (by decide +kernel), List.mem_of_getElem? (i := 820) (by decide +kernel), List.mem_of_getElem? (i := 821) (by decide +kernel)⟩
theorem lw_p33 : lw_okq (⟨"QuietYardsModel", "isWell", "()Z"⟩, 27) := ⟨⟨by decide +kernel, by decide +kernel⟩, List.mem_of_getElem? (i := 703) (by decide +kernel), List.mem_of_getElem? (i := 834) (by decide +kernel), List.mem_of_getElem? (i := 835) (by decide +kernel)⟩
theorem lw_p34 : lw_okq (⟨"QuietYardsModel", "takes", "(Z)I"⟩, 27) := ⟨⟨by decide +kernel, by decide +kernel⟩, List.mem_of_getElem? (i := 703) (by decide +kernel), List.mem_of_getElem? (i := 838) (by decide +kernel), List.mem_of_getElem? (i := 839) (by decide +kernel)⟩
theorem lw_p35 : lw_okq (⟨"QuietYardsModel", "readsItem", "(I)V"⟩, 27) := ⟨⟨by decide +kernel, by decide +kernel⟩, List.mem_of_getElem? (i := 703) (by decide +kernel), List.mem_of_getElem? (i := 842) (by decide +kernel), List.mem_of_getElem? (i := 843) (by decide +kernel)⟩
theorem lw_p36 : lw_okq (⟨"QuietYardsModel", "number", "(II)I"⟩, 27) := ⟨⟨by decide +kernel, by decide +kernel⟩, List.mem_of_getElem? (i := 703) (by decide +kernel), List.mem_of_getElem? (i := 846) (by decide +kernel), List.mem_of_getElem? (i := 847) (by decide +kernel)⟩
theorem lw_p37 : lw_okq (⟨"QuietYardsModel", "readsBetween", "(I)V"⟩, 27) := ⟨⟨by decide +kernel, by decide +kernel⟩, List.mem_of_getElem? (i := 703) (by decide +kernel), List.mem_of_getElem? (i := 850) (by decide +kernel), List.mem_of_getElem? (i := 851) (by decide +kernel)⟩
theorem lw_p38 : lw_okq (⟨"QuietYardsModel", "areNeighbours", "(II)Z"⟩, 27) := ⟨⟨by decide +kernel, by decide +kernel⟩, List.mem_of_getElem? (i := 703) (by decide +kernel), List.mem_of_getElem? (i := 867) (by decide +kernel), List.mem_of_getElem? (i := 868) (by decide +kernel)⟩
theorem lw_p39 : lw_okq (⟨"QuietYardsModel", "isYard", "(I)Z"⟩, 27) := ⟨⟨by decide +kernel, by decide +kernel⟩, List.mem_of_getElem? (i := 703) (by decide +kernel), List.mem_of_getElem? (i := 871) (by decide +kernel), List.mem_of_getElem? (i := 872) (by decide +kernel)⟩
theorem lw_p40 : lw_okq (⟨"QuietYardsModel", "isWorker", "(I)Z"⟩, 27) := ⟨⟨by decide +kernel, by decide +kernel⟩, List.mem_of_getElem? (i := 703) (by decide +kernel), List.mem_of_getElem? (i := 891) (by decide +kernel), List.mem_of_getElem? (i := 892) (by decide +kernel)⟩
theorem lw_p41 : lw_okq (⟨"QuietYardsModel", "holds", "(II)Z"⟩, 27) := ⟨⟨by decide +kernel, by decide +kernel⟩, List.mem_of_getElem? (i := 703) (by decide +kernel), List.mem_of_getElem? (i := 899) (by decide +kernel), List.mem_of_getElem? (i := 900) (by decide +kernel)⟩
theorem lw_p42 : lw_okq (⟨"QuietYardsModel", "spreads", "(III)V"⟩, 27) := ⟨⟨by decide +kernel, by decide +kernel⟩, List.mem_of_getElem? (i := 703) (by decide +kernel), List.mem_of_getElem? (i := 907) (by decide +kernel), List.mem_of_getElem? (i := 908) (by decide +kernel)⟩
theorem lw_p43 : lw_okq (⟨"QuietYardsModel", "passes", "(III)I"⟩, 27) := ⟨⟨by decide +kernel, by decide +kernel⟩, List.mem_of_getElem? (i := 703) (by decide +kernel), List.mem_of_getElem? (i := 911) (by decide +kernel), List.mem_of_getElem? (i := 912) (by decide +kernel)⟩
theorem lw_p44 : lw_okq (⟨"QuietYardsModel", "spreadsAll", "()V"⟩, 27) := ⟨⟨by decide +kernel, by decide +kernel⟩, List.mem_of_getElem? (i := 703) (by decide +kernel), List.mem_of_getElem? (i := 919) (by decide +kernel), List.mem_of_getElem? (i := 920) (by decide +kernel)⟩
theorem lw_p45 : lw_okq (⟨"QuietYardsModel", "heardBy", "(IIZ)I"⟩, 27) := ⟨⟨by decide +kernel, by decide +kernel⟩, List.mem_of_getElem? (i := 703) (by decide +kernel), List.mem_of_getElem? (i := 923) (by decide +kernel), List.mem_of_getElem? (i := 924) (by decide +kernel)⟩
theorem lw_p46 : lw_okq (⟨"QuietYardsModel", "brokenBy", "(II)I"⟩, 27) := ⟨⟨by decide +kernel, by decide +kernel⟩, List.mem_of_getElem? (i := 703) (by decide +kernel), List.mem_of_getElem? (i := 934) (by decide +kernel), List.mem_of_getElem? (i := 935) (by decide +kernel)⟩
theorem lw_p47 : lw_okq (⟨"QuietYardsModel", "plans", "(II)V"⟩, 27) := ⟨⟨by decide +kernel, by decide +kernel⟩, List.mem_of_getElem? (i := 703) (by decide +kernel), List.mem_of_getElem? (i := 945) (by decide +kernel), List.mem_of_getElem? (i := 946) (by decide +kernel)⟩
def lw_privs_3 : List (MethodName × Nat) := [(⟨"QuietYardsModel", "byteAt", "(I)I"⟩, 27), (⟨"QuietYardsModel", "isWell", "()Z"⟩, 27), (⟨"QuietYardsModel", "takes", "(Z)I"⟩, 27), (⟨"QuietYardsModel", "readsItem", "(I)V"⟩, 27), (⟨"QuietYardsModel", "number", "(II)I"⟩, 27), (⟨"QuietYardsModel", "readsBetween", "(I)V"⟩, 27), (⟨"QuietYardsModel", "areNeighbours", "(II)Z"⟩, 27), (⟨"QuietYardsModel", "isYard", "(I)Z"⟩, 27), (⟨"QuietYardsModel", "isWorker", "(I)Z"⟩, 27), (⟨"QuietYardsModel", "holds", "(II)Z"⟩, 27), (⟨"QuietYardsModel", "spreads", "(III)V"⟩, 27), (⟨"QuietYardsModel", "passes", "(III)I"⟩, 27), (⟨"QuietYardsModel", "spreadsAll", "()V"⟩, 27), (⟨"QuietYardsModel", "heardBy", "(IIZ)I"⟩, 27), (⟨"QuietYardsModel", "brokenBy", "(II)I"⟩, 27), (⟨"QuietYardsModel", "plans", "(II)V"⟩, 27)]
theorem lw_r3 : ∀ q ∈ lw_privs_3, lw_okq q := List.forall_mem_cons.mpr ⟨lw_p32, List.forall_mem_cons.mpr ⟨lw_p33, List.forall_mem_cons.mpr ⟨lw_p34, List.forall_mem_cons.mpr ⟨lw_p35, List.forall_mem_cons.mpr ⟨lw_p36, List.forall_mem_cons.mpr ⟨lw_p37, List.forall_mem_cons.mpr ⟨lw_p38, List.forall_mem_cons.mpr ⟨lw_p39, List.forall_mem_cons.mpr ⟨lw_p40, List.forall_mem_cons.mpr ⟨lw_p41, List.forall_mem_cons.mpr ⟨lw_p42, List.forall_mem_cons.mpr ⟨lw_p43, List.forall_mem_cons.mpr ⟨lw_p44, List.forall_mem_cons.mpr ⟨lw_p45, List.forall_mem_cons.mpr ⟨lw_p46, List.forall_mem_cons.mpr ⟨lw_p47, fun _ h => absurd h List.not_mem_nil⟩⟩⟩⟩⟩⟩⟩⟩⟩⟩⟩⟩⟩⟩⟩⟩
theorem lw_p48 : lw_okq (⟨"QuietYardsModel", "pricesOf", "(I)I"⟩, 27) := ⟨⟨by decide +kernel, by decide +kernel⟩, List.mem_of_getElem? (i := 703) (by decide +kernel), List.mem_of_getElem? (i := 949) (by decide +kernel), List.mem_of_getElem? (i := 950) (by decide +kernel)⟩
theorem lw_p49 : lw_okq (⟨"QuietYardsModel", "dayOf", "(I)I"⟩, 27) := ⟨⟨by decide +kernel, by decide +kernel⟩, List.mem_of_getElem? (i := 703) (by decide +kernel), List.mem_of_getElem? (i := 957) (by decide +kernel), List.mem_of_getElem? (i := 958) (by decide +kernel)⟩
def lw_privs_4 : List (MethodName × Nat) := [(⟨"QuietYardsModel", "pricesOf", "(I)I"⟩, 27), (⟨"QuietYardsModel", "dayOf", "(I)I"⟩, 27)]
theorem lw_r4 : ∀ q ∈ lw_privs_4, lw_okq q := List.forall_mem_cons.mpr ⟨lw_p48, List.forall_mem_cons.mpr ⟨lw_p49, fun _ h => absurd h List.not_mem_nil⟩⟩
def lw_privs : List (MethodName × Nat) := lw_privs_1 ++ (lw_privs_2 ++ (lw_privs_3 ++ (lw_privs_4)))
def lw_tbl : List Cond := k2_sels lw_privs ++ tables_1
theorem lw_privs_ok : ∀ q ∈ lw_privs, lw_okq q := by
  show ∀ q ∈ lw_privs_1 ++ (lw_privs_2 ++ (lw_privs_3 ++ (lw_privs_4))), lw_okq q
  exact List.forall_mem_append.mpr ⟨lw_r1, List.forall_mem_append.mpr ⟨lw_r2, List.forall_mem_append.mpr ⟨lw_r3, lw_r4⟩⟩⟩
end
section
/-- arrays over arrays of a type (the printed names use this word, the kit lacks it) -/
def va_AOA (ty : FieldType) (U : State) : Prop := (Cond.arrayOver (.array ty)).before #[] U = true
theorem va_AOA.of {ty : FieldType} {A : Array Value} {U : State} (h : (Cond.arrayOver (.array ty)).before A U = true) : va_AOA ty U := h
theorem va_AOA.use {ty : FieldType} {A : Array Value} {U : State} (h : va_AOA ty U) : (Cond.arrayOver (.array ty)).before A U = true := h
/-! ===== BEGIN words of one list among another's, by their places ===== -/
theorem goodIn_r {big : List Cond} (ws : List Cond) (ps : List Nat) (hp : ws = ps.filterMap (fun i => big[i]?)) (h : ws.all goodWord = true) : GoodIn big ws := by
  intro w hw
  have h1 := List.all_eq_true.mp h w hw
  rw [hp] at hw
  obtain ⟨i, -, hi⟩ := List.mem_filterMap.mp hw
  have hm : w ∈ big := by first | exact List.mem_of_getElem? hi | exact List.getElem?_mem hi
  exact ⟨hm, good_of_word h1⟩
theorem goodIn_app {big a b : List Cond} (ha : GoodIn big a) (hb : GoodIn big b) : GoodIn big (a ++ b) := fun w h => (List.mem_append.mp h).elim (ha w) (hb w)
theorem goodIn_ca {big a b : List Cond} {c : Cond} (ha : GoodIn big (c :: a)) (hb : GoodIn big b) : GoodIn big (c :: (a ++ b)) := fun w h => (List.mem_cons.mp h).elim (fun e => ha w (List.mem_cons.mpr (Or.inl e))) (fun h => (List.mem_append.mp h).elim (fun h => ha w (List.mem_cons.mpr (Or.inr h))) (hb w))
theorem goodIn_sub {big ws : List Cond} (hm : ∀ w ∈ ws, w ∈ big) (h : ws.all goodWord = true) : GoodIn big ws := fun w hw => ⟨hm w hw, good_of_word (List.all_eq_true.mp h w hw)⟩
/-! ===== END ===== -/

/-! ===== BEGIN new T[n][m]: the outer array a place, the inner ones among the pooled ===== -/
/-- f, but v at every address of l -/
def vr_up {α : Type} (f : Nat → α) (l : List Nat) (v : α) : Nat → α := fun a => if a ∈ l then v else f a
theorem vr_up_in {α : Type} {f : Nat → α} {l : List Nat} {v : α} {a : Nat} (h : a ∈ l) : vr_up f l v a = v := if_pos h
theorem vr_up_ne {α : Type} {f : Nat → α} {l : List Nat} {v : α} {a : Nat} (h : a ∉ l) : vr_up f l v a = f a := if_neg h
theorem vr_rows {L l : List Nat} {f : Nat → va_E} {e : va_E} (h : ∀ a, a ∈ l → a ∉ L) : va_pl L f ++ l.map (fun a => (a, e)) = va_pl (L ++ l) (vr_up f l e) := by
  unfold va_pl
  rw [List.map_append]
  congr 1
  · apply List.map_congr_left
    intro a ha
    rw [vr_up_ne (fun q => h a q ha)]
  · apply List.map_congr_left
    intro a ha
    rw [vr_up_in ha]
theorem vr_lay {X rows : va_W} {x : Nat × va_E} {pl : va_W} {D : va_G} {cl : List vw_C} {H : Heap} (hP : va_P D cl (((X ++ pl) ++ [x]) ++ rows) H) : va_P D cl ((X ++ [x]) ++ (pl ++ rows)) H := by
  rw [List.append_assoc (X ++ pl)] at hP
  have h := va_P.swap hP
  rw [← List.append_assoc X] at h
  have h2 := va_P.swap h
  rw [List.append_assoc (X ++ [x])] at h2
  exact h2
theorem vr_layD {X rows : va_W} {x : Nat × va_E} {pl : va_W} {A : Nat → Prop} (hD : va_D A (((X ++ pl) ++ [x]) ++ rows)) : va_D A ((X ++ [x]) ++ (pl ++ rows)) := by
  rw [List.append_assoc (X ++ pl)] at hD
  have h := va_D.swap hD
  rw [← List.append_assoc X] at h
  have h2 := va_D.swap h
  rw [List.append_assoc (X ++ [x])] at h2
  exact h2
theorem vr_outer (c : ClassId) (N h0 : Nat) : ∀ i : Nat, Jvm.Free.Multi.outerC c N h0 i = arrV c N (fun j => va_rf (if j < i then some (h0 + 1 + j) else none))
  | 0 => by
    show ({ cls := c, slots := Array.replicate N .null, vm := .none } : Cell) = _
    rw [arrV_new]
    refine congrArg (arrV c N) (funext fun j => ?_)
    simp [va_rf]
  | i + 1 => by
    show (Jvm.Free.Multi.outerC c N h0 i).setSlot i (.ref (h0 + 1 + i)) = _
    rw [vr_outer c N h0 i, arrV_store]
    refine congrArg (arrV c N) (funext fun j => ?_)
    by_cases e : j = i
    · subst e
      simp [updV, va_rf]
    · by_cases h : j < i
      · simp [updV, e, h, Nat.lt_succ_of_lt h]
      · simp [updV, e, h, show ¬ j < i + 1 by omega]
section VGM
variable {p : Program} {l : Launch} {e : Env} {R : Room} {s : State} {m : MethodId} {args : Array Value} {below : List Frame} {meth : Method} {c : Code} {H : Heap} {locs : List Loc} {cells slots : Nat} {Q : State → Prop}
variable {cc : ByteArray} {pc : Nat} {ls : Array Slot} {rest : List Value} {D : va_G} {cl : List vw_C} {A : Nat → Prop} {a : Nat} {tys : List (ClassId × FieldType)} {ws : va_W} {H0 : Heap}
theorem va_mna {X : va_W} {L : List Nat} {f : Nat → va_E} {cc : ByteArray} (hexec : p.tables.exec = Jvm.exec) (hb : c.code = cc) {own : String} {index : Nat} {ty : FieldType} {cy : ClassId} (hown : s.vm.findClass own = some m.cls) (hclink : (Cond.classLink own index ("[" ++ (FieldType.array ty).toString)).before args s = true) (hover : va_AOA ty s) (harr : (Cond.arrayClass ty).before args s = true) (hcy : s.vm.findClass (FieldType.array ty).toString = some cy)
    (hK : va_K D cl tys s) (hP : va_P D cl (X ++ va_pl L f) H) (hD : va_D A (X ++ va_pl L f)) (hS : va_S A H0 H locs) (hA : ∀ q, H0.size ≤ q → A q) {n k : Int32} {N' K' : Nat} {z : vp_A} (hn : ¬ n < 0) (hk : ¬ k < 0) (hN : n.toNatClampNeg = N') (hM : k.toNatClampNeg = K')
    (hb1 : N' * 4 ≤ 536870912) (hb2 : K' * componentBytes ty ≤ 536870912) (hb3 : K' ≤ 536870912) (hdf : fits ty (defaultValue ty) = true) (hdd : (defaultValue ty).isDefault = true) (hcells : cells + (1 + N') ≤ R.cells) (hslots : slots + (N' + N' * K') ≤ R.slots) (hz : ∀ c : ClassId, Jvm.Free.Multi.innerC c K' (defaultValue ty) = vp_cell c z) (hdg : decode cc pc = .ok (.multianewarray index 2, 4))
    (kk : ∀ (q : Nat) (r : Nat → Nat) (cA : ClassId) (H1 : Heap), (∀ i j : Nat, i < N' → j < N' → r i = r j → i = j) → (∀ i : Nat, i < N' → r i ∉ L) → va_K D cl (tys ++ [(cA, .array ty)]) s →
      va_P D cl ((X ++ [(q, .inl (cA, N', .inr (.inr (.inr (.inr (fun i => if i < N' then some (r i) else none))))))]) ++ va_pl (L ++ (List.range N').map r) (vr_up f ((List.range N').map r) (.inl (cy, z)))) H1 → va_D A ((X ++ [(q, .inl (cA, N', .inr (.inr (.inr (.inr (fun i => if i < N' then some (r i) else none))))))]) ++ va_pl (L ++ (List.range N').map r) (vr_up f ((List.range N').map r) (.inl (cy, z)))) → va_S A H0 H1 locs →
      W p l e R s m args below meth c H1 locs (cells + 1 + N') (slots + N' + N' * K') Q (F0 m (pc + 4) ls (.ref q :: rest))) : W p l e R s m args below meth c H locs cells slots Q (F0 m pc ls (.int k :: .int n :: rest)) := by
  subst hN
  subst hM
  intro T hT Xs
  obtain ⟨vm₁, cA, comp, -, fA, fC, hO, -, X', step⟩ := Xs.multianewarray2F hexec hown hclink (va_AOA.use hover) harr (g := F0 m pc ls (.int k :: .int n :: rest)) rfl (by rw [hb]; exact hdg) rfl hn hk hb1 hb2 hb3 hdf hdd hcells hslots
  have ec : some cy = some comp := hcy.symm.trans fC
  cases ec
  generalize hF : Jvm.Free.Multi.fill (T.setVm vm₁) cA cy n.toNatClampNeg k.toNatClampNeg (defaultValue ty) n.toNatClampNeg = F at X' step
  have hTh : (T.setVm vm₁).heap = H := hT
  obtain ⟨f1, f2, -, -⟩ := Jvm.Free.Multi.fill_facts (T.setVm vm₁) cA cy n.toNatClampNeg k.toNatClampNeg (defaultValue ty) n.toNatClampNeg
  rw [hF, hTh] at f1 f2
  have hold : ∀ x : Nat, x < H.size → F.heap[x]? = H[x]? := fun x hx => by
    have := Jvm.Free.Multi.fill_old (T.setVm vm₁) cA cy n.toNatClampNeg k.toNatClampNeg (defaultValue ty) (a := x) (by rw [hTh]; exact hx) n.toNatClampNeg
    rw [hF, hTh] at this
    exact this
  have hrow : ∀ j : Nat, j < n.toNatClampNeg → F.heap[H.size + 1 + j]? = some (vp_cell cy z) := fun j hj => by
    have := Jvm.Free.Multi.fill_inner (T.setVm vm₁) cA cy n.toNatClampNeg k.toNatClampNeg (defaultValue ty) n.toNatClampNeg j hj
    rw [hF, hTh, hz] at this
    exact this
  have hout : Jvm.Free.Multi.outerC cA n.toNatClampNeg H.size n.toNatClampNeg = vp_cell cA (n.toNatClampNeg, .inr (.inr (.inr (.inr (fun i => if i < n.toNatClampNeg then some (H.size + 1 + i) else none))))) := by
    rw [vp_cell_q]
    exact vr_outer cA n.toNatClampNeg H.size n.toNatClampNeg
  rw [hout] at f2
  have hlt : ∀ a, a ∈ L → a < H.size := fun a ha => by
    obtain ⟨k9, hk9⟩ := va_pl_get (X := X) (f := f) ha
    exact (hP k9 _ hk9).lt
  have hnl : ∀ i : Nat, i < n.toNatClampNeg → H.size + 1 + i ∉ L := fun i _ h => by
    have := hlt _ h
    omega
  have hnm : ∀ a, a ∈ (List.range n.toNatClampNeg).map (fun i => H.size + 1 + i) → a ∉ L := fun a ha h => by
    obtain ⟨i, -, rfl⟩ := List.mem_map.mp ha
    have := hlt _ h
    omega
  have hP0 : va_P D cl (X ++ va_pl L f) F.heap := hP.kept (fun k9 x hx => hold x.1 ((hP k9 x hx).lt))
  have hP1 : va_P D cl ((X ++ va_pl L f) ++ [(H.size, .inl (cA, n.toNatClampNeg, .inr (.inr (.inr (.inr (fun i => if i < n.toNatClampNeg then some (H.size + 1 + i) else none))))))]) F.heap := hP0.app (fun k9 x hx => by
    have h0 : k9 < 1 := (List.getElem?_eq_some_iff.mp hx).1
    rw [show k9 = 0 by omega] at hx
    cases hx
    exact f2)
  have hP2 : va_P D cl (((X ++ va_pl L f) ++ [(H.size, .inl (cA, n.toNatClampNeg, .inr (.inr (.inr (.inr (fun i => if i < n.toNatClampNeg then some (H.size + 1 + i) else none))))))]) ++ ((List.range n.toNatClampNeg).map (fun i => H.size + 1 + i)).map (fun a => (a, .inl (cy, z)))) F.heap := hP1.app (fun k9 x hx => by
    obtain ⟨a, ha, rfl⟩ := List.mem_map.mp (List.mem_of_getElem? hx)
    obtain ⟨i, hi, rfl⟩ := List.mem_map.mp ha
    exact hrow i (List.mem_range.mp hi))
  have hD2 : va_D A (((X ++ va_pl L f) ++ [(H.size, .inl (cA, n.toNatClampNeg, .inr (.inr (.inr (.inr (fun i => if i < n.toNatClampNeg then some (H.size + 1 + i) else none))))))]) ++ ((List.range n.toNatClampNeg).map (fun i => H.size + 1 + i)).map (fun a => (a, .inl (cy, z)))) := by
    have hD1 := hD.push (e := .inl (cA, n.toNatClampNeg, .inr (.inr (.inr (.inr (fun i => if i < n.toNatClampNeg then some (H.size + 1 + i) else none)))))) hP rfl (hA _ hS.1)
    generalize hW1 : (X ++ va_pl L f) ++ [(H.size, .inl (cA, n.toNatClampNeg, .inr (.inr (.inr (.inr (fun i => if i < n.toNatClampNeg then some (H.size + 1 + i) else none))))))] = W1 at hD1 hP1 ⊢
    have hle : ∀ (k9 : Nat) (x : Nat × va_E), W1[k9]? = some x → x.1 ≤ H.size := fun k9 x hx => by
      rw [← hW1] at hx
      by_cases hl : k9 < (X ++ va_pl L f).length
      · rw [List.getElem?_append_left hl] at hx
        exact Nat.le_of_lt ((hP k9 x hx).lt)
      · rw [List.getElem?_append_right (by omega)] at hx
        have h0 : k9 - (X ++ va_pl L f).length < 1 := (List.getElem?_eq_some_iff.mp hx).1
        rw [show k9 - (X ++ va_pl L f).length = 0 by omega] at hx
        cases hx
        exact Nat.le_refl _
    have hr : ∀ (k9 : Nat) (x : Nat × va_E), (((List.range n.toNatClampNeg).map (fun i => H.size + 1 + i)).map (fun a => ((a, .inl (cy, z)) : Nat × va_E)))[k9]? = some x → x.1 = H.size + 1 + k9 := fun k9 x hx => by
      rw [List.getElem?_map, List.getElem?_map] at hx
      by_cases h9 : k9 < n.toNatClampNeg
      · rw [List.getElem?_range h9] at hx
        cases hx
        rfl
      · have hn0 : (List.range n.toNatClampNeg)[k9]? = none := List.getElem?_eq_none (by rw [List.length_range]; omega)
        rw [hn0] at hx
        cases hx
    refine ⟨fun i j x y hi hj hxy => ?_, fun k9 x hx => ?_⟩
    · by_cases h1 : i < W1.length <;> by_cases h2 : j < W1.length
      · rw [List.getElem?_append_left h1] at hi
        rw [List.getElem?_append_left h2] at hj
        exact hD1.1 i j x y hi hj hxy
      · rw [List.getElem?_append_left h1] at hi
        rw [List.getElem?_append_right (by omega)] at hj
        have := hle _ _ hi
        have := hr _ _ hj
        omega
      · rw [List.getElem?_append_right (by omega)] at hi
        rw [List.getElem?_append_left h2] at hj
        have := hle _ _ hj
        have := hr _ _ hi
        omega
      · rw [List.getElem?_append_right (by omega)] at hi hj
        have := hr _ _ hi
        have := hr _ _ hj
        omega
    · by_cases h1 : k9 < W1.length
      · rw [List.getElem?_append_left h1] at hx
        exact hD1.2 k9 x hx
      · rw [List.getElem?_append_right (by omega)] at hx
        have := hr _ _ hx
        exact hA _ (by have := hS.1; omega)
  have hAr : ArrOfT s cA (.array ty) := fun N9 z9 => by
    obtain ⟨-, k9, hk9, cm9, hkk9⟩ := (hO 0 0 0).1
    exact ⟨(fun q hq => by cases hq), k9, hk9, cm9, hkk9⟩
  have hK2 : va_K D cl (tys ++ [(cA, .array ty)]) s := ⟨hK.1, fun k9 x hx => by
    by_cases hl : k9 < tys.length
    · rw [List.getElem?_append_left hl] at hx
      exact hK.2 k9 x hx
    · rw [List.getElem?_append_right (by omega)] at hx
      have h0 : k9 - tys.length < 1 := (List.getElem?_eq_some_iff.mp hx).1
      rw [show k9 - tys.length = 0 by omega] at hx
      cases hx
      exact ⟨hAr, fA⟩⟩
  obtain ⟨t, a1, b1⟩ := kk H.size (fun i => H.size + 1 + i) cA F.heap (fun i j _ _ h => by have h9 : H.size + 1 + i = H.size + 1 + j := h; omega) hnl hK2 (by rw [← vr_rows hnm]; exact vr_lay hP2) (by rw [← vr_rows hnm]; exact vr_layD hD2) ⟨by rw [f1]; have := hS.1; omega, fun x h1 h2 => (hold x (Nat.lt_of_lt_of_le h1 hS.1)).trans (hS.2.1 x h1 h2), hS.2.2⟩ F rfl X'
  refine ⟨t, step t ?_, b1⟩
  have e : T.heap.size = H.size := by rw [hT]
  rw [e]
  exact a1
end VGM
/-! ===== END ===== -/

/-! ===== BEGIN printed: names, fields, word lists, decode rows ===== -/
def RX0 : String := "QuietYards$Ground"
def TX0 : u_T := fun k => match k with
  | 0 => ("QuietYards$Ground", "walls", "[I", true)
  | 1 => ("QuietYards$Ground", "felt", "[I", true)
  | 2 => ("QuietYards$Ground", "right", "I", false)
  | _ => ("QuietYards$Ground", "down", "I", false)
def tyX0 : Nat → FieldType := fun k => match k with
  | 0 => .array .int
  | 1 => .array .int
  | 2 => .int
  | _ => .int
abbrev wsX00 : List Cond := u_ws RX0 TX0 4
theorem nmX0 : ∀ a, a < 4 → ∀ b, b < 4 → a ≠ b → (TX0 a).2.1 ≠ (TX0 b).2.1 := by decide +kernel
theorem tyX0_ok : ∀ k, k < 4 → parseFieldDescriptor (TX0 k).2.2.1 = some (tyX0 k) := by decide +kernel
abbrev cX0_init : ByteArray := prog_2_method_1_code
def yX0_init : MethodName := ⟨RX0, "<init>", "()V"⟩
abbrev cX0_rowOf : ByteArray := prog_2_method_2_code
def yX0_rowOf : MethodName := ⟨RX0, "rowOf", "(I)[I"⟩
abbrev cX0_all : ByteArray := prog_2_method_3_code
def yX0_all : MethodName := ⟨RX0, "all", "(I)I"⟩
abbrev cX0_flatten : ByteArray := prog_2_method_4_code
def yX0_flatten : MethodName := ⟨RX0, "flatten", "()V"⟩
abbrev cX0_becomes : ByteArray := prog_2_method_5_code
def yX0_becomes : MethodName := ⟨RX0, "becomes", "(LQuietYards$Ground;)V"⟩
def RX1 : String := "QuietYards$Hearsay"
def TX1 : u_T := fun k => match k with
  | 0 => ("QuietYards$Hearsay", "yards", "[I", true)
  | 1 => ("QuietYards$Hearsay", "louds", "[I", true)
  | _ => ("QuietYards$Hearsay", "told", "I", false)
def tyX1 : Nat → FieldType := fun k => match k with
  | 0 => .array .int
  | 1 => .array .int
  | _ => .int
abbrev wsX10 : List Cond := u_ws RX1 TX1 3
theorem nmX1 : ∀ a, a < 3 → ∀ b, b < 3 → a ≠ b → (TX1 a).2.1 ≠ (TX1 b).2.1 := by decide +kernel
theorem tyX1_ok : ∀ k, k < 3 → parseFieldDescriptor (TX1 k).2.2.1 = some (tyX1 k) := by decide +kernel
abbrev cX1_init : ByteArray := prog_3_method_1_code
def yX1_init : MethodName := ⟨RX1, "<init>", "()V"⟩
abbrev cX1_add : ByteArray := prog_3_method_2_code
def yX1_add : MethodName := ⟨RX1, "add", "(II)I"⟩
abbrev cX1_empty : ByteArray := prog_3_method_3_code
def yX1_empty : MethodName := ⟨RX1, "empty", "()I"⟩
abbrev cX1_becomes : ByteArray := prog_3_method_4_code
def yX1_becomes : MethodName := ⟨RX1, "becomes", "(LQuietYards$Hearsay;)V"⟩
def RX2 : String := "QuietYards$Hill"
def TX2 : u_T := fun k => match k with
  | 0 => ("QuietYards$Hill", "wide", "I", false)
  | 1 => ("QuietYards$Hill", "high", "I", false)
  | 2 => ("QuietYards$Hill", "workers", "I", false)
  | 3 => ("QuietYards$Hill", "deeds", "I", false)
  | 4 => ("QuietYards$Hill", "ground", "LQuietYards$Ground;", true)
  | 5 => ("QuietYards$Hill", "workerRows", "[[I", true)
  | 6 => ("QuietYards$Hill", "deedRows", "[[I", true)
  | 7 => ("QuietYards$Hill", "holding", "[I", true)
  | 8 => ("QuietYards$Hill", "worths", "[I", true)
  | _ => ("QuietYards$Hill", "prices", "[I", true)
def tyX2 : Nat → FieldType := fun k => match k with
  | 0 => .int
  | 1 => .int
  | 2 => .int
  | 3 => .int
  | 4 => .object "QuietYards$Ground"
  | 5 => .array (.array .int)
  | 6 => .array (.array .int)
  | 7 => .array .int
  | 8 => .array .int
  | _ => .array .int
abbrev wsX20 : List Cond := u_ws RX2 TX2 10
theorem nmX2 : ∀ a, a < 10 → ∀ b, b < 10 → a ≠ b → (TX2 a).2.1 ≠ (TX2 b).2.1 := by decide +kernel
theorem tyX2_ok : ∀ k, k < 10 → parseFieldDescriptor (TX2 k).2.2.1 = some (tyX2 k) := by decide +kernel
abbrev cX2_init : ByteArray := prog_4_method_1_code
def yX2_init : MethodName := ⟨RX2, "<init>", "()V"⟩
abbrev cX2_startAnew : ByteArray := prog_4_method_2_code
def yX2_startAnew : MethodName := ⟨RX2, "startAnew", "()V"⟩
abbrev cX2_yards : ByteArray := prog_4_method_3_code
def yX2_yards : MethodName := ⟨RX2, "yards", "()I"⟩
abbrev cX2_isYard : ByteArray := prog_4_method_4_code
def yX2_isYard : MethodName := ⟨RX2, "isYard", "(I)Z"⟩
abbrev cX2_isWorker : ByteArray := prog_4_method_5_code
def yX2_isWorker : MethodName := ⟨RX2, "isWorker", "(I)Z"⟩
abbrev cX2_isDeed : ByteArray := prog_4_method_6_code
def yX2_isDeed : MethodName := ⟨RX2, "isDeed", "(I)Z"⟩
abbrev cX2_allWorkers : ByteArray := prog_4_method_7_code
def yX2_allWorkers : MethodName := ⟨RX2, "allWorkers", "()I"⟩
abbrev cX2_beyond : ByteArray := prog_4_method_8_code
def yX2_beyond : MethodName := ⟨RX2, "beyond", "(I)I"⟩
abbrev cX2_borderOf : ByteArray := prog_4_method_9_code
def yX2_borderOf : MethodName := ⟨RX2, "borderOf", "(II)I"⟩
abbrev cX2_settle : ByteArray := prog_4_method_10_code
def yX2_settle : MethodName := ⟨RX2, "settle", "()V"⟩
abbrev cX2_settleHours : ByteArray := prog_4_method_11_code
def yX2_settleHours : MethodName := ⟨RX2, "settleHours", "(I)V"⟩
abbrev cX2_isOwned : ByteArray := prog_4_method_12_code
def yX2_isOwned : MethodName := ⟨RX2, "isOwned", "(II)Z"⟩
abbrev cX2_sellers : ByteArray := prog_4_method_13_code
def yX2_sellers : MethodName := ⟨RX2, "sellers", "(II)I"⟩
abbrev cX2_buyers : ByteArray := prog_4_method_14_code
def yX2_buyers : MethodName := ⟨RX2, "buyers", "(I)I"⟩
def RX3 : String := "QuietYards$Image"
def TX3 : u_T := fun k => match k with
  | 0 => ("QuietYards$Image", "ground", "LQuietYards$Ground;", true)
  | 1 => ("QuietYards$Image", "hearsay", "LQuietYards$Hearsay;", true)
  | _ => ("QuietYards$Image", "kept", "Z", false)
def tyX3 : Nat → FieldType := fun k => match k with
  | 0 => .object "QuietYards$Ground"
  | 1 => .object "QuietYards$Hearsay"
  | _ => .boolean
abbrev wsX30 : List Cond := u_ws RX3 TX3 3
theorem nmX3 : ∀ a, a < 3 → ∀ b, b < 3 → a ≠ b → (TX3 a).2.1 ≠ (TX3 b).2.1 := by decide +kernel
theorem tyX3_ok : ∀ k, k < 3 → parseFieldDescriptor (TX3 k).2.2.1 = some (tyX3 k) := by decide +kernel
abbrev cX3_init : ByteArray := prog_5_method_1_code
def yX3_init : MethodName := ⟨RX3, "<init>", "()V"⟩
def RX4 : String := "QuietYards$Plans"
def TX4 : u_T := fun k => match k with
  | 0 => ("QuietYards$Plans", "breaks", "[I", true)
  | 1 => ("QuietYards$Plans", "sums", "[I", true)
  | 2 => ("QuietYards$Plans", "chosen", "I", false)
  | _ => ("QuietYards$Plans", "brings", "I", false)
def tyX4 : Nat → FieldType := fun k => match k with
  | 0 => .array .int
  | 1 => .array .int
  | 2 => .int
  | _ => .int
abbrev wsX40 : List Cond := u_ws RX4 TX4 4
theorem nmX4 : ∀ a, a < 4 → ∀ b, b < 4 → a ≠ b → (TX4 a).2.1 ≠ (TX4 b).2.1 := by decide +kernel
theorem tyX4_ok : ∀ k, k < 4 → parseFieldDescriptor (TX4 k).2.2.1 = some (tyX4 k) := by decide +kernel
abbrev cX4_init : ByteArray := prog_6_method_1_code
def yX4_init : MethodName := ⟨RX4, "<init>", "()V"⟩
abbrev cX4_weigh : ByteArray := prog_6_method_2_code
def yX4_weigh : MethodName := ⟨RX4, "weigh", "(LQuietYards$Hill;[[I)V"⟩
abbrev cX4_addWorker : ByteArray := prog_6_method_3_code
def yX4_addWorker : MethodName := ⟨RX4, "addWorker", "(IIII)V"⟩
abbrev cX4_choose : ByteArray := prog_6_method_4_code
def yX4_choose : MethodName := ⟨RX4, "choose", "(LQuietYards$Hill;II)V"⟩
abbrev cX4_wholeDay : ByteArray := prog_6_method_5_code
def yX4_wholeDay : MethodName := ⟨RX4, "wholeDay", "(LQuietYards$Hill;I)I"⟩
def RX5 : String := "QuietYards$Reader"
def TX5 : u_T := fun k => match k with
  | 0 => ("QuietYards$Reader", "text", "LQuietYards$Text;", true)
  | 1 => ("QuietYards$Reader", "numbers", "[I", true)
  | 2 => ("QuietYards$Reader", "at", "I", false)
  | 3 => ("QuietYards$Reader", "start", "I", false)
  | 4 => ("QuietYards$Reader", "token", "I", false)
  | _ => ("QuietYards$Reader", "value", "I", false)
def tyX5 : Nat → FieldType := fun k => match k with
  | 0 => .object "QuietYards$Text"
  | 1 => .array .int
  | 2 => .int
  | 3 => .int
  | 4 => .int
  | _ => .int
abbrev wsX50 : List Cond := u_ws RX5 TX5 6
theorem nmX5 : ∀ a, a < 6 → ∀ b, b < 6 → a ≠ b → (TX5 a).2.1 ≠ (TX5 b).2.1 := by decide +kernel
theorem tyX5_ok : ∀ k, k < 6 → parseFieldDescriptor (TX5 k).2.2.1 = some (tyX5 k) := by decide +kernel
abbrev cX5_init : ByteArray := prog_7_method_1_code
def yX5_init : MethodName := ⟨RX5, "<init>", "()V"⟩
abbrev cX5_read : ByteArray := prog_7_method_2_code
def yX5_read : MethodName := ⟨RX5, "read", "(LQuietYards$Hill;)I"⟩
abbrev cX5_readSize : ByteArray := prog_7_method_3_code
def yX5_readSize : MethodName := ⟨RX5, "readSize", "(LQuietYards$Hill;)Z"⟩
abbrev cX5_readBorder : ByteArray := prog_7_method_4_code
def yX5_readBorder : MethodName := ⟨RX5, "readBorder", "(LQuietYards$Hill;I)Z"⟩
abbrev cX5_readWind : ByteArray := prog_7_method_5_code
def yX5_readWind : MethodName := ⟨RX5, "readWind", "(LQuietYards$Ground;)Z"⟩
abbrev cX5_readWorker : ByteArray := prog_7_method_6_code
def yX5_readWorker : MethodName := ⟨RX5, "readWorker", "(LQuietYards$Hill;)Z"⟩
abbrev cX5_readDeed : ByteArray := prog_7_method_7_code
def yX5_readDeed : MethodName := ⟨RX5, "readDeed", "(LQuietYards$Hill;)Z"⟩
abbrev cX5_readNumber : ByteArray := prog_7_method_8_code
def yX5_readNumber : MethodName := ⟨RX5, "readNumber", "(II[II)Z"⟩
abbrev cX5_readSemicolon : ByteArray := prog_7_method_9_code
def yX5_readSemicolon : MethodName := ⟨RX5, "readSemicolon", "()Z"⟩
abbrev cX5_nextToken : ByteArray := prog_7_method_10_code
def yX5_nextToken : MethodName := ⟨RX5, "nextToken", "()V"⟩
abbrev cX5_isLetter : ByteArray := prog_7_method_11_code
def yX5_isLetter : MethodName := ⟨RX5, "isLetter", "(I)Z"⟩
abbrev cX5_isDigit : ByteArray := prog_7_method_12_code
def yX5_isDigit : MethodName := ⟨RX5, "isDigit", "(I)Z"⟩
abbrev cX5_numberToken : ByteArray := prog_7_method_13_code
def yX5_numberToken : MethodName := ⟨RX5, "numberToken", "()I"⟩
abbrev cX5_wordToken : ByteArray := prog_7_method_14_code
def yX5_wordToken : MethodName := ⟨RX5, "wordToken", "()I"⟩
abbrev cX5_spells : ByteArray := prog_7_method_15_code
def yX5_spells : MethodName := ⟨RX5, "spells", "(Ljava/lang/String;)Z"⟩
def RX6 : String := "QuietYards$Sound"
def TX6 : u_T := fun k => match k with
  | 0 => ("QuietYards$Sound", "louds", "[[I", true)
  | 1 => ("QuietYards$Sound", "sawn", "[I", true)
  | _ => ("QuietYards$Sound", "fade", "I", false)
def tyX6 : Nat → FieldType := fun k => match k with
  | 0 => .array (.array .int)
  | 1 => .array .int
  | _ => .int
abbrev wsX60 : List Cond := u_ws RX6 TX6 3
theorem nmX6 : ∀ a, a < 3 → ∀ b, b < 3 → a ≠ b → (TX6 a).2.1 ≠ (TX6 b).2.1 := by decide +kernel
theorem tyX6_ok : ∀ k, k < 3 → parseFieldDescriptor (TX6 k).2.2.1 = some (tyX6 k) := by decide +kernel
abbrev cX6_init : ByteArray := prog_8_method_1_code
def yX6_init : MethodName := ⟨RX6, "<init>", "()V"⟩
abbrev cX6_hearWorkers : ByteArray := prog_8_method_2_code
def yX6_hearWorkers : MethodName := ⟨RX6, "hearWorkers", "(LQuietYards$Hill;)V"⟩
abbrev cX6_hearSaw : ByteArray := prog_8_method_3_code
def yX6_hearSaw : MethodName := ⟨RX6, "hearSaw", "(LQuietYards$Hill;II)V"⟩
abbrev cX6_heardIn : ByteArray := prog_8_method_4_code
def yX6_heardIn : MethodName := ⟨RX6, "heardIn", "(LQuietYards$Hill;II)I"⟩
abbrev cX6_spread : ByteArray := prog_8_method_5_code
def yX6_spread : MethodName := ⟨RX6, "spread", "(LQuietYards$Hill;II[I)V"⟩
abbrev cX6_sweepOn : ByteArray := prog_8_method_6_code
def yX6_sweepOn : MethodName := ⟨RX6, "sweepOn", "(LQuietYards$Hill;[I)V"⟩
abbrev cX6_sweepAgainst : ByteArray := prog_8_method_7_code
def yX6_sweepAgainst : MethodName := ⟨RX6, "sweepAgainst", "(LQuietYards$Hill;[I)Z"⟩
abbrev cX6_lossWith : ByteArray := prog_8_method_8_code
def yX6_lossWith : MethodName := ⟨RX6, "lossWith", "(I)I"⟩
abbrev cX6_carry : ByteArray := prog_8_method_9_code
def yX6_carry : MethodName := ⟨RX6, "carry", "(LQuietYards$Ground;I[IIII)Z"⟩
def RX7 : String := "QuietYards$Text"
def TX7 : u_T := fun k => match k with
  | 0 => ("QuietYards$Text", "bytes", "[I", true)
  | _ => ("QuietYards$Text", "length", "I", false)
def tyX7 : Nat → FieldType := fun k => match k with
  | 0 => .array .int
  | _ => .int
abbrev wsX70 : List Cond := u_ws RX7 TX7 2
theorem nmX7 : ∀ a, a < 2 → ∀ b, b < 2 → a ≠ b → (TX7 a).2.1 ≠ (TX7 b).2.1 := by decide +kernel
theorem tyX7_ok : ∀ k, k < 2 → parseFieldDescriptor (TX7 k).2.2.1 = some (tyX7 k) := by decide +kernel
abbrev cX7_init : ByteArray := prog_9_method_1_code
def yX7_init : MethodName := ⟨RX7, "<init>", "()V"⟩
abbrev cX7_append : ByteArray := prog_9_method_2_code
def yX7_append : MethodName := ⟨RX7, "append", "(JI)I"⟩
abbrev cX7_empty : ByteArray := prog_9_method_3_code
def yX7_empty : MethodName := ⟨RX7, "empty", "()I"⟩
def RX8 : String := "QuietYards"
def TX8 : u_T := fun k => match k with
  | 0 => ("QuietYards", "reader", "LQuietYards$Reader;", true)
  | 1 => ("QuietYards", "sound", "LQuietYards$Sound;", true)
  | 2 => ("QuietYards", "plans", "LQuietYards$Plans;", true)
  | 3 => ("QuietYards", "hearsay", "LQuietYards$Hearsay;", true)
  | 4 => ("QuietYards", "images", "[LQuietYards$Image;", true)
  | 5 => ("QuietYards", "hill", "LQuietYards$Hill;", false)
  | 6 => ("QuietYards", "draft", "LQuietYards$Hill;", false)
  | _ => ("QuietYards", "trace", "J", false)
def tyX8 : Nat → FieldType := fun k => match k with
  | 0 => .object "QuietYards$Reader"
  | 1 => .object "QuietYards$Sound"
  | 2 => .object "QuietYards$Plans"
  | 3 => .object "QuietYards$Hearsay"
  | 4 => .array (.object "QuietYards$Image")
  | 5 => .object "QuietYards$Hill"
  | 6 => .object "QuietYards$Hill"
  | _ => .long
abbrev wsX80 : List Cond := u_ws RX8 TX8 8
theorem nmX8 : ∀ a, a < 8 → ∀ b, b < 8 → a ≠ b → (TX8 a).2.1 ≠ (TX8 b).2.1 := by decide +kernel
theorem tyX8_ok : ∀ k, k < 8 → parseFieldDescriptor (TX8 k).2.2.1 = some (tyX8 k) := by decide +kernel
abbrev cX8_init : ByteArray := prog_1_method_1_code
def yX8_init : MethodName := ⟨RX8, "<init>", "()V"⟩
abbrev cX8_type : ByteArray := prog_1_method_2_code
def yX8_type : MethodName := ⟨RX8, "type", "(JI)I"⟩
abbrev cX8_clear : ByteArray := prog_1_method_3_code
def yX8_clear : MethodName := ⟨RX8, "clear", "()I"⟩
abbrev cX8_hill : ByteArray := prog_1_method_4_code
def yX8_hill : MethodName := ⟨RX8, "hill", "()I"⟩
abbrev cX8_between : ByteArray := prog_1_method_5_code
def yX8_between : MethodName := ⟨RX8, "between", "(III)I"⟩
abbrev cX8_build : ByteArray := prog_1_method_6_code
def yX8_build : MethodName := ⟨RX8, "build", "(IIII)I"⟩
abbrev cX8_wind : ByteArray := prog_1_method_7_code
def yX8_wind : MethodName := ⟨RX8, "wind", "(II)I"⟩
abbrev cX8_fade : ByteArray := prog_1_method_8_code
def yX8_fade : MethodName := ⟨RX8, "fade", "(I)I"⟩
abbrev cX8_worker : ByteArray := prog_1_method_9_code
def yX8_worker : MethodName := ⟨RX8, "worker", "(II)I"⟩
abbrev cX8_deed : ByteArray := prog_1_method_10_code
def yX8_deed : MethodName := ⟨RX8, "deed", "(II)I"⟩
abbrev cX8_loud : ByteArray := prog_1_method_11_code
def yX8_loud : MethodName := ⟨RX8, "loud", "(II)I"⟩
abbrev cX8_heard : ByteArray := prog_1_method_12_code
def yX8_heard : MethodName := ⟨RX8, "heard", "(II)I"⟩
abbrev cX8_broken : ByteArray := prog_1_method_13_code
def yX8_broken : MethodName := ⟨RX8, "broken", "(II)I"⟩
abbrev cX8_plan : ByteArray := prog_1_method_14_code
def yX8_plan : MethodName := ⟨RX8, "plan", "(III)I"⟩
abbrev cX8_day : ByteArray := prog_1_method_15_code
def yX8_day : MethodName := ⟨RX8, "day", "(I)I"⟩
abbrev cX8_best : ByteArray := prog_1_method_16_code
def yX8_best : MethodName := ⟨RX8, "best", "(III)I"⟩
abbrev cX8_saw : ByteArray := prog_1_method_17_code
def yX8_saw : MethodName := ⟨RX8, "saw", "(III)I"⟩
abbrev cX8_hear : ByteArray := prog_1_method_18_code
def yX8_hear : MethodName := ⟨RX8, "hear", "(II)I"⟩
abbrev cX8_forget : ByteArray := prog_1_method_19_code
def yX8_forget : MethodName := ⟨RX8, "forget", "()I"⟩
abbrev cX8_who : ByteArray := prog_1_method_20_code
def yX8_who : MethodName := ⟨RX8, "who", "(I)I"⟩
abbrev cX8_price : ByteArray := prog_1_method_21_code
def yX8_price : MethodName := ⟨RX8, "price", "(II)I"⟩
abbrev cX8_rate : ByteArray := prog_1_method_22_code
def yX8_rate : MethodName := ⟨RX8, "rate", "(II)I"⟩
abbrev cX8_keep : ByteArray := prog_1_method_23_code
def yX8_keep : MethodName := ⟨RX8, "keep", "(I)I"⟩
abbrev cX8_back : ByteArray := prog_1_method_24_code
def yX8_back : MethodName := ⟨RX8, "back", "(I)I"⟩
abbrev cX8_count : ByteArray := prog_1_method_25_code
def yX8_count : MethodName := ⟨RX8, "count", "(I)I"⟩
abbrev cX8_trace : ByteArray := prog_1_method_26_code
def yX8_trace : MethodName := ⟨RX8, "trace", "()J"⟩
abbrev cX8_within : ByteArray := prog_1_method_27_code
def yX8_within : MethodName := ⟨RX8, "within", "(III)Z"⟩
abbrev cX8_isBit : ByteArray := prog_1_method_28_code
def yX8_isBit : MethodName := ⟨RX8, "isBit", "(I)Z"⟩
abbrev cX8_isHour : ByteArray := prog_1_method_29_code
def yX8_isHour : MethodName := ⟨RX8, "isHour", "(I)Z"⟩
abbrev cX8_mostOf : ByteArray := prog_1_method_30_code
def yX8_mostOf : MethodName := ⟨RX8, "mostOf", "(I)I"⟩
abbrev cX8_listen : ByteArray := prog_1_method_31_code
def yX8_listen : MethodName := ⟨RX8, "listen", "()V"⟩
abbrev cX8_owedFrom : ByteArray := prog_1_method_32_code
def yX8_owedFrom : MethodName := ⟨RX8, "owedFrom", "(III)I"⟩
abbrev cX8_fitsHearsay : ByteArray := prog_1_method_33_code
def yX8_fitsHearsay : MethodName := ⟨RX8, "fitsHearsay", "(I)Z"⟩
abbrev cX8_asNoise : ByteArray := prog_1_method_34_code
def yX8_asNoise : MethodName := ⟨RX8, "asNoise", "(I)I"⟩
abbrev cX8_asStruck : ByteArray := prog_1_method_35_code
def yX8_asStruck : MethodName := ⟨RX8, "asStruck", "(I)I"⟩
abbrev cX8_asHeld : ByteArray := prog_1_method_36_code
def yX8_asHeld : MethodName := ⟨RX8, "asHeld", "(I)I"⟩
abbrev cX8_asBlown : ByteArray := prog_1_method_37_code
def yX8_asBlown : MethodName := ⟨RX8, "asBlown", "(I)I"⟩
abbrev cX8_asDrummed : ByteArray := prog_1_method_38_code
def yX8_asDrummed : MethodName := ⟨RX8, "asDrummed", "(I)I"⟩
abbrev cX8_asMany : ByteArray := prog_1_method_39_code
def yX8_asMany : MethodName := ⟨RX8, "asMany", "(I)I"⟩
def RX9 : String := "QuietYardsModel"
def TX9 : u_T := fun k => match k with
  | 0 => ("QuietYardsModel", "thrown", "I", false)
  | 1 => ("QuietYardsModel", "trace", "J", false)
  | 2 => ("QuietYardsModel", "text", "[I", true)
  | 3 => ("QuietYardsModel", "typed", "I", false)
  | 4 => ("QuietYardsModel", "next", "I", false)
  | 5 => ("QuietYardsModel", "token", "I", false)
  | 6 => ("QuietYardsModel", "place", "I", false)
  | 7 => ("QuietYardsModel", "value", "I", false)
  | 8 => ("QuietYardsModel", "fault", "I", false)
  | 9 => ("QuietYardsModel", "wide", "I", false)
  | 10 => ("QuietYardsModel", "high", "I", false)
  | 11 => ("QuietYardsModel", "fades", "I", false)
  | 12 => ("QuietYardsModel", "draftWide", "I", false)
  | 13 => ("QuietYardsModel", "draftHigh", "I", false)
  | 14 => ("QuietYardsModel", "s", "[I", true)
  | 15 => ("QuietYardsModel", "draft", "[I", true)
  | 16 => ("QuietYardsModel", "kept", "[I", true)
  | 17 => ("QuietYardsModel", "isKept", "[Z", true)
  | 18 => ("QuietYardsModel", "worker", "[I", true)
  | 19 => ("QuietYardsModel", "deed", "[I", true)
  | 20 => ("QuietYardsModel", "workers", "I", false)
  | 21 => ("QuietYardsModel", "deeds", "I", false)
  | 22 => ("QuietYardsModel", "draftWorkers", "I", false)
  | 23 => ("QuietYardsModel", "draftDeeds", "I", false)
  | 24 => ("QuietYardsModel", "louds", "[I", true)
  | 25 => ("QuietYardsModel", "bestSet", "I", false)
  | _ => ("QuietYardsModel", "bestWorth", "I", false)
def tyX9 : Nat → FieldType := fun k => match k with
  | 0 => .int
  | 1 => .long
  | 2 => .array .int
  | 3 => .int
  | 4 => .int
  | 5 => .int
  | 6 => .int
  | 7 => .int
  | 8 => .int
  | 9 => .int
  | 10 => .int
  | 11 => .int
  | 12 => .int
  | 13 => .int
  | 14 => .array .int
  | 15 => .array .int
  | 16 => .array .int
  | 17 => .array .boolean
  | 18 => .array .int
  | 19 => .array .int
  | 20 => .int
  | 21 => .int
  | 22 => .int
  | 23 => .int
  | 24 => .array .int
  | 25 => .int
  | _ => .int
abbrev wsX90 : List Cond := u_ws RX9 TX9 27
theorem nmX9 : ∀ a, a < 27 → ∀ b, b < 27 → a ≠ b → (TX9 a).2.1 ≠ (TX9 b).2.1 := by decide +kernel
theorem tyX9_ok : ∀ k, k < 27 → parseFieldDescriptor (TX9 k).2.2.1 = some (tyX9 k) := by decide +kernel
abbrev cX9_init : ByteArray := prog_11_method_1_code
def yX9_init : MethodName := ⟨RX9, "<init>", "()V"⟩
abbrev cX9_in : ByteArray := prog_11_method_3_code
def yX9_in : MethodName := ⟨RX9, "in", "(III)Z"⟩
abbrev cX9_type : ByteArray := prog_11_method_4_code
def yX9_type : MethodName := ⟨RX9, "type", "(JI)I"⟩
abbrev cX9_clear : ByteArray := prog_11_method_5_code
def yX9_clear : MethodName := ⟨RX9, "clear", "()I"⟩
abbrev cX9_byteAt : ByteArray := prog_11_method_6_code
def yX9_byteAt : MethodName := ⟨RX9, "byteAt", "(I)I"⟩
abbrev cX9_add : ByteArray := prog_11_method_7_code
def yX9_add : MethodName := ⟨RX9, "add", "(JI)J"⟩
abbrev cX9_named : ByteArray := prog_11_method_8_code
def yX9_named : MethodName := ⟨RX9, "named", "(IIIIII)J"⟩
abbrev cX9_wordOf : ByteArray := prog_11_method_9_code
def yX9_wordOf : MethodName := ⟨RX9, "wordOf", "(J)I"⟩
abbrev cX9_advances : ByteArray := prog_11_method_10_code
def yX9_advances : MethodName := ⟨RX9, "advances", "()V"⟩
abbrev cX9_isWell : ByteArray := prog_11_method_11_code
def yX9_isWell : MethodName := ⟨RX9, "isWell", "()Z"⟩
abbrev cX9_takes : ByteArray := prog_11_method_12_code
def yX9_takes : MethodName := ⟨RX9, "takes", "(Z)I"⟩
abbrev cX9_number : ByteArray := prog_11_method_13_code
def yX9_number : MethodName := ⟨RX9, "number", "(II)I"⟩
abbrev cX9_lesser : ByteArray := prog_11_method_14_code
def yX9_lesser : MethodName := ⟨RX9, "lesser", "(II)I"⟩
abbrev cX9_areBeside : ByteArray := prog_11_method_15_code
def yX9_areBeside : MethodName := ⟨RX9, "areBeside", "(III)Z"⟩
abbrev cX9_spotOf : ByteArray := prog_11_method_16_code
def yX9_spotOf : MethodName := ⟨RX9, "spotOf", "(IIII)I"⟩
abbrev cX9_begins : ByteArray := prog_11_method_17_code
def yX9_begins : MethodName := ⟨RX9, "begins", "()V"⟩
abbrev cX9_readsBetween : ByteArray := prog_11_method_18_code
def yX9_readsBetween : MethodName := ⟨RX9, "readsBetween", "(I)V"⟩
abbrev cX9_readsItem : ByteArray := prog_11_method_19_code
def yX9_readsItem : MethodName := ⟨RX9, "readsItem", "(I)V"⟩
abbrev cX9_hill : ByteArray := prog_11_method_20_code
def yX9_hill : MethodName := ⟨RX9, "hill", "()I"⟩
abbrev cX9_adopts : ByteArray := prog_11_method_21_code
def yX9_adopts : MethodName := ⟨RX9, "adopts", "()V"⟩
abbrev cX9_isYard : ByteArray := prog_11_method_22_code
def yX9_isYard : MethodName := ⟨RX9, "isYard", "(I)Z"⟩
abbrev cX9_isWorker : ByteArray := prog_11_method_23_code
def yX9_isWorker : MethodName := ⟨RX9, "isWorker", "(I)Z"⟩
abbrev cX9_areNeighbours : ByteArray := prog_11_method_24_code
def yX9_areNeighbours : MethodName := ⟨RX9, "areNeighbours", "(II)Z"⟩
abbrev cX9_between : ByteArray := prog_11_method_25_code
def yX9_between : MethodName := ⟨RX9, "between", "(III)I"⟩
abbrev cX9_build : ByteArray := prog_11_method_26_code
def yX9_build : MethodName := ⟨RX9, "build", "(IIII)I"⟩
abbrev cX9_wind : ByteArray := prog_11_method_27_code
def yX9_wind : MethodName := ⟨RX9, "wind", "(II)I"⟩
abbrev cX9_fade : ByteArray := prog_11_method_28_code
def yX9_fade : MethodName := ⟨RX9, "fade", "(I)I"⟩
abbrev cX9_worker : ByteArray := prog_11_method_29_code
def yX9_worker : MethodName := ⟨RX9, "worker", "(II)I"⟩
abbrev cX9_holds : ByteArray := prog_11_method_30_code
def yX9_holds : MethodName := ⟨RX9, "holds", "(II)Z"⟩
abbrev cX9_deed : ByteArray := prog_11_method_31_code
def yX9_deed : MethodName := ⟨RX9, "deed", "(II)I"⟩
abbrev cX9_passes : ByteArray := prog_11_method_32_code
def yX9_passes : MethodName := ⟨RX9, "passes", "(III)I"⟩
abbrev cX9_spreads : ByteArray := prog_11_method_33_code
def yX9_spreads : MethodName := ⟨RX9, "spreads", "(III)V"⟩
abbrev cX9_spreadsAll : ByteArray := prog_11_method_34_code
def yX9_spreadsAll : MethodName := ⟨RX9, "spreadsAll", "()V"⟩
abbrev cX9_loud : ByteArray := prog_11_method_35_code
def yX9_loud : MethodName := ⟨RX9, "loud", "(II)I"⟩
abbrev cX9_heardBy : ByteArray := prog_11_method_36_code
def yX9_heardBy : MethodName := ⟨RX9, "heardBy", "(IIZ)I"⟩
abbrev cX9_heard : ByteArray := prog_11_method_37_code
def yX9_heard : MethodName := ⟨RX9, "heard", "(II)I"⟩
abbrev cX9_brokenBy : ByteArray := prog_11_method_38_code
def yX9_brokenBy : MethodName := ⟨RX9, "brokenBy", "(II)I"⟩
abbrev cX9_isHour : ByteArray := prog_11_method_39_code
def yX9_isHour : MethodName := ⟨RX9, "isHour", "(I)Z"⟩
abbrev cX9_isBit : ByteArray := prog_11_method_40_code
def yX9_isBit : MethodName := ⟨RX9, "isBit", "(I)Z"⟩
abbrev cX9_broken : ByteArray := prog_11_method_41_code
def yX9_broken : MethodName := ⟨RX9, "broken", "(II)I"⟩
abbrev cX9_pricesOf : ByteArray := prog_11_method_42_code
def yX9_pricesOf : MethodName := ⟨RX9, "pricesOf", "(I)I"⟩
abbrev cX9_plans : ByteArray := prog_11_method_43_code
def yX9_plans : MethodName := ⟨RX9, "plans", "(II)V"⟩
abbrev cX9_plan : ByteArray := prog_11_method_44_code
def yX9_plan : MethodName := ⟨RX9, "plan", "(III)I"⟩
abbrev cX9_dayOf : ByteArray := prog_11_method_45_code
def yX9_dayOf : MethodName := ⟨RX9, "dayOf", "(I)I"⟩
abbrev cX9_day : ByteArray := prog_11_method_46_code
def yX9_day : MethodName := ⟨RX9, "day", "(I)I"⟩
abbrev cX9_best : ByteArray := prog_11_method_47_code
def yX9_best : MethodName := ⟨RX9, "best", "(III)I"⟩
abbrev cX9_saw : ByteArray := prog_11_method_48_code
def yX9_saw : MethodName := ⟨RX9, "saw", "(III)I"⟩
abbrev cX9_hear : ByteArray := prog_11_method_49_code
def yX9_hear : MethodName := ⟨RX9, "hear", "(II)I"⟩
abbrev cX9_forget : ByteArray := prog_11_method_50_code
def yX9_forget : MethodName := ⟨RX9, "forget", "()I"⟩
abbrev cX9_who : ByteArray := prog_11_method_51_code
def yX9_who : MethodName := ⟨RX9, "who", "(I)I"⟩
abbrev cX9_price : ByteArray := prog_11_method_52_code
def yX9_price : MethodName := ⟨RX9, "price", "(II)I"⟩
abbrev cX9_rate : ByteArray := prog_11_method_53_code
def yX9_rate : MethodName := ⟨RX9, "rate", "(II)I"⟩
abbrev cX9_keep : ByteArray := prog_11_method_54_code
def yX9_keep : MethodName := ⟨RX9, "keep", "(I)I"⟩
abbrev cX9_back : ByteArray := prog_11_method_55_code
def yX9_back : MethodName := ⟨RX9, "back", "(I)I"⟩
abbrev cX9_count : ByteArray := prog_11_method_56_code
def yX9_count : MethodName := ⟨RX9, "count", "(I)I"⟩
abbrev cX9_trace : ByteArray := prog_11_method_57_code
def yX9_trace : MethodName := ⟨RX9, "trace", "()J"⟩
def RJx145de : String := "java/io/Serializable"
def TJx145de : u_T := fun k => match k with
  | _ => ("", "", "", false)
def tyJx145de : Nat → FieldType := fun k => match k with
  | _ => .int
abbrev wsJx145de0 : List Cond := u_ws RJx145de TJx145de 0
theorem nmJx145de : ∀ a, a < 0 → ∀ b, b < 0 → a ≠ b → (TJx145de a).2.1 ≠ (TJx145de b).2.1 := by decide +kernel
theorem tyJx145de_ok : ∀ k, k < 0 → parseFieldDescriptor (TJx145de k).2.2.1 = some (tyJx145de k) := by decide +kernel
def RJx9f9b0 : String := "java/lang/CharSequence"
def TJx9f9b0 : u_T := fun k => match k with
  | _ => ("", "", "", false)
def tyJx9f9b0 : Nat → FieldType := fun k => match k with
  | _ => .int
abbrev wsJx9f9b00 : List Cond := u_ws RJx9f9b0 TJx9f9b0 0
theorem nmJx9f9b0 : ∀ a, a < 0 → ∀ b, b < 0 → a ≠ b → (TJx9f9b0 a).2.1 ≠ (TJx9f9b0 b).2.1 := by decide +kernel
theorem tyJx9f9b0_ok : ∀ k, k < 0 → parseFieldDescriptor (TJx9f9b0 k).2.2.1 = some (tyJx9f9b0 k) := by decide +kernel
def RJxb160c : String := "java/lang/Comparable"
def TJxb160c : u_T := fun k => match k with
  | _ => ("", "", "", false)
def tyJxb160c : Nat → FieldType := fun k => match k with
  | _ => .int
abbrev wsJxb160c0 : List Cond := u_ws RJxb160c TJxb160c 0
theorem nmJxb160c : ∀ a, a < 0 → ∀ b, b < 0 → a ≠ b → (TJxb160c a).2.1 ≠ (TJxb160c b).2.1 := by decide +kernel
theorem tyJxb160c_ok : ∀ k, k < 0 → parseFieldDescriptor (TJxb160c k).2.2.1 = some (tyJxb160c k) := by decide +kernel
def RJ9 : String := "java/lang/Math"
def TJ9 : u_T := fun k => match k with
  | _ => ("", "", "", false)
def tyJ9 : Nat → FieldType := fun k => match k with
  | _ => .int
abbrev wsJ90 : List Cond := u_ws RJ9 TJ9 0
theorem nmJ9 : ∀ a, a < 0 → ∀ b, b < 0 → a ≠ b → (TJ9 a).2.1 ≠ (TJ9 b).2.1 := by decide +kernel
theorem tyJ9_ok : ∀ k, k < 0 → parseFieldDescriptor (TJ9 k).2.2.1 = some (tyJ9 k) := by decide +kernel
abbrev cJ9_max_7cf53 : ByteArray := prog_12_method_65_code
def yJ9_max_7cf53 : MethodName := ⟨RJ9, "max", "(II)I"⟩
abbrev cJ9_min_7cf53 : ByteArray := prog_12_method_69_code
def yJ9_min_7cf53 : MethodName := ⟨RJ9, "min", "(II)I"⟩
def RJ0 : String := "java/lang/String"
def TJ0 : u_T := fun k => match k with
  | _ => ("", "", "", false)
def tyJ0 : Nat → FieldType := fun k => match k with
  | _ => .int
abbrev wsJ00 : List Cond := u_ws RJ0 TJ0 0
theorem nmJ0 : ∀ a, a < 0 → ∀ b, b < 0 → a ≠ b → (TJ0 a).2.1 ≠ (TJ0 b).2.1 := by decide +kernel
theorem tyJ0_ok : ∀ k, k < 0 → parseFieldDescriptor (TJ0 k).2.2.1 = some (tyJ0 k) := by decide +kernel
abbrev cJ0_length_8abf5 : ByteArray := prog_13_method_54_code
def yJ0_length_8abf5 : MethodName := ⟨RJ0, "length", "()I"⟩
abbrev cJ0_charAt_5068e : ByteArray := prog_13_method_56_code
def yJ0_charAt_5068e : MethodName := ⟨RJ0, "charAt", "(I)C"⟩
abbrev cJ0_coder_7d493 : ByteArray := prog_13_method_152_code
def yJ0_coder_7d493 : MethodName := ⟨RJ0, "coder", "()B"⟩
abbrev cJ0_isLatin1_aae02 : ByteArray := prog_13_method_154_code
def yJ0_isLatin1_aae02 : MethodName := ⟨RJ0, "isLatin1", "()Z"⟩
abbrev cJ0_checkIndex_df160 : ByteArray := prog_13_method_155_code
def yJ0_checkIndex_df160 : MethodName := ⟨RJ0, "checkIndex", "(II)V"⟩
def RJ1 : String := "java/lang/StringLatin1"
def TJ1 : u_T := fun k => match k with
  | _ => ("", "", "", false)
def tyJ1 : Nat → FieldType := fun k => match k with
  | _ => .int
abbrev wsJ10 : List Cond := u_ws RJ1 TJ1 0
theorem nmJ1 : ∀ a, a < 0 → ∀ b, b < 0 → a ≠ b → (TJ1 a).2.1 ≠ (TJ1 b).2.1 := by decide +kernel
theorem tyJ1_ok : ∀ k, k < 0 → parseFieldDescriptor (TJ1 k).2.2.1 = some (tyJ1 k) := by decide +kernel
abbrev cJ1_charAt_3b067 : ByteArray := prog_14_method_2_code
def yJ1_charAt_3b067 : MethodName := ⟨RJ1, "charAt", "([BI)C"⟩
def RJ2 : String := "java/lang/StringUTF16"
def TJ2 : u_T := fun k => match k with
  | _ => ("", "", "", false)
def tyJ2 : Nat → FieldType := fun k => match k with
  | _ => .int
abbrev wsJ20 : List Cond := u_ws RJ2 TJ2 0
theorem nmJ2 : ∀ a, a < 0 → ∀ b, b < 0 → a ≠ b → (TJ2 a).2.1 ≠ (TJ2 b).2.1 := by decide +kernel
theorem tyJ2_ok : ∀ k, k < 0 → parseFieldDescriptor (TJ2 k).2.2.1 = some (tyJ2 k) := by decide +kernel
abbrev cJ2_getChar_3b067 : ByteArray := prog_15_method_5_code
def yJ2_getChar_3b067 : MethodName := ⟨RJ2, "getChar", "([BI)C"⟩
abbrev cJ2_length_9d52b : ByteArray := prog_15_method_6_code
def yJ2_length_9d52b : MethodName := ⟨RJ2, "length", "([B)I"⟩
abbrev cJ2_charAt_3b067 : ByteArray := prog_15_method_83_code
def yJ2_charAt_3b067 : MethodName := ⟨RJ2, "charAt", "([BI)C"⟩
abbrev cJ2_checkIndex_2214a : ByteArray := prog_15_method_91_code
def yJ2_checkIndex_2214a : MethodName := ⟨RJ2, "checkIndex", "(I[B)V"⟩
def RJ10 : String := "java/lang/System"
def TJ10 : u_T := fun k => match k with
  | _ => ("", "", "", false)
def tyJ10 : Nat → FieldType := fun k => match k with
  | _ => .int
abbrev wsJ100 : List Cond := u_ws RJ10 TJ10 0
theorem nmJ10 : ∀ a, a < 0 → ∀ b, b < 0 → a ≠ b → (TJ10 a).2.1 ≠ (TJ10 b).2.1 := by decide +kernel
theorem tyJ10_ok : ∀ k, k < 0 → parseFieldDescriptor (TJ10 k).2.2.1 = some (tyJ10 k) := by decide +kernel
def RJxfd54e : String := "java/lang/constant/Constable"
def TJxfd54e : u_T := fun k => match k with
  | _ => ("", "", "", false)
def tyJxfd54e : Nat → FieldType := fun k => match k with
  | _ => .int
abbrev wsJxfd54e0 : List Cond := u_ws RJxfd54e TJxfd54e 0
theorem nmJxfd54e : ∀ a, a < 0 → ∀ b, b < 0 → a ≠ b → (TJxfd54e a).2.1 ≠ (TJxfd54e b).2.1 := by decide +kernel
theorem tyJxfd54e_ok : ∀ k, k < 0 → parseFieldDescriptor (TJxfd54e k).2.2.1 = some (tyJxfd54e k) := by decide +kernel
def RJx3cf43 : String := "java/lang/constant/ConstantDesc"
def TJx3cf43 : u_T := fun k => match k with
  | _ => ("", "", "", false)
def tyJx3cf43 : Nat → FieldType := fun k => match k with
  | _ => .int
abbrev wsJx3cf430 : List Cond := u_ws RJx3cf43 TJx3cf43 0
theorem nmJx3cf43 : ∀ a, a < 0 → ∀ b, b < 0 → a ≠ b → (TJx3cf43 a).2.1 ≠ (TJx3cf43 b).2.1 := by decide +kernel
theorem tyJx3cf43_ok : ∀ k, k < 0 → parseFieldDescriptor (TJx3cf43 k).2.2.1 = some (tyJx3cf43 k) := by decide +kernel
def RJ7 : String := "java/util/Arrays"
def TJ7 : u_T := fun k => match k with
  | _ => ("", "", "", false)
def tyJ7 : Nat → FieldType := fun k => match k with
  | _ => .int
abbrev wsJ70 : List Cond := u_ws RJ7 TJ7 0
theorem nmJ7 : ∀ a, a < 0 → ∀ b, b < 0 → a ≠ b → (TJ7 a).2.1 ≠ (TJ7 b).2.1 := by decide +kernel
theorem tyJ7_ok : ∀ k, k < 0 → parseFieldDescriptor (TJ7 k).2.2.1 = some (tyJ7 k) := by decide +kernel
abbrev cJ7_fill_53178 : ByteArray := prog_17_method_103_code
def yJ7_fill_53178 : MethodName := ⟨RJ7, "fill", "([II)V"⟩
def RJ3 : String := "jdk/internal/util/Preconditions"
def TJ3 : u_T := fun k => match k with
  | _ => ("", "", "", false)
def tyJ3 : Nat → FieldType := fun k => match k with
  | _ => .int
abbrev wsJ30 : List Cond := u_ws RJ3 TJ3 0
theorem nmJ3 : ∀ a, a < 0 → ∀ b, b < 0 → a ≠ b → (TJ3 a).2.1 ≠ (TJ3 b).2.1 := by decide +kernel
theorem tyJ3_ok : ∀ k, k < 0 → parseFieldDescriptor (TJ3 k).2.2.1 = some (tyJ3 k) := by decide +kernel
abbrev cJ3_checkIndex_8e157 : ByteArray := prog_18_method_11_code
def yJ3_checkIndex_8e157 : MethodName := ⟨RJ3, "checkIndex", "(IILjava/util/function/BiFunction;)I"⟩
def RL : String := "QuietYardsLaw"
abbrev cL_law : ByteArray := code
def yL_law : MethodName := ⟨RL, "law", "([I)Z"⟩
abbrev vwCl : List vw_C := [(RX0, TX0, 4), (RX1, TX1, 3), (RX2, TX2, 10), (RX3, TX3, 3), (RX4, TX4, 4), (RX5, TX5, 6), (RX6, TX6, 3), (RX7, TX7, 2), (RX8, TX8, 8), (RX9, TX9, 27)]
end
section
/-! the memory: what every cell of the two systems holds, by the cell's number (0 .. 80 the class, 81 .. 89 the reference); longs apart -/
abbrev xMem : Type := (Nat → Nat → Int32) × (Nat → Int64)
/-- kinds: 0 .. 9 objects by vwCl, 10 int rows, 11 rows of int rows, 12 the images, 13 booleans -/
def kdL : List Nat := [8, 5, 7, 10, 10, 6, 11, 10, 10, 10, 10, 10, 10, 10, 4, 10, 10, 1, 10, 10, 12, 3, 0, 10, 10, 1, 10, 10, 3, 0, 10, 10, 1, 10, 10, 2, 0, 10, 10, 11, 10, 10, 10, 10, 10, 10, 11, 10, 10, 10, 10, 10, 10, 10, 10, 10, 10, 10, 2, 0, 10, 10, 11, 10, 10, 10, 10, 10, 10, 11, 10, 10, 10, 10, 10, 10, 10, 10, 10, 10, 10, 9, 10, 10, 10, 10, 13, 10, 10, 10]
def kd (i : Nat) : Nat := kdL.getD i 99
def lnL : List Nat := [0, 0, 0, 400, 2, 0, 6, 48, 48, 48, 48, 48, 48, 48, 0, 64, 64, 0, 6, 6, 2, 0, 0, 96, 96, 0, 6, 6, 0, 0, 96, 96, 0, 6, 6, 0, 0, 96, 96, 6, 4, 4, 4, 4, 4, 4, 8, 6, 6, 6, 6, 6, 6, 6, 6, 12, 64, 256, 0, 0, 96, 96, 6, 4, 4, 4, 4, 4, 4, 8, 6, 6, 6, 6, 6, 6, 6, 6, 12, 64, 256, 0, 400, 207, 207, 414, 2, 48, 80, 336]
def ln (i : Nat) : Nat := lnL.getD i 0
def xset (M : xMem) (i k : Nat) (v : Int32) : xMem := (va_up M.1 i (upd (M.1 i) k v), M.2)
def xrow (M : xMem) (i : Nat) (f : Nat → Int32) : xMem := (va_up M.1 i f, M.2)
def xlset (M : xMem) (i : Nat) (v : Int64) : xMem := (M.1, va_up M.2 i v)
abbrev xCs : Type := ClassId × ClassId × ClassId × ClassId
/-- the cell of a number -/
def xcell (a : Nat → Nat) (cs : xCs) (M : xMem) (i : Nat) : va_E := match kd i with
  | 0 => .inr (0, [.ref (a (i + 1)), .ref (a (i + 2)), .int (M.1 i 2), .int (M.1 i 3)])
  | 1 => .inr (1, [.ref (a (i + 1)), .ref (a (i + 2)), .int (M.1 i 2)])
  | 2 => .inr (2, [.int (M.1 i 0), .int (M.1 i 1), .int (M.1 i 2), .int (M.1 i 3), .ref (a (i + 1)), .ref (a (i + 4)), .ref (a (i + 11)), .ref (a (i + 20)), .ref (a (i + 21)), .ref (a (i + 22))])
  | 3 => .inr (3, [.ref (a (i + 1)), .ref (a (i + 4)), .int (M.1 i 2)])
  | 4 => .inr (4, [.ref (a (i + 1)), .ref (a (i + 2)), .int (M.1 i 2), .int (M.1 i 3)])
  | 5 => .inr (5, [.ref (a (i + 1)), .ref (a (i + 3)), .int (M.1 i 2), .int (M.1 i 3), .int (M.1 i 4), .int (M.1 i 5)])
  | 6 => .inr (6, [.ref (a (i + 1)), .ref (a (i + 8)), .int (M.1 i 2)])
  | 7 => .inr (7, [.ref (a (i + 1)), .int (M.1 i 1)])
  | 8 => .inr (8, [.ref (a (i + 1)), .ref (a (i + 5)), .ref (a (i + 14)), .ref (a (i + 17)), .ref (a (i + 20)), .ref (a (M.1 i 5).toNatClampNeg), .ref (a (M.1 i 6).toNatClampNeg), .long (M.2 0)])
  | 9 => .inr (9, [.int (M.1 i 0), .long (M.2 1), .ref (a (i + 1)), .int (M.1 i 3), .int (M.1 i 4), .int (M.1 i 5), .int (M.1 i 6), .int (M.1 i 7), .int (M.1 i 8), .int (M.1 i 9), .int (M.1 i 10), .int (M.1 i 11), .int (M.1 i 12), .int (M.1 i 13), .ref (a (i + 2)), .ref (a (i + 3)), .ref (a (i + 4)), .ref (a (i + 5)), .ref (a (i + 6)), .ref (a (i + 7)), .int (M.1 i 20), .int (M.1 i 21), .int (M.1 i 22), .int (M.1 i 23), .ref (a (i + 8)), .int (M.1 i 25), .int (M.1 i 26)])
  | 10 => .inl (cs.1, ln i, .inl (M.1 i))
  | 11 => .inl (cs.2.1, ln i, .inr (.inr (.inr (.inr (fun j => some (a (i + 1 + j)))))))
  | 12 => .inl (cs.2.2.1, ln i, .inr (.inr (.inr (.inr (fun j => some (a (i + 1 + 7 * j)))))))
  | _ => .inl (cs.2.2.2, ln i, .inl (M.1 i))
def xWd (a : Nat → Nat) (cs : xCs) (M : xMem) : va_W := (List.range 90).map (fun i => (a i, xcell a cs M i))
theorem kd_lt {i k : Nat} (h : kd i = k) (hk : k ≠ 99) : i < 90 := by
  rcases Nat.lt_or_ge i 90 with q | q
  · exact q
  · exfalso
    apply hk
    rw [← h]
    unfold kd
    rw [List.getD_eq_getElem?_getD, List.getElem?_eq_none q]
    rfl
theorem xWd_at {a : Nat → Nat} {cs : xCs} {M : xMem} {i : Nat} (h : i < 90) : (xWd a cs M)[i]? = some (a i, xcell a cs M i) := by
  unfold xWd
  rw [List.getElem?_map, List.getElem?_range h]
  rfl
theorem xWd_len {a : Nat → Nat} {cs : xCs} {M : xMem} : (xWd a cs M).length = 90 := by
  unfold xWd
  rw [List.length_map, List.length_range]
theorem xWd_of {a : Nat → Nat} {cs : xCs} {M : xMem} {k : Nat} {q : Nat × va_E} (h : (xWd a cs M)[k]? = some q) : k < 90 ∧ q = (a k, xcell a cs M k) := by
  have hk : k < 90 := by
    have := (List.getElem?_eq_some_iff.mp h).1
    rw [xWd_len] at this
    exact this
  rw [xWd_at hk] at h
  exact ⟨hk, (Option.some.inj h).symm⟩
theorem xWd_set {a : Nat → Nat} {cs : xCs} {M M' : xMem} {i : Nat} {e : va_E} (hi : i < 90) (he : xcell a cs M' i = e) (ho : ∀ j, j < 90 → j ≠ i → xcell a cs M' j = xcell a cs M j) : (xWd a cs M).set i (a i, e) = xWd a cs M' := by
  apply List.ext_getElem?
  intro k
  by_cases hk : k < 90
  · rw [xWd_at hk, List.getElem?_set]
    by_cases h : i = k
    · subst h
      rw [if_pos rfl, if_pos (by rw [xWd_len]; exact hi), he]
    · rw [if_neg h, xWd_at hk, ho k hk (fun q => h q.symm)]
  · rw [List.getElem?_eq_none (by rw [List.length_set, xWd_len]; omega), List.getElem?_eq_none (by rw [xWd_len]; omega)]
theorem xcell_row {a : Nat → Nat} {cs : xCs} {M : xMem} {i : Nat} {f : Nat → Int32} {j : Nat} (h : j ≠ i) : xcell a cs (xrow M i f) j = xcell a cs M j := by
  have e : (xrow M i f).1 j = M.1 j := va_up_ne _ _ h
  unfold xcell
  rw [e]
  rfl
theorem xset_row (M : xMem) (i k : Nat) (v : Int32) : xset M i k v = xrow M i (upd (M.1 i) k v) := rfl
theorem xrow_at (M : xMem) (i : Nat) (f : Nat → Int32) : (xrow M i f).1 i = f := va_up_self _ _ _
theorem kd_one : ∀ i, i < 90 → (kd i = 8 → i = 0) ∧ (kd i = 9 → i = 81) := by decide
theorem xcell_long {a : Nat → Nat} {cs : xCs} {M : xMem} {n : Nat} {v : Int64} {j : Nat} (hj : j < 90) (h : n = 0 ∧ j ≠ 0 ∨ n = 1 ∧ j ≠ 81) : xcell a cs (xlset M n v) j = xcell a cs M j := by
  have h8 := (kd_one j hj).1
  have h9 := (kd_one j hj).2
  unfold xcell
  split
  · rfl
  · rfl
  · rfl
  · rfl
  · rfl
  · rfl
  · rfl
  · rfl
  · rename_i hk
    have : n ≠ 0 := by
      have := h8 hk
      omega
    have e : (xlset M n v).2 0 = M.2 0 := va_up_ne _ _ (Ne.symm this)
    rw [e]
    rfl
  · rename_i hk
    have : n ≠ 1 := by
      have := h9 hk
      omega
    have e : (xlset M n v).2 1 = M.2 1 := va_up_ne _ _ (Ne.symm this)
    rw [e]
    rfl
  · rfl
  · rfl
  · rfl
  · rfl
end
section
/-! one row an instruction, over the whole memory -/
abbrev xG : Type := Program × Launch × Env × Room × State × MethodId × Array Value × List Frame × Method × Code × Nat × (Nat → Prop) × Heap × (State → Prop) × va_G × (Nat → Nat) × xCs × Nat × Nat
def xtys (cs : xCs) : List (ClassId × FieldType) := [(cs.1, .int), (cs.2.1, .array .int), (cs.2.2.1, .object "QuietYards$Image"), (cs.2.2.2, .boolean)]
/-- the locals: a list by place, none where nothing is known -/
def xl (ls : Array Slot) (n : Nat) (lv : List (Option Value)) : Prop := ls.size = n ∧ lv_wf ls ∧ lv.length = n ∧ ∀ (i : Nat) (v : Value), lv[i]? = some (some v) → ls[i]? = some (.val v)
def xa (G : xG) : Nat → Nat := match G with | (p, l, e, R, s, m, args, below, meth, c, nL, A, H0, Q, D, a, cs, kc, ks) => a
def xL (G : xG) : Launch := match G with | (p, l, e, R, s, m, args, below, meth, c, nL, A, H0, Q, D, a, cs, kc, ks) => l
def xInj (a : Nat → Nat) : Prop := ∀ i j : Nat, i < 90 → j < 90 → a i = a j → i = j
/-- the machine at a place of the method, whatever the heap is, so long as it holds the memory -/
def xW (G : xG) (M : xMem) (lv : List (Option Value)) (st : List Value) (pc : Nat) : Prop := match G with
  | (p, l, e, R, s, m, args, below, meth, c, nL, A, H0, Q, D, a, cs, kc, ks) => ∀ (H : Heap) (locs : List Loc) (ls : Array Slot), va_P D vwCl (xWd a cs M) H → va_S A H0 H locs → xl ls nL lv → W p l e R s m args below meth c H locs kc ks Q (F0 m pc ls st)
def xOk (G : xG) (cc : ByteArray) (own : String) (ws : List Cond) (rm : Room) : Prop := match G with
  | (p, l, e, R, s, m, args, below, meth, c, nL, A, H0, Q, D, a, cs, kc, ks) => p.tables.exec = Jvm.exec ∧ c.code = cc ∧ c.maxLocals = nL ∧ s.vm.findClass own = some m.cls ∧ (∀ w ∈ ws, w.before args s = true) ∧ va_K D vwCl (xtys cs) s ∧ xInj a ∧ (∀ i, i < 90 → A (a i)) ∧ (∀ q, H0.size ≤ q → A q) ∧ R = rm ∧ kc ≤ R.cells ∧ ks ≤ R.slots
def xPre (D : va_G) (a : Nat → Nat) (cs : xCs) (M : xMem) (sz : Nat) (av : List Value) : Array Value → State → Prop := va_Pc av (fun U => U.heap.size = sz ∧ va_P D vwCl (xWd a cs M) U.heap ∧ va_K D vwCl (xtys cs) U)
def xB (D : va_G) (a : Nat → Nat) (cs : xCs) (M : xMem) (t : State) : Prop := va_P D vwCl (xWd a cs M) t.heap ∧ va_K D vwCl (xtys cs) t
def xBr (D : va_G) (a : Nat → Nat) (cs : xCs) (u : Nat × xMem) (ra : Nat) (t : State) : Prop := ra = a u.1 ∧ xB D a cs u.2 t
def xA (a : Nat → Nat) (sz : Nat) : Nat → Prop := fun q => (∃ i, i < 90 ∧ q = a i) ∨ sz ≤ q
abbrev xMetI (l : Launch) (y : MethodName) (ws : List Cond) (rm : Room) (D : va_G) (a : Nat → Nat) (cs : xCs) (sz : Nat) (M : xMem) (av : List Value) (post : Int32 → xMem → Prop) : Prop := Met l y ws rm (xPre D a cs M sz av) (va_Qi post (xB D a cs) (xA a sz)) 0 0 (xA a sz)
abbrev xMetL (l : Launch) (y : MethodName) (ws : List Cond) (rm : Room) (D : va_G) (a : Nat → Nat) (cs : xCs) (sz : Nat) (M : xMem) (av : List Value) (post : Int64 → xMem → Prop) : Prop := Met l y ws rm (xPre D a cs M sz av) (va_Ql post (xB D a cs) (xA a sz)) 0 0 (xA a sz)
abbrev xMetV (l : Launch) (y : MethodName) (ws : List Cond) (rm : Room) (D : va_G) (a : Nat → Nat) (cs : xCs) (sz : Nat) (M : xMem) (av : List Value) (post : xMem → Prop) : Prop := Met l y ws rm (xPre D a cs M sz av) (va_Qv post (xB D a cs) (xA a sz)) 0 0 (xA a sz)
abbrev xMetR (l : Launch) (y : MethodName) (ws : List Cond) (rm : Room) (D : va_G) (a : Nat → Nat) (cs : xCs) (sz : Nat) (M : xMem) (av : List Value) (post : Nat → xMem → Prop) : Prop := Met l y ws rm (xPre D a cs M sz av) (va_Qr (fun u : Nat × xMem => post u.1 u.2) (xBr D a cs) (xA a sz)) 0 0 (xA a sz)
def xRetI (G : xG) (post : Int32 → xMem → Prop) (ty : FieldType) : Prop := match G with
  | (p, l, e, R, s, m, args, below, meth, c, nL, A, H0, Q, D, a, cs, kc, ks) => meth.sig.returnType = some ty ∧ meth.locks = false ∧ H0 = s.heap ∧ Q = MQ below (va_Qi post (xB D a cs) A) args s kc ks A
def xRetL (G : xG) (post : Int64 → xMem → Prop) : Prop := match G with
  | (p, l, e, R, s, m, args, below, meth, c, nL, A, H0, Q, D, a, cs, kc, ks) => meth.sig.returnType = some .long ∧ meth.locks = false ∧ H0 = s.heap ∧ Q = MQ below (va_Ql post (xB D a cs) A) args s kc ks A
def xRetV (G : xG) (post : xMem → Prop) : Prop := match G with
  | (p, l, e, R, s, m, args, below, meth, c, nL, A, H0, Q, D, a, cs, kc, ks) => meth.sig.returnType = none ∧ meth.locks = false ∧ H0 = s.heap ∧ Q = MQ below (va_Qv post (xB D a cs) A) args s kc ks A
def xRetR (G : xG) (post : Nat → xMem → Prop) : Prop := match G with
  | (p, l, e, R, s, m, args, below, meth, c, nL, A, H0, Q, D, a, cs, kc, ks) => meth.sig.returnType = some (.array .int) ∧ meth.locks = false ∧ H0 = s.heap ∧ Q = MQ below (va_Qr (fun u : Nat × xMem => post u.1 u.2) (xBr D a cs) A) args s kc ks A
def xps : List (Option Value) → Nat → List (Nat × Value)
  | [], _ => []
  | none :: t, k => xps t (k + 1)
  | some v :: t, k => (k, v) :: xps t (k + 1)
theorem xps_in : ∀ (lv : List (Option Value)) (k i : Nat) (v : Value), (i, v) ∈ xps lv k ↔ ∃ j, i = k + j ∧ lv[j]? = some (some v)
  | [], k, i, v => by simp [xps]
  | none :: t, k, i, v => by
    rw [xps, xps_in t (k + 1) i v]
    constructor
    · rintro ⟨j, h1, h2⟩
      exact ⟨j + 1, by omega, by simpa using h2⟩
    · rintro ⟨j, h1, h2⟩
      cases j with
      | zero => simp at h2
      | succ j => exact ⟨j, by omega, by simpa using h2⟩
  | some w :: t, k, i, v => by
    rw [xps, List.mem_cons, xps_in t (k + 1) i v]
    constructor
    · rintro (h | ⟨j, h1, h2⟩)
      · cases h
        exact ⟨0, by omega, by simp⟩
      · exact ⟨j + 1, by omega, by simpa using h2⟩
    · rintro ⟨j, h1, h2⟩
      cases j with
      | zero =>
        simp at h2
        subst h2
        exact Or.inl (by simp [h1])
      | succ j => exact Or.inr ⟨j, by omega, by simpa using h2⟩
theorem xl_to {ls : Array Slot} {n : Nat} {lv : List (Option Value)} (h : xl ls n lv) : lv_has ls n (xps lv 0) := by
  refine ⟨h.1, h.2.1, fun q hq => ?_⟩
  obtain ⟨i, v⟩ := q
  obtain ⟨j, h1, h2⟩ := (xps_in lv 0 i v).mp hq
  have e : i = j := by omega
  subst e
  exact h.2.2.2 i v h2
theorem xl_of {ls : Array Slot} {n : Nat} {lv : List (Option Value)} {l : List (Nat × Value)} (h : lv_has ls n l) (e : l = xps lv 0) (hn : lv.length = n) : xl ls n lv := by
  refine ⟨h.1, h.2.1, hn, fun i v hv => h.2.2 (i, v) ?_⟩
  rw [e]
  exact (xps_in lv 0 i v).mpr ⟨i, by omega, hv⟩
/-- what stands before the place isn't the first half of a long -/
def xok1 (lv : List (Option Value)) (i : Nat) : Bool := match i with
  | 0 => true
  | j + 1 => match lv[j]? with
    | some (some v) => v.category == 1
    | _ => true
theorem xok1_of {lv : List (Option Value)} {i j : Nat} {v : Value} (h : xok1 lv i = true) (hj : j + 1 = i) (hv : lv[j]? = some (some v)) : v.category = 1 := by
  subst hj
  simp only [xok1, hv] at h
  simpa using h
theorem xl_set1 {ls : Array Slot} {n : Nat} {lv : List (Option Value)} {i : Nat} {v : Value} (hi : i < lv.length) (hn : lv.length = n) (ho : xok1 lv i = true) (h : lv_has ls n ((i, v) :: (xps lv 0).filter (fun q => !(q.1 == i) && !(q.1 + 1 == i && q.2.category == 2)))) : xl ls n (lv.set i (some v)) := by
  refine ⟨h.1, h.2.1, by rw [List.length_set]; exact hn, fun j w hw => ?_⟩
  rw [List.getElem?_set] at hw
  by_cases e : i = j
  · subst e
    rw [if_pos rfl, if_pos hi] at hw
    cases hw
    exact h.2.2 (i, v) List.mem_cons_self
  · rw [if_neg e] at hw
    refine h.2.2 (j, w) (List.mem_cons_of_mem _ (List.mem_filter.mpr ⟨(xps_in lv 0 j w).mpr ⟨j, by omega, hw⟩, ?_⟩))
    have h1 : (j == i) = false := by simpa using fun q => e q.symm
    by_cases e2 : j + 1 = i
    · have := xok1_of ho e2 hw
      simp [h1, this]
    · simp [h1, e2]
theorem xl_set2 {ls : Array Slot} {n : Nat} {lv : List (Option Value)} {i : Nat} {v : Value} (hi : i + 1 < lv.length) (hn : lv.length = n) (ho : xok1 lv i = true) (h : lv_has ls n ((i, v) :: (xps lv 0).filter (fun q => !(q.1 == i) && (!(q.1 == i + 1) && !(q.1 + 1 == i && q.2.category == 2))))) : xl ls n ((lv.set i (some v)).set (i + 1) none) := by
  refine ⟨h.1, h.2.1, by rw [List.length_set, List.length_set]; exact hn, fun j w hw => ?_⟩
  rw [List.getElem?_set] at hw
  by_cases e1 : i + 1 = j
  · subst e1
    rw [if_pos rfl, if_pos (by rw [List.length_set]; exact hi)] at hw
    cases hw
  rw [if_neg e1, List.getElem?_set] at hw
  by_cases e : i = j
  · subst e
    rw [if_pos rfl, if_pos (by omega)] at hw
    cases hw
    exact h.2.2 (i, v) List.mem_cons_self
  · rw [if_neg e] at hw
    refine h.2.2 (j, w) (List.mem_cons_of_mem _ (List.mem_filter.mpr ⟨(xps_in lv 0 j w).mpr ⟨j, by omega, hw⟩, ?_⟩))
    have h1 : (j == i) = false := by simpa using fun q => e q.symm
    have h2 : (j == i + 1) = false := by simpa using fun q => e1 q.symm
    by_cases e2 : j + 1 = i
    · have := xok1_of ho e2 hw
      simp [h1, h2, this]
    · simp [h1, h2, e2]
theorem xl_keep {ls : Array Slot} {n : Nat} {lv : List (Option Value)} (ks : List Bool) (hk : ks.length = lv.length) (h : xl ls n lv) : xl ls n (List.zipWith (fun (b : Bool) (o : Option Value) => if b then o else none) ks lv) := by
  refine ⟨h.1, h.2.1, by rw [List.length_zipWith, hk, Nat.min_self]; exact h.2.2.1, fun i v hv => h.2.2.2 i v ?_⟩
  rw [List.getElem?_zipWith] at hv
  cases hk : ks[i]? with
  | none => rw [hk] at hv; simp at hv
  | some b =>
    cases ho : lv[i]? with
    | none => rw [hk, ho] at hv; simp at hv
    | some o =>
      rw [hk, ho] at hv
      cases b with
      | true => simpa using hv
      | false => simp at hv
theorem xl_more {ls : Array Slot} {n : Nat} {lv : List (Option Value)} {i : Nat} {v : Value} (h : xl ls n lv) (h0 : lv[i]? = some (some v)) : lv_has ls n ((i, v) :: xps lv 0) := by
  refine ⟨h.1, h.2.1, fun q hq => ?_⟩
  rcases List.mem_cons.mp hq with rfl | hq
  · exact h.2.2.2 _ _ h0
  · exact (xl_to h).2.2 q hq
theorem xl_less {ls : Array Slot} {n i : Nat} {v w : Value} {l : List (Nat × Value)} {f : Nat × Value → Bool} (h : lv_has ls n ((i, v) :: ((i, w) :: l).filter f)) : lv_has ls n ((i, v) :: l.filter f) := by
  refine ⟨h.1, h.2.1, fun q hq => h.2.2 q ?_⟩
  rcases List.mem_cons.mp hq with rfl | hq
  · exact List.mem_cons_self
  · obtain ⟨h1, h2⟩ := List.mem_filter.mp hq
    exact List.mem_cons_of_mem _ (List.mem_filter.mpr ⟨List.mem_cons_of_mem _ h1, h2⟩)
section XR
variable {G : xG} {M : xMem} {lv : List (Option Value)} {rest : List Value} {pc : Nat} {cc : ByteArray} {own : String} {ws : List Cond} {rm : Room}

theorem x_iconst {n : Int} {v : Int32} (hG : xOk G cc own ws rm) (hd : decode cc pc = .ok (.iconst n, 1)) (hv : Int32.ofInt n = v) (k : xW G M lv (.int v :: rest) (pc + 1)) : xW G M lv rest pc := by
  obtain ⟨p, l, e, R, s, m, args, below, meth, c, nL, A, H0, Q, D, a, cs, kc, ks⟩ := G
  obtain ⟨hx, hb, hml, hown, hts, hK, hI, hAi, hAn, hR, hc1, hc2⟩ := hG
  intro H locs ls hP hS hl
  exact lv_iconst hx hb hd hv (k H locs ls hP hS hl)
theorem x_bipush {n : Int} {v : Int32} (hG : xOk G cc own ws rm) (hd : decode cc pc = .ok (.bipush n, 2)) (hv : (Int8.ofInt n).toInt32 = v) (k : xW G M lv (.int v :: rest) (pc + 2)) : xW G M lv rest pc := by
  obtain ⟨p, l, e, R, s, m, args, below, meth, c, nL, A, H0, Q, D, a, cs, kc, ks⟩ := G
  obtain ⟨hx, hb, hml, hown, hts, hK, hI, hAi, hAn, hR, hc1, hc2⟩ := hG
  intro H locs ls hP hS hl
  exact lv_bipush hx hb hd hv (k H locs ls hP hS hl)
theorem x_sipush {n : Int} {v : Int32} (hG : xOk G cc own ws rm) (hd : decode cc pc = .ok (.sipush n, 3)) (hv : (Int16.ofInt n).toInt32 = v) (k : xW G M lv (.int v :: rest) (pc + 3)) : xW G M lv rest pc := by
  obtain ⟨p, l, e, R, s, m, args, below, meth, c, nL, A, H0, Q, D, a, cs, kc, ks⟩ := G
  obtain ⟨hx, hb, hml, hown, hts, hK, hI, hAi, hAn, hR, hc1, hc2⟩ := hG
  intro H locs ls hP hS hl
  exact lv_sipush hx hb hd hv (k H locs ls hP hS hl)
theorem x_lconst {n : Fin 2} {v : Int64} (hG : xOk G cc own ws rm) (hd : decode cc pc = .ok (.lconst n, 1)) (hv : Int64.ofNat (n : Nat) = v) (k : xW G M lv (.long v :: rest) (pc + 1)) : xW G M lv rest pc := by
  obtain ⟨p, l, e, R, s, m, args, below, meth, c, nL, A, H0, Q, D, a, cs, kc, ks⟩ := G
  obtain ⟨hx, hb, hml, hown, hts, hK, hI, hAi, hAn, hR, hc1, hc2⟩ := hG
  intro H locs ls hP hS hl
  exact lv_lconst hx hb hd hv (k H locs ls hP hS hl)
theorem x_ldc {index : Nat} {v : Int32} (hG : xOk G cc own ws rm) (hd : decode cc pc = .ok (.ldc index, 2)) (hw : Cond.constant own index v ∈ ws) (k : xW G M lv (.int v :: rest) (pc + 2)) : xW G M lv rest pc := by
  obtain ⟨p, l, e, R, s, m, args, below, meth, c, nL, A, H0, Q, D, a, cs, kc, ks⟩ := G
  obtain ⟨hx, hb, hml, hown, hts, hK, hI, hAi, hAn, hR, hc1, hc2⟩ := hG
  intro H locs ls hP hS hl
  exact lv_ldc hx hb hown (hts _ hw) hd (k H locs ls hP hS hl)
theorem x_ldc2 {index : Nat} {v : Int64} (hG : xOk G cc own ws rm) (hd : decode cc pc = .ok (.ldc2_w index, 3)) (hw : Cond.constantLong own index v ∈ ws) (k : xW G M lv (.long v :: rest) (pc + 3)) : xW G M lv rest pc := by
  obtain ⟨p, l, e, R, s, m, args, below, meth, c, nL, A, H0, Q, D, a, cs, kc, ks⟩ := G
  obtain ⟨hx, hb, hml, hown, hts, hK, hI, hAi, hAn, hR, hc1, hc2⟩ := hG
  intro H locs ls hP hS hl
  exact lv_ldc2 hx hb hown (hts _ hw) hd (k H locs ls hP hS hl)
theorem x_iload_n {j : Fin 4} {i : Nat} {x : Int32} (hG : xOk G cc own ws rm) (hd : decode cc pc = .ok (.iload_n j, 1)) (hi : (j : Nat) = i) (hl0 : lv[i]? = some (some (.int x))) (k : xW G M lv (.int x :: rest) (pc + 1)) : xW G M lv rest pc := by
  obtain ⟨p, l, e, R, s, m, args, below, meth, c, nL, A, H0, Q, D, a, cs, kc, ks⟩ := G
  obtain ⟨hx, hb, hml, hown, hts, hK, hI, hAi, hAn, hR, hc1, hc2⟩ := hG
  intro H locs ls hP hS hl
  exact lv_iload_n hx hb hd hi (hl.2.2.2 _ _ hl0) (k H locs ls hP hS hl)
theorem x_iload {i : Nat} {x : Int32} (hG : xOk G cc own ws rm) (hd : decode cc pc = .ok (.iload i, 2)) (hl0 : lv[i]? = some (some (.int x))) (k : xW G M lv (.int x :: rest) (pc + 2)) : xW G M lv rest pc := by
  obtain ⟨p, l, e, R, s, m, args, below, meth, c, nL, A, H0, Q, D, a, cs, kc, ks⟩ := G
  obtain ⟨hx, hb, hml, hown, hts, hK, hI, hAi, hAn, hR, hc1, hc2⟩ := hG
  intro H locs ls hP hS hl
  exact lv_iload hx hb hd (hl.2.2.2 _ _ hl0) (k H locs ls hP hS hl)
theorem x_istore_n {j : Fin 4} {i : Nat} {x : Int32} (hG : xOk G cc own ws rm) (hd : decode cc pc = .ok (.istore_n j, 1)) (hi : (j : Nat) = i) (hn : i < lv.length) (ho : xok1 lv i = true) (k : xW G M (lv.set i (some (.int x))) rest (pc + 1)) : xW G M lv (.int x :: rest) pc := by
  obtain ⟨p, l, e, R, s, m, args, below, meth, c, nL, A, H0, Q, D, a, cs, kc, ks⟩ := G
  obtain ⟨hx, hb, hml, hown, hts, hK, hI, hAi, hAn, hR, hc1, hc2⟩ := hG
  intro H locs ls hP hS hl
  exact lv_istore_n hx hb hd hi (xl_to hl) (by rw [← hl.2.2.1]; exact hn) rfl (fun ls2 h2 => k H locs ls2 hP hS (xl_set1 hn hl.2.2.1 ho h2))
theorem x_istore {i : Nat} {x : Int32} (hG : xOk G cc own ws rm) (hd : decode cc pc = .ok (.istore i, 2)) (hn : i < lv.length) (ho : xok1 lv i = true) (k : xW G M (lv.set i (some (.int x))) rest (pc + 2)) : xW G M lv (.int x :: rest) pc := by
  obtain ⟨p, l, e, R, s, m, args, below, meth, c, nL, A, H0, Q, D, a, cs, kc, ks⟩ := G
  obtain ⟨hx, hb, hml, hown, hts, hK, hI, hAi, hAn, hR, hc1, hc2⟩ := hG
  intro H locs ls hP hS hl
  exact lv_istore hx hb hd (xl_to hl) (by rw [← hl.2.2.1]; exact hn) rfl (fun ls2 h2 => k H locs ls2 hP hS (xl_set1 hn hl.2.2.1 ho h2))
theorem x_lload_n {j : Fin 4} {i : Nat} {x : Int64} (hG : xOk G cc own ws rm) (hd : decode cc pc = .ok (.lload_n j, 1)) (hi : (j : Nat) = i) (hl0 : lv[i]? = some (some (.long x))) (k : xW G M lv (.long x :: rest) (pc + 1)) : xW G M lv rest pc := by
  obtain ⟨p, l, e, R, s, m, args, below, meth, c, nL, A, H0, Q, D, a, cs, kc, ks⟩ := G
  obtain ⟨hx, hb, hml, hown, hts, hK, hI, hAi, hAn, hR, hc1, hc2⟩ := hG
  intro H locs ls hP hS hl
  exact lv_lload_n hx hb hd hi (hl.2.2.2 _ _ hl0) (k H locs ls hP hS hl)
theorem x_lload {i : Nat} {x : Int64} (hG : xOk G cc own ws rm) (hd : decode cc pc = .ok (.lload i, 2)) (hl0 : lv[i]? = some (some (.long x))) (k : xW G M lv (.long x :: rest) (pc + 2)) : xW G M lv rest pc := by
  obtain ⟨p, l, e, R, s, m, args, below, meth, c, nL, A, H0, Q, D, a, cs, kc, ks⟩ := G
  obtain ⟨hx, hb, hml, hown, hts, hK, hI, hAi, hAn, hR, hc1, hc2⟩ := hG
  intro H locs ls hP hS hl
  exact lv_lload hx hb hd (hl.2.2.2 _ _ hl0) (k H locs ls hP hS hl)
theorem x_lstore_n {j : Fin 4} {i : Nat} {x : Int64} (hG : xOk G cc own ws rm) (hd : decode cc pc = .ok (.lstore_n j, 1)) (hi : (j : Nat) = i) (hn : i + 1 < lv.length) (ho : xok1 lv i = true) (k : xW G M ((lv.set i (some (.long x))).set (i + 1) none) rest (pc + 1)) : xW G M lv (.long x :: rest) pc := by
  obtain ⟨p, l, e, R, s, m, args, below, meth, c, nL, A, H0, Q, D, a, cs, kc, ks⟩ := G
  obtain ⟨hx, hb, hml, hown, hts, hK, hI, hAi, hAn, hR, hc1, hc2⟩ := hG
  intro H locs ls hP hS hl
  exact lv_lstore_n hx hb hd hi (xl_to hl) (by rw [← hl.2.2.1]; exact hn) rfl (fun ls2 h2 => k H locs ls2 hP hS (xl_set2 hn hl.2.2.1 ho h2))
theorem x_lstore {i : Nat} {x : Int64} (hG : xOk G cc own ws rm) (hd : decode cc pc = .ok (.lstore i, 2)) (hn : i + 1 < lv.length) (ho : xok1 lv i = true) (k : xW G M ((lv.set i (some (.long x))).set (i + 1) none) rest (pc + 2)) : xW G M lv (.long x :: rest) pc := by
  obtain ⟨p, l, e, R, s, m, args, below, meth, c, nL, A, H0, Q, D, a, cs, kc, ks⟩ := G
  obtain ⟨hx, hb, hml, hown, hts, hK, hI, hAi, hAn, hR, hc1, hc2⟩ := hG
  intro H locs ls hP hS hl
  exact lv_lstore hx hb hd (xl_to hl) (by rw [← hl.2.2.1]; exact hn) rfl (fun ls2 h2 => k H locs ls2 hP hS (xl_set2 hn hl.2.2.1 ho h2))
theorem x_aload_n {j : Fin 4} {i : Nat} {x : Nat} (hG : xOk G cc own ws rm) (hd : decode cc pc = .ok (.aload_n j, 1)) (hi : (j : Nat) = i) (hl0 : lv[i]? = some (some (.ref x))) (k : xW G M lv (.ref x :: rest) (pc + 1)) : xW G M lv rest pc := by
  obtain ⟨p, l, e, R, s, m, args, below, meth, c, nL, A, H0, Q, D, a, cs, kc, ks⟩ := G
  obtain ⟨hx, hb, hml, hown, hts, hK, hI, hAi, hAn, hR, hc1, hc2⟩ := hG
  intro H locs ls hP hS hl
  exact lv_aload_n hx hb hd hi (hl.2.2.2 _ _ hl0) (k H locs ls hP hS hl)
theorem x_aload {i : Nat} {x : Nat} (hG : xOk G cc own ws rm) (hd : decode cc pc = .ok (.aload i, 2)) (hl0 : lv[i]? = some (some (.ref x))) (k : xW G M lv (.ref x :: rest) (pc + 2)) : xW G M lv rest pc := by
  obtain ⟨p, l, e, R, s, m, args, below, meth, c, nL, A, H0, Q, D, a, cs, kc, ks⟩ := G
  obtain ⟨hx, hb, hml, hown, hts, hK, hI, hAi, hAn, hR, hc1, hc2⟩ := hG
  intro H locs ls hP hS hl
  exact lv_aload hx hb hd (hl.2.2.2 _ _ hl0) (k H locs ls hP hS hl)
theorem x_astore_n {j : Fin 4} {i : Nat} {x : Nat} (hG : xOk G cc own ws rm) (hd : decode cc pc = .ok (.astore_n j, 1)) (hi : (j : Nat) = i) (hn : i < lv.length) (ho : xok1 lv i = true) (k : xW G M (lv.set i (some (.ref x))) rest (pc + 1)) : xW G M lv (.ref x :: rest) pc := by
  obtain ⟨p, l, e, R, s, m, args, below, meth, c, nL, A, H0, Q, D, a, cs, kc, ks⟩ := G
  obtain ⟨hx, hb, hml, hown, hts, hK, hI, hAi, hAn, hR, hc1, hc2⟩ := hG
  intro H locs ls hP hS hl
  exact lv_astore_n hx hb hd hi (xl_to hl) (by rw [← hl.2.2.1]; exact hn) rfl (fun ls2 h2 => k H locs ls2 hP hS (xl_set1 hn hl.2.2.1 ho h2))
theorem x_astore {i : Nat} {x : Nat} (hG : xOk G cc own ws rm) (hd : decode cc pc = .ok (.astore i, 2)) (hn : i < lv.length) (ho : xok1 lv i = true) (k : xW G M (lv.set i (some (.ref x))) rest (pc + 2)) : xW G M lv (.ref x :: rest) pc := by
  obtain ⟨p, l, e, R, s, m, args, below, meth, c, nL, A, H0, Q, D, a, cs, kc, ks⟩ := G
  obtain ⟨hx, hb, hml, hown, hts, hK, hI, hAi, hAn, hR, hc1, hc2⟩ := hG
  intro H locs ls hP hS hl
  exact lv_astore hx hb hd (xl_to hl) (by rw [← hl.2.2.1]; exact hn) rfl (fun ls2 h2 => k H locs ls2 hP hS (xl_set1 hn hl.2.2.1 ho h2))
theorem x_iinc {i : Nat} {n : Int} {x v : Int32} (hG : xOk G cc own ws rm) (hd : decode cc pc = .ok (.iinc i n, 3)) (hl0 : lv[i]? = some (some (.int x))) (hv : x + Int32.ofInt n = v) (hn : i < lv.length) (ho : xok1 lv i = true) (k : xW G M (lv.set i (some (.int v))) rest (pc + 3)) : xW G M lv rest pc := by
  obtain ⟨p, l, e, R, s, m, args, below, meth, c, nL, A, H0, Q, D, a, cs, kc, ks⟩ := G
  obtain ⟨hx, hb, hml, hown, hts, hK, hI, hAi, hAn, hR, hc1, hc2⟩ := hG
  intro H locs ls hP hS hl
  exact lv_iinc (k := 0) (lv := (i, .int x) :: xps lv 0) (lv' := _) hx hb hd (xl_more hl hl0) rfl hv (by rw [← hl.2.2.1]; exact hn) rfl (fun ls2 h2 => k H locs ls2 hP hS (xl_set1 hn hl.2.2.1 ho (xl_less h2)))
theorem x_iadd {x y : Int32} (hG : xOk G cc own ws rm) (hd : decode cc pc = .ok (.iadd, 1)) (k : xW G M lv (.int (x + y) :: rest) (pc + 1)) : xW G M lv (.int y :: .int x :: rest) pc := by
  obtain ⟨p, l, e, R, s, m, args, below, meth, c, nL, A, H0, Q, D, a, cs, kc, ks⟩ := G
  obtain ⟨hx, hb, hml, hown, hts, hK, hI, hAi, hAn, hR, hc1, hc2⟩ := hG
  intro H locs ls hP hS hl
  exact lv_iadd hx hb hd (k H locs ls hP hS hl)
theorem x_isub {x y : Int32} (hG : xOk G cc own ws rm) (hd : decode cc pc = .ok (.isub, 1)) (k : xW G M lv (.int (x - y) :: rest) (pc + 1)) : xW G M lv (.int y :: .int x :: rest) pc := by
  obtain ⟨p, l, e, R, s, m, args, below, meth, c, nL, A, H0, Q, D, a, cs, kc, ks⟩ := G
  obtain ⟨hx, hb, hml, hown, hts, hK, hI, hAi, hAn, hR, hc1, hc2⟩ := hG
  intro H locs ls hP hS hl
  exact lv_isub hx hb hd (k H locs ls hP hS hl)
theorem x_imul {x y : Int32} (hG : xOk G cc own ws rm) (hd : decode cc pc = .ok (.imul, 1)) (k : xW G M lv (.int (x * y) :: rest) (pc + 1)) : xW G M lv (.int y :: .int x :: rest) pc := by
  obtain ⟨p, l, e, R, s, m, args, below, meth, c, nL, A, H0, Q, D, a, cs, kc, ks⟩ := G
  obtain ⟨hx, hb, hml, hown, hts, hK, hI, hAi, hAn, hR, hc1, hc2⟩ := hG
  intro H locs ls hP hS hl
  exact lv_imul hx hb hd (k H locs ls hP hS hl)
theorem x_iand {x y : Int32} (hG : xOk G cc own ws rm) (hd : decode cc pc = .ok (.iand, 1)) (k : xW G M lv (.int (x &&& y) :: rest) (pc + 1)) : xW G M lv (.int y :: .int x :: rest) pc := by
  obtain ⟨p, l, e, R, s, m, args, below, meth, c, nL, A, H0, Q, D, a, cs, kc, ks⟩ := G
  obtain ⟨hx, hb, hml, hown, hts, hK, hI, hAi, hAn, hR, hc1, hc2⟩ := hG
  intro H locs ls hP hS hl
  exact lv_iand hx hb hd (k H locs ls hP hS hl)
theorem x_ior {x y : Int32} (hG : xOk G cc own ws rm) (hd : decode cc pc = .ok (.ior, 1)) (k : xW G M lv (.int (x ||| y) :: rest) (pc + 1)) : xW G M lv (.int y :: .int x :: rest) pc := by
  obtain ⟨p, l, e, R, s, m, args, below, meth, c, nL, A, H0, Q, D, a, cs, kc, ks⟩ := G
  obtain ⟨hx, hb, hml, hown, hts, hK, hI, hAi, hAn, hR, hc1, hc2⟩ := hG
  intro H locs ls hP hS hl
  exact lv_ior hx hb hd (k H locs ls hP hS hl)
theorem x_ixor {x y : Int32} (hG : xOk G cc own ws rm) (hd : decode cc pc = .ok (.ixor, 1)) (k : xW G M lv (.int (x ^^^ y) :: rest) (pc + 1)) : xW G M lv (.int y :: .int x :: rest) pc := by
  obtain ⟨p, l, e, R, s, m, args, below, meth, c, nL, A, H0, Q, D, a, cs, kc, ks⟩ := G
  obtain ⟨hx, hb, hml, hown, hts, hK, hI, hAi, hAn, hR, hc1, hc2⟩ := hG
  intro H locs ls hP hS hl
  exact lv_ixor hx hb hd (k H locs ls hP hS hl)
theorem x_ishl {x y : Int32} (hG : xOk G cc own ws rm) (hd : decode cc pc = .ok (.ishl, 1)) (k : xW G M lv (.int (x <<< (y &&& 31)) :: rest) (pc + 1)) : xW G M lv (.int y :: .int x :: rest) pc := by
  obtain ⟨p, l, e, R, s, m, args, below, meth, c, nL, A, H0, Q, D, a, cs, kc, ks⟩ := G
  obtain ⟨hx, hb, hml, hown, hts, hK, hI, hAi, hAn, hR, hc1, hc2⟩ := hG
  intro H locs ls hP hS hl
  exact lv_ishl hx hb hd (k H locs ls hP hS hl)
theorem x_ishr {x y : Int32} (hG : xOk G cc own ws rm) (hd : decode cc pc = .ok (.ishr, 1)) (k : xW G M lv (.int (x >>> (y &&& 31)) :: rest) (pc + 1)) : xW G M lv (.int y :: .int x :: rest) pc := by
  obtain ⟨p, l, e, R, s, m, args, below, meth, c, nL, A, H0, Q, D, a, cs, kc, ks⟩ := G
  obtain ⟨hx, hb, hml, hown, hts, hK, hI, hAi, hAn, hR, hc1, hc2⟩ := hG
  intro H locs ls hP hS hl
  exact lv_ishr hx hb hd (k H locs ls hP hS hl)
theorem x_idiv {x y : Int32} (hG : xOk G cc own ws rm) (hd : decode cc pc = .ok (.idiv, 1)) (hne : ¬ y = 0) (k : xW G M lv (.int (x / y) :: rest) (pc + 1)) : xW G M lv (.int y :: .int x :: rest) pc := by
  obtain ⟨p, l, e, R, s, m, args, below, meth, c, nL, A, H0, Q, D, a, cs, kc, ks⟩ := G
  obtain ⟨hx, hb, hml, hown, hts, hK, hI, hAi, hAn, hR, hc1, hc2⟩ := hG
  intro H locs ls hP hS hl
  exact lv_idiv hx hb hd hne (k H locs ls hP hS hl)
theorem x_irem {x y : Int32} (hG : xOk G cc own ws rm) (hd : decode cc pc = .ok (.irem, 1)) (hne : ¬ y = 0) (k : xW G M lv (.int (x - x / y * y) :: rest) (pc + 1)) : xW G M lv (.int y :: .int x :: rest) pc := by
  obtain ⟨p, l, e, R, s, m, args, below, meth, c, nL, A, H0, Q, D, a, cs, kc, ks⟩ := G
  obtain ⟨hx, hb, hml, hown, hts, hK, hI, hAi, hAn, hR, hc1, hc2⟩ := hG
  intro H locs ls hP hS hl
  exact lv_irem hx hb hd hne (k H locs ls hP hS hl)
theorem x_ineg {x : Int32} (hG : xOk G cc own ws rm) (hd : decode cc pc = .ok (.ineg, 1)) (k : xW G M lv (.int (-x) :: rest) (pc + 1)) : xW G M lv (.int x :: rest) pc := by
  obtain ⟨p, l, e, R, s, m, args, below, meth, c, nL, A, H0, Q, D, a, cs, kc, ks⟩ := G
  obtain ⟨hx, hb, hml, hown, hts, hK, hI, hAi, hAn, hR, hc1, hc2⟩ := hG
  intro H locs ls hP hS hl
  exact lv_ineg hx hb hd (k H locs ls hP hS hl)
theorem x_ladd {x y : Int64} (hG : xOk G cc own ws rm) (hd : decode cc pc = .ok (.ladd, 1)) (k : xW G M lv (.long (x + y) :: rest) (pc + 1)) : xW G M lv (.long y :: .long x :: rest) pc := by
  obtain ⟨p, l, e, R, s, m, args, below, meth, c, nL, A, H0, Q, D, a, cs, kc, ks⟩ := G
  obtain ⟨hx, hb, hml, hown, hts, hK, hI, hAi, hAn, hR, hc1, hc2⟩ := hG
  intro H locs ls hP hS hl
  exact lv_ladd hx hb hd (k H locs ls hP hS hl)
theorem x_lmul {x y : Int64} (hG : xOk G cc own ws rm) (hd : decode cc pc = .ok (.lmul, 1)) (k : xW G M lv (.long (x * y) :: rest) (pc + 1)) : xW G M lv (.long y :: .long x :: rest) pc := by
  obtain ⟨p, l, e, R, s, m, args, below, meth, c, nL, A, H0, Q, D, a, cs, kc, ks⟩ := G
  obtain ⟨hx, hb, hml, hown, hts, hK, hI, hAi, hAn, hR, hc1, hc2⟩ := hG
  intro H locs ls hP hS hl
  exact lv_lmul hx hb hd (k H locs ls hP hS hl)
theorem x_land {x y : Int64} (hG : xOk G cc own ws rm) (hd : decode cc pc = .ok (.land, 1)) (k : xW G M lv (.long (x &&& y) :: rest) (pc + 1)) : xW G M lv (.long y :: .long x :: rest) pc := by
  obtain ⟨p, l, e, R, s, m, args, below, meth, c, nL, A, H0, Q, D, a, cs, kc, ks⟩ := G
  obtain ⟨hx, hb, hml, hown, hts, hK, hI, hAi, hAn, hR, hc1, hc2⟩ := hG
  intro H locs ls hP hS hl
  exact lv_land hx hb hd (k H locs ls hP hS hl)
theorem x_lor {x y : Int64} (hG : xOk G cc own ws rm) (hd : decode cc pc = .ok (.lor, 1)) (k : xW G M lv (.long (x ||| y) :: rest) (pc + 1)) : xW G M lv (.long y :: .long x :: rest) pc := by
  obtain ⟨p, l, e, R, s, m, args, below, meth, c, nL, A, H0, Q, D, a, cs, kc, ks⟩ := G
  obtain ⟨hx, hb, hml, hown, hts, hK, hI, hAi, hAn, hR, hc1, hc2⟩ := hG
  intro H locs ls hP hS hl
  exact lv_lor hx hb hd (k H locs ls hP hS hl)
theorem x_i2l {x : Int32} (hG : xOk G cc own ws rm) (hd : decode cc pc = .ok (.i2l, 1)) (k : xW G M lv (.long x.toInt64 :: rest) (pc + 1)) : xW G M lv (.int x :: rest) pc := by
  obtain ⟨p, l, e, R, s, m, args, below, meth, c, nL, A, H0, Q, D, a, cs, kc, ks⟩ := G
  obtain ⟨hx, hb, hml, hown, hts, hK, hI, hAi, hAn, hR, hc1, hc2⟩ := hG
  intro H locs ls hP hS hl
  exact lv_i2l hx hb hd rfl (k H locs ls hP hS hl)
theorem x_l2i {x : Int64} (hG : xOk G cc own ws rm) (hd : decode cc pc = .ok (.l2i, 1)) (k : xW G M lv (.int x.toInt32 :: rest) (pc + 1)) : xW G M lv (.long x :: rest) pc := by
  obtain ⟨p, l, e, R, s, m, args, below, meth, c, nL, A, H0, Q, D, a, cs, kc, ks⟩ := G
  obtain ⟨hx, hb, hml, hown, hts, hK, hI, hAi, hAn, hR, hc1, hc2⟩ := hG
  intro H locs ls hP hS hl
  exact lv_l2i hx hb hd rfl (k H locs ls hP hS hl)
theorem x_lushr {x : Int64} {y : Int32} (hG : xOk G cc own ws rm) (hd : decode cc pc = .ok (.lushr, 1)) (k : xW G M lv (.long (x.toUInt64 >>> (y.toInt64.toUInt64 &&& Int64.toUInt64 63)).toInt64 :: rest) (pc + 1)) : xW G M lv (.int y :: .long x :: rest) pc := by
  obtain ⟨p, l, e, R, s, m, args, below, meth, c, nL, A, H0, Q, D, a, cs, kc, ks⟩ := G
  obtain ⟨hx, hb, hml, hown, hts, hK, hI, hAi, hAn, hR, hc1, hc2⟩ := hG
  intro H locs ls hP hS hl
  exact lv_lushr hx hb hd rfl (k H locs ls hP hS hl)
theorem x_lshl {x : Int64} {y : Int32} (hG : xOk G cc own ws rm) (hd : decode cc pc = .ok (.lshl, 1)) (k : xW G M lv (.long (x <<< (y.toInt64 &&& 63)) :: rest) (pc + 1)) : xW G M lv (.int y :: .long x :: rest) pc := by
  obtain ⟨p, l, e, R, s, m, args, below, meth, c, nL, A, H0, Q, D, a, cs, kc, ks⟩ := G
  obtain ⟨hx, hb, hml, hown, hts, hK, hI, hAi, hAn, hR, hc1, hc2⟩ := hG
  intro H locs ls hP hS hl
  exact lv_lshl hx hb hd rfl (k H locs ls hP hS hl)
theorem x_lshr {x : Int64} {y : Int32} (hG : xOk G cc own ws rm) (hd : decode cc pc = .ok (.lshr, 1)) (k : xW G M lv (.long (x >>> (y.toInt64 &&& 63)) :: rest) (pc + 1)) : xW G M lv (.int y :: .long x :: rest) pc := by
  obtain ⟨p, l, e, R, s, m, args, below, meth, c, nL, A, H0, Q, D, a, cs, kc, ks⟩ := G
  obtain ⟨hx, hb, hml, hown, hts, hK, hI, hAi, hAn, hR, hc1, hc2⟩ := hG
  intro H locs ls hP hS hl
  exact lv_lshr hx hb hd rfl (k H locs ls hP hS hl)
theorem x_lcmp {x y : Int64} (hG : xOk G cc own ws rm) (hd : decode cc pc = .ok (.lcmp, 1)) (k : xW G M lv (.int (lg_cmp x y) :: rest) (pc + 1)) : xW G M lv (.long y :: .long x :: rest) pc := by
  obtain ⟨p, l, e, R, s, m, args, below, meth, c, nL, A, H0, Q, D, a, cs, kc, ks⟩ := G
  obtain ⟨hx, hb, hml, hown, hts, hK, hI, hAi, hAn, hR, hc1, hc2⟩ := hG
  intro H locs ls hP hS hl
  exact W.lcmp hx hb hd (k H locs ls hP hS hl)
theorem x_dup {v : Value} (hG : xOk G cc own ws rm) (hd : decode cc pc = .ok (.dup, 1)) (hv : v.category = 1) (k : xW G M lv (v :: v :: rest) (pc + 1)) : xW G M lv (v :: rest) pc := by
  obtain ⟨p, l, e, R, s, m, args, below, meth, c, nL, A, H0, Q, D, a, cs, kc, ks⟩ := G
  obtain ⟨hx, hb, hml, hown, hts, hK, hI, hAi, hAn, hR, hc1, hc2⟩ := hG
  intro H locs ls hP hS hl
  exact lv_dup hx hb hd hv (k H locs ls hP hS hl)
theorem x_pop {v : Value} (hG : xOk G cc own ws rm) (hd : decode cc pc = .ok (.pop, 1)) (hv : v.category = 1) (k : xW G M lv rest (pc + 1)) : xW G M lv (v :: rest) pc := by
  obtain ⟨p, l, e, R, s, m, args, below, meth, c, nL, A, H0, Q, D, a, cs, kc, ks⟩ := G
  obtain ⟨hx, hb, hml, hown, hts, hK, hI, hAi, hAn, hR, hc1, hc2⟩ := hG
  intro H locs ls hP hS hl
  exact lv_pop hx hb hd hv (k H locs ls hP hS hl)
theorem x_dup2 {v w : Value} (hG : xOk G cc own ws rm) (hd : decode cc pc = .ok (.dup2, 1)) (hv : v.category = 1) (hw : w.category = 1) (k : xW G M lv (v :: w :: v :: w :: rest) (pc + 1)) : xW G M lv (v :: w :: rest) pc := by
  obtain ⟨p, l, e, R, s, m, args, below, meth, c, nL, A, H0, Q, D, a, cs, kc, ks⟩ := G
  obtain ⟨hx, hb, hml, hown, hts, hK, hI, hAi, hAn, hR, hc1, hc2⟩ := hG
  intro H locs ls hP hS hl
  exact lv_dup2_11 hx hb hd hv hw (k H locs ls hP hS hl)
theorem x_dup2l {v : Value} (hG : xOk G cc own ws rm) (hd : decode cc pc = .ok (.dup2, 1)) (hv : v.category = 2) (k : xW G M lv (v :: v :: rest) (pc + 1)) : xW G M lv (v :: rest) pc := by
  obtain ⟨p, l, e, R, s, m, args, below, meth, c, nL, A, H0, Q, D, a, cs, kc, ks⟩ := G
  obtain ⟨hx, hb, hml, hown, hts, hK, hI, hAi, hAn, hR, hc1, hc2⟩ := hG
  intro H locs ls hP hS hl
  exact lv_dup2_2 hx hb hd hv (k H locs ls hP hS hl)
theorem x_dup_x1 {v w : Value} (hG : xOk G cc own ws rm) (hd : decode cc pc = .ok (.dup_x1, 1)) (hv : v.category = 1) (hw : w.category = 1) (k : xW G M lv (v :: w :: v :: rest) (pc + 1)) : xW G M lv (v :: w :: rest) pc := by
  obtain ⟨p, l, e, R, s, m, args, below, meth, c, nL, A, H0, Q, D, a, cs, kc, ks⟩ := G
  obtain ⟨hx, hb, hml, hown, hts, hK, hI, hAi, hAn, hR, hc1, hc2⟩ := hG
  intro H locs ls hP hS hl
  exact lv_dup_x1 hx hb hd hv hw (k H locs ls hP hS hl)
theorem x_icmp_eq {x y : Int32} {off : Int} {tgt : Nat} (hG : xOk G cc own ws rm) (hd : decode cc pc = .ok (.if_icmp .eq off, 3)) (ht : (pc : Int) + off = (tgt : Int)) (kt : x = y → xW G M lv rest tgt) (kf : ¬ x = y → xW G M lv rest (pc + 3)) : xW G M lv (.int y :: .int x :: rest) pc := by
  obtain ⟨p, l, e, R, s, m, args, below, meth, c, nL, A, H0, Q, D, a, cs, kc, ks⟩ := G
  obtain ⟨hx, hb, hml, hown, hts, hK, hI, hAi, hAn, hR, hc1, hc2⟩ := hG
  intro H locs ls hP hS hl
  exact lv_icmp_eq hx hb hd ht (fun q => kt q H locs ls hP hS hl) (fun q => kf q H locs ls hP hS hl)
theorem x_if_eq {x : Int32} {off : Int} {tgt : Nat} (hG : xOk G cc own ws rm) (hd : decode cc pc = .ok (.ifCond .eq off, 3)) (ht : (pc : Int) + off = (tgt : Int)) (kt : x = 0 → xW G M lv rest tgt) (kf : ¬ x = 0 → xW G M lv rest (pc + 3)) : xW G M lv (.int x :: rest) pc := by
  obtain ⟨p, l, e, R, s, m, args, below, meth, c, nL, A, H0, Q, D, a, cs, kc, ks⟩ := G
  obtain ⟨hx, hb, hml, hown, hts, hK, hI, hAi, hAn, hR, hc1, hc2⟩ := hG
  intro H locs ls hP hS hl
  exact lv_if_eq hx hb hd ht (fun q => kt q H locs ls hP hS hl) (fun q => kf q H locs ls hP hS hl)
theorem x_icmp_ne {x y : Int32} {off : Int} {tgt : Nat} (hG : xOk G cc own ws rm) (hd : decode cc pc = .ok (.if_icmp .ne off, 3)) (ht : (pc : Int) + off = (tgt : Int)) (kt : ¬ x = y → xW G M lv rest tgt) (kf : x = y → xW G M lv rest (pc + 3)) : xW G M lv (.int y :: .int x :: rest) pc := by
  obtain ⟨p, l, e, R, s, m, args, below, meth, c, nL, A, H0, Q, D, a, cs, kc, ks⟩ := G
  obtain ⟨hx, hb, hml, hown, hts, hK, hI, hAi, hAn, hR, hc1, hc2⟩ := hG
  intro H locs ls hP hS hl
  exact lv_icmp_ne hx hb hd ht (fun q => kt q H locs ls hP hS hl) (fun q => kf q H locs ls hP hS hl)
theorem x_if_ne {x : Int32} {off : Int} {tgt : Nat} (hG : xOk G cc own ws rm) (hd : decode cc pc = .ok (.ifCond .ne off, 3)) (ht : (pc : Int) + off = (tgt : Int)) (kt : ¬ x = 0 → xW G M lv rest tgt) (kf : x = 0 → xW G M lv rest (pc + 3)) : xW G M lv (.int x :: rest) pc := by
  obtain ⟨p, l, e, R, s, m, args, below, meth, c, nL, A, H0, Q, D, a, cs, kc, ks⟩ := G
  obtain ⟨hx, hb, hml, hown, hts, hK, hI, hAi, hAn, hR, hc1, hc2⟩ := hG
  intro H locs ls hP hS hl
  exact lv_if_ne hx hb hd ht (fun q => kt q H locs ls hP hS hl) (fun q => kf q H locs ls hP hS hl)
theorem x_icmp_lt {x y : Int32} {off : Int} {tgt : Nat} (hG : xOk G cc own ws rm) (hd : decode cc pc = .ok (.if_icmp .lt off, 3)) (ht : (pc : Int) + off = (tgt : Int)) (kt : x < y → xW G M lv rest tgt) (kf : ¬ x < y → xW G M lv rest (pc + 3)) : xW G M lv (.int y :: .int x :: rest) pc := by
  obtain ⟨p, l, e, R, s, m, args, below, meth, c, nL, A, H0, Q, D, a, cs, kc, ks⟩ := G
  obtain ⟨hx, hb, hml, hown, hts, hK, hI, hAi, hAn, hR, hc1, hc2⟩ := hG
  intro H locs ls hP hS hl
  exact lv_icmp_lt hx hb hd ht (fun q => kt q H locs ls hP hS hl) (fun q => kf q H locs ls hP hS hl)
theorem x_if_lt {x : Int32} {off : Int} {tgt : Nat} (hG : xOk G cc own ws rm) (hd : decode cc pc = .ok (.ifCond .lt off, 3)) (ht : (pc : Int) + off = (tgt : Int)) (kt : x < 0 → xW G M lv rest tgt) (kf : ¬ x < 0 → xW G M lv rest (pc + 3)) : xW G M lv (.int x :: rest) pc := by
  obtain ⟨p, l, e, R, s, m, args, below, meth, c, nL, A, H0, Q, D, a, cs, kc, ks⟩ := G
  obtain ⟨hx, hb, hml, hown, hts, hK, hI, hAi, hAn, hR, hc1, hc2⟩ := hG
  intro H locs ls hP hS hl
  exact lv_if_lt hx hb hd ht (fun q => kt q H locs ls hP hS hl) (fun q => kf q H locs ls hP hS hl)
theorem x_icmp_ge {x y : Int32} {off : Int} {tgt : Nat} (hG : xOk G cc own ws rm) (hd : decode cc pc = .ok (.if_icmp .ge off, 3)) (ht : (pc : Int) + off = (tgt : Int)) (kt : y ≤ x → xW G M lv rest tgt) (kf : ¬ y ≤ x → xW G M lv rest (pc + 3)) : xW G M lv (.int y :: .int x :: rest) pc := by
  obtain ⟨p, l, e, R, s, m, args, below, meth, c, nL, A, H0, Q, D, a, cs, kc, ks⟩ := G
  obtain ⟨hx, hb, hml, hown, hts, hK, hI, hAi, hAn, hR, hc1, hc2⟩ := hG
  intro H locs ls hP hS hl
  exact lv_icmp_ge hx hb hd ht (fun q => kt q H locs ls hP hS hl) (fun q => kf q H locs ls hP hS hl)
theorem x_if_ge {x : Int32} {off : Int} {tgt : Nat} (hG : xOk G cc own ws rm) (hd : decode cc pc = .ok (.ifCond .ge off, 3)) (ht : (pc : Int) + off = (tgt : Int)) (kt : 0 ≤ x → xW G M lv rest tgt) (kf : ¬ 0 ≤ x → xW G M lv rest (pc + 3)) : xW G M lv (.int x :: rest) pc := by
  obtain ⟨p, l, e, R, s, m, args, below, meth, c, nL, A, H0, Q, D, a, cs, kc, ks⟩ := G
  obtain ⟨hx, hb, hml, hown, hts, hK, hI, hAi, hAn, hR, hc1, hc2⟩ := hG
  intro H locs ls hP hS hl
  exact lv_if_ge hx hb hd ht (fun q => kt q H locs ls hP hS hl) (fun q => kf q H locs ls hP hS hl)
theorem x_icmp_gt {x y : Int32} {off : Int} {tgt : Nat} (hG : xOk G cc own ws rm) (hd : decode cc pc = .ok (.if_icmp .gt off, 3)) (ht : (pc : Int) + off = (tgt : Int)) (kt : y < x → xW G M lv rest tgt) (kf : ¬ y < x → xW G M lv rest (pc + 3)) : xW G M lv (.int y :: .int x :: rest) pc := by
  obtain ⟨p, l, e, R, s, m, args, below, meth, c, nL, A, H0, Q, D, a, cs, kc, ks⟩ := G
  obtain ⟨hx, hb, hml, hown, hts, hK, hI, hAi, hAn, hR, hc1, hc2⟩ := hG
  intro H locs ls hP hS hl
  exact lv_icmp_gt hx hb hd ht (fun q => kt q H locs ls hP hS hl) (fun q => kf q H locs ls hP hS hl)
theorem x_if_gt {x : Int32} {off : Int} {tgt : Nat} (hG : xOk G cc own ws rm) (hd : decode cc pc = .ok (.ifCond .gt off, 3)) (ht : (pc : Int) + off = (tgt : Int)) (kt : 0 < x → xW G M lv rest tgt) (kf : ¬ 0 < x → xW G M lv rest (pc + 3)) : xW G M lv (.int x :: rest) pc := by
  obtain ⟨p, l, e, R, s, m, args, below, meth, c, nL, A, H0, Q, D, a, cs, kc, ks⟩ := G
  obtain ⟨hx, hb, hml, hown, hts, hK, hI, hAi, hAn, hR, hc1, hc2⟩ := hG
  intro H locs ls hP hS hl
  exact lv_if_gt hx hb hd ht (fun q => kt q H locs ls hP hS hl) (fun q => kf q H locs ls hP hS hl)
theorem x_icmp_le {x y : Int32} {off : Int} {tgt : Nat} (hG : xOk G cc own ws rm) (hd : decode cc pc = .ok (.if_icmp .le off, 3)) (ht : (pc : Int) + off = (tgt : Int)) (kt : x ≤ y → xW G M lv rest tgt) (kf : ¬ x ≤ y → xW G M lv rest (pc + 3)) : xW G M lv (.int y :: .int x :: rest) pc := by
  obtain ⟨p, l, e, R, s, m, args, below, meth, c, nL, A, H0, Q, D, a, cs, kc, ks⟩ := G
  obtain ⟨hx, hb, hml, hown, hts, hK, hI, hAi, hAn, hR, hc1, hc2⟩ := hG
  intro H locs ls hP hS hl
  exact lv_icmp_le hx hb hd ht (fun q => kt q H locs ls hP hS hl) (fun q => kf q H locs ls hP hS hl)
theorem x_if_le {x : Int32} {off : Int} {tgt : Nat} (hG : xOk G cc own ws rm) (hd : decode cc pc = .ok (.ifCond .le off, 3)) (ht : (pc : Int) + off = (tgt : Int)) (kt : x ≤ 0 → xW G M lv rest tgt) (kf : ¬ x ≤ 0 → xW G M lv rest (pc + 3)) : xW G M lv (.int x :: rest) pc := by
  obtain ⟨p, l, e, R, s, m, args, below, meth, c, nL, A, H0, Q, D, a, cs, kc, ks⟩ := G
  obtain ⟨hx, hb, hml, hown, hts, hK, hI, hAi, hAn, hR, hc1, hc2⟩ := hG
  intro H locs ls hP hS hl
  exact lv_if_le hx hb hd ht (fun q => kt q H locs ls hP hS hl) (fun q => kf q H locs ls hP hS hl)
theorem x_goto {off : Int} {tgt : Nat} (hG : xOk G cc own ws rm) (hd : decode cc pc = .ok (.goto off, 3)) (ht : (pc : Int) + off = (tgt : Int)) (k : xW G M lv rest tgt) : xW G M lv rest pc := by
  obtain ⟨p, l, e, R, s, m, args, below, meth, c, nL, A, H0, Q, D, a, cs, kc, ks⟩ := G
  obtain ⟨hx, hb, hml, hown, hts, hK, hI, hAi, hAn, hR, hc1, hc2⟩ := hG
  intro H locs ls hP hS hl
  exact lv_goto hx hb hd ht (k H locs ls hP hS hl)
theorem x_tsIn {dflt lo hi : Int} {offs : Array Int} {len : Nat} {x : Int32} {off : Int} {tgt : Nat} (hG : xOk G cc own ws rm) (hd : decode cc pc = .ok (.tableswitch dflt lo hi offs, len)) (v : Int) (hx0 : x.toInt = v) (hv : (decide (lo ≤ v) && decide (v ≤ hi)) = true) (ho : offs[(v - lo).toNat]? = some off) (ht : (pc : Int) + off = (tgt : Int)) (k : xW G M lv rest tgt) : xW G M lv (.int x :: rest) pc := by
  obtain ⟨p, l, e, R, s, m, args, below, meth, c, nL, A, H0, Q, D, a, cs, kc, ks⟩ := G
  obtain ⟨hx, hb, hml, hown, hts, hK, hI, hAi, hAn, hR, hc1, hc2⟩ := hG
  intro H locs ls hP hS hl
  rw [Bool.and_eq_true, decide_eq_true_eq, decide_eq_true_eq] at hv
  subst hx0
  exact lv_tableIn hx hb hd (by omega) (by omega) ho ht (k H locs ls hP hS hl)
theorem x_tsOut {dflt lo hi : Int} {offs : Array Int} {len : Nat} {x : Int32} {tgt : Nat} (hG : xOk G cc own ws rm) (hd : decode cc pc = .ok (.tableswitch dflt lo hi offs, len)) (h : x.toInt < lo ∨ hi < x.toInt) (ht : (pc : Int) + dflt = (tgt : Int)) (k : xW G M lv rest tgt) : xW G M lv (.int x :: rest) pc := by
  obtain ⟨p, l, e, R, s, m, args, below, meth, c, nL, A, H0, Q, D, a, cs, kc, ks⟩ := G
  obtain ⟨hx, hb, hml, hown, hts, hK, hI, hAi, hAn, hR, hc1, hc2⟩ := hG
  intro H locs ls hP hS hl
  exact lv_tableOut hx hb hd h ht (k H locs ls hP hS hl)
theorem x_keep (kp : List Bool) (hk : kp.length = lv.length) (k : xW G M (List.zipWith (fun (b : Bool) (o : Option Value) => if b then o else none) kp lv) rest pc) : xW G M lv rest pc := by
  obtain ⟨p, l, e, R, s, m, args, below, meth, c, nL, A, H0, Q, D, a, cs, kc, ks⟩ := G
  intro H locs ls hP hS hl
  exact k H locs ls hP hS (xl_keep kp hk hl)

end XR
end
section
/-! rows that read and write the memory, returns, calls -/
section XH
variable {G : xG} {M : xMem} {lv : List (Option Value)} {rest : List Value} {pc : Nat} {cc : ByteArray} {own : String} {ws : List Cond} {rm : Room}
theorem xWd_D {A : Nat → Prop} {a : Nat → Nat} {cs : xCs} {M : xMem} (hI : xInj a) (hA : ∀ i, i < 90 → A (a i)) : va_D A (xWd a cs M) := by
  refine ⟨fun i j p q hp hq hpq => ?_, fun k q hk => ?_⟩
  · obtain ⟨h1, rfl⟩ := xWd_of hp
    obtain ⟨h2, rfl⟩ := xWd_of hq
    exact hI i j h1 h2 hpq
  · obtain ⟨h1, rfl⟩ := xWd_of hk
    exact hA k h1
theorem x_getfield {C : String} {T : u_T} {N ci index : Nat} {i : Nat} {fs : List Value} {v : Value} (hG : xOk G cc own ws rm) (hd : decode cc pc = .ok (.getfield index, 3)) (hi : i < 90) (he : ∀ cs, xcell (xa G) cs M i = .inr (ci, fs)) (hc : vwCl[ci]? = some (C, T, N)) (hin : ∀ w ∈ u_ws C T N, w ∈ ws) (k : Nat) (hk : k < N) (hlink : Cond.fieldLink own index (T k).1 (T k).2.1 (T k).2.2.1 ∈ ws) (hv : fs[k]? = some v) (kk : xW G M lv (v :: rest) (pc + 3)) : xW G M lv (.ref (xa G i) :: rest) pc := by
  obtain ⟨p, l, e, R, s, m, args, below, meth, c, nL, A, H0, Q, D, a, cs, kc, ks⟩ := G
  obtain ⟨hx, hb, hml, hown, hts, hK, hI, hAi, hAn, hR, hc1, hc2⟩ := hG
  intro H locs ls hP hS hl
  exact va_get hx hb hts hin hown hK hP i ((xWd_at hi).trans (by rw [show xcell a cs M i = _ from he cs]; rfl)) hc k hk (hts _ hlink) (fun _ h => h) hv hd (kk H locs ls hP hS hl)
theorem x_putfield {C : String} {T : u_T} {N ci index : Nat} {i : Nat} {fs : List Value} {v : Value} {M' : xMem} (hG : xOk G cc own ws rm) (hd : decode cc pc = .ok (.putfield index, 3)) (hi : i < 90) (he : ∀ cs, xcell (xa G) cs M i = .inr (ci, fs)) (hc : vwCl[ci]? = some (C, T, N)) (hin : ∀ w ∈ u_ws C T N, w ∈ ws) (ty0 : Nat → FieldType) (hty : ∀ k, k < N → parseFieldDescriptor (T k).2.2.1 = some (ty0 k)) (hnm : ∀ a, a < N → ∀ b, b < N → a ≠ b → (T a).2.1 ≠ (T b).2.1) (k : Nat) (hk : k < N) (hlink : Cond.fieldLink own index (T k).1 (T k).2.1 (T k).2.2.1 ∈ ws) (hfin : (T k).2.2.2 = false) (hn : narrow (ty0 k) v = v) (hfit : fits (ty0 k) v = true) (hl0 : k < fs.length) (he2 : ∀ cs, xcell (xa G) cs M' i = .inr (ci, fs.set k v)) (ho : ∀ cs j, j < 90 → j ≠ i → xcell (xa G) cs M' j = xcell (xa G) cs M j) (kk : xW G M' lv rest (pc + 3)) : xW G M lv (v :: .ref (xa G i) :: rest) pc := by
  obtain ⟨p, l, e, R, s, m, args, below, meth, c, nL, A, H0, Q, D, a, cs, kc, ks⟩ := G
  obtain ⟨hx, hb, hml, hown, hts, hK, hI, hAi, hAn, hR, hc1, hc2⟩ := hG
  intro H locs ls hP hS hl
  refine va_put hx hb hts hin ty0 hty hnm hown hK hP (xWd_D hI hAi) hS i ((xWd_at hi).trans (by rw [show xcell a cs M i = _ from he cs]; rfl)) hc k hk (hts _ hlink) (fun _ h => h) hfin (hty k hk) hn hfit hl0 hd (fun H1 locs1 hP1 _ hS1 => ?_)
  have e1 : (xWd a cs M).set i (a i, .inr (ci, fs.set k v)) = xWd a cs M' := xWd_set hi (he2 cs) (ho cs)
  change va_P D vwCl ((xWd a cs M).set i (a i, .inr (ci, fs.set k v))) H1 at hP1
  rw [e1] at hP1
  exact kk H1 locs1 ls hP1 hS1 hl
theorem xc_0 {a : Nat → Nat} {cs : xCs} {M : xMem} {i : Nat} (h : kd i = 0) : xcell a cs M i = .inr (0, [.ref (a (i + 1)), .ref (a (i + 2)), .int (M.1 i 2), .int (M.1 i 3)]) := by
  unfold xcell
  rw [h]
  rfl
theorem xc_1 {a : Nat → Nat} {cs : xCs} {M : xMem} {i : Nat} (h : kd i = 1) : xcell a cs M i = .inr (1, [.ref (a (i + 1)), .ref (a (i + 2)), .int (M.1 i 2)]) := by
  unfold xcell
  rw [h]
  rfl
theorem xc_2 {a : Nat → Nat} {cs : xCs} {M : xMem} {i : Nat} (h : kd i = 2) : xcell a cs M i = .inr (2, [.int (M.1 i 0), .int (M.1 i 1), .int (M.1 i 2), .int (M.1 i 3), .ref (a (i + 1)), .ref (a (i + 4)), .ref (a (i + 11)), .ref (a (i + 20)), .ref (a (i + 21)), .ref (a (i + 22))]) := by
  unfold xcell
  rw [h]
  rfl
theorem xc_3 {a : Nat → Nat} {cs : xCs} {M : xMem} {i : Nat} (h : kd i = 3) : xcell a cs M i = .inr (3, [.ref (a (i + 1)), .ref (a (i + 4)), .int (M.1 i 2)]) := by
  unfold xcell
  rw [h]
  rfl
theorem xc_4 {a : Nat → Nat} {cs : xCs} {M : xMem} {i : Nat} (h : kd i = 4) : xcell a cs M i = .inr (4, [.ref (a (i + 1)), .ref (a (i + 2)), .int (M.1 i 2), .int (M.1 i 3)]) := by
  unfold xcell
  rw [h]
  rfl
theorem xc_5 {a : Nat → Nat} {cs : xCs} {M : xMem} {i : Nat} (h : kd i = 5) : xcell a cs M i = .inr (5, [.ref (a (i + 1)), .ref (a (i + 3)), .int (M.1 i 2), .int (M.1 i 3), .int (M.1 i 4), .int (M.1 i 5)]) := by
  unfold xcell
  rw [h]
  rfl
theorem xc_6 {a : Nat → Nat} {cs : xCs} {M : xMem} {i : Nat} (h : kd i = 6) : xcell a cs M i = .inr (6, [.ref (a (i + 1)), .ref (a (i + 8)), .int (M.1 i 2)]) := by
  unfold xcell
  rw [h]
  rfl
theorem xc_7 {a : Nat → Nat} {cs : xCs} {M : xMem} {i : Nat} (h : kd i = 7) : xcell a cs M i = .inr (7, [.ref (a (i + 1)), .int (M.1 i 1)]) := by
  unfold xcell
  rw [h]
  rfl
theorem xc_8 {a : Nat → Nat} {cs : xCs} {M : xMem} {i : Nat} (h : kd i = 8) : xcell a cs M i = .inr (8, [.ref (a (i + 1)), .ref (a (i + 5)), .ref (a (i + 14)), .ref (a (i + 17)), .ref (a (i + 20)), .ref (a (M.1 i 5).toNatClampNeg), .ref (a (M.1 i 6).toNatClampNeg), .long (M.2 0)]) := by
  unfold xcell
  rw [h]
  rfl
theorem xc_9 {a : Nat → Nat} {cs : xCs} {M : xMem} {i : Nat} (h : kd i = 9) : xcell a cs M i = .inr (9, [.int (M.1 i 0), .long (M.2 1), .ref (a (i + 1)), .int (M.1 i 3), .int (M.1 i 4), .int (M.1 i 5), .int (M.1 i 6), .int (M.1 i 7), .int (M.1 i 8), .int (M.1 i 9), .int (M.1 i 10), .int (M.1 i 11), .int (M.1 i 12), .int (M.1 i 13), .ref (a (i + 2)), .ref (a (i + 3)), .ref (a (i + 4)), .ref (a (i + 5)), .ref (a (i + 6)), .ref (a (i + 7)), .int (M.1 i 20), .int (M.1 i 21), .int (M.1 i 22), .int (M.1 i 23), .ref (a (i + 8)), .int (M.1 i 25), .int (M.1 i 26)]) := by
  unfold xcell
  rw [h]
  rfl
theorem kf_0_0 {i : Nat} (h : kd i = 0) : kd (i + 1) = 10 ∧ ln (i + 1) = 96 := (by decide : ∀ i, i < 90 → kd i = 0 → kd (i + 1) = 10 ∧ ln (i + 1) = 96) i (kd_lt h (by decide)) h
theorem kf_0_1 {i : Nat} (h : kd i = 0) : kd (i + 2) = 10 ∧ ln (i + 2) = 96 := (by decide : ∀ i, i < 90 → kd i = 0 → kd (i + 2) = 10 ∧ ln (i + 2) = 96) i (kd_lt h (by decide)) h
theorem kf_1_0 {i : Nat} (h : kd i = 1) : kd (i + 1) = 10 ∧ ln (i + 1) = 6 := (by decide : ∀ i, i < 90 → kd i = 1 → kd (i + 1) = 10 ∧ ln (i + 1) = 6) i (kd_lt h (by decide)) h
theorem kf_1_1 {i : Nat} (h : kd i = 1) : kd (i + 2) = 10 ∧ ln (i + 2) = 6 := (by decide : ∀ i, i < 90 → kd i = 1 → kd (i + 2) = 10 ∧ ln (i + 2) = 6) i (kd_lt h (by decide)) h
theorem kf_2_4 {i : Nat} (h : kd i = 2) : kd (i + 1) = 0 ∧ ln (i + 1) = 0 := (by decide : ∀ i, i < 90 → kd i = 2 → kd (i + 1) = 0 ∧ ln (i + 1) = 0) i (kd_lt h (by decide)) h
theorem kf_2_5 {i : Nat} (h : kd i = 2) : kd (i + 4) = 11 ∧ ln (i + 4) = 6 := (by decide : ∀ i, i < 90 → kd i = 2 → kd (i + 4) = 11 ∧ ln (i + 4) = 6) i (kd_lt h (by decide)) h
theorem kf_2_6 {i : Nat} (h : kd i = 2) : kd (i + 11) = 11 ∧ ln (i + 11) = 8 := (by decide : ∀ i, i < 90 → kd i = 2 → kd (i + 11) = 11 ∧ ln (i + 11) = 8) i (kd_lt h (by decide)) h
theorem kf_2_7 {i : Nat} (h : kd i = 2) : kd (i + 20) = 10 ∧ ln (i + 20) = 12 := (by decide : ∀ i, i < 90 → kd i = 2 → kd (i + 20) = 10 ∧ ln (i + 20) = 12) i (kd_lt h (by decide)) h
theorem kf_2_8 {i : Nat} (h : kd i = 2) : kd (i + 21) = 10 ∧ ln (i + 21) = 64 := (by decide : ∀ i, i < 90 → kd i = 2 → kd (i + 21) = 10 ∧ ln (i + 21) = 64) i (kd_lt h (by decide)) h
theorem kf_2_9 {i : Nat} (h : kd i = 2) : kd (i + 22) = 10 ∧ ln (i + 22) = 256 := (by decide : ∀ i, i < 90 → kd i = 2 → kd (i + 22) = 10 ∧ ln (i + 22) = 256) i (kd_lt h (by decide)) h
theorem kf_3_0 {i : Nat} (h : kd i = 3) : kd (i + 1) = 0 ∧ ln (i + 1) = 0 := (by decide : ∀ i, i < 90 → kd i = 3 → kd (i + 1) = 0 ∧ ln (i + 1) = 0) i (kd_lt h (by decide)) h
theorem kf_3_1 {i : Nat} (h : kd i = 3) : kd (i + 4) = 1 ∧ ln (i + 4) = 0 := (by decide : ∀ i, i < 90 → kd i = 3 → kd (i + 4) = 1 ∧ ln (i + 4) = 0) i (kd_lt h (by decide)) h
theorem kf_4_0 {i : Nat} (h : kd i = 4) : kd (i + 1) = 10 ∧ ln (i + 1) = 64 := (by decide : ∀ i, i < 90 → kd i = 4 → kd (i + 1) = 10 ∧ ln (i + 1) = 64) i (kd_lt h (by decide)) h
theorem kf_4_1 {i : Nat} (h : kd i = 4) : kd (i + 2) = 10 ∧ ln (i + 2) = 64 := (by decide : ∀ i, i < 90 → kd i = 4 → kd (i + 2) = 10 ∧ ln (i + 2) = 64) i (kd_lt h (by decide)) h
theorem kf_5_0 {i : Nat} (h : kd i = 5) : kd (i + 1) = 7 ∧ ln (i + 1) = 0 := (by decide : ∀ i, i < 90 → kd i = 5 → kd (i + 1) = 7 ∧ ln (i + 1) = 0) i (kd_lt h (by decide)) h
theorem kf_5_1 {i : Nat} (h : kd i = 5) : kd (i + 3) = 10 ∧ ln (i + 3) = 2 := (by decide : ∀ i, i < 90 → kd i = 5 → kd (i + 3) = 10 ∧ ln (i + 3) = 2) i (kd_lt h (by decide)) h
theorem kf_6_0 {i : Nat} (h : kd i = 6) : kd (i + 1) = 11 ∧ ln (i + 1) = 6 := (by decide : ∀ i, i < 90 → kd i = 6 → kd (i + 1) = 11 ∧ ln (i + 1) = 6) i (kd_lt h (by decide)) h
theorem kf_6_1 {i : Nat} (h : kd i = 6) : kd (i + 8) = 10 ∧ ln (i + 8) = 48 := (by decide : ∀ i, i < 90 → kd i = 6 → kd (i + 8) = 10 ∧ ln (i + 8) = 48) i (kd_lt h (by decide)) h
theorem kf_7_0 {i : Nat} (h : kd i = 7) : kd (i + 1) = 10 ∧ ln (i + 1) = 400 := (by decide : ∀ i, i < 90 → kd i = 7 → kd (i + 1) = 10 ∧ ln (i + 1) = 400) i (kd_lt h (by decide)) h
theorem kf_8_0 {i : Nat} (h : kd i = 8) : kd (i + 1) = 5 ∧ ln (i + 1) = 0 := (by decide : ∀ i, i < 90 → kd i = 8 → kd (i + 1) = 5 ∧ ln (i + 1) = 0) i (kd_lt h (by decide)) h
theorem kf_8_1 {i : Nat} (h : kd i = 8) : kd (i + 5) = 6 ∧ ln (i + 5) = 0 := (by decide : ∀ i, i < 90 → kd i = 8 → kd (i + 5) = 6 ∧ ln (i + 5) = 0) i (kd_lt h (by decide)) h
theorem kf_8_2 {i : Nat} (h : kd i = 8) : kd (i + 14) = 4 ∧ ln (i + 14) = 0 := (by decide : ∀ i, i < 90 → kd i = 8 → kd (i + 14) = 4 ∧ ln (i + 14) = 0) i (kd_lt h (by decide)) h
theorem kf_8_3 {i : Nat} (h : kd i = 8) : kd (i + 17) = 1 ∧ ln (i + 17) = 0 := (by decide : ∀ i, i < 90 → kd i = 8 → kd (i + 17) = 1 ∧ ln (i + 17) = 0) i (kd_lt h (by decide)) h
theorem kf_8_4 {i : Nat} (h : kd i = 8) : kd (i + 20) = 12 ∧ ln (i + 20) = 2 := (by decide : ∀ i, i < 90 → kd i = 8 → kd (i + 20) = 12 ∧ ln (i + 20) = 2) i (kd_lt h (by decide)) h
theorem kf_9_2 {i : Nat} (h : kd i = 9) : kd (i + 1) = 10 ∧ ln (i + 1) = 400 := (by decide : ∀ i, i < 90 → kd i = 9 → kd (i + 1) = 10 ∧ ln (i + 1) = 400) i (kd_lt h (by decide)) h
theorem kf_9_14 {i : Nat} (h : kd i = 9) : kd (i + 2) = 10 ∧ ln (i + 2) = 207 := (by decide : ∀ i, i < 90 → kd i = 9 → kd (i + 2) = 10 ∧ ln (i + 2) = 207) i (kd_lt h (by decide)) h
theorem kf_9_15 {i : Nat} (h : kd i = 9) : kd (i + 3) = 10 ∧ ln (i + 3) = 207 := (by decide : ∀ i, i < 90 → kd i = 9 → kd (i + 3) = 10 ∧ ln (i + 3) = 207) i (kd_lt h (by decide)) h
theorem kf_9_16 {i : Nat} (h : kd i = 9) : kd (i + 4) = 10 ∧ ln (i + 4) = 414 := (by decide : ∀ i, i < 90 → kd i = 9 → kd (i + 4) = 10 ∧ ln (i + 4) = 414) i (kd_lt h (by decide)) h
theorem kf_9_17 {i : Nat} (h : kd i = 9) : kd (i + 5) = 13 ∧ ln (i + 5) = 2 := (by decide : ∀ i, i < 90 → kd i = 9 → kd (i + 5) = 13 ∧ ln (i + 5) = 2) i (kd_lt h (by decide)) h
theorem kf_9_18 {i : Nat} (h : kd i = 9) : kd (i + 6) = 10 ∧ ln (i + 6) = 48 := (by decide : ∀ i, i < 90 → kd i = 9 → kd (i + 6) = 10 ∧ ln (i + 6) = 48) i (kd_lt h (by decide)) h
theorem kf_9_19 {i : Nat} (h : kd i = 9) : kd (i + 7) = 10 ∧ ln (i + 7) = 80 := (by decide : ∀ i, i < 90 → kd i = 9 → kd (i + 7) = 10 ∧ ln (i + 7) = 80) i (kd_lt h (by decide)) h
theorem kf_9_24 {i : Nat} (h : kd i = 9) : kd (i + 8) = 10 ∧ ln (i + 8) = 336 := (by decide : ∀ i, i < 90 → kd i = 9 → kd (i + 8) = 10 ∧ ln (i + 8) = 336) i (kd_lt h (by decide)) h
theorem ke_11 {i j : Nat} (h : kd i = 11) (hj : j < ln i) : kd (i + 1 + j) = 10 := (by decide : ∀ i, i < 90 → kd i = 11 → ∀ j, j < ln i → kd (i + 1 + j) = 10) i (kd_lt h (by decide)) h j hj
theorem ke_12 {i j : Nat} (h : kd i = 12) (hj : j < ln i) : kd (i + 1 + 7 * j) = 3 := (by decide : ∀ i, i < 90 → kd i = 12 → ∀ j, j < ln i → kd (i + 1 + 7 * j) = 3) i (kd_lt h (by decide)) h j hj
theorem ke_2_5 {i j : Nat} (h : kd i = 2) (hj : j < 6) : kd (i + 4 + 1 + j) = 10 ∧ ln (i + 4 + 1 + j) = 4 := (by decide : ∀ i, i < 90 → kd i = 2 → ∀ j, j < 6 → kd (i + 4 + 1 + j) = 10 ∧ ln (i + 4 + 1 + j) = 4) i (kd_lt h (by decide)) h j hj
theorem ke_2_6 {i j : Nat} (h : kd i = 2) (hj : j < 8) : kd (i + 11 + 1 + j) = 10 ∧ ln (i + 11 + 1 + j) = 6 := (by decide : ∀ i, i < 90 → kd i = 2 → ∀ j, j < 8 → kd (i + 11 + 1 + j) = 10 ∧ ln (i + 11 + 1 + j) = 6) i (kd_lt h (by decide)) h j hj
theorem ke_6_0 {i j : Nat} (h : kd i = 6) (hj : j < 6) : kd (i + 1 + 1 + j) = 10 ∧ ln (i + 1 + 1 + j) = 48 := (by decide : ∀ i, i < 90 → kd i = 6 → ∀ j, j < 6 → kd (i + 1 + 1 + j) = 10 ∧ ln (i + 1 + 1 + j) = 48) i (kd_lt h (by decide)) h j hj
theorem vp_lt {x : Int32} {n : Nat} (h : vp_in x n) : x.toNatClampNeg < n := Nat.not_le.mp fun q => h (Or.inr q)
theorem xc_10 {a : Nat → Nat} {cs : xCs} {M : xMem} {i : Nat} (h : kd i = 10) : xcell a cs M i = .inl (cs.1, ln i, .inl (M.1 i)) := by
  unfold xcell
  rw [h]
  rfl
theorem xc_11 {a : Nat → Nat} {cs : xCs} {M : xMem} {i : Nat} (h : kd i = 11) : xcell a cs M i = .inl (cs.2.1, ln i, .inr (.inr (.inr (.inr (fun j => some (a (i + 1 + j))))))) := by
  unfold xcell
  rw [h]
  rfl
theorem xc_12 {a : Nat → Nat} {cs : xCs} {M : xMem} {i : Nat} (h : kd i = 12) : xcell a cs M i = .inl (cs.2.2.1, ln i, .inr (.inr (.inr (.inr (fun j => some (a (i + 1 + 7 * j))))))) := by
  unfold xcell
  rw [h]
  rfl
theorem xc_13 {a : Nat → Nat} {cs : xCs} {M : xMem} {i : Nat} (h : kd i = 13) : xcell a cs M i = .inl (cs.2.2.2, ln i, .inl (M.1 i)) := by
  unfold xcell
  rw [h]
  rfl
theorem x_iaload {i : Nat} {x : Int32} (hG : xOk G cc own ws rm) (hd : decode cc pc = .ok (.iaload, 1)) (hk : kd i = 10) (hin : vp_in x (ln i)) (k : xW G M lv (.int (M.1 i x.toNatClampNeg) :: rest) (pc + 1)) : xW G M lv (.int x :: .ref (xa G i) :: rest) pc := by
  obtain ⟨p, l, e, R, s, m, args, below, meth, c, nL, A, H0, Q, D, a, cs, kc, ks⟩ := G
  obtain ⟨hx, hb, hml, hown, hts, hK, hI, hAi, hAn, hR, hc1, hc2⟩ := hG
  intro H locs ls hP hS hl
  exact va_iald hx hb hK hP i 0 ((xWd_at (kd_lt hk (by decide))).trans (by rw [xc_10 hk]; rfl)) rfl hin hd (k H locs ls hP hS hl)
theorem x_zaload {i : Nat} {x : Int32} (hG : xOk G cc own ws rm) (hd : decode cc pc = .ok (.baload, 1)) (hk : kd i = 13) (hin : vp_in x (ln i)) (k : xW G M lv (.int (M.1 i x.toNatClampNeg) :: rest) (pc + 1)) : xW G M lv (.int x :: .ref (xa G i) :: rest) pc := by
  obtain ⟨p, l, e, R, s, m, args, below, meth, c, nL, A, H0, Q, D, a, cs, kc, ks⟩ := G
  obtain ⟨hx, hb, hml, hown, hts, hK, hI, hAi, hAn, hR, hc1, hc2⟩ := hG
  intro H locs ls hP hS hl
  exact va_zald hx hb hK hP i 3 ((xWd_at (kd_lt hk (by decide))).trans (by rw [xc_13 hk]; rfl)) rfl hin hd (k H locs ls hP hS hl)
theorem x_iastore {i : Nat} {x v : Int32} (hG : xOk G cc own ws rm) (hd : decode cc pc = .ok (.iastore, 1)) (hk : kd i = 10) (hin : vp_in x (ln i)) (k : xW G (xset M i x.toNatClampNeg v) lv rest (pc + 1)) : xW G M lv (.int v :: .int x :: .ref (xa G i) :: rest) pc := by
  obtain ⟨p, l, e, R, s, m, args, below, meth, c, nL, A, H0, Q, D, a, cs, kc, ks⟩ := G
  obtain ⟨hx, hb, hml, hown, hts, hK, hI, hAi, hAn, hR, hc1, hc2⟩ := hG
  intro H locs ls hP hS hl
  have hi := kd_lt hk (by decide)
  refine va_iast hx hb hK hP (xWd_D hI hAi) hS i 0 ((xWd_at hi).trans (by rw [xc_10 hk]; rfl)) rfl hin hd (fun H1 locs1 hP1 _ hS1 => ?_)
  have e1 : (xWd a cs M).set i (a i, .inl (cs.1, ln i, .inl (upd (M.1 i) x.toNatClampNeg v))) = xWd a cs (xset M i x.toNatClampNeg v) := xWd_set hi (by rw [xc_10 hk, xset_row, xrow_at]) (fun j _ hj => xcell_row hj)
  change va_P D vwCl ((xWd a cs M).set i (a i, .inl (cs.1, ln i, .inl (upd (M.1 i) x.toNatClampNeg v)))) H1 at hP1
  rw [e1] at hP1
  exact k H1 locs1 ls hP1 hS1 hl
theorem x_zastore {i : Nat} {x v : Int32} (hG : xOk G cc own ws rm) (hd : decode cc pc = .ok (.bastore, 1)) (hk : kd i = 13) (hin : vp_in x (ln i)) (hv : vp_nar .boolean v = v) (k : xW G (xset M i x.toNatClampNeg v) lv rest (pc + 1)) : xW G M lv (.int v :: .int x :: .ref (xa G i) :: rest) pc := by
  obtain ⟨p, l, e, R, s, m, args, below, meth, c, nL, A, H0, Q, D, a, cs, kc, ks⟩ := G
  obtain ⟨hx, hb, hml, hown, hts, hK, hI, hAi, hAn, hR, hc1, hc2⟩ := hG
  intro H locs ls hP hS hl
  have hi := kd_lt hk (by decide)
  refine va_zast hx hb hK hP (xWd_D hI hAi) hS i 3 ((xWd_at hi).trans (by rw [xc_13 hk]; rfl)) rfl hin hd (fun H1 locs1 hP1 _ hS1 => ?_)
  rw [hv] at hP1
  have e1 : (xWd a cs M).set i (a i, .inl (cs.2.2.2, ln i, .inl (upd (M.1 i) x.toNatClampNeg v))) = xWd a cs (xset M i x.toNatClampNeg v) := xWd_set hi (by rw [xc_13 hk, xset_row, xrow_at]) (fun j _ hj => xcell_row hj)
  change va_P D vwCl ((xWd a cs M).set i (a i, .inl (cs.2.2.2, ln i, .inl (upd (M.1 i) x.toNatClampNeg v)))) H1 at hP1
  rw [e1] at hP1
  exact k H1 locs1 ls hP1 hS1 hl
theorem x_aaload11 {i : Nat} {x : Int32} (hG : xOk G cc own ws rm) (hd : decode cc pc = .ok (.aaload, 1)) (hk : kd i = 11) (hin : vp_in x (ln i)) (k : xW G M lv (.ref (xa G (i + 1 + x.toNatClampNeg)) :: rest) (pc + 1)) : xW G M lv (.int x :: .ref (xa G i) :: rest) pc := by
  obtain ⟨p, l, e, R, s, m, args, below, meth, c, nL, A, H0, Q, D, a, cs, kc, ks⟩ := G
  obtain ⟨hx, hb, hml, hown, hts, hK, hI, hAi, hAn, hR, hc1, hc2⟩ := hG
  intro H locs ls hP hS hl
  have hlt : x.toNatClampNeg < ln i := Nat.not_le.mp fun q => hin (Or.inr q)
  have ha := hP i (a i, .inl (cs.2.1, ln i, .inr (.inr (.inr (.inr (fun j => some (a (i + 1 + j)))))))) ((xWd_at (kd_lt hk (by decide))).trans (by rw [xc_11 hk]))
  refine W.aald (v := .ref (a (i + 1 + x.toNatClampNeg))) (ty := .array .int) hx hb ha ((hK.2 1 (cs.2.1, .array .int) rfl).1 (ln i) (fun j => va_rf (some (a (i + 1 + j))))) rfl (fun q => by cases q) (by show ¬ (x < 0 ∨ (arrV _ _ _).slots.size ≤ _); rw [arrV_size]; exact hin) (by show (arrV _ _ _).slots[_]? = _; rw [arrV_read _ _ hlt]; rfl) rfl rfl hd ?_
  exact k H locs ls hP hS hl
theorem x_aaload12 {i : Nat} {x : Int32} (hG : xOk G cc own ws rm) (hd : decode cc pc = .ok (.aaload, 1)) (hk : kd i = 12) (hin : vp_in x (ln i)) (k : xW G M lv (.ref (xa G (i + 1 + 7 * x.toNatClampNeg)) :: rest) (pc + 1)) : xW G M lv (.int x :: .ref (xa G i) :: rest) pc := by
  obtain ⟨p, l, e, R, s, m, args, below, meth, c, nL, A, H0, Q, D, a, cs, kc, ks⟩ := G
  obtain ⟨hx, hb, hml, hown, hts, hK, hI, hAi, hAn, hR, hc1, hc2⟩ := hG
  intro H locs ls hP hS hl
  have hlt : x.toNatClampNeg < ln i := Nat.not_le.mp fun q => hin (Or.inr q)
  have ha := hP i (a i, .inl (cs.2.2.1, ln i, .inr (.inr (.inr (.inr (fun j => some (a (i + 1 + 7 * j)))))))) ((xWd_at (kd_lt hk (by decide))).trans (by rw [xc_12 hk]))
  refine W.aald (v := .ref (a (i + 1 + 7 * x.toNatClampNeg))) (ty := .object "QuietYards$Image") hx hb ha ((hK.2 2 (cs.2.2.1, .object "QuietYards$Image") rfl).1 (ln i) (fun j => va_rf (some (a (i + 1 + 7 * j))))) rfl (fun q => by cases q) (by show ¬ (x < 0 ∨ (arrV _ _ _).slots.size ≤ _); rw [arrV_size]; exact hin) (by show (arrV _ _ _).slots[_]? = _; rw [arrV_read _ _ hlt]; rfl) rfl rfl hd ?_
  exact k H locs ls hP hS hl
theorem x_alen {i : Nat} (hG : xOk G cc own ws rm) (hd : decode cc pc = .ok (.arraylength, 1)) (hk : kd i = 10) (k : xW G M lv (.int (nI (ln i)) :: rest) (pc + 1)) : xW G M lv (.ref (xa G i) :: rest) pc := by
  obtain ⟨p, l, e, R, s, m, args, below, meth, c, nL, A, H0, Q, D, a, cs, kc, ks⟩ := G
  obtain ⟨hx, hb, hml, hown, hts, hK, hI, hAi, hAn, hR, hc1, hc2⟩ := hG
  intro H locs ls hP hS hl
  exact va_alen hx hb hK hP i 0 (x := (ln i, .inl (M.1 i))) ((xWd_at (kd_lt hk (by decide))).trans (by rw [xc_10 hk]; rfl)) (ty := .int) rfl rfl hd (k H locs ls hP hS hl)
theorem x_mmin {x y : Int32} {index : Nat} (hG : xOk G cc own ws rm) (hd : decode cc pc = .ok (.invokestatic index, 3)) (h1 : Cond.methodLink own index Lib.Math.min.name ∈ ws) (h2 : Cond.static Lib.Math.min.name ∈ ws) (h3 : Cond.initialized "java/lang/Math" ∈ ws) (h4 : Cond.code Lib.Math.min.name Lib.Math.min.code 2 (some .int) ∈ ws) (hf : 1 ≤ rm.frames) (hcat : (rest.map fun v => v.category).sum + 13 ≤ rm.locals) (k : xW G M lv (.int (if y < x then y else x) :: rest) (pc + 3)) : xW G M lv (.int y :: .int x :: rest) pc := by
  obtain ⟨p, l, e, R, s, m, args, below, meth, c, nL, A, H0, Q, D, a, cs, kc, ks⟩ := G
  obtain ⟨hx, hb, hml, hown, hts, hK, hI, hAi, hAn, hR, hc1, hc2⟩ := hG
  subst hR
  intro H locs ls hP hS hl
  exact va_mmin hx hb (hml.trans hl.1.symm) hown (hts _ h1) (hts _ h2) (hts _ h3) (hts _ h4) hf hcat hc1 hc2 hd (k H locs ls hP hS hl)
theorem x_mmax {x y : Int32} {index : Nat} (hG : xOk G cc own ws rm) (hd : decode cc pc = .ok (.invokestatic index, 3)) (h1 : Cond.methodLink own index Lib.Math.max.name ∈ ws) (h2 : Cond.static Lib.Math.max.name ∈ ws) (h3 : Cond.initialized "java/lang/Math" ∈ ws) (h4 : Cond.code Lib.Math.max.name Lib.Math.max.code 2 (some .int) ∈ ws) (hf : 1 ≤ rm.frames) (hcat : (rest.map fun v => v.category).sum + 13 ≤ rm.locals) (k : xW G M lv (.int (if x < y then y else x) :: rest) (pc + 3)) : xW G M lv (.int y :: .int x :: rest) pc := by
  obtain ⟨p, l, e, R, s, m, args, below, meth, c, nL, A, H0, Q, D, a, cs, kc, ks⟩ := G
  obtain ⟨hx, hb, hml, hown, hts, hK, hI, hAi, hAn, hR, hc1, hc2⟩ := hG
  subst hR
  intro H locs ls hP hS hl
  exact va_mmax hx hb (hml.trans hl.1.symm) hown (hts _ h1) (hts _ h2) (hts _ h3) (hts _ h4) hf hcat hc1 hc2 hd (k H locs ls hP hS hl)
theorem x_iret {post : Int32 → xMem → Prop} {ty : FieldType} {v : Int32} (hG : xOk G cc own ws rm) (hQ : xRetI G post ty) (hd : decode cc pc = .ok (.ireturn, 1)) (hn : narrow ty (.int v) = .int v) (h : post v M) : xW G M lv [.int v] pc := by
  obtain ⟨p, l, e, R, s, m, args, below, meth, c, nL, A, H0, Q, D, a, cs, kc, ks⟩ := G
  obtain ⟨hx, hb, hml, hown, hts, hK, hI, hAi, hAn, hR, hc1, hc2⟩ := hG
  obtain ⟨hr, hlocks, rfl, rfl⟩ := hQ
  intro H locs ls hP hS hl
  exact W.zret hx hb hr hn (fun t ht hW => ⟨⟨v, M, rfl, h, by rw [ht]; exact hP, va_K.moved hW.alike hK⟩, hS.F ht⟩) hS.2.2 hd hlocks
theorem x_lret {post : Int64 → xMem → Prop} {v : Int64} (hG : xOk G cc own ws rm) (hQ : xRetL G post) (hd : decode cc pc = .ok (.lreturn, 1)) (h : post v M) : xW G M lv [.long v] pc := by
  obtain ⟨p, l, e, R, s, m, args, below, meth, c, nL, A, H0, Q, D, a, cs, kc, ks⟩ := G
  obtain ⟨hx, hb, hml, hown, hts, hK, hI, hAi, hAn, hR, hc1, hc2⟩ := hG
  obtain ⟨hr, hlocks, rfl, rfl⟩ := hQ
  intro H locs ls hP hS hl
  exact W.lret hx hb hr (fun t ht hW => ⟨⟨v, M, rfl, h, by rw [ht]; exact hP, va_K.moved hW.alike hK⟩, hS.F ht⟩) hS.2.2 hd hlocks
theorem x_vret {post : xMem → Prop} (hG : xOk G cc own ws rm) (hQ : xRetV G post) (hd : decode cc pc = .ok (.return_, 1)) (h : post M) : xW G M lv [] pc := by
  obtain ⟨p, l, e, R, s, m, args, below, meth, c, nL, A, H0, Q, D, a, cs, kc, ks⟩ := G
  obtain ⟨hx, hb, hml, hown, hts, hK, hI, hAi, hAn, hR, hc1, hc2⟩ := hG
  obtain ⟨hr, hlocks, rfl, rfl⟩ := hQ
  intro H locs ls hP hS hl
  exact W.vret hx hb hr (fun t ht hW => ⟨⟨M, rfl, h, by rw [ht]; exact hP, va_K.moved hW.alike hK⟩, hS.F ht⟩) hS.2.2 hd hlocks
theorem x_aret {post : Nat → xMem → Prop} {i : Nat} (hG : xOk G cc own ws rm) (hQ : xRetR G post) (hd : decode cc pc = .ok (.areturn, 1)) (h : post i M) : xW G M lv [.ref (xa G i)] pc := by
  obtain ⟨p, l, e, R, s, m, args, below, meth, c, nL, A, H0, Q, D, a, cs, kc, ks⟩ := G
  obtain ⟨hx, hb, hml, hown, hts, hK, hI, hAi, hAn, hR, hc1, hc2⟩ := hG
  obtain ⟨hr, hlocks, rfl, rfl⟩ := hQ
  intro H locs ls hP hS hl
  exact W.aret hx hb hr (Or.inr ⟨_, rfl⟩) (Or.inr ⟨_, rfl⟩) (fun t ht hW => ⟨⟨(i, M), a i, rfl, h, rfl, by rw [ht]; exact hP, va_K.moved hW.alike hK⟩, hS.F ht⟩) hS.2.2 hd hlocks
end XH
end
section
/-! rows of calls -/
section XC
variable {G : xG} {M : xMem} {lv : List (Option Value)} {rest : List Value} {pc : Nat} {cc : ByteArray} {own : String} {ws : List Cond} {rm : Room}
theorem xPre_blind {D : va_G} {a : Nat → Nat} {cs : xCs} {M : xMem} {sz : Nat} {av : List Value} : FrameBlind (xPre D a cs M sz av) := fun b U g mk q => ⟨q.1, q.2.1, q.2.2.1, va_K.moved (u := U) (U := U.calling g mk b) (Vm.Alike.refl U.vm) q.2.2.2⟩
theorem x_cVI {y : MethodName} {bytes : ByteArray} {maxL n index : Nat} {ret : Option FieldType} {wsY ws' : List Cond} {rmY : Room} {C : String} {hid ci N : Nat} {T : u_T} {fs As st : List Value} {post : Int32 → xMem → Prop} (hG : xOk G cc own ws rm) (hd : decode cc pc = .ok (.invokevirtual index, 3)) (hM : xInj (xa G) → ∀ D cs sz, xMetI (xL G) y wsY rmY D (xa G) cs sz M (.ref (xa G hid) :: As) post) (hg : GoodIn ws (wsV own index C y wsY)) (hw : wsY = Cond.code y bytes maxL ret :: ws') (hrm : rmY.cells = 0 ∧ rmY.slots = 0) (hy : y.cls = C ∧ y.cls ≠ "java/lang/invoke/MethodHandle" ∧ y.cls ≠ "java/lang/invoke/VarHandle" ∧ (parseMethodDescriptor y.desc).map (fun d => d.parameters.length) = some n) (hn : As.length = n) (hR : rmY.frames + 1 ≤ rm.frames ∧ 8 + (maxL + 11) + rmY.locals ≤ rm.locals) (hi : hid < 90) (he : ∀ cs, xcell (xa G) cs M hid = .inr (ci, fs)) (hc : vwCl[ci]? = some (C, T, N)) (hcat : (rest.map fun v => v.category).sum ≤ 8) (hst : st = As.reverse ++ .ref (xa G hid) :: rest) (kk : ∀ (r : Int32) (M' : xMem), post r M' → xW G M' lv (.int r :: rest) (pc + 3)) : xW G M lv st pc := by
  obtain ⟨p, l, e, R, s, m, args, below, meth, c, nL, A, H0, Q, D, a, cs, kc, ks⟩ := G
  obtain ⟨hx, hb, hml, hown, hts, hK, hI, hAi, hAn, hR0, hc1, hc2⟩ := hG
  subst hR0
  subst hst
  intro H locs ls hP hS hl
  have hF : ∀ q, xA a H.size q → A q := fun q h => h.elim (fun ⟨i, h1, h2⟩ => h2 ▸ hAi i h1) (fun h => hAn q (Nat.le_trans hS.1 h))
  show W p l e R s m args below meth c H locs kc ks Q (F0 m pc ls (As.reverse ++ .ref (a hid) :: rest))
  refine va_calli (va_runV (As := As) (rest := rest) ⟨hx, hb, hml, hown, hts⟩ (hM hI D cs H.size) (cwV n hts hg hw hrm.1 hrm.2 hy hR) ⟨xPre_blind, va_recv (fs := fs) hK hP hc ((xWd_at hi).trans (by rw [show xcell a cs M hid = _ from he cs]; rfl)), fun U hU hW => ⟨rfl, by rw [hU], by rw [hU]; exact hP, va_K.moved hW.alike hK⟩⟩ rfl hn hl.1 rfl (lv_room hcat) hd ⟨hc1, hc2⟩) hS (fun q _ h => hF q h) hF (fun r u t H1 locs1 ht hvm hw hB hz1 hk1 hS => ?_)
  obtain ⟨hP1, hK1⟩ := hB
  rw [ht] at hP1
  exact kk r u hw H1 locs1 ls hP1 hS hl
theorem x_cSI {y : MethodName} {bytes : ByteArray} {maxL n index : Nat} {ret : Option FieldType} {wsY ws' : List Cond} {rmY : Room} {As st : List Value} {post : Int32 → xMem → Prop} (hG : xOk G cc own ws rm) (hd : decode cc pc = .ok (.invokestatic index, 3)) (hM : xInj (xa G) → ∀ D cs sz, xMetI (xL G) y wsY rmY D (xa G) cs sz M As post) (hg : GoodIn ws (va_wsS own index y wsY)) (hw : wsY = Cond.code y bytes maxL ret :: ws') (hrm : rmY.cells = 0 ∧ rmY.slots = 0) (hy : y.cls ≠ "java/lang/invoke/MethodHandle" ∧ y.cls ≠ "java/lang/invoke/VarHandle" ∧ (parseMethodDescriptor y.desc).map (fun d => d.parameters.length) = some n) (hn : As.length = n) (hR : rmY.frames + 1 ≤ rm.frames ∧ 8 + (maxL + 11) + rmY.locals ≤ rm.locals) (hcat : (rest.map fun v => v.category).sum ≤ 8) (hst : st = As.reverse ++ rest) (kk : ∀ (r : Int32) (M' : xMem), post r M' → xW G M' lv (.int r :: rest) (pc + 3)) : xW G M lv st pc := by
  obtain ⟨p, l, e, R, s, m, args, below, meth, c, nL, A, H0, Q, D, a, cs, kc, ks⟩ := G
  obtain ⟨hx, hb, hml, hown, hts, hK, hI, hAi, hAn, hR0, hc1, hc2⟩ := hG
  subst hR0
  subst hst
  intro H locs ls hP hS hl
  have hF : ∀ q, xA a H.size q → A q := fun q h => h.elim (fun ⟨i, h1, h2⟩ => h2 ▸ hAi i h1) (fun h => hAn q (Nat.le_trans hS.1 h))
  refine va_calli (va_runS (As := As) (rest := rest) ⟨hx, hb, hml, hown, hts⟩ (hM hI D cs H.size) (va_cwS n hts hg hw hrm.1 hrm.2 hy hR) ⟨xPre_blind, fun U hU hW => ⟨rfl, by rw [hU], by rw [hU]; exact hP, va_K.moved hW.alike hK⟩⟩ rfl hn hl.1 rfl (lv_room hcat) hd ⟨hc1, hc2⟩) hS (fun q _ h => hF q h) hF (fun r u t H1 locs1 ht hvm hw hB hz1 hk1 hS => ?_)
  obtain ⟨hP1, hK1⟩ := hB
  rw [ht] at hP1
  exact kk r u hw H1 locs1 ls hP1 hS hl
theorem x_cVL {y : MethodName} {bytes : ByteArray} {maxL n index : Nat} {ret : Option FieldType} {wsY ws' : List Cond} {rmY : Room} {C : String} {hid ci N : Nat} {T : u_T} {fs As st : List Value} {post : Int64 → xMem → Prop} (hG : xOk G cc own ws rm) (hd : decode cc pc = .ok (.invokevirtual index, 3)) (hM : xInj (xa G) → ∀ D cs sz, xMetL (xL G) y wsY rmY D (xa G) cs sz M (.ref (xa G hid) :: As) post) (hg : GoodIn ws (wsV own index C y wsY)) (hw : wsY = Cond.code y bytes maxL ret :: ws') (hrm : rmY.cells = 0 ∧ rmY.slots = 0) (hy : y.cls = C ∧ y.cls ≠ "java/lang/invoke/MethodHandle" ∧ y.cls ≠ "java/lang/invoke/VarHandle" ∧ (parseMethodDescriptor y.desc).map (fun d => d.parameters.length) = some n) (hn : As.length = n) (hR : rmY.frames + 1 ≤ rm.frames ∧ 8 + (maxL + 11) + rmY.locals ≤ rm.locals) (hi : hid < 90) (he : ∀ cs, xcell (xa G) cs M hid = .inr (ci, fs)) (hc : vwCl[ci]? = some (C, T, N)) (hcat : (rest.map fun v => v.category).sum ≤ 8) (hst : st = As.reverse ++ .ref (xa G hid) :: rest) (kk : ∀ (r : Int64) (M' : xMem), post r M' → xW G M' lv (.long r :: rest) (pc + 3)) : xW G M lv st pc := by
  obtain ⟨p, l, e, R, s, m, args, below, meth, c, nL, A, H0, Q, D, a, cs, kc, ks⟩ := G
  obtain ⟨hx, hb, hml, hown, hts, hK, hI, hAi, hAn, hR0, hc1, hc2⟩ := hG
  subst hR0
  subst hst
  intro H locs ls hP hS hl
  have hF : ∀ q, xA a H.size q → A q := fun q h => h.elim (fun ⟨i, h1, h2⟩ => h2 ▸ hAi i h1) (fun h => hAn q (Nat.le_trans hS.1 h))
  show W p l e R s m args below meth c H locs kc ks Q (F0 m pc ls (As.reverse ++ .ref (a hid) :: rest))
  refine va_calll (va_runV (As := As) (rest := rest) ⟨hx, hb, hml, hown, hts⟩ (hM hI D cs H.size) (cwV n hts hg hw hrm.1 hrm.2 hy hR) ⟨xPre_blind, va_recv (fs := fs) hK hP hc ((xWd_at hi).trans (by rw [show xcell a cs M hid = _ from he cs]; rfl)), fun U hU hW => ⟨rfl, by rw [hU], by rw [hU]; exact hP, va_K.moved hW.alike hK⟩⟩ rfl hn hl.1 rfl (lv_room hcat) hd ⟨hc1, hc2⟩) hS (fun q _ h => hF q h) hF (fun r u t H1 locs1 ht hvm hw hB hz1 hk1 hS => ?_)
  obtain ⟨hP1, hK1⟩ := hB
  rw [ht] at hP1
  exact kk r u hw H1 locs1 ls hP1 hS hl
theorem x_cSL {y : MethodName} {bytes : ByteArray} {maxL n index : Nat} {ret : Option FieldType} {wsY ws' : List Cond} {rmY : Room} {As st : List Value} {post : Int64 → xMem → Prop} (hG : xOk G cc own ws rm) (hd : decode cc pc = .ok (.invokestatic index, 3)) (hM : xInj (xa G) → ∀ D cs sz, xMetL (xL G) y wsY rmY D (xa G) cs sz M As post) (hg : GoodIn ws (va_wsS own index y wsY)) (hw : wsY = Cond.code y bytes maxL ret :: ws') (hrm : rmY.cells = 0 ∧ rmY.slots = 0) (hy : y.cls ≠ "java/lang/invoke/MethodHandle" ∧ y.cls ≠ "java/lang/invoke/VarHandle" ∧ (parseMethodDescriptor y.desc).map (fun d => d.parameters.length) = some n) (hn : As.length = n) (hR : rmY.frames + 1 ≤ rm.frames ∧ 8 + (maxL + 11) + rmY.locals ≤ rm.locals) (hcat : (rest.map fun v => v.category).sum ≤ 8) (hst : st = As.reverse ++ rest) (kk : ∀ (r : Int64) (M' : xMem), post r M' → xW G M' lv (.long r :: rest) (pc + 3)) : xW G M lv st pc := by
  obtain ⟨p, l, e, R, s, m, args, below, meth, c, nL, A, H0, Q, D, a, cs, kc, ks⟩ := G
  obtain ⟨hx, hb, hml, hown, hts, hK, hI, hAi, hAn, hR0, hc1, hc2⟩ := hG
  subst hR0
  subst hst
  intro H locs ls hP hS hl
  have hF : ∀ q, xA a H.size q → A q := fun q h => h.elim (fun ⟨i, h1, h2⟩ => h2 ▸ hAi i h1) (fun h => hAn q (Nat.le_trans hS.1 h))
  refine va_calll (va_runS (As := As) (rest := rest) ⟨hx, hb, hml, hown, hts⟩ (hM hI D cs H.size) (va_cwS n hts hg hw hrm.1 hrm.2 hy hR) ⟨xPre_blind, fun U hU hW => ⟨rfl, by rw [hU], by rw [hU]; exact hP, va_K.moved hW.alike hK⟩⟩ rfl hn hl.1 rfl (lv_room hcat) hd ⟨hc1, hc2⟩) hS (fun q _ h => hF q h) hF (fun r u t H1 locs1 ht hvm hw hB hz1 hk1 hS => ?_)
  obtain ⟨hP1, hK1⟩ := hB
  rw [ht] at hP1
  exact kk r u hw H1 locs1 ls hP1 hS hl
theorem x_cVV {y : MethodName} {bytes : ByteArray} {maxL n index : Nat} {ret : Option FieldType} {wsY ws' : List Cond} {rmY : Room} {C : String} {hid ci N : Nat} {T : u_T} {fs As st : List Value} {post : xMem → Prop} (hG : xOk G cc own ws rm) (hd : decode cc pc = .ok (.invokevirtual index, 3)) (hM : xInj (xa G) → ∀ D cs sz, xMetV (xL G) y wsY rmY D (xa G) cs sz M (.ref (xa G hid) :: As) post) (hg : GoodIn ws (wsV own index C y wsY)) (hw : wsY = Cond.code y bytes maxL ret :: ws') (hrm : rmY.cells = 0 ∧ rmY.slots = 0) (hy : y.cls = C ∧ y.cls ≠ "java/lang/invoke/MethodHandle" ∧ y.cls ≠ "java/lang/invoke/VarHandle" ∧ (parseMethodDescriptor y.desc).map (fun d => d.parameters.length) = some n) (hn : As.length = n) (hR : rmY.frames + 1 ≤ rm.frames ∧ 8 + (maxL + 11) + rmY.locals ≤ rm.locals) (hi : hid < 90) (he : ∀ cs, xcell (xa G) cs M hid = .inr (ci, fs)) (hc : vwCl[ci]? = some (C, T, N)) (hcat : (rest.map fun v => v.category).sum ≤ 8) (hst : st = As.reverse ++ .ref (xa G hid) :: rest) (kk : ∀ (M' : xMem), post M' → xW G M' lv rest (pc + 3)) : xW G M lv st pc := by
  obtain ⟨p, l, e, R, s, m, args, below, meth, c, nL, A, H0, Q, D, a, cs, kc, ks⟩ := G
  obtain ⟨hx, hb, hml, hown, hts, hK, hI, hAi, hAn, hR0, hc1, hc2⟩ := hG
  subst hR0
  subst hst
  intro H locs ls hP hS hl
  have hF : ∀ q, xA a H.size q → A q := fun q h => h.elim (fun ⟨i, h1, h2⟩ => h2 ▸ hAi i h1) (fun h => hAn q (Nat.le_trans hS.1 h))
  show W p l e R s m args below meth c H locs kc ks Q (F0 m pc ls (As.reverse ++ .ref (a hid) :: rest))
  refine va_callv (va_runV (As := As) (rest := rest) ⟨hx, hb, hml, hown, hts⟩ (hM hI D cs H.size) (cwV n hts hg hw hrm.1 hrm.2 hy hR) ⟨xPre_blind, va_recv (fs := fs) hK hP hc ((xWd_at hi).trans (by rw [show xcell a cs M hid = _ from he cs]; rfl)), fun U hU hW => ⟨rfl, by rw [hU], by rw [hU]; exact hP, va_K.moved hW.alike hK⟩⟩ rfl hn hl.1 rfl (lv_room hcat) hd ⟨hc1, hc2⟩) hS (fun q _ h => hF q h) hF (fun u t H1 locs1 ht hvm hw hB hz1 hk1 hS => ?_)
  obtain ⟨hP1, hK1⟩ := hB
  rw [ht] at hP1
  exact kk u hw H1 locs1 ls hP1 hS hl
theorem x_cSV {y : MethodName} {bytes : ByteArray} {maxL n index : Nat} {ret : Option FieldType} {wsY ws' : List Cond} {rmY : Room} {As st : List Value} {post : xMem → Prop} (hG : xOk G cc own ws rm) (hd : decode cc pc = .ok (.invokestatic index, 3)) (hM : xInj (xa G) → ∀ D cs sz, xMetV (xL G) y wsY rmY D (xa G) cs sz M As post) (hg : GoodIn ws (va_wsS own index y wsY)) (hw : wsY = Cond.code y bytes maxL ret :: ws') (hrm : rmY.cells = 0 ∧ rmY.slots = 0) (hy : y.cls ≠ "java/lang/invoke/MethodHandle" ∧ y.cls ≠ "java/lang/invoke/VarHandle" ∧ (parseMethodDescriptor y.desc).map (fun d => d.parameters.length) = some n) (hn : As.length = n) (hR : rmY.frames + 1 ≤ rm.frames ∧ 8 + (maxL + 11) + rmY.locals ≤ rm.locals) (hcat : (rest.map fun v => v.category).sum ≤ 8) (hst : st = As.reverse ++ rest) (kk : ∀ (M' : xMem), post M' → xW G M' lv rest (pc + 3)) : xW G M lv st pc := by
  obtain ⟨p, l, e, R, s, m, args, below, meth, c, nL, A, H0, Q, D, a, cs, kc, ks⟩ := G
  obtain ⟨hx, hb, hml, hown, hts, hK, hI, hAi, hAn, hR0, hc1, hc2⟩ := hG
  subst hR0
  subst hst
  intro H locs ls hP hS hl
  have hF : ∀ q, xA a H.size q → A q := fun q h => h.elim (fun ⟨i, h1, h2⟩ => h2 ▸ hAi i h1) (fun h => hAn q (Nat.le_trans hS.1 h))
  refine va_callv (va_runS (As := As) (rest := rest) ⟨hx, hb, hml, hown, hts⟩ (hM hI D cs H.size) (va_cwS n hts hg hw hrm.1 hrm.2 hy hR) ⟨xPre_blind, fun U hU hW => ⟨rfl, by rw [hU], by rw [hU]; exact hP, va_K.moved hW.alike hK⟩⟩ rfl hn hl.1 rfl (lv_room hcat) hd ⟨hc1, hc2⟩) hS (fun q _ h => hF q h) hF (fun u t H1 locs1 ht hvm hw hB hz1 hk1 hS => ?_)
  obtain ⟨hP1, hK1⟩ := hB
  rw [ht] at hP1
  exact kk u hw H1 locs1 ls hP1 hS hl
theorem x_cVR {y : MethodName} {bytes : ByteArray} {maxL n index : Nat} {ret : Option FieldType} {wsY ws' : List Cond} {rmY : Room} {C : String} {hid ci N : Nat} {T : u_T} {fs As st : List Value} {post : Nat → xMem → Prop} (hG : xOk G cc own ws rm) (hd : decode cc pc = .ok (.invokevirtual index, 3)) (hM : xInj (xa G) → ∀ D cs sz, xMetR (xL G) y wsY rmY D (xa G) cs sz M (.ref (xa G hid) :: As) post) (hg : GoodIn ws (wsV own index C y wsY)) (hw : wsY = Cond.code y bytes maxL ret :: ws') (hrm : rmY.cells = 0 ∧ rmY.slots = 0) (hy : y.cls = C ∧ y.cls ≠ "java/lang/invoke/MethodHandle" ∧ y.cls ≠ "java/lang/invoke/VarHandle" ∧ (parseMethodDescriptor y.desc).map (fun d => d.parameters.length) = some n) (hn : As.length = n) (hR : rmY.frames + 1 ≤ rm.frames ∧ 8 + (maxL + 11) + rmY.locals ≤ rm.locals) (hi : hid < 90) (he : ∀ cs, xcell (xa G) cs M hid = .inr (ci, fs)) (hc : vwCl[ci]? = some (C, T, N)) (hcat : (rest.map fun v => v.category).sum ≤ 8) (hst : st = As.reverse ++ .ref (xa G hid) :: rest) (kk : ∀ (r : Nat) (M' : xMem), post r M' → xW G M' lv (.ref (xa G r) :: rest) (pc + 3)) : xW G M lv st pc := by
  obtain ⟨p, l, e, R, s, m, args, below, meth, c, nL, A, H0, Q, D, a, cs, kc, ks⟩ := G
  obtain ⟨hx, hb, hml, hown, hts, hK, hI, hAi, hAn, hR0, hc1, hc2⟩ := hG
  subst hR0
  subst hst
  intro H locs ls hP hS hl
  have hF : ∀ q, xA a H.size q → A q := fun q h => h.elim (fun ⟨i, h1, h2⟩ => h2 ▸ hAi i h1) (fun h => hAn q (Nat.le_trans hS.1 h))
  show W p l e R s m args below meth c H locs kc ks Q (F0 m pc ls (As.reverse ++ .ref (a hid) :: rest))
  refine va_callr (va_runV (As := As) (rest := rest) ⟨hx, hb, hml, hown, hts⟩ (hM hI D cs H.size) (cwV n hts hg hw hrm.1 hrm.2 hy hR) ⟨xPre_blind, va_recv (fs := fs) hK hP hc ((xWd_at hi).trans (by rw [show xcell a cs M hid = _ from he cs]; rfl)), fun U hU hW => ⟨rfl, by rw [hU], by rw [hU]; exact hP, va_K.moved hW.alike hK⟩⟩ rfl hn hl.1 rfl (lv_room hcat) hd ⟨hc1, hc2⟩) hS (fun q _ h => hF q h) hF (fun u ra t H1 locs1 ht hvm hw hB hz1 hk1 hS => ?_)
  obtain ⟨rfl, hP1, hK1⟩ := hB
  rw [ht] at hP1
  exact kk u.1 u.2 hw H1 locs1 ls hP1 hS hl
theorem x_cVI0 {y : MethodName} {bytes : ByteArray} {maxL index : Nat} {ret : Option FieldType} {wsY ws' : List Cond} {rmY : Room} {C : String} {hid ci N : Nat} {T : u_T} {fs : List Value} {post : Int32 → xMem → Prop} (hG : xOk G cc own ws rm) (hd : decode cc pc = .ok (.invokevirtual index, 3)) (hM : xInj (xa G) → ∀ D cs sz, xMetI (xL G) y wsY rmY D (xa G) cs sz M (.ref (xa G hid) :: []) post) (hg : GoodIn ws (wsV own index C y wsY)) (hw : wsY = Cond.code y bytes maxL ret :: ws') (hrm : rmY.cells = 0 ∧ rmY.slots = 0) (hy : y.cls = C ∧ y.cls ≠ "java/lang/invoke/MethodHandle" ∧ y.cls ≠ "java/lang/invoke/VarHandle" ∧ (parseMethodDescriptor y.desc).map (fun d => d.parameters.length) = some 0) (hR : rmY.frames + 1 ≤ rm.frames ∧ 8 + (maxL + 11) + rmY.locals ≤ rm.locals) (hi : hid < 90) (he : ∀ cs, xcell (xa G) cs M hid = .inr (ci, fs)) (hc : vwCl[ci]? = some (C, T, N)) (hcat : (rest.map fun v => v.category).sum ≤ 8) (kk : ∀ (r : Int32) (M' : xMem), post r M' → xW G M' lv (.int r :: rest) (pc + 3)) : xW G M lv (.ref (xa G hid) :: rest) pc := x_cVI hG hd hM hg hw hrm hy rfl hR hi he hc hcat rfl kk
theorem x_cVI1 {y : MethodName} {bytes : ByteArray} {maxL index : Nat} {ret : Option FieldType} {wsY ws' : List Cond} {rmY : Room} {C : String} {hid ci N : Nat} {T : u_T} {fs : List Value} {v1 : Value} {post : Int32 → xMem → Prop} (hG : xOk G cc own ws rm) (hd : decode cc pc = .ok (.invokevirtual index, 3)) (hM : xInj (xa G) → ∀ D cs sz, xMetI (xL G) y wsY rmY D (xa G) cs sz M (.ref (xa G hid) :: [v1]) post) (hg : GoodIn ws (wsV own index C y wsY)) (hw : wsY = Cond.code y bytes maxL ret :: ws') (hrm : rmY.cells = 0 ∧ rmY.slots = 0) (hy : y.cls = C ∧ y.cls ≠ "java/lang/invoke/MethodHandle" ∧ y.cls ≠ "java/lang/invoke/VarHandle" ∧ (parseMethodDescriptor y.desc).map (fun d => d.parameters.length) = some 1) (hR : rmY.frames + 1 ≤ rm.frames ∧ 8 + (maxL + 11) + rmY.locals ≤ rm.locals) (hi : hid < 90) (he : ∀ cs, xcell (xa G) cs M hid = .inr (ci, fs)) (hc : vwCl[ci]? = some (C, T, N)) (hcat : (rest.map fun v => v.category).sum ≤ 8) (kk : ∀ (r : Int32) (M' : xMem), post r M' → xW G M' lv (.int r :: rest) (pc + 3)) : xW G M lv (v1 :: .ref (xa G hid) :: rest) pc := x_cVI hG hd hM hg hw hrm hy rfl hR hi he hc hcat rfl kk
theorem x_cSI1 {y : MethodName} {bytes : ByteArray} {maxL index : Nat} {ret : Option FieldType} {wsY ws' : List Cond} {rmY : Room} {v1 : Value} {post : Int32 → xMem → Prop} (hG : xOk G cc own ws rm) (hd : decode cc pc = .ok (.invokestatic index, 3)) (hM : xInj (xa G) → ∀ D cs sz, xMetI (xL G) y wsY rmY D (xa G) cs sz M [v1] post) (hg : GoodIn ws (va_wsS own index y wsY)) (hw : wsY = Cond.code y bytes maxL ret :: ws') (hrm : rmY.cells = 0 ∧ rmY.slots = 0) (hy : y.cls ≠ "java/lang/invoke/MethodHandle" ∧ y.cls ≠ "java/lang/invoke/VarHandle" ∧ (parseMethodDescriptor y.desc).map (fun d => d.parameters.length) = some 1) (hR : rmY.frames + 1 ≤ rm.frames ∧ 8 + (maxL + 11) + rmY.locals ≤ rm.locals) (hcat : (rest.map fun v => v.category).sum ≤ 8) (kk : ∀ (r : Int32) (M' : xMem), post r M' → xW G M' lv (.int r :: rest) (pc + 3)) : xW G M lv (v1 :: rest) pc := x_cSI hG hd hM hg hw hrm hy rfl hR hcat rfl kk
theorem x_cVI2 {y : MethodName} {bytes : ByteArray} {maxL index : Nat} {ret : Option FieldType} {wsY ws' : List Cond} {rmY : Room} {C : String} {hid ci N : Nat} {T : u_T} {fs : List Value} {v1 v2 : Value} {post : Int32 → xMem → Prop} (hG : xOk G cc own ws rm) (hd : decode cc pc = .ok (.invokevirtual index, 3)) (hM : xInj (xa G) → ∀ D cs sz, xMetI (xL G) y wsY rmY D (xa G) cs sz M (.ref (xa G hid) :: [v1, v2]) post) (hg : GoodIn ws (wsV own index C y wsY)) (hw : wsY = Cond.code y bytes maxL ret :: ws') (hrm : rmY.cells = 0 ∧ rmY.slots = 0) (hy : y.cls = C ∧ y.cls ≠ "java/lang/invoke/MethodHandle" ∧ y.cls ≠ "java/lang/invoke/VarHandle" ∧ (parseMethodDescriptor y.desc).map (fun d => d.parameters.length) = some 2) (hR : rmY.frames + 1 ≤ rm.frames ∧ 8 + (maxL + 11) + rmY.locals ≤ rm.locals) (hi : hid < 90) (he : ∀ cs, xcell (xa G) cs M hid = .inr (ci, fs)) (hc : vwCl[ci]? = some (C, T, N)) (hcat : (rest.map fun v => v.category).sum ≤ 8) (kk : ∀ (r : Int32) (M' : xMem), post r M' → xW G M' lv (.int r :: rest) (pc + 3)) : xW G M lv (v2 :: v1 :: .ref (xa G hid) :: rest) pc := x_cVI hG hd hM hg hw hrm hy rfl hR hi he hc hcat rfl kk
theorem x_cSI2 {y : MethodName} {bytes : ByteArray} {maxL index : Nat} {ret : Option FieldType} {wsY ws' : List Cond} {rmY : Room} {v1 v2 : Value} {post : Int32 → xMem → Prop} (hG : xOk G cc own ws rm) (hd : decode cc pc = .ok (.invokestatic index, 3)) (hM : xInj (xa G) → ∀ D cs sz, xMetI (xL G) y wsY rmY D (xa G) cs sz M [v1, v2] post) (hg : GoodIn ws (va_wsS own index y wsY)) (hw : wsY = Cond.code y bytes maxL ret :: ws') (hrm : rmY.cells = 0 ∧ rmY.slots = 0) (hy : y.cls ≠ "java/lang/invoke/MethodHandle" ∧ y.cls ≠ "java/lang/invoke/VarHandle" ∧ (parseMethodDescriptor y.desc).map (fun d => d.parameters.length) = some 2) (hR : rmY.frames + 1 ≤ rm.frames ∧ 8 + (maxL + 11) + rmY.locals ≤ rm.locals) (hcat : (rest.map fun v => v.category).sum ≤ 8) (kk : ∀ (r : Int32) (M' : xMem), post r M' → xW G M' lv (.int r :: rest) (pc + 3)) : xW G M lv (v2 :: v1 :: rest) pc := x_cSI hG hd hM hg hw hrm hy rfl hR hcat rfl kk
theorem x_cVI3 {y : MethodName} {bytes : ByteArray} {maxL index : Nat} {ret : Option FieldType} {wsY ws' : List Cond} {rmY : Room} {C : String} {hid ci N : Nat} {T : u_T} {fs : List Value} {v1 v2 v3 : Value} {post : Int32 → xMem → Prop} (hG : xOk G cc own ws rm) (hd : decode cc pc = .ok (.invokevirtual index, 3)) (hM : xInj (xa G) → ∀ D cs sz, xMetI (xL G) y wsY rmY D (xa G) cs sz M (.ref (xa G hid) :: [v1, v2, v3]) post) (hg : GoodIn ws (wsV own index C y wsY)) (hw : wsY = Cond.code y bytes maxL ret :: ws') (hrm : rmY.cells = 0 ∧ rmY.slots = 0) (hy : y.cls = C ∧ y.cls ≠ "java/lang/invoke/MethodHandle" ∧ y.cls ≠ "java/lang/invoke/VarHandle" ∧ (parseMethodDescriptor y.desc).map (fun d => d.parameters.length) = some 3) (hR : rmY.frames + 1 ≤ rm.frames ∧ 8 + (maxL + 11) + rmY.locals ≤ rm.locals) (hi : hid < 90) (he : ∀ cs, xcell (xa G) cs M hid = .inr (ci, fs)) (hc : vwCl[ci]? = some (C, T, N)) (hcat : (rest.map fun v => v.category).sum ≤ 8) (kk : ∀ (r : Int32) (M' : xMem), post r M' → xW G M' lv (.int r :: rest) (pc + 3)) : xW G M lv (v3 :: v2 :: v1 :: .ref (xa G hid) :: rest) pc := x_cVI hG hd hM hg hw hrm hy rfl hR hi he hc hcat rfl kk
theorem x_cSI3 {y : MethodName} {bytes : ByteArray} {maxL index : Nat} {ret : Option FieldType} {wsY ws' : List Cond} {rmY : Room} {v1 v2 v3 : Value} {post : Int32 → xMem → Prop} (hG : xOk G cc own ws rm) (hd : decode cc pc = .ok (.invokestatic index, 3)) (hM : xInj (xa G) → ∀ D cs sz, xMetI (xL G) y wsY rmY D (xa G) cs sz M [v1, v2, v3] post) (hg : GoodIn ws (va_wsS own index y wsY)) (hw : wsY = Cond.code y bytes maxL ret :: ws') (hrm : rmY.cells = 0 ∧ rmY.slots = 0) (hy : y.cls ≠ "java/lang/invoke/MethodHandle" ∧ y.cls ≠ "java/lang/invoke/VarHandle" ∧ (parseMethodDescriptor y.desc).map (fun d => d.parameters.length) = some 3) (hR : rmY.frames + 1 ≤ rm.frames ∧ 8 + (maxL + 11) + rmY.locals ≤ rm.locals) (hcat : (rest.map fun v => v.category).sum ≤ 8) (kk : ∀ (r : Int32) (M' : xMem), post r M' → xW G M' lv (.int r :: rest) (pc + 3)) : xW G M lv (v3 :: v2 :: v1 :: rest) pc := x_cSI hG hd hM hg hw hrm hy rfl hR hcat rfl kk
theorem x_cVI4 {y : MethodName} {bytes : ByteArray} {maxL index : Nat} {ret : Option FieldType} {wsY ws' : List Cond} {rmY : Room} {C : String} {hid ci N : Nat} {T : u_T} {fs : List Value} {v1 v2 v3 v4 : Value} {post : Int32 → xMem → Prop} (hG : xOk G cc own ws rm) (hd : decode cc pc = .ok (.invokevirtual index, 3)) (hM : xInj (xa G) → ∀ D cs sz, xMetI (xL G) y wsY rmY D (xa G) cs sz M (.ref (xa G hid) :: [v1, v2, v3, v4]) post) (hg : GoodIn ws (wsV own index C y wsY)) (hw : wsY = Cond.code y bytes maxL ret :: ws') (hrm : rmY.cells = 0 ∧ rmY.slots = 0) (hy : y.cls = C ∧ y.cls ≠ "java/lang/invoke/MethodHandle" ∧ y.cls ≠ "java/lang/invoke/VarHandle" ∧ (parseMethodDescriptor y.desc).map (fun d => d.parameters.length) = some 4) (hR : rmY.frames + 1 ≤ rm.frames ∧ 8 + (maxL + 11) + rmY.locals ≤ rm.locals) (hi : hid < 90) (he : ∀ cs, xcell (xa G) cs M hid = .inr (ci, fs)) (hc : vwCl[ci]? = some (C, T, N)) (hcat : (rest.map fun v => v.category).sum ≤ 8) (kk : ∀ (r : Int32) (M' : xMem), post r M' → xW G M' lv (.int r :: rest) (pc + 3)) : xW G M lv (v4 :: v3 :: v2 :: v1 :: .ref (xa G hid) :: rest) pc := x_cVI hG hd hM hg hw hrm hy rfl hR hi he hc hcat rfl kk
theorem x_cSI4 {y : MethodName} {bytes : ByteArray} {maxL index : Nat} {ret : Option FieldType} {wsY ws' : List Cond} {rmY : Room} {v1 v2 v3 v4 : Value} {post : Int32 → xMem → Prop} (hG : xOk G cc own ws rm) (hd : decode cc pc = .ok (.invokestatic index, 3)) (hM : xInj (xa G) → ∀ D cs sz, xMetI (xL G) y wsY rmY D (xa G) cs sz M [v1, v2, v3, v4] post) (hg : GoodIn ws (va_wsS own index y wsY)) (hw : wsY = Cond.code y bytes maxL ret :: ws') (hrm : rmY.cells = 0 ∧ rmY.slots = 0) (hy : y.cls ≠ "java/lang/invoke/MethodHandle" ∧ y.cls ≠ "java/lang/invoke/VarHandle" ∧ (parseMethodDescriptor y.desc).map (fun d => d.parameters.length) = some 4) (hR : rmY.frames + 1 ≤ rm.frames ∧ 8 + (maxL + 11) + rmY.locals ≤ rm.locals) (hcat : (rest.map fun v => v.category).sum ≤ 8) (kk : ∀ (r : Int32) (M' : xMem), post r M' → xW G M' lv (.int r :: rest) (pc + 3)) : xW G M lv (v4 :: v3 :: v2 :: v1 :: rest) pc := x_cSI hG hd hM hg hw hrm hy rfl hR hcat rfl kk
theorem x_cVI5 {y : MethodName} {bytes : ByteArray} {maxL index : Nat} {ret : Option FieldType} {wsY ws' : List Cond} {rmY : Room} {C : String} {hid ci N : Nat} {T : u_T} {fs : List Value} {v1 v2 v3 v4 v5 : Value} {post : Int32 → xMem → Prop} (hG : xOk G cc own ws rm) (hd : decode cc pc = .ok (.invokevirtual index, 3)) (hM : xInj (xa G) → ∀ D cs sz, xMetI (xL G) y wsY rmY D (xa G) cs sz M (.ref (xa G hid) :: [v1, v2, v3, v4, v5]) post) (hg : GoodIn ws (wsV own index C y wsY)) (hw : wsY = Cond.code y bytes maxL ret :: ws') (hrm : rmY.cells = 0 ∧ rmY.slots = 0) (hy : y.cls = C ∧ y.cls ≠ "java/lang/invoke/MethodHandle" ∧ y.cls ≠ "java/lang/invoke/VarHandle" ∧ (parseMethodDescriptor y.desc).map (fun d => d.parameters.length) = some 5) (hR : rmY.frames + 1 ≤ rm.frames ∧ 8 + (maxL + 11) + rmY.locals ≤ rm.locals) (hi : hid < 90) (he : ∀ cs, xcell (xa G) cs M hid = .inr (ci, fs)) (hc : vwCl[ci]? = some (C, T, N)) (hcat : (rest.map fun v => v.category).sum ≤ 8) (kk : ∀ (r : Int32) (M' : xMem), post r M' → xW G M' lv (.int r :: rest) (pc + 3)) : xW G M lv (v5 :: v4 :: v3 :: v2 :: v1 :: .ref (xa G hid) :: rest) pc := x_cVI hG hd hM hg hw hrm hy rfl hR hi he hc hcat rfl kk
theorem x_cSI5 {y : MethodName} {bytes : ByteArray} {maxL index : Nat} {ret : Option FieldType} {wsY ws' : List Cond} {rmY : Room} {v1 v2 v3 v4 v5 : Value} {post : Int32 → xMem → Prop} (hG : xOk G cc own ws rm) (hd : decode cc pc = .ok (.invokestatic index, 3)) (hM : xInj (xa G) → ∀ D cs sz, xMetI (xL G) y wsY rmY D (xa G) cs sz M [v1, v2, v3, v4, v5] post) (hg : GoodIn ws (va_wsS own index y wsY)) (hw : wsY = Cond.code y bytes maxL ret :: ws') (hrm : rmY.cells = 0 ∧ rmY.slots = 0) (hy : y.cls ≠ "java/lang/invoke/MethodHandle" ∧ y.cls ≠ "java/lang/invoke/VarHandle" ∧ (parseMethodDescriptor y.desc).map (fun d => d.parameters.length) = some 5) (hR : rmY.frames + 1 ≤ rm.frames ∧ 8 + (maxL + 11) + rmY.locals ≤ rm.locals) (hcat : (rest.map fun v => v.category).sum ≤ 8) (kk : ∀ (r : Int32) (M' : xMem), post r M' → xW G M' lv (.int r :: rest) (pc + 3)) : xW G M lv (v5 :: v4 :: v3 :: v2 :: v1 :: rest) pc := x_cSI hG hd hM hg hw hrm hy rfl hR hcat rfl kk
theorem x_cSI6 {y : MethodName} {bytes : ByteArray} {maxL index : Nat} {ret : Option FieldType} {wsY ws' : List Cond} {rmY : Room} {v1 v2 v3 v4 v5 v6 : Value} {post : Int32 → xMem → Prop} (hG : xOk G cc own ws rm) (hd : decode cc pc = .ok (.invokestatic index, 3)) (hM : xInj (xa G) → ∀ D cs sz, xMetI (xL G) y wsY rmY D (xa G) cs sz M [v1, v2, v3, v4, v5, v6] post) (hg : GoodIn ws (va_wsS own index y wsY)) (hw : wsY = Cond.code y bytes maxL ret :: ws') (hrm : rmY.cells = 0 ∧ rmY.slots = 0) (hy : y.cls ≠ "java/lang/invoke/MethodHandle" ∧ y.cls ≠ "java/lang/invoke/VarHandle" ∧ (parseMethodDescriptor y.desc).map (fun d => d.parameters.length) = some 6) (hR : rmY.frames + 1 ≤ rm.frames ∧ 8 + (maxL + 11) + rmY.locals ≤ rm.locals) (hcat : (rest.map fun v => v.category).sum ≤ 8) (kk : ∀ (r : Int32) (M' : xMem), post r M' → xW G M' lv (.int r :: rest) (pc + 3)) : xW G M lv (v6 :: v5 :: v4 :: v3 :: v2 :: v1 :: rest) pc := x_cSI hG hd hM hg hw hrm hy rfl hR hcat rfl kk
theorem x_cSI7 {y : MethodName} {bytes : ByteArray} {maxL index : Nat} {ret : Option FieldType} {wsY ws' : List Cond} {rmY : Room} {v1 v2 v3 v4 v5 v6 v7 : Value} {post : Int32 → xMem → Prop} (hG : xOk G cc own ws rm) (hd : decode cc pc = .ok (.invokestatic index, 3)) (hM : xInj (xa G) → ∀ D cs sz, xMetI (xL G) y wsY rmY D (xa G) cs sz M [v1, v2, v3, v4, v5, v6, v7] post) (hg : GoodIn ws (va_wsS own index y wsY)) (hw : wsY = Cond.code y bytes maxL ret :: ws') (hrm : rmY.cells = 0 ∧ rmY.slots = 0) (hy : y.cls ≠ "java/lang/invoke/MethodHandle" ∧ y.cls ≠ "java/lang/invoke/VarHandle" ∧ (parseMethodDescriptor y.desc).map (fun d => d.parameters.length) = some 7) (hR : rmY.frames + 1 ≤ rm.frames ∧ 8 + (maxL + 11) + rmY.locals ≤ rm.locals) (hcat : (rest.map fun v => v.category).sum ≤ 8) (kk : ∀ (r : Int32) (M' : xMem), post r M' → xW G M' lv (.int r :: rest) (pc + 3)) : xW G M lv (v7 :: v6 :: v5 :: v4 :: v3 :: v2 :: v1 :: rest) pc := x_cSI hG hd hM hg hw hrm hy rfl hR hcat rfl kk
theorem x_cVL0 {y : MethodName} {bytes : ByteArray} {maxL index : Nat} {ret : Option FieldType} {wsY ws' : List Cond} {rmY : Room} {C : String} {hid ci N : Nat} {T : u_T} {fs : List Value} {post : Int64 → xMem → Prop} (hG : xOk G cc own ws rm) (hd : decode cc pc = .ok (.invokevirtual index, 3)) (hM : xInj (xa G) → ∀ D cs sz, xMetL (xL G) y wsY rmY D (xa G) cs sz M (.ref (xa G hid) :: []) post) (hg : GoodIn ws (wsV own index C y wsY)) (hw : wsY = Cond.code y bytes maxL ret :: ws') (hrm : rmY.cells = 0 ∧ rmY.slots = 0) (hy : y.cls = C ∧ y.cls ≠ "java/lang/invoke/MethodHandle" ∧ y.cls ≠ "java/lang/invoke/VarHandle" ∧ (parseMethodDescriptor y.desc).map (fun d => d.parameters.length) = some 0) (hR : rmY.frames + 1 ≤ rm.frames ∧ 8 + (maxL + 11) + rmY.locals ≤ rm.locals) (hi : hid < 90) (he : ∀ cs, xcell (xa G) cs M hid = .inr (ci, fs)) (hc : vwCl[ci]? = some (C, T, N)) (hcat : (rest.map fun v => v.category).sum ≤ 8) (kk : ∀ (r : Int64) (M' : xMem), post r M' → xW G M' lv (.long r :: rest) (pc + 3)) : xW G M lv (.ref (xa G hid) :: rest) pc := x_cVL hG hd hM hg hw hrm hy rfl hR hi he hc hcat rfl kk
theorem x_cVL1 {y : MethodName} {bytes : ByteArray} {maxL index : Nat} {ret : Option FieldType} {wsY ws' : List Cond} {rmY : Room} {C : String} {hid ci N : Nat} {T : u_T} {fs : List Value} {v1 : Value} {post : Int64 → xMem → Prop} (hG : xOk G cc own ws rm) (hd : decode cc pc = .ok (.invokevirtual index, 3)) (hM : xInj (xa G) → ∀ D cs sz, xMetL (xL G) y wsY rmY D (xa G) cs sz M (.ref (xa G hid) :: [v1]) post) (hg : GoodIn ws (wsV own index C y wsY)) (hw : wsY = Cond.code y bytes maxL ret :: ws') (hrm : rmY.cells = 0 ∧ rmY.slots = 0) (hy : y.cls = C ∧ y.cls ≠ "java/lang/invoke/MethodHandle" ∧ y.cls ≠ "java/lang/invoke/VarHandle" ∧ (parseMethodDescriptor y.desc).map (fun d => d.parameters.length) = some 1) (hR : rmY.frames + 1 ≤ rm.frames ∧ 8 + (maxL + 11) + rmY.locals ≤ rm.locals) (hi : hid < 90) (he : ∀ cs, xcell (xa G) cs M hid = .inr (ci, fs)) (hc : vwCl[ci]? = some (C, T, N)) (hcat : (rest.map fun v => v.category).sum ≤ 8) (kk : ∀ (r : Int64) (M' : xMem), post r M' → xW G M' lv (.long r :: rest) (pc + 3)) : xW G M lv (v1 :: .ref (xa G hid) :: rest) pc := x_cVL hG hd hM hg hw hrm hy rfl hR hi he hc hcat rfl kk
theorem x_cSL1 {y : MethodName} {bytes : ByteArray} {maxL index : Nat} {ret : Option FieldType} {wsY ws' : List Cond} {rmY : Room} {v1 : Value} {post : Int64 → xMem → Prop} (hG : xOk G cc own ws rm) (hd : decode cc pc = .ok (.invokestatic index, 3)) (hM : xInj (xa G) → ∀ D cs sz, xMetL (xL G) y wsY rmY D (xa G) cs sz M [v1] post) (hg : GoodIn ws (va_wsS own index y wsY)) (hw : wsY = Cond.code y bytes maxL ret :: ws') (hrm : rmY.cells = 0 ∧ rmY.slots = 0) (hy : y.cls ≠ "java/lang/invoke/MethodHandle" ∧ y.cls ≠ "java/lang/invoke/VarHandle" ∧ (parseMethodDescriptor y.desc).map (fun d => d.parameters.length) = some 1) (hR : rmY.frames + 1 ≤ rm.frames ∧ 8 + (maxL + 11) + rmY.locals ≤ rm.locals) (hcat : (rest.map fun v => v.category).sum ≤ 8) (kk : ∀ (r : Int64) (M' : xMem), post r M' → xW G M' lv (.long r :: rest) (pc + 3)) : xW G M lv (v1 :: rest) pc := x_cSL hG hd hM hg hw hrm hy rfl hR hcat rfl kk
theorem x_cVL2 {y : MethodName} {bytes : ByteArray} {maxL index : Nat} {ret : Option FieldType} {wsY ws' : List Cond} {rmY : Room} {C : String} {hid ci N : Nat} {T : u_T} {fs : List Value} {v1 v2 : Value} {post : Int64 → xMem → Prop} (hG : xOk G cc own ws rm) (hd : decode cc pc = .ok (.invokevirtual index, 3)) (hM : xInj (xa G) → ∀ D cs sz, xMetL (xL G) y wsY rmY D (xa G) cs sz M (.ref (xa G hid) :: [v1, v2]) post) (hg : GoodIn ws (wsV own index C y wsY)) (hw : wsY = Cond.code y bytes maxL ret :: ws') (hrm : rmY.cells = 0 ∧ rmY.slots = 0) (hy : y.cls = C ∧ y.cls ≠ "java/lang/invoke/MethodHandle" ∧ y.cls ≠ "java/lang/invoke/VarHandle" ∧ (parseMethodDescriptor y.desc).map (fun d => d.parameters.length) = some 2) (hR : rmY.frames + 1 ≤ rm.frames ∧ 8 + (maxL + 11) + rmY.locals ≤ rm.locals) (hi : hid < 90) (he : ∀ cs, xcell (xa G) cs M hid = .inr (ci, fs)) (hc : vwCl[ci]? = some (C, T, N)) (hcat : (rest.map fun v => v.category).sum ≤ 8) (kk : ∀ (r : Int64) (M' : xMem), post r M' → xW G M' lv (.long r :: rest) (pc + 3)) : xW G M lv (v2 :: v1 :: .ref (xa G hid) :: rest) pc := x_cVL hG hd hM hg hw hrm hy rfl hR hi he hc hcat rfl kk
theorem x_cSL2 {y : MethodName} {bytes : ByteArray} {maxL index : Nat} {ret : Option FieldType} {wsY ws' : List Cond} {rmY : Room} {v1 v2 : Value} {post : Int64 → xMem → Prop} (hG : xOk G cc own ws rm) (hd : decode cc pc = .ok (.invokestatic index, 3)) (hM : xInj (xa G) → ∀ D cs sz, xMetL (xL G) y wsY rmY D (xa G) cs sz M [v1, v2] post) (hg : GoodIn ws (va_wsS own index y wsY)) (hw : wsY = Cond.code y bytes maxL ret :: ws') (hrm : rmY.cells = 0 ∧ rmY.slots = 0) (hy : y.cls ≠ "java/lang/invoke/MethodHandle" ∧ y.cls ≠ "java/lang/invoke/VarHandle" ∧ (parseMethodDescriptor y.desc).map (fun d => d.parameters.length) = some 2) (hR : rmY.frames + 1 ≤ rm.frames ∧ 8 + (maxL + 11) + rmY.locals ≤ rm.locals) (hcat : (rest.map fun v => v.category).sum ≤ 8) (kk : ∀ (r : Int64) (M' : xMem), post r M' → xW G M' lv (.long r :: rest) (pc + 3)) : xW G M lv (v2 :: v1 :: rest) pc := x_cSL hG hd hM hg hw hrm hy rfl hR hcat rfl kk
theorem x_cVL3 {y : MethodName} {bytes : ByteArray} {maxL index : Nat} {ret : Option FieldType} {wsY ws' : List Cond} {rmY : Room} {C : String} {hid ci N : Nat} {T : u_T} {fs : List Value} {v1 v2 v3 : Value} {post : Int64 → xMem → Prop} (hG : xOk G cc own ws rm) (hd : decode cc pc = .ok (.invokevirtual index, 3)) (hM : xInj (xa G) → ∀ D cs sz, xMetL (xL G) y wsY rmY D (xa G) cs sz M (.ref (xa G hid) :: [v1, v2, v3]) post) (hg : GoodIn ws (wsV own index C y wsY)) (hw : wsY = Cond.code y bytes maxL ret :: ws') (hrm : rmY.cells = 0 ∧ rmY.slots = 0) (hy : y.cls = C ∧ y.cls ≠ "java/lang/invoke/MethodHandle" ∧ y.cls ≠ "java/lang/invoke/VarHandle" ∧ (parseMethodDescriptor y.desc).map (fun d => d.parameters.length) = some 3) (hR : rmY.frames + 1 ≤ rm.frames ∧ 8 + (maxL + 11) + rmY.locals ≤ rm.locals) (hi : hid < 90) (he : ∀ cs, xcell (xa G) cs M hid = .inr (ci, fs)) (hc : vwCl[ci]? = some (C, T, N)) (hcat : (rest.map fun v => v.category).sum ≤ 8) (kk : ∀ (r : Int64) (M' : xMem), post r M' → xW G M' lv (.long r :: rest) (pc + 3)) : xW G M lv (v3 :: v2 :: v1 :: .ref (xa G hid) :: rest) pc := x_cVL hG hd hM hg hw hrm hy rfl hR hi he hc hcat rfl kk
theorem x_cSL3 {y : MethodName} {bytes : ByteArray} {maxL index : Nat} {ret : Option FieldType} {wsY ws' : List Cond} {rmY : Room} {v1 v2 v3 : Value} {post : Int64 → xMem → Prop} (hG : xOk G cc own ws rm) (hd : decode cc pc = .ok (.invokestatic index, 3)) (hM : xInj (xa G) → ∀ D cs sz, xMetL (xL G) y wsY rmY D (xa G) cs sz M [v1, v2, v3] post) (hg : GoodIn ws (va_wsS own index y wsY)) (hw : wsY = Cond.code y bytes maxL ret :: ws') (hrm : rmY.cells = 0 ∧ rmY.slots = 0) (hy : y.cls ≠ "java/lang/invoke/MethodHandle" ∧ y.cls ≠ "java/lang/invoke/VarHandle" ∧ (parseMethodDescriptor y.desc).map (fun d => d.parameters.length) = some 3) (hR : rmY.frames + 1 ≤ rm.frames ∧ 8 + (maxL + 11) + rmY.locals ≤ rm.locals) (hcat : (rest.map fun v => v.category).sum ≤ 8) (kk : ∀ (r : Int64) (M' : xMem), post r M' → xW G M' lv (.long r :: rest) (pc + 3)) : xW G M lv (v3 :: v2 :: v1 :: rest) pc := x_cSL hG hd hM hg hw hrm hy rfl hR hcat rfl kk
theorem x_cVL4 {y : MethodName} {bytes : ByteArray} {maxL index : Nat} {ret : Option FieldType} {wsY ws' : List Cond} {rmY : Room} {C : String} {hid ci N : Nat} {T : u_T} {fs : List Value} {v1 v2 v3 v4 : Value} {post : Int64 → xMem → Prop} (hG : xOk G cc own ws rm) (hd : decode cc pc = .ok (.invokevirtual index, 3)) (hM : xInj (xa G) → ∀ D cs sz, xMetL (xL G) y wsY rmY D (xa G) cs sz M (.ref (xa G hid) :: [v1, v2, v3, v4]) post) (hg : GoodIn ws (wsV own index C y wsY)) (hw : wsY = Cond.code y bytes maxL ret :: ws') (hrm : rmY.cells = 0 ∧ rmY.slots = 0) (hy : y.cls = C ∧ y.cls ≠ "java/lang/invoke/MethodHandle" ∧ y.cls ≠ "java/lang/invoke/VarHandle" ∧ (parseMethodDescriptor y.desc).map (fun d => d.parameters.length) = some 4) (hR : rmY.frames + 1 ≤ rm.frames ∧ 8 + (maxL + 11) + rmY.locals ≤ rm.locals) (hi : hid < 90) (he : ∀ cs, xcell (xa G) cs M hid = .inr (ci, fs)) (hc : vwCl[ci]? = some (C, T, N)) (hcat : (rest.map fun v => v.category).sum ≤ 8) (kk : ∀ (r : Int64) (M' : xMem), post r M' → xW G M' lv (.long r :: rest) (pc + 3)) : xW G M lv (v4 :: v3 :: v2 :: v1 :: .ref (xa G hid) :: rest) pc := x_cVL hG hd hM hg hw hrm hy rfl hR hi he hc hcat rfl kk
theorem x_cSL4 {y : MethodName} {bytes : ByteArray} {maxL index : Nat} {ret : Option FieldType} {wsY ws' : List Cond} {rmY : Room} {v1 v2 v3 v4 : Value} {post : Int64 → xMem → Prop} (hG : xOk G cc own ws rm) (hd : decode cc pc = .ok (.invokestatic index, 3)) (hM : xInj (xa G) → ∀ D cs sz, xMetL (xL G) y wsY rmY D (xa G) cs sz M [v1, v2, v3, v4] post) (hg : GoodIn ws (va_wsS own index y wsY)) (hw : wsY = Cond.code y bytes maxL ret :: ws') (hrm : rmY.cells = 0 ∧ rmY.slots = 0) (hy : y.cls ≠ "java/lang/invoke/MethodHandle" ∧ y.cls ≠ "java/lang/invoke/VarHandle" ∧ (parseMethodDescriptor y.desc).map (fun d => d.parameters.length) = some 4) (hR : rmY.frames + 1 ≤ rm.frames ∧ 8 + (maxL + 11) + rmY.locals ≤ rm.locals) (hcat : (rest.map fun v => v.category).sum ≤ 8) (kk : ∀ (r : Int64) (M' : xMem), post r M' → xW G M' lv (.long r :: rest) (pc + 3)) : xW G M lv (v4 :: v3 :: v2 :: v1 :: rest) pc := x_cSL hG hd hM hg hw hrm hy rfl hR hcat rfl kk
theorem x_cVL5 {y : MethodName} {bytes : ByteArray} {maxL index : Nat} {ret : Option FieldType} {wsY ws' : List Cond} {rmY : Room} {C : String} {hid ci N : Nat} {T : u_T} {fs : List Value} {v1 v2 v3 v4 v5 : Value} {post : Int64 → xMem → Prop} (hG : xOk G cc own ws rm) (hd : decode cc pc = .ok (.invokevirtual index, 3)) (hM : xInj (xa G) → ∀ D cs sz, xMetL (xL G) y wsY rmY D (xa G) cs sz M (.ref (xa G hid) :: [v1, v2, v3, v4, v5]) post) (hg : GoodIn ws (wsV own index C y wsY)) (hw : wsY = Cond.code y bytes maxL ret :: ws') (hrm : rmY.cells = 0 ∧ rmY.slots = 0) (hy : y.cls = C ∧ y.cls ≠ "java/lang/invoke/MethodHandle" ∧ y.cls ≠ "java/lang/invoke/VarHandle" ∧ (parseMethodDescriptor y.desc).map (fun d => d.parameters.length) = some 5) (hR : rmY.frames + 1 ≤ rm.frames ∧ 8 + (maxL + 11) + rmY.locals ≤ rm.locals) (hi : hid < 90) (he : ∀ cs, xcell (xa G) cs M hid = .inr (ci, fs)) (hc : vwCl[ci]? = some (C, T, N)) (hcat : (rest.map fun v => v.category).sum ≤ 8) (kk : ∀ (r : Int64) (M' : xMem), post r M' → xW G M' lv (.long r :: rest) (pc + 3)) : xW G M lv (v5 :: v4 :: v3 :: v2 :: v1 :: .ref (xa G hid) :: rest) pc := x_cVL hG hd hM hg hw hrm hy rfl hR hi he hc hcat rfl kk
theorem x_cSL5 {y : MethodName} {bytes : ByteArray} {maxL index : Nat} {ret : Option FieldType} {wsY ws' : List Cond} {rmY : Room} {v1 v2 v3 v4 v5 : Value} {post : Int64 → xMem → Prop} (hG : xOk G cc own ws rm) (hd : decode cc pc = .ok (.invokestatic index, 3)) (hM : xInj (xa G) → ∀ D cs sz, xMetL (xL G) y wsY rmY D (xa G) cs sz M [v1, v2, v3, v4, v5] post) (hg : GoodIn ws (va_wsS own index y wsY)) (hw : wsY = Cond.code y bytes maxL ret :: ws') (hrm : rmY.cells = 0 ∧ rmY.slots = 0) (hy : y.cls ≠ "java/lang/invoke/MethodHandle" ∧ y.cls ≠ "java/lang/invoke/VarHandle" ∧ (parseMethodDescriptor y.desc).map (fun d => d.parameters.length) = some 5) (hR : rmY.frames + 1 ≤ rm.frames ∧ 8 + (maxL + 11) + rmY.locals ≤ rm.locals) (hcat : (rest.map fun v => v.category).sum ≤ 8) (kk : ∀ (r : Int64) (M' : xMem), post r M' → xW G M' lv (.long r :: rest) (pc + 3)) : xW G M lv (v5 :: v4 :: v3 :: v2 :: v1 :: rest) pc := x_cSL hG hd hM hg hw hrm hy rfl hR hcat rfl kk
theorem x_cSL6 {y : MethodName} {bytes : ByteArray} {maxL index : Nat} {ret : Option FieldType} {wsY ws' : List Cond} {rmY : Room} {v1 v2 v3 v4 v5 v6 : Value} {post : Int64 → xMem → Prop} (hG : xOk G cc own ws rm) (hd : decode cc pc = .ok (.invokestatic index, 3)) (hM : xInj (xa G) → ∀ D cs sz, xMetL (xL G) y wsY rmY D (xa G) cs sz M [v1, v2, v3, v4, v5, v6] post) (hg : GoodIn ws (va_wsS own index y wsY)) (hw : wsY = Cond.code y bytes maxL ret :: ws') (hrm : rmY.cells = 0 ∧ rmY.slots = 0) (hy : y.cls ≠ "java/lang/invoke/MethodHandle" ∧ y.cls ≠ "java/lang/invoke/VarHandle" ∧ (parseMethodDescriptor y.desc).map (fun d => d.parameters.length) = some 6) (hR : rmY.frames + 1 ≤ rm.frames ∧ 8 + (maxL + 11) + rmY.locals ≤ rm.locals) (hcat : (rest.map fun v => v.category).sum ≤ 8) (kk : ∀ (r : Int64) (M' : xMem), post r M' → xW G M' lv (.long r :: rest) (pc + 3)) : xW G M lv (v6 :: v5 :: v4 :: v3 :: v2 :: v1 :: rest) pc := x_cSL hG hd hM hg hw hrm hy rfl hR hcat rfl kk
theorem x_cSL7 {y : MethodName} {bytes : ByteArray} {maxL index : Nat} {ret : Option FieldType} {wsY ws' : List Cond} {rmY : Room} {v1 v2 v3 v4 v5 v6 v7 : Value} {post : Int64 → xMem → Prop} (hG : xOk G cc own ws rm) (hd : decode cc pc = .ok (.invokestatic index, 3)) (hM : xInj (xa G) → ∀ D cs sz, xMetL (xL G) y wsY rmY D (xa G) cs sz M [v1, v2, v3, v4, v5, v6, v7] post) (hg : GoodIn ws (va_wsS own index y wsY)) (hw : wsY = Cond.code y bytes maxL ret :: ws') (hrm : rmY.cells = 0 ∧ rmY.slots = 0) (hy : y.cls ≠ "java/lang/invoke/MethodHandle" ∧ y.cls ≠ "java/lang/invoke/VarHandle" ∧ (parseMethodDescriptor y.desc).map (fun d => d.parameters.length) = some 7) (hR : rmY.frames + 1 ≤ rm.frames ∧ 8 + (maxL + 11) + rmY.locals ≤ rm.locals) (hcat : (rest.map fun v => v.category).sum ≤ 8) (kk : ∀ (r : Int64) (M' : xMem), post r M' → xW G M' lv (.long r :: rest) (pc + 3)) : xW G M lv (v7 :: v6 :: v5 :: v4 :: v3 :: v2 :: v1 :: rest) pc := x_cSL hG hd hM hg hw hrm hy rfl hR hcat rfl kk
theorem x_cVV0 {y : MethodName} {bytes : ByteArray} {maxL index : Nat} {ret : Option FieldType} {wsY ws' : List Cond} {rmY : Room} {C : String} {hid ci N : Nat} {T : u_T} {fs : List Value} {post : xMem → Prop} (hG : xOk G cc own ws rm) (hd : decode cc pc = .ok (.invokevirtual index, 3)) (hM : xInj (xa G) → ∀ D cs sz, xMetV (xL G) y wsY rmY D (xa G) cs sz M (.ref (xa G hid) :: []) post) (hg : GoodIn ws (wsV own index C y wsY)) (hw : wsY = Cond.code y bytes maxL ret :: ws') (hrm : rmY.cells = 0 ∧ rmY.slots = 0) (hy : y.cls = C ∧ y.cls ≠ "java/lang/invoke/MethodHandle" ∧ y.cls ≠ "java/lang/invoke/VarHandle" ∧ (parseMethodDescriptor y.desc).map (fun d => d.parameters.length) = some 0) (hR : rmY.frames + 1 ≤ rm.frames ∧ 8 + (maxL + 11) + rmY.locals ≤ rm.locals) (hi : hid < 90) (he : ∀ cs, xcell (xa G) cs M hid = .inr (ci, fs)) (hc : vwCl[ci]? = some (C, T, N)) (hcat : (rest.map fun v => v.category).sum ≤ 8) (kk : ∀ (M' : xMem), post M' → xW G M' lv rest (pc + 3)) : xW G M lv (.ref (xa G hid) :: rest) pc := x_cVV hG hd hM hg hw hrm hy rfl hR hi he hc hcat rfl kk
theorem x_cVV1 {y : MethodName} {bytes : ByteArray} {maxL index : Nat} {ret : Option FieldType} {wsY ws' : List Cond} {rmY : Room} {C : String} {hid ci N : Nat} {T : u_T} {fs : List Value} {v1 : Value} {post : xMem → Prop} (hG : xOk G cc own ws rm) (hd : decode cc pc = .ok (.invokevirtual index, 3)) (hM : xInj (xa G) → ∀ D cs sz, xMetV (xL G) y wsY rmY D (xa G) cs sz M (.ref (xa G hid) :: [v1]) post) (hg : GoodIn ws (wsV own index C y wsY)) (hw : wsY = Cond.code y bytes maxL ret :: ws') (hrm : rmY.cells = 0 ∧ rmY.slots = 0) (hy : y.cls = C ∧ y.cls ≠ "java/lang/invoke/MethodHandle" ∧ y.cls ≠ "java/lang/invoke/VarHandle" ∧ (parseMethodDescriptor y.desc).map (fun d => d.parameters.length) = some 1) (hR : rmY.frames + 1 ≤ rm.frames ∧ 8 + (maxL + 11) + rmY.locals ≤ rm.locals) (hi : hid < 90) (he : ∀ cs, xcell (xa G) cs M hid = .inr (ci, fs)) (hc : vwCl[ci]? = some (C, T, N)) (hcat : (rest.map fun v => v.category).sum ≤ 8) (kk : ∀ (M' : xMem), post M' → xW G M' lv rest (pc + 3)) : xW G M lv (v1 :: .ref (xa G hid) :: rest) pc := x_cVV hG hd hM hg hw hrm hy rfl hR hi he hc hcat rfl kk
theorem x_cSV1 {y : MethodName} {bytes : ByteArray} {maxL index : Nat} {ret : Option FieldType} {wsY ws' : List Cond} {rmY : Room} {v1 : Value} {post : xMem → Prop} (hG : xOk G cc own ws rm) (hd : decode cc pc = .ok (.invokestatic index, 3)) (hM : xInj (xa G) → ∀ D cs sz, xMetV (xL G) y wsY rmY D (xa G) cs sz M [v1] post) (hg : GoodIn ws (va_wsS own index y wsY)) (hw : wsY = Cond.code y bytes maxL ret :: ws') (hrm : rmY.cells = 0 ∧ rmY.slots = 0) (hy : y.cls ≠ "java/lang/invoke/MethodHandle" ∧ y.cls ≠ "java/lang/invoke/VarHandle" ∧ (parseMethodDescriptor y.desc).map (fun d => d.parameters.length) = some 1) (hR : rmY.frames + 1 ≤ rm.frames ∧ 8 + (maxL + 11) + rmY.locals ≤ rm.locals) (hcat : (rest.map fun v => v.category).sum ≤ 8) (kk : ∀ (M' : xMem), post M' → xW G M' lv rest (pc + 3)) : xW G M lv (v1 :: rest) pc := x_cSV hG hd hM hg hw hrm hy rfl hR hcat rfl kk
theorem x_cVV2 {y : MethodName} {bytes : ByteArray} {maxL index : Nat} {ret : Option FieldType} {wsY ws' : List Cond} {rmY : Room} {C : String} {hid ci N : Nat} {T : u_T} {fs : List Value} {v1 v2 : Value} {post : xMem → Prop} (hG : xOk G cc own ws rm) (hd : decode cc pc = .ok (.invokevirtual index, 3)) (hM : xInj (xa G) → ∀ D cs sz, xMetV (xL G) y wsY rmY D (xa G) cs sz M (.ref (xa G hid) :: [v1, v2]) post) (hg : GoodIn ws (wsV own index C y wsY)) (hw : wsY = Cond.code y bytes maxL ret :: ws') (hrm : rmY.cells = 0 ∧ rmY.slots = 0) (hy : y.cls = C ∧ y.cls ≠ "java/lang/invoke/MethodHandle" ∧ y.cls ≠ "java/lang/invoke/VarHandle" ∧ (parseMethodDescriptor y.desc).map (fun d => d.parameters.length) = some 2) (hR : rmY.frames + 1 ≤ rm.frames ∧ 8 + (maxL + 11) + rmY.locals ≤ rm.locals) (hi : hid < 90) (he : ∀ cs, xcell (xa G) cs M hid = .inr (ci, fs)) (hc : vwCl[ci]? = some (C, T, N)) (hcat : (rest.map fun v => v.category).sum ≤ 8) (kk : ∀ (M' : xMem), post M' → xW G M' lv rest (pc + 3)) : xW G M lv (v2 :: v1 :: .ref (xa G hid) :: rest) pc := x_cVV hG hd hM hg hw hrm hy rfl hR hi he hc hcat rfl kk
theorem x_cSV2 {y : MethodName} {bytes : ByteArray} {maxL index : Nat} {ret : Option FieldType} {wsY ws' : List Cond} {rmY : Room} {v1 v2 : Value} {post : xMem → Prop} (hG : xOk G cc own ws rm) (hd : decode cc pc = .ok (.invokestatic index, 3)) (hM : xInj (xa G) → ∀ D cs sz, xMetV (xL G) y wsY rmY D (xa G) cs sz M [v1, v2] post) (hg : GoodIn ws (va_wsS own index y wsY)) (hw : wsY = Cond.code y bytes maxL ret :: ws') (hrm : rmY.cells = 0 ∧ rmY.slots = 0) (hy : y.cls ≠ "java/lang/invoke/MethodHandle" ∧ y.cls ≠ "java/lang/invoke/VarHandle" ∧ (parseMethodDescriptor y.desc).map (fun d => d.parameters.length) = some 2) (hR : rmY.frames + 1 ≤ rm.frames ∧ 8 + (maxL + 11) + rmY.locals ≤ rm.locals) (hcat : (rest.map fun v => v.category).sum ≤ 8) (kk : ∀ (M' : xMem), post M' → xW G M' lv rest (pc + 3)) : xW G M lv (v2 :: v1 :: rest) pc := x_cSV hG hd hM hg hw hrm hy rfl hR hcat rfl kk
theorem x_cVV3 {y : MethodName} {bytes : ByteArray} {maxL index : Nat} {ret : Option FieldType} {wsY ws' : List Cond} {rmY : Room} {C : String} {hid ci N : Nat} {T : u_T} {fs : List Value} {v1 v2 v3 : Value} {post : xMem → Prop} (hG : xOk G cc own ws rm) (hd : decode cc pc = .ok (.invokevirtual index, 3)) (hM : xInj (xa G) → ∀ D cs sz, xMetV (xL G) y wsY rmY D (xa G) cs sz M (.ref (xa G hid) :: [v1, v2, v3]) post) (hg : GoodIn ws (wsV own index C y wsY)) (hw : wsY = Cond.code y bytes maxL ret :: ws') (hrm : rmY.cells = 0 ∧ rmY.slots = 0) (hy : y.cls = C ∧ y.cls ≠ "java/lang/invoke/MethodHandle" ∧ y.cls ≠ "java/lang/invoke/VarHandle" ∧ (parseMethodDescriptor y.desc).map (fun d => d.parameters.length) = some 3) (hR : rmY.frames + 1 ≤ rm.frames ∧ 8 + (maxL + 11) + rmY.locals ≤ rm.locals) (hi : hid < 90) (he : ∀ cs, xcell (xa G) cs M hid = .inr (ci, fs)) (hc : vwCl[ci]? = some (C, T, N)) (hcat : (rest.map fun v => v.category).sum ≤ 8) (kk : ∀ (M' : xMem), post M' → xW G M' lv rest (pc + 3)) : xW G M lv (v3 :: v2 :: v1 :: .ref (xa G hid) :: rest) pc := x_cVV hG hd hM hg hw hrm hy rfl hR hi he hc hcat rfl kk
theorem x_cSV3 {y : MethodName} {bytes : ByteArray} {maxL index : Nat} {ret : Option FieldType} {wsY ws' : List Cond} {rmY : Room} {v1 v2 v3 : Value} {post : xMem → Prop} (hG : xOk G cc own ws rm) (hd : decode cc pc = .ok (.invokestatic index, 3)) (hM : xInj (xa G) → ∀ D cs sz, xMetV (xL G) y wsY rmY D (xa G) cs sz M [v1, v2, v3] post) (hg : GoodIn ws (va_wsS own index y wsY)) (hw : wsY = Cond.code y bytes maxL ret :: ws') (hrm : rmY.cells = 0 ∧ rmY.slots = 0) (hy : y.cls ≠ "java/lang/invoke/MethodHandle" ∧ y.cls ≠ "java/lang/invoke/VarHandle" ∧ (parseMethodDescriptor y.desc).map (fun d => d.parameters.length) = some 3) (hR : rmY.frames + 1 ≤ rm.frames ∧ 8 + (maxL + 11) + rmY.locals ≤ rm.locals) (hcat : (rest.map fun v => v.category).sum ≤ 8) (kk : ∀ (M' : xMem), post M' → xW G M' lv rest (pc + 3)) : xW G M lv (v3 :: v2 :: v1 :: rest) pc := x_cSV hG hd hM hg hw hrm hy rfl hR hcat rfl kk
theorem x_cVV4 {y : MethodName} {bytes : ByteArray} {maxL index : Nat} {ret : Option FieldType} {wsY ws' : List Cond} {rmY : Room} {C : String} {hid ci N : Nat} {T : u_T} {fs : List Value} {v1 v2 v3 v4 : Value} {post : xMem → Prop} (hG : xOk G cc own ws rm) (hd : decode cc pc = .ok (.invokevirtual index, 3)) (hM : xInj (xa G) → ∀ D cs sz, xMetV (xL G) y wsY rmY D (xa G) cs sz M (.ref (xa G hid) :: [v1, v2, v3, v4]) post) (hg : GoodIn ws (wsV own index C y wsY)) (hw : wsY = Cond.code y bytes maxL ret :: ws') (hrm : rmY.cells = 0 ∧ rmY.slots = 0) (hy : y.cls = C ∧ y.cls ≠ "java/lang/invoke/MethodHandle" ∧ y.cls ≠ "java/lang/invoke/VarHandle" ∧ (parseMethodDescriptor y.desc).map (fun d => d.parameters.length) = some 4) (hR : rmY.frames + 1 ≤ rm.frames ∧ 8 + (maxL + 11) + rmY.locals ≤ rm.locals) (hi : hid < 90) (he : ∀ cs, xcell (xa G) cs M hid = .inr (ci, fs)) (hc : vwCl[ci]? = some (C, T, N)) (hcat : (rest.map fun v => v.category).sum ≤ 8) (kk : ∀ (M' : xMem), post M' → xW G M' lv rest (pc + 3)) : xW G M lv (v4 :: v3 :: v2 :: v1 :: .ref (xa G hid) :: rest) pc := x_cVV hG hd hM hg hw hrm hy rfl hR hi he hc hcat rfl kk
theorem x_cSV4 {y : MethodName} {bytes : ByteArray} {maxL index : Nat} {ret : Option FieldType} {wsY ws' : List Cond} {rmY : Room} {v1 v2 v3 v4 : Value} {post : xMem → Prop} (hG : xOk G cc own ws rm) (hd : decode cc pc = .ok (.invokestatic index, 3)) (hM : xInj (xa G) → ∀ D cs sz, xMetV (xL G) y wsY rmY D (xa G) cs sz M [v1, v2, v3, v4] post) (hg : GoodIn ws (va_wsS own index y wsY)) (hw : wsY = Cond.code y bytes maxL ret :: ws') (hrm : rmY.cells = 0 ∧ rmY.slots = 0) (hy : y.cls ≠ "java/lang/invoke/MethodHandle" ∧ y.cls ≠ "java/lang/invoke/VarHandle" ∧ (parseMethodDescriptor y.desc).map (fun d => d.parameters.length) = some 4) (hR : rmY.frames + 1 ≤ rm.frames ∧ 8 + (maxL + 11) + rmY.locals ≤ rm.locals) (hcat : (rest.map fun v => v.category).sum ≤ 8) (kk : ∀ (M' : xMem), post M' → xW G M' lv rest (pc + 3)) : xW G M lv (v4 :: v3 :: v2 :: v1 :: rest) pc := x_cSV hG hd hM hg hw hrm hy rfl hR hcat rfl kk
theorem x_cVV5 {y : MethodName} {bytes : ByteArray} {maxL index : Nat} {ret : Option FieldType} {wsY ws' : List Cond} {rmY : Room} {C : String} {hid ci N : Nat} {T : u_T} {fs : List Value} {v1 v2 v3 v4 v5 : Value} {post : xMem → Prop} (hG : xOk G cc own ws rm) (hd : decode cc pc = .ok (.invokevirtual index, 3)) (hM : xInj (xa G) → ∀ D cs sz, xMetV (xL G) y wsY rmY D (xa G) cs sz M (.ref (xa G hid) :: [v1, v2, v3, v4, v5]) post) (hg : GoodIn ws (wsV own index C y wsY)) (hw : wsY = Cond.code y bytes maxL ret :: ws') (hrm : rmY.cells = 0 ∧ rmY.slots = 0) (hy : y.cls = C ∧ y.cls ≠ "java/lang/invoke/MethodHandle" ∧ y.cls ≠ "java/lang/invoke/VarHandle" ∧ (parseMethodDescriptor y.desc).map (fun d => d.parameters.length) = some 5) (hR : rmY.frames + 1 ≤ rm.frames ∧ 8 + (maxL + 11) + rmY.locals ≤ rm.locals) (hi : hid < 90) (he : ∀ cs, xcell (xa G) cs M hid = .inr (ci, fs)) (hc : vwCl[ci]? = some (C, T, N)) (hcat : (rest.map fun v => v.category).sum ≤ 8) (kk : ∀ (M' : xMem), post M' → xW G M' lv rest (pc + 3)) : xW G M lv (v5 :: v4 :: v3 :: v2 :: v1 :: .ref (xa G hid) :: rest) pc := x_cVV hG hd hM hg hw hrm hy rfl hR hi he hc hcat rfl kk
theorem x_cSV5 {y : MethodName} {bytes : ByteArray} {maxL index : Nat} {ret : Option FieldType} {wsY ws' : List Cond} {rmY : Room} {v1 v2 v3 v4 v5 : Value} {post : xMem → Prop} (hG : xOk G cc own ws rm) (hd : decode cc pc = .ok (.invokestatic index, 3)) (hM : xInj (xa G) → ∀ D cs sz, xMetV (xL G) y wsY rmY D (xa G) cs sz M [v1, v2, v3, v4, v5] post) (hg : GoodIn ws (va_wsS own index y wsY)) (hw : wsY = Cond.code y bytes maxL ret :: ws') (hrm : rmY.cells = 0 ∧ rmY.slots = 0) (hy : y.cls ≠ "java/lang/invoke/MethodHandle" ∧ y.cls ≠ "java/lang/invoke/VarHandle" ∧ (parseMethodDescriptor y.desc).map (fun d => d.parameters.length) = some 5) (hR : rmY.frames + 1 ≤ rm.frames ∧ 8 + (maxL + 11) + rmY.locals ≤ rm.locals) (hcat : (rest.map fun v => v.category).sum ≤ 8) (kk : ∀ (M' : xMem), post M' → xW G M' lv rest (pc + 3)) : xW G M lv (v5 :: v4 :: v3 :: v2 :: v1 :: rest) pc := x_cSV hG hd hM hg hw hrm hy rfl hR hcat rfl kk
theorem x_cSV6 {y : MethodName} {bytes : ByteArray} {maxL index : Nat} {ret : Option FieldType} {wsY ws' : List Cond} {rmY : Room} {v1 v2 v3 v4 v5 v6 : Value} {post : xMem → Prop} (hG : xOk G cc own ws rm) (hd : decode cc pc = .ok (.invokestatic index, 3)) (hM : xInj (xa G) → ∀ D cs sz, xMetV (xL G) y wsY rmY D (xa G) cs sz M [v1, v2, v3, v4, v5, v6] post) (hg : GoodIn ws (va_wsS own index y wsY)) (hw : wsY = Cond.code y bytes maxL ret :: ws') (hrm : rmY.cells = 0 ∧ rmY.slots = 0) (hy : y.cls ≠ "java/lang/invoke/MethodHandle" ∧ y.cls ≠ "java/lang/invoke/VarHandle" ∧ (parseMethodDescriptor y.desc).map (fun d => d.parameters.length) = some 6) (hR : rmY.frames + 1 ≤ rm.frames ∧ 8 + (maxL + 11) + rmY.locals ≤ rm.locals) (hcat : (rest.map fun v => v.category).sum ≤ 8) (kk : ∀ (M' : xMem), post M' → xW G M' lv rest (pc + 3)) : xW G M lv (v6 :: v5 :: v4 :: v3 :: v2 :: v1 :: rest) pc := x_cSV hG hd hM hg hw hrm hy rfl hR hcat rfl kk
theorem x_cSV7 {y : MethodName} {bytes : ByteArray} {maxL index : Nat} {ret : Option FieldType} {wsY ws' : List Cond} {rmY : Room} {v1 v2 v3 v4 v5 v6 v7 : Value} {post : xMem → Prop} (hG : xOk G cc own ws rm) (hd : decode cc pc = .ok (.invokestatic index, 3)) (hM : xInj (xa G) → ∀ D cs sz, xMetV (xL G) y wsY rmY D (xa G) cs sz M [v1, v2, v3, v4, v5, v6, v7] post) (hg : GoodIn ws (va_wsS own index y wsY)) (hw : wsY = Cond.code y bytes maxL ret :: ws') (hrm : rmY.cells = 0 ∧ rmY.slots = 0) (hy : y.cls ≠ "java/lang/invoke/MethodHandle" ∧ y.cls ≠ "java/lang/invoke/VarHandle" ∧ (parseMethodDescriptor y.desc).map (fun d => d.parameters.length) = some 7) (hR : rmY.frames + 1 ≤ rm.frames ∧ 8 + (maxL + 11) + rmY.locals ≤ rm.locals) (hcat : (rest.map fun v => v.category).sum ≤ 8) (kk : ∀ (M' : xMem), post M' → xW G M' lv rest (pc + 3)) : xW G M lv (v7 :: v6 :: v5 :: v4 :: v3 :: v2 :: v1 :: rest) pc := x_cSV hG hd hM hg hw hrm hy rfl hR hcat rfl kk
theorem x_cVR0 {y : MethodName} {bytes : ByteArray} {maxL index : Nat} {ret : Option FieldType} {wsY ws' : List Cond} {rmY : Room} {C : String} {hid ci N : Nat} {T : u_T} {fs : List Value} {post : Nat → xMem → Prop} (hG : xOk G cc own ws rm) (hd : decode cc pc = .ok (.invokevirtual index, 3)) (hM : xInj (xa G) → ∀ D cs sz, xMetR (xL G) y wsY rmY D (xa G) cs sz M (.ref (xa G hid) :: []) post) (hg : GoodIn ws (wsV own index C y wsY)) (hw : wsY = Cond.code y bytes maxL ret :: ws') (hrm : rmY.cells = 0 ∧ rmY.slots = 0) (hy : y.cls = C ∧ y.cls ≠ "java/lang/invoke/MethodHandle" ∧ y.cls ≠ "java/lang/invoke/VarHandle" ∧ (parseMethodDescriptor y.desc).map (fun d => d.parameters.length) = some 0) (hR : rmY.frames + 1 ≤ rm.frames ∧ 8 + (maxL + 11) + rmY.locals ≤ rm.locals) (hi : hid < 90) (he : ∀ cs, xcell (xa G) cs M hid = .inr (ci, fs)) (hc : vwCl[ci]? = some (C, T, N)) (hcat : (rest.map fun v => v.category).sum ≤ 8) (kk : ∀ (r : Nat) (M' : xMem), post r M' → xW G M' lv (.ref (xa G r) :: rest) (pc + 3)) : xW G M lv (.ref (xa G hid) :: rest) pc := x_cVR hG hd hM hg hw hrm hy rfl hR hi he hc hcat rfl kk
theorem x_cVR1 {y : MethodName} {bytes : ByteArray} {maxL index : Nat} {ret : Option FieldType} {wsY ws' : List Cond} {rmY : Room} {C : String} {hid ci N : Nat} {T : u_T} {fs : List Value} {v1 : Value} {post : Nat → xMem → Prop} (hG : xOk G cc own ws rm) (hd : decode cc pc = .ok (.invokevirtual index, 3)) (hM : xInj (xa G) → ∀ D cs sz, xMetR (xL G) y wsY rmY D (xa G) cs sz M (.ref (xa G hid) :: [v1]) post) (hg : GoodIn ws (wsV own index C y wsY)) (hw : wsY = Cond.code y bytes maxL ret :: ws') (hrm : rmY.cells = 0 ∧ rmY.slots = 0) (hy : y.cls = C ∧ y.cls ≠ "java/lang/invoke/MethodHandle" ∧ y.cls ≠ "java/lang/invoke/VarHandle" ∧ (parseMethodDescriptor y.desc).map (fun d => d.parameters.length) = some 1) (hR : rmY.frames + 1 ≤ rm.frames ∧ 8 + (maxL + 11) + rmY.locals ≤ rm.locals) (hi : hid < 90) (he : ∀ cs, xcell (xa G) cs M hid = .inr (ci, fs)) (hc : vwCl[ci]? = some (C, T, N)) (hcat : (rest.map fun v => v.category).sum ≤ 8) (kk : ∀ (r : Nat) (M' : xMem), post r M' → xW G M' lv (.ref (xa G r) :: rest) (pc + 3)) : xW G M lv (v1 :: .ref (xa G hid) :: rest) pc := x_cVR hG hd hM hg hw hrm hy rfl hR hi he hc hcat rfl kk
theorem x_cVR2 {y : MethodName} {bytes : ByteArray} {maxL index : Nat} {ret : Option FieldType} {wsY ws' : List Cond} {rmY : Room} {C : String} {hid ci N : Nat} {T : u_T} {fs : List Value} {v1 v2 : Value} {post : Nat → xMem → Prop} (hG : xOk G cc own ws rm) (hd : decode cc pc = .ok (.invokevirtual index, 3)) (hM : xInj (xa G) → ∀ D cs sz, xMetR (xL G) y wsY rmY D (xa G) cs sz M (.ref (xa G hid) :: [v1, v2]) post) (hg : GoodIn ws (wsV own index C y wsY)) (hw : wsY = Cond.code y bytes maxL ret :: ws') (hrm : rmY.cells = 0 ∧ rmY.slots = 0) (hy : y.cls = C ∧ y.cls ≠ "java/lang/invoke/MethodHandle" ∧ y.cls ≠ "java/lang/invoke/VarHandle" ∧ (parseMethodDescriptor y.desc).map (fun d => d.parameters.length) = some 2) (hR : rmY.frames + 1 ≤ rm.frames ∧ 8 + (maxL + 11) + rmY.locals ≤ rm.locals) (hi : hid < 90) (he : ∀ cs, xcell (xa G) cs M hid = .inr (ci, fs)) (hc : vwCl[ci]? = some (C, T, N)) (hcat : (rest.map fun v => v.category).sum ≤ 8) (kk : ∀ (r : Nat) (M' : xMem), post r M' → xW G M' lv (.ref (xa G r) :: rest) (pc + 3)) : xW G M lv (v2 :: v1 :: .ref (xa G hid) :: rest) pc := x_cVR hG hd hM hg hw hrm hy rfl hR hi he hc hcat rfl kk
theorem x_cVR3 {y : MethodName} {bytes : ByteArray} {maxL index : Nat} {ret : Option FieldType} {wsY ws' : List Cond} {rmY : Room} {C : String} {hid ci N : Nat} {T : u_T} {fs : List Value} {v1 v2 v3 : Value} {post : Nat → xMem → Prop} (hG : xOk G cc own ws rm) (hd : decode cc pc = .ok (.invokevirtual index, 3)) (hM : xInj (xa G) → ∀ D cs sz, xMetR (xL G) y wsY rmY D (xa G) cs sz M (.ref (xa G hid) :: [v1, v2, v3]) post) (hg : GoodIn ws (wsV own index C y wsY)) (hw : wsY = Cond.code y bytes maxL ret :: ws') (hrm : rmY.cells = 0 ∧ rmY.slots = 0) (hy : y.cls = C ∧ y.cls ≠ "java/lang/invoke/MethodHandle" ∧ y.cls ≠ "java/lang/invoke/VarHandle" ∧ (parseMethodDescriptor y.desc).map (fun d => d.parameters.length) = some 3) (hR : rmY.frames + 1 ≤ rm.frames ∧ 8 + (maxL + 11) + rmY.locals ≤ rm.locals) (hi : hid < 90) (he : ∀ cs, xcell (xa G) cs M hid = .inr (ci, fs)) (hc : vwCl[ci]? = some (C, T, N)) (hcat : (rest.map fun v => v.category).sum ≤ 8) (kk : ∀ (r : Nat) (M' : xMem), post r M' → xW G M' lv (.ref (xa G r) :: rest) (pc + 3)) : xW G M lv (v3 :: v2 :: v1 :: .ref (xa G hid) :: rest) pc := x_cVR hG hd hM hg hw hrm hy rfl hR hi he hc hcat rfl kk
theorem x_cVR4 {y : MethodName} {bytes : ByteArray} {maxL index : Nat} {ret : Option FieldType} {wsY ws' : List Cond} {rmY : Room} {C : String} {hid ci N : Nat} {T : u_T} {fs : List Value} {v1 v2 v3 v4 : Value} {post : Nat → xMem → Prop} (hG : xOk G cc own ws rm) (hd : decode cc pc = .ok (.invokevirtual index, 3)) (hM : xInj (xa G) → ∀ D cs sz, xMetR (xL G) y wsY rmY D (xa G) cs sz M (.ref (xa G hid) :: [v1, v2, v3, v4]) post) (hg : GoodIn ws (wsV own index C y wsY)) (hw : wsY = Cond.code y bytes maxL ret :: ws') (hrm : rmY.cells = 0 ∧ rmY.slots = 0) (hy : y.cls = C ∧ y.cls ≠ "java/lang/invoke/MethodHandle" ∧ y.cls ≠ "java/lang/invoke/VarHandle" ∧ (parseMethodDescriptor y.desc).map (fun d => d.parameters.length) = some 4) (hR : rmY.frames + 1 ≤ rm.frames ∧ 8 + (maxL + 11) + rmY.locals ≤ rm.locals) (hi : hid < 90) (he : ∀ cs, xcell (xa G) cs M hid = .inr (ci, fs)) (hc : vwCl[ci]? = some (C, T, N)) (hcat : (rest.map fun v => v.category).sum ≤ 8) (kk : ∀ (r : Nat) (M' : xMem), post r M' → xW G M' lv (.ref (xa G r) :: rest) (pc + 3)) : xW G M lv (v4 :: v3 :: v2 :: v1 :: .ref (xa G hid) :: rest) pc := x_cVR hG hd hM hg hw hrm hy rfl hR hi he hc hcat rfl kk
theorem x_cVR5 {y : MethodName} {bytes : ByteArray} {maxL index : Nat} {ret : Option FieldType} {wsY ws' : List Cond} {rmY : Room} {C : String} {hid ci N : Nat} {T : u_T} {fs : List Value} {v1 v2 v3 v4 v5 : Value} {post : Nat → xMem → Prop} (hG : xOk G cc own ws rm) (hd : decode cc pc = .ok (.invokevirtual index, 3)) (hM : xInj (xa G) → ∀ D cs sz, xMetR (xL G) y wsY rmY D (xa G) cs sz M (.ref (xa G hid) :: [v1, v2, v3, v4, v5]) post) (hg : GoodIn ws (wsV own index C y wsY)) (hw : wsY = Cond.code y bytes maxL ret :: ws') (hrm : rmY.cells = 0 ∧ rmY.slots = 0) (hy : y.cls = C ∧ y.cls ≠ "java/lang/invoke/MethodHandle" ∧ y.cls ≠ "java/lang/invoke/VarHandle" ∧ (parseMethodDescriptor y.desc).map (fun d => d.parameters.length) = some 5) (hR : rmY.frames + 1 ≤ rm.frames ∧ 8 + (maxL + 11) + rmY.locals ≤ rm.locals) (hi : hid < 90) (he : ∀ cs, xcell (xa G) cs M hid = .inr (ci, fs)) (hc : vwCl[ci]? = some (C, T, N)) (hcat : (rest.map fun v => v.category).sum ≤ 8) (kk : ∀ (r : Nat) (M' : xMem), post r M' → xW G M' lv (.ref (xa G r) :: rest) (pc + 3)) : xW G M lv (v5 :: v4 :: v3 :: v2 :: v1 :: .ref (xa G hid) :: rest) pc := x_cVR hG hd hM hg hw hrm hy rfl hR hi he hc hcat rfl kk
theorem x_metI {l : Launch} {y : MethodName} {cc : ByteArray} {nL : Nat} {own : String} {ws ws' : List Cond} {rm : Room} {a : Nat → Nat} {M : xMem} {av : List Value} {post : Int32 → xMem → Prop} {ty : FieldType} (lv : List (Option Value)) (hy : plainName y.cls = true) (hw : ws = Cond.code y cc nL (some ty) :: ws') (ho : y.cls = own) (hlen : (lg_sl av).length ≤ nL) (hlv : lv_args 0 av = xps lv 0) (hln : lv.length = nL) (hI : xInj a) (D : va_G) (cs : xCs) (sz : Nat) (hrm : (headSpec ws rm).room = rm)
    (body : ∀ G : xG, xa G = a → xL G = l → xOk G cc own ws rm → xRetI G post ty → xW G M lv [] 0) : xMetI l y ws rm D a cs sz M av post := by
  refine Met.ofW (cc := cc) (maxL := nL) (ret := some ty) hy hw ?_
  intro p e s m args below meth c s₁ B hml hv
  obtain ⟨rfl, hsz, hP, hK⟩ := hv
  subst hsz
  have hts := atoms_spec (ws := ws) B.pre
  have hown : s.vm.findClass own = some m.cls := ho ▸ findClass_of_methodNamed B.named
  rw [lg_entry_eq]
  have hl := lv_entry av (n := nL) hlen
  refine body (p, l, e, (headSpec ws rm).room, s, m, av.toArray, below, meth, c, nL, xA a s.heap.size, s.heap, _, D, a, cs, 0, 0) rfl rfl ?_ ?_ s.heap [] _ hP va_S.rf (xl_of hl hlv hln)
  · exact ⟨B.exec, B.bytes, hml, hown, hts, hK, hI, fun i h => Or.inl ⟨i, h, rfl⟩, fun q h => Or.inr h, hrm, Nat.zero_le _, Nat.zero_le _⟩
  · exact ⟨B.returns, B.notSynchronized, rfl, rfl⟩
theorem x_metL {l : Launch} {y : MethodName} {cc : ByteArray} {nL : Nat} {own : String} {ws ws' : List Cond} {rm : Room} {a : Nat → Nat} {M : xMem} {av : List Value} {post : Int64 → xMem → Prop} (lv : List (Option Value)) (hy : plainName y.cls = true) (hw : ws = Cond.code y cc nL (some .long) :: ws') (ho : y.cls = own) (hlen : (lg_sl av).length ≤ nL) (hlv : lv_args 0 av = xps lv 0) (hln : lv.length = nL) (hI : xInj a) (D : va_G) (cs : xCs) (sz : Nat) (hrm : (headSpec ws rm).room = rm)
    (body : ∀ G : xG, xa G = a → xL G = l → xOk G cc own ws rm → xRetL G post → xW G M lv [] 0) : xMetL l y ws rm D a cs sz M av post := by
  refine Met.ofW (cc := cc) (maxL := nL) (ret := some .long) hy hw ?_
  intro p e s m args below meth c s₁ B hml hv
  obtain ⟨rfl, hsz, hP, hK⟩ := hv
  subst hsz
  have hts := atoms_spec (ws := ws) B.pre
  have hown : s.vm.findClass own = some m.cls := ho ▸ findClass_of_methodNamed B.named
  rw [lg_entry_eq]
  have hl := lv_entry av (n := nL) hlen
  refine body (p, l, e, (headSpec ws rm).room, s, m, av.toArray, below, meth, c, nL, xA a s.heap.size, s.heap, _, D, a, cs, 0, 0) rfl rfl ?_ ?_ s.heap [] _ hP va_S.rf (xl_of hl hlv hln)
  · exact ⟨B.exec, B.bytes, hml, hown, hts, hK, hI, fun i h => Or.inl ⟨i, h, rfl⟩, fun q h => Or.inr h, hrm, Nat.zero_le _, Nat.zero_le _⟩
  · exact ⟨B.returns, B.notSynchronized, rfl, rfl⟩
theorem x_metV {l : Launch} {y : MethodName} {cc : ByteArray} {nL : Nat} {own : String} {ws ws' : List Cond} {rm : Room} {a : Nat → Nat} {M : xMem} {av : List Value} {post : xMem → Prop} (lv : List (Option Value)) (hy : plainName y.cls = true) (hw : ws = Cond.code y cc nL (none) :: ws') (ho : y.cls = own) (hlen : (lg_sl av).length ≤ nL) (hlv : lv_args 0 av = xps lv 0) (hln : lv.length = nL) (hI : xInj a) (D : va_G) (cs : xCs) (sz : Nat) (hrm : (headSpec ws rm).room = rm)
    (body : ∀ G : xG, xa G = a → xL G = l → xOk G cc own ws rm → xRetV G post → xW G M lv [] 0) : xMetV l y ws rm D a cs sz M av post := by
  refine Met.ofW (cc := cc) (maxL := nL) (ret := none) hy hw ?_
  intro p e s m args below meth c s₁ B hml hv
  obtain ⟨rfl, hsz, hP, hK⟩ := hv
  subst hsz
  have hts := atoms_spec (ws := ws) B.pre
  have hown : s.vm.findClass own = some m.cls := ho ▸ findClass_of_methodNamed B.named
  rw [lg_entry_eq]
  have hl := lv_entry av (n := nL) hlen
  refine body (p, l, e, (headSpec ws rm).room, s, m, av.toArray, below, meth, c, nL, xA a s.heap.size, s.heap, _, D, a, cs, 0, 0) rfl rfl ?_ ?_ s.heap [] _ hP va_S.rf (xl_of hl hlv hln)
  · exact ⟨B.exec, B.bytes, hml, hown, hts, hK, hI, fun i h => Or.inl ⟨i, h, rfl⟩, fun q h => Or.inr h, hrm, Nat.zero_le _, Nat.zero_le _⟩
  · exact ⟨B.returns, B.notSynchronized, rfl, rfl⟩
theorem x_metR {l : Launch} {y : MethodName} {cc : ByteArray} {nL : Nat} {own : String} {ws ws' : List Cond} {rm : Room} {a : Nat → Nat} {M : xMem} {av : List Value} {post : Nat → xMem → Prop} (lv : List (Option Value)) (hy : plainName y.cls = true) (hw : ws = Cond.code y cc nL (some (.array .int)) :: ws') (ho : y.cls = own) (hlen : (lg_sl av).length ≤ nL) (hlv : lv_args 0 av = xps lv 0) (hln : lv.length = nL) (hI : xInj a) (D : va_G) (cs : xCs) (sz : Nat) (hrm : (headSpec ws rm).room = rm)
    (body : ∀ G : xG, xa G = a → xL G = l → xOk G cc own ws rm → xRetR G post → xW G M lv [] 0) : xMetR l y ws rm D a cs sz M av post := by
  refine Met.ofW (cc := cc) (maxL := nL) (ret := some (.array .int)) hy hw ?_
  intro p e s m args below meth c s₁ B hml hv
  obtain ⟨rfl, hsz, hP, hK⟩ := hv
  subst hsz
  have hts := atoms_spec (ws := ws) B.pre
  have hown : s.vm.findClass own = some m.cls := ho ▸ findClass_of_methodNamed B.named
  rw [lg_entry_eq]
  have hl := lv_entry av (n := nL) hlen
  refine body (p, l, e, (headSpec ws rm).room, s, m, av.toArray, below, meth, c, nL, xA a s.heap.size, s.heap, _, D, a, cs, 0, 0) rfl rfl ?_ ?_ s.heap [] _ hP va_S.rf (xl_of hl hlv hln)
  · exact ⟨B.exec, B.bytes, hml, hown, hts, hK, hI, fun i h => Or.inl ⟨i, h, rfl⟩, fun q h => Or.inr h, hrm, Nat.zero_le _, Nat.zero_le _⟩
  · exact ⟨B.returns, B.notSynchronized, rfl, rfl⟩
end XC
/-! loops: a body that says what must hold of the next round -/
def xq1 {A1 : Type} (b : (A1 → Prop) → A1 → Prop) : Nat → A1 → Prop
  | 0 => fun _ => False
  | n + 1 => b (xq1 b n)
def xlp1 {A1 : Type} (b : (A1 → Prop) → A1 → Prop) (x1 : A1) : Prop := ∃ n, xq1 b n x1
theorem xlp1_of {A1 : Type} {b : (A1 → Prop) → A1 → Prop} (I : A1 → Prop) (mu : A1 → Nat) (hs : ∀ (r : A1 → Prop) (x1 : A1), I x1 → (∀ (y1 : A1), I y1 → mu y1 < mu x1 → r y1) → b r x1) {x1 : A1} (h : I x1) : xlp1 b x1 := by
  have key : ∀ k (x1 : A1), I x1 → mu x1 < k → xq1 b k x1 := by
    intro k
    induction k with
    | zero => intro x1 _ h; exact absurd h (Nat.not_lt_zero _)
    | succ k ih => intro x1 h1 h2; exact hs _ x1 h1 (fun y1 h3 h4 => ih y1 h3 (by omega))
  exact ⟨mu x1 + 1, key _ x1 h (Nat.lt_succ_self _)⟩
theorem xlp1_W {A1 : Type} {b : (A1 → Prop) → A1 → Prop} {W : A1 → Prop} (hs : ∀ (r : A1 → Prop), (∀ (x1 : A1), r x1 → W x1) → ∀ (x1 : A1), b r x1 → W x1) : ∀ (x1 : A1), xlp1 b x1 → W x1 := by
  have key : ∀ k (x1 : A1), xq1 b k x1 → W x1 := by
    intro k
    induction k with
    | zero => intro x1 h; exact absurd h id
    | succ k ih => intro x1 h; exact hs _ ih x1 h
  intro x1 h
  obtain ⟨n, h⟩ := h
  exact key n x1 h
def xq2 {A1 A2 : Type} (b : (A1 → A2 → Prop) → A1 → A2 → Prop) : Nat → A1 → A2 → Prop
  | 0 => fun _ _ => False
  | n + 1 => b (xq2 b n)
def xlp2 {A1 A2 : Type} (b : (A1 → A2 → Prop) → A1 → A2 → Prop) (x1 : A1) (x2 : A2) : Prop := ∃ n, xq2 b n x1 x2
theorem xlp2_of {A1 A2 : Type} {b : (A1 → A2 → Prop) → A1 → A2 → Prop} (I : A1 → A2 → Prop) (mu : A1 → A2 → Nat) (hs : ∀ (r : A1 → A2 → Prop) (x1 : A1) (x2 : A2), I x1 x2 → (∀ (y1 : A1) (y2 : A2), I y1 y2 → mu y1 y2 < mu x1 x2 → r y1 y2) → b r x1 x2) {x1 : A1} {x2 : A2} (h : I x1 x2) : xlp2 b x1 x2 := by
  have key : ∀ k (x1 : A1) (x2 : A2), I x1 x2 → mu x1 x2 < k → xq2 b k x1 x2 := by
    intro k
    induction k with
    | zero => intro x1 x2 _ h; exact absurd h (Nat.not_lt_zero _)
    | succ k ih => intro x1 x2 h1 h2; exact hs _ x1 x2 h1 (fun y1 y2 h3 h4 => ih y1 y2 h3 (by omega))
  exact ⟨mu x1 x2 + 1, key _ x1 x2 h (Nat.lt_succ_self _)⟩
theorem xlp2_W {A1 A2 : Type} {b : (A1 → A2 → Prop) → A1 → A2 → Prop} {W : A1 → A2 → Prop} (hs : ∀ (r : A1 → A2 → Prop), (∀ (x1 : A1) (x2 : A2), r x1 x2 → W x1 x2) → ∀ (x1 : A1) (x2 : A2), b r x1 x2 → W x1 x2) : ∀ (x1 : A1) (x2 : A2), xlp2 b x1 x2 → W x1 x2 := by
  have key : ∀ k (x1 : A1) (x2 : A2), xq2 b k x1 x2 → W x1 x2 := by
    intro k
    induction k with
    | zero => intro x1 x2 h; exact absurd h id
    | succ k ih => intro x1 x2 h; exact hs _ ih x1 x2 h
  intro x1 x2 h
  obtain ⟨n, h⟩ := h
  exact key n x1 x2 h
def xq3 {A1 A2 A3 : Type} (b : (A1 → A2 → A3 → Prop) → A1 → A2 → A3 → Prop) : Nat → A1 → A2 → A3 → Prop
  | 0 => fun _ _ _ => False
  | n + 1 => b (xq3 b n)
def xlp3 {A1 A2 A3 : Type} (b : (A1 → A2 → A3 → Prop) → A1 → A2 → A3 → Prop) (x1 : A1) (x2 : A2) (x3 : A3) : Prop := ∃ n, xq3 b n x1 x2 x3
theorem xlp3_of {A1 A2 A3 : Type} {b : (A1 → A2 → A3 → Prop) → A1 → A2 → A3 → Prop} (I : A1 → A2 → A3 → Prop) (mu : A1 → A2 → A3 → Nat) (hs : ∀ (r : A1 → A2 → A3 → Prop) (x1 : A1) (x2 : A2) (x3 : A3), I x1 x2 x3 → (∀ (y1 : A1) (y2 : A2) (y3 : A3), I y1 y2 y3 → mu y1 y2 y3 < mu x1 x2 x3 → r y1 y2 y3) → b r x1 x2 x3) {x1 : A1} {x2 : A2} {x3 : A3} (h : I x1 x2 x3) : xlp3 b x1 x2 x3 := by
  have key : ∀ k (x1 : A1) (x2 : A2) (x3 : A3), I x1 x2 x3 → mu x1 x2 x3 < k → xq3 b k x1 x2 x3 := by
    intro k
    induction k with
    | zero => intro x1 x2 x3 _ h; exact absurd h (Nat.not_lt_zero _)
    | succ k ih => intro x1 x2 x3 h1 h2; exact hs _ x1 x2 x3 h1 (fun y1 y2 y3 h3 h4 => ih y1 y2 y3 h3 (by omega))
  exact ⟨mu x1 x2 x3 + 1, key _ x1 x2 x3 h (Nat.lt_succ_self _)⟩
theorem xlp3_W {A1 A2 A3 : Type} {b : (A1 → A2 → A3 → Prop) → A1 → A2 → A3 → Prop} {W : A1 → A2 → A3 → Prop} (hs : ∀ (r : A1 → A2 → A3 → Prop), (∀ (x1 : A1) (x2 : A2) (x3 : A3), r x1 x2 x3 → W x1 x2 x3) → ∀ (x1 : A1) (x2 : A2) (x3 : A3), b r x1 x2 x3 → W x1 x2 x3) : ∀ (x1 : A1) (x2 : A2) (x3 : A3), xlp3 b x1 x2 x3 → W x1 x2 x3 := by
  have key : ∀ k (x1 : A1) (x2 : A2) (x3 : A3), xq3 b k x1 x2 x3 → W x1 x2 x3 := by
    intro k
    induction k with
    | zero => intro x1 x2 x3 h; exact absurd h id
    | succ k ih => intro x1 x2 x3 h; exact hs _ ih x1 x2 x3 h
  intro x1 x2 x3 h
  obtain ⟨n, h⟩ := h
  exact key n x1 x2 x3 h
def xq4 {A1 A2 A3 A4 : Type} (b : (A1 → A2 → A3 → A4 → Prop) → A1 → A2 → A3 → A4 → Prop) : Nat → A1 → A2 → A3 → A4 → Prop
  | 0 => fun _ _ _ _ => False
  | n + 1 => b (xq4 b n)
def xlp4 {A1 A2 A3 A4 : Type} (b : (A1 → A2 → A3 → A4 → Prop) → A1 → A2 → A3 → A4 → Prop) (x1 : A1) (x2 : A2) (x3 : A3) (x4 : A4) : Prop := ∃ n, xq4 b n x1 x2 x3 x4
theorem xlp4_of {A1 A2 A3 A4 : Type} {b : (A1 → A2 → A3 → A4 → Prop) → A1 → A2 → A3 → A4 → Prop} (I : A1 → A2 → A3 → A4 → Prop) (mu : A1 → A2 → A3 → A4 → Nat) (hs : ∀ (r : A1 → A2 → A3 → A4 → Prop) (x1 : A1) (x2 : A2) (x3 : A3) (x4 : A4), I x1 x2 x3 x4 → (∀ (y1 : A1) (y2 : A2) (y3 : A3) (y4 : A4), I y1 y2 y3 y4 → mu y1 y2 y3 y4 < mu x1 x2 x3 x4 → r y1 y2 y3 y4) → b r x1 x2 x3 x4) {x1 : A1} {x2 : A2} {x3 : A3} {x4 : A4} (h : I x1 x2 x3 x4) : xlp4 b x1 x2 x3 x4 := by
  have key : ∀ k (x1 : A1) (x2 : A2) (x3 : A3) (x4 : A4), I x1 x2 x3 x4 → mu x1 x2 x3 x4 < k → xq4 b k x1 x2 x3 x4 := by
    intro k
    induction k with
    | zero => intro x1 x2 x3 x4 _ h; exact absurd h (Nat.not_lt_zero _)
    | succ k ih => intro x1 x2 x3 x4 h1 h2; exact hs _ x1 x2 x3 x4 h1 (fun y1 y2 y3 y4 h3 h4 => ih y1 y2 y3 y4 h3 (by omega))
  exact ⟨mu x1 x2 x3 x4 + 1, key _ x1 x2 x3 x4 h (Nat.lt_succ_self _)⟩
theorem xlp4_W {A1 A2 A3 A4 : Type} {b : (A1 → A2 → A3 → A4 → Prop) → A1 → A2 → A3 → A4 → Prop} {W : A1 → A2 → A3 → A4 → Prop} (hs : ∀ (r : A1 → A2 → A3 → A4 → Prop), (∀ (x1 : A1) (x2 : A2) (x3 : A3) (x4 : A4), r x1 x2 x3 x4 → W x1 x2 x3 x4) → ∀ (x1 : A1) (x2 : A2) (x3 : A3) (x4 : A4), b r x1 x2 x3 x4 → W x1 x2 x3 x4) : ∀ (x1 : A1) (x2 : A2) (x3 : A3) (x4 : A4), xlp4 b x1 x2 x3 x4 → W x1 x2 x3 x4 := by
  have key : ∀ k (x1 : A1) (x2 : A2) (x3 : A3) (x4 : A4), xq4 b k x1 x2 x3 x4 → W x1 x2 x3 x4 := by
    intro k
    induction k with
    | zero => intro x1 x2 x3 x4 h; exact absurd h id
    | succ k ih => intro x1 x2 x3 x4 h; exact hs _ ih x1 x2 x3 x4 h
  intro x1 x2 x3 x4 h
  obtain ⟨n, h⟩ := h
  exact key n x1 x2 x3 x4 h
def xq5 {A1 A2 A3 A4 A5 : Type} (b : (A1 → A2 → A3 → A4 → A5 → Prop) → A1 → A2 → A3 → A4 → A5 → Prop) : Nat → A1 → A2 → A3 → A4 → A5 → Prop
  | 0 => fun _ _ _ _ _ => False
  | n + 1 => b (xq5 b n)
def xlp5 {A1 A2 A3 A4 A5 : Type} (b : (A1 → A2 → A3 → A4 → A5 → Prop) → A1 → A2 → A3 → A4 → A5 → Prop) (x1 : A1) (x2 : A2) (x3 : A3) (x4 : A4) (x5 : A5) : Prop := ∃ n, xq5 b n x1 x2 x3 x4 x5
theorem xlp5_of {A1 A2 A3 A4 A5 : Type} {b : (A1 → A2 → A3 → A4 → A5 → Prop) → A1 → A2 → A3 → A4 → A5 → Prop} (I : A1 → A2 → A3 → A4 → A5 → Prop) (mu : A1 → A2 → A3 → A4 → A5 → Nat) (hs : ∀ (r : A1 → A2 → A3 → A4 → A5 → Prop) (x1 : A1) (x2 : A2) (x3 : A3) (x4 : A4) (x5 : A5), I x1 x2 x3 x4 x5 → (∀ (y1 : A1) (y2 : A2) (y3 : A3) (y4 : A4) (y5 : A5), I y1 y2 y3 y4 y5 → mu y1 y2 y3 y4 y5 < mu x1 x2 x3 x4 x5 → r y1 y2 y3 y4 y5) → b r x1 x2 x3 x4 x5) {x1 : A1} {x2 : A2} {x3 : A3} {x4 : A4} {x5 : A5} (h : I x1 x2 x3 x4 x5) : xlp5 b x1 x2 x3 x4 x5 := by
  have key : ∀ k (x1 : A1) (x2 : A2) (x3 : A3) (x4 : A4) (x5 : A5), I x1 x2 x3 x4 x5 → mu x1 x2 x3 x4 x5 < k → xq5 b k x1 x2 x3 x4 x5 := by
    intro k
    induction k with
    | zero => intro x1 x2 x3 x4 x5 _ h; exact absurd h (Nat.not_lt_zero _)
    | succ k ih => intro x1 x2 x3 x4 x5 h1 h2; exact hs _ x1 x2 x3 x4 x5 h1 (fun y1 y2 y3 y4 y5 h3 h4 => ih y1 y2 y3 y4 y5 h3 (by omega))
  exact ⟨mu x1 x2 x3 x4 x5 + 1, key _ x1 x2 x3 x4 x5 h (Nat.lt_succ_self _)⟩
theorem xlp5_W {A1 A2 A3 A4 A5 : Type} {b : (A1 → A2 → A3 → A4 → A5 → Prop) → A1 → A2 → A3 → A4 → A5 → Prop} {W : A1 → A2 → A3 → A4 → A5 → Prop} (hs : ∀ (r : A1 → A2 → A3 → A4 → A5 → Prop), (∀ (x1 : A1) (x2 : A2) (x3 : A3) (x4 : A4) (x5 : A5), r x1 x2 x3 x4 x5 → W x1 x2 x3 x4 x5) → ∀ (x1 : A1) (x2 : A2) (x3 : A3) (x4 : A4) (x5 : A5), b r x1 x2 x3 x4 x5 → W x1 x2 x3 x4 x5) : ∀ (x1 : A1) (x2 : A2) (x3 : A3) (x4 : A4) (x5 : A5), xlp5 b x1 x2 x3 x4 x5 → W x1 x2 x3 x4 x5 := by
  have key : ∀ k (x1 : A1) (x2 : A2) (x3 : A3) (x4 : A4) (x5 : A5), xq5 b k x1 x2 x3 x4 x5 → W x1 x2 x3 x4 x5 := by
    intro k
    induction k with
    | zero => intro x1 x2 x3 x4 x5 h; exact absurd h id
    | succ k ih => intro x1 x2 x3 x4 x5 h; exact hs _ ih x1 x2 x3 x4 x5 h
  intro x1 x2 x3 x4 x5 h
  obtain ⟨n, h⟩ := h
  exact key n x1 x2 x3 x4 x5 h
def xq6 {A1 A2 A3 A4 A5 A6 : Type} (b : (A1 → A2 → A3 → A4 → A5 → A6 → Prop) → A1 → A2 → A3 → A4 → A5 → A6 → Prop) : Nat → A1 → A2 → A3 → A4 → A5 → A6 → Prop
  | 0 => fun _ _ _ _ _ _ => False
  | n + 1 => b (xq6 b n)
def xlp6 {A1 A2 A3 A4 A5 A6 : Type} (b : (A1 → A2 → A3 → A4 → A5 → A6 → Prop) → A1 → A2 → A3 → A4 → A5 → A6 → Prop) (x1 : A1) (x2 : A2) (x3 : A3) (x4 : A4) (x5 : A5) (x6 : A6) : Prop := ∃ n, xq6 b n x1 x2 x3 x4 x5 x6
theorem xlp6_of {A1 A2 A3 A4 A5 A6 : Type} {b : (A1 → A2 → A3 → A4 → A5 → A6 → Prop) → A1 → A2 → A3 → A4 → A5 → A6 → Prop} (I : A1 → A2 → A3 → A4 → A5 → A6 → Prop) (mu : A1 → A2 → A3 → A4 → A5 → A6 → Nat) (hs : ∀ (r : A1 → A2 → A3 → A4 → A5 → A6 → Prop) (x1 : A1) (x2 : A2) (x3 : A3) (x4 : A4) (x5 : A5) (x6 : A6), I x1 x2 x3 x4 x5 x6 → (∀ (y1 : A1) (y2 : A2) (y3 : A3) (y4 : A4) (y5 : A5) (y6 : A6), I y1 y2 y3 y4 y5 y6 → mu y1 y2 y3 y4 y5 y6 < mu x1 x2 x3 x4 x5 x6 → r y1 y2 y3 y4 y5 y6) → b r x1 x2 x3 x4 x5 x6) {x1 : A1} {x2 : A2} {x3 : A3} {x4 : A4} {x5 : A5} {x6 : A6} (h : I x1 x2 x3 x4 x5 x6) : xlp6 b x1 x2 x3 x4 x5 x6 := by
  have key : ∀ k (x1 : A1) (x2 : A2) (x3 : A3) (x4 : A4) (x5 : A5) (x6 : A6), I x1 x2 x3 x4 x5 x6 → mu x1 x2 x3 x4 x5 x6 < k → xq6 b k x1 x2 x3 x4 x5 x6 := by
    intro k
    induction k with
    | zero => intro x1 x2 x3 x4 x5 x6 _ h; exact absurd h (Nat.not_lt_zero _)
    | succ k ih => intro x1 x2 x3 x4 x5 x6 h1 h2; exact hs _ x1 x2 x3 x4 x5 x6 h1 (fun y1 y2 y3 y4 y5 y6 h3 h4 => ih y1 y2 y3 y4 y5 y6 h3 (by omega))
  exact ⟨mu x1 x2 x3 x4 x5 x6 + 1, key _ x1 x2 x3 x4 x5 x6 h (Nat.lt_succ_self _)⟩
theorem xlp6_W {A1 A2 A3 A4 A5 A6 : Type} {b : (A1 → A2 → A3 → A4 → A5 → A6 → Prop) → A1 → A2 → A3 → A4 → A5 → A6 → Prop} {W : A1 → A2 → A3 → A4 → A5 → A6 → Prop} (hs : ∀ (r : A1 → A2 → A3 → A4 → A5 → A6 → Prop), (∀ (x1 : A1) (x2 : A2) (x3 : A3) (x4 : A4) (x5 : A5) (x6 : A6), r x1 x2 x3 x4 x5 x6 → W x1 x2 x3 x4 x5 x6) → ∀ (x1 : A1) (x2 : A2) (x3 : A3) (x4 : A4) (x5 : A5) (x6 : A6), b r x1 x2 x3 x4 x5 x6 → W x1 x2 x3 x4 x5 x6) : ∀ (x1 : A1) (x2 : A2) (x3 : A3) (x4 : A4) (x5 : A5) (x6 : A6), xlp6 b x1 x2 x3 x4 x5 x6 → W x1 x2 x3 x4 x5 x6 := by
  have key : ∀ k (x1 : A1) (x2 : A2) (x3 : A3) (x4 : A4) (x5 : A5) (x6 : A6), xq6 b k x1 x2 x3 x4 x5 x6 → W x1 x2 x3 x4 x5 x6 := by
    intro k
    induction k with
    | zero => intro x1 x2 x3 x4 x5 x6 h; exact absurd h id
    | succ k ih => intro x1 x2 x3 x4 x5 x6 h; exact hs _ ih x1 x2 x3 x4 x5 x6 h
  intro x1 x2 x3 x4 x5 x6 h
  obtain ⟨n, h⟩ := h
  exact key n x1 x2 x3 x4 x5 x6 h
def xq7 {A1 A2 A3 A4 A5 A6 A7 : Type} (b : (A1 → A2 → A3 → A4 → A5 → A6 → A7 → Prop) → A1 → A2 → A3 → A4 → A5 → A6 → A7 → Prop) : Nat → A1 → A2 → A3 → A4 → A5 → A6 → A7 → Prop
  | 0 => fun _ _ _ _ _ _ _ => False
  | n + 1 => b (xq7 b n)
def xlp7 {A1 A2 A3 A4 A5 A6 A7 : Type} (b : (A1 → A2 → A3 → A4 → A5 → A6 → A7 → Prop) → A1 → A2 → A3 → A4 → A5 → A6 → A7 → Prop) (x1 : A1) (x2 : A2) (x3 : A3) (x4 : A4) (x5 : A5) (x6 : A6) (x7 : A7) : Prop := ∃ n, xq7 b n x1 x2 x3 x4 x5 x6 x7
theorem xlp7_of {A1 A2 A3 A4 A5 A6 A7 : Type} {b : (A1 → A2 → A3 → A4 → A5 → A6 → A7 → Prop) → A1 → A2 → A3 → A4 → A5 → A6 → A7 → Prop} (I : A1 → A2 → A3 → A4 → A5 → A6 → A7 → Prop) (mu : A1 → A2 → A3 → A4 → A5 → A6 → A7 → Nat) (hs : ∀ (r : A1 → A2 → A3 → A4 → A5 → A6 → A7 → Prop) (x1 : A1) (x2 : A2) (x3 : A3) (x4 : A4) (x5 : A5) (x6 : A6) (x7 : A7), I x1 x2 x3 x4 x5 x6 x7 → (∀ (y1 : A1) (y2 : A2) (y3 : A3) (y4 : A4) (y5 : A5) (y6 : A6) (y7 : A7), I y1 y2 y3 y4 y5 y6 y7 → mu y1 y2 y3 y4 y5 y6 y7 < mu x1 x2 x3 x4 x5 x6 x7 → r y1 y2 y3 y4 y5 y6 y7) → b r x1 x2 x3 x4 x5 x6 x7) {x1 : A1} {x2 : A2} {x3 : A3} {x4 : A4} {x5 : A5} {x6 : A6} {x7 : A7} (h : I x1 x2 x3 x4 x5 x6 x7) : xlp7 b x1 x2 x3 x4 x5 x6 x7 := by
  have key : ∀ k (x1 : A1) (x2 : A2) (x3 : A3) (x4 : A4) (x5 : A5) (x6 : A6) (x7 : A7), I x1 x2 x3 x4 x5 x6 x7 → mu x1 x2 x3 x4 x5 x6 x7 < k → xq7 b k x1 x2 x3 x4 x5 x6 x7 := by
    intro k
    induction k with
    | zero => intro x1 x2 x3 x4 x5 x6 x7 _ h; exact absurd h (Nat.not_lt_zero _)
    | succ k ih => intro x1 x2 x3 x4 x5 x6 x7 h1 h2; exact hs _ x1 x2 x3 x4 x5 x6 x7 h1 (fun y1 y2 y3 y4 y5 y6 y7 h3 h4 => ih y1 y2 y3 y4 y5 y6 y7 h3 (by omega))
  exact ⟨mu x1 x2 x3 x4 x5 x6 x7 + 1, key _ x1 x2 x3 x4 x5 x6 x7 h (Nat.lt_succ_self _)⟩
theorem xlp7_W {A1 A2 A3 A4 A5 A6 A7 : Type} {b : (A1 → A2 → A3 → A4 → A5 → A6 → A7 → Prop) → A1 → A2 → A3 → A4 → A5 → A6 → A7 → Prop} {W : A1 → A2 → A3 → A4 → A5 → A6 → A7 → Prop} (hs : ∀ (r : A1 → A2 → A3 → A4 → A5 → A6 → A7 → Prop), (∀ (x1 : A1) (x2 : A2) (x3 : A3) (x4 : A4) (x5 : A5) (x6 : A6) (x7 : A7), r x1 x2 x3 x4 x5 x6 x7 → W x1 x2 x3 x4 x5 x6 x7) → ∀ (x1 : A1) (x2 : A2) (x3 : A3) (x4 : A4) (x5 : A5) (x6 : A6) (x7 : A7), b r x1 x2 x3 x4 x5 x6 x7 → W x1 x2 x3 x4 x5 x6 x7) : ∀ (x1 : A1) (x2 : A2) (x3 : A3) (x4 : A4) (x5 : A5) (x6 : A6) (x7 : A7), xlp7 b x1 x2 x3 x4 x5 x6 x7 → W x1 x2 x3 x4 x5 x6 x7 := by
  have key : ∀ k (x1 : A1) (x2 : A2) (x3 : A3) (x4 : A4) (x5 : A5) (x6 : A6) (x7 : A7), xq7 b k x1 x2 x3 x4 x5 x6 x7 → W x1 x2 x3 x4 x5 x6 x7 := by
    intro k
    induction k with
    | zero => intro x1 x2 x3 x4 x5 x6 x7 h; exact absurd h id
    | succ k ih => intro x1 x2 x3 x4 x5 x6 x7 h; exact hs _ ih x1 x2 x3 x4 x5 x6 x7 h
  intro x1 x2 x3 x4 x5 x6 x7 h
  obtain ⟨n, h⟩ := h
  exact key n x1 x2 x3 x4 x5 x6 x7 h
def xq8 {A1 A2 A3 A4 A5 A6 A7 A8 : Type} (b : (A1 → A2 → A3 → A4 → A5 → A6 → A7 → A8 → Prop) → A1 → A2 → A3 → A4 → A5 → A6 → A7 → A8 → Prop) : Nat → A1 → A2 → A3 → A4 → A5 → A6 → A7 → A8 → Prop
  | 0 => fun _ _ _ _ _ _ _ _ => False
  | n + 1 => b (xq8 b n)
def xlp8 {A1 A2 A3 A4 A5 A6 A7 A8 : Type} (b : (A1 → A2 → A3 → A4 → A5 → A6 → A7 → A8 → Prop) → A1 → A2 → A3 → A4 → A5 → A6 → A7 → A8 → Prop) (x1 : A1) (x2 : A2) (x3 : A3) (x4 : A4) (x5 : A5) (x6 : A6) (x7 : A7) (x8 : A8) : Prop := ∃ n, xq8 b n x1 x2 x3 x4 x5 x6 x7 x8
theorem xlp8_of {A1 A2 A3 A4 A5 A6 A7 A8 : Type} {b : (A1 → A2 → A3 → A4 → A5 → A6 → A7 → A8 → Prop) → A1 → A2 → A3 → A4 → A5 → A6 → A7 → A8 → Prop} (I : A1 → A2 → A3 → A4 → A5 → A6 → A7 → A8 → Prop) (mu : A1 → A2 → A3 → A4 → A5 → A6 → A7 → A8 → Nat) (hs : ∀ (r : A1 → A2 → A3 → A4 → A5 → A6 → A7 → A8 → Prop) (x1 : A1) (x2 : A2) (x3 : A3) (x4 : A4) (x5 : A5) (x6 : A6) (x7 : A7) (x8 : A8), I x1 x2 x3 x4 x5 x6 x7 x8 → (∀ (y1 : A1) (y2 : A2) (y3 : A3) (y4 : A4) (y5 : A5) (y6 : A6) (y7 : A7) (y8 : A8), I y1 y2 y3 y4 y5 y6 y7 y8 → mu y1 y2 y3 y4 y5 y6 y7 y8 < mu x1 x2 x3 x4 x5 x6 x7 x8 → r y1 y2 y3 y4 y5 y6 y7 y8) → b r x1 x2 x3 x4 x5 x6 x7 x8) {x1 : A1} {x2 : A2} {x3 : A3} {x4 : A4} {x5 : A5} {x6 : A6} {x7 : A7} {x8 : A8} (h : I x1 x2 x3 x4 x5 x6 x7 x8) : xlp8 b x1 x2 x3 x4 x5 x6 x7 x8 := by
  have key : ∀ k (x1 : A1) (x2 : A2) (x3 : A3) (x4 : A4) (x5 : A5) (x6 : A6) (x7 : A7) (x8 : A8), I x1 x2 x3 x4 x5 x6 x7 x8 → mu x1 x2 x3 x4 x5 x6 x7 x8 < k → xq8 b k x1 x2 x3 x4 x5 x6 x7 x8 := by
    intro k
    induction k with
    | zero => intro x1 x2 x3 x4 x5 x6 x7 x8 _ h; exact absurd h (Nat.not_lt_zero _)
    | succ k ih => intro x1 x2 x3 x4 x5 x6 x7 x8 h1 h2; exact hs _ x1 x2 x3 x4 x5 x6 x7 x8 h1 (fun y1 y2 y3 y4 y5 y6 y7 y8 h3 h4 => ih y1 y2 y3 y4 y5 y6 y7 y8 h3 (by omega))
  exact ⟨mu x1 x2 x3 x4 x5 x6 x7 x8 + 1, key _ x1 x2 x3 x4 x5 x6 x7 x8 h (Nat.lt_succ_self _)⟩
theorem xlp8_W {A1 A2 A3 A4 A5 A6 A7 A8 : Type} {b : (A1 → A2 → A3 → A4 → A5 → A6 → A7 → A8 → Prop) → A1 → A2 → A3 → A4 → A5 → A6 → A7 → A8 → Prop} {W : A1 → A2 → A3 → A4 → A5 → A6 → A7 → A8 → Prop} (hs : ∀ (r : A1 → A2 → A3 → A4 → A5 → A6 → A7 → A8 → Prop), (∀ (x1 : A1) (x2 : A2) (x3 : A3) (x4 : A4) (x5 : A5) (x6 : A6) (x7 : A7) (x8 : A8), r x1 x2 x3 x4 x5 x6 x7 x8 → W x1 x2 x3 x4 x5 x6 x7 x8) → ∀ (x1 : A1) (x2 : A2) (x3 : A3) (x4 : A4) (x5 : A5) (x6 : A6) (x7 : A7) (x8 : A8), b r x1 x2 x3 x4 x5 x6 x7 x8 → W x1 x2 x3 x4 x5 x6 x7 x8) : ∀ (x1 : A1) (x2 : A2) (x3 : A3) (x4 : A4) (x5 : A5) (x6 : A6) (x7 : A7) (x8 : A8), xlp8 b x1 x2 x3 x4 x5 x6 x7 x8 → W x1 x2 x3 x4 x5 x6 x7 x8 := by
  have key : ∀ k (x1 : A1) (x2 : A2) (x3 : A3) (x4 : A4) (x5 : A5) (x6 : A6) (x7 : A7) (x8 : A8), xq8 b k x1 x2 x3 x4 x5 x6 x7 x8 → W x1 x2 x3 x4 x5 x6 x7 x8 := by
    intro k
    induction k with
    | zero => intro x1 x2 x3 x4 x5 x6 x7 x8 h; exact absurd h id
    | succ k ih => intro x1 x2 x3 x4 x5 x6 x7 x8 h; exact hs _ ih x1 x2 x3 x4 x5 x6 x7 x8 h
  intro x1 x2 x3 x4 x5 x6 x7 x8 h
  obtain ⟨n, h⟩ := h
  exact key n x1 x2 x3 x4 x5 x6 x7 x8 h
def xq9 {A1 A2 A3 A4 A5 A6 A7 A8 A9 : Type} (b : (A1 → A2 → A3 → A4 → A5 → A6 → A7 → A8 → A9 → Prop) → A1 → A2 → A3 → A4 → A5 → A6 → A7 → A8 → A9 → Prop) : Nat → A1 → A2 → A3 → A4 → A5 → A6 → A7 → A8 → A9 → Prop
  | 0 => fun _ _ _ _ _ _ _ _ _ => False
  | n + 1 => b (xq9 b n)
def xlp9 {A1 A2 A3 A4 A5 A6 A7 A8 A9 : Type} (b : (A1 → A2 → A3 → A4 → A5 → A6 → A7 → A8 → A9 → Prop) → A1 → A2 → A3 → A4 → A5 → A6 → A7 → A8 → A9 → Prop) (x1 : A1) (x2 : A2) (x3 : A3) (x4 : A4) (x5 : A5) (x6 : A6) (x7 : A7) (x8 : A8) (x9 : A9) : Prop := ∃ n, xq9 b n x1 x2 x3 x4 x5 x6 x7 x8 x9
theorem xlp9_of {A1 A2 A3 A4 A5 A6 A7 A8 A9 : Type} {b : (A1 → A2 → A3 → A4 → A5 → A6 → A7 → A8 → A9 → Prop) → A1 → A2 → A3 → A4 → A5 → A6 → A7 → A8 → A9 → Prop} (I : A1 → A2 → A3 → A4 → A5 → A6 → A7 → A8 → A9 → Prop) (mu : A1 → A2 → A3 → A4 → A5 → A6 → A7 → A8 → A9 → Nat) (hs : ∀ (r : A1 → A2 → A3 → A4 → A5 → A6 → A7 → A8 → A9 → Prop) (x1 : A1) (x2 : A2) (x3 : A3) (x4 : A4) (x5 : A5) (x6 : A6) (x7 : A7) (x8 : A8) (x9 : A9), I x1 x2 x3 x4 x5 x6 x7 x8 x9 → (∀ (y1 : A1) (y2 : A2) (y3 : A3) (y4 : A4) (y5 : A5) (y6 : A6) (y7 : A7) (y8 : A8) (y9 : A9), I y1 y2 y3 y4 y5 y6 y7 y8 y9 → mu y1 y2 y3 y4 y5 y6 y7 y8 y9 < mu x1 x2 x3 x4 x5 x6 x7 x8 x9 → r y1 y2 y3 y4 y5 y6 y7 y8 y9) → b r x1 x2 x3 x4 x5 x6 x7 x8 x9) {x1 : A1} {x2 : A2} {x3 : A3} {x4 : A4} {x5 : A5} {x6 : A6} {x7 : A7} {x8 : A8} {x9 : A9} (h : I x1 x2 x3 x4 x5 x6 x7 x8 x9) : xlp9 b x1 x2 x3 x4 x5 x6 x7 x8 x9 := by
  have key : ∀ k (x1 : A1) (x2 : A2) (x3 : A3) (x4 : A4) (x5 : A5) (x6 : A6) (x7 : A7) (x8 : A8) (x9 : A9), I x1 x2 x3 x4 x5 x6 x7 x8 x9 → mu x1 x2 x3 x4 x5 x6 x7 x8 x9 < k → xq9 b k x1 x2 x3 x4 x5 x6 x7 x8 x9 := by
    intro k
    induction k with
    | zero => intro x1 x2 x3 x4 x5 x6 x7 x8 x9 _ h; exact absurd h (Nat.not_lt_zero _)
    | succ k ih => intro x1 x2 x3 x4 x5 x6 x7 x8 x9 h1 h2; exact hs _ x1 x2 x3 x4 x5 x6 x7 x8 x9 h1 (fun y1 y2 y3 y4 y5 y6 y7 y8 y9 h3 h4 => ih y1 y2 y3 y4 y5 y6 y7 y8 y9 h3 (by omega))
  exact ⟨mu x1 x2 x3 x4 x5 x6 x7 x8 x9 + 1, key _ x1 x2 x3 x4 x5 x6 x7 x8 x9 h (Nat.lt_succ_self _)⟩
theorem xlp9_W {A1 A2 A3 A4 A5 A6 A7 A8 A9 : Type} {b : (A1 → A2 → A3 → A4 → A5 → A6 → A7 → A8 → A9 → Prop) → A1 → A2 → A3 → A4 → A5 → A6 → A7 → A8 → A9 → Prop} {W : A1 → A2 → A3 → A4 → A5 → A6 → A7 → A8 → A9 → Prop} (hs : ∀ (r : A1 → A2 → A3 → A4 → A5 → A6 → A7 → A8 → A9 → Prop), (∀ (x1 : A1) (x2 : A2) (x3 : A3) (x4 : A4) (x5 : A5) (x6 : A6) (x7 : A7) (x8 : A8) (x9 : A9), r x1 x2 x3 x4 x5 x6 x7 x8 x9 → W x1 x2 x3 x4 x5 x6 x7 x8 x9) → ∀ (x1 : A1) (x2 : A2) (x3 : A3) (x4 : A4) (x5 : A5) (x6 : A6) (x7 : A7) (x8 : A8) (x9 : A9), b r x1 x2 x3 x4 x5 x6 x7 x8 x9 → W x1 x2 x3 x4 x5 x6 x7 x8 x9) : ∀ (x1 : A1) (x2 : A2) (x3 : A3) (x4 : A4) (x5 : A5) (x6 : A6) (x7 : A7) (x8 : A8) (x9 : A9), xlp9 b x1 x2 x3 x4 x5 x6 x7 x8 x9 → W x1 x2 x3 x4 x5 x6 x7 x8 x9 := by
  have key : ∀ k (x1 : A1) (x2 : A2) (x3 : A3) (x4 : A4) (x5 : A5) (x6 : A6) (x7 : A7) (x8 : A8) (x9 : A9), xq9 b k x1 x2 x3 x4 x5 x6 x7 x8 x9 → W x1 x2 x3 x4 x5 x6 x7 x8 x9 := by
    intro k
    induction k with
    | zero => intro x1 x2 x3 x4 x5 x6 x7 x8 x9 h; exact absurd h id
    | succ k ih => intro x1 x2 x3 x4 x5 x6 x7 x8 x9 h; exact hs _ ih x1 x2 x3 x4 x5 x6 x7 x8 x9 h
  intro x1 x2 x3 x4 x5 x6 x7 x8 x9 h
  obtain ⟨n, h⟩ := h
  exact key n x1 x2 x3 x4 x5 x6 x7 x8 x9 h
def xq10 {A1 A2 A3 A4 A5 A6 A7 A8 A9 A10 : Type} (b : (A1 → A2 → A3 → A4 → A5 → A6 → A7 → A8 → A9 → A10 → Prop) → A1 → A2 → A3 → A4 → A5 → A6 → A7 → A8 → A9 → A10 → Prop) : Nat → A1 → A2 → A3 → A4 → A5 → A6 → A7 → A8 → A9 → A10 → Prop
  | 0 => fun _ _ _ _ _ _ _ _ _ _ => False
  | n + 1 => b (xq10 b n)
def xlp10 {A1 A2 A3 A4 A5 A6 A7 A8 A9 A10 : Type} (b : (A1 → A2 → A3 → A4 → A5 → A6 → A7 → A8 → A9 → A10 → Prop) → A1 → A2 → A3 → A4 → A5 → A6 → A7 → A8 → A9 → A10 → Prop) (x1 : A1) (x2 : A2) (x3 : A3) (x4 : A4) (x5 : A5) (x6 : A6) (x7 : A7) (x8 : A8) (x9 : A9) (x10 : A10) : Prop := ∃ n, xq10 b n x1 x2 x3 x4 x5 x6 x7 x8 x9 x10
theorem xlp10_of {A1 A2 A3 A4 A5 A6 A7 A8 A9 A10 : Type} {b : (A1 → A2 → A3 → A4 → A5 → A6 → A7 → A8 → A9 → A10 → Prop) → A1 → A2 → A3 → A4 → A5 → A6 → A7 → A8 → A9 → A10 → Prop} (I : A1 → A2 → A3 → A4 → A5 → A6 → A7 → A8 → A9 → A10 → Prop) (mu : A1 → A2 → A3 → A4 → A5 → A6 → A7 → A8 → A9 → A10 → Nat) (hs : ∀ (r : A1 → A2 → A3 → A4 → A5 → A6 → A7 → A8 → A9 → A10 → Prop) (x1 : A1) (x2 : A2) (x3 : A3) (x4 : A4) (x5 : A5) (x6 : A6) (x7 : A7) (x8 : A8) (x9 : A9) (x10 : A10), I x1 x2 x3 x4 x5 x6 x7 x8 x9 x10 → (∀ (y1 : A1) (y2 : A2) (y3 : A3) (y4 : A4) (y5 : A5) (y6 : A6) (y7 : A7) (y8 : A8) (y9 : A9) (y10 : A10), I y1 y2 y3 y4 y5 y6 y7 y8 y9 y10 → mu y1 y2 y3 y4 y5 y6 y7 y8 y9 y10 < mu x1 x2 x3 x4 x5 x6 x7 x8 x9 x10 → r y1 y2 y3 y4 y5 y6 y7 y8 y9 y10) → b r x1 x2 x3 x4 x5 x6 x7 x8 x9 x10) {x1 : A1} {x2 : A2} {x3 : A3} {x4 : A4} {x5 : A5} {x6 : A6} {x7 : A7} {x8 : A8} {x9 : A9} {x10 : A10} (h : I x1 x2 x3 x4 x5 x6 x7 x8 x9 x10) : xlp10 b x1 x2 x3 x4 x5 x6 x7 x8 x9 x10 := by
  have key : ∀ k (x1 : A1) (x2 : A2) (x3 : A3) (x4 : A4) (x5 : A5) (x6 : A6) (x7 : A7) (x8 : A8) (x9 : A9) (x10 : A10), I x1 x2 x3 x4 x5 x6 x7 x8 x9 x10 → mu x1 x2 x3 x4 x5 x6 x7 x8 x9 x10 < k → xq10 b k x1 x2 x3 x4 x5 x6 x7 x8 x9 x10 := by
    intro k
    induction k with
    | zero => intro x1 x2 x3 x4 x5 x6 x7 x8 x9 x10 _ h; exact absurd h (Nat.not_lt_zero _)
    | succ k ih => intro x1 x2 x3 x4 x5 x6 x7 x8 x9 x10 h1 h2; exact hs _ x1 x2 x3 x4 x5 x6 x7 x8 x9 x10 h1 (fun y1 y2 y3 y4 y5 y6 y7 y8 y9 y10 h3 h4 => ih y1 y2 y3 y4 y5 y6 y7 y8 y9 y10 h3 (by omega))
  exact ⟨mu x1 x2 x3 x4 x5 x6 x7 x8 x9 x10 + 1, key _ x1 x2 x3 x4 x5 x6 x7 x8 x9 x10 h (Nat.lt_succ_self _)⟩
theorem xlp10_W {A1 A2 A3 A4 A5 A6 A7 A8 A9 A10 : Type} {b : (A1 → A2 → A3 → A4 → A5 → A6 → A7 → A8 → A9 → A10 → Prop) → A1 → A2 → A3 → A4 → A5 → A6 → A7 → A8 → A9 → A10 → Prop} {W : A1 → A2 → A3 → A4 → A5 → A6 → A7 → A8 → A9 → A10 → Prop} (hs : ∀ (r : A1 → A2 → A3 → A4 → A5 → A6 → A7 → A8 → A9 → A10 → Prop), (∀ (x1 : A1) (x2 : A2) (x3 : A3) (x4 : A4) (x5 : A5) (x6 : A6) (x7 : A7) (x8 : A8) (x9 : A9) (x10 : A10), r x1 x2 x3 x4 x5 x6 x7 x8 x9 x10 → W x1 x2 x3 x4 x5 x6 x7 x8 x9 x10) → ∀ (x1 : A1) (x2 : A2) (x3 : A3) (x4 : A4) (x5 : A5) (x6 : A6) (x7 : A7) (x8 : A8) (x9 : A9) (x10 : A10), b r x1 x2 x3 x4 x5 x6 x7 x8 x9 x10 → W x1 x2 x3 x4 x5 x6 x7 x8 x9 x10) : ∀ (x1 : A1) (x2 : A2) (x3 : A3) (x4 : A4) (x5 : A5) (x6 : A6) (x7 : A7) (x8 : A8) (x9 : A9) (x10 : A10), xlp10 b x1 x2 x3 x4 x5 x6 x7 x8 x9 x10 → W x1 x2 x3 x4 x5 x6 x7 x8 x9 x10 := by
  have key : ∀ k (x1 : A1) (x2 : A2) (x3 : A3) (x4 : A4) (x5 : A5) (x6 : A6) (x7 : A7) (x8 : A8) (x9 : A9) (x10 : A10), xq10 b k x1 x2 x3 x4 x5 x6 x7 x8 x9 x10 → W x1 x2 x3 x4 x5 x6 x7 x8 x9 x10 := by
    intro k
    induction k with
    | zero => intro x1 x2 x3 x4 x5 x6 x7 x8 x9 x10 h; exact absurd h id
    | succ k ih => intro x1 x2 x3 x4 x5 x6 x7 x8 x9 x10 h; exact hs _ ih x1 x2 x3 x4 x5 x6 x7 x8 x9 x10 h
  intro x1 x2 x3 x4 x5 x6 x7 x8 x9 x10 h
  obtain ⟨n, h⟩ := h
  exact key n x1 x2 x3 x4 x5 x6 x7 x8 x9 x10 h
def xq11 {A1 A2 A3 A4 A5 A6 A7 A8 A9 A10 A11 : Type} (b : (A1 → A2 → A3 → A4 → A5 → A6 → A7 → A8 → A9 → A10 → A11 → Prop) → A1 → A2 → A3 → A4 → A5 → A6 → A7 → A8 → A9 → A10 → A11 → Prop) : Nat → A1 → A2 → A3 → A4 → A5 → A6 → A7 → A8 → A9 → A10 → A11 → Prop
  | 0 => fun _ _ _ _ _ _ _ _ _ _ _ => False
  | n + 1 => b (xq11 b n)
def xlp11 {A1 A2 A3 A4 A5 A6 A7 A8 A9 A10 A11 : Type} (b : (A1 → A2 → A3 → A4 → A5 → A6 → A7 → A8 → A9 → A10 → A11 → Prop) → A1 → A2 → A3 → A4 → A5 → A6 → A7 → A8 → A9 → A10 → A11 → Prop) (x1 : A1) (x2 : A2) (x3 : A3) (x4 : A4) (x5 : A5) (x6 : A6) (x7 : A7) (x8 : A8) (x9 : A9) (x10 : A10) (x11 : A11) : Prop := ∃ n, xq11 b n x1 x2 x3 x4 x5 x6 x7 x8 x9 x10 x11
theorem xlp11_of {A1 A2 A3 A4 A5 A6 A7 A8 A9 A10 A11 : Type} {b : (A1 → A2 → A3 → A4 → A5 → A6 → A7 → A8 → A9 → A10 → A11 → Prop) → A1 → A2 → A3 → A4 → A5 → A6 → A7 → A8 → A9 → A10 → A11 → Prop} (I : A1 → A2 → A3 → A4 → A5 → A6 → A7 → A8 → A9 → A10 → A11 → Prop) (mu : A1 → A2 → A3 → A4 → A5 → A6 → A7 → A8 → A9 → A10 → A11 → Nat) (hs : ∀ (r : A1 → A2 → A3 → A4 → A5 → A6 → A7 → A8 → A9 → A10 → A11 → Prop) (x1 : A1) (x2 : A2) (x3 : A3) (x4 : A4) (x5 : A5) (x6 : A6) (x7 : A7) (x8 : A8) (x9 : A9) (x10 : A10) (x11 : A11), I x1 x2 x3 x4 x5 x6 x7 x8 x9 x10 x11 → (∀ (y1 : A1) (y2 : A2) (y3 : A3) (y4 : A4) (y5 : A5) (y6 : A6) (y7 : A7) (y8 : A8) (y9 : A9) (y10 : A10) (y11 : A11), I y1 y2 y3 y4 y5 y6 y7 y8 y9 y10 y11 → mu y1 y2 y3 y4 y5 y6 y7 y8 y9 y10 y11 < mu x1 x2 x3 x4 x5 x6 x7 x8 x9 x10 x11 → r y1 y2 y3 y4 y5 y6 y7 y8 y9 y10 y11) → b r x1 x2 x3 x4 x5 x6 x7 x8 x9 x10 x11) {x1 : A1} {x2 : A2} {x3 : A3} {x4 : A4} {x5 : A5} {x6 : A6} {x7 : A7} {x8 : A8} {x9 : A9} {x10 : A10} {x11 : A11} (h : I x1 x2 x3 x4 x5 x6 x7 x8 x9 x10 x11) : xlp11 b x1 x2 x3 x4 x5 x6 x7 x8 x9 x10 x11 := by
  have key : ∀ k (x1 : A1) (x2 : A2) (x3 : A3) (x4 : A4) (x5 : A5) (x6 : A6) (x7 : A7) (x8 : A8) (x9 : A9) (x10 : A10) (x11 : A11), I x1 x2 x3 x4 x5 x6 x7 x8 x9 x10 x11 → mu x1 x2 x3 x4 x5 x6 x7 x8 x9 x10 x11 < k → xq11 b k x1 x2 x3 x4 x5 x6 x7 x8 x9 x10 x11 := by
    intro k
    induction k with
    | zero => intro x1 x2 x3 x4 x5 x6 x7 x8 x9 x10 x11 _ h; exact absurd h (Nat.not_lt_zero _)
    | succ k ih => intro x1 x2 x3 x4 x5 x6 x7 x8 x9 x10 x11 h1 h2; exact hs _ x1 x2 x3 x4 x5 x6 x7 x8 x9 x10 x11 h1 (fun y1 y2 y3 y4 y5 y6 y7 y8 y9 y10 y11 h3 h4 => ih y1 y2 y3 y4 y5 y6 y7 y8 y9 y10 y11 h3 (by omega))
  exact ⟨mu x1 x2 x3 x4 x5 x6 x7 x8 x9 x10 x11 + 1, key _ x1 x2 x3 x4 x5 x6 x7 x8 x9 x10 x11 h (Nat.lt_succ_self _)⟩
theorem xlp11_W {A1 A2 A3 A4 A5 A6 A7 A8 A9 A10 A11 : Type} {b : (A1 → A2 → A3 → A4 → A5 → A6 → A7 → A8 → A9 → A10 → A11 → Prop) → A1 → A2 → A3 → A4 → A5 → A6 → A7 → A8 → A9 → A10 → A11 → Prop} {W : A1 → A2 → A3 → A4 → A5 → A6 → A7 → A8 → A9 → A10 → A11 → Prop} (hs : ∀ (r : A1 → A2 → A3 → A4 → A5 → A6 → A7 → A8 → A9 → A10 → A11 → Prop), (∀ (x1 : A1) (x2 : A2) (x3 : A3) (x4 : A4) (x5 : A5) (x6 : A6) (x7 : A7) (x8 : A8) (x9 : A9) (x10 : A10) (x11 : A11), r x1 x2 x3 x4 x5 x6 x7 x8 x9 x10 x11 → W x1 x2 x3 x4 x5 x6 x7 x8 x9 x10 x11) → ∀ (x1 : A1) (x2 : A2) (x3 : A3) (x4 : A4) (x5 : A5) (x6 : A6) (x7 : A7) (x8 : A8) (x9 : A9) (x10 : A10) (x11 : A11), b r x1 x2 x3 x4 x5 x6 x7 x8 x9 x10 x11 → W x1 x2 x3 x4 x5 x6 x7 x8 x9 x10 x11) : ∀ (x1 : A1) (x2 : A2) (x3 : A3) (x4 : A4) (x5 : A5) (x6 : A6) (x7 : A7) (x8 : A8) (x9 : A9) (x10 : A10) (x11 : A11), xlp11 b x1 x2 x3 x4 x5 x6 x7 x8 x9 x10 x11 → W x1 x2 x3 x4 x5 x6 x7 x8 x9 x10 x11 := by
  have key : ∀ k (x1 : A1) (x2 : A2) (x3 : A3) (x4 : A4) (x5 : A5) (x6 : A6) (x7 : A7) (x8 : A8) (x9 : A9) (x10 : A10) (x11 : A11), xq11 b k x1 x2 x3 x4 x5 x6 x7 x8 x9 x10 x11 → W x1 x2 x3 x4 x5 x6 x7 x8 x9 x10 x11 := by
    intro k
    induction k with
    | zero => intro x1 x2 x3 x4 x5 x6 x7 x8 x9 x10 x11 h; exact absurd h id
    | succ k ih => intro x1 x2 x3 x4 x5 x6 x7 x8 x9 x10 x11 h; exact hs _ ih x1 x2 x3 x4 x5 x6 x7 x8 x9 x10 x11 h
  intro x1 x2 x3 x4 x5 x6 x7 x8 x9 x10 x11 h
  obtain ⟨n, h⟩ := h
  exact key n x1 x2 x3 x4 x5 x6 x7 x8 x9 x10 x11 h
def xq12 {A1 A2 A3 A4 A5 A6 A7 A8 A9 A10 A11 A12 : Type} (b : (A1 → A2 → A3 → A4 → A5 → A6 → A7 → A8 → A9 → A10 → A11 → A12 → Prop) → A1 → A2 → A3 → A4 → A5 → A6 → A7 → A8 → A9 → A10 → A11 → A12 → Prop) : Nat → A1 → A2 → A3 → A4 → A5 → A6 → A7 → A8 → A9 → A10 → A11 → A12 → Prop
  | 0 => fun _ _ _ _ _ _ _ _ _ _ _ _ => False
  | n + 1 => b (xq12 b n)
def xlp12 {A1 A2 A3 A4 A5 A6 A7 A8 A9 A10 A11 A12 : Type} (b : (A1 → A2 → A3 → A4 → A5 → A6 → A7 → A8 → A9 → A10 → A11 → A12 → Prop) → A1 → A2 → A3 → A4 → A5 → A6 → A7 → A8 → A9 → A10 → A11 → A12 → Prop) (x1 : A1) (x2 : A2) (x3 : A3) (x4 : A4) (x5 : A5) (x6 : A6) (x7 : A7) (x8 : A8) (x9 : A9) (x10 : A10) (x11 : A11) (x12 : A12) : Prop := ∃ n, xq12 b n x1 x2 x3 x4 x5 x6 x7 x8 x9 x10 x11 x12
theorem xlp12_of {A1 A2 A3 A4 A5 A6 A7 A8 A9 A10 A11 A12 : Type} {b : (A1 → A2 → A3 → A4 → A5 → A6 → A7 → A8 → A9 → A10 → A11 → A12 → Prop) → A1 → A2 → A3 → A4 → A5 → A6 → A7 → A8 → A9 → A10 → A11 → A12 → Prop} (I : A1 → A2 → A3 → A4 → A5 → A6 → A7 → A8 → A9 → A10 → A11 → A12 → Prop) (mu : A1 → A2 → A3 → A4 → A5 → A6 → A7 → A8 → A9 → A10 → A11 → A12 → Nat) (hs : ∀ (r : A1 → A2 → A3 → A4 → A5 → A6 → A7 → A8 → A9 → A10 → A11 → A12 → Prop) (x1 : A1) (x2 : A2) (x3 : A3) (x4 : A4) (x5 : A5) (x6 : A6) (x7 : A7) (x8 : A8) (x9 : A9) (x10 : A10) (x11 : A11) (x12 : A12), I x1 x2 x3 x4 x5 x6 x7 x8 x9 x10 x11 x12 → (∀ (y1 : A1) (y2 : A2) (y3 : A3) (y4 : A4) (y5 : A5) (y6 : A6) (y7 : A7) (y8 : A8) (y9 : A9) (y10 : A10) (y11 : A11) (y12 : A12), I y1 y2 y3 y4 y5 y6 y7 y8 y9 y10 y11 y12 → mu y1 y2 y3 y4 y5 y6 y7 y8 y9 y10 y11 y12 < mu x1 x2 x3 x4 x5 x6 x7 x8 x9 x10 x11 x12 → r y1 y2 y3 y4 y5 y6 y7 y8 y9 y10 y11 y12) → b r x1 x2 x3 x4 x5 x6 x7 x8 x9 x10 x11 x12) {x1 : A1} {x2 : A2} {x3 : A3} {x4 : A4} {x5 : A5} {x6 : A6} {x7 : A7} {x8 : A8} {x9 : A9} {x10 : A10} {x11 : A11} {x12 : A12} (h : I x1 x2 x3 x4 x5 x6 x7 x8 x9 x10 x11 x12) : xlp12 b x1 x2 x3 x4 x5 x6 x7 x8 x9 x10 x11 x12 := by
  have key : ∀ k (x1 : A1) (x2 : A2) (x3 : A3) (x4 : A4) (x5 : A5) (x6 : A6) (x7 : A7) (x8 : A8) (x9 : A9) (x10 : A10) (x11 : A11) (x12 : A12), I x1 x2 x3 x4 x5 x6 x7 x8 x9 x10 x11 x12 → mu x1 x2 x3 x4 x5 x6 x7 x8 x9 x10 x11 x12 < k → xq12 b k x1 x2 x3 x4 x5 x6 x7 x8 x9 x10 x11 x12 := by
    intro k
    induction k with
    | zero => intro x1 x2 x3 x4 x5 x6 x7 x8 x9 x10 x11 x12 _ h; exact absurd h (Nat.not_lt_zero _)
    | succ k ih => intro x1 x2 x3 x4 x5 x6 x7 x8 x9 x10 x11 x12 h1 h2; exact hs _ x1 x2 x3 x4 x5 x6 x7 x8 x9 x10 x11 x12 h1 (fun y1 y2 y3 y4 y5 y6 y7 y8 y9 y10 y11 y12 h3 h4 => ih y1 y2 y3 y4 y5 y6 y7 y8 y9 y10 y11 y12 h3 (by omega))
  exact ⟨mu x1 x2 x3 x4 x5 x6 x7 x8 x9 x10 x11 x12 + 1, key _ x1 x2 x3 x4 x5 x6 x7 x8 x9 x10 x11 x12 h (Nat.lt_succ_self _)⟩
theorem xlp12_W {A1 A2 A3 A4 A5 A6 A7 A8 A9 A10 A11 A12 : Type} {b : (A1 → A2 → A3 → A4 → A5 → A6 → A7 → A8 → A9 → A10 → A11 → A12 → Prop) → A1 → A2 → A3 → A4 → A5 → A6 → A7 → A8 → A9 → A10 → A11 → A12 → Prop} {W : A1 → A2 → A3 → A4 → A5 → A6 → A7 → A8 → A9 → A10 → A11 → A12 → Prop} (hs : ∀ (r : A1 → A2 → A3 → A4 → A5 → A6 → A7 → A8 → A9 → A10 → A11 → A12 → Prop), (∀ (x1 : A1) (x2 : A2) (x3 : A3) (x4 : A4) (x5 : A5) (x6 : A6) (x7 : A7) (x8 : A8) (x9 : A9) (x10 : A10) (x11 : A11) (x12 : A12), r x1 x2 x3 x4 x5 x6 x7 x8 x9 x10 x11 x12 → W x1 x2 x3 x4 x5 x6 x7 x8 x9 x10 x11 x12) → ∀ (x1 : A1) (x2 : A2) (x3 : A3) (x4 : A4) (x5 : A5) (x6 : A6) (x7 : A7) (x8 : A8) (x9 : A9) (x10 : A10) (x11 : A11) (x12 : A12), b r x1 x2 x3 x4 x5 x6 x7 x8 x9 x10 x11 x12 → W x1 x2 x3 x4 x5 x6 x7 x8 x9 x10 x11 x12) : ∀ (x1 : A1) (x2 : A2) (x3 : A3) (x4 : A4) (x5 : A5) (x6 : A6) (x7 : A7) (x8 : A8) (x9 : A9) (x10 : A10) (x11 : A11) (x12 : A12), xlp12 b x1 x2 x3 x4 x5 x6 x7 x8 x9 x10 x11 x12 → W x1 x2 x3 x4 x5 x6 x7 x8 x9 x10 x11 x12 := by
  have key : ∀ k (x1 : A1) (x2 : A2) (x3 : A3) (x4 : A4) (x5 : A5) (x6 : A6) (x7 : A7) (x8 : A8) (x9 : A9) (x10 : A10) (x11 : A11) (x12 : A12), xq12 b k x1 x2 x3 x4 x5 x6 x7 x8 x9 x10 x11 x12 → W x1 x2 x3 x4 x5 x6 x7 x8 x9 x10 x11 x12 := by
    intro k
    induction k with
    | zero => intro x1 x2 x3 x4 x5 x6 x7 x8 x9 x10 x11 x12 h; exact absurd h id
    | succ k ih => intro x1 x2 x3 x4 x5 x6 x7 x8 x9 x10 x11 x12 h; exact hs _ ih x1 x2 x3 x4 x5 x6 x7 x8 x9 x10 x11 x12 h
  intro x1 x2 x3 x4 x5 x6 x7 x8 x9 x10 x11 x12 h
  obtain ⟨n, h⟩ := h
  exact key n x1 x2 x3 x4 x5 x6 x7 x8 x9 x10 x11 x12 h
def xq13 {A1 A2 A3 A4 A5 A6 A7 A8 A9 A10 A11 A12 A13 : Type} (b : (A1 → A2 → A3 → A4 → A5 → A6 → A7 → A8 → A9 → A10 → A11 → A12 → A13 → Prop) → A1 → A2 → A3 → A4 → A5 → A6 → A7 → A8 → A9 → A10 → A11 → A12 → A13 → Prop) : Nat → A1 → A2 → A3 → A4 → A5 → A6 → A7 → A8 → A9 → A10 → A11 → A12 → A13 → Prop
  | 0 => fun _ _ _ _ _ _ _ _ _ _ _ _ _ => False
  | n + 1 => b (xq13 b n)
def xlp13 {A1 A2 A3 A4 A5 A6 A7 A8 A9 A10 A11 A12 A13 : Type} (b : (A1 → A2 → A3 → A4 → A5 → A6 → A7 → A8 → A9 → A10 → A11 → A12 → A13 → Prop) → A1 → A2 → A3 → A4 → A5 → A6 → A7 → A8 → A9 → A10 → A11 → A12 → A13 → Prop) (x1 : A1) (x2 : A2) (x3 : A3) (x4 : A4) (x5 : A5) (x6 : A6) (x7 : A7) (x8 : A8) (x9 : A9) (x10 : A10) (x11 : A11) (x12 : A12) (x13 : A13) : Prop := ∃ n, xq13 b n x1 x2 x3 x4 x5 x6 x7 x8 x9 x10 x11 x12 x13
theorem xlp13_of {A1 A2 A3 A4 A5 A6 A7 A8 A9 A10 A11 A12 A13 : Type} {b : (A1 → A2 → A3 → A4 → A5 → A6 → A7 → A8 → A9 → A10 → A11 → A12 → A13 → Prop) → A1 → A2 → A3 → A4 → A5 → A6 → A7 → A8 → A9 → A10 → A11 → A12 → A13 → Prop} (I : A1 → A2 → A3 → A4 → A5 → A6 → A7 → A8 → A9 → A10 → A11 → A12 → A13 → Prop) (mu : A1 → A2 → A3 → A4 → A5 → A6 → A7 → A8 → A9 → A10 → A11 → A12 → A13 → Nat) (hs : ∀ (r : A1 → A2 → A3 → A4 → A5 → A6 → A7 → A8 → A9 → A10 → A11 → A12 → A13 → Prop) (x1 : A1) (x2 : A2) (x3 : A3) (x4 : A4) (x5 : A5) (x6 : A6) (x7 : A7) (x8 : A8) (x9 : A9) (x10 : A10) (x11 : A11) (x12 : A12) (x13 : A13), I x1 x2 x3 x4 x5 x6 x7 x8 x9 x10 x11 x12 x13 → (∀ (y1 : A1) (y2 : A2) (y3 : A3) (y4 : A4) (y5 : A5) (y6 : A6) (y7 : A7) (y8 : A8) (y9 : A9) (y10 : A10) (y11 : A11) (y12 : A12) (y13 : A13), I y1 y2 y3 y4 y5 y6 y7 y8 y9 y10 y11 y12 y13 → mu y1 y2 y3 y4 y5 y6 y7 y8 y9 y10 y11 y12 y13 < mu x1 x2 x3 x4 x5 x6 x7 x8 x9 x10 x11 x12 x13 → r y1 y2 y3 y4 y5 y6 y7 y8 y9 y10 y11 y12 y13) → b r x1 x2 x3 x4 x5 x6 x7 x8 x9 x10 x11 x12 x13) {x1 : A1} {x2 : A2} {x3 : A3} {x4 : A4} {x5 : A5} {x6 : A6} {x7 : A7} {x8 : A8} {x9 : A9} {x10 : A10} {x11 : A11} {x12 : A12} {x13 : A13} (h : I x1 x2 x3 x4 x5 x6 x7 x8 x9 x10 x11 x12 x13) : xlp13 b x1 x2 x3 x4 x5 x6 x7 x8 x9 x10 x11 x12 x13 := by
  have key : ∀ k (x1 : A1) (x2 : A2) (x3 : A3) (x4 : A4) (x5 : A5) (x6 : A6) (x7 : A7) (x8 : A8) (x9 : A9) (x10 : A10) (x11 : A11) (x12 : A12) (x13 : A13), I x1 x2 x3 x4 x5 x6 x7 x8 x9 x10 x11 x12 x13 → mu x1 x2 x3 x4 x5 x6 x7 x8 x9 x10 x11 x12 x13 < k → xq13 b k x1 x2 x3 x4 x5 x6 x7 x8 x9 x10 x11 x12 x13 := by
    intro k
    induction k with
    | zero => intro x1 x2 x3 x4 x5 x6 x7 x8 x9 x10 x11 x12 x13 _ h; exact absurd h (Nat.not_lt_zero _)
    | succ k ih => intro x1 x2 x3 x4 x5 x6 x7 x8 x9 x10 x11 x12 x13 h1 h2; exact hs _ x1 x2 x3 x4 x5 x6 x7 x8 x9 x10 x11 x12 x13 h1 (fun y1 y2 y3 y4 y5 y6 y7 y8 y9 y10 y11 y12 y13 h3 h4 => ih y1 y2 y3 y4 y5 y6 y7 y8 y9 y10 y11 y12 y13 h3 (by omega))
  exact ⟨mu x1 x2 x3 x4 x5 x6 x7 x8 x9 x10 x11 x12 x13 + 1, key _ x1 x2 x3 x4 x5 x6 x7 x8 x9 x10 x11 x12 x13 h (Nat.lt_succ_self _)⟩
theorem xlp13_W {A1 A2 A3 A4 A5 A6 A7 A8 A9 A10 A11 A12 A13 : Type} {b : (A1 → A2 → A3 → A4 → A5 → A6 → A7 → A8 → A9 → A10 → A11 → A12 → A13 → Prop) → A1 → A2 → A3 → A4 → A5 → A6 → A7 → A8 → A9 → A10 → A11 → A12 → A13 → Prop} {W : A1 → A2 → A3 → A4 → A5 → A6 → A7 → A8 → A9 → A10 → A11 → A12 → A13 → Prop} (hs : ∀ (r : A1 → A2 → A3 → A4 → A5 → A6 → A7 → A8 → A9 → A10 → A11 → A12 → A13 → Prop), (∀ (x1 : A1) (x2 : A2) (x3 : A3) (x4 : A4) (x5 : A5) (x6 : A6) (x7 : A7) (x8 : A8) (x9 : A9) (x10 : A10) (x11 : A11) (x12 : A12) (x13 : A13), r x1 x2 x3 x4 x5 x6 x7 x8 x9 x10 x11 x12 x13 → W x1 x2 x3 x4 x5 x6 x7 x8 x9 x10 x11 x12 x13) → ∀ (x1 : A1) (x2 : A2) (x3 : A3) (x4 : A4) (x5 : A5) (x6 : A6) (x7 : A7) (x8 : A8) (x9 : A9) (x10 : A10) (x11 : A11) (x12 : A12) (x13 : A13), b r x1 x2 x3 x4 x5 x6 x7 x8 x9 x10 x11 x12 x13 → W x1 x2 x3 x4 x5 x6 x7 x8 x9 x10 x11 x12 x13) : ∀ (x1 : A1) (x2 : A2) (x3 : A3) (x4 : A4) (x5 : A5) (x6 : A6) (x7 : A7) (x8 : A8) (x9 : A9) (x10 : A10) (x11 : A11) (x12 : A12) (x13 : A13), xlp13 b x1 x2 x3 x4 x5 x6 x7 x8 x9 x10 x11 x12 x13 → W x1 x2 x3 x4 x5 x6 x7 x8 x9 x10 x11 x12 x13 := by
  have key : ∀ k (x1 : A1) (x2 : A2) (x3 : A3) (x4 : A4) (x5 : A5) (x6 : A6) (x7 : A7) (x8 : A8) (x9 : A9) (x10 : A10) (x11 : A11) (x12 : A12) (x13 : A13), xq13 b k x1 x2 x3 x4 x5 x6 x7 x8 x9 x10 x11 x12 x13 → W x1 x2 x3 x4 x5 x6 x7 x8 x9 x10 x11 x12 x13 := by
    intro k
    induction k with
    | zero => intro x1 x2 x3 x4 x5 x6 x7 x8 x9 x10 x11 x12 x13 h; exact absurd h id
    | succ k ih => intro x1 x2 x3 x4 x5 x6 x7 x8 x9 x10 x11 x12 x13 h; exact hs _ ih x1 x2 x3 x4 x5 x6 x7 x8 x9 x10 x11 x12 x13 h
  intro x1 x2 x3 x4 x5 x6 x7 x8 x9 x10 x11 x12 x13 h
  obtain ⟨n, h⟩ := h
  exact key n x1 x2 x3 x4 x5 x6 x7 x8 x9 x10 x11 x12 x13 h
def xq14 {A1 A2 A3 A4 A5 A6 A7 A8 A9 A10 A11 A12 A13 A14 : Type} (b : (A1 → A2 → A3 → A4 → A5 → A6 → A7 → A8 → A9 → A10 → A11 → A12 → A13 → A14 → Prop) → A1 → A2 → A3 → A4 → A5 → A6 → A7 → A8 → A9 → A10 → A11 → A12 → A13 → A14 → Prop) : Nat → A1 → A2 → A3 → A4 → A5 → A6 → A7 → A8 → A9 → A10 → A11 → A12 → A13 → A14 → Prop
  | 0 => fun _ _ _ _ _ _ _ _ _ _ _ _ _ _ => False
  | n + 1 => b (xq14 b n)
def xlp14 {A1 A2 A3 A4 A5 A6 A7 A8 A9 A10 A11 A12 A13 A14 : Type} (b : (A1 → A2 → A3 → A4 → A5 → A6 → A7 → A8 → A9 → A10 → A11 → A12 → A13 → A14 → Prop) → A1 → A2 → A3 → A4 → A5 → A6 → A7 → A8 → A9 → A10 → A11 → A12 → A13 → A14 → Prop) (x1 : A1) (x2 : A2) (x3 : A3) (x4 : A4) (x5 : A5) (x6 : A6) (x7 : A7) (x8 : A8) (x9 : A9) (x10 : A10) (x11 : A11) (x12 : A12) (x13 : A13) (x14 : A14) : Prop := ∃ n, xq14 b n x1 x2 x3 x4 x5 x6 x7 x8 x9 x10 x11 x12 x13 x14
theorem xlp14_of {A1 A2 A3 A4 A5 A6 A7 A8 A9 A10 A11 A12 A13 A14 : Type} {b : (A1 → A2 → A3 → A4 → A5 → A6 → A7 → A8 → A9 → A10 → A11 → A12 → A13 → A14 → Prop) → A1 → A2 → A3 → A4 → A5 → A6 → A7 → A8 → A9 → A10 → A11 → A12 → A13 → A14 → Prop} (I : A1 → A2 → A3 → A4 → A5 → A6 → A7 → A8 → A9 → A10 → A11 → A12 → A13 → A14 → Prop) (mu : A1 → A2 → A3 → A4 → A5 → A6 → A7 → A8 → A9 → A10 → A11 → A12 → A13 → A14 → Nat) (hs : ∀ (r : A1 → A2 → A3 → A4 → A5 → A6 → A7 → A8 → A9 → A10 → A11 → A12 → A13 → A14 → Prop) (x1 : A1) (x2 : A2) (x3 : A3) (x4 : A4) (x5 : A5) (x6 : A6) (x7 : A7) (x8 : A8) (x9 : A9) (x10 : A10) (x11 : A11) (x12 : A12) (x13 : A13) (x14 : A14), I x1 x2 x3 x4 x5 x6 x7 x8 x9 x10 x11 x12 x13 x14 → (∀ (y1 : A1) (y2 : A2) (y3 : A3) (y4 : A4) (y5 : A5) (y6 : A6) (y7 : A7) (y8 : A8) (y9 : A9) (y10 : A10) (y11 : A11) (y12 : A12) (y13 : A13) (y14 : A14), I y1 y2 y3 y4 y5 y6 y7 y8 y9 y10 y11 y12 y13 y14 → mu y1 y2 y3 y4 y5 y6 y7 y8 y9 y10 y11 y12 y13 y14 < mu x1 x2 x3 x4 x5 x6 x7 x8 x9 x10 x11 x12 x13 x14 → r y1 y2 y3 y4 y5 y6 y7 y8 y9 y10 y11 y12 y13 y14) → b r x1 x2 x3 x4 x5 x6 x7 x8 x9 x10 x11 x12 x13 x14) {x1 : A1} {x2 : A2} {x3 : A3} {x4 : A4} {x5 : A5} {x6 : A6} {x7 : A7} {x8 : A8} {x9 : A9} {x10 : A10} {x11 : A11} {x12 : A12} {x13 : A13} {x14 : A14} (h : I x1 x2 x3 x4 x5 x6 x7 x8 x9 x10 x11 x12 x13 x14) : xlp14 b x1 x2 x3 x4 x5 x6 x7 x8 x9 x10 x11 x12 x13 x14 := by
  have key : ∀ k (x1 : A1) (x2 : A2) (x3 : A3) (x4 : A4) (x5 : A5) (x6 : A6) (x7 : A7) (x8 : A8) (x9 : A9) (x10 : A10) (x11 : A11) (x12 : A12) (x13 : A13) (x14 : A14), I x1 x2 x3 x4 x5 x6 x7 x8 x9 x10 x11 x12 x13 x14 → mu x1 x2 x3 x4 x5 x6 x7 x8 x9 x10 x11 x12 x13 x14 < k → xq14 b k x1 x2 x3 x4 x5 x6 x7 x8 x9 x10 x11 x12 x13 x14 := by
    intro k
    induction k with
    | zero => intro x1 x2 x3 x4 x5 x6 x7 x8 x9 x10 x11 x12 x13 x14 _ h; exact absurd h (Nat.not_lt_zero _)
    | succ k ih => intro x1 x2 x3 x4 x5 x6 x7 x8 x9 x10 x11 x12 x13 x14 h1 h2; exact hs _ x1 x2 x3 x4 x5 x6 x7 x8 x9 x10 x11 x12 x13 x14 h1 (fun y1 y2 y3 y4 y5 y6 y7 y8 y9 y10 y11 y12 y13 y14 h3 h4 => ih y1 y2 y3 y4 y5 y6 y7 y8 y9 y10 y11 y12 y13 y14 h3 (by omega))
  exact ⟨mu x1 x2 x3 x4 x5 x6 x7 x8 x9 x10 x11 x12 x13 x14 + 1, key _ x1 x2 x3 x4 x5 x6 x7 x8 x9 x10 x11 x12 x13 x14 h (Nat.lt_succ_self _)⟩
theorem xlp14_W {A1 A2 A3 A4 A5 A6 A7 A8 A9 A10 A11 A12 A13 A14 : Type} {b : (A1 → A2 → A3 → A4 → A5 → A6 → A7 → A8 → A9 → A10 → A11 → A12 → A13 → A14 → Prop) → A1 → A2 → A3 → A4 → A5 → A6 → A7 → A8 → A9 → A10 → A11 → A12 → A13 → A14 → Prop} {W : A1 → A2 → A3 → A4 → A5 → A6 → A7 → A8 → A9 → A10 → A11 → A12 → A13 → A14 → Prop} (hs : ∀ (r : A1 → A2 → A3 → A4 → A5 → A6 → A7 → A8 → A9 → A10 → A11 → A12 → A13 → A14 → Prop), (∀ (x1 : A1) (x2 : A2) (x3 : A3) (x4 : A4) (x5 : A5) (x6 : A6) (x7 : A7) (x8 : A8) (x9 : A9) (x10 : A10) (x11 : A11) (x12 : A12) (x13 : A13) (x14 : A14), r x1 x2 x3 x4 x5 x6 x7 x8 x9 x10 x11 x12 x13 x14 → W x1 x2 x3 x4 x5 x6 x7 x8 x9 x10 x11 x12 x13 x14) → ∀ (x1 : A1) (x2 : A2) (x3 : A3) (x4 : A4) (x5 : A5) (x6 : A6) (x7 : A7) (x8 : A8) (x9 : A9) (x10 : A10) (x11 : A11) (x12 : A12) (x13 : A13) (x14 : A14), b r x1 x2 x3 x4 x5 x6 x7 x8 x9 x10 x11 x12 x13 x14 → W x1 x2 x3 x4 x5 x6 x7 x8 x9 x10 x11 x12 x13 x14) : ∀ (x1 : A1) (x2 : A2) (x3 : A3) (x4 : A4) (x5 : A5) (x6 : A6) (x7 : A7) (x8 : A8) (x9 : A9) (x10 : A10) (x11 : A11) (x12 : A12) (x13 : A13) (x14 : A14), xlp14 b x1 x2 x3 x4 x5 x6 x7 x8 x9 x10 x11 x12 x13 x14 → W x1 x2 x3 x4 x5 x6 x7 x8 x9 x10 x11 x12 x13 x14 := by
  have key : ∀ k (x1 : A1) (x2 : A2) (x3 : A3) (x4 : A4) (x5 : A5) (x6 : A6) (x7 : A7) (x8 : A8) (x9 : A9) (x10 : A10) (x11 : A11) (x12 : A12) (x13 : A13) (x14 : A14), xq14 b k x1 x2 x3 x4 x5 x6 x7 x8 x9 x10 x11 x12 x13 x14 → W x1 x2 x3 x4 x5 x6 x7 x8 x9 x10 x11 x12 x13 x14 := by
    intro k
    induction k with
    | zero => intro x1 x2 x3 x4 x5 x6 x7 x8 x9 x10 x11 x12 x13 x14 h; exact absurd h id
    | succ k ih => intro x1 x2 x3 x4 x5 x6 x7 x8 x9 x10 x11 x12 x13 x14 h; exact hs _ ih x1 x2 x3 x4 x5 x6 x7 x8 x9 x10 x11 x12 x13 x14 h
  intro x1 x2 x3 x4 x5 x6 x7 x8 x9 x10 x11 x12 x13 x14 h
  obtain ⟨n, h⟩ := h
  exact key n x1 x2 x3 x4 x5 x6 x7 x8 x9 x10 x11 x12 x13 x14 h
end
section
theorem xlook : True := trivial
end
