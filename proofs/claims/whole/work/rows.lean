section
/-- a private method of a class that the tables say can be made, by its rows of tables_1 -/
def lw_okq (q : MethodName × Nat) : Prop := (q.1.cls ≠ "java/lang/invoke/MethodHandle" ∧ q.1.cls ≠ "java/lang/invoke/VarHandle") ∧ Cond.instantiable q.1.cls q.2 ∈ tables_1 ∧ Cond.privateMethod q.1 ∈ tables_1 ∧ Cond.instanceMethod q.1 ∈ tables_1
theorem lw_p0 : lw_okq (⟨"DendroDesk$Points", "startAnew", "(I)V"⟩, 4) := ⟨⟨by decide +kernel, by decide +kernel⟩, List.mem_of_getElem? (i := 23) (by decide +kernel), List.mem_of_getElem? (i := 245) (by decide +kernel), List.mem_of_getElem? (i := 246) (by decide +kernel)⟩
theorem lw_p1 : lw_okq (⟨"DendroDesk$Points", "has", "(I)Z"⟩, 4) := ⟨⟨by decide +kernel, by decide +kernel⟩, List.mem_of_getElem? (i := 23) (by decide +kernel), List.mem_of_getElem? (i := 253) (by decide +kernel), List.mem_of_getElem? (i := 254) (by decide +kernel)⟩
theorem lw_p2 : lw_okq (⟨"DendroDesk$Points", "setApart", "(III)V"⟩, 4) := ⟨⟨by decide +kernel, by decide +kernel⟩, List.mem_of_getElem? (i := 23) (by decide +kernel), List.mem_of_getElem? (i := 258) (by decide +kernel), List.mem_of_getElem? (i := 259) (by decide +kernel)⟩
theorem lw_p3 : lw_okq (⟨"DendroDesk$Points", "measureAll", "(I)V"⟩, 4) := ⟨⟨by decide +kernel, by decide +kernel⟩, List.mem_of_getElem? (i := 23) (by decide +kernel), List.mem_of_getElem? (i := 277) (by decide +kernel), List.mem_of_getElem? (i := 278) (by decide +kernel)⟩
theorem lw_p4 : lw_okq (⟨"DendroDesk$Bytes", "addFour", "(I)V"⟩, 2) := ⟨⟨by decide +kernel, by decide +kernel⟩, List.mem_of_getElem? (i := 51) (by decide +kernel), List.mem_of_getElem? (i := 295) (by decide +kernel), List.mem_of_getElem? (i := 296) (by decide +kernel)⟩
theorem lw_p5 : lw_okq (⟨"DendroDesk$Bytes", "add", "(I)V"⟩, 2) := ⟨⟨by decide +kernel, by decide +kernel⟩, List.mem_of_getElem? (i := 51) (by decide +kernel), List.mem_of_getElem? (i := 299) (by decide +kernel), List.mem_of_getElem? (i := 300) (by decide +kernel)⟩
theorem lw_p6 : lw_okq (⟨"DendroDesk$Bytes", "copyFrom", "(LDendroDesk$Bytes;)V"⟩, 2) := ⟨⟨by decide +kernel, by decide +kernel⟩, List.mem_of_getElem? (i := 51) (by decide +kernel), List.mem_of_getElem? (i := 311) (by decide +kernel), List.mem_of_getElem? (i := 312) (by decide +kernel)⟩
theorem lw_p7 : lw_okq (⟨"DendroDesk$TableReader", "readTable", "(LDendroDesk$Bytes;)Z"⟩, 3) := ⟨⟨by decide +kernel, by decide +kernel⟩, List.mem_of_getElem? (i := 67) (by decide +kernel), List.mem_of_getElem? (i := 322) (by decide +kernel), List.mem_of_getElem? (i := 323) (by decide +kernel)⟩
theorem lw_p8 : lw_okq (⟨"DendroDesk$TableReader", "readNumber", "(LDendroDesk$Bytes;I)I"⟩, 3) := ⟨⟨by decide +kernel, by decide +kernel⟩, List.mem_of_getElem? (i := 67) (by decide +kernel), List.mem_of_getElem? (i := 327) (by decide +kernel), List.mem_of_getElem? (i := 328) (by decide +kernel)⟩
theorem lw_p9 : lw_okq (⟨"DendroDesk$TableReader", "skipBlanks", "(LDendroDesk$Bytes;)V"⟩, 3) := ⟨⟨by decide +kernel, by decide +kernel⟩, List.mem_of_getElem? (i := 67) (by decide +kernel), List.mem_of_getElem? (i := 331) (by decide +kernel), List.mem_of_getElem? (i := 332) (by decide +kernel)⟩
theorem lw_p10 : lw_okq (⟨"DendroDesk$Bytes", "at", "(I)I"⟩, 2) := ⟨⟨by decide +kernel, by decide +kernel⟩, List.mem_of_getElem? (i := 51) (by decide +kernel), List.mem_of_getElem? (i := 335) (by decide +kernel), List.mem_of_getElem? (i := 336) (by decide +kernel)⟩
theorem lw_p11 : lw_okq (⟨"DendroDesk$Bytes", "addNumber", "(J)V"⟩, 2) := ⟨⟨by decide +kernel, by decide +kernel⟩, List.mem_of_getElem? (i := 51) (by decide +kernel), List.mem_of_getElem? (i := 353) (by decide +kernel), List.mem_of_getElem? (i := 354) (by decide +kernel)⟩
theorem lw_p12 : lw_okq (⟨"DendroDesk$Points", "allBits", "()I"⟩, 4) := ⟨⟨by decide +kernel, by decide +kernel⟩, List.mem_of_getElem? (i := 23) (by decide +kernel), List.mem_of_getElem? (i := 368) (by decide +kernel), List.mem_of_getElem? (i := 369) (by decide +kernel)⟩
theorem lw_p13 : lw_okq (⟨"DendroDesk$Points", "coreBetween", "(III)J"⟩, 4) := ⟨⟨by decide +kernel, by decide +kernel⟩, List.mem_of_getElem? (i := 23) (by decide +kernel), List.mem_of_getElem? (i := 379) (by decide +kernel), List.mem_of_getElem? (i := 380) (by decide +kernel)⟩
theorem lw_p14 : lw_okq (⟨"DendroDesk$Points", "sumInside", "(I)J"⟩, 4) := ⟨⟨by decide +kernel, by decide +kernel⟩, List.mem_of_getElem? (i := 23) (by decide +kernel), List.mem_of_getElem? (i := 397) (by decide +kernel), List.mem_of_getElem? (i := 398) (by decide +kernel)⟩
theorem lw_p15 : lw_okq (⟨"DendroDesk", "makeTree", "(IIZ)I"⟩, 6) := ⟨⟨by decide +kernel, by decide +kernel⟩, List.mem_of_getElem? (i := 15) (by decide +kernel), List.mem_of_getElem? (i := 418) (by decide +kernel), List.mem_of_getElem? (i := 419) (by decide +kernel)⟩
def lw_privs_1 : List (MethodName × Nat) := [(⟨"DendroDesk$Points", "startAnew", "(I)V"⟩, 4), (⟨"DendroDesk$Points", "has", "(I)Z"⟩, 4), (⟨"DendroDesk$Points", "setApart", "(III)V"⟩, 4), (⟨"DendroDesk$Points", "measureAll", "(I)V"⟩, 4), (⟨"DendroDesk$Bytes", "addFour", "(I)V"⟩, 2), (⟨"DendroDesk$Bytes", "add", "(I)V"⟩, 2), (⟨"DendroDesk$Bytes", "copyFrom", "(LDendroDesk$Bytes;)V"⟩, 2), (⟨"DendroDesk$TableReader", "readTable", "(LDendroDesk$Bytes;)Z"⟩, 3), (⟨"DendroDesk$TableReader", "readNumber", "(LDendroDesk$Bytes;I)I"⟩, 3), (⟨"DendroDesk$TableReader", "skipBlanks", "(LDendroDesk$Bytes;)V"⟩, 3), (⟨"DendroDesk$Bytes", "at", "(I)I"⟩, 2), (⟨"DendroDesk$Bytes", "addNumber", "(J)V"⟩, 2), (⟨"DendroDesk$Points", "allBits", "()I"⟩, 4), (⟨"DendroDesk$Points", "coreBetween", "(III)J"⟩, 4), (⟨"DendroDesk$Points", "sumInside", "(I)J"⟩, 4), (⟨"DendroDesk", "makeTree", "(IIZ)I"⟩, 6)]
theorem lw_r1 : ∀ q ∈ lw_privs_1, lw_okq q := List.forall_mem_cons.mpr ⟨lw_p0, List.forall_mem_cons.mpr ⟨lw_p1, List.forall_mem_cons.mpr ⟨lw_p2, List.forall_mem_cons.mpr ⟨lw_p3, List.forall_mem_cons.mpr ⟨lw_p4, List.forall_mem_cons.mpr ⟨lw_p5, List.forall_mem_cons.mpr ⟨lw_p6, List.forall_mem_cons.mpr ⟨lw_p7, List.forall_mem_cons.mpr ⟨lw_p8, List.forall_mem_cons.mpr ⟨lw_p9, List.forall_mem_cons.mpr ⟨lw_p10, List.forall_mem_cons.mpr ⟨lw_p11, List.forall_mem_cons.mpr ⟨lw_p12, List.forall_mem_cons.mpr ⟨lw_p13, List.forall_mem_cons.mpr ⟨lw_p14, List.forall_mem_cons.mpr ⟨lw_p15, fun _ h => absurd h List.not_mem_nil⟩⟩⟩⟩⟩⟩⟩⟩⟩⟩⟩⟩⟩⟩⟩⟩
theorem lw_p16 : lw_okq (⟨"DendroDesk$Joining", "begin", "(LDendroDesk$Points;I)V"⟩, 15) := ⟨⟨by decide +kernel, by decide +kernel⟩, List.mem_of_getElem? (i := 85) (by decide +kernel), List.mem_of_getElem? (i := 422) (by decide +kernel), List.mem_of_getElem? (i := 423) (by decide +kernel)⟩
theorem lw_p17 : lw_okq (⟨"DendroDesk$Joining", "setCore", "(IIJ)V"⟩, 15) := ⟨⟨by decide +kernel, by decide +kernel⟩, List.mem_of_getElem? (i := 85) (by decide +kernel), List.mem_of_getElem? (i := 429) (by decide +kernel), List.mem_of_getElem? (i := 430) (by decide +kernel)⟩
theorem lw_p18 : lw_okq (⟨"DendroDesk$Joining", "joinAlongChains", "()V"⟩, 15) := ⟨⟨by decide +kernel, by decide +kernel⟩, List.mem_of_getElem? (i := 85) (by decide +kernel), List.mem_of_getElem? (i := 436) (by decide +kernel), List.mem_of_getElem? (i := 437) (by decide +kernel)⟩
theorem lw_p19 : lw_okq (⟨"DendroDesk$Joining", "followChain", "()V"⟩, 15) := ⟨⟨by decide +kernel, by decide +kernel⟩, List.mem_of_getElem? (i := 85) (by decide +kernel), List.mem_of_getElem? (i := 440) (by decide +kernel), List.mem_of_getElem? (i := 441) (by decide +kernel)⟩
theorem lw_p20 : lw_okq (⟨"DendroDesk$Joining", "nearestTo", "(II)I"⟩, 15) := ⟨⟨by decide +kernel, by decide +kernel⟩, List.mem_of_getElem? (i := 85) (by decide +kernel), List.mem_of_getElem? (i := 444) (by decide +kernel), List.mem_of_getElem? (i := 445) (by decide +kernel)⟩
theorem lw_p21 : lw_okq (⟨"DendroDesk$Joining", "compareLinkages", "(IIII)I"⟩, 15) := ⟨⟨by decide +kernel, by decide +kernel⟩, List.mem_of_getElem? (i := 85) (by decide +kernel), List.mem_of_getElem? (i := 448) (by decide +kernel), List.mem_of_getElem? (i := 449) (by decide +kernel)⟩
theorem lw_p22 : lw_okq (⟨"DendroDesk$Joining", "join", "(II)V"⟩, 15) := ⟨⟨by decide +kernel, by decide +kernel⟩, List.mem_of_getElem? (i := 85) (by decide +kernel), List.mem_of_getElem? (i := 455) (by decide +kernel), List.mem_of_getElem? (i := 456) (by decide +kernel)⟩
theorem lw_p23 : lw_okq (⟨"DendroDesk$Steps", "setClusters", "(IIII)V"⟩, 6) := ⟨⟨by decide +kernel, by decide +kernel⟩, List.mem_of_getElem? (i := 91) (by decide +kernel), List.mem_of_getElem? (i := 459) (by decide +kernel), List.mem_of_getElem? (i := 460) (by decide +kernel)⟩
theorem lw_p24 : lw_okq (⟨"DendroDesk$Steps", "setHeight", "(IJJ)V"⟩, 6) := ⟨⟨by decide +kernel, by decide +kernel⟩, List.mem_of_getElem? (i := 91) (by decide +kernel), List.mem_of_getElem? (i := 467) (by decide +kernel), List.mem_of_getElem? (i := 468) (by decide +kernel)⟩
theorem lw_p25 : lw_okq (⟨"DendroDesk$Joining", "leave", "(I)V"⟩, 15) := ⟨⟨by decide +kernel, by decide +kernel⟩, List.mem_of_getElem? (i := 85) (by decide +kernel), List.mem_of_getElem? (i := 473) (by decide +kernel), List.mem_of_getElem? (i := 474) (by decide +kernel)⟩
theorem lw_p26 : lw_okq (⟨"DendroDesk$Joining", "joinGreedily", "()V"⟩, 15) := ⟨⟨by decide +kernel, by decide +kernel⟩, List.mem_of_getElem? (i := 85) (by decide +kernel), List.mem_of_getElem? (i := 478) (by decide +kernel), List.mem_of_getElem? (i := 479) (by decide +kernel)⟩
theorem lw_p27 : lw_okq (⟨"DendroDesk$Joining", "joinLeastPair", "()V"⟩, 15) := ⟨⟨by decide +kernel, by decide +kernel⟩, List.mem_of_getElem? (i := 85) (by decide +kernel), List.mem_of_getElem? (i := 482) (by decide +kernel), List.mem_of_getElem? (i := 483) (by decide +kernel)⟩
theorem lw_p28 : lw_okq (⟨"DendroDesk$Joining", "deliver", "(LDendroDesk$Tree;Z)V"⟩, 15) := ⟨⟨by decide +kernel, by decide +kernel⟩, List.mem_of_getElem? (i := 85) (by decide +kernel), List.mem_of_getElem? (i := 486) (by decide +kernel), List.mem_of_getElem? (i := 487) (by decide +kernel)⟩
theorem lw_p29 : lw_okq (⟨"DendroDesk$Steps", "rankOf", "(I)I"⟩, 6) := ⟨⟨by decide +kernel, by decide +kernel⟩, List.mem_of_getElem? (i := 91) (by decide +kernel), List.mem_of_getElem? (i := 490) (by decide +kernel), List.mem_of_getElem? (i := 491) (by decide +kernel)⟩
theorem lw_p30 : lw_okq (⟨"DendroDesk$Joining", "renumbered", "(I)I"⟩, 15) := ⟨⟨by decide +kernel, by decide +kernel⟩, List.mem_of_getElem? (i := 85) (by decide +kernel), List.mem_of_getElem? (i := 495) (by decide +kernel), List.mem_of_getElem? (i := 496) (by decide +kernel)⟩
theorem lw_p31 : lw_okq (⟨"DendroDesk$Steps", "has", "(I)Z"⟩, 6) := ⟨⟨by decide +kernel, by decide +kernel⟩, List.mem_of_getElem? (i := 91) (by decide +kernel), List.mem_of_getElem? (i := 499) (by decide +kernel), List.mem_of_getElem? (i := 500) (by decide +kernel)⟩
def lw_privs_2 : List (MethodName × Nat) := [(⟨"DendroDesk$Joining", "begin", "(LDendroDesk$Points;I)V"⟩, 15), (⟨"DendroDesk$Joining", "setCore", "(IIJ)V"⟩, 15), (⟨"DendroDesk$Joining", "joinAlongChains", "()V"⟩, 15), (⟨"DendroDesk$Joining", "followChain", "()V"⟩, 15), (⟨"DendroDesk$Joining", "nearestTo", "(II)I"⟩, 15), (⟨"DendroDesk$Joining", "compareLinkages", "(IIII)I"⟩, 15), (⟨"DendroDesk$Joining", "join", "(II)V"⟩, 15), (⟨"DendroDesk$Steps", "setClusters", "(IIII)V"⟩, 6), (⟨"DendroDesk$Steps", "setHeight", "(IJJ)V"⟩, 6), (⟨"DendroDesk$Joining", "leave", "(I)V"⟩, 15), (⟨"DendroDesk$Joining", "joinGreedily", "()V"⟩, 15), (⟨"DendroDesk$Joining", "joinLeastPair", "()V"⟩, 15), (⟨"DendroDesk$Joining", "deliver", "(LDendroDesk$Tree;Z)V"⟩, 15), (⟨"DendroDesk$Steps", "rankOf", "(I)I"⟩, 6), (⟨"DendroDesk$Joining", "renumbered", "(I)I"⟩, 15), (⟨"DendroDesk$Steps", "has", "(I)Z"⟩, 6)]
theorem lw_r2 : ∀ q ∈ lw_privs_2, lw_okq q := List.forall_mem_cons.mpr ⟨lw_p16, List.forall_mem_cons.mpr ⟨lw_p17, List.forall_mem_cons.mpr ⟨lw_p18, List.forall_mem_cons.mpr ⟨lw_p19, List.forall_mem_cons.mpr ⟨lw_p20, List.forall_mem_cons.mpr ⟨lw_p21, List.forall_mem_cons.mpr ⟨lw_p22, List.forall_mem_cons.mpr ⟨lw_p23, List.forall_mem_cons.mpr ⟨lw_p24, List.forall_mem_cons.mpr ⟨lw_p25, List.forall_mem_cons.mpr ⟨lw_p26, List.forall_mem_cons.mpr ⟨lw_p27, List.forall_mem_cons.mpr ⟨lw_p28, List.forall_mem_cons.mpr ⟨lw_p29, List.forall_mem_cons.mpr ⟨lw_p30, List.forall_mem_cons.mpr ⟨lw_p31, fun _ h => absurd h List.not_mem_nil⟩⟩⟩⟩⟩⟩⟩⟩⟩⟩⟩⟩⟩⟩⟩⟩
theorem lw_p32 : lw_okq (⟨"DendroDesk", "treeIn", "(I)LDendroDesk$Tree;"⟩, 6) := ⟨⟨by decide +kernel, by decide +kernel⟩, List.mem_of_getElem? (i := 15) (by decide +kernel), List.mem_of_getElem? (i := 511) (by decide +kernel), List.mem_of_getElem? (i := 512) (by decide +kernel)⟩
theorem lw_p33 : lw_okq (⟨"DendroDesk$Tree", "has", "(I)Z"⟩, 7) := ⟨⟨by decide +kernel, by decide +kernel⟩, List.mem_of_getElem? (i := 182) (by decide +kernel), List.mem_of_getElem? (i := 528) (by decide +kernel), List.mem_of_getElem? (i := 529) (by decide +kernel)⟩
theorem lw_p34 : lw_okq (⟨"DendroDesk$Steps", "firstWithAll", "(I)I"⟩, 6) := ⟨⟨by decide +kernel, by decide +kernel⟩, List.mem_of_getElem? (i := 91) (by decide +kernel), List.mem_of_getElem? (i := 532) (by decide +kernel), List.mem_of_getElem? (i := 533) (by decide +kernel)⟩
theorem lw_p35 : lw_okq (⟨"DendroDesk$Steps", "isLike", "(LDendroDesk$Steps;)Z"⟩, 6) := ⟨⟨by decide +kernel, by decide +kernel⟩, List.mem_of_getElem? (i := 91) (by decide +kernel), List.mem_of_getElem? (i := 540) (by decide +kernel), List.mem_of_getElem? (i := 541) (by decide +kernel)⟩
theorem lw_p36 : lw_okq (⟨"DendroDesk$Tree", "lastCluster", "()I"⟩, 7) := ⟨⟨by decide +kernel, by decide +kernel⟩, List.mem_of_getElem? (i := 182) (by decide +kernel), List.mem_of_getElem? (i := 548) (by decide +kernel), List.mem_of_getElem? (i := 549) (by decide +kernel)⟩
theorem lw_p37 : lw_okq (⟨"DendroDesk$Tree", "leading", "(I)I"⟩, 7) := ⟨⟨by decide +kernel, by decide +kernel⟩, List.mem_of_getElem? (i := 182) (by decide +kernel), List.mem_of_getElem? (i := 555) (by decide +kernel), List.mem_of_getElem? (i := 556) (by decide +kernel)⟩
theorem lw_p38 : lw_okq (⟨"DendroDesk$Tree", "isFirstLeading", "(I)Z"⟩, 7) := ⟨⟨by decide +kernel, by decide +kernel⟩, List.mem_of_getElem? (i := 182) (by decide +kernel), List.mem_of_getElem? (i := 559) (by decide +kernel), List.mem_of_getElem? (i := 560) (by decide +kernel)⟩
theorem lw_p39 : lw_okq (⟨"DendroDesk$Tree", "bitsOf", "(I)I"⟩, 7) := ⟨⟨by decide +kernel, by decide +kernel⟩, List.mem_of_getElem? (i := 182) (by decide +kernel), List.mem_of_getElem? (i := 563) (by decide +kernel), List.mem_of_getElem? (i := 564) (by decide +kernel)⟩
theorem lw_p40 : lw_okq (⟨"DendroDesk$Tree", "trailing", "(I)I"⟩, 7) := ⟨⟨by decide +kernel, by decide +kernel⟩, List.mem_of_getElem? (i := 182) (by decide +kernel), List.mem_of_getElem? (i := 568) (by decide +kernel), List.mem_of_getElem? (i := 569) (by decide +kernel)⟩
theorem lw_p41 : lw_okq (⟨"DendroDesk$Tree", "pointInOrder", "(I)I"⟩, 7) := ⟨⟨by decide +kernel, by decide +kernel⟩, List.mem_of_getElem? (i := 182) (by decide +kernel), List.mem_of_getElem? (i := 576) (by decide +kernel), List.mem_of_getElem? (i := 577) (by decide +kernel)⟩
theorem lw_p42 : lw_okq (⟨"DendroDesk$Tree", "cutBehind", "(I)I"⟩, 7) := ⟨⟨by decide +kernel, by decide +kernel⟩, List.mem_of_getElem? (i := 182) (by decide +kernel), List.mem_of_getElem? (i := 589) (by decide +kernel), List.mem_of_getElem? (i := 590) (by decide +kernel)⟩
theorem lw_p43 : lw_okq (⟨"DendroDesk$Tree", "clusterBehind", "(II)I"⟩, 7) := ⟨⟨by decide +kernel, by decide +kernel⟩, List.mem_of_getElem? (i := 182) (by decide +kernel), List.mem_of_getElem? (i := 593) (by decide +kernel), List.mem_of_getElem? (i := 594) (by decide +kernel)⟩
theorem lw_p44 : lw_okq (⟨"DendroDesk$Tree", "setLabels", "(II)V"⟩, 7) := ⟨⟨by decide +kernel, by decide +kernel⟩, List.mem_of_getElem? (i := 182) (by decide +kernel), List.mem_of_getElem? (i := 597) (by decide +kernel), List.mem_of_getElem? (i := 598) (by decide +kernel)⟩
theorem lw_p45 : lw_okq (⟨"DendroDesk$Steps", "countUpTo", "(JJ)I"⟩, 6) := ⟨⟨by decide +kernel, by decide +kernel⟩, List.mem_of_getElem? (i := 91) (by decide +kernel), List.mem_of_getElem? (i := 606) (by decide +kernel), List.mem_of_getElem? (i := 607) (by decide +kernel)⟩
theorem lw_p46 : lw_okq (⟨"DendroDesk$Tree", "isTogether", "(II)Z"⟩, 7) := ⟨⟨by decide +kernel, by decide +kernel⟩, List.mem_of_getElem? (i := 182) (by decide +kernel), List.mem_of_getElem? (i := 618) (by decide +kernel), List.mem_of_getElem? (i := 619) (by decide +kernel)⟩
theorem lw_p47 : lw_okq (⟨"DendroDesk", "sumToCluster", "(LDendroDesk$Tree;I)I"⟩, 6) := ⟨⟨by decide +kernel, by decide +kernel⟩, List.mem_of_getElem? (i := 15) (by decide +kernel), List.mem_of_getElem? (i := 626) (by decide +kernel), List.mem_of_getElem? (i := 627) (by decide +kernel)⟩
def lw_privs_3 : List (MethodName × Nat) := [(⟨"DendroDesk", "treeIn", "(I)LDendroDesk$Tree;"⟩, 6), (⟨"DendroDesk$Tree", "has", "(I)Z"⟩, 7), (⟨"DendroDesk$Steps", "firstWithAll", "(I)I"⟩, 6), (⟨"DendroDesk$Steps", "isLike", "(LDendroDesk$Steps;)Z"⟩, 6), (⟨"DendroDesk$Tree", "lastCluster", "()I"⟩, 7), (⟨"DendroDesk$Tree", "leading", "(I)I"⟩, 7), (⟨"DendroDesk$Tree", "isFirstLeading", "(I)Z"⟩, 7), (⟨"DendroDesk$Tree", "bitsOf", "(I)I"⟩, 7), (⟨"DendroDesk$Tree", "trailing", "(I)I"⟩, 7), (⟨"DendroDesk$Tree", "pointInOrder", "(I)I"⟩, 7), (⟨"DendroDesk$Tree", "cutBehind", "(I)I"⟩, 7), (⟨"DendroDesk$Tree", "clusterBehind", "(II)I"⟩, 7), (⟨"DendroDesk$Tree", "setLabels", "(II)V"⟩, 7), (⟨"DendroDesk$Steps", "countUpTo", "(JJ)I"⟩, 6), (⟨"DendroDesk$Tree", "isTogether", "(II)Z"⟩, 7), (⟨"DendroDesk", "sumToCluster", "(LDendroDesk$Tree;I)I"⟩, 6)]
theorem lw_r3 : ∀ q ∈ lw_privs_3, lw_okq q := List.forall_mem_cons.mpr ⟨lw_p32, List.forall_mem_cons.mpr ⟨lw_p33, List.forall_mem_cons.mpr ⟨lw_p34, List.forall_mem_cons.mpr ⟨lw_p35, List.forall_mem_cons.mpr ⟨lw_p36, List.forall_mem_cons.mpr ⟨lw_p37, List.forall_mem_cons.mpr ⟨lw_p38, List.forall_mem_cons.mpr ⟨lw_p39, List.forall_mem_cons.mpr ⟨lw_p40, List.forall_mem_cons.mpr ⟨lw_p41, List.forall_mem_cons.mpr ⟨lw_p42, List.forall_mem_cons.mpr ⟨lw_p43, List.forall_mem_cons.mpr ⟨lw_p44, List.forall_mem_cons.mpr ⟨lw_p45, List.forall_mem_cons.mpr ⟨lw_p46, List.forall_mem_cons.mpr ⟨lw_p47, fun _ h => absurd h List.not_mem_nil⟩⟩⟩⟩⟩⟩⟩⟩⟩⟩⟩⟩⟩⟩⟩⟩
theorem lw_p48 : lw_okq (⟨"DendroDeskModel", "sets", "(III)V"⟩, 39) := ⟨⟨by decide +kernel, by decide +kernel⟩, List.mem_of_getElem? (i := 630) (by decide +kernel), List.mem_of_getElem? (i := 767) (by decide +kernel), List.mem_of_getElem? (i := 768) (by decide +kernel)⟩
theorem lw_p49 : lw_okq (⟨"DendroDeskModel", "inkNumber", "(J)V"⟩, 39) := ⟨⟨by decide +kernel, by decide +kernel⟩, List.mem_of_getElem? (i := 630) (by decide +kernel), List.mem_of_getElem? (i := 812) (by decide +kernel), List.mem_of_getElem? (i := 813) (by decide +kernel)⟩
theorem lw_p50 : lw_okq (⟨"DendroDeskModel", "ink", "(I)V"⟩, 39) := ⟨⟨by decide +kernel, by decide +kernel⟩, List.mem_of_getElem? (i := 630) (by decide +kernel), List.mem_of_getElem? (i := 816) (by decide +kernel), List.mem_of_getElem? (i := 817) (by decide +kernel)⟩
theorem lw_p51 : lw_okq (⟨"DendroDeskModel", "link", "(III)V"⟩, 39) := ⟨⟨by decide +kernel, by decide +kernel⟩, List.mem_of_getElem? (i := 630) (by decide +kernel), List.mem_of_getElem? (i := 832) (by decide +kernel), List.mem_of_getElem? (i := 833) (by decide +kernel)⟩
theorem lw_p52 : lw_okq (⟨"DendroDeskModel", "extreme", "(IIZ)I"⟩, 39) := ⟨⟨by decide +kernel, by decide +kernel⟩, List.mem_of_getElem? (i := 630) (by decide +kernel), List.mem_of_getElem? (i := 839) (by decide +kernel), List.mem_of_getElem? (i := 840) (by decide +kernel)⟩
theorem lw_p53 : lw_okq (⟨"DendroDeskModel", "lowest", "(JJ)V"⟩, 39) := ⟨⟨by decide +kernel, by decide +kernel⟩, List.mem_of_getElem? (i := 630) (by decide +kernel), List.mem_of_getElem? (i := 843) (by decide +kernel), List.mem_of_getElem? (i := 844) (by decide +kernel)⟩
theorem lw_p54 : lw_okq (⟨"DendroDeskModel", "between", "(II)J"⟩, 39) := ⟨⟨by decide +kernel, by decide +kernel⟩, List.mem_of_getElem? (i := 630) (by decide +kernel), List.mem_of_getElem? (i := 847) (by decide +kernel), List.mem_of_getElem? (i := 848) (by decide +kernel)⟩
theorem lw_p55 : lw_okq (⟨"DendroDeskModel", "weighted", "(II)J"⟩, 39) := ⟨⟨by decide +kernel, by decide +kernel⟩, List.mem_of_getElem? (i := 630) (by decide +kernel), List.mem_of_getElem? (i := 852) (by decide +kernel), List.mem_of_getElem? (i := 853) (by decide +kernel)⟩
theorem lw_p56 : lw_okq (⟨"DendroDeskModel", "deep", "(II)I"⟩, 39) := ⟨⟨by decide +kernel, by decide +kernel⟩, List.mem_of_getElem? (i := 630) (by decide +kernel), List.mem_of_getElem? (i := 856) (by decide +kernel), List.mem_of_getElem? (i := 857) (by decide +kernel)⟩
theorem lw_p57 : lw_okq (⟨"DendroDeskModel", "begins", "()V"⟩, 39) := ⟨⟨by decide +kernel, by decide +kernel⟩, List.mem_of_getElem? (i := 630) (by decide +kernel), List.mem_of_getElem? (i := 865) (by decide +kernel), List.mem_of_getElem? (i := 866) (by decide +kernel)⟩
theorem lw_p58 : lw_okq (⟨"DendroDeskModel", "greedyStep", "(I)V"⟩, 39) := ⟨⟨by decide +kernel, by decide +kernel⟩, List.mem_of_getElem? (i := 630) (by decide +kernel), List.mem_of_getElem? (i := 869) (by decide +kernel), List.mem_of_getElem? (i := 870) (by decide +kernel)⟩
theorem lw_p59 : lw_okq (⟨"DendroDeskModel", "joined", "(II)V"⟩, 39) := ⟨⟨by decide +kernel, by decide +kernel⟩, List.mem_of_getElem? (i := 630) (by decide +kernel), List.mem_of_getElem? (i := 876) (by decide +kernel), List.mem_of_getElem? (i := 877) (by decide +kernel)⟩
theorem lw_p60 : lw_okq (⟨"DendroDeskModel", "keeps", "(IIZ)V"⟩, 39) := ⟨⟨by decide +kernel, by decide +kernel⟩, List.mem_of_getElem? (i := 630) (by decide +kernel), List.mem_of_getElem? (i := 880) (by decide +kernel), List.mem_of_getElem? (i := 881) (by decide +kernel)⟩
theorem lw_p61 : lw_okq (⟨"DendroDeskModel", "chainStep", "(I)V"⟩, 39) := ⟨⟨by decide +kernel, by decide +kernel⟩, List.mem_of_getElem? (i := 630) (by decide +kernel), List.mem_of_getElem? (i := 888) (by decide +kernel), List.mem_of_getElem? (i := 889) (by decide +kernel)⟩
theorem lw_p62 : lw_okq (⟨"DendroDeskModel", "isTree", "(I)Z"⟩, 39) := ⟨⟨by decide +kernel, by decide +kernel⟩, List.mem_of_getElem? (i := 630) (by decide +kernel), List.mem_of_getElem? (i := 896) (by decide +kernel), List.mem_of_getElem? (i := 897) (by decide +kernel)⟩
theorem lw_p63 : lw_okq (⟨"DendroDeskModel", "steps", "(I)I"⟩, 39) := ⟨⟨by decide +kernel, by decide +kernel⟩, List.mem_of_getElem? (i := 630) (by decide +kernel), List.mem_of_getElem? (i := 900) (by decide +kernel), List.mem_of_getElem? (i := 901) (by decide +kernel)⟩
def lw_privs_4 : List (MethodName × Nat) := [(⟨"DendroDeskModel", "sets", "(III)V"⟩, 39), (⟨"DendroDeskModel", "inkNumber", "(J)V"⟩, 39), (⟨"DendroDeskModel", "ink", "(I)V"⟩, 39), (⟨"DendroDeskModel", "link", "(III)V"⟩, 39), (⟨"DendroDeskModel", "extreme", "(IIZ)I"⟩, 39), (⟨"DendroDeskModel", "lowest", "(JJ)V"⟩, 39), (⟨"DendroDeskModel", "between", "(II)J"⟩, 39), (⟨"DendroDeskModel", "weighted", "(II)J"⟩, 39), (⟨"DendroDeskModel", "deep", "(II)I"⟩, 39), (⟨"DendroDeskModel", "begins", "()V"⟩, 39), (⟨"DendroDeskModel", "greedyStep", "(I)V"⟩, 39), (⟨"DendroDeskModel", "joined", "(II)V"⟩, 39), (⟨"DendroDeskModel", "keeps", "(IIZ)V"⟩, 39), (⟨"DendroDeskModel", "chainStep", "(I)V"⟩, 39), (⟨"DendroDeskModel", "isTree", "(I)Z"⟩, 39), (⟨"DendroDeskModel", "steps", "(I)I"⟩, 39)]
theorem lw_r4 : ∀ q ∈ lw_privs_4, lw_okq q := List.forall_mem_cons.mpr ⟨lw_p48, List.forall_mem_cons.mpr ⟨lw_p49, List.forall_mem_cons.mpr ⟨lw_p50, List.forall_mem_cons.mpr ⟨lw_p51, List.forall_mem_cons.mpr ⟨lw_p52, List.forall_mem_cons.mpr ⟨lw_p53, List.forall_mem_cons.mpr ⟨lw_p54, List.forall_mem_cons.mpr ⟨lw_p55, List.forall_mem_cons.mpr ⟨lw_p56, List.forall_mem_cons.mpr ⟨lw_p57, List.forall_mem_cons.mpr ⟨lw_p58, List.forall_mem_cons.mpr ⟨lw_p59, List.forall_mem_cons.mpr ⟨lw_p60, List.forall_mem_cons.mpr ⟨lw_p61, List.forall_mem_cons.mpr ⟨lw_p62, List.forall_mem_cons.mpr ⟨lw_p63, fun _ h => absurd h List.not_mem_nil⟩⟩⟩⟩⟩⟩⟩⟩⟩⟩⟩⟩⟩⟩⟩⟩
theorem lw_p64 : lw_okq (⟨"DendroDeskModel", "isStep", "(II)Z"⟩, 39) := ⟨⟨by decide +kernel, by decide +kernel⟩, List.mem_of_getElem? (i := 630) (by decide +kernel), List.mem_of_getElem? (i := 908) (by decide +kernel), List.mem_of_getElem? (i := 909) (by decide +kernel)⟩
theorem lw_p65 : lw_okq (⟨"DendroDeskModel", "tells", "(I)V"⟩, 39) := ⟨⟨by decide +kernel, by decide +kernel⟩, List.mem_of_getElem? (i := 630) (by decide +kernel), List.mem_of_getElem? (i := 928) (by decide +kernel), List.mem_of_getElem? (i := 929) (by decide +kernel)⟩
theorem lw_p66 : lw_okq (⟨"DendroDeskModel", "leastOf", "(II)I"⟩, 39) := ⟨⟨by decide +kernel, by decide +kernel⟩, List.mem_of_getElem? (i := 630) (by decide +kernel), List.mem_of_getElem? (i := 932) (by decide +kernel), List.mem_of_getElem? (i := 933) (by decide +kernel)⟩
theorem lw_p67 : lw_okq (⟨"DendroDeskModel", "labelled", "(II)I"⟩, 39) := ⟨⟨by decide +kernel, by decide +kernel⟩, List.mem_of_getElem? (i := 630) (by decide +kernel), List.mem_of_getElem? (i := 944) (by decide +kernel), List.mem_of_getElem? (i := 945) (by decide +kernel)⟩
def lw_privs_5 : List (MethodName × Nat) := [(⟨"DendroDeskModel", "isStep", "(II)Z"⟩, 39), (⟨"DendroDeskModel", "tells", "(I)V"⟩, 39), (⟨"DendroDeskModel", "leastOf", "(II)I"⟩, 39), (⟨"DendroDeskModel", "labelled", "(II)I"⟩, 39)]
theorem lw_r5 : ∀ q ∈ lw_privs_5, lw_okq q := List.forall_mem_cons.mpr ⟨lw_p64, List.forall_mem_cons.mpr ⟨lw_p65, List.forall_mem_cons.mpr ⟨lw_p66, List.forall_mem_cons.mpr ⟨lw_p67, fun _ h => absurd h List.not_mem_nil⟩⟩⟩⟩
def lw_privs : List (MethodName × Nat) := lw_privs_1 ++ (lw_privs_2 ++ (lw_privs_3 ++ (lw_privs_4 ++ (lw_privs_5))))
def lw_tbl : List Cond := k2_sels lw_privs ++ tables_1
theorem lw_privs_ok : ∀ q ∈ lw_privs, lw_okq q := by
  show ∀ q ∈ lw_privs_1 ++ (lw_privs_2 ++ (lw_privs_3 ++ (lw_privs_4 ++ (lw_privs_5)))), lw_okq q
  exact List.forall_mem_append.mpr ⟨lw_r1, List.forall_mem_append.mpr ⟨lw_r2, List.forall_mem_append.mpr ⟨lw_r3, List.forall_mem_append.mpr ⟨lw_r4, lw_r5⟩⟩⟩⟩
end
section
/-! ===== BEGIN words of one list among another's, by their places ===== -/
theorem goodIn_r {big : List Cond} (ws : List Cond) (ps : List Nat) (hp : ws = ps.filterMap (fun i => big[i]?)) (h : ws.all goodWord = true) : GoodIn big ws := by
  intro w hw
  have h1 := List.all_eq_true.mp h w hw
  rw [hp] at hw
  obtain ⟨i, -, hi⟩ := List.mem_filterMap.mp hw
  have hm : w ∈ big := by first | exact List.mem_of_getElem? hi | exact List.getElem?_mem hi
  exact ⟨hm, good_of_word h1⟩
theorem goodIn_app {big a b : List Cond} (ha : GoodIn big a) (hb : GoodIn big b) : GoodIn big (a ++ b) := fun w h => (List.mem_append.mp h).elim (ha w) (hb w)
theorem goodIn_ca {big a b : List Cond} {c : Cond} (ha : GoodIn big (c :: a)) (hb : GoodIn big b) : GoodIn big (c :: (a ++ b)) := fun w h => (List.mem_cons.mp h).elim (fun e => ha w (List.mem_cons.mpr (Or.inl e))) (fun h => (List.mem_append.mp h).elim (fun h => ha w (List.mem_cons.mpr (Or.inr h))) (hb w))
theorem goodIn_sub {big ws : List Cond} (hm : ∀ w ∈ ws, w ∈ big) (h : ws.all goodWord = true) : GoodIn big ws := fun w hw => ⟨hm w hw, good_of_word (List.all_eq_true.mp h w hw)⟩
/-! ===== END ===== -/
def RX0 : String := "DendroDesk$Bytes"
def TX0 : u_T := fun k => match k with
  | 0 => ("DendroDesk$Bytes", "row", "[B", true)
  | _ => ("DendroDesk$Bytes", "length", "I", false)
def tyX0 : Nat → FieldType := fun k => match k with
  | 0 => .array .byte
  | _ => .int
abbrev wsX00 : List Cond := u_ws RX0 TX0 2
theorem nmX0 : ∀ a, a < 2 → ∀ b, b < 2 → a ≠ b → (TX0 a).2.1 ≠ (TX0 b).2.1 := by decide +kernel
theorem tyX0_ok : ∀ k, k < 2 → parseFieldDescriptor (TX0 k).2.2.1 = some (tyX0 k) := by decide +kernel
abbrev cX0_init : ByteArray := prog_2_method_1_code
def yX0_init : MethodName := ⟨RX0, "<init>", "()V"⟩
abbrev cX0_at : ByteArray := prog_2_method_2_code
def yX0_at : MethodName := ⟨RX0, "at", "(I)I"⟩
abbrev cX0_add : ByteArray := prog_2_method_3_code
def yX0_add : MethodName := ⟨RX0, "add", "(I)V"⟩
abbrev cX0_addFour : ByteArray := prog_2_method_4_code
def yX0_addFour : MethodName := ⟨RX0, "addFour", "(I)V"⟩
abbrev cX0_addNumber : ByteArray := prog_2_method_5_code
def yX0_addNumber : MethodName := ⟨RX0, "addNumber", "(J)V"⟩
abbrev cX0_copyFrom : ByteArray := prog_2_method_6_code
def yX0_copyFrom : MethodName := ⟨RX0, "copyFrom", "(LDendroDesk$Bytes;)V"⟩
def RX1 : String := "DendroDesk$Joining"
def TX1 : u_T := fun k => match k with
  | 0 => ("DendroDesk$Joining", "points", "I", false)
  | 1 => ("DendroDesk$Joining", "kind", "I", false)
  | 2 => ("DendroDesk$Joining", "ties", "I", false)
  | 3 => ("DendroDesk$Joining", "made", "LDendroDesk$Steps;", true)
  | 4 => ("DendroDesk$Joining", "ranks", "[I", true)
  | 5 => ("DendroDesk$Joining", "standing", "[I", true)
  | 6 => ("DendroDesk$Joining", "count", "I", false)
  | 7 => ("DendroDesk$Joining", "number", "[I", true)
  | 8 => ("DendroDesk$Joining", "bits", "[I", true)
  | 9 => ("DendroDesk$Joining", "inside", "[J", true)
  | 10 => ("DendroDesk$Joining", "core", "[[J", true)
  | 11 => ("DendroDesk$Joining", "top", "[[J", true)
  | 12 => ("DendroDesk$Joining", "bottom", "[[J", true)
  | 13 => ("DendroDesk$Joining", "stack", "[I", true)
  | _ => ("DendroDesk$Joining", "depth", "I", false)
def tyX1 : Nat → FieldType := fun k => match k with
  | 0 => .int
  | 1 => .int
  | 2 => .int
  | 3 => .object "DendroDesk$Steps"
  | 4 => .array .int
  | 5 => .array .int
  | 6 => .int
  | 7 => .array .int
  | 8 => .array .int
  | 9 => .array .long
  | 10 => .array (.array .long)
  | 11 => .array (.array .long)
  | 12 => .array (.array .long)
  | 13 => .array .int
  | _ => .int
abbrev wsX10 : List Cond := u_ws RX1 TX1 15
theorem nmX1 : ∀ a, a < 15 → ∀ b, b < 15 → a ≠ b → (TX1 a).2.1 ≠ (TX1 b).2.1 := by decide +kernel
theorem tyX1_ok : ∀ k, k < 15 → parseFieldDescriptor (TX1 k).2.2.1 = some (tyX1 k) := by decide +kernel
abbrev cX1_init : ByteArray := prog_3_method_1_code
def yX1_init : MethodName := ⟨RX1, "<init>", "()V"⟩
abbrev cX1_begin : ByteArray := prog_3_method_2_code
def yX1_begin : MethodName := ⟨RX1, "begin", "(LDendroDesk$Points;I)V"⟩
abbrev cX1_setCore : ByteArray := prog_3_method_3_code
def yX1_setCore : MethodName := ⟨RX1, "setCore", "(IIJ)V"⟩
abbrev cX1_compareLinkages : ByteArray := prog_3_method_4_code
def yX1_compareLinkages : MethodName := ⟨RX1, "compareLinkages", "(IIII)I"⟩
abbrev cX1_joinGreedily : ByteArray := prog_3_method_5_code
def yX1_joinGreedily : MethodName := ⟨RX1, "joinGreedily", "()V"⟩
abbrev cX1_joinLeastPair : ByteArray := prog_3_method_6_code
def yX1_joinLeastPair : MethodName := ⟨RX1, "joinLeastPair", "()V"⟩
abbrev cX1_joinAlongChains : ByteArray := prog_3_method_7_code
def yX1_joinAlongChains : MethodName := ⟨RX1, "joinAlongChains", "()V"⟩
abbrev cX1_followChain : ByteArray := prog_3_method_8_code
def yX1_followChain : MethodName := ⟨RX1, "followChain", "()V"⟩
abbrev cX1_nearestTo : ByteArray := prog_3_method_9_code
def yX1_nearestTo : MethodName := ⟨RX1, "nearestTo", "(II)I"⟩
abbrev cX1_join : ByteArray := prog_3_method_10_code
def yX1_join : MethodName := ⟨RX1, "join", "(II)V"⟩
abbrev cX1_leave : ByteArray := prog_3_method_11_code
def yX1_leave : MethodName := ⟨RX1, "leave", "(I)V"⟩
abbrev cX1_deliver : ByteArray := prog_3_method_12_code
def yX1_deliver : MethodName := ⟨RX1, "deliver", "(LDendroDesk$Tree;Z)V"⟩
abbrev cX1_renumbered : ByteArray := prog_3_method_13_code
def yX1_renumbered : MethodName := ⟨RX1, "renumbered", "(I)I"⟩
def RX2 : String := "DendroDesk$Linkages"
def TX2 : u_T := fun k => match k with
  | _ => ("", "", "", false)
def tyX2 : Nat → FieldType := fun k => match k with
  | _ => .int
abbrev wsX20 : List Cond := u_ws RX2 TX2 0
theorem nmX2 : ∀ a, a < 0 → ∀ b, b < 0 → a ≠ b → (TX2 a).2.1 ≠ (TX2 b).2.1 := by decide +kernel
theorem tyX2_ok : ∀ k, k < 0 → parseFieldDescriptor (TX2 k).2.2.1 = some (tyX2 k) := by decide +kernel
abbrev cX2_coreOfPoints : ByteArray := prog_4_method_2_code
def yX2_coreOfPoints : MethodName := ⟨RX2, "coreOfPoints", "(II)J"⟩
abbrev cX2_carriedOn : ByteArray := prog_4_method_3_code
def yX2_carriedOn : MethodName := ⟨RX2, "carriedOn", "(IJJ)J"⟩
abbrev cX2_wardTop : ByteArray := prog_4_method_4_code
def yX2_wardTop : MethodName := ⟨RX2, "wardTop", "(JIIJJ)J"⟩
abbrev cX2_bottomOf : ByteArray := prog_4_method_5_code
def yX2_bottomOf : MethodName := ⟨RX2, "bottomOf", "(III)J"⟩
def RX3 : String := "DendroDesk$Points"
def TX3 : u_T := fun k => match k with
  | 0 => ("DendroDesk$Points", "count", "I", false)
  | 1 => ("DendroDesk$Points", "apart", "[[I", true)
  | 2 => ("DendroDesk$Points", "xs", "[I", true)
  | _ => ("DendroDesk$Points", "ys", "[I", true)
def tyX3 : Nat → FieldType := fun k => match k with
  | 0 => .int
  | 1 => .array (.array .int)
  | 2 => .array .int
  | _ => .array .int
abbrev wsX30 : List Cond := u_ws RX3 TX3 4
theorem nmX3 : ∀ a, a < 4 → ∀ b, b < 4 → a ≠ b → (TX3 a).2.1 ≠ (TX3 b).2.1 := by decide +kernel
theorem tyX3_ok : ∀ k, k < 4 → parseFieldDescriptor (TX3 k).2.2.1 = some (tyX3 k) := by decide +kernel
abbrev cX3_init : ByteArray := prog_5_method_1_code
def yX3_init : MethodName := ⟨RX3, "<init>", "()V"⟩
abbrev cX3_has : ByteArray := prog_5_method_2_code
def yX3_has : MethodName := ⟨RX3, "has", "(I)Z"⟩
abbrev cX3_allBits : ByteArray := prog_5_method_3_code
def yX3_allBits : MethodName := ⟨RX3, "allBits", "()I"⟩
abbrev cX3_startAnew : ByteArray := prog_5_method_4_code
def yX3_startAnew : MethodName := ⟨RX3, "startAnew", "(I)V"⟩
abbrev cX3_setApart : ByteArray := prog_5_method_5_code
def yX3_setApart : MethodName := ⟨RX3, "setApart", "(III)V"⟩
abbrev cX3_measureAll : ByteArray := prog_5_method_6_code
def yX3_measureAll : MethodName := ⟨RX3, "measureAll", "(I)V"⟩
abbrev cX3_measured : ByteArray := prog_5_method_7_code
def yX3_measured : MethodName := ⟨RX3, "measured", "(III)I"⟩
abbrev cX3_coreBetween : ByteArray := prog_5_method_8_code
def yX3_coreBetween : MethodName := ⟨RX3, "coreBetween", "(III)J"⟩
abbrev cX3_sumInside : ByteArray := prog_5_method_9_code
def yX3_sumInside : MethodName := ⟨RX3, "sumInside", "(I)J"⟩
def RX4 : String := "DendroDesk$Steps"
def TX4 : u_T := fun k => match k with
  | 0 => ("DendroDesk$Steps", "count", "I", false)
  | 1 => ("DendroDesk$Steps", "first", "[I", true)
  | 2 => ("DendroDesk$Steps", "second", "[I", true)
  | 3 => ("DendroDesk$Steps", "bits", "[I", true)
  | 4 => ("DendroDesk$Steps", "top", "[J", true)
  | _ => ("DendroDesk$Steps", "bottom", "[J", true)
def tyX4 : Nat → FieldType := fun k => match k with
  | 0 => .int
  | 1 => .array .int
  | 2 => .array .int
  | 3 => .array .int
  | 4 => .array .long
  | _ => .array .long
abbrev wsX40 : List Cond := u_ws RX4 TX4 6
theorem nmX4 : ∀ a, a < 6 → ∀ b, b < 6 → a ≠ b → (TX4 a).2.1 ≠ (TX4 b).2.1 := by decide +kernel
theorem tyX4_ok : ∀ k, k < 6 → parseFieldDescriptor (TX4 k).2.2.1 = some (tyX4 k) := by decide +kernel
abbrev cX4_init : ByteArray := prog_6_method_1_code
def yX4_init : MethodName := ⟨RX4, "<init>", "()V"⟩
abbrev cX4_has : ByteArray := prog_6_method_2_code
def yX4_has : MethodName := ⟨RX4, "has", "(I)Z"⟩
abbrev cX4_setClusters : ByteArray := prog_6_method_3_code
def yX4_setClusters : MethodName := ⟨RX4, "setClusters", "(IIII)V"⟩
abbrev cX4_setHeight : ByteArray := prog_6_method_4_code
def yX4_setHeight : MethodName := ⟨RX4, "setHeight", "(IJJ)V"⟩
abbrev cX4_rankOf : ByteArray := prog_6_method_5_code
def yX4_rankOf : MethodName := ⟨RX4, "rankOf", "(I)I"⟩
abbrev cX4_firstWithAll : ByteArray := prog_6_method_6_code
def yX4_firstWithAll : MethodName := ⟨RX4, "firstWithAll", "(I)I"⟩
abbrev cX4_isLike : ByteArray := prog_6_method_7_code
def yX4_isLike : MethodName := ⟨RX4, "isLike", "(LDendroDesk$Steps;)Z"⟩
abbrev cX4_countUpTo : ByteArray := prog_6_method_8_code
def yX4_countUpTo : MethodName := ⟨RX4, "countUpTo", "(JJ)I"⟩
def RX5 : String := "DendroDesk$TableReader"
def TX5 : u_T := fun k => match k with
  | 0 => ("DendroDesk$TableReader", "numbers", "[I", true)
  | 1 => ("DendroDesk$TableReader", "next", "I", false)
  | _ => ("DendroDesk$TableReader", "flaw", "I", false)
def tyX5 : Nat → FieldType := fun k => match k with
  | 0 => .array .int
  | 1 => .int
  | _ => .int
abbrev wsX50 : List Cond := u_ws RX5 TX5 3
theorem nmX5 : ∀ a, a < 3 → ∀ b, b < 3 → a ≠ b → (TX5 a).2.1 ≠ (TX5 b).2.1 := by decide +kernel
theorem tyX5_ok : ∀ k, k < 3 → parseFieldDescriptor (TX5 k).2.2.1 = some (tyX5 k) := by decide +kernel
abbrev cX5_init : ByteArray := prog_7_method_1_code
def yX5_init : MethodName := ⟨RX5, "<init>", "()V"⟩
abbrev cX5_readTable : ByteArray := prog_7_method_2_code
def yX5_readTable : MethodName := ⟨RX5, "readTable", "(LDendroDesk$Bytes;)Z"⟩
abbrev cX5_readNumber : ByteArray := prog_7_method_3_code
def yX5_readNumber : MethodName := ⟨RX5, "readNumber", "(LDendroDesk$Bytes;I)I"⟩
abbrev cX5_skipBlanks : ByteArray := prog_7_method_4_code
def yX5_skipBlanks : MethodName := ⟨RX5, "skipBlanks", "(LDendroDesk$Bytes;)V"⟩
abbrev cX5_isDigit : ByteArray := prog_7_method_5_code
def yX5_isDigit : MethodName := ⟨RX5, "isDigit", "(I)Z"⟩
abbrev cX5_isBlank : ByteArray := prog_7_method_6_code
def yX5_isBlank : MethodName := ⟨RX5, "isBlank", "(I)Z"⟩
def RX6 : String := "DendroDesk$Tree"
def TX6 : u_T := fun k => match k with
  | 0 => ("DendroDesk$Tree", "made", "Z", false)
  | 1 => ("DendroDesk$Tree", "chained", "Z", false)
  | 2 => ("DendroDesk$Tree", "points", "I", false)
  | 3 => ("DendroDesk$Tree", "kind", "I", false)
  | 4 => ("DendroDesk$Tree", "ties", "I", false)
  | 5 => ("DendroDesk$Tree", "steps", "LDendroDesk$Steps;", true)
  | _ => ("DendroDesk$Tree", "labels", "[I", true)
def tyX6 : Nat → FieldType := fun k => match k with
  | 0 => .boolean
  | 1 => .boolean
  | 2 => .int
  | 3 => .int
  | 4 => .int
  | 5 => .object "DendroDesk$Steps"
  | _ => .array .int
abbrev wsX60 : List Cond := u_ws RX6 TX6 7
theorem nmX6 : ∀ a, a < 7 → ∀ b, b < 7 → a ≠ b → (TX6 a).2.1 ≠ (TX6 b).2.1 := by decide +kernel
theorem tyX6_ok : ∀ k, k < 7 → parseFieldDescriptor (TX6 k).2.2.1 = some (tyX6 k) := by decide +kernel
abbrev cX6_init : ByteArray := prog_8_method_1_code
def yX6_init : MethodName := ⟨RX6, "<init>", "()V"⟩
abbrev cX6_has : ByteArray := prog_8_method_2_code
def yX6_has : MethodName := ⟨RX6, "has", "(I)Z"⟩
abbrev cX6_lastCluster : ByteArray := prog_8_method_3_code
def yX6_lastCluster : MethodName := ⟨RX6, "lastCluster", "()I"⟩
abbrev cX6_bitsOf : ByteArray := prog_8_method_4_code
def yX6_bitsOf : MethodName := ⟨RX6, "bitsOf", "(I)I"⟩
abbrev cX6_isFirstLeading : ByteArray := prog_8_method_5_code
def yX6_isFirstLeading : MethodName := ⟨RX6, "isFirstLeading", "(I)Z"⟩
abbrev cX6_leading : ByteArray := prog_8_method_6_code
def yX6_leading : MethodName := ⟨RX6, "leading", "(I)I"⟩
abbrev cX6_trailing : ByteArray := prog_8_method_7_code
def yX6_trailing : MethodName := ⟨RX6, "trailing", "(I)I"⟩
abbrev cX6_pointInOrder : ByteArray := prog_8_method_8_code
def yX6_pointInOrder : MethodName := ⟨RX6, "pointInOrder", "(I)I"⟩
abbrev cX6_cutBehind : ByteArray := prog_8_method_9_code
def yX6_cutBehind : MethodName := ⟨RX6, "cutBehind", "(I)I"⟩
abbrev cX6_clusterBehind : ByteArray := prog_8_method_10_code
def yX6_clusterBehind : MethodName := ⟨RX6, "clusterBehind", "(II)I"⟩
abbrev cX6_setLabels : ByteArray := prog_8_method_11_code
def yX6_setLabels : MethodName := ⟨RX6, "setLabels", "(II)V"⟩
abbrev cX6_isTogether : ByteArray := prog_8_method_12_code
def yX6_isTogether : MethodName := ⟨RX6, "isTogether", "(II)Z"⟩
def RX7 : String := "DendroDesk"
def TX7 : u_T := fun k => match k with
  | 0 => ("DendroDesk", "desk", "LDendroDesk$Points;", true)
  | 1 => ("DendroDesk", "tapeBytes", "LDendroDesk$Bytes;", true)
  | 2 => ("DendroDesk", "outBytes", "LDendroDesk$Bytes;", true)
  | 3 => ("DendroDesk", "reader", "LDendroDesk$TableReader;", true)
  | 4 => ("DendroDesk", "joining", "LDendroDesk$Joining;", true)
  | _ => ("DendroDesk", "slots", "[LDendroDesk$Tree;", true)
def tyX7 : Nat → FieldType := fun k => match k with
  | 0 => .object "DendroDesk$Points"
  | 1 => .object "DendroDesk$Bytes"
  | 2 => .object "DendroDesk$Bytes"
  | 3 => .object "DendroDesk$TableReader"
  | 4 => .object "DendroDesk$Joining"
  | _ => .array (.object "DendroDesk$Tree")
abbrev wsX70 : List Cond := u_ws RX7 TX7 6
theorem nmX7 : ∀ a, a < 6 → ∀ b, b < 6 → a ≠ b → (TX7 a).2.1 ≠ (TX7 b).2.1 := by decide +kernel
theorem tyX7_ok : ∀ k, k < 6 → parseFieldDescriptor (TX7 k).2.2.1 = some (tyX7 k) := by decide +kernel
abbrev cX7_init : ByteArray := prog_1_method_1_code
def yX7_init : MethodName := ⟨RX7, "<init>", "()V"⟩
abbrev cX7_points : ByteArray := prog_1_method_2_code
def yX7_points : MethodName := ⟨RX7, "points", "(I)I"⟩
abbrev cX7_put : ByteArray := prog_1_method_3_code
def yX7_put : MethodName := ⟨RX7, "put", "(III)Z"⟩
abbrev cX7_distance : ByteArray := prog_1_method_4_code
def yX7_distance : MethodName := ⟨RX7, "distance", "(II)I"⟩
abbrev cX7_place : ByteArray := prog_1_method_5_code
def yX7_place : MethodName := ⟨RX7, "place", "(III)Z"⟩
abbrev cX7_measure : ByteArray := prog_1_method_6_code
def yX7_measure : MethodName := ⟨RX7, "measure", "(I)Z"⟩
abbrev cX7_feed : ByteArray := prog_1_method_7_code
def yX7_feed : MethodName := ⟨RX7, "feed", "(IIIII)I"⟩
abbrev cX7_end : ByteArray := prog_1_method_8_code
def yX7_end : MethodName := ⟨RX7, "end", "(I)I"⟩
abbrev cX7_take : ByteArray := prog_1_method_9_code
def yX7_take : MethodName := ⟨RX7, "take", "()I"⟩
abbrev cX7_read : ByteArray := prog_1_method_10_code
def yX7_read : MethodName := ⟨RX7, "read", "()I"⟩
abbrev cX7_fault : ByteArray := prog_1_method_11_code
def yX7_fault : MethodName := ⟨RX7, "fault", "()I"⟩
abbrev cX7_write : ByteArray := prog_1_method_12_code
def yX7_write : MethodName := ⟨RX7, "write", "()I"⟩
abbrev cX7_out : ByteArray := prog_1_method_13_code
def yX7_out : MethodName := ⟨RX7, "out", "(I)I"⟩
abbrev cX7_linkage : ByteArray := prog_1_method_14_code
def yX7_linkage : MethodName := ⟨RX7, "linkage", "(IIII)J"⟩
abbrev cX7_greedy : ByteArray := prog_1_method_15_code
def yX7_greedy : MethodName := ⟨RX7, "greedy", "(II)I"⟩
abbrev cX7_chain : ByteArray := prog_1_method_16_code
def yX7_chain : MethodName := ⟨RX7, "chain", "(II)I"⟩
abbrev cX7_tree : ByteArray := prog_1_method_17_code
def yX7_tree : MethodName := ⟨RX7, "tree", "(II)I"⟩
abbrev cX7_step : ByteArray := prog_1_method_18_code
def yX7_step : MethodName := ⟨RX7, "step", "(III)I"⟩
abbrev cX7_height : ByteArray := prog_1_method_19_code
def yX7_height : MethodName := ⟨RX7, "height", "(III)J"⟩
abbrev cX7_joins : ByteArray := prog_1_method_20_code
def yX7_joins : MethodName := ⟨RX7, "joins", "(III)I"⟩
abbrev cX7_same : ByteArray := prog_1_method_21_code
def yX7_same : MethodName := ⟨RX7, "same", "(II)Z"⟩
abbrev cX7_text : ByteArray := prog_1_method_22_code
def yX7_text : MethodName := ⟨RX7, "text", "(I)I"⟩
abbrev cX7_order : ByteArray := prog_1_method_23_code
def yX7_order : MethodName := ⟨RX7, "order", "(II)I"⟩
abbrev cX7_cut : ByteArray := prog_1_method_24_code
def yX7_cut : MethodName := ⟨RX7, "cut", "(II)I"⟩
abbrev cX7_cutAt : ByteArray := prog_1_method_25_code
def yX7_cutAt : MethodName := ⟨RX7, "cutAt", "(III)I"⟩
abbrev cX7_label : ByteArray := prog_1_method_26_code
def yX7_label : MethodName := ⟨RX7, "label", "(II)I"⟩
abbrev cX7_agree : ByteArray := prog_1_method_27_code
def yX7_agree : MethodName := ⟨RX7, "agree", "(II)I"⟩
abbrev cX7_middle : ByteArray := prog_1_method_28_code
def yX7_middle : MethodName := ⟨RX7, "middle", "(II)I"⟩
abbrev cX7_isTooFar : ByteArray := prog_1_method_29_code
def yX7_isTooFar : MethodName := ⟨RX7, "isTooFar", "(I)Z"⟩
abbrev cX7_treeIn : ByteArray := prog_1_method_30_code
def yX7_treeIn : MethodName := ⟨RX7, "treeIn", "(I)LDendroDesk$Tree;"⟩
abbrev cX7_makeTree : ByteArray := prog_1_method_31_code
def yX7_makeTree : MethodName := ⟨RX7, "makeTree", "(IIZ)I"⟩
abbrev cX7_sumToCluster : ByteArray := prog_1_method_32_code
def yX7_sumToCluster : MethodName := ⟨RX7, "sumToCluster", "(LDendroDesk$Tree;I)I"⟩
abbrev cX7_writeCluster : ByteArray := prog_1_method_33_code
def yX7_writeCluster : MethodName := ⟨RX7, "writeCluster", "(LDendroDesk$Bytes;LDendroDesk$Tree;II)V"⟩
abbrev cX7_commonDivisor : ByteArray := prog_1_method_34_code
def yX7_commonDivisor : MethodName := ⟨RX7, "commonDivisor", "(JJ)J"⟩
abbrev cX7_lowered : ByteArray := prog_1_method_35_code
def yX7_lowered : MethodName := ⟨RX7, "lowered", "(JJ)J"⟩
def RX8 : String := "DendroDeskModel"
def TX8 : u_T := fun k => match k with
  | 0 => ("DendroDeskModel", "n", "I", false)
  | 1 => ("DendroDeskModel", "far", "[I", true)
  | 2 => ("DendroDeskModel", "px", "[I", true)
  | 3 => ("DendroDeskModel", "py", "[I", true)
  | 4 => ("DendroDeskModel", "tape", "[B", true)
  | 5 => ("DendroDeskModel", "out", "[B", true)
  | 6 => ("DendroDeskModel", "taped", "I", false)
  | 7 => ("DendroDeskModel", "outs", "I", false)
  | 8 => ("DendroDeskModel", "fault", "I", false)
  | 9 => ("DendroDeskModel", "told", "[I", true)
  | 10 => ("DendroDeskModel", "made", "[I", true)
  | 11 => ("DendroDeskModel", "makes", "I", false)
  | 12 => ("DendroDeskModel", "top", "J", false)
  | 13 => ("DendroDeskModel", "bottom", "J", false)
  | 14 => ("DendroDeskModel", "has", "[Z", true)
  | 15 => ("DendroDeskModel", "size", "[I", true)
  | 16 => ("DendroDeskModel", "kindOf", "[I", true)
  | 17 => ("DendroDeskModel", "byChain", "[I", true)
  | 18 => ("DendroDeskModel", "ties", "[I", true)
  | 19 => ("DendroDeskModel", "first", "[I", true)
  | 20 => ("DendroDeskModel", "second", "[I", true)
  | 21 => ("DendroDeskModel", "bitsOf", "[I", true)
  | 22 => ("DendroDeskModel", "tops", "[J", true)
  | 23 => ("DendroDeskModel", "bottoms", "[J", true)
  | 24 => ("DendroDeskModel", "labels", "[I", true)
  | 25 => ("DendroDeskModel", "cluster", "[I", true)
  | 26 => ("DendroDeskModel", "free", "[Z", true)
  | 27 => ("DendroDeskModel", "ma", "[I", true)
  | 28 => ("DendroDeskModel", "mb", "[I", true)
  | 29 => ("DendroDeskModel", "mt", "[J", true)
  | 30 => ("DendroDeskModel", "mo", "[J", true)
  | 31 => ("DendroDeskModel", "met", "I", false)
  | 32 => ("DendroDeskModel", "stack", "[I", true)
  | 33 => ("DendroDeskModel", "stacked", "I", false)
  | 34 => ("DendroDeskModel", "rank", "[I", true)
  | 35 => ("DendroDeskModel", "renamed", "[I", true)
  | 36 => ("DendroDeskModel", "later", "[I", true)
  | 37 => ("DendroDeskModel", "ordered", "[I", true)
  | _ => ("DendroDeskModel", "kept", "[B", true)
def tyX8 : Nat → FieldType := fun k => match k with
  | 0 => .int
  | 1 => .array .int
  | 2 => .array .int
  | 3 => .array .int
  | 4 => .array .byte
  | 5 => .array .byte
  | 6 => .int
  | 7 => .int
  | 8 => .int
  | 9 => .array .int
  | 10 => .array .int
  | 11 => .int
  | 12 => .long
  | 13 => .long
  | 14 => .array .boolean
  | 15 => .array .int
  | 16 => .array .int
  | 17 => .array .int
  | 18 => .array .int
  | 19 => .array .int
  | 20 => .array .int
  | 21 => .array .int
  | 22 => .array .long
  | 23 => .array .long
  | 24 => .array .int
  | 25 => .array .int
  | 26 => .array .boolean
  | 27 => .array .int
  | 28 => .array .int
  | 29 => .array .long
  | 30 => .array .long
  | 31 => .int
  | 32 => .array .int
  | 33 => .int
  | 34 => .array .int
  | 35 => .array .int
  | 36 => .array .int
  | 37 => .array .int
  | _ => .array .byte
abbrev wsX80 : List Cond := u_ws RX8 TX8 39
theorem nmX8 : ∀ a, a < 39 → ∀ b, b < 39 → a ≠ b → (TX8 a).2.1 ≠ (TX8 b).2.1 := by decide +kernel
theorem tyX8_ok : ∀ k, k < 39 → parseFieldDescriptor (TX8 k).2.2.1 = some (tyX8 k) := by decide +kernel
abbrev cX8_init : ByteArray := prog_10_method_1_code
def yX8_init : MethodName := ⟨RX8, "<init>", "()V"⟩
abbrev cX8_isIn : ByteArray := prog_10_method_2_code
def yX8_isIn : MethodName := ⟨RX8, "isIn", "(II)Z"⟩
abbrev cX8_points : ByteArray := prog_10_method_3_code
def yX8_points : MethodName := ⟨RX8, "points", "(I)I"⟩
abbrev cX8_sets : ByteArray := prog_10_method_4_code
def yX8_sets : MethodName := ⟨RX8, "sets", "(III)V"⟩
abbrev cX8_put : ByteArray := prog_10_method_5_code
def yX8_put : MethodName := ⟨RX8, "put", "(III)Z"⟩
abbrev cX8_distance : ByteArray := prog_10_method_6_code
def yX8_distance : MethodName := ⟨RX8, "distance", "(II)I"⟩
abbrev cX8_place : ByteArray := prog_10_method_7_code
def yX8_place : MethodName := ⟨RX8, "place", "(III)Z"⟩
abbrev cX8_sizeOf : ByteArray := prog_10_method_8_code
def yX8_sizeOf : MethodName := ⟨RX8, "sizeOf", "(I)I"⟩
abbrev cX8_measure : ByteArray := prog_10_method_9_code
def yX8_measure : MethodName := ⟨RX8, "measure", "(I)Z"⟩
abbrev cX8_feed : ByteArray := prog_10_method_10_code
def yX8_feed : MethodName := ⟨RX8, "feed", "(IIIII)I"⟩
abbrev cX8_end : ByteArray := prog_10_method_11_code
def yX8_end : MethodName := ⟨RX8, "end", "(I)I"⟩
abbrev cX8_take : ByteArray := prog_10_method_12_code
def yX8_take : MethodName := ⟨RX8, "take", "()I"⟩
abbrev cX8_read : ByteArray := prog_10_method_13_code
def yX8_read : MethodName := ⟨RX8, "read", "()I"⟩
abbrev cX8_fault : ByteArray := prog_10_method_14_code
def yX8_fault : MethodName := ⟨RX8, "fault", "()I"⟩
abbrev cX8_ink : ByteArray := prog_10_method_15_code
def yX8_ink : MethodName := ⟨RX8, "ink", "(I)V"⟩
abbrev cX8_inkNumber : ByteArray := prog_10_method_16_code
def yX8_inkNumber : MethodName := ⟨RX8, "inkNumber", "(J)V"⟩
abbrev cX8_write : ByteArray := prog_10_method_17_code
def yX8_write : MethodName := ⟨RX8, "write", "()I"⟩
abbrev cX8_out : ByteArray := prog_10_method_18_code
def yX8_out : MethodName := ⟨RX8, "out", "(I)I"⟩
abbrev cX8_many : ByteArray := prog_10_method_19_code
def yX8_many : MethodName := ⟨RX8, "many", "(I)I"⟩
abbrev cX8_between : ByteArray := prog_10_method_20_code
def yX8_between : MethodName := ⟨RX8, "between", "(II)J"⟩
abbrev cX8_extreme : ByteArray := prog_10_method_21_code
def yX8_extreme : MethodName := ⟨RX8, "extreme", "(IIZ)I"⟩
abbrev cX8_deep : ByteArray := prog_10_method_22_code
def yX8_deep : MethodName := ⟨RX8, "deep", "(II)I"⟩
abbrev cX8_weighted : ByteArray := prog_10_method_23_code
def yX8_weighted : MethodName := ⟨RX8, "weighted", "(II)J"⟩
abbrev cX8_lowest : ByteArray := prog_10_method_24_code
def yX8_lowest : MethodName := ⟨RX8, "lowest", "(JJ)V"⟩
abbrev cX8_link : ByteArray := prog_10_method_25_code
def yX8_link : MethodName := ⟨RX8, "link", "(III)V"⟩
abbrev cX8_linkage : ByteArray := prog_10_method_26_code
def yX8_linkage : MethodName := ⟨RX8, "linkage", "(IIII)J"⟩
abbrev cX8_begins : ByteArray := prog_10_method_27_code
def yX8_begins : MethodName := ⟨RX8, "begins", "()V"⟩
abbrev cX8_joined : ByteArray := prog_10_method_28_code
def yX8_joined : MethodName := ⟨RX8, "joined", "(II)V"⟩
abbrev cX8_compare : ByteArray := prog_10_method_29_code
def yX8_compare : MethodName := ⟨RX8, "compare", "(JJJJ)I"⟩
abbrev cX8_greedyStep : ByteArray := prog_10_method_30_code
def yX8_greedyStep : MethodName := ⟨RX8, "greedyStep", "(I)V"⟩
abbrev cX8_chainStep : ByteArray := prog_10_method_31_code
def yX8_chainStep : MethodName := ⟨RX8, "chainStep", "(I)V"⟩
abbrev cX8_keeps : ByteArray := prog_10_method_32_code
def yX8_keeps : MethodName := ⟨RX8, "keeps", "(IIZ)V"⟩
abbrev cX8_greedy : ByteArray := prog_10_method_33_code
def yX8_greedy : MethodName := ⟨RX8, "greedy", "(II)I"⟩
abbrev cX8_chain : ByteArray := prog_10_method_34_code
def yX8_chain : MethodName := ⟨RX8, "chain", "(II)I"⟩
abbrev cX8_isTree : ByteArray := prog_10_method_35_code
def yX8_isTree : MethodName := ⟨RX8, "isTree", "(I)Z"⟩
abbrev cX8_steps : ByteArray := prog_10_method_36_code
def yX8_steps : MethodName := ⟨RX8, "steps", "(I)I"⟩
abbrev cX8_isStep : ByteArray := prog_10_method_37_code
def yX8_isStep : MethodName := ⟨RX8, "isStep", "(II)Z"⟩
abbrev cX8_tree : ByteArray := prog_10_method_38_code
def yX8_tree : MethodName := ⟨RX8, "tree", "(II)I"⟩
abbrev cX8_step : ByteArray := prog_10_method_39_code
def yX8_step : MethodName := ⟨RX8, "step", "(III)I"⟩
abbrev cX8_height : ByteArray := prog_10_method_40_code
def yX8_height : MethodName := ⟨RX8, "height", "(III)J"⟩
abbrev cX8_joins : ByteArray := prog_10_method_41_code
def yX8_joins : MethodName := ⟨RX8, "joins", "(III)I"⟩
abbrev cX8_same : ByteArray := prog_10_method_42_code
def yX8_same : MethodName := ⟨RX8, "same", "(II)Z"⟩
abbrev cX8_leastOf : ByteArray := prog_10_method_43_code
def yX8_leastOf : MethodName := ⟨RX8, "leastOf", "(II)I"⟩
abbrev cX8_tells : ByteArray := prog_10_method_44_code
def yX8_tells : MethodName := ⟨RX8, "tells", "(I)V"⟩
abbrev cX8_text : ByteArray := prog_10_method_45_code
def yX8_text : MethodName := ⟨RX8, "text", "(I)I"⟩
abbrev cX8_order : ByteArray := prog_10_method_46_code
def yX8_order : MethodName := ⟨RX8, "order", "(II)I"⟩
abbrev cX8_labelled : ByteArray := prog_10_method_47_code
def yX8_labelled : MethodName := ⟨RX8, "labelled", "(II)I"⟩
abbrev cX8_cut : ByteArray := prog_10_method_48_code
def yX8_cut : MethodName := ⟨RX8, "cut", "(II)I"⟩
abbrev cX8_cutAt : ByteArray := prog_10_method_49_code
def yX8_cutAt : MethodName := ⟨RX8, "cutAt", "(III)I"⟩
abbrev cX8_label : ByteArray := prog_10_method_50_code
def yX8_label : MethodName := ⟨RX8, "label", "(II)I"⟩
abbrev cX8_agree : ByteArray := prog_10_method_51_code
def yX8_agree : MethodName := ⟨RX8, "agree", "(II)I"⟩
abbrev cX8_middle : ByteArray := prog_10_method_52_code
def yX8_middle : MethodName := ⟨RX8, "middle", "(II)I"⟩
def RJ6 : String := "java/lang/Integer"
def TJ6 : u_T := fun k => match k with
  | _ => ("", "", "", false)
def tyJ6 : Nat → FieldType := fun k => match k with
  | _ => .int
abbrev wsJ60 : List Cond := u_ws RJ6 TJ6 0
theorem nmJ6 : ∀ a, a < 0 → ∀ b, b < 0 → a ≠ b → (TJ6 a).2.1 ≠ (TJ6 b).2.1 := by decide +kernel
theorem tyJ6_ok : ∀ k, k < 0 → parseFieldDescriptor (TJ6 k).2.2.1 = some (tyJ6 k) := by decide +kernel
abbrev cJ6_bitCount_0f7a4 : ByteArray := prog_11_method_49_code
def yJ6_bitCount_0f7a4 : MethodName := ⟨RJ6, "bitCount", "(I)I"⟩
def RJ13 : String := "java/lang/Long"
def TJ13 : u_T := fun k => match k with
  | _ => ("", "", "", false)
def tyJ13 : Nat → FieldType := fun k => match k with
  | _ => .int
abbrev wsJ130 : List Cond := u_ws RJ13 TJ13 0
theorem nmJ13 : ∀ a, a < 0 → ∀ b, b < 0 → a ≠ b → (TJ13 a).2.1 ≠ (TJ13 b).2.1 := by decide +kernel
theorem tyJ13_ok : ∀ k, k < 0 → parseFieldDescriptor (TJ13 k).2.2.1 = some (tyJ13 k) := by decide +kernel
abbrev cJ13_compare_74951 : ByteArray := prog_12_method_42_code
def yJ13_compare_74951 : MethodName := ⟨RJ13, "compare", "(JJ)I"⟩
def RJ9 : String := "java/lang/Math"
def TJ9 : u_T := fun k => match k with
  | _ => ("", "", "", false)
def tyJ9 : Nat → FieldType := fun k => match k with
  | _ => .int
abbrev wsJ90 : List Cond := u_ws RJ9 TJ9 0
theorem nmJ9 : ∀ a, a < 0 → ∀ b, b < 0 → a ≠ b → (TJ9 a).2.1 ≠ (TJ9 b).2.1 := by decide +kernel
theorem tyJ9_ok : ∀ k, k < 0 → parseFieldDescriptor (TJ9 k).2.2.1 = some (tyJ9 k) := by decide +kernel
abbrev cJ9_abs_0f7a4 : ByteArray := prog_13_method_59_code
def yJ9_abs_0f7a4 : MethodName := ⟨RJ9, "abs", "(I)I"⟩
abbrev cJ9_abs_067f4 : ByteArray := prog_13_method_61_code
def yJ9_abs_067f4 : MethodName := ⟨RJ9, "abs", "(J)J"⟩
abbrev cJ9_max_7cf53 : ByteArray := prog_13_method_65_code
def yJ9_max_7cf53 : MethodName := ⟨RJ9, "max", "(II)I"⟩
abbrev cJ9_max_f86c9 : ByteArray := prog_13_method_66_code
def yJ9_max_f86c9 : MethodName := ⟨RJ9, "max", "(JJ)J"⟩
abbrev cJ9_min_7cf53 : ByteArray := prog_13_method_69_code
def yJ9_min_7cf53 : MethodName := ⟨RJ9, "min", "(II)I"⟩
abbrev cJ9_min_f86c9 : ByteArray := prog_13_method_70_code
def yJ9_min_f86c9 : MethodName := ⟨RJ9, "min", "(JJ)J"⟩
def RJ10 : String := "java/lang/System"
def TJ10 : u_T := fun k => match k with
  | _ => ("", "", "", false)
def tyJ10 : Nat → FieldType := fun k => match k with
  | _ => .int
abbrev wsJ100 : List Cond := u_ws RJ10 TJ10 0
theorem nmJ10 : ∀ a, a < 0 → ∀ b, b < 0 → a ≠ b → (TJ10 a).2.1 ≠ (TJ10 b).2.1 := by decide +kernel
theorem tyJ10_ok : ∀ k, k < 0 → parseFieldDescriptor (TJ10 k).2.2.1 = some (tyJ10 k) := by decide +kernel
def RL : String := "DendroDeskLaw"
abbrev cL_law : ByteArray := code
def yL_law : MethodName := ⟨RL, "law", "([I)Z"⟩
end
section
theorem dJ13_compare_74951_0 : decode cJ13_compare_74951 0 = .ok (.lload_n 0, 1) := by decide +kernel
theorem dJ13_compare_74951_1 : decode cJ13_compare_74951 1 = .ok (.lload_n 2, 1) := by decide +kernel
theorem dJ13_compare_74951_2 : decode cJ13_compare_74951 2 = .ok (.lcmp, 1) := by decide +kernel
theorem dJ13_compare_74951_3 : decode cJ13_compare_74951 3 = .ok (.ifCond .ge 7, 3) := by decide +kernel
theorem dJ13_compare_74951_6 : decode cJ13_compare_74951 6 = .ok (.iconst (-1), 1) := by decide +kernel
theorem dJ13_compare_74951_7 : decode cJ13_compare_74951 7 = .ok (.goto 14, 3) := by decide +kernel
theorem dJ13_compare_74951_10 : decode cJ13_compare_74951 10 = .ok (.lload_n 0, 1) := by decide +kernel
theorem dJ13_compare_74951_11 : decode cJ13_compare_74951 11 = .ok (.lload_n 2, 1) := by decide +kernel
theorem dJ13_compare_74951_12 : decode cJ13_compare_74951 12 = .ok (.lcmp, 1) := by decide +kernel
theorem dJ13_compare_74951_13 : decode cJ13_compare_74951 13 = .ok (.ifCond .ne 7, 3) := by decide +kernel
theorem dJ13_compare_74951_16 : decode cJ13_compare_74951 16 = .ok (.iconst 0, 1) := by decide +kernel
theorem dJ13_compare_74951_17 : decode cJ13_compare_74951 17 = .ok (.goto 4, 3) := by decide +kernel
theorem dJ13_compare_74951_20 : decode cJ13_compare_74951 20 = .ok (.iconst 1, 1) := by decide +kernel
theorem dJ13_compare_74951_21 : decode cJ13_compare_74951 21 = .ok (.ireturn, 1) := by decide +kernel
end
section
theorem dJ6_bitCount_0f7a4_0 : decode cJ6_bitCount_0f7a4 0 = .ok (.iload_n 0, 1) := by decide +kernel
theorem dJ6_bitCount_0f7a4_1 : decode cJ6_bitCount_0f7a4 1 = .ok (.iload_n 0, 1) := by decide +kernel
theorem dJ6_bitCount_0f7a4_2 : decode cJ6_bitCount_0f7a4 2 = .ok (.iconst 1, 1) := by decide +kernel
theorem dJ6_bitCount_0f7a4_3 : decode cJ6_bitCount_0f7a4 3 = .ok (.iushr, 1) := by decide +kernel
theorem dJ6_bitCount_0f7a4_4 : decode cJ6_bitCount_0f7a4 4 = .ok (.ldc_w 265, 3) := by decide +kernel
theorem dJ6_bitCount_0f7a4_7 : decode cJ6_bitCount_0f7a4 7 = .ok (.iand, 1) := by decide +kernel
theorem dJ6_bitCount_0f7a4_8 : decode cJ6_bitCount_0f7a4 8 = .ok (.isub, 1) := by decide +kernel
theorem dJ6_bitCount_0f7a4_9 : decode cJ6_bitCount_0f7a4 9 = .ok (.istore_n 0, 1) := by decide +kernel
theorem dJ6_bitCount_0f7a4_10 : decode cJ6_bitCount_0f7a4 10 = .ok (.iload_n 0, 1) := by decide +kernel
theorem dJ6_bitCount_0f7a4_11 : decode cJ6_bitCount_0f7a4 11 = .ok (.ldc_w 266, 3) := by decide +kernel
theorem dJ6_bitCount_0f7a4_14 : decode cJ6_bitCount_0f7a4 14 = .ok (.iand, 1) := by decide +kernel
theorem dJ6_bitCount_0f7a4_15 : decode cJ6_bitCount_0f7a4 15 = .ok (.iload_n 0, 1) := by decide +kernel
theorem dJ6_bitCount_0f7a4_16 : decode cJ6_bitCount_0f7a4 16 = .ok (.iconst 2, 1) := by decide +kernel
theorem dJ6_bitCount_0f7a4_17 : decode cJ6_bitCount_0f7a4 17 = .ok (.iushr, 1) := by decide +kernel
theorem dJ6_bitCount_0f7a4_18 : decode cJ6_bitCount_0f7a4 18 = .ok (.ldc_w 266, 3) := by decide +kernel
theorem dJ6_bitCount_0f7a4_21 : decode cJ6_bitCount_0f7a4 21 = .ok (.iand, 1) := by decide +kernel
theorem dJ6_bitCount_0f7a4_22 : decode cJ6_bitCount_0f7a4 22 = .ok (.iadd, 1) := by decide +kernel
theorem dJ6_bitCount_0f7a4_23 : decode cJ6_bitCount_0f7a4 23 = .ok (.istore_n 0, 1) := by decide +kernel
theorem dJ6_bitCount_0f7a4_24 : decode cJ6_bitCount_0f7a4 24 = .ok (.iload_n 0, 1) := by decide +kernel
theorem dJ6_bitCount_0f7a4_25 : decode cJ6_bitCount_0f7a4 25 = .ok (.iload_n 0, 1) := by decide +kernel
theorem dJ6_bitCount_0f7a4_26 : decode cJ6_bitCount_0f7a4 26 = .ok (.iconst 4, 1) := by decide +kernel
theorem dJ6_bitCount_0f7a4_27 : decode cJ6_bitCount_0f7a4 27 = .ok (.iushr, 1) := by decide +kernel
theorem dJ6_bitCount_0f7a4_28 : decode cJ6_bitCount_0f7a4 28 = .ok (.iadd, 1) := by decide +kernel
theorem dJ6_bitCount_0f7a4_29 : decode cJ6_bitCount_0f7a4 29 = .ok (.ldc_w 267, 3) := by decide +kernel
theorem dJ6_bitCount_0f7a4_32 : decode cJ6_bitCount_0f7a4 32 = .ok (.iand, 1) := by decide +kernel
theorem dJ6_bitCount_0f7a4_33 : decode cJ6_bitCount_0f7a4 33 = .ok (.istore_n 0, 1) := by decide +kernel
theorem dJ6_bitCount_0f7a4_34 : decode cJ6_bitCount_0f7a4 34 = .ok (.iload_n 0, 1) := by decide +kernel
theorem dJ6_bitCount_0f7a4_35 : decode cJ6_bitCount_0f7a4 35 = .ok (.iload_n 0, 1) := by decide +kernel
theorem dJ6_bitCount_0f7a4_36 : decode cJ6_bitCount_0f7a4 36 = .ok (.bipush 8, 2) := by decide +kernel
theorem dJ6_bitCount_0f7a4_38 : decode cJ6_bitCount_0f7a4 38 = .ok (.iushr, 1) := by decide +kernel
theorem dJ6_bitCount_0f7a4_39 : decode cJ6_bitCount_0f7a4 39 = .ok (.iadd, 1) := by decide +kernel
theorem dJ6_bitCount_0f7a4_40 : decode cJ6_bitCount_0f7a4 40 = .ok (.istore_n 0, 1) := by decide +kernel
theorem dJ6_bitCount_0f7a4_41 : decode cJ6_bitCount_0f7a4 41 = .ok (.iload_n 0, 1) := by decide +kernel
theorem dJ6_bitCount_0f7a4_42 : decode cJ6_bitCount_0f7a4 42 = .ok (.iload_n 0, 1) := by decide +kernel
theorem dJ6_bitCount_0f7a4_43 : decode cJ6_bitCount_0f7a4 43 = .ok (.bipush 16, 2) := by decide +kernel
theorem dJ6_bitCount_0f7a4_45 : decode cJ6_bitCount_0f7a4 45 = .ok (.iushr, 1) := by decide +kernel
theorem dJ6_bitCount_0f7a4_46 : decode cJ6_bitCount_0f7a4 46 = .ok (.iadd, 1) := by decide +kernel
theorem dJ6_bitCount_0f7a4_47 : decode cJ6_bitCount_0f7a4 47 = .ok (.istore_n 0, 1) := by decide +kernel
theorem dJ6_bitCount_0f7a4_48 : decode cJ6_bitCount_0f7a4 48 = .ok (.iload_n 0, 1) := by decide +kernel
theorem dJ6_bitCount_0f7a4_49 : decode cJ6_bitCount_0f7a4 49 = .ok (.bipush 63, 2) := by decide +kernel
theorem dJ6_bitCount_0f7a4_51 : decode cJ6_bitCount_0f7a4 51 = .ok (.iand, 1) := by decide +kernel
theorem dJ6_bitCount_0f7a4_52 : decode cJ6_bitCount_0f7a4 52 = .ok (.ireturn, 1) := by decide +kernel
end
section
theorem dJ9_abs_0f7a4_0 : decode cJ9_abs_0f7a4 0 = .ok (.iload_n 0, 1) := by decide +kernel
theorem dJ9_abs_0f7a4_1 : decode cJ9_abs_0f7a4 1 = .ok (.ifCond .ge 8, 3) := by decide +kernel
theorem dJ9_abs_0f7a4_4 : decode cJ9_abs_0f7a4 4 = .ok (.iload_n 0, 1) := by decide +kernel
theorem dJ9_abs_0f7a4_5 : decode cJ9_abs_0f7a4 5 = .ok (.ineg, 1) := by decide +kernel
theorem dJ9_abs_0f7a4_6 : decode cJ9_abs_0f7a4 6 = .ok (.goto 4, 3) := by decide +kernel
theorem dJ9_abs_0f7a4_9 : decode cJ9_abs_0f7a4 9 = .ok (.iload_n 0, 1) := by decide +kernel
theorem dJ9_abs_0f7a4_10 : decode cJ9_abs_0f7a4 10 = .ok (.ireturn, 1) := by decide +kernel
theorem dJ9_abs_067f4_0 : decode cJ9_abs_067f4 0 = .ok (.lload_n 0, 1) := by decide +kernel
theorem dJ9_abs_067f4_1 : decode cJ9_abs_067f4 1 = .ok (.lconst 0, 1) := by decide +kernel
theorem dJ9_abs_067f4_2 : decode cJ9_abs_067f4 2 = .ok (.lcmp, 1) := by decide +kernel
theorem dJ9_abs_067f4_3 : decode cJ9_abs_067f4 3 = .ok (.ifCond .ge 8, 3) := by decide +kernel
theorem dJ9_abs_067f4_6 : decode cJ9_abs_067f4 6 = .ok (.lload_n 0, 1) := by decide +kernel
theorem dJ9_abs_067f4_7 : decode cJ9_abs_067f4 7 = .ok (.lneg, 1) := by decide +kernel
theorem dJ9_abs_067f4_8 : decode cJ9_abs_067f4 8 = .ok (.goto 4, 3) := by decide +kernel
theorem dJ9_abs_067f4_11 : decode cJ9_abs_067f4 11 = .ok (.lload_n 0, 1) := by decide +kernel
theorem dJ9_abs_067f4_12 : decode cJ9_abs_067f4 12 = .ok (.lreturn, 1) := by decide +kernel
theorem dJ9_max_7cf53_0 : decode cJ9_max_7cf53 0 = .ok (.iload_n 0, 1) := by decide +kernel
theorem dJ9_max_7cf53_1 : decode cJ9_max_7cf53 1 = .ok (.iload_n 1, 1) := by decide +kernel
theorem dJ9_max_7cf53_2 : decode cJ9_max_7cf53 2 = .ok (.if_icmp .lt 7, 3) := by decide +kernel
theorem dJ9_max_7cf53_5 : decode cJ9_max_7cf53 5 = .ok (.iload_n 0, 1) := by decide +kernel
theorem dJ9_max_7cf53_6 : decode cJ9_max_7cf53 6 = .ok (.goto 4, 3) := by decide +kernel
theorem dJ9_max_7cf53_9 : decode cJ9_max_7cf53 9 = .ok (.iload_n 1, 1) := by decide +kernel
theorem dJ9_max_7cf53_10 : decode cJ9_max_7cf53 10 = .ok (.ireturn, 1) := by decide +kernel
theorem dJ9_max_f86c9_0 : decode cJ9_max_f86c9 0 = .ok (.lload_n 0, 1) := by decide +kernel
theorem dJ9_max_f86c9_1 : decode cJ9_max_f86c9 1 = .ok (.lload_n 2, 1) := by decide +kernel
theorem dJ9_max_f86c9_2 : decode cJ9_max_f86c9 2 = .ok (.lcmp, 1) := by decide +kernel
theorem dJ9_max_f86c9_3 : decode cJ9_max_f86c9 3 = .ok (.ifCond .lt 7, 3) := by decide +kernel
theorem dJ9_max_f86c9_6 : decode cJ9_max_f86c9 6 = .ok (.lload_n 0, 1) := by decide +kernel
theorem dJ9_max_f86c9_7 : decode cJ9_max_f86c9 7 = .ok (.goto 4, 3) := by decide +kernel
theorem dJ9_max_f86c9_10 : decode cJ9_max_f86c9 10 = .ok (.lload_n 2, 1) := by decide +kernel
theorem dJ9_max_f86c9_11 : decode cJ9_max_f86c9 11 = .ok (.lreturn, 1) := by decide +kernel
theorem dJ9_min_7cf53_0 : decode cJ9_min_7cf53 0 = .ok (.iload_n 0, 1) := by decide +kernel
theorem dJ9_min_7cf53_1 : decode cJ9_min_7cf53 1 = .ok (.iload_n 1, 1) := by decide +kernel
theorem dJ9_min_7cf53_2 : decode cJ9_min_7cf53 2 = .ok (.if_icmp .gt 7, 3) := by decide +kernel
theorem dJ9_min_7cf53_5 : decode cJ9_min_7cf53 5 = .ok (.iload_n 0, 1) := by decide +kernel
theorem dJ9_min_7cf53_6 : decode cJ9_min_7cf53 6 = .ok (.goto 4, 3) := by decide +kernel
theorem dJ9_min_7cf53_9 : decode cJ9_min_7cf53 9 = .ok (.iload_n 1, 1) := by decide +kernel
theorem dJ9_min_7cf53_10 : decode cJ9_min_7cf53 10 = .ok (.ireturn, 1) := by decide +kernel
theorem dJ9_min_f86c9_0 : decode cJ9_min_f86c9 0 = .ok (.lload_n 0, 1) := by decide +kernel
theorem dJ9_min_f86c9_1 : decode cJ9_min_f86c9 1 = .ok (.lload_n 2, 1) := by decide +kernel
theorem dJ9_min_f86c9_2 : decode cJ9_min_f86c9 2 = .ok (.lcmp, 1) := by decide +kernel
theorem dJ9_min_f86c9_3 : decode cJ9_min_f86c9 3 = .ok (.ifCond .gt 7, 3) := by decide +kernel
theorem dJ9_min_f86c9_6 : decode cJ9_min_f86c9 6 = .ok (.lload_n 0, 1) := by decide +kernel
theorem dJ9_min_f86c9_7 : decode cJ9_min_f86c9 7 = .ok (.goto 4, 3) := by decide +kernel
theorem dJ9_min_f86c9_10 : decode cJ9_min_f86c9 10 = .ok (.lload_n 2, 1) := by decide +kernel
theorem dJ9_min_f86c9_11 : decode cJ9_min_f86c9 11 = .ok (.lreturn, 1) := by decide +kernel
end
section
theorem dX0_init_0 : decode cX0_init 0 = .ok (.aload_n 0, 1) := by decide +kernel
theorem dX0_init_1 : decode cX0_init 1 = .ok (.invokespecial 3, 3) := by decide +kernel
theorem dX0_init_4 : decode cX0_init 4 = .ok (.aload_n 0, 1) := by decide +kernel
theorem dX0_init_5 : decode cX0_init 5 = .ok (.sipush 2400, 3) := by decide +kernel
theorem dX0_init_8 : decode cX0_init 8 = .ok (.newarray .byte, 2) := by decide +kernel
theorem dX0_init_10 : decode cX0_init 10 = .ok (.putfield 9, 3) := by decide +kernel
theorem dX0_init_13 : decode cX0_init 13 = .ok (.return_, 1) := by decide +kernel
theorem dX0_at_0 : decode cX0_at 0 = .ok (.iload_n 1, 1) := by decide +kernel
theorem dX0_at_1 : decode cX0_at 1 = .ok (.ifCond .lt 11, 3) := by decide +kernel
theorem dX0_at_4 : decode cX0_at 4 = .ok (.iload_n 1, 1) := by decide +kernel
theorem dX0_at_5 : decode cX0_at 5 = .ok (.aload_n 0, 1) := by decide +kernel
theorem dX0_at_6 : decode cX0_at 6 = .ok (.getfield 15, 3) := by decide +kernel
theorem dX0_at_9 : decode cX0_at 9 = .ok (.if_icmp .lt 7, 3) := by decide +kernel
theorem dX0_at_12 : decode cX0_at 12 = .ok (.iconst (-1), 1) := by decide +kernel
theorem dX0_at_13 : decode cX0_at 13 = .ok (.goto 13, 3) := by decide +kernel
theorem dX0_at_16 : decode cX0_at 16 = .ok (.aload_n 0, 1) := by decide +kernel
theorem dX0_at_17 : decode cX0_at 17 = .ok (.getfield 9, 3) := by decide +kernel
theorem dX0_at_20 : decode cX0_at 20 = .ok (.iload_n 1, 1) := by decide +kernel
theorem dX0_at_21 : decode cX0_at 21 = .ok (.baload, 1) := by decide +kernel
theorem dX0_at_22 : decode cX0_at 22 = .ok (.sipush 255, 3) := by decide +kernel
theorem dX0_at_25 : decode cX0_at 25 = .ok (.iand, 1) := by decide +kernel
theorem dX0_at_26 : decode cX0_at 26 = .ok (.ireturn, 1) := by decide +kernel
theorem dX0_add_0 : decode cX0_add 0 = .ok (.aload_n 0, 1) := by decide +kernel
theorem dX0_add_1 : decode cX0_add 1 = .ok (.getfield 15, 3) := by decide +kernel
theorem dX0_add_4 : decode cX0_add 4 = .ok (.sipush 2400, 3) := by decide +kernel
theorem dX0_add_7 : decode cX0_add 7 = .ok (.if_icmp .ge 24, 3) := by decide +kernel
theorem dX0_add_10 : decode cX0_add 10 = .ok (.aload_n 0, 1) := by decide +kernel
theorem dX0_add_11 : decode cX0_add 11 = .ok (.getfield 9, 3) := by decide +kernel
theorem dX0_add_14 : decode cX0_add 14 = .ok (.aload_n 0, 1) := by decide +kernel
theorem dX0_add_15 : decode cX0_add 15 = .ok (.getfield 15, 3) := by decide +kernel
theorem dX0_add_18 : decode cX0_add 18 = .ok (.iload_n 1, 1) := by decide +kernel
theorem dX0_add_19 : decode cX0_add 19 = .ok (.i2b, 1) := by decide +kernel
theorem dX0_add_20 : decode cX0_add 20 = .ok (.bastore, 1) := by decide +kernel
theorem dX0_add_21 : decode cX0_add 21 = .ok (.aload_n 0, 1) := by decide +kernel
theorem dX0_add_22 : decode cX0_add 22 = .ok (.dup, 1) := by decide +kernel
theorem dX0_add_23 : decode cX0_add 23 = .ok (.getfield 15, 3) := by decide +kernel
theorem dX0_add_26 : decode cX0_add 26 = .ok (.iconst 1, 1) := by decide +kernel
theorem dX0_add_27 : decode cX0_add 27 = .ok (.iadd, 1) := by decide +kernel
theorem dX0_add_28 : decode cX0_add 28 = .ok (.putfield 15, 3) := by decide +kernel
theorem dX0_add_31 : decode cX0_add 31 = .ok (.return_, 1) := by decide +kernel
theorem dX0_addFour_0 : decode cX0_addFour 0 = .ok (.aload_n 0, 1) := by decide +kernel
theorem dX0_addFour_1 : decode cX0_addFour 1 = .ok (.iload_n 1, 1) := by decide +kernel
theorem dX0_addFour_2 : decode cX0_addFour 2 = .ok (.bipush 24, 2) := by decide +kernel
theorem dX0_addFour_4 : decode cX0_addFour 4 = .ok (.ishr, 1) := by decide +kernel
theorem dX0_addFour_5 : decode cX0_addFour 5 = .ok (.invokevirtual 19, 3) := by decide +kernel
theorem dX0_addFour_8 : decode cX0_addFour 8 = .ok (.aload_n 0, 1) := by decide +kernel
theorem dX0_addFour_9 : decode cX0_addFour 9 = .ok (.iload_n 1, 1) := by decide +kernel
theorem dX0_addFour_10 : decode cX0_addFour 10 = .ok (.bipush 16, 2) := by decide +kernel
theorem dX0_addFour_12 : decode cX0_addFour 12 = .ok (.ishr, 1) := by decide +kernel
theorem dX0_addFour_13 : decode cX0_addFour 13 = .ok (.invokevirtual 19, 3) := by decide +kernel
theorem dX0_addFour_16 : decode cX0_addFour 16 = .ok (.aload_n 0, 1) := by decide +kernel
theorem dX0_addFour_17 : decode cX0_addFour 17 = .ok (.iload_n 1, 1) := by decide +kernel
theorem dX0_addFour_18 : decode cX0_addFour 18 = .ok (.bipush 8, 2) := by decide +kernel
theorem dX0_addFour_20 : decode cX0_addFour 20 = .ok (.ishr, 1) := by decide +kernel
theorem dX0_addFour_21 : decode cX0_addFour 21 = .ok (.invokevirtual 19, 3) := by decide +kernel
theorem dX0_addFour_24 : decode cX0_addFour 24 = .ok (.aload_n 0, 1) := by decide +kernel
theorem dX0_addFour_25 : decode cX0_addFour 25 = .ok (.iload_n 1, 1) := by decide +kernel
theorem dX0_addFour_26 : decode cX0_addFour 26 = .ok (.invokevirtual 19, 3) := by decide +kernel
theorem dX0_addFour_29 : decode cX0_addFour 29 = .ok (.return_, 1) := by decide +kernel
theorem dX0_addNumber_0 : decode cX0_addNumber 0 = .ok (.lconst 1, 1) := by decide +kernel
theorem dX0_addNumber_1 : decode cX0_addNumber 1 = .ok (.lstore_n 3, 1) := by decide +kernel
theorem dX0_addNumber_2 : decode cX0_addNumber 2 = .ok (.iconst 1, 1) := by decide +kernel
theorem dX0_addNumber_3 : decode cX0_addNumber 3 = .ok (.istore 5, 2) := by decide +kernel
theorem dX0_addNumber_5 : decode cX0_addNumber 5 = .ok (.iload 5, 2) := by decide +kernel
theorem dX0_addNumber_7 : decode cX0_addNumber 7 = .ok (.bipush 18, 2) := by decide +kernel
theorem dX0_addNumber_9 : decode cX0_addNumber 9 = .ok (.if_icmp .ge 25, 3) := by decide +kernel
theorem dX0_addNumber_12 : decode cX0_addNumber 12 = .ok (.lload_n 1, 1) := by decide +kernel
theorem dX0_addNumber_13 : decode cX0_addNumber 13 = .ok (.lload_n 3, 1) := by decide +kernel
theorem dX0_addNumber_14 : decode cX0_addNumber 14 = .ok (.ldiv, 1) := by decide +kernel
theorem dX0_addNumber_15 : decode cX0_addNumber 15 = .ok (.ldc2_w 23, 3) := by decide +kernel
theorem dX0_addNumber_18 : decode cX0_addNumber 18 = .ok (.lcmp, 1) := by decide +kernel
theorem dX0_addNumber_19 : decode cX0_addNumber 19 = .ok (.ifCond .lt 15, 3) := by decide +kernel
theorem dX0_addNumber_22 : decode cX0_addNumber 22 = .ok (.lload_n 3, 1) := by decide +kernel
theorem dX0_addNumber_23 : decode cX0_addNumber 23 = .ok (.ldc2_w 23, 3) := by decide +kernel
theorem dX0_addNumber_26 : decode cX0_addNumber 26 = .ok (.lmul, 1) := by decide +kernel
theorem dX0_addNumber_27 : decode cX0_addNumber 27 = .ok (.lstore_n 3, 1) := by decide +kernel
theorem dX0_addNumber_28 : decode cX0_addNumber 28 = .ok (.iinc 5 1, 3) := by decide +kernel
theorem dX0_addNumber_31 : decode cX0_addNumber 31 = .ok (.goto (-26), 3) := by decide +kernel
theorem dX0_addNumber_34 : decode cX0_addNumber 34 = .ok (.iconst 0, 1) := by decide +kernel
theorem dX0_addNumber_35 : decode cX0_addNumber 35 = .ok (.istore 5, 2) := by decide +kernel
theorem dX0_addNumber_37 : decode cX0_addNumber 37 = .ok (.iload 5, 2) := by decide +kernel
theorem dX0_addNumber_39 : decode cX0_addNumber 39 = .ok (.bipush 18, 2) := by decide +kernel
theorem dX0_addNumber_41 : decode cX0_addNumber 41 = .ok (.if_icmp .ge 36, 3) := by decide +kernel
theorem dX0_addNumber_44 : decode cX0_addNumber 44 = .ok (.lload_n 3, 1) := by decide +kernel
theorem dX0_addNumber_45 : decode cX0_addNumber 45 = .ok (.lconst 0, 1) := by decide +kernel
theorem dX0_addNumber_46 : decode cX0_addNumber 46 = .ok (.lcmp, 1) := by decide +kernel
theorem dX0_addNumber_47 : decode cX0_addNumber 47 = .ok (.ifCond .le 30, 3) := by decide +kernel
theorem dX0_addNumber_50 : decode cX0_addNumber 50 = .ok (.aload_n 0, 1) := by decide +kernel
theorem dX0_addNumber_51 : decode cX0_addNumber 51 = .ok (.bipush 48, 2) := by decide +kernel
theorem dX0_addNumber_53 : decode cX0_addNumber 53 = .ok (.lload_n 1, 1) := by decide +kernel
theorem dX0_addNumber_54 : decode cX0_addNumber 54 = .ok (.lload_n 3, 1) := by decide +kernel
theorem dX0_addNumber_55 : decode cX0_addNumber 55 = .ok (.ldiv, 1) := by decide +kernel
theorem dX0_addNumber_56 : decode cX0_addNumber 56 = .ok (.ldc2_w 23, 3) := by decide +kernel
theorem dX0_addNumber_59 : decode cX0_addNumber 59 = .ok (.lrem, 1) := by decide +kernel
theorem dX0_addNumber_60 : decode cX0_addNumber 60 = .ok (.l2i, 1) := by decide +kernel
theorem dX0_addNumber_61 : decode cX0_addNumber 61 = .ok (.iadd, 1) := by decide +kernel
theorem dX0_addNumber_62 : decode cX0_addNumber 62 = .ok (.invokevirtual 19, 3) := by decide +kernel
theorem dX0_addNumber_65 : decode cX0_addNumber 65 = .ok (.lload_n 3, 1) := by decide +kernel
theorem dX0_addNumber_66 : decode cX0_addNumber 66 = .ok (.ldc2_w 23, 3) := by decide +kernel
theorem dX0_addNumber_69 : decode cX0_addNumber 69 = .ok (.ldiv, 1) := by decide +kernel
theorem dX0_addNumber_70 : decode cX0_addNumber 70 = .ok (.lstore_n 3, 1) := by decide +kernel
theorem dX0_addNumber_71 : decode cX0_addNumber 71 = .ok (.iinc 5 1, 3) := by decide +kernel
theorem dX0_addNumber_74 : decode cX0_addNumber 74 = .ok (.goto (-37), 3) := by decide +kernel
theorem dX0_addNumber_77 : decode cX0_addNumber 77 = .ok (.return_, 1) := by decide +kernel
theorem dX0_copyFrom_0 : decode cX0_copyFrom 0 = .ok (.aload_n 1, 1) := by decide +kernel
theorem dX0_copyFrom_1 : decode cX0_copyFrom 1 = .ok (.getfield 9, 3) := by decide +kernel
theorem dX0_copyFrom_4 : decode cX0_copyFrom 4 = .ok (.iconst 0, 1) := by decide +kernel
theorem dX0_copyFrom_5 : decode cX0_copyFrom 5 = .ok (.aload_n 0, 1) := by decide +kernel
theorem dX0_copyFrom_6 : decode cX0_copyFrom 6 = .ok (.getfield 9, 3) := by decide +kernel
theorem dX0_copyFrom_9 : decode cX0_copyFrom 9 = .ok (.iconst 0, 1) := by decide +kernel
theorem dX0_copyFrom_10 : decode cX0_copyFrom 10 = .ok (.aload_n 1, 1) := by decide +kernel
theorem dX0_copyFrom_11 : decode cX0_copyFrom 11 = .ok (.getfield 15, 3) := by decide +kernel
theorem dX0_copyFrom_14 : decode cX0_copyFrom 14 = .ok (.invokestatic 25, 3) := by decide +kernel
theorem dX0_copyFrom_17 : decode cX0_copyFrom 17 = .ok (.aload_n 0, 1) := by decide +kernel
theorem dX0_copyFrom_18 : decode cX0_copyFrom 18 = .ok (.aload_n 1, 1) := by decide +kernel
theorem dX0_copyFrom_19 : decode cX0_copyFrom 19 = .ok (.getfield 15, 3) := by decide +kernel
theorem dX0_copyFrom_22 : decode cX0_copyFrom 22 = .ok (.putfield 15, 3) := by decide +kernel
theorem dX0_copyFrom_25 : decode cX0_copyFrom 25 = .ok (.return_, 1) := by decide +kernel
end
section
theorem dX1_init_0 : decode cX1_init 0 = .ok (.aload_n 0, 1) := by decide +kernel
theorem dX1_init_1 : decode cX1_init 1 = .ok (.invokespecial 3, 3) := by decide +kernel
theorem dX1_init_4 : decode cX1_init 4 = .ok (.aload_n 0, 1) := by decide +kernel
theorem dX1_init_5 : decode cX1_init 5 = .ok (.new 9, 3) := by decide +kernel
theorem dX1_init_8 : decode cX1_init 8 = .ok (.dup, 1) := by decide +kernel
theorem dX1_init_9 : decode cX1_init 9 = .ok (.invokespecial 11, 3) := by decide +kernel
theorem dX1_init_12 : decode cX1_init 12 = .ok (.putfield 12, 3) := by decide +kernel
theorem dX1_init_15 : decode cX1_init 15 = .ok (.aload_n 0, 1) := by decide +kernel
theorem dX1_init_16 : decode cX1_init 16 = .ok (.bipush 19, 2) := by decide +kernel
theorem dX1_init_18 : decode cX1_init 18 = .ok (.newarray .int, 2) := by decide +kernel
theorem dX1_init_20 : decode cX1_init 20 = .ok (.putfield 18, 3) := by decide +kernel
theorem dX1_init_23 : decode cX1_init 23 = .ok (.aload_n 0, 1) := by decide +kernel
theorem dX1_init_24 : decode cX1_init 24 = .ok (.bipush 20, 2) := by decide +kernel
theorem dX1_init_26 : decode cX1_init 26 = .ok (.newarray .int, 2) := by decide +kernel
theorem dX1_init_28 : decode cX1_init 28 = .ok (.putfield 22, 3) := by decide +kernel
theorem dX1_init_31 : decode cX1_init 31 = .ok (.aload_n 0, 1) := by decide +kernel
theorem dX1_init_32 : decode cX1_init 32 = .ok (.bipush 20, 2) := by decide +kernel
theorem dX1_init_34 : decode cX1_init 34 = .ok (.newarray .int, 2) := by decide +kernel
theorem dX1_init_36 : decode cX1_init 36 = .ok (.putfield 25, 3) := by decide +kernel
theorem dX1_init_39 : decode cX1_init 39 = .ok (.aload_n 0, 1) := by decide +kernel
theorem dX1_init_40 : decode cX1_init 40 = .ok (.bipush 20, 2) := by decide +kernel
theorem dX1_init_42 : decode cX1_init 42 = .ok (.newarray .int, 2) := by decide +kernel
theorem dX1_init_44 : decode cX1_init 44 = .ok (.putfield 28, 3) := by decide +kernel
theorem dX1_init_47 : decode cX1_init 47 = .ok (.aload_n 0, 1) := by decide +kernel
theorem dX1_init_48 : decode cX1_init 48 = .ok (.bipush 20, 2) := by decide +kernel
theorem dX1_init_50 : decode cX1_init 50 = .ok (.newarray .long, 2) := by decide +kernel
theorem dX1_init_52 : decode cX1_init 52 = .ok (.putfield 31, 3) := by decide +kernel
theorem dX1_init_55 : decode cX1_init 55 = .ok (.aload_n 0, 1) := by decide +kernel
theorem dX1_init_56 : decode cX1_init 56 = .ok (.bipush 20, 2) := by decide +kernel
theorem dX1_init_58 : decode cX1_init 58 = .ok (.bipush 20, 2) := by decide +kernel
theorem dX1_init_60 : decode cX1_init 60 = .ok (.multianewarray 35 2, 4) := by decide +kernel
theorem dX1_init_64 : decode cX1_init 64 = .ok (.putfield 37, 3) := by decide +kernel
theorem dX1_init_67 : decode cX1_init 67 = .ok (.aload_n 0, 1) := by decide +kernel
theorem dX1_init_68 : decode cX1_init 68 = .ok (.bipush 20, 2) := by decide +kernel
theorem dX1_init_70 : decode cX1_init 70 = .ok (.bipush 20, 2) := by decide +kernel
theorem dX1_init_72 : decode cX1_init 72 = .ok (.multianewarray 35 2, 4) := by decide +kernel
theorem dX1_init_76 : decode cX1_init 76 = .ok (.putfield 40, 3) := by decide +kernel
theorem dX1_init_79 : decode cX1_init 79 = .ok (.aload_n 0, 1) := by decide +kernel
theorem dX1_init_80 : decode cX1_init 80 = .ok (.bipush 20, 2) := by decide +kernel
theorem dX1_init_82 : decode cX1_init 82 = .ok (.bipush 20, 2) := by decide +kernel
theorem dX1_init_84 : decode cX1_init 84 = .ok (.multianewarray 35 2, 4) := by decide +kernel
theorem dX1_init_88 : decode cX1_init 88 = .ok (.putfield 43, 3) := by decide +kernel
theorem dX1_init_91 : decode cX1_init 91 = .ok (.aload_n 0, 1) := by decide +kernel
theorem dX1_init_92 : decode cX1_init 92 = .ok (.bipush 20, 2) := by decide +kernel
theorem dX1_init_94 : decode cX1_init 94 = .ok (.newarray .int, 2) := by decide +kernel
theorem dX1_init_96 : decode cX1_init 96 = .ok (.putfield 46, 3) := by decide +kernel
theorem dX1_init_99 : decode cX1_init 99 = .ok (.return_, 1) := by decide +kernel
theorem dX1_begin_0 : decode cX1_begin 0 = .ok (.aload_n 0, 1) := by decide +kernel
theorem dX1_begin_1 : decode cX1_begin 1 = .ok (.aload_n 1, 1) := by decide +kernel
theorem dX1_begin_2 : decode cX1_begin 2 = .ok (.getfield 49, 3) := by decide +kernel
theorem dX1_begin_5 : decode cX1_begin 5 = .ok (.putfield 55, 3) := by decide +kernel
theorem dX1_begin_8 : decode cX1_begin 8 = .ok (.aload_n 0, 1) := by decide +kernel
theorem dX1_begin_9 : decode cX1_begin 9 = .ok (.iload_n 2, 1) := by decide +kernel
theorem dX1_begin_10 : decode cX1_begin 10 = .ok (.putfield 58, 3) := by decide +kernel
theorem dX1_begin_13 : decode cX1_begin 13 = .ok (.aload_n 0, 1) := by decide +kernel
theorem dX1_begin_14 : decode cX1_begin 14 = .ok (.iconst 0, 1) := by decide +kernel
theorem dX1_begin_15 : decode cX1_begin 15 = .ok (.putfield 61, 3) := by decide +kernel
theorem dX1_begin_18 : decode cX1_begin 18 = .ok (.aload_n 0, 1) := by decide +kernel
theorem dX1_begin_19 : decode cX1_begin 19 = .ok (.getfield 12, 3) := by decide +kernel
theorem dX1_begin_22 : decode cX1_begin 22 = .ok (.iconst 0, 1) := by decide +kernel
theorem dX1_begin_23 : decode cX1_begin 23 = .ok (.putfield 64, 3) := by decide +kernel
theorem dX1_begin_26 : decode cX1_begin 26 = .ok (.aload_n 0, 1) := by decide +kernel
theorem dX1_begin_27 : decode cX1_begin 27 = .ok (.aload_n 0, 1) := by decide +kernel
theorem dX1_begin_28 : decode cX1_begin 28 = .ok (.getfield 55, 3) := by decide +kernel
theorem dX1_begin_31 : decode cX1_begin 31 = .ok (.putfield 65, 3) := by decide +kernel
theorem dX1_begin_34 : decode cX1_begin 34 = .ok (.aload_n 0, 1) := by decide +kernel
theorem dX1_begin_35 : decode cX1_begin 35 = .ok (.iconst 0, 1) := by decide +kernel
theorem dX1_begin_36 : decode cX1_begin 36 = .ok (.putfield 66, 3) := by decide +kernel
theorem dX1_begin_39 : decode cX1_begin 39 = .ok (.iconst 0, 1) := by decide +kernel
theorem dX1_begin_40 : decode cX1_begin 40 = .ok (.istore_n 3, 1) := by decide +kernel
theorem dX1_begin_41 : decode cX1_begin 41 = .ok (.iload_n 3, 1) := by decide +kernel
theorem dX1_begin_42 : decode cX1_begin 42 = .ok (.aload_n 0, 1) := by decide +kernel
theorem dX1_begin_43 : decode cX1_begin 43 = .ok (.getfield 55, 3) := by decide +kernel
theorem dX1_begin_46 : decode cX1_begin 46 = .ok (.if_icmp .ge 39, 3) := by decide +kernel
theorem dX1_begin_49 : decode cX1_begin 49 = .ok (.aload_n 0, 1) := by decide +kernel
theorem dX1_begin_50 : decode cX1_begin 50 = .ok (.getfield 22, 3) := by decide +kernel
theorem dX1_begin_53 : decode cX1_begin 53 = .ok (.iload_n 3, 1) := by decide +kernel
theorem dX1_begin_54 : decode cX1_begin 54 = .ok (.iload_n 3, 1) := by decide +kernel
theorem dX1_begin_55 : decode cX1_begin 55 = .ok (.iastore, 1) := by decide +kernel
theorem dX1_begin_56 : decode cX1_begin 56 = .ok (.aload_n 0, 1) := by decide +kernel
theorem dX1_begin_57 : decode cX1_begin 57 = .ok (.getfield 25, 3) := by decide +kernel
theorem dX1_begin_60 : decode cX1_begin 60 = .ok (.iload_n 3, 1) := by decide +kernel
theorem dX1_begin_61 : decode cX1_begin 61 = .ok (.iload_n 3, 1) := by decide +kernel
theorem dX1_begin_62 : decode cX1_begin 62 = .ok (.iastore, 1) := by decide +kernel
theorem dX1_begin_63 : decode cX1_begin 63 = .ok (.aload_n 0, 1) := by decide +kernel
theorem dX1_begin_64 : decode cX1_begin 64 = .ok (.getfield 28, 3) := by decide +kernel
theorem dX1_begin_67 : decode cX1_begin 67 = .ok (.iload_n 3, 1) := by decide +kernel
theorem dX1_begin_68 : decode cX1_begin 68 = .ok (.iconst 1, 1) := by decide +kernel
theorem dX1_begin_69 : decode cX1_begin 69 = .ok (.iload_n 3, 1) := by decide +kernel
theorem dX1_begin_70 : decode cX1_begin 70 = .ok (.ishl, 1) := by decide +kernel
theorem dX1_begin_71 : decode cX1_begin 71 = .ok (.iastore, 1) := by decide +kernel
theorem dX1_begin_72 : decode cX1_begin 72 = .ok (.aload_n 0, 1) := by decide +kernel
theorem dX1_begin_73 : decode cX1_begin 73 = .ok (.getfield 31, 3) := by decide +kernel
theorem dX1_begin_76 : decode cX1_begin 76 = .ok (.iload_n 3, 1) := by decide +kernel
theorem dX1_begin_77 : decode cX1_begin 77 = .ok (.lconst 0, 1) := by decide +kernel
theorem dX1_begin_78 : decode cX1_begin 78 = .ok (.lastore, 1) := by decide +kernel
theorem dX1_begin_79 : decode cX1_begin 79 = .ok (.iinc 3 1, 3) := by decide +kernel
theorem dX1_begin_82 : decode cX1_begin 82 = .ok (.goto (-41), 3) := by decide +kernel
theorem dX1_begin_85 : decode cX1_begin 85 = .ok (.iconst 1, 1) := by decide +kernel
theorem dX1_begin_86 : decode cX1_begin 86 = .ok (.istore_n 3, 1) := by decide +kernel
theorem dX1_begin_87 : decode cX1_begin 87 = .ok (.iload_n 3, 1) := by decide +kernel
theorem dX1_begin_88 : decode cX1_begin 88 = .ok (.aload_n 0, 1) := by decide +kernel
theorem dX1_begin_89 : decode cX1_begin 89 = .ok (.getfield 55, 3) := by decide +kernel
theorem dX1_begin_92 : decode cX1_begin 92 = .ok (.if_icmp .ge 47, 3) := by decide +kernel
theorem dX1_begin_95 : decode cX1_begin 95 = .ok (.iconst 0, 1) := by decide +kernel
theorem dX1_begin_96 : decode cX1_begin 96 = .ok (.istore 4, 2) := by decide +kernel
theorem dX1_begin_98 : decode cX1_begin 98 = .ok (.iload 4, 2) := by decide +kernel
theorem dX1_begin_100 : decode cX1_begin 100 = .ok (.iload_n 3, 1) := by decide +kernel
theorem dX1_begin_101 : decode cX1_begin 101 = .ok (.if_icmp .ge 32, 3) := by decide +kernel
theorem dX1_begin_104 : decode cX1_begin 104 = .ok (.aload_n 0, 1) := by decide +kernel
theorem dX1_begin_105 : decode cX1_begin 105 = .ok (.iload_n 3, 1) := by decide +kernel
theorem dX1_begin_106 : decode cX1_begin 106 = .ok (.iload 4, 2) := by decide +kernel
theorem dX1_begin_108 : decode cX1_begin 108 = .ok (.aload_n 0, 1) := by decide +kernel
theorem dX1_begin_109 : decode cX1_begin 109 = .ok (.getfield 58, 3) := by decide +kernel
theorem dX1_begin_112 : decode cX1_begin 112 = .ok (.aload_n 1, 1) := by decide +kernel
theorem dX1_begin_113 : decode cX1_begin 113 = .ok (.getfield 69, 3) := by decide +kernel
theorem dX1_begin_116 : decode cX1_begin 116 = .ok (.iload_n 3, 1) := by decide +kernel
theorem dX1_begin_117 : decode cX1_begin 117 = .ok (.aaload, 1) := by decide +kernel
theorem dX1_begin_118 : decode cX1_begin 118 = .ok (.iload 4, 2) := by decide +kernel
theorem dX1_begin_120 : decode cX1_begin 120 = .ok (.iaload, 1) := by decide +kernel
theorem dX1_begin_121 : decode cX1_begin 121 = .ok (.invokestatic 73, 3) := by decide +kernel
theorem dX1_begin_124 : decode cX1_begin 124 = .ok (.invokevirtual 79, 3) := by decide +kernel
theorem dX1_begin_127 : decode cX1_begin 127 = .ok (.iinc 4 1, 3) := by decide +kernel
theorem dX1_begin_130 : decode cX1_begin 130 = .ok (.goto (-32), 3) := by decide +kernel
theorem dX1_begin_133 : decode cX1_begin 133 = .ok (.iinc 3 1, 3) := by decide +kernel
theorem dX1_begin_136 : decode cX1_begin 136 = .ok (.goto (-49), 3) := by decide +kernel
theorem dX1_begin_139 : decode cX1_begin 139 = .ok (.return_, 1) := by decide +kernel
theorem dX1_setCore_0 : decode cX1_setCore 0 = .ok (.aload_n 0, 1) := by decide +kernel
theorem dX1_setCore_1 : decode cX1_setCore 1 = .ok (.getfield 28, 3) := by decide +kernel
theorem dX1_setCore_4 : decode cX1_setCore 4 = .ok (.iload_n 1, 1) := by decide +kernel
theorem dX1_setCore_5 : decode cX1_setCore 5 = .ok (.iaload, 1) := by decide +kernel
theorem dX1_setCore_6 : decode cX1_setCore 6 = .ok (.invokestatic 83, 3) := by decide +kernel
theorem dX1_setCore_9 : decode cX1_setCore 9 = .ok (.istore 5, 2) := by decide +kernel
theorem dX1_setCore_11 : decode cX1_setCore 11 = .ok (.aload_n 0, 1) := by decide +kernel
theorem dX1_setCore_12 : decode cX1_setCore 12 = .ok (.getfield 28, 3) := by decide +kernel
theorem dX1_setCore_15 : decode cX1_setCore 15 = .ok (.iload_n 2, 1) := by decide +kernel
theorem dX1_setCore_16 : decode cX1_setCore 16 = .ok (.iaload, 1) := by decide +kernel
theorem dX1_setCore_17 : decode cX1_setCore 17 = .ok (.invokestatic 83, 3) := by decide +kernel
theorem dX1_setCore_20 : decode cX1_setCore 20 = .ok (.istore 6, 2) := by decide +kernel
theorem dX1_setCore_22 : decode cX1_setCore 22 = .ok (.aload_n 0, 1) := by decide +kernel
theorem dX1_setCore_23 : decode cX1_setCore 23 = .ok (.getfield 58, 3) := by decide +kernel
theorem dX1_setCore_26 : decode cX1_setCore 26 = .ok (.iconst 3, 1) := by decide +kernel
theorem dX1_setCore_27 : decode cX1_setCore 27 = .ok (.if_icmp .ne 26, 3) := by decide +kernel
theorem dX1_setCore_30 : decode cX1_setCore 30 = .ok (.lload_n 3, 1) := by decide +kernel
theorem dX1_setCore_31 : decode cX1_setCore 31 = .ok (.iload 5, 2) := by decide +kernel
theorem dX1_setCore_33 : decode cX1_setCore 33 = .ok (.iload 6, 2) := by decide +kernel
theorem dX1_setCore_35 : decode cX1_setCore 35 = .ok (.aload_n 0, 1) := by decide +kernel
theorem dX1_setCore_36 : decode cX1_setCore 36 = .ok (.getfield 31, 3) := by decide +kernel
theorem dX1_setCore_39 : decode cX1_setCore 39 = .ok (.iload_n 1, 1) := by decide +kernel
theorem dX1_setCore_40 : decode cX1_setCore 40 = .ok (.laload, 1) := by decide +kernel
theorem dX1_setCore_41 : decode cX1_setCore 41 = .ok (.aload_n 0, 1) := by decide +kernel
theorem dX1_setCore_42 : decode cX1_setCore 42 = .ok (.getfield 31, 3) := by decide +kernel
theorem dX1_setCore_45 : decode cX1_setCore 45 = .ok (.iload_n 2, 1) := by decide +kernel
theorem dX1_setCore_46 : decode cX1_setCore 46 = .ok (.laload, 1) := by decide +kernel
theorem dX1_setCore_47 : decode cX1_setCore 47 = .ok (.invokestatic 89, 3) := by decide +kernel
theorem dX1_setCore_50 : decode cX1_setCore 50 = .ok (.goto 4, 3) := by decide +kernel
theorem dX1_setCore_53 : decode cX1_setCore 53 = .ok (.lload_n 3, 1) := by decide +kernel
theorem dX1_setCore_54 : decode cX1_setCore 54 = .ok (.lstore 7, 2) := by decide +kernel
theorem dX1_setCore_56 : decode cX1_setCore 56 = .ok (.aload_n 0, 1) := by decide +kernel
theorem dX1_setCore_57 : decode cX1_setCore 57 = .ok (.getfield 58, 3) := by decide +kernel
theorem dX1_setCore_60 : decode cX1_setCore 60 = .ok (.iload 5, 2) := by decide +kernel
theorem dX1_setCore_62 : decode cX1_setCore 62 = .ok (.iload 6, 2) := by decide +kernel
theorem dX1_setCore_64 : decode cX1_setCore 64 = .ok (.invokestatic 93, 3) := by decide +kernel
theorem dX1_setCore_67 : decode cX1_setCore 67 = .ok (.lstore 9, 2) := by decide +kernel
theorem dX1_setCore_69 : decode cX1_setCore 69 = .ok (.aload_n 0, 1) := by decide +kernel
theorem dX1_setCore_70 : decode cX1_setCore 70 = .ok (.getfield 37, 3) := by decide +kernel
theorem dX1_setCore_73 : decode cX1_setCore 73 = .ok (.iload_n 1, 1) := by decide +kernel
theorem dX1_setCore_74 : decode cX1_setCore 74 = .ok (.aaload, 1) := by decide +kernel
theorem dX1_setCore_75 : decode cX1_setCore 75 = .ok (.iload_n 2, 1) := by decide +kernel
theorem dX1_setCore_76 : decode cX1_setCore 76 = .ok (.lload_n 3, 1) := by decide +kernel
theorem dX1_setCore_77 : decode cX1_setCore 77 = .ok (.lastore, 1) := by decide +kernel
theorem dX1_setCore_78 : decode cX1_setCore 78 = .ok (.aload_n 0, 1) := by decide +kernel
theorem dX1_setCore_79 : decode cX1_setCore 79 = .ok (.getfield 37, 3) := by decide +kernel
theorem dX1_setCore_82 : decode cX1_setCore 82 = .ok (.iload_n 2, 1) := by decide +kernel
theorem dX1_setCore_83 : decode cX1_setCore 83 = .ok (.aaload, 1) := by decide +kernel
theorem dX1_setCore_84 : decode cX1_setCore 84 = .ok (.iload_n 1, 1) := by decide +kernel
theorem dX1_setCore_85 : decode cX1_setCore 85 = .ok (.lload_n 3, 1) := by decide +kernel
theorem dX1_setCore_86 : decode cX1_setCore 86 = .ok (.lastore, 1) := by decide +kernel
theorem dX1_setCore_87 : decode cX1_setCore 87 = .ok (.aload_n 0, 1) := by decide +kernel
theorem dX1_setCore_88 : decode cX1_setCore 88 = .ok (.getfield 40, 3) := by decide +kernel
theorem dX1_setCore_91 : decode cX1_setCore 91 = .ok (.iload_n 1, 1) := by decide +kernel
theorem dX1_setCore_92 : decode cX1_setCore 92 = .ok (.aaload, 1) := by decide +kernel
theorem dX1_setCore_93 : decode cX1_setCore 93 = .ok (.iload_n 2, 1) := by decide +kernel
theorem dX1_setCore_94 : decode cX1_setCore 94 = .ok (.lload 7, 2) := by decide +kernel
theorem dX1_setCore_96 : decode cX1_setCore 96 = .ok (.lastore, 1) := by decide +kernel
theorem dX1_setCore_97 : decode cX1_setCore 97 = .ok (.aload_n 0, 1) := by decide +kernel
theorem dX1_setCore_98 : decode cX1_setCore 98 = .ok (.getfield 40, 3) := by decide +kernel
theorem dX1_setCore_101 : decode cX1_setCore 101 = .ok (.iload_n 2, 1) := by decide +kernel
theorem dX1_setCore_102 : decode cX1_setCore 102 = .ok (.aaload, 1) := by decide +kernel
theorem dX1_setCore_103 : decode cX1_setCore 103 = .ok (.iload_n 1, 1) := by decide +kernel
theorem dX1_setCore_104 : decode cX1_setCore 104 = .ok (.lload 7, 2) := by decide +kernel
theorem dX1_setCore_106 : decode cX1_setCore 106 = .ok (.lastore, 1) := by decide +kernel
theorem dX1_setCore_107 : decode cX1_setCore 107 = .ok (.aload_n 0, 1) := by decide +kernel
theorem dX1_setCore_108 : decode cX1_setCore 108 = .ok (.getfield 43, 3) := by decide +kernel
theorem dX1_setCore_111 : decode cX1_setCore 111 = .ok (.iload_n 1, 1) := by decide +kernel
theorem dX1_setCore_112 : decode cX1_setCore 112 = .ok (.aaload, 1) := by decide +kernel
theorem dX1_setCore_113 : decode cX1_setCore 113 = .ok (.iload_n 2, 1) := by decide +kernel
theorem dX1_setCore_114 : decode cX1_setCore 114 = .ok (.lload 9, 2) := by decide +kernel
theorem dX1_setCore_116 : decode cX1_setCore 116 = .ok (.lastore, 1) := by decide +kernel
theorem dX1_setCore_117 : decode cX1_setCore 117 = .ok (.aload_n 0, 1) := by decide +kernel
theorem dX1_setCore_118 : decode cX1_setCore 118 = .ok (.getfield 43, 3) := by decide +kernel
theorem dX1_setCore_121 : decode cX1_setCore 121 = .ok (.iload_n 2, 1) := by decide +kernel
theorem dX1_setCore_122 : decode cX1_setCore 122 = .ok (.aaload, 1) := by decide +kernel
theorem dX1_setCore_123 : decode cX1_setCore 123 = .ok (.iload_n 1, 1) := by decide +kernel
theorem dX1_setCore_124 : decode cX1_setCore 124 = .ok (.lload 9, 2) := by decide +kernel
theorem dX1_setCore_126 : decode cX1_setCore 126 = .ok (.lastore, 1) := by decide +kernel
theorem dX1_setCore_127 : decode cX1_setCore 127 = .ok (.return_, 1) := by decide +kernel
theorem dX1_compareLinkages_0 : decode cX1_compareLinkages 0 = .ok (.aload_n 0, 1) := by decide +kernel
theorem dX1_compareLinkages_1 : decode cX1_compareLinkages 1 = .ok (.getfield 40, 3) := by decide +kernel
theorem dX1_compareLinkages_4 : decode cX1_compareLinkages 4 = .ok (.iload_n 1, 1) := by decide +kernel
theorem dX1_compareLinkages_5 : decode cX1_compareLinkages 5 = .ok (.aaload, 1) := by decide +kernel
theorem dX1_compareLinkages_6 : decode cX1_compareLinkages 6 = .ok (.iload_n 2, 1) := by decide +kernel
theorem dX1_compareLinkages_7 : decode cX1_compareLinkages 7 = .ok (.laload, 1) := by decide +kernel
theorem dX1_compareLinkages_8 : decode cX1_compareLinkages 8 = .ok (.aload_n 0, 1) := by decide +kernel
theorem dX1_compareLinkages_9 : decode cX1_compareLinkages 9 = .ok (.getfield 43, 3) := by decide +kernel
theorem dX1_compareLinkages_12 : decode cX1_compareLinkages 12 = .ok (.iload_n 3, 1) := by decide +kernel
theorem dX1_compareLinkages_13 : decode cX1_compareLinkages 13 = .ok (.aaload, 1) := by decide +kernel
theorem dX1_compareLinkages_14 : decode cX1_compareLinkages 14 = .ok (.iload 4, 2) := by decide +kernel
theorem dX1_compareLinkages_16 : decode cX1_compareLinkages 16 = .ok (.laload, 1) := by decide +kernel
theorem dX1_compareLinkages_17 : decode cX1_compareLinkages 17 = .ok (.lmul, 1) := by decide +kernel
theorem dX1_compareLinkages_18 : decode cX1_compareLinkages 18 = .ok (.aload_n 0, 1) := by decide +kernel
theorem dX1_compareLinkages_19 : decode cX1_compareLinkages 19 = .ok (.getfield 40, 3) := by decide +kernel
theorem dX1_compareLinkages_22 : decode cX1_compareLinkages 22 = .ok (.iload_n 3, 1) := by decide +kernel
theorem dX1_compareLinkages_23 : decode cX1_compareLinkages 23 = .ok (.aaload, 1) := by decide +kernel
theorem dX1_compareLinkages_24 : decode cX1_compareLinkages 24 = .ok (.iload 4, 2) := by decide +kernel
theorem dX1_compareLinkages_26 : decode cX1_compareLinkages 26 = .ok (.laload, 1) := by decide +kernel
theorem dX1_compareLinkages_27 : decode cX1_compareLinkages 27 = .ok (.aload_n 0, 1) := by decide +kernel
theorem dX1_compareLinkages_28 : decode cX1_compareLinkages 28 = .ok (.getfield 43, 3) := by decide +kernel
theorem dX1_compareLinkages_31 : decode cX1_compareLinkages 31 = .ok (.iload_n 1, 1) := by decide +kernel
theorem dX1_compareLinkages_32 : decode cX1_compareLinkages 32 = .ok (.aaload, 1) := by decide +kernel
theorem dX1_compareLinkages_33 : decode cX1_compareLinkages 33 = .ok (.iload_n 2, 1) := by decide +kernel
theorem dX1_compareLinkages_34 : decode cX1_compareLinkages 34 = .ok (.laload, 1) := by decide +kernel
theorem dX1_compareLinkages_35 : decode cX1_compareLinkages 35 = .ok (.lmul, 1) := by decide +kernel
theorem dX1_compareLinkages_36 : decode cX1_compareLinkages 36 = .ok (.invokestatic 97, 3) := by decide +kernel
theorem dX1_compareLinkages_39 : decode cX1_compareLinkages 39 = .ok (.ireturn, 1) := by decide +kernel
theorem dX1_joinGreedily_0 : decode cX1_joinGreedily 0 = .ok (.iconst 0, 1) := by decide +kernel
theorem dX1_joinGreedily_1 : decode cX1_joinGreedily 1 = .ok (.istore_n 1, 1) := by decide +kernel
theorem dX1_joinGreedily_2 : decode cX1_joinGreedily 2 = .ok (.iload_n 1, 1) := by decide +kernel
theorem dX1_joinGreedily_3 : decode cX1_joinGreedily 3 = .ok (.bipush 19, 2) := by decide +kernel
theorem dX1_joinGreedily_5 : decode cX1_joinGreedily 5 = .ok (.if_icmp .ge 21, 3) := by decide +kernel
theorem dX1_joinGreedily_8 : decode cX1_joinGreedily 8 = .ok (.aload_n 0, 1) := by decide +kernel
theorem dX1_joinGreedily_9 : decode cX1_joinGreedily 9 = .ok (.getfield 65, 3) := by decide +kernel
theorem dX1_joinGreedily_12 : decode cX1_joinGreedily 12 = .ok (.iconst 1, 1) := by decide +kernel
theorem dX1_joinGreedily_13 : decode cX1_joinGreedily 13 = .ok (.if_icmp .le 13, 3) := by decide +kernel
theorem dX1_joinGreedily_16 : decode cX1_joinGreedily 16 = .ok (.aload_n 0, 1) := by decide +kernel
theorem dX1_joinGreedily_17 : decode cX1_joinGreedily 17 = .ok (.invokevirtual 103, 3) := by decide +kernel
theorem dX1_joinGreedily_20 : decode cX1_joinGreedily 20 = .ok (.iinc 1 1, 3) := by decide +kernel
theorem dX1_joinGreedily_23 : decode cX1_joinGreedily 23 = .ok (.goto (-21), 3) := by decide +kernel
theorem dX1_joinGreedily_26 : decode cX1_joinGreedily 26 = .ok (.return_, 1) := by decide +kernel
theorem dX1_joinLeastPair_0 : decode cX1_joinLeastPair 0 = .ok (.aload_n 0, 1) := by decide +kernel
theorem dX1_joinLeastPair_1 : decode cX1_joinLeastPair 1 = .ok (.getfield 22, 3) := by decide +kernel
theorem dX1_joinLeastPair_4 : decode cX1_joinLeastPair 4 = .ok (.iconst 0, 1) := by decide +kernel
theorem dX1_joinLeastPair_5 : decode cX1_joinLeastPair 5 = .ok (.iaload, 1) := by decide +kernel
theorem dX1_joinLeastPair_6 : decode cX1_joinLeastPair 6 = .ok (.istore_n 1, 1) := by decide +kernel
theorem dX1_joinLeastPair_7 : decode cX1_joinLeastPair 7 = .ok (.aload_n 0, 1) := by decide +kernel
theorem dX1_joinLeastPair_8 : decode cX1_joinLeastPair 8 = .ok (.getfield 22, 3) := by decide +kernel
theorem dX1_joinLeastPair_11 : decode cX1_joinLeastPair 11 = .ok (.iconst 1, 1) := by decide +kernel
theorem dX1_joinLeastPair_12 : decode cX1_joinLeastPair 12 = .ok (.iaload, 1) := by decide +kernel
theorem dX1_joinLeastPair_13 : decode cX1_joinLeastPair 13 = .ok (.istore_n 2, 1) := by decide +kernel
theorem dX1_joinLeastPair_14 : decode cX1_joinLeastPair 14 = .ok (.iconst 0, 1) := by decide +kernel
theorem dX1_joinLeastPair_15 : decode cX1_joinLeastPair 15 = .ok (.istore_n 3, 1) := by decide +kernel
theorem dX1_joinLeastPair_16 : decode cX1_joinLeastPair 16 = .ok (.iconst 0, 1) := by decide +kernel
theorem dX1_joinLeastPair_17 : decode cX1_joinLeastPair 17 = .ok (.istore 4, 2) := by decide +kernel
theorem dX1_joinLeastPair_19 : decode cX1_joinLeastPair 19 = .ok (.iload 4, 2) := by decide +kernel
theorem dX1_joinLeastPair_21 : decode cX1_joinLeastPair 21 = .ok (.aload_n 0, 1) := by decide +kernel
theorem dX1_joinLeastPair_22 : decode cX1_joinLeastPair 22 = .ok (.getfield 65, 3) := by decide +kernel
theorem dX1_joinLeastPair_25 : decode cX1_joinLeastPair 25 = .ok (.if_icmp .ge 86, 3) := by decide +kernel
theorem dX1_joinLeastPair_28 : decode cX1_joinLeastPair 28 = .ok (.iload 4, 2) := by decide +kernel
theorem dX1_joinLeastPair_30 : decode cX1_joinLeastPair 30 = .ok (.iconst 1, 1) := by decide +kernel
theorem dX1_joinLeastPair_31 : decode cX1_joinLeastPair 31 = .ok (.iadd, 1) := by decide +kernel
theorem dX1_joinLeastPair_32 : decode cX1_joinLeastPair 32 = .ok (.istore 5, 2) := by decide +kernel
theorem dX1_joinLeastPair_34 : decode cX1_joinLeastPair 34 = .ok (.iload 5, 2) := by decide +kernel
theorem dX1_joinLeastPair_36 : decode cX1_joinLeastPair 36 = .ok (.aload_n 0, 1) := by decide +kernel
theorem dX1_joinLeastPair_37 : decode cX1_joinLeastPair 37 = .ok (.getfield 65, 3) := by decide +kernel
theorem dX1_joinLeastPair_40 : decode cX1_joinLeastPair 40 = .ok (.if_icmp .ge 65, 3) := by decide +kernel
theorem dX1_joinLeastPair_43 : decode cX1_joinLeastPair 43 = .ok (.aload_n 0, 1) := by decide +kernel
theorem dX1_joinLeastPair_44 : decode cX1_joinLeastPair 44 = .ok (.aload_n 0, 1) := by decide +kernel
theorem dX1_joinLeastPair_45 : decode cX1_joinLeastPair 45 = .ok (.getfield 22, 3) := by decide +kernel
theorem dX1_joinLeastPair_48 : decode cX1_joinLeastPair 48 = .ok (.iload 4, 2) := by decide +kernel
theorem dX1_joinLeastPair_50 : decode cX1_joinLeastPair 50 = .ok (.iaload, 1) := by decide +kernel
theorem dX1_joinLeastPair_51 : decode cX1_joinLeastPair 51 = .ok (.aload_n 0, 1) := by decide +kernel
theorem dX1_joinLeastPair_52 : decode cX1_joinLeastPair 52 = .ok (.getfield 22, 3) := by decide +kernel
theorem dX1_joinLeastPair_55 : decode cX1_joinLeastPair 55 = .ok (.iload 5, 2) := by decide +kernel
theorem dX1_joinLeastPair_57 : decode cX1_joinLeastPair 57 = .ok (.iaload, 1) := by decide +kernel
theorem dX1_joinLeastPair_58 : decode cX1_joinLeastPair 58 = .ok (.iload_n 1, 1) := by decide +kernel
theorem dX1_joinLeastPair_59 : decode cX1_joinLeastPair 59 = .ok (.iload_n 2, 1) := by decide +kernel
theorem dX1_joinLeastPair_60 : decode cX1_joinLeastPair 60 = .ok (.invokevirtual 106, 3) := by decide +kernel
theorem dX1_joinLeastPair_63 : decode cX1_joinLeastPair 63 = .ok (.istore 6, 2) := by decide +kernel
theorem dX1_joinLeastPair_65 : decode cX1_joinLeastPair 65 = .ok (.iload 6, 2) := by decide +kernel
theorem dX1_joinLeastPair_67 : decode cX1_joinLeastPair 67 = .ok (.ifCond .ge 24, 3) := by decide +kernel
theorem dX1_joinLeastPair_70 : decode cX1_joinLeastPair 70 = .ok (.aload_n 0, 1) := by decide +kernel
theorem dX1_joinLeastPair_71 : decode cX1_joinLeastPair 71 = .ok (.getfield 22, 3) := by decide +kernel
theorem dX1_joinLeastPair_74 : decode cX1_joinLeastPair 74 = .ok (.iload 4, 2) := by decide +kernel
theorem dX1_joinLeastPair_76 : decode cX1_joinLeastPair 76 = .ok (.iaload, 1) := by decide +kernel
theorem dX1_joinLeastPair_77 : decode cX1_joinLeastPair 77 = .ok (.istore_n 1, 1) := by decide +kernel
theorem dX1_joinLeastPair_78 : decode cX1_joinLeastPair 78 = .ok (.aload_n 0, 1) := by decide +kernel
theorem dX1_joinLeastPair_79 : decode cX1_joinLeastPair 79 = .ok (.getfield 22, 3) := by decide +kernel
theorem dX1_joinLeastPair_82 : decode cX1_joinLeastPair 82 = .ok (.iload 5, 2) := by decide +kernel
theorem dX1_joinLeastPair_84 : decode cX1_joinLeastPair 84 = .ok (.iaload, 1) := by decide +kernel
theorem dX1_joinLeastPair_85 : decode cX1_joinLeastPair 85 = .ok (.istore_n 2, 1) := by decide +kernel
theorem dX1_joinLeastPair_86 : decode cX1_joinLeastPair 86 = .ok (.iconst 1, 1) := by decide +kernel
theorem dX1_joinLeastPair_87 : decode cX1_joinLeastPair 87 = .ok (.istore_n 3, 1) := by decide +kernel
theorem dX1_joinLeastPair_88 : decode cX1_joinLeastPair 88 = .ok (.goto 11, 3) := by decide +kernel
theorem dX1_joinLeastPair_91 : decode cX1_joinLeastPair 91 = .ok (.iload 6, 2) := by decide +kernel
theorem dX1_joinLeastPair_93 : decode cX1_joinLeastPair 93 = .ok (.ifCond .ne 6, 3) := by decide +kernel
theorem dX1_joinLeastPair_96 : decode cX1_joinLeastPair 96 = .ok (.iinc 3 1, 3) := by decide +kernel
theorem dX1_joinLeastPair_99 : decode cX1_joinLeastPair 99 = .ok (.iinc 5 1, 3) := by decide +kernel
theorem dX1_joinLeastPair_102 : decode cX1_joinLeastPair 102 = .ok (.goto (-68), 3) := by decide +kernel
theorem dX1_joinLeastPair_105 : decode cX1_joinLeastPair 105 = .ok (.iinc 4 1, 3) := by decide +kernel
theorem dX1_joinLeastPair_108 : decode cX1_joinLeastPair 108 = .ok (.goto (-89), 3) := by decide +kernel
theorem dX1_joinLeastPair_111 : decode cX1_joinLeastPair 111 = .ok (.iload_n 3, 1) := by decide +kernel
theorem dX1_joinLeastPair_112 : decode cX1_joinLeastPair 112 = .ok (.iconst 1, 1) := by decide +kernel
theorem dX1_joinLeastPair_113 : decode cX1_joinLeastPair 113 = .ok (.if_icmp .le 13, 3) := by decide +kernel
theorem dX1_joinLeastPair_116 : decode cX1_joinLeastPair 116 = .ok (.aload_n 0, 1) := by decide +kernel
theorem dX1_joinLeastPair_117 : decode cX1_joinLeastPair 117 = .ok (.dup, 1) := by decide +kernel
theorem dX1_joinLeastPair_118 : decode cX1_joinLeastPair 118 = .ok (.getfield 61, 3) := by decide +kernel
theorem dX1_joinLeastPair_121 : decode cX1_joinLeastPair 121 = .ok (.iconst 1, 1) := by decide +kernel
theorem dX1_joinLeastPair_122 : decode cX1_joinLeastPair 122 = .ok (.iadd, 1) := by decide +kernel
theorem dX1_joinLeastPair_123 : decode cX1_joinLeastPair 123 = .ok (.putfield 61, 3) := by decide +kernel
theorem dX1_joinLeastPair_126 : decode cX1_joinLeastPair 126 = .ok (.aload_n 0, 1) := by decide +kernel
theorem dX1_joinLeastPair_127 : decode cX1_joinLeastPair 127 = .ok (.iload_n 1, 1) := by decide +kernel
theorem dX1_joinLeastPair_128 : decode cX1_joinLeastPair 128 = .ok (.iload_n 2, 1) := by decide +kernel
theorem dX1_joinLeastPair_129 : decode cX1_joinLeastPair 129 = .ok (.invokevirtual 110, 3) := by decide +kernel
theorem dX1_joinLeastPair_132 : decode cX1_joinLeastPair 132 = .ok (.return_, 1) := by decide +kernel
theorem dX1_joinAlongChains_0 : decode cX1_joinAlongChains 0 = .ok (.iconst 0, 1) := by decide +kernel
theorem dX1_joinAlongChains_1 : decode cX1_joinAlongChains 1 = .ok (.istore_n 1, 1) := by decide +kernel
theorem dX1_joinAlongChains_2 : decode cX1_joinAlongChains 2 = .ok (.iload_n 1, 1) := by decide +kernel
theorem dX1_joinAlongChains_3 : decode cX1_joinAlongChains 3 = .ok (.sipush 1000, 3) := by decide +kernel
theorem dX1_joinAlongChains_6 : decode cX1_joinAlongChains 6 = .ok (.if_icmp .ge 21, 3) := by decide +kernel
theorem dX1_joinAlongChains_9 : decode cX1_joinAlongChains 9 = .ok (.aload_n 0, 1) := by decide +kernel
theorem dX1_joinAlongChains_10 : decode cX1_joinAlongChains 10 = .ok (.getfield 65, 3) := by decide +kernel
theorem dX1_joinAlongChains_13 : decode cX1_joinAlongChains 13 = .ok (.iconst 1, 1) := by decide +kernel
theorem dX1_joinAlongChains_14 : decode cX1_joinAlongChains 14 = .ok (.if_icmp .le 13, 3) := by decide +kernel
theorem dX1_joinAlongChains_17 : decode cX1_joinAlongChains 17 = .ok (.aload_n 0, 1) := by decide +kernel
theorem dX1_joinAlongChains_18 : decode cX1_joinAlongChains 18 = .ok (.invokevirtual 114, 3) := by decide +kernel
theorem dX1_joinAlongChains_21 : decode cX1_joinAlongChains 21 = .ok (.iinc 1 1, 3) := by decide +kernel
theorem dX1_joinAlongChains_24 : decode cX1_joinAlongChains 24 = .ok (.goto (-22), 3) := by decide +kernel
theorem dX1_joinAlongChains_27 : decode cX1_joinAlongChains 27 = .ok (.return_, 1) := by decide +kernel
theorem dX1_followChain_0 : decode cX1_followChain 0 = .ok (.aload_n 0, 1) := by decide +kernel
theorem dX1_followChain_1 : decode cX1_followChain 1 = .ok (.getfield 66, 3) := by decide +kernel
theorem dX1_followChain_4 : decode cX1_followChain 4 = .ok (.ifCond .ne 20, 3) := by decide +kernel
theorem dX1_followChain_7 : decode cX1_followChain 7 = .ok (.aload_n 0, 1) := by decide +kernel
theorem dX1_followChain_8 : decode cX1_followChain 8 = .ok (.getfield 46, 3) := by decide +kernel
theorem dX1_followChain_11 : decode cX1_followChain 11 = .ok (.iconst 0, 1) := by decide +kernel
theorem dX1_followChain_12 : decode cX1_followChain 12 = .ok (.aload_n 0, 1) := by decide +kernel
theorem dX1_followChain_13 : decode cX1_followChain 13 = .ok (.getfield 22, 3) := by decide +kernel
theorem dX1_followChain_16 : decode cX1_followChain 16 = .ok (.iconst 0, 1) := by decide +kernel
theorem dX1_followChain_17 : decode cX1_followChain 17 = .ok (.iaload, 1) := by decide +kernel
theorem dX1_followChain_18 : decode cX1_followChain 18 = .ok (.iastore, 1) := by decide +kernel
theorem dX1_followChain_19 : decode cX1_followChain 19 = .ok (.aload_n 0, 1) := by decide +kernel
theorem dX1_followChain_20 : decode cX1_followChain 20 = .ok (.iconst 1, 1) := by decide +kernel
theorem dX1_followChain_21 : decode cX1_followChain 21 = .ok (.putfield 66, 3) := by decide +kernel
theorem dX1_followChain_24 : decode cX1_followChain 24 = .ok (.aload_n 0, 1) := by decide +kernel
theorem dX1_followChain_25 : decode cX1_followChain 25 = .ok (.getfield 46, 3) := by decide +kernel
theorem dX1_followChain_28 : decode cX1_followChain 28 = .ok (.aload_n 0, 1) := by decide +kernel
theorem dX1_followChain_29 : decode cX1_followChain 29 = .ok (.getfield 66, 3) := by decide +kernel
theorem dX1_followChain_32 : decode cX1_followChain 32 = .ok (.iconst 1, 1) := by decide +kernel
theorem dX1_followChain_33 : decode cX1_followChain 33 = .ok (.isub, 1) := by decide +kernel
theorem dX1_followChain_34 : decode cX1_followChain 34 = .ok (.iaload, 1) := by decide +kernel
theorem dX1_followChain_35 : decode cX1_followChain 35 = .ok (.istore_n 1, 1) := by decide +kernel
theorem dX1_followChain_36 : decode cX1_followChain 36 = .ok (.aload_n 0, 1) := by decide +kernel
theorem dX1_followChain_37 : decode cX1_followChain 37 = .ok (.getfield 66, 3) := by decide +kernel
theorem dX1_followChain_40 : decode cX1_followChain 40 = .ok (.iconst 1, 1) := by decide +kernel
theorem dX1_followChain_41 : decode cX1_followChain 41 = .ok (.if_icmp .le 17, 3) := by decide +kernel
theorem dX1_followChain_44 : decode cX1_followChain 44 = .ok (.aload_n 0, 1) := by decide +kernel
theorem dX1_followChain_45 : decode cX1_followChain 45 = .ok (.getfield 46, 3) := by decide +kernel
theorem dX1_followChain_48 : decode cX1_followChain 48 = .ok (.aload_n 0, 1) := by decide +kernel
theorem dX1_followChain_49 : decode cX1_followChain 49 = .ok (.getfield 66, 3) := by decide +kernel
theorem dX1_followChain_52 : decode cX1_followChain 52 = .ok (.iconst 2, 1) := by decide +kernel
theorem dX1_followChain_53 : decode cX1_followChain 53 = .ok (.isub, 1) := by decide +kernel
theorem dX1_followChain_54 : decode cX1_followChain 54 = .ok (.iaload, 1) := by decide +kernel
theorem dX1_followChain_55 : decode cX1_followChain 55 = .ok (.goto 4, 3) := by decide +kernel
theorem dX1_followChain_58 : decode cX1_followChain 58 = .ok (.iconst (-1), 1) := by decide +kernel
theorem dX1_followChain_59 : decode cX1_followChain 59 = .ok (.istore_n 2, 1) := by decide +kernel
theorem dX1_followChain_60 : decode cX1_followChain 60 = .ok (.aload_n 0, 1) := by decide +kernel
theorem dX1_followChain_61 : decode cX1_followChain 61 = .ok (.iload_n 1, 1) := by decide +kernel
theorem dX1_followChain_62 : decode cX1_followChain 62 = .ok (.iload_n 2, 1) := by decide +kernel
theorem dX1_followChain_63 : decode cX1_followChain 63 = .ok (.invokevirtual 117, 3) := by decide +kernel
theorem dX1_followChain_66 : decode cX1_followChain 66 = .ok (.istore_n 3, 1) := by decide +kernel
theorem dX1_followChain_67 : decode cX1_followChain 67 = .ok (.iload_n 3, 1) := by decide +kernel
theorem dX1_followChain_68 : decode cX1_followChain 68 = .ok (.iconst (-1), 1) := by decide +kernel
theorem dX1_followChain_69 : decode cX1_followChain 69 = .ok (.if_icmp .ne 4, 3) := by decide +kernel
theorem dX1_followChain_72 : decode cX1_followChain 72 = .ok (.return_, 1) := by decide +kernel
theorem dX1_followChain_73 : decode cX1_followChain 73 = .ok (.iload_n 3, 1) := by decide +kernel
theorem dX1_followChain_74 : decode cX1_followChain 74 = .ok (.iload_n 2, 1) := by decide +kernel
theorem dX1_followChain_75 : decode cX1_followChain 75 = .ok (.if_icmp .ne 22, 3) := by decide +kernel
theorem dX1_followChain_78 : decode cX1_followChain 78 = .ok (.aload_n 0, 1) := by decide +kernel
theorem dX1_followChain_79 : decode cX1_followChain 79 = .ok (.dup, 1) := by decide +kernel
theorem dX1_followChain_80 : decode cX1_followChain 80 = .ok (.getfield 66, 3) := by decide +kernel
theorem dX1_followChain_83 : decode cX1_followChain 83 = .ok (.iconst 2, 1) := by decide +kernel
theorem dX1_followChain_84 : decode cX1_followChain 84 = .ok (.isub, 1) := by decide +kernel
theorem dX1_followChain_85 : decode cX1_followChain 85 = .ok (.putfield 66, 3) := by decide +kernel
theorem dX1_followChain_88 : decode cX1_followChain 88 = .ok (.aload_n 0, 1) := by decide +kernel
theorem dX1_followChain_89 : decode cX1_followChain 89 = .ok (.iload_n 2, 1) := by decide +kernel
theorem dX1_followChain_90 : decode cX1_followChain 90 = .ok (.iload_n 1, 1) := by decide +kernel
theorem dX1_followChain_91 : decode cX1_followChain 91 = .ok (.invokevirtual 110, 3) := by decide +kernel
theorem dX1_followChain_94 : decode cX1_followChain 94 = .ok (.goto 32, 3) := by decide +kernel
theorem dX1_followChain_97 : decode cX1_followChain 97 = .ok (.aload_n 0, 1) := by decide +kernel
theorem dX1_followChain_98 : decode cX1_followChain 98 = .ok (.getfield 66, 3) := by decide +kernel
theorem dX1_followChain_101 : decode cX1_followChain 101 = .ok (.bipush 20, 2) := by decide +kernel
theorem dX1_followChain_103 : decode cX1_followChain 103 = .ok (.if_icmp .ge 23, 3) := by decide +kernel
theorem dX1_followChain_106 : decode cX1_followChain 106 = .ok (.aload_n 0, 1) := by decide +kernel
theorem dX1_followChain_107 : decode cX1_followChain 107 = .ok (.getfield 46, 3) := by decide +kernel
theorem dX1_followChain_110 : decode cX1_followChain 110 = .ok (.aload_n 0, 1) := by decide +kernel
theorem dX1_followChain_111 : decode cX1_followChain 111 = .ok (.getfield 66, 3) := by decide +kernel
theorem dX1_followChain_114 : decode cX1_followChain 114 = .ok (.iload_n 3, 1) := by decide +kernel
theorem dX1_followChain_115 : decode cX1_followChain 115 = .ok (.iastore, 1) := by decide +kernel
theorem dX1_followChain_116 : decode cX1_followChain 116 = .ok (.aload_n 0, 1) := by decide +kernel
theorem dX1_followChain_117 : decode cX1_followChain 117 = .ok (.dup, 1) := by decide +kernel
theorem dX1_followChain_118 : decode cX1_followChain 118 = .ok (.getfield 66, 3) := by decide +kernel
theorem dX1_followChain_121 : decode cX1_followChain 121 = .ok (.iconst 1, 1) := by decide +kernel
theorem dX1_followChain_122 : decode cX1_followChain 122 = .ok (.iadd, 1) := by decide +kernel
theorem dX1_followChain_123 : decode cX1_followChain 123 = .ok (.putfield 66, 3) := by decide +kernel
theorem dX1_followChain_126 : decode cX1_followChain 126 = .ok (.return_, 1) := by decide +kernel
theorem dX1_nearestTo_0 : decode cX1_nearestTo 0 = .ok (.iconst (-1), 1) := by decide +kernel
theorem dX1_nearestTo_1 : decode cX1_nearestTo 1 = .ok (.istore_n 3, 1) := by decide +kernel
theorem dX1_nearestTo_2 : decode cX1_nearestTo 2 = .ok (.iconst 0, 1) := by decide +kernel
theorem dX1_nearestTo_3 : decode cX1_nearestTo 3 = .ok (.istore 4, 2) := by decide +kernel
theorem dX1_nearestTo_5 : decode cX1_nearestTo 5 = .ok (.iconst 0, 1) := by decide +kernel
theorem dX1_nearestTo_6 : decode cX1_nearestTo 6 = .ok (.istore 5, 2) := by decide +kernel
theorem dX1_nearestTo_8 : decode cX1_nearestTo 8 = .ok (.iload 5, 2) := by decide +kernel
theorem dX1_nearestTo_10 : decode cX1_nearestTo 10 = .ok (.aload_n 0, 1) := by decide +kernel
theorem dX1_nearestTo_11 : decode cX1_nearestTo 11 = .ok (.getfield 65, 3) := by decide +kernel
theorem dX1_nearestTo_14 : decode cX1_nearestTo 14 = .ok (.if_icmp .ge 88, 3) := by decide +kernel
theorem dX1_nearestTo_17 : decode cX1_nearestTo 17 = .ok (.aload_n 0, 1) := by decide +kernel
theorem dX1_nearestTo_18 : decode cX1_nearestTo 18 = .ok (.getfield 22, 3) := by decide +kernel
theorem dX1_nearestTo_21 : decode cX1_nearestTo 21 = .ok (.iload 5, 2) := by decide +kernel
theorem dX1_nearestTo_23 : decode cX1_nearestTo 23 = .ok (.iaload, 1) := by decide +kernel
theorem dX1_nearestTo_24 : decode cX1_nearestTo 24 = .ok (.istore 6, 2) := by decide +kernel
theorem dX1_nearestTo_26 : decode cX1_nearestTo 26 = .ok (.iload 6, 2) := by decide +kernel
theorem dX1_nearestTo_28 : decode cX1_nearestTo 28 = .ok (.iload_n 1, 1) := by decide +kernel
theorem dX1_nearestTo_29 : decode cX1_nearestTo 29 = .ok (.if_icmp .eq 67, 3) := by decide +kernel
theorem dX1_nearestTo_32 : decode cX1_nearestTo 32 = .ok (.iload_n 3, 1) := by decide +kernel
theorem dX1_nearestTo_33 : decode cX1_nearestTo 33 = .ok (.iconst (-1), 1) := by decide +kernel
theorem dX1_nearestTo_34 : decode cX1_nearestTo 34 = .ok (.if_icmp .ne 7, 3) := by decide +kernel
theorem dX1_nearestTo_37 : decode cX1_nearestTo 37 = .ok (.iconst (-1), 1) := by decide +kernel
theorem dX1_nearestTo_38 : decode cX1_nearestTo 38 = .ok (.goto 12, 3) := by decide +kernel
theorem dX1_nearestTo_41 : decode cX1_nearestTo 41 = .ok (.aload_n 0, 1) := by decide +kernel
theorem dX1_nearestTo_42 : decode cX1_nearestTo 42 = .ok (.iload_n 1, 1) := by decide +kernel
theorem dX1_nearestTo_43 : decode cX1_nearestTo 43 = .ok (.iload 6, 2) := by decide +kernel
theorem dX1_nearestTo_45 : decode cX1_nearestTo 45 = .ok (.iload_n 1, 1) := by decide +kernel
theorem dX1_nearestTo_46 : decode cX1_nearestTo 46 = .ok (.iload_n 3, 1) := by decide +kernel
theorem dX1_nearestTo_47 : decode cX1_nearestTo 47 = .ok (.invokevirtual 106, 3) := by decide +kernel
theorem dX1_nearestTo_50 : decode cX1_nearestTo 50 = .ok (.istore 7, 2) := by decide +kernel
theorem dX1_nearestTo_52 : decode cX1_nearestTo 52 = .ok (.iload 7, 2) := by decide +kernel
theorem dX1_nearestTo_54 : decode cX1_nearestTo 54 = .ok (.ifCond .lt 14, 3) := by decide +kernel
theorem dX1_nearestTo_57 : decode cX1_nearestTo 57 = .ok (.iload 7, 2) := by decide +kernel
theorem dX1_nearestTo_59 : decode cX1_nearestTo 59 = .ok (.ifCond .ne 12, 3) := by decide +kernel
theorem dX1_nearestTo_62 : decode cX1_nearestTo 62 = .ok (.iload 6, 2) := by decide +kernel
theorem dX1_nearestTo_64 : decode cX1_nearestTo 64 = .ok (.iload_n 2, 1) := by decide +kernel
theorem dX1_nearestTo_65 : decode cX1_nearestTo 65 = .ok (.if_icmp .ne 6, 3) := by decide +kernel
theorem dX1_nearestTo_68 : decode cX1_nearestTo 68 = .ok (.iload 6, 2) := by decide +kernel
theorem dX1_nearestTo_70 : decode cX1_nearestTo 70 = .ok (.istore_n 3, 1) := by decide +kernel
theorem dX1_nearestTo_71 : decode cX1_nearestTo 71 = .ok (.iload 7, 2) := by decide +kernel
theorem dX1_nearestTo_73 : decode cX1_nearestTo 73 = .ok (.ifCond .ge 7, 3) := by decide +kernel
theorem dX1_nearestTo_76 : decode cX1_nearestTo 76 = .ok (.iconst 1, 1) := by decide +kernel
theorem dX1_nearestTo_77 : decode cX1_nearestTo 77 = .ok (.goto 17, 3) := by decide +kernel
theorem dX1_nearestTo_80 : decode cX1_nearestTo 80 = .ok (.iload 7, 2) := by decide +kernel
theorem dX1_nearestTo_82 : decode cX1_nearestTo 82 = .ok (.ifCond .ne 10, 3) := by decide +kernel
theorem dX1_nearestTo_85 : decode cX1_nearestTo 85 = .ok (.iload 4, 2) := by decide +kernel
theorem dX1_nearestTo_87 : decode cX1_nearestTo 87 = .ok (.iconst 1, 1) := by decide +kernel
theorem dX1_nearestTo_88 : decode cX1_nearestTo 88 = .ok (.iadd, 1) := by decide +kernel
theorem dX1_nearestTo_89 : decode cX1_nearestTo 89 = .ok (.goto 5, 3) := by decide +kernel
theorem dX1_nearestTo_92 : decode cX1_nearestTo 92 = .ok (.iload 4, 2) := by decide +kernel
theorem dX1_nearestTo_94 : decode cX1_nearestTo 94 = .ok (.istore 4, 2) := by decide +kernel
theorem dX1_nearestTo_96 : decode cX1_nearestTo 96 = .ok (.iinc 5 1, 3) := by decide +kernel
theorem dX1_nearestTo_99 : decode cX1_nearestTo 99 = .ok (.goto (-91), 3) := by decide +kernel
theorem dX1_nearestTo_102 : decode cX1_nearestTo 102 = .ok (.iload 4, 2) := by decide +kernel
theorem dX1_nearestTo_104 : decode cX1_nearestTo 104 = .ok (.iconst 1, 1) := by decide +kernel
theorem dX1_nearestTo_105 : decode cX1_nearestTo 105 = .ok (.if_icmp .le 13, 3) := by decide +kernel
theorem dX1_nearestTo_108 : decode cX1_nearestTo 108 = .ok (.aload_n 0, 1) := by decide +kernel
theorem dX1_nearestTo_109 : decode cX1_nearestTo 109 = .ok (.dup, 1) := by decide +kernel
theorem dX1_nearestTo_110 : decode cX1_nearestTo 110 = .ok (.getfield 61, 3) := by decide +kernel
theorem dX1_nearestTo_113 : decode cX1_nearestTo 113 = .ok (.iconst 1, 1) := by decide +kernel
theorem dX1_nearestTo_114 : decode cX1_nearestTo 114 = .ok (.iadd, 1) := by decide +kernel
theorem dX1_nearestTo_115 : decode cX1_nearestTo 115 = .ok (.putfield 61, 3) := by decide +kernel
theorem dX1_nearestTo_118 : decode cX1_nearestTo 118 = .ok (.iload_n 3, 1) := by decide +kernel
theorem dX1_nearestTo_119 : decode cX1_nearestTo 119 = .ok (.ireturn, 1) := by decide +kernel
theorem dX1_join_0 : decode cX1_join 0 = .ok (.aload_n 0, 1) := by decide +kernel
theorem dX1_join_1 : decode cX1_join 1 = .ok (.getfield 12, 3) := by decide +kernel
theorem dX1_join_4 : decode cX1_join 4 = .ok (.getfield 64, 3) := by decide +kernel
theorem dX1_join_7 : decode cX1_join 7 = .ok (.istore_n 3, 1) := by decide +kernel
theorem dX1_join_8 : decode cX1_join 8 = .ok (.aload_n 0, 1) := by decide +kernel
theorem dX1_join_9 : decode cX1_join 9 = .ok (.getfield 12, 3) := by decide +kernel
theorem dX1_join_12 : decode cX1_join 12 = .ok (.iload_n 3, 1) := by decide +kernel
theorem dX1_join_13 : decode cX1_join 13 = .ok (.aload_n 0, 1) := by decide +kernel
theorem dX1_join_14 : decode cX1_join 14 = .ok (.getfield 25, 3) := by decide +kernel
theorem dX1_join_17 : decode cX1_join 17 = .ok (.iload_n 1, 1) := by decide +kernel
theorem dX1_join_18 : decode cX1_join 18 = .ok (.iaload, 1) := by decide +kernel
theorem dX1_join_19 : decode cX1_join 19 = .ok (.aload_n 0, 1) := by decide +kernel
theorem dX1_join_20 : decode cX1_join 20 = .ok (.getfield 25, 3) := by decide +kernel
theorem dX1_join_23 : decode cX1_join 23 = .ok (.iload_n 2, 1) := by decide +kernel
theorem dX1_join_24 : decode cX1_join 24 = .ok (.iaload, 1) := by decide +kernel
theorem dX1_join_25 : decode cX1_join 25 = .ok (.aload_n 0, 1) := by decide +kernel
theorem dX1_join_26 : decode cX1_join 26 = .ok (.getfield 28, 3) := by decide +kernel
theorem dX1_join_29 : decode cX1_join 29 = .ok (.iload_n 1, 1) := by decide +kernel
theorem dX1_join_30 : decode cX1_join 30 = .ok (.iaload, 1) := by decide +kernel
theorem dX1_join_31 : decode cX1_join 31 = .ok (.aload_n 0, 1) := by decide +kernel
theorem dX1_join_32 : decode cX1_join 32 = .ok (.getfield 28, 3) := by decide +kernel
theorem dX1_join_35 : decode cX1_join 35 = .ok (.iload_n 2, 1) := by decide +kernel
theorem dX1_join_36 : decode cX1_join 36 = .ok (.iaload, 1) := by decide +kernel
theorem dX1_join_37 : decode cX1_join 37 = .ok (.ior, 1) := by decide +kernel
theorem dX1_join_38 : decode cX1_join 38 = .ok (.invokevirtual 121, 3) := by decide +kernel
theorem dX1_join_41 : decode cX1_join 41 = .ok (.aload_n 0, 1) := by decide +kernel
theorem dX1_join_42 : decode cX1_join 42 = .ok (.getfield 12, 3) := by decide +kernel
theorem dX1_join_45 : decode cX1_join 45 = .ok (.iload_n 3, 1) := by decide +kernel
theorem dX1_join_46 : decode cX1_join 46 = .ok (.aload_n 0, 1) := by decide +kernel
theorem dX1_join_47 : decode cX1_join 47 = .ok (.getfield 40, 3) := by decide +kernel
theorem dX1_join_50 : decode cX1_join 50 = .ok (.iload_n 1, 1) := by decide +kernel
theorem dX1_join_51 : decode cX1_join 51 = .ok (.aaload, 1) := by decide +kernel
theorem dX1_join_52 : decode cX1_join 52 = .ok (.iload_n 2, 1) := by decide +kernel
theorem dX1_join_53 : decode cX1_join 53 = .ok (.laload, 1) := by decide +kernel
theorem dX1_join_54 : decode cX1_join 54 = .ok (.aload_n 0, 1) := by decide +kernel
theorem dX1_join_55 : decode cX1_join 55 = .ok (.getfield 43, 3) := by decide +kernel
theorem dX1_join_58 : decode cX1_join 58 = .ok (.iload_n 1, 1) := by decide +kernel
theorem dX1_join_59 : decode cX1_join 59 = .ok (.aaload, 1) := by decide +kernel
theorem dX1_join_60 : decode cX1_join 60 = .ok (.iload_n 2, 1) := by decide +kernel
theorem dX1_join_61 : decode cX1_join 61 = .ok (.laload, 1) := by decide +kernel
theorem dX1_join_62 : decode cX1_join 62 = .ok (.invokevirtual 125, 3) := by decide +kernel
theorem dX1_join_65 : decode cX1_join 65 = .ok (.aload_n 0, 1) := by decide +kernel
theorem dX1_join_66 : decode cX1_join 66 = .ok (.getfield 12, 3) := by decide +kernel
theorem dX1_join_69 : decode cX1_join 69 = .ok (.iload_n 3, 1) := by decide +kernel
theorem dX1_join_70 : decode cX1_join 70 = .ok (.iconst 1, 1) := by decide +kernel
theorem dX1_join_71 : decode cX1_join 71 = .ok (.iadd, 1) := by decide +kernel
theorem dX1_join_72 : decode cX1_join 72 = .ok (.putfield 64, 3) := by decide +kernel
theorem dX1_join_75 : decode cX1_join 75 = .ok (.aload_n 0, 1) := by decide +kernel
theorem dX1_join_76 : decode cX1_join 76 = .ok (.getfield 31, 3) := by decide +kernel
theorem dX1_join_79 : decode cX1_join 79 = .ok (.iload_n 1, 1) := by decide +kernel
theorem dX1_join_80 : decode cX1_join 80 = .ok (.dup2, 1) := by decide +kernel
theorem dX1_join_81 : decode cX1_join 81 = .ok (.laload, 1) := by decide +kernel
theorem dX1_join_82 : decode cX1_join 82 = .ok (.aload_n 0, 1) := by decide +kernel
theorem dX1_join_83 : decode cX1_join 83 = .ok (.getfield 31, 3) := by decide +kernel
theorem dX1_join_86 : decode cX1_join 86 = .ok (.iload_n 2, 1) := by decide +kernel
theorem dX1_join_87 : decode cX1_join 87 = .ok (.laload, 1) := by decide +kernel
theorem dX1_join_88 : decode cX1_join 88 = .ok (.aload_n 0, 1) := by decide +kernel
theorem dX1_join_89 : decode cX1_join 89 = .ok (.getfield 37, 3) := by decide +kernel
theorem dX1_join_92 : decode cX1_join 92 = .ok (.iload_n 1, 1) := by decide +kernel
theorem dX1_join_93 : decode cX1_join 93 = .ok (.aaload, 1) := by decide +kernel
theorem dX1_join_94 : decode cX1_join 94 = .ok (.iload_n 2, 1) := by decide +kernel
theorem dX1_join_95 : decode cX1_join 95 = .ok (.laload, 1) := by decide +kernel
theorem dX1_join_96 : decode cX1_join 96 = .ok (.ladd, 1) := by decide +kernel
theorem dX1_join_97 : decode cX1_join 97 = .ok (.ladd, 1) := by decide +kernel
theorem dX1_join_98 : decode cX1_join 98 = .ok (.lastore, 1) := by decide +kernel
theorem dX1_join_99 : decode cX1_join 99 = .ok (.aload_n 0, 1) := by decide +kernel
theorem dX1_join_100 : decode cX1_join 100 = .ok (.getfield 28, 3) := by decide +kernel
theorem dX1_join_103 : decode cX1_join 103 = .ok (.iload_n 1, 1) := by decide +kernel
theorem dX1_join_104 : decode cX1_join 104 = .ok (.dup2, 1) := by decide +kernel
theorem dX1_join_105 : decode cX1_join 105 = .ok (.iaload, 1) := by decide +kernel
theorem dX1_join_106 : decode cX1_join 106 = .ok (.aload_n 0, 1) := by decide +kernel
theorem dX1_join_107 : decode cX1_join 107 = .ok (.getfield 28, 3) := by decide +kernel
theorem dX1_join_110 : decode cX1_join 110 = .ok (.iload_n 2, 1) := by decide +kernel
theorem dX1_join_111 : decode cX1_join 111 = .ok (.iaload, 1) := by decide +kernel
theorem dX1_join_112 : decode cX1_join 112 = .ok (.ior, 1) := by decide +kernel
theorem dX1_join_113 : decode cX1_join 113 = .ok (.iastore, 1) := by decide +kernel
theorem dX1_join_114 : decode cX1_join 114 = .ok (.aload_n 0, 1) := by decide +kernel
theorem dX1_join_115 : decode cX1_join 115 = .ok (.getfield 25, 3) := by decide +kernel
theorem dX1_join_118 : decode cX1_join 118 = .ok (.iload_n 1, 1) := by decide +kernel
theorem dX1_join_119 : decode cX1_join 119 = .ok (.aload_n 0, 1) := by decide +kernel
theorem dX1_join_120 : decode cX1_join 120 = .ok (.getfield 55, 3) := by decide +kernel
theorem dX1_join_123 : decode cX1_join 123 = .ok (.iload_n 3, 1) := by decide +kernel
theorem dX1_join_124 : decode cX1_join 124 = .ok (.iadd, 1) := by decide +kernel
theorem dX1_join_125 : decode cX1_join 125 = .ok (.iastore, 1) := by decide +kernel
theorem dX1_join_126 : decode cX1_join 126 = .ok (.aload_n 0, 1) := by decide +kernel
theorem dX1_join_127 : decode cX1_join 127 = .ok (.iload_n 1, 1) := by decide +kernel
theorem dX1_join_128 : decode cX1_join 128 = .ok (.invokevirtual 129, 3) := by decide +kernel
theorem dX1_join_131 : decode cX1_join 131 = .ok (.aload_n 0, 1) := by decide +kernel
theorem dX1_join_132 : decode cX1_join 132 = .ok (.iload_n 2, 1) := by decide +kernel
theorem dX1_join_133 : decode cX1_join 133 = .ok (.invokevirtual 129, 3) := by decide +kernel
theorem dX1_join_136 : decode cX1_join 136 = .ok (.iconst 0, 1) := by decide +kernel
theorem dX1_join_137 : decode cX1_join 137 = .ok (.istore 4, 2) := by decide +kernel
theorem dX1_join_139 : decode cX1_join 139 = .ok (.iload 4, 2) := by decide +kernel
theorem dX1_join_141 : decode cX1_join 141 = .ok (.aload_n 0, 1) := by decide +kernel
theorem dX1_join_142 : decode cX1_join 142 = .ok (.getfield 65, 3) := by decide +kernel
theorem dX1_join_145 : decode cX1_join 145 = .ok (.if_icmp .ge 50, 3) := by decide +kernel
theorem dX1_join_148 : decode cX1_join 148 = .ok (.aload_n 0, 1) := by decide +kernel
theorem dX1_join_149 : decode cX1_join 149 = .ok (.getfield 22, 3) := by decide +kernel
theorem dX1_join_152 : decode cX1_join 152 = .ok (.iload 4, 2) := by decide +kernel
theorem dX1_join_154 : decode cX1_join 154 = .ok (.iaload, 1) := by decide +kernel
theorem dX1_join_155 : decode cX1_join 155 = .ok (.istore 5, 2) := by decide +kernel
theorem dX1_join_157 : decode cX1_join 157 = .ok (.aload_n 0, 1) := by decide +kernel
theorem dX1_join_158 : decode cX1_join 158 = .ok (.iload_n 1, 1) := by decide +kernel
theorem dX1_join_159 : decode cX1_join 159 = .ok (.iload 5, 2) := by decide +kernel
theorem dX1_join_161 : decode cX1_join 161 = .ok (.aload_n 0, 1) := by decide +kernel
theorem dX1_join_162 : decode cX1_join 162 = .ok (.getfield 58, 3) := by decide +kernel
theorem dX1_join_165 : decode cX1_join 165 = .ok (.aload_n 0, 1) := by decide +kernel
theorem dX1_join_166 : decode cX1_join 166 = .ok (.getfield 37, 3) := by decide +kernel
theorem dX1_join_169 : decode cX1_join 169 = .ok (.iload_n 1, 1) := by decide +kernel
theorem dX1_join_170 : decode cX1_join 170 = .ok (.aaload, 1) := by decide +kernel
theorem dX1_join_171 : decode cX1_join 171 = .ok (.iload 5, 2) := by decide +kernel
theorem dX1_join_173 : decode cX1_join 173 = .ok (.laload, 1) := by decide +kernel
theorem dX1_join_174 : decode cX1_join 174 = .ok (.aload_n 0, 1) := by decide +kernel
theorem dX1_join_175 : decode cX1_join 175 = .ok (.getfield 37, 3) := by decide +kernel
theorem dX1_join_178 : decode cX1_join 178 = .ok (.iload_n 2, 1) := by decide +kernel
theorem dX1_join_179 : decode cX1_join 179 = .ok (.aaload, 1) := by decide +kernel
theorem dX1_join_180 : decode cX1_join 180 = .ok (.iload 5, 2) := by decide +kernel
theorem dX1_join_182 : decode cX1_join 182 = .ok (.laload, 1) := by decide +kernel
theorem dX1_join_183 : decode cX1_join 183 = .ok (.invokestatic 133, 3) := by decide +kernel
theorem dX1_join_186 : decode cX1_join 186 = .ok (.invokevirtual 79, 3) := by decide +kernel
theorem dX1_join_189 : decode cX1_join 189 = .ok (.iinc 4 1, 3) := by decide +kernel
theorem dX1_join_192 : decode cX1_join 192 = .ok (.goto (-53), 3) := by decide +kernel
theorem dX1_join_195 : decode cX1_join 195 = .ok (.aload_n 0, 1) := by decide +kernel
theorem dX1_join_196 : decode cX1_join 196 = .ok (.getfield 22, 3) := by decide +kernel
theorem dX1_join_199 : decode cX1_join 199 = .ok (.aload_n 0, 1) := by decide +kernel
theorem dX1_join_200 : decode cX1_join 200 = .ok (.getfield 65, 3) := by decide +kernel
theorem dX1_join_203 : decode cX1_join 203 = .ok (.iload_n 1, 1) := by decide +kernel
theorem dX1_join_204 : decode cX1_join 204 = .ok (.iastore, 1) := by decide +kernel
theorem dX1_join_205 : decode cX1_join 205 = .ok (.aload_n 0, 1) := by decide +kernel
theorem dX1_join_206 : decode cX1_join 206 = .ok (.dup, 1) := by decide +kernel
theorem dX1_join_207 : decode cX1_join 207 = .ok (.getfield 65, 3) := by decide +kernel
theorem dX1_join_210 : decode cX1_join 210 = .ok (.iconst 1, 1) := by decide +kernel
theorem dX1_join_211 : decode cX1_join 211 = .ok (.iadd, 1) := by decide +kernel
theorem dX1_join_212 : decode cX1_join 212 = .ok (.putfield 65, 3) := by decide +kernel
theorem dX1_join_215 : decode cX1_join 215 = .ok (.return_, 1) := by decide +kernel
theorem dX1_leave_0 : decode cX1_leave 0 = .ok (.iconst 0, 1) := by decide +kernel
theorem dX1_leave_1 : decode cX1_leave 1 = .ok (.istore_n 2, 1) := by decide +kernel
theorem dX1_leave_2 : decode cX1_leave 2 = .ok (.iconst 0, 1) := by decide +kernel
theorem dX1_leave_3 : decode cX1_leave 3 = .ok (.istore_n 3, 1) := by decide +kernel
theorem dX1_leave_4 : decode cX1_leave 4 = .ok (.iload_n 3, 1) := by decide +kernel
theorem dX1_leave_5 : decode cX1_leave 5 = .ok (.aload_n 0, 1) := by decide +kernel
theorem dX1_leave_6 : decode cX1_leave 6 = .ok (.getfield 65, 3) := by decide +kernel
theorem dX1_leave_9 : decode cX1_leave 9 = .ok (.if_icmp .ge 34, 3) := by decide +kernel
theorem dX1_leave_12 : decode cX1_leave 12 = .ok (.aload_n 0, 1) := by decide +kernel
theorem dX1_leave_13 : decode cX1_leave 13 = .ok (.getfield 22, 3) := by decide +kernel
theorem dX1_leave_16 : decode cX1_leave 16 = .ok (.iload_n 3, 1) := by decide +kernel
theorem dX1_leave_17 : decode cX1_leave 17 = .ok (.iaload, 1) := by decide +kernel
theorem dX1_leave_18 : decode cX1_leave 18 = .ok (.iload_n 1, 1) := by decide +kernel
theorem dX1_leave_19 : decode cX1_leave 19 = .ok (.if_icmp .eq 18, 3) := by decide +kernel
theorem dX1_leave_22 : decode cX1_leave 22 = .ok (.aload_n 0, 1) := by decide +kernel
theorem dX1_leave_23 : decode cX1_leave 23 = .ok (.getfield 22, 3) := by decide +kernel
theorem dX1_leave_26 : decode cX1_leave 26 = .ok (.iload_n 2, 1) := by decide +kernel
theorem dX1_leave_27 : decode cX1_leave 27 = .ok (.aload_n 0, 1) := by decide +kernel
theorem dX1_leave_28 : decode cX1_leave 28 = .ok (.getfield 22, 3) := by decide +kernel
theorem dX1_leave_31 : decode cX1_leave 31 = .ok (.iload_n 3, 1) := by decide +kernel
theorem dX1_leave_32 : decode cX1_leave 32 = .ok (.iaload, 1) := by decide +kernel
theorem dX1_leave_33 : decode cX1_leave 33 = .ok (.iastore, 1) := by decide +kernel
theorem dX1_leave_34 : decode cX1_leave 34 = .ok (.iinc 2 1, 3) := by decide +kernel
theorem dX1_leave_37 : decode cX1_leave 37 = .ok (.iinc 3 1, 3) := by decide +kernel
theorem dX1_leave_40 : decode cX1_leave 40 = .ok (.goto (-36), 3) := by decide +kernel
theorem dX1_leave_43 : decode cX1_leave 43 = .ok (.aload_n 0, 1) := by decide +kernel
theorem dX1_leave_44 : decode cX1_leave 44 = .ok (.iload_n 2, 1) := by decide +kernel
theorem dX1_leave_45 : decode cX1_leave 45 = .ok (.putfield 65, 3) := by decide +kernel
theorem dX1_leave_48 : decode cX1_leave 48 = .ok (.return_, 1) := by decide +kernel
theorem dX1_deliver_0 : decode cX1_deliver 0 = .ok (.aload_n 1, 1) := by decide +kernel
theorem dX1_deliver_1 : decode cX1_deliver 1 = .ok (.iconst 1, 1) := by decide +kernel
theorem dX1_deliver_2 : decode cX1_deliver 2 = .ok (.putfield 137, 3) := by decide +kernel
theorem dX1_deliver_5 : decode cX1_deliver 5 = .ok (.aload_n 1, 1) := by decide +kernel
theorem dX1_deliver_6 : decode cX1_deliver 6 = .ok (.iload_n 2, 1) := by decide +kernel
theorem dX1_deliver_7 : decode cX1_deliver 7 = .ok (.putfield 142, 3) := by decide +kernel
theorem dX1_deliver_10 : decode cX1_deliver 10 = .ok (.aload_n 1, 1) := by decide +kernel
theorem dX1_deliver_11 : decode cX1_deliver 11 = .ok (.aload_n 0, 1) := by decide +kernel
theorem dX1_deliver_12 : decode cX1_deliver 12 = .ok (.getfield 55, 3) := by decide +kernel
theorem dX1_deliver_15 : decode cX1_deliver 15 = .ok (.putfield 145, 3) := by decide +kernel
theorem dX1_deliver_18 : decode cX1_deliver 18 = .ok (.aload_n 1, 1) := by decide +kernel
theorem dX1_deliver_19 : decode cX1_deliver 19 = .ok (.aload_n 0, 1) := by decide +kernel
theorem dX1_deliver_20 : decode cX1_deliver 20 = .ok (.getfield 58, 3) := by decide +kernel
theorem dX1_deliver_23 : decode cX1_deliver 23 = .ok (.putfield 146, 3) := by decide +kernel
theorem dX1_deliver_26 : decode cX1_deliver 26 = .ok (.aload_n 1, 1) := by decide +kernel
theorem dX1_deliver_27 : decode cX1_deliver 27 = .ok (.aload_n 0, 1) := by decide +kernel
theorem dX1_deliver_28 : decode cX1_deliver 28 = .ok (.getfield 61, 3) := by decide +kernel
theorem dX1_deliver_31 : decode cX1_deliver 31 = .ok (.putfield 147, 3) := by decide +kernel
theorem dX1_deliver_34 : decode cX1_deliver 34 = .ok (.aload_n 1, 1) := by decide +kernel
theorem dX1_deliver_35 : decode cX1_deliver 35 = .ok (.getfield 148, 3) := by decide +kernel
theorem dX1_deliver_38 : decode cX1_deliver 38 = .ok (.aload_n 0, 1) := by decide +kernel
theorem dX1_deliver_39 : decode cX1_deliver 39 = .ok (.getfield 12, 3) := by decide +kernel
theorem dX1_deliver_42 : decode cX1_deliver 42 = .ok (.getfield 64, 3) := by decide +kernel
theorem dX1_deliver_45 : decode cX1_deliver 45 = .ok (.putfield 64, 3) := by decide +kernel
theorem dX1_deliver_48 : decode cX1_deliver 48 = .ok (.iconst 0, 1) := by decide +kernel
theorem dX1_deliver_49 : decode cX1_deliver 49 = .ok (.istore_n 3, 1) := by decide +kernel
theorem dX1_deliver_50 : decode cX1_deliver 50 = .ok (.iload_n 3, 1) := by decide +kernel
theorem dX1_deliver_51 : decode cX1_deliver 51 = .ok (.aload_n 0, 1) := by decide +kernel
theorem dX1_deliver_52 : decode cX1_deliver 52 = .ok (.getfield 12, 3) := by decide +kernel
theorem dX1_deliver_55 : decode cX1_deliver 55 = .ok (.getfield 64, 3) := by decide +kernel
theorem dX1_deliver_58 : decode cX1_deliver 58 = .ok (.if_icmp .ge 31, 3) := by decide +kernel
theorem dX1_deliver_61 : decode cX1_deliver 61 = .ok (.aload_n 0, 1) := by decide +kernel
theorem dX1_deliver_62 : decode cX1_deliver 62 = .ok (.getfield 18, 3) := by decide +kernel
theorem dX1_deliver_65 : decode cX1_deliver 65 = .ok (.iload_n 3, 1) := by decide +kernel
theorem dX1_deliver_66 : decode cX1_deliver 66 = .ok (.iload_n 2, 1) := by decide +kernel
theorem dX1_deliver_67 : decode cX1_deliver 67 = .ok (.ifCond .eq 14, 3) := by decide +kernel
theorem dX1_deliver_70 : decode cX1_deliver 70 = .ok (.aload_n 0, 1) := by decide +kernel
theorem dX1_deliver_71 : decode cX1_deliver 71 = .ok (.getfield 12, 3) := by decide +kernel
theorem dX1_deliver_74 : decode cX1_deliver 74 = .ok (.iload_n 3, 1) := by decide +kernel
theorem dX1_deliver_75 : decode cX1_deliver 75 = .ok (.invokevirtual 151, 3) := by decide +kernel
theorem dX1_deliver_78 : decode cX1_deliver 78 = .ok (.goto 4, 3) := by decide +kernel
theorem dX1_deliver_81 : decode cX1_deliver 81 = .ok (.iload_n 3, 1) := by decide +kernel
theorem dX1_deliver_82 : decode cX1_deliver 82 = .ok (.iastore, 1) := by decide +kernel
theorem dX1_deliver_83 : decode cX1_deliver 83 = .ok (.iinc 3 1, 3) := by decide +kernel
theorem dX1_deliver_86 : decode cX1_deliver 86 = .ok (.goto (-36), 3) := by decide +kernel
theorem dX1_deliver_89 : decode cX1_deliver 89 = .ok (.iconst 0, 1) := by decide +kernel
theorem dX1_deliver_90 : decode cX1_deliver 90 = .ok (.istore_n 3, 1) := by decide +kernel
theorem dX1_deliver_91 : decode cX1_deliver 91 = .ok (.iload_n 3, 1) := by decide +kernel
theorem dX1_deliver_92 : decode cX1_deliver 92 = .ok (.aload_n 0, 1) := by decide +kernel
theorem dX1_deliver_93 : decode cX1_deliver 93 = .ok (.getfield 12, 3) := by decide +kernel
theorem dX1_deliver_96 : decode cX1_deliver 96 = .ok (.getfield 64, 3) := by decide +kernel
theorem dX1_deliver_99 : decode cX1_deliver 99 = .ok (.if_icmp .ge 88, 3) := by decide +kernel
theorem dX1_deliver_102 : decode cX1_deliver 102 = .ok (.aload_n 1, 1) := by decide +kernel
theorem dX1_deliver_103 : decode cX1_deliver 103 = .ok (.getfield 148, 3) := by decide +kernel
theorem dX1_deliver_106 : decode cX1_deliver 106 = .ok (.aload_n 0, 1) := by decide +kernel
theorem dX1_deliver_107 : decode cX1_deliver 107 = .ok (.getfield 18, 3) := by decide +kernel
theorem dX1_deliver_110 : decode cX1_deliver 110 = .ok (.iload_n 3, 1) := by decide +kernel
theorem dX1_deliver_111 : decode cX1_deliver 111 = .ok (.iaload, 1) := by decide +kernel
theorem dX1_deliver_112 : decode cX1_deliver 112 = .ok (.aload_n 0, 1) := by decide +kernel
theorem dX1_deliver_113 : decode cX1_deliver 113 = .ok (.aload_n 0, 1) := by decide +kernel
theorem dX1_deliver_114 : decode cX1_deliver 114 = .ok (.getfield 12, 3) := by decide +kernel
theorem dX1_deliver_117 : decode cX1_deliver 117 = .ok (.getfield 154, 3) := by decide +kernel
theorem dX1_deliver_120 : decode cX1_deliver 120 = .ok (.iload_n 3, 1) := by decide +kernel
theorem dX1_deliver_121 : decode cX1_deliver 121 = .ok (.iaload, 1) := by decide +kernel
theorem dX1_deliver_122 : decode cX1_deliver 122 = .ok (.invokevirtual 157, 3) := by decide +kernel
theorem dX1_deliver_125 : decode cX1_deliver 125 = .ok (.aload_n 0, 1) := by decide +kernel
theorem dX1_deliver_126 : decode cX1_deliver 126 = .ok (.aload_n 0, 1) := by decide +kernel
theorem dX1_deliver_127 : decode cX1_deliver 127 = .ok (.getfield 12, 3) := by decide +kernel
theorem dX1_deliver_130 : decode cX1_deliver 130 = .ok (.getfield 160, 3) := by decide +kernel
theorem dX1_deliver_133 : decode cX1_deliver 133 = .ok (.iload_n 3, 1) := by decide +kernel
theorem dX1_deliver_134 : decode cX1_deliver 134 = .ok (.iaload, 1) := by decide +kernel
theorem dX1_deliver_135 : decode cX1_deliver 135 = .ok (.invokevirtual 157, 3) := by decide +kernel
theorem dX1_deliver_138 : decode cX1_deliver 138 = .ok (.aload_n 0, 1) := by decide +kernel
theorem dX1_deliver_139 : decode cX1_deliver 139 = .ok (.getfield 12, 3) := by decide +kernel
theorem dX1_deliver_142 : decode cX1_deliver 142 = .ok (.getfield 163, 3) := by decide +kernel
theorem dX1_deliver_145 : decode cX1_deliver 145 = .ok (.iload_n 3, 1) := by decide +kernel
theorem dX1_deliver_146 : decode cX1_deliver 146 = .ok (.iaload, 1) := by decide +kernel
theorem dX1_deliver_147 : decode cX1_deliver 147 = .ok (.invokevirtual 121, 3) := by decide +kernel
theorem dX1_deliver_150 : decode cX1_deliver 150 = .ok (.aload_n 1, 1) := by decide +kernel
theorem dX1_deliver_151 : decode cX1_deliver 151 = .ok (.getfield 148, 3) := by decide +kernel
theorem dX1_deliver_154 : decode cX1_deliver 154 = .ok (.aload_n 0, 1) := by decide +kernel
theorem dX1_deliver_155 : decode cX1_deliver 155 = .ok (.getfield 18, 3) := by decide +kernel
theorem dX1_deliver_158 : decode cX1_deliver 158 = .ok (.iload_n 3, 1) := by decide +kernel
theorem dX1_deliver_159 : decode cX1_deliver 159 = .ok (.iaload, 1) := by decide +kernel
theorem dX1_deliver_160 : decode cX1_deliver 160 = .ok (.aload_n 0, 1) := by decide +kernel
theorem dX1_deliver_161 : decode cX1_deliver 161 = .ok (.getfield 12, 3) := by decide +kernel
theorem dX1_deliver_164 : decode cX1_deliver 164 = .ok (.getfield 164, 3) := by decide +kernel
theorem dX1_deliver_167 : decode cX1_deliver 167 = .ok (.iload_n 3, 1) := by decide +kernel
theorem dX1_deliver_168 : decode cX1_deliver 168 = .ok (.laload, 1) := by decide +kernel
theorem dX1_deliver_169 : decode cX1_deliver 169 = .ok (.aload_n 0, 1) := by decide +kernel
theorem dX1_deliver_170 : decode cX1_deliver 170 = .ok (.getfield 12, 3) := by decide +kernel
theorem dX1_deliver_173 : decode cX1_deliver 173 = .ok (.getfield 166, 3) := by decide +kernel
theorem dX1_deliver_176 : decode cX1_deliver 176 = .ok (.iload_n 3, 1) := by decide +kernel
theorem dX1_deliver_177 : decode cX1_deliver 177 = .ok (.laload, 1) := by decide +kernel
theorem dX1_deliver_178 : decode cX1_deliver 178 = .ok (.invokevirtual 125, 3) := by decide +kernel
theorem dX1_deliver_181 : decode cX1_deliver 181 = .ok (.iinc 3 1, 3) := by decide +kernel
theorem dX1_deliver_184 : decode cX1_deliver 184 = .ok (.goto (-93), 3) := by decide +kernel
theorem dX1_deliver_187 : decode cX1_deliver 187 = .ok (.iconst 0, 1) := by decide +kernel
theorem dX1_deliver_188 : decode cX1_deliver 188 = .ok (.istore_n 3, 1) := by decide +kernel
theorem dX1_deliver_189 : decode cX1_deliver 189 = .ok (.iload_n 3, 1) := by decide +kernel
theorem dX1_deliver_190 : decode cX1_deliver 190 = .ok (.bipush 20, 2) := by decide +kernel
theorem dX1_deliver_192 : decode cX1_deliver 192 = .ok (.if_icmp .ge 16, 3) := by decide +kernel
theorem dX1_deliver_195 : decode cX1_deliver 195 = .ok (.aload_n 1, 1) := by decide +kernel
theorem dX1_deliver_196 : decode cX1_deliver 196 = .ok (.getfield 168, 3) := by decide +kernel
theorem dX1_deliver_199 : decode cX1_deliver 199 = .ok (.iload_n 3, 1) := by decide +kernel
theorem dX1_deliver_200 : decode cX1_deliver 200 = .ok (.iconst 0, 1) := by decide +kernel
theorem dX1_deliver_201 : decode cX1_deliver 201 = .ok (.iastore, 1) := by decide +kernel
theorem dX1_deliver_202 : decode cX1_deliver 202 = .ok (.iinc 3 1, 3) := by decide +kernel
theorem dX1_deliver_205 : decode cX1_deliver 205 = .ok (.goto (-16), 3) := by decide +kernel
theorem dX1_deliver_208 : decode cX1_deliver 208 = .ok (.return_, 1) := by decide +kernel
theorem dX1_renumbered_0 : decode cX1_renumbered 0 = .ok (.aload_n 0, 1) := by decide +kernel
theorem dX1_renumbered_1 : decode cX1_renumbered 1 = .ok (.getfield 12, 3) := by decide +kernel
theorem dX1_renumbered_4 : decode cX1_renumbered 4 = .ok (.iload_n 1, 1) := by decide +kernel
theorem dX1_renumbered_5 : decode cX1_renumbered 5 = .ok (.aload_n 0, 1) := by decide +kernel
theorem dX1_renumbered_6 : decode cX1_renumbered 6 = .ok (.getfield 55, 3) := by decide +kernel
theorem dX1_renumbered_9 : decode cX1_renumbered 9 = .ok (.isub, 1) := by decide +kernel
theorem dX1_renumbered_10 : decode cX1_renumbered 10 = .ok (.invokevirtual 171, 3) := by decide +kernel
theorem dX1_renumbered_13 : decode cX1_renumbered 13 = .ok (.ifCond .eq 22, 3) := by decide +kernel
theorem dX1_renumbered_16 : decode cX1_renumbered 16 = .ok (.aload_n 0, 1) := by decide +kernel
theorem dX1_renumbered_17 : decode cX1_renumbered 17 = .ok (.getfield 55, 3) := by decide +kernel
theorem dX1_renumbered_20 : decode cX1_renumbered 20 = .ok (.aload_n 0, 1) := by decide +kernel
theorem dX1_renumbered_21 : decode cX1_renumbered 21 = .ok (.getfield 18, 3) := by decide +kernel
theorem dX1_renumbered_24 : decode cX1_renumbered 24 = .ok (.iload_n 1, 1) := by decide +kernel
theorem dX1_renumbered_25 : decode cX1_renumbered 25 = .ok (.aload_n 0, 1) := by decide +kernel
theorem dX1_renumbered_26 : decode cX1_renumbered 26 = .ok (.getfield 55, 3) := by decide +kernel
theorem dX1_renumbered_29 : decode cX1_renumbered 29 = .ok (.isub, 1) := by decide +kernel
theorem dX1_renumbered_30 : decode cX1_renumbered 30 = .ok (.iaload, 1) := by decide +kernel
theorem dX1_renumbered_31 : decode cX1_renumbered 31 = .ok (.iadd, 1) := by decide +kernel
theorem dX1_renumbered_32 : decode cX1_renumbered 32 = .ok (.goto 4, 3) := by decide +kernel
theorem dX1_renumbered_35 : decode cX1_renumbered 35 = .ok (.iload_n 1, 1) := by decide +kernel
theorem dX1_renumbered_36 : decode cX1_renumbered 36 = .ok (.ireturn, 1) := by decide +kernel
end
section
theorem dX2_coreOfPoints_0 : decode cX2_coreOfPoints 0 = .ok (.iload_n 0, 1) := by decide +kernel
theorem dX2_coreOfPoints_1 : decode cX2_coreOfPoints 1 = .ok (.iconst 4, 1) := by decide +kernel
theorem dX2_coreOfPoints_2 : decode cX2_coreOfPoints 2 = .ok (.if_icmp .ne 12, 3) := by decide +kernel
theorem dX2_coreOfPoints_5 : decode cX2_coreOfPoints 5 = .ok (.iload_n 1, 1) := by decide +kernel
theorem dX2_coreOfPoints_6 : decode cX2_coreOfPoints 6 = .ok (.i2l, 1) := by decide +kernel
theorem dX2_coreOfPoints_7 : decode cX2_coreOfPoints 7 = .ok (.ldc2_w 9, 3) := by decide +kernel
theorem dX2_coreOfPoints_10 : decode cX2_coreOfPoints 10 = .ok (.lmul, 1) := by decide +kernel
theorem dX2_coreOfPoints_11 : decode cX2_coreOfPoints 11 = .ok (.goto 5, 3) := by decide +kernel
theorem dX2_coreOfPoints_14 : decode cX2_coreOfPoints 14 = .ok (.iload_n 1, 1) := by decide +kernel
theorem dX2_coreOfPoints_15 : decode cX2_coreOfPoints 15 = .ok (.i2l, 1) := by decide +kernel
theorem dX2_coreOfPoints_16 : decode cX2_coreOfPoints 16 = .ok (.lreturn, 1) := by decide +kernel
theorem dX2_carriedOn_0 : decode cX2_carriedOn 0 = .ok (.iload_n 0, 1) := by decide +kernel
theorem dX2_carriedOn_1 : decode cX2_carriedOn 1 = .ok (.tableswitch 55 0 4 #[35, 41, 55, 55, 47], 35) := by decide +kernel
theorem dX2_carriedOn_36 : decode cX2_carriedOn 36 = .ok (.lload_n 1, 1) := by decide +kernel
theorem dX2_carriedOn_37 : decode cX2_carriedOn 37 = .ok (.lload_n 3, 1) := by decide +kernel
theorem dX2_carriedOn_38 : decode cX2_carriedOn 38 = .ok (.invokestatic 11, 3) := by decide +kernel
theorem dX2_carriedOn_41 : decode cX2_carriedOn 41 = .ok (.lreturn, 1) := by decide +kernel
theorem dX2_carriedOn_42 : decode cX2_carriedOn 42 = .ok (.lload_n 1, 1) := by decide +kernel
theorem dX2_carriedOn_43 : decode cX2_carriedOn 43 = .ok (.lload_n 3, 1) := by decide +kernel
theorem dX2_carriedOn_44 : decode cX2_carriedOn 44 = .ok (.invokestatic 17, 3) := by decide +kernel
theorem dX2_carriedOn_47 : decode cX2_carriedOn 47 = .ok (.lreturn, 1) := by decide +kernel
theorem dX2_carriedOn_48 : decode cX2_carriedOn 48 = .ok (.lload_n 1, 1) := by decide +kernel
theorem dX2_carriedOn_49 : decode cX2_carriedOn 49 = .ok (.lload_n 3, 1) := by decide +kernel
theorem dX2_carriedOn_50 : decode cX2_carriedOn 50 = .ok (.ladd, 1) := by decide +kernel
theorem dX2_carriedOn_51 : decode cX2_carriedOn 51 = .ok (.ldc2_w 20, 3) := by decide +kernel
theorem dX2_carriedOn_54 : decode cX2_carriedOn 54 = .ok (.ldiv, 1) := by decide +kernel
theorem dX2_carriedOn_55 : decode cX2_carriedOn 55 = .ok (.lreturn, 1) := by decide +kernel
theorem dX2_carriedOn_56 : decode cX2_carriedOn 56 = .ok (.lload_n 1, 1) := by decide +kernel
theorem dX2_carriedOn_57 : decode cX2_carriedOn 57 = .ok (.lload_n 3, 1) := by decide +kernel
theorem dX2_carriedOn_58 : decode cX2_carriedOn 58 = .ok (.ladd, 1) := by decide +kernel
theorem dX2_carriedOn_59 : decode cX2_carriedOn 59 = .ok (.lreturn, 1) := by decide +kernel
theorem dX2_wardTop_0 : decode cX2_wardTop 0 = .ok (.ldc2_w 20, 3) := by decide +kernel
theorem dX2_wardTop_3 : decode cX2_wardTop 3 = .ok (.iload_n 2, 1) := by decide +kernel
theorem dX2_wardTop_4 : decode cX2_wardTop 4 = .ok (.iload_n 3, 1) := by decide +kernel
theorem dX2_wardTop_5 : decode cX2_wardTop 5 = .ok (.imul, 1) := by decide +kernel
theorem dX2_wardTop_6 : decode cX2_wardTop 6 = .ok (.i2l, 1) := by decide +kernel
theorem dX2_wardTop_7 : decode cX2_wardTop 7 = .ok (.lload_n 0, 1) := by decide +kernel
theorem dX2_wardTop_8 : decode cX2_wardTop 8 = .ok (.lmul, 1) := by decide +kernel
theorem dX2_wardTop_9 : decode cX2_wardTop 9 = .ok (.iload_n 3, 1) := by decide +kernel
theorem dX2_wardTop_10 : decode cX2_wardTop 10 = .ok (.iload_n 3, 1) := by decide +kernel
theorem dX2_wardTop_11 : decode cX2_wardTop 11 = .ok (.imul, 1) := by decide +kernel
theorem dX2_wardTop_12 : decode cX2_wardTop 12 = .ok (.i2l, 1) := by decide +kernel
theorem dX2_wardTop_13 : decode cX2_wardTop 13 = .ok (.lload 4, 2) := by decide +kernel
theorem dX2_wardTop_15 : decode cX2_wardTop 15 = .ok (.lmul, 1) := by decide +kernel
theorem dX2_wardTop_16 : decode cX2_wardTop 16 = .ok (.lsub, 1) := by decide +kernel
theorem dX2_wardTop_17 : decode cX2_wardTop 17 = .ok (.iload_n 2, 1) := by decide +kernel
theorem dX2_wardTop_18 : decode cX2_wardTop 18 = .ok (.iload_n 2, 1) := by decide +kernel
theorem dX2_wardTop_19 : decode cX2_wardTop 19 = .ok (.imul, 1) := by decide +kernel
theorem dX2_wardTop_20 : decode cX2_wardTop 20 = .ok (.i2l, 1) := by decide +kernel
theorem dX2_wardTop_21 : decode cX2_wardTop 21 = .ok (.lload 6, 2) := by decide +kernel
theorem dX2_wardTop_23 : decode cX2_wardTop 23 = .ok (.lmul, 1) := by decide +kernel
theorem dX2_wardTop_24 : decode cX2_wardTop 24 = .ok (.lsub, 1) := by decide +kernel
theorem dX2_wardTop_25 : decode cX2_wardTop 25 = .ok (.lmul, 1) := by decide +kernel
theorem dX2_wardTop_26 : decode cX2_wardTop 26 = .ok (.lreturn, 1) := by decide +kernel
theorem dX2_bottomOf_0 : decode cX2_bottomOf 0 = .ok (.iload_n 0, 1) := by decide +kernel
theorem dX2_bottomOf_1 : decode cX2_bottomOf 1 = .ok (.tableswitch 45 2 4 #[27, 32, 41], 27) := by decide +kernel
theorem dX2_bottomOf_28 : decode cX2_bottomOf 28 = .ok (.iload_n 1, 1) := by decide +kernel
theorem dX2_bottomOf_29 : decode cX2_bottomOf 29 = .ok (.iload_n 2, 1) := by decide +kernel
theorem dX2_bottomOf_30 : decode cX2_bottomOf 30 = .ok (.imul, 1) := by decide +kernel
theorem dX2_bottomOf_31 : decode cX2_bottomOf 31 = .ok (.i2l, 1) := by decide +kernel
theorem dX2_bottomOf_32 : decode cX2_bottomOf 32 = .ok (.lreturn, 1) := by decide +kernel
theorem dX2_bottomOf_33 : decode cX2_bottomOf 33 = .ok (.iload_n 1, 1) := by decide +kernel
theorem dX2_bottomOf_34 : decode cX2_bottomOf 34 = .ok (.iload_n 2, 1) := by decide +kernel
theorem dX2_bottomOf_35 : decode cX2_bottomOf 35 = .ok (.imul, 1) := by decide +kernel
theorem dX2_bottomOf_36 : decode cX2_bottomOf 36 = .ok (.iload_n 1, 1) := by decide +kernel
theorem dX2_bottomOf_37 : decode cX2_bottomOf 37 = .ok (.iload_n 2, 1) := by decide +kernel
theorem dX2_bottomOf_38 : decode cX2_bottomOf 38 = .ok (.iadd, 1) := by decide +kernel
theorem dX2_bottomOf_39 : decode cX2_bottomOf 39 = .ok (.imul, 1) := by decide +kernel
theorem dX2_bottomOf_40 : decode cX2_bottomOf 40 = .ok (.i2l, 1) := by decide +kernel
theorem dX2_bottomOf_41 : decode cX2_bottomOf 41 = .ok (.lreturn, 1) := by decide +kernel
theorem dX2_bottomOf_42 : decode cX2_bottomOf 42 = .ok (.ldc2_w 9, 3) := by decide +kernel
theorem dX2_bottomOf_45 : decode cX2_bottomOf 45 = .ok (.lreturn, 1) := by decide +kernel
theorem dX2_bottomOf_46 : decode cX2_bottomOf 46 = .ok (.lconst 1, 1) := by decide +kernel
theorem dX2_bottomOf_47 : decode cX2_bottomOf 47 = .ok (.lreturn, 1) := by decide +kernel
end
section
theorem dX3_init_0 : decode cX3_init 0 = .ok (.aload_n 0, 1) := by decide +kernel
theorem dX3_init_1 : decode cX3_init 1 = .ok (.invokespecial 3, 3) := by decide +kernel
theorem dX3_init_4 : decode cX3_init 4 = .ok (.aload_n 0, 1) := by decide +kernel
theorem dX3_init_5 : decode cX3_init 5 = .ok (.bipush 20, 2) := by decide +kernel
theorem dX3_init_7 : decode cX3_init 7 = .ok (.bipush 20, 2) := by decide +kernel
theorem dX3_init_9 : decode cX3_init 9 = .ok (.multianewarray 9 2, 4) := by decide +kernel
theorem dX3_init_13 : decode cX3_init 13 = .ok (.putfield 11, 3) := by decide +kernel
theorem dX3_init_16 : decode cX3_init 16 = .ok (.aload_n 0, 1) := by decide +kernel
theorem dX3_init_17 : decode cX3_init 17 = .ok (.bipush 20, 2) := by decide +kernel
theorem dX3_init_19 : decode cX3_init 19 = .ok (.newarray .int, 2) := by decide +kernel
theorem dX3_init_21 : decode cX3_init 21 = .ok (.putfield 16, 3) := by decide +kernel
theorem dX3_init_24 : decode cX3_init 24 = .ok (.aload_n 0, 1) := by decide +kernel
theorem dX3_init_25 : decode cX3_init 25 = .ok (.bipush 20, 2) := by decide +kernel
theorem dX3_init_27 : decode cX3_init 27 = .ok (.newarray .int, 2) := by decide +kernel
theorem dX3_init_29 : decode cX3_init 29 = .ok (.putfield 20, 3) := by decide +kernel
theorem dX3_init_32 : decode cX3_init 32 = .ok (.return_, 1) := by decide +kernel
theorem dX3_has_0 : decode cX3_has 0 = .ok (.iload_n 1, 1) := by decide +kernel
theorem dX3_has_1 : decode cX3_has 1 = .ok (.ifCond .lt 15, 3) := by decide +kernel
theorem dX3_has_4 : decode cX3_has 4 = .ok (.iload_n 1, 1) := by decide +kernel
theorem dX3_has_5 : decode cX3_has 5 = .ok (.aload_n 0, 1) := by decide +kernel
theorem dX3_has_6 : decode cX3_has 6 = .ok (.getfield 23, 3) := by decide +kernel
theorem dX3_has_9 : decode cX3_has 9 = .ok (.if_icmp .ge 7, 3) := by decide +kernel
theorem dX3_has_12 : decode cX3_has 12 = .ok (.iconst 1, 1) := by decide +kernel
theorem dX3_has_13 : decode cX3_has 13 = .ok (.goto 4, 3) := by decide +kernel
theorem dX3_has_16 : decode cX3_has 16 = .ok (.iconst 0, 1) := by decide +kernel
theorem dX3_has_17 : decode cX3_has 17 = .ok (.ireturn, 1) := by decide +kernel
theorem dX3_allBits_0 : decode cX3_allBits 0 = .ok (.iconst 1, 1) := by decide +kernel
theorem dX3_allBits_1 : decode cX3_allBits 1 = .ok (.aload_n 0, 1) := by decide +kernel
theorem dX3_allBits_2 : decode cX3_allBits 2 = .ok (.getfield 23, 3) := by decide +kernel
theorem dX3_allBits_5 : decode cX3_allBits 5 = .ok (.ishl, 1) := by decide +kernel
theorem dX3_allBits_6 : decode cX3_allBits 6 = .ok (.iconst 1, 1) := by decide +kernel
theorem dX3_allBits_7 : decode cX3_allBits 7 = .ok (.isub, 1) := by decide +kernel
theorem dX3_allBits_8 : decode cX3_allBits 8 = .ok (.ireturn, 1) := by decide +kernel
theorem dX3_startAnew_0 : decode cX3_startAnew 0 = .ok (.aload_n 0, 1) := by decide +kernel
theorem dX3_startAnew_1 : decode cX3_startAnew 1 = .ok (.iload_n 1, 1) := by decide +kernel
theorem dX3_startAnew_2 : decode cX3_startAnew 2 = .ok (.putfield 23, 3) := by decide +kernel
theorem dX3_startAnew_5 : decode cX3_startAnew 5 = .ok (.iconst 0, 1) := by decide +kernel
theorem dX3_startAnew_6 : decode cX3_startAnew 6 = .ok (.istore_n 2, 1) := by decide +kernel
theorem dX3_startAnew_7 : decode cX3_startAnew 7 = .ok (.iload_n 2, 1) := by decide +kernel
theorem dX3_startAnew_8 : decode cX3_startAnew 8 = .ok (.bipush 20, 2) := by decide +kernel
theorem dX3_startAnew_10 : decode cX3_startAnew 10 = .ok (.if_icmp .ge 46, 3) := by decide +kernel
theorem dX3_startAnew_13 : decode cX3_startAnew 13 = .ok (.aload_n 0, 1) := by decide +kernel
theorem dX3_startAnew_14 : decode cX3_startAnew 14 = .ok (.getfield 16, 3) := by decide +kernel
theorem dX3_startAnew_17 : decode cX3_startAnew 17 = .ok (.iload_n 2, 1) := by decide +kernel
theorem dX3_startAnew_18 : decode cX3_startAnew 18 = .ok (.iconst 0, 1) := by decide +kernel
theorem dX3_startAnew_19 : decode cX3_startAnew 19 = .ok (.iastore, 1) := by decide +kernel
theorem dX3_startAnew_20 : decode cX3_startAnew 20 = .ok (.aload_n 0, 1) := by decide +kernel
theorem dX3_startAnew_21 : decode cX3_startAnew 21 = .ok (.getfield 20, 3) := by decide +kernel
theorem dX3_startAnew_24 : decode cX3_startAnew 24 = .ok (.iload_n 2, 1) := by decide +kernel
theorem dX3_startAnew_25 : decode cX3_startAnew 25 = .ok (.iconst 0, 1) := by decide +kernel
theorem dX3_startAnew_26 : decode cX3_startAnew 26 = .ok (.iastore, 1) := by decide +kernel
theorem dX3_startAnew_27 : decode cX3_startAnew 27 = .ok (.iconst 0, 1) := by decide +kernel
theorem dX3_startAnew_28 : decode cX3_startAnew 28 = .ok (.istore_n 3, 1) := by decide +kernel
theorem dX3_startAnew_29 : decode cX3_startAnew 29 = .ok (.iload_n 3, 1) := by decide +kernel
theorem dX3_startAnew_30 : decode cX3_startAnew 30 = .ok (.bipush 20, 2) := by decide +kernel
theorem dX3_startAnew_32 : decode cX3_startAnew 32 = .ok (.if_icmp .ge 18, 3) := by decide +kernel
theorem dX3_startAnew_35 : decode cX3_startAnew 35 = .ok (.aload_n 0, 1) := by decide +kernel
theorem dX3_startAnew_36 : decode cX3_startAnew 36 = .ok (.getfield 11, 3) := by decide +kernel
theorem dX3_startAnew_39 : decode cX3_startAnew 39 = .ok (.iload_n 2, 1) := by decide +kernel
theorem dX3_startAnew_40 : decode cX3_startAnew 40 = .ok (.aaload, 1) := by decide +kernel
theorem dX3_startAnew_41 : decode cX3_startAnew 41 = .ok (.iload_n 3, 1) := by decide +kernel
theorem dX3_startAnew_42 : decode cX3_startAnew 42 = .ok (.iconst 0, 1) := by decide +kernel
theorem dX3_startAnew_43 : decode cX3_startAnew 43 = .ok (.iastore, 1) := by decide +kernel
theorem dX3_startAnew_44 : decode cX3_startAnew 44 = .ok (.iinc 3 1, 3) := by decide +kernel
theorem dX3_startAnew_47 : decode cX3_startAnew 47 = .ok (.goto (-18), 3) := by decide +kernel
theorem dX3_startAnew_50 : decode cX3_startAnew 50 = .ok (.iinc 2 1, 3) := by decide +kernel
theorem dX3_startAnew_53 : decode cX3_startAnew 53 = .ok (.goto (-46), 3) := by decide +kernel
theorem dX3_startAnew_56 : decode cX3_startAnew 56 = .ok (.return_, 1) := by decide +kernel
theorem dX3_setApart_0 : decode cX3_setApart 0 = .ok (.aload_n 0, 1) := by decide +kernel
theorem dX3_setApart_1 : decode cX3_setApart 1 = .ok (.getfield 11, 3) := by decide +kernel
theorem dX3_setApart_4 : decode cX3_setApart 4 = .ok (.iload_n 1, 1) := by decide +kernel
theorem dX3_setApart_5 : decode cX3_setApart 5 = .ok (.aaload, 1) := by decide +kernel
theorem dX3_setApart_6 : decode cX3_setApart 6 = .ok (.iload_n 2, 1) := by decide +kernel
theorem dX3_setApart_7 : decode cX3_setApart 7 = .ok (.iload_n 3, 1) := by decide +kernel
theorem dX3_setApart_8 : decode cX3_setApart 8 = .ok (.iastore, 1) := by decide +kernel
theorem dX3_setApart_9 : decode cX3_setApart 9 = .ok (.aload_n 0, 1) := by decide +kernel
theorem dX3_setApart_10 : decode cX3_setApart 10 = .ok (.getfield 11, 3) := by decide +kernel
theorem dX3_setApart_13 : decode cX3_setApart 13 = .ok (.iload_n 2, 1) := by decide +kernel
theorem dX3_setApart_14 : decode cX3_setApart 14 = .ok (.aaload, 1) := by decide +kernel
theorem dX3_setApart_15 : decode cX3_setApart 15 = .ok (.iload_n 1, 1) := by decide +kernel
theorem dX3_setApart_16 : decode cX3_setApart 16 = .ok (.iload_n 3, 1) := by decide +kernel
theorem dX3_setApart_17 : decode cX3_setApart 17 = .ok (.iastore, 1) := by decide +kernel
theorem dX3_setApart_18 : decode cX3_setApart 18 = .ok (.return_, 1) := by decide +kernel
theorem dX3_measureAll_0 : decode cX3_measureAll 0 = .ok (.iconst 1, 1) := by decide +kernel
theorem dX3_measureAll_1 : decode cX3_measureAll 1 = .ok (.istore_n 2, 1) := by decide +kernel
theorem dX3_measureAll_2 : decode cX3_measureAll 2 = .ok (.iload_n 2, 1) := by decide +kernel
theorem dX3_measureAll_3 : decode cX3_measureAll 3 = .ok (.aload_n 0, 1) := by decide +kernel
theorem dX3_measureAll_4 : decode cX3_measureAll 4 = .ok (.getfield 23, 3) := by decide +kernel
theorem dX3_measureAll_7 : decode cX3_measureAll 7 = .ok (.if_icmp .ge 64, 3) := by decide +kernel
theorem dX3_measureAll_10 : decode cX3_measureAll 10 = .ok (.iconst 0, 1) := by decide +kernel
theorem dX3_measureAll_11 : decode cX3_measureAll 11 = .ok (.istore_n 3, 1) := by decide +kernel
theorem dX3_measureAll_12 : decode cX3_measureAll 12 = .ok (.iload_n 3, 1) := by decide +kernel
theorem dX3_measureAll_13 : decode cX3_measureAll 13 = .ok (.iload_n 2, 1) := by decide +kernel
theorem dX3_measureAll_14 : decode cX3_measureAll 14 = .ok (.if_icmp .ge 51, 3) := by decide +kernel
theorem dX3_measureAll_17 : decode cX3_measureAll 17 = .ok (.aload_n 0, 1) := by decide +kernel
theorem dX3_measureAll_18 : decode cX3_measureAll 18 = .ok (.iload_n 2, 1) := by decide +kernel
theorem dX3_measureAll_19 : decode cX3_measureAll 19 = .ok (.iload_n 3, 1) := by decide +kernel
theorem dX3_measureAll_20 : decode cX3_measureAll 20 = .ok (.iload_n 1, 1) := by decide +kernel
theorem dX3_measureAll_21 : decode cX3_measureAll 21 = .ok (.aload_n 0, 1) := by decide +kernel
theorem dX3_measureAll_22 : decode cX3_measureAll 22 = .ok (.getfield 16, 3) := by decide +kernel
theorem dX3_measureAll_25 : decode cX3_measureAll 25 = .ok (.iload_n 2, 1) := by decide +kernel
theorem dX3_measureAll_26 : decode cX3_measureAll 26 = .ok (.iaload, 1) := by decide +kernel
theorem dX3_measureAll_27 : decode cX3_measureAll 27 = .ok (.aload_n 0, 1) := by decide +kernel
theorem dX3_measureAll_28 : decode cX3_measureAll 28 = .ok (.getfield 16, 3) := by decide +kernel
theorem dX3_measureAll_31 : decode cX3_measureAll 31 = .ok (.iload_n 3, 1) := by decide +kernel
theorem dX3_measureAll_32 : decode cX3_measureAll 32 = .ok (.iaload, 1) := by decide +kernel
theorem dX3_measureAll_33 : decode cX3_measureAll 33 = .ok (.isub, 1) := by decide +kernel
theorem dX3_measureAll_34 : decode cX3_measureAll 34 = .ok (.invokestatic 27, 3) := by decide +kernel
theorem dX3_measureAll_37 : decode cX3_measureAll 37 = .ok (.aload_n 0, 1) := by decide +kernel
theorem dX3_measureAll_38 : decode cX3_measureAll 38 = .ok (.getfield 20, 3) := by decide +kernel
theorem dX3_measureAll_41 : decode cX3_measureAll 41 = .ok (.iload_n 2, 1) := by decide +kernel
theorem dX3_measureAll_42 : decode cX3_measureAll 42 = .ok (.iaload, 1) := by decide +kernel
theorem dX3_measureAll_43 : decode cX3_measureAll 43 = .ok (.aload_n 0, 1) := by decide +kernel
theorem dX3_measureAll_44 : decode cX3_measureAll 44 = .ok (.getfield 20, 3) := by decide +kernel
theorem dX3_measureAll_47 : decode cX3_measureAll 47 = .ok (.iload_n 3, 1) := by decide +kernel
theorem dX3_measureAll_48 : decode cX3_measureAll 48 = .ok (.iaload, 1) := by decide +kernel
theorem dX3_measureAll_49 : decode cX3_measureAll 49 = .ok (.isub, 1) := by decide +kernel
theorem dX3_measureAll_50 : decode cX3_measureAll 50 = .ok (.invokestatic 27, 3) := by decide +kernel
theorem dX3_measureAll_53 : decode cX3_measureAll 53 = .ok (.invokestatic 33, 3) := by decide +kernel
theorem dX3_measureAll_56 : decode cX3_measureAll 56 = .ok (.invokevirtual 37, 3) := by decide +kernel
theorem dX3_measureAll_59 : decode cX3_measureAll 59 = .ok (.iinc 3 1, 3) := by decide +kernel
theorem dX3_measureAll_62 : decode cX3_measureAll 62 = .ok (.goto (-50), 3) := by decide +kernel
theorem dX3_measureAll_65 : decode cX3_measureAll 65 = .ok (.iinc 2 1, 3) := by decide +kernel
theorem dX3_measureAll_68 : decode cX3_measureAll 68 = .ok (.goto (-66), 3) := by decide +kernel
theorem dX3_measureAll_71 : decode cX3_measureAll 71 = .ok (.return_, 1) := by decide +kernel
theorem dX3_measured_0 : decode cX3_measured 0 = .ok (.iload_n 0, 1) := by decide +kernel
theorem dX3_measured_1 : decode cX3_measured 1 = .ok (.ifCond .ne 11, 3) := by decide +kernel
theorem dX3_measured_4 : decode cX3_measured 4 = .ok (.iload_n 1, 1) := by decide +kernel
theorem dX3_measured_5 : decode cX3_measured 5 = .ok (.iload_n 1, 1) := by decide +kernel
theorem dX3_measured_6 : decode cX3_measured 6 = .ok (.imul, 1) := by decide +kernel
theorem dX3_measured_7 : decode cX3_measured 7 = .ok (.iload_n 2, 1) := by decide +kernel
theorem dX3_measured_8 : decode cX3_measured 8 = .ok (.iload_n 2, 1) := by decide +kernel
theorem dX3_measured_9 : decode cX3_measured 9 = .ok (.imul, 1) := by decide +kernel
theorem dX3_measured_10 : decode cX3_measured 10 = .ok (.iadd, 1) := by decide +kernel
theorem dX3_measured_11 : decode cX3_measured 11 = .ok (.ireturn, 1) := by decide +kernel
theorem dX3_measured_12 : decode cX3_measured 12 = .ok (.iload_n 0, 1) := by decide +kernel
theorem dX3_measured_13 : decode cX3_measured 13 = .ok (.iconst 1, 1) := by decide +kernel
theorem dX3_measured_14 : decode cX3_measured 14 = .ok (.if_icmp .ne 9, 3) := by decide +kernel
theorem dX3_measured_17 : decode cX3_measured 17 = .ok (.iload_n 1, 1) := by decide +kernel
theorem dX3_measured_18 : decode cX3_measured 18 = .ok (.iload_n 2, 1) := by decide +kernel
theorem dX3_measured_19 : decode cX3_measured 19 = .ok (.iadd, 1) := by decide +kernel
theorem dX3_measured_20 : decode cX3_measured 20 = .ok (.goto 8, 3) := by decide +kernel
theorem dX3_measured_23 : decode cX3_measured 23 = .ok (.iload_n 1, 1) := by decide +kernel
theorem dX3_measured_24 : decode cX3_measured 24 = .ok (.iload_n 2, 1) := by decide +kernel
theorem dX3_measured_25 : decode cX3_measured 25 = .ok (.invokestatic 41, 3) := by decide +kernel
theorem dX3_measured_28 : decode cX3_measured 28 = .ok (.ireturn, 1) := by decide +kernel
theorem dX3_coreBetween_0 : decode cX3_coreBetween 0 = .ok (.lconst 0, 1) := by decide +kernel
theorem dX3_coreBetween_1 : decode cX3_coreBetween 1 = .ok (.lstore 4, 2) := by decide +kernel
theorem dX3_coreBetween_3 : decode cX3_coreBetween 3 = .ok (.iconst 0, 1) := by decide +kernel
theorem dX3_coreBetween_4 : decode cX3_coreBetween 4 = .ok (.istore 6, 2) := by decide +kernel
theorem dX3_coreBetween_6 : decode cX3_coreBetween 6 = .ok (.iconst 0, 1) := by decide +kernel
theorem dX3_coreBetween_7 : decode cX3_coreBetween 7 = .ok (.istore 7, 2) := by decide +kernel
theorem dX3_coreBetween_9 : decode cX3_coreBetween 9 = .ok (.iload 7, 2) := by decide +kernel
theorem dX3_coreBetween_11 : decode cX3_coreBetween 11 = .ok (.aload_n 0, 1) := by decide +kernel
theorem dX3_coreBetween_12 : decode cX3_coreBetween 12 = .ok (.getfield 23, 3) := by decide +kernel
theorem dX3_coreBetween_15 : decode cX3_coreBetween 15 = .ok (.if_icmp .ge 88, 3) := by decide +kernel
theorem dX3_coreBetween_18 : decode cX3_coreBetween 18 = .ok (.iconst 0, 1) := by decide +kernel
theorem dX3_coreBetween_19 : decode cX3_coreBetween 19 = .ok (.istore 8, 2) := by decide +kernel
theorem dX3_coreBetween_21 : decode cX3_coreBetween 21 = .ok (.iload 8, 2) := by decide +kernel
theorem dX3_coreBetween_23 : decode cX3_coreBetween 23 = .ok (.aload_n 0, 1) := by decide +kernel
theorem dX3_coreBetween_24 : decode cX3_coreBetween 24 = .ok (.getfield 23, 3) := by decide +kernel
theorem dX3_coreBetween_27 : decode cX3_coreBetween 27 = .ok (.if_icmp .ge 70, 3) := by decide +kernel
theorem dX3_coreBetween_30 : decode cX3_coreBetween 30 = .ok (.iload_n 2, 1) := by decide +kernel
theorem dX3_coreBetween_31 : decode cX3_coreBetween 31 = .ok (.iload 7, 2) := by decide +kernel
theorem dX3_coreBetween_33 : decode cX3_coreBetween 33 = .ok (.ishr, 1) := by decide +kernel
theorem dX3_coreBetween_34 : decode cX3_coreBetween 34 = .ok (.iconst 1, 1) := by decide +kernel
theorem dX3_coreBetween_35 : decode cX3_coreBetween 35 = .ok (.iand, 1) := by decide +kernel
theorem dX3_coreBetween_36 : decode cX3_coreBetween 36 = .ok (.iconst 1, 1) := by decide +kernel
theorem dX3_coreBetween_37 : decode cX3_coreBetween 37 = .ok (.if_icmp .ne 54, 3) := by decide +kernel
theorem dX3_coreBetween_40 : decode cX3_coreBetween 40 = .ok (.iload_n 3, 1) := by decide +kernel
theorem dX3_coreBetween_41 : decode cX3_coreBetween 41 = .ok (.iload 8, 2) := by decide +kernel
theorem dX3_coreBetween_43 : decode cX3_coreBetween 43 = .ok (.ishr, 1) := by decide +kernel
theorem dX3_coreBetween_44 : decode cX3_coreBetween 44 = .ok (.iconst 1, 1) := by decide +kernel
theorem dX3_coreBetween_45 : decode cX3_coreBetween 45 = .ok (.iand, 1) := by decide +kernel
theorem dX3_coreBetween_46 : decode cX3_coreBetween 46 = .ok (.iconst 1, 1) := by decide +kernel
theorem dX3_coreBetween_47 : decode cX3_coreBetween 47 = .ok (.if_icmp .ne 44, 3) := by decide +kernel
theorem dX3_coreBetween_50 : decode cX3_coreBetween 50 = .ok (.iload 6, 2) := by decide +kernel
theorem dX3_coreBetween_52 : decode cX3_coreBetween 52 = .ok (.ifCond .eq 23, 3) := by decide +kernel
theorem dX3_coreBetween_55 : decode cX3_coreBetween 55 = .ok (.iload_n 1, 1) := by decide +kernel
theorem dX3_coreBetween_56 : decode cX3_coreBetween 56 = .ok (.lload 4, 2) := by decide +kernel
theorem dX3_coreBetween_58 : decode cX3_coreBetween 58 = .ok (.aload_n 0, 1) := by decide +kernel
theorem dX3_coreBetween_59 : decode cX3_coreBetween 59 = .ok (.getfield 11, 3) := by decide +kernel
theorem dX3_coreBetween_62 : decode cX3_coreBetween 62 = .ok (.iload 7, 2) := by decide +kernel
theorem dX3_coreBetween_64 : decode cX3_coreBetween 64 = .ok (.aaload, 1) := by decide +kernel
theorem dX3_coreBetween_65 : decode cX3_coreBetween 65 = .ok (.iload 8, 2) := by decide +kernel
theorem dX3_coreBetween_67 : decode cX3_coreBetween 67 = .ok (.iaload, 1) := by decide +kernel
theorem dX3_coreBetween_68 : decode cX3_coreBetween 68 = .ok (.i2l, 1) := by decide +kernel
theorem dX3_coreBetween_69 : decode cX3_coreBetween 69 = .ok (.invokestatic 45, 3) := by decide +kernel
theorem dX3_coreBetween_72 : decode cX3_coreBetween 72 = .ok (.goto 14, 3) := by decide +kernel
theorem dX3_coreBetween_75 : decode cX3_coreBetween 75 = .ok (.aload_n 0, 1) := by decide +kernel
theorem dX3_coreBetween_76 : decode cX3_coreBetween 76 = .ok (.getfield 11, 3) := by decide +kernel
theorem dX3_coreBetween_79 : decode cX3_coreBetween 79 = .ok (.iload 7, 2) := by decide +kernel
theorem dX3_coreBetween_81 : decode cX3_coreBetween 81 = .ok (.aaload, 1) := by decide +kernel
theorem dX3_coreBetween_82 : decode cX3_coreBetween 82 = .ok (.iload 8, 2) := by decide +kernel
theorem dX3_coreBetween_84 : decode cX3_coreBetween 84 = .ok (.iaload, 1) := by decide +kernel
theorem dX3_coreBetween_85 : decode cX3_coreBetween 85 = .ok (.i2l, 1) := by decide +kernel
theorem dX3_coreBetween_86 : decode cX3_coreBetween 86 = .ok (.lstore 4, 2) := by decide +kernel
theorem dX3_coreBetween_88 : decode cX3_coreBetween 88 = .ok (.iconst 1, 1) := by decide +kernel
theorem dX3_coreBetween_89 : decode cX3_coreBetween 89 = .ok (.istore 6, 2) := by decide +kernel
theorem dX3_coreBetween_91 : decode cX3_coreBetween 91 = .ok (.iinc 8 1, 3) := by decide +kernel
theorem dX3_coreBetween_94 : decode cX3_coreBetween 94 = .ok (.goto (-73), 3) := by decide +kernel
theorem dX3_coreBetween_97 : decode cX3_coreBetween 97 = .ok (.iinc 7 1, 3) := by decide +kernel
theorem dX3_coreBetween_100 : decode cX3_coreBetween 100 = .ok (.goto (-91), 3) := by decide +kernel
theorem dX3_coreBetween_103 : decode cX3_coreBetween 103 = .ok (.lload 4, 2) := by decide +kernel
theorem dX3_coreBetween_105 : decode cX3_coreBetween 105 = .ok (.lreturn, 1) := by decide +kernel
theorem dX3_sumInside_0 : decode cX3_sumInside 0 = .ok (.lconst 0, 1) := by decide +kernel
theorem dX3_sumInside_1 : decode cX3_sumInside 1 = .ok (.lstore_n 2, 1) := by decide +kernel
theorem dX3_sumInside_2 : decode cX3_sumInside 2 = .ok (.iconst 1, 1) := by decide +kernel
theorem dX3_sumInside_3 : decode cX3_sumInside 3 = .ok (.istore 4, 2) := by decide +kernel
theorem dX3_sumInside_5 : decode cX3_sumInside 5 = .ok (.iload 4, 2) := by decide +kernel
theorem dX3_sumInside_7 : decode cX3_sumInside 7 = .ok (.aload_n 0, 1) := by decide +kernel
theorem dX3_sumInside_8 : decode cX3_sumInside 8 = .ok (.getfield 23, 3) := by decide +kernel
theorem dX3_sumInside_11 : decode cX3_sumInside 11 = .ok (.if_icmp .ge 59, 3) := by decide +kernel
theorem dX3_sumInside_14 : decode cX3_sumInside 14 = .ok (.iconst 0, 1) := by decide +kernel
theorem dX3_sumInside_15 : decode cX3_sumInside 15 = .ok (.istore 5, 2) := by decide +kernel
theorem dX3_sumInside_17 : decode cX3_sumInside 17 = .ok (.iload 5, 2) := by decide +kernel
theorem dX3_sumInside_19 : decode cX3_sumInside 19 = .ok (.iload 4, 2) := by decide +kernel
theorem dX3_sumInside_21 : decode cX3_sumInside 21 = .ok (.if_icmp .ge 43, 3) := by decide +kernel
theorem dX3_sumInside_24 : decode cX3_sumInside 24 = .ok (.iload_n 1, 1) := by decide +kernel
theorem dX3_sumInside_25 : decode cX3_sumInside 25 = .ok (.iload 4, 2) := by decide +kernel
theorem dX3_sumInside_27 : decode cX3_sumInside 27 = .ok (.ishr, 1) := by decide +kernel
theorem dX3_sumInside_28 : decode cX3_sumInside 28 = .ok (.iconst 1, 1) := by decide +kernel
theorem dX3_sumInside_29 : decode cX3_sumInside 29 = .ok (.iand, 1) := by decide +kernel
theorem dX3_sumInside_30 : decode cX3_sumInside 30 = .ok (.iconst 1, 1) := by decide +kernel
theorem dX3_sumInside_31 : decode cX3_sumInside 31 = .ok (.if_icmp .ne 27, 3) := by decide +kernel
theorem dX3_sumInside_34 : decode cX3_sumInside 34 = .ok (.iload_n 1, 1) := by decide +kernel
theorem dX3_sumInside_35 : decode cX3_sumInside 35 = .ok (.iload 5, 2) := by decide +kernel
theorem dX3_sumInside_37 : decode cX3_sumInside 37 = .ok (.ishr, 1) := by decide +kernel
theorem dX3_sumInside_38 : decode cX3_sumInside 38 = .ok (.iconst 1, 1) := by decide +kernel
theorem dX3_sumInside_39 : decode cX3_sumInside 39 = .ok (.iand, 1) := by decide +kernel
theorem dX3_sumInside_40 : decode cX3_sumInside 40 = .ok (.iconst 1, 1) := by decide +kernel
theorem dX3_sumInside_41 : decode cX3_sumInside 41 = .ok (.if_icmp .ne 17, 3) := by decide +kernel
theorem dX3_sumInside_44 : decode cX3_sumInside 44 = .ok (.lload_n 2, 1) := by decide +kernel
theorem dX3_sumInside_45 : decode cX3_sumInside 45 = .ok (.aload_n 0, 1) := by decide +kernel
theorem dX3_sumInside_46 : decode cX3_sumInside 46 = .ok (.getfield 11, 3) := by decide +kernel
theorem dX3_sumInside_49 : decode cX3_sumInside 49 = .ok (.iload 4, 2) := by decide +kernel
theorem dX3_sumInside_51 : decode cX3_sumInside 51 = .ok (.aaload, 1) := by decide +kernel
theorem dX3_sumInside_52 : decode cX3_sumInside 52 = .ok (.iload 5, 2) := by decide +kernel
theorem dX3_sumInside_54 : decode cX3_sumInside 54 = .ok (.iaload, 1) := by decide +kernel
theorem dX3_sumInside_55 : decode cX3_sumInside 55 = .ok (.i2l, 1) := by decide +kernel
theorem dX3_sumInside_56 : decode cX3_sumInside 56 = .ok (.ladd, 1) := by decide +kernel
theorem dX3_sumInside_57 : decode cX3_sumInside 57 = .ok (.lstore_n 2, 1) := by decide +kernel
theorem dX3_sumInside_58 : decode cX3_sumInside 58 = .ok (.iinc 5 1, 3) := by decide +kernel
theorem dX3_sumInside_61 : decode cX3_sumInside 61 = .ok (.goto (-44), 3) := by decide +kernel
theorem dX3_sumInside_64 : decode cX3_sumInside 64 = .ok (.iinc 4 1, 3) := by decide +kernel
theorem dX3_sumInside_67 : decode cX3_sumInside 67 = .ok (.goto (-62), 3) := by decide +kernel
theorem dX3_sumInside_70 : decode cX3_sumInside 70 = .ok (.lload_n 2, 1) := by decide +kernel
theorem dX3_sumInside_71 : decode cX3_sumInside 71 = .ok (.lreturn, 1) := by decide +kernel
end
section
theorem dX4_init_0 : decode cX4_init 0 = .ok (.aload_n 0, 1) := by decide +kernel
theorem dX4_init_1 : decode cX4_init 1 = .ok (.invokespecial 3, 3) := by decide +kernel
theorem dX4_init_4 : decode cX4_init 4 = .ok (.aload_n 0, 1) := by decide +kernel
theorem dX4_init_5 : decode cX4_init 5 = .ok (.bipush 19, 2) := by decide +kernel
theorem dX4_init_7 : decode cX4_init 7 = .ok (.newarray .int, 2) := by decide +kernel
theorem dX4_init_9 : decode cX4_init 9 = .ok (.putfield 9, 3) := by decide +kernel
theorem dX4_init_12 : decode cX4_init 12 = .ok (.aload_n 0, 1) := by decide +kernel
theorem dX4_init_13 : decode cX4_init 13 = .ok (.bipush 19, 2) := by decide +kernel
theorem dX4_init_15 : decode cX4_init 15 = .ok (.newarray .int, 2) := by decide +kernel
theorem dX4_init_17 : decode cX4_init 17 = .ok (.putfield 15, 3) := by decide +kernel
theorem dX4_init_20 : decode cX4_init 20 = .ok (.aload_n 0, 1) := by decide +kernel
theorem dX4_init_21 : decode cX4_init 21 = .ok (.bipush 19, 2) := by decide +kernel
theorem dX4_init_23 : decode cX4_init 23 = .ok (.newarray .int, 2) := by decide +kernel
theorem dX4_init_25 : decode cX4_init 25 = .ok (.putfield 18, 3) := by decide +kernel
theorem dX4_init_28 : decode cX4_init 28 = .ok (.aload_n 0, 1) := by decide +kernel
theorem dX4_init_29 : decode cX4_init 29 = .ok (.bipush 19, 2) := by decide +kernel
theorem dX4_init_31 : decode cX4_init 31 = .ok (.newarray .long, 2) := by decide +kernel
theorem dX4_init_33 : decode cX4_init 33 = .ok (.putfield 21, 3) := by decide +kernel
theorem dX4_init_36 : decode cX4_init 36 = .ok (.aload_n 0, 1) := by decide +kernel
theorem dX4_init_37 : decode cX4_init 37 = .ok (.bipush 19, 2) := by decide +kernel
theorem dX4_init_39 : decode cX4_init 39 = .ok (.newarray .long, 2) := by decide +kernel
theorem dX4_init_41 : decode cX4_init 41 = .ok (.putfield 25, 3) := by decide +kernel
theorem dX4_init_44 : decode cX4_init 44 = .ok (.return_, 1) := by decide +kernel
theorem dX4_has_0 : decode cX4_has 0 = .ok (.iload_n 1, 1) := by decide +kernel
theorem dX4_has_1 : decode cX4_has 1 = .ok (.ifCond .lt 15, 3) := by decide +kernel
theorem dX4_has_4 : decode cX4_has 4 = .ok (.iload_n 1, 1) := by decide +kernel
theorem dX4_has_5 : decode cX4_has 5 = .ok (.aload_n 0, 1) := by decide +kernel
theorem dX4_has_6 : decode cX4_has 6 = .ok (.getfield 28, 3) := by decide +kernel
theorem dX4_has_9 : decode cX4_has 9 = .ok (.if_icmp .ge 7, 3) := by decide +kernel
theorem dX4_has_12 : decode cX4_has 12 = .ok (.iconst 1, 1) := by decide +kernel
theorem dX4_has_13 : decode cX4_has 13 = .ok (.goto 4, 3) := by decide +kernel
theorem dX4_has_16 : decode cX4_has 16 = .ok (.iconst 0, 1) := by decide +kernel
theorem dX4_has_17 : decode cX4_has 17 = .ok (.ireturn, 1) := by decide +kernel
theorem dX4_setClusters_0 : decode cX4_setClusters 0 = .ok (.iload_n 1, 1) := by decide +kernel
theorem dX4_setClusters_1 : decode cX4_setClusters 1 = .ok (.ifCond .lt 39, 3) := by decide +kernel
theorem dX4_setClusters_4 : decode cX4_setClusters 4 = .ok (.iload_n 1, 1) := by decide +kernel
theorem dX4_setClusters_5 : decode cX4_setClusters 5 = .ok (.bipush 19, 2) := by decide +kernel
theorem dX4_setClusters_7 : decode cX4_setClusters 7 = .ok (.if_icmp .ge 33, 3) := by decide +kernel
theorem dX4_setClusters_10 : decode cX4_setClusters 10 = .ok (.aload_n 0, 1) := by decide +kernel
theorem dX4_setClusters_11 : decode cX4_setClusters 11 = .ok (.getfield 9, 3) := by decide +kernel
theorem dX4_setClusters_14 : decode cX4_setClusters 14 = .ok (.iload_n 1, 1) := by decide +kernel
theorem dX4_setClusters_15 : decode cX4_setClusters 15 = .ok (.iload_n 2, 1) := by decide +kernel
theorem dX4_setClusters_16 : decode cX4_setClusters 16 = .ok (.iload_n 3, 1) := by decide +kernel
theorem dX4_setClusters_17 : decode cX4_setClusters 17 = .ok (.invokestatic 32, 3) := by decide +kernel
theorem dX4_setClusters_20 : decode cX4_setClusters 20 = .ok (.iastore, 1) := by decide +kernel
theorem dX4_setClusters_21 : decode cX4_setClusters 21 = .ok (.aload_n 0, 1) := by decide +kernel
theorem dX4_setClusters_22 : decode cX4_setClusters 22 = .ok (.getfield 15, 3) := by decide +kernel
theorem dX4_setClusters_25 : decode cX4_setClusters 25 = .ok (.iload_n 1, 1) := by decide +kernel
theorem dX4_setClusters_26 : decode cX4_setClusters 26 = .ok (.iload_n 2, 1) := by decide +kernel
theorem dX4_setClusters_27 : decode cX4_setClusters 27 = .ok (.iload_n 3, 1) := by decide +kernel
theorem dX4_setClusters_28 : decode cX4_setClusters 28 = .ok (.invokestatic 38, 3) := by decide +kernel
theorem dX4_setClusters_31 : decode cX4_setClusters 31 = .ok (.iastore, 1) := by decide +kernel
theorem dX4_setClusters_32 : decode cX4_setClusters 32 = .ok (.aload_n 0, 1) := by decide +kernel
theorem dX4_setClusters_33 : decode cX4_setClusters 33 = .ok (.getfield 18, 3) := by decide +kernel
theorem dX4_setClusters_36 : decode cX4_setClusters 36 = .ok (.iload_n 1, 1) := by decide +kernel
theorem dX4_setClusters_37 : decode cX4_setClusters 37 = .ok (.iload 4, 2) := by decide +kernel
theorem dX4_setClusters_39 : decode cX4_setClusters 39 = .ok (.iastore, 1) := by decide +kernel
theorem dX4_setClusters_40 : decode cX4_setClusters 40 = .ok (.return_, 1) := by decide +kernel
theorem dX4_setHeight_0 : decode cX4_setHeight 0 = .ok (.iload_n 1, 1) := by decide +kernel
theorem dX4_setHeight_1 : decode cX4_setHeight 1 = .ok (.ifCond .lt 42, 3) := by decide +kernel
theorem dX4_setHeight_4 : decode cX4_setHeight 4 = .ok (.iload_n 1, 1) := by decide +kernel
theorem dX4_setHeight_5 : decode cX4_setHeight 5 = .ok (.bipush 19, 2) := by decide +kernel
theorem dX4_setHeight_7 : decode cX4_setHeight 7 = .ok (.if_icmp .ge 36, 3) := by decide +kernel
theorem dX4_setHeight_10 : decode cX4_setHeight 10 = .ok (.lload_n 2, 1) := by decide +kernel
theorem dX4_setHeight_11 : decode cX4_setHeight 11 = .ok (.lload 4, 2) := by decide +kernel
theorem dX4_setHeight_13 : decode cX4_setHeight 13 = .ok (.invokestatic 41, 3) := by decide +kernel
theorem dX4_setHeight_16 : decode cX4_setHeight 16 = .ok (.lstore 6, 2) := by decide +kernel
theorem dX4_setHeight_18 : decode cX4_setHeight 18 = .ok (.aload_n 0, 1) := by decide +kernel
theorem dX4_setHeight_19 : decode cX4_setHeight 19 = .ok (.getfield 21, 3) := by decide +kernel
theorem dX4_setHeight_22 : decode cX4_setHeight 22 = .ok (.iload_n 1, 1) := by decide +kernel
theorem dX4_setHeight_23 : decode cX4_setHeight 23 = .ok (.lload_n 2, 1) := by decide +kernel
theorem dX4_setHeight_24 : decode cX4_setHeight 24 = .ok (.lload 6, 2) := by decide +kernel
theorem dX4_setHeight_26 : decode cX4_setHeight 26 = .ok (.invokestatic 45, 3) := by decide +kernel
theorem dX4_setHeight_29 : decode cX4_setHeight 29 = .ok (.lastore, 1) := by decide +kernel
theorem dX4_setHeight_30 : decode cX4_setHeight 30 = .ok (.aload_n 0, 1) := by decide +kernel
theorem dX4_setHeight_31 : decode cX4_setHeight 31 = .ok (.getfield 25, 3) := by decide +kernel
theorem dX4_setHeight_34 : decode cX4_setHeight 34 = .ok (.iload_n 1, 1) := by decide +kernel
theorem dX4_setHeight_35 : decode cX4_setHeight 35 = .ok (.lload 4, 2) := by decide +kernel
theorem dX4_setHeight_37 : decode cX4_setHeight 37 = .ok (.lload 6, 2) := by decide +kernel
theorem dX4_setHeight_39 : decode cX4_setHeight 39 = .ok (.invokestatic 45, 3) := by decide +kernel
theorem dX4_setHeight_42 : decode cX4_setHeight 42 = .ok (.lastore, 1) := by decide +kernel
theorem dX4_setHeight_43 : decode cX4_setHeight 43 = .ok (.return_, 1) := by decide +kernel
theorem dX4_rankOf_0 : decode cX4_rankOf 0 = .ok (.iconst 0, 1) := by decide +kernel
theorem dX4_rankOf_1 : decode cX4_rankOf 1 = .ok (.istore_n 2, 1) := by decide +kernel
theorem dX4_rankOf_2 : decode cX4_rankOf 2 = .ok (.iconst 0, 1) := by decide +kernel
theorem dX4_rankOf_3 : decode cX4_rankOf 3 = .ok (.istore_n 3, 1) := by decide +kernel
theorem dX4_rankOf_4 : decode cX4_rankOf 4 = .ok (.iload_n 3, 1) := by decide +kernel
theorem dX4_rankOf_5 : decode cX4_rankOf 5 = .ok (.aload_n 0, 1) := by decide +kernel
theorem dX4_rankOf_6 : decode cX4_rankOf 6 = .ok (.getfield 28, 3) := by decide +kernel
theorem dX4_rankOf_9 : decode cX4_rankOf 9 = .ok (.if_icmp .ge 58, 3) := by decide +kernel
theorem dX4_rankOf_12 : decode cX4_rankOf 12 = .ok (.aload_n 0, 1) := by decide +kernel
theorem dX4_rankOf_13 : decode cX4_rankOf 13 = .ok (.getfield 21, 3) := by decide +kernel
theorem dX4_rankOf_16 : decode cX4_rankOf 16 = .ok (.iload_n 3, 1) := by decide +kernel
theorem dX4_rankOf_17 : decode cX4_rankOf 17 = .ok (.laload, 1) := by decide +kernel
theorem dX4_rankOf_18 : decode cX4_rankOf 18 = .ok (.aload_n 0, 1) := by decide +kernel
theorem dX4_rankOf_19 : decode cX4_rankOf 19 = .ok (.getfield 25, 3) := by decide +kernel
theorem dX4_rankOf_22 : decode cX4_rankOf 22 = .ok (.iload_n 1, 1) := by decide +kernel
theorem dX4_rankOf_23 : decode cX4_rankOf 23 = .ok (.laload, 1) := by decide +kernel
theorem dX4_rankOf_24 : decode cX4_rankOf 24 = .ok (.lmul, 1) := by decide +kernel
theorem dX4_rankOf_25 : decode cX4_rankOf 25 = .ok (.aload_n 0, 1) := by decide +kernel
theorem dX4_rankOf_26 : decode cX4_rankOf 26 = .ok (.getfield 21, 3) := by decide +kernel
theorem dX4_rankOf_29 : decode cX4_rankOf 29 = .ok (.iload_n 1, 1) := by decide +kernel
theorem dX4_rankOf_30 : decode cX4_rankOf 30 = .ok (.laload, 1) := by decide +kernel
theorem dX4_rankOf_31 : decode cX4_rankOf 31 = .ok (.aload_n 0, 1) := by decide +kernel
theorem dX4_rankOf_32 : decode cX4_rankOf 32 = .ok (.getfield 25, 3) := by decide +kernel
theorem dX4_rankOf_35 : decode cX4_rankOf 35 = .ok (.iload_n 3, 1) := by decide +kernel
theorem dX4_rankOf_36 : decode cX4_rankOf 36 = .ok (.laload, 1) := by decide +kernel
theorem dX4_rankOf_37 : decode cX4_rankOf 37 = .ok (.lmul, 1) := by decide +kernel
theorem dX4_rankOf_38 : decode cX4_rankOf 38 = .ok (.invokestatic 48, 3) := by decide +kernel
theorem dX4_rankOf_41 : decode cX4_rankOf 41 = .ok (.istore 4, 2) := by decide +kernel
theorem dX4_rankOf_43 : decode cX4_rankOf 43 = .ok (.iload 4, 2) := by decide +kernel
theorem dX4_rankOf_45 : decode cX4_rankOf 45 = .ok (.ifCond .lt 13, 3) := by decide +kernel
theorem dX4_rankOf_48 : decode cX4_rankOf 48 = .ok (.iload 4, 2) := by decide +kernel
theorem dX4_rankOf_50 : decode cX4_rankOf 50 = .ok (.ifCond .ne 11, 3) := by decide +kernel
theorem dX4_rankOf_53 : decode cX4_rankOf 53 = .ok (.iload_n 3, 1) := by decide +kernel
theorem dX4_rankOf_54 : decode cX4_rankOf 54 = .ok (.iload_n 1, 1) := by decide +kernel
theorem dX4_rankOf_55 : decode cX4_rankOf 55 = .ok (.if_icmp .ge 6, 3) := by decide +kernel
theorem dX4_rankOf_58 : decode cX4_rankOf 58 = .ok (.iinc 2 1, 3) := by decide +kernel
theorem dX4_rankOf_61 : decode cX4_rankOf 61 = .ok (.iinc 3 1, 3) := by decide +kernel
theorem dX4_rankOf_64 : decode cX4_rankOf 64 = .ok (.goto (-60), 3) := by decide +kernel
theorem dX4_rankOf_67 : decode cX4_rankOf 67 = .ok (.iload_n 2, 1) := by decide +kernel
theorem dX4_rankOf_68 : decode cX4_rankOf 68 = .ok (.ireturn, 1) := by decide +kernel
theorem dX4_firstWithAll_0 : decode cX4_firstWithAll 0 = .ok (.iconst 0, 1) := by decide +kernel
theorem dX4_firstWithAll_1 : decode cX4_firstWithAll 1 = .ok (.istore_n 2, 1) := by decide +kernel
theorem dX4_firstWithAll_2 : decode cX4_firstWithAll 2 = .ok (.iload_n 2, 1) := by decide +kernel
theorem dX4_firstWithAll_3 : decode cX4_firstWithAll 3 = .ok (.aload_n 0, 1) := by decide +kernel
theorem dX4_firstWithAll_4 : decode cX4_firstWithAll 4 = .ok (.getfield 28, 3) := by decide +kernel
theorem dX4_firstWithAll_7 : decode cX4_firstWithAll 7 = .ok (.if_icmp .ge 23, 3) := by decide +kernel
theorem dX4_firstWithAll_10 : decode cX4_firstWithAll 10 = .ok (.aload_n 0, 1) := by decide +kernel
theorem dX4_firstWithAll_11 : decode cX4_firstWithAll 11 = .ok (.getfield 18, 3) := by decide +kernel
theorem dX4_firstWithAll_14 : decode cX4_firstWithAll 14 = .ok (.iload_n 2, 1) := by decide +kernel
theorem dX4_firstWithAll_15 : decode cX4_firstWithAll 15 = .ok (.iaload, 1) := by decide +kernel
theorem dX4_firstWithAll_16 : decode cX4_firstWithAll 16 = .ok (.iload_n 1, 1) := by decide +kernel
theorem dX4_firstWithAll_17 : decode cX4_firstWithAll 17 = .ok (.iand, 1) := by decide +kernel
theorem dX4_firstWithAll_18 : decode cX4_firstWithAll 18 = .ok (.iload_n 1, 1) := by decide +kernel
theorem dX4_firstWithAll_19 : decode cX4_firstWithAll 19 = .ok (.if_icmp .ne 5, 3) := by decide +kernel
theorem dX4_firstWithAll_22 : decode cX4_firstWithAll 22 = .ok (.iload_n 2, 1) := by decide +kernel
theorem dX4_firstWithAll_23 : decode cX4_firstWithAll 23 = .ok (.ireturn, 1) := by decide +kernel
theorem dX4_firstWithAll_24 : decode cX4_firstWithAll 24 = .ok (.iinc 2 1, 3) := by decide +kernel
theorem dX4_firstWithAll_27 : decode cX4_firstWithAll 27 = .ok (.goto (-25), 3) := by decide +kernel
theorem dX4_firstWithAll_30 : decode cX4_firstWithAll 30 = .ok (.iconst (-1), 1) := by decide +kernel
theorem dX4_firstWithAll_31 : decode cX4_firstWithAll 31 = .ok (.ireturn, 1) := by decide +kernel
theorem dX4_isLike_0 : decode cX4_isLike 0 = .ok (.aload_n 0, 1) := by decide +kernel
theorem dX4_isLike_1 : decode cX4_isLike 1 = .ok (.getfield 28, 3) := by decide +kernel
theorem dX4_isLike_4 : decode cX4_isLike 4 = .ok (.aload_n 1, 1) := by decide +kernel
theorem dX4_isLike_5 : decode cX4_isLike 5 = .ok (.getfield 28, 3) := by decide +kernel
theorem dX4_isLike_8 : decode cX4_isLike 8 = .ok (.if_icmp .eq 5, 3) := by decide +kernel
theorem dX4_isLike_11 : decode cX4_isLike 11 = .ok (.iconst 0, 1) := by decide +kernel
theorem dX4_isLike_12 : decode cX4_isLike 12 = .ok (.ireturn, 1) := by decide +kernel
theorem dX4_isLike_13 : decode cX4_isLike 13 = .ok (.iconst 0, 1) := by decide +kernel
theorem dX4_isLike_14 : decode cX4_isLike 14 = .ok (.istore_n 2, 1) := by decide +kernel
theorem dX4_isLike_15 : decode cX4_isLike 15 = .ok (.iload_n 2, 1) := by decide +kernel
theorem dX4_isLike_16 : decode cX4_isLike 16 = .ok (.aload_n 0, 1) := by decide +kernel
theorem dX4_isLike_17 : decode cX4_isLike 17 = .ok (.getfield 28, 3) := by decide +kernel
theorem dX4_isLike_20 : decode cX4_isLike 20 = .ok (.if_icmp .ge 73, 3) := by decide +kernel
theorem dX4_isLike_23 : decode cX4_isLike 23 = .ok (.aload_n 0, 1) := by decide +kernel
theorem dX4_isLike_24 : decode cX4_isLike 24 = .ok (.getfield 9, 3) := by decide +kernel
theorem dX4_isLike_27 : decode cX4_isLike 27 = .ok (.iload_n 2, 1) := by decide +kernel
theorem dX4_isLike_28 : decode cX4_isLike 28 = .ok (.iaload, 1) := by decide +kernel
theorem dX4_isLike_29 : decode cX4_isLike 29 = .ok (.aload_n 1, 1) := by decide +kernel
theorem dX4_isLike_30 : decode cX4_isLike 30 = .ok (.getfield 9, 3) := by decide +kernel
theorem dX4_isLike_33 : decode cX4_isLike 33 = .ok (.iload_n 2, 1) := by decide +kernel
theorem dX4_isLike_34 : decode cX4_isLike 34 = .ok (.iaload, 1) := by decide +kernel
theorem dX4_isLike_35 : decode cX4_isLike 35 = .ok (.if_icmp .ne 50, 3) := by decide +kernel
theorem dX4_isLike_38 : decode cX4_isLike 38 = .ok (.aload_n 0, 1) := by decide +kernel
theorem dX4_isLike_39 : decode cX4_isLike 39 = .ok (.getfield 15, 3) := by decide +kernel
theorem dX4_isLike_42 : decode cX4_isLike 42 = .ok (.iload_n 2, 1) := by decide +kernel
theorem dX4_isLike_43 : decode cX4_isLike 43 = .ok (.iaload, 1) := by decide +kernel
theorem dX4_isLike_44 : decode cX4_isLike 44 = .ok (.aload_n 1, 1) := by decide +kernel
theorem dX4_isLike_45 : decode cX4_isLike 45 = .ok (.getfield 15, 3) := by decide +kernel
theorem dX4_isLike_48 : decode cX4_isLike 48 = .ok (.iload_n 2, 1) := by decide +kernel
theorem dX4_isLike_49 : decode cX4_isLike 49 = .ok (.iaload, 1) := by decide +kernel
theorem dX4_isLike_50 : decode cX4_isLike 50 = .ok (.if_icmp .ne 35, 3) := by decide +kernel
theorem dX4_isLike_53 : decode cX4_isLike 53 = .ok (.aload_n 0, 1) := by decide +kernel
theorem dX4_isLike_54 : decode cX4_isLike 54 = .ok (.getfield 21, 3) := by decide +kernel
theorem dX4_isLike_57 : decode cX4_isLike 57 = .ok (.iload_n 2, 1) := by decide +kernel
theorem dX4_isLike_58 : decode cX4_isLike 58 = .ok (.laload, 1) := by decide +kernel
theorem dX4_isLike_59 : decode cX4_isLike 59 = .ok (.aload_n 1, 1) := by decide +kernel
theorem dX4_isLike_60 : decode cX4_isLike 60 = .ok (.getfield 21, 3) := by decide +kernel
theorem dX4_isLike_63 : decode cX4_isLike 63 = .ok (.iload_n 2, 1) := by decide +kernel
theorem dX4_isLike_64 : decode cX4_isLike 64 = .ok (.laload, 1) := by decide +kernel
theorem dX4_isLike_65 : decode cX4_isLike 65 = .ok (.lcmp, 1) := by decide +kernel
theorem dX4_isLike_66 : decode cX4_isLike 66 = .ok (.ifCond .ne 19, 3) := by decide +kernel
theorem dX4_isLike_69 : decode cX4_isLike 69 = .ok (.aload_n 0, 1) := by decide +kernel
theorem dX4_isLike_70 : decode cX4_isLike 70 = .ok (.getfield 25, 3) := by decide +kernel
theorem dX4_isLike_73 : decode cX4_isLike 73 = .ok (.iload_n 2, 1) := by decide +kernel
theorem dX4_isLike_74 : decode cX4_isLike 74 = .ok (.laload, 1) := by decide +kernel
theorem dX4_isLike_75 : decode cX4_isLike 75 = .ok (.aload_n 1, 1) := by decide +kernel
theorem dX4_isLike_76 : decode cX4_isLike 76 = .ok (.getfield 25, 3) := by decide +kernel
theorem dX4_isLike_79 : decode cX4_isLike 79 = .ok (.iload_n 2, 1) := by decide +kernel
theorem dX4_isLike_80 : decode cX4_isLike 80 = .ok (.laload, 1) := by decide +kernel
theorem dX4_isLike_81 : decode cX4_isLike 81 = .ok (.lcmp, 1) := by decide +kernel
theorem dX4_isLike_82 : decode cX4_isLike 82 = .ok (.ifCond .eq 5, 3) := by decide +kernel
theorem dX4_isLike_85 : decode cX4_isLike 85 = .ok (.iconst 0, 1) := by decide +kernel
theorem dX4_isLike_86 : decode cX4_isLike 86 = .ok (.ireturn, 1) := by decide +kernel
theorem dX4_isLike_87 : decode cX4_isLike 87 = .ok (.iinc 2 1, 3) := by decide +kernel
theorem dX4_isLike_90 : decode cX4_isLike 90 = .ok (.goto (-75), 3) := by decide +kernel
theorem dX4_isLike_93 : decode cX4_isLike 93 = .ok (.iconst 1, 1) := by decide +kernel
theorem dX4_isLike_94 : decode cX4_isLike 94 = .ok (.ireturn, 1) := by decide +kernel
theorem dX4_countUpTo_0 : decode cX4_countUpTo 0 = .ok (.iconst 0, 1) := by decide +kernel
theorem dX4_countUpTo_1 : decode cX4_countUpTo 1 = .ok (.istore 5, 2) := by decide +kernel
theorem dX4_countUpTo_3 : decode cX4_countUpTo 3 = .ok (.iconst 0, 1) := by decide +kernel
theorem dX4_countUpTo_4 : decode cX4_countUpTo 4 = .ok (.istore 6, 2) := by decide +kernel
theorem dX4_countUpTo_6 : decode cX4_countUpTo 6 = .ok (.iload 6, 2) := by decide +kernel
theorem dX4_countUpTo_8 : decode cX4_countUpTo 8 = .ok (.aload_n 0, 1) := by decide +kernel
theorem dX4_countUpTo_9 : decode cX4_countUpTo 9 = .ok (.getfield 28, 3) := by decide +kernel
theorem dX4_countUpTo_12 : decode cX4_countUpTo 12 = .ok (.if_icmp .ge 34, 3) := by decide +kernel
theorem dX4_countUpTo_15 : decode cX4_countUpTo 15 = .ok (.aload_n 0, 1) := by decide +kernel
theorem dX4_countUpTo_16 : decode cX4_countUpTo 16 = .ok (.getfield 21, 3) := by decide +kernel
theorem dX4_countUpTo_19 : decode cX4_countUpTo 19 = .ok (.iload 6, 2) := by decide +kernel
theorem dX4_countUpTo_21 : decode cX4_countUpTo 21 = .ok (.laload, 1) := by decide +kernel
theorem dX4_countUpTo_22 : decode cX4_countUpTo 22 = .ok (.lload_n 3, 1) := by decide +kernel
theorem dX4_countUpTo_23 : decode cX4_countUpTo 23 = .ok (.lmul, 1) := by decide +kernel
theorem dX4_countUpTo_24 : decode cX4_countUpTo 24 = .ok (.lload_n 1, 1) := by decide +kernel
theorem dX4_countUpTo_25 : decode cX4_countUpTo 25 = .ok (.aload_n 0, 1) := by decide +kernel
theorem dX4_countUpTo_26 : decode cX4_countUpTo 26 = .ok (.getfield 25, 3) := by decide +kernel
theorem dX4_countUpTo_29 : decode cX4_countUpTo 29 = .ok (.iload 6, 2) := by decide +kernel
theorem dX4_countUpTo_31 : decode cX4_countUpTo 31 = .ok (.laload, 1) := by decide +kernel
theorem dX4_countUpTo_32 : decode cX4_countUpTo 32 = .ok (.lmul, 1) := by decide +kernel
theorem dX4_countUpTo_33 : decode cX4_countUpTo 33 = .ok (.lcmp, 1) := by decide +kernel
theorem dX4_countUpTo_34 : decode cX4_countUpTo 34 = .ok (.ifCond .gt 6, 3) := by decide +kernel
theorem dX4_countUpTo_37 : decode cX4_countUpTo 37 = .ok (.iinc 5 1, 3) := by decide +kernel
theorem dX4_countUpTo_40 : decode cX4_countUpTo 40 = .ok (.iinc 6 1, 3) := by decide +kernel
theorem dX4_countUpTo_43 : decode cX4_countUpTo 43 = .ok (.goto (-37), 3) := by decide +kernel
theorem dX4_countUpTo_46 : decode cX4_countUpTo 46 = .ok (.iload 5, 2) := by decide +kernel
theorem dX4_countUpTo_48 : decode cX4_countUpTo 48 = .ok (.ireturn, 1) := by decide +kernel
end
section
theorem dX5_init_0 : decode cX5_init 0 = .ok (.aload_n 0, 1) := by decide +kernel
theorem dX5_init_1 : decode cX5_init 1 = .ok (.invokespecial 3, 3) := by decide +kernel
theorem dX5_init_4 : decode cX5_init 4 = .ok (.aload_n 0, 1) := by decide +kernel
theorem dX5_init_5 : decode cX5_init 5 = .ok (.sipush 191, 3) := by decide +kernel
theorem dX5_init_8 : decode cX5_init 8 = .ok (.newarray .int, 2) := by decide +kernel
theorem dX5_init_10 : decode cX5_init 10 = .ok (.putfield 9, 3) := by decide +kernel
theorem dX5_init_13 : decode cX5_init 13 = .ok (.aload_n 0, 1) := by decide +kernel
theorem dX5_init_14 : decode cX5_init 14 = .ok (.iconst (-1), 1) := by decide +kernel
theorem dX5_init_15 : decode cX5_init 15 = .ok (.putfield 15, 3) := by decide +kernel
theorem dX5_init_18 : decode cX5_init 18 = .ok (.return_, 1) := by decide +kernel
theorem dX5_readTable_0 : decode cX5_readTable 0 = .ok (.aload_n 0, 1) := by decide +kernel
theorem dX5_readTable_1 : decode cX5_readTable 1 = .ok (.iconst 0, 1) := by decide +kernel
theorem dX5_readTable_2 : decode cX5_readTable 2 = .ok (.putfield 19, 3) := by decide +kernel
theorem dX5_readTable_5 : decode cX5_readTable 5 = .ok (.aload_n 0, 1) := by decide +kernel
theorem dX5_readTable_6 : decode cX5_readTable 6 = .ok (.iconst (-1), 1) := by decide +kernel
theorem dX5_readTable_7 : decode cX5_readTable 7 = .ok (.putfield 15, 3) := by decide +kernel
theorem dX5_readTable_10 : decode cX5_readTable 10 = .ok (.iconst 1, 1) := by decide +kernel
theorem dX5_readTable_11 : decode cX5_readTable 11 = .ok (.istore_n 2, 1) := by decide +kernel
theorem dX5_readTable_12 : decode cX5_readTable 12 = .ok (.iconst 0, 1) := by decide +kernel
theorem dX5_readTable_13 : decode cX5_readTable 13 = .ok (.istore_n 3, 1) := by decide +kernel
theorem dX5_readTable_14 : decode cX5_readTable 14 = .ok (.iload_n 3, 1) := by decide +kernel
theorem dX5_readTable_15 : decode cX5_readTable 15 = .ok (.iload_n 2, 1) := by decide +kernel
theorem dX5_readTable_16 : decode cX5_readTable 16 = .ok (.if_icmp .ge 80, 3) := by decide +kernel
theorem dX5_readTable_19 : decode cX5_readTable 19 = .ok (.iload_n 3, 1) := by decide +kernel
theorem dX5_readTable_20 : decode cX5_readTable 20 = .ok (.aload_n 0, 1) := by decide +kernel
theorem dX5_readTable_21 : decode cX5_readTable 21 = .ok (.getfield 9, 3) := by decide +kernel
theorem dX5_readTable_24 : decode cX5_readTable 24 = .ok (.arraylength, 1) := by decide +kernel
theorem dX5_readTable_25 : decode cX5_readTable 25 = .ok (.if_icmp .ge 71, 3) := by decide +kernel
theorem dX5_readTable_28 : decode cX5_readTable 28 = .ok (.aload_n 0, 1) := by decide +kernel
theorem dX5_readTable_29 : decode cX5_readTable 29 = .ok (.getfield 15, 3) := by decide +kernel
theorem dX5_readTable_32 : decode cX5_readTable 32 = .ok (.iconst (-1), 1) := by decide +kernel
theorem dX5_readTable_33 : decode cX5_readTable 33 = .ok (.if_icmp .ne 63, 3) := by decide +kernel
theorem dX5_readTable_36 : decode cX5_readTable 36 = .ok (.aload_n 0, 1) := by decide +kernel
theorem dX5_readTable_37 : decode cX5_readTable 37 = .ok (.getfield 9, 3) := by decide +kernel
theorem dX5_readTable_40 : decode cX5_readTable 40 = .ok (.iload_n 3, 1) := by decide +kernel
theorem dX5_readTable_41 : decode cX5_readTable 41 = .ok (.aload_n 0, 1) := by decide +kernel
theorem dX5_readTable_42 : decode cX5_readTable 42 = .ok (.aload_n 1, 1) := by decide +kernel
theorem dX5_readTable_43 : decode cX5_readTable 43 = .ok (.iload_n 3, 1) := by decide +kernel
theorem dX5_readTable_44 : decode cX5_readTable 44 = .ok (.ifCond .ne 8, 3) := by decide +kernel
theorem dX5_readTable_47 : decode cX5_readTable 47 = .ok (.bipush 20, 2) := by decide +kernel
theorem dX5_readTable_49 : decode cX5_readTable 49 = .ok (.goto 5, 3) := by decide +kernel
theorem dX5_readTable_52 : decode cX5_readTable 52 = .ok (.ldc 22, 2) := by decide +kernel
theorem dX5_readTable_54 : decode cX5_readTable 54 = .ok (.invokevirtual 23, 3) := by decide +kernel
theorem dX5_readTable_57 : decode cX5_readTable 57 = .ok (.iastore, 1) := by decide +kernel
theorem dX5_readTable_58 : decode cX5_readTable 58 = .ok (.iload_n 3, 1) := by decide +kernel
theorem dX5_readTable_59 : decode cX5_readTable 59 = .ok (.ifCond .ne 31, 3) := by decide +kernel
theorem dX5_readTable_62 : decode cX5_readTable 62 = .ok (.aload_n 0, 1) := by decide +kernel
theorem dX5_readTable_63 : decode cX5_readTable 63 = .ok (.getfield 15, 3) := by decide +kernel
theorem dX5_readTable_66 : decode cX5_readTable 66 = .ok (.iconst (-1), 1) := by decide +kernel
theorem dX5_readTable_67 : decode cX5_readTable 67 = .ok (.if_icmp .ne 23, 3) := by decide +kernel
theorem dX5_readTable_70 : decode cX5_readTable 70 = .ok (.iconst 1, 1) := by decide +kernel
theorem dX5_readTable_71 : decode cX5_readTable 71 = .ok (.aload_n 0, 1) := by decide +kernel
theorem dX5_readTable_72 : decode cX5_readTable 72 = .ok (.getfield 9, 3) := by decide +kernel
theorem dX5_readTable_75 : decode cX5_readTable 75 = .ok (.iconst 0, 1) := by decide +kernel
theorem dX5_readTable_76 : decode cX5_readTable 76 = .ok (.iaload, 1) := by decide +kernel
theorem dX5_readTable_77 : decode cX5_readTable 77 = .ok (.aload_n 0, 1) := by decide +kernel
theorem dX5_readTable_78 : decode cX5_readTable 78 = .ok (.getfield 9, 3) := by decide +kernel
theorem dX5_readTable_81 : decode cX5_readTable 81 = .ok (.iconst 0, 1) := by decide +kernel
theorem dX5_readTable_82 : decode cX5_readTable 82 = .ok (.iaload, 1) := by decide +kernel
theorem dX5_readTable_83 : decode cX5_readTable 83 = .ok (.iconst 1, 1) := by decide +kernel
theorem dX5_readTable_84 : decode cX5_readTable 84 = .ok (.isub, 1) := by decide +kernel
theorem dX5_readTable_85 : decode cX5_readTable 85 = .ok (.imul, 1) := by decide +kernel
theorem dX5_readTable_86 : decode cX5_readTable 86 = .ok (.iconst 2, 1) := by decide +kernel
theorem dX5_readTable_87 : decode cX5_readTable 87 = .ok (.idiv, 1) := by decide +kernel
theorem dX5_readTable_88 : decode cX5_readTable 88 = .ok (.iadd, 1) := by decide +kernel
theorem dX5_readTable_89 : decode cX5_readTable 89 = .ok (.istore_n 2, 1) := by decide +kernel
theorem dX5_readTable_90 : decode cX5_readTable 90 = .ok (.iinc 3 1, 3) := by decide +kernel
theorem dX5_readTable_93 : decode cX5_readTable 93 = .ok (.goto (-79), 3) := by decide +kernel
theorem dX5_readTable_96 : decode cX5_readTable 96 = .ok (.aload_n 0, 1) := by decide +kernel
theorem dX5_readTable_97 : decode cX5_readTable 97 = .ok (.getfield 15, 3) := by decide +kernel
theorem dX5_readTable_100 : decode cX5_readTable 100 = .ok (.iconst (-1), 1) := by decide +kernel
theorem dX5_readTable_101 : decode cX5_readTable 101 = .ok (.if_icmp .ne 31, 3) := by decide +kernel
theorem dX5_readTable_104 : decode cX5_readTable 104 = .ok (.aload_n 0, 1) := by decide +kernel
theorem dX5_readTable_105 : decode cX5_readTable 105 = .ok (.aload_n 1, 1) := by decide +kernel
theorem dX5_readTable_106 : decode cX5_readTable 106 = .ok (.invokevirtual 27, 3) := by decide +kernel
theorem dX5_readTable_109 : decode cX5_readTable 109 = .ok (.aload_n 0, 1) := by decide +kernel
theorem dX5_readTable_110 : decode cX5_readTable 110 = .ok (.aload_n 0, 1) := by decide +kernel
theorem dX5_readTable_111 : decode cX5_readTable 111 = .ok (.getfield 19, 3) := by decide +kernel
theorem dX5_readTable_114 : decode cX5_readTable 114 = .ok (.aload_n 1, 1) := by decide +kernel
theorem dX5_readTable_115 : decode cX5_readTable 115 = .ok (.getfield 31, 3) := by decide +kernel
theorem dX5_readTable_118 : decode cX5_readTable 118 = .ok (.if_icmp .ge 10, 3) := by decide +kernel
theorem dX5_readTable_121 : decode cX5_readTable 121 = .ok (.aload_n 0, 1) := by decide +kernel
theorem dX5_readTable_122 : decode cX5_readTable 122 = .ok (.getfield 19, 3) := by decide +kernel
theorem dX5_readTable_125 : decode cX5_readTable 125 = .ok (.goto 4, 3) := by decide +kernel
theorem dX5_readTable_128 : decode cX5_readTable 128 = .ok (.iconst (-1), 1) := by decide +kernel
theorem dX5_readTable_129 : decode cX5_readTable 129 = .ok (.putfield 15, 3) := by decide +kernel
theorem dX5_readTable_132 : decode cX5_readTable 132 = .ok (.aload_n 0, 1) := by decide +kernel
theorem dX5_readTable_133 : decode cX5_readTable 133 = .ok (.getfield 15, 3) := by decide +kernel
theorem dX5_readTable_136 : decode cX5_readTable 136 = .ok (.iconst (-1), 1) := by decide +kernel
theorem dX5_readTable_137 : decode cX5_readTable 137 = .ok (.if_icmp .ne 7, 3) := by decide +kernel
theorem dX5_readTable_140 : decode cX5_readTable 140 = .ok (.iconst 1, 1) := by decide +kernel
theorem dX5_readTable_141 : decode cX5_readTable 141 = .ok (.goto 4, 3) := by decide +kernel
theorem dX5_readTable_144 : decode cX5_readTable 144 = .ok (.iconst 0, 1) := by decide +kernel
theorem dX5_readTable_145 : decode cX5_readTable 145 = .ok (.ireturn, 1) := by decide +kernel
theorem dX5_readNumber_0 : decode cX5_readNumber 0 = .ok (.aload_n 0, 1) := by decide +kernel
theorem dX5_readNumber_1 : decode cX5_readNumber 1 = .ok (.aload_n 1, 1) := by decide +kernel
theorem dX5_readNumber_2 : decode cX5_readNumber 2 = .ok (.invokevirtual 27, 3) := by decide +kernel
theorem dX5_readNumber_5 : decode cX5_readNumber 5 = .ok (.aload_n 0, 1) := by decide +kernel
theorem dX5_readNumber_6 : decode cX5_readNumber 6 = .ok (.getfield 19, 3) := by decide +kernel
theorem dX5_readNumber_9 : decode cX5_readNumber 9 = .ok (.istore_n 3, 1) := by decide +kernel
theorem dX5_readNumber_10 : decode cX5_readNumber 10 = .ok (.iconst 0, 1) := by decide +kernel
theorem dX5_readNumber_11 : decode cX5_readNumber 11 = .ok (.istore 4, 2) := by decide +kernel
theorem dX5_readNumber_13 : decode cX5_readNumber 13 = .ok (.aload_n 0, 1) := by decide +kernel
theorem dX5_readNumber_14 : decode cX5_readNumber 14 = .ok (.getfield 19, 3) := by decide +kernel
theorem dX5_readNumber_17 : decode cX5_readNumber 17 = .ok (.aload_n 1, 1) := by decide +kernel
theorem dX5_readNumber_18 : decode cX5_readNumber 18 = .ok (.getfield 31, 3) := by decide +kernel
theorem dX5_readNumber_21 : decode cX5_readNumber 21 = .ok (.if_icmp .ge 60, 3) := by decide +kernel
theorem dX5_readNumber_24 : decode cX5_readNumber 24 = .ok (.aload_n 0, 1) := by decide +kernel
theorem dX5_readNumber_25 : decode cX5_readNumber 25 = .ok (.getfield 19, 3) := by decide +kernel
theorem dX5_readNumber_28 : decode cX5_readNumber 28 = .ok (.iload_n 3, 1) := by decide +kernel
theorem dX5_readNumber_29 : decode cX5_readNumber 29 = .ok (.isub, 1) := by decide +kernel
theorem dX5_readNumber_30 : decode cX5_readNumber 30 = .ok (.bipush 7, 2) := by decide +kernel
theorem dX5_readNumber_32 : decode cX5_readNumber 32 = .ok (.if_icmp .gt 49, 3) := by decide +kernel
theorem dX5_readNumber_35 : decode cX5_readNumber 35 = .ok (.aload_n 1, 1) := by decide +kernel
theorem dX5_readNumber_36 : decode cX5_readNumber 36 = .ok (.aload_n 0, 1) := by decide +kernel
theorem dX5_readNumber_37 : decode cX5_readNumber 37 = .ok (.getfield 19, 3) := by decide +kernel
theorem dX5_readNumber_40 : decode cX5_readNumber 40 = .ok (.invokevirtual 36, 3) := by decide +kernel
theorem dX5_readNumber_43 : decode cX5_readNumber 43 = .ok (.invokestatic 40, 3) := by decide +kernel
theorem dX5_readNumber_46 : decode cX5_readNumber 46 = .ok (.ifCond .eq 35, 3) := by decide +kernel
theorem dX5_readNumber_49 : decode cX5_readNumber 49 = .ok (.iload 4, 2) := by decide +kernel
theorem dX5_readNumber_51 : decode cX5_readNumber 51 = .ok (.bipush 10, 2) := by decide +kernel
theorem dX5_readNumber_53 : decode cX5_readNumber 53 = .ok (.imul, 1) := by decide +kernel
theorem dX5_readNumber_54 : decode cX5_readNumber 54 = .ok (.aload_n 1, 1) := by decide +kernel
theorem dX5_readNumber_55 : decode cX5_readNumber 55 = .ok (.aload_n 0, 1) := by decide +kernel
theorem dX5_readNumber_56 : decode cX5_readNumber 56 = .ok (.getfield 19, 3) := by decide +kernel
theorem dX5_readNumber_59 : decode cX5_readNumber 59 = .ok (.invokevirtual 36, 3) := by decide +kernel
theorem dX5_readNumber_62 : decode cX5_readNumber 62 = .ok (.iadd, 1) := by decide +kernel
theorem dX5_readNumber_63 : decode cX5_readNumber 63 = .ok (.bipush 48, 2) := by decide +kernel
theorem dX5_readNumber_65 : decode cX5_readNumber 65 = .ok (.isub, 1) := by decide +kernel
theorem dX5_readNumber_66 : decode cX5_readNumber 66 = .ok (.istore 4, 2) := by decide +kernel
theorem dX5_readNumber_68 : decode cX5_readNumber 68 = .ok (.aload_n 0, 1) := by decide +kernel
theorem dX5_readNumber_69 : decode cX5_readNumber 69 = .ok (.dup, 1) := by decide +kernel
theorem dX5_readNumber_70 : decode cX5_readNumber 70 = .ok (.getfield 19, 3) := by decide +kernel
theorem dX5_readNumber_73 : decode cX5_readNumber 73 = .ok (.iconst 1, 1) := by decide +kernel
theorem dX5_readNumber_74 : decode cX5_readNumber 74 = .ok (.iadd, 1) := by decide +kernel
theorem dX5_readNumber_75 : decode cX5_readNumber 75 = .ok (.putfield 19, 3) := by decide +kernel
theorem dX5_readNumber_78 : decode cX5_readNumber 78 = .ok (.goto (-65), 3) := by decide +kernel
theorem dX5_readNumber_81 : decode cX5_readNumber 81 = .ok (.aload_n 0, 1) := by decide +kernel
theorem dX5_readNumber_82 : decode cX5_readNumber 82 = .ok (.getfield 19, 3) := by decide +kernel
theorem dX5_readNumber_85 : decode cX5_readNumber 85 = .ok (.iload_n 3, 1) := by decide +kernel
theorem dX5_readNumber_86 : decode cX5_readNumber 86 = .ok (.isub, 1) := by decide +kernel
theorem dX5_readNumber_87 : decode cX5_readNumber 87 = .ok (.istore 5, 2) := by decide +kernel
theorem dX5_readNumber_89 : decode cX5_readNumber 89 = .ok (.iload 5, 2) := by decide +kernel
theorem dX5_readNumber_91 : decode cX5_readNumber 91 = .ok (.ifCond .eq 16, 3) := by decide +kernel
theorem dX5_readNumber_94 : decode cX5_readNumber 94 = .ok (.iload 5, 2) := by decide +kernel
theorem dX5_readNumber_96 : decode cX5_readNumber 96 = .ok (.bipush 7, 2) := by decide +kernel
theorem dX5_readNumber_98 : decode cX5_readNumber 98 = .ok (.if_icmp .gt 9, 3) := by decide +kernel
theorem dX5_readNumber_101 : decode cX5_readNumber 101 = .ok (.iload 4, 2) := by decide +kernel
theorem dX5_readNumber_103 : decode cX5_readNumber 103 = .ok (.iload_n 2, 1) := by decide +kernel
theorem dX5_readNumber_104 : decode cX5_readNumber 104 = .ok (.if_icmp .le 8, 3) := by decide +kernel
theorem dX5_readNumber_107 : decode cX5_readNumber 107 = .ok (.aload_n 0, 1) := by decide +kernel
theorem dX5_readNumber_108 : decode cX5_readNumber 108 = .ok (.iload_n 3, 1) := by decide +kernel
theorem dX5_readNumber_109 : decode cX5_readNumber 109 = .ok (.putfield 15, 3) := by decide +kernel
theorem dX5_readNumber_112 : decode cX5_readNumber 112 = .ok (.iload 4, 2) := by decide +kernel
theorem dX5_readNumber_114 : decode cX5_readNumber 114 = .ok (.ireturn, 1) := by decide +kernel
theorem dX5_skipBlanks_0 : decode cX5_skipBlanks 0 = .ok (.aload_n 0, 1) := by decide +kernel
theorem dX5_skipBlanks_1 : decode cX5_skipBlanks 1 = .ok (.getfield 19, 3) := by decide +kernel
theorem dX5_skipBlanks_4 : decode cX5_skipBlanks 4 = .ok (.aload_n 1, 1) := by decide +kernel
theorem dX5_skipBlanks_5 : decode cX5_skipBlanks 5 = .ok (.getfield 31, 3) := by decide +kernel
theorem dX5_skipBlanks_8 : decode cX5_skipBlanks 8 = .ok (.if_icmp .ge 30, 3) := by decide +kernel
theorem dX5_skipBlanks_11 : decode cX5_skipBlanks 11 = .ok (.aload_n 1, 1) := by decide +kernel
theorem dX5_skipBlanks_12 : decode cX5_skipBlanks 12 = .ok (.aload_n 0, 1) := by decide +kernel
theorem dX5_skipBlanks_13 : decode cX5_skipBlanks 13 = .ok (.getfield 19, 3) := by decide +kernel
theorem dX5_skipBlanks_16 : decode cX5_skipBlanks 16 = .ok (.invokevirtual 36, 3) := by decide +kernel
theorem dX5_skipBlanks_19 : decode cX5_skipBlanks 19 = .ok (.invokestatic 44, 3) := by decide +kernel
theorem dX5_skipBlanks_22 : decode cX5_skipBlanks 22 = .ok (.ifCond .eq 16, 3) := by decide +kernel
theorem dX5_skipBlanks_25 : decode cX5_skipBlanks 25 = .ok (.aload_n 0, 1) := by decide +kernel
theorem dX5_skipBlanks_26 : decode cX5_skipBlanks 26 = .ok (.dup, 1) := by decide +kernel
theorem dX5_skipBlanks_27 : decode cX5_skipBlanks 27 = .ok (.getfield 19, 3) := by decide +kernel
theorem dX5_skipBlanks_30 : decode cX5_skipBlanks 30 = .ok (.iconst 1, 1) := by decide +kernel
theorem dX5_skipBlanks_31 : decode cX5_skipBlanks 31 = .ok (.iadd, 1) := by decide +kernel
theorem dX5_skipBlanks_32 : decode cX5_skipBlanks 32 = .ok (.putfield 19, 3) := by decide +kernel
theorem dX5_skipBlanks_35 : decode cX5_skipBlanks 35 = .ok (.goto (-35), 3) := by decide +kernel
theorem dX5_skipBlanks_38 : decode cX5_skipBlanks 38 = .ok (.return_, 1) := by decide +kernel
theorem dX5_isDigit_0 : decode cX5_isDigit 0 = .ok (.iload_n 0, 1) := by decide +kernel
theorem dX5_isDigit_1 : decode cX5_isDigit 1 = .ok (.bipush 48, 2) := by decide +kernel
theorem dX5_isDigit_3 : decode cX5_isDigit 3 = .ok (.if_icmp .lt 13, 3) := by decide +kernel
theorem dX5_isDigit_6 : decode cX5_isDigit 6 = .ok (.iload_n 0, 1) := by decide +kernel
theorem dX5_isDigit_7 : decode cX5_isDigit 7 = .ok (.bipush 57, 2) := by decide +kernel
theorem dX5_isDigit_9 : decode cX5_isDigit 9 = .ok (.if_icmp .gt 7, 3) := by decide +kernel
theorem dX5_isDigit_12 : decode cX5_isDigit 12 = .ok (.iconst 1, 1) := by decide +kernel
theorem dX5_isDigit_13 : decode cX5_isDigit 13 = .ok (.goto 4, 3) := by decide +kernel
theorem dX5_isDigit_16 : decode cX5_isDigit 16 = .ok (.iconst 0, 1) := by decide +kernel
theorem dX5_isDigit_17 : decode cX5_isDigit 17 = .ok (.ireturn, 1) := by decide +kernel
theorem dX5_isBlank_0 : decode cX5_isBlank 0 = .ok (.iload_n 0, 1) := by decide +kernel
theorem dX5_isBlank_1 : decode cX5_isBlank 1 = .ok (.bipush 32, 2) := by decide +kernel
theorem dX5_isBlank_3 : decode cX5_isBlank 3 = .ok (.if_icmp .eq 9, 3) := by decide +kernel
theorem dX5_isBlank_6 : decode cX5_isBlank 6 = .ok (.iload_n 0, 1) := by decide +kernel
theorem dX5_isBlank_7 : decode cX5_isBlank 7 = .ok (.bipush 10, 2) := by decide +kernel
theorem dX5_isBlank_9 : decode cX5_isBlank 9 = .ok (.if_icmp .ne 7, 3) := by decide +kernel
theorem dX5_isBlank_12 : decode cX5_isBlank 12 = .ok (.iconst 1, 1) := by decide +kernel
theorem dX5_isBlank_13 : decode cX5_isBlank 13 = .ok (.goto 4, 3) := by decide +kernel
theorem dX5_isBlank_16 : decode cX5_isBlank 16 = .ok (.iconst 0, 1) := by decide +kernel
theorem dX5_isBlank_17 : decode cX5_isBlank 17 = .ok (.ireturn, 1) := by decide +kernel
end
section
theorem dX6_init_0 : decode cX6_init 0 = .ok (.aload_n 0, 1) := by decide +kernel
theorem dX6_init_1 : decode cX6_init 1 = .ok (.invokespecial 3, 3) := by decide +kernel
theorem dX6_init_4 : decode cX6_init 4 = .ok (.aload_n 0, 1) := by decide +kernel
theorem dX6_init_5 : decode cX6_init 5 = .ok (.new 9, 3) := by decide +kernel
theorem dX6_init_8 : decode cX6_init 8 = .ok (.dup, 1) := by decide +kernel
theorem dX6_init_9 : decode cX6_init 9 = .ok (.invokespecial 11, 3) := by decide +kernel
theorem dX6_init_12 : decode cX6_init 12 = .ok (.putfield 12, 3) := by decide +kernel
theorem dX6_init_15 : decode cX6_init 15 = .ok (.aload_n 0, 1) := by decide +kernel
theorem dX6_init_16 : decode cX6_init 16 = .ok (.bipush 20, 2) := by decide +kernel
theorem dX6_init_18 : decode cX6_init 18 = .ok (.newarray .int, 2) := by decide +kernel
theorem dX6_init_20 : decode cX6_init 20 = .ok (.putfield 18, 3) := by decide +kernel
theorem dX6_init_23 : decode cX6_init 23 = .ok (.return_, 1) := by decide +kernel
theorem dX6_has_0 : decode cX6_has 0 = .ok (.iload_n 1, 1) := by decide +kernel
theorem dX6_has_1 : decode cX6_has 1 = .ok (.ifCond .lt 15, 3) := by decide +kernel
theorem dX6_has_4 : decode cX6_has 4 = .ok (.iload_n 1, 1) := by decide +kernel
theorem dX6_has_5 : decode cX6_has 5 = .ok (.aload_n 0, 1) := by decide +kernel
theorem dX6_has_6 : decode cX6_has 6 = .ok (.getfield 22, 3) := by decide +kernel
theorem dX6_has_9 : decode cX6_has 9 = .ok (.if_icmp .ge 7, 3) := by decide +kernel
theorem dX6_has_12 : decode cX6_has 12 = .ok (.iconst 1, 1) := by decide +kernel
theorem dX6_has_13 : decode cX6_has 13 = .ok (.goto 4, 3) := by decide +kernel
theorem dX6_has_16 : decode cX6_has 16 = .ok (.iconst 0, 1) := by decide +kernel
theorem dX6_has_17 : decode cX6_has 17 = .ok (.ireturn, 1) := by decide +kernel
theorem dX6_lastCluster_0 : decode cX6_lastCluster 0 = .ok (.aload_n 0, 1) := by decide +kernel
theorem dX6_lastCluster_1 : decode cX6_lastCluster 1 = .ok (.getfield 22, 3) := by decide +kernel
theorem dX6_lastCluster_4 : decode cX6_lastCluster 4 = .ok (.aload_n 0, 1) := by decide +kernel
theorem dX6_lastCluster_5 : decode cX6_lastCluster 5 = .ok (.getfield 12, 3) := by decide +kernel
theorem dX6_lastCluster_8 : decode cX6_lastCluster 8 = .ok (.getfield 26, 3) := by decide +kernel
theorem dX6_lastCluster_11 : decode cX6_lastCluster 11 = .ok (.iadd, 1) := by decide +kernel
theorem dX6_lastCluster_12 : decode cX6_lastCluster 12 = .ok (.iconst 1, 1) := by decide +kernel
theorem dX6_lastCluster_13 : decode cX6_lastCluster 13 = .ok (.isub, 1) := by decide +kernel
theorem dX6_lastCluster_14 : decode cX6_lastCluster 14 = .ok (.ireturn, 1) := by decide +kernel
theorem dX6_bitsOf_0 : decode cX6_bitsOf 0 = .ok (.iload_n 1, 1) := by decide +kernel
theorem dX6_bitsOf_1 : decode cX6_bitsOf 1 = .ok (.aload_n 0, 1) := by decide +kernel
theorem dX6_bitsOf_2 : decode cX6_bitsOf 2 = .ok (.getfield 22, 3) := by decide +kernel
theorem dX6_bitsOf_5 : decode cX6_bitsOf 5 = .ok (.if_icmp .ge 7, 3) := by decide +kernel
theorem dX6_bitsOf_8 : decode cX6_bitsOf 8 = .ok (.iconst 1, 1) := by decide +kernel
theorem dX6_bitsOf_9 : decode cX6_bitsOf 9 = .ok (.iload_n 1, 1) := by decide +kernel
theorem dX6_bitsOf_10 : decode cX6_bitsOf 10 = .ok (.ishl, 1) := by decide +kernel
theorem dX6_bitsOf_11 : decode cX6_bitsOf 11 = .ok (.ireturn, 1) := by decide +kernel
theorem dX6_bitsOf_12 : decode cX6_bitsOf 12 = .ok (.aload_n 0, 1) := by decide +kernel
theorem dX6_bitsOf_13 : decode cX6_bitsOf 13 = .ok (.getfield 12, 3) := by decide +kernel
theorem dX6_bitsOf_16 : decode cX6_bitsOf 16 = .ok (.iload_n 1, 1) := by decide +kernel
theorem dX6_bitsOf_17 : decode cX6_bitsOf 17 = .ok (.aload_n 0, 1) := by decide +kernel
theorem dX6_bitsOf_18 : decode cX6_bitsOf 18 = .ok (.getfield 22, 3) := by decide +kernel
theorem dX6_bitsOf_21 : decode cX6_bitsOf 21 = .ok (.isub, 1) := by decide +kernel
theorem dX6_bitsOf_22 : decode cX6_bitsOf 22 = .ok (.invokevirtual 29, 3) := by decide +kernel
theorem dX6_bitsOf_25 : decode cX6_bitsOf 25 = .ok (.ifCond .eq 20, 3) := by decide +kernel
theorem dX6_bitsOf_28 : decode cX6_bitsOf 28 = .ok (.aload_n 0, 1) := by decide +kernel
theorem dX6_bitsOf_29 : decode cX6_bitsOf 29 = .ok (.getfield 12, 3) := by decide +kernel
theorem dX6_bitsOf_32 : decode cX6_bitsOf 32 = .ok (.getfield 33, 3) := by decide +kernel
theorem dX6_bitsOf_35 : decode cX6_bitsOf 35 = .ok (.iload_n 1, 1) := by decide +kernel
theorem dX6_bitsOf_36 : decode cX6_bitsOf 36 = .ok (.aload_n 0, 1) := by decide +kernel
theorem dX6_bitsOf_37 : decode cX6_bitsOf 37 = .ok (.getfield 22, 3) := by decide +kernel
theorem dX6_bitsOf_40 : decode cX6_bitsOf 40 = .ok (.isub, 1) := by decide +kernel
theorem dX6_bitsOf_41 : decode cX6_bitsOf 41 = .ok (.iaload, 1) := by decide +kernel
theorem dX6_bitsOf_42 : decode cX6_bitsOf 42 = .ok (.goto 4, 3) := by decide +kernel
theorem dX6_bitsOf_45 : decode cX6_bitsOf 45 = .ok (.iconst 0, 1) := by decide +kernel
theorem dX6_bitsOf_46 : decode cX6_bitsOf 46 = .ok (.ireturn, 1) := by decide +kernel
theorem dX6_isFirstLeading_0 : decode cX6_isFirstLeading 0 = .ok (.aload_n 0, 1) := by decide +kernel
theorem dX6_isFirstLeading_1 : decode cX6_isFirstLeading 1 = .ok (.aload_n 0, 1) := by decide +kernel
theorem dX6_isFirstLeading_2 : decode cX6_isFirstLeading 2 = .ok (.getfield 12, 3) := by decide +kernel
theorem dX6_isFirstLeading_5 : decode cX6_isFirstLeading 5 = .ok (.getfield 36, 3) := by decide +kernel
theorem dX6_isFirstLeading_8 : decode cX6_isFirstLeading 8 = .ok (.iload_n 1, 1) := by decide +kernel
theorem dX6_isFirstLeading_9 : decode cX6_isFirstLeading 9 = .ok (.iaload, 1) := by decide +kernel
theorem dX6_isFirstLeading_10 : decode cX6_isFirstLeading 10 = .ok (.invokevirtual 39, 3) := by decide +kernel
theorem dX6_isFirstLeading_13 : decode cX6_isFirstLeading 13 = .ok (.istore_n 2, 1) := by decide +kernel
theorem dX6_isFirstLeading_14 : decode cX6_isFirstLeading 14 = .ok (.aload_n 0, 1) := by decide +kernel
theorem dX6_isFirstLeading_15 : decode cX6_isFirstLeading 15 = .ok (.aload_n 0, 1) := by decide +kernel
theorem dX6_isFirstLeading_16 : decode cX6_isFirstLeading 16 = .ok (.getfield 12, 3) := by decide +kernel
theorem dX6_isFirstLeading_19 : decode cX6_isFirstLeading 19 = .ok (.getfield 43, 3) := by decide +kernel
theorem dX6_isFirstLeading_22 : decode cX6_isFirstLeading 22 = .ok (.iload_n 1, 1) := by decide +kernel
theorem dX6_isFirstLeading_23 : decode cX6_isFirstLeading 23 = .ok (.iaload, 1) := by decide +kernel
theorem dX6_isFirstLeading_24 : decode cX6_isFirstLeading 24 = .ok (.invokevirtual 39, 3) := by decide +kernel
theorem dX6_isFirstLeading_27 : decode cX6_isFirstLeading 27 = .ok (.istore_n 3, 1) := by decide +kernel
theorem dX6_isFirstLeading_28 : decode cX6_isFirstLeading 28 = .ok (.iload_n 2, 1) := by decide +kernel
theorem dX6_isFirstLeading_29 : decode cX6_isFirstLeading 29 = .ok (.iload_n 2, 1) := by decide +kernel
theorem dX6_isFirstLeading_30 : decode cX6_isFirstLeading 30 = .ok (.ineg, 1) := by decide +kernel
theorem dX6_isFirstLeading_31 : decode cX6_isFirstLeading 31 = .ok (.iand, 1) := by decide +kernel
theorem dX6_isFirstLeading_32 : decode cX6_isFirstLeading 32 = .ok (.iload_n 3, 1) := by decide +kernel
theorem dX6_isFirstLeading_33 : decode cX6_isFirstLeading 33 = .ok (.iload_n 3, 1) := by decide +kernel
theorem dX6_isFirstLeading_34 : decode cX6_isFirstLeading 34 = .ok (.ineg, 1) := by decide +kernel
theorem dX6_isFirstLeading_35 : decode cX6_isFirstLeading 35 = .ok (.iand, 1) := by decide +kernel
theorem dX6_isFirstLeading_36 : decode cX6_isFirstLeading 36 = .ok (.if_icmp .ge 7, 3) := by decide +kernel
theorem dX6_isFirstLeading_39 : decode cX6_isFirstLeading 39 = .ok (.iconst 1, 1) := by decide +kernel
theorem dX6_isFirstLeading_40 : decode cX6_isFirstLeading 40 = .ok (.goto 4, 3) := by decide +kernel
theorem dX6_isFirstLeading_43 : decode cX6_isFirstLeading 43 = .ok (.iconst 0, 1) := by decide +kernel
theorem dX6_isFirstLeading_44 : decode cX6_isFirstLeading 44 = .ok (.ireturn, 1) := by decide +kernel
theorem dX6_leading_0 : decode cX6_leading 0 = .ok (.aload_n 0, 1) := by decide +kernel
theorem dX6_leading_1 : decode cX6_leading 1 = .ok (.iload_n 1, 1) := by decide +kernel
theorem dX6_leading_2 : decode cX6_leading 2 = .ok (.invokevirtual 46, 3) := by decide +kernel
theorem dX6_leading_5 : decode cX6_leading 5 = .ok (.ifCond .eq 15, 3) := by decide +kernel
theorem dX6_leading_8 : decode cX6_leading 8 = .ok (.aload_n 0, 1) := by decide +kernel
theorem dX6_leading_9 : decode cX6_leading 9 = .ok (.getfield 12, 3) := by decide +kernel
theorem dX6_leading_12 : decode cX6_leading 12 = .ok (.getfield 36, 3) := by decide +kernel
theorem dX6_leading_15 : decode cX6_leading 15 = .ok (.iload_n 1, 1) := by decide +kernel
theorem dX6_leading_16 : decode cX6_leading 16 = .ok (.iaload, 1) := by decide +kernel
theorem dX6_leading_17 : decode cX6_leading 17 = .ok (.goto 12, 3) := by decide +kernel
theorem dX6_leading_20 : decode cX6_leading 20 = .ok (.aload_n 0, 1) := by decide +kernel
theorem dX6_leading_21 : decode cX6_leading 21 = .ok (.getfield 12, 3) := by decide +kernel
theorem dX6_leading_24 : decode cX6_leading 24 = .ok (.getfield 43, 3) := by decide +kernel
theorem dX6_leading_27 : decode cX6_leading 27 = .ok (.iload_n 1, 1) := by decide +kernel
theorem dX6_leading_28 : decode cX6_leading 28 = .ok (.iaload, 1) := by decide +kernel
theorem dX6_leading_29 : decode cX6_leading 29 = .ok (.ireturn, 1) := by decide +kernel
theorem dX6_trailing_0 : decode cX6_trailing 0 = .ok (.aload_n 0, 1) := by decide +kernel
theorem dX6_trailing_1 : decode cX6_trailing 1 = .ok (.iload_n 1, 1) := by decide +kernel
theorem dX6_trailing_2 : decode cX6_trailing 2 = .ok (.invokevirtual 46, 3) := by decide +kernel
theorem dX6_trailing_5 : decode cX6_trailing 5 = .ok (.ifCond .eq 15, 3) := by decide +kernel
theorem dX6_trailing_8 : decode cX6_trailing 8 = .ok (.aload_n 0, 1) := by decide +kernel
theorem dX6_trailing_9 : decode cX6_trailing 9 = .ok (.getfield 12, 3) := by decide +kernel
theorem dX6_trailing_12 : decode cX6_trailing 12 = .ok (.getfield 43, 3) := by decide +kernel
theorem dX6_trailing_15 : decode cX6_trailing 15 = .ok (.iload_n 1, 1) := by decide +kernel
theorem dX6_trailing_16 : decode cX6_trailing 16 = .ok (.iaload, 1) := by decide +kernel
theorem dX6_trailing_17 : decode cX6_trailing 17 = .ok (.goto 12, 3) := by decide +kernel
theorem dX6_trailing_20 : decode cX6_trailing 20 = .ok (.aload_n 0, 1) := by decide +kernel
theorem dX6_trailing_21 : decode cX6_trailing 21 = .ok (.getfield 12, 3) := by decide +kernel
theorem dX6_trailing_24 : decode cX6_trailing 24 = .ok (.getfield 36, 3) := by decide +kernel
theorem dX6_trailing_27 : decode cX6_trailing 27 = .ok (.iload_n 1, 1) := by decide +kernel
theorem dX6_trailing_28 : decode cX6_trailing 28 = .ok (.iaload, 1) := by decide +kernel
theorem dX6_trailing_29 : decode cX6_trailing 29 = .ok (.ireturn, 1) := by decide +kernel
theorem dX6_pointInOrder_0 : decode cX6_pointInOrder 0 = .ok (.aload_n 0, 1) := by decide +kernel
theorem dX6_pointInOrder_1 : decode cX6_pointInOrder 1 = .ok (.invokevirtual 49, 3) := by decide +kernel
theorem dX6_pointInOrder_4 : decode cX6_pointInOrder 4 = .ok (.istore_n 2, 1) := by decide +kernel
theorem dX6_pointInOrder_5 : decode cX6_pointInOrder 5 = .ok (.iload_n 1, 1) := by decide +kernel
theorem dX6_pointInOrder_6 : decode cX6_pointInOrder 6 = .ok (.istore_n 3, 1) := by decide +kernel
theorem dX6_pointInOrder_7 : decode cX6_pointInOrder 7 = .ok (.iconst 0, 1) := by decide +kernel
theorem dX6_pointInOrder_8 : decode cX6_pointInOrder 8 = .ok (.istore 4, 2) := by decide +kernel
theorem dX6_pointInOrder_10 : decode cX6_pointInOrder 10 = .ok (.iload 4, 2) := by decide +kernel
theorem dX6_pointInOrder_12 : decode cX6_pointInOrder 12 = .ok (.bipush 19, 2) := by decide +kernel
theorem dX6_pointInOrder_14 : decode cX6_pointInOrder 14 = .ok (.if_icmp .ge 76, 3) := by decide +kernel
theorem dX6_pointInOrder_17 : decode cX6_pointInOrder 17 = .ok (.aload_n 0, 1) := by decide +kernel
theorem dX6_pointInOrder_18 : decode cX6_pointInOrder 18 = .ok (.getfield 12, 3) := by decide +kernel
theorem dX6_pointInOrder_21 : decode cX6_pointInOrder 21 = .ok (.iload_n 2, 1) := by decide +kernel
theorem dX6_pointInOrder_22 : decode cX6_pointInOrder 22 = .ok (.aload_n 0, 1) := by decide +kernel
theorem dX6_pointInOrder_23 : decode cX6_pointInOrder 23 = .ok (.getfield 22, 3) := by decide +kernel
theorem dX6_pointInOrder_26 : decode cX6_pointInOrder 26 = .ok (.isub, 1) := by decide +kernel
theorem dX6_pointInOrder_27 : decode cX6_pointInOrder 27 = .ok (.invokevirtual 29, 3) := by decide +kernel
theorem dX6_pointInOrder_30 : decode cX6_pointInOrder 30 = .ok (.ifCond .eq 60, 3) := by decide +kernel
theorem dX6_pointInOrder_33 : decode cX6_pointInOrder 33 = .ok (.iload_n 2, 1) := by decide +kernel
theorem dX6_pointInOrder_34 : decode cX6_pointInOrder 34 = .ok (.aload_n 0, 1) := by decide +kernel
theorem dX6_pointInOrder_35 : decode cX6_pointInOrder 35 = .ok (.getfield 22, 3) := by decide +kernel
theorem dX6_pointInOrder_38 : decode cX6_pointInOrder 38 = .ok (.isub, 1) := by decide +kernel
theorem dX6_pointInOrder_39 : decode cX6_pointInOrder 39 = .ok (.istore 5, 2) := by decide +kernel
theorem dX6_pointInOrder_41 : decode cX6_pointInOrder 41 = .ok (.aload_n 0, 1) := by decide +kernel
theorem dX6_pointInOrder_42 : decode cX6_pointInOrder 42 = .ok (.aload_n 0, 1) := by decide +kernel
theorem dX6_pointInOrder_43 : decode cX6_pointInOrder 43 = .ok (.iload 5, 2) := by decide +kernel
theorem dX6_pointInOrder_45 : decode cX6_pointInOrder 45 = .ok (.invokevirtual 53, 3) := by decide +kernel
theorem dX6_pointInOrder_48 : decode cX6_pointInOrder 48 = .ok (.invokevirtual 39, 3) := by decide +kernel
theorem dX6_pointInOrder_51 : decode cX6_pointInOrder 51 = .ok (.invokestatic 56, 3) := by decide +kernel
theorem dX6_pointInOrder_54 : decode cX6_pointInOrder 54 = .ok (.istore 6, 2) := by decide +kernel
theorem dX6_pointInOrder_56 : decode cX6_pointInOrder 56 = .ok (.iload_n 3, 1) := by decide +kernel
theorem dX6_pointInOrder_57 : decode cX6_pointInOrder 57 = .ok (.iload 6, 2) := by decide +kernel
theorem dX6_pointInOrder_59 : decode cX6_pointInOrder 59 = .ok (.if_icmp .ge 13, 3) := by decide +kernel
theorem dX6_pointInOrder_62 : decode cX6_pointInOrder 62 = .ok (.aload_n 0, 1) := by decide +kernel
theorem dX6_pointInOrder_63 : decode cX6_pointInOrder 63 = .ok (.iload 5, 2) := by decide +kernel
theorem dX6_pointInOrder_65 : decode cX6_pointInOrder 65 = .ok (.invokevirtual 53, 3) := by decide +kernel
theorem dX6_pointInOrder_68 : decode cX6_pointInOrder 68 = .ok (.istore_n 2, 1) := by decide +kernel
theorem dX6_pointInOrder_69 : decode cX6_pointInOrder 69 = .ok (.goto 15, 3) := by decide +kernel
theorem dX6_pointInOrder_72 : decode cX6_pointInOrder 72 = .ok (.iload_n 3, 1) := by decide +kernel
theorem dX6_pointInOrder_73 : decode cX6_pointInOrder 73 = .ok (.iload 6, 2) := by decide +kernel
theorem dX6_pointInOrder_75 : decode cX6_pointInOrder 75 = .ok (.isub, 1) := by decide +kernel
theorem dX6_pointInOrder_76 : decode cX6_pointInOrder 76 = .ok (.istore_n 3, 1) := by decide +kernel
theorem dX6_pointInOrder_77 : decode cX6_pointInOrder 77 = .ok (.aload_n 0, 1) := by decide +kernel
theorem dX6_pointInOrder_78 : decode cX6_pointInOrder 78 = .ok (.iload 5, 2) := by decide +kernel
theorem dX6_pointInOrder_80 : decode cX6_pointInOrder 80 = .ok (.invokevirtual 61, 3) := by decide +kernel
theorem dX6_pointInOrder_83 : decode cX6_pointInOrder 83 = .ok (.istore_n 2, 1) := by decide +kernel
theorem dX6_pointInOrder_84 : decode cX6_pointInOrder 84 = .ok (.iinc 4 1, 3) := by decide +kernel
theorem dX6_pointInOrder_87 : decode cX6_pointInOrder 87 = .ok (.goto (-77), 3) := by decide +kernel
theorem dX6_pointInOrder_90 : decode cX6_pointInOrder 90 = .ok (.iload_n 2, 1) := by decide +kernel
theorem dX6_pointInOrder_91 : decode cX6_pointInOrder 91 = .ok (.ireturn, 1) := by decide +kernel
theorem dX6_cutBehind_0 : decode cX6_cutBehind 0 = .ok (.iconst 0, 1) := by decide +kernel
theorem dX6_cutBehind_1 : decode cX6_cutBehind 1 = .ok (.istore_n 2, 1) := by decide +kernel
theorem dX6_cutBehind_2 : decode cX6_cutBehind 2 = .ok (.iconst 0, 1) := by decide +kernel
theorem dX6_cutBehind_3 : decode cX6_cutBehind 3 = .ok (.istore_n 3, 1) := by decide +kernel
theorem dX6_cutBehind_4 : decode cX6_cutBehind 4 = .ok (.iconst 0, 1) := by decide +kernel
theorem dX6_cutBehind_5 : decode cX6_cutBehind 5 = .ok (.istore 4, 2) := by decide +kernel
theorem dX6_cutBehind_7 : decode cX6_cutBehind 7 = .ok (.iload 4, 2) := by decide +kernel
theorem dX6_cutBehind_9 : decode cX6_cutBehind 9 = .ok (.aload_n 0, 1) := by decide +kernel
theorem dX6_cutBehind_10 : decode cX6_cutBehind 10 = .ok (.getfield 22, 3) := by decide +kernel
theorem dX6_cutBehind_13 : decode cX6_cutBehind 13 = .ok (.if_icmp .ge 42, 3) := by decide +kernel
theorem dX6_cutBehind_16 : decode cX6_cutBehind 16 = .ok (.iload_n 3, 1) := by decide +kernel
theorem dX6_cutBehind_17 : decode cX6_cutBehind 17 = .ok (.iload 4, 2) := by decide +kernel
theorem dX6_cutBehind_19 : decode cX6_cutBehind 19 = .ok (.ishr, 1) := by decide +kernel
theorem dX6_cutBehind_20 : decode cX6_cutBehind 20 = .ok (.iconst 1, 1) := by decide +kernel
theorem dX6_cutBehind_21 : decode cX6_cutBehind 21 = .ok (.iand, 1) := by decide +kernel
theorem dX6_cutBehind_22 : decode cX6_cutBehind 22 = .ok (.ifCond .ne 27, 3) := by decide +kernel
theorem dX6_cutBehind_25 : decode cX6_cutBehind 25 = .ok (.aload_n 0, 1) := by decide +kernel
theorem dX6_cutBehind_26 : decode cX6_cutBehind 26 = .ok (.iload_n 1, 1) := by decide +kernel
theorem dX6_cutBehind_27 : decode cX6_cutBehind 27 = .ok (.iload 4, 2) := by decide +kernel
theorem dX6_cutBehind_29 : decode cX6_cutBehind 29 = .ok (.invokevirtual 64, 3) := by decide +kernel
theorem dX6_cutBehind_32 : decode cX6_cutBehind 32 = .ok (.istore 5, 2) := by decide +kernel
theorem dX6_cutBehind_34 : decode cX6_cutBehind 34 = .ok (.aload_n 0, 1) := by decide +kernel
theorem dX6_cutBehind_35 : decode cX6_cutBehind 35 = .ok (.iload 5, 2) := by decide +kernel
theorem dX6_cutBehind_37 : decode cX6_cutBehind 37 = .ok (.iload_n 2, 1) := by decide +kernel
theorem dX6_cutBehind_38 : decode cX6_cutBehind 38 = .ok (.invokevirtual 68, 3) := by decide +kernel
theorem dX6_cutBehind_41 : decode cX6_cutBehind 41 = .ok (.iload_n 3, 1) := by decide +kernel
theorem dX6_cutBehind_42 : decode cX6_cutBehind 42 = .ok (.iload 5, 2) := by decide +kernel
theorem dX6_cutBehind_44 : decode cX6_cutBehind 44 = .ok (.ior, 1) := by decide +kernel
theorem dX6_cutBehind_45 : decode cX6_cutBehind 45 = .ok (.istore_n 3, 1) := by decide +kernel
theorem dX6_cutBehind_46 : decode cX6_cutBehind 46 = .ok (.iinc 2 1, 3) := by decide +kernel
theorem dX6_cutBehind_49 : decode cX6_cutBehind 49 = .ok (.iinc 4 1, 3) := by decide +kernel
theorem dX6_cutBehind_52 : decode cX6_cutBehind 52 = .ok (.goto (-45), 3) := by decide +kernel
theorem dX6_cutBehind_55 : decode cX6_cutBehind 55 = .ok (.iload_n 2, 1) := by decide +kernel
theorem dX6_cutBehind_56 : decode cX6_cutBehind 56 = .ok (.ireturn, 1) := by decide +kernel
theorem dX6_clusterBehind_0 : decode cX6_clusterBehind 0 = .ok (.iconst 1, 1) := by decide +kernel
theorem dX6_clusterBehind_1 : decode cX6_clusterBehind 1 = .ok (.iload_n 2, 1) := by decide +kernel
theorem dX6_clusterBehind_2 : decode cX6_clusterBehind 2 = .ok (.ishl, 1) := by decide +kernel
theorem dX6_clusterBehind_3 : decode cX6_clusterBehind 3 = .ok (.istore_n 3, 1) := by decide +kernel
theorem dX6_clusterBehind_4 : decode cX6_clusterBehind 4 = .ok (.iconst 0, 1) := by decide +kernel
theorem dX6_clusterBehind_5 : decode cX6_clusterBehind 5 = .ok (.istore 4, 2) := by decide +kernel
theorem dX6_clusterBehind_7 : decode cX6_clusterBehind 7 = .ok (.iload 4, 2) := by decide +kernel
theorem dX6_clusterBehind_9 : decode cX6_clusterBehind 9 = .ok (.iload_n 1, 1) := by decide +kernel
theorem dX6_clusterBehind_10 : decode cX6_clusterBehind 10 = .ok (.if_icmp .ge 50, 3) := by decide +kernel
theorem dX6_clusterBehind_13 : decode cX6_clusterBehind 13 = .ok (.iload 4, 2) := by decide +kernel
theorem dX6_clusterBehind_15 : decode cX6_clusterBehind 15 = .ok (.aload_n 0, 1) := by decide +kernel
theorem dX6_clusterBehind_16 : decode cX6_clusterBehind 16 = .ok (.getfield 12, 3) := by decide +kernel
theorem dX6_clusterBehind_19 : decode cX6_clusterBehind 19 = .ok (.getfield 26, 3) := by decide +kernel
theorem dX6_clusterBehind_22 : decode cX6_clusterBehind 22 = .ok (.if_icmp .ge 38, 3) := by decide +kernel
theorem dX6_clusterBehind_25 : decode cX6_clusterBehind 25 = .ok (.aload_n 0, 1) := by decide +kernel
theorem dX6_clusterBehind_26 : decode cX6_clusterBehind 26 = .ok (.getfield 12, 3) := by decide +kernel
theorem dX6_clusterBehind_29 : decode cX6_clusterBehind 29 = .ok (.getfield 33, 3) := by decide +kernel
theorem dX6_clusterBehind_32 : decode cX6_clusterBehind 32 = .ok (.iload 4, 2) := by decide +kernel
theorem dX6_clusterBehind_34 : decode cX6_clusterBehind 34 = .ok (.iaload, 1) := by decide +kernel
theorem dX6_clusterBehind_35 : decode cX6_clusterBehind 35 = .ok (.iload_n 2, 1) := by decide +kernel
theorem dX6_clusterBehind_36 : decode cX6_clusterBehind 36 = .ok (.ishr, 1) := by decide +kernel
theorem dX6_clusterBehind_37 : decode cX6_clusterBehind 37 = .ok (.iconst 1, 1) := by decide +kernel
theorem dX6_clusterBehind_38 : decode cX6_clusterBehind 38 = .ok (.iand, 1) := by decide +kernel
theorem dX6_clusterBehind_39 : decode cX6_clusterBehind 39 = .ok (.iconst 1, 1) := by decide +kernel
theorem dX6_clusterBehind_40 : decode cX6_clusterBehind 40 = .ok (.if_icmp .ne 14, 3) := by decide +kernel
theorem dX6_clusterBehind_43 : decode cX6_clusterBehind 43 = .ok (.aload_n 0, 1) := by decide +kernel
theorem dX6_clusterBehind_44 : decode cX6_clusterBehind 44 = .ok (.getfield 12, 3) := by decide +kernel
theorem dX6_clusterBehind_47 : decode cX6_clusterBehind 47 = .ok (.getfield 33, 3) := by decide +kernel
theorem dX6_clusterBehind_50 : decode cX6_clusterBehind 50 = .ok (.iload 4, 2) := by decide +kernel
theorem dX6_clusterBehind_52 : decode cX6_clusterBehind 52 = .ok (.iaload, 1) := by decide +kernel
theorem dX6_clusterBehind_53 : decode cX6_clusterBehind 53 = .ok (.istore_n 3, 1) := by decide +kernel
theorem dX6_clusterBehind_54 : decode cX6_clusterBehind 54 = .ok (.iinc 4 1, 3) := by decide +kernel
theorem dX6_clusterBehind_57 : decode cX6_clusterBehind 57 = .ok (.goto (-50), 3) := by decide +kernel
theorem dX6_clusterBehind_60 : decode cX6_clusterBehind 60 = .ok (.iload_n 3, 1) := by decide +kernel
theorem dX6_clusterBehind_61 : decode cX6_clusterBehind 61 = .ok (.ireturn, 1) := by decide +kernel
theorem dX6_setLabels_0 : decode cX6_setLabels 0 = .ok (.iconst 0, 1) := by decide +kernel
theorem dX6_setLabels_1 : decode cX6_setLabels 1 = .ok (.istore_n 3, 1) := by decide +kernel
theorem dX6_setLabels_2 : decode cX6_setLabels 2 = .ok (.iload_n 3, 1) := by decide +kernel
theorem dX6_setLabels_3 : decode cX6_setLabels 3 = .ok (.aload_n 0, 1) := by decide +kernel
theorem dX6_setLabels_4 : decode cX6_setLabels 4 = .ok (.getfield 22, 3) := by decide +kernel
theorem dX6_setLabels_7 : decode cX6_setLabels 7 = .ok (.if_icmp .ge 25, 3) := by decide +kernel
theorem dX6_setLabels_10 : decode cX6_setLabels 10 = .ok (.iload_n 1, 1) := by decide +kernel
theorem dX6_setLabels_11 : decode cX6_setLabels 11 = .ok (.iload_n 3, 1) := by decide +kernel
theorem dX6_setLabels_12 : decode cX6_setLabels 12 = .ok (.ishr, 1) := by decide +kernel
theorem dX6_setLabels_13 : decode cX6_setLabels 13 = .ok (.iconst 1, 1) := by decide +kernel
theorem dX6_setLabels_14 : decode cX6_setLabels 14 = .ok (.iand, 1) := by decide +kernel
theorem dX6_setLabels_15 : decode cX6_setLabels 15 = .ok (.iconst 1, 1) := by decide +kernel
theorem dX6_setLabels_16 : decode cX6_setLabels 16 = .ok (.if_icmp .ne 10, 3) := by decide +kernel
theorem dX6_setLabels_19 : decode cX6_setLabels 19 = .ok (.aload_n 0, 1) := by decide +kernel
theorem dX6_setLabels_20 : decode cX6_setLabels 20 = .ok (.getfield 18, 3) := by decide +kernel
theorem dX6_setLabels_23 : decode cX6_setLabels 23 = .ok (.iload_n 3, 1) := by decide +kernel
theorem dX6_setLabels_24 : decode cX6_setLabels 24 = .ok (.iload_n 2, 1) := by decide +kernel
theorem dX6_setLabels_25 : decode cX6_setLabels 25 = .ok (.iastore, 1) := by decide +kernel
theorem dX6_setLabels_26 : decode cX6_setLabels 26 = .ok (.iinc 3 1, 3) := by decide +kernel
theorem dX6_setLabels_29 : decode cX6_setLabels 29 = .ok (.goto (-27), 3) := by decide +kernel
theorem dX6_setLabels_32 : decode cX6_setLabels 32 = .ok (.return_, 1) := by decide +kernel
theorem dX6_isTogether_0 : decode cX6_isTogether 0 = .ok (.aload_n 0, 1) := by decide +kernel
theorem dX6_isTogether_1 : decode cX6_isTogether 1 = .ok (.getfield 18, 3) := by decide +kernel
theorem dX6_isTogether_4 : decode cX6_isTogether 4 = .ok (.iload_n 1, 1) := by decide +kernel
theorem dX6_isTogether_5 : decode cX6_isTogether 5 = .ok (.iaload, 1) := by decide +kernel
theorem dX6_isTogether_6 : decode cX6_isTogether 6 = .ok (.aload_n 0, 1) := by decide +kernel
theorem dX6_isTogether_7 : decode cX6_isTogether 7 = .ok (.getfield 18, 3) := by decide +kernel
theorem dX6_isTogether_10 : decode cX6_isTogether 10 = .ok (.iload_n 2, 1) := by decide +kernel
theorem dX6_isTogether_11 : decode cX6_isTogether 11 = .ok (.iaload, 1) := by decide +kernel
theorem dX6_isTogether_12 : decode cX6_isTogether 12 = .ok (.if_icmp .ne 7, 3) := by decide +kernel
theorem dX6_isTogether_15 : decode cX6_isTogether 15 = .ok (.iconst 1, 1) := by decide +kernel
theorem dX6_isTogether_16 : decode cX6_isTogether 16 = .ok (.goto 4, 3) := by decide +kernel
theorem dX6_isTogether_19 : decode cX6_isTogether 19 = .ok (.iconst 0, 1) := by decide +kernel
theorem dX6_isTogether_20 : decode cX6_isTogether 20 = .ok (.ireturn, 1) := by decide +kernel
end
section
theorem dX7_init_0 : decode cX7_init 0 = .ok (.aload_n 0, 1) := by decide +kernel
theorem dX7_init_1 : decode cX7_init 1 = .ok (.invokespecial 3, 3) := by decide +kernel
theorem dX7_init_4 : decode cX7_init 4 = .ok (.aload_n 0, 1) := by decide +kernel
theorem dX7_init_5 : decode cX7_init 5 = .ok (.new 9, 3) := by decide +kernel
theorem dX7_init_8 : decode cX7_init 8 = .ok (.dup, 1) := by decide +kernel
theorem dX7_init_9 : decode cX7_init 9 = .ok (.invokespecial 11, 3) := by decide +kernel
theorem dX7_init_12 : decode cX7_init 12 = .ok (.putfield 12, 3) := by decide +kernel
theorem dX7_init_15 : decode cX7_init 15 = .ok (.aload_n 0, 1) := by decide +kernel
theorem dX7_init_16 : decode cX7_init 16 = .ok (.new 16, 3) := by decide +kernel
theorem dX7_init_19 : decode cX7_init 19 = .ok (.dup, 1) := by decide +kernel
theorem dX7_init_20 : decode cX7_init 20 = .ok (.invokespecial 18, 3) := by decide +kernel
theorem dX7_init_23 : decode cX7_init 23 = .ok (.putfield 19, 3) := by decide +kernel
theorem dX7_init_26 : decode cX7_init 26 = .ok (.aload_n 0, 1) := by decide +kernel
theorem dX7_init_27 : decode cX7_init 27 = .ok (.new 16, 3) := by decide +kernel
theorem dX7_init_30 : decode cX7_init 30 = .ok (.dup, 1) := by decide +kernel
theorem dX7_init_31 : decode cX7_init 31 = .ok (.invokespecial 18, 3) := by decide +kernel
theorem dX7_init_34 : decode cX7_init 34 = .ok (.putfield 23, 3) := by decide +kernel
theorem dX7_init_37 : decode cX7_init 37 = .ok (.aload_n 0, 1) := by decide +kernel
theorem dX7_init_38 : decode cX7_init 38 = .ok (.new 26, 3) := by decide +kernel
theorem dX7_init_41 : decode cX7_init 41 = .ok (.dup, 1) := by decide +kernel
theorem dX7_init_42 : decode cX7_init 42 = .ok (.invokespecial 28, 3) := by decide +kernel
theorem dX7_init_45 : decode cX7_init 45 = .ok (.putfield 29, 3) := by decide +kernel
theorem dX7_init_48 : decode cX7_init 48 = .ok (.aload_n 0, 1) := by decide +kernel
theorem dX7_init_49 : decode cX7_init 49 = .ok (.new 33, 3) := by decide +kernel
theorem dX7_init_52 : decode cX7_init 52 = .ok (.dup, 1) := by decide +kernel
theorem dX7_init_53 : decode cX7_init 53 = .ok (.invokespecial 35, 3) := by decide +kernel
theorem dX7_init_56 : decode cX7_init 56 = .ok (.putfield 36, 3) := by decide +kernel
theorem dX7_init_59 : decode cX7_init 59 = .ok (.aload_n 0, 1) := by decide +kernel
theorem dX7_init_60 : decode cX7_init 60 = .ok (.iconst 4, 1) := by decide +kernel
theorem dX7_init_61 : decode cX7_init 61 = .ok (.anewarray 40, 3) := by decide +kernel
theorem dX7_init_64 : decode cX7_init 64 = .ok (.putfield 42, 3) := by decide +kernel
theorem dX7_init_67 : decode cX7_init 67 = .ok (.iconst 0, 1) := by decide +kernel
theorem dX7_init_68 : decode cX7_init 68 = .ok (.istore_n 1, 1) := by decide +kernel
theorem dX7_init_69 : decode cX7_init 69 = .ok (.iload_n 1, 1) := by decide +kernel
theorem dX7_init_70 : decode cX7_init 70 = .ok (.iconst 4, 1) := by decide +kernel
theorem dX7_init_71 : decode cX7_init 71 = .ok (.if_icmp .ge 22, 3) := by decide +kernel
theorem dX7_init_74 : decode cX7_init 74 = .ok (.aload_n 0, 1) := by decide +kernel
theorem dX7_init_75 : decode cX7_init 75 = .ok (.getfield 42, 3) := by decide +kernel
theorem dX7_init_78 : decode cX7_init 78 = .ok (.iload_n 1, 1) := by decide +kernel
theorem dX7_init_79 : decode cX7_init 79 = .ok (.new 40, 3) := by decide +kernel
theorem dX7_init_82 : decode cX7_init 82 = .ok (.dup, 1) := by decide +kernel
theorem dX7_init_83 : decode cX7_init 83 = .ok (.invokespecial 46, 3) := by decide +kernel
theorem dX7_init_86 : decode cX7_init 86 = .ok (.aastore, 1) := by decide +kernel
theorem dX7_init_87 : decode cX7_init 87 = .ok (.iinc 1 1, 3) := by decide +kernel
theorem dX7_init_90 : decode cX7_init 90 = .ok (.goto (-21), 3) := by decide +kernel
theorem dX7_init_93 : decode cX7_init 93 = .ok (.return_, 1) := by decide +kernel
theorem dX7_points_0 : decode cX7_points 0 = .ok (.iload_n 1, 1) := by decide +kernel
theorem dX7_points_1 : decode cX7_points 1 = .ok (.ifCond .lt 9, 3) := by decide +kernel
theorem dX7_points_4 : decode cX7_points 4 = .ok (.iload_n 1, 1) := by decide +kernel
theorem dX7_points_5 : decode cX7_points 5 = .ok (.bipush 20, 2) := by decide +kernel
theorem dX7_points_7 : decode cX7_points 7 = .ok (.if_icmp .le 5, 3) := by decide +kernel
theorem dX7_points_10 : decode cX7_points 10 = .ok (.iconst (-1), 1) := by decide +kernel
theorem dX7_points_11 : decode cX7_points 11 = .ok (.ireturn, 1) := by decide +kernel
theorem dX7_points_12 : decode cX7_points 12 = .ok (.aload_n 0, 1) := by decide +kernel
theorem dX7_points_13 : decode cX7_points 13 = .ok (.getfield 12, 3) := by decide +kernel
theorem dX7_points_16 : decode cX7_points 16 = .ok (.iload_n 1, 1) := by decide +kernel
theorem dX7_points_17 : decode cX7_points 17 = .ok (.invokevirtual 47, 3) := by decide +kernel
theorem dX7_points_20 : decode cX7_points 20 = .ok (.iload_n 1, 1) := by decide +kernel
theorem dX7_points_21 : decode cX7_points 21 = .ok (.ireturn, 1) := by decide +kernel
theorem dX7_put_0 : decode cX7_put 0 = .ok (.aload_n 0, 1) := by decide +kernel
theorem dX7_put_1 : decode cX7_put 1 = .ok (.getfield 12, 3) := by decide +kernel
theorem dX7_put_4 : decode cX7_put 4 = .ok (.iload_n 1, 1) := by decide +kernel
theorem dX7_put_5 : decode cX7_put 5 = .ok (.invokevirtual 51, 3) := by decide +kernel
theorem dX7_put_8 : decode cX7_put 8 = .ok (.ifCond .eq 29, 3) := by decide +kernel
theorem dX7_put_11 : decode cX7_put 11 = .ok (.aload_n 0, 1) := by decide +kernel
theorem dX7_put_12 : decode cX7_put 12 = .ok (.getfield 12, 3) := by decide +kernel
theorem dX7_put_15 : decode cX7_put 15 = .ok (.iload_n 2, 1) := by decide +kernel
theorem dX7_put_16 : decode cX7_put 16 = .ok (.invokevirtual 51, 3) := by decide +kernel
theorem dX7_put_19 : decode cX7_put 19 = .ok (.ifCond .eq 18, 3) := by decide +kernel
theorem dX7_put_22 : decode cX7_put 22 = .ok (.iload_n 1, 1) := by decide +kernel
theorem dX7_put_23 : decode cX7_put 23 = .ok (.iload_n 2, 1) := by decide +kernel
theorem dX7_put_24 : decode cX7_put 24 = .ok (.if_icmp .eq 13, 3) := by decide +kernel
theorem dX7_put_27 : decode cX7_put 27 = .ok (.iload_n 3, 1) := by decide +kernel
theorem dX7_put_28 : decode cX7_put 28 = .ok (.ifCond .lt 9, 3) := by decide +kernel
theorem dX7_put_31 : decode cX7_put 31 = .ok (.iload_n 3, 1) := by decide +kernel
theorem dX7_put_32 : decode cX7_put 32 = .ok (.ldc 55, 2) := by decide +kernel
theorem dX7_put_34 : decode cX7_put 34 = .ok (.if_icmp .le 5, 3) := by decide +kernel
theorem dX7_put_37 : decode cX7_put 37 = .ok (.iconst 0, 1) := by decide +kernel
theorem dX7_put_38 : decode cX7_put 38 = .ok (.ireturn, 1) := by decide +kernel
theorem dX7_put_39 : decode cX7_put 39 = .ok (.aload_n 0, 1) := by decide +kernel
theorem dX7_put_40 : decode cX7_put 40 = .ok (.getfield 12, 3) := by decide +kernel
theorem dX7_put_43 : decode cX7_put 43 = .ok (.iload_n 1, 1) := by decide +kernel
theorem dX7_put_44 : decode cX7_put 44 = .ok (.iload_n 2, 1) := by decide +kernel
theorem dX7_put_45 : decode cX7_put 45 = .ok (.iload_n 3, 1) := by decide +kernel
theorem dX7_put_46 : decode cX7_put 46 = .ok (.invokevirtual 56, 3) := by decide +kernel
theorem dX7_put_49 : decode cX7_put 49 = .ok (.iconst 1, 1) := by decide +kernel
theorem dX7_put_50 : decode cX7_put 50 = .ok (.ireturn, 1) := by decide +kernel
theorem dX7_distance_0 : decode cX7_distance 0 = .ok (.aload_n 0, 1) := by decide +kernel
theorem dX7_distance_1 : decode cX7_distance 1 = .ok (.getfield 12, 3) := by decide +kernel
theorem dX7_distance_4 : decode cX7_distance 4 = .ok (.iload_n 1, 1) := by decide +kernel
theorem dX7_distance_5 : decode cX7_distance 5 = .ok (.invokevirtual 51, 3) := by decide +kernel
theorem dX7_distance_8 : decode cX7_distance 8 = .ok (.ifCond .eq 14, 3) := by decide +kernel
theorem dX7_distance_11 : decode cX7_distance 11 = .ok (.aload_n 0, 1) := by decide +kernel
theorem dX7_distance_12 : decode cX7_distance 12 = .ok (.getfield 12, 3) := by decide +kernel
theorem dX7_distance_15 : decode cX7_distance 15 = .ok (.iload_n 2, 1) := by decide +kernel
theorem dX7_distance_16 : decode cX7_distance 16 = .ok (.invokevirtual 51, 3) := by decide +kernel
theorem dX7_distance_19 : decode cX7_distance 19 = .ok (.ifCond .ne 5, 3) := by decide +kernel
theorem dX7_distance_22 : decode cX7_distance 22 = .ok (.iconst (-1), 1) := by decide +kernel
theorem dX7_distance_23 : decode cX7_distance 23 = .ok (.ireturn, 1) := by decide +kernel
theorem dX7_distance_24 : decode cX7_distance 24 = .ok (.aload_n 0, 1) := by decide +kernel
theorem dX7_distance_25 : decode cX7_distance 25 = .ok (.getfield 12, 3) := by decide +kernel
theorem dX7_distance_28 : decode cX7_distance 28 = .ok (.getfield 60, 3) := by decide +kernel
theorem dX7_distance_31 : decode cX7_distance 31 = .ok (.iload_n 1, 1) := by decide +kernel
theorem dX7_distance_32 : decode cX7_distance 32 = .ok (.aaload, 1) := by decide +kernel
theorem dX7_distance_33 : decode cX7_distance 33 = .ok (.iload_n 2, 1) := by decide +kernel
theorem dX7_distance_34 : decode cX7_distance 34 = .ok (.iaload, 1) := by decide +kernel
theorem dX7_distance_35 : decode cX7_distance 35 = .ok (.ireturn, 1) := by decide +kernel
theorem dX7_place_0 : decode cX7_place 0 = .ok (.aload_n 0, 1) := by decide +kernel
theorem dX7_place_1 : decode cX7_place 1 = .ok (.getfield 12, 3) := by decide +kernel
theorem dX7_place_4 : decode cX7_place 4 = .ok (.iload_n 1, 1) := by decide +kernel
theorem dX7_place_5 : decode cX7_place 5 = .ok (.invokevirtual 51, 3) := by decide +kernel
theorem dX7_place_8 : decode cX7_place 8 = .ok (.ifCond .eq 17, 3) := by decide +kernel
theorem dX7_place_11 : decode cX7_place 11 = .ok (.iload_n 2, 1) := by decide +kernel
theorem dX7_place_12 : decode cX7_place 12 = .ok (.invokestatic 64, 3) := by decide +kernel
theorem dX7_place_15 : decode cX7_place 15 = .ok (.ifCond .ne 10, 3) := by decide +kernel
theorem dX7_place_18 : decode cX7_place 18 = .ok (.iload_n 3, 1) := by decide +kernel
theorem dX7_place_19 : decode cX7_place 19 = .ok (.invokestatic 64, 3) := by decide +kernel
theorem dX7_place_22 : decode cX7_place 22 = .ok (.ifCond .eq 5, 3) := by decide +kernel
theorem dX7_place_25 : decode cX7_place 25 = .ok (.iconst 0, 1) := by decide +kernel
theorem dX7_place_26 : decode cX7_place 26 = .ok (.ireturn, 1) := by decide +kernel
theorem dX7_place_27 : decode cX7_place 27 = .ok (.aload_n 0, 1) := by decide +kernel
theorem dX7_place_28 : decode cX7_place 28 = .ok (.getfield 12, 3) := by decide +kernel
theorem dX7_place_31 : decode cX7_place 31 = .ok (.getfield 67, 3) := by decide +kernel
theorem dX7_place_34 : decode cX7_place 34 = .ok (.iload_n 1, 1) := by decide +kernel
theorem dX7_place_35 : decode cX7_place 35 = .ok (.iload_n 2, 1) := by decide +kernel
theorem dX7_place_36 : decode cX7_place 36 = .ok (.iastore, 1) := by decide +kernel
theorem dX7_place_37 : decode cX7_place 37 = .ok (.aload_n 0, 1) := by decide +kernel
theorem dX7_place_38 : decode cX7_place 38 = .ok (.getfield 12, 3) := by decide +kernel
theorem dX7_place_41 : decode cX7_place 41 = .ok (.getfield 71, 3) := by decide +kernel
theorem dX7_place_44 : decode cX7_place 44 = .ok (.iload_n 1, 1) := by decide +kernel
theorem dX7_place_45 : decode cX7_place 45 = .ok (.iload_n 3, 1) := by decide +kernel
theorem dX7_place_46 : decode cX7_place 46 = .ok (.iastore, 1) := by decide +kernel
theorem dX7_place_47 : decode cX7_place 47 = .ok (.iconst 1, 1) := by decide +kernel
theorem dX7_place_48 : decode cX7_place 48 = .ok (.ireturn, 1) := by decide +kernel
theorem dX7_measure_0 : decode cX7_measure 0 = .ok (.iload_n 1, 1) := by decide +kernel
theorem dX7_measure_1 : decode cX7_measure 1 = .ok (.ifCond .lt 8, 3) := by decide +kernel
theorem dX7_measure_4 : decode cX7_measure 4 = .ok (.iload_n 1, 1) := by decide +kernel
theorem dX7_measure_5 : decode cX7_measure 5 = .ok (.iconst 2, 1) := by decide +kernel
theorem dX7_measure_6 : decode cX7_measure 6 = .ok (.if_icmp .le 5, 3) := by decide +kernel
theorem dX7_measure_9 : decode cX7_measure 9 = .ok (.iconst 0, 1) := by decide +kernel
theorem dX7_measure_10 : decode cX7_measure 10 = .ok (.ireturn, 1) := by decide +kernel
theorem dX7_measure_11 : decode cX7_measure 11 = .ok (.aload_n 0, 1) := by decide +kernel
theorem dX7_measure_12 : decode cX7_measure 12 = .ok (.getfield 12, 3) := by decide +kernel
theorem dX7_measure_15 : decode cX7_measure 15 = .ok (.iload_n 1, 1) := by decide +kernel
theorem dX7_measure_16 : decode cX7_measure 16 = .ok (.invokevirtual 74, 3) := by decide +kernel
theorem dX7_measure_19 : decode cX7_measure 19 = .ok (.iconst 1, 1) := by decide +kernel
theorem dX7_measure_20 : decode cX7_measure 20 = .ok (.ireturn, 1) := by decide +kernel
theorem dX7_feed_0 : decode cX7_feed 0 = .ok (.aload_n 0, 1) := by decide +kernel
theorem dX7_feed_1 : decode cX7_feed 1 = .ok (.getfield 19, 3) := by decide +kernel
theorem dX7_feed_4 : decode cX7_feed 4 = .ok (.getfield 77, 3) := by decide +kernel
theorem dX7_feed_7 : decode cX7_feed 7 = .ok (.bipush 20, 2) := by decide +kernel
theorem dX7_feed_9 : decode cX7_feed 9 = .ok (.iadd, 1) := by decide +kernel
theorem dX7_feed_10 : decode cX7_feed 10 = .ok (.sipush 2400, 3) := by decide +kernel
theorem dX7_feed_13 : decode cX7_feed 13 = .ok (.if_icmp .le 5, 3) := by decide +kernel
theorem dX7_feed_16 : decode cX7_feed 16 = .ok (.iconst (-1), 1) := by decide +kernel
theorem dX7_feed_17 : decode cX7_feed 17 = .ok (.ireturn, 1) := by decide +kernel
theorem dX7_feed_18 : decode cX7_feed 18 = .ok (.aload_n 0, 1) := by decide +kernel
theorem dX7_feed_19 : decode cX7_feed 19 = .ok (.getfield 19, 3) := by decide +kernel
theorem dX7_feed_22 : decode cX7_feed 22 = .ok (.iload_n 1, 1) := by decide +kernel
theorem dX7_feed_23 : decode cX7_feed 23 = .ok (.invokevirtual 81, 3) := by decide +kernel
theorem dX7_feed_26 : decode cX7_feed 26 = .ok (.aload_n 0, 1) := by decide +kernel
theorem dX7_feed_27 : decode cX7_feed 27 = .ok (.getfield 19, 3) := by decide +kernel
theorem dX7_feed_30 : decode cX7_feed 30 = .ok (.iload_n 2, 1) := by decide +kernel
theorem dX7_feed_31 : decode cX7_feed 31 = .ok (.invokevirtual 81, 3) := by decide +kernel
theorem dX7_feed_34 : decode cX7_feed 34 = .ok (.aload_n 0, 1) := by decide +kernel
theorem dX7_feed_35 : decode cX7_feed 35 = .ok (.getfield 19, 3) := by decide +kernel
theorem dX7_feed_38 : decode cX7_feed 38 = .ok (.iload_n 3, 1) := by decide +kernel
theorem dX7_feed_39 : decode cX7_feed 39 = .ok (.invokevirtual 81, 3) := by decide +kernel
theorem dX7_feed_42 : decode cX7_feed 42 = .ok (.aload_n 0, 1) := by decide +kernel
theorem dX7_feed_43 : decode cX7_feed 43 = .ok (.getfield 19, 3) := by decide +kernel
theorem dX7_feed_46 : decode cX7_feed 46 = .ok (.iload 4, 2) := by decide +kernel
theorem dX7_feed_48 : decode cX7_feed 48 = .ok (.invokevirtual 81, 3) := by decide +kernel
theorem dX7_feed_51 : decode cX7_feed 51 = .ok (.aload_n 0, 1) := by decide +kernel
theorem dX7_feed_52 : decode cX7_feed 52 = .ok (.getfield 19, 3) := by decide +kernel
theorem dX7_feed_55 : decode cX7_feed 55 = .ok (.iload 5, 2) := by decide +kernel
theorem dX7_feed_57 : decode cX7_feed 57 = .ok (.invokevirtual 81, 3) := by decide +kernel
theorem dX7_feed_60 : decode cX7_feed 60 = .ok (.aload_n 0, 1) := by decide +kernel
theorem dX7_feed_61 : decode cX7_feed 61 = .ok (.getfield 19, 3) := by decide +kernel
theorem dX7_feed_64 : decode cX7_feed 64 = .ok (.getfield 77, 3) := by decide +kernel
theorem dX7_feed_67 : decode cX7_feed 67 = .ok (.ireturn, 1) := by decide +kernel
theorem dX7_end_0 : decode cX7_end 0 = .ok (.iload_n 1, 1) := by decide +kernel
theorem dX7_end_1 : decode cX7_end 1 = .ok (.ifCond .lt 14, 3) := by decide +kernel
theorem dX7_end_4 : decode cX7_end 4 = .ok (.iload_n 1, 1) := by decide +kernel
theorem dX7_end_5 : decode cX7_end 5 = .ok (.aload_n 0, 1) := by decide +kernel
theorem dX7_end_6 : decode cX7_end 6 = .ok (.getfield 19, 3) := by decide +kernel
theorem dX7_end_9 : decode cX7_end 9 = .ok (.getfield 77, 3) := by decide +kernel
theorem dX7_end_12 : decode cX7_end 12 = .ok (.if_icmp .le 5, 3) := by decide +kernel
theorem dX7_end_15 : decode cX7_end 15 = .ok (.iconst (-1), 1) := by decide +kernel
theorem dX7_end_16 : decode cX7_end 16 = .ok (.ireturn, 1) := by decide +kernel
theorem dX7_end_17 : decode cX7_end 17 = .ok (.aload_n 0, 1) := by decide +kernel
theorem dX7_end_18 : decode cX7_end 18 = .ok (.getfield 19, 3) := by decide +kernel
theorem dX7_end_21 : decode cX7_end 21 = .ok (.iload_n 1, 1) := by decide +kernel
theorem dX7_end_22 : decode cX7_end 22 = .ok (.putfield 77, 3) := by decide +kernel
theorem dX7_end_25 : decode cX7_end 25 = .ok (.iload_n 1, 1) := by decide +kernel
theorem dX7_end_26 : decode cX7_end 26 = .ok (.ireturn, 1) := by decide +kernel
theorem dX7_take_0 : decode cX7_take 0 = .ok (.aload_n 0, 1) := by decide +kernel
theorem dX7_take_1 : decode cX7_take 1 = .ok (.getfield 19, 3) := by decide +kernel
theorem dX7_take_4 : decode cX7_take 4 = .ok (.aload_n 0, 1) := by decide +kernel
theorem dX7_take_5 : decode cX7_take 5 = .ok (.getfield 23, 3) := by decide +kernel
theorem dX7_take_8 : decode cX7_take 8 = .ok (.invokevirtual 84, 3) := by decide +kernel
theorem dX7_take_11 : decode cX7_take 11 = .ok (.aload_n 0, 1) := by decide +kernel
theorem dX7_take_12 : decode cX7_take 12 = .ok (.getfield 19, 3) := by decide +kernel
theorem dX7_take_15 : decode cX7_take 15 = .ok (.getfield 77, 3) := by decide +kernel
theorem dX7_take_18 : decode cX7_take 18 = .ok (.ireturn, 1) := by decide +kernel
theorem dX7_read_0 : decode cX7_read 0 = .ok (.aload_n 0, 1) := by decide +kernel
theorem dX7_read_1 : decode cX7_read 1 = .ok (.getfield 29, 3) := by decide +kernel
theorem dX7_read_4 : decode cX7_read 4 = .ok (.aload_n 0, 1) := by decide +kernel
theorem dX7_read_5 : decode cX7_read 5 = .ok (.getfield 19, 3) := by decide +kernel
theorem dX7_read_8 : decode cX7_read 8 = .ok (.invokevirtual 88, 3) := by decide +kernel
theorem dX7_read_11 : decode cX7_read 11 = .ok (.istore_n 1, 1) := by decide +kernel
theorem dX7_read_12 : decode cX7_read 12 = .ok (.aload_n 0, 1) := by decide +kernel
theorem dX7_read_13 : decode cX7_read 13 = .ok (.getfield 19, 3) := by decide +kernel
theorem dX7_read_16 : decode cX7_read 16 = .ok (.iconst 0, 1) := by decide +kernel
theorem dX7_read_17 : decode cX7_read 17 = .ok (.putfield 77, 3) := by decide +kernel
theorem dX7_read_20 : decode cX7_read 20 = .ok (.iload_n 1, 1) := by decide +kernel
theorem dX7_read_21 : decode cX7_read 21 = .ok (.ifCond .ne 5, 3) := by decide +kernel
theorem dX7_read_24 : decode cX7_read 24 = .ok (.iconst (-1), 1) := by decide +kernel
theorem dX7_read_25 : decode cX7_read 25 = .ok (.ireturn, 1) := by decide +kernel
theorem dX7_read_26 : decode cX7_read 26 = .ok (.aload_n 0, 1) := by decide +kernel
theorem dX7_read_27 : decode cX7_read 27 = .ok (.getfield 12, 3) := by decide +kernel
theorem dX7_read_30 : decode cX7_read 30 = .ok (.aload_n 0, 1) := by decide +kernel
theorem dX7_read_31 : decode cX7_read 31 = .ok (.getfield 29, 3) := by decide +kernel
theorem dX7_read_34 : decode cX7_read 34 = .ok (.getfield 92, 3) := by decide +kernel
theorem dX7_read_37 : decode cX7_read 37 = .ok (.iconst 0, 1) := by decide +kernel
theorem dX7_read_38 : decode cX7_read 38 = .ok (.iaload, 1) := by decide +kernel
theorem dX7_read_39 : decode cX7_read 39 = .ok (.invokevirtual 47, 3) := by decide +kernel
theorem dX7_read_42 : decode cX7_read 42 = .ok (.iconst 1, 1) := by decide +kernel
theorem dX7_read_43 : decode cX7_read 43 = .ok (.istore_n 2, 1) := by decide +kernel
theorem dX7_read_44 : decode cX7_read 44 = .ok (.iconst 1, 1) := by decide +kernel
theorem dX7_read_45 : decode cX7_read 45 = .ok (.istore_n 3, 1) := by decide +kernel
theorem dX7_read_46 : decode cX7_read 46 = .ok (.iload_n 3, 1) := by decide +kernel
theorem dX7_read_47 : decode cX7_read 47 = .ok (.aload_n 0, 1) := by decide +kernel
theorem dX7_read_48 : decode cX7_read 48 = .ok (.getfield 12, 3) := by decide +kernel
theorem dX7_read_51 : decode cX7_read 51 = .ok (.getfield 95, 3) := by decide +kernel
theorem dX7_read_54 : decode cX7_read 54 = .ok (.if_icmp .ge 46, 3) := by decide +kernel
theorem dX7_read_57 : decode cX7_read 57 = .ok (.iconst 0, 1) := by decide +kernel
theorem dX7_read_58 : decode cX7_read 58 = .ok (.istore 4, 2) := by decide +kernel
theorem dX7_read_60 : decode cX7_read 60 = .ok (.iload 4, 2) := by decide +kernel
theorem dX7_read_62 : decode cX7_read 62 = .ok (.iload_n 3, 1) := by decide +kernel
theorem dX7_read_63 : decode cX7_read 63 = .ok (.if_icmp .ge 31, 3) := by decide +kernel
theorem dX7_read_66 : decode cX7_read 66 = .ok (.aload_n 0, 1) := by decide +kernel
theorem dX7_read_67 : decode cX7_read 67 = .ok (.getfield 12, 3) := by decide +kernel
theorem dX7_read_70 : decode cX7_read 70 = .ok (.iload_n 3, 1) := by decide +kernel
theorem dX7_read_71 : decode cX7_read 71 = .ok (.iload 4, 2) := by decide +kernel
theorem dX7_read_73 : decode cX7_read 73 = .ok (.aload_n 0, 1) := by decide +kernel
theorem dX7_read_74 : decode cX7_read 74 = .ok (.getfield 29, 3) := by decide +kernel
theorem dX7_read_77 : decode cX7_read 77 = .ok (.getfield 92, 3) := by decide +kernel
theorem dX7_read_80 : decode cX7_read 80 = .ok (.iload_n 2, 1) := by decide +kernel
theorem dX7_read_81 : decode cX7_read 81 = .ok (.iaload, 1) := by decide +kernel
theorem dX7_read_82 : decode cX7_read 82 = .ok (.invokevirtual 56, 3) := by decide +kernel
theorem dX7_read_85 : decode cX7_read 85 = .ok (.iinc 2 1, 3) := by decide +kernel
theorem dX7_read_88 : decode cX7_read 88 = .ok (.iinc 4 1, 3) := by decide +kernel
theorem dX7_read_91 : decode cX7_read 91 = .ok (.goto (-31), 3) := by decide +kernel
theorem dX7_read_94 : decode cX7_read 94 = .ok (.iinc 3 1, 3) := by decide +kernel
theorem dX7_read_97 : decode cX7_read 97 = .ok (.goto (-51), 3) := by decide +kernel
theorem dX7_read_100 : decode cX7_read 100 = .ok (.aload_n 0, 1) := by decide +kernel
theorem dX7_read_101 : decode cX7_read 101 = .ok (.getfield 12, 3) := by decide +kernel
theorem dX7_read_104 : decode cX7_read 104 = .ok (.getfield 95, 3) := by decide +kernel
theorem dX7_read_107 : decode cX7_read 107 = .ok (.ireturn, 1) := by decide +kernel
theorem dX7_fault_0 : decode cX7_fault 0 = .ok (.aload_n 0, 1) := by decide +kernel
theorem dX7_fault_1 : decode cX7_fault 1 = .ok (.getfield 29, 3) := by decide +kernel
theorem dX7_fault_4 : decode cX7_fault 4 = .ok (.getfield 98, 3) := by decide +kernel
theorem dX7_fault_7 : decode cX7_fault 7 = .ok (.ireturn, 1) := by decide +kernel
theorem dX7_write_0 : decode cX7_write 0 = .ok (.aload_n 0, 1) := by decide +kernel
theorem dX7_write_1 : decode cX7_write 1 = .ok (.getfield 23, 3) := by decide +kernel
theorem dX7_write_4 : decode cX7_write 4 = .ok (.iconst 0, 1) := by decide +kernel
theorem dX7_write_5 : decode cX7_write 5 = .ok (.putfield 77, 3) := by decide +kernel
theorem dX7_write_8 : decode cX7_write 8 = .ok (.aload_n 0, 1) := by decide +kernel
theorem dX7_write_9 : decode cX7_write 9 = .ok (.getfield 23, 3) := by decide +kernel
theorem dX7_write_12 : decode cX7_write 12 = .ok (.aload_n 0, 1) := by decide +kernel
theorem dX7_write_13 : decode cX7_write 13 = .ok (.getfield 12, 3) := by decide +kernel
theorem dX7_write_16 : decode cX7_write 16 = .ok (.getfield 95, 3) := by decide +kernel
theorem dX7_write_19 : decode cX7_write 19 = .ok (.i2l, 1) := by decide +kernel
theorem dX7_write_20 : decode cX7_write 20 = .ok (.invokevirtual 101, 3) := by decide +kernel
theorem dX7_write_23 : decode cX7_write 23 = .ok (.iconst 1, 1) := by decide +kernel
theorem dX7_write_24 : decode cX7_write 24 = .ok (.istore_n 1, 1) := by decide +kernel
theorem dX7_write_25 : decode cX7_write 25 = .ok (.iload_n 1, 1) := by decide +kernel
theorem dX7_write_26 : decode cX7_write 26 = .ok (.aload_n 0, 1) := by decide +kernel
theorem dX7_write_27 : decode cX7_write 27 = .ok (.getfield 12, 3) := by decide +kernel
theorem dX7_write_30 : decode cX7_write 30 = .ok (.getfield 95, 3) := by decide +kernel
theorem dX7_write_33 : decode cX7_write 33 = .ok (.if_icmp .ge 50, 3) := by decide +kernel
theorem dX7_write_36 : decode cX7_write 36 = .ok (.iconst 0, 1) := by decide +kernel
theorem dX7_write_37 : decode cX7_write 37 = .ok (.istore_n 2, 1) := by decide +kernel
theorem dX7_write_38 : decode cX7_write 38 = .ok (.iload_n 2, 1) := by decide +kernel
theorem dX7_write_39 : decode cX7_write 39 = .ok (.iload_n 1, 1) := by decide +kernel
theorem dX7_write_40 : decode cX7_write 40 = .ok (.if_icmp .ge 37, 3) := by decide +kernel
theorem dX7_write_43 : decode cX7_write 43 = .ok (.aload_n 0, 1) := by decide +kernel
theorem dX7_write_44 : decode cX7_write 44 = .ok (.getfield 23, 3) := by decide +kernel
theorem dX7_write_47 : decode cX7_write 47 = .ok (.bipush 32, 2) := by decide +kernel
theorem dX7_write_49 : decode cX7_write 49 = .ok (.invokevirtual 105, 3) := by decide +kernel
theorem dX7_write_52 : decode cX7_write 52 = .ok (.aload_n 0, 1) := by decide +kernel
theorem dX7_write_53 : decode cX7_write 53 = .ok (.getfield 23, 3) := by decide +kernel
theorem dX7_write_56 : decode cX7_write 56 = .ok (.aload_n 0, 1) := by decide +kernel
theorem dX7_write_57 : decode cX7_write 57 = .ok (.getfield 12, 3) := by decide +kernel
theorem dX7_write_60 : decode cX7_write 60 = .ok (.getfield 60, 3) := by decide +kernel
theorem dX7_write_63 : decode cX7_write 63 = .ok (.iload_n 1, 1) := by decide +kernel
theorem dX7_write_64 : decode cX7_write 64 = .ok (.aaload, 1) := by decide +kernel
theorem dX7_write_65 : decode cX7_write 65 = .ok (.iload_n 2, 1) := by decide +kernel
theorem dX7_write_66 : decode cX7_write 66 = .ok (.iaload, 1) := by decide +kernel
theorem dX7_write_67 : decode cX7_write 67 = .ok (.i2l, 1) := by decide +kernel
theorem dX7_write_68 : decode cX7_write 68 = .ok (.invokevirtual 101, 3) := by decide +kernel
theorem dX7_write_71 : decode cX7_write 71 = .ok (.iinc 2 1, 3) := by decide +kernel
theorem dX7_write_74 : decode cX7_write 74 = .ok (.goto (-36), 3) := by decide +kernel
theorem dX7_write_77 : decode cX7_write 77 = .ok (.iinc 1 1, 3) := by decide +kernel
theorem dX7_write_80 : decode cX7_write 80 = .ok (.goto (-55), 3) := by decide +kernel
theorem dX7_write_83 : decode cX7_write 83 = .ok (.aload_n 0, 1) := by decide +kernel
theorem dX7_write_84 : decode cX7_write 84 = .ok (.getfield 23, 3) := by decide +kernel
theorem dX7_write_87 : decode cX7_write 87 = .ok (.getfield 77, 3) := by decide +kernel
theorem dX7_write_90 : decode cX7_write 90 = .ok (.ireturn, 1) := by decide +kernel
theorem dX7_out_0 : decode cX7_out 0 = .ok (.aload_n 0, 1) := by decide +kernel
theorem dX7_out_1 : decode cX7_out 1 = .ok (.getfield 23, 3) := by decide +kernel
theorem dX7_out_4 : decode cX7_out 4 = .ok (.iload_n 1, 1) := by decide +kernel
theorem dX7_out_5 : decode cX7_out 5 = .ok (.invokevirtual 108, 3) := by decide +kernel
theorem dX7_out_8 : decode cX7_out 8 = .ok (.ireturn, 1) := by decide +kernel
theorem dX7_linkage_0 : decode cX7_linkage 0 = .ok (.iload_n 2, 1) := by decide +kernel
theorem dX7_linkage_1 : decode cX7_linkage 1 = .ok (.aload_n 0, 1) := by decide +kernel
theorem dX7_linkage_2 : decode cX7_linkage 2 = .ok (.getfield 12, 3) := by decide +kernel
theorem dX7_linkage_5 : decode cX7_linkage 5 = .ok (.invokevirtual 112, 3) := by decide +kernel
theorem dX7_linkage_8 : decode cX7_linkage 8 = .ok (.iand, 1) := by decide +kernel
theorem dX7_linkage_9 : decode cX7_linkage 9 = .ok (.istore 5, 2) := by decide +kernel
theorem dX7_linkage_11 : decode cX7_linkage 11 = .ok (.iload_n 3, 1) := by decide +kernel
theorem dX7_linkage_12 : decode cX7_linkage 12 = .ok (.aload_n 0, 1) := by decide +kernel
theorem dX7_linkage_13 : decode cX7_linkage 13 = .ok (.getfield 12, 3) := by decide +kernel
theorem dX7_linkage_16 : decode cX7_linkage 16 = .ok (.invokevirtual 112, 3) := by decide +kernel
theorem dX7_linkage_19 : decode cX7_linkage 19 = .ok (.iand, 1) := by decide +kernel
theorem dX7_linkage_20 : decode cX7_linkage 20 = .ok (.istore 6, 2) := by decide +kernel
theorem dX7_linkage_22 : decode cX7_linkage 22 = .ok (.iload_n 1, 1) := by decide +kernel
theorem dX7_linkage_23 : decode cX7_linkage 23 = .ok (.ifCond .lt 19, 3) := by decide +kernel
theorem dX7_linkage_26 : decode cX7_linkage 26 = .ok (.iload_n 1, 1) := by decide +kernel
theorem dX7_linkage_27 : decode cX7_linkage 27 = .ok (.iconst 3, 1) := by decide +kernel
theorem dX7_linkage_28 : decode cX7_linkage 28 = .ok (.if_icmp .gt 14, 3) := by decide +kernel
theorem dX7_linkage_31 : decode cX7_linkage 31 = .ok (.iload 4, 2) := by decide +kernel
theorem dX7_linkage_33 : decode cX7_linkage 33 = .ok (.ifCond .lt 9, 3) := by decide +kernel
theorem dX7_linkage_36 : decode cX7_linkage 36 = .ok (.iload 4, 2) := by decide +kernel
theorem dX7_linkage_38 : decode cX7_linkage 38 = .ok (.iconst 1, 1) := by decide +kernel
theorem dX7_linkage_39 : decode cX7_linkage 39 = .ok (.if_icmp .le 7, 3) := by decide +kernel
theorem dX7_linkage_42 : decode cX7_linkage 42 = .ok (.ldc2_w 116, 3) := by decide +kernel
theorem dX7_linkage_45 : decode cX7_linkage 45 = .ok (.lreturn, 1) := by decide +kernel
theorem dX7_linkage_46 : decode cX7_linkage 46 = .ok (.iload 5, 2) := by decide +kernel
theorem dX7_linkage_48 : decode cX7_linkage 48 = .ok (.ifCond .eq 16, 3) := by decide +kernel
theorem dX7_linkage_51 : decode cX7_linkage 51 = .ok (.iload 6, 2) := by decide +kernel
theorem dX7_linkage_53 : decode cX7_linkage 53 = .ok (.ifCond .eq 11, 3) := by decide +kernel
theorem dX7_linkage_56 : decode cX7_linkage 56 = .ok (.iload 5, 2) := by decide +kernel
theorem dX7_linkage_58 : decode cX7_linkage 58 = .ok (.iload 6, 2) := by decide +kernel
theorem dX7_linkage_60 : decode cX7_linkage 60 = .ok (.iand, 1) := by decide +kernel
theorem dX7_linkage_61 : decode cX7_linkage 61 = .ok (.ifCond .eq 7, 3) := by decide +kernel
theorem dX7_linkage_64 : decode cX7_linkage 64 = .ok (.ldc2_w 116, 3) := by decide +kernel
theorem dX7_linkage_67 : decode cX7_linkage 67 = .ok (.lreturn, 1) := by decide +kernel
theorem dX7_linkage_68 : decode cX7_linkage 68 = .ok (.iload 5, 2) := by decide +kernel
theorem dX7_linkage_70 : decode cX7_linkage 70 = .ok (.invokestatic 118, 3) := by decide +kernel
theorem dX7_linkage_73 : decode cX7_linkage 73 = .ok (.istore 7, 2) := by decide +kernel
theorem dX7_linkage_75 : decode cX7_linkage 75 = .ok (.iload 6, 2) := by decide +kernel
theorem dX7_linkage_77 : decode cX7_linkage 77 = .ok (.invokestatic 118, 3) := by decide +kernel
theorem dX7_linkage_80 : decode cX7_linkage 80 = .ok (.istore 8, 2) := by decide +kernel
theorem dX7_linkage_82 : decode cX7_linkage 82 = .ok (.aload_n 0, 1) := by decide +kernel
theorem dX7_linkage_83 : decode cX7_linkage 83 = .ok (.getfield 12, 3) := by decide +kernel
theorem dX7_linkage_86 : decode cX7_linkage 86 = .ok (.iload_n 1, 1) := by decide +kernel
theorem dX7_linkage_87 : decode cX7_linkage 87 = .ok (.iload 5, 2) := by decide +kernel
theorem dX7_linkage_89 : decode cX7_linkage 89 = .ok (.iload 6, 2) := by decide +kernel
theorem dX7_linkage_91 : decode cX7_linkage 91 = .ok (.invokevirtual 123, 3) := by decide +kernel
theorem dX7_linkage_94 : decode cX7_linkage 94 = .ok (.lstore 9, 2) := by decide +kernel
theorem dX7_linkage_96 : decode cX7_linkage 96 = .ok (.iload_n 1, 1) := by decide +kernel
theorem dX7_linkage_97 : decode cX7_linkage 97 = .ok (.iload 7, 2) := by decide +kernel
theorem dX7_linkage_99 : decode cX7_linkage 99 = .ok (.iload 8, 2) := by decide +kernel
theorem dX7_linkage_101 : decode cX7_linkage 101 = .ok (.invokestatic 127, 3) := by decide +kernel
theorem dX7_linkage_104 : decode cX7_linkage 104 = .ok (.lstore 11, 2) := by decide +kernel
theorem dX7_linkage_106 : decode cX7_linkage 106 = .ok (.iload_n 1, 1) := by decide +kernel
theorem dX7_linkage_107 : decode cX7_linkage 107 = .ok (.iconst 3, 1) := by decide +kernel
theorem dX7_linkage_108 : decode cX7_linkage 108 = .ok (.if_icmp .ne 33, 3) := by decide +kernel
theorem dX7_linkage_111 : decode cX7_linkage 111 = .ok (.lload 9, 2) := by decide +kernel
theorem dX7_linkage_113 : decode cX7_linkage 113 = .ok (.iload 7, 2) := by decide +kernel
theorem dX7_linkage_115 : decode cX7_linkage 115 = .ok (.iload 8, 2) := by decide +kernel
theorem dX7_linkage_117 : decode cX7_linkage 117 = .ok (.aload_n 0, 1) := by decide +kernel
theorem dX7_linkage_118 : decode cX7_linkage 118 = .ok (.getfield 12, 3) := by decide +kernel
theorem dX7_linkage_121 : decode cX7_linkage 121 = .ok (.iload 5, 2) := by decide +kernel
theorem dX7_linkage_123 : decode cX7_linkage 123 = .ok (.invokevirtual 132, 3) := by decide +kernel
theorem dX7_linkage_126 : decode cX7_linkage 126 = .ok (.aload_n 0, 1) := by decide +kernel
theorem dX7_linkage_127 : decode cX7_linkage 127 = .ok (.getfield 12, 3) := by decide +kernel
theorem dX7_linkage_130 : decode cX7_linkage 130 = .ok (.iload 6, 2) := by decide +kernel
theorem dX7_linkage_132 : decode cX7_linkage 132 = .ok (.invokevirtual 132, 3) := by decide +kernel
theorem dX7_linkage_135 : decode cX7_linkage 135 = .ok (.invokestatic 136, 3) := by decide +kernel
theorem dX7_linkage_138 : decode cX7_linkage 138 = .ok (.goto 5, 3) := by decide +kernel
theorem dX7_linkage_141 : decode cX7_linkage 141 = .ok (.lload 9, 2) := by decide +kernel
theorem dX7_linkage_143 : decode cX7_linkage 143 = .ok (.lstore 13, 2) := by decide +kernel
theorem dX7_linkage_145 : decode cX7_linkage 145 = .ok (.iload 4, 2) := by decide +kernel
theorem dX7_linkage_147 : decode cX7_linkage 147 = .ok (.ifCond .ne 8, 3) := by decide +kernel
theorem dX7_linkage_150 : decode cX7_linkage 150 = .ok (.lload 13, 2) := by decide +kernel
theorem dX7_linkage_152 : decode cX7_linkage 152 = .ok (.goto 5, 3) := by decide +kernel
theorem dX7_linkage_155 : decode cX7_linkage 155 = .ok (.lload 11, 2) := by decide +kernel
theorem dX7_linkage_157 : decode cX7_linkage 157 = .ok (.lload 13, 2) := by decide +kernel
theorem dX7_linkage_159 : decode cX7_linkage 159 = .ok (.lload 11, 2) := by decide +kernel
theorem dX7_linkage_161 : decode cX7_linkage 161 = .ok (.invokestatic 140, 3) := by decide +kernel
theorem dX7_linkage_164 : decode cX7_linkage 164 = .ok (.invokestatic 144, 3) := by decide +kernel
theorem dX7_linkage_167 : decode cX7_linkage 167 = .ok (.lreturn, 1) := by decide +kernel
theorem dX7_greedy_0 : decode cX7_greedy 0 = .ok (.aload_n 0, 1) := by decide +kernel
theorem dX7_greedy_1 : decode cX7_greedy 1 = .ok (.iload_n 1, 1) := by decide +kernel
theorem dX7_greedy_2 : decode cX7_greedy 2 = .ok (.iload_n 2, 1) := by decide +kernel
theorem dX7_greedy_3 : decode cX7_greedy 3 = .ok (.iconst 0, 1) := by decide +kernel
theorem dX7_greedy_4 : decode cX7_greedy 4 = .ok (.invokevirtual 147, 3) := by decide +kernel
theorem dX7_greedy_7 : decode cX7_greedy 7 = .ok (.ireturn, 1) := by decide +kernel
theorem dX7_chain_0 : decode cX7_chain 0 = .ok (.aload_n 0, 1) := by decide +kernel
theorem dX7_chain_1 : decode cX7_chain 1 = .ok (.iload_n 1, 1) := by decide +kernel
theorem dX7_chain_2 : decode cX7_chain 2 = .ok (.iload_n 2, 1) := by decide +kernel
theorem dX7_chain_3 : decode cX7_chain 3 = .ok (.iconst 1, 1) := by decide +kernel
theorem dX7_chain_4 : decode cX7_chain 4 = .ok (.invokevirtual 147, 3) := by decide +kernel
theorem dX7_chain_7 : decode cX7_chain 7 = .ok (.ireturn, 1) := by decide +kernel
theorem dX7_tree_0 : decode cX7_tree 0 = .ok (.aload_n 0, 1) := by decide +kernel
theorem dX7_tree_1 : decode cX7_tree 1 = .ok (.iload_n 1, 1) := by decide +kernel
theorem dX7_tree_2 : decode cX7_tree 2 = .ok (.invokevirtual 151, 3) := by decide +kernel
theorem dX7_tree_5 : decode cX7_tree 5 = .ok (.astore_n 3, 1) := by decide +kernel
theorem dX7_tree_6 : decode cX7_tree 6 = .ok (.aload_n 3, 1) := by decide +kernel
theorem dX7_tree_7 : decode cX7_tree 7 = .ok (.ifnonnull 5, 3) := by decide +kernel
theorem dX7_tree_10 : decode cX7_tree 10 = .ok (.iconst (-1), 1) := by decide +kernel
theorem dX7_tree_11 : decode cX7_tree 11 = .ok (.ireturn, 1) := by decide +kernel
theorem dX7_tree_12 : decode cX7_tree 12 = .ok (.iload_n 2, 1) := by decide +kernel
theorem dX7_tree_13 : decode cX7_tree 13 = .ok (.tableswitch 71 0 4 #[35, 43, 48, 53, 58], 35) := by decide +kernel
theorem dX7_tree_48 : decode cX7_tree 48 = .ok (.aload_n 3, 1) := by decide +kernel
theorem dX7_tree_49 : decode cX7_tree 49 = .ok (.getfield 155, 3) := by decide +kernel
theorem dX7_tree_52 : decode cX7_tree 52 = .ok (.getfield 159, 3) := by decide +kernel
theorem dX7_tree_55 : decode cX7_tree 55 = .ok (.ireturn, 1) := by decide +kernel
theorem dX7_tree_56 : decode cX7_tree 56 = .ok (.aload_n 3, 1) := by decide +kernel
theorem dX7_tree_57 : decode cX7_tree 57 = .ok (.getfield 162, 3) := by decide +kernel
theorem dX7_tree_60 : decode cX7_tree 60 = .ok (.ireturn, 1) := by decide +kernel
theorem dX7_tree_61 : decode cX7_tree 61 = .ok (.aload_n 3, 1) := by decide +kernel
theorem dX7_tree_62 : decode cX7_tree 62 = .ok (.getfield 165, 3) := by decide +kernel
theorem dX7_tree_65 : decode cX7_tree 65 = .ok (.ireturn, 1) := by decide +kernel
theorem dX7_tree_66 : decode cX7_tree 66 = .ok (.aload_n 3, 1) := by decide +kernel
theorem dX7_tree_67 : decode cX7_tree 67 = .ok (.getfield 168, 3) := by decide +kernel
theorem dX7_tree_70 : decode cX7_tree 70 = .ok (.ireturn, 1) := by decide +kernel
theorem dX7_tree_71 : decode cX7_tree 71 = .ok (.aload_n 3, 1) := by decide +kernel
theorem dX7_tree_72 : decode cX7_tree 72 = .ok (.getfield 171, 3) := by decide +kernel
theorem dX7_tree_75 : decode cX7_tree 75 = .ok (.ifCond .eq 7, 3) := by decide +kernel
theorem dX7_tree_78 : decode cX7_tree 78 = .ok (.iconst 1, 1) := by decide +kernel
theorem dX7_tree_79 : decode cX7_tree 79 = .ok (.goto 4, 3) := by decide +kernel
theorem dX7_tree_82 : decode cX7_tree 82 = .ok (.iconst 0, 1) := by decide +kernel
theorem dX7_tree_83 : decode cX7_tree 83 = .ok (.ireturn, 1) := by decide +kernel
theorem dX7_tree_84 : decode cX7_tree 84 = .ok (.iconst (-1), 1) := by decide +kernel
theorem dX7_tree_85 : decode cX7_tree 85 = .ok (.ireturn, 1) := by decide +kernel
theorem dX7_step_0 : decode cX7_step 0 = .ok (.aload_n 0, 1) := by decide +kernel
theorem dX7_step_1 : decode cX7_step 1 = .ok (.iload_n 1, 1) := by decide +kernel
theorem dX7_step_2 : decode cX7_step 2 = .ok (.invokevirtual 151, 3) := by decide +kernel
theorem dX7_step_5 : decode cX7_step 5 = .ok (.astore 4, 2) := by decide +kernel
theorem dX7_step_7 : decode cX7_step 7 = .ok (.aload 4, 2) := by decide +kernel
theorem dX7_step_9 : decode cX7_step 9 = .ok (.ifnull 15, 3) := by decide +kernel
theorem dX7_step_12 : decode cX7_step 12 = .ok (.aload 4, 2) := by decide +kernel
theorem dX7_step_14 : decode cX7_step 14 = .ok (.getfield 155, 3) := by decide +kernel
theorem dX7_step_17 : decode cX7_step 17 = .ok (.iload_n 2, 1) := by decide +kernel
theorem dX7_step_18 : decode cX7_step 18 = .ok (.invokevirtual 175, 3) := by decide +kernel
theorem dX7_step_21 : decode cX7_step 21 = .ok (.ifCond .ne 5, 3) := by decide +kernel
theorem dX7_step_24 : decode cX7_step 24 = .ok (.iconst (-1), 1) := by decide +kernel
theorem dX7_step_25 : decode cX7_step 25 = .ok (.ireturn, 1) := by decide +kernel
theorem dX7_step_26 : decode cX7_step 26 = .ok (.iload_n 3, 1) := by decide +kernel
theorem dX7_step_27 : decode cX7_step 27 = .ok (.tableswitch 76 0 3 #[29, 40, 51, 65], 29) := by decide +kernel
theorem dX7_step_56 : decode cX7_step 56 = .ok (.aload 4, 2) := by decide +kernel
theorem dX7_step_58 : decode cX7_step 58 = .ok (.getfield 155, 3) := by decide +kernel
theorem dX7_step_61 : decode cX7_step 61 = .ok (.getfield 176, 3) := by decide +kernel
theorem dX7_step_64 : decode cX7_step 64 = .ok (.iload_n 2, 1) := by decide +kernel
theorem dX7_step_65 : decode cX7_step 65 = .ok (.iaload, 1) := by decide +kernel
theorem dX7_step_66 : decode cX7_step 66 = .ok (.ireturn, 1) := by decide +kernel
theorem dX7_step_67 : decode cX7_step 67 = .ok (.aload 4, 2) := by decide +kernel
theorem dX7_step_69 : decode cX7_step 69 = .ok (.getfield 155, 3) := by decide +kernel
theorem dX7_step_72 : decode cX7_step 72 = .ok (.getfield 179, 3) := by decide +kernel
theorem dX7_step_75 : decode cX7_step 75 = .ok (.iload_n 2, 1) := by decide +kernel
theorem dX7_step_76 : decode cX7_step 76 = .ok (.iaload, 1) := by decide +kernel
theorem dX7_step_77 : decode cX7_step 77 = .ok (.ireturn, 1) := by decide +kernel
theorem dX7_step_78 : decode cX7_step 78 = .ok (.aload 4, 2) := by decide +kernel
theorem dX7_step_80 : decode cX7_step 80 = .ok (.getfield 155, 3) := by decide +kernel
theorem dX7_step_83 : decode cX7_step 83 = .ok (.getfield 182, 3) := by decide +kernel
theorem dX7_step_86 : decode cX7_step 86 = .ok (.iload_n 2, 1) := by decide +kernel
theorem dX7_step_87 : decode cX7_step 87 = .ok (.iaload, 1) := by decide +kernel
theorem dX7_step_88 : decode cX7_step 88 = .ok (.invokestatic 118, 3) := by decide +kernel
theorem dX7_step_91 : decode cX7_step 91 = .ok (.ireturn, 1) := by decide +kernel
theorem dX7_step_92 : decode cX7_step 92 = .ok (.aload 4, 2) := by decide +kernel
theorem dX7_step_94 : decode cX7_step 94 = .ok (.getfield 155, 3) := by decide +kernel
theorem dX7_step_97 : decode cX7_step 97 = .ok (.getfield 182, 3) := by decide +kernel
theorem dX7_step_100 : decode cX7_step 100 = .ok (.iload_n 2, 1) := by decide +kernel
theorem dX7_step_101 : decode cX7_step 101 = .ok (.iaload, 1) := by decide +kernel
theorem dX7_step_102 : decode cX7_step 102 = .ok (.ireturn, 1) := by decide +kernel
theorem dX7_step_103 : decode cX7_step 103 = .ok (.iconst (-1), 1) := by decide +kernel
theorem dX7_step_104 : decode cX7_step 104 = .ok (.ireturn, 1) := by decide +kernel
theorem dX7_height_0 : decode cX7_height 0 = .ok (.aload_n 0, 1) := by decide +kernel
theorem dX7_height_1 : decode cX7_height 1 = .ok (.iload_n 1, 1) := by decide +kernel
theorem dX7_height_2 : decode cX7_height 2 = .ok (.invokevirtual 151, 3) := by decide +kernel
theorem dX7_height_5 : decode cX7_height 5 = .ok (.astore 4, 2) := by decide +kernel
theorem dX7_height_7 : decode cX7_height 7 = .ok (.aload 4, 2) := by decide +kernel
theorem dX7_height_9 : decode cX7_height 9 = .ok (.ifnull 24, 3) := by decide +kernel
theorem dX7_height_12 : decode cX7_height 12 = .ok (.aload 4, 2) := by decide +kernel
theorem dX7_height_14 : decode cX7_height 14 = .ok (.getfield 155, 3) := by decide +kernel
theorem dX7_height_17 : decode cX7_height 17 = .ok (.iload_n 2, 1) := by decide +kernel
theorem dX7_height_18 : decode cX7_height 18 = .ok (.invokevirtual 175, 3) := by decide +kernel
theorem dX7_height_21 : decode cX7_height 21 = .ok (.ifCond .eq 12, 3) := by decide +kernel
theorem dX7_height_24 : decode cX7_height 24 = .ok (.iload_n 3, 1) := by decide +kernel
theorem dX7_height_25 : decode cX7_height 25 = .ok (.ifCond .lt 8, 3) := by decide +kernel
theorem dX7_height_28 : decode cX7_height 28 = .ok (.iload_n 3, 1) := by decide +kernel
theorem dX7_height_29 : decode cX7_height 29 = .ok (.iconst 1, 1) := by decide +kernel
theorem dX7_height_30 : decode cX7_height 30 = .ok (.if_icmp .le 7, 3) := by decide +kernel
theorem dX7_height_33 : decode cX7_height 33 = .ok (.ldc2_w 116, 3) := by decide +kernel
theorem dX7_height_36 : decode cX7_height 36 = .ok (.lreturn, 1) := by decide +kernel
theorem dX7_height_37 : decode cX7_height 37 = .ok (.iload_n 3, 1) := by decide +kernel
theorem dX7_height_38 : decode cX7_height 38 = .ok (.ifCond .ne 16, 3) := by decide +kernel
theorem dX7_height_41 : decode cX7_height 41 = .ok (.aload 4, 2) := by decide +kernel
theorem dX7_height_43 : decode cX7_height 43 = .ok (.getfield 155, 3) := by decide +kernel
theorem dX7_height_46 : decode cX7_height 46 = .ok (.getfield 185, 3) := by decide +kernel
theorem dX7_height_49 : decode cX7_height 49 = .ok (.iload_n 2, 1) := by decide +kernel
theorem dX7_height_50 : decode cX7_height 50 = .ok (.laload, 1) := by decide +kernel
theorem dX7_height_51 : decode cX7_height 51 = .ok (.goto 13, 3) := by decide +kernel
theorem dX7_height_54 : decode cX7_height 54 = .ok (.aload 4, 2) := by decide +kernel
theorem dX7_height_56 : decode cX7_height 56 = .ok (.getfield 155, 3) := by decide +kernel
theorem dX7_height_59 : decode cX7_height 59 = .ok (.getfield 189, 3) := by decide +kernel
theorem dX7_height_62 : decode cX7_height 62 = .ok (.iload_n 2, 1) := by decide +kernel
theorem dX7_height_63 : decode cX7_height 63 = .ok (.laload, 1) := by decide +kernel
theorem dX7_height_64 : decode cX7_height 64 = .ok (.lreturn, 1) := by decide +kernel
theorem dX7_joins_0 : decode cX7_joins 0 = .ok (.aload_n 0, 1) := by decide +kernel
theorem dX7_joins_1 : decode cX7_joins 1 = .ok (.iload_n 1, 1) := by decide +kernel
theorem dX7_joins_2 : decode cX7_joins 2 = .ok (.invokevirtual 151, 3) := by decide +kernel
theorem dX7_joins_5 : decode cX7_joins 5 = .ok (.astore 4, 2) := by decide +kernel
theorem dX7_joins_7 : decode cX7_joins 7 = .ok (.aload 4, 2) := by decide +kernel
theorem dX7_joins_9 : decode cX7_joins 9 = .ok (.ifnull 26, 3) := by decide +kernel
theorem dX7_joins_12 : decode cX7_joins 12 = .ok (.aload 4, 2) := by decide +kernel
theorem dX7_joins_14 : decode cX7_joins 14 = .ok (.iload_n 2, 1) := by decide +kernel
theorem dX7_joins_15 : decode cX7_joins 15 = .ok (.invokevirtual 192, 3) := by decide +kernel
theorem dX7_joins_18 : decode cX7_joins 18 = .ok (.ifCond .eq 17, 3) := by decide +kernel
theorem dX7_joins_21 : decode cX7_joins 21 = .ok (.aload 4, 2) := by decide +kernel
theorem dX7_joins_23 : decode cX7_joins 23 = .ok (.iload_n 3, 1) := by decide +kernel
theorem dX7_joins_24 : decode cX7_joins 24 = .ok (.invokevirtual 192, 3) := by decide +kernel
theorem dX7_joins_27 : decode cX7_joins 27 = .ok (.ifCond .eq 8, 3) := by decide +kernel
theorem dX7_joins_30 : decode cX7_joins 30 = .ok (.iload_n 2, 1) := by decide +kernel
theorem dX7_joins_31 : decode cX7_joins 31 = .ok (.iload_n 3, 1) := by decide +kernel
theorem dX7_joins_32 : decode cX7_joins 32 = .ok (.if_icmp .ne 5, 3) := by decide +kernel
theorem dX7_joins_35 : decode cX7_joins 35 = .ok (.iconst (-1), 1) := by decide +kernel
theorem dX7_joins_36 : decode cX7_joins 36 = .ok (.ireturn, 1) := by decide +kernel
theorem dX7_joins_37 : decode cX7_joins 37 = .ok (.aload 4, 2) := by decide +kernel
theorem dX7_joins_39 : decode cX7_joins 39 = .ok (.getfield 155, 3) := by decide +kernel
theorem dX7_joins_42 : decode cX7_joins 42 = .ok (.iconst 1, 1) := by decide +kernel
theorem dX7_joins_43 : decode cX7_joins 43 = .ok (.iload_n 2, 1) := by decide +kernel
theorem dX7_joins_44 : decode cX7_joins 44 = .ok (.ishl, 1) := by decide +kernel
theorem dX7_joins_45 : decode cX7_joins 45 = .ok (.iconst 1, 1) := by decide +kernel
theorem dX7_joins_46 : decode cX7_joins 46 = .ok (.iload_n 3, 1) := by decide +kernel
theorem dX7_joins_47 : decode cX7_joins 47 = .ok (.ishl, 1) := by decide +kernel
theorem dX7_joins_48 : decode cX7_joins 48 = .ok (.ior, 1) := by decide +kernel
theorem dX7_joins_49 : decode cX7_joins 49 = .ok (.invokevirtual 193, 3) := by decide +kernel
theorem dX7_joins_52 : decode cX7_joins 52 = .ok (.ireturn, 1) := by decide +kernel
theorem dX7_same_0 : decode cX7_same 0 = .ok (.aload_n 0, 1) := by decide +kernel
theorem dX7_same_1 : decode cX7_same 1 = .ok (.iload_n 1, 1) := by decide +kernel
theorem dX7_same_2 : decode cX7_same 2 = .ok (.invokevirtual 151, 3) := by decide +kernel
theorem dX7_same_5 : decode cX7_same 5 = .ok (.astore_n 3, 1) := by decide +kernel
theorem dX7_same_6 : decode cX7_same 6 = .ok (.aload_n 0, 1) := by decide +kernel
theorem dX7_same_7 : decode cX7_same 7 = .ok (.iload_n 2, 1) := by decide +kernel
theorem dX7_same_8 : decode cX7_same 8 = .ok (.invokevirtual 151, 3) := by decide +kernel
theorem dX7_same_11 : decode cX7_same 11 = .ok (.astore 4, 2) := by decide +kernel
theorem dX7_same_13 : decode cX7_same 13 = .ok (.aload_n 3, 1) := by decide +kernel
theorem dX7_same_14 : decode cX7_same 14 = .ok (.ifnull 8, 3) := by decide +kernel
theorem dX7_same_17 : decode cX7_same 17 = .ok (.aload 4, 2) := by decide +kernel
theorem dX7_same_19 : decode cX7_same 19 = .ok (.ifnonnull 5, 3) := by decide +kernel
theorem dX7_same_22 : decode cX7_same 22 = .ok (.iconst 0, 1) := by decide +kernel
theorem dX7_same_23 : decode cX7_same 23 = .ok (.ireturn, 1) := by decide +kernel
theorem dX7_same_24 : decode cX7_same 24 = .ok (.aload_n 3, 1) := by decide +kernel
theorem dX7_same_25 : decode cX7_same 25 = .ok (.getfield 165, 3) := by decide +kernel
theorem dX7_same_28 : decode cX7_same 28 = .ok (.aload 4, 2) := by decide +kernel
theorem dX7_same_30 : decode cX7_same 30 = .ok (.getfield 165, 3) := by decide +kernel
theorem dX7_same_33 : decode cX7_same 33 = .ok (.if_icmp .ne 22, 3) := by decide +kernel
theorem dX7_same_36 : decode cX7_same 36 = .ok (.aload_n 3, 1) := by decide +kernel
theorem dX7_same_37 : decode cX7_same 37 = .ok (.getfield 155, 3) := by decide +kernel
theorem dX7_same_40 : decode cX7_same 40 = .ok (.aload 4, 2) := by decide +kernel
theorem dX7_same_42 : decode cX7_same 42 = .ok (.getfield 155, 3) := by decide +kernel
theorem dX7_same_45 : decode cX7_same 45 = .ok (.invokevirtual 196, 3) := by decide +kernel
theorem dX7_same_48 : decode cX7_same 48 = .ok (.ifCond .eq 7, 3) := by decide +kernel
theorem dX7_same_51 : decode cX7_same 51 = .ok (.iconst 1, 1) := by decide +kernel
theorem dX7_same_52 : decode cX7_same 52 = .ok (.goto 4, 3) := by decide +kernel
theorem dX7_same_55 : decode cX7_same 55 = .ok (.iconst 0, 1) := by decide +kernel
theorem dX7_same_56 : decode cX7_same 56 = .ok (.ireturn, 1) := by decide +kernel
theorem dX7_text_0 : decode cX7_text 0 = .ok (.aload_n 0, 1) := by decide +kernel
theorem dX7_text_1 : decode cX7_text 1 = .ok (.iload_n 1, 1) := by decide +kernel
theorem dX7_text_2 : decode cX7_text 2 = .ok (.invokevirtual 151, 3) := by decide +kernel
theorem dX7_text_5 : decode cX7_text 5 = .ok (.astore_n 2, 1) := by decide +kernel
theorem dX7_text_6 : decode cX7_text 6 = .ok (.aload_n 2, 1) := by decide +kernel
theorem dX7_text_7 : decode cX7_text 7 = .ok (.ifnonnull 5, 3) := by decide +kernel
theorem dX7_text_10 : decode cX7_text 10 = .ok (.iconst (-1), 1) := by decide +kernel
theorem dX7_text_11 : decode cX7_text 11 = .ok (.ireturn, 1) := by decide +kernel
theorem dX7_text_12 : decode cX7_text 12 = .ok (.aload_n 0, 1) := by decide +kernel
theorem dX7_text_13 : decode cX7_text 13 = .ok (.getfield 23, 3) := by decide +kernel
theorem dX7_text_16 : decode cX7_text 16 = .ok (.iconst 0, 1) := by decide +kernel
theorem dX7_text_17 : decode cX7_text 17 = .ok (.putfield 77, 3) := by decide +kernel
theorem dX7_text_20 : decode cX7_text 20 = .ok (.aload_n 2, 1) := by decide +kernel
theorem dX7_text_21 : decode cX7_text 21 = .ok (.getfield 165, 3) := by decide +kernel
theorem dX7_text_24 : decode cX7_text 24 = .ok (.ifCond .le 16, 3) := by decide +kernel
theorem dX7_text_27 : decode cX7_text 27 = .ok (.aload_n 0, 1) := by decide +kernel
theorem dX7_text_28 : decode cX7_text 28 = .ok (.getfield 23, 3) := by decide +kernel
theorem dX7_text_31 : decode cX7_text 31 = .ok (.aload_n 2, 1) := by decide +kernel
theorem dX7_text_32 : decode cX7_text 32 = .ok (.aload_n 2, 1) := by decide +kernel
theorem dX7_text_33 : decode cX7_text 33 = .ok (.invokevirtual 200, 3) := by decide +kernel
theorem dX7_text_36 : decode cX7_text 36 = .ok (.iconst 0, 1) := by decide +kernel
theorem dX7_text_37 : decode cX7_text 37 = .ok (.invokestatic 203, 3) := by decide +kernel
theorem dX7_text_40 : decode cX7_text 40 = .ok (.aload_n 0, 1) := by decide +kernel
theorem dX7_text_41 : decode cX7_text 41 = .ok (.getfield 23, 3) := by decide +kernel
theorem dX7_text_44 : decode cX7_text 44 = .ok (.bipush 59, 2) := by decide +kernel
theorem dX7_text_46 : decode cX7_text 46 = .ok (.invokevirtual 105, 3) := by decide +kernel
theorem dX7_text_49 : decode cX7_text 49 = .ok (.aload_n 0, 1) := by decide +kernel
theorem dX7_text_50 : decode cX7_text 50 = .ok (.getfield 23, 3) := by decide +kernel
theorem dX7_text_53 : decode cX7_text 53 = .ok (.getfield 77, 3) := by decide +kernel
theorem dX7_text_56 : decode cX7_text 56 = .ok (.ireturn, 1) := by decide +kernel
theorem dX7_order_0 : decode cX7_order 0 = .ok (.aload_n 0, 1) := by decide +kernel
theorem dX7_order_1 : decode cX7_order 1 = .ok (.iload_n 1, 1) := by decide +kernel
theorem dX7_order_2 : decode cX7_order 2 = .ok (.invokevirtual 151, 3) := by decide +kernel
theorem dX7_order_5 : decode cX7_order 5 = .ok (.astore_n 3, 1) := by decide +kernel
theorem dX7_order_6 : decode cX7_order 6 = .ok (.aload_n 3, 1) := by decide +kernel
theorem dX7_order_7 : decode cX7_order 7 = .ok (.ifnull 11, 3) := by decide +kernel
theorem dX7_order_10 : decode cX7_order 10 = .ok (.aload_n 3, 1) := by decide +kernel
theorem dX7_order_11 : decode cX7_order 11 = .ok (.iload_n 2, 1) := by decide +kernel
theorem dX7_order_12 : decode cX7_order 12 = .ok (.invokevirtual 192, 3) := by decide +kernel
theorem dX7_order_15 : decode cX7_order 15 = .ok (.ifCond .ne 5, 3) := by decide +kernel
theorem dX7_order_18 : decode cX7_order 18 = .ok (.iconst (-1), 1) := by decide +kernel
theorem dX7_order_19 : decode cX7_order 19 = .ok (.ireturn, 1) := by decide +kernel
theorem dX7_order_20 : decode cX7_order 20 = .ok (.aload_n 3, 1) := by decide +kernel
theorem dX7_order_21 : decode cX7_order 21 = .ok (.iload_n 2, 1) := by decide +kernel
theorem dX7_order_22 : decode cX7_order 22 = .ok (.invokevirtual 207, 3) := by decide +kernel
theorem dX7_order_25 : decode cX7_order 25 = .ok (.ireturn, 1) := by decide +kernel
theorem dX7_cut_0 : decode cX7_cut 0 = .ok (.aload_n 0, 1) := by decide +kernel
theorem dX7_cut_1 : decode cX7_cut 1 = .ok (.iload_n 1, 1) := by decide +kernel
theorem dX7_cut_2 : decode cX7_cut 2 = .ok (.invokevirtual 151, 3) := by decide +kernel
theorem dX7_cut_5 : decode cX7_cut 5 = .ok (.astore_n 3, 1) := by decide +kernel
theorem dX7_cut_6 : decode cX7_cut 6 = .ok (.aload_n 3, 1) := by decide +kernel
theorem dX7_cut_7 : decode cX7_cut 7 = .ok (.ifnull 23, 3) := by decide +kernel
theorem dX7_cut_10 : decode cX7_cut 10 = .ok (.iload_n 2, 1) := by decide +kernel
theorem dX7_cut_11 : decode cX7_cut 11 = .ok (.iconst 1, 1) := by decide +kernel
theorem dX7_cut_12 : decode cX7_cut 12 = .ok (.aload_n 3, 1) := by decide +kernel
theorem dX7_cut_13 : decode cX7_cut 13 = .ok (.getfield 165, 3) := by decide +kernel
theorem dX7_cut_16 : decode cX7_cut 16 = .ok (.invokestatic 210, 3) := by decide +kernel
theorem dX7_cut_19 : decode cX7_cut 19 = .ok (.if_icmp .lt 11, 3) := by decide +kernel
theorem dX7_cut_22 : decode cX7_cut 22 = .ok (.iload_n 2, 1) := by decide +kernel
theorem dX7_cut_23 : decode cX7_cut 23 = .ok (.aload_n 3, 1) := by decide +kernel
theorem dX7_cut_24 : decode cX7_cut 24 = .ok (.getfield 165, 3) := by decide +kernel
theorem dX7_cut_27 : decode cX7_cut 27 = .ok (.if_icmp .le 5, 3) := by decide +kernel
theorem dX7_cut_30 : decode cX7_cut 30 = .ok (.iconst (-1), 1) := by decide +kernel
theorem dX7_cut_31 : decode cX7_cut 31 = .ok (.ireturn, 1) := by decide +kernel
theorem dX7_cut_32 : decode cX7_cut 32 = .ok (.aload_n 3, 1) := by decide +kernel
theorem dX7_cut_33 : decode cX7_cut 33 = .ok (.aload_n 3, 1) := by decide +kernel
theorem dX7_cut_34 : decode cX7_cut 34 = .ok (.getfield 165, 3) := by decide +kernel
theorem dX7_cut_37 : decode cX7_cut 37 = .ok (.iload_n 2, 1) := by decide +kernel
theorem dX7_cut_38 : decode cX7_cut 38 = .ok (.isub, 1) := by decide +kernel
theorem dX7_cut_39 : decode cX7_cut 39 = .ok (.invokevirtual 216, 3) := by decide +kernel
theorem dX7_cut_42 : decode cX7_cut 42 = .ok (.ireturn, 1) := by decide +kernel
theorem dX7_cutAt_0 : decode cX7_cutAt 0 = .ok (.aload_n 0, 1) := by decide +kernel
theorem dX7_cutAt_1 : decode cX7_cutAt 1 = .ok (.iload_n 1, 1) := by decide +kernel
theorem dX7_cutAt_2 : decode cX7_cutAt 2 = .ok (.invokevirtual 151, 3) := by decide +kernel
theorem dX7_cutAt_5 : decode cX7_cutAt 5 = .ok (.astore 4, 2) := by decide +kernel
theorem dX7_cutAt_7 : decode cX7_cutAt 7 = .ok (.aload 4, 2) := by decide +kernel
theorem dX7_cutAt_9 : decode cX7_cutAt 9 = .ok (.ifnull 25, 3) := by decide +kernel
theorem dX7_cutAt_12 : decode cX7_cutAt 12 = .ok (.iload_n 2, 1) := by decide +kernel
theorem dX7_cutAt_13 : decode cX7_cutAt 13 = .ok (.ifCond .lt 21, 3) := by decide +kernel
theorem dX7_cutAt_16 : decode cX7_cutAt 16 = .ok (.iload_n 2, 1) := by decide +kernel
theorem dX7_cutAt_17 : decode cX7_cutAt 17 = .ok (.ldc 219, 2) := by decide +kernel
theorem dX7_cutAt_19 : decode cX7_cutAt 19 = .ok (.if_icmp .gt 15, 3) := by decide +kernel
theorem dX7_cutAt_22 : decode cX7_cutAt 22 = .ok (.iload_n 3, 1) := by decide +kernel
theorem dX7_cutAt_23 : decode cX7_cutAt 23 = .ok (.iconst 1, 1) := by decide +kernel
theorem dX7_cutAt_24 : decode cX7_cutAt 24 = .ok (.if_icmp .lt 10, 3) := by decide +kernel
theorem dX7_cutAt_27 : decode cX7_cutAt 27 = .ok (.iload_n 3, 1) := by decide +kernel
theorem dX7_cutAt_28 : decode cX7_cutAt 28 = .ok (.sipush 1000, 3) := by decide +kernel
theorem dX7_cutAt_31 : decode cX7_cutAt 31 = .ok (.if_icmp .le 5, 3) := by decide +kernel
theorem dX7_cutAt_34 : decode cX7_cutAt 34 = .ok (.iconst (-1), 1) := by decide +kernel
theorem dX7_cutAt_35 : decode cX7_cutAt 35 = .ok (.ireturn, 1) := by decide +kernel
theorem dX7_cutAt_36 : decode cX7_cutAt 36 = .ok (.aload 4, 2) := by decide +kernel
theorem dX7_cutAt_38 : decode cX7_cutAt 38 = .ok (.aload 4, 2) := by decide +kernel
theorem dX7_cutAt_40 : decode cX7_cutAt 40 = .ok (.getfield 155, 3) := by decide +kernel
theorem dX7_cutAt_43 : decode cX7_cutAt 43 = .ok (.iload_n 2, 1) := by decide +kernel
theorem dX7_cutAt_44 : decode cX7_cutAt 44 = .ok (.i2l, 1) := by decide +kernel
theorem dX7_cutAt_45 : decode cX7_cutAt 45 = .ok (.iload_n 3, 1) := by decide +kernel
theorem dX7_cutAt_46 : decode cX7_cutAt 46 = .ok (.i2l, 1) := by decide +kernel
theorem dX7_cutAt_47 : decode cX7_cutAt 47 = .ok (.invokevirtual 220, 3) := by decide +kernel
theorem dX7_cutAt_50 : decode cX7_cutAt 50 = .ok (.invokevirtual 216, 3) := by decide +kernel
theorem dX7_cutAt_53 : decode cX7_cutAt 53 = .ok (.ireturn, 1) := by decide +kernel
theorem dX7_label_0 : decode cX7_label 0 = .ok (.aload_n 0, 1) := by decide +kernel
theorem dX7_label_1 : decode cX7_label 1 = .ok (.iload_n 1, 1) := by decide +kernel
theorem dX7_label_2 : decode cX7_label 2 = .ok (.invokevirtual 151, 3) := by decide +kernel
theorem dX7_label_5 : decode cX7_label 5 = .ok (.astore_n 3, 1) := by decide +kernel
theorem dX7_label_6 : decode cX7_label 6 = .ok (.aload_n 3, 1) := by decide +kernel
theorem dX7_label_7 : decode cX7_label 7 = .ok (.ifnull 11, 3) := by decide +kernel
theorem dX7_label_10 : decode cX7_label 10 = .ok (.aload_n 3, 1) := by decide +kernel
theorem dX7_label_11 : decode cX7_label 11 = .ok (.iload_n 2, 1) := by decide +kernel
theorem dX7_label_12 : decode cX7_label 12 = .ok (.invokevirtual 192, 3) := by decide +kernel
theorem dX7_label_15 : decode cX7_label 15 = .ok (.ifCond .ne 5, 3) := by decide +kernel
theorem dX7_label_18 : decode cX7_label 18 = .ok (.iconst (-1), 1) := by decide +kernel
theorem dX7_label_19 : decode cX7_label 19 = .ok (.ireturn, 1) := by decide +kernel
theorem dX7_label_20 : decode cX7_label 20 = .ok (.aload_n 3, 1) := by decide +kernel
theorem dX7_label_21 : decode cX7_label 21 = .ok (.getfield 224, 3) := by decide +kernel
theorem dX7_label_24 : decode cX7_label 24 = .ok (.iload_n 2, 1) := by decide +kernel
theorem dX7_label_25 : decode cX7_label 25 = .ok (.iaload, 1) := by decide +kernel
theorem dX7_label_26 : decode cX7_label 26 = .ok (.ireturn, 1) := by decide +kernel
theorem dX7_agree_0 : decode cX7_agree 0 = .ok (.aload_n 0, 1) := by decide +kernel
theorem dX7_agree_1 : decode cX7_agree 1 = .ok (.iload_n 1, 1) := by decide +kernel
theorem dX7_agree_2 : decode cX7_agree 2 = .ok (.invokevirtual 151, 3) := by decide +kernel
theorem dX7_agree_5 : decode cX7_agree 5 = .ok (.astore_n 3, 1) := by decide +kernel
theorem dX7_agree_6 : decode cX7_agree 6 = .ok (.aload_n 0, 1) := by decide +kernel
theorem dX7_agree_7 : decode cX7_agree 7 = .ok (.iload_n 2, 1) := by decide +kernel
theorem dX7_agree_8 : decode cX7_agree 8 = .ok (.invokevirtual 151, 3) := by decide +kernel
theorem dX7_agree_11 : decode cX7_agree 11 = .ok (.astore 4, 2) := by decide +kernel
theorem dX7_agree_13 : decode cX7_agree 13 = .ok (.aload_n 3, 1) := by decide +kernel
theorem dX7_agree_14 : decode cX7_agree 14 = .ok (.ifnull 20, 3) := by decide +kernel
theorem dX7_agree_17 : decode cX7_agree 17 = .ok (.aload 4, 2) := by decide +kernel
theorem dX7_agree_19 : decode cX7_agree 19 = .ok (.ifnull 15, 3) := by decide +kernel
theorem dX7_agree_22 : decode cX7_agree 22 = .ok (.aload_n 3, 1) := by decide +kernel
theorem dX7_agree_23 : decode cX7_agree 23 = .ok (.getfield 165, 3) := by decide +kernel
theorem dX7_agree_26 : decode cX7_agree 26 = .ok (.aload 4, 2) := by decide +kernel
theorem dX7_agree_28 : decode cX7_agree 28 = .ok (.getfield 165, 3) := by decide +kernel
theorem dX7_agree_31 : decode cX7_agree 31 = .ok (.if_icmp .eq 5, 3) := by decide +kernel
theorem dX7_agree_34 : decode cX7_agree 34 = .ok (.iconst (-1), 1) := by decide +kernel
theorem dX7_agree_35 : decode cX7_agree 35 = .ok (.ireturn, 1) := by decide +kernel
theorem dX7_agree_36 : decode cX7_agree 36 = .ok (.iconst 0, 1) := by decide +kernel
theorem dX7_agree_37 : decode cX7_agree 37 = .ok (.istore 5, 2) := by decide +kernel
theorem dX7_agree_39 : decode cX7_agree 39 = .ok (.iconst 1, 1) := by decide +kernel
theorem dX7_agree_40 : decode cX7_agree 40 = .ok (.istore 6, 2) := by decide +kernel
theorem dX7_agree_42 : decode cX7_agree 42 = .ok (.iload 6, 2) := by decide +kernel
theorem dX7_agree_44 : decode cX7_agree 44 = .ok (.aload_n 3, 1) := by decide +kernel
theorem dX7_agree_45 : decode cX7_agree 45 = .ok (.getfield 165, 3) := by decide +kernel
theorem dX7_agree_48 : decode cX7_agree 48 = .ok (.if_icmp .ge 48, 3) := by decide +kernel
theorem dX7_agree_51 : decode cX7_agree 51 = .ok (.iconst 0, 1) := by decide +kernel
theorem dX7_agree_52 : decode cX7_agree 52 = .ok (.istore 7, 2) := by decide +kernel
theorem dX7_agree_54 : decode cX7_agree 54 = .ok (.iload 7, 2) := by decide +kernel
theorem dX7_agree_56 : decode cX7_agree 56 = .ok (.iload 6, 2) := by decide +kernel
theorem dX7_agree_58 : decode cX7_agree 58 = .ok (.if_icmp .ge 32, 3) := by decide +kernel
theorem dX7_agree_61 : decode cX7_agree 61 = .ok (.aload_n 3, 1) := by decide +kernel
theorem dX7_agree_62 : decode cX7_agree 62 = .ok (.iload 6, 2) := by decide +kernel
theorem dX7_agree_64 : decode cX7_agree 64 = .ok (.iload 7, 2) := by decide +kernel
theorem dX7_agree_66 : decode cX7_agree 66 = .ok (.invokevirtual 227, 3) := by decide +kernel
theorem dX7_agree_69 : decode cX7_agree 69 = .ok (.aload 4, 2) := by decide +kernel
theorem dX7_agree_71 : decode cX7_agree 71 = .ok (.iload 6, 2) := by decide +kernel
theorem dX7_agree_73 : decode cX7_agree 73 = .ok (.iload 7, 2) := by decide +kernel
theorem dX7_agree_75 : decode cX7_agree 75 = .ok (.invokevirtual 227, 3) := by decide +kernel
theorem dX7_agree_78 : decode cX7_agree 78 = .ok (.if_icmp .ne 6, 3) := by decide +kernel
theorem dX7_agree_81 : decode cX7_agree 81 = .ok (.iinc 5 1, 3) := by decide +kernel
theorem dX7_agree_84 : decode cX7_agree 84 = .ok (.iinc 7 1, 3) := by decide +kernel
theorem dX7_agree_87 : decode cX7_agree 87 = .ok (.goto (-33), 3) := by decide +kernel
theorem dX7_agree_90 : decode cX7_agree 90 = .ok (.iinc 6 1, 3) := by decide +kernel
theorem dX7_agree_93 : decode cX7_agree 93 = .ok (.goto (-51), 3) := by decide +kernel
theorem dX7_agree_96 : decode cX7_agree 96 = .ok (.iload 5, 2) := by decide +kernel
theorem dX7_agree_98 : decode cX7_agree 98 = .ok (.ireturn, 1) := by decide +kernel
theorem dX7_middle_0 : decode cX7_middle 0 = .ok (.aload_n 0, 1) := by decide +kernel
theorem dX7_middle_1 : decode cX7_middle 1 = .ok (.iload_n 1, 1) := by decide +kernel
theorem dX7_middle_2 : decode cX7_middle 2 = .ok (.invokevirtual 151, 3) := by decide +kernel
theorem dX7_middle_5 : decode cX7_middle 5 = .ok (.astore_n 3, 1) := by decide +kernel
theorem dX7_middle_6 : decode cX7_middle 6 = .ok (.aload_n 3, 1) := by decide +kernel
theorem dX7_middle_7 : decode cX7_middle 7 = .ok (.ifnull 25, 3) := by decide +kernel
theorem dX7_middle_10 : decode cX7_middle 10 = .ok (.aload_n 3, 1) := by decide +kernel
theorem dX7_middle_11 : decode cX7_middle 11 = .ok (.iload_n 2, 1) := by decide +kernel
theorem dX7_middle_12 : decode cX7_middle 12 = .ok (.invokevirtual 192, 3) := by decide +kernel
theorem dX7_middle_15 : decode cX7_middle 15 = .ok (.ifCond .eq 17, 3) := by decide +kernel
theorem dX7_middle_18 : decode cX7_middle 18 = .ok (.aload_n 3, 1) := by decide +kernel
theorem dX7_middle_19 : decode cX7_middle 19 = .ok (.getfield 165, 3) := by decide +kernel
theorem dX7_middle_22 : decode cX7_middle 22 = .ok (.aload_n 0, 1) := by decide +kernel
theorem dX7_middle_23 : decode cX7_middle 23 = .ok (.getfield 12, 3) := by decide +kernel
theorem dX7_middle_26 : decode cX7_middle 26 = .ok (.getfield 95, 3) := by decide +kernel
theorem dX7_middle_29 : decode cX7_middle 29 = .ok (.if_icmp .eq 5, 3) := by decide +kernel
theorem dX7_middle_32 : decode cX7_middle 32 = .ok (.iconst (-1), 1) := by decide +kernel
theorem dX7_middle_33 : decode cX7_middle 33 = .ok (.ireturn, 1) := by decide +kernel
theorem dX7_middle_34 : decode cX7_middle 34 = .ok (.iconst (-1), 1) := by decide +kernel
theorem dX7_middle_35 : decode cX7_middle 35 = .ok (.istore 4, 2) := by decide +kernel
theorem dX7_middle_37 : decode cX7_middle 37 = .ok (.iconst 0, 1) := by decide +kernel
theorem dX7_middle_38 : decode cX7_middle 38 = .ok (.istore 5, 2) := by decide +kernel
theorem dX7_middle_40 : decode cX7_middle 40 = .ok (.iconst 0, 1) := by decide +kernel
theorem dX7_middle_41 : decode cX7_middle 41 = .ok (.istore 6, 2) := by decide +kernel
theorem dX7_middle_43 : decode cX7_middle 43 = .ok (.iload 6, 2) := by decide +kernel
theorem dX7_middle_45 : decode cX7_middle 45 = .ok (.aload_n 3, 1) := by decide +kernel
theorem dX7_middle_46 : decode cX7_middle 46 = .ok (.getfield 165, 3) := by decide +kernel
theorem dX7_middle_49 : decode cX7_middle 49 = .ok (.if_icmp .ge 49, 3) := by decide +kernel
theorem dX7_middle_52 : decode cX7_middle 52 = .ok (.aload_n 3, 1) := by decide +kernel
theorem dX7_middle_53 : decode cX7_middle 53 = .ok (.iload 6, 2) := by decide +kernel
theorem dX7_middle_55 : decode cX7_middle 55 = .ok (.iload_n 2, 1) := by decide +kernel
theorem dX7_middle_56 : decode cX7_middle 56 = .ok (.invokevirtual 227, 3) := by decide +kernel
theorem dX7_middle_59 : decode cX7_middle 59 = .ok (.ifCond .eq 33, 3) := by decide +kernel
theorem dX7_middle_62 : decode cX7_middle 62 = .ok (.aload_n 0, 1) := by decide +kernel
theorem dX7_middle_63 : decode cX7_middle 63 = .ok (.aload_n 3, 1) := by decide +kernel
theorem dX7_middle_64 : decode cX7_middle 64 = .ok (.iload 6, 2) := by decide +kernel
theorem dX7_middle_66 : decode cX7_middle 66 = .ok (.invokevirtual 231, 3) := by decide +kernel
theorem dX7_middle_69 : decode cX7_middle 69 = .ok (.istore 7, 2) := by decide +kernel
theorem dX7_middle_71 : decode cX7_middle 71 = .ok (.iload 4, 2) := by decide +kernel
theorem dX7_middle_73 : decode cX7_middle 73 = .ok (.iconst (-1), 1) := by decide +kernel
theorem dX7_middle_74 : decode cX7_middle 74 = .ok (.if_icmp .eq 10, 3) := by decide +kernel
theorem dX7_middle_77 : decode cX7_middle 77 = .ok (.iload 7, 2) := by decide +kernel
theorem dX7_middle_79 : decode cX7_middle 79 = .ok (.iload 5, 2) := by decide +kernel
theorem dX7_middle_81 : decode cX7_middle 81 = .ok (.if_icmp .ge 11, 3) := by decide +kernel
theorem dX7_middle_84 : decode cX7_middle 84 = .ok (.iload 6, 2) := by decide +kernel
theorem dX7_middle_86 : decode cX7_middle 86 = .ok (.istore 4, 2) := by decide +kernel
theorem dX7_middle_88 : decode cX7_middle 88 = .ok (.iload 7, 2) := by decide +kernel
theorem dX7_middle_90 : decode cX7_middle 90 = .ok (.istore 5, 2) := by decide +kernel
theorem dX7_middle_92 : decode cX7_middle 92 = .ok (.iinc 6 1, 3) := by decide +kernel
theorem dX7_middle_95 : decode cX7_middle 95 = .ok (.goto (-52), 3) := by decide +kernel
theorem dX7_middle_98 : decode cX7_middle 98 = .ok (.iload 4, 2) := by decide +kernel
theorem dX7_middle_100 : decode cX7_middle 100 = .ok (.ireturn, 1) := by decide +kernel
theorem dX7_isTooFar_0 : decode cX7_isTooFar 0 = .ok (.iload_n 0, 1) := by decide +kernel
theorem dX7_isTooFar_1 : decode cX7_isTooFar 1 = .ok (.sipush (-500), 3) := by decide +kernel
theorem dX7_isTooFar_4 : decode cX7_isTooFar 4 = .ok (.if_icmp .lt 10, 3) := by decide +kernel
theorem dX7_isTooFar_7 : decode cX7_isTooFar 7 = .ok (.iload_n 0, 1) := by decide +kernel
theorem dX7_isTooFar_8 : decode cX7_isTooFar 8 = .ok (.sipush 500, 3) := by decide +kernel
theorem dX7_isTooFar_11 : decode cX7_isTooFar 11 = .ok (.if_icmp .le 7, 3) := by decide +kernel
theorem dX7_isTooFar_14 : decode cX7_isTooFar 14 = .ok (.iconst 1, 1) := by decide +kernel
theorem dX7_isTooFar_15 : decode cX7_isTooFar 15 = .ok (.goto 4, 3) := by decide +kernel
theorem dX7_isTooFar_18 : decode cX7_isTooFar 18 = .ok (.iconst 0, 1) := by decide +kernel
theorem dX7_isTooFar_19 : decode cX7_isTooFar 19 = .ok (.ireturn, 1) := by decide +kernel
theorem dX7_treeIn_0 : decode cX7_treeIn 0 = .ok (.iload_n 1, 1) := by decide +kernel
theorem dX7_treeIn_1 : decode cX7_treeIn 1 = .ok (.ifCond .lt 20, 3) := by decide +kernel
theorem dX7_treeIn_4 : decode cX7_treeIn 4 = .ok (.iload_n 1, 1) := by decide +kernel
theorem dX7_treeIn_5 : decode cX7_treeIn 5 = .ok (.iconst 4, 1) := by decide +kernel
theorem dX7_treeIn_6 : decode cX7_treeIn 6 = .ok (.if_icmp .ge 15, 3) := by decide +kernel
theorem dX7_treeIn_9 : decode cX7_treeIn 9 = .ok (.aload_n 0, 1) := by decide +kernel
theorem dX7_treeIn_10 : decode cX7_treeIn 10 = .ok (.getfield 42, 3) := by decide +kernel
theorem dX7_treeIn_13 : decode cX7_treeIn 13 = .ok (.iload_n 1, 1) := by decide +kernel
theorem dX7_treeIn_14 : decode cX7_treeIn 14 = .ok (.aaload, 1) := by decide +kernel
theorem dX7_treeIn_15 : decode cX7_treeIn 15 = .ok (.getfield 235, 3) := by decide +kernel
theorem dX7_treeIn_18 : decode cX7_treeIn 18 = .ok (.ifCond .ne 5, 3) := by decide +kernel
theorem dX7_treeIn_21 : decode cX7_treeIn 21 = .ok (.aconst_null, 1) := by decide +kernel
theorem dX7_treeIn_22 : decode cX7_treeIn 22 = .ok (.areturn, 1) := by decide +kernel
theorem dX7_treeIn_23 : decode cX7_treeIn 23 = .ok (.aload_n 0, 1) := by decide +kernel
theorem dX7_treeIn_24 : decode cX7_treeIn 24 = .ok (.getfield 42, 3) := by decide +kernel
theorem dX7_treeIn_27 : decode cX7_treeIn 27 = .ok (.iload_n 1, 1) := by decide +kernel
theorem dX7_treeIn_28 : decode cX7_treeIn 28 = .ok (.aaload, 1) := by decide +kernel
theorem dX7_treeIn_29 : decode cX7_treeIn 29 = .ok (.areturn, 1) := by decide +kernel
theorem dX7_makeTree_0 : decode cX7_makeTree 0 = .ok (.iload_n 1, 1) := by decide +kernel
theorem dX7_makeTree_1 : decode cX7_makeTree 1 = .ok (.ifCond .lt 17, 3) := by decide +kernel
theorem dX7_makeTree_4 : decode cX7_makeTree 4 = .ok (.iload_n 1, 1) := by decide +kernel
theorem dX7_makeTree_5 : decode cX7_makeTree 5 = .ok (.iconst 4, 1) := by decide +kernel
theorem dX7_makeTree_6 : decode cX7_makeTree 6 = .ok (.if_icmp .ge 12, 3) := by decide +kernel
theorem dX7_makeTree_9 : decode cX7_makeTree 9 = .ok (.iload_n 2, 1) := by decide +kernel
theorem dX7_makeTree_10 : decode cX7_makeTree 10 = .ok (.ifCond .lt 8, 3) := by decide +kernel
theorem dX7_makeTree_13 : decode cX7_makeTree 13 = .ok (.iload_n 2, 1) := by decide +kernel
theorem dX7_makeTree_14 : decode cX7_makeTree 14 = .ok (.iconst 4, 1) := by decide +kernel
theorem dX7_makeTree_15 : decode cX7_makeTree 15 = .ok (.if_icmp .le 5, 3) := by decide +kernel
theorem dX7_makeTree_18 : decode cX7_makeTree 18 = .ok (.iconst (-1), 1) := by decide +kernel
theorem dX7_makeTree_19 : decode cX7_makeTree 19 = .ok (.ireturn, 1) := by decide +kernel
theorem dX7_makeTree_20 : decode cX7_makeTree 20 = .ok (.aload_n 0, 1) := by decide +kernel
theorem dX7_makeTree_21 : decode cX7_makeTree 21 = .ok (.getfield 36, 3) := by decide +kernel
theorem dX7_makeTree_24 : decode cX7_makeTree 24 = .ok (.aload_n 0, 1) := by decide +kernel
theorem dX7_makeTree_25 : decode cX7_makeTree 25 = .ok (.getfield 12, 3) := by decide +kernel
theorem dX7_makeTree_28 : decode cX7_makeTree 28 = .ok (.iload_n 2, 1) := by decide +kernel
theorem dX7_makeTree_29 : decode cX7_makeTree 29 = .ok (.invokevirtual 238, 3) := by decide +kernel
theorem dX7_makeTree_32 : decode cX7_makeTree 32 = .ok (.iload_n 3, 1) := by decide +kernel
theorem dX7_makeTree_33 : decode cX7_makeTree 33 = .ok (.ifCond .eq 13, 3) := by decide +kernel
theorem dX7_makeTree_36 : decode cX7_makeTree 36 = .ok (.aload_n 0, 1) := by decide +kernel
theorem dX7_makeTree_37 : decode cX7_makeTree 37 = .ok (.getfield 36, 3) := by decide +kernel
theorem dX7_makeTree_40 : decode cX7_makeTree 40 = .ok (.invokevirtual 242, 3) := by decide +kernel
theorem dX7_makeTree_43 : decode cX7_makeTree 43 = .ok (.goto 10, 3) := by decide +kernel
theorem dX7_makeTree_46 : decode cX7_makeTree 46 = .ok (.aload_n 0, 1) := by decide +kernel
theorem dX7_makeTree_47 : decode cX7_makeTree 47 = .ok (.getfield 36, 3) := by decide +kernel
theorem dX7_makeTree_50 : decode cX7_makeTree 50 = .ok (.invokevirtual 245, 3) := by decide +kernel
theorem dX7_makeTree_53 : decode cX7_makeTree 53 = .ok (.aload_n 0, 1) := by decide +kernel
theorem dX7_makeTree_54 : decode cX7_makeTree 54 = .ok (.getfield 36, 3) := by decide +kernel
theorem dX7_makeTree_57 : decode cX7_makeTree 57 = .ok (.aload_n 0, 1) := by decide +kernel
theorem dX7_makeTree_58 : decode cX7_makeTree 58 = .ok (.getfield 42, 3) := by decide +kernel
theorem dX7_makeTree_61 : decode cX7_makeTree 61 = .ok (.iload_n 1, 1) := by decide +kernel
theorem dX7_makeTree_62 : decode cX7_makeTree 62 = .ok (.aaload, 1) := by decide +kernel
theorem dX7_makeTree_63 : decode cX7_makeTree 63 = .ok (.iload_n 3, 1) := by decide +kernel
theorem dX7_makeTree_64 : decode cX7_makeTree 64 = .ok (.invokevirtual 248, 3) := by decide +kernel
theorem dX7_makeTree_67 : decode cX7_makeTree 67 = .ok (.aload_n 0, 1) := by decide +kernel
theorem dX7_makeTree_68 : decode cX7_makeTree 68 = .ok (.getfield 42, 3) := by decide +kernel
theorem dX7_makeTree_71 : decode cX7_makeTree 71 = .ok (.iload_n 1, 1) := by decide +kernel
theorem dX7_makeTree_72 : decode cX7_makeTree 72 = .ok (.aaload, 1) := by decide +kernel
theorem dX7_makeTree_73 : decode cX7_makeTree 73 = .ok (.getfield 155, 3) := by decide +kernel
theorem dX7_makeTree_76 : decode cX7_makeTree 76 = .ok (.getfield 159, 3) := by decide +kernel
theorem dX7_makeTree_79 : decode cX7_makeTree 79 = .ok (.ireturn, 1) := by decide +kernel
theorem dX7_sumToCluster_0 : decode cX7_sumToCluster 0 = .ok (.iconst 0, 1) := by decide +kernel
theorem dX7_sumToCluster_1 : decode cX7_sumToCluster 1 = .ok (.istore_n 3, 1) := by decide +kernel
theorem dX7_sumToCluster_2 : decode cX7_sumToCluster 2 = .ok (.iconst 0, 1) := by decide +kernel
theorem dX7_sumToCluster_3 : decode cX7_sumToCluster 3 = .ok (.istore 4, 2) := by decide +kernel
theorem dX7_sumToCluster_5 : decode cX7_sumToCluster 5 = .ok (.iload 4, 2) := by decide +kernel
theorem dX7_sumToCluster_7 : decode cX7_sumToCluster 7 = .ok (.aload_n 1, 1) := by decide +kernel
theorem dX7_sumToCluster_8 : decode cX7_sumToCluster 8 = .ok (.getfield 165, 3) := by decide +kernel
theorem dX7_sumToCluster_11 : decode cX7_sumToCluster 11 = .ok (.if_icmp .ge 34, 3) := by decide +kernel
theorem dX7_sumToCluster_14 : decode cX7_sumToCluster 14 = .ok (.aload_n 1, 1) := by decide +kernel
theorem dX7_sumToCluster_15 : decode cX7_sumToCluster 15 = .ok (.iload 4, 2) := by decide +kernel
theorem dX7_sumToCluster_17 : decode cX7_sumToCluster 17 = .ok (.iload_n 2, 1) := by decide +kernel
theorem dX7_sumToCluster_18 : decode cX7_sumToCluster 18 = .ok (.invokevirtual 227, 3) := by decide +kernel
theorem dX7_sumToCluster_21 : decode cX7_sumToCluster 21 = .ok (.ifCond .eq 18, 3) := by decide +kernel
theorem dX7_sumToCluster_24 : decode cX7_sumToCluster 24 = .ok (.iload_n 3, 1) := by decide +kernel
theorem dX7_sumToCluster_25 : decode cX7_sumToCluster 25 = .ok (.aload_n 0, 1) := by decide +kernel
theorem dX7_sumToCluster_26 : decode cX7_sumToCluster 26 = .ok (.getfield 12, 3) := by decide +kernel
theorem dX7_sumToCluster_29 : decode cX7_sumToCluster 29 = .ok (.getfield 60, 3) := by decide +kernel
theorem dX7_sumToCluster_32 : decode cX7_sumToCluster 32 = .ok (.iload_n 2, 1) := by decide +kernel
theorem dX7_sumToCluster_33 : decode cX7_sumToCluster 33 = .ok (.aaload, 1) := by decide +kernel
theorem dX7_sumToCluster_34 : decode cX7_sumToCluster 34 = .ok (.iload 4, 2) := by decide +kernel
theorem dX7_sumToCluster_36 : decode cX7_sumToCluster 36 = .ok (.iaload, 1) := by decide +kernel
theorem dX7_sumToCluster_37 : decode cX7_sumToCluster 37 = .ok (.iadd, 1) := by decide +kernel
theorem dX7_sumToCluster_38 : decode cX7_sumToCluster 38 = .ok (.istore_n 3, 1) := by decide +kernel
theorem dX7_sumToCluster_39 : decode cX7_sumToCluster 39 = .ok (.iinc 4 1, 3) := by decide +kernel
theorem dX7_sumToCluster_42 : decode cX7_sumToCluster 42 = .ok (.goto (-37), 3) := by decide +kernel
theorem dX7_sumToCluster_45 : decode cX7_sumToCluster 45 = .ok (.iload_n 3, 1) := by decide +kernel
theorem dX7_sumToCluster_46 : decode cX7_sumToCluster 46 = .ok (.ireturn, 1) := by decide +kernel
theorem dX7_writeCluster_0 : decode cX7_writeCluster 0 = .ok (.iload_n 2, 1) := by decide +kernel
theorem dX7_writeCluster_1 : decode cX7_writeCluster 1 = .ok (.aload_n 1, 1) := by decide +kernel
theorem dX7_writeCluster_2 : decode cX7_writeCluster 2 = .ok (.getfield 165, 3) := by decide +kernel
theorem dX7_writeCluster_5 : decode cX7_writeCluster 5 = .ok (.if_icmp .ge 10, 3) := by decide +kernel
theorem dX7_writeCluster_8 : decode cX7_writeCluster 8 = .ok (.aload_n 0, 1) := by decide +kernel
theorem dX7_writeCluster_9 : decode cX7_writeCluster 9 = .ok (.iload_n 2, 1) := by decide +kernel
theorem dX7_writeCluster_10 : decode cX7_writeCluster 10 = .ok (.i2l, 1) := by decide +kernel
theorem dX7_writeCluster_11 : decode cX7_writeCluster 11 = .ok (.invokevirtual 101, 3) := by decide +kernel
theorem dX7_writeCluster_14 : decode cX7_writeCluster 14 = .ok (.return_, 1) := by decide +kernel
theorem dX7_writeCluster_15 : decode cX7_writeCluster 15 = .ok (.iload_n 2, 1) := by decide +kernel
theorem dX7_writeCluster_16 : decode cX7_writeCluster 16 = .ok (.aload_n 1, 1) := by decide +kernel
theorem dX7_writeCluster_17 : decode cX7_writeCluster 17 = .ok (.getfield 165, 3) := by decide +kernel
theorem dX7_writeCluster_20 : decode cX7_writeCluster 20 = .ok (.isub, 1) := by decide +kernel
theorem dX7_writeCluster_21 : decode cX7_writeCluster 21 = .ok (.istore 4, 2) := by decide +kernel
theorem dX7_writeCluster_23 : decode cX7_writeCluster 23 = .ok (.iload_n 3, 1) := by decide +kernel
end
section
theorem dX7_writeCluster_24 : decode cX7_writeCluster 24 = .ok (.bipush 19, 2) := by decide +kernel
theorem dX7_writeCluster_26 : decode cX7_writeCluster 26 = .ok (.if_icmp .gt 15, 3) := by decide +kernel
theorem dX7_writeCluster_29 : decode cX7_writeCluster 29 = .ok (.aload_n 1, 1) := by decide +kernel
theorem dX7_writeCluster_30 : decode cX7_writeCluster 30 = .ok (.getfield 155, 3) := by decide +kernel
theorem dX7_writeCluster_33 : decode cX7_writeCluster 33 = .ok (.iload 4, 2) := by decide +kernel
theorem dX7_writeCluster_35 : decode cX7_writeCluster 35 = .ok (.invokevirtual 175, 3) := by decide +kernel
theorem dX7_writeCluster_38 : decode cX7_writeCluster 38 = .ok (.ifCond .ne 4, 3) := by decide +kernel
theorem dX7_writeCluster_41 : decode cX7_writeCluster 41 = .ok (.return_, 1) := by decide +kernel
theorem dX7_writeCluster_42 : decode cX7_writeCluster 42 = .ok (.aload_n 0, 1) := by decide +kernel
theorem dX7_writeCluster_43 : decode cX7_writeCluster 43 = .ok (.bipush 40, 2) := by decide +kernel
theorem dX7_writeCluster_45 : decode cX7_writeCluster 45 = .ok (.invokevirtual 105, 3) := by decide +kernel
theorem dX7_writeCluster_48 : decode cX7_writeCluster 48 = .ok (.aload_n 0, 1) := by decide +kernel
theorem dX7_writeCluster_49 : decode cX7_writeCluster 49 = .ok (.aload_n 1, 1) := by decide +kernel
theorem dX7_writeCluster_50 : decode cX7_writeCluster 50 = .ok (.aload_n 1, 1) := by decide +kernel
theorem dX7_writeCluster_51 : decode cX7_writeCluster 51 = .ok (.iload 4, 2) := by decide +kernel
theorem dX7_writeCluster_53 : decode cX7_writeCluster 53 = .ok (.invokevirtual 252, 3) := by decide +kernel
theorem dX7_writeCluster_56 : decode cX7_writeCluster 56 = .ok (.iload_n 3, 1) := by decide +kernel
theorem dX7_writeCluster_57 : decode cX7_writeCluster 57 = .ok (.iconst 1, 1) := by decide +kernel
theorem dX7_writeCluster_58 : decode cX7_writeCluster 58 = .ok (.iadd, 1) := by decide +kernel
theorem dX7_writeCluster_59 : decode cX7_writeCluster 59 = .ok (.invokestatic 203, 3) := by decide +kernel
theorem dX7_writeCluster_62 : decode cX7_writeCluster 62 = .ok (.aload_n 0, 1) := by decide +kernel
theorem dX7_writeCluster_63 : decode cX7_writeCluster 63 = .ok (.bipush 44, 2) := by decide +kernel
theorem dX7_writeCluster_65 : decode cX7_writeCluster 65 = .ok (.invokevirtual 105, 3) := by decide +kernel
theorem dX7_writeCluster_68 : decode cX7_writeCluster 68 = .ok (.aload_n 0, 1) := by decide +kernel
theorem dX7_writeCluster_69 : decode cX7_writeCluster 69 = .ok (.aload_n 1, 1) := by decide +kernel
theorem dX7_writeCluster_70 : decode cX7_writeCluster 70 = .ok (.aload_n 1, 1) := by decide +kernel
theorem dX7_writeCluster_71 : decode cX7_writeCluster 71 = .ok (.iload 4, 2) := by decide +kernel
theorem dX7_writeCluster_73 : decode cX7_writeCluster 73 = .ok (.invokevirtual 255, 3) := by decide +kernel
theorem dX7_writeCluster_76 : decode cX7_writeCluster 76 = .ok (.iload_n 3, 1) := by decide +kernel
theorem dX7_writeCluster_77 : decode cX7_writeCluster 77 = .ok (.iconst 1, 1) := by decide +kernel
theorem dX7_writeCluster_78 : decode cX7_writeCluster 78 = .ok (.iadd, 1) := by decide +kernel
theorem dX7_writeCluster_79 : decode cX7_writeCluster 79 = .ok (.invokestatic 203, 3) := by decide +kernel
theorem dX7_writeCluster_82 : decode cX7_writeCluster 82 = .ok (.aload_n 0, 1) := by decide +kernel
theorem dX7_writeCluster_83 : decode cX7_writeCluster 83 = .ok (.bipush 41, 2) := by decide +kernel
theorem dX7_writeCluster_85 : decode cX7_writeCluster 85 = .ok (.invokevirtual 105, 3) := by decide +kernel
theorem dX7_writeCluster_88 : decode cX7_writeCluster 88 = .ok (.aload_n 0, 1) := by decide +kernel
theorem dX7_writeCluster_89 : decode cX7_writeCluster 89 = .ok (.bipush 58, 2) := by decide +kernel
theorem dX7_writeCluster_91 : decode cX7_writeCluster 91 = .ok (.invokevirtual 105, 3) := by decide +kernel
theorem dX7_writeCluster_94 : decode cX7_writeCluster 94 = .ok (.aload_n 0, 1) := by decide +kernel
theorem dX7_writeCluster_95 : decode cX7_writeCluster 95 = .ok (.aload_n 1, 1) := by decide +kernel
theorem dX7_writeCluster_96 : decode cX7_writeCluster 96 = .ok (.getfield 155, 3) := by decide +kernel
theorem dX7_writeCluster_99 : decode cX7_writeCluster 99 = .ok (.getfield 185, 3) := by decide +kernel
theorem dX7_writeCluster_102 : decode cX7_writeCluster 102 = .ok (.iload 4, 2) := by decide +kernel
theorem dX7_writeCluster_104 : decode cX7_writeCluster 104 = .ok (.laload, 1) := by decide +kernel
theorem dX7_writeCluster_105 : decode cX7_writeCluster 105 = .ok (.invokevirtual 101, 3) := by decide +kernel
theorem dX7_writeCluster_108 : decode cX7_writeCluster 108 = .ok (.aload_n 1, 1) := by decide +kernel
theorem dX7_writeCluster_109 : decode cX7_writeCluster 109 = .ok (.getfield 155, 3) := by decide +kernel
theorem dX7_writeCluster_112 : decode cX7_writeCluster 112 = .ok (.getfield 189, 3) := by decide +kernel
theorem dX7_writeCluster_115 : decode cX7_writeCluster 115 = .ok (.iload 4, 2) := by decide +kernel
theorem dX7_writeCluster_117 : decode cX7_writeCluster 117 = .ok (.laload, 1) := by decide +kernel
theorem dX7_writeCluster_118 : decode cX7_writeCluster 118 = .ok (.lconst 1, 1) := by decide +kernel
theorem dX7_writeCluster_119 : decode cX7_writeCluster 119 = .ok (.lcmp, 1) := by decide +kernel
theorem dX7_writeCluster_120 : decode cX7_writeCluster 120 = .ok (.ifCond .eq 23, 3) := by decide +kernel
theorem dX7_writeCluster_123 : decode cX7_writeCluster 123 = .ok (.aload_n 0, 1) := by decide +kernel
theorem dX7_writeCluster_124 : decode cX7_writeCluster 124 = .ok (.bipush 47, 2) := by decide +kernel
theorem dX7_writeCluster_126 : decode cX7_writeCluster 126 = .ok (.invokevirtual 105, 3) := by decide +kernel
theorem dX7_writeCluster_129 : decode cX7_writeCluster 129 = .ok (.aload_n 0, 1) := by decide +kernel
theorem dX7_writeCluster_130 : decode cX7_writeCluster 130 = .ok (.aload_n 1, 1) := by decide +kernel
theorem dX7_writeCluster_131 : decode cX7_writeCluster 131 = .ok (.getfield 155, 3) := by decide +kernel
theorem dX7_writeCluster_134 : decode cX7_writeCluster 134 = .ok (.getfield 189, 3) := by decide +kernel
theorem dX7_writeCluster_137 : decode cX7_writeCluster 137 = .ok (.iload 4, 2) := by decide +kernel
theorem dX7_writeCluster_139 : decode cX7_writeCluster 139 = .ok (.laload, 1) := by decide +kernel
theorem dX7_writeCluster_140 : decode cX7_writeCluster 140 = .ok (.invokevirtual 101, 3) := by decide +kernel
theorem dX7_writeCluster_143 : decode cX7_writeCluster 143 = .ok (.return_, 1) := by decide +kernel
theorem dX7_commonDivisor_0 : decode cX7_commonDivisor 0 = .ok (.lload_n 0, 1) := by decide +kernel
theorem dX7_commonDivisor_1 : decode cX7_commonDivisor 1 = .ok (.invokestatic 258, 3) := by decide +kernel
theorem dX7_commonDivisor_4 : decode cX7_commonDivisor 4 = .ok (.lstore 4, 2) := by decide +kernel
theorem dX7_commonDivisor_6 : decode cX7_commonDivisor 6 = .ok (.lload_n 2, 1) := by decide +kernel
theorem dX7_commonDivisor_7 : decode cX7_commonDivisor 7 = .ok (.invokestatic 258, 3) := by decide +kernel
theorem dX7_commonDivisor_10 : decode cX7_commonDivisor 10 = .ok (.lstore 6, 2) := by decide +kernel
theorem dX7_commonDivisor_12 : decode cX7_commonDivisor 12 = .ok (.iconst 0, 1) := by decide +kernel
theorem dX7_commonDivisor_13 : decode cX7_commonDivisor 13 = .ok (.istore 8, 2) := by decide +kernel
theorem dX7_commonDivisor_15 : decode cX7_commonDivisor 15 = .ok (.iload 8, 2) := by decide +kernel
theorem dX7_commonDivisor_17 : decode cX7_commonDivisor 17 = .ok (.sipush 200, 3) := by decide +kernel
theorem dX7_commonDivisor_20 : decode cX7_commonDivisor 20 = .ok (.if_icmp .ge 31, 3) := by decide +kernel
theorem dX7_commonDivisor_23 : decode cX7_commonDivisor 23 = .ok (.lload 6, 2) := by decide +kernel
theorem dX7_commonDivisor_25 : decode cX7_commonDivisor 25 = .ok (.lconst 0, 1) := by decide +kernel
theorem dX7_commonDivisor_26 : decode cX7_commonDivisor 26 = .ok (.lcmp, 1) := by decide +kernel
theorem dX7_commonDivisor_27 : decode cX7_commonDivisor 27 = .ok (.ifCond .eq 24, 3) := by decide +kernel
theorem dX7_commonDivisor_30 : decode cX7_commonDivisor 30 = .ok (.lload 4, 2) := by decide +kernel
theorem dX7_commonDivisor_32 : decode cX7_commonDivisor 32 = .ok (.lload 6, 2) := by decide +kernel
theorem dX7_commonDivisor_34 : decode cX7_commonDivisor 34 = .ok (.lrem, 1) := by decide +kernel
theorem dX7_commonDivisor_35 : decode cX7_commonDivisor 35 = .ok (.lstore 9, 2) := by decide +kernel
theorem dX7_commonDivisor_37 : decode cX7_commonDivisor 37 = .ok (.lload 6, 2) := by decide +kernel
theorem dX7_commonDivisor_39 : decode cX7_commonDivisor 39 = .ok (.lstore 4, 2) := by decide +kernel
theorem dX7_commonDivisor_41 : decode cX7_commonDivisor 41 = .ok (.lload 9, 2) := by decide +kernel
theorem dX7_commonDivisor_43 : decode cX7_commonDivisor 43 = .ok (.lstore 6, 2) := by decide +kernel
theorem dX7_commonDivisor_45 : decode cX7_commonDivisor 45 = .ok (.iinc 8 1, 3) := by decide +kernel
theorem dX7_commonDivisor_48 : decode cX7_commonDivisor 48 = .ok (.goto (-33), 3) := by decide +kernel
theorem dX7_commonDivisor_51 : decode cX7_commonDivisor 51 = .ok (.lconst 1, 1) := by decide +kernel
theorem dX7_commonDivisor_52 : decode cX7_commonDivisor 52 = .ok (.lload 4, 2) := by decide +kernel
theorem dX7_commonDivisor_54 : decode cX7_commonDivisor 54 = .ok (.invokestatic 262, 3) := by decide +kernel
theorem dX7_commonDivisor_57 : decode cX7_commonDivisor 57 = .ok (.lreturn, 1) := by decide +kernel
theorem dX7_lowered_0 : decode cX7_lowered 0 = .ok (.lload_n 2, 1) := by decide +kernel
theorem dX7_lowered_1 : decode cX7_lowered 1 = .ok (.lconst 0, 1) := by decide +kernel
theorem dX7_lowered_2 : decode cX7_lowered 2 = .ok (.lcmp, 1) := by decide +kernel
theorem dX7_lowered_3 : decode cX7_lowered 3 = .ok (.ifCond .ne 7, 3) := by decide +kernel
theorem dX7_lowered_6 : decode cX7_lowered 6 = .ok (.lload_n 0, 1) := by decide +kernel
theorem dX7_lowered_7 : decode cX7_lowered 7 = .ok (.goto 6, 3) := by decide +kernel
theorem dX7_lowered_10 : decode cX7_lowered 10 = .ok (.lload_n 0, 1) := by decide +kernel
theorem dX7_lowered_11 : decode cX7_lowered 11 = .ok (.lload_n 2, 1) := by decide +kernel
theorem dX7_lowered_12 : decode cX7_lowered 12 = .ok (.ldiv, 1) := by decide +kernel
theorem dX7_lowered_13 : decode cX7_lowered 13 = .ok (.lreturn, 1) := by decide +kernel
end
section
theorem dX8_init_0 : decode cX8_init 0 = .ok (.aload_n 0, 1) := by decide +kernel
theorem dX8_init_1 : decode cX8_init 1 = .ok (.invokespecial 1, 3) := by decide +kernel
theorem dX8_init_4 : decode cX8_init 4 = .ok (.aload_n 0, 1) := by decide +kernel
theorem dX8_init_5 : decode cX8_init 5 = .ok (.sipush 400, 3) := by decide +kernel
theorem dX8_init_8 : decode cX8_init 8 = .ok (.newarray .int, 2) := by decide +kernel
theorem dX8_init_10 : decode cX8_init 10 = .ok (.putfield 7, 3) := by decide +kernel
theorem dX8_init_13 : decode cX8_init 13 = .ok (.aload_n 0, 1) := by decide +kernel
theorem dX8_init_14 : decode cX8_init 14 = .ok (.bipush 20, 2) := by decide +kernel
theorem dX8_init_16 : decode cX8_init 16 = .ok (.newarray .int, 2) := by decide +kernel
theorem dX8_init_18 : decode cX8_init 18 = .ok (.putfield 13, 3) := by decide +kernel
theorem dX8_init_21 : decode cX8_init 21 = .ok (.aload_n 0, 1) := by decide +kernel
theorem dX8_init_22 : decode cX8_init 22 = .ok (.bipush 20, 2) := by decide +kernel
theorem dX8_init_24 : decode cX8_init 24 = .ok (.newarray .int, 2) := by decide +kernel
theorem dX8_init_26 : decode cX8_init 26 = .ok (.putfield 16, 3) := by decide +kernel
theorem dX8_init_29 : decode cX8_init 29 = .ok (.aload_n 0, 1) := by decide +kernel
theorem dX8_init_30 : decode cX8_init 30 = .ok (.sipush 2400, 3) := by decide +kernel
theorem dX8_init_33 : decode cX8_init 33 = .ok (.newarray .byte, 2) := by decide +kernel
theorem dX8_init_35 : decode cX8_init 35 = .ok (.putfield 19, 3) := by decide +kernel
theorem dX8_init_38 : decode cX8_init 38 = .ok (.aload_n 0, 1) := by decide +kernel
theorem dX8_init_39 : decode cX8_init 39 = .ok (.sipush 2400, 3) := by decide +kernel
theorem dX8_init_42 : decode cX8_init 42 = .ok (.newarray .byte, 2) := by decide +kernel
theorem dX8_init_44 : decode cX8_init 44 = .ok (.putfield 23, 3) := by decide +kernel
theorem dX8_init_47 : decode cX8_init 47 = .ok (.aload_n 0, 1) := by decide +kernel
theorem dX8_init_48 : decode cX8_init 48 = .ok (.iconst (-1), 1) := by decide +kernel
theorem dX8_init_49 : decode cX8_init 49 = .ok (.putfield 26, 3) := by decide +kernel
theorem dX8_init_52 : decode cX8_init 52 = .ok (.aload_n 0, 1) := by decide +kernel
theorem dX8_init_53 : decode cX8_init 53 = .ok (.sipush 191, 3) := by decide +kernel
theorem dX8_init_56 : decode cX8_init 56 = .ok (.newarray .int, 2) := by decide +kernel
theorem dX8_init_58 : decode cX8_init 58 = .ok (.putfield 30, 3) := by decide +kernel
theorem dX8_init_61 : decode cX8_init 61 = .ok (.aload_n 0, 1) := by decide +kernel
theorem dX8_init_62 : decode cX8_init 62 = .ok (.bipush 19, 2) := by decide +kernel
theorem dX8_init_64 : decode cX8_init 64 = .ok (.newarray .int, 2) := by decide +kernel
theorem dX8_init_66 : decode cX8_init 66 = .ok (.putfield 33, 3) := by decide +kernel
theorem dX8_init_69 : decode cX8_init 69 = .ok (.aload_n 0, 1) := by decide +kernel
theorem dX8_init_70 : decode cX8_init 70 = .ok (.iconst 4, 1) := by decide +kernel
theorem dX8_init_71 : decode cX8_init 71 = .ok (.newarray .boolean, 2) := by decide +kernel
theorem dX8_init_73 : decode cX8_init 73 = .ok (.putfield 36, 3) := by decide +kernel
theorem dX8_init_76 : decode cX8_init 76 = .ok (.aload_n 0, 1) := by decide +kernel
theorem dX8_init_77 : decode cX8_init 77 = .ok (.iconst 4, 1) := by decide +kernel
theorem dX8_init_78 : decode cX8_init 78 = .ok (.newarray .int, 2) := by decide +kernel
theorem dX8_init_80 : decode cX8_init 80 = .ok (.putfield 40, 3) := by decide +kernel
theorem dX8_init_83 : decode cX8_init 83 = .ok (.aload_n 0, 1) := by decide +kernel
theorem dX8_init_84 : decode cX8_init 84 = .ok (.iconst 4, 1) := by decide +kernel
theorem dX8_init_85 : decode cX8_init 85 = .ok (.newarray .int, 2) := by decide +kernel
theorem dX8_init_87 : decode cX8_init 87 = .ok (.putfield 43, 3) := by decide +kernel
theorem dX8_init_90 : decode cX8_init 90 = .ok (.aload_n 0, 1) := by decide +kernel
theorem dX8_init_91 : decode cX8_init 91 = .ok (.iconst 4, 1) := by decide +kernel
theorem dX8_init_92 : decode cX8_init 92 = .ok (.newarray .int, 2) := by decide +kernel
theorem dX8_init_94 : decode cX8_init 94 = .ok (.putfield 46, 3) := by decide +kernel
theorem dX8_init_97 : decode cX8_init 97 = .ok (.aload_n 0, 1) := by decide +kernel
theorem dX8_init_98 : decode cX8_init 98 = .ok (.iconst 4, 1) := by decide +kernel
theorem dX8_init_99 : decode cX8_init 99 = .ok (.newarray .int, 2) := by decide +kernel
theorem dX8_init_101 : decode cX8_init 101 = .ok (.putfield 49, 3) := by decide +kernel
theorem dX8_init_104 : decode cX8_init 104 = .ok (.aload_n 0, 1) := by decide +kernel
theorem dX8_init_105 : decode cX8_init 105 = .ok (.bipush 76, 2) := by decide +kernel
theorem dX8_init_107 : decode cX8_init 107 = .ok (.newarray .int, 2) := by decide +kernel
theorem dX8_init_109 : decode cX8_init 109 = .ok (.putfield 52, 3) := by decide +kernel
theorem dX8_init_112 : decode cX8_init 112 = .ok (.aload_n 0, 1) := by decide +kernel
theorem dX8_init_113 : decode cX8_init 113 = .ok (.bipush 76, 2) := by decide +kernel
theorem dX8_init_115 : decode cX8_init 115 = .ok (.newarray .int, 2) := by decide +kernel
theorem dX8_init_117 : decode cX8_init 117 = .ok (.putfield 55, 3) := by decide +kernel
theorem dX8_init_120 : decode cX8_init 120 = .ok (.aload_n 0, 1) := by decide +kernel
theorem dX8_init_121 : decode cX8_init 121 = .ok (.bipush 76, 2) := by decide +kernel
theorem dX8_init_123 : decode cX8_init 123 = .ok (.newarray .int, 2) := by decide +kernel
theorem dX8_init_125 : decode cX8_init 125 = .ok (.putfield 58, 3) := by decide +kernel
theorem dX8_init_128 : decode cX8_init 128 = .ok (.aload_n 0, 1) := by decide +kernel
theorem dX8_init_129 : decode cX8_init 129 = .ok (.bipush 76, 2) := by decide +kernel
theorem dX8_init_131 : decode cX8_init 131 = .ok (.newarray .long, 2) := by decide +kernel
theorem dX8_init_133 : decode cX8_init 133 = .ok (.putfield 61, 3) := by decide +kernel
theorem dX8_init_136 : decode cX8_init 136 = .ok (.aload_n 0, 1) := by decide +kernel
theorem dX8_init_137 : decode cX8_init 137 = .ok (.bipush 76, 2) := by decide +kernel
theorem dX8_init_139 : decode cX8_init 139 = .ok (.newarray .long, 2) := by decide +kernel
theorem dX8_init_141 : decode cX8_init 141 = .ok (.putfield 65, 3) := by decide +kernel
theorem dX8_init_144 : decode cX8_init 144 = .ok (.aload_n 0, 1) := by decide +kernel
theorem dX8_init_145 : decode cX8_init 145 = .ok (.bipush 80, 2) := by decide +kernel
theorem dX8_init_147 : decode cX8_init 147 = .ok (.newarray .int, 2) := by decide +kernel
theorem dX8_init_149 : decode cX8_init 149 = .ok (.putfield 68, 3) := by decide +kernel
theorem dX8_init_152 : decode cX8_init 152 = .ok (.aload_n 0, 1) := by decide +kernel
theorem dX8_init_153 : decode cX8_init 153 = .ok (.bipush 40, 2) := by decide +kernel
theorem dX8_init_155 : decode cX8_init 155 = .ok (.newarray .int, 2) := by decide +kernel
theorem dX8_init_157 : decode cX8_init 157 = .ok (.putfield 71, 3) := by decide +kernel
theorem dX8_init_160 : decode cX8_init 160 = .ok (.aload_n 0, 1) := by decide +kernel
theorem dX8_init_161 : decode cX8_init 161 = .ok (.bipush 40, 2) := by decide +kernel
theorem dX8_init_163 : decode cX8_init 163 = .ok (.newarray .boolean, 2) := by decide +kernel
theorem dX8_init_165 : decode cX8_init 165 = .ok (.putfield 74, 3) := by decide +kernel
theorem dX8_init_168 : decode cX8_init 168 = .ok (.aload_n 0, 1) := by decide +kernel
theorem dX8_init_169 : decode cX8_init 169 = .ok (.bipush 19, 2) := by decide +kernel
theorem dX8_init_171 : decode cX8_init 171 = .ok (.newarray .int, 2) := by decide +kernel
theorem dX8_init_173 : decode cX8_init 173 = .ok (.putfield 77, 3) := by decide +kernel
theorem dX8_init_176 : decode cX8_init 176 = .ok (.aload_n 0, 1) := by decide +kernel
theorem dX8_init_177 : decode cX8_init 177 = .ok (.bipush 19, 2) := by decide +kernel
theorem dX8_init_179 : decode cX8_init 179 = .ok (.newarray .int, 2) := by decide +kernel
theorem dX8_init_181 : decode cX8_init 181 = .ok (.putfield 80, 3) := by decide +kernel
theorem dX8_init_184 : decode cX8_init 184 = .ok (.aload_n 0, 1) := by decide +kernel
theorem dX8_init_185 : decode cX8_init 185 = .ok (.bipush 19, 2) := by decide +kernel
theorem dX8_init_187 : decode cX8_init 187 = .ok (.newarray .long, 2) := by decide +kernel
theorem dX8_init_189 : decode cX8_init 189 = .ok (.putfield 83, 3) := by decide +kernel
theorem dX8_init_192 : decode cX8_init 192 = .ok (.aload_n 0, 1) := by decide +kernel
theorem dX8_init_193 : decode cX8_init 193 = .ok (.bipush 19, 2) := by decide +kernel
theorem dX8_init_195 : decode cX8_init 195 = .ok (.newarray .long, 2) := by decide +kernel
theorem dX8_init_197 : decode cX8_init 197 = .ok (.putfield 86, 3) := by decide +kernel
theorem dX8_init_200 : decode cX8_init 200 = .ok (.aload_n 0, 1) := by decide +kernel
theorem dX8_init_201 : decode cX8_init 201 = .ok (.bipush 40, 2) := by decide +kernel
theorem dX8_init_203 : decode cX8_init 203 = .ok (.newarray .int, 2) := by decide +kernel
theorem dX8_init_205 : decode cX8_init 205 = .ok (.putfield 89, 3) := by decide +kernel
theorem dX8_init_208 : decode cX8_init 208 = .ok (.aload_n 0, 1) := by decide +kernel
theorem dX8_init_209 : decode cX8_init 209 = .ok (.bipush 19, 2) := by decide +kernel
theorem dX8_init_211 : decode cX8_init 211 = .ok (.newarray .int, 2) := by decide +kernel
theorem dX8_init_213 : decode cX8_init 213 = .ok (.putfield 92, 3) := by decide +kernel
theorem dX8_init_216 : decode cX8_init 216 = .ok (.aload_n 0, 1) := by decide +kernel
theorem dX8_init_217 : decode cX8_init 217 = .ok (.bipush 40, 2) := by decide +kernel
theorem dX8_init_219 : decode cX8_init 219 = .ok (.newarray .int, 2) := by decide +kernel
theorem dX8_init_221 : decode cX8_init 221 = .ok (.putfield 95, 3) := by decide +kernel
theorem dX8_init_224 : decode cX8_init 224 = .ok (.aload_n 0, 1) := by decide +kernel
theorem dX8_init_225 : decode cX8_init 225 = .ok (.bipush 100, 2) := by decide +kernel
theorem dX8_init_227 : decode cX8_init 227 = .ok (.newarray .int, 2) := by decide +kernel
theorem dX8_init_229 : decode cX8_init 229 = .ok (.putfield 98, 3) := by decide +kernel
theorem dX8_init_232 : decode cX8_init 232 = .ok (.aload_n 0, 1) := by decide +kernel
theorem dX8_init_233 : decode cX8_init 233 = .ok (.bipush 20, 2) := by decide +kernel
theorem dX8_init_235 : decode cX8_init 235 = .ok (.newarray .int, 2) := by decide +kernel
theorem dX8_init_237 : decode cX8_init 237 = .ok (.putfield 101, 3) := by decide +kernel
theorem dX8_init_240 : decode cX8_init 240 = .ok (.aload_n 0, 1) := by decide +kernel
theorem dX8_init_241 : decode cX8_init 241 = .ok (.sipush 2400, 3) := by decide +kernel
theorem dX8_init_244 : decode cX8_init 244 = .ok (.newarray .byte, 2) := by decide +kernel
theorem dX8_init_246 : decode cX8_init 246 = .ok (.putfield 104, 3) := by decide +kernel
theorem dX8_init_249 : decode cX8_init 249 = .ok (.return_, 1) := by decide +kernel
theorem dX8_isIn_0 : decode cX8_isIn 0 = .ok (.iload_n 0, 1) := by decide +kernel
theorem dX8_isIn_1 : decode cX8_isIn 1 = .ok (.ifCond .lt 12, 3) := by decide +kernel
theorem dX8_isIn_4 : decode cX8_isIn 4 = .ok (.iload_n 0, 1) := by decide +kernel
theorem dX8_isIn_5 : decode cX8_isIn 5 = .ok (.iload_n 1, 1) := by decide +kernel
theorem dX8_isIn_6 : decode cX8_isIn 6 = .ok (.if_icmp .ge 7, 3) := by decide +kernel
theorem dX8_isIn_9 : decode cX8_isIn 9 = .ok (.iconst 1, 1) := by decide +kernel
theorem dX8_isIn_10 : decode cX8_isIn 10 = .ok (.goto 4, 3) := by decide +kernel
theorem dX8_isIn_13 : decode cX8_isIn 13 = .ok (.iconst 0, 1) := by decide +kernel
theorem dX8_isIn_14 : decode cX8_isIn 14 = .ok (.ireturn, 1) := by decide +kernel
theorem dX8_points_0 : decode cX8_points 0 = .ok (.iload_n 1, 1) := by decide +kernel
theorem dX8_points_1 : decode cX8_points 1 = .ok (.ifCond .lt 9, 3) := by decide +kernel
theorem dX8_points_4 : decode cX8_points 4 = .ok (.iload_n 1, 1) := by decide +kernel
theorem dX8_points_5 : decode cX8_points 5 = .ok (.bipush 20, 2) := by decide +kernel
theorem dX8_points_7 : decode cX8_points 7 = .ok (.if_icmp .le 5, 3) := by decide +kernel
theorem dX8_points_10 : decode cX8_points 10 = .ok (.iconst (-1), 1) := by decide +kernel
theorem dX8_points_11 : decode cX8_points 11 = .ok (.ireturn, 1) := by decide +kernel
theorem dX8_points_12 : decode cX8_points 12 = .ok (.aload_n 0, 1) := by decide +kernel
theorem dX8_points_13 : decode cX8_points 13 = .ok (.iload_n 1, 1) := by decide +kernel
theorem dX8_points_14 : decode cX8_points 14 = .ok (.putfield 107, 3) := by decide +kernel
theorem dX8_points_17 : decode cX8_points 17 = .ok (.iconst 0, 1) := by decide +kernel
theorem dX8_points_18 : decode cX8_points 18 = .ok (.istore_n 2, 1) := by decide +kernel
theorem dX8_points_19 : decode cX8_points 19 = .ok (.iload_n 2, 1) := by decide +kernel
theorem dX8_points_20 : decode cX8_points 20 = .ok (.sipush 400, 3) := by decide +kernel
theorem dX8_points_23 : decode cX8_points 23 = .ok (.if_icmp .ge 16, 3) := by decide +kernel
theorem dX8_points_26 : decode cX8_points 26 = .ok (.aload_n 0, 1) := by decide +kernel
theorem dX8_points_27 : decode cX8_points 27 = .ok (.getfield 7, 3) := by decide +kernel
theorem dX8_points_30 : decode cX8_points 30 = .ok (.iload_n 2, 1) := by decide +kernel
theorem dX8_points_31 : decode cX8_points 31 = .ok (.iconst 0, 1) := by decide +kernel
theorem dX8_points_32 : decode cX8_points 32 = .ok (.iastore, 1) := by decide +kernel
theorem dX8_points_33 : decode cX8_points 33 = .ok (.iinc 2 1, 3) := by decide +kernel
theorem dX8_points_36 : decode cX8_points 36 = .ok (.goto (-17), 3) := by decide +kernel
theorem dX8_points_39 : decode cX8_points 39 = .ok (.iconst 0, 1) := by decide +kernel
theorem dX8_points_40 : decode cX8_points 40 = .ok (.istore_n 2, 1) := by decide +kernel
theorem dX8_points_41 : decode cX8_points 41 = .ok (.iload_n 2, 1) := by decide +kernel
theorem dX8_points_42 : decode cX8_points 42 = .ok (.bipush 20, 2) := by decide +kernel
theorem dX8_points_44 : decode cX8_points 44 = .ok (.if_icmp .ge 23, 3) := by decide +kernel
theorem dX8_points_47 : decode cX8_points 47 = .ok (.aload_n 0, 1) := by decide +kernel
theorem dX8_points_48 : decode cX8_points 48 = .ok (.getfield 13, 3) := by decide +kernel
theorem dX8_points_51 : decode cX8_points 51 = .ok (.iload_n 2, 1) := by decide +kernel
theorem dX8_points_52 : decode cX8_points 52 = .ok (.iconst 0, 1) := by decide +kernel
theorem dX8_points_53 : decode cX8_points 53 = .ok (.iastore, 1) := by decide +kernel
theorem dX8_points_54 : decode cX8_points 54 = .ok (.aload_n 0, 1) := by decide +kernel
theorem dX8_points_55 : decode cX8_points 55 = .ok (.getfield 16, 3) := by decide +kernel
theorem dX8_points_58 : decode cX8_points 58 = .ok (.iload_n 2, 1) := by decide +kernel
theorem dX8_points_59 : decode cX8_points 59 = .ok (.iconst 0, 1) := by decide +kernel
theorem dX8_points_60 : decode cX8_points 60 = .ok (.iastore, 1) := by decide +kernel
theorem dX8_points_61 : decode cX8_points 61 = .ok (.iinc 2 1, 3) := by decide +kernel
theorem dX8_points_64 : decode cX8_points 64 = .ok (.goto (-23), 3) := by decide +kernel
theorem dX8_points_67 : decode cX8_points 67 = .ok (.aload_n 0, 1) := by decide +kernel
theorem dX8_points_68 : decode cX8_points 68 = .ok (.getfield 107, 3) := by decide +kernel
theorem dX8_points_71 : decode cX8_points 71 = .ok (.ireturn, 1) := by decide +kernel
theorem dX8_sets_0 : decode cX8_sets 0 = .ok (.aload_n 0, 1) := by decide +kernel
theorem dX8_sets_1 : decode cX8_sets 1 = .ok (.getfield 7, 3) := by decide +kernel
theorem dX8_sets_4 : decode cX8_sets 4 = .ok (.bipush 20, 2) := by decide +kernel
theorem dX8_sets_6 : decode cX8_sets 6 = .ok (.iload_n 1, 1) := by decide +kernel
theorem dX8_sets_7 : decode cX8_sets 7 = .ok (.imul, 1) := by decide +kernel
theorem dX8_sets_8 : decode cX8_sets 8 = .ok (.iload_n 2, 1) := by decide +kernel
theorem dX8_sets_9 : decode cX8_sets 9 = .ok (.iadd, 1) := by decide +kernel
theorem dX8_sets_10 : decode cX8_sets 10 = .ok (.iload_n 3, 1) := by decide +kernel
theorem dX8_sets_11 : decode cX8_sets 11 = .ok (.iastore, 1) := by decide +kernel
theorem dX8_sets_12 : decode cX8_sets 12 = .ok (.aload_n 0, 1) := by decide +kernel
theorem dX8_sets_13 : decode cX8_sets 13 = .ok (.getfield 7, 3) := by decide +kernel
theorem dX8_sets_16 : decode cX8_sets 16 = .ok (.bipush 20, 2) := by decide +kernel
theorem dX8_sets_18 : decode cX8_sets 18 = .ok (.iload_n 2, 1) := by decide +kernel
theorem dX8_sets_19 : decode cX8_sets 19 = .ok (.imul, 1) := by decide +kernel
theorem dX8_sets_20 : decode cX8_sets 20 = .ok (.iload_n 1, 1) := by decide +kernel
theorem dX8_sets_21 : decode cX8_sets 21 = .ok (.iadd, 1) := by decide +kernel
theorem dX8_sets_22 : decode cX8_sets 22 = .ok (.iload_n 3, 1) := by decide +kernel
theorem dX8_sets_23 : decode cX8_sets 23 = .ok (.iastore, 1) := by decide +kernel
theorem dX8_sets_24 : decode cX8_sets 24 = .ok (.return_, 1) := by decide +kernel
theorem dX8_put_0 : decode cX8_put 0 = .ok (.iload_n 1, 1) := by decide +kernel
theorem dX8_put_1 : decode cX8_put 1 = .ok (.aload_n 0, 1) := by decide +kernel
theorem dX8_put_2 : decode cX8_put 2 = .ok (.getfield 107, 3) := by decide +kernel
theorem dX8_put_5 : decode cX8_put 5 = .ok (.invokestatic 110, 3) := by decide +kernel
theorem dX8_put_8 : decode cX8_put 8 = .ok (.ifCond .eq 28, 3) := by decide +kernel
theorem dX8_put_11 : decode cX8_put 11 = .ok (.iload_n 2, 1) := by decide +kernel
theorem dX8_put_12 : decode cX8_put 12 = .ok (.aload_n 0, 1) := by decide +kernel
theorem dX8_put_13 : decode cX8_put 13 = .ok (.getfield 107, 3) := by decide +kernel
theorem dX8_put_16 : decode cX8_put 16 = .ok (.invokestatic 110, 3) := by decide +kernel
theorem dX8_put_19 : decode cX8_put 19 = .ok (.ifCond .eq 17, 3) := by decide +kernel
theorem dX8_put_22 : decode cX8_put 22 = .ok (.iload_n 1, 1) := by decide +kernel
theorem dX8_put_23 : decode cX8_put 23 = .ok (.iload_n 2, 1) := by decide +kernel
theorem dX8_put_24 : decode cX8_put 24 = .ok (.if_icmp .eq 12, 3) := by decide +kernel
theorem dX8_put_27 : decode cX8_put 27 = .ok (.iload_n 3, 1) := by decide +kernel
theorem dX8_put_28 : decode cX8_put 28 = .ok (.ldc 114, 2) := by decide +kernel
theorem dX8_put_30 : decode cX8_put 30 = .ok (.invokestatic 110, 3) := by decide +kernel
theorem dX8_put_33 : decode cX8_put 33 = .ok (.ifCond .ne 5, 3) := by decide +kernel
theorem dX8_put_36 : decode cX8_put 36 = .ok (.iconst 0, 1) := by decide +kernel
theorem dX8_put_37 : decode cX8_put 37 = .ok (.ireturn, 1) := by decide +kernel
theorem dX8_put_38 : decode cX8_put 38 = .ok (.aload_n 0, 1) := by decide +kernel
theorem dX8_put_39 : decode cX8_put 39 = .ok (.iload_n 1, 1) := by decide +kernel
theorem dX8_put_40 : decode cX8_put 40 = .ok (.iload_n 2, 1) := by decide +kernel
theorem dX8_put_41 : decode cX8_put 41 = .ok (.iload_n 3, 1) := by decide +kernel
theorem dX8_put_42 : decode cX8_put 42 = .ok (.invokevirtual 115, 3) := by decide +kernel
theorem dX8_put_45 : decode cX8_put 45 = .ok (.iconst 1, 1) := by decide +kernel
theorem dX8_put_46 : decode cX8_put 46 = .ok (.ireturn, 1) := by decide +kernel
theorem dX8_distance_0 : decode cX8_distance 0 = .ok (.iload_n 1, 1) := by decide +kernel
theorem dX8_distance_1 : decode cX8_distance 1 = .ok (.aload_n 0, 1) := by decide +kernel
theorem dX8_distance_2 : decode cX8_distance 2 = .ok (.getfield 107, 3) := by decide +kernel
theorem dX8_distance_5 : decode cX8_distance 5 = .ok (.invokestatic 110, 3) := by decide +kernel
theorem dX8_distance_8 : decode cX8_distance 8 = .ok (.ifCond .eq 28, 3) := by decide +kernel
theorem dX8_distance_11 : decode cX8_distance 11 = .ok (.iload_n 2, 1) := by decide +kernel
theorem dX8_distance_12 : decode cX8_distance 12 = .ok (.aload_n 0, 1) := by decide +kernel
theorem dX8_distance_13 : decode cX8_distance 13 = .ok (.getfield 107, 3) := by decide +kernel
theorem dX8_distance_16 : decode cX8_distance 16 = .ok (.invokestatic 110, 3) := by decide +kernel
theorem dX8_distance_19 : decode cX8_distance 19 = .ok (.ifCond .eq 17, 3) := by decide +kernel
theorem dX8_distance_22 : decode cX8_distance 22 = .ok (.aload_n 0, 1) := by decide +kernel
theorem dX8_distance_23 : decode cX8_distance 23 = .ok (.getfield 7, 3) := by decide +kernel
theorem dX8_distance_26 : decode cX8_distance 26 = .ok (.bipush 20, 2) := by decide +kernel
theorem dX8_distance_28 : decode cX8_distance 28 = .ok (.iload_n 1, 1) := by decide +kernel
theorem dX8_distance_29 : decode cX8_distance 29 = .ok (.imul, 1) := by decide +kernel
theorem dX8_distance_30 : decode cX8_distance 30 = .ok (.iload_n 2, 1) := by decide +kernel
theorem dX8_distance_31 : decode cX8_distance 31 = .ok (.iadd, 1) := by decide +kernel
theorem dX8_distance_32 : decode cX8_distance 32 = .ok (.iaload, 1) := by decide +kernel
theorem dX8_distance_33 : decode cX8_distance 33 = .ok (.goto 4, 3) := by decide +kernel
theorem dX8_distance_36 : decode cX8_distance 36 = .ok (.iconst (-1), 1) := by decide +kernel
theorem dX8_distance_37 : decode cX8_distance 37 = .ok (.ireturn, 1) := by decide +kernel
theorem dX8_place_0 : decode cX8_place 0 = .ok (.iload_n 1, 1) := by decide +kernel
theorem dX8_place_1 : decode cX8_place 1 = .ok (.aload_n 0, 1) := by decide +kernel
theorem dX8_place_2 : decode cX8_place 2 = .ok (.getfield 107, 3) := by decide +kernel
theorem dX8_place_5 : decode cX8_place 5 = .ok (.invokestatic 110, 3) := by decide +kernel
theorem dX8_place_8 : decode cX8_place 8 = .ok (.ifCond .eq 31, 3) := by decide +kernel
theorem dX8_place_11 : decode cX8_place 11 = .ok (.iload_n 2, 1) := by decide +kernel
theorem dX8_place_12 : decode cX8_place 12 = .ok (.sipush (-500), 3) := by decide +kernel
theorem dX8_place_15 : decode cX8_place 15 = .ok (.if_icmp .lt 24, 3) := by decide +kernel
theorem dX8_place_18 : decode cX8_place 18 = .ok (.iload_n 2, 1) := by decide +kernel
theorem dX8_place_19 : decode cX8_place 19 = .ok (.sipush 500, 3) := by decide +kernel
theorem dX8_place_22 : decode cX8_place 22 = .ok (.if_icmp .gt 17, 3) := by decide +kernel
theorem dX8_place_25 : decode cX8_place 25 = .ok (.iload_n 3, 1) := by decide +kernel
theorem dX8_place_26 : decode cX8_place 26 = .ok (.sipush (-500), 3) := by decide +kernel
theorem dX8_place_29 : decode cX8_place 29 = .ok (.if_icmp .lt 10, 3) := by decide +kernel
theorem dX8_place_32 : decode cX8_place 32 = .ok (.iload_n 3, 1) := by decide +kernel
theorem dX8_place_33 : decode cX8_place 33 = .ok (.sipush 500, 3) := by decide +kernel
theorem dX8_place_36 : decode cX8_place 36 = .ok (.if_icmp .le 5, 3) := by decide +kernel
theorem dX8_place_39 : decode cX8_place 39 = .ok (.iconst 0, 1) := by decide +kernel
theorem dX8_place_40 : decode cX8_place 40 = .ok (.ireturn, 1) := by decide +kernel
theorem dX8_place_41 : decode cX8_place 41 = .ok (.aload_n 0, 1) := by decide +kernel
theorem dX8_place_42 : decode cX8_place 42 = .ok (.getfield 13, 3) := by decide +kernel
theorem dX8_place_45 : decode cX8_place 45 = .ok (.iload_n 1, 1) := by decide +kernel
theorem dX8_place_46 : decode cX8_place 46 = .ok (.iload_n 2, 1) := by decide +kernel
theorem dX8_place_47 : decode cX8_place 47 = .ok (.iastore, 1) := by decide +kernel
theorem dX8_place_48 : decode cX8_place 48 = .ok (.aload_n 0, 1) := by decide +kernel
theorem dX8_place_49 : decode cX8_place 49 = .ok (.getfield 16, 3) := by decide +kernel
theorem dX8_place_52 : decode cX8_place 52 = .ok (.iload_n 1, 1) := by decide +kernel
theorem dX8_place_53 : decode cX8_place 53 = .ok (.iload_n 3, 1) := by decide +kernel
theorem dX8_place_54 : decode cX8_place 54 = .ok (.iastore, 1) := by decide +kernel
theorem dX8_place_55 : decode cX8_place 55 = .ok (.iconst 1, 1) := by decide +kernel
theorem dX8_place_56 : decode cX8_place 56 = .ok (.ireturn, 1) := by decide +kernel
theorem dX8_sizeOf_0 : decode cX8_sizeOf 0 = .ok (.iload_n 0, 1) := by decide +kernel
theorem dX8_sizeOf_1 : decode cX8_sizeOf 1 = .ok (.ifCond .ge 8, 3) := by decide +kernel
theorem dX8_sizeOf_4 : decode cX8_sizeOf 4 = .ok (.iload_n 0, 1) := by decide +kernel
theorem dX8_sizeOf_5 : decode cX8_sizeOf 5 = .ok (.ineg, 1) := by decide +kernel
theorem dX8_sizeOf_6 : decode cX8_sizeOf 6 = .ok (.goto 4, 3) := by decide +kernel
theorem dX8_sizeOf_9 : decode cX8_sizeOf 9 = .ok (.iload_n 0, 1) := by decide +kernel
theorem dX8_sizeOf_10 : decode cX8_sizeOf 10 = .ok (.ireturn, 1) := by decide +kernel
theorem dX8_measure_0 : decode cX8_measure 0 = .ok (.iload_n 1, 1) := by decide +kernel
theorem dX8_measure_1 : decode cX8_measure 1 = .ok (.iconst 3, 1) := by decide +kernel
theorem dX8_measure_2 : decode cX8_measure 2 = .ok (.invokestatic 110, 3) := by decide +kernel
theorem dX8_measure_5 : decode cX8_measure 5 = .ok (.ifCond .ne 5, 3) := by decide +kernel
theorem dX8_measure_8 : decode cX8_measure 8 = .ok (.iconst 0, 1) := by decide +kernel
theorem dX8_measure_9 : decode cX8_measure 9 = .ok (.ireturn, 1) := by decide +kernel
theorem dX8_measure_10 : decode cX8_measure 10 = .ok (.iconst 0, 1) := by decide +kernel
theorem dX8_measure_11 : decode cX8_measure 11 = .ok (.istore_n 2, 1) := by decide +kernel
theorem dX8_measure_12 : decode cX8_measure 12 = .ok (.iload_n 2, 1) := by decide +kernel
theorem dX8_measure_13 : decode cX8_measure 13 = .ok (.aload_n 0, 1) := by decide +kernel
theorem dX8_measure_14 : decode cX8_measure 14 = .ok (.getfield 107, 3) := by decide +kernel
theorem dX8_measure_17 : decode cX8_measure 17 = .ok (.if_icmp .ge 109, 3) := by decide +kernel
theorem dX8_measure_20 : decode cX8_measure 20 = .ok (.iconst 0, 1) := by decide +kernel
theorem dX8_measure_21 : decode cX8_measure 21 = .ok (.istore_n 3, 1) := by decide +kernel
theorem dX8_measure_22 : decode cX8_measure 22 = .ok (.iload_n 3, 1) := by decide +kernel
theorem dX8_measure_23 : decode cX8_measure 23 = .ok (.iload_n 2, 1) := by decide +kernel
theorem dX8_measure_24 : decode cX8_measure 24 = .ok (.if_icmp .ge 96, 3) := by decide +kernel
theorem dX8_measure_27 : decode cX8_measure 27 = .ok (.aload_n 0, 1) := by decide +kernel
theorem dX8_measure_28 : decode cX8_measure 28 = .ok (.getfield 13, 3) := by decide +kernel
theorem dX8_measure_31 : decode cX8_measure 31 = .ok (.iload_n 2, 1) := by decide +kernel
theorem dX8_measure_32 : decode cX8_measure 32 = .ok (.iaload, 1) := by decide +kernel
theorem dX8_measure_33 : decode cX8_measure 33 = .ok (.aload_n 0, 1) := by decide +kernel
theorem dX8_measure_34 : decode cX8_measure 34 = .ok (.getfield 13, 3) := by decide +kernel
theorem dX8_measure_37 : decode cX8_measure 37 = .ok (.iload_n 3, 1) := by decide +kernel
theorem dX8_measure_38 : decode cX8_measure 38 = .ok (.iaload, 1) := by decide +kernel
theorem dX8_measure_39 : decode cX8_measure 39 = .ok (.isub, 1) := by decide +kernel
theorem dX8_measure_40 : decode cX8_measure 40 = .ok (.invokestatic 119, 3) := by decide +kernel
theorem dX8_measure_43 : decode cX8_measure 43 = .ok (.istore 4, 2) := by decide +kernel
theorem dX8_measure_45 : decode cX8_measure 45 = .ok (.aload_n 0, 1) := by decide +kernel
theorem dX8_measure_46 : decode cX8_measure 46 = .ok (.getfield 16, 3) := by decide +kernel
theorem dX8_measure_49 : decode cX8_measure 49 = .ok (.iload_n 2, 1) := by decide +kernel
theorem dX8_measure_50 : decode cX8_measure 50 = .ok (.iaload, 1) := by decide +kernel
theorem dX8_measure_51 : decode cX8_measure 51 = .ok (.aload_n 0, 1) := by decide +kernel
theorem dX8_measure_52 : decode cX8_measure 52 = .ok (.getfield 16, 3) := by decide +kernel
theorem dX8_measure_55 : decode cX8_measure 55 = .ok (.iload_n 3, 1) := by decide +kernel
theorem dX8_measure_56 : decode cX8_measure 56 = .ok (.iaload, 1) := by decide +kernel
theorem dX8_measure_57 : decode cX8_measure 57 = .ok (.isub, 1) := by decide +kernel
theorem dX8_measure_58 : decode cX8_measure 58 = .ok (.invokestatic 119, 3) := by decide +kernel
theorem dX8_measure_61 : decode cX8_measure 61 = .ok (.istore 5, 2) := by decide +kernel
theorem dX8_measure_63 : decode cX8_measure 63 = .ok (.aload_n 0, 1) := by decide +kernel
theorem dX8_measure_64 : decode cX8_measure 64 = .ok (.iload_n 2, 1) := by decide +kernel
theorem dX8_measure_65 : decode cX8_measure 65 = .ok (.iload_n 3, 1) := by decide +kernel
theorem dX8_measure_66 : decode cX8_measure 66 = .ok (.iload_n 1, 1) := by decide +kernel
theorem dX8_measure_67 : decode cX8_measure 67 = .ok (.ifCond .ne 17, 3) := by decide +kernel
theorem dX8_measure_70 : decode cX8_measure 70 = .ok (.iload 4, 2) := by decide +kernel
theorem dX8_measure_72 : decode cX8_measure 72 = .ok (.iload 4, 2) := by decide +kernel
theorem dX8_measure_74 : decode cX8_measure 74 = .ok (.imul, 1) := by decide +kernel
theorem dX8_measure_75 : decode cX8_measure 75 = .ok (.iload 5, 2) := by decide +kernel
theorem dX8_measure_77 : decode cX8_measure 77 = .ok (.iload 5, 2) := by decide +kernel
theorem dX8_measure_79 : decode cX8_measure 79 = .ok (.imul, 1) := by decide +kernel
theorem dX8_measure_80 : decode cX8_measure 80 = .ok (.iadd, 1) := by decide +kernel
theorem dX8_measure_81 : decode cX8_measure 81 = .ok (.goto 30, 3) := by decide +kernel
theorem dX8_measure_84 : decode cX8_measure 84 = .ok (.iload_n 1, 1) := by decide +kernel
theorem dX8_measure_85 : decode cX8_measure 85 = .ok (.iconst 1, 1) := by decide +kernel
theorem dX8_measure_86 : decode cX8_measure 86 = .ok (.if_icmp .ne 11, 3) := by decide +kernel
theorem dX8_measure_89 : decode cX8_measure 89 = .ok (.iload 4, 2) := by decide +kernel
theorem dX8_measure_91 : decode cX8_measure 91 = .ok (.iload 5, 2) := by decide +kernel
theorem dX8_measure_93 : decode cX8_measure 93 = .ok (.iadd, 1) := by decide +kernel
theorem dX8_measure_94 : decode cX8_measure 94 = .ok (.goto 17, 3) := by decide +kernel
theorem dX8_measure_97 : decode cX8_measure 97 = .ok (.iload 4, 2) := by decide +kernel
theorem dX8_measure_99 : decode cX8_measure 99 = .ok (.iload 5, 2) := by decide +kernel
theorem dX8_measure_101 : decode cX8_measure 101 = .ok (.if_icmp .le 8, 3) := by decide +kernel
theorem dX8_measure_104 : decode cX8_measure 104 = .ok (.iload 4, 2) := by decide +kernel
theorem dX8_measure_106 : decode cX8_measure 106 = .ok (.goto 5, 3) := by decide +kernel
theorem dX8_measure_109 : decode cX8_measure 109 = .ok (.iload 5, 2) := by decide +kernel
theorem dX8_measure_111 : decode cX8_measure 111 = .ok (.invokevirtual 115, 3) := by decide +kernel
theorem dX8_measure_114 : decode cX8_measure 114 = .ok (.iinc 3 1, 3) := by decide +kernel
theorem dX8_measure_117 : decode cX8_measure 117 = .ok (.goto (-95), 3) := by decide +kernel
theorem dX8_measure_120 : decode cX8_measure 120 = .ok (.iinc 2 1, 3) := by decide +kernel
theorem dX8_measure_123 : decode cX8_measure 123 = .ok (.goto (-111), 3) := by decide +kernel
theorem dX8_measure_126 : decode cX8_measure 126 = .ok (.iconst 1, 1) := by decide +kernel
theorem dX8_measure_127 : decode cX8_measure 127 = .ok (.ireturn, 1) := by decide +kernel
theorem dX8_feed_0 : decode cX8_feed 0 = .ok (.aload_n 0, 1) := by decide +kernel
theorem dX8_feed_1 : decode cX8_feed 1 = .ok (.getfield 123, 3) := by decide +kernel
theorem dX8_feed_4 : decode cX8_feed 4 = .ok (.bipush 20, 2) := by decide +kernel
theorem dX8_feed_6 : decode cX8_feed 6 = .ok (.iadd, 1) := by decide +kernel
theorem dX8_feed_7 : decode cX8_feed 7 = .ok (.sipush 2400, 3) := by decide +kernel
theorem dX8_feed_10 : decode cX8_feed 10 = .ok (.if_icmp .le 5, 3) := by decide +kernel
theorem dX8_feed_13 : decode cX8_feed 13 = .ok (.iconst (-1), 1) := by decide +kernel
theorem dX8_feed_14 : decode cX8_feed 14 = .ok (.ireturn, 1) := by decide +kernel
theorem dX8_feed_15 : decode cX8_feed 15 = .ok (.iconst 0, 1) := by decide +kernel
theorem dX8_feed_16 : decode cX8_feed 16 = .ok (.istore 6, 2) := by decide +kernel
theorem dX8_feed_18 : decode cX8_feed 18 = .ok (.iload 6, 2) := by decide +kernel
theorem dX8_feed_20 : decode cX8_feed 20 = .ok (.bipush 20, 2) := by decide +kernel
theorem dX8_feed_22 : decode cX8_feed 22 = .ok (.if_icmp .ge 90, 3) := by decide +kernel
theorem dX8_feed_25 : decode cX8_feed 25 = .ok (.iload 6, 2) := by decide +kernel
theorem dX8_feed_27 : decode cX8_feed 27 = .ok (.iconst 4, 1) := by decide +kernel
theorem dX8_feed_28 : decode cX8_feed 28 = .ok (.if_icmp .ge 7, 3) := by decide +kernel
theorem dX8_feed_31 : decode cX8_feed 31 = .ok (.iload_n 1, 1) := by decide +kernel
theorem dX8_feed_32 : decode cX8_feed 32 = .ok (.goto 39, 3) := by decide +kernel
theorem dX8_feed_35 : decode cX8_feed 35 = .ok (.iload 6, 2) := by decide +kernel
theorem dX8_feed_37 : decode cX8_feed 37 = .ok (.bipush 8, 2) := by decide +kernel
theorem dX8_feed_39 : decode cX8_feed 39 = .ok (.if_icmp .ge 7, 3) := by decide +kernel
theorem dX8_feed_42 : decode cX8_feed 42 = .ok (.iload_n 2, 1) := by decide +kernel
theorem dX8_feed_43 : decode cX8_feed 43 = .ok (.goto 28, 3) := by decide +kernel
theorem dX8_feed_46 : decode cX8_feed 46 = .ok (.iload 6, 2) := by decide +kernel
theorem dX8_feed_48 : decode cX8_feed 48 = .ok (.bipush 12, 2) := by decide +kernel
theorem dX8_feed_50 : decode cX8_feed 50 = .ok (.if_icmp .ge 7, 3) := by decide +kernel
theorem dX8_feed_53 : decode cX8_feed 53 = .ok (.iload_n 3, 1) := by decide +kernel
theorem dX8_feed_54 : decode cX8_feed 54 = .ok (.goto 17, 3) := by decide +kernel
theorem dX8_feed_57 : decode cX8_feed 57 = .ok (.iload 6, 2) := by decide +kernel
theorem dX8_feed_59 : decode cX8_feed 59 = .ok (.bipush 16, 2) := by decide +kernel
theorem dX8_feed_61 : decode cX8_feed 61 = .ok (.if_icmp .ge 8, 3) := by decide +kernel
theorem dX8_feed_64 : decode cX8_feed 64 = .ok (.iload 4, 2) := by decide +kernel
theorem dX8_feed_66 : decode cX8_feed 66 = .ok (.goto 5, 3) := by decide +kernel
theorem dX8_feed_69 : decode cX8_feed 69 = .ok (.iload 5, 2) := by decide +kernel
theorem dX8_feed_71 : decode cX8_feed 71 = .ok (.istore 7, 2) := by decide +kernel
theorem dX8_feed_73 : decode cX8_feed 73 = .ok (.aload_n 0, 1) := by decide +kernel
theorem dX8_feed_74 : decode cX8_feed 74 = .ok (.getfield 19, 3) := by decide +kernel
theorem dX8_feed_77 : decode cX8_feed 77 = .ok (.aload_n 0, 1) := by decide +kernel
theorem dX8_feed_78 : decode cX8_feed 78 = .ok (.getfield 123, 3) := by decide +kernel
theorem dX8_feed_81 : decode cX8_feed 81 = .ok (.iload 7, 2) := by decide +kernel
theorem dX8_feed_83 : decode cX8_feed 83 = .ok (.bipush 24, 2) := by decide +kernel
theorem dX8_feed_85 : decode cX8_feed 85 = .ok (.bipush 8, 2) := by decide +kernel
theorem dX8_feed_87 : decode cX8_feed 87 = .ok (.iload 6, 2) := by decide +kernel
theorem dX8_feed_89 : decode cX8_feed 89 = .ok (.iconst 4, 1) := by decide +kernel
theorem dX8_feed_90 : decode cX8_feed 90 = .ok (.irem, 1) := by decide +kernel
theorem dX8_feed_91 : decode cX8_feed 91 = .ok (.imul, 1) := by decide +kernel
theorem dX8_feed_92 : decode cX8_feed 92 = .ok (.isub, 1) := by decide +kernel
theorem dX8_feed_93 : decode cX8_feed 93 = .ok (.ishr, 1) := by decide +kernel
theorem dX8_feed_94 : decode cX8_feed 94 = .ok (.i2b, 1) := by decide +kernel
theorem dX8_feed_95 : decode cX8_feed 95 = .ok (.bastore, 1) := by decide +kernel
theorem dX8_feed_96 : decode cX8_feed 96 = .ok (.aload_n 0, 1) := by decide +kernel
theorem dX8_feed_97 : decode cX8_feed 97 = .ok (.dup, 1) := by decide +kernel
theorem dX8_feed_98 : decode cX8_feed 98 = .ok (.getfield 123, 3) := by decide +kernel
theorem dX8_feed_101 : decode cX8_feed 101 = .ok (.iconst 1, 1) := by decide +kernel
theorem dX8_feed_102 : decode cX8_feed 102 = .ok (.iadd, 1) := by decide +kernel
theorem dX8_feed_103 : decode cX8_feed 103 = .ok (.putfield 123, 3) := by decide +kernel
theorem dX8_feed_106 : decode cX8_feed 106 = .ok (.iinc 6 1, 3) := by decide +kernel
theorem dX8_feed_109 : decode cX8_feed 109 = .ok (.goto (-91), 3) := by decide +kernel
theorem dX8_feed_112 : decode cX8_feed 112 = .ok (.aload_n 0, 1) := by decide +kernel
theorem dX8_feed_113 : decode cX8_feed 113 = .ok (.getfield 123, 3) := by decide +kernel
theorem dX8_feed_116 : decode cX8_feed 116 = .ok (.ireturn, 1) := by decide +kernel
theorem dX8_end_0 : decode cX8_end 0 = .ok (.iload_n 1, 1) := by decide +kernel
theorem dX8_end_1 : decode cX8_end 1 = .ok (.ifCond .lt 11, 3) := by decide +kernel
theorem dX8_end_4 : decode cX8_end 4 = .ok (.iload_n 1, 1) := by decide +kernel
theorem dX8_end_5 : decode cX8_end 5 = .ok (.aload_n 0, 1) := by decide +kernel
theorem dX8_end_6 : decode cX8_end 6 = .ok (.getfield 123, 3) := by decide +kernel
theorem dX8_end_9 : decode cX8_end 9 = .ok (.if_icmp .le 5, 3) := by decide +kernel
theorem dX8_end_12 : decode cX8_end 12 = .ok (.iconst (-1), 1) := by decide +kernel
theorem dX8_end_13 : decode cX8_end 13 = .ok (.ireturn, 1) := by decide +kernel
theorem dX8_end_14 : decode cX8_end 14 = .ok (.aload_n 0, 1) := by decide +kernel
theorem dX8_end_15 : decode cX8_end 15 = .ok (.iload_n 1, 1) := by decide +kernel
theorem dX8_end_16 : decode cX8_end 16 = .ok (.putfield 123, 3) := by decide +kernel
theorem dX8_end_19 : decode cX8_end 19 = .ok (.iload_n 1, 1) := by decide +kernel
theorem dX8_end_20 : decode cX8_end 20 = .ok (.ireturn, 1) := by decide +kernel
theorem dX8_take_0 : decode cX8_take 0 = .ok (.iconst 0, 1) := by decide +kernel
theorem dX8_take_1 : decode cX8_take 1 = .ok (.istore_n 1, 1) := by decide +kernel
theorem dX8_take_2 : decode cX8_take 2 = .ok (.iload_n 1, 1) := by decide +kernel
theorem dX8_take_3 : decode cX8_take 3 = .ok (.aload_n 0, 1) := by decide +kernel
theorem dX8_take_4 : decode cX8_take 4 = .ok (.getfield 126, 3) := by decide +kernel
theorem dX8_take_7 : decode cX8_take 7 = .ok (.if_icmp .ge 21, 3) := by decide +kernel
theorem dX8_take_10 : decode cX8_take 10 = .ok (.aload_n 0, 1) := by decide +kernel
theorem dX8_take_11 : decode cX8_take 11 = .ok (.getfield 19, 3) := by decide +kernel
theorem dX8_take_14 : decode cX8_take 14 = .ok (.iload_n 1, 1) := by decide +kernel
theorem dX8_take_15 : decode cX8_take 15 = .ok (.aload_n 0, 1) := by decide +kernel
theorem dX8_take_16 : decode cX8_take 16 = .ok (.getfield 23, 3) := by decide +kernel
theorem dX8_take_19 : decode cX8_take 19 = .ok (.iload_n 1, 1) := by decide +kernel
theorem dX8_take_20 : decode cX8_take 20 = .ok (.baload, 1) := by decide +kernel
theorem dX8_take_21 : decode cX8_take 21 = .ok (.bastore, 1) := by decide +kernel
theorem dX8_take_22 : decode cX8_take 22 = .ok (.iinc 1 1, 3) := by decide +kernel
theorem dX8_take_25 : decode cX8_take 25 = .ok (.goto (-23), 3) := by decide +kernel
theorem dX8_take_28 : decode cX8_take 28 = .ok (.aload_n 0, 1) := by decide +kernel
theorem dX8_take_29 : decode cX8_take 29 = .ok (.aload_n 0, 1) := by decide +kernel
theorem dX8_take_30 : decode cX8_take 30 = .ok (.getfield 126, 3) := by decide +kernel
theorem dX8_take_33 : decode cX8_take 33 = .ok (.putfield 123, 3) := by decide +kernel
theorem dX8_take_36 : decode cX8_take 36 = .ok (.aload_n 0, 1) := by decide +kernel
theorem dX8_take_37 : decode cX8_take 37 = .ok (.getfield 123, 3) := by decide +kernel
theorem dX8_take_40 : decode cX8_take 40 = .ok (.ireturn, 1) := by decide +kernel
theorem dX8_read_0 : decode cX8_read 0 = .ok (.aload_n 0, 1) := by decide +kernel
theorem dX8_read_1 : decode cX8_read 1 = .ok (.getfield 123, 3) := by decide +kernel
theorem dX8_read_4 : decode cX8_read 4 = .ok (.istore_n 1, 1) := by decide +kernel
theorem dX8_read_5 : decode cX8_read 5 = .ok (.aload_n 0, 1) := by decide +kernel
theorem dX8_read_6 : decode cX8_read 6 = .ok (.iconst 0, 1) := by decide +kernel
theorem dX8_read_7 : decode cX8_read 7 = .ok (.putfield 123, 3) := by decide +kernel
theorem dX8_read_10 : decode cX8_read 10 = .ok (.aload_n 0, 1) := by decide +kernel
theorem dX8_read_11 : decode cX8_read 11 = .ok (.iconst (-1), 1) := by decide +kernel
theorem dX8_read_12 : decode cX8_read 12 = .ok (.putfield 26, 3) := by decide +kernel
theorem dX8_read_15 : decode cX8_read 15 = .ok (.iconst 0, 1) := by decide +kernel
theorem dX8_read_16 : decode cX8_read 16 = .ok (.istore_n 2, 1) := by decide +kernel
theorem dX8_read_17 : decode cX8_read 17 = .ok (.iconst 1, 1) := by decide +kernel
theorem dX8_read_18 : decode cX8_read 18 = .ok (.istore_n 3, 1) := by decide +kernel
theorem dX8_read_19 : decode cX8_read 19 = .ok (.iconst 0, 1) := by decide +kernel
theorem dX8_read_20 : decode cX8_read 20 = .ok (.istore 4, 2) := by decide +kernel
theorem dX8_read_22 : decode cX8_read 22 = .ok (.iload 4, 2) := by decide +kernel
theorem dX8_read_24 : decode cX8_read 24 = .ok (.iload_n 1, 1) := by decide +kernel
theorem dX8_read_25 : decode cX8_read 25 = .ok (.if_icmp .ge 199, 3) := by decide +kernel
theorem dX8_read_28 : decode cX8_read 28 = .ok (.aload_n 0, 1) := by decide +kernel
theorem dX8_read_29 : decode cX8_read 29 = .ok (.getfield 26, 3) := by decide +kernel
theorem dX8_read_32 : decode cX8_read 32 = .ok (.ifCond .ge 192, 3) := by decide +kernel
theorem dX8_read_35 : decode cX8_read 35 = .ok (.aload_n 0, 1) := by decide +kernel
theorem dX8_read_36 : decode cX8_read 36 = .ok (.getfield 19, 3) := by decide +kernel
theorem dX8_read_39 : decode cX8_read 39 = .ok (.iload 4, 2) := by decide +kernel
theorem dX8_read_41 : decode cX8_read 41 = .ok (.baload, 1) := by decide +kernel
theorem dX8_read_42 : decode cX8_read 42 = .ok (.istore 5, 2) := by decide +kernel
theorem dX8_read_44 : decode cX8_read 44 = .ok (.iload 5, 2) := by decide +kernel
theorem dX8_read_46 : decode cX8_read 46 = .ok (.bipush 32, 2) := by decide +kernel
theorem dX8_read_48 : decode cX8_read 48 = .ok (.if_icmp .eq 10, 3) := by decide +kernel
theorem dX8_read_51 : decode cX8_read 51 = .ok (.iload 5, 2) := by decide +kernel
theorem dX8_read_53 : decode cX8_read 53 = .ok (.bipush 10, 2) := by decide +kernel
theorem dX8_read_55 : decode cX8_read 55 = .ok (.if_icmp .ne 9, 3) := by decide +kernel
theorem dX8_read_58 : decode cX8_read 58 = .ok (.iinc 4 1, 3) := by decide +kernel
theorem dX8_read_61 : decode cX8_read 61 = .ok (.goto (-39), 3) := by decide +kernel
theorem dX8_read_64 : decode cX8_read 64 = .ok (.iload 4, 2) := by decide +kernel
theorem dX8_read_66 : decode cX8_read 66 = .ok (.istore 6, 2) := by decide +kernel
theorem dX8_read_68 : decode cX8_read 68 = .ok (.iconst 0, 1) := by decide +kernel
theorem dX8_read_69 : decode cX8_read 69 = .ok (.istore 7, 2) := by decide +kernel
theorem dX8_read_71 : decode cX8_read 71 = .ok (.iload 4, 2) := by decide +kernel
theorem dX8_read_73 : decode cX8_read 73 = .ok (.iload_n 1, 1) := by decide +kernel
theorem dX8_read_74 : decode cX8_read 74 = .ok (.if_icmp .ge 61, 3) := by decide +kernel
theorem dX8_read_77 : decode cX8_read 77 = .ok (.aload_n 0, 1) := by decide +kernel
theorem dX8_read_78 : decode cX8_read 78 = .ok (.getfield 19, 3) := by decide +kernel
theorem dX8_read_81 : decode cX8_read 81 = .ok (.iload 4, 2) := by decide +kernel
theorem dX8_read_83 : decode cX8_read 83 = .ok (.baload, 1) := by decide +kernel
theorem dX8_read_84 : decode cX8_read 84 = .ok (.bipush 48, 2) := by decide +kernel
theorem dX8_read_86 : decode cX8_read 86 = .ok (.if_icmp .lt 49, 3) := by decide +kernel
theorem dX8_read_89 : decode cX8_read 89 = .ok (.aload_n 0, 1) := by decide +kernel
theorem dX8_read_90 : decode cX8_read 90 = .ok (.getfield 19, 3) := by decide +kernel
theorem dX8_read_93 : decode cX8_read 93 = .ok (.iload 4, 2) := by decide +kernel
theorem dX8_read_95 : decode cX8_read 95 = .ok (.baload, 1) := by decide +kernel
theorem dX8_read_96 : decode cX8_read 96 = .ok (.bipush 57, 2) := by decide +kernel
theorem dX8_read_98 : decode cX8_read 98 = .ok (.if_icmp .gt 37, 3) := by decide +kernel
theorem dX8_read_101 : decode cX8_read 101 = .ok (.iload 4, 2) := by decide +kernel
theorem dX8_read_103 : decode cX8_read 103 = .ok (.iload 6, 2) := by decide +kernel
theorem dX8_read_105 : decode cX8_read 105 = .ok (.isub, 1) := by decide +kernel
theorem dX8_read_106 : decode cX8_read 106 = .ok (.bipush 7, 2) := by decide +kernel
theorem dX8_read_108 : decode cX8_read 108 = .ok (.if_icmp .ge 21, 3) := by decide +kernel
theorem dX8_read_111 : decode cX8_read 111 = .ok (.bipush 10, 2) := by decide +kernel
theorem dX8_read_113 : decode cX8_read 113 = .ok (.iload 7, 2) := by decide +kernel
theorem dX8_read_115 : decode cX8_read 115 = .ok (.imul, 1) := by decide +kernel
theorem dX8_read_116 : decode cX8_read 116 = .ok (.aload_n 0, 1) := by decide +kernel
theorem dX8_read_117 : decode cX8_read 117 = .ok (.getfield 19, 3) := by decide +kernel
theorem dX8_read_120 : decode cX8_read 120 = .ok (.iload 4, 2) := by decide +kernel
theorem dX8_read_122 : decode cX8_read 122 = .ok (.baload, 1) := by decide +kernel
theorem dX8_read_123 : decode cX8_read 123 = .ok (.iadd, 1) := by decide +kernel
theorem dX8_read_124 : decode cX8_read 124 = .ok (.bipush 48, 2) := by decide +kernel
theorem dX8_read_126 : decode cX8_read 126 = .ok (.isub, 1) := by decide +kernel
theorem dX8_read_127 : decode cX8_read 127 = .ok (.istore 7, 2) := by decide +kernel
theorem dX8_read_129 : decode cX8_read 129 = .ok (.iinc 4 1, 3) := by decide +kernel
theorem dX8_read_132 : decode cX8_read 132 = .ok (.goto (-61), 3) := by decide +kernel
theorem dX8_read_135 : decode cX8_read 135 = .ok (.iload 4, 2) := by decide +kernel
theorem dX8_read_137 : decode cX8_read 137 = .ok (.iload 6, 2) := by decide +kernel
theorem dX8_read_139 : decode cX8_read 139 = .ok (.if_icmp .le 38, 3) := by decide +kernel
theorem dX8_read_142 : decode cX8_read 142 = .ok (.iload 4, 2) := by decide +kernel
theorem dX8_read_144 : decode cX8_read 144 = .ok (.iload 6, 2) := by decide +kernel
theorem dX8_read_146 : decode cX8_read 146 = .ok (.isub, 1) := by decide +kernel
theorem dX8_read_147 : decode cX8_read 147 = .ok (.bipush 8, 2) := by decide +kernel
theorem dX8_read_149 : decode cX8_read 149 = .ok (.if_icmp .ge 28, 3) := by decide +kernel
theorem dX8_read_152 : decode cX8_read 152 = .ok (.iload_n 2, 1) := by decide +kernel
theorem dX8_read_153 : decode cX8_read 153 = .ok (.iload_n 3, 1) := by decide +kernel
theorem dX8_read_154 : decode cX8_read 154 = .ok (.if_icmp .ge 23, 3) := by decide +kernel
theorem dX8_read_157 : decode cX8_read 157 = .ok (.iload 7, 2) := by decide +kernel
theorem dX8_read_159 : decode cX8_read 159 = .ok (.iload_n 2, 1) := by decide +kernel
theorem dX8_read_160 : decode cX8_read 160 = .ok (.ifCond .ne 8, 3) := by decide +kernel
theorem dX8_read_163 : decode cX8_read 163 = .ok (.bipush 20, 2) := by decide +kernel
theorem dX8_read_165 : decode cX8_read 165 = .ok (.goto 5, 3) := by decide +kernel
theorem dX8_read_168 : decode cX8_read 168 = .ok (.ldc 129, 2) := by decide +kernel
theorem dX8_read_170 : decode cX8_read 170 = .ok (.if_icmp .gt 7, 3) := by decide +kernel
theorem dX8_read_173 : decode cX8_read 173 = .ok (.iconst 1, 1) := by decide +kernel
theorem dX8_read_174 : decode cX8_read 174 = .ok (.goto 4, 3) := by decide +kernel
theorem dX8_read_177 : decode cX8_read 177 = .ok (.iconst 0, 1) := by decide +kernel
theorem dX8_read_178 : decode cX8_read 178 = .ok (.istore 8, 2) := by decide +kernel
theorem dX8_read_180 : decode cX8_read 180 = .ok (.iload 8, 2) := by decide +kernel
theorem dX8_read_182 : decode cX8_read 182 = .ok (.ifCond .ne 12, 3) := by decide +kernel
theorem dX8_read_185 : decode cX8_read 185 = .ok (.aload_n 0, 1) := by decide +kernel
theorem dX8_read_186 : decode cX8_read 186 = .ok (.iload 6, 2) := by decide +kernel
theorem dX8_read_188 : decode cX8_read 188 = .ok (.putfield 26, 3) := by decide +kernel
theorem dX8_read_191 : decode cX8_read 191 = .ok (.goto (-169), 3) := by decide +kernel
theorem dX8_read_194 : decode cX8_read 194 = .ok (.aload_n 0, 1) := by decide +kernel
theorem dX8_read_195 : decode cX8_read 195 = .ok (.getfield 30, 3) := by decide +kernel
theorem dX8_read_198 : decode cX8_read 198 = .ok (.iload_n 2, 1) := by decide +kernel
theorem dX8_read_199 : decode cX8_read 199 = .ok (.iload 7, 2) := by decide +kernel
theorem dX8_read_201 : decode cX8_read 201 = .ok (.iastore, 1) := by decide +kernel
theorem dX8_read_202 : decode cX8_read 202 = .ok (.iload_n 2, 1) := by decide +kernel
theorem dX8_read_203 : decode cX8_read 203 = .ok (.ifCond .ne 15, 3) := by decide +kernel
theorem dX8_read_206 : decode cX8_read 206 = .ok (.iconst 1, 1) := by decide +kernel
theorem dX8_read_207 : decode cX8_read 207 = .ok (.iload 7, 2) := by decide +kernel
theorem dX8_read_209 : decode cX8_read 209 = .ok (.iload 7, 2) := by decide +kernel
theorem dX8_read_211 : decode cX8_read 211 = .ok (.iconst 1, 1) := by decide +kernel
theorem dX8_read_212 : decode cX8_read 212 = .ok (.isub, 1) := by decide +kernel
theorem dX8_read_213 : decode cX8_read 213 = .ok (.imul, 1) := by decide +kernel
theorem dX8_read_214 : decode cX8_read 214 = .ok (.iconst 2, 1) := by decide +kernel
theorem dX8_read_215 : decode cX8_read 215 = .ok (.idiv, 1) := by decide +kernel
theorem dX8_read_216 : decode cX8_read 216 = .ok (.iadd, 1) := by decide +kernel
theorem dX8_read_217 : decode cX8_read 217 = .ok (.istore_n 3, 1) := by decide +kernel
theorem dX8_read_218 : decode cX8_read 218 = .ok (.iinc 2 1, 3) := by decide +kernel
theorem dX8_read_221 : decode cX8_read 221 = .ok (.goto (-199), 3) := by decide +kernel
theorem dX8_read_224 : decode cX8_read 224 = .ok (.aload_n 0, 1) := by decide +kernel
theorem dX8_read_225 : decode cX8_read 225 = .ok (.getfield 26, 3) := by decide +kernel
theorem dX8_read_228 : decode cX8_read 228 = .ok (.ifCond .ge 13, 3) := by decide +kernel
theorem dX8_read_231 : decode cX8_read 231 = .ok (.iload_n 2, 1) := by decide +kernel
theorem dX8_read_232 : decode cX8_read 232 = .ok (.iload_n 3, 1) := by decide +kernel
theorem dX8_read_233 : decode cX8_read 233 = .ok (.if_icmp .ge 8, 3) := by decide +kernel
theorem dX8_read_236 : decode cX8_read 236 = .ok (.aload_n 0, 1) := by decide +kernel
theorem dX8_read_237 : decode cX8_read 237 = .ok (.iload_n 1, 1) := by decide +kernel
theorem dX8_read_238 : decode cX8_read 238 = .ok (.putfield 26, 3) := by decide +kernel
theorem dX8_read_241 : decode cX8_read 241 = .ok (.aload_n 0, 1) := by decide +kernel
theorem dX8_read_242 : decode cX8_read 242 = .ok (.getfield 26, 3) := by decide +kernel
theorem dX8_read_245 : decode cX8_read 245 = .ok (.ifCond .lt 5, 3) := by decide +kernel
theorem dX8_read_248 : decode cX8_read 248 = .ok (.iconst (-1), 1) := by decide +kernel
theorem dX8_read_249 : decode cX8_read 249 = .ok (.ireturn, 1) := by decide +kernel
theorem dX8_read_250 : decode cX8_read 250 = .ok (.aload_n 0, 1) := by decide +kernel
theorem dX8_read_251 : decode cX8_read 251 = .ok (.aload_n 0, 1) := by decide +kernel
theorem dX8_read_252 : decode cX8_read 252 = .ok (.aload_n 0, 1) := by decide +kernel
theorem dX8_read_253 : decode cX8_read 253 = .ok (.getfield 30, 3) := by decide +kernel
theorem dX8_read_256 : decode cX8_read 256 = .ok (.iconst 0, 1) := by decide +kernel
theorem dX8_read_257 : decode cX8_read 257 = .ok (.iaload, 1) := by decide +kernel
theorem dX8_read_258 : decode cX8_read 258 = .ok (.invokevirtual 130, 3) := by decide +kernel
theorem dX8_read_261 : decode cX8_read 261 = .ok (.putfield 107, 3) := by decide +kernel
theorem dX8_read_264 : decode cX8_read 264 = .ok (.iconst 1, 1) := by decide +kernel
theorem dX8_read_265 : decode cX8_read 265 = .ok (.istore 5, 2) := by decide +kernel
theorem dX8_read_267 : decode cX8_read 267 = .ok (.iconst 0, 1) := by decide +kernel
theorem dX8_read_268 : decode cX8_read 268 = .ok (.istore 6, 2) := by decide +kernel
theorem dX8_read_270 : decode cX8_read 270 = .ok (.iload 6, 2) := by decide +kernel
theorem dX8_read_272 : decode cX8_read 272 = .ok (.aload_n 0, 1) := by decide +kernel
theorem dX8_read_273 : decode cX8_read 273 = .ok (.getfield 107, 3) := by decide +kernel
theorem dX8_read_276 : decode cX8_read 276 = .ok (.if_icmp .ge 43, 3) := by decide +kernel
theorem dX8_read_279 : decode cX8_read 279 = .ok (.iconst 0, 1) := by decide +kernel
theorem dX8_read_280 : decode cX8_read 280 = .ok (.istore 7, 2) := by decide +kernel
theorem dX8_read_282 : decode cX8_read 282 = .ok (.iload 7, 2) := by decide +kernel
theorem dX8_read_284 : decode cX8_read 284 = .ok (.iload 6, 2) := by decide +kernel
theorem dX8_read_286 : decode cX8_read 286 = .ok (.if_icmp .ge 27, 3) := by decide +kernel
theorem dX8_read_289 : decode cX8_read 289 = .ok (.aload_n 0, 1) := by decide +kernel
theorem dX8_read_290 : decode cX8_read 290 = .ok (.iload 6, 2) := by decide +kernel
theorem dX8_read_292 : decode cX8_read 292 = .ok (.iload 7, 2) := by decide +kernel
theorem dX8_read_294 : decode cX8_read 294 = .ok (.aload_n 0, 1) := by decide +kernel
theorem dX8_read_295 : decode cX8_read 295 = .ok (.getfield 30, 3) := by decide +kernel
theorem dX8_read_298 : decode cX8_read 298 = .ok (.iload 5, 2) := by decide +kernel
theorem dX8_read_300 : decode cX8_read 300 = .ok (.iaload, 1) := by decide +kernel
theorem dX8_read_301 : decode cX8_read 301 = .ok (.invokevirtual 115, 3) := by decide +kernel
theorem dX8_read_304 : decode cX8_read 304 = .ok (.iinc 5 1, 3) := by decide +kernel
theorem dX8_read_307 : decode cX8_read 307 = .ok (.iinc 7 1, 3) := by decide +kernel
theorem dX8_read_310 : decode cX8_read 310 = .ok (.goto (-28), 3) := by decide +kernel
theorem dX8_read_313 : decode cX8_read 313 = .ok (.iinc 6 1, 3) := by decide +kernel
theorem dX8_read_316 : decode cX8_read 316 = .ok (.goto (-46), 3) := by decide +kernel
theorem dX8_read_319 : decode cX8_read 319 = .ok (.aload_n 0, 1) := by decide +kernel
theorem dX8_read_320 : decode cX8_read 320 = .ok (.getfield 107, 3) := by decide +kernel
theorem dX8_read_323 : decode cX8_read 323 = .ok (.ireturn, 1) := by decide +kernel
theorem dX8_fault_0 : decode cX8_fault 0 = .ok (.aload_n 0, 1) := by decide +kernel
theorem dX8_fault_1 : decode cX8_fault 1 = .ok (.getfield 26, 3) := by decide +kernel
theorem dX8_fault_4 : decode cX8_fault 4 = .ok (.ireturn, 1) := by decide +kernel
theorem dX8_ink_0 : decode cX8_ink 0 = .ok (.aload_n 0, 1) := by decide +kernel
theorem dX8_ink_1 : decode cX8_ink 1 = .ok (.getfield 23, 3) := by decide +kernel
theorem dX8_ink_4 : decode cX8_ink 4 = .ok (.aload_n 0, 1) := by decide +kernel
theorem dX8_ink_5 : decode cX8_ink 5 = .ok (.getfield 126, 3) := by decide +kernel
theorem dX8_ink_8 : decode cX8_ink 8 = .ok (.iload_n 1, 1) := by decide +kernel
theorem dX8_ink_9 : decode cX8_ink 9 = .ok (.i2b, 1) := by decide +kernel
theorem dX8_ink_10 : decode cX8_ink 10 = .ok (.bastore, 1) := by decide +kernel
theorem dX8_ink_11 : decode cX8_ink 11 = .ok (.aload_n 0, 1) := by decide +kernel
theorem dX8_ink_12 : decode cX8_ink 12 = .ok (.dup, 1) := by decide +kernel
theorem dX8_ink_13 : decode cX8_ink 13 = .ok (.getfield 126, 3) := by decide +kernel
theorem dX8_ink_16 : decode cX8_ink 16 = .ok (.iconst 1, 1) := by decide +kernel
theorem dX8_ink_17 : decode cX8_ink 17 = .ok (.iadd, 1) := by decide +kernel
theorem dX8_ink_18 : decode cX8_ink 18 = .ok (.putfield 126, 3) := by decide +kernel
theorem dX8_ink_21 : decode cX8_ink 21 = .ok (.return_, 1) := by decide +kernel
theorem dX8_inkNumber_0 : decode cX8_inkNumber 0 = .ok (.lload_n 1, 1) := by decide +kernel
theorem dX8_inkNumber_1 : decode cX8_inkNumber 1 = .ok (.lstore_n 3, 1) := by decide +kernel
theorem dX8_inkNumber_2 : decode cX8_inkNumber 2 = .ok (.lload_n 3, 1) := by decide +kernel
theorem dX8_inkNumber_3 : decode cX8_inkNumber 3 = .ok (.lconst 0, 1) := by decide +kernel
theorem dX8_inkNumber_4 : decode cX8_inkNumber 4 = .ok (.lcmp, 1) := by decide +kernel
theorem dX8_inkNumber_5 : decode cX8_inkNumber 5 = .ok (.ifCond .ge 12, 3) := by decide +kernel
theorem dX8_inkNumber_8 : decode cX8_inkNumber 8 = .ok (.aload_n 0, 1) := by decide +kernel
theorem dX8_inkNumber_9 : decode cX8_inkNumber 9 = .ok (.bipush 45, 2) := by decide +kernel
theorem dX8_inkNumber_11 : decode cX8_inkNumber 11 = .ok (.invokevirtual 133, 3) := by decide +kernel
theorem dX8_inkNumber_14 : decode cX8_inkNumber 14 = .ok (.lload_n 3, 1) := by decide +kernel
theorem dX8_inkNumber_15 : decode cX8_inkNumber 15 = .ok (.lneg, 1) := by decide +kernel
theorem dX8_inkNumber_16 : decode cX8_inkNumber 16 = .ok (.lstore_n 3, 1) := by decide +kernel
theorem dX8_inkNumber_17 : decode cX8_inkNumber 17 = .ok (.lconst 1, 1) := by decide +kernel
theorem dX8_inkNumber_18 : decode cX8_inkNumber 18 = .ok (.lstore 5, 2) := by decide +kernel
theorem dX8_inkNumber_20 : decode cX8_inkNumber 20 = .ok (.lload_n 3, 1) := by decide +kernel
theorem dX8_inkNumber_21 : decode cX8_inkNumber 21 = .ok (.lload 5, 2) := by decide +kernel
theorem dX8_inkNumber_23 : decode cX8_inkNumber 23 = .ok (.ldiv, 1) := by decide +kernel
theorem dX8_inkNumber_24 : decode cX8_inkNumber 24 = .ok (.ldc2_w 137, 3) := by decide +kernel
theorem dX8_inkNumber_27 : decode cX8_inkNumber 27 = .ok (.lcmp, 1) := by decide +kernel
theorem dX8_inkNumber_28 : decode cX8_inkNumber 28 = .ok (.ifCond .le 14, 3) := by decide +kernel
theorem dX8_inkNumber_31 : decode cX8_inkNumber 31 = .ok (.lload 5, 2) := by decide +kernel
theorem dX8_inkNumber_33 : decode cX8_inkNumber 33 = .ok (.ldc2_w 139, 3) := by decide +kernel
theorem dX8_inkNumber_36 : decode cX8_inkNumber 36 = .ok (.lmul, 1) := by decide +kernel
theorem dX8_inkNumber_37 : decode cX8_inkNumber 37 = .ok (.lstore 5, 2) := by decide +kernel
theorem dX8_inkNumber_39 : decode cX8_inkNumber 39 = .ok (.goto (-19), 3) := by decide +kernel
theorem dX8_inkNumber_42 : decode cX8_inkNumber 42 = .ok (.lload 5, 2) := by decide +kernel
theorem dX8_inkNumber_44 : decode cX8_inkNumber 44 = .ok (.lconst 0, 1) := by decide +kernel
theorem dX8_inkNumber_45 : decode cX8_inkNumber 45 = .ok (.lcmp, 1) := by decide +kernel
theorem dX8_inkNumber_46 : decode cX8_inkNumber 46 = .ok (.ifCond .le 31, 3) := by decide +kernel
theorem dX8_inkNumber_49 : decode cX8_inkNumber 49 = .ok (.aload_n 0, 1) := by decide +kernel
theorem dX8_inkNumber_50 : decode cX8_inkNumber 50 = .ok (.ldc2_w 141, 3) := by decide +kernel
theorem dX8_inkNumber_53 : decode cX8_inkNumber 53 = .ok (.lload_n 3, 1) := by decide +kernel
theorem dX8_inkNumber_54 : decode cX8_inkNumber 54 = .ok (.lload 5, 2) := by decide +kernel
theorem dX8_inkNumber_56 : decode cX8_inkNumber 56 = .ok (.ldiv, 1) := by decide +kernel
theorem dX8_inkNumber_57 : decode cX8_inkNumber 57 = .ok (.ldc2_w 139, 3) := by decide +kernel
theorem dX8_inkNumber_60 : decode cX8_inkNumber 60 = .ok (.lrem, 1) := by decide +kernel
theorem dX8_inkNumber_61 : decode cX8_inkNumber 61 = .ok (.ladd, 1) := by decide +kernel
theorem dX8_inkNumber_62 : decode cX8_inkNumber 62 = .ok (.l2i, 1) := by decide +kernel
theorem dX8_inkNumber_63 : decode cX8_inkNumber 63 = .ok (.invokevirtual 133, 3) := by decide +kernel
theorem dX8_inkNumber_66 : decode cX8_inkNumber 66 = .ok (.lload 5, 2) := by decide +kernel
theorem dX8_inkNumber_68 : decode cX8_inkNumber 68 = .ok (.ldc2_w 139, 3) := by decide +kernel
theorem dX8_inkNumber_71 : decode cX8_inkNumber 71 = .ok (.ldiv, 1) := by decide +kernel
theorem dX8_inkNumber_72 : decode cX8_inkNumber 72 = .ok (.lstore 5, 2) := by decide +kernel
theorem dX8_inkNumber_74 : decode cX8_inkNumber 74 = .ok (.goto (-32), 3) := by decide +kernel
theorem dX8_inkNumber_77 : decode cX8_inkNumber 77 = .ok (.return_, 1) := by decide +kernel
theorem dX8_write_0 : decode cX8_write 0 = .ok (.aload_n 0, 1) := by decide +kernel
theorem dX8_write_1 : decode cX8_write 1 = .ok (.iconst 0, 1) := by decide +kernel
theorem dX8_write_2 : decode cX8_write 2 = .ok (.putfield 126, 3) := by decide +kernel
theorem dX8_write_5 : decode cX8_write 5 = .ok (.aload_n 0, 1) := by decide +kernel
theorem dX8_write_6 : decode cX8_write 6 = .ok (.aload_n 0, 1) := by decide +kernel
theorem dX8_write_7 : decode cX8_write 7 = .ok (.getfield 107, 3) := by decide +kernel
theorem dX8_write_10 : decode cX8_write 10 = .ok (.i2l, 1) := by decide +kernel
theorem dX8_write_11 : decode cX8_write 11 = .ok (.invokevirtual 143, 3) := by decide +kernel
theorem dX8_write_14 : decode cX8_write 14 = .ok (.iconst 0, 1) := by decide +kernel
theorem dX8_write_15 : decode cX8_write 15 = .ok (.istore_n 1, 1) := by decide +kernel
theorem dX8_write_16 : decode cX8_write 16 = .ok (.iload_n 1, 1) := by decide +kernel
theorem dX8_write_17 : decode cX8_write 17 = .ok (.aload_n 0, 1) := by decide +kernel
theorem dX8_write_18 : decode cX8_write 18 = .ok (.getfield 107, 3) := by decide +kernel
theorem dX8_write_21 : decode cX8_write 21 = .ok (.if_icmp .ge 44, 3) := by decide +kernel
theorem dX8_write_24 : decode cX8_write 24 = .ok (.iconst 0, 1) := by decide +kernel
theorem dX8_write_25 : decode cX8_write 25 = .ok (.istore_n 2, 1) := by decide +kernel
theorem dX8_write_26 : decode cX8_write 26 = .ok (.iload_n 2, 1) := by decide +kernel
theorem dX8_write_27 : decode cX8_write 27 = .ok (.iload_n 1, 1) := by decide +kernel
theorem dX8_write_28 : decode cX8_write 28 = .ok (.if_icmp .ge 31, 3) := by decide +kernel
theorem dX8_write_31 : decode cX8_write 31 = .ok (.aload_n 0, 1) := by decide +kernel
theorem dX8_write_32 : decode cX8_write 32 = .ok (.bipush 32, 2) := by decide +kernel
theorem dX8_write_34 : decode cX8_write 34 = .ok (.invokevirtual 133, 3) := by decide +kernel
theorem dX8_write_37 : decode cX8_write 37 = .ok (.aload_n 0, 1) := by decide +kernel
theorem dX8_write_38 : decode cX8_write 38 = .ok (.aload_n 0, 1) := by decide +kernel
theorem dX8_write_39 : decode cX8_write 39 = .ok (.getfield 7, 3) := by decide +kernel
theorem dX8_write_42 : decode cX8_write 42 = .ok (.bipush 20, 2) := by decide +kernel
theorem dX8_write_44 : decode cX8_write 44 = .ok (.iload_n 1, 1) := by decide +kernel
theorem dX8_write_45 : decode cX8_write 45 = .ok (.imul, 1) := by decide +kernel
theorem dX8_write_46 : decode cX8_write 46 = .ok (.iload_n 2, 1) := by decide +kernel
theorem dX8_write_47 : decode cX8_write 47 = .ok (.iadd, 1) := by decide +kernel
theorem dX8_write_48 : decode cX8_write 48 = .ok (.iaload, 1) := by decide +kernel
theorem dX8_write_49 : decode cX8_write 49 = .ok (.i2l, 1) := by decide +kernel
theorem dX8_write_50 : decode cX8_write 50 = .ok (.invokevirtual 143, 3) := by decide +kernel
theorem dX8_write_53 : decode cX8_write 53 = .ok (.iinc 2 1, 3) := by decide +kernel
theorem dX8_write_56 : decode cX8_write 56 = .ok (.goto (-30), 3) := by decide +kernel
theorem dX8_write_59 : decode cX8_write 59 = .ok (.iinc 1 1, 3) := by decide +kernel
theorem dX8_write_62 : decode cX8_write 62 = .ok (.goto (-46), 3) := by decide +kernel
theorem dX8_write_65 : decode cX8_write 65 = .ok (.aload_n 0, 1) := by decide +kernel
theorem dX8_write_66 : decode cX8_write 66 = .ok (.getfield 126, 3) := by decide +kernel
theorem dX8_write_69 : decode cX8_write 69 = .ok (.ireturn, 1) := by decide +kernel
theorem dX8_out_0 : decode cX8_out 0 = .ok (.iload_n 1, 1) := by decide +kernel
theorem dX8_out_1 : decode cX8_out 1 = .ok (.aload_n 0, 1) := by decide +kernel
theorem dX8_out_2 : decode cX8_out 2 = .ok (.getfield 126, 3) := by decide +kernel
theorem dX8_out_5 : decode cX8_out 5 = .ok (.invokestatic 110, 3) := by decide +kernel
theorem dX8_out_8 : decode cX8_out 8 = .ok (.ifCond .eq 16, 3) := by decide +kernel
theorem dX8_out_11 : decode cX8_out 11 = .ok (.aload_n 0, 1) := by decide +kernel
theorem dX8_out_12 : decode cX8_out 12 = .ok (.getfield 23, 3) := by decide +kernel
theorem dX8_out_15 : decode cX8_out 15 = .ok (.iload_n 1, 1) := by decide +kernel
theorem dX8_out_16 : decode cX8_out 16 = .ok (.baload, 1) := by decide +kernel
theorem dX8_out_17 : decode cX8_out 17 = .ok (.sipush 255, 3) := by decide +kernel
theorem dX8_out_20 : decode cX8_out 20 = .ok (.iand, 1) := by decide +kernel
theorem dX8_out_21 : decode cX8_out 21 = .ok (.goto 4, 3) := by decide +kernel
theorem dX8_out_24 : decode cX8_out 24 = .ok (.iconst (-1), 1) := by decide +kernel
theorem dX8_out_25 : decode cX8_out 25 = .ok (.ireturn, 1) := by decide +kernel
theorem dX8_many_0 : decode cX8_many 0 = .ok (.iconst 0, 1) := by decide +kernel
theorem dX8_many_1 : decode cX8_many 1 = .ok (.istore_n 1, 1) := by decide +kernel
theorem dX8_many_2 : decode cX8_many 2 = .ok (.iconst 0, 1) := by decide +kernel
theorem dX8_many_3 : decode cX8_many 3 = .ok (.istore_n 2, 1) := by decide +kernel
theorem dX8_many_4 : decode cX8_many 4 = .ok (.iload_n 2, 1) := by decide +kernel
theorem dX8_many_5 : decode cX8_many 5 = .ok (.bipush 20, 2) := by decide +kernel
theorem dX8_many_7 : decode cX8_many 7 = .ok (.if_icmp .ge 17, 3) := by decide +kernel
theorem dX8_many_10 : decode cX8_many 10 = .ok (.iload_n 1, 1) := by decide +kernel
theorem dX8_many_11 : decode cX8_many 11 = .ok (.iload_n 0, 1) := by decide +kernel
theorem dX8_many_12 : decode cX8_many 12 = .ok (.iload_n 2, 1) := by decide +kernel
theorem dX8_many_13 : decode cX8_many 13 = .ok (.ishr, 1) := by decide +kernel
theorem dX8_many_14 : decode cX8_many 14 = .ok (.iconst 1, 1) := by decide +kernel
theorem dX8_many_15 : decode cX8_many 15 = .ok (.iand, 1) := by decide +kernel
theorem dX8_many_16 : decode cX8_many 16 = .ok (.iadd, 1) := by decide +kernel
theorem dX8_many_17 : decode cX8_many 17 = .ok (.istore_n 1, 1) := by decide +kernel
theorem dX8_many_18 : decode cX8_many 18 = .ok (.iinc 2 1, 3) := by decide +kernel
theorem dX8_many_21 : decode cX8_many 21 = .ok (.goto (-17), 3) := by decide +kernel
theorem dX8_many_24 : decode cX8_many 24 = .ok (.iload_n 1, 1) := by decide +kernel
theorem dX8_many_25 : decode cX8_many 25 = .ok (.ireturn, 1) := by decide +kernel
theorem dX8_between_0 : decode cX8_between 0 = .ok (.lconst 0, 1) := by decide +kernel
theorem dX8_between_1 : decode cX8_between 1 = .ok (.lstore_n 3, 1) := by decide +kernel
theorem dX8_between_2 : decode cX8_between 2 = .ok (.iconst 0, 1) := by decide +kernel
theorem dX8_between_3 : decode cX8_between 3 = .ok (.istore 5, 2) := by decide +kernel
theorem dX8_between_5 : decode cX8_between 5 = .ok (.iload 5, 2) := by decide +kernel
theorem dX8_between_7 : decode cX8_between 7 = .ok (.bipush 20, 2) := by decide +kernel
theorem dX8_between_9 : decode cX8_between 9 = .ok (.if_icmp .ge 66, 3) := by decide +kernel
theorem dX8_between_12 : decode cX8_between 12 = .ok (.iconst 0, 1) := by decide +kernel
theorem dX8_between_13 : decode cX8_between 13 = .ok (.istore 6, 2) := by decide +kernel
theorem dX8_between_15 : decode cX8_between 15 = .ok (.iload 6, 2) := by decide +kernel
theorem dX8_between_17 : decode cX8_between 17 = .ok (.bipush 20, 2) := by decide +kernel
theorem dX8_between_19 : decode cX8_between 19 = .ok (.if_icmp .ge 50, 3) := by decide +kernel
theorem dX8_between_22 : decode cX8_between 22 = .ok (.lload_n 3, 1) := by decide +kernel
theorem dX8_between_23 : decode cX8_between 23 = .ok (.iload_n 1, 1) := by decide +kernel
theorem dX8_between_24 : decode cX8_between 24 = .ok (.iload 5, 2) := by decide +kernel
theorem dX8_between_26 : decode cX8_between 26 = .ok (.ishr, 1) := by decide +kernel
theorem dX8_between_27 : decode cX8_between 27 = .ok (.iconst 1, 1) := by decide +kernel
theorem dX8_between_28 : decode cX8_between 28 = .ok (.iand, 1) := by decide +kernel
theorem dX8_between_29 : decode cX8_between 29 = .ok (.iconst 1, 1) := by decide +kernel
theorem dX8_between_30 : decode cX8_between 30 = .ok (.if_icmp .ne 30, 3) := by decide +kernel
theorem dX8_between_33 : decode cX8_between 33 = .ok (.iload_n 2, 1) := by decide +kernel
theorem dX8_between_34 : decode cX8_between 34 = .ok (.iload 6, 2) := by decide +kernel
theorem dX8_between_36 : decode cX8_between 36 = .ok (.ishr, 1) := by decide +kernel
theorem dX8_between_37 : decode cX8_between 37 = .ok (.iconst 1, 1) := by decide +kernel
theorem dX8_between_38 : decode cX8_between 38 = .ok (.iand, 1) := by decide +kernel
theorem dX8_between_39 : decode cX8_between 39 = .ok (.iconst 1, 1) := by decide +kernel
theorem dX8_between_40 : decode cX8_between 40 = .ok (.if_icmp .ne 20, 3) := by decide +kernel
theorem dX8_between_43 : decode cX8_between 43 = .ok (.aload_n 0, 1) := by decide +kernel
theorem dX8_between_44 : decode cX8_between 44 = .ok (.getfield 7, 3) := by decide +kernel
theorem dX8_between_47 : decode cX8_between 47 = .ok (.bipush 20, 2) := by decide +kernel
theorem dX8_between_49 : decode cX8_between 49 = .ok (.iload 5, 2) := by decide +kernel
theorem dX8_between_51 : decode cX8_between 51 = .ok (.imul, 1) := by decide +kernel
theorem dX8_between_52 : decode cX8_between 52 = .ok (.iload 6, 2) := by decide +kernel
theorem dX8_between_54 : decode cX8_between 54 = .ok (.iadd, 1) := by decide +kernel
theorem dX8_between_55 : decode cX8_between 55 = .ok (.iaload, 1) := by decide +kernel
theorem dX8_between_56 : decode cX8_between 56 = .ok (.i2l, 1) := by decide +kernel
theorem dX8_between_57 : decode cX8_between 57 = .ok (.goto 4, 3) := by decide +kernel
theorem dX8_between_60 : decode cX8_between 60 = .ok (.lconst 0, 1) := by decide +kernel
theorem dX8_between_61 : decode cX8_between 61 = .ok (.ladd, 1) := by decide +kernel
theorem dX8_between_62 : decode cX8_between 62 = .ok (.lstore_n 3, 1) := by decide +kernel
theorem dX8_between_63 : decode cX8_between 63 = .ok (.iinc 6 1, 3) := by decide +kernel
theorem dX8_between_66 : decode cX8_between 66 = .ok (.goto (-51), 3) := by decide +kernel
theorem dX8_between_69 : decode cX8_between 69 = .ok (.iinc 5 1, 3) := by decide +kernel
theorem dX8_between_72 : decode cX8_between 72 = .ok (.goto (-67), 3) := by decide +kernel
theorem dX8_between_75 : decode cX8_between 75 = .ok (.lload_n 3, 1) := by decide +kernel
theorem dX8_between_76 : decode cX8_between 76 = .ok (.lreturn, 1) := by decide +kernel
theorem dX8_extreme_0 : decode cX8_extreme 0 = .ok (.iconst (-1), 1) := by decide +kernel
theorem dX8_extreme_1 : decode cX8_extreme 1 = .ok (.istore 4, 2) := by decide +kernel
theorem dX8_extreme_3 : decode cX8_extreme 3 = .ok (.iconst 0, 1) := by decide +kernel
theorem dX8_extreme_4 : decode cX8_extreme 4 = .ok (.istore 5, 2) := by decide +kernel
theorem dX8_extreme_6 : decode cX8_extreme 6 = .ok (.iload 5, 2) := by decide +kernel
theorem dX8_extreme_8 : decode cX8_extreme 8 = .ok (.bipush 20, 2) := by decide +kernel
theorem dX8_extreme_10 : decode cX8_extreme 10 = .ok (.if_icmp .ge 91, 3) := by decide +kernel
theorem dX8_extreme_13 : decode cX8_extreme 13 = .ok (.iconst 0, 1) := by decide +kernel
theorem dX8_extreme_14 : decode cX8_extreme 14 = .ok (.istore 6, 2) := by decide +kernel
theorem dX8_extreme_16 : decode cX8_extreme 16 = .ok (.iload 6, 2) := by decide +kernel
theorem dX8_extreme_18 : decode cX8_extreme 18 = .ok (.bipush 20, 2) := by decide +kernel
theorem dX8_extreme_20 : decode cX8_extreme 20 = .ok (.if_icmp .ge 75, 3) := by decide +kernel
theorem dX8_extreme_23 : decode cX8_extreme 23 = .ok (.iload_n 1, 1) := by decide +kernel
theorem dX8_extreme_24 : decode cX8_extreme 24 = .ok (.iload 5, 2) := by decide +kernel
theorem dX8_extreme_26 : decode cX8_extreme 26 = .ok (.ishr, 1) := by decide +kernel
theorem dX8_extreme_27 : decode cX8_extreme 27 = .ok (.iconst 1, 1) := by decide +kernel
theorem dX8_extreme_28 : decode cX8_extreme 28 = .ok (.iand, 1) := by decide +kernel
theorem dX8_extreme_29 : decode cX8_extreme 29 = .ok (.ifCond .eq 60, 3) := by decide +kernel
theorem dX8_extreme_32 : decode cX8_extreme 32 = .ok (.iload_n 2, 1) := by decide +kernel
theorem dX8_extreme_33 : decode cX8_extreme 33 = .ok (.iload 6, 2) := by decide +kernel
theorem dX8_extreme_35 : decode cX8_extreme 35 = .ok (.ishr, 1) := by decide +kernel
theorem dX8_extreme_36 : decode cX8_extreme 36 = .ok (.iconst 1, 1) := by decide +kernel
theorem dX8_extreme_37 : decode cX8_extreme 37 = .ok (.iand, 1) := by decide +kernel
theorem dX8_extreme_38 : decode cX8_extreme 38 = .ok (.ifCond .ne 6, 3) := by decide +kernel
theorem dX8_extreme_41 : decode cX8_extreme 41 = .ok (.goto 48, 3) := by decide +kernel
theorem dX8_extreme_44 : decode cX8_extreme 44 = .ok (.aload_n 0, 1) := by decide +kernel
theorem dX8_extreme_45 : decode cX8_extreme 45 = .ok (.getfield 7, 3) := by decide +kernel
theorem dX8_extreme_48 : decode cX8_extreme 48 = .ok (.bipush 20, 2) := by decide +kernel
theorem dX8_extreme_50 : decode cX8_extreme 50 = .ok (.iload 5, 2) := by decide +kernel
theorem dX8_extreme_52 : decode cX8_extreme 52 = .ok (.imul, 1) := by decide +kernel
theorem dX8_extreme_53 : decode cX8_extreme 53 = .ok (.iload 6, 2) := by decide +kernel
theorem dX8_extreme_55 : decode cX8_extreme 55 = .ok (.iadd, 1) := by decide +kernel
theorem dX8_extreme_56 : decode cX8_extreme 56 = .ok (.iaload, 1) := by decide +kernel
theorem dX8_extreme_57 : decode cX8_extreme 57 = .ok (.istore 7, 2) := by decide +kernel
theorem dX8_extreme_59 : decode cX8_extreme 59 = .ok (.iload 4, 2) := by decide +kernel
theorem dX8_extreme_61 : decode cX8_extreme 61 = .ok (.ifCond .lt 24, 3) := by decide +kernel
theorem dX8_extreme_64 : decode cX8_extreme 64 = .ok (.iload_n 3, 1) := by decide +kernel
theorem dX8_extreme_65 : decode cX8_extreme 65 = .ok (.ifCond .eq 13, 3) := by decide +kernel
theorem dX8_extreme_68 : decode cX8_extreme 68 = .ok (.iload 7, 2) := by decide +kernel
theorem dX8_extreme_70 : decode cX8_extreme 70 = .ok (.iload 4, 2) := by decide +kernel
theorem dX8_extreme_72 : decode cX8_extreme 72 = .ok (.if_icmp .le 17, 3) := by decide +kernel
theorem dX8_extreme_75 : decode cX8_extreme 75 = .ok (.goto 10, 3) := by decide +kernel
theorem dX8_extreme_78 : decode cX8_extreme 78 = .ok (.iload 7, 2) := by decide +kernel
theorem dX8_extreme_80 : decode cX8_extreme 80 = .ok (.iload 4, 2) := by decide +kernel
theorem dX8_extreme_82 : decode cX8_extreme 82 = .ok (.if_icmp .ge 7, 3) := by decide +kernel
theorem dX8_extreme_85 : decode cX8_extreme 85 = .ok (.iload 7, 2) := by decide +kernel
theorem dX8_extreme_87 : decode cX8_extreme 87 = .ok (.istore 4, 2) := by decide +kernel
theorem dX8_extreme_89 : decode cX8_extreme 89 = .ok (.iinc 6 1, 3) := by decide +kernel
theorem dX8_extreme_92 : decode cX8_extreme 92 = .ok (.goto (-76), 3) := by decide +kernel
theorem dX8_extreme_95 : decode cX8_extreme 95 = .ok (.iinc 5 1, 3) := by decide +kernel
theorem dX8_extreme_98 : decode cX8_extreme 98 = .ok (.goto (-92), 3) := by decide +kernel
theorem dX8_extreme_101 : decode cX8_extreme 101 = .ok (.iload 4, 2) := by decide +kernel
theorem dX8_extreme_103 : decode cX8_extreme 103 = .ok (.ireturn, 1) := by decide +kernel
theorem dX8_deep_0 : decode cX8_deep 0 = .ok (.iconst 0, 1) := by decide +kernel
theorem dX8_deep_1 : decode cX8_deep 1 = .ok (.istore_n 3, 1) := by decide +kernel
theorem dX8_deep_2 : decode cX8_deep 2 = .ok (.iconst 0, 1) := by decide +kernel
theorem dX8_deep_3 : decode cX8_deep 3 = .ok (.istore 4, 2) := by decide +kernel
theorem dX8_deep_5 : decode cX8_deep 5 = .ok (.iload 4, 2) := by decide +kernel
theorem dX8_deep_7 : decode cX8_deep 7 = .ok (.aload_n 0, 1) := by decide +kernel
theorem dX8_deep_8 : decode cX8_deep 8 = .ok (.getfield 147, 3) := by decide +kernel
theorem dX8_deep_11 : decode cX8_deep 11 = .ok (.if_icmp .ge 46, 3) := by decide +kernel
theorem dX8_deep_14 : decode cX8_deep 14 = .ok (.iload_n 3, 1) := by decide +kernel
theorem dX8_deep_15 : decode cX8_deep 15 = .ok (.aload_n 0, 1) := by decide +kernel
theorem dX8_deep_16 : decode cX8_deep 16 = .ok (.getfield 33, 3) := by decide +kernel
theorem dX8_deep_19 : decode cX8_deep 19 = .ok (.iload 4, 2) := by decide +kernel
theorem dX8_deep_21 : decode cX8_deep 21 = .ok (.iaload, 1) := by decide +kernel
theorem dX8_deep_22 : decode cX8_deep 22 = .ok (.iload_n 1, 1) := by decide +kernel
theorem dX8_deep_23 : decode cX8_deep 23 = .ok (.ishr, 1) := by decide +kernel
theorem dX8_deep_24 : decode cX8_deep 24 = .ok (.iconst 1, 1) := by decide +kernel
theorem dX8_deep_25 : decode cX8_deep 25 = .ok (.iand, 1) := by decide +kernel
theorem dX8_deep_26 : decode cX8_deep 26 = .ok (.iconst 1, 1) := by decide +kernel
theorem dX8_deep_27 : decode cX8_deep 27 = .ok (.if_icmp .ne 21, 3) := by decide +kernel
theorem dX8_deep_30 : decode cX8_deep 30 = .ok (.aload_n 0, 1) := by decide +kernel
theorem dX8_deep_31 : decode cX8_deep 31 = .ok (.getfield 33, 3) := by decide +kernel
theorem dX8_deep_34 : decode cX8_deep 34 = .ok (.iload 4, 2) := by decide +kernel
theorem dX8_deep_36 : decode cX8_deep 36 = .ok (.iaload, 1) := by decide +kernel
theorem dX8_deep_37 : decode cX8_deep 37 = .ok (.iload_n 2, 1) := by decide +kernel
theorem dX8_deep_38 : decode cX8_deep 38 = .ok (.iconst (-1), 1) := by decide +kernel
theorem dX8_deep_39 : decode cX8_deep 39 = .ok (.ixor, 1) := by decide +kernel
theorem dX8_deep_40 : decode cX8_deep 40 = .ok (.iand, 1) := by decide +kernel
theorem dX8_deep_41 : decode cX8_deep 41 = .ok (.ifCond .ne 7, 3) := by decide +kernel
theorem dX8_deep_44 : decode cX8_deep 44 = .ok (.iconst 1, 1) := by decide +kernel
theorem dX8_deep_45 : decode cX8_deep 45 = .ok (.goto 4, 3) := by decide +kernel
theorem dX8_deep_48 : decode cX8_deep 48 = .ok (.iconst 0, 1) := by decide +kernel
theorem dX8_deep_49 : decode cX8_deep 49 = .ok (.iadd, 1) := by decide +kernel
theorem dX8_deep_50 : decode cX8_deep 50 = .ok (.istore_n 3, 1) := by decide +kernel
theorem dX8_deep_51 : decode cX8_deep 51 = .ok (.iinc 4 1, 3) := by decide +kernel
theorem dX8_deep_54 : decode cX8_deep 54 = .ok (.goto (-49), 3) := by decide +kernel
theorem dX8_deep_57 : decode cX8_deep 57 = .ok (.iload_n 3, 1) := by decide +kernel
theorem dX8_deep_58 : decode cX8_deep 58 = .ok (.ireturn, 1) := by decide +kernel
theorem dX8_weighted_0 : decode cX8_weighted 0 = .ok (.lconst 0, 1) := by decide +kernel
theorem dX8_weighted_1 : decode cX8_weighted 1 = .ok (.lstore_n 3, 1) := by decide +kernel
theorem dX8_weighted_2 : decode cX8_weighted 2 = .ok (.iconst 0, 1) := by decide +kernel
theorem dX8_weighted_3 : decode cX8_weighted 3 = .ok (.istore 5, 2) := by decide +kernel
theorem dX8_weighted_5 : decode cX8_weighted 5 = .ok (.iload 5, 2) := by decide +kernel
theorem dX8_weighted_7 : decode cX8_weighted 7 = .ok (.bipush 20, 2) := by decide +kernel
theorem dX8_weighted_9 : decode cX8_weighted 9 = .ok (.if_icmp .ge 87, 3) := by decide +kernel
theorem dX8_weighted_12 : decode cX8_weighted 12 = .ok (.iload_n 1, 1) := by decide +kernel
theorem dX8_weighted_13 : decode cX8_weighted 13 = .ok (.iload 5, 2) := by decide +kernel
theorem dX8_weighted_15 : decode cX8_weighted 15 = .ok (.ishr, 1) := by decide +kernel
end
section
theorem dX8_weighted_16 : decode cX8_weighted 16 = .ok (.iconst 1, 1) := by decide +kernel
theorem dX8_weighted_17 : decode cX8_weighted 17 = .ok (.iand, 1) := by decide +kernel
theorem dX8_weighted_18 : decode cX8_weighted 18 = .ok (.ifCond .ne 6, 3) := by decide +kernel
theorem dX8_weighted_21 : decode cX8_weighted 21 = .ok (.goto 69, 3) := by decide +kernel
theorem dX8_weighted_24 : decode cX8_weighted 24 = .ok (.aload_n 0, 1) := by decide +kernel
theorem dX8_weighted_25 : decode cX8_weighted 25 = .ok (.iload 5, 2) := by decide +kernel
theorem dX8_weighted_27 : decode cX8_weighted 27 = .ok (.iload_n 1, 1) := by decide +kernel
theorem dX8_weighted_28 : decode cX8_weighted 28 = .ok (.invokevirtual 150, 3) := by decide +kernel
theorem dX8_weighted_31 : decode cX8_weighted 31 = .ok (.istore 6, 2) := by decide +kernel
theorem dX8_weighted_33 : decode cX8_weighted 33 = .ok (.iconst 0, 1) := by decide +kernel
theorem dX8_weighted_34 : decode cX8_weighted 34 = .ok (.istore 7, 2) := by decide +kernel
theorem dX8_weighted_36 : decode cX8_weighted 36 = .ok (.iload 7, 2) := by decide +kernel
theorem dX8_weighted_38 : decode cX8_weighted 38 = .ok (.bipush 20, 2) := by decide +kernel
theorem dX8_weighted_40 : decode cX8_weighted 40 = .ok (.if_icmp .ge 50, 3) := by decide +kernel
theorem dX8_weighted_43 : decode cX8_weighted 43 = .ok (.iload_n 2, 1) := by decide +kernel
theorem dX8_weighted_44 : decode cX8_weighted 44 = .ok (.iload 7, 2) := by decide +kernel
theorem dX8_weighted_46 : decode cX8_weighted 46 = .ok (.ishr, 1) := by decide +kernel
theorem dX8_weighted_47 : decode cX8_weighted 47 = .ok (.iconst 1, 1) := by decide +kernel
theorem dX8_weighted_48 : decode cX8_weighted 48 = .ok (.iand, 1) := by decide +kernel
theorem dX8_weighted_49 : decode cX8_weighted 49 = .ok (.iconst 1, 1) := by decide +kernel
theorem dX8_weighted_50 : decode cX8_weighted 50 = .ok (.if_icmp .ne 34, 3) := by decide +kernel
theorem dX8_weighted_53 : decode cX8_weighted 53 = .ok (.lload_n 3, 1) := by decide +kernel
theorem dX8_weighted_54 : decode cX8_weighted 54 = .ok (.aload_n 0, 1) := by decide +kernel
theorem dX8_weighted_55 : decode cX8_weighted 55 = .ok (.getfield 7, 3) := by decide +kernel
theorem dX8_weighted_58 : decode cX8_weighted 58 = .ok (.bipush 20, 2) := by decide +kernel
theorem dX8_weighted_60 : decode cX8_weighted 60 = .ok (.iload 5, 2) := by decide +kernel
theorem dX8_weighted_62 : decode cX8_weighted 62 = .ok (.imul, 1) := by decide +kernel
theorem dX8_weighted_63 : decode cX8_weighted 63 = .ok (.iload 7, 2) := by decide +kernel
theorem dX8_weighted_65 : decode cX8_weighted 65 = .ok (.iadd, 1) := by decide +kernel
theorem dX8_weighted_66 : decode cX8_weighted 66 = .ok (.iaload, 1) := by decide +kernel
theorem dX8_weighted_67 : decode cX8_weighted 67 = .ok (.i2l, 1) := by decide +kernel
theorem dX8_weighted_68 : decode cX8_weighted 68 = .ok (.bipush 18, 2) := by decide +kernel
theorem dX8_weighted_70 : decode cX8_weighted 70 = .ok (.iload 6, 2) := by decide +kernel
theorem dX8_weighted_72 : decode cX8_weighted 72 = .ok (.isub, 1) := by decide +kernel
theorem dX8_weighted_73 : decode cX8_weighted 73 = .ok (.aload_n 0, 1) := by decide +kernel
theorem dX8_weighted_74 : decode cX8_weighted 74 = .ok (.iload 7, 2) := by decide +kernel
theorem dX8_weighted_76 : decode cX8_weighted 76 = .ok (.iload_n 2, 1) := by decide +kernel
theorem dX8_weighted_77 : decode cX8_weighted 77 = .ok (.invokevirtual 150, 3) := by decide +kernel
theorem dX8_weighted_80 : decode cX8_weighted 80 = .ok (.isub, 1) := by decide +kernel
theorem dX8_weighted_81 : decode cX8_weighted 81 = .ok (.lshl, 1) := by decide +kernel
theorem dX8_weighted_82 : decode cX8_weighted 82 = .ok (.ladd, 1) := by decide +kernel
theorem dX8_weighted_83 : decode cX8_weighted 83 = .ok (.lstore_n 3, 1) := by decide +kernel
theorem dX8_weighted_84 : decode cX8_weighted 84 = .ok (.iinc 7 1, 3) := by decide +kernel
theorem dX8_weighted_87 : decode cX8_weighted 87 = .ok (.goto (-51), 3) := by decide +kernel
theorem dX8_weighted_90 : decode cX8_weighted 90 = .ok (.iinc 5 1, 3) := by decide +kernel
theorem dX8_weighted_93 : decode cX8_weighted 93 = .ok (.goto (-88), 3) := by decide +kernel
theorem dX8_weighted_96 : decode cX8_weighted 96 = .ok (.lload_n 3, 1) := by decide +kernel
theorem dX8_weighted_97 : decode cX8_weighted 97 = .ok (.lreturn, 1) := by decide +kernel
theorem dX8_lowest_0 : decode cX8_lowest 0 = .ok (.lload_n 1, 1) := by decide +kernel
theorem dX8_lowest_1 : decode cX8_lowest 1 = .ok (.lconst 0, 1) := by decide +kernel
theorem dX8_lowest_2 : decode cX8_lowest 2 = .ok (.lcmp, 1) := by decide +kernel
theorem dX8_lowest_3 : decode cX8_lowest 3 = .ok (.ifCond .ge 8, 3) := by decide +kernel
theorem dX8_lowest_6 : decode cX8_lowest 6 = .ok (.lload_n 1, 1) := by decide +kernel
theorem dX8_lowest_7 : decode cX8_lowest 7 = .ok (.lneg, 1) := by decide +kernel
theorem dX8_lowest_8 : decode cX8_lowest 8 = .ok (.goto 4, 3) := by decide +kernel
theorem dX8_lowest_11 : decode cX8_lowest 11 = .ok (.lload_n 1, 1) := by decide +kernel
theorem dX8_lowest_12 : decode cX8_lowest 12 = .ok (.lstore 5, 2) := by decide +kernel
theorem dX8_lowest_14 : decode cX8_lowest 14 = .ok (.lload_n 3, 1) := by decide +kernel
theorem dX8_lowest_15 : decode cX8_lowest 15 = .ok (.lstore 7, 2) := by decide +kernel
theorem dX8_lowest_17 : decode cX8_lowest 17 = .ok (.lload 5, 2) := by decide +kernel
theorem dX8_lowest_19 : decode cX8_lowest 19 = .ok (.lconst 0, 1) := by decide +kernel
theorem dX8_lowest_20 : decode cX8_lowest 20 = .ok (.lcmp, 1) := by decide +kernel
theorem dX8_lowest_21 : decode cX8_lowest 21 = .ok (.ifCond .eq 21, 3) := by decide +kernel
theorem dX8_lowest_24 : decode cX8_lowest 24 = .ok (.lload 7, 2) := by decide +kernel
theorem dX8_lowest_26 : decode cX8_lowest 26 = .ok (.lload 5, 2) := by decide +kernel
theorem dX8_lowest_28 : decode cX8_lowest 28 = .ok (.lrem, 1) := by decide +kernel
theorem dX8_lowest_29 : decode cX8_lowest 29 = .ok (.lstore 9, 2) := by decide +kernel
theorem dX8_lowest_31 : decode cX8_lowest 31 = .ok (.lload 5, 2) := by decide +kernel
theorem dX8_lowest_33 : decode cX8_lowest 33 = .ok (.lstore 7, 2) := by decide +kernel
theorem dX8_lowest_35 : decode cX8_lowest 35 = .ok (.lload 9, 2) := by decide +kernel
theorem dX8_lowest_37 : decode cX8_lowest 37 = .ok (.lstore 5, 2) := by decide +kernel
theorem dX8_lowest_39 : decode cX8_lowest 39 = .ok (.goto (-22), 3) := by decide +kernel
theorem dX8_lowest_42 : decode cX8_lowest 42 = .ok (.aload_n 0, 1) := by decide +kernel
theorem dX8_lowest_43 : decode cX8_lowest 43 = .ok (.lload_n 1, 1) := by decide +kernel
theorem dX8_lowest_44 : decode cX8_lowest 44 = .ok (.lload 7, 2) := by decide +kernel
theorem dX8_lowest_46 : decode cX8_lowest 46 = .ok (.ldiv, 1) := by decide +kernel
theorem dX8_lowest_47 : decode cX8_lowest 47 = .ok (.putfield 154, 3) := by decide +kernel
theorem dX8_lowest_50 : decode cX8_lowest 50 = .ok (.aload_n 0, 1) := by decide +kernel
theorem dX8_lowest_51 : decode cX8_lowest 51 = .ok (.lload_n 3, 1) := by decide +kernel
theorem dX8_lowest_52 : decode cX8_lowest 52 = .ok (.lload 7, 2) := by decide +kernel
theorem dX8_lowest_54 : decode cX8_lowest 54 = .ok (.ldiv, 1) := by decide +kernel
theorem dX8_lowest_55 : decode cX8_lowest 55 = .ok (.putfield 158, 3) := by decide +kernel
theorem dX8_lowest_58 : decode cX8_lowest 58 = .ok (.return_, 1) := by decide +kernel
theorem dX8_link_0 : decode cX8_link 0 = .ok (.iload_n 2, 1) := by decide +kernel
theorem dX8_link_1 : decode cX8_link 1 = .ok (.invokestatic 161, 3) := by decide +kernel
theorem dX8_link_4 : decode cX8_link 4 = .ok (.i2l, 1) := by decide +kernel
theorem dX8_link_5 : decode cX8_link 5 = .ok (.lstore 4, 2) := by decide +kernel
theorem dX8_link_7 : decode cX8_link 7 = .ok (.iload_n 3, 1) := by decide +kernel
theorem dX8_link_8 : decode cX8_link 8 = .ok (.invokestatic 161, 3) := by decide +kernel
theorem dX8_link_11 : decode cX8_link 11 = .ok (.i2l, 1) := by decide +kernel
theorem dX8_link_12 : decode cX8_link 12 = .ok (.lstore 6, 2) := by decide +kernel
theorem dX8_link_14 : decode cX8_link 14 = .ok (.iload_n 1, 1) := by decide +kernel
theorem dX8_link_15 : decode cX8_link 15 = .ok (.tableswitch 139 0 3 #[29, 45, 61, 79], 29) := by decide +kernel
theorem dX8_link_44 : decode cX8_link 44 = .ok (.aload_n 0, 1) := by decide +kernel
theorem dX8_link_45 : decode cX8_link 45 = .ok (.aload_n 0, 1) := by decide +kernel
theorem dX8_link_46 : decode cX8_link 46 = .ok (.iload_n 2, 1) := by decide +kernel
theorem dX8_link_47 : decode cX8_link 47 = .ok (.iload_n 3, 1) := by decide +kernel
theorem dX8_link_48 : decode cX8_link 48 = .ok (.iconst 0, 1) := by decide +kernel
theorem dX8_link_49 : decode cX8_link 49 = .ok (.invokevirtual 164, 3) := by decide +kernel
theorem dX8_link_52 : decode cX8_link 52 = .ok (.i2l, 1) := by decide +kernel
theorem dX8_link_53 : decode cX8_link 53 = .ok (.lconst 1, 1) := by decide +kernel
theorem dX8_link_54 : decode cX8_link 54 = .ok (.invokevirtual 168, 3) := by decide +kernel
theorem dX8_link_57 : decode cX8_link 57 = .ok (.goto 110, 3) := by decide +kernel
theorem dX8_link_60 : decode cX8_link 60 = .ok (.aload_n 0, 1) := by decide +kernel
theorem dX8_link_61 : decode cX8_link 61 = .ok (.aload_n 0, 1) := by decide +kernel
theorem dX8_link_62 : decode cX8_link 62 = .ok (.iload_n 2, 1) := by decide +kernel
theorem dX8_link_63 : decode cX8_link 63 = .ok (.iload_n 3, 1) := by decide +kernel
theorem dX8_link_64 : decode cX8_link 64 = .ok (.iconst 1, 1) := by decide +kernel
theorem dX8_link_65 : decode cX8_link 65 = .ok (.invokevirtual 164, 3) := by decide +kernel
theorem dX8_link_68 : decode cX8_link 68 = .ok (.i2l, 1) := by decide +kernel
theorem dX8_link_69 : decode cX8_link 69 = .ok (.lconst 1, 1) := by decide +kernel
theorem dX8_link_70 : decode cX8_link 70 = .ok (.invokevirtual 168, 3) := by decide +kernel
theorem dX8_link_73 : decode cX8_link 73 = .ok (.goto 94, 3) := by decide +kernel
theorem dX8_link_76 : decode cX8_link 76 = .ok (.aload_n 0, 1) := by decide +kernel
theorem dX8_link_77 : decode cX8_link 77 = .ok (.aload_n 0, 1) := by decide +kernel
theorem dX8_link_78 : decode cX8_link 78 = .ok (.iload_n 2, 1) := by decide +kernel
theorem dX8_link_79 : decode cX8_link 79 = .ok (.iload_n 3, 1) := by decide +kernel
theorem dX8_link_80 : decode cX8_link 80 = .ok (.invokevirtual 172, 3) := by decide +kernel
theorem dX8_link_83 : decode cX8_link 83 = .ok (.lload 4, 2) := by decide +kernel
theorem dX8_link_85 : decode cX8_link 85 = .ok (.lload 6, 2) := by decide +kernel
theorem dX8_link_87 : decode cX8_link 87 = .ok (.lmul, 1) := by decide +kernel
theorem dX8_link_88 : decode cX8_link 88 = .ok (.invokevirtual 168, 3) := by decide +kernel
theorem dX8_link_91 : decode cX8_link 91 = .ok (.goto 76, 3) := by decide +kernel
theorem dX8_link_94 : decode cX8_link 94 = .ok (.aload_n 0, 1) := by decide +kernel
theorem dX8_link_95 : decode cX8_link 95 = .ok (.ldc2_w 176, 3) := by decide +kernel
theorem dX8_link_98 : decode cX8_link 98 = .ok (.lload 4, 2) := by decide +kernel
theorem dX8_link_100 : decode cX8_link 100 = .ok (.lmul, 1) := by decide +kernel
theorem dX8_link_101 : decode cX8_link 101 = .ok (.lload 6, 2) := by decide +kernel
theorem dX8_link_103 : decode cX8_link 103 = .ok (.lmul, 1) := by decide +kernel
theorem dX8_link_104 : decode cX8_link 104 = .ok (.aload_n 0, 1) := by decide +kernel
theorem dX8_link_105 : decode cX8_link 105 = .ok (.iload_n 2, 1) := by decide +kernel
theorem dX8_link_106 : decode cX8_link 106 = .ok (.iload_n 3, 1) := by decide +kernel
theorem dX8_link_107 : decode cX8_link 107 = .ok (.invokevirtual 172, 3) := by decide +kernel
theorem dX8_link_110 : decode cX8_link 110 = .ok (.lmul, 1) := by decide +kernel
theorem dX8_link_111 : decode cX8_link 111 = .ok (.lload 6, 2) := by decide +kernel
theorem dX8_link_113 : decode cX8_link 113 = .ok (.lload 6, 2) := by decide +kernel
theorem dX8_link_115 : decode cX8_link 115 = .ok (.lmul, 1) := by decide +kernel
theorem dX8_link_116 : decode cX8_link 116 = .ok (.aload_n 0, 1) := by decide +kernel
theorem dX8_link_117 : decode cX8_link 117 = .ok (.iload_n 2, 1) := by decide +kernel
theorem dX8_link_118 : decode cX8_link 118 = .ok (.iload_n 2, 1) := by decide +kernel
theorem dX8_link_119 : decode cX8_link 119 = .ok (.invokevirtual 172, 3) := by decide +kernel
theorem dX8_link_122 : decode cX8_link 122 = .ok (.lmul, 1) := by decide +kernel
theorem dX8_link_123 : decode cX8_link 123 = .ok (.lsub, 1) := by decide +kernel
theorem dX8_link_124 : decode cX8_link 124 = .ok (.lload 4, 2) := by decide +kernel
theorem dX8_link_126 : decode cX8_link 126 = .ok (.lload 4, 2) := by decide +kernel
theorem dX8_link_128 : decode cX8_link 128 = .ok (.lmul, 1) := by decide +kernel
theorem dX8_link_129 : decode cX8_link 129 = .ok (.aload_n 0, 1) := by decide +kernel
theorem dX8_link_130 : decode cX8_link 130 = .ok (.iload_n 3, 1) := by decide +kernel
theorem dX8_link_131 : decode cX8_link 131 = .ok (.iload_n 3, 1) := by decide +kernel
theorem dX8_link_132 : decode cX8_link 132 = .ok (.invokevirtual 172, 3) := by decide +kernel
theorem dX8_link_135 : decode cX8_link 135 = .ok (.lmul, 1) := by decide +kernel
theorem dX8_link_136 : decode cX8_link 136 = .ok (.lsub, 1) := by decide +kernel
theorem dX8_link_137 : decode cX8_link 137 = .ok (.lload 4, 2) := by decide +kernel
theorem dX8_link_139 : decode cX8_link 139 = .ok (.lload 6, 2) := by decide +kernel
theorem dX8_link_141 : decode cX8_link 141 = .ok (.lmul, 1) := by decide +kernel
theorem dX8_link_142 : decode cX8_link 142 = .ok (.lload 4, 2) := by decide +kernel
theorem dX8_link_144 : decode cX8_link 144 = .ok (.lload 6, 2) := by decide +kernel
theorem dX8_link_146 : decode cX8_link 146 = .ok (.ladd, 1) := by decide +kernel
theorem dX8_link_147 : decode cX8_link 147 = .ok (.lmul, 1) := by decide +kernel
theorem dX8_link_148 : decode cX8_link 148 = .ok (.invokevirtual 168, 3) := by decide +kernel
theorem dX8_link_151 : decode cX8_link 151 = .ok (.goto 16, 3) := by decide +kernel
theorem dX8_link_154 : decode cX8_link 154 = .ok (.aload_n 0, 1) := by decide +kernel
theorem dX8_link_155 : decode cX8_link 155 = .ok (.aload_n 0, 1) := by decide +kernel
theorem dX8_link_156 : decode cX8_link 156 = .ok (.iload_n 2, 1) := by decide +kernel
theorem dX8_link_157 : decode cX8_link 157 = .ok (.iload_n 3, 1) := by decide +kernel
theorem dX8_link_158 : decode cX8_link 158 = .ok (.invokevirtual 178, 3) := by decide +kernel
theorem dX8_link_161 : decode cX8_link 161 = .ok (.ldc2_w 181, 3) := by decide +kernel
theorem dX8_link_164 : decode cX8_link 164 = .ok (.invokevirtual 168, 3) := by decide +kernel
theorem dX8_link_167 : decode cX8_link 167 = .ok (.return_, 1) := by decide +kernel
theorem dX8_linkage_0 : decode cX8_linkage 0 = .ok (.iconst 1, 1) := by decide +kernel
theorem dX8_linkage_1 : decode cX8_linkage 1 = .ok (.aload_n 0, 1) := by decide +kernel
theorem dX8_linkage_2 : decode cX8_linkage 2 = .ok (.getfield 107, 3) := by decide +kernel
theorem dX8_linkage_5 : decode cX8_linkage 5 = .ok (.ishl, 1) := by decide +kernel
theorem dX8_linkage_6 : decode cX8_linkage 6 = .ok (.iconst 1, 1) := by decide +kernel
theorem dX8_linkage_7 : decode cX8_linkage 7 = .ok (.isub, 1) := by decide +kernel
theorem dX8_linkage_8 : decode cX8_linkage 8 = .ok (.istore 5, 2) := by decide +kernel
theorem dX8_linkage_10 : decode cX8_linkage 10 = .ok (.iload_n 2, 1) := by decide +kernel
theorem dX8_linkage_11 : decode cX8_linkage 11 = .ok (.iload 5, 2) := by decide +kernel
theorem dX8_linkage_13 : decode cX8_linkage 13 = .ok (.iand, 1) := by decide +kernel
theorem dX8_linkage_14 : decode cX8_linkage 14 = .ok (.istore 6, 2) := by decide +kernel
theorem dX8_linkage_16 : decode cX8_linkage 16 = .ok (.iload_n 3, 1) := by decide +kernel
theorem dX8_linkage_17 : decode cX8_linkage 17 = .ok (.iload 5, 2) := by decide +kernel
theorem dX8_linkage_19 : decode cX8_linkage 19 = .ok (.iand, 1) := by decide +kernel
theorem dX8_linkage_20 : decode cX8_linkage 20 = .ok (.istore 7, 2) := by decide +kernel
theorem dX8_linkage_22 : decode cX8_linkage 22 = .ok (.iload_n 1, 1) := by decide +kernel
theorem dX8_linkage_23 : decode cX8_linkage 23 = .ok (.iconst 4, 1) := by decide +kernel
theorem dX8_linkage_24 : decode cX8_linkage 24 = .ok (.invokestatic 110, 3) := by decide +kernel
theorem dX8_linkage_27 : decode cX8_linkage 27 = .ok (.ifCond .eq 30, 3) := by decide +kernel
theorem dX8_linkage_30 : decode cX8_linkage 30 = .ok (.iload 4, 2) := by decide +kernel
theorem dX8_linkage_32 : decode cX8_linkage 32 = .ok (.iconst 2, 1) := by decide +kernel
theorem dX8_linkage_33 : decode cX8_linkage 33 = .ok (.invokestatic 110, 3) := by decide +kernel
theorem dX8_linkage_36 : decode cX8_linkage 36 = .ok (.ifCond .eq 21, 3) := by decide +kernel
theorem dX8_linkage_39 : decode cX8_linkage 39 = .ok (.iload 6, 2) := by decide +kernel
theorem dX8_linkage_41 : decode cX8_linkage 41 = .ok (.ifCond .eq 16, 3) := by decide +kernel
theorem dX8_linkage_44 : decode cX8_linkage 44 = .ok (.iload 7, 2) := by decide +kernel
theorem dX8_linkage_46 : decode cX8_linkage 46 = .ok (.ifCond .eq 11, 3) := by decide +kernel
theorem dX8_linkage_49 : decode cX8_linkage 49 = .ok (.iload 6, 2) := by decide +kernel
theorem dX8_linkage_51 : decode cX8_linkage 51 = .ok (.iload 7, 2) := by decide +kernel
theorem dX8_linkage_53 : decode cX8_linkage 53 = .ok (.iand, 1) := by decide +kernel
theorem dX8_linkage_54 : decode cX8_linkage 54 = .ok (.ifCond .eq 7, 3) := by decide +kernel
theorem dX8_linkage_57 : decode cX8_linkage 57 = .ok (.ldc2_w 183, 3) := by decide +kernel
theorem dX8_linkage_60 : decode cX8_linkage 60 = .ok (.lreturn, 1) := by decide +kernel
theorem dX8_linkage_61 : decode cX8_linkage 61 = .ok (.aload_n 0, 1) := by decide +kernel
theorem dX8_linkage_62 : decode cX8_linkage 62 = .ok (.iload_n 1, 1) := by decide +kernel
theorem dX8_linkage_63 : decode cX8_linkage 63 = .ok (.iload 6, 2) := by decide +kernel
theorem dX8_linkage_65 : decode cX8_linkage 65 = .ok (.iload 7, 2) := by decide +kernel
theorem dX8_linkage_67 : decode cX8_linkage 67 = .ok (.invokevirtual 185, 3) := by decide +kernel
theorem dX8_linkage_70 : decode cX8_linkage 70 = .ok (.iload 4, 2) := by decide +kernel
theorem dX8_linkage_72 : decode cX8_linkage 72 = .ok (.ifCond .ne 10, 3) := by decide +kernel
theorem dX8_linkage_75 : decode cX8_linkage 75 = .ok (.aload_n 0, 1) := by decide +kernel
theorem dX8_linkage_76 : decode cX8_linkage 76 = .ok (.getfield 154, 3) := by decide +kernel
theorem dX8_linkage_79 : decode cX8_linkage 79 = .ok (.goto 7, 3) := by decide +kernel
theorem dX8_linkage_82 : decode cX8_linkage 82 = .ok (.aload_n 0, 1) := by decide +kernel
theorem dX8_linkage_83 : decode cX8_linkage 83 = .ok (.getfield 158, 3) := by decide +kernel
theorem dX8_linkage_86 : decode cX8_linkage 86 = .ok (.lreturn, 1) := by decide +kernel
theorem dX8_begins_0 : decode cX8_begins 0 = .ok (.aload_n 0, 1) := by decide +kernel
theorem dX8_begins_1 : decode cX8_begins 1 = .ok (.iconst 0, 1) := by decide +kernel
theorem dX8_begins_2 : decode cX8_begins 2 = .ok (.putfield 147, 3) := by decide +kernel
theorem dX8_begins_5 : decode cX8_begins 5 = .ok (.aload_n 0, 1) := by decide +kernel
theorem dX8_begins_6 : decode cX8_begins 6 = .ok (.iconst 0, 1) := by decide +kernel
theorem dX8_begins_7 : decode cX8_begins 7 = .ok (.putfield 188, 3) := by decide +kernel
theorem dX8_begins_10 : decode cX8_begins 10 = .ok (.iconst 0, 1) := by decide +kernel
theorem dX8_begins_11 : decode cX8_begins 11 = .ok (.istore_n 1, 1) := by decide +kernel
theorem dX8_begins_12 : decode cX8_begins 12 = .ok (.iload_n 1, 1) := by decide +kernel
theorem dX8_begins_13 : decode cX8_begins 13 = .ok (.bipush 40, 2) := by decide +kernel
theorem dX8_begins_15 : decode cX8_begins 15 = .ok (.if_icmp .ge 49, 3) := by decide +kernel
theorem dX8_begins_18 : decode cX8_begins 18 = .ok (.aload_n 0, 1) := by decide +kernel
theorem dX8_begins_19 : decode cX8_begins 19 = .ok (.getfield 71, 3) := by decide +kernel
theorem dX8_begins_22 : decode cX8_begins 22 = .ok (.iload_n 1, 1) := by decide +kernel
theorem dX8_begins_23 : decode cX8_begins 23 = .ok (.iload_n 1, 1) := by decide +kernel
theorem dX8_begins_24 : decode cX8_begins 24 = .ok (.aload_n 0, 1) := by decide +kernel
theorem dX8_begins_25 : decode cX8_begins 25 = .ok (.getfield 107, 3) := by decide +kernel
theorem dX8_begins_28 : decode cX8_begins 28 = .ok (.if_icmp .ge 9, 3) := by decide +kernel
theorem dX8_begins_31 : decode cX8_begins 31 = .ok (.iconst 1, 1) := by decide +kernel
theorem dX8_begins_32 : decode cX8_begins 32 = .ok (.iload_n 1, 1) := by decide +kernel
theorem dX8_begins_33 : decode cX8_begins 33 = .ok (.ishl, 1) := by decide +kernel
theorem dX8_begins_34 : decode cX8_begins 34 = .ok (.goto 4, 3) := by decide +kernel
theorem dX8_begins_37 : decode cX8_begins 37 = .ok (.iconst 0, 1) := by decide +kernel
theorem dX8_begins_38 : decode cX8_begins 38 = .ok (.iastore, 1) := by decide +kernel
theorem dX8_begins_39 : decode cX8_begins 39 = .ok (.aload_n 0, 1) := by decide +kernel
theorem dX8_begins_40 : decode cX8_begins 40 = .ok (.getfield 74, 3) := by decide +kernel
theorem dX8_begins_43 : decode cX8_begins 43 = .ok (.iload_n 1, 1) := by decide +kernel
theorem dX8_begins_44 : decode cX8_begins 44 = .ok (.iload_n 1, 1) := by decide +kernel
theorem dX8_begins_45 : decode cX8_begins 45 = .ok (.aload_n 0, 1) := by decide +kernel
theorem dX8_begins_46 : decode cX8_begins 46 = .ok (.getfield 107, 3) := by decide +kernel
theorem dX8_begins_49 : decode cX8_begins 49 = .ok (.if_icmp .ge 7, 3) := by decide +kernel
theorem dX8_begins_52 : decode cX8_begins 52 = .ok (.iconst 1, 1) := by decide +kernel
theorem dX8_begins_53 : decode cX8_begins 53 = .ok (.goto 4, 3) := by decide +kernel
theorem dX8_begins_56 : decode cX8_begins 56 = .ok (.iconst 0, 1) := by decide +kernel
theorem dX8_begins_57 : decode cX8_begins 57 = .ok (.bastore, 1) := by decide +kernel
theorem dX8_begins_58 : decode cX8_begins 58 = .ok (.iinc 1 1, 3) := by decide +kernel
theorem dX8_begins_61 : decode cX8_begins 61 = .ok (.goto (-49), 3) := by decide +kernel
theorem dX8_begins_64 : decode cX8_begins 64 = .ok (.return_, 1) := by decide +kernel
theorem dX8_joined_0 : decode cX8_joined 0 = .ok (.aload_n 0, 1) := by decide +kernel
theorem dX8_joined_1 : decode cX8_joined 1 = .ok (.getfield 77, 3) := by decide +kernel
theorem dX8_joined_4 : decode cX8_joined 4 = .ok (.aload_n 0, 1) := by decide +kernel
theorem dX8_joined_5 : decode cX8_joined 5 = .ok (.getfield 147, 3) := by decide +kernel
theorem dX8_joined_8 : decode cX8_joined 8 = .ok (.iload_n 1, 1) := by decide +kernel
theorem dX8_joined_9 : decode cX8_joined 9 = .ok (.iload_n 2, 1) := by decide +kernel
theorem dX8_joined_10 : decode cX8_joined 10 = .ok (.if_icmp .ge 7, 3) := by decide +kernel
theorem dX8_joined_13 : decode cX8_joined 13 = .ok (.iload_n 1, 1) := by decide +kernel
theorem dX8_joined_14 : decode cX8_joined 14 = .ok (.goto 4, 3) := by decide +kernel
theorem dX8_joined_17 : decode cX8_joined 17 = .ok (.iload_n 2, 1) := by decide +kernel
theorem dX8_joined_18 : decode cX8_joined 18 = .ok (.iastore, 1) := by decide +kernel
theorem dX8_joined_19 : decode cX8_joined 19 = .ok (.aload_n 0, 1) := by decide +kernel
theorem dX8_joined_20 : decode cX8_joined 20 = .ok (.getfield 80, 3) := by decide +kernel
theorem dX8_joined_23 : decode cX8_joined 23 = .ok (.aload_n 0, 1) := by decide +kernel
theorem dX8_joined_24 : decode cX8_joined 24 = .ok (.getfield 147, 3) := by decide +kernel
theorem dX8_joined_27 : decode cX8_joined 27 = .ok (.iload_n 1, 1) := by decide +kernel
theorem dX8_joined_28 : decode cX8_joined 28 = .ok (.iload_n 2, 1) := by decide +kernel
theorem dX8_joined_29 : decode cX8_joined 29 = .ok (.if_icmp .ge 7, 3) := by decide +kernel
theorem dX8_joined_32 : decode cX8_joined 32 = .ok (.iload_n 2, 1) := by decide +kernel
theorem dX8_joined_33 : decode cX8_joined 33 = .ok (.goto 4, 3) := by decide +kernel
theorem dX8_joined_36 : decode cX8_joined 36 = .ok (.iload_n 1, 1) := by decide +kernel
theorem dX8_joined_37 : decode cX8_joined 37 = .ok (.iastore, 1) := by decide +kernel
theorem dX8_joined_38 : decode cX8_joined 38 = .ok (.aload_n 0, 1) := by decide +kernel
theorem dX8_joined_39 : decode cX8_joined 39 = .ok (.getfield 83, 3) := by decide +kernel
theorem dX8_joined_42 : decode cX8_joined 42 = .ok (.aload_n 0, 1) := by decide +kernel
theorem dX8_joined_43 : decode cX8_joined 43 = .ok (.getfield 147, 3) := by decide +kernel
theorem dX8_joined_46 : decode cX8_joined 46 = .ok (.aload_n 0, 1) := by decide +kernel
theorem dX8_joined_47 : decode cX8_joined 47 = .ok (.getfield 154, 3) := by decide +kernel
theorem dX8_joined_50 : decode cX8_joined 50 = .ok (.lastore, 1) := by decide +kernel
theorem dX8_joined_51 : decode cX8_joined 51 = .ok (.aload_n 0, 1) := by decide +kernel
theorem dX8_joined_52 : decode cX8_joined 52 = .ok (.getfield 86, 3) := by decide +kernel
theorem dX8_joined_55 : decode cX8_joined 55 = .ok (.aload_n 0, 1) := by decide +kernel
theorem dX8_joined_56 : decode cX8_joined 56 = .ok (.getfield 147, 3) := by decide +kernel
theorem dX8_joined_59 : decode cX8_joined 59 = .ok (.aload_n 0, 1) := by decide +kernel
theorem dX8_joined_60 : decode cX8_joined 60 = .ok (.getfield 158, 3) := by decide +kernel
theorem dX8_joined_63 : decode cX8_joined 63 = .ok (.lastore, 1) := by decide +kernel
theorem dX8_joined_64 : decode cX8_joined 64 = .ok (.aload_n 0, 1) := by decide +kernel
theorem dX8_joined_65 : decode cX8_joined 65 = .ok (.getfield 74, 3) := by decide +kernel
theorem dX8_joined_68 : decode cX8_joined 68 = .ok (.iload_n 1, 1) := by decide +kernel
theorem dX8_joined_69 : decode cX8_joined 69 = .ok (.iconst 0, 1) := by decide +kernel
theorem dX8_joined_70 : decode cX8_joined 70 = .ok (.bastore, 1) := by decide +kernel
theorem dX8_joined_71 : decode cX8_joined 71 = .ok (.aload_n 0, 1) := by decide +kernel
theorem dX8_joined_72 : decode cX8_joined 72 = .ok (.getfield 74, 3) := by decide +kernel
theorem dX8_joined_75 : decode cX8_joined 75 = .ok (.iload_n 2, 1) := by decide +kernel
theorem dX8_joined_76 : decode cX8_joined 76 = .ok (.iconst 0, 1) := by decide +kernel
theorem dX8_joined_77 : decode cX8_joined 77 = .ok (.bastore, 1) := by decide +kernel
theorem dX8_joined_78 : decode cX8_joined 78 = .ok (.aload_n 0, 1) := by decide +kernel
theorem dX8_joined_79 : decode cX8_joined 79 = .ok (.getfield 71, 3) := by decide +kernel
theorem dX8_joined_82 : decode cX8_joined 82 = .ok (.aload_n 0, 1) := by decide +kernel
theorem dX8_joined_83 : decode cX8_joined 83 = .ok (.getfield 107, 3) := by decide +kernel
theorem dX8_joined_86 : decode cX8_joined 86 = .ok (.aload_n 0, 1) := by decide +kernel
theorem dX8_joined_87 : decode cX8_joined 87 = .ok (.getfield 147, 3) := by decide +kernel
theorem dX8_joined_90 : decode cX8_joined 90 = .ok (.iadd, 1) := by decide +kernel
theorem dX8_joined_91 : decode cX8_joined 91 = .ok (.aload_n 0, 1) := by decide +kernel
theorem dX8_joined_92 : decode cX8_joined 92 = .ok (.getfield 71, 3) := by decide +kernel
theorem dX8_joined_95 : decode cX8_joined 95 = .ok (.iload_n 1, 1) := by decide +kernel
theorem dX8_joined_96 : decode cX8_joined 96 = .ok (.iaload, 1) := by decide +kernel
theorem dX8_joined_97 : decode cX8_joined 97 = .ok (.aload_n 0, 1) := by decide +kernel
theorem dX8_joined_98 : decode cX8_joined 98 = .ok (.getfield 71, 3) := by decide +kernel
theorem dX8_joined_101 : decode cX8_joined 101 = .ok (.iload_n 2, 1) := by decide +kernel
theorem dX8_joined_102 : decode cX8_joined 102 = .ok (.iaload, 1) := by decide +kernel
theorem dX8_joined_103 : decode cX8_joined 103 = .ok (.ior, 1) := by decide +kernel
theorem dX8_joined_104 : decode cX8_joined 104 = .ok (.iastore, 1) := by decide +kernel
theorem dX8_joined_105 : decode cX8_joined 105 = .ok (.aload_n 0, 1) := by decide +kernel
theorem dX8_joined_106 : decode cX8_joined 106 = .ok (.getfield 74, 3) := by decide +kernel
theorem dX8_joined_109 : decode cX8_joined 109 = .ok (.aload_n 0, 1) := by decide +kernel
theorem dX8_joined_110 : decode cX8_joined 110 = .ok (.getfield 107, 3) := by decide +kernel
theorem dX8_joined_113 : decode cX8_joined 113 = .ok (.aload_n 0, 1) := by decide +kernel
theorem dX8_joined_114 : decode cX8_joined 114 = .ok (.getfield 147, 3) := by decide +kernel
theorem dX8_joined_117 : decode cX8_joined 117 = .ok (.iadd, 1) := by decide +kernel
theorem dX8_joined_118 : decode cX8_joined 118 = .ok (.iconst 1, 1) := by decide +kernel
theorem dX8_joined_119 : decode cX8_joined 119 = .ok (.bastore, 1) := by decide +kernel
theorem dX8_joined_120 : decode cX8_joined 120 = .ok (.aload_n 0, 1) := by decide +kernel
theorem dX8_joined_121 : decode cX8_joined 121 = .ok (.getfield 33, 3) := by decide +kernel
theorem dX8_joined_124 : decode cX8_joined 124 = .ok (.aload_n 0, 1) := by decide +kernel
theorem dX8_joined_125 : decode cX8_joined 125 = .ok (.getfield 147, 3) := by decide +kernel
theorem dX8_joined_128 : decode cX8_joined 128 = .ok (.aload_n 0, 1) := by decide +kernel
theorem dX8_joined_129 : decode cX8_joined 129 = .ok (.getfield 71, 3) := by decide +kernel
theorem dX8_joined_132 : decode cX8_joined 132 = .ok (.aload_n 0, 1) := by decide +kernel
theorem dX8_joined_133 : decode cX8_joined 133 = .ok (.getfield 107, 3) := by decide +kernel
theorem dX8_joined_136 : decode cX8_joined 136 = .ok (.aload_n 0, 1) := by decide +kernel
theorem dX8_joined_137 : decode cX8_joined 137 = .ok (.getfield 147, 3) := by decide +kernel
theorem dX8_joined_140 : decode cX8_joined 140 = .ok (.iadd, 1) := by decide +kernel
theorem dX8_joined_141 : decode cX8_joined 141 = .ok (.iaload, 1) := by decide +kernel
theorem dX8_joined_142 : decode cX8_joined 142 = .ok (.iastore, 1) := by decide +kernel
theorem dX8_joined_143 : decode cX8_joined 143 = .ok (.aload_n 0, 1) := by decide +kernel
theorem dX8_joined_144 : decode cX8_joined 144 = .ok (.dup, 1) := by decide +kernel
theorem dX8_joined_145 : decode cX8_joined 145 = .ok (.getfield 147, 3) := by decide +kernel
theorem dX8_joined_148 : decode cX8_joined 148 = .ok (.iconst 1, 1) := by decide +kernel
theorem dX8_joined_149 : decode cX8_joined 149 = .ok (.iadd, 1) := by decide +kernel
theorem dX8_joined_150 : decode cX8_joined 150 = .ok (.putfield 147, 3) := by decide +kernel
theorem dX8_joined_153 : decode cX8_joined 153 = .ok (.return_, 1) := by decide +kernel
theorem dX8_compare_0 : decode cX8_compare 0 = .ok (.lload_n 0, 1) := by decide +kernel
theorem dX8_compare_1 : decode cX8_compare 1 = .ok (.lload 6, 2) := by decide +kernel
theorem dX8_compare_3 : decode cX8_compare 3 = .ok (.lmul, 1) := by decide +kernel
theorem dX8_compare_4 : decode cX8_compare 4 = .ok (.lload 4, 2) := by decide +kernel
theorem dX8_compare_6 : decode cX8_compare 6 = .ok (.lload_n 2, 1) := by decide +kernel
theorem dX8_compare_7 : decode cX8_compare 7 = .ok (.lmul, 1) := by decide +kernel
theorem dX8_compare_8 : decode cX8_compare 8 = .ok (.lsub, 1) := by decide +kernel
theorem dX8_compare_9 : decode cX8_compare 9 = .ok (.lstore 8, 2) := by decide +kernel
theorem dX8_compare_11 : decode cX8_compare 11 = .ok (.lload 8, 2) := by decide +kernel
theorem dX8_compare_13 : decode cX8_compare 13 = .ok (.lconst 0, 1) := by decide +kernel
theorem dX8_compare_14 : decode cX8_compare 14 = .ok (.lcmp, 1) := by decide +kernel
theorem dX8_compare_15 : decode cX8_compare 15 = .ok (.ifCond .ge 7, 3) := by decide +kernel
theorem dX8_compare_18 : decode cX8_compare 18 = .ok (.iconst (-1), 1) := by decide +kernel
theorem dX8_compare_19 : decode cX8_compare 19 = .ok (.goto 15, 3) := by decide +kernel
theorem dX8_compare_22 : decode cX8_compare 22 = .ok (.lload 8, 2) := by decide +kernel
theorem dX8_compare_24 : decode cX8_compare 24 = .ok (.lconst 0, 1) := by decide +kernel
theorem dX8_compare_25 : decode cX8_compare 25 = .ok (.lcmp, 1) := by decide +kernel
theorem dX8_compare_26 : decode cX8_compare 26 = .ok (.ifCond .le 7, 3) := by decide +kernel
theorem dX8_compare_29 : decode cX8_compare 29 = .ok (.iconst 1, 1) := by decide +kernel
theorem dX8_compare_30 : decode cX8_compare 30 = .ok (.goto 4, 3) := by decide +kernel
theorem dX8_compare_33 : decode cX8_compare 33 = .ok (.iconst 0, 1) := by decide +kernel
theorem dX8_compare_34 : decode cX8_compare 34 = .ok (.ireturn, 1) := by decide +kernel
theorem dX8_greedyStep_0 : decode cX8_greedyStep 0 = .ok (.iconst (-1), 1) := by decide +kernel
theorem dX8_greedyStep_1 : decode cX8_greedyStep 1 = .ok (.istore_n 2, 1) := by decide +kernel
theorem dX8_greedyStep_2 : decode cX8_greedyStep 2 = .ok (.iconst (-1), 1) := by decide +kernel
theorem dX8_greedyStep_3 : decode cX8_greedyStep 3 = .ok (.istore_n 3, 1) := by decide +kernel
theorem dX8_greedyStep_4 : decode cX8_greedyStep 4 = .ok (.lconst 0, 1) := by decide +kernel
theorem dX8_greedyStep_5 : decode cX8_greedyStep 5 = .ok (.lstore 4, 2) := by decide +kernel
theorem dX8_greedyStep_7 : decode cX8_greedyStep 7 = .ok (.lconst 1, 1) := by decide +kernel
theorem dX8_greedyStep_8 : decode cX8_greedyStep 8 = .ok (.lstore 6, 2) := by decide +kernel
theorem dX8_greedyStep_10 : decode cX8_greedyStep 10 = .ok (.iconst 0, 1) := by decide +kernel
theorem dX8_greedyStep_11 : decode cX8_greedyStep 11 = .ok (.istore 8, 2) := by decide +kernel
theorem dX8_greedyStep_13 : decode cX8_greedyStep 13 = .ok (.iconst 0, 1) := by decide +kernel
theorem dX8_greedyStep_14 : decode cX8_greedyStep 14 = .ok (.istore 9, 2) := by decide +kernel
theorem dX8_greedyStep_16 : decode cX8_greedyStep 16 = .ok (.iload 9, 2) := by decide +kernel
theorem dX8_greedyStep_18 : decode cX8_greedyStep 18 = .ok (.aload_n 0, 1) := by decide +kernel
theorem dX8_greedyStep_19 : decode cX8_greedyStep 19 = .ok (.getfield 107, 3) := by decide +kernel
theorem dX8_greedyStep_22 : decode cX8_greedyStep 22 = .ok (.aload_n 0, 1) := by decide +kernel
theorem dX8_greedyStep_23 : decode cX8_greedyStep 23 = .ok (.getfield 147, 3) := by decide +kernel
theorem dX8_greedyStep_26 : decode cX8_greedyStep 26 = .ok (.iadd, 1) := by decide +kernel
theorem dX8_greedyStep_27 : decode cX8_greedyStep 27 = .ok (.if_icmp .ge 139, 3) := by decide +kernel
theorem dX8_greedyStep_30 : decode cX8_greedyStep 30 = .ok (.iload 9, 2) := by decide +kernel
theorem dX8_greedyStep_32 : decode cX8_greedyStep 32 = .ok (.iconst 1, 1) := by decide +kernel
theorem dX8_greedyStep_33 : decode cX8_greedyStep 33 = .ok (.iadd, 1) := by decide +kernel
theorem dX8_greedyStep_34 : decode cX8_greedyStep 34 = .ok (.istore 10, 2) := by decide +kernel
theorem dX8_greedyStep_36 : decode cX8_greedyStep 36 = .ok (.iload 10, 2) := by decide +kernel
theorem dX8_greedyStep_38 : decode cX8_greedyStep 38 = .ok (.aload_n 0, 1) := by decide +kernel
theorem dX8_greedyStep_39 : decode cX8_greedyStep 39 = .ok (.getfield 107, 3) := by decide +kernel
theorem dX8_greedyStep_42 : decode cX8_greedyStep 42 = .ok (.aload_n 0, 1) := by decide +kernel
theorem dX8_greedyStep_43 : decode cX8_greedyStep 43 = .ok (.getfield 147, 3) := by decide +kernel
theorem dX8_greedyStep_46 : decode cX8_greedyStep 46 = .ok (.iadd, 1) := by decide +kernel
theorem dX8_greedyStep_47 : decode cX8_greedyStep 47 = .ok (.if_icmp .ge 113, 3) := by decide +kernel
theorem dX8_greedyStep_50 : decode cX8_greedyStep 50 = .ok (.aload_n 0, 1) := by decide +kernel
theorem dX8_greedyStep_51 : decode cX8_greedyStep 51 = .ok (.getfield 74, 3) := by decide +kernel
theorem dX8_greedyStep_54 : decode cX8_greedyStep 54 = .ok (.iload 9, 2) := by decide +kernel
theorem dX8_greedyStep_56 : decode cX8_greedyStep 56 = .ok (.baload, 1) := by decide +kernel
theorem dX8_greedyStep_57 : decode cX8_greedyStep 57 = .ok (.ifCond .eq 97, 3) := by decide +kernel
theorem dX8_greedyStep_60 : decode cX8_greedyStep 60 = .ok (.aload_n 0, 1) := by decide +kernel
theorem dX8_greedyStep_61 : decode cX8_greedyStep 61 = .ok (.getfield 74, 3) := by decide +kernel
theorem dX8_greedyStep_64 : decode cX8_greedyStep 64 = .ok (.iload 10, 2) := by decide +kernel
theorem dX8_greedyStep_66 : decode cX8_greedyStep 66 = .ok (.baload, 1) := by decide +kernel
theorem dX8_greedyStep_67 : decode cX8_greedyStep 67 = .ok (.ifCond .ne 6, 3) := by decide +kernel
theorem dX8_greedyStep_70 : decode cX8_greedyStep 70 = .ok (.goto 84, 3) := by decide +kernel
theorem dX8_greedyStep_73 : decode cX8_greedyStep 73 = .ok (.aload_n 0, 1) := by decide +kernel
theorem dX8_greedyStep_74 : decode cX8_greedyStep 74 = .ok (.iload_n 1, 1) := by decide +kernel
theorem dX8_greedyStep_75 : decode cX8_greedyStep 75 = .ok (.aload_n 0, 1) := by decide +kernel
theorem dX8_greedyStep_76 : decode cX8_greedyStep 76 = .ok (.getfield 71, 3) := by decide +kernel
theorem dX8_greedyStep_79 : decode cX8_greedyStep 79 = .ok (.iload 9, 2) := by decide +kernel
theorem dX8_greedyStep_81 : decode cX8_greedyStep 81 = .ok (.iaload, 1) := by decide +kernel
theorem dX8_greedyStep_82 : decode cX8_greedyStep 82 = .ok (.aload_n 0, 1) := by decide +kernel
theorem dX8_greedyStep_83 : decode cX8_greedyStep 83 = .ok (.getfield 71, 3) := by decide +kernel
theorem dX8_greedyStep_86 : decode cX8_greedyStep 86 = .ok (.iload 10, 2) := by decide +kernel
theorem dX8_greedyStep_88 : decode cX8_greedyStep 88 = .ok (.iaload, 1) := by decide +kernel
theorem dX8_greedyStep_89 : decode cX8_greedyStep 89 = .ok (.invokevirtual 185, 3) := by decide +kernel
theorem dX8_greedyStep_92 : decode cX8_greedyStep 92 = .ok (.iload_n 2, 1) := by decide +kernel
theorem dX8_greedyStep_93 : decode cX8_greedyStep 93 = .ok (.ifCond .ge 7, 3) := by decide +kernel
theorem dX8_greedyStep_96 : decode cX8_greedyStep 96 = .ok (.iconst (-1), 1) := by decide +kernel
theorem dX8_greedyStep_97 : decode cX8_greedyStep 97 = .ok (.goto 18, 3) := by decide +kernel
theorem dX8_greedyStep_100 : decode cX8_greedyStep 100 = .ok (.aload_n 0, 1) := by decide +kernel
theorem dX8_greedyStep_101 : decode cX8_greedyStep 101 = .ok (.getfield 154, 3) := by decide +kernel
theorem dX8_greedyStep_104 : decode cX8_greedyStep 104 = .ok (.aload_n 0, 1) := by decide +kernel
theorem dX8_greedyStep_105 : decode cX8_greedyStep 105 = .ok (.getfield 158, 3) := by decide +kernel
theorem dX8_greedyStep_108 : decode cX8_greedyStep 108 = .ok (.lload 4, 2) := by decide +kernel
theorem dX8_greedyStep_110 : decode cX8_greedyStep 110 = .ok (.lload 6, 2) := by decide +kernel
theorem dX8_greedyStep_112 : decode cX8_greedyStep 112 = .ok (.invokestatic 191, 3) := by decide +kernel
theorem dX8_greedyStep_115 : decode cX8_greedyStep 115 = .ok (.istore 11, 2) := by decide +kernel
theorem dX8_greedyStep_117 : decode cX8_greedyStep 117 = .ok (.iload 11, 2) := by decide +kernel
theorem dX8_greedyStep_119 : decode cX8_greedyStep 119 = .ok (.ifCond .ne 6, 3) := by decide +kernel
theorem dX8_greedyStep_122 : decode cX8_greedyStep 122 = .ok (.iconst 1, 1) := by decide +kernel
theorem dX8_greedyStep_123 : decode cX8_greedyStep 123 = .ok (.istore 8, 2) := by decide +kernel
theorem dX8_greedyStep_125 : decode cX8_greedyStep 125 = .ok (.iload 11, 2) := by decide +kernel
theorem dX8_greedyStep_127 : decode cX8_greedyStep 127 = .ok (.ifCond .lt 6, 3) := by decide +kernel
theorem dX8_greedyStep_130 : decode cX8_greedyStep 130 = .ok (.goto 24, 3) := by decide +kernel
theorem dX8_greedyStep_133 : decode cX8_greedyStep 133 = .ok (.iconst 0, 1) := by decide +kernel
theorem dX8_greedyStep_134 : decode cX8_greedyStep 134 = .ok (.istore 8, 2) := by decide +kernel
theorem dX8_greedyStep_136 : decode cX8_greedyStep 136 = .ok (.iload 9, 2) := by decide +kernel
theorem dX8_greedyStep_138 : decode cX8_greedyStep 138 = .ok (.istore_n 2, 1) := by decide +kernel
theorem dX8_greedyStep_139 : decode cX8_greedyStep 139 = .ok (.iload 10, 2) := by decide +kernel
theorem dX8_greedyStep_141 : decode cX8_greedyStep 141 = .ok (.istore_n 3, 1) := by decide +kernel
theorem dX8_greedyStep_142 : decode cX8_greedyStep 142 = .ok (.aload_n 0, 1) := by decide +kernel
theorem dX8_greedyStep_143 : decode cX8_greedyStep 143 = .ok (.getfield 154, 3) := by decide +kernel
theorem dX8_greedyStep_146 : decode cX8_greedyStep 146 = .ok (.lstore 4, 2) := by decide +kernel
theorem dX8_greedyStep_148 : decode cX8_greedyStep 148 = .ok (.aload_n 0, 1) := by decide +kernel
theorem dX8_greedyStep_149 : decode cX8_greedyStep 149 = .ok (.getfield 158, 3) := by decide +kernel
theorem dX8_greedyStep_152 : decode cX8_greedyStep 152 = .ok (.lstore 6, 2) := by decide +kernel
theorem dX8_greedyStep_154 : decode cX8_greedyStep 154 = .ok (.iinc 10 1, 3) := by decide +kernel
theorem dX8_greedyStep_157 : decode cX8_greedyStep 157 = .ok (.goto (-121), 3) := by decide +kernel
theorem dX8_greedyStep_160 : decode cX8_greedyStep 160 = .ok (.iinc 9 1, 3) := by decide +kernel
theorem dX8_greedyStep_163 : decode cX8_greedyStep 163 = .ok (.goto (-147), 3) := by decide +kernel
theorem dX8_greedyStep_166 : decode cX8_greedyStep 166 = .ok (.aload_n 0, 1) := by decide +kernel
theorem dX8_greedyStep_167 : decode cX8_greedyStep 167 = .ok (.dup, 1) := by decide +kernel
theorem dX8_greedyStep_168 : decode cX8_greedyStep 168 = .ok (.getfield 188, 3) := by decide +kernel
theorem dX8_greedyStep_171 : decode cX8_greedyStep 171 = .ok (.iload 8, 2) := by decide +kernel
theorem dX8_greedyStep_173 : decode cX8_greedyStep 173 = .ok (.ifCond .eq 7, 3) := by decide +kernel
theorem dX8_greedyStep_176 : decode cX8_greedyStep 176 = .ok (.iconst 1, 1) := by decide +kernel
theorem dX8_greedyStep_177 : decode cX8_greedyStep 177 = .ok (.goto 4, 3) := by decide +kernel
theorem dX8_greedyStep_180 : decode cX8_greedyStep 180 = .ok (.iconst 0, 1) := by decide +kernel
theorem dX8_greedyStep_181 : decode cX8_greedyStep 181 = .ok (.iadd, 1) := by decide +kernel
theorem dX8_greedyStep_182 : decode cX8_greedyStep 182 = .ok (.putfield 188, 3) := by decide +kernel
theorem dX8_greedyStep_185 : decode cX8_greedyStep 185 = .ok (.aload_n 0, 1) := by decide +kernel
theorem dX8_greedyStep_186 : decode cX8_greedyStep 186 = .ok (.lload 4, 2) := by decide +kernel
theorem dX8_greedyStep_188 : decode cX8_greedyStep 188 = .ok (.putfield 154, 3) := by decide +kernel
theorem dX8_greedyStep_191 : decode cX8_greedyStep 191 = .ok (.aload_n 0, 1) := by decide +kernel
theorem dX8_greedyStep_192 : decode cX8_greedyStep 192 = .ok (.lload 6, 2) := by decide +kernel
theorem dX8_greedyStep_194 : decode cX8_greedyStep 194 = .ok (.putfield 158, 3) := by decide +kernel
theorem dX8_greedyStep_197 : decode cX8_greedyStep 197 = .ok (.aload_n 0, 1) := by decide +kernel
theorem dX8_greedyStep_198 : decode cX8_greedyStep 198 = .ok (.iload_n 2, 1) := by decide +kernel
theorem dX8_greedyStep_199 : decode cX8_greedyStep 199 = .ok (.iload_n 3, 1) := by decide +kernel
theorem dX8_greedyStep_200 : decode cX8_greedyStep 200 = .ok (.invokevirtual 195, 3) := by decide +kernel
theorem dX8_greedyStep_203 : decode cX8_greedyStep 203 = .ok (.return_, 1) := by decide +kernel
theorem dX8_chainStep_0 : decode cX8_chainStep 0 = .ok (.aload_n 0, 1) := by decide +kernel
theorem dX8_chainStep_1 : decode cX8_chainStep 1 = .ok (.getfield 199, 3) := by decide +kernel
theorem dX8_chainStep_4 : decode cX8_chainStep 4 = .ok (.ifCond .ne 32, 3) := by decide +kernel
theorem dX8_chainStep_7 : decode cX8_chainStep 7 = .ok (.iconst 0, 1) := by decide +kernel
theorem dX8_chainStep_8 : decode cX8_chainStep 8 = .ok (.istore_n 2, 1) := by decide +kernel
theorem dX8_chainStep_9 : decode cX8_chainStep 9 = .ok (.aload_n 0, 1) := by decide +kernel
theorem dX8_chainStep_10 : decode cX8_chainStep 10 = .ok (.getfield 74, 3) := by decide +kernel
theorem dX8_chainStep_13 : decode cX8_chainStep 13 = .ok (.iload_n 2, 1) := by decide +kernel
theorem dX8_chainStep_14 : decode cX8_chainStep 14 = .ok (.baload, 1) := by decide +kernel
theorem dX8_chainStep_15 : decode cX8_chainStep 15 = .ok (.ifCond .ne 9, 3) := by decide +kernel
theorem dX8_chainStep_18 : decode cX8_chainStep 18 = .ok (.iinc 2 1, 3) := by decide +kernel
theorem dX8_chainStep_21 : decode cX8_chainStep 21 = .ok (.goto (-12), 3) := by decide +kernel
theorem dX8_chainStep_24 : decode cX8_chainStep 24 = .ok (.aload_n 0, 1) := by decide +kernel
theorem dX8_chainStep_25 : decode cX8_chainStep 25 = .ok (.getfield 89, 3) := by decide +kernel
theorem dX8_chainStep_28 : decode cX8_chainStep 28 = .ok (.iconst 0, 1) := by decide +kernel
theorem dX8_chainStep_29 : decode cX8_chainStep 29 = .ok (.iload_n 2, 1) := by decide +kernel
theorem dX8_chainStep_30 : decode cX8_chainStep 30 = .ok (.iastore, 1) := by decide +kernel
theorem dX8_chainStep_31 : decode cX8_chainStep 31 = .ok (.aload_n 0, 1) := by decide +kernel
theorem dX8_chainStep_32 : decode cX8_chainStep 32 = .ok (.iconst 1, 1) := by decide +kernel
theorem dX8_chainStep_33 : decode cX8_chainStep 33 = .ok (.putfield 199, 3) := by decide +kernel
theorem dX8_chainStep_36 : decode cX8_chainStep 36 = .ok (.aload_n 0, 1) := by decide +kernel
theorem dX8_chainStep_37 : decode cX8_chainStep 37 = .ok (.getfield 89, 3) := by decide +kernel
theorem dX8_chainStep_40 : decode cX8_chainStep 40 = .ok (.aload_n 0, 1) := by decide +kernel
theorem dX8_chainStep_41 : decode cX8_chainStep 41 = .ok (.getfield 199, 3) := by decide +kernel
theorem dX8_chainStep_44 : decode cX8_chainStep 44 = .ok (.iconst 1, 1) := by decide +kernel
theorem dX8_chainStep_45 : decode cX8_chainStep 45 = .ok (.isub, 1) := by decide +kernel
theorem dX8_chainStep_46 : decode cX8_chainStep 46 = .ok (.iaload, 1) := by decide +kernel
theorem dX8_chainStep_47 : decode cX8_chainStep 47 = .ok (.istore_n 2, 1) := by decide +kernel
theorem dX8_chainStep_48 : decode cX8_chainStep 48 = .ok (.aload_n 0, 1) := by decide +kernel
theorem dX8_chainStep_49 : decode cX8_chainStep 49 = .ok (.getfield 199, 3) := by decide +kernel
theorem dX8_chainStep_52 : decode cX8_chainStep 52 = .ok (.iconst 1, 1) := by decide +kernel
theorem dX8_chainStep_53 : decode cX8_chainStep 53 = .ok (.if_icmp .le 17, 3) := by decide +kernel
theorem dX8_chainStep_56 : decode cX8_chainStep 56 = .ok (.aload_n 0, 1) := by decide +kernel
theorem dX8_chainStep_57 : decode cX8_chainStep 57 = .ok (.getfield 89, 3) := by decide +kernel
theorem dX8_chainStep_60 : decode cX8_chainStep 60 = .ok (.aload_n 0, 1) := by decide +kernel
theorem dX8_chainStep_61 : decode cX8_chainStep 61 = .ok (.getfield 199, 3) := by decide +kernel
theorem dX8_chainStep_64 : decode cX8_chainStep 64 = .ok (.iconst 2, 1) := by decide +kernel
theorem dX8_chainStep_65 : decode cX8_chainStep 65 = .ok (.isub, 1) := by decide +kernel
theorem dX8_chainStep_66 : decode cX8_chainStep 66 = .ok (.iaload, 1) := by decide +kernel
theorem dX8_chainStep_67 : decode cX8_chainStep 67 = .ok (.goto 4, 3) := by decide +kernel
theorem dX8_chainStep_70 : decode cX8_chainStep 70 = .ok (.iconst (-1), 1) := by decide +kernel
theorem dX8_chainStep_71 : decode cX8_chainStep 71 = .ok (.istore_n 3, 1) := by decide +kernel
theorem dX8_chainStep_72 : decode cX8_chainStep 72 = .ok (.iconst (-1), 1) := by decide +kernel
theorem dX8_chainStep_73 : decode cX8_chainStep 73 = .ok (.istore 4, 2) := by decide +kernel
theorem dX8_chainStep_75 : decode cX8_chainStep 75 = .ok (.lconst 0, 1) := by decide +kernel
theorem dX8_chainStep_76 : decode cX8_chainStep 76 = .ok (.lstore 5, 2) := by decide +kernel
theorem dX8_chainStep_78 : decode cX8_chainStep 78 = .ok (.lconst 1, 1) := by decide +kernel
theorem dX8_chainStep_79 : decode cX8_chainStep 79 = .ok (.lstore 7, 2) := by decide +kernel
theorem dX8_chainStep_81 : decode cX8_chainStep 81 = .ok (.iconst 0, 1) := by decide +kernel
theorem dX8_chainStep_82 : decode cX8_chainStep 82 = .ok (.istore 9, 2) := by decide +kernel
theorem dX8_chainStep_84 : decode cX8_chainStep 84 = .ok (.iconst 0, 1) := by decide +kernel
theorem dX8_chainStep_85 : decode cX8_chainStep 85 = .ok (.istore 10, 2) := by decide +kernel
theorem dX8_chainStep_87 : decode cX8_chainStep 87 = .ok (.iload 10, 2) := by decide +kernel
theorem dX8_chainStep_89 : decode cX8_chainStep 89 = .ok (.aload_n 0, 1) := by decide +kernel
theorem dX8_chainStep_90 : decode cX8_chainStep 90 = .ok (.getfield 107, 3) := by decide +kernel
theorem dX8_chainStep_93 : decode cX8_chainStep 93 = .ok (.aload_n 0, 1) := by decide +kernel
theorem dX8_chainStep_94 : decode cX8_chainStep 94 = .ok (.getfield 147, 3) := by decide +kernel
theorem dX8_chainStep_97 : decode cX8_chainStep 97 = .ok (.iadd, 1) := by decide +kernel
theorem dX8_chainStep_98 : decode cX8_chainStep 98 = .ok (.if_icmp .ge 117, 3) := by decide +kernel
theorem dX8_chainStep_101 : decode cX8_chainStep 101 = .ok (.aload_n 0, 1) := by decide +kernel
theorem dX8_chainStep_102 : decode cX8_chainStep 102 = .ok (.getfield 74, 3) := by decide +kernel
theorem dX8_chainStep_105 : decode cX8_chainStep 105 = .ok (.iload 10, 2) := by decide +kernel
theorem dX8_chainStep_107 : decode cX8_chainStep 107 = .ok (.baload, 1) := by decide +kernel
theorem dX8_chainStep_108 : decode cX8_chainStep 108 = .ok (.ifCond .eq 101, 3) := by decide +kernel
theorem dX8_chainStep_111 : decode cX8_chainStep 111 = .ok (.iload 10, 2) := by decide +kernel
theorem dX8_chainStep_113 : decode cX8_chainStep 113 = .ok (.iload_n 2, 1) := by decide +kernel
theorem dX8_chainStep_114 : decode cX8_chainStep 114 = .ok (.if_icmp .ne 6, 3) := by decide +kernel
theorem dX8_chainStep_117 : decode cX8_chainStep 117 = .ok (.goto 92, 3) := by decide +kernel
theorem dX8_chainStep_120 : decode cX8_chainStep 120 = .ok (.aload_n 0, 1) := by decide +kernel
theorem dX8_chainStep_121 : decode cX8_chainStep 121 = .ok (.iload_n 1, 1) := by decide +kernel
theorem dX8_chainStep_122 : decode cX8_chainStep 122 = .ok (.aload_n 0, 1) := by decide +kernel
theorem dX8_chainStep_123 : decode cX8_chainStep 123 = .ok (.getfield 71, 3) := by decide +kernel
theorem dX8_chainStep_126 : decode cX8_chainStep 126 = .ok (.iload_n 2, 1) := by decide +kernel
theorem dX8_chainStep_127 : decode cX8_chainStep 127 = .ok (.iaload, 1) := by decide +kernel
theorem dX8_chainStep_128 : decode cX8_chainStep 128 = .ok (.aload_n 0, 1) := by decide +kernel
theorem dX8_chainStep_129 : decode cX8_chainStep 129 = .ok (.getfield 71, 3) := by decide +kernel
theorem dX8_chainStep_132 : decode cX8_chainStep 132 = .ok (.iload 10, 2) := by decide +kernel
theorem dX8_chainStep_134 : decode cX8_chainStep 134 = .ok (.iaload, 1) := by decide +kernel
theorem dX8_chainStep_135 : decode cX8_chainStep 135 = .ok (.invokevirtual 185, 3) := by decide +kernel
theorem dX8_chainStep_138 : decode cX8_chainStep 138 = .ok (.iload 4, 2) := by decide +kernel
theorem dX8_chainStep_140 : decode cX8_chainStep 140 = .ok (.ifCond .ge 7, 3) := by decide +kernel
theorem dX8_chainStep_143 : decode cX8_chainStep 143 = .ok (.iconst (-1), 1) := by decide +kernel
theorem dX8_chainStep_144 : decode cX8_chainStep 144 = .ok (.goto 18, 3) := by decide +kernel
theorem dX8_chainStep_147 : decode cX8_chainStep 147 = .ok (.aload_n 0, 1) := by decide +kernel
theorem dX8_chainStep_148 : decode cX8_chainStep 148 = .ok (.getfield 154, 3) := by decide +kernel
theorem dX8_chainStep_151 : decode cX8_chainStep 151 = .ok (.aload_n 0, 1) := by decide +kernel
theorem dX8_chainStep_152 : decode cX8_chainStep 152 = .ok (.getfield 158, 3) := by decide +kernel
theorem dX8_chainStep_155 : decode cX8_chainStep 155 = .ok (.lload 5, 2) := by decide +kernel
theorem dX8_chainStep_157 : decode cX8_chainStep 157 = .ok (.lload 7, 2) := by decide +kernel
theorem dX8_chainStep_159 : decode cX8_chainStep 159 = .ok (.invokestatic 191, 3) := by decide +kernel
theorem dX8_chainStep_162 : decode cX8_chainStep 162 = .ok (.istore 11, 2) := by decide +kernel
theorem dX8_chainStep_164 : decode cX8_chainStep 164 = .ok (.iload 11, 2) := by decide +kernel
theorem dX8_chainStep_166 : decode cX8_chainStep 166 = .ok (.ifCond .ne 16, 3) := by decide +kernel
theorem dX8_chainStep_169 : decode cX8_chainStep 169 = .ok (.iconst 1, 1) := by decide +kernel
theorem dX8_chainStep_170 : decode cX8_chainStep 170 = .ok (.istore 9, 2) := by decide +kernel
theorem dX8_chainStep_172 : decode cX8_chainStep 172 = .ok (.iload 10, 2) := by decide +kernel
theorem dX8_chainStep_174 : decode cX8_chainStep 174 = .ok (.iload_n 3, 1) := by decide +kernel
theorem dX8_chainStep_175 : decode cX8_chainStep 175 = .ok (.if_icmp .ne 7, 3) := by decide +kernel
theorem dX8_chainStep_178 : decode cX8_chainStep 178 = .ok (.iload 10, 2) := by decide +kernel
theorem dX8_chainStep_180 : decode cX8_chainStep 180 = .ok (.istore 4, 2) := by decide +kernel
theorem dX8_chainStep_182 : decode cX8_chainStep 182 = .ok (.iload 11, 2) := by decide +kernel
theorem dX8_chainStep_184 : decode cX8_chainStep 184 = .ok (.ifCond .lt 6, 3) := by decide +kernel
theorem dX8_chainStep_187 : decode cX8_chainStep 187 = .ok (.goto 22, 3) := by decide +kernel
theorem dX8_chainStep_190 : decode cX8_chainStep 190 = .ok (.iconst 0, 1) := by decide +kernel
theorem dX8_chainStep_191 : decode cX8_chainStep 191 = .ok (.istore 9, 2) := by decide +kernel
theorem dX8_chainStep_193 : decode cX8_chainStep 193 = .ok (.iload 10, 2) := by decide +kernel
theorem dX8_chainStep_195 : decode cX8_chainStep 195 = .ok (.istore 4, 2) := by decide +kernel
theorem dX8_chainStep_197 : decode cX8_chainStep 197 = .ok (.aload_n 0, 1) := by decide +kernel
theorem dX8_chainStep_198 : decode cX8_chainStep 198 = .ok (.getfield 154, 3) := by decide +kernel
theorem dX8_chainStep_201 : decode cX8_chainStep 201 = .ok (.lstore 5, 2) := by decide +kernel
theorem dX8_chainStep_203 : decode cX8_chainStep 203 = .ok (.aload_n 0, 1) := by decide +kernel
theorem dX8_chainStep_204 : decode cX8_chainStep 204 = .ok (.getfield 158, 3) := by decide +kernel
theorem dX8_chainStep_207 : decode cX8_chainStep 207 = .ok (.lstore 7, 2) := by decide +kernel
theorem dX8_chainStep_209 : decode cX8_chainStep 209 = .ok (.iinc 10 1, 3) := by decide +kernel
theorem dX8_chainStep_212 : decode cX8_chainStep 212 = .ok (.goto (-125), 3) := by decide +kernel
theorem dX8_chainStep_215 : decode cX8_chainStep 215 = .ok (.aload_n 0, 1) := by decide +kernel
theorem dX8_chainStep_216 : decode cX8_chainStep 216 = .ok (.dup, 1) := by decide +kernel
theorem dX8_chainStep_217 : decode cX8_chainStep 217 = .ok (.getfield 188, 3) := by decide +kernel
theorem dX8_chainStep_220 : decode cX8_chainStep 220 = .ok (.iload 9, 2) := by decide +kernel
theorem dX8_chainStep_222 : decode cX8_chainStep 222 = .ok (.ifCond .eq 7, 3) := by decide +kernel
theorem dX8_chainStep_225 : decode cX8_chainStep 225 = .ok (.iconst 1, 1) := by decide +kernel
theorem dX8_chainStep_226 : decode cX8_chainStep 226 = .ok (.goto 4, 3) := by decide +kernel
theorem dX8_chainStep_229 : decode cX8_chainStep 229 = .ok (.iconst 0, 1) := by decide +kernel
theorem dX8_chainStep_230 : decode cX8_chainStep 230 = .ok (.iadd, 1) := by decide +kernel
theorem dX8_chainStep_231 : decode cX8_chainStep 231 = .ok (.putfield 188, 3) := by decide +kernel
theorem dX8_chainStep_234 : decode cX8_chainStep 234 = .ok (.iload 4, 2) := by decide +kernel
theorem dX8_chainStep_236 : decode cX8_chainStep 236 = .ok (.iload_n 3, 1) := by decide +kernel
theorem dX8_chainStep_237 : decode cX8_chainStep 237 = .ok (.if_icmp .ne 35, 3) := by decide +kernel
theorem dX8_chainStep_240 : decode cX8_chainStep 240 = .ok (.aload_n 0, 1) := by decide +kernel
theorem dX8_chainStep_241 : decode cX8_chainStep 241 = .ok (.dup, 1) := by decide +kernel
theorem dX8_chainStep_242 : decode cX8_chainStep 242 = .ok (.getfield 199, 3) := by decide +kernel
theorem dX8_chainStep_245 : decode cX8_chainStep 245 = .ok (.iconst 2, 1) := by decide +kernel
theorem dX8_chainStep_246 : decode cX8_chainStep 246 = .ok (.isub, 1) := by decide +kernel
theorem dX8_chainStep_247 : decode cX8_chainStep 247 = .ok (.putfield 199, 3) := by decide +kernel
theorem dX8_chainStep_250 : decode cX8_chainStep 250 = .ok (.aload_n 0, 1) := by decide +kernel
theorem dX8_chainStep_251 : decode cX8_chainStep 251 = .ok (.lload 5, 2) := by decide +kernel
theorem dX8_chainStep_253 : decode cX8_chainStep 253 = .ok (.putfield 154, 3) := by decide +kernel
theorem dX8_chainStep_256 : decode cX8_chainStep 256 = .ok (.aload_n 0, 1) := by decide +kernel
theorem dX8_chainStep_257 : decode cX8_chainStep 257 = .ok (.lload 7, 2) := by decide +kernel
theorem dX8_chainStep_259 : decode cX8_chainStep 259 = .ok (.putfield 158, 3) := by decide +kernel
theorem dX8_chainStep_262 : decode cX8_chainStep 262 = .ok (.aload_n 0, 1) := by decide +kernel
theorem dX8_chainStep_263 : decode cX8_chainStep 263 = .ok (.iload_n 2, 1) := by decide +kernel
theorem dX8_chainStep_264 : decode cX8_chainStep 264 = .ok (.iload 4, 2) := by decide +kernel
theorem dX8_chainStep_266 : decode cX8_chainStep 266 = .ok (.invokevirtual 195, 3) := by decide +kernel
theorem dX8_chainStep_269 : decode cX8_chainStep 269 = .ok (.goto 24, 3) := by decide +kernel
theorem dX8_chainStep_272 : decode cX8_chainStep 272 = .ok (.aload_n 0, 1) := by decide +kernel
theorem dX8_chainStep_273 : decode cX8_chainStep 273 = .ok (.getfield 89, 3) := by decide +kernel
theorem dX8_chainStep_276 : decode cX8_chainStep 276 = .ok (.aload_n 0, 1) := by decide +kernel
theorem dX8_chainStep_277 : decode cX8_chainStep 277 = .ok (.getfield 199, 3) := by decide +kernel
theorem dX8_chainStep_280 : decode cX8_chainStep 280 = .ok (.iload 4, 2) := by decide +kernel
theorem dX8_chainStep_282 : decode cX8_chainStep 282 = .ok (.iastore, 1) := by decide +kernel
theorem dX8_chainStep_283 : decode cX8_chainStep 283 = .ok (.aload_n 0, 1) := by decide +kernel
theorem dX8_chainStep_284 : decode cX8_chainStep 284 = .ok (.dup, 1) := by decide +kernel
theorem dX8_chainStep_285 : decode cX8_chainStep 285 = .ok (.getfield 199, 3) := by decide +kernel
theorem dX8_chainStep_288 : decode cX8_chainStep 288 = .ok (.iconst 1, 1) := by decide +kernel
theorem dX8_chainStep_289 : decode cX8_chainStep 289 = .ok (.iadd, 1) := by decide +kernel
theorem dX8_chainStep_290 : decode cX8_chainStep 290 = .ok (.putfield 199, 3) := by decide +kernel
theorem dX8_chainStep_293 : decode cX8_chainStep 293 = .ok (.return_, 1) := by decide +kernel
theorem dX8_keeps_0 : decode cX8_keeps 0 = .ok (.iconst 0, 1) := by decide +kernel
theorem dX8_keeps_1 : decode cX8_keeps 1 = .ok (.istore 4, 2) := by decide +kernel
theorem dX8_keeps_3 : decode cX8_keeps 3 = .ok (.iload 4, 2) := by decide +kernel
theorem dX8_keeps_5 : decode cX8_keeps 5 = .ok (.aload_n 0, 1) := by decide +kernel
theorem dX8_keeps_6 : decode cX8_keeps 6 = .ok (.getfield 147, 3) := by decide +kernel
theorem dX8_keeps_9 : decode cX8_keeps 9 = .ok (.if_icmp .ge 101, 3) := by decide +kernel
theorem dX8_keeps_12 : decode cX8_keeps 12 = .ok (.iload 4, 2) := by decide +kernel
theorem dX8_keeps_14 : decode cX8_keeps 14 = .ok (.istore 5, 2) := by decide +kernel
theorem dX8_keeps_16 : decode cX8_keeps 16 = .ok (.iload_n 3, 1) := by decide +kernel
theorem dX8_keeps_17 : decode cX8_keeps 17 = .ok (.ifCond .eq 78, 3) := by decide +kernel
theorem dX8_keeps_20 : decode cX8_keeps 20 = .ok (.iload 5, 2) := by decide +kernel
theorem dX8_keeps_22 : decode cX8_keeps 22 = .ok (.ifCond .le 73, 3) := by decide +kernel
theorem dX8_keeps_25 : decode cX8_keeps 25 = .ok (.aload_n 0, 1) := by decide +kernel
theorem dX8_keeps_26 : decode cX8_keeps 26 = .ok (.getfield 83, 3) := by decide +kernel
theorem dX8_keeps_29 : decode cX8_keeps 29 = .ok (.aload_n 0, 1) := by decide +kernel
theorem dX8_keeps_30 : decode cX8_keeps 30 = .ok (.getfield 92, 3) := by decide +kernel
theorem dX8_keeps_33 : decode cX8_keeps 33 = .ok (.iload 5, 2) := by decide +kernel
theorem dX8_keeps_35 : decode cX8_keeps 35 = .ok (.iconst 1, 1) := by decide +kernel
theorem dX8_keeps_36 : decode cX8_keeps 36 = .ok (.isub, 1) := by decide +kernel
theorem dX8_keeps_37 : decode cX8_keeps 37 = .ok (.iaload, 1) := by decide +kernel
theorem dX8_keeps_38 : decode cX8_keeps 38 = .ok (.laload, 1) := by decide +kernel
theorem dX8_keeps_39 : decode cX8_keeps 39 = .ok (.aload_n 0, 1) := by decide +kernel
theorem dX8_keeps_40 : decode cX8_keeps 40 = .ok (.getfield 86, 3) := by decide +kernel
theorem dX8_keeps_43 : decode cX8_keeps 43 = .ok (.aload_n 0, 1) := by decide +kernel
theorem dX8_keeps_44 : decode cX8_keeps 44 = .ok (.getfield 92, 3) := by decide +kernel
theorem dX8_keeps_47 : decode cX8_keeps 47 = .ok (.iload 5, 2) := by decide +kernel
theorem dX8_keeps_49 : decode cX8_keeps 49 = .ok (.iconst 1, 1) := by decide +kernel
theorem dX8_keeps_50 : decode cX8_keeps 50 = .ok (.isub, 1) := by decide +kernel
theorem dX8_keeps_51 : decode cX8_keeps 51 = .ok (.iaload, 1) := by decide +kernel
theorem dX8_keeps_52 : decode cX8_keeps 52 = .ok (.laload, 1) := by decide +kernel
theorem dX8_keeps_53 : decode cX8_keeps 53 = .ok (.aload_n 0, 1) := by decide +kernel
theorem dX8_keeps_54 : decode cX8_keeps 54 = .ok (.getfield 83, 3) := by decide +kernel
theorem dX8_keeps_57 : decode cX8_keeps 57 = .ok (.iload 4, 2) := by decide +kernel
theorem dX8_keeps_59 : decode cX8_keeps 59 = .ok (.laload, 1) := by decide +kernel
theorem dX8_keeps_60 : decode cX8_keeps 60 = .ok (.aload_n 0, 1) := by decide +kernel
theorem dX8_keeps_61 : decode cX8_keeps 61 = .ok (.getfield 86, 3) := by decide +kernel
theorem dX8_keeps_64 : decode cX8_keeps 64 = .ok (.iload 4, 2) := by decide +kernel
theorem dX8_keeps_66 : decode cX8_keeps 66 = .ok (.laload, 1) := by decide +kernel
theorem dX8_keeps_67 : decode cX8_keeps 67 = .ok (.invokestatic 191, 3) := by decide +kernel
theorem dX8_keeps_70 : decode cX8_keeps 70 = .ok (.ifCond .le 25, 3) := by decide +kernel
theorem dX8_keeps_73 : decode cX8_keeps 73 = .ok (.aload_n 0, 1) := by decide +kernel
theorem dX8_keeps_74 : decode cX8_keeps 74 = .ok (.getfield 92, 3) := by decide +kernel
theorem dX8_keeps_77 : decode cX8_keeps 77 = .ok (.iload 5, 2) := by decide +kernel
theorem dX8_keeps_79 : decode cX8_keeps 79 = .ok (.aload_n 0, 1) := by decide +kernel
theorem dX8_keeps_80 : decode cX8_keeps 80 = .ok (.getfield 92, 3) := by decide +kernel
theorem dX8_keeps_83 : decode cX8_keeps 83 = .ok (.iload 5, 2) := by decide +kernel
theorem dX8_keeps_85 : decode cX8_keeps 85 = .ok (.iconst 1, 1) := by decide +kernel
theorem dX8_keeps_86 : decode cX8_keeps 86 = .ok (.isub, 1) := by decide +kernel
theorem dX8_keeps_87 : decode cX8_keeps 87 = .ok (.iaload, 1) := by decide +kernel
theorem dX8_keeps_88 : decode cX8_keeps 88 = .ok (.iastore, 1) := by decide +kernel
theorem dX8_keeps_89 : decode cX8_keeps 89 = .ok (.iinc 5 (-1), 3) := by decide +kernel
theorem dX8_keeps_92 : decode cX8_keeps 92 = .ok (.goto (-76), 3) := by decide +kernel
theorem dX8_keeps_95 : decode cX8_keeps 95 = .ok (.aload_n 0, 1) := by decide +kernel
theorem dX8_keeps_96 : decode cX8_keeps 96 = .ok (.getfield 92, 3) := by decide +kernel
theorem dX8_keeps_99 : decode cX8_keeps 99 = .ok (.iload 5, 2) := by decide +kernel
theorem dX8_keeps_101 : decode cX8_keeps 101 = .ok (.iload 4, 2) := by decide +kernel
theorem dX8_keeps_103 : decode cX8_keeps 103 = .ok (.iastore, 1) := by decide +kernel
theorem dX8_keeps_104 : decode cX8_keeps 104 = .ok (.iinc 4 1, 3) := by decide +kernel
theorem dX8_keeps_107 : decode cX8_keeps 107 = .ok (.goto (-104), 3) := by decide +kernel
theorem dX8_keeps_110 : decode cX8_keeps 110 = .ok (.iconst 0, 1) := by decide +kernel
theorem dX8_keeps_111 : decode cX8_keeps 111 = .ok (.istore 4, 2) := by decide +kernel
theorem dX8_keeps_113 : decode cX8_keeps 113 = .ok (.iload 4, 2) := by decide +kernel
theorem dX8_keeps_115 : decode cX8_keeps 115 = .ok (.aload_n 0, 1) := by decide +kernel
theorem dX8_keeps_116 : decode cX8_keeps 116 = .ok (.getfield 107, 3) := by decide +kernel
theorem dX8_keeps_119 : decode cX8_keeps 119 = .ok (.if_icmp .ge 18, 3) := by decide +kernel
theorem dX8_keeps_122 : decode cX8_keeps 122 = .ok (.aload_n 0, 1) := by decide +kernel
theorem dX8_keeps_123 : decode cX8_keeps 123 = .ok (.getfield 95, 3) := by decide +kernel
theorem dX8_keeps_126 : decode cX8_keeps 126 = .ok (.iload 4, 2) := by decide +kernel
theorem dX8_keeps_128 : decode cX8_keeps 128 = .ok (.iload 4, 2) := by decide +kernel
theorem dX8_keeps_130 : decode cX8_keeps 130 = .ok (.iastore, 1) := by decide +kernel
theorem dX8_keeps_131 : decode cX8_keeps 131 = .ok (.iinc 4 1, 3) := by decide +kernel
theorem dX8_keeps_134 : decode cX8_keeps 134 = .ok (.goto (-21), 3) := by decide +kernel
theorem dX8_keeps_137 : decode cX8_keeps 137 = .ok (.iconst 0, 1) := by decide +kernel
theorem dX8_keeps_138 : decode cX8_keeps 138 = .ok (.istore 4, 2) := by decide +kernel
theorem dX8_keeps_140 : decode cX8_keeps 140 = .ok (.iload 4, 2) := by decide +kernel
theorem dX8_keeps_142 : decode cX8_keeps 142 = .ok (.aload_n 0, 1) := by decide +kernel
theorem dX8_keeps_143 : decode cX8_keeps 143 = .ok (.getfield 147, 3) := by decide +kernel
theorem dX8_keeps_146 : decode cX8_keeps 146 = .ok (.if_icmp .ge 33, 3) := by decide +kernel
theorem dX8_keeps_149 : decode cX8_keeps 149 = .ok (.aload_n 0, 1) := by decide +kernel
theorem dX8_keeps_150 : decode cX8_keeps 150 = .ok (.getfield 95, 3) := by decide +kernel
theorem dX8_keeps_153 : decode cX8_keeps 153 = .ok (.aload_n 0, 1) := by decide +kernel
theorem dX8_keeps_154 : decode cX8_keeps 154 = .ok (.getfield 107, 3) := by decide +kernel
theorem dX8_keeps_157 : decode cX8_keeps 157 = .ok (.aload_n 0, 1) := by decide +kernel
theorem dX8_keeps_158 : decode cX8_keeps 158 = .ok (.getfield 92, 3) := by decide +kernel
theorem dX8_keeps_161 : decode cX8_keeps 161 = .ok (.iload 4, 2) := by decide +kernel
theorem dX8_keeps_163 : decode cX8_keeps 163 = .ok (.iaload, 1) := by decide +kernel
theorem dX8_keeps_164 : decode cX8_keeps 164 = .ok (.iadd, 1) := by decide +kernel
theorem dX8_keeps_165 : decode cX8_keeps 165 = .ok (.aload_n 0, 1) := by decide +kernel
theorem dX8_keeps_166 : decode cX8_keeps 166 = .ok (.getfield 107, 3) := by decide +kernel
theorem dX8_keeps_169 : decode cX8_keeps 169 = .ok (.iload 4, 2) := by decide +kernel
theorem dX8_keeps_171 : decode cX8_keeps 171 = .ok (.iadd, 1) := by decide +kernel
theorem dX8_keeps_172 : decode cX8_keeps 172 = .ok (.iastore, 1) := by decide +kernel
theorem dX8_keeps_173 : decode cX8_keeps 173 = .ok (.iinc 4 1, 3) := by decide +kernel
theorem dX8_keeps_176 : decode cX8_keeps 176 = .ok (.goto (-36), 3) := by decide +kernel
theorem dX8_keeps_179 : decode cX8_keeps 179 = .ok (.iconst 0, 1) := by decide +kernel
theorem dX8_keeps_180 : decode cX8_keeps 180 = .ok (.istore 4, 2) := by decide +kernel
theorem dX8_keeps_182 : decode cX8_keeps 182 = .ok (.iload 4, 2) := by decide +kernel
theorem dX8_keeps_184 : decode cX8_keeps 184 = .ok (.aload_n 0, 1) := by decide +kernel
theorem dX8_keeps_185 : decode cX8_keeps 185 = .ok (.getfield 147, 3) := by decide +kernel
theorem dX8_keeps_188 : decode cX8_keeps 188 = .ok (.if_icmp .ge 155, 3) := by decide +kernel
theorem dX8_keeps_191 : decode cX8_keeps 191 = .ok (.aload_n 0, 1) := by decide +kernel
theorem dX8_keeps_192 : decode cX8_keeps 192 = .ok (.getfield 95, 3) := by decide +kernel
theorem dX8_keeps_195 : decode cX8_keeps 195 = .ok (.aload_n 0, 1) := by decide +kernel
theorem dX8_keeps_196 : decode cX8_keeps 196 = .ok (.getfield 77, 3) := by decide +kernel
theorem dX8_keeps_199 : decode cX8_keeps 199 = .ok (.aload_n 0, 1) := by decide +kernel
theorem dX8_keeps_200 : decode cX8_keeps 200 = .ok (.getfield 92, 3) := by decide +kernel
theorem dX8_keeps_203 : decode cX8_keeps 203 = .ok (.iload 4, 2) := by decide +kernel
theorem dX8_keeps_205 : decode cX8_keeps 205 = .ok (.iaload, 1) := by decide +kernel
theorem dX8_keeps_206 : decode cX8_keeps 206 = .ok (.iaload, 1) := by decide +kernel
theorem dX8_keeps_207 : decode cX8_keeps 207 = .ok (.iaload, 1) := by decide +kernel
theorem dX8_keeps_208 : decode cX8_keeps 208 = .ok (.istore 5, 2) := by decide +kernel
theorem dX8_keeps_210 : decode cX8_keeps 210 = .ok (.aload_n 0, 1) := by decide +kernel
theorem dX8_keeps_211 : decode cX8_keeps 211 = .ok (.getfield 95, 3) := by decide +kernel
theorem dX8_keeps_214 : decode cX8_keeps 214 = .ok (.aload_n 0, 1) := by decide +kernel
theorem dX8_keeps_215 : decode cX8_keeps 215 = .ok (.getfield 80, 3) := by decide +kernel
theorem dX8_keeps_218 : decode cX8_keeps 218 = .ok (.aload_n 0, 1) := by decide +kernel
theorem dX8_keeps_219 : decode cX8_keeps 219 = .ok (.getfield 92, 3) := by decide +kernel
theorem dX8_keeps_222 : decode cX8_keeps 222 = .ok (.iload 4, 2) := by decide +kernel
theorem dX8_keeps_224 : decode cX8_keeps 224 = .ok (.iaload, 1) := by decide +kernel
theorem dX8_keeps_225 : decode cX8_keeps 225 = .ok (.iaload, 1) := by decide +kernel
theorem dX8_keeps_226 : decode cX8_keeps 226 = .ok (.iaload, 1) := by decide +kernel
theorem dX8_keeps_227 : decode cX8_keeps 227 = .ok (.istore 6, 2) := by decide +kernel
theorem dX8_keeps_229 : decode cX8_keeps 229 = .ok (.bipush 19, 2) := by decide +kernel
theorem dX8_keeps_231 : decode cX8_keeps 231 = .ok (.iload_n 1, 1) := by decide +kernel
theorem dX8_keeps_232 : decode cX8_keeps 232 = .ok (.imul, 1) := by decide +kernel
theorem dX8_keeps_233 : decode cX8_keeps 233 = .ok (.iload 4, 2) := by decide +kernel
theorem dX8_keeps_235 : decode cX8_keeps 235 = .ok (.iadd, 1) := by decide +kernel
theorem dX8_keeps_236 : decode cX8_keeps 236 = .ok (.istore 7, 2) := by decide +kernel
theorem dX8_keeps_238 : decode cX8_keeps 238 = .ok (.aload_n 0, 1) := by decide +kernel
theorem dX8_keeps_239 : decode cX8_keeps 239 = .ok (.getfield 52, 3) := by decide +kernel
theorem dX8_keeps_242 : decode cX8_keeps 242 = .ok (.iload 7, 2) := by decide +kernel
theorem dX8_keeps_244 : decode cX8_keeps 244 = .ok (.iload 5, 2) := by decide +kernel
theorem dX8_keeps_246 : decode cX8_keeps 246 = .ok (.iload 6, 2) := by decide +kernel
theorem dX8_keeps_248 : decode cX8_keeps 248 = .ok (.if_icmp .ge 8, 3) := by decide +kernel
theorem dX8_keeps_251 : decode cX8_keeps 251 = .ok (.iload 5, 2) := by decide +kernel
theorem dX8_keeps_253 : decode cX8_keeps 253 = .ok (.goto 5, 3) := by decide +kernel
theorem dX8_keeps_256 : decode cX8_keeps 256 = .ok (.iload 6, 2) := by decide +kernel
theorem dX8_keeps_258 : decode cX8_keeps 258 = .ok (.iastore, 1) := by decide +kernel
theorem dX8_keeps_259 : decode cX8_keeps 259 = .ok (.aload_n 0, 1) := by decide +kernel
theorem dX8_keeps_260 : decode cX8_keeps 260 = .ok (.getfield 55, 3) := by decide +kernel
theorem dX8_keeps_263 : decode cX8_keeps 263 = .ok (.iload 7, 2) := by decide +kernel
theorem dX8_keeps_265 : decode cX8_keeps 265 = .ok (.iload 5, 2) := by decide +kernel
theorem dX8_keeps_267 : decode cX8_keeps 267 = .ok (.iload 6, 2) := by decide +kernel
theorem dX8_keeps_269 : decode cX8_keeps 269 = .ok (.if_icmp .ge 8, 3) := by decide +kernel
theorem dX8_keeps_272 : decode cX8_keeps 272 = .ok (.iload 6, 2) := by decide +kernel
theorem dX8_keeps_274 : decode cX8_keeps 274 = .ok (.goto 5, 3) := by decide +kernel
theorem dX8_keeps_277 : decode cX8_keeps 277 = .ok (.iload 5, 2) := by decide +kernel
theorem dX8_keeps_279 : decode cX8_keeps 279 = .ok (.iastore, 1) := by decide +kernel
theorem dX8_keeps_280 : decode cX8_keeps 280 = .ok (.aload_n 0, 1) := by decide +kernel
theorem dX8_keeps_281 : decode cX8_keeps 281 = .ok (.getfield 58, 3) := by decide +kernel
theorem dX8_keeps_284 : decode cX8_keeps 284 = .ok (.iload 7, 2) := by decide +kernel
theorem dX8_keeps_286 : decode cX8_keeps 286 = .ok (.aload_n 0, 1) := by decide +kernel
theorem dX8_keeps_287 : decode cX8_keeps 287 = .ok (.getfield 33, 3) := by decide +kernel
theorem dX8_keeps_290 : decode cX8_keeps 290 = .ok (.aload_n 0, 1) := by decide +kernel
theorem dX8_keeps_291 : decode cX8_keeps 291 = .ok (.getfield 92, 3) := by decide +kernel
theorem dX8_keeps_294 : decode cX8_keeps 294 = .ok (.iload 4, 2) := by decide +kernel
theorem dX8_keeps_296 : decode cX8_keeps 296 = .ok (.iaload, 1) := by decide +kernel
theorem dX8_keeps_297 : decode cX8_keeps 297 = .ok (.iaload, 1) := by decide +kernel
theorem dX8_keeps_298 : decode cX8_keeps 298 = .ok (.iastore, 1) := by decide +kernel
theorem dX8_keeps_299 : decode cX8_keeps 299 = .ok (.aload_n 0, 1) := by decide +kernel
theorem dX8_keeps_300 : decode cX8_keeps 300 = .ok (.getfield 61, 3) := by decide +kernel
theorem dX8_keeps_303 : decode cX8_keeps 303 = .ok (.iload 7, 2) := by decide +kernel
theorem dX8_keeps_305 : decode cX8_keeps 305 = .ok (.aload_n 0, 1) := by decide +kernel
theorem dX8_keeps_306 : decode cX8_keeps 306 = .ok (.getfield 83, 3) := by decide +kernel
theorem dX8_keeps_309 : decode cX8_keeps 309 = .ok (.aload_n 0, 1) := by decide +kernel
theorem dX8_keeps_310 : decode cX8_keeps 310 = .ok (.getfield 92, 3) := by decide +kernel
theorem dX8_keeps_313 : decode cX8_keeps 313 = .ok (.iload 4, 2) := by decide +kernel
theorem dX8_keeps_315 : decode cX8_keeps 315 = .ok (.iaload, 1) := by decide +kernel
theorem dX8_keeps_316 : decode cX8_keeps 316 = .ok (.laload, 1) := by decide +kernel
theorem dX8_keeps_317 : decode cX8_keeps 317 = .ok (.lastore, 1) := by decide +kernel
theorem dX8_keeps_318 : decode cX8_keeps 318 = .ok (.aload_n 0, 1) := by decide +kernel
theorem dX8_keeps_319 : decode cX8_keeps 319 = .ok (.getfield 65, 3) := by decide +kernel
theorem dX8_keeps_322 : decode cX8_keeps 322 = .ok (.iload 7, 2) := by decide +kernel
theorem dX8_keeps_324 : decode cX8_keeps 324 = .ok (.aload_n 0, 1) := by decide +kernel
theorem dX8_keeps_325 : decode cX8_keeps 325 = .ok (.getfield 86, 3) := by decide +kernel
theorem dX8_keeps_328 : decode cX8_keeps 328 = .ok (.aload_n 0, 1) := by decide +kernel
theorem dX8_keeps_329 : decode cX8_keeps 329 = .ok (.getfield 92, 3) := by decide +kernel
theorem dX8_keeps_332 : decode cX8_keeps 332 = .ok (.iload 4, 2) := by decide +kernel
theorem dX8_keeps_334 : decode cX8_keeps 334 = .ok (.iaload, 1) := by decide +kernel
theorem dX8_keeps_335 : decode cX8_keeps 335 = .ok (.laload, 1) := by decide +kernel
theorem dX8_keeps_336 : decode cX8_keeps 336 = .ok (.lastore, 1) := by decide +kernel
theorem dX8_keeps_337 : decode cX8_keeps 337 = .ok (.iinc 4 1, 3) := by decide +kernel
theorem dX8_keeps_340 : decode cX8_keeps 340 = .ok (.goto (-158), 3) := by decide +kernel
theorem dX8_keeps_343 : decode cX8_keeps 343 = .ok (.aload_n 0, 1) := by decide +kernel
theorem dX8_keeps_344 : decode cX8_keeps 344 = .ok (.getfield 36, 3) := by decide +kernel
theorem dX8_keeps_347 : decode cX8_keeps 347 = .ok (.iload_n 1, 1) := by decide +kernel
theorem dX8_keeps_348 : decode cX8_keeps 348 = .ok (.iconst 1, 1) := by decide +kernel
theorem dX8_keeps_349 : decode cX8_keeps 349 = .ok (.bastore, 1) := by decide +kernel
theorem dX8_keeps_350 : decode cX8_keeps 350 = .ok (.aload_n 0, 1) := by decide +kernel
theorem dX8_keeps_351 : decode cX8_keeps 351 = .ok (.getfield 40, 3) := by decide +kernel
theorem dX8_keeps_354 : decode cX8_keeps 354 = .ok (.iload_n 1, 1) := by decide +kernel
theorem dX8_keeps_355 : decode cX8_keeps 355 = .ok (.aload_n 0, 1) := by decide +kernel
theorem dX8_keeps_356 : decode cX8_keeps 356 = .ok (.getfield 107, 3) := by decide +kernel
theorem dX8_keeps_359 : decode cX8_keeps 359 = .ok (.iastore, 1) := by decide +kernel
theorem dX8_keeps_360 : decode cX8_keeps 360 = .ok (.aload_n 0, 1) := by decide +kernel
theorem dX8_keeps_361 : decode cX8_keeps 361 = .ok (.getfield 43, 3) := by decide +kernel
theorem dX8_keeps_364 : decode cX8_keeps 364 = .ok (.iload_n 1, 1) := by decide +kernel
theorem dX8_keeps_365 : decode cX8_keeps 365 = .ok (.iload_n 2, 1) := by decide +kernel
theorem dX8_keeps_366 : decode cX8_keeps 366 = .ok (.iastore, 1) := by decide +kernel
theorem dX8_keeps_367 : decode cX8_keeps 367 = .ok (.aload_n 0, 1) := by decide +kernel
theorem dX8_keeps_368 : decode cX8_keeps 368 = .ok (.getfield 46, 3) := by decide +kernel
theorem dX8_keeps_371 : decode cX8_keeps 371 = .ok (.iload_n 1, 1) := by decide +kernel
theorem dX8_keeps_372 : decode cX8_keeps 372 = .ok (.iload_n 3, 1) := by decide +kernel
theorem dX8_keeps_373 : decode cX8_keeps 373 = .ok (.ifCond .eq 7, 3) := by decide +kernel
theorem dX8_keeps_376 : decode cX8_keeps 376 = .ok (.iconst 1, 1) := by decide +kernel
theorem dX8_keeps_377 : decode cX8_keeps 377 = .ok (.goto 4, 3) := by decide +kernel
theorem dX8_keeps_380 : decode cX8_keeps 380 = .ok (.iconst 0, 1) := by decide +kernel
theorem dX8_keeps_381 : decode cX8_keeps 381 = .ok (.iastore, 1) := by decide +kernel
theorem dX8_keeps_382 : decode cX8_keeps 382 = .ok (.aload_n 0, 1) := by decide +kernel
theorem dX8_keeps_383 : decode cX8_keeps 383 = .ok (.getfield 49, 3) := by decide +kernel
theorem dX8_keeps_386 : decode cX8_keeps 386 = .ok (.iload_n 1, 1) := by decide +kernel
theorem dX8_keeps_387 : decode cX8_keeps 387 = .ok (.aload_n 0, 1) := by decide +kernel
theorem dX8_keeps_388 : decode cX8_keeps 388 = .ok (.getfield 188, 3) := by decide +kernel
theorem dX8_keeps_391 : decode cX8_keeps 391 = .ok (.iastore, 1) := by decide +kernel
theorem dX8_keeps_392 : decode cX8_keeps 392 = .ok (.iconst 0, 1) := by decide +kernel
theorem dX8_keeps_393 : decode cX8_keeps 393 = .ok (.istore 4, 2) := by decide +kernel
theorem dX8_keeps_395 : decode cX8_keeps 395 = .ok (.iload 4, 2) := by decide +kernel
theorem dX8_keeps_397 : decode cX8_keeps 397 = .ok (.bipush 20, 2) := by decide +kernel
theorem dX8_keeps_399 : decode cX8_keeps 399 = .ok (.if_icmp .ge 22, 3) := by decide +kernel
theorem dX8_keeps_402 : decode cX8_keeps 402 = .ok (.aload_n 0, 1) := by decide +kernel
theorem dX8_keeps_403 : decode cX8_keeps 403 = .ok (.getfield 68, 3) := by decide +kernel
theorem dX8_keeps_406 : decode cX8_keeps 406 = .ok (.bipush 20, 2) := by decide +kernel
theorem dX8_keeps_408 : decode cX8_keeps 408 = .ok (.iload_n 1, 1) := by decide +kernel
theorem dX8_keeps_409 : decode cX8_keeps 409 = .ok (.imul, 1) := by decide +kernel
theorem dX8_keeps_410 : decode cX8_keeps 410 = .ok (.iload 4, 2) := by decide +kernel
theorem dX8_keeps_412 : decode cX8_keeps 412 = .ok (.iadd, 1) := by decide +kernel
theorem dX8_keeps_413 : decode cX8_keeps 413 = .ok (.iconst 0, 1) := by decide +kernel
theorem dX8_keeps_414 : decode cX8_keeps 414 = .ok (.iastore, 1) := by decide +kernel
theorem dX8_keeps_415 : decode cX8_keeps 415 = .ok (.iinc 4 1, 3) := by decide +kernel
theorem dX8_keeps_418 : decode cX8_keeps 418 = .ok (.goto (-23), 3) := by decide +kernel
theorem dX8_keeps_421 : decode cX8_keeps 421 = .ok (.return_, 1) := by decide +kernel
theorem dX8_greedy_0 : decode cX8_greedy 0 = .ok (.iload_n 1, 1) := by decide +kernel
theorem dX8_greedy_1 : decode cX8_greedy 1 = .ok (.iconst 4, 1) := by decide +kernel
theorem dX8_greedy_2 : decode cX8_greedy 2 = .ok (.invokestatic 110, 3) := by decide +kernel
theorem dX8_greedy_5 : decode cX8_greedy 5 = .ok (.ifCond .eq 11, 3) := by decide +kernel
theorem dX8_greedy_8 : decode cX8_greedy 8 = .ok (.iload_n 2, 1) := by decide +kernel
theorem dX8_greedy_9 : decode cX8_greedy 9 = .ok (.iconst 5, 1) := by decide +kernel
theorem dX8_greedy_10 : decode cX8_greedy 10 = .ok (.invokestatic 110, 3) := by decide +kernel
theorem dX8_greedy_13 : decode cX8_greedy 13 = .ok (.ifCond .ne 5, 3) := by decide +kernel
theorem dX8_greedy_16 : decode cX8_greedy 16 = .ok (.iconst (-1), 1) := by decide +kernel
theorem dX8_greedy_17 : decode cX8_greedy 17 = .ok (.ireturn, 1) := by decide +kernel
theorem dX8_greedy_18 : decode cX8_greedy 18 = .ok (.aload_n 0, 1) := by decide +kernel
theorem dX8_greedy_19 : decode cX8_greedy 19 = .ok (.invokevirtual 202, 3) := by decide +kernel
theorem dX8_greedy_22 : decode cX8_greedy 22 = .ok (.aload_n 0, 1) := by decide +kernel
theorem dX8_greedy_23 : decode cX8_greedy 23 = .ok (.getfield 147, 3) := by decide +kernel
theorem dX8_greedy_26 : decode cX8_greedy 26 = .ok (.aload_n 0, 1) := by decide +kernel
theorem dX8_greedy_27 : decode cX8_greedy 27 = .ok (.getfield 107, 3) := by decide +kernel
theorem dX8_greedy_30 : decode cX8_greedy 30 = .ok (.iconst 1, 1) := by decide +kernel
theorem dX8_greedy_31 : decode cX8_greedy 31 = .ok (.isub, 1) := by decide +kernel
theorem dX8_greedy_32 : decode cX8_greedy 32 = .ok (.if_icmp .ge 11, 3) := by decide +kernel
theorem dX8_greedy_35 : decode cX8_greedy 35 = .ok (.aload_n 0, 1) := by decide +kernel
theorem dX8_greedy_36 : decode cX8_greedy 36 = .ok (.iload_n 2, 1) := by decide +kernel
theorem dX8_greedy_37 : decode cX8_greedy 37 = .ok (.invokevirtual 205, 3) := by decide +kernel
theorem dX8_greedy_40 : decode cX8_greedy 40 = .ok (.goto (-18), 3) := by decide +kernel
theorem dX8_greedy_43 : decode cX8_greedy 43 = .ok (.aload_n 0, 1) := by decide +kernel
theorem dX8_greedy_44 : decode cX8_greedy 44 = .ok (.iload_n 1, 1) := by decide +kernel
theorem dX8_greedy_45 : decode cX8_greedy 45 = .ok (.iload_n 2, 1) := by decide +kernel
theorem dX8_greedy_46 : decode cX8_greedy 46 = .ok (.iconst 0, 1) := by decide +kernel
theorem dX8_greedy_47 : decode cX8_greedy 47 = .ok (.invokevirtual 208, 3) := by decide +kernel
theorem dX8_greedy_50 : decode cX8_greedy 50 = .ok (.aload_n 0, 1) := by decide +kernel
theorem dX8_greedy_51 : decode cX8_greedy 51 = .ok (.getfield 147, 3) := by decide +kernel
theorem dX8_greedy_54 : decode cX8_greedy 54 = .ok (.ireturn, 1) := by decide +kernel
theorem dX8_chain_0 : decode cX8_chain 0 = .ok (.iload_n 1, 1) := by decide +kernel
theorem dX8_chain_1 : decode cX8_chain 1 = .ok (.iconst 4, 1) := by decide +kernel
theorem dX8_chain_2 : decode cX8_chain 2 = .ok (.invokestatic 110, 3) := by decide +kernel
theorem dX8_chain_5 : decode cX8_chain 5 = .ok (.ifCond .eq 11, 3) := by decide +kernel
theorem dX8_chain_8 : decode cX8_chain 8 = .ok (.iload_n 2, 1) := by decide +kernel
end
section
theorem dX8_chain_9 : decode cX8_chain 9 = .ok (.iconst 5, 1) := by decide +kernel
theorem dX8_chain_10 : decode cX8_chain 10 = .ok (.invokestatic 110, 3) := by decide +kernel
theorem dX8_chain_13 : decode cX8_chain 13 = .ok (.ifCond .ne 5, 3) := by decide +kernel
theorem dX8_chain_16 : decode cX8_chain 16 = .ok (.iconst (-1), 1) := by decide +kernel
theorem dX8_chain_17 : decode cX8_chain 17 = .ok (.ireturn, 1) := by decide +kernel
theorem dX8_chain_18 : decode cX8_chain 18 = .ok (.aload_n 0, 1) := by decide +kernel
theorem dX8_chain_19 : decode cX8_chain 19 = .ok (.invokevirtual 202, 3) := by decide +kernel
theorem dX8_chain_22 : decode cX8_chain 22 = .ok (.aload_n 0, 1) := by decide +kernel
theorem dX8_chain_23 : decode cX8_chain 23 = .ok (.iconst 0, 1) := by decide +kernel
theorem dX8_chain_24 : decode cX8_chain 24 = .ok (.putfield 199, 3) := by decide +kernel
theorem dX8_chain_27 : decode cX8_chain 27 = .ok (.aload_n 0, 1) := by decide +kernel
theorem dX8_chain_28 : decode cX8_chain 28 = .ok (.getfield 147, 3) := by decide +kernel
theorem dX8_chain_31 : decode cX8_chain 31 = .ok (.aload_n 0, 1) := by decide +kernel
theorem dX8_chain_32 : decode cX8_chain 32 = .ok (.getfield 107, 3) := by decide +kernel
theorem dX8_chain_35 : decode cX8_chain 35 = .ok (.iconst 1, 1) := by decide +kernel
theorem dX8_chain_36 : decode cX8_chain 36 = .ok (.isub, 1) := by decide +kernel
theorem dX8_chain_37 : decode cX8_chain 37 = .ok (.if_icmp .ge 11, 3) := by decide +kernel
theorem dX8_chain_40 : decode cX8_chain 40 = .ok (.aload_n 0, 1) := by decide +kernel
theorem dX8_chain_41 : decode cX8_chain 41 = .ok (.iload_n 2, 1) := by decide +kernel
theorem dX8_chain_42 : decode cX8_chain 42 = .ok (.invokevirtual 212, 3) := by decide +kernel
theorem dX8_chain_45 : decode cX8_chain 45 = .ok (.goto (-18), 3) := by decide +kernel
theorem dX8_chain_48 : decode cX8_chain 48 = .ok (.aload_n 0, 1) := by decide +kernel
theorem dX8_chain_49 : decode cX8_chain 49 = .ok (.iload_n 1, 1) := by decide +kernel
theorem dX8_chain_50 : decode cX8_chain 50 = .ok (.iload_n 2, 1) := by decide +kernel
theorem dX8_chain_51 : decode cX8_chain 51 = .ok (.iconst 1, 1) := by decide +kernel
theorem dX8_chain_52 : decode cX8_chain 52 = .ok (.invokevirtual 208, 3) := by decide +kernel
theorem dX8_chain_55 : decode cX8_chain 55 = .ok (.aload_n 0, 1) := by decide +kernel
theorem dX8_chain_56 : decode cX8_chain 56 = .ok (.getfield 147, 3) := by decide +kernel
theorem dX8_chain_59 : decode cX8_chain 59 = .ok (.ireturn, 1) := by decide +kernel
theorem dX8_isTree_0 : decode cX8_isTree 0 = .ok (.iload_n 1, 1) := by decide +kernel
theorem dX8_isTree_1 : decode cX8_isTree 1 = .ok (.iconst 4, 1) := by decide +kernel
theorem dX8_isTree_2 : decode cX8_isTree 2 = .ok (.invokestatic 110, 3) := by decide +kernel
theorem dX8_isTree_5 : decode cX8_isTree 5 = .ok (.ifCond .eq 16, 3) := by decide +kernel
theorem dX8_isTree_8 : decode cX8_isTree 8 = .ok (.aload_n 0, 1) := by decide +kernel
theorem dX8_isTree_9 : decode cX8_isTree 9 = .ok (.getfield 36, 3) := by decide +kernel
theorem dX8_isTree_12 : decode cX8_isTree 12 = .ok (.iload_n 1, 1) := by decide +kernel
theorem dX8_isTree_13 : decode cX8_isTree 13 = .ok (.baload, 1) := by decide +kernel
theorem dX8_isTree_14 : decode cX8_isTree 14 = .ok (.ifCond .eq 7, 3) := by decide +kernel
theorem dX8_isTree_17 : decode cX8_isTree 17 = .ok (.iconst 1, 1) := by decide +kernel
theorem dX8_isTree_18 : decode cX8_isTree 18 = .ok (.goto 4, 3) := by decide +kernel
theorem dX8_isTree_21 : decode cX8_isTree 21 = .ok (.iconst 0, 1) := by decide +kernel
theorem dX8_isTree_22 : decode cX8_isTree 22 = .ok (.ireturn, 1) := by decide +kernel
theorem dX8_steps_0 : decode cX8_steps 0 = .ok (.aload_n 0, 1) := by decide +kernel
theorem dX8_steps_1 : decode cX8_steps 1 = .ok (.getfield 40, 3) := by decide +kernel
theorem dX8_steps_4 : decode cX8_steps 4 = .ok (.iload_n 1, 1) := by decide +kernel
theorem dX8_steps_5 : decode cX8_steps 5 = .ok (.iaload, 1) := by decide +kernel
theorem dX8_steps_6 : decode cX8_steps 6 = .ok (.iconst 1, 1) := by decide +kernel
theorem dX8_steps_7 : decode cX8_steps 7 = .ok (.if_icmp .le 14, 3) := by decide +kernel
theorem dX8_steps_10 : decode cX8_steps 10 = .ok (.aload_n 0, 1) := by decide +kernel
theorem dX8_steps_11 : decode cX8_steps 11 = .ok (.getfield 40, 3) := by decide +kernel
theorem dX8_steps_14 : decode cX8_steps 14 = .ok (.iload_n 1, 1) := by decide +kernel
theorem dX8_steps_15 : decode cX8_steps 15 = .ok (.iaload, 1) := by decide +kernel
theorem dX8_steps_16 : decode cX8_steps 16 = .ok (.iconst 1, 1) := by decide +kernel
theorem dX8_steps_17 : decode cX8_steps 17 = .ok (.isub, 1) := by decide +kernel
theorem dX8_steps_18 : decode cX8_steps 18 = .ok (.goto 4, 3) := by decide +kernel
theorem dX8_steps_21 : decode cX8_steps 21 = .ok (.iconst 0, 1) := by decide +kernel
theorem dX8_steps_22 : decode cX8_steps 22 = .ok (.ireturn, 1) := by decide +kernel
theorem dX8_isStep_0 : decode cX8_isStep 0 = .ok (.aload_n 0, 1) := by decide +kernel
theorem dX8_isStep_1 : decode cX8_isStep 1 = .ok (.iload_n 1, 1) := by decide +kernel
theorem dX8_isStep_2 : decode cX8_isStep 2 = .ok (.invokevirtual 215, 3) := by decide +kernel
theorem dX8_isStep_5 : decode cX8_isStep 5 = .ok (.ifCond .eq 19, 3) := by decide +kernel
theorem dX8_isStep_8 : decode cX8_isStep 8 = .ok (.iload_n 2, 1) := by decide +kernel
theorem dX8_isStep_9 : decode cX8_isStep 9 = .ok (.aload_n 0, 1) := by decide +kernel
theorem dX8_isStep_10 : decode cX8_isStep 10 = .ok (.iload_n 1, 1) := by decide +kernel
theorem dX8_isStep_11 : decode cX8_isStep 11 = .ok (.invokevirtual 219, 3) := by decide +kernel
theorem dX8_isStep_14 : decode cX8_isStep 14 = .ok (.invokestatic 110, 3) := by decide +kernel
theorem dX8_isStep_17 : decode cX8_isStep 17 = .ok (.ifCond .eq 7, 3) := by decide +kernel
theorem dX8_isStep_20 : decode cX8_isStep 20 = .ok (.iconst 1, 1) := by decide +kernel
theorem dX8_isStep_21 : decode cX8_isStep 21 = .ok (.goto 4, 3) := by decide +kernel
theorem dX8_isStep_24 : decode cX8_isStep 24 = .ok (.iconst 0, 1) := by decide +kernel
theorem dX8_isStep_25 : decode cX8_isStep 25 = .ok (.ireturn, 1) := by decide +kernel
theorem dX8_tree_0 : decode cX8_tree 0 = .ok (.aload_n 0, 1) := by decide +kernel
theorem dX8_tree_1 : decode cX8_tree 1 = .ok (.iload_n 1, 1) := by decide +kernel
theorem dX8_tree_2 : decode cX8_tree 2 = .ok (.invokevirtual 215, 3) := by decide +kernel
theorem dX8_tree_5 : decode cX8_tree 5 = .ok (.ifCond .ne 5, 3) := by decide +kernel
theorem dX8_tree_8 : decode cX8_tree 8 = .ok (.iconst (-1), 1) := by decide +kernel
theorem dX8_tree_9 : decode cX8_tree 9 = .ok (.ireturn, 1) := by decide +kernel
theorem dX8_tree_10 : decode cX8_tree 10 = .ok (.iload_n 2, 1) := by decide +kernel
theorem dX8_tree_11 : decode cX8_tree 11 = .ok (.tableswitch 67 0 4 #[33, 39, 46, 53, 60], 33) := by decide +kernel
theorem dX8_tree_44 : decode cX8_tree 44 = .ok (.aload_n 0, 1) := by decide +kernel
theorem dX8_tree_45 : decode cX8_tree 45 = .ok (.iload_n 1, 1) := by decide +kernel
theorem dX8_tree_46 : decode cX8_tree 46 = .ok (.invokevirtual 219, 3) := by decide +kernel
theorem dX8_tree_49 : decode cX8_tree 49 = .ok (.ireturn, 1) := by decide +kernel
theorem dX8_tree_50 : decode cX8_tree 50 = .ok (.aload_n 0, 1) := by decide +kernel
theorem dX8_tree_51 : decode cX8_tree 51 = .ok (.getfield 49, 3) := by decide +kernel
theorem dX8_tree_54 : decode cX8_tree 54 = .ok (.iload_n 1, 1) := by decide +kernel
theorem dX8_tree_55 : decode cX8_tree 55 = .ok (.iaload, 1) := by decide +kernel
theorem dX8_tree_56 : decode cX8_tree 56 = .ok (.ireturn, 1) := by decide +kernel
theorem dX8_tree_57 : decode cX8_tree 57 = .ok (.aload_n 0, 1) := by decide +kernel
theorem dX8_tree_58 : decode cX8_tree 58 = .ok (.getfield 40, 3) := by decide +kernel
theorem dX8_tree_61 : decode cX8_tree 61 = .ok (.iload_n 1, 1) := by decide +kernel
theorem dX8_tree_62 : decode cX8_tree 62 = .ok (.iaload, 1) := by decide +kernel
theorem dX8_tree_63 : decode cX8_tree 63 = .ok (.ireturn, 1) := by decide +kernel
theorem dX8_tree_64 : decode cX8_tree 64 = .ok (.aload_n 0, 1) := by decide +kernel
theorem dX8_tree_65 : decode cX8_tree 65 = .ok (.getfield 43, 3) := by decide +kernel
theorem dX8_tree_68 : decode cX8_tree 68 = .ok (.iload_n 1, 1) := by decide +kernel
theorem dX8_tree_69 : decode cX8_tree 69 = .ok (.iaload, 1) := by decide +kernel
theorem dX8_tree_70 : decode cX8_tree 70 = .ok (.ireturn, 1) := by decide +kernel
theorem dX8_tree_71 : decode cX8_tree 71 = .ok (.aload_n 0, 1) := by decide +kernel
theorem dX8_tree_72 : decode cX8_tree 72 = .ok (.getfield 46, 3) := by decide +kernel
theorem dX8_tree_75 : decode cX8_tree 75 = .ok (.iload_n 1, 1) := by decide +kernel
theorem dX8_tree_76 : decode cX8_tree 76 = .ok (.iaload, 1) := by decide +kernel
theorem dX8_tree_77 : decode cX8_tree 77 = .ok (.ireturn, 1) := by decide +kernel
theorem dX8_tree_78 : decode cX8_tree 78 = .ok (.iconst (-1), 1) := by decide +kernel
theorem dX8_tree_79 : decode cX8_tree 79 = .ok (.ireturn, 1) := by decide +kernel
theorem dX8_step_0 : decode cX8_step 0 = .ok (.aload_n 0, 1) := by decide +kernel
theorem dX8_step_1 : decode cX8_step 1 = .ok (.iload_n 1, 1) := by decide +kernel
theorem dX8_step_2 : decode cX8_step 2 = .ok (.iload_n 2, 1) := by decide +kernel
theorem dX8_step_3 : decode cX8_step 3 = .ok (.invokevirtual 222, 3) := by decide +kernel
theorem dX8_step_6 : decode cX8_step 6 = .ok (.ifCond .ne 5, 3) := by decide +kernel
theorem dX8_step_9 : decode cX8_step 9 = .ok (.iconst (-1), 1) := by decide +kernel
theorem dX8_step_10 : decode cX8_step 10 = .ok (.ireturn, 1) := by decide +kernel
theorem dX8_step_11 : decode cX8_step 11 = .ok (.bipush 19, 2) := by decide +kernel
theorem dX8_step_13 : decode cX8_step 13 = .ok (.iload_n 1, 1) := by decide +kernel
theorem dX8_step_14 : decode cX8_step 14 = .ok (.imul, 1) := by decide +kernel
theorem dX8_step_15 : decode cX8_step 15 = .ok (.iload_n 2, 1) := by decide +kernel
theorem dX8_step_16 : decode cX8_step 16 = .ok (.iadd, 1) := by decide +kernel
theorem dX8_step_17 : decode cX8_step 17 = .ok (.istore 4, 2) := by decide +kernel
theorem dX8_step_19 : decode cX8_step 19 = .ok (.iload_n 3, 1) := by decide +kernel
theorem dX8_step_20 : decode cX8_step 20 = .ok (.ifCond .ne 13, 3) := by decide +kernel
theorem dX8_step_23 : decode cX8_step 23 = .ok (.aload_n 0, 1) := by decide +kernel
theorem dX8_step_24 : decode cX8_step 24 = .ok (.getfield 52, 3) := by decide +kernel
theorem dX8_step_27 : decode cX8_step 27 = .ok (.iload 4, 2) := by decide +kernel
theorem dX8_step_29 : decode cX8_step 29 = .ok (.iaload, 1) := by decide +kernel
theorem dX8_step_30 : decode cX8_step 30 = .ok (.goto 52, 3) := by decide +kernel
theorem dX8_step_33 : decode cX8_step 33 = .ok (.iload_n 3, 1) := by decide +kernel
theorem dX8_step_34 : decode cX8_step 34 = .ok (.iconst 1, 1) := by decide +kernel
theorem dX8_step_35 : decode cX8_step 35 = .ok (.if_icmp .ne 13, 3) := by decide +kernel
theorem dX8_step_38 : decode cX8_step 38 = .ok (.aload_n 0, 1) := by decide +kernel
theorem dX8_step_39 : decode cX8_step 39 = .ok (.getfield 55, 3) := by decide +kernel
theorem dX8_step_42 : decode cX8_step 42 = .ok (.iload 4, 2) := by decide +kernel
theorem dX8_step_44 : decode cX8_step 44 = .ok (.iaload, 1) := by decide +kernel
theorem dX8_step_45 : decode cX8_step 45 = .ok (.goto 37, 3) := by decide +kernel
theorem dX8_step_48 : decode cX8_step 48 = .ok (.iload_n 3, 1) := by decide +kernel
theorem dX8_step_49 : decode cX8_step 49 = .ok (.iconst 2, 1) := by decide +kernel
theorem dX8_step_50 : decode cX8_step 50 = .ok (.if_icmp .ne 16, 3) := by decide +kernel
theorem dX8_step_53 : decode cX8_step 53 = .ok (.aload_n 0, 1) := by decide +kernel
theorem dX8_step_54 : decode cX8_step 54 = .ok (.getfield 58, 3) := by decide +kernel
theorem dX8_step_57 : decode cX8_step 57 = .ok (.iload 4, 2) := by decide +kernel
theorem dX8_step_59 : decode cX8_step 59 = .ok (.iaload, 1) := by decide +kernel
theorem dX8_step_60 : decode cX8_step 60 = .ok (.invokestatic 161, 3) := by decide +kernel
theorem dX8_step_63 : decode cX8_step 63 = .ok (.goto 19, 3) := by decide +kernel
theorem dX8_step_66 : decode cX8_step 66 = .ok (.iload_n 3, 1) := by decide +kernel
theorem dX8_step_67 : decode cX8_step 67 = .ok (.iconst 3, 1) := by decide +kernel
theorem dX8_step_68 : decode cX8_step 68 = .ok (.if_icmp .ne 13, 3) := by decide +kernel
theorem dX8_step_71 : decode cX8_step 71 = .ok (.aload_n 0, 1) := by decide +kernel
theorem dX8_step_72 : decode cX8_step 72 = .ok (.getfield 58, 3) := by decide +kernel
theorem dX8_step_75 : decode cX8_step 75 = .ok (.iload 4, 2) := by decide +kernel
theorem dX8_step_77 : decode cX8_step 77 = .ok (.iaload, 1) := by decide +kernel
theorem dX8_step_78 : decode cX8_step 78 = .ok (.goto 4, 3) := by decide +kernel
theorem dX8_step_81 : decode cX8_step 81 = .ok (.iconst (-1), 1) := by decide +kernel
theorem dX8_step_82 : decode cX8_step 82 = .ok (.ireturn, 1) := by decide +kernel
theorem dX8_height_0 : decode cX8_height 0 = .ok (.aload_n 0, 1) := by decide +kernel
theorem dX8_height_1 : decode cX8_height 1 = .ok (.iload_n 1, 1) := by decide +kernel
theorem dX8_height_2 : decode cX8_height 2 = .ok (.iload_n 2, 1) := by decide +kernel
theorem dX8_height_3 : decode cX8_height 3 = .ok (.invokevirtual 222, 3) := by decide +kernel
theorem dX8_height_6 : decode cX8_height 6 = .ok (.ifCond .ne 7, 3) := by decide +kernel
theorem dX8_height_9 : decode cX8_height 9 = .ok (.ldc2_w 183, 3) := by decide +kernel
theorem dX8_height_12 : decode cX8_height 12 = .ok (.lreturn, 1) := by decide +kernel
theorem dX8_height_13 : decode cX8_height 13 = .ok (.iload_n 3, 1) := by decide +kernel
theorem dX8_height_14 : decode cX8_height 14 = .ok (.ifCond .ne 17, 3) := by decide +kernel
theorem dX8_height_17 : decode cX8_height 17 = .ok (.aload_n 0, 1) := by decide +kernel
theorem dX8_height_18 : decode cX8_height 18 = .ok (.getfield 61, 3) := by decide +kernel
theorem dX8_height_21 : decode cX8_height 21 = .ok (.bipush 19, 2) := by decide +kernel
theorem dX8_height_23 : decode cX8_height 23 = .ok (.iload_n 1, 1) := by decide +kernel
theorem dX8_height_24 : decode cX8_height 24 = .ok (.imul, 1) := by decide +kernel
theorem dX8_height_25 : decode cX8_height 25 = .ok (.iload_n 2, 1) := by decide +kernel
theorem dX8_height_26 : decode cX8_height 26 = .ok (.iadd, 1) := by decide +kernel
theorem dX8_height_27 : decode cX8_height 27 = .ok (.laload, 1) := by decide +kernel
theorem dX8_height_28 : decode cX8_height 28 = .ok (.goto 25, 3) := by decide +kernel
theorem dX8_height_31 : decode cX8_height 31 = .ok (.iload_n 3, 1) := by decide +kernel
theorem dX8_height_32 : decode cX8_height 32 = .ok (.iconst 1, 1) := by decide +kernel
theorem dX8_height_33 : decode cX8_height 33 = .ok (.if_icmp .ne 17, 3) := by decide +kernel
theorem dX8_height_36 : decode cX8_height 36 = .ok (.aload_n 0, 1) := by decide +kernel
theorem dX8_height_37 : decode cX8_height 37 = .ok (.getfield 65, 3) := by decide +kernel
theorem dX8_height_40 : decode cX8_height 40 = .ok (.bipush 19, 2) := by decide +kernel
theorem dX8_height_42 : decode cX8_height 42 = .ok (.iload_n 1, 1) := by decide +kernel
theorem dX8_height_43 : decode cX8_height 43 = .ok (.imul, 1) := by decide +kernel
theorem dX8_height_44 : decode cX8_height 44 = .ok (.iload_n 2, 1) := by decide +kernel
theorem dX8_height_45 : decode cX8_height 45 = .ok (.iadd, 1) := by decide +kernel
theorem dX8_height_46 : decode cX8_height 46 = .ok (.laload, 1) := by decide +kernel
theorem dX8_height_47 : decode cX8_height 47 = .ok (.goto 6, 3) := by decide +kernel
theorem dX8_height_50 : decode cX8_height 50 = .ok (.ldc2_w 183, 3) := by decide +kernel
theorem dX8_height_53 : decode cX8_height 53 = .ok (.lreturn, 1) := by decide +kernel
theorem dX8_joins_0 : decode cX8_joins 0 = .ok (.aload_n 0, 1) := by decide +kernel
theorem dX8_joins_1 : decode cX8_joins 1 = .ok (.iload_n 1, 1) := by decide +kernel
theorem dX8_joins_2 : decode cX8_joins 2 = .ok (.invokevirtual 215, 3) := by decide +kernel
theorem dX8_joins_5 : decode cX8_joins 5 = .ok (.ifCond .eq 34, 3) := by decide +kernel
theorem dX8_joins_8 : decode cX8_joins 8 = .ok (.iload_n 2, 1) := by decide +kernel
theorem dX8_joins_9 : decode cX8_joins 9 = .ok (.aload_n 0, 1) := by decide +kernel
theorem dX8_joins_10 : decode cX8_joins 10 = .ok (.getfield 40, 3) := by decide +kernel
theorem dX8_joins_13 : decode cX8_joins 13 = .ok (.iload_n 1, 1) := by decide +kernel
theorem dX8_joins_14 : decode cX8_joins 14 = .ok (.iaload, 1) := by decide +kernel
theorem dX8_joins_15 : decode cX8_joins 15 = .ok (.invokestatic 110, 3) := by decide +kernel
theorem dX8_joins_18 : decode cX8_joins 18 = .ok (.ifCond .eq 21, 3) := by decide +kernel
theorem dX8_joins_21 : decode cX8_joins 21 = .ok (.iload_n 3, 1) := by decide +kernel
theorem dX8_joins_22 : decode cX8_joins 22 = .ok (.aload_n 0, 1) := by decide +kernel
theorem dX8_joins_23 : decode cX8_joins 23 = .ok (.getfield 40, 3) := by decide +kernel
theorem dX8_joins_26 : decode cX8_joins 26 = .ok (.iload_n 1, 1) := by decide +kernel
theorem dX8_joins_27 : decode cX8_joins 27 = .ok (.iaload, 1) := by decide +kernel
theorem dX8_joins_28 : decode cX8_joins 28 = .ok (.invokestatic 110, 3) := by decide +kernel
theorem dX8_joins_31 : decode cX8_joins 31 = .ok (.ifCond .eq 8, 3) := by decide +kernel
theorem dX8_joins_34 : decode cX8_joins 34 = .ok (.iload_n 2, 1) := by decide +kernel
theorem dX8_joins_35 : decode cX8_joins 35 = .ok (.iload_n 3, 1) := by decide +kernel
theorem dX8_joins_36 : decode cX8_joins 36 = .ok (.if_icmp .ne 5, 3) := by decide +kernel
theorem dX8_joins_39 : decode cX8_joins 39 = .ok (.iconst (-1), 1) := by decide +kernel
theorem dX8_joins_40 : decode cX8_joins 40 = .ok (.ireturn, 1) := by decide +kernel
theorem dX8_joins_41 : decode cX8_joins 41 = .ok (.iconst 0, 1) := by decide +kernel
theorem dX8_joins_42 : decode cX8_joins 42 = .ok (.istore 4, 2) := by decide +kernel
theorem dX8_joins_44 : decode cX8_joins 44 = .ok (.iconst 1, 1) := by decide +kernel
theorem dX8_joins_45 : decode cX8_joins 45 = .ok (.iload_n 2, 1) := by decide +kernel
theorem dX8_joins_46 : decode cX8_joins 46 = .ok (.ishl, 1) := by decide +kernel
theorem dX8_joins_47 : decode cX8_joins 47 = .ok (.iconst 1, 1) := by decide +kernel
theorem dX8_joins_48 : decode cX8_joins 48 = .ok (.iload_n 3, 1) := by decide +kernel
theorem dX8_joins_49 : decode cX8_joins 49 = .ok (.ishl, 1) := by decide +kernel
theorem dX8_joins_50 : decode cX8_joins 50 = .ok (.ior, 1) := by decide +kernel
theorem dX8_joins_51 : decode cX8_joins 51 = .ok (.istore 5, 2) := by decide +kernel
theorem dX8_joins_53 : decode cX8_joins 53 = .ok (.aload_n 0, 1) := by decide +kernel
theorem dX8_joins_54 : decode cX8_joins 54 = .ok (.getfield 58, 3) := by decide +kernel
theorem dX8_joins_57 : decode cX8_joins 57 = .ok (.bipush 19, 2) := by decide +kernel
theorem dX8_joins_59 : decode cX8_joins 59 = .ok (.iload_n 1, 1) := by decide +kernel
theorem dX8_joins_60 : decode cX8_joins 60 = .ok (.imul, 1) := by decide +kernel
theorem dX8_joins_61 : decode cX8_joins 61 = .ok (.iload 4, 2) := by decide +kernel
theorem dX8_joins_63 : decode cX8_joins 63 = .ok (.iadd, 1) := by decide +kernel
theorem dX8_joins_64 : decode cX8_joins 64 = .ok (.iaload, 1) := by decide +kernel
theorem dX8_joins_65 : decode cX8_joins 65 = .ok (.iload 5, 2) := by decide +kernel
theorem dX8_joins_67 : decode cX8_joins 67 = .ok (.iand, 1) := by decide +kernel
theorem dX8_joins_68 : decode cX8_joins 68 = .ok (.iload 5, 2) := by decide +kernel
theorem dX8_joins_70 : decode cX8_joins 70 = .ok (.if_icmp .eq 9, 3) := by decide +kernel
theorem dX8_joins_73 : decode cX8_joins 73 = .ok (.iinc 4 1, 3) := by decide +kernel
theorem dX8_joins_76 : decode cX8_joins 76 = .ok (.goto (-23), 3) := by decide +kernel
theorem dX8_joins_79 : decode cX8_joins 79 = .ok (.iload 4, 2) := by decide +kernel
theorem dX8_joins_81 : decode cX8_joins 81 = .ok (.ireturn, 1) := by decide +kernel
theorem dX8_same_0 : decode cX8_same 0 = .ok (.aload_n 0, 1) := by decide +kernel
theorem dX8_same_1 : decode cX8_same 1 = .ok (.iload_n 1, 1) := by decide +kernel
theorem dX8_same_2 : decode cX8_same 2 = .ok (.invokevirtual 215, 3) := by decide +kernel
theorem dX8_same_5 : decode cX8_same 5 = .ok (.ifCond .eq 26, 3) := by decide +kernel
theorem dX8_same_8 : decode cX8_same 8 = .ok (.aload_n 0, 1) := by decide +kernel
theorem dX8_same_9 : decode cX8_same 9 = .ok (.iload_n 2, 1) := by decide +kernel
theorem dX8_same_10 : decode cX8_same 10 = .ok (.invokevirtual 215, 3) := by decide +kernel
theorem dX8_same_13 : decode cX8_same 13 = .ok (.ifCond .eq 18, 3) := by decide +kernel
theorem dX8_same_16 : decode cX8_same 16 = .ok (.aload_n 0, 1) := by decide +kernel
theorem dX8_same_17 : decode cX8_same 17 = .ok (.getfield 40, 3) := by decide +kernel
theorem dX8_same_20 : decode cX8_same 20 = .ok (.iload_n 1, 1) := by decide +kernel
theorem dX8_same_21 : decode cX8_same 21 = .ok (.iaload, 1) := by decide +kernel
theorem dX8_same_22 : decode cX8_same 22 = .ok (.aload_n 0, 1) := by decide +kernel
theorem dX8_same_23 : decode cX8_same 23 = .ok (.getfield 40, 3) := by decide +kernel
theorem dX8_same_26 : decode cX8_same 26 = .ok (.iload_n 2, 1) := by decide +kernel
theorem dX8_same_27 : decode cX8_same 27 = .ok (.iaload, 1) := by decide +kernel
theorem dX8_same_28 : decode cX8_same 28 = .ok (.if_icmp .eq 5, 3) := by decide +kernel
theorem dX8_same_31 : decode cX8_same 31 = .ok (.iconst 0, 1) := by decide +kernel
theorem dX8_same_32 : decode cX8_same 32 = .ok (.ireturn, 1) := by decide +kernel
theorem dX8_same_33 : decode cX8_same 33 = .ok (.iconst 1, 1) := by decide +kernel
theorem dX8_same_34 : decode cX8_same 34 = .ok (.istore_n 3, 1) := by decide +kernel
theorem dX8_same_35 : decode cX8_same 35 = .ok (.iconst 0, 1) := by decide +kernel
theorem dX8_same_36 : decode cX8_same 36 = .ok (.istore 4, 2) := by decide +kernel
theorem dX8_same_38 : decode cX8_same 38 = .ok (.iload 4, 2) := by decide +kernel
theorem dX8_same_40 : decode cX8_same 40 = .ok (.aload_n 0, 1) := by decide +kernel
theorem dX8_same_41 : decode cX8_same 41 = .ok (.iload_n 1, 1) := by decide +kernel
theorem dX8_same_42 : decode cX8_same 42 = .ok (.invokevirtual 219, 3) := by decide +kernel
theorem dX8_same_45 : decode cX8_same 45 = .ok (.if_icmp .ge 107, 3) := by decide +kernel
theorem dX8_same_48 : decode cX8_same 48 = .ok (.bipush 19, 2) := by decide +kernel
theorem dX8_same_50 : decode cX8_same 50 = .ok (.iload_n 1, 1) := by decide +kernel
theorem dX8_same_51 : decode cX8_same 51 = .ok (.imul, 1) := by decide +kernel
theorem dX8_same_52 : decode cX8_same 52 = .ok (.iload 4, 2) := by decide +kernel
theorem dX8_same_54 : decode cX8_same 54 = .ok (.iadd, 1) := by decide +kernel
theorem dX8_same_55 : decode cX8_same 55 = .ok (.istore 5, 2) := by decide +kernel
theorem dX8_same_57 : decode cX8_same 57 = .ok (.bipush 19, 2) := by decide +kernel
theorem dX8_same_59 : decode cX8_same 59 = .ok (.iload_n 2, 1) := by decide +kernel
theorem dX8_same_60 : decode cX8_same 60 = .ok (.imul, 1) := by decide +kernel
theorem dX8_same_61 : decode cX8_same 61 = .ok (.iload 4, 2) := by decide +kernel
theorem dX8_same_63 : decode cX8_same 63 = .ok (.iadd, 1) := by decide +kernel
theorem dX8_same_64 : decode cX8_same 64 = .ok (.istore 6, 2) := by decide +kernel
theorem dX8_same_66 : decode cX8_same 66 = .ok (.iload_n 3, 1) := by decide +kernel
theorem dX8_same_67 : decode cX8_same 67 = .ok (.ifCond .eq 77, 3) := by decide +kernel
theorem dX8_same_70 : decode cX8_same 70 = .ok (.aload_n 0, 1) := by decide +kernel
theorem dX8_same_71 : decode cX8_same 71 = .ok (.getfield 52, 3) := by decide +kernel
theorem dX8_same_74 : decode cX8_same 74 = .ok (.iload 5, 2) := by decide +kernel
theorem dX8_same_76 : decode cX8_same 76 = .ok (.iaload, 1) := by decide +kernel
theorem dX8_same_77 : decode cX8_same 77 = .ok (.aload_n 0, 1) := by decide +kernel
theorem dX8_same_78 : decode cX8_same 78 = .ok (.getfield 52, 3) := by decide +kernel
theorem dX8_same_81 : decode cX8_same 81 = .ok (.iload 6, 2) := by decide +kernel
theorem dX8_same_83 : decode cX8_same 83 = .ok (.iaload, 1) := by decide +kernel
theorem dX8_same_84 : decode cX8_same 84 = .ok (.if_icmp .ne 60, 3) := by decide +kernel
theorem dX8_same_87 : decode cX8_same 87 = .ok (.aload_n 0, 1) := by decide +kernel
theorem dX8_same_88 : decode cX8_same 88 = .ok (.getfield 55, 3) := by decide +kernel
theorem dX8_same_91 : decode cX8_same 91 = .ok (.iload 5, 2) := by decide +kernel
theorem dX8_same_93 : decode cX8_same 93 = .ok (.iaload, 1) := by decide +kernel
theorem dX8_same_94 : decode cX8_same 94 = .ok (.aload_n 0, 1) := by decide +kernel
theorem dX8_same_95 : decode cX8_same 95 = .ok (.getfield 55, 3) := by decide +kernel
theorem dX8_same_98 : decode cX8_same 98 = .ok (.iload 6, 2) := by decide +kernel
theorem dX8_same_100 : decode cX8_same 100 = .ok (.iaload, 1) := by decide +kernel
theorem dX8_same_101 : decode cX8_same 101 = .ok (.if_icmp .ne 43, 3) := by decide +kernel
theorem dX8_same_104 : decode cX8_same 104 = .ok (.aload_n 0, 1) := by decide +kernel
theorem dX8_same_105 : decode cX8_same 105 = .ok (.getfield 61, 3) := by decide +kernel
theorem dX8_same_108 : decode cX8_same 108 = .ok (.iload 5, 2) := by decide +kernel
theorem dX8_same_110 : decode cX8_same 110 = .ok (.laload, 1) := by decide +kernel
theorem dX8_same_111 : decode cX8_same 111 = .ok (.aload_n 0, 1) := by decide +kernel
theorem dX8_same_112 : decode cX8_same 112 = .ok (.getfield 61, 3) := by decide +kernel
theorem dX8_same_115 : decode cX8_same 115 = .ok (.iload 6, 2) := by decide +kernel
theorem dX8_same_117 : decode cX8_same 117 = .ok (.laload, 1) := by decide +kernel
theorem dX8_same_118 : decode cX8_same 118 = .ok (.lcmp, 1) := by decide +kernel
theorem dX8_same_119 : decode cX8_same 119 = .ok (.ifCond .ne 25, 3) := by decide +kernel
theorem dX8_same_122 : decode cX8_same 122 = .ok (.aload_n 0, 1) := by decide +kernel
theorem dX8_same_123 : decode cX8_same 123 = .ok (.getfield 65, 3) := by decide +kernel
theorem dX8_same_126 : decode cX8_same 126 = .ok (.iload 5, 2) := by decide +kernel
theorem dX8_same_128 : decode cX8_same 128 = .ok (.laload, 1) := by decide +kernel
theorem dX8_same_129 : decode cX8_same 129 = .ok (.aload_n 0, 1) := by decide +kernel
theorem dX8_same_130 : decode cX8_same 130 = .ok (.getfield 65, 3) := by decide +kernel
theorem dX8_same_133 : decode cX8_same 133 = .ok (.iload 6, 2) := by decide +kernel
theorem dX8_same_135 : decode cX8_same 135 = .ok (.laload, 1) := by decide +kernel
theorem dX8_same_136 : decode cX8_same 136 = .ok (.lcmp, 1) := by decide +kernel
theorem dX8_same_137 : decode cX8_same 137 = .ok (.ifCond .ne 7, 3) := by decide +kernel
theorem dX8_same_140 : decode cX8_same 140 = .ok (.iconst 1, 1) := by decide +kernel
theorem dX8_same_141 : decode cX8_same 141 = .ok (.goto 4, 3) := by decide +kernel
theorem dX8_same_144 : decode cX8_same 144 = .ok (.iconst 0, 1) := by decide +kernel
theorem dX8_same_145 : decode cX8_same 145 = .ok (.istore_n 3, 1) := by decide +kernel
theorem dX8_same_146 : decode cX8_same 146 = .ok (.iinc 4 1, 3) := by decide +kernel
theorem dX8_same_149 : decode cX8_same 149 = .ok (.goto (-111), 3) := by decide +kernel
theorem dX8_same_152 : decode cX8_same 152 = .ok (.iload_n 3, 1) := by decide +kernel
theorem dX8_same_153 : decode cX8_same 153 = .ok (.ireturn, 1) := by decide +kernel
theorem dX8_leastOf_0 : decode cX8_leastOf 0 = .ok (.iload_n 2, 1) := by decide +kernel
theorem dX8_leastOf_1 : decode cX8_leastOf 1 = .ok (.aload_n 0, 1) := by decide +kernel
theorem dX8_leastOf_2 : decode cX8_leastOf 2 = .ok (.getfield 40, 3) := by decide +kernel
theorem dX8_leastOf_5 : decode cX8_leastOf 5 = .ok (.iload_n 1, 1) := by decide +kernel
theorem dX8_leastOf_6 : decode cX8_leastOf 6 = .ok (.iaload, 1) := by decide +kernel
theorem dX8_leastOf_7 : decode cX8_leastOf 7 = .ok (.if_icmp .ge 9, 3) := by decide +kernel
theorem dX8_leastOf_10 : decode cX8_leastOf 10 = .ok (.iconst 1, 1) := by decide +kernel
theorem dX8_leastOf_11 : decode cX8_leastOf 11 = .ok (.iload_n 2, 1) := by decide +kernel
theorem dX8_leastOf_12 : decode cX8_leastOf 12 = .ok (.ishl, 1) := by decide +kernel
theorem dX8_leastOf_13 : decode cX8_leastOf 13 = .ok (.goto 21, 3) := by decide +kernel
theorem dX8_leastOf_16 : decode cX8_leastOf 16 = .ok (.aload_n 0, 1) := by decide +kernel
theorem dX8_leastOf_17 : decode cX8_leastOf 17 = .ok (.getfield 58, 3) := by decide +kernel
theorem dX8_leastOf_20 : decode cX8_leastOf 20 = .ok (.bipush 19, 2) := by decide +kernel
theorem dX8_leastOf_22 : decode cX8_leastOf 22 = .ok (.iload_n 1, 1) := by decide +kernel
theorem dX8_leastOf_23 : decode cX8_leastOf 23 = .ok (.imul, 1) := by decide +kernel
theorem dX8_leastOf_24 : decode cX8_leastOf 24 = .ok (.iload_n 2, 1) := by decide +kernel
theorem dX8_leastOf_25 : decode cX8_leastOf 25 = .ok (.iadd, 1) := by decide +kernel
theorem dX8_leastOf_26 : decode cX8_leastOf 26 = .ok (.aload_n 0, 1) := by decide +kernel
theorem dX8_leastOf_27 : decode cX8_leastOf 27 = .ok (.getfield 40, 3) := by decide +kernel
theorem dX8_leastOf_30 : decode cX8_leastOf 30 = .ok (.iload_n 1, 1) := by decide +kernel
theorem dX8_leastOf_31 : decode cX8_leastOf 31 = .ok (.iaload, 1) := by decide +kernel
theorem dX8_leastOf_32 : decode cX8_leastOf 32 = .ok (.isub, 1) := by decide +kernel
theorem dX8_leastOf_33 : decode cX8_leastOf 33 = .ok (.iaload, 1) := by decide +kernel
theorem dX8_leastOf_34 : decode cX8_leastOf 34 = .ok (.istore_n 3, 1) := by decide +kernel
theorem dX8_leastOf_35 : decode cX8_leastOf 35 = .ok (.iconst 0, 1) := by decide +kernel
theorem dX8_leastOf_36 : decode cX8_leastOf 36 = .ok (.istore 4, 2) := by decide +kernel
theorem dX8_leastOf_38 : decode cX8_leastOf 38 = .ok (.iload_n 3, 1) := by decide +kernel
theorem dX8_leastOf_39 : decode cX8_leastOf 39 = .ok (.iload 4, 2) := by decide +kernel
theorem dX8_leastOf_41 : decode cX8_leastOf 41 = .ok (.ishr, 1) := by decide +kernel
theorem dX8_leastOf_42 : decode cX8_leastOf 42 = .ok (.iconst 1, 1) := by decide +kernel
theorem dX8_leastOf_43 : decode cX8_leastOf 43 = .ok (.iand, 1) := by decide +kernel
theorem dX8_leastOf_44 : decode cX8_leastOf 44 = .ok (.ifCond .ne 9, 3) := by decide +kernel
theorem dX8_leastOf_47 : decode cX8_leastOf 47 = .ok (.iinc 4 1, 3) := by decide +kernel
theorem dX8_leastOf_50 : decode cX8_leastOf 50 = .ok (.goto (-12), 3) := by decide +kernel
theorem dX8_leastOf_53 : decode cX8_leastOf 53 = .ok (.iload 4, 2) := by decide +kernel
theorem dX8_leastOf_55 : decode cX8_leastOf 55 = .ok (.ireturn, 1) := by decide +kernel
theorem dX8_tells_0 : decode cX8_tells 0 = .ok (.aload_n 0, 1) := by decide +kernel
theorem dX8_tells_1 : decode cX8_tells 1 = .ok (.getfield 40, 3) := by decide +kernel
theorem dX8_tells_4 : decode cX8_tells 4 = .ok (.iload_n 1, 1) := by decide +kernel
theorem dX8_tells_5 : decode cX8_tells 5 = .ok (.iaload, 1) := by decide +kernel
theorem dX8_tells_6 : decode cX8_tells 6 = .ok (.istore_n 2, 1) := by decide +kernel
theorem dX8_tells_7 : decode cX8_tells 7 = .ok (.aload_n 0, 1) := by decide +kernel
theorem dX8_tells_8 : decode cX8_tells 8 = .ok (.iconst 0, 1) := by decide +kernel
theorem dX8_tells_9 : decode cX8_tells 9 = .ok (.putfield 126, 3) := by decide +kernel
theorem dX8_tells_12 : decode cX8_tells 12 = .ok (.iconst 0, 1) := by decide +kernel
theorem dX8_tells_13 : decode cX8_tells 13 = .ok (.istore_n 3, 1) := by decide +kernel
theorem dX8_tells_14 : decode cX8_tells 14 = .ok (.iconst 0, 1) := by decide +kernel
theorem dX8_tells_15 : decode cX8_tells 15 = .ok (.istore 4, 2) := by decide +kernel
theorem dX8_tells_17 : decode cX8_tells 17 = .ok (.iload_n 2, 1) := by decide +kernel
theorem dX8_tells_18 : decode cX8_tells 18 = .ok (.ifCond .le 25, 3) := by decide +kernel
theorem dX8_tells_21 : decode cX8_tells 21 = .ok (.aload_n 0, 1) := by decide +kernel
theorem dX8_tells_22 : decode cX8_tells 22 = .ok (.getfield 98, 3) := by decide +kernel
theorem dX8_tells_25 : decode cX8_tells 25 = .ok (.iconst 0, 1) := by decide +kernel
theorem dX8_tells_26 : decode cX8_tells 26 = .ok (.iload_n 2, 1) := by decide +kernel
theorem dX8_tells_27 : decode cX8_tells 27 = .ok (.iconst 1, 1) := by decide +kernel
theorem dX8_tells_28 : decode cX8_tells 28 = .ok (.if_icmp .le 11, 3) := by decide +kernel
theorem dX8_tells_31 : decode cX8_tells 31 = .ok (.iconst 2, 1) := by decide +kernel
theorem dX8_tells_32 : decode cX8_tells 32 = .ok (.iload_n 2, 1) := by decide +kernel
theorem dX8_tells_33 : decode cX8_tells 33 = .ok (.imul, 1) := by decide +kernel
theorem dX8_tells_34 : decode cX8_tells 34 = .ok (.iconst 2, 1) := by decide +kernel
theorem dX8_tells_35 : decode cX8_tells 35 = .ok (.isub, 1) := by decide +kernel
theorem dX8_tells_36 : decode cX8_tells 36 = .ok (.goto 4, 3) := by decide +kernel
theorem dX8_tells_39 : decode cX8_tells 39 = .ok (.iconst 0, 1) := by decide +kernel
theorem dX8_tells_40 : decode cX8_tells 40 = .ok (.iastore, 1) := by decide +kernel
theorem dX8_tells_41 : decode cX8_tells 41 = .ok (.iconst 1, 1) := by decide +kernel
theorem dX8_tells_42 : decode cX8_tells 42 = .ok (.istore_n 3, 1) := by decide +kernel
theorem dX8_tells_43 : decode cX8_tells 43 = .ok (.iload_n 3, 1) := by decide +kernel
theorem dX8_tells_44 : decode cX8_tells 44 = .ok (.ifCond .le 268, 3) := by decide +kernel
theorem dX8_tells_47 : decode cX8_tells 47 = .ok (.iinc 3 (-1), 3) := by decide +kernel
theorem dX8_tells_50 : decode cX8_tells 50 = .ok (.aload_n 0, 1) := by decide +kernel
theorem dX8_tells_51 : decode cX8_tells 51 = .ok (.getfield 98, 3) := by decide +kernel
theorem dX8_tells_54 : decode cX8_tells 54 = .ok (.iload_n 3, 1) := by decide +kernel
theorem dX8_tells_55 : decode cX8_tells 55 = .ok (.iaload, 1) := by decide +kernel
theorem dX8_tells_56 : decode cX8_tells 56 = .ok (.istore 5, 2) := by decide +kernel
theorem dX8_tells_58 : decode cX8_tells 58 = .ok (.iload 5, 2) := by decide +kernel
theorem dX8_tells_60 : decode cX8_tells 60 = .ok (.iconst (-1), 1) := by decide +kernel
theorem dX8_tells_61 : decode cX8_tells 61 = .ok (.if_icmp .ne 12, 3) := by decide +kernel
theorem dX8_tells_64 : decode cX8_tells 64 = .ok (.aload_n 0, 1) := by decide +kernel
theorem dX8_tells_65 : decode cX8_tells 65 = .ok (.bipush 44, 2) := by decide +kernel
theorem dX8_tells_67 : decode cX8_tells 67 = .ok (.invokevirtual 133, 3) := by decide +kernel
theorem dX8_tells_70 : decode cX8_tells 70 = .ok (.goto 239, 3) := by decide +kernel
theorem dX8_tells_73 : decode cX8_tells 73 = .ok (.iload 5, 2) := by decide +kernel
theorem dX8_tells_75 : decode cX8_tells 75 = .ok (.iconst (-1), 1) := by decide +kernel
theorem dX8_tells_76 : decode cX8_tells 76 = .ok (.if_icmp .ge 69, 3) := by decide +kernel
theorem dX8_tells_79 : decode cX8_tells 79 = .ok (.bipush 19, 2) := by decide +kernel
theorem dX8_tells_81 : decode cX8_tells 81 = .ok (.iload_n 1, 1) := by decide +kernel
theorem dX8_tells_82 : decode cX8_tells 82 = .ok (.imul, 1) := by decide +kernel
theorem dX8_tells_83 : decode cX8_tells 83 = .ok (.iload 5, 2) := by decide +kernel
theorem dX8_tells_85 : decode cX8_tells 85 = .ok (.isub, 1) := by decide +kernel
theorem dX8_tells_86 : decode cX8_tells 86 = .ok (.iconst 2, 1) := by decide +kernel
theorem dX8_tells_87 : decode cX8_tells 87 = .ok (.isub, 1) := by decide +kernel
theorem dX8_tells_88 : decode cX8_tells 88 = .ok (.istore 6, 2) := by decide +kernel
theorem dX8_tells_90 : decode cX8_tells 90 = .ok (.aload_n 0, 1) := by decide +kernel
theorem dX8_tells_91 : decode cX8_tells 91 = .ok (.bipush 41, 2) := by decide +kernel
theorem dX8_tells_93 : decode cX8_tells 93 = .ok (.invokevirtual 133, 3) := by decide +kernel
theorem dX8_tells_96 : decode cX8_tells 96 = .ok (.aload_n 0, 1) := by decide +kernel
theorem dX8_tells_97 : decode cX8_tells 97 = .ok (.bipush 58, 2) := by decide +kernel
theorem dX8_tells_99 : decode cX8_tells 99 = .ok (.invokevirtual 133, 3) := by decide +kernel
theorem dX8_tells_102 : decode cX8_tells 102 = .ok (.aload_n 0, 1) := by decide +kernel
theorem dX8_tells_103 : decode cX8_tells 103 = .ok (.aload_n 0, 1) := by decide +kernel
theorem dX8_tells_104 : decode cX8_tells 104 = .ok (.getfield 61, 3) := by decide +kernel
theorem dX8_tells_107 : decode cX8_tells 107 = .ok (.iload 6, 2) := by decide +kernel
theorem dX8_tells_109 : decode cX8_tells 109 = .ok (.laload, 1) := by decide +kernel
theorem dX8_tells_110 : decode cX8_tells 110 = .ok (.invokevirtual 143, 3) := by decide +kernel
theorem dX8_tells_113 : decode cX8_tells 113 = .ok (.aload_n 0, 1) := by decide +kernel
theorem dX8_tells_114 : decode cX8_tells 114 = .ok (.getfield 65, 3) := by decide +kernel
theorem dX8_tells_117 : decode cX8_tells 117 = .ok (.iload 6, 2) := by decide +kernel
theorem dX8_tells_119 : decode cX8_tells 119 = .ok (.laload, 1) := by decide +kernel
theorem dX8_tells_120 : decode cX8_tells 120 = .ok (.lconst 1, 1) := by decide +kernel
theorem dX8_tells_121 : decode cX8_tells 121 = .ok (.lcmp, 1) := by decide +kernel
theorem dX8_tells_122 : decode cX8_tells 122 = .ok (.ifCond .eq 20, 3) := by decide +kernel
theorem dX8_tells_125 : decode cX8_tells 125 = .ok (.aload_n 0, 1) := by decide +kernel
theorem dX8_tells_126 : decode cX8_tells 126 = .ok (.bipush 47, 2) := by decide +kernel
theorem dX8_tells_128 : decode cX8_tells 128 = .ok (.invokevirtual 133, 3) := by decide +kernel
theorem dX8_tells_131 : decode cX8_tells 131 = .ok (.aload_n 0, 1) := by decide +kernel
theorem dX8_tells_132 : decode cX8_tells 132 = .ok (.aload_n 0, 1) := by decide +kernel
theorem dX8_tells_133 : decode cX8_tells 133 = .ok (.getfield 65, 3) := by decide +kernel
theorem dX8_tells_136 : decode cX8_tells 136 = .ok (.iload 6, 2) := by decide +kernel
theorem dX8_tells_138 : decode cX8_tells 138 = .ok (.laload, 1) := by decide +kernel
theorem dX8_tells_139 : decode cX8_tells 139 = .ok (.invokevirtual 143, 3) := by decide +kernel
theorem dX8_tells_142 : decode cX8_tells 142 = .ok (.goto 167, 3) := by decide +kernel
theorem dX8_tells_145 : decode cX8_tells 145 = .ok (.iload 5, 2) := by decide +kernel
theorem dX8_tells_147 : decode cX8_tells 147 = .ok (.iload_n 2, 1) := by decide +kernel
theorem dX8_tells_148 : decode cX8_tells 148 = .ok (.if_icmp .ge 25, 3) := by decide +kernel
theorem dX8_tells_151 : decode cX8_tells 151 = .ok (.aload_n 0, 1) := by decide +kernel
theorem dX8_tells_152 : decode cX8_tells 152 = .ok (.iload 5, 2) := by decide +kernel
theorem dX8_tells_154 : decode cX8_tells 154 = .ok (.i2l, 1) := by decide +kernel
theorem dX8_tells_155 : decode cX8_tells 155 = .ok (.invokevirtual 143, 3) := by decide +kernel
theorem dX8_tells_158 : decode cX8_tells 158 = .ok (.aload_n 0, 1) := by decide +kernel
theorem dX8_tells_159 : decode cX8_tells 159 = .ok (.getfield 101, 3) := by decide +kernel
theorem dX8_tells_162 : decode cX8_tells 162 = .ok (.iload 4, 2) := by decide +kernel
theorem dX8_tells_164 : decode cX8_tells 164 = .ok (.iload 5, 2) := by decide +kernel
theorem dX8_tells_166 : decode cX8_tells 166 = .ok (.iastore, 1) := by decide +kernel
theorem dX8_tells_167 : decode cX8_tells 167 = .ok (.iinc 4 1, 3) := by decide +kernel
theorem dX8_tells_170 : decode cX8_tells 170 = .ok (.goto 139, 3) := by decide +kernel
theorem dX8_tells_173 : decode cX8_tells 173 = .ok (.bipush 19, 2) := by decide +kernel
theorem dX8_tells_175 : decode cX8_tells 175 = .ok (.iload_n 1, 1) := by decide +kernel
theorem dX8_tells_176 : decode cX8_tells 176 = .ok (.imul, 1) := by decide +kernel
theorem dX8_tells_177 : decode cX8_tells 177 = .ok (.iload 5, 2) := by decide +kernel
theorem dX8_tells_179 : decode cX8_tells 179 = .ok (.iadd, 1) := by decide +kernel
theorem dX8_tells_180 : decode cX8_tells 180 = .ok (.iload_n 2, 1) := by decide +kernel
theorem dX8_tells_181 : decode cX8_tells 181 = .ok (.isub, 1) := by decide +kernel
theorem dX8_tells_182 : decode cX8_tells 182 = .ok (.istore 6, 2) := by decide +kernel
theorem dX8_tells_184 : decode cX8_tells 184 = .ok (.aload_n 0, 1) := by decide +kernel
theorem dX8_tells_185 : decode cX8_tells 185 = .ok (.iload_n 1, 1) := by decide +kernel
theorem dX8_tells_186 : decode cX8_tells 186 = .ok (.aload_n 0, 1) := by decide +kernel
theorem dX8_tells_187 : decode cX8_tells 187 = .ok (.getfield 52, 3) := by decide +kernel
theorem dX8_tells_190 : decode cX8_tells 190 = .ok (.iload 6, 2) := by decide +kernel
theorem dX8_tells_192 : decode cX8_tells 192 = .ok (.iaload, 1) := by decide +kernel
theorem dX8_tells_193 : decode cX8_tells 193 = .ok (.invokevirtual 225, 3) := by decide +kernel
theorem dX8_tells_196 : decode cX8_tells 196 = .ok (.aload_n 0, 1) := by decide +kernel
theorem dX8_tells_197 : decode cX8_tells 197 = .ok (.iload_n 1, 1) := by decide +kernel
theorem dX8_tells_198 : decode cX8_tells 198 = .ok (.aload_n 0, 1) := by decide +kernel
theorem dX8_tells_199 : decode cX8_tells 199 = .ok (.getfield 55, 3) := by decide +kernel
theorem dX8_tells_202 : decode cX8_tells 202 = .ok (.iload 6, 2) := by decide +kernel
theorem dX8_tells_204 : decode cX8_tells 204 = .ok (.iaload, 1) := by decide +kernel
theorem dX8_tells_205 : decode cX8_tells 205 = .ok (.invokevirtual 225, 3) := by decide +kernel
theorem dX8_tells_208 : decode cX8_tells 208 = .ok (.if_icmp .le 7, 3) := by decide +kernel
theorem dX8_tells_211 : decode cX8_tells 211 = .ok (.iconst 1, 1) := by decide +kernel
theorem dX8_tells_212 : decode cX8_tells 212 = .ok (.goto 4, 3) := by decide +kernel
theorem dX8_tells_215 : decode cX8_tells 215 = .ok (.iconst 0, 1) := by decide +kernel
theorem dX8_tells_216 : decode cX8_tells 216 = .ok (.istore 7, 2) := by decide +kernel
theorem dX8_tells_218 : decode cX8_tells 218 = .ok (.aload_n 0, 1) := by decide +kernel
theorem dX8_tells_219 : decode cX8_tells 219 = .ok (.bipush 40, 2) := by decide +kernel
theorem dX8_tells_221 : decode cX8_tells 221 = .ok (.invokevirtual 133, 3) := by decide +kernel
theorem dX8_tells_224 : decode cX8_tells 224 = .ok (.aload_n 0, 1) := by decide +kernel
theorem dX8_tells_225 : decode cX8_tells 225 = .ok (.getfield 98, 3) := by decide +kernel
theorem dX8_tells_228 : decode cX8_tells 228 = .ok (.iload_n 3, 1) := by decide +kernel
theorem dX8_tells_229 : decode cX8_tells 229 = .ok (.bipush (-2), 2) := by decide +kernel
theorem dX8_tells_231 : decode cX8_tells 231 = .ok (.iload 5, 2) := by decide +kernel
theorem dX8_tells_233 : decode cX8_tells 233 = .ok (.iload_n 2, 1) := by decide +kernel
theorem dX8_tells_234 : decode cX8_tells 234 = .ok (.isub, 1) := by decide +kernel
theorem dX8_tells_235 : decode cX8_tells 235 = .ok (.isub, 1) := by decide +kernel
theorem dX8_tells_236 : decode cX8_tells 236 = .ok (.iastore, 1) := by decide +kernel
theorem dX8_tells_237 : decode cX8_tells 237 = .ok (.aload_n 0, 1) := by decide +kernel
theorem dX8_tells_238 : decode cX8_tells 238 = .ok (.getfield 98, 3) := by decide +kernel
theorem dX8_tells_241 : decode cX8_tells 241 = .ok (.iload_n 3, 1) := by decide +kernel
theorem dX8_tells_242 : decode cX8_tells 242 = .ok (.iconst 1, 1) := by decide +kernel
theorem dX8_tells_243 : decode cX8_tells 243 = .ok (.iadd, 1) := by decide +kernel
theorem dX8_tells_244 : decode cX8_tells 244 = .ok (.iload 7, 2) := by decide +kernel
theorem dX8_tells_246 : decode cX8_tells 246 = .ok (.ifCond .eq 13, 3) := by decide +kernel
theorem dX8_tells_249 : decode cX8_tells 249 = .ok (.aload_n 0, 1) := by decide +kernel
theorem dX8_tells_250 : decode cX8_tells 250 = .ok (.getfield 52, 3) := by decide +kernel
theorem dX8_tells_253 : decode cX8_tells 253 = .ok (.iload 6, 2) := by decide +kernel
theorem dX8_tells_255 : decode cX8_tells 255 = .ok (.iaload, 1) := by decide +kernel
theorem dX8_tells_256 : decode cX8_tells 256 = .ok (.goto 10, 3) := by decide +kernel
theorem dX8_tells_259 : decode cX8_tells 259 = .ok (.aload_n 0, 1) := by decide +kernel
theorem dX8_tells_260 : decode cX8_tells 260 = .ok (.getfield 55, 3) := by decide +kernel
theorem dX8_tells_263 : decode cX8_tells 263 = .ok (.iload 6, 2) := by decide +kernel
theorem dX8_tells_265 : decode cX8_tells 265 = .ok (.iaload, 1) := by decide +kernel
theorem dX8_tells_266 : decode cX8_tells 266 = .ok (.iastore, 1) := by decide +kernel
theorem dX8_tells_267 : decode cX8_tells 267 = .ok (.aload_n 0, 1) := by decide +kernel
theorem dX8_tells_268 : decode cX8_tells 268 = .ok (.getfield 98, 3) := by decide +kernel
theorem dX8_tells_271 : decode cX8_tells 271 = .ok (.iload_n 3, 1) := by decide +kernel
theorem dX8_tells_272 : decode cX8_tells 272 = .ok (.iconst 2, 1) := by decide +kernel
theorem dX8_tells_273 : decode cX8_tells 273 = .ok (.iadd, 1) := by decide +kernel
theorem dX8_tells_274 : decode cX8_tells 274 = .ok (.iconst (-1), 1) := by decide +kernel
theorem dX8_tells_275 : decode cX8_tells 275 = .ok (.iastore, 1) := by decide +kernel
theorem dX8_tells_276 : decode cX8_tells 276 = .ok (.aload_n 0, 1) := by decide +kernel
theorem dX8_tells_277 : decode cX8_tells 277 = .ok (.getfield 98, 3) := by decide +kernel
theorem dX8_tells_280 : decode cX8_tells 280 = .ok (.iload_n 3, 1) := by decide +kernel
theorem dX8_tells_281 : decode cX8_tells 281 = .ok (.iconst 3, 1) := by decide +kernel
theorem dX8_tells_282 : decode cX8_tells 282 = .ok (.iadd, 1) := by decide +kernel
theorem dX8_tells_283 : decode cX8_tells 283 = .ok (.iload 7, 2) := by decide +kernel
theorem dX8_tells_285 : decode cX8_tells 285 = .ok (.ifCond .eq 13, 3) := by decide +kernel
theorem dX8_tells_288 : decode cX8_tells 288 = .ok (.aload_n 0, 1) := by decide +kernel
theorem dX8_tells_289 : decode cX8_tells 289 = .ok (.getfield 55, 3) := by decide +kernel
theorem dX8_tells_292 : decode cX8_tells 292 = .ok (.iload 6, 2) := by decide +kernel
theorem dX8_tells_294 : decode cX8_tells 294 = .ok (.iaload, 1) := by decide +kernel
theorem dX8_tells_295 : decode cX8_tells 295 = .ok (.goto 10, 3) := by decide +kernel
theorem dX8_tells_298 : decode cX8_tells 298 = .ok (.aload_n 0, 1) := by decide +kernel
theorem dX8_tells_299 : decode cX8_tells 299 = .ok (.getfield 52, 3) := by decide +kernel
theorem dX8_tells_302 : decode cX8_tells 302 = .ok (.iload 6, 2) := by decide +kernel
theorem dX8_tells_304 : decode cX8_tells 304 = .ok (.iaload, 1) := by decide +kernel
theorem dX8_tells_305 : decode cX8_tells 305 = .ok (.iastore, 1) := by decide +kernel
theorem dX8_tells_306 : decode cX8_tells 306 = .ok (.iinc 3 4, 3) := by decide +kernel
theorem dX8_tells_309 : decode cX8_tells 309 = .ok (.goto (-266), 3) := by decide +kernel
theorem dX8_tells_312 : decode cX8_tells 312 = .ok (.aload_n 0, 1) := by decide +kernel
theorem dX8_tells_313 : decode cX8_tells 313 = .ok (.bipush 59, 2) := by decide +kernel
theorem dX8_tells_315 : decode cX8_tells 315 = .ok (.invokevirtual 133, 3) := by decide +kernel
theorem dX8_tells_318 : decode cX8_tells 318 = .ok (.return_, 1) := by decide +kernel
theorem dX8_text_0 : decode cX8_text 0 = .ok (.aload_n 0, 1) := by decide +kernel
theorem dX8_text_1 : decode cX8_text 1 = .ok (.iload_n 1, 1) := by decide +kernel
theorem dX8_text_2 : decode cX8_text 2 = .ok (.invokevirtual 215, 3) := by decide +kernel
theorem dX8_text_5 : decode cX8_text 5 = .ok (.ifCond .ne 5, 3) := by decide +kernel
theorem dX8_text_8 : decode cX8_text 8 = .ok (.iconst (-1), 1) := by decide +kernel
theorem dX8_text_9 : decode cX8_text 9 = .ok (.ireturn, 1) := by decide +kernel
theorem dX8_text_10 : decode cX8_text 10 = .ok (.aload_n 0, 1) := by decide +kernel
theorem dX8_text_11 : decode cX8_text 11 = .ok (.iload_n 1, 1) := by decide +kernel
theorem dX8_text_12 : decode cX8_text 12 = .ok (.invokevirtual 228, 3) := by decide +kernel
theorem dX8_text_15 : decode cX8_text 15 = .ok (.aload_n 0, 1) := by decide +kernel
theorem dX8_text_16 : decode cX8_text 16 = .ok (.getfield 126, 3) := by decide +kernel
theorem dX8_text_19 : decode cX8_text 19 = .ok (.ireturn, 1) := by decide +kernel
theorem dX8_order_0 : decode cX8_order 0 = .ok (.aload_n 0, 1) := by decide +kernel
theorem dX8_order_1 : decode cX8_order 1 = .ok (.iload_n 1, 1) := by decide +kernel
theorem dX8_order_2 : decode cX8_order 2 = .ok (.invokevirtual 215, 3) := by decide +kernel
theorem dX8_order_5 : decode cX8_order 5 = .ok (.ifCond .eq 16, 3) := by decide +kernel
theorem dX8_order_8 : decode cX8_order 8 = .ok (.iload_n 2, 1) := by decide +kernel
theorem dX8_order_9 : decode cX8_order 9 = .ok (.aload_n 0, 1) := by decide +kernel
theorem dX8_order_10 : decode cX8_order 10 = .ok (.getfield 40, 3) := by decide +kernel
theorem dX8_order_13 : decode cX8_order 13 = .ok (.iload_n 1, 1) := by decide +kernel
theorem dX8_order_14 : decode cX8_order 14 = .ok (.iaload, 1) := by decide +kernel
theorem dX8_order_15 : decode cX8_order 15 = .ok (.invokestatic 110, 3) := by decide +kernel
theorem dX8_order_18 : decode cX8_order 18 = .ok (.ifCond .ne 5, 3) := by decide +kernel
theorem dX8_order_21 : decode cX8_order 21 = .ok (.iconst (-1), 1) := by decide +kernel
theorem dX8_order_22 : decode cX8_order 22 = .ok (.ireturn, 1) := by decide +kernel
theorem dX8_order_23 : decode cX8_order 23 = .ok (.aload_n 0, 1) := by decide +kernel
theorem dX8_order_24 : decode cX8_order 24 = .ok (.getfield 126, 3) := by decide +kernel
theorem dX8_order_27 : decode cX8_order 27 = .ok (.istore_n 3, 1) := by decide +kernel
theorem dX8_order_28 : decode cX8_order 28 = .ok (.iconst 0, 1) := by decide +kernel
theorem dX8_order_29 : decode cX8_order 29 = .ok (.istore 4, 2) := by decide +kernel
theorem dX8_order_31 : decode cX8_order 31 = .ok (.iload 4, 2) := by decide +kernel
theorem dX8_order_33 : decode cX8_order 33 = .ok (.iload_n 3, 1) := by decide +kernel
theorem dX8_order_34 : decode cX8_order 34 = .ok (.if_icmp .ge 23, 3) := by decide +kernel
theorem dX8_order_37 : decode cX8_order 37 = .ok (.aload_n 0, 1) := by decide +kernel
theorem dX8_order_38 : decode cX8_order 38 = .ok (.getfield 104, 3) := by decide +kernel
theorem dX8_order_41 : decode cX8_order 41 = .ok (.iload 4, 2) := by decide +kernel
theorem dX8_order_43 : decode cX8_order 43 = .ok (.aload_n 0, 1) := by decide +kernel
theorem dX8_order_44 : decode cX8_order 44 = .ok (.getfield 23, 3) := by decide +kernel
theorem dX8_order_47 : decode cX8_order 47 = .ok (.iload 4, 2) := by decide +kernel
theorem dX8_order_49 : decode cX8_order 49 = .ok (.baload, 1) := by decide +kernel
theorem dX8_order_50 : decode cX8_order 50 = .ok (.bastore, 1) := by decide +kernel
theorem dX8_order_51 : decode cX8_order 51 = .ok (.iinc 4 1, 3) := by decide +kernel
theorem dX8_order_54 : decode cX8_order 54 = .ok (.goto (-23), 3) := by decide +kernel
theorem dX8_order_57 : decode cX8_order 57 = .ok (.aload_n 0, 1) := by decide +kernel
theorem dX8_order_58 : decode cX8_order 58 = .ok (.iload_n 1, 1) := by decide +kernel
theorem dX8_order_59 : decode cX8_order 59 = .ok (.invokevirtual 228, 3) := by decide +kernel
theorem dX8_order_62 : decode cX8_order 62 = .ok (.iconst 0, 1) := by decide +kernel
theorem dX8_order_63 : decode cX8_order 63 = .ok (.istore 4, 2) := by decide +kernel
theorem dX8_order_65 : decode cX8_order 65 = .ok (.iload 4, 2) := by decide +kernel
theorem dX8_order_67 : decode cX8_order 67 = .ok (.iload_n 3, 1) := by decide +kernel
theorem dX8_order_68 : decode cX8_order 68 = .ok (.if_icmp .ge 23, 3) := by decide +kernel
theorem dX8_order_71 : decode cX8_order 71 = .ok (.aload_n 0, 1) := by decide +kernel
theorem dX8_order_72 : decode cX8_order 72 = .ok (.getfield 23, 3) := by decide +kernel
theorem dX8_order_75 : decode cX8_order 75 = .ok (.iload 4, 2) := by decide +kernel
theorem dX8_order_77 : decode cX8_order 77 = .ok (.aload_n 0, 1) := by decide +kernel
theorem dX8_order_78 : decode cX8_order 78 = .ok (.getfield 104, 3) := by decide +kernel
theorem dX8_order_81 : decode cX8_order 81 = .ok (.iload 4, 2) := by decide +kernel
theorem dX8_order_83 : decode cX8_order 83 = .ok (.baload, 1) := by decide +kernel
theorem dX8_order_84 : decode cX8_order 84 = .ok (.bastore, 1) := by decide +kernel
theorem dX8_order_85 : decode cX8_order 85 = .ok (.iinc 4 1, 3) := by decide +kernel
theorem dX8_order_88 : decode cX8_order 88 = .ok (.goto (-23), 3) := by decide +kernel
theorem dX8_order_91 : decode cX8_order 91 = .ok (.aload_n 0, 1) := by decide +kernel
theorem dX8_order_92 : decode cX8_order 92 = .ok (.iload_n 3, 1) := by decide +kernel
theorem dX8_order_93 : decode cX8_order 93 = .ok (.putfield 126, 3) := by decide +kernel
theorem dX8_order_96 : decode cX8_order 96 = .ok (.aload_n 0, 1) := by decide +kernel
theorem dX8_order_97 : decode cX8_order 97 = .ok (.getfield 101, 3) := by decide +kernel
theorem dX8_order_100 : decode cX8_order 100 = .ok (.iload_n 2, 1) := by decide +kernel
theorem dX8_order_101 : decode cX8_order 101 = .ok (.iaload, 1) := by decide +kernel
theorem dX8_order_102 : decode cX8_order 102 = .ok (.ireturn, 1) := by decide +kernel
theorem dX8_labelled_0 : decode cX8_labelled 0 = .ok (.aload_n 0, 1) := by decide +kernel
theorem dX8_labelled_1 : decode cX8_labelled 1 = .ok (.getfield 40, 3) := by decide +kernel
theorem dX8_labelled_4 : decode cX8_labelled 4 = .ok (.iload_n 1, 1) := by decide +kernel
theorem dX8_labelled_5 : decode cX8_labelled 5 = .ok (.iaload, 1) := by decide +kernel
theorem dX8_labelled_6 : decode cX8_labelled 6 = .ok (.istore_n 3, 1) := by decide +kernel
theorem dX8_labelled_7 : decode cX8_labelled 7 = .ok (.iconst 0, 1) := by decide +kernel
theorem dX8_labelled_8 : decode cX8_labelled 8 = .ok (.istore 4, 2) := by decide +kernel
theorem dX8_labelled_10 : decode cX8_labelled 10 = .ok (.iconst 0, 1) := by decide +kernel
theorem dX8_labelled_11 : decode cX8_labelled 11 = .ok (.istore 5, 2) := by decide +kernel
theorem dX8_labelled_13 : decode cX8_labelled 13 = .ok (.iload 5, 2) := by decide +kernel
theorem dX8_labelled_15 : decode cX8_labelled 15 = .ok (.iload_n 3, 1) := by decide +kernel
theorem dX8_labelled_16 : decode cX8_labelled 16 = .ok (.if_icmp .ge 152, 3) := by decide +kernel
theorem dX8_labelled_19 : decode cX8_labelled 19 = .ok (.iconst 1, 1) := by decide +kernel
theorem dX8_labelled_20 : decode cX8_labelled 20 = .ok (.iload 5, 2) := by decide +kernel
theorem dX8_labelled_22 : decode cX8_labelled 22 = .ok (.ishl, 1) := by decide +kernel
theorem dX8_labelled_23 : decode cX8_labelled 23 = .ok (.istore 6, 2) := by decide +kernel
theorem dX8_labelled_25 : decode cX8_labelled 25 = .ok (.iconst 0, 1) := by decide +kernel
theorem dX8_labelled_26 : decode cX8_labelled 26 = .ok (.istore 7, 2) := by decide +kernel
theorem dX8_labelled_28 : decode cX8_labelled 28 = .ok (.iload 7, 2) := by decide +kernel
theorem dX8_labelled_30 : decode cX8_labelled 30 = .ok (.aload_n 0, 1) := by decide +kernel
theorem dX8_labelled_31 : decode cX8_labelled 31 = .ok (.iload_n 1, 1) := by decide +kernel
theorem dX8_labelled_32 : decode cX8_labelled 32 = .ok (.invokevirtual 219, 3) := by decide +kernel
theorem dX8_labelled_35 : decode cX8_labelled 35 = .ok (.if_icmp .ge 57, 3) := by decide +kernel
theorem dX8_labelled_38 : decode cX8_labelled 38 = .ok (.iload_n 2, 1) := by decide +kernel
theorem dX8_labelled_39 : decode cX8_labelled 39 = .ok (.iload 7, 2) := by decide +kernel
theorem dX8_labelled_41 : decode cX8_labelled 41 = .ok (.ishr, 1) := by decide +kernel
theorem dX8_labelled_42 : decode cX8_labelled 42 = .ok (.iconst 1, 1) := by decide +kernel
theorem dX8_labelled_43 : decode cX8_labelled 43 = .ok (.iand, 1) := by decide +kernel
theorem dX8_labelled_44 : decode cX8_labelled 44 = .ok (.iconst 1, 1) := by decide +kernel
theorem dX8_labelled_45 : decode cX8_labelled 45 = .ok (.if_icmp .ne 41, 3) := by decide +kernel
theorem dX8_labelled_48 : decode cX8_labelled 48 = .ok (.aload_n 0, 1) := by decide +kernel
theorem dX8_labelled_49 : decode cX8_labelled 49 = .ok (.getfield 58, 3) := by decide +kernel
theorem dX8_labelled_52 : decode cX8_labelled 52 = .ok (.bipush 19, 2) := by decide +kernel
theorem dX8_labelled_54 : decode cX8_labelled 54 = .ok (.iload_n 1, 1) := by decide +kernel
theorem dX8_labelled_55 : decode cX8_labelled 55 = .ok (.imul, 1) := by decide +kernel
theorem dX8_labelled_56 : decode cX8_labelled 56 = .ok (.iload 7, 2) := by decide +kernel
theorem dX8_labelled_58 : decode cX8_labelled 58 = .ok (.iadd, 1) := by decide +kernel
theorem dX8_labelled_59 : decode cX8_labelled 59 = .ok (.iaload, 1) := by decide +kernel
theorem dX8_labelled_60 : decode cX8_labelled 60 = .ok (.iload 5, 2) := by decide +kernel
theorem dX8_labelled_62 : decode cX8_labelled 62 = .ok (.ishr, 1) := by decide +kernel
theorem dX8_labelled_63 : decode cX8_labelled 63 = .ok (.iconst 1, 1) := by decide +kernel
theorem dX8_labelled_64 : decode cX8_labelled 64 = .ok (.iand, 1) := by decide +kernel
theorem dX8_labelled_65 : decode cX8_labelled 65 = .ok (.iconst 1, 1) := by decide +kernel
theorem dX8_labelled_66 : decode cX8_labelled 66 = .ok (.if_icmp .ne 20, 3) := by decide +kernel
theorem dX8_labelled_69 : decode cX8_labelled 69 = .ok (.iload 6, 2) := by decide +kernel
theorem dX8_labelled_71 : decode cX8_labelled 71 = .ok (.aload_n 0, 1) := by decide +kernel
theorem dX8_labelled_72 : decode cX8_labelled 72 = .ok (.getfield 58, 3) := by decide +kernel
theorem dX8_labelled_75 : decode cX8_labelled 75 = .ok (.bipush 19, 2) := by decide +kernel
theorem dX8_labelled_77 : decode cX8_labelled 77 = .ok (.iload_n 1, 1) := by decide +kernel
theorem dX8_labelled_78 : decode cX8_labelled 78 = .ok (.imul, 1) := by decide +kernel
theorem dX8_labelled_79 : decode cX8_labelled 79 = .ok (.iload 7, 2) := by decide +kernel
theorem dX8_labelled_81 : decode cX8_labelled 81 = .ok (.iadd, 1) := by decide +kernel
theorem dX8_labelled_82 : decode cX8_labelled 82 = .ok (.iaload, 1) := by decide +kernel
theorem dX8_labelled_83 : decode cX8_labelled 83 = .ok (.ior, 1) := by decide +kernel
theorem dX8_labelled_84 : decode cX8_labelled 84 = .ok (.istore 6, 2) := by decide +kernel
theorem dX8_labelled_86 : decode cX8_labelled 86 = .ok (.iinc 7 1, 3) := by decide +kernel
theorem dX8_labelled_89 : decode cX8_labelled 89 = .ok (.goto (-61), 3) := by decide +kernel
theorem dX8_labelled_92 : decode cX8_labelled 92 = .ok (.iconst 0, 1) := by decide +kernel
theorem dX8_labelled_93 : decode cX8_labelled 93 = .ok (.istore 7, 2) := by decide +kernel
theorem dX8_labelled_95 : decode cX8_labelled 95 = .ok (.iload 6, 2) := by decide +kernel
theorem dX8_labelled_97 : decode cX8_labelled 97 = .ok (.iload 7, 2) := by decide +kernel
theorem dX8_labelled_99 : decode cX8_labelled 99 = .ok (.ishr, 1) := by decide +kernel
theorem dX8_labelled_100 : decode cX8_labelled 100 = .ok (.iconst 1, 1) := by decide +kernel
theorem dX8_labelled_101 : decode cX8_labelled 101 = .ok (.iand, 1) := by decide +kernel
theorem dX8_labelled_102 : decode cX8_labelled 102 = .ok (.ifCond .ne 9, 3) := by decide +kernel
theorem dX8_labelled_105 : decode cX8_labelled 105 = .ok (.iinc 7 1, 3) := by decide +kernel
theorem dX8_labelled_108 : decode cX8_labelled 108 = .ok (.goto (-13), 3) := by decide +kernel
theorem dX8_labelled_111 : decode cX8_labelled 111 = .ok (.iload 7, 2) := by decide +kernel
theorem dX8_labelled_113 : decode cX8_labelled 113 = .ok (.iload 5, 2) := by decide +kernel
theorem dX8_labelled_115 : decode cX8_labelled 115 = .ok (.if_icmp .ne 23, 3) := by decide +kernel
theorem dX8_labelled_118 : decode cX8_labelled 118 = .ok (.aload_n 0, 1) := by decide +kernel
theorem dX8_labelled_119 : decode cX8_labelled 119 = .ok (.getfield 68, 3) := by decide +kernel
theorem dX8_labelled_122 : decode cX8_labelled 122 = .ok (.bipush 20, 2) := by decide +kernel
theorem dX8_labelled_124 : decode cX8_labelled 124 = .ok (.iload_n 1, 1) := by decide +kernel
theorem dX8_labelled_125 : decode cX8_labelled 125 = .ok (.imul, 1) := by decide +kernel
theorem dX8_labelled_126 : decode cX8_labelled 126 = .ok (.iload 5, 2) := by decide +kernel
theorem dX8_labelled_128 : decode cX8_labelled 128 = .ok (.iadd, 1) := by decide +kernel
theorem dX8_labelled_129 : decode cX8_labelled 129 = .ok (.iload 4, 2) := by decide +kernel
theorem dX8_labelled_131 : decode cX8_labelled 131 = .ok (.iastore, 1) := by decide +kernel
theorem dX8_labelled_132 : decode cX8_labelled 132 = .ok (.iinc 4 1, 3) := by decide +kernel
theorem dX8_labelled_135 : decode cX8_labelled 135 = .ok (.goto 27, 3) := by decide +kernel
theorem dX8_labelled_138 : decode cX8_labelled 138 = .ok (.aload_n 0, 1) := by decide +kernel
theorem dX8_labelled_139 : decode cX8_labelled 139 = .ok (.getfield 68, 3) := by decide +kernel
theorem dX8_labelled_142 : decode cX8_labelled 142 = .ok (.bipush 20, 2) := by decide +kernel
theorem dX8_labelled_144 : decode cX8_labelled 144 = .ok (.iload_n 1, 1) := by decide +kernel
theorem dX8_labelled_145 : decode cX8_labelled 145 = .ok (.imul, 1) := by decide +kernel
theorem dX8_labelled_146 : decode cX8_labelled 146 = .ok (.iload 5, 2) := by decide +kernel
theorem dX8_labelled_148 : decode cX8_labelled 148 = .ok (.iadd, 1) := by decide +kernel
theorem dX8_labelled_149 : decode cX8_labelled 149 = .ok (.aload_n 0, 1) := by decide +kernel
theorem dX8_labelled_150 : decode cX8_labelled 150 = .ok (.getfield 68, 3) := by decide +kernel
theorem dX8_labelled_153 : decode cX8_labelled 153 = .ok (.bipush 20, 2) := by decide +kernel
theorem dX8_labelled_155 : decode cX8_labelled 155 = .ok (.iload_n 1, 1) := by decide +kernel
theorem dX8_labelled_156 : decode cX8_labelled 156 = .ok (.imul, 1) := by decide +kernel
theorem dX8_labelled_157 : decode cX8_labelled 157 = .ok (.iload 7, 2) := by decide +kernel
theorem dX8_labelled_159 : decode cX8_labelled 159 = .ok (.iadd, 1) := by decide +kernel
theorem dX8_labelled_160 : decode cX8_labelled 160 = .ok (.iaload, 1) := by decide +kernel
theorem dX8_labelled_161 : decode cX8_labelled 161 = .ok (.iastore, 1) := by decide +kernel
theorem dX8_labelled_162 : decode cX8_labelled 162 = .ok (.iinc 5 1, 3) := by decide +kernel
theorem dX8_labelled_165 : decode cX8_labelled 165 = .ok (.goto (-152), 3) := by decide +kernel
theorem dX8_labelled_168 : decode cX8_labelled 168 = .ok (.iload 4, 2) := by decide +kernel
theorem dX8_labelled_170 : decode cX8_labelled 170 = .ok (.ireturn, 1) := by decide +kernel
theorem dX8_cut_0 : decode cX8_cut 0 = .ok (.aload_n 0, 1) := by decide +kernel
theorem dX8_cut_1 : decode cX8_cut 1 = .ok (.iload_n 1, 1) := by decide +kernel
theorem dX8_cut_2 : decode cX8_cut 2 = .ok (.invokevirtual 215, 3) := by decide +kernel
theorem dX8_cut_5 : decode cX8_cut 5 = .ok (.ifCond .ne 5, 3) := by decide +kernel
theorem dX8_cut_8 : decode cX8_cut 8 = .ok (.iconst (-1), 1) := by decide +kernel
theorem dX8_cut_9 : decode cX8_cut 9 = .ok (.ireturn, 1) := by decide +kernel
theorem dX8_cut_10 : decode cX8_cut 10 = .ok (.aload_n 0, 1) := by decide +kernel
theorem dX8_cut_11 : decode cX8_cut 11 = .ok (.getfield 40, 3) := by decide +kernel
theorem dX8_cut_14 : decode cX8_cut 14 = .ok (.iload_n 1, 1) := by decide +kernel
theorem dX8_cut_15 : decode cX8_cut 15 = .ok (.iaload, 1) := by decide +kernel
theorem dX8_cut_16 : decode cX8_cut 16 = .ok (.istore_n 3, 1) := by decide +kernel
theorem dX8_cut_17 : decode cX8_cut 17 = .ok (.iload_n 3, 1) := by decide +kernel
theorem dX8_cut_18 : decode cX8_cut 18 = .ok (.ifCond .ne 10, 3) := by decide +kernel
theorem dX8_cut_21 : decode cX8_cut 21 = .ok (.iload_n 2, 1) := by decide +kernel
theorem dX8_cut_22 : decode cX8_cut 22 = .ok (.ifCond .eq 18, 3) := by decide +kernel
theorem dX8_cut_25 : decode cX8_cut 25 = .ok (.goto 13, 3) := by decide +kernel
theorem dX8_cut_28 : decode cX8_cut 28 = .ok (.iload_n 2, 1) := by decide +kernel
theorem dX8_cut_29 : decode cX8_cut 29 = .ok (.iconst 1, 1) := by decide +kernel
theorem dX8_cut_30 : decode cX8_cut 30 = .ok (.if_icmp .lt 8, 3) := by decide +kernel
theorem dX8_cut_33 : decode cX8_cut 33 = .ok (.iload_n 2, 1) := by decide +kernel
theorem dX8_cut_34 : decode cX8_cut 34 = .ok (.iload_n 3, 1) := by decide +kernel
theorem dX8_cut_35 : decode cX8_cut 35 = .ok (.if_icmp .le 5, 3) := by decide +kernel
theorem dX8_cut_38 : decode cX8_cut 38 = .ok (.iconst (-1), 1) := by decide +kernel
theorem dX8_cut_39 : decode cX8_cut 39 = .ok (.ireturn, 1) := by decide +kernel
theorem dX8_cut_40 : decode cX8_cut 40 = .ok (.iload_n 3, 1) := by decide +kernel
theorem dX8_cut_41 : decode cX8_cut 41 = .ok (.ifCond .ne 5, 3) := by decide +kernel
theorem dX8_cut_44 : decode cX8_cut 44 = .ok (.iconst 0, 1) := by decide +kernel
theorem dX8_cut_45 : decode cX8_cut 45 = .ok (.ireturn, 1) := by decide +kernel
theorem dX8_cut_46 : decode cX8_cut 46 = .ok (.aload_n 0, 1) := by decide +kernel
theorem dX8_cut_47 : decode cX8_cut 47 = .ok (.iload_n 1, 1) := by decide +kernel
theorem dX8_cut_48 : decode cX8_cut 48 = .ok (.iconst 1, 1) := by decide +kernel
theorem dX8_cut_49 : decode cX8_cut 49 = .ok (.iload_n 3, 1) := by decide +kernel
theorem dX8_cut_50 : decode cX8_cut 50 = .ok (.iload_n 2, 1) := by decide +kernel
theorem dX8_cut_51 : decode cX8_cut 51 = .ok (.isub, 1) := by decide +kernel
theorem dX8_cut_52 : decode cX8_cut 52 = .ok (.ishl, 1) := by decide +kernel
theorem dX8_cut_53 : decode cX8_cut 53 = .ok (.iconst 1, 1) := by decide +kernel
theorem dX8_cut_54 : decode cX8_cut 54 = .ok (.isub, 1) := by decide +kernel
theorem dX8_cut_55 : decode cX8_cut 55 = .ok (.invokevirtual 231, 3) := by decide +kernel
theorem dX8_cut_58 : decode cX8_cut 58 = .ok (.ireturn, 1) := by decide +kernel
theorem dX8_cutAt_0 : decode cX8_cutAt 0 = .ok (.aload_n 0, 1) := by decide +kernel
theorem dX8_cutAt_1 : decode cX8_cutAt 1 = .ok (.iload_n 1, 1) := by decide +kernel
theorem dX8_cutAt_2 : decode cX8_cutAt 2 = .ok (.invokevirtual 215, 3) := by decide +kernel
theorem dX8_cutAt_5 : decode cX8_cutAt 5 = .ok (.ifCond .eq 25, 3) := by decide +kernel
theorem dX8_cutAt_8 : decode cX8_cutAt 8 = .ok (.iload_n 2, 1) := by decide +kernel
theorem dX8_cutAt_9 : decode cX8_cutAt 9 = .ok (.ifCond .lt 21, 3) := by decide +kernel
theorem dX8_cutAt_12 : decode cX8_cutAt 12 = .ok (.iload_n 2, 1) := by decide +kernel
theorem dX8_cutAt_13 : decode cX8_cutAt 13 = .ok (.ldc 234, 2) := by decide +kernel
theorem dX8_cutAt_15 : decode cX8_cutAt 15 = .ok (.if_icmp .gt 15, 3) := by decide +kernel
theorem dX8_cutAt_18 : decode cX8_cutAt 18 = .ok (.iload_n 3, 1) := by decide +kernel
theorem dX8_cutAt_19 : decode cX8_cutAt 19 = .ok (.iconst 1, 1) := by decide +kernel
theorem dX8_cutAt_20 : decode cX8_cutAt 20 = .ok (.if_icmp .lt 10, 3) := by decide +kernel
theorem dX8_cutAt_23 : decode cX8_cutAt 23 = .ok (.iload_n 3, 1) := by decide +kernel
theorem dX8_cutAt_24 : decode cX8_cutAt 24 = .ok (.sipush 1000, 3) := by decide +kernel
theorem dX8_cutAt_27 : decode cX8_cutAt 27 = .ok (.if_icmp .le 5, 3) := by decide +kernel
theorem dX8_cutAt_30 : decode cX8_cutAt 30 = .ok (.iconst (-1), 1) := by decide +kernel
theorem dX8_cutAt_31 : decode cX8_cutAt 31 = .ok (.ireturn, 1) := by decide +kernel
theorem dX8_cutAt_32 : decode cX8_cutAt 32 = .ok (.iconst 0, 1) := by decide +kernel
theorem dX8_cutAt_33 : decode cX8_cutAt 33 = .ok (.istore 4, 2) := by decide +kernel
theorem dX8_cutAt_35 : decode cX8_cutAt 35 = .ok (.iconst 0, 1) := by decide +kernel
theorem dX8_cutAt_36 : decode cX8_cutAt 36 = .ok (.istore 5, 2) := by decide +kernel
theorem dX8_cutAt_38 : decode cX8_cutAt 38 = .ok (.iload 5, 2) := by decide +kernel
theorem dX8_cutAt_40 : decode cX8_cutAt 40 = .ok (.aload_n 0, 1) := by decide +kernel
theorem dX8_cutAt_41 : decode cX8_cutAt 41 = .ok (.iload_n 1, 1) := by decide +kernel
theorem dX8_cutAt_42 : decode cX8_cutAt 42 = .ok (.invokevirtual 219, 3) := by decide +kernel
theorem dX8_cutAt_45 : decode cX8_cutAt 45 = .ok (.if_icmp .ge 52, 3) := by decide +kernel
theorem dX8_cutAt_48 : decode cX8_cutAt 48 = .ok (.aload_n 0, 1) := by decide +kernel
theorem dX8_cutAt_49 : decode cX8_cutAt 49 = .ok (.getfield 61, 3) := by decide +kernel
theorem dX8_cutAt_52 : decode cX8_cutAt 52 = .ok (.bipush 19, 2) := by decide +kernel
theorem dX8_cutAt_54 : decode cX8_cutAt 54 = .ok (.iload_n 1, 1) := by decide +kernel
theorem dX8_cutAt_55 : decode cX8_cutAt 55 = .ok (.imul, 1) := by decide +kernel
theorem dX8_cutAt_56 : decode cX8_cutAt 56 = .ok (.iload 5, 2) := by decide +kernel
theorem dX8_cutAt_58 : decode cX8_cutAt 58 = .ok (.iadd, 1) := by decide +kernel
theorem dX8_cutAt_59 : decode cX8_cutAt 59 = .ok (.laload, 1) := by decide +kernel
theorem dX8_cutAt_60 : decode cX8_cutAt 60 = .ok (.aload_n 0, 1) := by decide +kernel
theorem dX8_cutAt_61 : decode cX8_cutAt 61 = .ok (.getfield 65, 3) := by decide +kernel
theorem dX8_cutAt_64 : decode cX8_cutAt 64 = .ok (.bipush 19, 2) := by decide +kernel
theorem dX8_cutAt_66 : decode cX8_cutAt 66 = .ok (.iload_n 1, 1) := by decide +kernel
theorem dX8_cutAt_67 : decode cX8_cutAt 67 = .ok (.imul, 1) := by decide +kernel
theorem dX8_cutAt_68 : decode cX8_cutAt 68 = .ok (.iload 5, 2) := by decide +kernel
theorem dX8_cutAt_70 : decode cX8_cutAt 70 = .ok (.iadd, 1) := by decide +kernel
theorem dX8_cutAt_71 : decode cX8_cutAt 71 = .ok (.laload, 1) := by decide +kernel
theorem dX8_cutAt_72 : decode cX8_cutAt 72 = .ok (.iload_n 2, 1) := by decide +kernel
theorem dX8_cutAt_73 : decode cX8_cutAt 73 = .ok (.i2l, 1) := by decide +kernel
theorem dX8_cutAt_74 : decode cX8_cutAt 74 = .ok (.iload_n 3, 1) := by decide +kernel
theorem dX8_cutAt_75 : decode cX8_cutAt 75 = .ok (.i2l, 1) := by decide +kernel
theorem dX8_cutAt_76 : decode cX8_cutAt 76 = .ok (.invokestatic 191, 3) := by decide +kernel
theorem dX8_cutAt_79 : decode cX8_cutAt 79 = .ok (.ifCond .gt 12, 3) := by decide +kernel
theorem dX8_cutAt_82 : decode cX8_cutAt 82 = .ok (.iload 4, 2) := by decide +kernel
theorem dX8_cutAt_84 : decode cX8_cutAt 84 = .ok (.iconst 1, 1) := by decide +kernel
theorem dX8_cutAt_85 : decode cX8_cutAt 85 = .ok (.iload 5, 2) := by decide +kernel
theorem dX8_cutAt_87 : decode cX8_cutAt 87 = .ok (.ishl, 1) := by decide +kernel
theorem dX8_cutAt_88 : decode cX8_cutAt 88 = .ok (.ior, 1) := by decide +kernel
theorem dX8_cutAt_89 : decode cX8_cutAt 89 = .ok (.istore 4, 2) := by decide +kernel
theorem dX8_cutAt_91 : decode cX8_cutAt 91 = .ok (.iinc 5 1, 3) := by decide +kernel
theorem dX8_cutAt_94 : decode cX8_cutAt 94 = .ok (.goto (-56), 3) := by decide +kernel
theorem dX8_cutAt_97 : decode cX8_cutAt 97 = .ok (.aload_n 0, 1) := by decide +kernel
theorem dX8_cutAt_98 : decode cX8_cutAt 98 = .ok (.iload_n 1, 1) := by decide +kernel
theorem dX8_cutAt_99 : decode cX8_cutAt 99 = .ok (.iload 4, 2) := by decide +kernel
theorem dX8_cutAt_101 : decode cX8_cutAt 101 = .ok (.invokevirtual 231, 3) := by decide +kernel
theorem dX8_cutAt_104 : decode cX8_cutAt 104 = .ok (.ireturn, 1) := by decide +kernel
theorem dX8_label_0 : decode cX8_label 0 = .ok (.aload_n 0, 1) := by decide +kernel
theorem dX8_label_1 : decode cX8_label 1 = .ok (.iload_n 1, 1) := by decide +kernel
theorem dX8_label_2 : decode cX8_label 2 = .ok (.invokevirtual 215, 3) := by decide +kernel
theorem dX8_label_5 : decode cX8_label 5 = .ok (.ifCond .eq 30, 3) := by decide +kernel
theorem dX8_label_8 : decode cX8_label 8 = .ok (.iload_n 2, 1) := by decide +kernel
theorem dX8_label_9 : decode cX8_label 9 = .ok (.aload_n 0, 1) := by decide +kernel
theorem dX8_label_10 : decode cX8_label 10 = .ok (.getfield 40, 3) := by decide +kernel
theorem dX8_label_13 : decode cX8_label 13 = .ok (.iload_n 1, 1) := by decide +kernel
theorem dX8_label_14 : decode cX8_label 14 = .ok (.iaload, 1) := by decide +kernel
theorem dX8_label_15 : decode cX8_label 15 = .ok (.invokestatic 110, 3) := by decide +kernel
theorem dX8_label_18 : decode cX8_label 18 = .ok (.ifCond .eq 17, 3) := by decide +kernel
theorem dX8_label_21 : decode cX8_label 21 = .ok (.aload_n 0, 1) := by decide +kernel
theorem dX8_label_22 : decode cX8_label 22 = .ok (.getfield 68, 3) := by decide +kernel
theorem dX8_label_25 : decode cX8_label 25 = .ok (.bipush 20, 2) := by decide +kernel
theorem dX8_label_27 : decode cX8_label 27 = .ok (.iload_n 1, 1) := by decide +kernel
theorem dX8_label_28 : decode cX8_label 28 = .ok (.imul, 1) := by decide +kernel
theorem dX8_label_29 : decode cX8_label 29 = .ok (.iload_n 2, 1) := by decide +kernel
theorem dX8_label_30 : decode cX8_label 30 = .ok (.iadd, 1) := by decide +kernel
theorem dX8_label_31 : decode cX8_label 31 = .ok (.iaload, 1) := by decide +kernel
theorem dX8_label_32 : decode cX8_label 32 = .ok (.goto 4, 3) := by decide +kernel
theorem dX8_label_35 : decode cX8_label 35 = .ok (.iconst (-1), 1) := by decide +kernel
theorem dX8_label_36 : decode cX8_label 36 = .ok (.ireturn, 1) := by decide +kernel
theorem dX8_agree_0 : decode cX8_agree 0 = .ok (.aload_n 0, 1) := by decide +kernel
theorem dX8_agree_1 : decode cX8_agree 1 = .ok (.iload_n 1, 1) := by decide +kernel
theorem dX8_agree_2 : decode cX8_agree 2 = .ok (.invokevirtual 215, 3) := by decide +kernel
theorem dX8_agree_5 : decode cX8_agree 5 = .ok (.ifCond .eq 26, 3) := by decide +kernel
theorem dX8_agree_8 : decode cX8_agree 8 = .ok (.aload_n 0, 1) := by decide +kernel
theorem dX8_agree_9 : decode cX8_agree 9 = .ok (.iload_n 2, 1) := by decide +kernel
theorem dX8_agree_10 : decode cX8_agree 10 = .ok (.invokevirtual 215, 3) := by decide +kernel
theorem dX8_agree_13 : decode cX8_agree 13 = .ok (.ifCond .eq 18, 3) := by decide +kernel
theorem dX8_agree_16 : decode cX8_agree 16 = .ok (.aload_n 0, 1) := by decide +kernel
theorem dX8_agree_17 : decode cX8_agree 17 = .ok (.getfield 40, 3) := by decide +kernel
theorem dX8_agree_20 : decode cX8_agree 20 = .ok (.iload_n 1, 1) := by decide +kernel
theorem dX8_agree_21 : decode cX8_agree 21 = .ok (.iaload, 1) := by decide +kernel
theorem dX8_agree_22 : decode cX8_agree 22 = .ok (.aload_n 0, 1) := by decide +kernel
theorem dX8_agree_23 : decode cX8_agree 23 = .ok (.getfield 40, 3) := by decide +kernel
theorem dX8_agree_26 : decode cX8_agree 26 = .ok (.iload_n 2, 1) := by decide +kernel
theorem dX8_agree_27 : decode cX8_agree 27 = .ok (.iaload, 1) := by decide +kernel
theorem dX8_agree_28 : decode cX8_agree 28 = .ok (.if_icmp .eq 5, 3) := by decide +kernel
theorem dX8_agree_31 : decode cX8_agree 31 = .ok (.iconst (-1), 1) := by decide +kernel
theorem dX8_agree_32 : decode cX8_agree 32 = .ok (.ireturn, 1) := by decide +kernel
theorem dX8_agree_33 : decode cX8_agree 33 = .ok (.iconst 0, 1) := by decide +kernel
theorem dX8_agree_34 : decode cX8_agree 34 = .ok (.istore_n 3, 1) := by decide +kernel
theorem dX8_agree_35 : decode cX8_agree 35 = .ok (.iconst 0, 1) := by decide +kernel
theorem dX8_agree_36 : decode cX8_agree 36 = .ok (.istore 4, 2) := by decide +kernel
theorem dX8_agree_38 : decode cX8_agree 38 = .ok (.iload 4, 2) := by decide +kernel
theorem dX8_agree_40 : decode cX8_agree 40 = .ok (.aload_n 0, 1) := by decide +kernel
theorem dX8_agree_41 : decode cX8_agree 41 = .ok (.getfield 40, 3) := by decide +kernel
theorem dX8_agree_44 : decode cX8_agree 44 = .ok (.iload_n 1, 1) := by decide +kernel
theorem dX8_agree_45 : decode cX8_agree 45 = .ok (.iaload, 1) := by decide +kernel
theorem dX8_agree_46 : decode cX8_agree 46 = .ok (.if_icmp .ge 108, 3) := by decide +kernel
theorem dX8_agree_49 : decode cX8_agree 49 = .ok (.iconst 0, 1) := by decide +kernel
theorem dX8_agree_50 : decode cX8_agree 50 = .ok (.istore 5, 2) := by decide +kernel
theorem dX8_agree_52 : decode cX8_agree 52 = .ok (.iload 5, 2) := by decide +kernel
theorem dX8_agree_54 : decode cX8_agree 54 = .ok (.iload 4, 2) := by decide +kernel
theorem dX8_agree_56 : decode cX8_agree 56 = .ok (.if_icmp .ge 92, 3) := by decide +kernel
theorem dX8_agree_59 : decode cX8_agree 59 = .ok (.aload_n 0, 1) := by decide +kernel
theorem dX8_agree_60 : decode cX8_agree 60 = .ok (.getfield 68, 3) := by decide +kernel
theorem dX8_agree_63 : decode cX8_agree 63 = .ok (.bipush 20, 2) := by decide +kernel
theorem dX8_agree_65 : decode cX8_agree 65 = .ok (.iload_n 1, 1) := by decide +kernel
theorem dX8_agree_66 : decode cX8_agree 66 = .ok (.imul, 1) := by decide +kernel
theorem dX8_agree_67 : decode cX8_agree 67 = .ok (.iload 4, 2) := by decide +kernel
theorem dX8_agree_69 : decode cX8_agree 69 = .ok (.iadd, 1) := by decide +kernel
theorem dX8_agree_70 : decode cX8_agree 70 = .ok (.iaload, 1) := by decide +kernel
theorem dX8_agree_71 : decode cX8_agree 71 = .ok (.aload_n 0, 1) := by decide +kernel
theorem dX8_agree_72 : decode cX8_agree 72 = .ok (.getfield 68, 3) := by decide +kernel
theorem dX8_agree_75 : decode cX8_agree 75 = .ok (.bipush 20, 2) := by decide +kernel
theorem dX8_agree_77 : decode cX8_agree 77 = .ok (.iload_n 1, 1) := by decide +kernel
theorem dX8_agree_78 : decode cX8_agree 78 = .ok (.imul, 1) := by decide +kernel
theorem dX8_agree_79 : decode cX8_agree 79 = .ok (.iload 5, 2) := by decide +kernel
theorem dX8_agree_81 : decode cX8_agree 81 = .ok (.iadd, 1) := by decide +kernel
theorem dX8_agree_82 : decode cX8_agree 82 = .ok (.iaload, 1) := by decide +kernel
theorem dX8_agree_83 : decode cX8_agree 83 = .ok (.if_icmp .ne 7, 3) := by decide +kernel
theorem dX8_agree_86 : decode cX8_agree 86 = .ok (.iconst 1, 1) := by decide +kernel
theorem dX8_agree_87 : decode cX8_agree 87 = .ok (.goto 4, 3) := by decide +kernel
theorem dX8_agree_90 : decode cX8_agree 90 = .ok (.iconst 0, 1) := by decide +kernel
theorem dX8_agree_91 : decode cX8_agree 91 = .ok (.istore 6, 2) := by decide +kernel
theorem dX8_agree_93 : decode cX8_agree 93 = .ok (.aload_n 0, 1) := by decide +kernel
theorem dX8_agree_94 : decode cX8_agree 94 = .ok (.getfield 68, 3) := by decide +kernel
theorem dX8_agree_97 : decode cX8_agree 97 = .ok (.bipush 20, 2) := by decide +kernel
theorem dX8_agree_99 : decode cX8_agree 99 = .ok (.iload_n 2, 1) := by decide +kernel
theorem dX8_agree_100 : decode cX8_agree 100 = .ok (.imul, 1) := by decide +kernel
theorem dX8_agree_101 : decode cX8_agree 101 = .ok (.iload 4, 2) := by decide +kernel
theorem dX8_agree_103 : decode cX8_agree 103 = .ok (.iadd, 1) := by decide +kernel
theorem dX8_agree_104 : decode cX8_agree 104 = .ok (.iaload, 1) := by decide +kernel
theorem dX8_agree_105 : decode cX8_agree 105 = .ok (.aload_n 0, 1) := by decide +kernel
theorem dX8_agree_106 : decode cX8_agree 106 = .ok (.getfield 68, 3) := by decide +kernel
theorem dX8_agree_109 : decode cX8_agree 109 = .ok (.bipush 20, 2) := by decide +kernel
end
section
theorem dX8_agree_111 : decode cX8_agree 111 = .ok (.iload_n 2, 1) := by decide +kernel
theorem dX8_agree_112 : decode cX8_agree 112 = .ok (.imul, 1) := by decide +kernel
theorem dX8_agree_113 : decode cX8_agree 113 = .ok (.iload 5, 2) := by decide +kernel
theorem dX8_agree_115 : decode cX8_agree 115 = .ok (.iadd, 1) := by decide +kernel
theorem dX8_agree_116 : decode cX8_agree 116 = .ok (.iaload, 1) := by decide +kernel
theorem dX8_agree_117 : decode cX8_agree 117 = .ok (.if_icmp .ne 7, 3) := by decide +kernel
theorem dX8_agree_120 : decode cX8_agree 120 = .ok (.iconst 1, 1) := by decide +kernel
theorem dX8_agree_121 : decode cX8_agree 121 = .ok (.goto 4, 3) := by decide +kernel
theorem dX8_agree_124 : decode cX8_agree 124 = .ok (.iconst 0, 1) := by decide +kernel
theorem dX8_agree_125 : decode cX8_agree 125 = .ok (.istore 7, 2) := by decide +kernel
theorem dX8_agree_127 : decode cX8_agree 127 = .ok (.iload_n 3, 1) := by decide +kernel
theorem dX8_agree_128 : decode cX8_agree 128 = .ok (.iload 6, 2) := by decide +kernel
theorem dX8_agree_130 : decode cX8_agree 130 = .ok (.iload 7, 2) := by decide +kernel
theorem dX8_agree_132 : decode cX8_agree 132 = .ok (.if_icmp .ne 7, 3) := by decide +kernel
theorem dX8_agree_135 : decode cX8_agree 135 = .ok (.iconst 1, 1) := by decide +kernel
theorem dX8_agree_136 : decode cX8_agree 136 = .ok (.goto 4, 3) := by decide +kernel
theorem dX8_agree_139 : decode cX8_agree 139 = .ok (.iconst 0, 1) := by decide +kernel
theorem dX8_agree_140 : decode cX8_agree 140 = .ok (.iadd, 1) := by decide +kernel
theorem dX8_agree_141 : decode cX8_agree 141 = .ok (.istore_n 3, 1) := by decide +kernel
theorem dX8_agree_142 : decode cX8_agree 142 = .ok (.iinc 5 1, 3) := by decide +kernel
theorem dX8_agree_145 : decode cX8_agree 145 = .ok (.goto (-93), 3) := by decide +kernel
theorem dX8_agree_148 : decode cX8_agree 148 = .ok (.iinc 4 1, 3) := by decide +kernel
theorem dX8_agree_151 : decode cX8_agree 151 = .ok (.goto (-113), 3) := by decide +kernel
theorem dX8_agree_154 : decode cX8_agree 154 = .ok (.iload_n 3, 1) := by decide +kernel
theorem dX8_agree_155 : decode cX8_agree 155 = .ok (.ireturn, 1) := by decide +kernel
theorem dX8_middle_0 : decode cX8_middle 0 = .ok (.aload_n 0, 1) := by decide +kernel
theorem dX8_middle_1 : decode cX8_middle 1 = .ok (.iload_n 1, 1) := by decide +kernel
theorem dX8_middle_2 : decode cX8_middle 2 = .ok (.invokevirtual 215, 3) := by decide +kernel
theorem dX8_middle_5 : decode cX8_middle 5 = .ok (.ifCond .eq 29, 3) := by decide +kernel
theorem dX8_middle_8 : decode cX8_middle 8 = .ok (.iload_n 2, 1) := by decide +kernel
theorem dX8_middle_9 : decode cX8_middle 9 = .ok (.aload_n 0, 1) := by decide +kernel
theorem dX8_middle_10 : decode cX8_middle 10 = .ok (.getfield 40, 3) := by decide +kernel
theorem dX8_middle_13 : decode cX8_middle 13 = .ok (.iload_n 1, 1) := by decide +kernel
theorem dX8_middle_14 : decode cX8_middle 14 = .ok (.iaload, 1) := by decide +kernel
theorem dX8_middle_15 : decode cX8_middle 15 = .ok (.invokestatic 110, 3) := by decide +kernel
theorem dX8_middle_18 : decode cX8_middle 18 = .ok (.ifCond .eq 16, 3) := by decide +kernel
theorem dX8_middle_21 : decode cX8_middle 21 = .ok (.aload_n 0, 1) := by decide +kernel
theorem dX8_middle_22 : decode cX8_middle 22 = .ok (.getfield 40, 3) := by decide +kernel
theorem dX8_middle_25 : decode cX8_middle 25 = .ok (.iload_n 1, 1) := by decide +kernel
theorem dX8_middle_26 : decode cX8_middle 26 = .ok (.iaload, 1) := by decide +kernel
theorem dX8_middle_27 : decode cX8_middle 27 = .ok (.aload_n 0, 1) := by decide +kernel
theorem dX8_middle_28 : decode cX8_middle 28 = .ok (.getfield 107, 3) := by decide +kernel
theorem dX8_middle_31 : decode cX8_middle 31 = .ok (.if_icmp .eq 5, 3) := by decide +kernel
theorem dX8_middle_34 : decode cX8_middle 34 = .ok (.iconst (-1), 1) := by decide +kernel
theorem dX8_middle_35 : decode cX8_middle 35 = .ok (.ireturn, 1) := by decide +kernel
theorem dX8_middle_36 : decode cX8_middle 36 = .ok (.iconst (-1), 1) := by decide +kernel
theorem dX8_middle_37 : decode cX8_middle 37 = .ok (.istore_n 3, 1) := by decide +kernel
theorem dX8_middle_38 : decode cX8_middle 38 = .ok (.lconst 0, 1) := by decide +kernel
theorem dX8_middle_39 : decode cX8_middle 39 = .ok (.lstore 4, 2) := by decide +kernel
theorem dX8_middle_41 : decode cX8_middle 41 = .ok (.iconst 0, 1) := by decide +kernel
theorem dX8_middle_42 : decode cX8_middle 42 = .ok (.istore 6, 2) := by decide +kernel
theorem dX8_middle_44 : decode cX8_middle 44 = .ok (.iload 6, 2) := by decide +kernel
theorem dX8_middle_46 : decode cX8_middle 46 = .ok (.aload_n 0, 1) := by decide +kernel
theorem dX8_middle_47 : decode cX8_middle 47 = .ok (.getfield 107, 3) := by decide +kernel
theorem dX8_middle_50 : decode cX8_middle 50 = .ok (.if_icmp .ge 127, 3) := by decide +kernel
theorem dX8_middle_53 : decode cX8_middle 53 = .ok (.aload_n 0, 1) := by decide +kernel
theorem dX8_middle_54 : decode cX8_middle 54 = .ok (.getfield 68, 3) := by decide +kernel
theorem dX8_middle_57 : decode cX8_middle 57 = .ok (.bipush 20, 2) := by decide +kernel
theorem dX8_middle_59 : decode cX8_middle 59 = .ok (.iload_n 1, 1) := by decide +kernel
theorem dX8_middle_60 : decode cX8_middle 60 = .ok (.imul, 1) := by decide +kernel
theorem dX8_middle_61 : decode cX8_middle 61 = .ok (.iload 6, 2) := by decide +kernel
theorem dX8_middle_63 : decode cX8_middle 63 = .ok (.iadd, 1) := by decide +kernel
theorem dX8_middle_64 : decode cX8_middle 64 = .ok (.iaload, 1) := by decide +kernel
theorem dX8_middle_65 : decode cX8_middle 65 = .ok (.aload_n 0, 1) := by decide +kernel
theorem dX8_middle_66 : decode cX8_middle 66 = .ok (.getfield 68, 3) := by decide +kernel
theorem dX8_middle_69 : decode cX8_middle 69 = .ok (.bipush 20, 2) := by decide +kernel
theorem dX8_middle_71 : decode cX8_middle 71 = .ok (.iload_n 1, 1) := by decide +kernel
theorem dX8_middle_72 : decode cX8_middle 72 = .ok (.imul, 1) := by decide +kernel
theorem dX8_middle_73 : decode cX8_middle 73 = .ok (.iload_n 2, 1) := by decide +kernel
theorem dX8_middle_74 : decode cX8_middle 74 = .ok (.iadd, 1) := by decide +kernel
theorem dX8_middle_75 : decode cX8_middle 75 = .ok (.iaload, 1) := by decide +kernel
theorem dX8_middle_76 : decode cX8_middle 76 = .ok (.if_icmp .eq 6, 3) := by decide +kernel
theorem dX8_middle_79 : decode cX8_middle 79 = .ok (.goto 92, 3) := by decide +kernel
theorem dX8_middle_82 : decode cX8_middle 82 = .ok (.lconst 0, 1) := by decide +kernel
theorem dX8_middle_83 : decode cX8_middle 83 = .ok (.lstore 7, 2) := by decide +kernel
theorem dX8_middle_85 : decode cX8_middle 85 = .ok (.iconst 0, 1) := by decide +kernel
theorem dX8_middle_86 : decode cX8_middle 86 = .ok (.istore 9, 2) := by decide +kernel
theorem dX8_middle_88 : decode cX8_middle 88 = .ok (.iload 9, 2) := by decide +kernel
theorem dX8_middle_90 : decode cX8_middle 90 = .ok (.aload_n 0, 1) := by decide +kernel
theorem dX8_middle_91 : decode cX8_middle 91 = .ok (.getfield 107, 3) := by decide +kernel
theorem dX8_middle_94 : decode cX8_middle 94 = .ok (.if_icmp .ge 58, 3) := by decide +kernel
theorem dX8_middle_97 : decode cX8_middle 97 = .ok (.lload 7, 2) := by decide +kernel
theorem dX8_middle_99 : decode cX8_middle 99 = .ok (.aload_n 0, 1) := by decide +kernel
theorem dX8_middle_100 : decode cX8_middle 100 = .ok (.getfield 68, 3) := by decide +kernel
theorem dX8_middle_103 : decode cX8_middle 103 = .ok (.bipush 20, 2) := by decide +kernel
theorem dX8_middle_105 : decode cX8_middle 105 = .ok (.iload_n 1, 1) := by decide +kernel
theorem dX8_middle_106 : decode cX8_middle 106 = .ok (.imul, 1) := by decide +kernel
theorem dX8_middle_107 : decode cX8_middle 107 = .ok (.iload 9, 2) := by decide +kernel
theorem dX8_middle_109 : decode cX8_middle 109 = .ok (.iadd, 1) := by decide +kernel
theorem dX8_middle_110 : decode cX8_middle 110 = .ok (.iaload, 1) := by decide +kernel
theorem dX8_middle_111 : decode cX8_middle 111 = .ok (.aload_n 0, 1) := by decide +kernel
theorem dX8_middle_112 : decode cX8_middle 112 = .ok (.getfield 68, 3) := by decide +kernel
theorem dX8_middle_115 : decode cX8_middle 115 = .ok (.bipush 20, 2) := by decide +kernel
theorem dX8_middle_117 : decode cX8_middle 117 = .ok (.iload_n 1, 1) := by decide +kernel
theorem dX8_middle_118 : decode cX8_middle 118 = .ok (.imul, 1) := by decide +kernel
theorem dX8_middle_119 : decode cX8_middle 119 = .ok (.iload_n 2, 1) := by decide +kernel
theorem dX8_middle_120 : decode cX8_middle 120 = .ok (.iadd, 1) := by decide +kernel
theorem dX8_middle_121 : decode cX8_middle 121 = .ok (.iaload, 1) := by decide +kernel
theorem dX8_middle_122 : decode cX8_middle 122 = .ok (.if_icmp .ne 20, 3) := by decide +kernel
theorem dX8_middle_125 : decode cX8_middle 125 = .ok (.aload_n 0, 1) := by decide +kernel
theorem dX8_middle_126 : decode cX8_middle 126 = .ok (.getfield 7, 3) := by decide +kernel
theorem dX8_middle_129 : decode cX8_middle 129 = .ok (.bipush 20, 2) := by decide +kernel
theorem dX8_middle_131 : decode cX8_middle 131 = .ok (.iload 6, 2) := by decide +kernel
theorem dX8_middle_133 : decode cX8_middle 133 = .ok (.imul, 1) := by decide +kernel
theorem dX8_middle_134 : decode cX8_middle 134 = .ok (.iload 9, 2) := by decide +kernel
theorem dX8_middle_136 : decode cX8_middle 136 = .ok (.iadd, 1) := by decide +kernel
theorem dX8_middle_137 : decode cX8_middle 137 = .ok (.iaload, 1) := by decide +kernel
theorem dX8_middle_138 : decode cX8_middle 138 = .ok (.i2l, 1) := by decide +kernel
theorem dX8_middle_139 : decode cX8_middle 139 = .ok (.goto 4, 3) := by decide +kernel
theorem dX8_middle_142 : decode cX8_middle 142 = .ok (.lconst 0, 1) := by decide +kernel
theorem dX8_middle_143 : decode cX8_middle 143 = .ok (.ladd, 1) := by decide +kernel
theorem dX8_middle_144 : decode cX8_middle 144 = .ok (.lstore 7, 2) := by decide +kernel
theorem dX8_middle_146 : decode cX8_middle 146 = .ok (.iinc 9 1, 3) := by decide +kernel
theorem dX8_middle_149 : decode cX8_middle 149 = .ok (.goto (-61), 3) := by decide +kernel
theorem dX8_middle_152 : decode cX8_middle 152 = .ok (.iload_n 3, 1) := by decide +kernel
theorem dX8_middle_153 : decode cX8_middle 153 = .ok (.ifCond .lt 11, 3) := by decide +kernel
theorem dX8_middle_156 : decode cX8_middle 156 = .ok (.lload 7, 2) := by decide +kernel
theorem dX8_middle_158 : decode cX8_middle 158 = .ok (.lload 4, 2) := by decide +kernel
theorem dX8_middle_160 : decode cX8_middle 160 = .ok (.lcmp, 1) := by decide +kernel
theorem dX8_middle_161 : decode cX8_middle 161 = .ok (.ifCond .ge 10, 3) := by decide +kernel
theorem dX8_middle_164 : decode cX8_middle 164 = .ok (.iload 6, 2) := by decide +kernel
theorem dX8_middle_166 : decode cX8_middle 166 = .ok (.istore_n 3, 1) := by decide +kernel
theorem dX8_middle_167 : decode cX8_middle 167 = .ok (.lload 7, 2) := by decide +kernel
theorem dX8_middle_169 : decode cX8_middle 169 = .ok (.lstore 4, 2) := by decide +kernel
theorem dX8_middle_171 : decode cX8_middle 171 = .ok (.iinc 6 1, 3) := by decide +kernel
theorem dX8_middle_174 : decode cX8_middle 174 = .ok (.goto (-130), 3) := by decide +kernel
theorem dX8_middle_177 : decode cX8_middle 177 = .ok (.iload_n 3, 1) := by decide +kernel
theorem dX8_middle_178 : decode cX8_middle 178 = .ok (.ireturn, 1) := by decide +kernel
end
section
theorem dL_law_0 : decode cL_law 0 = .ok (.new 7, 3) := by decide +kernel
theorem dL_law_3 : decode cL_law 3 = .ok (.dup, 1) := by decide +kernel
theorem dL_law_4 : decode cL_law 4 = .ok (.invokespecial 9, 3) := by decide +kernel
theorem dL_law_7 : decode cL_law 7 = .ok (.astore_n 1, 1) := by decide +kernel
theorem dL_law_8 : decode cL_law 8 = .ok (.new 10, 3) := by decide +kernel
theorem dL_law_11 : decode cL_law 11 = .ok (.dup, 1) := by decide +kernel
theorem dL_law_12 : decode cL_law 12 = .ok (.invokespecial 12, 3) := by decide +kernel
theorem dL_law_15 : decode cL_law 15 = .ok (.astore_n 2, 1) := by decide +kernel
theorem dL_law_16 : decode cL_law 16 = .ok (.iconst 0, 1) := by decide +kernel
theorem dL_law_17 : decode cL_law 17 = .ok (.istore_n 3, 1) := by decide +kernel
theorem dL_law_18 : decode cL_law 18 = .ok (.iload_n 3, 1) := by decide +kernel
theorem dL_law_19 : decode cL_law 19 = .ok (.aload_n 0, 1) := by decide +kernel
theorem dL_law_20 : decode cL_law 20 = .ok (.arraylength, 1) := by decide +kernel
theorem dL_law_21 : decode cL_law 21 = .ok (.bipush 6, 2) := by decide +kernel
theorem dL_law_23 : decode cL_law 23 = .ok (.isub, 1) := by decide +kernel
theorem dL_law_24 : decode cL_law 24 = .ok (.if_icmp .gt 1011, 3) := by decide +kernel
theorem dL_law_27 : decode cL_law 27 = .ok (.aload_n 0, 1) := by decide +kernel
theorem dL_law_28 : decode cL_law 28 = .ok (.iload_n 3, 1) := by decide +kernel
theorem dL_law_29 : decode cL_law 29 = .ok (.iaload, 1) := by decide +kernel
theorem dL_law_30 : decode cL_law 30 = .ok (.bipush 31, 2) := by decide +kernel
theorem dL_law_32 : decode cL_law 32 = .ok (.iand, 1) := by decide +kernel
theorem dL_law_33 : decode cL_law 33 = .ok (.tableswitch 996 0 26 #[123, 146, 189, 222, 265, 288, 351, 374, 387, 400, 413, 426, 449, 503, 536, 569, 602, 645, 689, 732, 765, 788, 821, 854, 897, 930, 963], 123) := by decide +kernel
theorem dL_law_156 : decode cL_law 156 = .ok (.aload_n 1, 1) := by decide +kernel
theorem dL_law_157 : decode cL_law 157 = .ok (.aload_n 0, 1) := by decide +kernel
theorem dL_law_158 : decode cL_law 158 = .ok (.iload_n 3, 1) := by decide +kernel
theorem dL_law_159 : decode cL_law 159 = .ok (.iconst 1, 1) := by decide +kernel
theorem dL_law_160 : decode cL_law 160 = .ok (.iadd, 1) := by decide +kernel
theorem dL_law_161 : decode cL_law 161 = .ok (.iaload, 1) := by decide +kernel
theorem dL_law_162 : decode cL_law 162 = .ok (.invokevirtual 13, 3) := by decide +kernel
theorem dL_law_165 : decode cL_law 165 = .ok (.aload_n 2, 1) := by decide +kernel
theorem dL_law_166 : decode cL_law 166 = .ok (.aload_n 0, 1) := by decide +kernel
theorem dL_law_167 : decode cL_law 167 = .ok (.iload_n 3, 1) := by decide +kernel
theorem dL_law_168 : decode cL_law 168 = .ok (.iconst 1, 1) := by decide +kernel
theorem dL_law_169 : decode cL_law 169 = .ok (.iadd, 1) := by decide +kernel
theorem dL_law_170 : decode cL_law 170 = .ok (.iaload, 1) := by decide +kernel
theorem dL_law_171 : decode cL_law 171 = .ok (.invokevirtual 17, 3) := by decide +kernel
theorem dL_law_174 : decode cL_law 174 = .ok (.if_icmp .eq 855, 3) := by decide +kernel
theorem dL_law_177 : decode cL_law 177 = .ok (.iconst 0, 1) := by decide +kernel
theorem dL_law_178 : decode cL_law 178 = .ok (.ireturn, 1) := by decide +kernel
theorem dL_law_179 : decode cL_law 179 = .ok (.aload_n 1, 1) := by decide +kernel
theorem dL_law_180 : decode cL_law 180 = .ok (.aload_n 0, 1) := by decide +kernel
theorem dL_law_181 : decode cL_law 181 = .ok (.iload_n 3, 1) := by decide +kernel
theorem dL_law_182 : decode cL_law 182 = .ok (.iconst 1, 1) := by decide +kernel
theorem dL_law_183 : decode cL_law 183 = .ok (.iadd, 1) := by decide +kernel
theorem dL_law_184 : decode cL_law 184 = .ok (.iaload, 1) := by decide +kernel
theorem dL_law_185 : decode cL_law 185 = .ok (.aload_n 0, 1) := by decide +kernel
theorem dL_law_186 : decode cL_law 186 = .ok (.iload_n 3, 1) := by decide +kernel
theorem dL_law_187 : decode cL_law 187 = .ok (.iconst 2, 1) := by decide +kernel
theorem dL_law_188 : decode cL_law 188 = .ok (.iadd, 1) := by decide +kernel
theorem dL_law_189 : decode cL_law 189 = .ok (.iaload, 1) := by decide +kernel
theorem dL_law_190 : decode cL_law 190 = .ok (.aload_n 0, 1) := by decide +kernel
theorem dL_law_191 : decode cL_law 191 = .ok (.iload_n 3, 1) := by decide +kernel
theorem dL_law_192 : decode cL_law 192 = .ok (.iconst 3, 1) := by decide +kernel
theorem dL_law_193 : decode cL_law 193 = .ok (.iadd, 1) := by decide +kernel
theorem dL_law_194 : decode cL_law 194 = .ok (.iaload, 1) := by decide +kernel
theorem dL_law_195 : decode cL_law 195 = .ok (.invokevirtual 18, 3) := by decide +kernel
theorem dL_law_198 : decode cL_law 198 = .ok (.aload_n 2, 1) := by decide +kernel
theorem dL_law_199 : decode cL_law 199 = .ok (.aload_n 0, 1) := by decide +kernel
theorem dL_law_200 : decode cL_law 200 = .ok (.iload_n 3, 1) := by decide +kernel
theorem dL_law_201 : decode cL_law 201 = .ok (.iconst 1, 1) := by decide +kernel
theorem dL_law_202 : decode cL_law 202 = .ok (.iadd, 1) := by decide +kernel
theorem dL_law_203 : decode cL_law 203 = .ok (.iaload, 1) := by decide +kernel
theorem dL_law_204 : decode cL_law 204 = .ok (.aload_n 0, 1) := by decide +kernel
theorem dL_law_205 : decode cL_law 205 = .ok (.iload_n 3, 1) := by decide +kernel
theorem dL_law_206 : decode cL_law 206 = .ok (.iconst 2, 1) := by decide +kernel
theorem dL_law_207 : decode cL_law 207 = .ok (.iadd, 1) := by decide +kernel
theorem dL_law_208 : decode cL_law 208 = .ok (.iaload, 1) := by decide +kernel
theorem dL_law_209 : decode cL_law 209 = .ok (.aload_n 0, 1) := by decide +kernel
theorem dL_law_210 : decode cL_law 210 = .ok (.iload_n 3, 1) := by decide +kernel
theorem dL_law_211 : decode cL_law 211 = .ok (.iconst 3, 1) := by decide +kernel
theorem dL_law_212 : decode cL_law 212 = .ok (.iadd, 1) := by decide +kernel
theorem dL_law_213 : decode cL_law 213 = .ok (.iaload, 1) := by decide +kernel
theorem dL_law_214 : decode cL_law 214 = .ok (.invokevirtual 22, 3) := by decide +kernel
theorem dL_law_217 : decode cL_law 217 = .ok (.if_icmp .eq 812, 3) := by decide +kernel
theorem dL_law_220 : decode cL_law 220 = .ok (.iconst 0, 1) := by decide +kernel
theorem dL_law_221 : decode cL_law 221 = .ok (.ireturn, 1) := by decide +kernel
theorem dL_law_222 : decode cL_law 222 = .ok (.aload_n 1, 1) := by decide +kernel
theorem dL_law_223 : decode cL_law 223 = .ok (.aload_n 0, 1) := by decide +kernel
theorem dL_law_224 : decode cL_law 224 = .ok (.iload_n 3, 1) := by decide +kernel
theorem dL_law_225 : decode cL_law 225 = .ok (.iconst 1, 1) := by decide +kernel
theorem dL_law_226 : decode cL_law 226 = .ok (.iadd, 1) := by decide +kernel
theorem dL_law_227 : decode cL_law 227 = .ok (.iaload, 1) := by decide +kernel
theorem dL_law_228 : decode cL_law 228 = .ok (.aload_n 0, 1) := by decide +kernel
theorem dL_law_229 : decode cL_law 229 = .ok (.iload_n 3, 1) := by decide +kernel
theorem dL_law_230 : decode cL_law 230 = .ok (.iconst 2, 1) := by decide +kernel
theorem dL_law_231 : decode cL_law 231 = .ok (.iadd, 1) := by decide +kernel
theorem dL_law_232 : decode cL_law 232 = .ok (.iaload, 1) := by decide +kernel
theorem dL_law_233 : decode cL_law 233 = .ok (.invokevirtual 23, 3) := by decide +kernel
theorem dL_law_236 : decode cL_law 236 = .ok (.aload_n 2, 1) := by decide +kernel
theorem dL_law_237 : decode cL_law 237 = .ok (.aload_n 0, 1) := by decide +kernel
theorem dL_law_238 : decode cL_law 238 = .ok (.iload_n 3, 1) := by decide +kernel
theorem dL_law_239 : decode cL_law 239 = .ok (.iconst 1, 1) := by decide +kernel
theorem dL_law_240 : decode cL_law 240 = .ok (.iadd, 1) := by decide +kernel
theorem dL_law_241 : decode cL_law 241 = .ok (.iaload, 1) := by decide +kernel
theorem dL_law_242 : decode cL_law 242 = .ok (.aload_n 0, 1) := by decide +kernel
theorem dL_law_243 : decode cL_law 243 = .ok (.iload_n 3, 1) := by decide +kernel
theorem dL_law_244 : decode cL_law 244 = .ok (.iconst 2, 1) := by decide +kernel
theorem dL_law_245 : decode cL_law 245 = .ok (.iadd, 1) := by decide +kernel
theorem dL_law_246 : decode cL_law 246 = .ok (.iaload, 1) := by decide +kernel
theorem dL_law_247 : decode cL_law 247 = .ok (.invokevirtual 27, 3) := by decide +kernel
theorem dL_law_250 : decode cL_law 250 = .ok (.if_icmp .eq 779, 3) := by decide +kernel
theorem dL_law_253 : decode cL_law 253 = .ok (.iconst 0, 1) := by decide +kernel
theorem dL_law_254 : decode cL_law 254 = .ok (.ireturn, 1) := by decide +kernel
theorem dL_law_255 : decode cL_law 255 = .ok (.aload_n 1, 1) := by decide +kernel
theorem dL_law_256 : decode cL_law 256 = .ok (.aload_n 0, 1) := by decide +kernel
theorem dL_law_257 : decode cL_law 257 = .ok (.iload_n 3, 1) := by decide +kernel
theorem dL_law_258 : decode cL_law 258 = .ok (.iconst 1, 1) := by decide +kernel
theorem dL_law_259 : decode cL_law 259 = .ok (.iadd, 1) := by decide +kernel
theorem dL_law_260 : decode cL_law 260 = .ok (.iaload, 1) := by decide +kernel
theorem dL_law_261 : decode cL_law 261 = .ok (.aload_n 0, 1) := by decide +kernel
theorem dL_law_262 : decode cL_law 262 = .ok (.iload_n 3, 1) := by decide +kernel
theorem dL_law_263 : decode cL_law 263 = .ok (.iconst 2, 1) := by decide +kernel
theorem dL_law_264 : decode cL_law 264 = .ok (.iadd, 1) := by decide +kernel
theorem dL_law_265 : decode cL_law 265 = .ok (.iaload, 1) := by decide +kernel
theorem dL_law_266 : decode cL_law 266 = .ok (.aload_n 0, 1) := by decide +kernel
theorem dL_law_267 : decode cL_law 267 = .ok (.iload_n 3, 1) := by decide +kernel
theorem dL_law_268 : decode cL_law 268 = .ok (.iconst 3, 1) := by decide +kernel
theorem dL_law_269 : decode cL_law 269 = .ok (.iadd, 1) := by decide +kernel
theorem dL_law_270 : decode cL_law 270 = .ok (.iaload, 1) := by decide +kernel
theorem dL_law_271 : decode cL_law 271 = .ok (.invokevirtual 28, 3) := by decide +kernel
theorem dL_law_274 : decode cL_law 274 = .ok (.aload_n 2, 1) := by decide +kernel
theorem dL_law_275 : decode cL_law 275 = .ok (.aload_n 0, 1) := by decide +kernel
theorem dL_law_276 : decode cL_law 276 = .ok (.iload_n 3, 1) := by decide +kernel
theorem dL_law_277 : decode cL_law 277 = .ok (.iconst 1, 1) := by decide +kernel
theorem dL_law_278 : decode cL_law 278 = .ok (.iadd, 1) := by decide +kernel
theorem dL_law_279 : decode cL_law 279 = .ok (.iaload, 1) := by decide +kernel
theorem dL_law_280 : decode cL_law 280 = .ok (.aload_n 0, 1) := by decide +kernel
theorem dL_law_281 : decode cL_law 281 = .ok (.iload_n 3, 1) := by decide +kernel
theorem dL_law_282 : decode cL_law 282 = .ok (.iconst 2, 1) := by decide +kernel
theorem dL_law_283 : decode cL_law 283 = .ok (.iadd, 1) := by decide +kernel
theorem dL_law_284 : decode cL_law 284 = .ok (.iaload, 1) := by decide +kernel
theorem dL_law_285 : decode cL_law 285 = .ok (.aload_n 0, 1) := by decide +kernel
theorem dL_law_286 : decode cL_law 286 = .ok (.iload_n 3, 1) := by decide +kernel
theorem dL_law_287 : decode cL_law 287 = .ok (.iconst 3, 1) := by decide +kernel
theorem dL_law_288 : decode cL_law 288 = .ok (.iadd, 1) := by decide +kernel
theorem dL_law_289 : decode cL_law 289 = .ok (.iaload, 1) := by decide +kernel
theorem dL_law_290 : decode cL_law 290 = .ok (.invokevirtual 31, 3) := by decide +kernel
theorem dL_law_293 : decode cL_law 293 = .ok (.if_icmp .eq 736, 3) := by decide +kernel
theorem dL_law_296 : decode cL_law 296 = .ok (.iconst 0, 1) := by decide +kernel
theorem dL_law_297 : decode cL_law 297 = .ok (.ireturn, 1) := by decide +kernel
theorem dL_law_298 : decode cL_law 298 = .ok (.aload_n 1, 1) := by decide +kernel
theorem dL_law_299 : decode cL_law 299 = .ok (.aload_n 0, 1) := by decide +kernel
theorem dL_law_300 : decode cL_law 300 = .ok (.iload_n 3, 1) := by decide +kernel
theorem dL_law_301 : decode cL_law 301 = .ok (.iconst 1, 1) := by decide +kernel
theorem dL_law_302 : decode cL_law 302 = .ok (.iadd, 1) := by decide +kernel
theorem dL_law_303 : decode cL_law 303 = .ok (.iaload, 1) := by decide +kernel
theorem dL_law_304 : decode cL_law 304 = .ok (.invokevirtual 32, 3) := by decide +kernel
theorem dL_law_307 : decode cL_law 307 = .ok (.aload_n 2, 1) := by decide +kernel
theorem dL_law_308 : decode cL_law 308 = .ok (.aload_n 0, 1) := by decide +kernel
theorem dL_law_309 : decode cL_law 309 = .ok (.iload_n 3, 1) := by decide +kernel
theorem dL_law_310 : decode cL_law 310 = .ok (.iconst 1, 1) := by decide +kernel
theorem dL_law_311 : decode cL_law 311 = .ok (.iadd, 1) := by decide +kernel
theorem dL_law_312 : decode cL_law 312 = .ok (.iaload, 1) := by decide +kernel
theorem dL_law_313 : decode cL_law 313 = .ok (.invokevirtual 36, 3) := by decide +kernel
theorem dL_law_316 : decode cL_law 316 = .ok (.if_icmp .eq 713, 3) := by decide +kernel
theorem dL_law_319 : decode cL_law 319 = .ok (.iconst 0, 1) := by decide +kernel
theorem dL_law_320 : decode cL_law 320 = .ok (.ireturn, 1) := by decide +kernel
theorem dL_law_321 : decode cL_law 321 = .ok (.aload_n 1, 1) := by decide +kernel
theorem dL_law_322 : decode cL_law 322 = .ok (.aload_n 0, 1) := by decide +kernel
theorem dL_law_323 : decode cL_law 323 = .ok (.iload_n 3, 1) := by decide +kernel
theorem dL_law_324 : decode cL_law 324 = .ok (.iconst 1, 1) := by decide +kernel
theorem dL_law_325 : decode cL_law 325 = .ok (.iadd, 1) := by decide +kernel
theorem dL_law_326 : decode cL_law 326 = .ok (.iaload, 1) := by decide +kernel
theorem dL_law_327 : decode cL_law 327 = .ok (.aload_n 0, 1) := by decide +kernel
theorem dL_law_328 : decode cL_law 328 = .ok (.iload_n 3, 1) := by decide +kernel
theorem dL_law_329 : decode cL_law 329 = .ok (.iconst 2, 1) := by decide +kernel
theorem dL_law_330 : decode cL_law 330 = .ok (.iadd, 1) := by decide +kernel
theorem dL_law_331 : decode cL_law 331 = .ok (.iaload, 1) := by decide +kernel
theorem dL_law_332 : decode cL_law 332 = .ok (.aload_n 0, 1) := by decide +kernel
theorem dL_law_333 : decode cL_law 333 = .ok (.iload_n 3, 1) := by decide +kernel
theorem dL_law_334 : decode cL_law 334 = .ok (.iconst 3, 1) := by decide +kernel
theorem dL_law_335 : decode cL_law 335 = .ok (.iadd, 1) := by decide +kernel
theorem dL_law_336 : decode cL_law 336 = .ok (.iaload, 1) := by decide +kernel
theorem dL_law_337 : decode cL_law 337 = .ok (.aload_n 0, 1) := by decide +kernel
theorem dL_law_338 : decode cL_law 338 = .ok (.iload_n 3, 1) := by decide +kernel
theorem dL_law_339 : decode cL_law 339 = .ok (.iconst 4, 1) := by decide +kernel
theorem dL_law_340 : decode cL_law 340 = .ok (.iadd, 1) := by decide +kernel
theorem dL_law_341 : decode cL_law 341 = .ok (.iaload, 1) := by decide +kernel
theorem dL_law_342 : decode cL_law 342 = .ok (.aload_n 0, 1) := by decide +kernel
theorem dL_law_343 : decode cL_law 343 = .ok (.iload_n 3, 1) := by decide +kernel
theorem dL_law_344 : decode cL_law 344 = .ok (.iconst 5, 1) := by decide +kernel
theorem dL_law_345 : decode cL_law 345 = .ok (.iadd, 1) := by decide +kernel
theorem dL_law_346 : decode cL_law 346 = .ok (.iaload, 1) := by decide +kernel
theorem dL_law_347 : decode cL_law 347 = .ok (.invokevirtual 37, 3) := by decide +kernel
theorem dL_law_350 : decode cL_law 350 = .ok (.aload_n 2, 1) := by decide +kernel
theorem dL_law_351 : decode cL_law 351 = .ok (.aload_n 0, 1) := by decide +kernel
theorem dL_law_352 : decode cL_law 352 = .ok (.iload_n 3, 1) := by decide +kernel
theorem dL_law_353 : decode cL_law 353 = .ok (.iconst 1, 1) := by decide +kernel
theorem dL_law_354 : decode cL_law 354 = .ok (.iadd, 1) := by decide +kernel
theorem dL_law_355 : decode cL_law 355 = .ok (.iaload, 1) := by decide +kernel
theorem dL_law_356 : decode cL_law 356 = .ok (.aload_n 0, 1) := by decide +kernel
theorem dL_law_357 : decode cL_law 357 = .ok (.iload_n 3, 1) := by decide +kernel
theorem dL_law_358 : decode cL_law 358 = .ok (.iconst 2, 1) := by decide +kernel
theorem dL_law_359 : decode cL_law 359 = .ok (.iadd, 1) := by decide +kernel
theorem dL_law_360 : decode cL_law 360 = .ok (.iaload, 1) := by decide +kernel
theorem dL_law_361 : decode cL_law 361 = .ok (.aload_n 0, 1) := by decide +kernel
theorem dL_law_362 : decode cL_law 362 = .ok (.iload_n 3, 1) := by decide +kernel
theorem dL_law_363 : decode cL_law 363 = .ok (.iconst 3, 1) := by decide +kernel
theorem dL_law_364 : decode cL_law 364 = .ok (.iadd, 1) := by decide +kernel
theorem dL_law_365 : decode cL_law 365 = .ok (.iaload, 1) := by decide +kernel
theorem dL_law_366 : decode cL_law 366 = .ok (.aload_n 0, 1) := by decide +kernel
theorem dL_law_367 : decode cL_law 367 = .ok (.iload_n 3, 1) := by decide +kernel
theorem dL_law_368 : decode cL_law 368 = .ok (.iconst 4, 1) := by decide +kernel
theorem dL_law_369 : decode cL_law 369 = .ok (.iadd, 1) := by decide +kernel
theorem dL_law_370 : decode cL_law 370 = .ok (.iaload, 1) := by decide +kernel
theorem dL_law_371 : decode cL_law 371 = .ok (.aload_n 0, 1) := by decide +kernel
theorem dL_law_372 : decode cL_law 372 = .ok (.iload_n 3, 1) := by decide +kernel
theorem dL_law_373 : decode cL_law 373 = .ok (.iconst 5, 1) := by decide +kernel
theorem dL_law_374 : decode cL_law 374 = .ok (.iadd, 1) := by decide +kernel
theorem dL_law_375 : decode cL_law 375 = .ok (.iaload, 1) := by decide +kernel
theorem dL_law_376 : decode cL_law 376 = .ok (.invokevirtual 41, 3) := by decide +kernel
theorem dL_law_379 : decode cL_law 379 = .ok (.if_icmp .eq 650, 3) := by decide +kernel
theorem dL_law_382 : decode cL_law 382 = .ok (.iconst 0, 1) := by decide +kernel
theorem dL_law_383 : decode cL_law 383 = .ok (.ireturn, 1) := by decide +kernel
theorem dL_law_384 : decode cL_law 384 = .ok (.aload_n 1, 1) := by decide +kernel
theorem dL_law_385 : decode cL_law 385 = .ok (.aload_n 0, 1) := by decide +kernel
theorem dL_law_386 : decode cL_law 386 = .ok (.iload_n 3, 1) := by decide +kernel
theorem dL_law_387 : decode cL_law 387 = .ok (.iconst 1, 1) := by decide +kernel
theorem dL_law_388 : decode cL_law 388 = .ok (.iadd, 1) := by decide +kernel
theorem dL_law_389 : decode cL_law 389 = .ok (.iaload, 1) := by decide +kernel
theorem dL_law_390 : decode cL_law 390 = .ok (.invokevirtual 42, 3) := by decide +kernel
theorem dL_law_393 : decode cL_law 393 = .ok (.aload_n 2, 1) := by decide +kernel
theorem dL_law_394 : decode cL_law 394 = .ok (.aload_n 0, 1) := by decide +kernel
theorem dL_law_395 : decode cL_law 395 = .ok (.iload_n 3, 1) := by decide +kernel
theorem dL_law_396 : decode cL_law 396 = .ok (.iconst 1, 1) := by decide +kernel
theorem dL_law_397 : decode cL_law 397 = .ok (.iadd, 1) := by decide +kernel
theorem dL_law_398 : decode cL_law 398 = .ok (.iaload, 1) := by decide +kernel
theorem dL_law_399 : decode cL_law 399 = .ok (.invokevirtual 45, 3) := by decide +kernel
theorem dL_law_402 : decode cL_law 402 = .ok (.if_icmp .eq 627, 3) := by decide +kernel
theorem dL_law_405 : decode cL_law 405 = .ok (.iconst 0, 1) := by decide +kernel
theorem dL_law_406 : decode cL_law 406 = .ok (.ireturn, 1) := by decide +kernel
theorem dL_law_407 : decode cL_law 407 = .ok (.aload_n 1, 1) := by decide +kernel
theorem dL_law_408 : decode cL_law 408 = .ok (.invokevirtual 46, 3) := by decide +kernel
theorem dL_law_411 : decode cL_law 411 = .ok (.aload_n 2, 1) := by decide +kernel
theorem dL_law_412 : decode cL_law 412 = .ok (.invokevirtual 50, 3) := by decide +kernel
theorem dL_law_415 : decode cL_law 415 = .ok (.if_icmp .eq 614, 3) := by decide +kernel
theorem dL_law_418 : decode cL_law 418 = .ok (.iconst 0, 1) := by decide +kernel
theorem dL_law_419 : decode cL_law 419 = .ok (.ireturn, 1) := by decide +kernel
theorem dL_law_420 : decode cL_law 420 = .ok (.aload_n 1, 1) := by decide +kernel
theorem dL_law_421 : decode cL_law 421 = .ok (.invokevirtual 51, 3) := by decide +kernel
theorem dL_law_424 : decode cL_law 424 = .ok (.aload_n 2, 1) := by decide +kernel
theorem dL_law_425 : decode cL_law 425 = .ok (.invokevirtual 54, 3) := by decide +kernel
theorem dL_law_428 : decode cL_law 428 = .ok (.if_icmp .eq 601, 3) := by decide +kernel
theorem dL_law_431 : decode cL_law 431 = .ok (.iconst 0, 1) := by decide +kernel
theorem dL_law_432 : decode cL_law 432 = .ok (.ireturn, 1) := by decide +kernel
theorem dL_law_433 : decode cL_law 433 = .ok (.aload_n 1, 1) := by decide +kernel
theorem dL_law_434 : decode cL_law 434 = .ok (.invokevirtual 55, 3) := by decide +kernel
theorem dL_law_437 : decode cL_law 437 = .ok (.aload_n 2, 1) := by decide +kernel
theorem dL_law_438 : decode cL_law 438 = .ok (.invokevirtual 58, 3) := by decide +kernel
theorem dL_law_441 : decode cL_law 441 = .ok (.if_icmp .eq 588, 3) := by decide +kernel
theorem dL_law_444 : decode cL_law 444 = .ok (.iconst 0, 1) := by decide +kernel
theorem dL_law_445 : decode cL_law 445 = .ok (.ireturn, 1) := by decide +kernel
theorem dL_law_446 : decode cL_law 446 = .ok (.aload_n 1, 1) := by decide +kernel
theorem dL_law_447 : decode cL_law 447 = .ok (.invokevirtual 59, 3) := by decide +kernel
theorem dL_law_450 : decode cL_law 450 = .ok (.aload_n 2, 1) := by decide +kernel
theorem dL_law_451 : decode cL_law 451 = .ok (.invokevirtual 62, 3) := by decide +kernel
theorem dL_law_454 : decode cL_law 454 = .ok (.if_icmp .eq 575, 3) := by decide +kernel
theorem dL_law_457 : decode cL_law 457 = .ok (.iconst 0, 1) := by decide +kernel
theorem dL_law_458 : decode cL_law 458 = .ok (.ireturn, 1) := by decide +kernel
theorem dL_law_459 : decode cL_law 459 = .ok (.aload_n 1, 1) := by decide +kernel
theorem dL_law_460 : decode cL_law 460 = .ok (.aload_n 0, 1) := by decide +kernel
theorem dL_law_461 : decode cL_law 461 = .ok (.iload_n 3, 1) := by decide +kernel
theorem dL_law_462 : decode cL_law 462 = .ok (.iconst 1, 1) := by decide +kernel
theorem dL_law_463 : decode cL_law 463 = .ok (.iadd, 1) := by decide +kernel
theorem dL_law_464 : decode cL_law 464 = .ok (.iaload, 1) := by decide +kernel
theorem dL_law_465 : decode cL_law 465 = .ok (.invokevirtual 63, 3) := by decide +kernel
theorem dL_law_468 : decode cL_law 468 = .ok (.aload_n 2, 1) := by decide +kernel
theorem dL_law_469 : decode cL_law 469 = .ok (.aload_n 0, 1) := by decide +kernel
theorem dL_law_470 : decode cL_law 470 = .ok (.iload_n 3, 1) := by decide +kernel
theorem dL_law_471 : decode cL_law 471 = .ok (.iconst 1, 1) := by decide +kernel
theorem dL_law_472 : decode cL_law 472 = .ok (.iadd, 1) := by decide +kernel
theorem dL_law_473 : decode cL_law 473 = .ok (.iaload, 1) := by decide +kernel
theorem dL_law_474 : decode cL_law 474 = .ok (.invokevirtual 66, 3) := by decide +kernel
theorem dL_law_477 : decode cL_law 477 = .ok (.if_icmp .eq 552, 3) := by decide +kernel
theorem dL_law_480 : decode cL_law 480 = .ok (.iconst 0, 1) := by decide +kernel
theorem dL_law_481 : decode cL_law 481 = .ok (.ireturn, 1) := by decide +kernel
theorem dL_law_482 : decode cL_law 482 = .ok (.aload_n 1, 1) := by decide +kernel
theorem dL_law_483 : decode cL_law 483 = .ok (.aload_n 0, 1) := by decide +kernel
theorem dL_law_484 : decode cL_law 484 = .ok (.iload_n 3, 1) := by decide +kernel
theorem dL_law_485 : decode cL_law 485 = .ok (.iconst 1, 1) := by decide +kernel
theorem dL_law_486 : decode cL_law 486 = .ok (.iadd, 1) := by decide +kernel
theorem dL_law_487 : decode cL_law 487 = .ok (.iaload, 1) := by decide +kernel
theorem dL_law_488 : decode cL_law 488 = .ok (.aload_n 0, 1) := by decide +kernel
theorem dL_law_489 : decode cL_law 489 = .ok (.iload_n 3, 1) := by decide +kernel
theorem dL_law_490 : decode cL_law 490 = .ok (.iconst 2, 1) := by decide +kernel
theorem dL_law_491 : decode cL_law 491 = .ok (.iadd, 1) := by decide +kernel
theorem dL_law_492 : decode cL_law 492 = .ok (.iaload, 1) := by decide +kernel
theorem dL_law_493 : decode cL_law 493 = .ok (.aload_n 0, 1) := by decide +kernel
theorem dL_law_494 : decode cL_law 494 = .ok (.iload_n 3, 1) := by decide +kernel
theorem dL_law_495 : decode cL_law 495 = .ok (.iconst 3, 1) := by decide +kernel
theorem dL_law_496 : decode cL_law 496 = .ok (.iadd, 1) := by decide +kernel
theorem dL_law_497 : decode cL_law 497 = .ok (.iaload, 1) := by decide +kernel
theorem dL_law_498 : decode cL_law 498 = .ok (.aload_n 0, 1) := by decide +kernel
theorem dL_law_499 : decode cL_law 499 = .ok (.iload_n 3, 1) := by decide +kernel
theorem dL_law_500 : decode cL_law 500 = .ok (.iconst 4, 1) := by decide +kernel
theorem dL_law_501 : decode cL_law 501 = .ok (.iadd, 1) := by decide +kernel
theorem dL_law_502 : decode cL_law 502 = .ok (.iaload, 1) := by decide +kernel
theorem dL_law_503 : decode cL_law 503 = .ok (.invokevirtual 67, 3) := by decide +kernel
theorem dL_law_506 : decode cL_law 506 = .ok (.aload_n 2, 1) := by decide +kernel
theorem dL_law_507 : decode cL_law 507 = .ok (.aload_n 0, 1) := by decide +kernel
theorem dL_law_508 : decode cL_law 508 = .ok (.iload_n 3, 1) := by decide +kernel
theorem dL_law_509 : decode cL_law 509 = .ok (.iconst 1, 1) := by decide +kernel
theorem dL_law_510 : decode cL_law 510 = .ok (.iadd, 1) := by decide +kernel
theorem dL_law_511 : decode cL_law 511 = .ok (.iaload, 1) := by decide +kernel
theorem dL_law_512 : decode cL_law 512 = .ok (.aload_n 0, 1) := by decide +kernel
theorem dL_law_513 : decode cL_law 513 = .ok (.iload_n 3, 1) := by decide +kernel
theorem dL_law_514 : decode cL_law 514 = .ok (.iconst 2, 1) := by decide +kernel
theorem dL_law_515 : decode cL_law 515 = .ok (.iadd, 1) := by decide +kernel
theorem dL_law_516 : decode cL_law 516 = .ok (.iaload, 1) := by decide +kernel
theorem dL_law_517 : decode cL_law 517 = .ok (.aload_n 0, 1) := by decide +kernel
theorem dL_law_518 : decode cL_law 518 = .ok (.iload_n 3, 1) := by decide +kernel
theorem dL_law_519 : decode cL_law 519 = .ok (.iconst 3, 1) := by decide +kernel
theorem dL_law_520 : decode cL_law 520 = .ok (.iadd, 1) := by decide +kernel
theorem dL_law_521 : decode cL_law 521 = .ok (.iaload, 1) := by decide +kernel
theorem dL_law_522 : decode cL_law 522 = .ok (.aload_n 0, 1) := by decide +kernel
theorem dL_law_523 : decode cL_law 523 = .ok (.iload_n 3, 1) := by decide +kernel
theorem dL_law_524 : decode cL_law 524 = .ok (.iconst 4, 1) := by decide +kernel
theorem dL_law_525 : decode cL_law 525 = .ok (.iadd, 1) := by decide +kernel
theorem dL_law_526 : decode cL_law 526 = .ok (.iaload, 1) := by decide +kernel
theorem dL_law_527 : decode cL_law 527 = .ok (.invokevirtual 71, 3) := by decide +kernel
theorem dL_law_530 : decode cL_law 530 = .ok (.lcmp, 1) := by decide +kernel
theorem dL_law_531 : decode cL_law 531 = .ok (.ifCond .eq 498, 3) := by decide +kernel
theorem dL_law_534 : decode cL_law 534 = .ok (.iconst 0, 1) := by decide +kernel
theorem dL_law_535 : decode cL_law 535 = .ok (.ireturn, 1) := by decide +kernel
theorem dL_law_536 : decode cL_law 536 = .ok (.aload_n 1, 1) := by decide +kernel
theorem dL_law_537 : decode cL_law 537 = .ok (.aload_n 0, 1) := by decide +kernel
theorem dL_law_538 : decode cL_law 538 = .ok (.iload_n 3, 1) := by decide +kernel
theorem dL_law_539 : decode cL_law 539 = .ok (.iconst 1, 1) := by decide +kernel
theorem dL_law_540 : decode cL_law 540 = .ok (.iadd, 1) := by decide +kernel
theorem dL_law_541 : decode cL_law 541 = .ok (.iaload, 1) := by decide +kernel
theorem dL_law_542 : decode cL_law 542 = .ok (.aload_n 0, 1) := by decide +kernel
theorem dL_law_543 : decode cL_law 543 = .ok (.iload_n 3, 1) := by decide +kernel
theorem dL_law_544 : decode cL_law 544 = .ok (.iconst 2, 1) := by decide +kernel
theorem dL_law_545 : decode cL_law 545 = .ok (.iadd, 1) := by decide +kernel
theorem dL_law_546 : decode cL_law 546 = .ok (.iaload, 1) := by decide +kernel
theorem dL_law_547 : decode cL_law 547 = .ok (.invokevirtual 72, 3) := by decide +kernel
theorem dL_law_550 : decode cL_law 550 = .ok (.aload_n 2, 1) := by decide +kernel
theorem dL_law_551 : decode cL_law 551 = .ok (.aload_n 0, 1) := by decide +kernel
theorem dL_law_552 : decode cL_law 552 = .ok (.iload_n 3, 1) := by decide +kernel
theorem dL_law_553 : decode cL_law 553 = .ok (.iconst 1, 1) := by decide +kernel
theorem dL_law_554 : decode cL_law 554 = .ok (.iadd, 1) := by decide +kernel
theorem dL_law_555 : decode cL_law 555 = .ok (.iaload, 1) := by decide +kernel
theorem dL_law_556 : decode cL_law 556 = .ok (.aload_n 0, 1) := by decide +kernel
theorem dL_law_557 : decode cL_law 557 = .ok (.iload_n 3, 1) := by decide +kernel
theorem dL_law_558 : decode cL_law 558 = .ok (.iconst 2, 1) := by decide +kernel
theorem dL_law_559 : decode cL_law 559 = .ok (.iadd, 1) := by decide +kernel
theorem dL_law_560 : decode cL_law 560 = .ok (.iaload, 1) := by decide +kernel
theorem dL_law_561 : decode cL_law 561 = .ok (.invokevirtual 75, 3) := by decide +kernel
theorem dL_law_564 : decode cL_law 564 = .ok (.if_icmp .eq 465, 3) := by decide +kernel
theorem dL_law_567 : decode cL_law 567 = .ok (.iconst 0, 1) := by decide +kernel
theorem dL_law_568 : decode cL_law 568 = .ok (.ireturn, 1) := by decide +kernel
theorem dL_law_569 : decode cL_law 569 = .ok (.aload_n 1, 1) := by decide +kernel
theorem dL_law_570 : decode cL_law 570 = .ok (.aload_n 0, 1) := by decide +kernel
theorem dL_law_571 : decode cL_law 571 = .ok (.iload_n 3, 1) := by decide +kernel
theorem dL_law_572 : decode cL_law 572 = .ok (.iconst 1, 1) := by decide +kernel
theorem dL_law_573 : decode cL_law 573 = .ok (.iadd, 1) := by decide +kernel
theorem dL_law_574 : decode cL_law 574 = .ok (.iaload, 1) := by decide +kernel
theorem dL_law_575 : decode cL_law 575 = .ok (.aload_n 0, 1) := by decide +kernel
theorem dL_law_576 : decode cL_law 576 = .ok (.iload_n 3, 1) := by decide +kernel
theorem dL_law_577 : decode cL_law 577 = .ok (.iconst 2, 1) := by decide +kernel
theorem dL_law_578 : decode cL_law 578 = .ok (.iadd, 1) := by decide +kernel
theorem dL_law_579 : decode cL_law 579 = .ok (.iaload, 1) := by decide +kernel
theorem dL_law_580 : decode cL_law 580 = .ok (.invokevirtual 76, 3) := by decide +kernel
theorem dL_law_583 : decode cL_law 583 = .ok (.aload_n 2, 1) := by decide +kernel
theorem dL_law_584 : decode cL_law 584 = .ok (.aload_n 0, 1) := by decide +kernel
theorem dL_law_585 : decode cL_law 585 = .ok (.iload_n 3, 1) := by decide +kernel
theorem dL_law_586 : decode cL_law 586 = .ok (.iconst 1, 1) := by decide +kernel
theorem dL_law_587 : decode cL_law 587 = .ok (.iadd, 1) := by decide +kernel
theorem dL_law_588 : decode cL_law 588 = .ok (.iaload, 1) := by decide +kernel
theorem dL_law_589 : decode cL_law 589 = .ok (.aload_n 0, 1) := by decide +kernel
theorem dL_law_590 : decode cL_law 590 = .ok (.iload_n 3, 1) := by decide +kernel
theorem dL_law_591 : decode cL_law 591 = .ok (.iconst 2, 1) := by decide +kernel
theorem dL_law_592 : decode cL_law 592 = .ok (.iadd, 1) := by decide +kernel
theorem dL_law_593 : decode cL_law 593 = .ok (.iaload, 1) := by decide +kernel
theorem dL_law_594 : decode cL_law 594 = .ok (.invokevirtual 79, 3) := by decide +kernel
theorem dL_law_597 : decode cL_law 597 = .ok (.if_icmp .eq 432, 3) := by decide +kernel
theorem dL_law_600 : decode cL_law 600 = .ok (.iconst 0, 1) := by decide +kernel
theorem dL_law_601 : decode cL_law 601 = .ok (.ireturn, 1) := by decide +kernel
theorem dL_law_602 : decode cL_law 602 = .ok (.aload_n 1, 1) := by decide +kernel
theorem dL_law_603 : decode cL_law 603 = .ok (.aload_n 0, 1) := by decide +kernel
theorem dL_law_604 : decode cL_law 604 = .ok (.iload_n 3, 1) := by decide +kernel
theorem dL_law_605 : decode cL_law 605 = .ok (.iconst 1, 1) := by decide +kernel
theorem dL_law_606 : decode cL_law 606 = .ok (.iadd, 1) := by decide +kernel
theorem dL_law_607 : decode cL_law 607 = .ok (.iaload, 1) := by decide +kernel
theorem dL_law_608 : decode cL_law 608 = .ok (.aload_n 0, 1) := by decide +kernel
theorem dL_law_609 : decode cL_law 609 = .ok (.iload_n 3, 1) := by decide +kernel
theorem dL_law_610 : decode cL_law 610 = .ok (.iconst 2, 1) := by decide +kernel
theorem dL_law_611 : decode cL_law 611 = .ok (.iadd, 1) := by decide +kernel
theorem dL_law_612 : decode cL_law 612 = .ok (.iaload, 1) := by decide +kernel
theorem dL_law_613 : decode cL_law 613 = .ok (.invokevirtual 80, 3) := by decide +kernel
theorem dL_law_616 : decode cL_law 616 = .ok (.aload_n 2, 1) := by decide +kernel
theorem dL_law_617 : decode cL_law 617 = .ok (.aload_n 0, 1) := by decide +kernel
theorem dL_law_618 : decode cL_law 618 = .ok (.iload_n 3, 1) := by decide +kernel
theorem dL_law_619 : decode cL_law 619 = .ok (.iconst 1, 1) := by decide +kernel
theorem dL_law_620 : decode cL_law 620 = .ok (.iadd, 1) := by decide +kernel
theorem dL_law_621 : decode cL_law 621 = .ok (.iaload, 1) := by decide +kernel
theorem dL_law_622 : decode cL_law 622 = .ok (.aload_n 0, 1) := by decide +kernel
theorem dL_law_623 : decode cL_law 623 = .ok (.iload_n 3, 1) := by decide +kernel
theorem dL_law_624 : decode cL_law 624 = .ok (.iconst 2, 1) := by decide +kernel
theorem dL_law_625 : decode cL_law 625 = .ok (.iadd, 1) := by decide +kernel
theorem dL_law_626 : decode cL_law 626 = .ok (.iaload, 1) := by decide +kernel
theorem dL_law_627 : decode cL_law 627 = .ok (.invokevirtual 83, 3) := by decide +kernel
theorem dL_law_630 : decode cL_law 630 = .ok (.if_icmp .eq 399, 3) := by decide +kernel
theorem dL_law_633 : decode cL_law 633 = .ok (.iconst 0, 1) := by decide +kernel
theorem dL_law_634 : decode cL_law 634 = .ok (.ireturn, 1) := by decide +kernel
theorem dL_law_635 : decode cL_law 635 = .ok (.aload_n 1, 1) := by decide +kernel
theorem dL_law_636 : decode cL_law 636 = .ok (.aload_n 0, 1) := by decide +kernel
theorem dL_law_637 : decode cL_law 637 = .ok (.iload_n 3, 1) := by decide +kernel
theorem dL_law_638 : decode cL_law 638 = .ok (.iconst 1, 1) := by decide +kernel
theorem dL_law_639 : decode cL_law 639 = .ok (.iadd, 1) := by decide +kernel
theorem dL_law_640 : decode cL_law 640 = .ok (.iaload, 1) := by decide +kernel
theorem dL_law_641 : decode cL_law 641 = .ok (.aload_n 0, 1) := by decide +kernel
theorem dL_law_642 : decode cL_law 642 = .ok (.iload_n 3, 1) := by decide +kernel
theorem dL_law_643 : decode cL_law 643 = .ok (.iconst 2, 1) := by decide +kernel
theorem dL_law_644 : decode cL_law 644 = .ok (.iadd, 1) := by decide +kernel
theorem dL_law_645 : decode cL_law 645 = .ok (.iaload, 1) := by decide +kernel
theorem dL_law_646 : decode cL_law 646 = .ok (.aload_n 0, 1) := by decide +kernel
theorem dL_law_647 : decode cL_law 647 = .ok (.iload_n 3, 1) := by decide +kernel
theorem dL_law_648 : decode cL_law 648 = .ok (.iconst 3, 1) := by decide +kernel
theorem dL_law_649 : decode cL_law 649 = .ok (.iadd, 1) := by decide +kernel
theorem dL_law_650 : decode cL_law 650 = .ok (.iaload, 1) := by decide +kernel
theorem dL_law_651 : decode cL_law 651 = .ok (.invokevirtual 84, 3) := by decide +kernel
theorem dL_law_654 : decode cL_law 654 = .ok (.aload_n 2, 1) := by decide +kernel
theorem dL_law_655 : decode cL_law 655 = .ok (.aload_n 0, 1) := by decide +kernel
theorem dL_law_656 : decode cL_law 656 = .ok (.iload_n 3, 1) := by decide +kernel
theorem dL_law_657 : decode cL_law 657 = .ok (.iconst 1, 1) := by decide +kernel
theorem dL_law_658 : decode cL_law 658 = .ok (.iadd, 1) := by decide +kernel
theorem dL_law_659 : decode cL_law 659 = .ok (.iaload, 1) := by decide +kernel
theorem dL_law_660 : decode cL_law 660 = .ok (.aload_n 0, 1) := by decide +kernel
theorem dL_law_661 : decode cL_law 661 = .ok (.iload_n 3, 1) := by decide +kernel
theorem dL_law_662 : decode cL_law 662 = .ok (.iconst 2, 1) := by decide +kernel
theorem dL_law_663 : decode cL_law 663 = .ok (.iadd, 1) := by decide +kernel
theorem dL_law_664 : decode cL_law 664 = .ok (.iaload, 1) := by decide +kernel
theorem dL_law_665 : decode cL_law 665 = .ok (.aload_n 0, 1) := by decide +kernel
theorem dL_law_666 : decode cL_law 666 = .ok (.iload_n 3, 1) := by decide +kernel
theorem dL_law_667 : decode cL_law 667 = .ok (.iconst 3, 1) := by decide +kernel
theorem dL_law_668 : decode cL_law 668 = .ok (.iadd, 1) := by decide +kernel
theorem dL_law_669 : decode cL_law 669 = .ok (.iaload, 1) := by decide +kernel
theorem dL_law_670 : decode cL_law 670 = .ok (.invokevirtual 88, 3) := by decide +kernel
theorem dL_law_673 : decode cL_law 673 = .ok (.if_icmp .eq 356, 3) := by decide +kernel
theorem dL_law_676 : decode cL_law 676 = .ok (.iconst 0, 1) := by decide +kernel
theorem dL_law_677 : decode cL_law 677 = .ok (.ireturn, 1) := by decide +kernel
theorem dL_law_678 : decode cL_law 678 = .ok (.aload_n 1, 1) := by decide +kernel
theorem dL_law_679 : decode cL_law 679 = .ok (.aload_n 0, 1) := by decide +kernel
theorem dL_law_680 : decode cL_law 680 = .ok (.iload_n 3, 1) := by decide +kernel
theorem dL_law_681 : decode cL_law 681 = .ok (.iconst 1, 1) := by decide +kernel
theorem dL_law_682 : decode cL_law 682 = .ok (.iadd, 1) := by decide +kernel
theorem dL_law_683 : decode cL_law 683 = .ok (.iaload, 1) := by decide +kernel
theorem dL_law_684 : decode cL_law 684 = .ok (.aload_n 0, 1) := by decide +kernel
theorem dL_law_685 : decode cL_law 685 = .ok (.iload_n 3, 1) := by decide +kernel
theorem dL_law_686 : decode cL_law 686 = .ok (.iconst 2, 1) := by decide +kernel
theorem dL_law_687 : decode cL_law 687 = .ok (.iadd, 1) := by decide +kernel
theorem dL_law_688 : decode cL_law 688 = .ok (.iaload, 1) := by decide +kernel
theorem dL_law_689 : decode cL_law 689 = .ok (.aload_n 0, 1) := by decide +kernel
theorem dL_law_690 : decode cL_law 690 = .ok (.iload_n 3, 1) := by decide +kernel
theorem dL_law_691 : decode cL_law 691 = .ok (.iconst 3, 1) := by decide +kernel
theorem dL_law_692 : decode cL_law 692 = .ok (.iadd, 1) := by decide +kernel
theorem dL_law_693 : decode cL_law 693 = .ok (.iaload, 1) := by decide +kernel
theorem dL_law_694 : decode cL_law 694 = .ok (.invokevirtual 89, 3) := by decide +kernel
theorem dL_law_697 : decode cL_law 697 = .ok (.aload_n 2, 1) := by decide +kernel
theorem dL_law_698 : decode cL_law 698 = .ok (.aload_n 0, 1) := by decide +kernel
theorem dL_law_699 : decode cL_law 699 = .ok (.iload_n 3, 1) := by decide +kernel
theorem dL_law_700 : decode cL_law 700 = .ok (.iconst 1, 1) := by decide +kernel
theorem dL_law_701 : decode cL_law 701 = .ok (.iadd, 1) := by decide +kernel
theorem dL_law_702 : decode cL_law 702 = .ok (.iaload, 1) := by decide +kernel
theorem dL_law_703 : decode cL_law 703 = .ok (.aload_n 0, 1) := by decide +kernel
theorem dL_law_704 : decode cL_law 704 = .ok (.iload_n 3, 1) := by decide +kernel
theorem dL_law_705 : decode cL_law 705 = .ok (.iconst 2, 1) := by decide +kernel
theorem dL_law_706 : decode cL_law 706 = .ok (.iadd, 1) := by decide +kernel
theorem dL_law_707 : decode cL_law 707 = .ok (.iaload, 1) := by decide +kernel
theorem dL_law_708 : decode cL_law 708 = .ok (.aload_n 0, 1) := by decide +kernel
theorem dL_law_709 : decode cL_law 709 = .ok (.iload_n 3, 1) := by decide +kernel
theorem dL_law_710 : decode cL_law 710 = .ok (.iconst 3, 1) := by decide +kernel
theorem dL_law_711 : decode cL_law 711 = .ok (.iadd, 1) := by decide +kernel
theorem dL_law_712 : decode cL_law 712 = .ok (.iaload, 1) := by decide +kernel
theorem dL_law_713 : decode cL_law 713 = .ok (.invokevirtual 93, 3) := by decide +kernel
theorem dL_law_716 : decode cL_law 716 = .ok (.lcmp, 1) := by decide +kernel
theorem dL_law_717 : decode cL_law 717 = .ok (.ifCond .eq 312, 3) := by decide +kernel
theorem dL_law_720 : decode cL_law 720 = .ok (.iconst 0, 1) := by decide +kernel
theorem dL_law_721 : decode cL_law 721 = .ok (.ireturn, 1) := by decide +kernel
theorem dL_law_722 : decode cL_law 722 = .ok (.aload_n 1, 1) := by decide +kernel
theorem dL_law_723 : decode cL_law 723 = .ok (.aload_n 0, 1) := by decide +kernel
theorem dL_law_724 : decode cL_law 724 = .ok (.iload_n 3, 1) := by decide +kernel
theorem dL_law_725 : decode cL_law 725 = .ok (.iconst 1, 1) := by decide +kernel
theorem dL_law_726 : decode cL_law 726 = .ok (.iadd, 1) := by decide +kernel
theorem dL_law_727 : decode cL_law 727 = .ok (.iaload, 1) := by decide +kernel
theorem dL_law_728 : decode cL_law 728 = .ok (.aload_n 0, 1) := by decide +kernel
theorem dL_law_729 : decode cL_law 729 = .ok (.iload_n 3, 1) := by decide +kernel
theorem dL_law_730 : decode cL_law 730 = .ok (.iconst 2, 1) := by decide +kernel
theorem dL_law_731 : decode cL_law 731 = .ok (.iadd, 1) := by decide +kernel
theorem dL_law_732 : decode cL_law 732 = .ok (.iaload, 1) := by decide +kernel
theorem dL_law_733 : decode cL_law 733 = .ok (.aload_n 0, 1) := by decide +kernel
theorem dL_law_734 : decode cL_law 734 = .ok (.iload_n 3, 1) := by decide +kernel
theorem dL_law_735 : decode cL_law 735 = .ok (.iconst 3, 1) := by decide +kernel
theorem dL_law_736 : decode cL_law 736 = .ok (.iadd, 1) := by decide +kernel
theorem dL_law_737 : decode cL_law 737 = .ok (.iaload, 1) := by decide +kernel
theorem dL_law_738 : decode cL_law 738 = .ok (.invokevirtual 94, 3) := by decide +kernel
theorem dL_law_741 : decode cL_law 741 = .ok (.aload_n 2, 1) := by decide +kernel
theorem dL_law_742 : decode cL_law 742 = .ok (.aload_n 0, 1) := by decide +kernel
theorem dL_law_743 : decode cL_law 743 = .ok (.iload_n 3, 1) := by decide +kernel
theorem dL_law_744 : decode cL_law 744 = .ok (.iconst 1, 1) := by decide +kernel
theorem dL_law_745 : decode cL_law 745 = .ok (.iadd, 1) := by decide +kernel
theorem dL_law_746 : decode cL_law 746 = .ok (.iaload, 1) := by decide +kernel
theorem dL_law_747 : decode cL_law 747 = .ok (.aload_n 0, 1) := by decide +kernel
theorem dL_law_748 : decode cL_law 748 = .ok (.iload_n 3, 1) := by decide +kernel
theorem dL_law_749 : decode cL_law 749 = .ok (.iconst 2, 1) := by decide +kernel
theorem dL_law_750 : decode cL_law 750 = .ok (.iadd, 1) := by decide +kernel
theorem dL_law_751 : decode cL_law 751 = .ok (.iaload, 1) := by decide +kernel
theorem dL_law_752 : decode cL_law 752 = .ok (.aload_n 0, 1) := by decide +kernel
theorem dL_law_753 : decode cL_law 753 = .ok (.iload_n 3, 1) := by decide +kernel
theorem dL_law_754 : decode cL_law 754 = .ok (.iconst 3, 1) := by decide +kernel
theorem dL_law_755 : decode cL_law 755 = .ok (.iadd, 1) := by decide +kernel
theorem dL_law_756 : decode cL_law 756 = .ok (.iaload, 1) := by decide +kernel
theorem dL_law_757 : decode cL_law 757 = .ok (.invokevirtual 97, 3) := by decide +kernel
theorem dL_law_760 : decode cL_law 760 = .ok (.if_icmp .eq 269, 3) := by decide +kernel
theorem dL_law_763 : decode cL_law 763 = .ok (.iconst 0, 1) := by decide +kernel
theorem dL_law_764 : decode cL_law 764 = .ok (.ireturn, 1) := by decide +kernel
theorem dL_law_765 : decode cL_law 765 = .ok (.aload_n 1, 1) := by decide +kernel
theorem dL_law_766 : decode cL_law 766 = .ok (.aload_n 0, 1) := by decide +kernel
theorem dL_law_767 : decode cL_law 767 = .ok (.iload_n 3, 1) := by decide +kernel
theorem dL_law_768 : decode cL_law 768 = .ok (.iconst 1, 1) := by decide +kernel
theorem dL_law_769 : decode cL_law 769 = .ok (.iadd, 1) := by decide +kernel
theorem dL_law_770 : decode cL_law 770 = .ok (.iaload, 1) := by decide +kernel
theorem dL_law_771 : decode cL_law 771 = .ok (.aload_n 0, 1) := by decide +kernel
theorem dL_law_772 : decode cL_law 772 = .ok (.iload_n 3, 1) := by decide +kernel
theorem dL_law_773 : decode cL_law 773 = .ok (.iconst 2, 1) := by decide +kernel
theorem dL_law_774 : decode cL_law 774 = .ok (.iadd, 1) := by decide +kernel
theorem dL_law_775 : decode cL_law 775 = .ok (.iaload, 1) := by decide +kernel
theorem dL_law_776 : decode cL_law 776 = .ok (.invokevirtual 98, 3) := by decide +kernel
theorem dL_law_779 : decode cL_law 779 = .ok (.aload_n 2, 1) := by decide +kernel
theorem dL_law_780 : decode cL_law 780 = .ok (.aload_n 0, 1) := by decide +kernel
theorem dL_law_781 : decode cL_law 781 = .ok (.iload_n 3, 1) := by decide +kernel
theorem dL_law_782 : decode cL_law 782 = .ok (.iconst 1, 1) := by decide +kernel
theorem dL_law_783 : decode cL_law 783 = .ok (.iadd, 1) := by decide +kernel
theorem dL_law_784 : decode cL_law 784 = .ok (.iaload, 1) := by decide +kernel
theorem dL_law_785 : decode cL_law 785 = .ok (.aload_n 0, 1) := by decide +kernel
theorem dL_law_786 : decode cL_law 786 = .ok (.iload_n 3, 1) := by decide +kernel
theorem dL_law_787 : decode cL_law 787 = .ok (.iconst 2, 1) := by decide +kernel
theorem dL_law_788 : decode cL_law 788 = .ok (.iadd, 1) := by decide +kernel
theorem dL_law_789 : decode cL_law 789 = .ok (.iaload, 1) := by decide +kernel
theorem dL_law_790 : decode cL_law 790 = .ok (.invokevirtual 102, 3) := by decide +kernel
theorem dL_law_793 : decode cL_law 793 = .ok (.if_icmp .eq 236, 3) := by decide +kernel
theorem dL_law_796 : decode cL_law 796 = .ok (.iconst 0, 1) := by decide +kernel
theorem dL_law_797 : decode cL_law 797 = .ok (.ireturn, 1) := by decide +kernel
theorem dL_law_798 : decode cL_law 798 = .ok (.aload_n 1, 1) := by decide +kernel
theorem dL_law_799 : decode cL_law 799 = .ok (.aload_n 0, 1) := by decide +kernel
theorem dL_law_800 : decode cL_law 800 = .ok (.iload_n 3, 1) := by decide +kernel
theorem dL_law_801 : decode cL_law 801 = .ok (.iconst 1, 1) := by decide +kernel
theorem dL_law_802 : decode cL_law 802 = .ok (.iadd, 1) := by decide +kernel
theorem dL_law_803 : decode cL_law 803 = .ok (.iaload, 1) := by decide +kernel
theorem dL_law_804 : decode cL_law 804 = .ok (.invokevirtual 103, 3) := by decide +kernel
theorem dL_law_807 : decode cL_law 807 = .ok (.aload_n 2, 1) := by decide +kernel
theorem dL_law_808 : decode cL_law 808 = .ok (.aload_n 0, 1) := by decide +kernel
theorem dL_law_809 : decode cL_law 809 = .ok (.iload_n 3, 1) := by decide +kernel
theorem dL_law_810 : decode cL_law 810 = .ok (.iconst 1, 1) := by decide +kernel
theorem dL_law_811 : decode cL_law 811 = .ok (.iadd, 1) := by decide +kernel
theorem dL_law_812 : decode cL_law 812 = .ok (.iaload, 1) := by decide +kernel
theorem dL_law_813 : decode cL_law 813 = .ok (.invokevirtual 106, 3) := by decide +kernel
theorem dL_law_816 : decode cL_law 816 = .ok (.if_icmp .eq 213, 3) := by decide +kernel
theorem dL_law_819 : decode cL_law 819 = .ok (.iconst 0, 1) := by decide +kernel
theorem dL_law_820 : decode cL_law 820 = .ok (.ireturn, 1) := by decide +kernel
theorem dL_law_821 : decode cL_law 821 = .ok (.aload_n 1, 1) := by decide +kernel
theorem dL_law_822 : decode cL_law 822 = .ok (.aload_n 0, 1) := by decide +kernel
theorem dL_law_823 : decode cL_law 823 = .ok (.iload_n 3, 1) := by decide +kernel
theorem dL_law_824 : decode cL_law 824 = .ok (.iconst 1, 1) := by decide +kernel
theorem dL_law_825 : decode cL_law 825 = .ok (.iadd, 1) := by decide +kernel
theorem dL_law_826 : decode cL_law 826 = .ok (.iaload, 1) := by decide +kernel
theorem dL_law_827 : decode cL_law 827 = .ok (.aload_n 0, 1) := by decide +kernel
theorem dL_law_828 : decode cL_law 828 = .ok (.iload_n 3, 1) := by decide +kernel
theorem dL_law_829 : decode cL_law 829 = .ok (.iconst 2, 1) := by decide +kernel
theorem dL_law_830 : decode cL_law 830 = .ok (.iadd, 1) := by decide +kernel
theorem dL_law_831 : decode cL_law 831 = .ok (.iaload, 1) := by decide +kernel
theorem dL_law_832 : decode cL_law 832 = .ok (.invokevirtual 107, 3) := by decide +kernel
theorem dL_law_835 : decode cL_law 835 = .ok (.aload_n 2, 1) := by decide +kernel
theorem dL_law_836 : decode cL_law 836 = .ok (.aload_n 0, 1) := by decide +kernel
theorem dL_law_837 : decode cL_law 837 = .ok (.iload_n 3, 1) := by decide +kernel
theorem dL_law_838 : decode cL_law 838 = .ok (.iconst 1, 1) := by decide +kernel
theorem dL_law_839 : decode cL_law 839 = .ok (.iadd, 1) := by decide +kernel
theorem dL_law_840 : decode cL_law 840 = .ok (.iaload, 1) := by decide +kernel
theorem dL_law_841 : decode cL_law 841 = .ok (.aload_n 0, 1) := by decide +kernel
theorem dL_law_842 : decode cL_law 842 = .ok (.iload_n 3, 1) := by decide +kernel
theorem dL_law_843 : decode cL_law 843 = .ok (.iconst 2, 1) := by decide +kernel
theorem dL_law_844 : decode cL_law 844 = .ok (.iadd, 1) := by decide +kernel
theorem dL_law_845 : decode cL_law 845 = .ok (.iaload, 1) := by decide +kernel
theorem dL_law_846 : decode cL_law 846 = .ok (.invokevirtual 110, 3) := by decide +kernel
theorem dL_law_849 : decode cL_law 849 = .ok (.if_icmp .eq 180, 3) := by decide +kernel
theorem dL_law_852 : decode cL_law 852 = .ok (.iconst 0, 1) := by decide +kernel
theorem dL_law_853 : decode cL_law 853 = .ok (.ireturn, 1) := by decide +kernel
theorem dL_law_854 : decode cL_law 854 = .ok (.aload_n 1, 1) := by decide +kernel
theorem dL_law_855 : decode cL_law 855 = .ok (.aload_n 0, 1) := by decide +kernel
theorem dL_law_856 : decode cL_law 856 = .ok (.iload_n 3, 1) := by decide +kernel
theorem dL_law_857 : decode cL_law 857 = .ok (.iconst 1, 1) := by decide +kernel
theorem dL_law_858 : decode cL_law 858 = .ok (.iadd, 1) := by decide +kernel
theorem dL_law_859 : decode cL_law 859 = .ok (.iaload, 1) := by decide +kernel
theorem dL_law_860 : decode cL_law 860 = .ok (.aload_n 0, 1) := by decide +kernel
theorem dL_law_861 : decode cL_law 861 = .ok (.iload_n 3, 1) := by decide +kernel
theorem dL_law_862 : decode cL_law 862 = .ok (.iconst 2, 1) := by decide +kernel
theorem dL_law_863 : decode cL_law 863 = .ok (.iadd, 1) := by decide +kernel
theorem dL_law_864 : decode cL_law 864 = .ok (.iaload, 1) := by decide +kernel
theorem dL_law_865 : decode cL_law 865 = .ok (.invokevirtual 111, 3) := by decide +kernel
theorem dL_law_868 : decode cL_law 868 = .ok (.aload_n 2, 1) := by decide +kernel
theorem dL_law_869 : decode cL_law 869 = .ok (.aload_n 0, 1) := by decide +kernel
theorem dL_law_870 : decode cL_law 870 = .ok (.iload_n 3, 1) := by decide +kernel
theorem dL_law_871 : decode cL_law 871 = .ok (.iconst 1, 1) := by decide +kernel
theorem dL_law_872 : decode cL_law 872 = .ok (.iadd, 1) := by decide +kernel
theorem dL_law_873 : decode cL_law 873 = .ok (.iaload, 1) := by decide +kernel
theorem dL_law_874 : decode cL_law 874 = .ok (.aload_n 0, 1) := by decide +kernel
theorem dL_law_875 : decode cL_law 875 = .ok (.iload_n 3, 1) := by decide +kernel
theorem dL_law_876 : decode cL_law 876 = .ok (.iconst 2, 1) := by decide +kernel
theorem dL_law_877 : decode cL_law 877 = .ok (.iadd, 1) := by decide +kernel
theorem dL_law_878 : decode cL_law 878 = .ok (.iaload, 1) := by decide +kernel
theorem dL_law_879 : decode cL_law 879 = .ok (.invokevirtual 114, 3) := by decide +kernel
theorem dL_law_882 : decode cL_law 882 = .ok (.if_icmp .eq 147, 3) := by decide +kernel
theorem dL_law_885 : decode cL_law 885 = .ok (.iconst 0, 1) := by decide +kernel
theorem dL_law_886 : decode cL_law 886 = .ok (.ireturn, 1) := by decide +kernel
theorem dL_law_887 : decode cL_law 887 = .ok (.aload_n 1, 1) := by decide +kernel
theorem dL_law_888 : decode cL_law 888 = .ok (.aload_n 0, 1) := by decide +kernel
theorem dL_law_889 : decode cL_law 889 = .ok (.iload_n 3, 1) := by decide +kernel
theorem dL_law_890 : decode cL_law 890 = .ok (.iconst 1, 1) := by decide +kernel
theorem dL_law_891 : decode cL_law 891 = .ok (.iadd, 1) := by decide +kernel
theorem dL_law_892 : decode cL_law 892 = .ok (.iaload, 1) := by decide +kernel
theorem dL_law_893 : decode cL_law 893 = .ok (.aload_n 0, 1) := by decide +kernel
theorem dL_law_894 : decode cL_law 894 = .ok (.iload_n 3, 1) := by decide +kernel
theorem dL_law_895 : decode cL_law 895 = .ok (.iconst 2, 1) := by decide +kernel
theorem dL_law_896 : decode cL_law 896 = .ok (.iadd, 1) := by decide +kernel
theorem dL_law_897 : decode cL_law 897 = .ok (.iaload, 1) := by decide +kernel
theorem dL_law_898 : decode cL_law 898 = .ok (.aload_n 0, 1) := by decide +kernel
theorem dL_law_899 : decode cL_law 899 = .ok (.iload_n 3, 1) := by decide +kernel
theorem dL_law_900 : decode cL_law 900 = .ok (.iconst 3, 1) := by decide +kernel
theorem dL_law_901 : decode cL_law 901 = .ok (.iadd, 1) := by decide +kernel
theorem dL_law_902 : decode cL_law 902 = .ok (.iaload, 1) := by decide +kernel
theorem dL_law_903 : decode cL_law 903 = .ok (.invokevirtual 115, 3) := by decide +kernel
theorem dL_law_906 : decode cL_law 906 = .ok (.aload_n 2, 1) := by decide +kernel
theorem dL_law_907 : decode cL_law 907 = .ok (.aload_n 0, 1) := by decide +kernel
theorem dL_law_908 : decode cL_law 908 = .ok (.iload_n 3, 1) := by decide +kernel
theorem dL_law_909 : decode cL_law 909 = .ok (.iconst 1, 1) := by decide +kernel
theorem dL_law_910 : decode cL_law 910 = .ok (.iadd, 1) := by decide +kernel
theorem dL_law_911 : decode cL_law 911 = .ok (.iaload, 1) := by decide +kernel
theorem dL_law_912 : decode cL_law 912 = .ok (.aload_n 0, 1) := by decide +kernel
theorem dL_law_913 : decode cL_law 913 = .ok (.iload_n 3, 1) := by decide +kernel
theorem dL_law_914 : decode cL_law 914 = .ok (.iconst 2, 1) := by decide +kernel
theorem dL_law_915 : decode cL_law 915 = .ok (.iadd, 1) := by decide +kernel
theorem dL_law_916 : decode cL_law 916 = .ok (.iaload, 1) := by decide +kernel
theorem dL_law_917 : decode cL_law 917 = .ok (.aload_n 0, 1) := by decide +kernel
theorem dL_law_918 : decode cL_law 918 = .ok (.iload_n 3, 1) := by decide +kernel
theorem dL_law_919 : decode cL_law 919 = .ok (.iconst 3, 1) := by decide +kernel
theorem dL_law_920 : decode cL_law 920 = .ok (.iadd, 1) := by decide +kernel
theorem dL_law_921 : decode cL_law 921 = .ok (.iaload, 1) := by decide +kernel
theorem dL_law_922 : decode cL_law 922 = .ok (.invokevirtual 118, 3) := by decide +kernel
theorem dL_law_925 : decode cL_law 925 = .ok (.if_icmp .eq 104, 3) := by decide +kernel
theorem dL_law_928 : decode cL_law 928 = .ok (.iconst 0, 1) := by decide +kernel
theorem dL_law_929 : decode cL_law 929 = .ok (.ireturn, 1) := by decide +kernel
theorem dL_law_930 : decode cL_law 930 = .ok (.aload_n 1, 1) := by decide +kernel
theorem dL_law_931 : decode cL_law 931 = .ok (.aload_n 0, 1) := by decide +kernel
theorem dL_law_932 : decode cL_law 932 = .ok (.iload_n 3, 1) := by decide +kernel
theorem dL_law_933 : decode cL_law 933 = .ok (.iconst 1, 1) := by decide +kernel
theorem dL_law_934 : decode cL_law 934 = .ok (.iadd, 1) := by decide +kernel
theorem dL_law_935 : decode cL_law 935 = .ok (.iaload, 1) := by decide +kernel
theorem dL_law_936 : decode cL_law 936 = .ok (.aload_n 0, 1) := by decide +kernel
theorem dL_law_937 : decode cL_law 937 = .ok (.iload_n 3, 1) := by decide +kernel
theorem dL_law_938 : decode cL_law 938 = .ok (.iconst 2, 1) := by decide +kernel
theorem dL_law_939 : decode cL_law 939 = .ok (.iadd, 1) := by decide +kernel
theorem dL_law_940 : decode cL_law 940 = .ok (.iaload, 1) := by decide +kernel
theorem dL_law_941 : decode cL_law 941 = .ok (.invokevirtual 119, 3) := by decide +kernel
theorem dL_law_944 : decode cL_law 944 = .ok (.aload_n 2, 1) := by decide +kernel
theorem dL_law_945 : decode cL_law 945 = .ok (.aload_n 0, 1) := by decide +kernel
theorem dL_law_946 : decode cL_law 946 = .ok (.iload_n 3, 1) := by decide +kernel
theorem dL_law_947 : decode cL_law 947 = .ok (.iconst 1, 1) := by decide +kernel
theorem dL_law_948 : decode cL_law 948 = .ok (.iadd, 1) := by decide +kernel
theorem dL_law_949 : decode cL_law 949 = .ok (.iaload, 1) := by decide +kernel
theorem dL_law_950 : decode cL_law 950 = .ok (.aload_n 0, 1) := by decide +kernel
theorem dL_law_951 : decode cL_law 951 = .ok (.iload_n 3, 1) := by decide +kernel
theorem dL_law_952 : decode cL_law 952 = .ok (.iconst 2, 1) := by decide +kernel
theorem dL_law_953 : decode cL_law 953 = .ok (.iadd, 1) := by decide +kernel
theorem dL_law_954 : decode cL_law 954 = .ok (.iaload, 1) := by decide +kernel
theorem dL_law_955 : decode cL_law 955 = .ok (.invokevirtual 122, 3) := by decide +kernel
theorem dL_law_958 : decode cL_law 958 = .ok (.if_icmp .eq 71, 3) := by decide +kernel
theorem dL_law_961 : decode cL_law 961 = .ok (.iconst 0, 1) := by decide +kernel
theorem dL_law_962 : decode cL_law 962 = .ok (.ireturn, 1) := by decide +kernel
theorem dL_law_963 : decode cL_law 963 = .ok (.aload_n 1, 1) := by decide +kernel
theorem dL_law_964 : decode cL_law 964 = .ok (.aload_n 0, 1) := by decide +kernel
theorem dL_law_965 : decode cL_law 965 = .ok (.iload_n 3, 1) := by decide +kernel
theorem dL_law_966 : decode cL_law 966 = .ok (.iconst 1, 1) := by decide +kernel
theorem dL_law_967 : decode cL_law 967 = .ok (.iadd, 1) := by decide +kernel
theorem dL_law_968 : decode cL_law 968 = .ok (.iaload, 1) := by decide +kernel
theorem dL_law_969 : decode cL_law 969 = .ok (.aload_n 0, 1) := by decide +kernel
theorem dL_law_970 : decode cL_law 970 = .ok (.iload_n 3, 1) := by decide +kernel
theorem dL_law_971 : decode cL_law 971 = .ok (.iconst 2, 1) := by decide +kernel
theorem dL_law_972 : decode cL_law 972 = .ok (.iadd, 1) := by decide +kernel
theorem dL_law_973 : decode cL_law 973 = .ok (.iaload, 1) := by decide +kernel
theorem dL_law_974 : decode cL_law 974 = .ok (.invokevirtual 123, 3) := by decide +kernel
theorem dL_law_977 : decode cL_law 977 = .ok (.aload_n 2, 1) := by decide +kernel
theorem dL_law_978 : decode cL_law 978 = .ok (.aload_n 0, 1) := by decide +kernel
theorem dL_law_979 : decode cL_law 979 = .ok (.iload_n 3, 1) := by decide +kernel
theorem dL_law_980 : decode cL_law 980 = .ok (.iconst 1, 1) := by decide +kernel
theorem dL_law_981 : decode cL_law 981 = .ok (.iadd, 1) := by decide +kernel
theorem dL_law_982 : decode cL_law 982 = .ok (.iaload, 1) := by decide +kernel
theorem dL_law_983 : decode cL_law 983 = .ok (.aload_n 0, 1) := by decide +kernel
theorem dL_law_984 : decode cL_law 984 = .ok (.iload_n 3, 1) := by decide +kernel
theorem dL_law_985 : decode cL_law 985 = .ok (.iconst 2, 1) := by decide +kernel
theorem dL_law_986 : decode cL_law 986 = .ok (.iadd, 1) := by decide +kernel
theorem dL_law_987 : decode cL_law 987 = .ok (.iaload, 1) := by decide +kernel
theorem dL_law_988 : decode cL_law 988 = .ok (.invokevirtual 126, 3) := by decide +kernel
theorem dL_law_991 : decode cL_law 991 = .ok (.if_icmp .eq 38, 3) := by decide +kernel
theorem dL_law_994 : decode cL_law 994 = .ok (.iconst 0, 1) := by decide +kernel
theorem dL_law_995 : decode cL_law 995 = .ok (.ireturn, 1) := by decide +kernel
theorem dL_law_996 : decode cL_law 996 = .ok (.aload_n 1, 1) := by decide +kernel
theorem dL_law_997 : decode cL_law 997 = .ok (.aload_n 0, 1) := by decide +kernel
theorem dL_law_998 : decode cL_law 998 = .ok (.iload_n 3, 1) := by decide +kernel
theorem dL_law_999 : decode cL_law 999 = .ok (.iconst 1, 1) := by decide +kernel
theorem dL_law_1000 : decode cL_law 1000 = .ok (.iadd, 1) := by decide +kernel
theorem dL_law_1001 : decode cL_law 1001 = .ok (.iaload, 1) := by decide +kernel
theorem dL_law_1002 : decode cL_law 1002 = .ok (.aload_n 0, 1) := by decide +kernel
theorem dL_law_1003 : decode cL_law 1003 = .ok (.iload_n 3, 1) := by decide +kernel
theorem dL_law_1004 : decode cL_law 1004 = .ok (.iconst 2, 1) := by decide +kernel
theorem dL_law_1005 : decode cL_law 1005 = .ok (.iadd, 1) := by decide +kernel
theorem dL_law_1006 : decode cL_law 1006 = .ok (.iaload, 1) := by decide +kernel
theorem dL_law_1007 : decode cL_law 1007 = .ok (.invokevirtual 127, 3) := by decide +kernel
theorem dL_law_1010 : decode cL_law 1010 = .ok (.aload_n 2, 1) := by decide +kernel
theorem dL_law_1011 : decode cL_law 1011 = .ok (.aload_n 0, 1) := by decide +kernel
theorem dL_law_1012 : decode cL_law 1012 = .ok (.iload_n 3, 1) := by decide +kernel
theorem dL_law_1013 : decode cL_law 1013 = .ok (.iconst 1, 1) := by decide +kernel
theorem dL_law_1014 : decode cL_law 1014 = .ok (.iadd, 1) := by decide +kernel
theorem dL_law_1015 : decode cL_law 1015 = .ok (.iaload, 1) := by decide +kernel
theorem dL_law_1016 : decode cL_law 1016 = .ok (.aload_n 0, 1) := by decide +kernel
theorem dL_law_1017 : decode cL_law 1017 = .ok (.iload_n 3, 1) := by decide +kernel
theorem dL_law_1018 : decode cL_law 1018 = .ok (.iconst 2, 1) := by decide +kernel
theorem dL_law_1019 : decode cL_law 1019 = .ok (.iadd, 1) := by decide +kernel
theorem dL_law_1020 : decode cL_law 1020 = .ok (.iaload, 1) := by decide +kernel
theorem dL_law_1021 : decode cL_law 1021 = .ok (.invokevirtual 130, 3) := by decide +kernel
theorem dL_law_1024 : decode cL_law 1024 = .ok (.if_icmp .eq 5, 3) := by decide +kernel
theorem dL_law_1027 : decode cL_law 1027 = .ok (.iconst 0, 1) := by decide +kernel
theorem dL_law_1028 : decode cL_law 1028 = .ok (.ireturn, 1) := by decide +kernel
theorem dL_law_1029 : decode cL_law 1029 = .ok (.iinc 3 6, 3) := by decide +kernel
theorem dL_law_1032 : decode cL_law 1032 = .ok (.goto (-1014), 3) := by decide +kernel
theorem dL_law_1035 : decode cL_law 1035 = .ok (.iconst 1, 1) := by decide +kernel
theorem dL_law_1036 : decode cL_law 1036 = .ok (.ireturn, 1) := by decide +kernel
end
section
/-! MY WORLD: cells by number. A state is two tables: the ints and the longs of each cell (fields of an object, places of an array). -/
abbrev St : Type := (Nat → Nat → Int32) × (Nat → Nat → Int64)
def sI (σ : St) (c k : Nat) (v : Int32) : St := (fun a b => if a = c ∧ b = k then v else σ.1 a b, σ.2)
def sJ (σ : St) (c k : Nat) (v : Int64) : St := (σ.1, fun a b => if a = c ∧ b = k then v else σ.2 a b)
/-- a cell's kind: an array (code of its type, length, first cell and stride of what it refers to), or an object (its class's number, its fields: 0 an int, 1 a long, q + 2 the cell q) -/
abbrev Kd : Type := (Nat × Nat × Nat × Nat) ⊕ (Nat × List Nat)
def fvl (ad : Nat → Nat) (fI : Nat → Int32) (fJ : Nat → Int64) : Nat → List Nat → List Value
  | _, [] => []
  | k, 0 :: fl => .int (fI k) :: fvl ad fI fJ (k + 1) fl
  | k, 1 :: fl => .long (fJ k) :: fvl ad fI fJ (k + 1) fl
  | k, (q + 2) :: fl => .ref (ad q) :: fvl ad fI fJ (k + 1) fl
def fv1 (ad : Nat → Nat) (fI : Nat → Int32) (fJ : Nat → Int64) (k : Nat) : Nat → Value
  | 0 => .int (fI k)
  | 1 => .long (fJ k)
  | q + 2 => .ref (ad q)
theorem fvl_get {ad : Nat → Nat} {fI : Nat → Int32} {fJ : Nat → Int64} : ∀ (fl : List Nat) (o k : Nat), (fvl ad fI fJ o fl)[k]? = (fl[k]?).map (fv1 ad fI fJ (o + k))
  | [], _, _ => by simp [fvl]
  | f :: fl, o, 0 => by
    match f with
    | 0 => simp [fvl, fv1]
    | 1 => simp [fvl, fv1]
    | q + 2 => simp [fvl, fv1]
  | f :: fl, o, k + 1 => by
    have ih := fvl_get (ad := ad) (fI := fI) (fJ := fJ) fl (o + 1) k
    have e : o + 1 + k = o + (k + 1) := by omega
    rw [e] at ih
    match f with
    | 0 => simpa [fvl] using ih
    | 1 => simpa [fvl] using ih
    | q + 2 => simpa [fvl] using ih
theorem fvl_len {ad : Nat → Nat} {fI : Nat → Int32} {fJ : Nat → Int64} : ∀ (fl : List Nat) (o : Nat), (fvl ad fI fJ o fl).length = fl.length
  | [], _ => rfl
  | f :: fl, o => by
    have ih := fvl_len (ad := ad) (fI := fI) (fJ := fJ) fl (o + 1)
    match f with
    | 0 => simp [fvl, ih]
    | 1 => simp [fvl, ih]
    | q + 2 => simp [fvl, ih]
theorem fvl_setI {ad : Nat → Nat} {fI : Nat → Int32} {fJ : Nat → Int64} {fl : List Nat} {k : Nat} {v : Int32} (h : fl[k]? = some 0) : (fvl ad fI fJ 0 fl).set k (.int v) = fvl ad (upd fI k v) fJ 0 fl := by
  apply List.ext_getElem?
  intro i
  rw [List.getElem?_set]
  by_cases hi : k = i
  · subst hi
    have hk : k < (fvl ad fI fJ 0 fl).length := by rw [fvl_len]; exact (List.getElem?_eq_some_iff.mp h).1
    rw [fvl_get (ad := ad) (fI := upd fI k v), h]
    simp [hk, fv1, upd]
  · rw [fvl_get, fvl_get]
    simp only [hi, if_false]
    cases fl[i]? with
    | none => rfl
    | some f =>
      match f with
      | 0 => simp [fv1, upd, Ne.symm hi]
      | 1 => rfl
      | q + 2 => rfl
theorem fvl_setJ {ad : Nat → Nat} {fI : Nat → Int32} {fJ : Nat → Int64} {fl : List Nat} {k : Nat} {v : Int64} (h : fl[k]? = some 1) : (fvl ad fI fJ 0 fl).set k (.long v) = fvl ad fI (vp_updL fJ k v) 0 fl := by
  apply List.ext_getElem?
  intro i
  rw [List.getElem?_set]
  by_cases hi : k = i
  · subst hi
    have hk : k < (fvl ad fI fJ 0 fl).length := by rw [fvl_len]; exact (List.getElem?_eq_some_iff.mp h).1
    rw [fvl_get (ad := ad) (fJ := vp_updL fJ k v), h]
    simp [hk, fv1, vp_updL]
  · rw [fvl_get, fvl_get]
    simp only [hi, if_false]
    cases fl[i]? with
    | none => rfl
    | some f =>
      match f with
      | 0 => rfl
      | 1 => simp [fv1, vp_updL, Ne.symm hi]
      | q + 2 => rfl
def ent1 (ad : Nat → Nat) (cA : Nat → ClassId) (fI : Nat → Int32) (fJ : Nat → Int64) : Kd → va_E
  | .inl (ty, n, b, st) => .inl (cA ty, n, if ty = 3 then .inr (.inl fJ) else if ty < 3 then .inl fI else .inr (.inr (.inr (.inr (fun j => if j < n then some (ad (b + st * j)) else none)))))
  | .inr (ci, fl) => .inr (ci, fvl ad fI fJ 0 fl)
def ent (kd : Nat → Kd) (ad : Nat → Nat) (cA : Nat → ClassId) (σ : St) (c : Nat) : va_E := ent1 ad cA (σ.1 c) (σ.2 c) (kd c)
def wl (kd : Nat → Kd) (N : Nat) (ad : Nat → Nat) (cA : Nat → ClassId) (σ : St) : va_W := (List.range N).map (fun c => (ad c, ent kd ad cA σ c))
theorem wl_get {kd : Nat → Kd} {N : Nat} {ad : Nat → Nat} {cA : Nat → ClassId} {σ : St} {c : Nat} (h : c < N) : (wl kd N ad cA σ)[c]? = some (ad c, ent kd ad cA σ c) := by simp [wl, h]
theorem wl_set {kd : Nat → Kd} {N : Nat} {ad : Nat → Nat} {cA : Nat → ClassId} {σ σ' : St} {c : Nat} {e : va_E} (h : c < N) (he : e = ent kd ad cA σ' c) (ho : ∀ a, a ≠ c → ent kd ad cA σ' a = ent kd ad cA σ a) : (wl kd N ad cA σ).set c (ad c, e) = wl kd N ad cA σ' := by
  apply List.ext_getElem?
  intro i
  rw [List.getElem?_set]
  by_cases hi : c = i
  · subst hi
    simp [wl, h, he]
  · simp only [hi, if_false]
    by_cases hN : i < N
    · simp [wl, hN, ho i (Ne.symm hi)]
    · simp [wl, hN]
theorem sI_row {σ : St} {c k : Nat} {v : Int32} : (sI σ c k v).1 c = upd (σ.1 c) k v := by funext j; simp [sI, upd]
theorem sI_ne {σ : St} {c k a : Nat} {v : Int32} (h : a ≠ c) : (sI σ c k v).1 a = σ.1 a := by funext j; simp [sI, h]
theorem sJ_row {σ : St} {c k : Nat} {v : Int64} : (sJ σ c k v).2 c = vp_updL (σ.2 c) k v := by funext j; simp [sJ, vp_updL]
theorem sJ_ne {σ : St} {c k a : Nat} {v : Int64} (h : a ≠ c) : (sJ σ c k v).2 a = σ.2 a := by funext j; simp [sJ, h]
theorem ent_sI {kd : Nat → Kd} {ad : Nat → Nat} {cA : Nat → ClassId} {σ : St} {c k a : Nat} {v : Int32} (h : a ≠ c) : ent kd ad cA (sI σ c k v) a = ent kd ad cA σ a := by
  unfold ent; rw [sI_ne h]; rfl
theorem ent_sJ {kd : Nat → Kd} {ad : Nat → Nat} {cA : Nat → ClassId} {σ : St} {c k a : Nat} {v : Int64} (h : a ≠ c) : ent kd ad cA (sJ σ c k v) a = ent kd ad cA σ a := by
  unfold ent; rw [sJ_ne h]; rfl
/-! words: the good ones go down with the calls, the nest's go in the worlds -/
def nestW : Cond → Bool
  | .fieldLinkNest _ _ _ _ _ _ => true
  | .methodLinkNest _ _ _ _ => true
  | _ => false
def Nws (U : State) : Prop := ∀ w ∈ lw_tbl, nestW w = true → va_Nw w U
theorem Nws.warm {s U : State} (hW : s.WarmedH U.vm) (h : Nws s) : Nws U := by
  intro w hw hn
  cases w <;> first | exact va_Nw.warmF hW (h _ hw rfl) | exact va_Nw.warmM hW (h _ hw rfl) | exact absurd hn (by simp [nestW])
theorem Nws.same {u U : State} (e : u.vm = U.vm) (h : Nws u) : Nws U := by
  intro w hw hn
  cases w <;> first | exact va_Nw.same rfl e (h _ hw rfl) | exact absurd hn (by simp [nestW])
theorem Nws.of {args : Array Value} {s : State} (hts : ∀ w ∈ lw_tbl, w.before args s = true) : Nws s := by
  intro w hw hn
  cases w <;> first | exact va_Nw.of rfl (hts _ hw) | exact absurd hn (by simp [nestW])
def lw_good : List Cond := lw_tbl.filter goodWord
theorem lw_gt : ∀ w ∈ lw_good, w ∈ lw_tbl := fun _ h => (List.mem_filter.mp h).1
def wc (y : MethodName) (cc : ByteArray) (nL : Nat) (rt : Option FieldType) : List Cond := .code y cc nL rt :: lw_good
theorem wc_good {y : MethodName} {cc : ByteArray} {nL : Nat} {rt : Option FieldType} (h : Cond.code y cc nL rt ∈ lw_good) : GoodIn lw_good (wc y cc nL rt) := by
  intro w hw
  have hg : w ∈ lw_good := by
    rcases List.mem_cons.mp hw with e | e
    · subst e; exact h
    · exact e
  exact ⟨hg, good_of_word (List.mem_filter.mp hg).2⟩
abbrev classes : List vw_C := [(RX0, TX0, 2), (RX1, TX1, 15), (RX0, TX0, 2), (RX3, TX3, 4), (RX4, TX4, 6), (RX5, TX5, 3), (RX6, TX6, 7), (RX7, TX7, 6), (RX8, TX8, 39)]
abbrev tysOf (cA : Nat → ClassId) : List (ClassId × FieldType) := [(cA 0, .int), (cA 1, .byte), (cA 2, .boolean), (cA 3, .long), (cA 4, .array .int), (cA 5, .array .long), (cA 6, .object "DendroDesk$Tree")]
def Aw (N : Nat) (ad : Nat → Nat) : Nat → Prop := fun q => ∃ c, c < N ∧ q = ad c
def Wd (kd : Nat → Kd) (N : Nat) (D : va_G) (cA : Nat → ClassId) (ad : Nat → Nat) (s : State) (σ : St) (H : Heap) (locs : List Loc) : Prop :=
  va_P D classes (wl kd N ad cA σ) H ∧ va_D (Aw N ad) (wl kd N ad cA σ) ∧ va_S (Aw N ad) s.heap H locs
def PreW (kd : Nat → Kd) (N : Nat) (D : va_G) (cA : Nat → ClassId) (ad : Nat → Nat) (σ : St) (U : State) : Prop :=
  va_P D classes (wl kd N ad cA σ) U.heap ∧ va_K D classes (tysOf cA) U ∧ va_D (Aw N ad) (wl kd N ad cA σ) ∧ Nws U
def QW (kd : Nat → Kd) (N : Nat) (D : va_G) (cA : Nat → ClassId) (ad : Nat → Nat) (rv : Option Value) (σ' : St) : Array Value → State → Outcome → State → Prop := fun _ st oc t =>
  oc = .returned rv ∧ PreW kd N D cA ad σ' t ∧ va_F (Aw N ad) st t
/-- the contract: from the world σ the method returns rv, and the world is σ' -/
def MW (kd : Nat → Kd) (N : Nat) (l : Launch) (D : va_G) (cA : Nat → ClassId) (ad : Nat → Nat) (y : MethodName) (cc : ByteArray) (nL : Nat) (rt : Option FieldType) (rm : Room) (As : List Value) (σ : St) (rv : Option Value) (σ' : St) : Prop :=
  Met l y (wc y cc nL rt) rm (va_Pc As (PreW kd N D cA ad σ)) (QW kd N D cA ad rv σ') 0 0 (Aw N ad)
def Cx (own : String) (cc : ByteArray) (nL : Nat) (rt : Option FieldType) (D : va_G) (cA : Nat → ClassId) (p : Program) (s : State) (m : MethodId) (args : Array Value) (meth : Method) (c : Code) : Prop :=
  p.tables.exec = Jvm.exec ∧ c.code = cc ∧ c.maxLocals = nL ∧ s.vm.findClass own = some m.cls ∧ (∀ w ∈ lw_good, w.before args s = true) ∧ Nws s ∧ va_K D classes (tysOf cA) s ∧ meth.sig.returnType = rt ∧ meth.locks = false
/-- the end of a method's body -/
abbrev EndW (kd : Nat → Kd) (N : Nat) (D : va_G) (cA : Nat → ClassId) (ad : Nat → Nat) (below : List Frame) (args : Array Value) (s : State) (rv : Option Value) (σ' : St) : State → Prop := MQ below (QW kd N D cA ad rv σ') args s 0 0 (Aw N ad)
theorem PreW.blind {kd : Nat → Kd} {N : Nat} {D : va_G} {cA : Nat → ClassId} {ad : Nat → Nat} {σ : St} {As : List Value} : FrameBlind (va_Pc As (PreW kd N D cA ad σ)) := by
  intro a U g mk q
  obtain ⟨h0, hP, hK, hD, hN⟩ := q
  exact ⟨h0, hP, va_K.moved (u := U) (U := U.calling g mk a) (Vm.Alike.refl U.vm) hK, hD, Nws.same (u := U) (U := U.calling g mk a) rfl hN⟩
theorem MW.of {kd : Nat → Kd} {N : Nat} {l : Launch} {D : va_G} {cA : Nat → ClassId} {ad : Nat → Nat} {own nm ds : String} {cc : ByteArray} {nL : Nat} {rt : Option FieldType} {rm : Room} {As : List Value} {σ : St} {rv : Option Value} {σ' : St}
    (hy : plainName own = true) (hn : (lg_sl As).length ≤ nL)
    (body : ∀ p e s m args below meth c ls, Cx own cc nL rt D cA p s m args meth c → Wd kd N D cA ad s σ s.heap [] → lv_has ls nL (lv_args 0 As) →
      W p l e rm s m args below meth c s.heap [] 0 0 (EndW kd N D cA ad below args s rv σ') (F0 m 0 ls [])) : MW kd N l D cA ad ⟨own, nm, ds⟩ cc nL rt rm As σ rv σ' := by
  refine Met.ofW (cc := cc) (maxL := nL) (ret := rt) hy rfl ?_
  intro p e s m args below meth c s₁ B hml hv
  obtain ⟨rfl, hP, hK, hD, hNw⟩ := hv
  have hts := atoms_spec (ws := wc ⟨own, nm, ds⟩ cc nL rt) B.pre
  have hown : s.vm.findClass own = some m.cls := findClass_of_methodNamed B.named
  rw [lg_entry_eq]
  exact body p e s m _ below meth c _ ⟨B.exec, B.bytes, hml, hown, fun w hw => hts w (List.mem_cons_of_mem _ hw), hNw, hK, B.returns, B.notSynchronized⟩ ⟨hP, hD, va_S.rf⟩ (lv_entry As hn)
section KIT
variable {kd : Nat → Kd} {N : Nat} {D : va_G} {cA : Nat → ClassId} {ad : Nat → Nat} {σ σ' : St}
variable {p : Program} {l : Launch} {e : Env} {R : Room} {s : State} {m : MethodId} {args : Array Value} {below : List Frame} {meth : Method} {c : Code} {H : Heap} {locs : List Loc} {Q : State → Prop} {cells slots : Nat}
variable {own : String} {cc : ByteArray} {nL : Nat} {rt : Option FieldType} {pc : Nat} {ls : Array Slot} {rest st : List Value}
/-- places -/
def ib (i : Int32) (n : Nat) : Bool := decide (¬ (i < 0 ∨ n ≤ i.toNatClampNeg))
theorem ib_in {i : Int32} {n : Nat} (h : ib i n = true) : vp_in i n := by
  unfold ib at h
  have h2 : ¬ (i < 0 ∨ n ≤ i.toNatClampNeg) := of_decide_eq_true h
  exact h2
theorem Wd.iald (hC : Cx own cc nL rt D cA p s m args meth c) (hW : Wd kd N D cA ad s σ H locs) (b : Nat) {n x y : Nat} (hb : b < N) (hkd : kd b = .inl (0, n, x, y)) {i : Int32} (hin : ib i n = true) (hdg : decode cc pc = .ok (.iaload, 1))
    (kk : W p l e R s m args below meth c H locs cells slots Q (F0 m (pc + 1) ls (.int (σ.1 b i.toNatClampNeg) :: rest))) : W p l e R s m args below meth c H locs cells slots Q (F0 m pc ls (.int i :: .ref (ad b) :: rest)) :=
  va_iald hC.1 hC.2.1 hC.2.2.2.2.2.2.1 hW.1 b 0 (n := n) (f := σ.1 b) (by rw [wl_get hb]; unfold ent; rw [hkd]; rfl) rfl (ib_in hin) hdg kk
theorem Wd.bald (hC : Cx own cc nL rt D cA p s m args meth c) (hW : Wd kd N D cA ad s σ H locs) (b : Nat) {n x y : Nat} (hb : b < N) (hkd : kd b = .inl (1, n, x, y)) {i : Int32} (hin : ib i n = true) (hdg : decode cc pc = .ok (.baload, 1))
    (kk : W p l e R s m args below meth c H locs cells slots Q (F0 m (pc + 1) ls (.int (σ.1 b i.toNatClampNeg) :: rest))) : W p l e R s m args below meth c H locs cells slots Q (F0 m pc ls (.int i :: .ref (ad b) :: rest)) :=
  va_bald hC.1 hC.2.1 hC.2.2.2.2.2.2.1 hW.1 b 1 (n := n) (f := σ.1 b) (by rw [wl_get hb]; unfold ent; rw [hkd]; rfl) rfl (ib_in hin) hdg kk
theorem Wd.zald (hC : Cx own cc nL rt D cA p s m args meth c) (hW : Wd kd N D cA ad s σ H locs) (b : Nat) {n x y : Nat} (hb : b < N) (hkd : kd b = .inl (2, n, x, y)) {i : Int32} (hin : ib i n = true) (hdg : decode cc pc = .ok (.baload, 1))
    (kk : W p l e R s m args below meth c H locs cells slots Q (F0 m (pc + 1) ls (.int (σ.1 b i.toNatClampNeg) :: rest))) : W p l e R s m args below meth c H locs cells slots Q (F0 m pc ls (.int i :: .ref (ad b) :: rest)) :=
  va_zald hC.1 hC.2.1 hC.2.2.2.2.2.2.1 hW.1 b 2 (n := n) (f := σ.1 b) (by rw [wl_get hb]; unfold ent; rw [hkd]; rfl) rfl (ib_in hin) hdg kk
theorem Wd.lald (hC : Cx own cc nL rt D cA p s m args meth c) (hW : Wd kd N D cA ad s σ H locs) (b : Nat) {n x y : Nat} (hb : b < N) (hkd : kd b = .inl (3, n, x, y)) {i : Int32} (hin : ib i n = true) (hdg : decode cc pc = .ok (.laload, 1))
    (kk : W p l e R s m args below meth c H locs cells slots Q (F0 m (pc + 1) ls (.long (σ.2 b i.toNatClampNeg) :: rest))) : W p l e R s m args below meth c H locs cells slots Q (F0 m pc ls (.int i :: .ref (ad b) :: rest)) :=
  va_lald hC.1 hC.2.1 hC.2.2.2.2.2.2.1 hW.1 b 3 (n := n) (f := σ.2 b) (by rw [wl_get hb]; unfold ent; rw [hkd]; rfl) rfl (ib_in hin) hdg kk
/-- a place of an array of references -/
theorem Wd.aald (hC : Cx own cc nL rt D cA p s m args meth c) (hW : Wd kd N D cA ad s σ H locs) (b : Nat) {ty n x y : Nat} (hty : 3 < ty ∧ ty < 7) (hb : b < N) (hkd : kd b = .inl (ty, n, x, y)) {i : Int32} (hin : ib i n = true) (hdg : decode cc pc = .ok (.aaload, 1))
    (kk : W p l e R s m args below meth c H locs cells slots Q (F0 m (pc + 1) ls (.ref (ad (x + y * i.toNatClampNeg)) :: rest))) : W p l e R s m args below meth c H locs cells slots Q (F0 m pc ls (.int i :: .ref (ad b) :: rest)) := by
  have hvi := ib_in hin
  have hlt : i.toNatClampNeg < n := Nat.not_le.mp fun q => hvi (Or.inr q)
  have hK := hC.2.2.2.2.2.2.1
  have ha : (wl kd N ad cA σ)[b]? = some (ad b, .inl (cA ty, n, .inr (.inr (.inr (.inr (fun j => if j < n then some (ad (x + y * j)) else none)))))) := by
    rw [wl_get hb]; unfold ent; rw [hkd]; simp [ent1, show ¬ ty = 3 by omega, show ¬ ty < 3 by omega]
  have h4 : ty = 4 ∨ ty = 5 ∨ ty = 6 := by omega
  have hv : va_rf ((fun j => if j < n then some (ad (x + y * j)) else none) i.toNatClampNeg) = .ref (ad (x + y * i.toNatClampNeg)) := by simp [hlt, va_rf]
  rcases h4 with rfl | rfl | rfl
  · refine W.aald (v := .ref (ad (x + y * i.toNatClampNeg))) (ty := .array .int) hC.1 hC.2.1 (hW.1 b _ ha) ((hK.2 4 _ rfl).1 n (fun j => va_rf (if j < n then some (ad (x + y * j)) else none))) rfl (fun q => by cases q) (by show ¬ (i < 0 ∨ (arrV _ _ _).slots.size ≤ _); rw [arrV_size]; exact hvi) (by show (arrV _ _ _).slots[_]? = _; rw [arrV_read _ _ hlt, ← hv]) rfl rfl hdg kk
  · refine W.aald (v := .ref (ad (x + y * i.toNatClampNeg))) (ty := .array .long) hC.1 hC.2.1 (hW.1 b _ ha) ((hK.2 5 _ rfl).1 n (fun j => va_rf (if j < n then some (ad (x + y * j)) else none))) rfl (fun q => by cases q) (by show ¬ (i < 0 ∨ (arrV _ _ _).slots.size ≤ _); rw [arrV_size]; exact hvi) (by show (arrV _ _ _).slots[_]? = _; rw [arrV_read _ _ hlt, ← hv]) rfl rfl hdg kk
  · refine W.aald (v := .ref (ad (x + y * i.toNatClampNeg))) (ty := .object "DendroDesk$Tree") hC.1 hC.2.1 (hW.1 b _ ha) ((hK.2 6 _ rfl).1 n (fun j => va_rf (if j < n then some (ad (x + y * j)) else none))) rfl (fun q => by cases q) (by show ¬ (i < 0 ∨ (arrV _ _ _).slots.size ≤ _); rw [arrV_size]; exact hvi) (by show (arrV _ _ _).slots[_]? = _; rw [arrV_read _ _ hlt, ← hv]) rfl rfl hdg kk
theorem Wd.iast (hC : Cx own cc nL rt D cA p s m args meth c) (hW : Wd kd N D cA ad s σ H locs) (b : Nat) {n x y : Nat} (hb : b < N) (hkd : kd b = .inl (0, n, x, y)) {i v : Int32} (hin : ib i n = true) (hdg : decode cc pc = .ok (.iastore, 1))
    (kk : ∀ (H : Heap) (locs : List Loc), Wd kd N D cA ad s (sI σ b i.toNatClampNeg v) H locs → W p l e R s m args below meth c H locs cells slots Q (F0 m (pc + 1) ls rest)) : W p l e R s m args below meth c H locs cells slots Q (F0 m pc ls (.int v :: .int i :: .ref (ad b) :: rest)) := by
  refine va_iast hC.1 hC.2.1 hC.2.2.2.2.2.2.1 hW.1 hW.2.1 hW.2.2 b 0 (n := n) (f := σ.1 b) (by rw [wl_get hb]; unfold ent; rw [hkd]; rfl) rfl (ib_in hin) hdg (fun H1 locs1 h1 h2 h3 => kk H1 locs1 ?_)
  have e : (wl kd N ad cA σ).set b (ad b, .inl (cA 0, n, .inl (upd (σ.1 b) i.toNatClampNeg v))) = wl kd N ad cA (sI σ b i.toNatClampNeg v) := wl_set hb (by unfold ent; rw [hkd, sI_row]; rfl) (fun a ha => ent_sI ha)
  rw [e] at h1 h2
  exact ⟨h1, h2, h3⟩
theorem Wd.bast (hC : Cx own cc nL rt D cA p s m args meth c) (hW : Wd kd N D cA ad s σ H locs) (b : Nat) {n x y : Nat} (hb : b < N) (hkd : kd b = .inl (1, n, x, y)) {i v : Int32} (hin : ib i n = true) (hdg : decode cc pc = .ok (.bastore, 1))
    (kk : ∀ (H : Heap) (locs : List Loc), Wd kd N D cA ad s (sI σ b i.toNatClampNeg v.toInt8.toInt32) H locs → W p l e R s m args below meth c H locs cells slots Q (F0 m (pc + 1) ls rest)) : W p l e R s m args below meth c H locs cells slots Q (F0 m pc ls (.int v :: .int i :: .ref (ad b) :: rest)) := by
  refine va_bast hC.1 hC.2.1 hC.2.2.2.2.2.2.1 hW.1 hW.2.1 hW.2.2 b 1 (n := n) (f := σ.1 b) (by rw [wl_get hb]; unfold ent; rw [hkd]; rfl) rfl (ib_in hin) hdg (fun H1 locs1 h1 h2 h3 => kk H1 locs1 ?_)
  have e : (wl kd N ad cA σ).set b (ad b, .inl (cA 1, n, .inl (upd (σ.1 b) i.toNatClampNeg (vp_nar .byte v)))) = wl kd N ad cA (sI σ b i.toNatClampNeg v.toInt8.toInt32) := wl_set hb (by unfold ent; rw [hkd, sI_row, vp_nar_byte]; rfl) (fun a ha => ent_sI ha)
  rw [e] at h1 h2
  exact ⟨h1, h2, h3⟩
theorem Wd.zast (hC : Cx own cc nL rt D cA p s m args meth c) (hW : Wd kd N D cA ad s σ H locs) (b : Nat) {n x y : Nat} (hb : b < N) (hkd : kd b = .inl (2, n, x, y)) {i v : Int32} (hin : ib i n = true) (hdg : decode cc pc = .ok (.bastore, 1))
    (kk : ∀ (H : Heap) (locs : List Loc), Wd kd N D cA ad s (sI σ b i.toNatClampNeg (vp_nar .boolean v)) H locs → W p l e R s m args below meth c H locs cells slots Q (F0 m (pc + 1) ls rest)) : W p l e R s m args below meth c H locs cells slots Q (F0 m pc ls (.int v :: .int i :: .ref (ad b) :: rest)) := by
  refine va_zast hC.1 hC.2.1 hC.2.2.2.2.2.2.1 hW.1 hW.2.1 hW.2.2 b 2 (n := n) (f := σ.1 b) (by rw [wl_get hb]; unfold ent; rw [hkd]; rfl) rfl (ib_in hin) hdg (fun H1 locs1 h1 h2 h3 => kk H1 locs1 ?_)
  have e : (wl kd N ad cA σ).set b (ad b, .inl (cA 2, n, .inl (upd (σ.1 b) i.toNatClampNeg (vp_nar .boolean v)))) = wl kd N ad cA (sI σ b i.toNatClampNeg (vp_nar .boolean v)) := wl_set hb (by unfold ent; rw [hkd, sI_row]; rfl) (fun a ha => ent_sI ha)
  rw [e] at h1 h2
  exact ⟨h1, h2, h3⟩
theorem Wd.last (hC : Cx own cc nL rt D cA p s m args meth c) (hW : Wd kd N D cA ad s σ H locs) (b : Nat) {n x y : Nat} (hb : b < N) (hkd : kd b = .inl (3, n, x, y)) {i : Int32} {v : Int64} (hin : ib i n = true) (hdg : decode cc pc = .ok (.lastore, 1))
    (kk : ∀ (H : Heap) (locs : List Loc), Wd kd N D cA ad s (sJ σ b i.toNatClampNeg v) H locs → W p l e R s m args below meth c H locs cells slots Q (F0 m (pc + 1) ls rest)) : W p l e R s m args below meth c H locs cells slots Q (F0 m pc ls (.long v :: .int i :: .ref (ad b) :: rest)) := by
  refine va_last hC.1 hC.2.1 hC.2.2.2.2.2.2.1 hW.1 hW.2.1 hW.2.2 b 3 (n := n) (f := σ.2 b) (by rw [wl_get hb]; unfold ent; rw [hkd]; rfl) rfl (ib_in hin) hdg (fun H1 locs1 h1 h2 h3 => kk H1 locs1 ?_)
  have e : (wl kd N ad cA σ).set b (ad b, .inl (cA 3, n, .inr (.inl (vp_updL (σ.2 b) i.toNatClampNeg v)))) = wl kd N ad cA (sJ σ b i.toNatClampNeg v) := wl_set hb (by unfold ent; rw [hkd, sJ_row]; rfl) (fun a ha => ent_sJ ha)
  rw [e] at h1 h2
  exact ⟨h1, h2, h3⟩
theorem Wd.alen (hC : Cx own cc nL rt D cA p s m args meth c) (hW : Wd kd N D cA ad s σ H locs) (b : Nat) {n x y : Nat} (hb : b < N) (hkd : kd b = .inl (0, n, x, y)) (hdg : decode cc pc = .ok (.arraylength, 1))
    (kk : W p l e R s m args below meth c H locs cells slots Q (F0 m (pc + 1) ls (.int (Int32.ofNat n) :: rest))) : W p l e R s m args below meth c H locs cells slots Q (F0 m pc ls (.ref (ad b) :: rest)) :=
  va_alen hC.1 hC.2.1 hC.2.2.2.2.2.2.1 hW.1 b 0 (x := (n, .inl (σ.1 b))) (by rw [wl_get hb]; unfold ent; rw [hkd]; rfl) rfl rfl hdg kk
/-- fields -/
theorem Wd.get (hC : Cx own cc nL rt D cA p s m args meth c) (hW : Wd kd N D cA ad s σ H locs) (b k : Nat) {index ci NN : Nat} {fl : List Nat} {C ref : String} {T : u_T} (hb : b < N) (hkd : kd b = .inr (ci, fl)) (hcl : classes[ci]? = some (C, T, NN)) (hin : ∀ w ∈ u_ws C T NN, w ∈ lw_good) (hk : k < NN) (hlink : Cond.fieldLink own index ref (T k).2.1 (T k).2.2.1 ∈ lw_good) (href : (T k).1 = ref) {f : Nat} (hf : fl[k]? = some f) (hdg : decode cc pc = .ok (.getfield index, 3))
    (kk : W p l e R s m args below meth c H locs cells slots Q (F0 m (pc + 3) ls (fv1 ad (σ.1 b) (σ.2 b) k f :: rest))) : W p l e R s m args below meth c H locs cells slots Q (F0 m pc ls (.ref (ad b) :: rest)) :=
  va_get hC.1 hC.2.1 hC.2.2.2.2.1 hin hC.2.2.2.1 hC.2.2.2.2.2.2.1 hW.1 b (fs := fvl ad (σ.1 b) (σ.2 b) 0 fl) (by rw [wl_get hb]; unfold ent; rw [hkd]; rfl) hcl k hk (hC.2.2.2.2.1 _ hlink) (fun _ h => by rw [← href]; exact h) (v := fv1 ad (σ.1 b) (σ.2 b) k f) (by rw [fvl_get, hf, Nat.zero_add]; rfl) hdg kk
theorem Wd.getN (hC : Cx own cc nL rt D cA p s m args meth c) (hW : Wd kd N D cA ad s σ H locs) (b k : Nat) {index ci NN : Nat} {fl : List Nat} {C ref host : String} {T : u_T} (hb : b < N) (hkd : kd b = .inr (ci, fl)) (hcl : classes[ci]? = some (C, T, NN)) (hin : ∀ w ∈ u_ws C T NN, w ∈ lw_good) (hk : k < NN) (hlink : Cond.fieldLinkNest own index ref (T k).2.1 (T k).2.2.1 host ∈ lw_tbl) (href : (T k).1 = ref) {f : Nat} (hf : fl[k]? = some f) (hdg : decode cc pc = .ok (.getfield index, 3))
    (kk : W p l e R s m args below meth c H locs cells slots Q (F0 m (pc + 3) ls (fv1 ad (σ.1 b) (σ.2 b) k f :: rest))) : W p l e R s m args below meth c H locs cells slots Q (F0 m pc ls (.ref (ad b) :: rest)) :=
  va_getN hC.1 hC.2.1 hC.2.2.2.2.1 hin hC.2.2.2.1 hC.2.2.2.2.2.2.1 hW.1 b (fs := fvl ad (σ.1 b) (σ.2 b) 0 fl) (by rw [wl_get hb]; unfold ent; rw [hkd]; rfl) hcl k hk (va_Nw.use rfl (hC.2.2.2.2.2.1 _ hlink rfl)) (fun _ h => by rw [← href]; exact h) (v := fv1 ad (σ.1 b) (σ.2 b) k f) (by rw [fvl_get, hf, Nat.zero_add]; rfl) hdg kk
theorem Wd.put (hC : Cx own cc nL rt D cA p s m args meth c) (hW : Wd kd N D cA ad s σ H locs) (b k : Nat) {index ci NN : Nat} {fl : List Nat} {C ref : String} {T : u_T} {ty0 : Nat → FieldType} {ty : FieldType} {v : Value} (hb : b < N) (hkd : kd b = .inr (ci, fl)) (hcl : classes[ci]? = some (C, T, NN)) (hin : ∀ w ∈ u_ws C T NN, w ∈ lw_good) (hty : ∀ k, k < NN → parseFieldDescriptor (T k).2.2.1 = some (ty0 k)) (hnm : ∀ a, a < NN → ∀ b, b < NN → a ≠ b → (T a).2.1 ≠ (T b).2.1) (hk : k < NN) (hlink : Cond.fieldLink own index ref (T k).2.1 (T k).2.2.1 ∈ lw_good) (href : (T k).1 = ref) (hfin : (T k).2.2.2 = false) (hd : parseFieldDescriptor (T k).2.2.1 = some ty) (hn : narrow ty v = v) (hfit : fits ty v = true) (hl : k < fl.length) (hr : (fvl ad (σ.1 b) (σ.2 b) 0 fl).set k v = fvl ad (σ'.1 b) (σ'.2 b) 0 fl) (ho : ∀ a, a ≠ b → ent kd ad cA σ' a = ent kd ad cA σ a) (hdg : decode cc pc = .ok (.putfield index, 3))
    (kk : ∀ (H : Heap) (locs : List Loc), Wd kd N D cA ad s σ' H locs → W p l e R s m args below meth c H locs cells slots Q (F0 m (pc + 3) ls rest)) : W p l e R s m args below meth c H locs cells slots Q (F0 m pc ls (v :: .ref (ad b) :: rest)) := by
  refine va_put hC.1 hC.2.1 hC.2.2.2.2.1 hin ty0 hty hnm hC.2.2.2.1 hC.2.2.2.2.2.2.1 hW.1 hW.2.1 hW.2.2 b (fs := fvl ad (σ.1 b) (σ.2 b) 0 fl) (by rw [wl_get hb]; unfold ent; rw [hkd]; rfl) hcl k hk (hC.2.2.2.2.1 _ hlink) (fun _ h => by rw [← href]; exact h) hfin hd hn hfit (by rw [fvl_len]; exact hl) hdg (fun H1 locs1 h1 h2 h3 => kk H1 locs1 ?_)
  have e2 : (wl kd N ad cA σ).set b (ad b, .inr (ci, (fvl ad (σ.1 b) (σ.2 b) 0 fl).set k v)) = wl kd N ad cA σ' := wl_set hb (by unfold ent; rw [hkd, hr]; rfl) ho
  rw [e2] at h1 h2
  exact ⟨h1, h2, h3⟩
theorem Wd.putN (hC : Cx own cc nL rt D cA p s m args meth c) (hW : Wd kd N D cA ad s σ H locs) (b k : Nat) {index ci NN : Nat} {fl : List Nat} {C ref host : String} {T : u_T} {ty0 : Nat → FieldType} {ty : FieldType} {v : Value} (hb : b < N) (hkd : kd b = .inr (ci, fl)) (hcl : classes[ci]? = some (C, T, NN)) (hin : ∀ w ∈ u_ws C T NN, w ∈ lw_good) (hty : ∀ k, k < NN → parseFieldDescriptor (T k).2.2.1 = some (ty0 k)) (hnm : ∀ a, a < NN → ∀ b, b < NN → a ≠ b → (T a).2.1 ≠ (T b).2.1) (hk : k < NN) (hlink : Cond.fieldLinkNest own index ref (T k).2.1 (T k).2.2.1 host ∈ lw_tbl) (href : (T k).1 = ref) (hfin : (T k).2.2.2 = false) (hd : parseFieldDescriptor (T k).2.2.1 = some ty) (hn : narrow ty v = v) (hfit : fits ty v = true) (hl : k < fl.length) (hr : (fvl ad (σ.1 b) (σ.2 b) 0 fl).set k v = fvl ad (σ'.1 b) (σ'.2 b) 0 fl) (ho : ∀ a, a ≠ b → ent kd ad cA σ' a = ent kd ad cA σ a) (hdg : decode cc pc = .ok (.putfield index, 3))
    (kk : ∀ (H : Heap) (locs : List Loc), Wd kd N D cA ad s σ' H locs → W p l e R s m args below meth c H locs cells slots Q (F0 m (pc + 3) ls rest)) : W p l e R s m args below meth c H locs cells slots Q (F0 m pc ls (v :: .ref (ad b) :: rest)) := by
  refine va_putN hC.1 hC.2.1 hC.2.2.2.2.1 hin ty0 hty hnm hC.2.2.2.1 hC.2.2.2.2.2.2.1 hW.1 hW.2.1 hW.2.2 b (fs := fvl ad (σ.1 b) (σ.2 b) 0 fl) (by rw [wl_get hb]; unfold ent; rw [hkd]; rfl) hcl k hk (va_Nw.use rfl (hC.2.2.2.2.2.1 _ hlink rfl)) (fun _ h => by rw [← href]; exact h) hfin hd hn hfit (by rw [fvl_len]; exact hl) hdg (fun H1 locs1 h1 h2 h3 => kk H1 locs1 ?_)
  have e2 : (wl kd N ad cA σ).set b (ad b, .inr (ci, (fvl ad (σ.1 b) (σ.2 b) 0 fl).set k v)) = wl kd N ad cA σ' := wl_set hb (by unfold ent; rw [hkd, hr]; rfl) ho
  rw [e2] at h1 h2
  exact ⟨h1, h2, h3⟩
theorem put_I {b k : Nat} {fl : List Nat} {v : Int32} (h : fl[k]? = some 0) : (fvl ad (σ.1 b) (σ.2 b) 0 fl).set k (.int v) = fvl ad ((sI σ b k v).1 b) ((sI σ b k v).2 b) 0 fl := by
  rw [sI_row, fvl_setI h]; rfl
theorem put_J {b k : Nat} {fl : List Nat} {v : Int64} (h : fl[k]? = some 1) : (fvl ad (σ.1 b) (σ.2 b) 0 fl).set k (.long v) = fvl ad ((sJ σ b k v).1 b) ((sJ σ b k v).2 b) 0 fl := by
  rw [sJ_row, fvl_setJ h]; rfl
theorem some_lt {α : Type} {fl : List α} {k : Nat} {f : α} (h : fl[k]? = some f) : k < fl.length := (List.getElem?_eq_some_iff.mp h).1
/-- a call that comes back -/
theorem Wd.back {A1 : Array Value} {rv : Option Value} (hr : va_Run p l e R s m args below meth c H locs cells slots 0 0 (F0 m pc ls st) rest (QW kd N D cA ad rv σ' A1) (Aw N ad)) (hS : va_S (Aw N ad) s.heap H locs)
    (kk : ∀ (H : Heap) (locs : List Loc), Wd kd N D cA ad s σ' H locs → W p l e R s m args below meth c H locs cells slots Q (F0 m (pc + 3) ls (rv.toList ++ rest))) : W p l e R s m args below meth c H locs cells slots Q (F0 m pc ls st) := by
  intro T hT X
  obtain ⟨v, st₀, t, T', L, h0, X', hL, e1, e2, ⟨hv, ⟨hP, hK, hD, hN⟩, hz, hk⟩, st⟩ := hr T hT X
  cases hv
  rw [h0] at hz hk
  obtain ⟨t2, a1, b1⟩ := kk T'.heap (locs ++ L) ⟨by rw [e1]; exact hP, hD, Nat.le_trans hS.1 (by rw [e1]; exact hz), fun q h1 h2 => by rw [e1, hk q (Nat.lt_of_lt_of_le h1 hS.1) h2]; exact hS.2.1 q h1 h2, fun q hq => by
      rcases List.mem_append.mp hq with h | h
      · exact hS.2.2 q h
      · exact hL q h⟩ T' rfl X'
  exact ⟨t2, st t2 a1, b1⟩
theorem Wd.pre (hC : Cx own cc nL rt D cA p s m args meth c) (hW : Wd kd N D cA ad s σ H locs) (As : List Value) : ∀ U : State, U.heap = H → s.WarmedH U.vm → va_Pc As (PreW kd N D cA ad σ) As.toArray U := by
  intro U hU hWm
  exact ⟨rfl, by rw [hU]; exact hW.1, va_K.moved hWm.alike hC.2.2.2.2.2.2.1, hW.2.1, Nws.warm hWm hC.2.2.2.2.2.1⟩
theorem Wd.recv (hC : Cx own cc nL rt D cA p s m args meth c) (hW : Wd kd N D cA ad s σ H locs) (b : Nat) {ci NN : Nat} {fl : List Nat} {C : String} {T : u_T} (hb : b < N) (hkd : kd b = .inr (ci, fl)) (hcl : classes[ci]? = some (C, T, NN)) : ∃ cell : Cell, H[ad b]? = some cell ∧ cell.vm.isStatics = false ∧ s.vm.findClass C = some cell.cls :=
  va_recv hC.2.2.2.2.2.2.1 hW.1 (q := (C, T, NN)) (ci := ci) (q0 := b) hcl (fs := fvl ad (σ.1 b) (σ.2 b) 0 fl) (by rw [wl_get hb]; unfold ent; rw [hkd]; rfl)
theorem Wd.callV (hC : Cx own cc nL rt D cA p s m args meth c) (hW : Wd kd N D cA ad s σ H locs) {C nm ds : String} {bytes : ByteArray} {maxL index n : Nat} {ret : Option FieldType} {rm : Room} {As : List Value} {rv : Option Value} (b : Nat) {ci NN : Nat} {fl : List Nat} {T : u_T}
    (hM : MW kd N l D cA ad ⟨C, nm, ds⟩ bytes maxL ret rm (.ref (ad b) :: As) σ rv σ') (hb : b < N) (hkd : kd b = .inr (ci, fl)) (hcl : classes[ci]? = some (C, T, NN))
    (w1 : Cond.methodLink own index ⟨C, nm, ds⟩ ∈ lw_good) (w2 : Cond.instanceMethod ⟨C, nm, ds⟩ ∈ lw_good) (w3 : Cond.selects C ⟨C, nm, ds⟩ ⟨C, nm, ds⟩ ∈ lw_good) (w4 : Cond.initialized C ∈ lw_good) (w5 : Cond.code ⟨C, nm, ds⟩ bytes maxL ret ∈ lw_good)
    (hrm : rm.cells = 0 ∧ rm.slots = 0) (hd : C ≠ "java/lang/invoke/MethodHandle" ∧ C ≠ "java/lang/invoke/VarHandle" ∧ (parseMethodDescriptor ds).map (fun d => d.parameters.length) = some n) (hR : rm.frames + 1 ≤ R.frames ∧ 8 + (maxL + 11) + rm.locals ≤ R.locals)
    (hcs : cells ≤ R.cells ∧ slots ≤ R.slots) (hn : As.length = n) (hls : ls.size = nL) (hst : st = As.reverse ++ .ref (ad b) :: rest) {st2 : List Value} (hst2 : rv.toList ++ rest = st2) (hrest : (rest.map fun v => v.category).sum ≤ 8) (hdg : decode cc pc = .ok (.invokevirtual index, 3))
    (kk : ∀ (H : Heap) (locs : List Loc), Wd kd N D cA ad s σ' H locs → W p l e R s m args below meth c H locs cells slots Q (F0 m (pc + 3) ls st2)) : W p l e R s m args below meth c H locs cells slots Q (F0 m pc ls st) := by
  subst hst2
  refine Wd.back (rest := rest) (va_runV (As := As) (rest := rest) (n := n) ⟨hC.1, hC.2.1, hC.2.2.1, hC.2.2.2.1, hC.2.2.2.2.1⟩ hM (C := C) (index := index) ⟨callB_of n hC.2.2.2.2.1 (wc_good w5) rfl hrm.1 hrm.2 (hC.2.2.2.2.1 _ w4) (hC.2.2.2.2.1 _ w1) hd hR, hC.2.2.2.2.1 _ w2, hC.2.2.2.2.1 _ w3⟩ ⟨PreW.blind, hW.recv hC b hb hkd hcl, hW.pre hC _⟩ rfl hn hls hst (lv_room hrest) hdg ⟨hcs.1, hcs.2⟩) hW.2.2 kk
theorem Wd.callVN (hC : Cx own cc nL rt D cA p s m args meth c) (hW : Wd kd N D cA ad s σ H locs) {C nm ds host : String} {bytes : ByteArray} {maxL index n : Nat} {ret : Option FieldType} {rm : Room} {As : List Value} {rv : Option Value} (b : Nat) {ci NN : Nat} {fl : List Nat} {T : u_T}
    (hM : MW kd N l D cA ad ⟨C, nm, ds⟩ bytes maxL ret rm (.ref (ad b) :: As) σ rv σ') (hb : b < N) (hkd : kd b = .inr (ci, fl)) (hcl : classes[ci]? = some (C, T, NN))
    (w1 : Cond.methodLinkNest own index ⟨C, nm, ds⟩ host ∈ lw_tbl) (w2 : Cond.instanceMethod ⟨C, nm, ds⟩ ∈ lw_good) (w3 : Cond.selects C ⟨C, nm, ds⟩ ⟨C, nm, ds⟩ ∈ lw_good) (w4 : Cond.initialized C ∈ lw_good) (w5 : Cond.code ⟨C, nm, ds⟩ bytes maxL ret ∈ lw_good)
    (hrm : rm.cells = 0 ∧ rm.slots = 0) (hd : C ≠ "java/lang/invoke/MethodHandle" ∧ C ≠ "java/lang/invoke/VarHandle" ∧ (parseMethodDescriptor ds).map (fun d => d.parameters.length) = some n) (hR : rm.frames + 1 ≤ R.frames ∧ 8 + (maxL + 11) + rm.locals ≤ R.locals)
    (hcs : cells ≤ R.cells ∧ slots ≤ R.slots) (hn : As.length = n) (hls : ls.size = nL) (hst : st = As.reverse ++ .ref (ad b) :: rest) {st2 : List Value} (hst2 : rv.toList ++ rest = st2) (hrest : (rest.map fun v => v.category).sum ≤ 8) (hdg : decode cc pc = .ok (.invokevirtual index, 3))
    (kk : ∀ (H : Heap) (locs : List Loc), Wd kd N D cA ad s σ' H locs → W p l e R s m args below meth c H locs cells slots Q (F0 m (pc + 3) ls st2)) : W p l e R s m args below meth c H locs cells slots Q (F0 m pc ls st) := by
  subst hst2
  refine Wd.back (rest := rest) (va_runVN (As := As) (rest := rest) (n := n) ⟨hC.1, hC.2.1, hC.2.2.1, hC.2.2.2.1, hC.2.2.2.2.1⟩ hM (C := C) (index := index) (host := host) ⟨va_cnB n hC.2.2.2.2.1 (wc_good w5) rfl hrm.1 hrm.2 (hC.2.2.2.2.2.1 _ w1 rfl) (hC.2.2.2.2.1 _ w4) hd hR, hC.2.2.2.2.1 _ w2, hC.2.2.2.2.1 _ w3⟩ ⟨PreW.blind, hW.recv hC b hb hkd hcl, hW.pre hC _⟩ rfl hn hls hst (lv_room hrest) hdg ⟨hcs.1, hcs.2⟩) hW.2.2 kk
theorem Wd.callS (hC : Cx own cc nL rt D cA p s m args meth c) (hW : Wd kd N D cA ad s σ H locs) {C nm ds : String} {bytes : ByteArray} {maxL index n : Nat} {ret : Option FieldType} {rm : Room} {As : List Value} {rv : Option Value}
    (hM : MW kd N l D cA ad ⟨C, nm, ds⟩ bytes maxL ret rm As σ rv σ')
    (w1 : Cond.methodLink own index ⟨C, nm, ds⟩ ∈ lw_good) (w2 : Cond.static ⟨C, nm, ds⟩ ∈ lw_good) (w4 : Cond.initialized C ∈ lw_good) (w5 : Cond.code ⟨C, nm, ds⟩ bytes maxL ret ∈ lw_good)
    (hrm : rm.cells = 0 ∧ rm.slots = 0) (hd : C ≠ "java/lang/invoke/MethodHandle" ∧ C ≠ "java/lang/invoke/VarHandle" ∧ (parseMethodDescriptor ds).map (fun d => d.parameters.length) = some n) (hR : rm.frames + 1 ≤ R.frames ∧ 8 + (maxL + 11) + rm.locals ≤ R.locals)
    (hcs : cells ≤ R.cells ∧ slots ≤ R.slots) (hn : As.length = n) (hls : ls.size = nL) (hst : st = As.reverse ++ rest) {st2 : List Value} (hst2 : rv.toList ++ rest = st2) (hrest : (rest.map fun v => v.category).sum ≤ 8) (hdg : decode cc pc = .ok (.invokestatic index, 3))
    (kk : ∀ (H : Heap) (locs : List Loc), Wd kd N D cA ad s σ' H locs → W p l e R s m args below meth c H locs cells slots Q (F0 m (pc + 3) ls st2)) : W p l e R s m args below meth c H locs cells slots Q (F0 m pc ls st) := by
  subst hst2
  refine Wd.back (rest := rest) (va_runS (As := As) (rest := rest) (n := n) ⟨hC.1, hC.2.1, hC.2.2.1, hC.2.2.2.1, hC.2.2.2.2.1⟩ hM (index := index) ⟨callB_of n hC.2.2.2.2.1 (wc_good w5) rfl hrm.1 hrm.2 (hC.2.2.2.2.1 _ w4) (hC.2.2.2.2.1 _ w1) hd hR, hC.2.2.2.2.1 _ w2⟩ ⟨PreW.blind, hW.pre hC _⟩ rfl hn hls hst (lv_room hrest) hdg ⟨hcs.1, hcs.2⟩) hW.2.2 kk
theorem Wd.callSN (hC : Cx own cc nL rt D cA p s m args meth c) (hW : Wd kd N D cA ad s σ H locs) {C nm ds host : String} {bytes : ByteArray} {maxL index n : Nat} {ret : Option FieldType} {rm : Room} {As : List Value} {rv : Option Value}
    (hM : MW kd N l D cA ad ⟨C, nm, ds⟩ bytes maxL ret rm As σ rv σ')
    (w1 : Cond.methodLinkNest own index ⟨C, nm, ds⟩ host ∈ lw_tbl) (w2 : Cond.static ⟨C, nm, ds⟩ ∈ lw_good) (w4 : Cond.initialized C ∈ lw_good) (w5 : Cond.code ⟨C, nm, ds⟩ bytes maxL ret ∈ lw_good)
    (hrm : rm.cells = 0 ∧ rm.slots = 0) (hd : C ≠ "java/lang/invoke/MethodHandle" ∧ C ≠ "java/lang/invoke/VarHandle" ∧ (parseMethodDescriptor ds).map (fun d => d.parameters.length) = some n) (hR : rm.frames + 1 ≤ R.frames ∧ 8 + (maxL + 11) + rm.locals ≤ R.locals)
    (hcs : cells ≤ R.cells ∧ slots ≤ R.slots) (hn : As.length = n) (hls : ls.size = nL) (hst : st = As.reverse ++ rest) {st2 : List Value} (hst2 : rv.toList ++ rest = st2) (hrest : (rest.map fun v => v.category).sum ≤ 8) (hdg : decode cc pc = .ok (.invokestatic index, 3))
    (kk : ∀ (H : Heap) (locs : List Loc), Wd kd N D cA ad s σ' H locs → W p l e R s m args below meth c H locs cells slots Q (F0 m (pc + 3) ls st2)) : W p l e R s m args below meth c H locs cells slots Q (F0 m pc ls st) := by
  subst hst2
  refine Wd.back (rest := rest) (va_runSN (As := As) (rest := rest) (n := n) ⟨hC.1, hC.2.1, hC.2.2.1, hC.2.2.2.1, hC.2.2.2.2.1⟩ hM (index := index) (host := host) ⟨va_cnB n hC.2.2.2.2.1 (wc_good w5) rfl hrm.1 hrm.2 (hC.2.2.2.2.2.1 _ w1 rfl) (hC.2.2.2.2.1 _ w4) hd hR, hC.2.2.2.2.1 _ w2, trivial⟩ ⟨PreW.blind, hW.pre hC _⟩ rfl hn hls hst (lv_room hrest) hdg ⟨hcs.1, hcs.2⟩) hW.2.2 kk
/-- ends -/
theorem Wd.endq (hC : Cx own cc nL rt D cA p s m args meth c) (hW : Wd kd N D cA ad s σ H locs) {rv : Option Value} : ∀ t : State, t.heap = H → s.WarmedH t.vm → QW kd N D cA ad rv σ args s (.returned rv) t := by
  intro t ht hWm
  exact ⟨rfl, ⟨by rw [ht]; exact hW.1, va_K.moved hWm.alike hC.2.2.2.2.2.2.1, hW.2.1, Nws.warm hWm hC.2.2.2.2.2.1⟩, hW.2.2.F ht⟩
theorem Wd.iret (hC : Cx own cc nL (some .int) D cA p s m args meth c) (hW : Wd kd N D cA ad s σ H locs) {v : Int32} (hdg : decode cc pc = .ok (.ireturn, 1)) : W p l e R s m args below meth c H locs 0 0 (EndW kd N D cA ad below args s (some (.int v)) σ) (F0 m pc ls [.int v]) :=
  W.iret hC.1 hC.2.1 hC.2.2.2.2.2.2.2.1 (hW.endq hC) hW.2.2.2.2 hdg (hlocks := hC.2.2.2.2.2.2.2.2)
theorem Wd.zret (hC : Cx own cc nL (some .boolean) D cA p s m args meth c) (hW : Wd kd N D cA ad s σ H locs) {v : Int32} (hz : v = 0 ∨ v = 1) (hdg : decode cc pc = .ok (.ireturn, 1)) : W p l e R s m args below meth c H locs 0 0 (EndW kd N D cA ad below args s (some (.int v)) σ) (F0 m pc ls [.int v]) :=
  W.zret hC.1 hC.2.1 hC.2.2.2.2.2.2.2.1 (by rcases hz with rfl | rfl <;> rfl) (hW.endq hC) hW.2.2.2.2 hdg (hlocks := hC.2.2.2.2.2.2.2.2)
theorem Wd.lret (hC : Cx own cc nL (some .long) D cA p s m args meth c) (hW : Wd kd N D cA ad s σ H locs) {v : Int64} (hdg : decode cc pc = .ok (.lreturn, 1)) : W p l e R s m args below meth c H locs 0 0 (EndW kd N D cA ad below args s (some (.long v)) σ) (F0 m pc ls [.long v]) :=
  W.lret hC.1 hC.2.1 hC.2.2.2.2.2.2.2.1 (hW.endq hC) hW.2.2.2.2 hdg (hlocks := hC.2.2.2.2.2.2.2.2)
theorem Wd.vret (hC : Cx own cc nL none D cA p s m args meth c) (hW : Wd kd N D cA ad s σ H locs) (hdg : decode cc pc = .ok (.return_, 1)) : W p l e R s m args below meth c H locs 0 0 (EndW kd N D cA ad below args s none σ) (F0 m pc ls []) :=
  W.vret hC.1 hC.2.1 hC.2.2.2.2.2.2.2.1 (hW.endq hC) hW.2.2.2.2 hdg (hlocks := hC.2.2.2.2.2.2.2.2)
theorem Wd.aret {rn : String} (hC : Cx own cc nL (some (.object rn)) D cA p s m args meth c) (hW : Wd kd N D cA ad s σ H locs) {v : Value} (hv : v = .null ∨ ∃ a, v = .ref a) (hdg : decode cc pc = .ok (.areturn, 1)) : W p l e R s m args below meth c H locs 0 0 (EndW kd N D cA ad below args s (some v) σ) (F0 m pc ls [v]) :=
  W.aret hC.1 hC.2.1 hC.2.2.2.2.2.2.2.1 (Or.inl ⟨_, rfl⟩) hv (hW.endq hC) hW.2.2.2.2 hdg (hlocks := hC.2.2.2.2.2.2.2.2)
end KIT
/-! guards and binds of the pure functions -/
def gd {α : Type} (b : Bool) (x : Option α) : Option α := if b = true then x else none
theorem gd_some {α : Type} {b : Bool} {x : Option α} {r : α} (h : gd b x = some r) : b = true ∧ x = some r := by
  unfold gd at h
  by_cases hb : b = true
  · rw [if_pos hb] at h; exact ⟨hb, h⟩
  · rw [if_neg hb] at h; cases h
def bd {α β : Type} (x : Option (α × St)) (k : α → St → Option β) : Option β := match x with
  | none => none
  | some (a, σ) => k a σ
theorem bd_some {α β : Type} {x : Option (α × St)} {k : α → St → Option β} {r : β} (h : bd x k = some r) : ∃ a σ, x = some (a, σ) ∧ k a σ = some r := by
  match x, h with
  | some (a, σ), h => exact ⟨a, σ, rfl, h⟩
def zb (v : Int32) : Bool := decide (v = 0 ∨ v = 1)
theorem zb_of {v : Int32} (h : zb v = true) : v = 0 ∨ v = 1 := of_decide_eq_true h
end
