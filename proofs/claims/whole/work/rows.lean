section
-- ===== PART A: goes FIRST, ahead of the names: the tables' words, and 'selects' of the private methods out of them =====
/-- a private method of a class that the tables say can be made, by its rows of tables_1 -/
def lw_okq (q : MethodName × Nat) : Prop := (q.1.cls ≠ "java/lang/invoke/MethodHandle" ∧ q.1.cls ≠ "java/lang/invoke/VarHandle") ∧ Cond.instantiable q.1.cls q.2 ∈ tables_1 ∧ Cond.privateMethod q.1 ∈ tables_1 ∧ Cond.instanceMethod q.1 ∈ tables_1
theorem lw_p0 : lw_okq (⟨"BundleLine", "refuse", "(I)I"⟩, 18) := ⟨⟨by decide +kernel, by decide +kernel⟩, List.mem_of_getElem? (i := 12) (by decide +kernel), List.mem_of_getElem? (i := 87) (by decide +kernel), List.mem_of_getElem? (i := 88) (by decide +kernel)⟩
theorem lw_p1 : lw_okq (⟨"BundleLine", "lineAt", "(I)LBundleLine$Line;"⟩, 18) := ⟨⟨by decide +kernel, by decide +kernel⟩, List.mem_of_getElem? (i := 12) (by decide +kernel), List.mem_of_getElem? (i := 220) (by decide +kernel), List.mem_of_getElem? (i := 221) (by decide +kernel)⟩
theorem lw_p2 : lw_okq (⟨"BundleLine", "cutIntoPieces", "(LBundleLine$Frame;)V"⟩, 18) := ⟨⟨by decide +kernel, by decide +kernel⟩, List.mem_of_getElem? (i := 12) (by decide +kernel), List.mem_of_getElem? (i := 280) (by decide +kernel), List.mem_of_getElem? (i := 281) (by decide +kernel)⟩
theorem lw_p3 : lw_okq (⟨"BundleLine", "layLostPieces", "()V"⟩, 18) := ⟨⟨by decide +kernel, by decide +kernel⟩, List.mem_of_getElem? (i := 12) (by decide +kernel), List.mem_of_getElem? (i := 341) (by decide +kernel), List.mem_of_getElem? (i := 342) (by decide +kernel)⟩
theorem lw_p4 : lw_okq (⟨"BundleLine", "pieceAt", "(I)LBundleLine$Piece;"⟩, 18) := ⟨⟨by decide +kernel, by decide +kernel⟩, List.mem_of_getElem? (i := 12) (by decide +kernel), List.mem_of_getElem? (i := 345) (by decide +kernel), List.mem_of_getElem? (i := 346) (by decide +kernel)⟩
theorem lw_p5 : lw_okq (⟨"BundleLine", "lineFor", "(LBundleLine$Piece;)LBundleLine$Line;"⟩, 18) := ⟨⟨by decide +kernel, by decide +kernel⟩, List.mem_of_getElem? (i := 12) (by decide +kernel), List.mem_of_getElem? (i := 349) (by decide +kernel), List.mem_of_getElem? (i := 350) (by decide +kernel)⟩
theorem lw_p6 : lw_okq (⟨"BundleLine", "layOn", "(LBundleLine$Line;ILBundleLine$Piece;)V"⟩, 18) := ⟨⟨by decide +kernel, by decide +kernel⟩, List.mem_of_getElem? (i := 12) (by decide +kernel), List.mem_of_getElem? (i := 368) (by decide +kernel), List.mem_of_getElem? (i := 369) (by decide +kernel)⟩
theorem lw_p7 : lw_okq (⟨"BundleLine", "become", "(LBundleLine$Piece;I)V"⟩, 18) := ⟨⟨by decide +kernel, by decide +kernel⟩, List.mem_of_getElem? (i := 12) (by decide +kernel), List.mem_of_getElem? (i := 372) (by decide +kernel), List.mem_of_getElem? (i := 373) (by decide +kernel)⟩
theorem lw_p8 : lw_okq (⟨"BundleLine", "layNewPieces", "()V"⟩, 18) := ⟨⟨by decide +kernel, by decide +kernel⟩, List.mem_of_getElem? (i := 12) (by decide +kernel), List.mem_of_getElem? (i := 380) (by decide +kernel), List.mem_of_getElem? (i := 381) (by decide +kernel)⟩
theorem lw_p9 : lw_okq (⟨"BundleLine", "creditLeft", "()I"⟩, 18) := ⟨⟨by decide +kernel, by decide +kernel⟩, List.mem_of_getElem? (i := 12) (by decide +kernel), List.mem_of_getElem? (i := 384) (by decide +kernel), List.mem_of_getElem? (i := 385) (by decide +kernel)⟩
theorem lw_p10 : lw_okq (⟨"BundleLine", "sendOnLines", "()V"⟩, 18) := ⟨⟨by decide +kernel, by decide +kernel⟩, List.mem_of_getElem? (i := 12) (by decide +kernel), List.mem_of_getElem? (i := 388) (by decide +kernel), List.mem_of_getElem? (i := 389) (by decide +kernel)⟩
theorem lw_p11 : lw_okq (⟨"BundleLine$Line", "bytesFor", "(I)I"⟩, 17) := ⟨⟨by decide +kernel, by decide +kernel⟩, List.mem_of_getElem? (i := 90) (by decide +kernel), List.mem_of_getElem? (i := 396) (by decide +kernel), List.mem_of_getElem? (i := 397) (by decide +kernel)⟩
theorem lw_p12 : lw_okq (⟨"BundleLine$Line", "sendBytes", "(II)V"⟩, 17) := ⟨⟨by decide +kernel, by decide +kernel⟩, List.mem_of_getElem? (i := 90) (by decide +kernel), List.mem_of_getElem? (i := 401) (by decide +kernel), List.mem_of_getElem? (i := 402) (by decide +kernel)⟩
theorem lw_p13 : lw_okq (⟨"BundleLine$Line", "sendFirst", "(I)V"⟩, 17) := ⟨⟨by decide +kernel, by decide +kernel⟩, List.mem_of_getElem? (i := 90) (by decide +kernel), List.mem_of_getElem? (i := 413) (by decide +kernel), List.mem_of_getElem? (i := 414) (by decide +kernel)⟩
theorem lw_p14 : lw_okq (⟨"BundleLine", "takeWhatComes", "()V"⟩, 18) := ⟨⟨by decide +kernel, by decide +kernel⟩, List.mem_of_getElem? (i := 12) (by decide +kernel), List.mem_of_getElem? (i := 429) (by decide +kernel), List.mem_of_getElem? (i := 430) (by decide +kernel)⟩
theorem lw_p15 : lw_okq (⟨"BundleLine", "takeFrom", "(LBundleLine$Line;)V"⟩, 18) := ⟨⟨by decide +kernel, by decide +kernel⟩, List.mem_of_getElem? (i := 12) (by decide +kernel), List.mem_of_getElem? (i := 433) (by decide +kernel), List.mem_of_getElem? (i := 434) (by decide +kernel)⟩
def lw_privs_1 : List (MethodName × Nat) := [(⟨"BundleLine", "refuse", "(I)I"⟩, 18), (⟨"BundleLine", "lineAt", "(I)LBundleLine$Line;"⟩, 18), (⟨"BundleLine", "cutIntoPieces", "(LBundleLine$Frame;)V"⟩, 18), (⟨"BundleLine", "layLostPieces", "()V"⟩, 18), (⟨"BundleLine", "pieceAt", "(I)LBundleLine$Piece;"⟩, 18), (⟨"BundleLine", "lineFor", "(LBundleLine$Piece;)LBundleLine$Line;"⟩, 18), (⟨"BundleLine", "layOn", "(LBundleLine$Line;ILBundleLine$Piece;)V"⟩, 18), (⟨"BundleLine", "become", "(LBundleLine$Piece;I)V"⟩, 18), (⟨"BundleLine", "layNewPieces", "()V"⟩, 18), (⟨"BundleLine", "creditLeft", "()I"⟩, 18), (⟨"BundleLine", "sendOnLines", "()V"⟩, 18), (⟨"BundleLine$Line", "bytesFor", "(I)I"⟩, 17), (⟨"BundleLine$Line", "sendBytes", "(II)V"⟩, 17), (⟨"BundleLine$Line", "sendFirst", "(I)V"⟩, 17), (⟨"BundleLine", "takeWhatComes", "()V"⟩, 18), (⟨"BundleLine", "takeFrom", "(LBundleLine$Line;)V"⟩, 18)]
theorem lw_r1 : ∀ q ∈ lw_privs_1, lw_okq q := List.forall_mem_cons.mpr ⟨lw_p0, List.forall_mem_cons.mpr ⟨lw_p1, List.forall_mem_cons.mpr ⟨lw_p2, List.forall_mem_cons.mpr ⟨lw_p3, List.forall_mem_cons.mpr ⟨lw_p4, List.forall_mem_cons.mpr ⟨lw_p5, List.forall_mem_cons.mpr ⟨lw_p6, List.forall_mem_cons.mpr ⟨lw_p7, List.forall_mem_cons.mpr ⟨lw_p8, List.forall_mem_cons.mpr ⟨lw_p9, List.forall_mem_cons.mpr ⟨lw_p10, List.forall_mem_cons.mpr ⟨lw_p11, List.forall_mem_cons.mpr ⟨lw_p12, List.forall_mem_cons.mpr ⟨lw_p13, List.forall_mem_cons.mpr ⟨lw_p14, List.forall_mem_cons.mpr ⟨lw_p15, fun _ h => absurd h List.not_mem_nil⟩⟩⟩⟩⟩⟩⟩⟩⟩⟩⟩⟩⟩⟩⟩⟩
theorem lw_p16 : lw_okq (⟨"BundleLine", "loseUpTo", "(LBundleLine$Line;I)V"⟩, 18) := ⟨⟨by decide +kernel, by decide +kernel⟩, List.mem_of_getElem? (i := 12) (by decide +kernel), List.mem_of_getElem? (i := 461) (by decide +kernel), List.mem_of_getElem? (i := 462) (by decide +kernel)⟩
theorem lw_p17 : lw_okq (⟨"BundleLine", "loseOn", "(LBundleLine$Line;I)V"⟩, 18) := ⟨⟨by decide +kernel, by decide +kernel⟩, List.mem_of_getElem? (i := 12) (by decide +kernel), List.mem_of_getElem? (i := 469) (by decide +kernel), List.mem_of_getElem? (i := 470) (by decide +kernel)⟩
theorem lw_p18 : lw_okq (⟨"BundleLine", "arrive", "(I)V"⟩, 18) := ⟨⟨by decide +kernel, by decide +kernel⟩, List.mem_of_getElem? (i := 12) (by decide +kernel), List.mem_of_getElem? (i := 477) (by decide +kernel), List.mem_of_getElem? (i := 478) (by decide +kernel)⟩
theorem lw_p19 : lw_okq (⟨"BundleLine", "frameAt", "(I)LBundleLine$Frame;"⟩, 18) := ⟨⟨by decide +kernel, by decide +kernel⟩, List.mem_of_getElem? (i := 12) (by decide +kernel), List.mem_of_getElem? (i := 481) (by decide +kernel), List.mem_of_getElem? (i := 482) (by decide +kernel)⟩
theorem lw_p20 : lw_okq (⟨"BundleLine", "giveFrames", "()V"⟩, 18) := ⟨⟨by decide +kernel, by decide +kernel⟩, List.mem_of_getElem? (i := 12) (by decide +kernel), List.mem_of_getElem? (i := 485) (by decide +kernel), List.mem_of_getElem? (i := 486) (by decide +kernel)⟩
theorem lw_p21 : lw_okq (⟨"BundleLine", "restLines", "()V"⟩, 18) := ⟨⟨by decide +kernel, by decide +kernel⟩, List.mem_of_getElem? (i := 12) (by decide +kernel), List.mem_of_getElem? (i := 489) (by decide +kernel), List.mem_of_getElem? (i := 490) (by decide +kernel)⟩
theorem lw_p22 : lw_okq (⟨"BundleLine", "lostPieceAt", "(I)I"⟩, 18) := ⟨⟨by decide +kernel, by decide +kernel⟩, List.mem_of_getElem? (i := 12) (by decide +kernel), List.mem_of_getElem? (i := 560) (by decide +kernel), List.mem_of_getElem? (i := 561) (by decide +kernel)⟩
theorem lw_p23 : lw_okq (⟨"BundleLine", "witnessOf", "(I)I"⟩, 18) := ⟨⟨by decide +kernel, by decide +kernel⟩, List.mem_of_getElem? (i := 12) (by decide +kernel), List.mem_of_getElem? (i := 585) (by decide +kernel), List.mem_of_getElem? (i := 586) (by decide +kernel)⟩
theorem lw_p24 : lw_okq (⟨"BundleLine", "allEmptiesLaid", "()I"⟩, 18) := ⟨⟨by decide +kernel, by decide +kernel⟩, List.mem_of_getElem? (i := 12) (by decide +kernel), List.mem_of_getElem? (i := 597) (by decide +kernel), List.mem_of_getElem? (i := 598) (by decide +kernel)⟩
theorem lw_p25 : lw_okq (⟨"BundleLine", "refusalsOf", "(I)I"⟩, 18) := ⟨⟨by decide +kernel, by decide +kernel⟩, List.mem_of_getElem? (i := 12) (by decide +kernel), List.mem_of_getElem? (i := 601) (by decide +kernel), List.mem_of_getElem? (i := 602) (by decide +kernel)⟩
theorem lw_p26 : lw_okq (⟨"BundleLineModel", "refuse", "(I)I"⟩, 47) := ⟨⟨by decide +kernel, by decide +kernel⟩, List.mem_of_getElem? (i := 605) (by decide +kernel), List.mem_of_getElem? (i := 762) (by decide +kernel), List.mem_of_getElem? (i := 763) (by decide +kernel)⟩
theorem lw_p27 : lw_okq (⟨"BundleLineModel", "isLine", "(I)Z"⟩, 47) := ⟨⟨by decide +kernel, by decide +kernel⟩, List.mem_of_getElem? (i := 605) (by decide +kernel), List.mem_of_getElem? (i := 770) (by decide +kernel), List.mem_of_getElem? (i := 771) (by decide +kernel)⟩
theorem lw_p28 : lw_okq (⟨"BundleLineModel", "step", "()V"⟩, 47) := ⟨⟨by decide +kernel, by decide +kernel⟩, List.mem_of_getElem? (i := 605) (by decide +kernel), List.mem_of_getElem? (i := 802) (by decide +kernel), List.mem_of_getElem? (i := 803) (by decide +kernel)⟩
theorem lw_p29 : lw_okq (⟨"BundleLineModel", "laying", "()V"⟩, 47) := ⟨⟨by decide +kernel, by decide +kernel⟩, List.mem_of_getElem? (i := 605) (by decide +kernel), List.mem_of_getElem? (i := 806) (by decide +kernel), List.mem_of_getElem? (i := 807) (by decide +kernel)⟩
theorem lw_p30 : lw_okq (⟨"BundleLineModel", "bestLine", "(I)I"⟩, 47) := ⟨⟨by decide +kernel, by decide +kernel⟩, List.mem_of_getElem? (i := 605) (by decide +kernel), List.mem_of_getElem? (i := 810) (by decide +kernel), List.mem_of_getElem? (i := 811) (by decide +kernel)⟩
theorem lw_p31 : lw_okq (⟨"BundleLineModel", "isBetter", "(III)Z"⟩, 47) := ⟨⟨by decide +kernel, by decide +kernel⟩, List.mem_of_getElem? (i := 605) (by decide +kernel), List.mem_of_getElem? (i := 814) (by decide +kernel), List.mem_of_getElem? (i := 815) (by decide +kernel)⟩
def lw_privs_2 : List (MethodName × Nat) := [(⟨"BundleLine", "loseUpTo", "(LBundleLine$Line;I)V"⟩, 18), (⟨"BundleLine", "loseOn", "(LBundleLine$Line;I)V"⟩, 18), (⟨"BundleLine", "arrive", "(I)V"⟩, 18), (⟨"BundleLine", "frameAt", "(I)LBundleLine$Frame;"⟩, 18), (⟨"BundleLine", "giveFrames", "()V"⟩, 18), (⟨"BundleLine", "restLines", "()V"⟩, 18), (⟨"BundleLine", "lostPieceAt", "(I)I"⟩, 18), (⟨"BundleLine", "witnessOf", "(I)I"⟩, 18), (⟨"BundleLine", "allEmptiesLaid", "()I"⟩, 18), (⟨"BundleLine", "refusalsOf", "(I)I"⟩, 18), (⟨"BundleLineModel", "refuse", "(I)I"⟩, 47), (⟨"BundleLineModel", "isLine", "(I)Z"⟩, 47), (⟨"BundleLineModel", "step", "()V"⟩, 47), (⟨"BundleLineModel", "laying", "()V"⟩, 47), (⟨"BundleLineModel", "bestLine", "(I)I"⟩, 47), (⟨"BundleLineModel", "isBetter", "(III)Z"⟩, 47)]
theorem lw_r2 : ∀ q ∈ lw_privs_2, lw_okq q := List.forall_mem_cons.mpr ⟨lw_p16, List.forall_mem_cons.mpr ⟨lw_p17, List.forall_mem_cons.mpr ⟨lw_p18, List.forall_mem_cons.mpr ⟨lw_p19, List.forall_mem_cons.mpr ⟨lw_p20, List.forall_mem_cons.mpr ⟨lw_p21, List.forall_mem_cons.mpr ⟨lw_p22, List.forall_mem_cons.mpr ⟨lw_p23, List.forall_mem_cons.mpr ⟨lw_p24, List.forall_mem_cons.mpr ⟨lw_p25, List.forall_mem_cons.mpr ⟨lw_p26, List.forall_mem_cons.mpr ⟨lw_p27, List.forall_mem_cons.mpr ⟨lw_p28, List.forall_mem_cons.mpr ⟨lw_p29, List.forall_mem_cons.mpr ⟨lw_p30, List.forall_mem_cons.mpr ⟨lw_p31, fun _ h => absurd h List.not_mem_nil⟩⟩⟩⟩⟩⟩⟩⟩⟩⟩⟩⟩⟩⟩⟩⟩
theorem lw_p32 : lw_okq (⟨"BundleLineModel", "waiting", "(I)I"⟩, 47) := ⟨⟨by decide +kernel, by decide +kernel⟩, List.mem_of_getElem? (i := 605) (by decide +kernel), List.mem_of_getElem? (i := 818) (by decide +kernel), List.mem_of_getElem? (i := 819) (by decide +kernel)⟩
theorem lw_p33 : lw_okq (⟨"BundleLineModel", "sizeOf", "(I)I"⟩, 47) := ⟨⟨by decide +kernel, by decide +kernel⟩, List.mem_of_getElem? (i := 605) (by decide +kernel), List.mem_of_getElem? (i := 822) (by decide +kernel), List.mem_of_getElem? (i := 823) (by decide +kernel)⟩
theorem lw_p34 : lw_okq (⟨"BundleLineModel", "layOn", "(II)V"⟩, 47) := ⟨⟨by decide +kernel, by decide +kernel⟩, List.mem_of_getElem? (i := 605) (by decide +kernel), List.mem_of_getElem? (i := 826) (by decide +kernel), List.mem_of_getElem? (i := 827) (by decide +kernel)⟩
theorem lw_p35 : lw_okq (⟨"BundleLineModel", "sending", "(I)V"⟩, 47) := ⟨⟨by decide +kernel, by decide +kernel⟩, List.mem_of_getElem? (i := 605) (by decide +kernel), List.mem_of_getElem? (i := 831) (by decide +kernel), List.mem_of_getElem? (i := 832) (by decide +kernel)⟩
theorem lw_p36 : lw_okq (⟨"BundleLineModel", "allowed", "(I)I"⟩, 47) := ⟨⟨by decide +kernel, by decide +kernel⟩, List.mem_of_getElem? (i := 605) (by decide +kernel), List.mem_of_getElem? (i := 835) (by decide +kernel), List.mem_of_getElem? (i := 836) (by decide +kernel)⟩
theorem lw_p37 : lw_okq (⟨"BundleLineModel", "sendFirst", "(I)V"⟩, 47) := ⟨⟨by decide +kernel, by decide +kernel⟩, List.mem_of_getElem? (i := 605) (by decide +kernel), List.mem_of_getElem? (i := 839) (by decide +kernel), List.mem_of_getElem? (i := 840) (by decide +kernel)⟩
theorem lw_p38 : lw_okq (⟨"BundleLineModel", "coming", "(I)V"⟩, 47) := ⟨⟨by decide +kernel, by decide +kernel⟩, List.mem_of_getElem? (i := 605) (by decide +kernel), List.mem_of_getElem? (i := 843) (by decide +kernel), List.mem_of_getElem? (i := 844) (by decide +kernel)⟩
theorem lw_p39 : lw_okq (⟨"BundleLineModel", "comes", "(III)V"⟩, 47) := ⟨⟨by decide +kernel, by decide +kernel⟩, List.mem_of_getElem? (i := 605) (by decide +kernel), List.mem_of_getElem? (i := 847) (by decide +kernel), List.mem_of_getElem? (i := 848) (by decide +kernel)⟩
theorem lw_p40 : lw_okq (⟨"BundleLineModel", "lose", "(II)V"⟩, 47) := ⟨⟨by decide +kernel, by decide +kernel⟩, List.mem_of_getElem? (i := 605) (by decide +kernel), List.mem_of_getElem? (i := 851) (by decide +kernel), List.mem_of_getElem? (i := 852) (by decide +kernel)⟩
theorem lw_p41 : lw_okq (⟨"BundleLineModel", "isWhole", "(I)Z"⟩, 47) := ⟨⟨by decide +kernel, by decide +kernel⟩, List.mem_of_getElem? (i := 605) (by decide +kernel), List.mem_of_getElem? (i := 855) (by decide +kernel), List.mem_of_getElem? (i := 856) (by decide +kernel)⟩
theorem lw_p42 : lw_okq (⟨"BundleLineModel", "firstNot", "(II)I"⟩, 47) := ⟨⟨by decide +kernel, by decide +kernel⟩, List.mem_of_getElem? (i := 605) (by decide +kernel), List.mem_of_getElem? (i := 863) (by decide +kernel), List.mem_of_getElem? (i := 864) (by decide +kernel)⟩
theorem lw_p43 : lw_okq (⟨"BundleLineModel", "isPiece", "(I)Z"⟩, 47) := ⟨⟨by decide +kernel, by decide +kernel⟩, List.mem_of_getElem? (i := 605) (by decide +kernel), List.mem_of_getElem? (i := 887) (by decide +kernel), List.mem_of_getElem? (i := 888) (by decide +kernel)⟩
theorem lw_p44 : lw_okq (⟨"BundleLineModel", "sumOf", "(I)I"⟩, 47) := ⟨⟨by decide +kernel, by decide +kernel⟩, List.mem_of_getElem? (i := 605) (by decide +kernel), List.mem_of_getElem? (i := 891) (by decide +kernel), List.mem_of_getElem? (i := 892) (by decide +kernel)⟩
theorem lw_p45 : lw_okq (⟨"BundleLineModel", "isFrame", "(I)Z"⟩, 47) := ⟨⟨by decide +kernel, by decide +kernel⟩, List.mem_of_getElem? (i := 605) (by decide +kernel), List.mem_of_getElem? (i := 915) (by decide +kernel), List.mem_of_getElem? (i := 916) (by decide +kernel)⟩
theorem lw_p46 : lw_okq (⟨"BundleLineModel", "many", "(I)I"⟩, 47) := ⟨⟨by decide +kernel, by decide +kernel⟩, List.mem_of_getElem? (i := 605) (by decide +kernel), List.mem_of_getElem? (i := 940) (by decide +kernel), List.mem_of_getElem? (i := 941) (by decide +kernel)⟩
def lw_privs_3 : List (MethodName × Nat) := [(⟨"BundleLineModel", "waiting", "(I)I"⟩, 47), (⟨"BundleLineModel", "sizeOf", "(I)I"⟩, 47), (⟨"BundleLineModel", "layOn", "(II)V"⟩, 47), (⟨"BundleLineModel", "sending", "(I)V"⟩, 47), (⟨"BundleLineModel", "allowed", "(I)I"⟩, 47), (⟨"BundleLineModel", "sendFirst", "(I)V"⟩, 47), (⟨"BundleLineModel", "coming", "(I)V"⟩, 47), (⟨"BundleLineModel", "comes", "(III)V"⟩, 47), (⟨"BundleLineModel", "lose", "(II)V"⟩, 47), (⟨"BundleLineModel", "isWhole", "(I)Z"⟩, 47), (⟨"BundleLineModel", "firstNot", "(II)I"⟩, 47), (⟨"BundleLineModel", "isPiece", "(I)Z"⟩, 47), (⟨"BundleLineModel", "sumOf", "(I)I"⟩, 47), (⟨"BundleLineModel", "isFrame", "(I)Z"⟩, 47), (⟨"BundleLineModel", "many", "(I)I"⟩, 47)]
theorem lw_r3 : ∀ q ∈ lw_privs_3, lw_okq q := List.forall_mem_cons.mpr ⟨lw_p32, List.forall_mem_cons.mpr ⟨lw_p33, List.forall_mem_cons.mpr ⟨lw_p34, List.forall_mem_cons.mpr ⟨lw_p35, List.forall_mem_cons.mpr ⟨lw_p36, List.forall_mem_cons.mpr ⟨lw_p37, List.forall_mem_cons.mpr ⟨lw_p38, List.forall_mem_cons.mpr ⟨lw_p39, List.forall_mem_cons.mpr ⟨lw_p40, List.forall_mem_cons.mpr ⟨lw_p41, List.forall_mem_cons.mpr ⟨lw_p42, List.forall_mem_cons.mpr ⟨lw_p43, List.forall_mem_cons.mpr ⟨lw_p44, List.forall_mem_cons.mpr ⟨lw_p45, List.forall_mem_cons.mpr ⟨lw_p46, fun _ h => absurd h List.not_mem_nil⟩⟩⟩⟩⟩⟩⟩⟩⟩⟩⟩⟩⟩⟩⟩
def lw_privs : List (MethodName × Nat) := lw_privs_1 ++ (lw_privs_2 ++ (lw_privs_3))
def lw_tbl : List Cond := k2_sels lw_privs ++ tables_1
theorem lw_privs_ok : ∀ q ∈ lw_privs, lw_okq q := by
  show ∀ q ∈ lw_privs_1 ++ (lw_privs_2 ++ (lw_privs_3)), lw_okq q
  exact List.forall_mem_append.mpr ⟨lw_r1, List.forall_mem_append.mpr ⟨lw_r2, lw_r3⟩⟩
/-! ===== BEGIN words of one list among another's, by their places ===== -/
theorem goodIn_r {big : List Cond} (ws : List Cond) (ps : List Nat) (hp : ws = ps.filterMap (fun i => big[i]?)) (h : ws.all goodWord = true) : GoodIn big ws := by
  intro w hw
  have h1 := List.all_eq_true.mp h w hw
  rw [hp] at hw
  obtain ⟨i, -, hi⟩ := List.mem_filterMap.mp hw
  have hm : w ∈ big := by first | exact List.mem_of_getElem? hi | exact List.getElem?_mem hi
  exact ⟨hm, good_of_word h1⟩
theorem goodIn_app {big a b : List Cond} (ha : GoodIn big a) (hb : GoodIn big b) : GoodIn big (a ++ b) := fun w h => (List.mem_append.mp h).elim (ha w) (hb w)
theorem goodIn_ca {big a b : List Cond} {c : Cond} (ha : GoodIn big (c :: a)) (hb : GoodIn big b) : GoodIn big (c :: (a ++ b)) := fun w h => (List.mem_cons.mp h).elim (fun e => ha w (List.mem_cons.mpr (Or.inl e))) (fun h => (List.mem_append.mp h).elim (fun h => ha w (List.mem_cons.mpr (Or.inr h))) (hb w))
theorem goodIn_sub {big ws : List Cond} (hm : ∀ w ∈ ws, w ∈ big) (h : ws.all goodWord = true) : GoodIn big ws := fun w hw => ⟨hm w hw, good_of_word (List.all_eq_true.mp h w hw)⟩
/-! ===== END ===== -/

/-! ===== BEGIN printed: names, fields, word lists, decode rows ===== -/
def RX0 : String := "BundleLine$Frame"
def TX0 : u_T := fun k => match k with
  | 0 => ("BundleLine$Frame", "bytes", "[B", true)
  | 1 => ("BundleLine$Frame", "size", "I", true)
  | 2 => ("BundleLine$Frame", "firstPiece", "I", true)
  | 3 => ("BundleLine$Frame", "row", "I", true)
  | 4 => ("BundleLine$Frame", "there", "I", false)
  | _ => ("BundleLine$Frame", "givenAt", "I", false)
def tyX0 : Nat → FieldType := fun k => match k with
  | 0 => .array .byte
  | 1 => .int
  | 2 => .int
  | 3 => .int
  | 4 => .int
  | _ => .int
abbrev wsX00 : List Cond := u_ws RX0 TX0 6
theorem nmX0 : ∀ a, a < 6 → ∀ b, b < 6 → a ≠ b → (TX0 a).2.1 ≠ (TX0 b).2.1 := by decide +kernel
theorem tyX0_ok : ∀ k, k < 6 → parseFieldDescriptor (TX0 k).2.2.1 = some (tyX0 k) := by decide +kernel
abbrev cX0_init : ByteArray := prog_2_method_1_code
def yX0_init : MethodName := ⟨RX0, "<init>", "([BII)V"⟩
abbrev cX0_byteAt : ByteArray := prog_2_method_2_code
def yX0_byteAt : MethodName := ⟨RX0, "byteAt", "(I)I"⟩
abbrev cX0_sumOf : ByteArray := prog_2_method_3_code
def yX0_sumOf : MethodName := ⟨RX0, "sumOf", "(II)I"⟩
def RX1 : String := "BundleLine$Line"
def TX1 : u_T := fun k => match k with
  | 0 => ("BundleLine$Line", "number", "I", true)
  | 1 => ("BundleLine$Line", "kind", "I", true)
  | 2 => ("BundleLine$Line", "speed", "I", true)
  | 3 => ("BundleLine$Line", "delay", "I", true)
  | 4 => ("BundleLine$Line", "queue", "LBundleLine$Queue;", true)
  | 5 => ("BundleLine$Line", "underWay", "LBundleLine$UnderWay;", true)
  | 6 => ("BundleLine$Line", "sent", "[I", true)
  | 7 => ("BundleLine$Line", "log", "[I", true)
  | 8 => ("BundleLine$Line", "isUp", "Z", false)
  | 9 => ("BundleLine$Line", "allowance", "I", false)
  | 10 => ("BundleLine$Line", "span", "I", false)
  | 11 => ("BundleLine$Line", "count", "I", false)
  | 12 => ("BundleLine$Line", "seen", "I", false)
  | 13 => ("BundleLine$Line", "carried", "I", false)
  | 14 => ("BundleLine$Line", "lostPieces", "I", false)
  | 15 => ("BundleLine$Line", "emptiesLaid", "I", false)
  | _ => ("BundleLine$Line", "refusedPieces", "I", false)
def tyX1 : Nat → FieldType := fun k => match k with
  | 0 => .int
  | 1 => .int
  | 2 => .int
  | 3 => .int
  | 4 => .object "BundleLine$Queue"
  | 5 => .object "BundleLine$UnderWay"
  | 6 => .array .int
  | 7 => .array .int
  | 8 => .boolean
  | 9 => .int
  | 10 => .int
  | 11 => .int
  | 12 => .int
  | 13 => .int
  | 14 => .int
  | 15 => .int
  | _ => .int
abbrev wsX10 : List Cond := u_ws RX1 TX1 17
theorem nmX1 : ∀ a, a < 17 → ∀ b, b < 17 → a ≠ b → (TX1 a).2.1 ≠ (TX1 b).2.1 := by decide +kernel
theorem tyX1_ok : ∀ k, k < 17 → parseFieldDescriptor (TX1 k).2.2.1 = some (tyX1 k) := by decide +kernel
abbrev cX1_init : ByteArray := prog_3_method_1_code
def yX1_init : MethodName := ⟨RX1, "<init>", "(IIII)V"⟩
abbrev cX1_takesMore : ByteArray := prog_3_method_2_code
def yX1_takesMore : MethodName := ⟨RX1, "takesMore", "()Z"⟩
abbrev cX1_restsUnheard : ByteArray := prog_3_method_3_code
def yX1_restsUnheard : MethodName := ⟨RX1, "restsUnheard", "()Z"⟩
abbrev cX1_ticksToSend : ByteArray := prog_3_method_4_code
def yX1_ticksToSend : MethodName := ⟨RX1, "ticksToSend", "(I)I"⟩
abbrev cX1_sentWith : ByteArray := prog_3_method_5_code
def yX1_sentWith : MethodName := ⟨RX1, "sentWith", "(I)I"⟩
abbrev cX1_sendAt : ByteArray := prog_3_method_6_code
def yX1_sendAt : MethodName := ⟨RX1, "sendAt", "(I)V"⟩
abbrev cX1_bytesFor : ByteArray := prog_3_method_7_code
def yX1_bytesFor : MethodName := ⟨RX1, "bytesFor", "(I)I"⟩
abbrev cX1_sendBytes : ByteArray := prog_3_method_8_code
def yX1_sendBytes : MethodName := ⟨RX1, "sendBytes", "(II)V"⟩
abbrev cX1_sendFirst : ByteArray := prog_3_method_9_code
def yX1_sendFirst : MethodName := ⟨RX1, "sendFirst", "(I)V"⟩
abbrev cX1_goDown : ByteArray := prog_3_method_10_code
def yX1_goDown : MethodName := ⟨RX1, "goDown", "()V"⟩
def RX2 : String := "BundleLine$Piece"
def TX2 : u_T := fun k => match k with
  | 0 => ("BundleLine$Piece", "frame", "I", true)
  | 1 => ("BundleLine$Piece", "size", "I", true)
  | 2 => ("BundleLine$Piece", "isLast", "Z", true)
  | 3 => ("BundleLine$Piece", "sum", "I", true)
  | 4 => ("BundleLine$Piece", "losses", "[I", true)
  | 5 => ("BundleLine$Piece", "state", "I", false)
  | 6 => ("BundleLine$Piece", "tries", "I", false)
  | _ => ("BundleLine$Piece", "line", "I", false)
def tyX2 : Nat → FieldType := fun k => match k with
  | 0 => .int
  | 1 => .int
  | 2 => .boolean
  | 3 => .int
  | 4 => .array .int
  | 5 => .int
  | 6 => .int
  | _ => .int
abbrev wsX20 : List Cond := u_ws RX2 TX2 8
theorem nmX2 : ∀ a, a < 8 → ∀ b, b < 8 → a ≠ b → (TX2 a).2.1 ≠ (TX2 b).2.1 := by decide +kernel
theorem tyX2_ok : ∀ k, k < 8 → parseFieldDescriptor (TX2 k).2.2.1 = some (tyX2 k) := by decide +kernel
abbrev cX2_init : ByteArray := prog_4_method_1_code
def yX2_init : MethodName := ⟨RX2, "<init>", "(IIZI)V"⟩
abbrev cX2_lossesOn : ByteArray := prog_4_method_2_code
def yX2_lossesOn : MethodName := ⟨RX2, "lossesOn", "(I)I"⟩
abbrev cX2_addLossOn : ByteArray := prog_4_method_3_code
def yX2_addLossOn : MethodName := ⟨RX2, "addLossOn", "(I)V"⟩
def RX3 : String := "BundleLine$Queue"
def TX3 : u_T := fun k => match k with
  | 0 => ("BundleLine$Queue", "numbers", "[I", true)
  | 1 => ("BundleLine$Queue", "sizes", "[I", true)
  | 2 => ("BundleLine$Queue", "head", "I", false)
  | 3 => ("BundleLine$Queue", "length", "I", false)
  | 4 => ("BundleLine$Queue", "waitingBytes", "I", false)
  | _ => ("BundleLine$Queue", "sentOfFirst", "I", false)
def tyX3 : Nat → FieldType := fun k => match k with
  | 0 => .array .int
  | 1 => .array .int
  | 2 => .int
  | 3 => .int
  | 4 => .int
  | _ => .int
abbrev wsX30 : List Cond := u_ws RX3 TX3 6
theorem nmX3 : ∀ a, a < 6 → ∀ b, b < 6 → a ≠ b → (TX3 a).2.1 ≠ (TX3 b).2.1 := by decide +kernel
theorem tyX3_ok : ∀ k, k < 6 → parseFieldDescriptor (TX3 k).2.2.1 = some (tyX3 k) := by decide +kernel
abbrev cX3_init : ByteArray := prog_5_method_1_code
def yX3_init : MethodName := ⟨RX3, "<init>", "()V"⟩
abbrev cX3_numberOf : ByteArray := prog_5_method_2_code
def yX3_numberOf : MethodName := ⟨RX3, "numberOf", "(I)I"⟩
abbrev cX3_add : ByteArray := prog_5_method_3_code
def yX3_add : MethodName := ⟨RX3, "add", "(II)V"⟩
abbrev cX3_restOfFirst : ByteArray := prog_5_method_4_code
def yX3_restOfFirst : MethodName := ⟨RX3, "restOfFirst", "()I"⟩
abbrev cX3_takeFromFirst : ByteArray := prog_5_method_5_code
def yX3_takeFromFirst : MethodName := ⟨RX3, "takeFromFirst", "(I)V"⟩
abbrev cX3_dropFirst : ByteArray := prog_5_method_6_code
def yX3_dropFirst : MethodName := ⟨RX3, "dropFirst", "()V"⟩
abbrev cX3_clear : ByteArray := prog_5_method_7_code
def yX3_clear : MethodName := ⟨RX3, "clear", "()V"⟩
def RX4 : String := "BundleLine$UnderWay"
def TX4 : u_T := fun k => match k with
  | 0 => ("BundleLine$UnderWay", "numbers", "[I", true)
  | 1 => ("BundleLine$UnderWay", "counts", "[I", true)
  | 2 => ("BundleLine$UnderWay", "comings", "[I", true)
  | 3 => ("BundleLine$UnderWay", "marks", "[I", true)
  | 4 => ("BundleLine$UnderWay", "head", "I", false)
  | _ => ("BundleLine$UnderWay", "length", "I", false)
def tyX4 : Nat → FieldType := fun k => match k with
  | 0 => .array .int
  | 1 => .array .int
  | 2 => .array .int
  | 3 => .array .int
  | 4 => .int
  | _ => .int
abbrev wsX40 : List Cond := u_ws RX4 TX4 6
theorem nmX4 : ∀ a, a < 6 → ∀ b, b < 6 → a ≠ b → (TX4 a).2.1 ≠ (TX4 b).2.1 := by decide +kernel
theorem tyX4_ok : ∀ k, k < 6 → parseFieldDescriptor (TX4 k).2.2.1 = some (tyX4 k) := by decide +kernel
abbrev cX4_init : ByteArray := prog_6_method_1_code
def yX4_init : MethodName := ⟨RX4, "<init>", "()V"⟩
abbrev cX4_numberOf : ByteArray := prog_6_method_2_code
def yX4_numberOf : MethodName := ⟨RX4, "numberOf", "(I)I"⟩
abbrev cX4_countOf : ByteArray := prog_6_method_3_code
def yX4_countOf : MethodName := ⟨RX4, "countOf", "(I)I"⟩
abbrev cX4_comingOf : ByteArray := prog_6_method_4_code
def yX4_comingOf : MethodName := ⟨RX4, "comingOf", "(I)I"⟩
abbrev cX4_marksOf : ByteArray := prog_6_method_5_code
def yX4_marksOf : MethodName := ⟨RX4, "marksOf", "(I)I"⟩
abbrev cX4_add : ByteArray := prog_6_method_6_code
def yX4_add : MethodName := ⟨RX4, "add", "(III)V"⟩
abbrev cX4_hasComeAt : ByteArray := prog_6_method_7_code
def yX4_hasComeAt : MethodName := ⟨RX4, "hasComeAt", "(I)Z"⟩
abbrev cX4_dropFirst : ByteArray := prog_6_method_8_code
def yX4_dropFirst : MethodName := ⟨RX4, "dropFirst", "()V"⟩
abbrev cX4_firstWithout : ByteArray := prog_6_method_9_code
def yX4_firstWithout : MethodName := ⟨RX4, "firstWithout", "(I)I"⟩
abbrev cX4_mark : ByteArray := prog_6_method_10_code
def yX4_mark : MethodName := ⟨RX4, "mark", "(II)V"⟩
abbrev cX4_clear : ByteArray := prog_6_method_11_code
def yX4_clear : MethodName := ⟨RX4, "clear", "()V"⟩
def RX5 : String := "BundleLine"
def TX5 : u_T := fun k => match k with
  | 0 => ("BundleLine", "lines", "[LBundleLine$Line;", true)
  | 1 => ("BundleLine", "lineCount", "I", false)
  | 2 => ("BundleLine", "frames", "[LBundleLine$Frame;", true)
  | 3 => ("BundleLine", "frameCount", "I", false)
  | 4 => ("BundleLine", "givenFrames", "I", false)
  | 5 => ("BundleLine", "givenPieces", "I", false)
  | 6 => ("BundleLine", "givenBytes", "I", false)
  | 7 => ("BundleLine", "pieces", "[LBundleLine$Piece;", true)
  | 8 => ("BundleLine", "pieceCount", "I", false)
  | 9 => ("BundleLine", "firstNew", "I", false)
  | 10 => ("BundleLine", "inState", "[I", true)
  | 11 => ("BundleLine", "tray", "[B", true)
  | 12 => ("BundleLine", "trayLength", "I", false)
  | 13 => ("BundleLine", "cutSize", "I", false)
  | 14 => ("BundleLine", "roomSize", "I", false)
  | 15 => ("BundleLine", "heldBytes", "I", false)
  | 16 => ("BundleLine", "time", "I", false)
  | _ => ("BundleLine", "refusals", "[I", true)
def tyX5 : Nat → FieldType := fun k => match k with
  | 0 => .array (.object "BundleLine$Line")
  | 1 => .int
  | 2 => .array (.object "BundleLine$Frame")
  | 3 => .int
  | 4 => .int
  | 5 => .int
  | 6 => .int
  | 7 => .array (.object "BundleLine$Piece")
  | 8 => .int
  | 9 => .int
  | 10 => .array .int
  | 11 => .array .byte
  | 12 => .int
  | 13 => .int
  | 14 => .int
  | 15 => .int
  | 16 => .int
  | _ => .array .int
abbrev wsX50 : List Cond := u_ws RX5 TX5 18
theorem nmX5 : ∀ a, a < 18 → ∀ b, b < 18 → a ≠ b → (TX5 a).2.1 ≠ (TX5 b).2.1 := by decide +kernel
theorem tyX5_ok : ∀ k, k < 18 → parseFieldDescriptor (TX5 k).2.2.1 = some (tyX5 k) := by decide +kernel
abbrev cX5_init : ByteArray := prog_1_method_1_code
def yX5_init : MethodName := ⟨RX5, "<init>", "()V"⟩
abbrev cX5_open : ByteArray := prog_1_method_2_code
def yX5_open : MethodName := ⟨RX5, "open", "(III)I"⟩
abbrev cX5_lease : ByteArray := prog_1_method_3_code
def yX5_lease : MethodName := ⟨RX5, "lease", "(III)I"⟩
abbrev cX5_type : ByteArray := prog_1_method_4_code
def yX5_type : MethodName := ⟨RX5, "type", "(JI)I"⟩
abbrev cX5_grow : ByteArray := prog_1_method_5_code
def yX5_grow : MethodName := ⟨RX5, "grow", "(I)I"⟩
abbrev cX5_frame : ByteArray := prog_1_method_6_code
def yX5_frame : MethodName := ⟨RX5, "frame", "()I"⟩
abbrev cX5_cutIntoPieces : ByteArray := prog_1_method_7_code
def yX5_cutIntoPieces : MethodName := ⟨RX5, "cutIntoPieces", "(LBundleLine$Frame;)V"⟩
abbrev cX5_cut : ByteArray := prog_1_method_8_code
def yX5_cut : MethodName := ⟨RX5, "cut", "(I)I"⟩
abbrev cX5_room : ByteArray := prog_1_method_9_code
def yX5_room : MethodName := ⟨RX5, "room", "(I)I"⟩
abbrev cX5_tick : ByteArray := prog_1_method_10_code
def yX5_tick : MethodName := ⟨RX5, "tick", "(I)I"⟩
abbrev cX5_layLostPieces : ByteArray := prog_1_method_11_code
def yX5_layLostPieces : MethodName := ⟨RX5, "layLostPieces", "()V"⟩
abbrev cX5_layNewPieces : ByteArray := prog_1_method_12_code
def yX5_layNewPieces : MethodName := ⟨RX5, "layNewPieces", "()V"⟩
abbrev cX5_lineFor : ByteArray := prog_1_method_13_code
def yX5_lineFor : MethodName := ⟨RX5, "lineFor", "(LBundleLine$Piece;)LBundleLine$Line;"⟩
abbrev cX5_isBetter : ByteArray := prog_1_method_14_code
def yX5_isBetter : MethodName := ⟨RX5, "isBetter", "(LBundleLine$Line;LBundleLine$Line;LBundleLine$Piece;)Z"⟩
abbrev cX5_layOn : ByteArray := prog_1_method_15_code
def yX5_layOn : MethodName := ⟨RX5, "layOn", "(LBundleLine$Line;ILBundleLine$Piece;)V"⟩
abbrev cX5_sendOnLines : ByteArray := prog_1_method_16_code
def yX5_sendOnLines : MethodName := ⟨RX5, "sendOnLines", "()V"⟩
abbrev cX5_takeWhatComes : ByteArray := prog_1_method_17_code
def yX5_takeWhatComes : MethodName := ⟨RX5, "takeWhatComes", "()V"⟩
abbrev cX5_takeFrom : ByteArray := prog_1_method_18_code
def yX5_takeFrom : MethodName := ⟨RX5, "takeFrom", "(LBundleLine$Line;)V"⟩
abbrev cX5_arrive : ByteArray := prog_1_method_19_code
def yX5_arrive : MethodName := ⟨RX5, "arrive", "(I)V"⟩
abbrev cX5_loseUpTo : ByteArray := prog_1_method_20_code
def yX5_loseUpTo : MethodName := ⟨RX5, "loseUpTo", "(LBundleLine$Line;I)V"⟩
abbrev cX5_loseOn : ByteArray := prog_1_method_21_code
def yX5_loseOn : MethodName := ⟨RX5, "loseOn", "(LBundleLine$Line;I)V"⟩
abbrev cX5_giveFrames : ByteArray := prog_1_method_22_code
def yX5_giveFrames : MethodName := ⟨RX5, "giveFrames", "()V"⟩
abbrev cX5_restLines : ByteArray := prog_1_method_23_code
def yX5_restLines : MethodName := ⟨RX5, "restLines", "()V"⟩
abbrev cX5_become : ByteArray := prog_1_method_24_code
def yX5_become : MethodName := ⟨RX5, "become", "(LBundleLine$Piece;I)V"⟩
abbrev cX5_lose : ByteArray := prog_1_method_25_code
def yX5_lose : MethodName := ⟨RX5, "lose", "(I)I"⟩
abbrev cX5_bend : ByteArray := prog_1_method_26_code
def yX5_bend : MethodName := ⟨RX5, "bend", "(III)I"⟩
abbrev cX5_fall : ByteArray := prog_1_method_27_code
def yX5_fall : MethodName := ⟨RX5, "fall", "(I)I"⟩
abbrev cX5_rise : ByteArray := prog_1_method_28_code
def yX5_rise : MethodName := ⟨RX5, "rise", "(I)I"⟩
abbrev cX5_line : ByteArray := prog_1_method_29_code
def yX5_line : MethodName := ⟨RX5, "line", "(II)I"⟩
abbrev cX5_piece : ByteArray := prog_1_method_30_code
def yX5_piece : MethodName := ⟨RX5, "piece", "(II)I"⟩
abbrev cX5_lostOn : ByteArray := prog_1_method_31_code
def yX5_lostOn : MethodName := ⟨RX5, "lostOn", "(II)I"⟩
abbrev cX5_queued : ByteArray := prog_1_method_32_code
def yX5_queued : MethodName := ⟨RX5, "queued", "(II)I"⟩
abbrev cX5_under : ByteArray := prog_1_method_33_code
def yX5_under : MethodName := ⟨RX5, "under", "(III)I"⟩
abbrev cX5_waits : ByteArray := prog_1_method_34_code
def yX5_waits : MethodName := ⟨RX5, "waits", "(I)I"⟩
abbrev cX5_lostPieceAt : ByteArray := prog_1_method_35_code
def yX5_lostPieceAt : MethodName := ⟨RX5, "lostPieceAt", "(I)I"⟩
abbrev cX5_got : ByteArray := prog_1_method_36_code
def yX5_got : MethodName := ⟨RX5, "got", "(II)I"⟩
abbrev cX5_frameOf : ByteArray := prog_1_method_37_code
def yX5_frameOf : MethodName := ⟨RX5, "frameOf", "(II)I"⟩
abbrev cX5_credit : ByteArray := prog_1_method_38_code
def yX5_credit : MethodName := ⟨RX5, "credit", "()I"⟩
abbrev cX5_skew : ByteArray := prog_1_method_39_code
def yX5_skew : MethodName := ⟨RX5, "skew", "()I"⟩
abbrev cX5_witness : ByteArray := prog_1_method_40_code
def yX5_witness : MethodName := ⟨RX5, "witness", "(II)I"⟩
abbrev cX5_check : ByteArray := prog_1_method_41_code
def yX5_check : MethodName := ⟨RX5, "check", "(II)Z"⟩
abbrev cX5_witnessOf : ByteArray := prog_1_method_42_code
def yX5_witnessOf : MethodName := ⟨RX5, "witnessOf", "(I)I"⟩
abbrev cX5_status : ByteArray := prog_1_method_43_code
def yX5_status : MethodName := ⟨RX5, "status", "(I)I"⟩
abbrev cX5_allEmptiesLaid : ByteArray := prog_1_method_44_code
def yX5_allEmptiesLaid : MethodName := ⟨RX5, "allEmptiesLaid", "()I"⟩
abbrev cX5_refusalsOf : ByteArray := prog_1_method_45_code
def yX5_refusalsOf : MethodName := ⟨RX5, "refusalsOf", "(I)I"⟩
abbrev cX5_refuse : ByteArray := prog_1_method_46_code
def yX5_refuse : MethodName := ⟨RX5, "refuse", "(I)I"⟩
abbrev cX5_creditLeft : ByteArray := prog_1_method_47_code
def yX5_creditLeft : MethodName := ⟨RX5, "creditLeft", "()I"⟩
abbrev cX5_lineAt : ByteArray := prog_1_method_48_code
def yX5_lineAt : MethodName := ⟨RX5, "lineAt", "(I)LBundleLine$Line;"⟩
abbrev cX5_frameAt : ByteArray := prog_1_method_49_code
def yX5_frameAt : MethodName := ⟨RX5, "frameAt", "(I)LBundleLine$Frame;"⟩
abbrev cX5_pieceAt : ByteArray := prog_1_method_50_code
def yX5_pieceAt : MethodName := ⟨RX5, "pieceAt", "(I)LBundleLine$Piece;"⟩
def RX6 : String := "BundleLineModel"
def TX6 : u_T := fun k => match k with
  | 0 => ("BundleLineModel", "lines", "I", false)
  | 1 => ("BundleLineModel", "kind", "[I", true)
  | 2 => ("BundleLineModel", "speed", "[I", true)
  | 3 => ("BundleLineModel", "delay", "[I", true)
  | 4 => ("BundleLineModel", "up", "[Z", true)
  | 5 => ("BundleLineModel", "allowance", "[I", true)
  | 6 => ("BundleLineModel", "span", "[I", true)
  | 7 => ("BundleLineModel", "queue", "[I", true)
  | 8 => ("BundleLineModel", "queued", "[I", true)
  | 9 => ("BundleLineModel", "sent", "[I", true)
  | 10 => ("BundleLineModel", "underPiece", "[I", true)
  | 11 => ("BundleLineModel", "underCount", "[I", true)
  | 12 => ("BundleLineModel", "underTime", "[I", true)
  | 13 => ("BundleLineModel", "underHow", "[I", true)
  | 14 => ("BundleLineModel", "firstUnder", "[I", true)
  | 15 => ("BundleLineModel", "under", "[I", true)
  | 16 => ("BundleLineModel", "count", "[I", true)
  | 17 => ("BundleLineModel", "seen", "[I", true)
  | 18 => ("BundleLineModel", "carried", "[I", true)
  | 19 => ("BundleLineModel", "lostBy", "[I", true)
  | 20 => ("BundleLineModel", "empties", "[I", true)
  | 21 => ("BundleLineModel", "refusedBy", "[I", true)
  | 22 => ("BundleLineModel", "inTick", "[I", true)
  | 23 => ("BundleLineModel", "pieces", "I", false)
  | 24 => ("BundleLineModel", "state", "[I", true)
  | 25 => ("BundleLineModel", "frameOf", "[I", true)
  | 26 => ("BundleLineModel", "from", "[I", true)
  | 27 => ("BundleLineModel", "size", "[I", true)
  | 28 => ("BundleLineModel", "tries", "[I", true)
  | 29 => ("BundleLineModel", "lineOf", "[I", true)
  | 30 => ("BundleLineModel", "countOf", "[I", true)
  | 31 => ("BundleLineModel", "lostOn", "[I", true)
  | 32 => ("BundleLineModel", "frames", "I", false)
  | 33 => ("BundleLineModel", "given", "I", false)
  | 34 => ("BundleLineModel", "bytesOf", "[I", true)
  | 35 => ("BundleLineModel", "firstPiece", "[I", true)
  | 36 => ("BundleLineModel", "piecesOf", "[I", true)
  | 37 => ("BundleLineModel", "givenAt", "[I", true)
  | 38 => ("BundleLineModel", "frameBegin", "[I", true)
  | 39 => ("BundleLineModel", "bytes", "[B", true)
  | 40 => ("BundleLineModel", "filled", "I", false)
  | 41 => ("BundleLineModel", "tray", "[B", true)
  | 42 => ("BundleLineModel", "trayed", "I", false)
  | 43 => ("BundleLineModel", "cut", "I", false)
  | 44 => ("BundleLineModel", "room", "I", false)
  | 45 => ("BundleLineModel", "time", "I", false)
  | _ => ("BundleLineModel", "refused", "[I", true)
def tyX6 : Nat → FieldType := fun k => match k with
  | 0 => .int
  | 1 => .array .int
  | 2 => .array .int
  | 3 => .array .int
  | 4 => .array .boolean
  | 5 => .array .int
  | 6 => .array .int
  | 7 => .array .int
  | 8 => .array .int
  | 9 => .array .int
  | 10 => .array .int
  | 11 => .array .int
  | 12 => .array .int
  | 13 => .array .int
  | 14 => .array .int
  | 15 => .array .int
  | 16 => .array .int
  | 17 => .array .int
  | 18 => .array .int
  | 19 => .array .int
  | 20 => .array .int
  | 21 => .array .int
  | 22 => .array .int
  | 23 => .int
  | 24 => .array .int
  | 25 => .array .int
  | 26 => .array .int
  | 27 => .array .int
  | 28 => .array .int
  | 29 => .array .int
  | 30 => .array .int
  | 31 => .array .int
  | 32 => .int
  | 33 => .int
  | 34 => .array .int
  | 35 => .array .int
  | 36 => .array .int
  | 37 => .array .int
  | 38 => .array .int
  | 39 => .array .byte
  | 40 => .int
  | 41 => .array .byte
  | 42 => .int
  | 43 => .int
  | 44 => .int
  | 45 => .int
  | _ => .array .int
abbrev wsX60 : List Cond := u_ws RX6 TX6 47
theorem nmX6 : ∀ a, a < 47 → ∀ b, b < 47 → a ≠ b → (TX6 a).2.1 ≠ (TX6 b).2.1 := by decide +kernel
theorem tyX6_ok : ∀ k, k < 47 → parseFieldDescriptor (TX6 k).2.2.1 = some (tyX6 k) := by decide +kernel
abbrev cX6_init : ByteArray := prog_8_method_1_code
def yX6_init : MethodName := ⟨RX6, "<init>", "()V"⟩
abbrev cX6_in : ByteArray := prog_8_method_3_code
def yX6_in : MethodName := ⟨RX6, "in", "(III)Z"⟩
abbrev cX6_refuse : ByteArray := prog_8_method_4_code
def yX6_refuse : MethodName := ⟨RX6, "refuse", "(I)I"⟩
abbrev cX6_isLine : ByteArray := prog_8_method_5_code
def yX6_isLine : MethodName := ⟨RX6, "isLine", "(I)Z"⟩
abbrev cX6_open : ByteArray := prog_8_method_6_code
def yX6_open : MethodName := ⟨RX6, "open", "(III)I"⟩
abbrev cX6_lease : ByteArray := prog_8_method_7_code
def yX6_lease : MethodName := ⟨RX6, "lease", "(III)I"⟩
abbrev cX6_type : ByteArray := prog_8_method_8_code
def yX6_type : MethodName := ⟨RX6, "type", "(JI)I"⟩
abbrev cX6_grow : ByteArray := prog_8_method_9_code
def yX6_grow : MethodName := ⟨RX6, "grow", "(I)I"⟩
abbrev cX6_frame : ByteArray := prog_8_method_10_code
def yX6_frame : MethodName := ⟨RX6, "frame", "()I"⟩
abbrev cX6_cut : ByteArray := prog_8_method_11_code
def yX6_cut : MethodName := ⟨RX6, "cut", "(I)I"⟩
abbrev cX6_room : ByteArray := prog_8_method_12_code
def yX6_room : MethodName := ⟨RX6, "room", "(I)I"⟩
abbrev cX6_sumOf : ByteArray := prog_8_method_13_code
def yX6_sumOf : MethodName := ⟨RX6, "sumOf", "(I)I"⟩
abbrev cX6_credit : ByteArray := prog_8_method_14_code
def yX6_credit : MethodName := ⟨RX6, "credit", "()I"⟩
abbrev cX6_sizeOf : ByteArray := prog_8_method_15_code
def yX6_sizeOf : MethodName := ⟨RX6, "sizeOf", "(I)I"⟩
abbrev cX6_waiting : ByteArray := prog_8_method_16_code
def yX6_waiting : MethodName := ⟨RX6, "waiting", "(I)I"⟩
abbrev cX6_lose : ByteArray := prog_8_method_17_code
def yX6_lose : MethodName := ⟨RX6, "lose", "(II)V"⟩
abbrev cX6_isBetter : ByteArray := prog_8_method_18_code
def yX6_isBetter : MethodName := ⟨RX6, "isBetter", "(III)Z"⟩
abbrev cX6_bestLine : ByteArray := prog_8_method_19_code
def yX6_bestLine : MethodName := ⟨RX6, "bestLine", "(I)I"⟩
abbrev cX6_layOn : ByteArray := prog_8_method_20_code
def yX6_layOn : MethodName := ⟨RX6, "layOn", "(II)V"⟩
abbrev cX6_laying : ByteArray := prog_8_method_21_code
def yX6_laying : MethodName := ⟨RX6, "laying", "()V"⟩
abbrev cX6_allowed : ByteArray := prog_8_method_22_code
def yX6_allowed : MethodName := ⟨RX6, "allowed", "(I)I"⟩
abbrev cX6_sendFirst : ByteArray := prog_8_method_23_code
def yX6_sendFirst : MethodName := ⟨RX6, "sendFirst", "(I)V"⟩
abbrev cX6_sending : ByteArray := prog_8_method_24_code
def yX6_sending : MethodName := ⟨RX6, "sending", "(I)V"⟩
abbrev cX6_coming : ByteArray := prog_8_method_25_code
def yX6_coming : MethodName := ⟨RX6, "coming", "(I)V"⟩
abbrev cX6_comes : ByteArray := prog_8_method_26_code
def yX6_comes : MethodName := ⟨RX6, "comes", "(III)V"⟩
abbrev cX6_isWhole : ByteArray := prog_8_method_27_code
def yX6_isWhole : MethodName := ⟨RX6, "isWhole", "(I)Z"⟩
abbrev cX6_step : ByteArray := prog_8_method_28_code
def yX6_step : MethodName := ⟨RX6, "step", "()V"⟩
abbrev cX6_tick : ByteArray := prog_8_method_29_code
def yX6_tick : MethodName := ⟨RX6, "tick", "(I)I"⟩
abbrev cX6_firstNot : ByteArray := prog_8_method_30_code
def yX6_firstNot : MethodName := ⟨RX6, "firstNot", "(II)I"⟩
abbrev cX6_lose_ : ByteArray := prog_8_method_31_code
def yX6_lose_ : MethodName := ⟨RX6, "lose", "(I)I"⟩
abbrev cX6_bend : ByteArray := prog_8_method_32_code
def yX6_bend : MethodName := ⟨RX6, "bend", "(III)I"⟩
abbrev cX6_fall : ByteArray := prog_8_method_33_code
def yX6_fall : MethodName := ⟨RX6, "fall", "(I)I"⟩
abbrev cX6_rise : ByteArray := prog_8_method_34_code
def yX6_rise : MethodName := ⟨RX6, "rise", "(I)I"⟩
abbrev cX6_line : ByteArray := prog_8_method_35_code
def yX6_line : MethodName := ⟨RX6, "line", "(II)I"⟩
abbrev cX6_isPiece : ByteArray := prog_8_method_36_code
def yX6_isPiece : MethodName := ⟨RX6, "isPiece", "(I)Z"⟩
abbrev cX6_piece : ByteArray := prog_8_method_37_code
def yX6_piece : MethodName := ⟨RX6, "piece", "(II)I"⟩
abbrev cX6_lostOn : ByteArray := prog_8_method_38_code
def yX6_lostOn : MethodName := ⟨RX6, "lostOn", "(II)I"⟩
abbrev cX6_queued : ByteArray := prog_8_method_39_code
def yX6_queued : MethodName := ⟨RX6, "queued", "(II)I"⟩
abbrev cX6_under : ByteArray := prog_8_method_40_code
def yX6_under : MethodName := ⟨RX6, "under", "(III)I"⟩
abbrev cX6_waits : ByteArray := prog_8_method_41_code
def yX6_waits : MethodName := ⟨RX6, "waits", "(I)I"⟩
abbrev cX6_isFrame : ByteArray := prog_8_method_42_code
def yX6_isFrame : MethodName := ⟨RX6, "isFrame", "(I)Z"⟩
abbrev cX6_got : ByteArray := prog_8_method_43_code
def yX6_got : MethodName := ⟨RX6, "got", "(II)I"⟩
abbrev cX6_frameOf : ByteArray := prog_8_method_44_code
def yX6_frameOf : MethodName := ⟨RX6, "frameOf", "(II)I"⟩
abbrev cX6_skew : ByteArray := prog_8_method_45_code
def yX6_skew : MethodName := ⟨RX6, "skew", "()I"⟩
abbrev cX6_witness : ByteArray := prog_8_method_46_code
def yX6_witness : MethodName := ⟨RX6, "witness", "(II)I"⟩
abbrev cX6_check : ByteArray := prog_8_method_47_code
def yX6_check : MethodName := ⟨RX6, "check", "(II)Z"⟩
abbrev cX6_many : ByteArray := prog_8_method_48_code
def yX6_many : MethodName := ⟨RX6, "many", "(I)I"⟩
abbrev cX6_status : ByteArray := prog_8_method_49_code
def yX6_status : MethodName := ⟨RX6, "status", "(I)I"⟩
def RJx8e188 : String := "java/lang/Cloneable"
def TJx8e188 : u_T := fun k => match k with
  | _ => ("", "", "", false)
def tyJx8e188 : Nat → FieldType := fun k => match k with
  | _ => .int
abbrev wsJx8e1880 : List Cond := u_ws RJx8e188 TJx8e188 0
theorem nmJx8e188 : ∀ a, a < 0 → ∀ b, b < 0 → a ≠ b → (TJx8e188 a).2.1 ≠ (TJx8e188 b).2.1 := by decide +kernel
theorem tyJx8e188_ok : ∀ k, k < 0 → parseFieldDescriptor (TJx8e188 k).2.2.1 = some (tyJx8e188 k) := by decide +kernel
def RJ9 : String := "java/lang/Math"
def TJ9 : u_T := fun k => match k with
  | _ => ("", "", "", false)
def tyJ9 : Nat → FieldType := fun k => match k with
  | _ => .int
abbrev wsJ90 : List Cond := u_ws RJ9 TJ9 0
theorem nmJ9 : ∀ a, a < 0 → ∀ b, b < 0 → a ≠ b → (TJ9 a).2.1 ≠ (TJ9 b).2.1 := by decide +kernel
theorem tyJ9_ok : ∀ k, k < 0 → parseFieldDescriptor (TJ9 k).2.2.1 = some (tyJ9 k) := by decide +kernel
abbrev cJ9_min_7cf53 : ByteArray := prog_10_method_69_code
def yJ9_min_7cf53 : MethodName := ⟨RJ9, "min", "(II)I"⟩
def RJ10 : String := "java/lang/System"
def TJ10 : u_T := fun k => match k with
  | _ => ("", "", "", false)
def tyJ10 : Nat → FieldType := fun k => match k with
  | _ => .int
abbrev wsJ100 : List Cond := u_ws RJ10 TJ10 0
theorem nmJ10 : ∀ a, a < 0 → ∀ b, b < 0 → a ≠ b → (TJ10 a).2.1 ≠ (TJ10 b).2.1 := by decide +kernel
theorem tyJ10_ok : ∀ k, k < 0 → parseFieldDescriptor (TJ10 k).2.2.1 = some (tyJ10 k) := by decide +kernel
def RJ7 : String := "java/util/Arrays"
def TJ7 : u_T := fun k => match k with
  | _ => ("", "", "", false)
def tyJ7 : Nat → FieldType := fun k => match k with
  | _ => .int
abbrev wsJ70 : List Cond := u_ws RJ7 TJ7 0
theorem nmJ7 : ∀ a, a < 0 → ∀ b, b < 0 → a ≠ b → (TJ7 a).2.1 ≠ (TJ7 b).2.1 := by decide +kernel
theorem tyJ7_ok : ∀ k, k < 0 → parseFieldDescriptor (TJ7 k).2.2.1 = some (tyJ7 k) := by decide +kernel
abbrev cJ7_copyOf_9075b : ByteArray := prog_12_method_121_code
def yJ7_copyOf_9075b : MethodName := ⟨RJ7, "copyOf", "([BI)[B"⟩
def RL : String := "BundleLineLaw"
abbrev cL_law : ByteArray := code
def yL_law : MethodName := ⟨RL, "law", "([I)Z"⟩
abbrev vwCl : List vw_C := [(RX0, TX0, 6), (RX1, TX1, 17), (RX2, TX2, 8), (RX3, TX3, 6), (RX4, TX4, 6), (RX5, TX5, 18), (RX6, TX6, 47)]
end
section
/-! Tables of our own machine, written by a program out of the claim's printed names. -/
abbrev Ent : Type := Instr × Nat × Nat × Nat
def mc_kd : List Nat := [5, 111, 110, 112, 100, 101, 100, 1, 100, 100, 3, 100, 100, 4, 100, 100, 100, 100, 2, 100, 0, 101, 6, 100, 100, 100, 102, 100, 100, 100, 100, 100, 100, 100, 100, 100, 100, 100, 100, 100, 100, 100, 100, 100, 100, 100, 100, 100, 100, 100, 100, 100, 100, 100, 100, 100, 100, 100, 101, 101, 100, 99, 99, 99, 99, 99, 99, 99, 99, 99, 99, 99, 99, 99, 99, 99, 99, 99, 99, 99, 99, 99, 99, 99, 99, 99, 99, 99, 99, 99, 99, 99, 99, 99, 99, 99, 99, 99, 98]
def mc_ety : List Nat := [99, 7, 20, 18, 99, 99, 99, 99, 99, 99, 99, 99, 99, 99, 99, 99, 99, 99, 99, 99, 99, 99, 99, 99, 99, 99, 99, 99, 99, 99, 99, 99, 99, 99, 99, 99, 99, 99, 99, 99, 99, 99, 99, 99, 99, 99, 99, 99, 99, 99, 99, 99, 99, 99, 99, 99, 99, 99, 99, 99, 99, 99, 99, 99, 99, 99, 99, 99, 99, 99, 99, 99, 99, 99, 99, 99, 99, 99, 99, 99, 99, 99, 99, 99, 99, 99, 99, 99, 99, 99, 99, 99, 99, 99, 99, 99, 99, 99, 99]
def mc_fty : List (List Nat) := [[2, 0, 0, 0, 0, 0], [0, 0, 0, 0, 2, 2, 2, 2, 1, 0, 0, 0, 0, 0, 0, 0, 0], [0, 0, 1, 0, 2, 0, 0, 0], [2, 2, 0, 0, 0, 0], [2, 2, 2, 2, 0, 0], [2, 0, 2, 0, 0, 0, 0, 2, 0, 0, 2, 2, 0, 0, 0, 0, 0, 2], [0, 2, 2, 2, 2, 2, 2, 2, 2, 2, 2, 2, 2, 2, 2, 2, 2, 2, 2, 2, 2, 2, 2, 0, 2, 2, 2, 2, 2, 2, 2, 2, 0, 0, 2, 2, 2, 2, 2, 2, 0, 2, 0, 0, 0, 0, 2]]
def mc_srf : List (List Nat) := [[21, 99, 99, 99, 99, 99], [99, 99, 99, 99, 10, 13, 8, 9, 99, 99, 99, 99, 99, 99, 99, 99, 99], [99, 99, 99, 99, 19, 99, 99, 99], [11, 12, 99, 99, 99, 99], [14, 15, 16, 17, 99, 99], [1, 99, 2, 99, 99, 99, 99, 3, 99, 99, 4, 5, 99, 99, 99, 99, 99, 6], [99, 23, 24, 25, 26, 27, 28, 29, 30, 31, 32, 33, 34, 35, 36, 37, 38, 39, 40, 41, 42, 43, 44, 99, 45, 46, 47, 48, 49, 50, 51, 52, 99, 99, 53, 54, 55, 56, 57, 58, 99, 59, 99, 99, 99, 99, 60]]
def mc_len : List Nat := [0, 8, 300, 3000, 4, 4000, 7, 0, 1024, 32, 0, 64, 64, 0, 256, 256, 256, 256, 0, 8, 0, 0, 0, 8, 8, 8, 8, 8, 8, 328, 8, 8, 1600, 1600, 1600, 1600, 8, 8, 8, 8, 8, 8, 8, 8, 160, 3000, 3000, 3000, 3000, 3000, 3000, 3000, 24000, 300, 300, 300, 300, 300, 1200000, 4000, 7, 0, 0, 0, 0, 0, 0, 0, 0, 0, 0, 0, 0, 0, 0, 0, 0, 0, 0, 0, 0, 0, 0, 0, 0, 0, 0, 0, 0, 0, 0, 0, 0, 0, 0, 0, 0, 0, 0]
def mc_mlo : List Nat := [4, 2, 5, 5, 1, 1, 2, 2, 3, 4, 7, 3, 1, 5, 2, 2, 1, 2, 4, 1, 2, 1, 1, 1, 2, 2, 2, 2, 5, 2, 1, 3, 4, 1, 1, 5, 5, 5, 4, 5, 6, 3, 3, 4, 4, 4, 5, 7, 4, 3, 3, 7, 4, 4, 4, 3, 3, 3, 5, 8, 5, 3, 4, 4, 4, 4, 5, 2, 5, 4, 4, 1, 5, 4, 6, 3, 2, 4, 2, 2, 1, 2, 2, 2, 1, 3, 2, 2, 5, 4, 5, 3, 5, 3, 3, 4, 3, 2, 4, 3, 6, 4, 3, 4, 4, 4, 5, 3, 5, 4, 2, 4, 5, 3, 5, 4, 2, 3, 2, 3, 3, 3, 5, 4, 2, 3, 5, 4, 4, 5, 4, 4, 3, 4]
def mc_mow : List Nat := [0, 0, 0, 1, 1, 1, 1, 1, 1, 1, 1, 1, 1, 2, 2, 2, 3, 3, 3, 3, 3, 3, 3, 4, 4, 4, 4, 4, 4, 4, 4, 4, 4, 4, 5, 5, 5, 5, 5, 5, 5, 5, 5, 5, 5, 5, 5, 5, 5, 5, 5, 5, 5, 5, 5, 5, 5, 5, 5, 5, 5, 5, 5, 5, 5, 5, 5, 5, 5, 5, 5, 5, 5, 5, 5, 5, 5, 5, 5, 5, 5, 5, 5, 5, 6, 6, 6, 6, 6, 6, 6, 6, 6, 6, 6, 6, 6, 6, 6, 6, 6, 6, 6, 6, 6, 6, 6, 6, 6, 6, 6, 6, 6, 6, 6, 6, 6, 6, 6, 6, 6, 6, 6, 6, 6, 6, 6, 6, 6, 6, 6, 6, 8, 7]
/-- 0: BundleLine$Frame.<init>([BII)V -/
def mc_X0_init : List (Option Ent) := [some (.aload_n 0, 1, 0, 0), some (.invokespecial 3, 3, 1000, 0), none, none, some (.aload_n 0, 1, 0, 0), some (.aload_n 1, 1, 0, 0), some (.putfield 9, 3, 0, 0), none, none, some (.aload_n 0, 1, 0, 0), some (.aload_n 1, 1, 0, 0), some (.arraylength, 1, 0, 0), some (.putfield 15, 3, 0, 1), none, none, some (.aload_n 0, 1, 0, 0), some (.iload_n 2, 1, 0, 0), some (.putfield 19, 3, 0, 2), none, none, some (.aload_n 0, 1, 0, 0), some (.iload_n 3, 1, 0, 0), some (.putfield 22, 3, 0, 3), none, none, some (.aload_n 0, 1, 0, 0), some (.bipush (-9), 2, 0, 0), none, some (.putfield 25, 3, 0, 5), none, none, some (.return_, 1, 0, 0)]
/-- 1: BundleLine$Frame.byteAt(I)I -/
def mc_X0_byteAt : List (Option Ent) := [some (.iload_n 1, 1, 0, 0), some (.ifCond .lt 12, 3, 13, 0), none, none, some (.iload_n 1, 1, 0, 0), some (.aload_n 0, 1, 0, 0), some (.getfield 9, 3, 0, 0), none, none, some (.arraylength, 1, 0, 0), some (.if_icmp .lt 7, 3, 17, 0), none, none, some (.iconst 0, 1, 0, 0), some (.goto 13, 3, 27, 0), none, none, some (.aload_n 0, 1, 0, 0), some (.getfield 9, 3, 0, 0), none, none, some (.iload_n 1, 1, 0, 0), some (.baload, 1, 0, 0), some (.sipush 255, 3, 0, 0), none, none, some (.iand, 1, 0, 0), some (.ireturn, 1, 0, 0)]
/-- 2: BundleLine$Frame.sumOf(II)I -/
def mc_X0_sumOf : List (Option Ent) := [some (.iconst 0, 1, 0, 0), some (.istore_n 3, 1, 0, 0), some (.iconst 0, 1, 0, 0), some (.istore 4, 2, 0, 0), none, some (.iload 4, 2, 0, 0), none, some (.iload_n 2, 1, 0, 0), some (.if_icmp .ge 25, 3, 33, 0), none, none, some (.iload_n 3, 1, 0, 0), some (.aload_n 0, 1, 0, 0), some (.iload_n 1, 1, 0, 0), some (.iload 4, 2, 0, 0), none, some (.iadd, 1, 0, 0), some (.invokevirtual 28, 3, 1, 2), none, none, some (.iload 4, 2, 0, 0), none, some (.iconst 1, 1, 0, 0), some (.iadd, 1, 0, 0), some (.imul, 1, 0, 0), some (.iadd, 1, 0, 0), some (.istore_n 3, 1, 0, 0), some (.iinc 4 1, 3, 0, 0), none, none, some (.goto (-25), 3, 5, 0), none, none, some (.iload_n 3, 1, 0, 0), some (.ireturn, 1, 0, 0)]
/-- 3: BundleLine$Line.<init>(IIII)V -/
def mc_X1_init : List (Option Ent) := [some (.aload_n 0, 1, 0, 0), some (.invokespecial 3, 3, 1000, 0), none, none, some (.aload_n 0, 1, 0, 0), some (.iload_n 1, 1, 0, 0), some (.putfield 9, 3, 1, 0), none, none, some (.aload_n 0, 1, 0, 0), some (.iload_n 2, 1, 0, 0), some (.putfield 15, 3, 1, 1), none, none, some (.aload_n 0, 1, 0, 0), some (.iload_n 3, 1, 0, 0), some (.putfield 18, 3, 1, 2), none, none, some (.aload_n 0, 1, 0, 0), some (.iload 4, 2, 0, 0), none, some (.putfield 21, 3, 1, 3), none, none, some (.aload_n 0, 1, 0, 0), some (.new 24, 3, 10, 3), none, none, some (.dup, 1, 0, 0), some (.invokespecial 26, 3, 16, 1), none, none, some (.putfield 27, 3, 1, 4), none, none, some (.aload_n 0, 1, 0, 0), some (.new 31, 3, 13, 4), none, none, some (.dup, 1, 0, 0), some (.invokespecial 33, 3, 23, 1), none, none, some (.putfield 34, 3, 1, 5), none, none, some (.aload_n 0, 1, 0, 0), some (.sipush 1024, 3, 0, 0), none, none, some (.newarray .int, 2, 8, 0), none, some (.putfield 38, 3, 1, 6), none, none, some (.aload_n 0, 1, 0, 0), some (.bipush 32, 2, 0, 0), none, some (.newarray .int, 2, 9, 0), none, some (.putfield 42, 3, 1, 7), none, none, some (.aload_n 0, 1, 0, 0), some (.iconst 1, 1, 0, 0), some (.putfield 45, 3, 1, 8), none, none, some (.aload_n 0, 1, 0, 0), some (.iload_n 2, 1, 0, 0), some (.iconst 3, 1, 0, 0), some (.if_icmp .ne 9, 3, 81, 0), none, none, some (.sipush 1000, 3, 0, 0), none, none, some (.goto 4, 3, 82, 0), none, none, some (.iconst 0, 1, 0, 0), some (.putfield 49, 3, 1, 9), none, none, some (.aload_n 0, 1, 0, 0), some (.iload_n 2, 1, 0, 0), some (.iconst 3, 1, 0, 0), some (.if_icmp .ne 7, 3, 95, 0), none, none, some (.iconst 4, 1, 0, 0), some (.goto 4, 3, 96, 0), none, none, some (.iconst 0, 1, 0, 0), some (.putfield 52, 3, 1, 10), none, none, some (.return_, 1, 0, 0)]
/-- 4: BundleLine$Line.takesMore()Z -/
def mc_X1_takesMore : List (Option Ent) := [some (.aload_n 0, 1, 0, 0), some (.getfield 45, 3, 1, 8), none, none, some (.ifCond .eq 19, 3, 23, 0), none, none, some (.aload_n 0, 1, 0, 0), some (.getfield 27, 3, 1, 4), none, none, some (.getfield 55, 3, 3, 3), none, none, some (.bipush 40, 2, 0, 0), none, some (.if_icmp .ge 7, 3, 23, 0), none, none, some (.iconst 1, 1, 0, 0), some (.goto 4, 3, 24, 0), none, none, some (.iconst 0, 1, 0, 0), some (.ireturn, 1, 1, 0)]
/-- 5: BundleLine$Line.restsUnheard()Z -/
def mc_X1_restsUnheard : List (Option Ent) := [some (.aload_n 0, 1, 0, 0), some (.getfield 45, 3, 1, 8), none, none, some (.ifCond .eq 38, 3, 42, 0), none, none, some (.aload_n 0, 1, 0, 0), some (.getfield 27, 3, 1, 4), none, none, some (.getfield 55, 3, 3, 3), none, none, some (.ifCond .ne 28, 3, 42, 0), none, none, some (.aload_n 0, 1, 0, 0), some (.getfield 34, 3, 1, 5), none, none, some (.getfield 58, 3, 4, 5), none, none, some (.ifCond .ne 18, 3, 42, 0), none, none, some (.aload_n 0, 1, 0, 0), some (.getfield 59, 3, 1, 12), none, none, some (.aload_n 0, 1, 0, 0), some (.getfield 62, 3, 1, 11), none, none, some (.if_icmp .ge 7, 3, 42, 0), none, none, some (.iconst 1, 1, 0, 0), some (.goto 4, 3, 43, 0), none, none, some (.iconst 0, 1, 0, 0), some (.ireturn, 1, 1, 0)]
/-- 6: BundleLine$Line.ticksToSend(I)I -/
def mc_X1_ticksToSend : List (Option Ent) := [some (.aload_n 0, 1, 0, 0), some (.getfield 18, 3, 1, 2), none, none, some (.iconst 1, 1, 0, 0), some (.if_icmp .ge 7, 3, 12, 0), none, none, some (.iconst 0, 1, 0, 0), some (.goto 24, 3, 33, 0), none, none, some (.aload_n 0, 1, 0, 0), some (.getfield 27, 3, 1, 4), none, none, some (.getfield 65, 3, 3, 4), none, none, some (.iload_n 1, 1, 0, 0), some (.iadd, 1, 0, 0), some (.aload_n 0, 1, 0, 0), some (.getfield 18, 3, 1, 2), none, none, some (.iadd, 1, 0, 0), some (.iconst 1, 1, 0, 0), some (.isub, 1, 0, 0), some (.aload_n 0, 1, 0, 0), some (.getfield 18, 3, 1, 2), none, none, some (.idiv, 1, 0, 0), some (.ireturn, 1, 0, 0)]
/-- 7: BundleLine$Line.sentWith(I)I -/
def mc_X1_sentWith : List (Option Ent) := [some (.aload_n 0, 1, 0, 0), some (.getfield 38, 3, 1, 6), none, none, some (.iload_n 1, 1, 0, 0), some (.sipush 1023, 3, 0, 0), none, none, some (.iand, 1, 0, 0), some (.iaload, 1, 0, 0), some (.ireturn, 1, 0, 0)]
/-- 8: BundleLine$Line.sendAt(I)V -/
def mc_X1_sendAt : List (Option Ent) := [some (.aload_n 0, 1, 0, 0), some (.getfield 68, 3, 1, 13), none, none, some (.istore_n 2, 1, 0, 0), some (.aload_n 0, 1, 0, 0), some (.getfield 45, 3, 1, 8), none, none, some (.ifCond .eq 13, 3, 22, 0), none, none, some (.aload_n 0, 1, 0, 0), some (.aload_n 0, 1, 0, 0), some (.iload_n 1, 1, 0, 0), some (.invokevirtual 71, 3, 9, 2), none, none, some (.iload_n 1, 1, 0, 0), some (.invokevirtual 75, 3, 10, 3), none, none, some (.aload_n 0, 1, 0, 0), some (.getfield 42, 3, 1, 7), none, none, some (.iload_n 1, 1, 0, 0), some (.bipush 31, 2, 0, 0), none, some (.iand, 1, 0, 0), some (.aload_n 0, 1, 0, 0), some (.getfield 68, 3, 1, 13), none, none, some (.iload_n 2, 1, 0, 0), some (.isub, 1, 0, 0), some (.iastore, 1, 0, 0), some (.return_, 1, 0, 0)]
/-- 9: BundleLine$Line.bytesFor(I)I -/
def mc_X1_bytesFor : List (Option Ent) := [some (.aload_n 0, 1, 0, 0), some (.getfield 15, 3, 1, 1), none, none, some (.iconst 3, 1, 0, 0), some (.if_icmp .eq 8, 3, 13, 0), none, none, some (.aload_n 0, 1, 0, 0), some (.getfield 18, 3, 1, 2), none, none, some (.ireturn, 1, 0, 0), some (.aload_n 0, 1, 0, 0), some (.getfield 49, 3, 1, 9), none, none, some (.istore_n 2, 1, 0, 0), some (.iconst 1, 1, 0, 0), some (.istore_n 3, 1, 0, 0), some (.iload_n 3, 1, 0, 0), some (.aload_n 0, 1, 0, 0), some (.getfield 52, 3, 1, 10), none, none, some (.if_icmp .ge 23, 3, 48, 0), none, none, some (.iload_n 2, 1, 0, 0), some (.aload_n 0, 1, 0, 0), some (.getfield 42, 3, 1, 7), none, none, some (.iload_n 1, 1, 0, 0), some (.iload_n 3, 1, 0, 0), some (.isub, 1, 0, 0), some (.bipush 31, 2, 0, 0), none, some (.iand, 1, 0, 0), some (.iaload, 1, 0, 0), some (.isub, 1, 0, 0), some (.istore_n 2, 1, 0, 0), some (.iinc 3 1, 3, 0, 0), none, none, some (.goto (-25), 3, 20, 0), none, none, some (.aload_n 0, 1, 0, 0), some (.getfield 18, 3, 1, 2), none, none, some (.iload_n 2, 1, 0, 0), some (.invokestatic 79, 3, 1001, 0), none, none, some (.ireturn, 1, 0, 0)]
/-- 10: BundleLine$Line.sendBytes(II)V -/
def mc_X1_sendBytes : List (Option Ent) := [some (.iload_n 1, 1, 0, 0), some (.istore_n 3, 1, 0, 0), some (.iconst 0, 1, 0, 0), some (.istore 4, 2, 0, 0), none, some (.iload 4, 2, 0, 0), none, some (.bipush 40, 2, 0, 0), none, some (.if_icmp .ge 105, 3, 114, 0), none, none, some (.iload_n 3, 1, 0, 0), some (.ifCond .le 101, 3, 114, 0), none, none, some (.aload_n 0, 1, 0, 0), some (.getfield 27, 3, 1, 4), none, none, some (.getfield 55, 3, 3, 3), none, none, some (.ifCond .eq 16, 3, 39, 0), none, none, some (.aload_n 0, 1, 0, 0), some (.getfield 34, 3, 1, 5), none, none, some (.getfield 58, 3, 4, 5), none, none, some (.sipush 200, 3, 0, 0), none, none, some (.if_icmp .lt 4, 3, 40, 0), none, none, some (.return_, 1, 0, 0), some (.aload_n 0, 1, 0, 0), some (.getfield 27, 3, 1, 4), none, none, some (.invokevirtual 85, 3, 19, 1), none, none, some (.istore 5, 2, 0, 0), none, some (.aload_n 0, 1, 0, 0), some (.getfield 15, 3, 1, 1), none, none, some (.ifCond .ne 10, 3, 63, 0), none, none, some (.iload 5, 2, 0, 0), none, some (.iload_n 3, 1, 0, 0), some (.if_icmp .le 4, 3, 63, 0), none, none, some (.return_, 1, 0, 0), some (.iload 5, 2, 0, 0), none, some (.iload_n 3, 1, 0, 0), some (.invokestatic 79, 3, 1001, 0), none, none, some (.istore 6, 2, 0, 0), none, some (.aload_n 0, 1, 0, 0), some (.getfield 27, 3, 1, 4), none, none, some (.iload 6, 2, 0, 0), none, some (.invokevirtual 89, 3, 20, 2), none, none, some (.aload_n 0, 1, 0, 0), some (.dup, 1, 0, 0), some (.getfield 68, 3, 1, 13), none, none, some (.iload 6, 2, 0, 0), none, some (.iadd, 1, 0, 0), some (.putfield 68, 3, 1, 13), none, none, some (.iload_n 3, 1, 0, 0), some (.iload 6, 2, 0, 0), none, some (.isub, 1, 0, 0), some (.istore_n 3, 1, 0, 0), some (.iload 6, 2, 0, 0), none, some (.iload 5, 2, 0, 0), none, some (.if_icmp .ne 8, 3, 108, 0), none, none, some (.aload_n 0, 1, 0, 0), some (.iload_n 2, 1, 0, 0), some (.invokevirtual 93, 3, 11, 2), none, none, some (.iinc 4 1, 3, 0, 0), none, none, some (.goto (-106), 3, 5, 0), none, none, some (.return_, 1, 0, 0)]
/-- 11: BundleLine$Line.sendFirst(I)V -/
def mc_X1_sendFirst : List (Option Ent) := [some (.aload_n 0, 1, 0, 0), some (.getfield 27, 3, 1, 4), none, none, some (.iconst 0, 1, 0, 0), some (.invokevirtual 96, 3, 17, 2), none, none, some (.istore_n 2, 1, 0, 0), some (.aload_n 0, 1, 0, 0), some (.getfield 27, 3, 1, 4), none, none, some (.invokevirtual 99, 3, 21, 1), none, none, some (.aload_n 0, 1, 0, 0), some (.getfield 34, 3, 1, 5), none, none, some (.iload_n 2, 1, 0, 0), some (.aload_n 0, 1, 0, 0), some (.getfield 62, 3, 1, 11), none, none, some (.iload_n 1, 1, 0, 0), some (.aload_n 0, 1, 0, 0), some (.getfield 21, 3, 1, 3), none, none, some (.iadd, 1, 0, 0), some (.invokevirtual 102, 3, 28, 4), none, none, some (.aload_n 0, 1, 0, 0), some (.getfield 38, 3, 1, 6), none, none, some (.aload_n 0, 1, 0, 0), some (.getfield 62, 3, 1, 11), none, none, some (.sipush 1023, 3, 0, 0), none, none, some (.iand, 1, 0, 0), some (.iload_n 2, 1, 0, 0), some (.iastore, 1, 0, 0), some (.aload_n 0, 1, 0, 0), some (.dup, 1, 0, 0), some (.getfield 62, 3, 1, 11), none, none, some (.iconst 1, 1, 0, 0), some (.iadd, 1, 0, 0), some (.putfield 62, 3, 1, 11), none, none, some (.return_, 1, 0, 0)]
/-- 12: BundleLine$Line.goDown()V -/
def mc_X1_goDown : List (Option Ent) := [some (.aload_n 0, 1, 0, 0), some (.iconst 0, 1, 0, 0), some (.putfield 45, 3, 1, 8), none, none, some (.aload_n 0, 1, 0, 0), some (.getfield 27, 3, 1, 4), none, none, some (.invokevirtual 106, 3, 22, 1), none, none, some (.aload_n 0, 1, 0, 0), some (.getfield 34, 3, 1, 5), none, none, some (.invokevirtual 109, 3, 33, 1), none, none, some (.aload_n 0, 1, 0, 0), some (.aload_n 0, 1, 0, 0), some (.getfield 62, 3, 1, 11), none, none, some (.putfield 59, 3, 1, 12), none, none, some (.return_, 1, 0, 0)]
/-- 13: BundleLine$Piece.<init>(IIZI)V -/
def mc_X2_init : List (Option Ent) := [some (.aload_n 0, 1, 0, 0), some (.invokespecial 3, 3, 1000, 0), none, none, some (.aload_n 0, 1, 0, 0), some (.iload_n 1, 1, 0, 0), some (.putfield 9, 3, 2, 0), none, none, some (.aload_n 0, 1, 0, 0), some (.iload_n 2, 1, 0, 0), some (.putfield 15, 3, 2, 1), none, none, some (.aload_n 0, 1, 0, 0), some (.iload_n 3, 1, 0, 0), some (.putfield 18, 3, 2, 2), none, none, some (.aload_n 0, 1, 0, 0), some (.iload 4, 2, 0, 0), none, some (.putfield 22, 3, 2, 3), none, none, some (.aload_n 0, 1, 0, 0), some (.bipush 8, 2, 0, 0), none, some (.newarray .int, 2, 19, 0), none, some (.putfield 25, 3, 2, 4), none, none, some (.aload_n 0, 1, 0, 0), some (.iconst 0, 1, 0, 0), some (.putfield 29, 3, 2, 5), none, none, some (.aload_n 0, 1, 0, 0), some (.bipush (-9), 2, 0, 0), none, some (.putfield 32, 3, 2, 7), none, none, some (.return_, 1, 0, 0)]
/-- 14: BundleLine$Piece.lossesOn(I)I -/
def mc_X2_lossesOn : List (Option Ent) := [some (.iload_n 1, 1, 0, 0), some (.ifCond .lt 12, 3, 13, 0), none, none, some (.iload_n 1, 1, 0, 0), some (.aload_n 0, 1, 0, 0), some (.getfield 25, 3, 2, 4), none, none, some (.arraylength, 1, 0, 0), some (.if_icmp .lt 7, 3, 17, 0), none, none, some (.iconst 0, 1, 0, 0), some (.goto 9, 3, 23, 0), none, none, some (.aload_n 0, 1, 0, 0), some (.getfield 25, 3, 2, 4), none, none, some (.iload_n 1, 1, 0, 0), some (.iaload, 1, 0, 0), some (.ireturn, 1, 0, 0)]
/-- 15: BundleLine$Piece.addLossOn(I)V -/
def mc_X2_addLossOn : List (Option Ent) := [some (.iload_n 1, 1, 0, 0), some (.ifCond .lt 22, 3, 23, 0), none, none, some (.iload_n 1, 1, 0, 0), some (.aload_n 0, 1, 0, 0), some (.getfield 25, 3, 2, 4), none, none, some (.arraylength, 1, 0, 0), some (.if_icmp .ge 13, 3, 23, 0), none, none, some (.aload_n 0, 1, 0, 0), some (.getfield 25, 3, 2, 4), none, none, some (.iload_n 1, 1, 0, 0), some (.dup2, 1, 0, 0), some (.iaload, 1, 0, 0), some (.iconst 1, 1, 0, 0), some (.iadd, 1, 0, 0), some (.iastore, 1, 0, 0), some (.return_, 1, 0, 0)]
/-- 16: BundleLine$Queue.<init>()V -/
def mc_X3_init : List (Option Ent) := [some (.aload_n 0, 1, 0, 0), some (.invokespecial 1, 3, 1000, 0), none, none, some (.aload_n 0, 1, 0, 0), some (.bipush 64, 2, 0, 0), none, some (.newarray .int, 2, 11, 0), none, some (.putfield 9, 3, 3, 0), none, none, some (.aload_n 0, 1, 0, 0), some (.bipush 64, 2, 0, 0), none, some (.newarray .int, 2, 12, 0), none, some (.putfield 13, 3, 3, 1), none, none, some (.return_, 1, 0, 0)]
/-- 17: BundleLine$Queue.numberOf(I)I -/
def mc_X3_numberOf : List (Option Ent) := [some (.aload_n 0, 1, 0, 0), some (.getfield 9, 3, 3, 0), none, none, some (.aload_n 0, 1, 0, 0), some (.getfield 16, 3, 3, 2), none, none, some (.iload_n 1, 1, 0, 0), some (.iadd, 1, 0, 0), some (.bipush 63, 2, 0, 0), none, some (.iand, 1, 0, 0), some (.iaload, 1, 0, 0), some (.ireturn, 1, 0, 0)]
/-- 18: BundleLine$Queue.add(II)V -/
def mc_X3_add : List (Option Ent) := [some (.aload_n 0, 1, 0, 0), some (.getfield 16, 3, 3, 2), none, none, some (.aload_n 0, 1, 0, 0), some (.getfield 20, 3, 3, 3), none, none, some (.iadd, 1, 0, 0), some (.bipush 63, 2, 0, 0), none, some (.iand, 1, 0, 0), some (.istore_n 3, 1, 0, 0), some (.aload_n 0, 1, 0, 0), some (.getfield 9, 3, 3, 0), none, none, some (.iload_n 3, 1, 0, 0), some (.iload_n 1, 1, 0, 0), some (.iastore, 1, 0, 0), some (.aload_n 0, 1, 0, 0), some (.getfield 13, 3, 3, 1), none, none, some (.iload_n 3, 1, 0, 0), some (.iload_n 2, 1, 0, 0), some (.iastore, 1, 0, 0), some (.aload_n 0, 1, 0, 0), some (.dup, 1, 0, 0), some (.getfield 20, 3, 3, 3), none, none, some (.iconst 1, 1, 0, 0), some (.iadd, 1, 0, 0), some (.putfield 20, 3, 3, 3), none, none, some (.aload_n 0, 1, 0, 0), some (.dup, 1, 0, 0), some (.getfield 23, 3, 3, 4), none, none, some (.iload_n 2, 1, 0, 0), some (.iadd, 1, 0, 0), some (.putfield 23, 3, 3, 4), none, none, some (.return_, 1, 0, 0)]
/-- 19: BundleLine$Queue.restOfFirst()I -/
def mc_X3_restOfFirst : List (Option Ent) := [some (.aload_n 0, 1, 0, 0), some (.getfield 13, 3, 3, 1), none, none, some (.aload_n 0, 1, 0, 0), some (.getfield 16, 3, 3, 2), none, none, some (.bipush 63, 2, 0, 0), none, some (.iand, 1, 0, 0), some (.iaload, 1, 0, 0), some (.aload_n 0, 1, 0, 0), some (.getfield 26, 3, 3, 5), none, none, some (.isub, 1, 0, 0), some (.ireturn, 1, 0, 0)]
/-- 20: BundleLine$Queue.takeFromFirst(I)V -/
def mc_X3_takeFromFirst : List (Option Ent) := [some (.aload_n 0, 1, 0, 0), some (.dup, 1, 0, 0), some (.getfield 26, 3, 3, 5), none, none, some (.iload_n 1, 1, 0, 0), some (.iadd, 1, 0, 0), some (.putfield 26, 3, 3, 5), none, none, some (.aload_n 0, 1, 0, 0), some (.dup, 1, 0, 0), some (.getfield 23, 3, 3, 4), none, none, some (.iload_n 1, 1, 0, 0), some (.isub, 1, 0, 0), some (.putfield 23, 3, 3, 4), none, none, some (.return_, 1, 0, 0)]
/-- 21: BundleLine$Queue.dropFirst()V -/
def mc_X3_dropFirst : List (Option Ent) := [some (.aload_n 0, 1, 0, 0), some (.aload_n 0, 1, 0, 0), some (.getfield 16, 3, 3, 2), none, none, some (.iconst 1, 1, 0, 0), some (.iadd, 1, 0, 0), some (.bipush 63, 2, 0, 0), none, some (.iand, 1, 0, 0), some (.putfield 16, 3, 3, 2), none, none, some (.aload_n 0, 1, 0, 0), some (.dup, 1, 0, 0), some (.getfield 20, 3, 3, 3), none, none, some (.iconst 1, 1, 0, 0), some (.isub, 1, 0, 0), some (.putfield 20, 3, 3, 3), none, none, some (.aload_n 0, 1, 0, 0), some (.iconst 0, 1, 0, 0), some (.putfield 26, 3, 3, 5), none, none, some (.return_, 1, 0, 0)]
/-- 22: BundleLine$Queue.clear()V -/
def mc_X3_clear : List (Option Ent) := [some (.aload_n 0, 1, 0, 0), some (.iconst 0, 1, 0, 0), some (.putfield 20, 3, 3, 3), none, none, some (.aload_n 0, 1, 0, 0), some (.iconst 0, 1, 0, 0), some (.putfield 23, 3, 3, 4), none, none, some (.aload_n 0, 1, 0, 0), some (.iconst 0, 1, 0, 0), some (.putfield 26, 3, 3, 5), none, none, some (.return_, 1, 0, 0)]
/-- 23: BundleLine$UnderWay.<init>()V -/
def mc_X4_init : List (Option Ent) := [some (.aload_n 0, 1, 0, 0), some (.invokespecial 1, 3, 1000, 0), none, none, some (.aload_n 0, 1, 0, 0), some (.sipush 256, 3, 0, 0), none, none, some (.newarray .int, 2, 14, 0), none, some (.putfield 9, 3, 4, 0), none, none, some (.aload_n 0, 1, 0, 0), some (.sipush 256, 3, 0, 0), none, none, some (.newarray .int, 2, 15, 0), none, some (.putfield 13, 3, 4, 1), none, none, some (.aload_n 0, 1, 0, 0), some (.sipush 256, 3, 0, 0), none, none, some (.newarray .int, 2, 16, 0), none, some (.putfield 16, 3, 4, 2), none, none, some (.aload_n 0, 1, 0, 0), some (.sipush 256, 3, 0, 0), none, none, some (.newarray .int, 2, 17, 0), none, some (.putfield 19, 3, 4, 3), none, none, some (.return_, 1, 0, 0)]
/-- 24: BundleLine$UnderWay.numberOf(I)I -/
def mc_X4_numberOf : List (Option Ent) := [some (.aload_n 0, 1, 0, 0), some (.getfield 9, 3, 4, 0), none, none, some (.aload_n 0, 1, 0, 0), some (.getfield 22, 3, 4, 4), none, none, some (.iload_n 1, 1, 0, 0), some (.iadd, 1, 0, 0), some (.sipush 255, 3, 0, 0), none, none, some (.iand, 1, 0, 0), some (.iaload, 1, 0, 0), some (.ireturn, 1, 0, 0)]
/-- 25: BundleLine$UnderWay.countOf(I)I -/
def mc_X4_countOf : List (Option Ent) := [some (.aload_n 0, 1, 0, 0), some (.getfield 13, 3, 4, 1), none, none, some (.aload_n 0, 1, 0, 0), some (.getfield 22, 3, 4, 4), none, none, some (.iload_n 1, 1, 0, 0), some (.iadd, 1, 0, 0), some (.sipush 255, 3, 0, 0), none, none, some (.iand, 1, 0, 0), some (.iaload, 1, 0, 0), some (.ireturn, 1, 0, 0)]
/-- 26: BundleLine$UnderWay.comingOf(I)I -/
def mc_X4_comingOf : List (Option Ent) := [some (.aload_n 0, 1, 0, 0), some (.getfield 16, 3, 4, 2), none, none, some (.aload_n 0, 1, 0, 0), some (.getfield 22, 3, 4, 4), none, none, some (.iload_n 1, 1, 0, 0), some (.iadd, 1, 0, 0), some (.sipush 255, 3, 0, 0), none, none, some (.iand, 1, 0, 0), some (.iaload, 1, 0, 0), some (.ireturn, 1, 0, 0)]
/-- 27: BundleLine$UnderWay.marksOf(I)I -/
def mc_X4_marksOf : List (Option Ent) := [some (.aload_n 0, 1, 0, 0), some (.getfield 19, 3, 4, 3), none, none, some (.aload_n 0, 1, 0, 0), some (.getfield 22, 3, 4, 4), none, none, some (.iload_n 1, 1, 0, 0), some (.iadd, 1, 0, 0), some (.sipush 255, 3, 0, 0), none, none, some (.iand, 1, 0, 0), some (.iaload, 1, 0, 0), some (.ireturn, 1, 0, 0)]
/-- 28: BundleLine$UnderWay.add(III)V -/
def mc_X4_add : List (Option Ent) := [some (.aload_n 0, 1, 0, 0), some (.getfield 22, 3, 4, 4), none, none, some (.aload_n 0, 1, 0, 0), some (.getfield 26, 3, 4, 5), none, none, some (.iadd, 1, 0, 0), some (.sipush 255, 3, 0, 0), none, none, some (.iand, 1, 0, 0), some (.istore 4, 2, 0, 0), none, some (.aload_n 0, 1, 0, 0), some (.getfield 9, 3, 4, 0), none, none, some (.iload 4, 2, 0, 0), none, some (.iload_n 1, 1, 0, 0), some (.iastore, 1, 0, 0), some (.aload_n 0, 1, 0, 0), some (.getfield 13, 3, 4, 1), none, none, some (.iload 4, 2, 0, 0), none, some (.iload_n 2, 1, 0, 0), some (.iastore, 1, 0, 0), some (.aload_n 0, 1, 0, 0), some (.getfield 16, 3, 4, 2), none, none, some (.iload 4, 2, 0, 0), none, some (.iload_n 3, 1, 0, 0), some (.iastore, 1, 0, 0), some (.aload_n 0, 1, 0, 0), some (.getfield 19, 3, 4, 3), none, none, some (.iload 4, 2, 0, 0), none, some (.iconst 0, 1, 0, 0), some (.iastore, 1, 0, 0), some (.aload_n 0, 1, 0, 0), some (.dup, 1, 0, 0), some (.getfield 26, 3, 4, 5), none, none, some (.iconst 1, 1, 0, 0), some (.iadd, 1, 0, 0), some (.putfield 26, 3, 4, 5), none, none, some (.return_, 1, 0, 0)]
/-- 29: BundleLine$UnderWay.hasComeAt(I)Z -/
def mc_X4_hasComeAt : List (Option Ent) := [some (.aload_n 0, 1, 0, 0), some (.getfield 26, 3, 4, 5), none, none, some (.ifCond .le 16, 3, 20, 0), none, none, some (.aload_n 0, 1, 0, 0), some (.iconst 0, 1, 0, 0), some (.invokevirtual 29, 3, 26, 2), none, none, some (.iload_n 1, 1, 0, 0), some (.if_icmp .gt 7, 3, 20, 0), none, none, some (.iconst 1, 1, 0, 0), some (.goto 4, 3, 21, 0), none, none, some (.iconst 0, 1, 0, 0), some (.ireturn, 1, 1, 0)]
/-- 30: BundleLine$UnderWay.dropFirst()V -/
def mc_X4_dropFirst : List (Option Ent) := [some (.aload_n 0, 1, 0, 0), some (.aload_n 0, 1, 0, 0), some (.getfield 22, 3, 4, 4), none, none, some (.iconst 1, 1, 0, 0), some (.iadd, 1, 0, 0), some (.sipush 255, 3, 0, 0), none, none, some (.iand, 1, 0, 0), some (.putfield 22, 3, 4, 4), none, none, some (.aload_n 0, 1, 0, 0), some (.dup, 1, 0, 0), some (.getfield 26, 3, 4, 5), none, none, some (.iconst 1, 1, 0, 0), some (.isub, 1, 0, 0), some (.putfield 26, 3, 4, 5), none, none, some (.return_, 1, 0, 0)]
/-- 31: BundleLine$UnderWay.firstWithout(I)I -/
def mc_X4_firstWithout : List (Option Ent) := [some (.iconst 0, 1, 0, 0), some (.istore_n 2, 1, 0, 0), some (.iload_n 2, 1, 0, 0), some (.aload_n 0, 1, 0, 0), some (.getfield 26, 3, 4, 5), none, none, some (.if_icmp .ge 21, 3, 28, 0), none, none, some (.aload_n 0, 1, 0, 0), some (.iload_n 2, 1, 0, 0), some (.invokevirtual 33, 3, 27, 2), none, none, some (.iload_n 1, 1, 0, 0), some (.iand, 1, 0, 0), some (.ifCond .ne 5, 3, 22, 0), none, none, some (.iload_n 2, 1, 0, 0), some (.ireturn, 1, 0, 0), some (.iinc 2 1, 3, 0, 0), none, none, some (.goto (-23), 3, 2, 0), none, none, some (.iconst (-1), 1, 0, 0), some (.ireturn, 1, 0, 0)]
/-- 32: BundleLine$UnderWay.mark(II)V -/
def mc_X4_mark : List (Option Ent) := [some (.aload_n 0, 1, 0, 0), some (.getfield 22, 3, 4, 4), none, none, some (.iload_n 1, 1, 0, 0), some (.iadd, 1, 0, 0), some (.sipush 255, 3, 0, 0), none, none, some (.iand, 1, 0, 0), some (.istore_n 3, 1, 0, 0), some (.aload_n 0, 1, 0, 0), some (.getfield 19, 3, 4, 3), none, none, some (.iload_n 3, 1, 0, 0), some (.aload_n 0, 1, 0, 0), some (.getfield 19, 3, 4, 3), none, none, some (.iload_n 3, 1, 0, 0), some (.iaload, 1, 0, 0), some (.iload_n 2, 1, 0, 0), some (.ior, 1, 0, 0), some (.iastore, 1, 0, 0), some (.return_, 1, 0, 0)]
/-- 33: BundleLine$UnderWay.clear()V -/
def mc_X4_clear : List (Option Ent) := [some (.aload_n 0, 1, 0, 0), some (.iconst 0, 1, 0, 0), some (.putfield 26, 3, 4, 5), none, none, some (.return_, 1, 0, 0)]
/-- 34: BundleLine.<init>()V -/
def mc_X5_init : List (Option Ent) := [some (.aload_n 0, 1, 0, 0), some (.invokespecial 1, 3, 1000, 0), none, none, some (.aload_n 0, 1, 0, 0), some (.bipush 8, 2, 0, 0), none, some (.anewarray 9, 3, 1, 0), none, none, some (.putfield 11, 3, 5, 0), none, none, some (.aload_n 0, 1, 0, 0), some (.sipush 300, 3, 0, 0), none, none, some (.anewarray 15, 3, 2, 0), none, none, some (.putfield 17, 3, 5, 2), none, none, some (.aload_n 0, 1, 0, 0), some (.sipush 3000, 3, 0, 0), none, none, some (.anewarray 21, 3, 3, 0), none, none, some (.putfield 23, 3, 5, 7), none, none, some (.aload_n 0, 1, 0, 0), some (.iconst 4, 1, 0, 0), some (.newarray .int, 2, 4, 0), none, some (.putfield 27, 3, 5, 10), none, none, some (.aload_n 0, 1, 0, 0), some (.sipush 4000, 3, 0, 0), none, none, some (.newarray .byte, 2, 5, 0), none, some (.putfield 31, 3, 5, 11), none, none, some (.aload_n 0, 1, 0, 0), some (.sipush 250, 3, 0, 0), none, none, some (.putfield 35, 3, 5, 13), none, none, some (.aload_n 0, 1, 0, 0), some (.sipush 8000, 3, 0, 0), none, none, some (.putfield 39, 3, 5, 14), none, none, some (.aload_n 0, 1, 0, 0), some (.bipush 7, 2, 0, 0), none, some (.newarray .int, 2, 6, 0), none, some (.putfield 42, 3, 5, 17), none, none, some (.return_, 1, 0, 0)]
/-- 35: BundleLine.open(III)I -/
def mc_X5_open : List (Option Ent) := [some (.iload_n 1, 1, 0, 0), some (.ifCond .lt 8, 3, 9, 0), none, none, some (.iload_n 1, 1, 0, 0), some (.iconst 3, 1, 0, 0), some (.if_icmp .le 10, 3, 16, 0), none, none, some (.aload_n 0, 1, 0, 0), some (.bipush (-2), 2, 0, 0), none, some (.invokevirtual 45, 3, 79, 2), none, none, some (.ireturn, 1, 0, 0), some (.iload_n 1, 1, 0, 0), some (.ifCond .ne 9, 3, 26, 0), none, none, some (.sipush 250, 3, 0, 0), none, none, some (.goto 4, 3, 27, 0), none, none, some (.iconst 1, 1, 0, 0), some (.istore 4, 2, 0, 0), none, some (.iload_n 2, 1, 0, 0), some (.iload 4, 2, 0, 0), none, some (.if_icmp .lt 8, 3, 40, 0), none, none, some (.iload_n 3, 1, 0, 0), some (.iconst 1, 1, 0, 0), some (.if_icmp .ge 10, 3, 47, 0), none, none, some (.aload_n 0, 1, 0, 0), some (.bipush (-4), 2, 0, 0), none, some (.invokevirtual 45, 3, 79, 2), none, none, some (.ireturn, 1, 0, 0), some (.iload_n 2, 1, 0, 0), some (.sipush 1000, 3, 0, 0), none, none, some (.if_icmp .gt 18, 3, 69, 0), none, none, some (.iload_n 3, 1, 0, 0), some (.bipush 40, 2, 0, 0), none, some (.if_icmp .gt 12, 3, 69, 0), none, none, some (.aload_n 0, 1, 0, 0), some (.getfield 49, 3, 5, 1), none, none, some (.bipush 8, 2, 0, 0), none, some (.if_icmp .lt 10, 3, 76, 0), none, none, some (.aload_n 0, 1, 0, 0), some (.bipush (-6), 2, 0, 0), none, some (.invokevirtual 45, 3, 79, 2), none, none, some (.ireturn, 1, 0, 0), some (.aload_n 0, 1, 0, 0), some (.getfield 11, 3, 5, 0), none, none, some (.aload_n 0, 1, 0, 0), some (.getfield 49, 3, 5, 1), none, none, some (.new 9, 3, 7, 1), none, none, some (.dup, 1, 0, 0), some (.aload_n 0, 1, 0, 0), some (.getfield 49, 3, 5, 1), none, none, some (.iload_n 1, 1, 0, 0), some (.iload_n 2, 1, 0, 0), some (.iload_n 3, 1, 0, 0), some (.invokespecial 52, 3, 3, 5), none, none, some (.aastore, 1, 0, 0), some (.aload_n 0, 1, 0, 0), some (.dup, 1, 0, 0), some (.getfield 49, 3, 5, 1), none, none, some (.iconst 1, 1, 0, 0), some (.iadd, 1, 0, 0), some (.putfield 49, 3, 5, 1), none, none, some (.aload_n 0, 1, 0, 0), some (.getfield 49, 3, 5, 1), none, none, some (.iconst 1, 1, 0, 0), some (.isub, 1, 0, 0), some (.ireturn, 1, 0, 0)]
/-- 36: BundleLine.lease(III)I -/
def mc_X5_lease : List (Option Ent) := [some (.aload_n 0, 1, 0, 0), some (.iload_n 1, 1, 0, 0), some (.invokevirtual 55, 3, 81, 2), none, none, some (.astore 4, 2, 0, 0), none, some (.aload 4, 2, 0, 0), none, some (.ifnonnull 9, 3, 18, 0), none, none, some (.aload_n 0, 1, 0, 0), some (.iconst (-1), 1, 0, 0), some (.invokevirtual 45, 3, 79, 2), none, none, some (.ireturn, 1, 0, 0), some (.aload 4, 2, 0, 0), none, some (.getfield 59, 3, 1, 1), none, none, some (.iconst 3, 1, 0, 0), some (.if_icmp .eq 10, 3, 34, 0), none, none, some (.aload_n 0, 1, 0, 0), some (.bipush (-2), 2, 0, 0), none, some (.invokevirtual 45, 3, 79, 2), none, none, some (.ireturn, 1, 0, 0), some (.iload_n 2, 1, 0, 0), some (.sipush 250, 3, 0, 0), none, none, some (.if_icmp .lt 8, 3, 46, 0), none, none, some (.iload_n 3, 1, 0, 0), some (.iconst 1, 1, 0, 0), some (.if_icmp .ge 10, 3, 53, 0), none, none, some (.aload_n 0, 1, 0, 0), some (.bipush (-4), 2, 0, 0), none, some (.invokevirtual 45, 3, 79, 2), none, none, some (.ireturn, 1, 0, 0), some (.iload_n 2, 1, 0, 0), some (.sipush 20000, 3, 0, 0), none, none, some (.if_icmp .gt 9, 3, 66, 0), none, none, some (.iload_n 3, 1, 0, 0), some (.bipush 20, 2, 0, 0), none, some (.if_icmp .le 10, 3, 73, 0), none, none, some (.aload_n 0, 1, 0, 0), some (.bipush (-6), 2, 0, 0), none, some (.invokevirtual 45, 3, 79, 2), none, none, some (.ireturn, 1, 0, 0), some (.aload 4, 2, 0, 0), none, some (.iload_n 2, 1, 0, 0), some (.putfield 62, 3, 1, 9), none, none, some (.aload 4, 2, 0, 0), none, some (.iload_n 3, 1, 0, 0), some (.putfield 65, 3, 1, 10), none, none, some (.iconst 1, 1, 0, 0), some (.ireturn, 1, 0, 0)]
/-- 37: BundleLine.type(JI)I -/
def mc_X5_type : List (Option Ent) := [some (.iload_n 3, 1, 0, 0), some (.iconst 1, 1, 0, 0), some (.if_icmp .ge 10, 3, 12, 0), none, none, some (.aload_n 0, 1, 0, 0), some (.bipush (-4), 2, 0, 0), none, some (.invokevirtual 45, 3, 79, 2), none, none, some (.ireturn, 1, 0, 0), some (.iload_n 3, 1, 0, 0), some (.bipush 8, 2, 0, 0), none, some (.if_icmp .gt 15, 3, 30, 0), none, none, some (.aload_n 0, 1, 0, 0), some (.getfield 68, 3, 5, 12), none, none, some (.iload_n 3, 1, 0, 0), some (.iadd, 1, 0, 0), some (.sipush 4000, 3, 0, 0), none, none, some (.if_icmp .le 10, 3, 37, 0), none, none, some (.aload_n 0, 1, 0, 0), some (.bipush (-6), 2, 0, 0), none, some (.invokevirtual 45, 3, 79, 2), none, none, some (.ireturn, 1, 0, 0), some (.iload_n 3, 1, 0, 0), some (.iconst 1, 1, 0, 0), some (.isub, 1, 0, 0), some (.istore 4, 2, 0, 0), none, some (.iload 4, 2, 0, 0), none, some (.ifCond .lt 37, 3, 81, 0), none, none, some (.aload_n 0, 1, 0, 0), some (.getfield 31, 3, 5, 11), none, none, some (.aload_n 0, 1, 0, 0), some (.getfield 68, 3, 5, 12), none, none, some (.lload_n 1, 1, 0, 0), some (.bipush 8, 2, 0, 0), none, some (.iload 4, 2, 0, 0), none, some (.imul, 1, 0, 0), some (.lushr, 1, 0, 0), some (.l2i, 1, 0, 0), some (.i2b, 1, 0, 0), some (.bastore, 1, 0, 0), some (.aload_n 0, 1, 0, 0), some (.dup, 1, 0, 0), some (.getfield 68, 3, 5, 12), none, none, some (.iconst 1, 1, 0, 0), some (.iadd, 1, 0, 0), some (.putfield 68, 3, 5, 12), none, none, some (.iinc 4 (-1), 3, 0, 0), none, none, some (.goto (-36), 3, 42, 0), none, none, some (.aload_n 0, 1, 0, 0), some (.getfield 68, 3, 5, 12), none, none, some (.ireturn, 1, 0, 0)]
/-- 38: BundleLine.grow(I)I -/
def mc_X5_grow : List (Option Ent) := [some (.aload_n 0, 1, 0, 0), some (.getfield 68, 3, 5, 12), none, none, some (.istore_n 2, 1, 0, 0), some (.iload_n 2, 1, 0, 0), some (.ifCond .ne 10, 3, 16, 0), none, none, some (.aload_n 0, 1, 0, 0), some (.bipush (-3), 2, 0, 0), none, some (.invokevirtual 45, 3, 79, 2), none, none, some (.ireturn, 1, 0, 0), some (.iload_n 1, 1, 0, 0), some (.iload_n 2, 1, 0, 0), some (.if_icmp .ge 10, 3, 28, 0), none, none, some (.aload_n 0, 1, 0, 0), some (.bipush (-4), 2, 0, 0), none, some (.invokevirtual 45, 3, 79, 2), none, none, some (.ireturn, 1, 0, 0), some (.iload_n 1, 1, 0, 0), some (.sipush 4000, 3, 0, 0), none, none, some (.if_icmp .le 10, 3, 42, 0), none, none, some (.aload_n 0, 1, 0, 0), some (.bipush (-6), 2, 0, 0), none, some (.invokevirtual 45, 3, 79, 2), none, none, some (.ireturn, 1, 0, 0), some (.iload_n 2, 1, 0, 0), some (.istore_n 3, 1, 0, 0), some (.iload_n 3, 1, 0, 0), some (.iload_n 1, 1, 0, 0), some (.if_icmp .ge 23, 3, 69, 0), none, none, some (.aload_n 0, 1, 0, 0), some (.getfield 31, 3, 5, 11), none, none, some (.iload_n 3, 1, 0, 0), some (.aload_n 0, 1, 0, 0), some (.getfield 31, 3, 5, 11), none, none, some (.iload_n 3, 1, 0, 0), some (.iload_n 2, 1, 0, 0), some (.isub, 1, 0, 0), some (.baload, 1, 0, 0), some (.bastore, 1, 0, 0), some (.iinc 3 1, 3, 0, 0), none, none, some (.goto (-22), 3, 44, 0), none, none, some (.aload_n 0, 1, 0, 0), some (.iload_n 1, 1, 0, 0), some (.putfield 68, 3, 5, 12), none, none, some (.iload_n 2, 1, 0, 0), some (.ireturn, 1, 0, 0)]
/-- 39: BundleLine.frame()I -/
def mc_X5_frame : List (Option Ent) := [some (.aload_n 0, 1, 0, 0), some (.getfield 68, 3, 5, 12), none, none, some (.istore_n 1, 1, 0, 0), some (.iload_n 1, 1, 0, 0), some (.ifCond .ne 10, 3, 16, 0), none, none, some (.aload_n 0, 1, 0, 0), some (.bipush (-3), 2, 0, 0), none, some (.invokevirtual 45, 3, 79, 2), none, none, some (.ireturn, 1, 0, 0), some (.iload_n 1, 1, 0, 0), some (.aload_n 0, 1, 0, 0), some (.getfield 35, 3, 5, 13), none, none, some (.iadd, 1, 0, 0), some (.iconst 1, 1, 0, 0), some (.isub, 1, 0, 0), some (.aload_n 0, 1, 0, 0), some (.getfield 35, 3, 5, 13), none, none, some (.idiv, 1, 0, 0), some (.istore_n 2, 1, 0, 0), some (.aload_n 0, 1, 0, 0), some (.getfield 71, 3, 5, 3), none, none, some (.sipush 300, 3, 0, 0), none, none, some (.if_icmp .ge 15, 3, 52, 0), none, none, some (.aload_n 0, 1, 0, 0), some (.getfield 74, 3, 5, 8), none, none, some (.iload_n 2, 1, 0, 0), some (.iadd, 1, 0, 0), some (.sipush 3000, 3, 0, 0), none, none, some (.if_icmp .le 7, 3, 56, 0), none, none, some (.iconst 1, 1, 0, 0), some (.goto 4, 3, 57, 0), none, none, some (.iconst 0, 1, 0, 0), some (.istore_n 3, 1, 0, 0), some (.iload_n 3, 1, 0, 0), some (.ifCond .ne 17, 3, 76, 0), none, none, some (.aload_n 0, 1, 0, 0), some (.getfield 71, 3, 5, 3), none, none, some (.aload_n 0, 1, 0, 0), some (.getfield 77, 3, 5, 4), none, none, some (.isub, 1, 0, 0), some (.bipush 100, 2, 0, 0), none, some (.if_icmp .lt 10, 3, 83, 0), none, none, some (.aload_n 0, 1, 0, 0), some (.bipush (-6), 2, 0, 0), none, some (.invokevirtual 45, 3, 79, 2), none, none, some (.ireturn, 1, 0, 0), some (.new 15, 3, 20, 0), none, none, some (.dup, 1, 0, 0), some (.aload_n 0, 1, 0, 0), some (.getfield 31, 3, 5, 11), none, none, some (.iload_n 1, 1, 0, 0), some (.invokestatic 80, 3, 132, 2), none, none, some (.aload_n 0, 1, 0, 0), some (.getfield 74, 3, 5, 8), none, none, some (.iload_n 2, 1, 0, 0), some (.invokespecial 86, 3, 0, 4), none, none, some (.astore 4, 2, 0, 0), none, some (.aload_n 0, 1, 0, 0), some (.getfield 17, 3, 5, 2), none, none, some (.aload_n 0, 1, 0, 0), some (.getfield 71, 3, 5, 3), none, none, some (.aload 4, 2, 0, 0), none, some (.aastore, 1, 0, 0), some (.aload_n 0, 1, 0, 0), some (.aload 4, 2, 0, 0), none, some (.invokevirtual 89, 3, 40, 2), none, none, some (.aload_n 0, 1, 0, 0), some (.dup, 1, 0, 0), some (.getfield 71, 3, 5, 3), none, none, some (.iconst 1, 1, 0, 0), some (.iadd, 1, 0, 0), some (.putfield 71, 3, 5, 3), none, none, some (.aload_n 0, 1, 0, 0), some (.iconst 0, 1, 0, 0), some (.putfield 68, 3, 5, 12), none, none, some (.aload_n 0, 1, 0, 0), some (.getfield 71, 3, 5, 3), none, none, some (.iconst 1, 1, 0, 0), some (.isub, 1, 0, 0), some (.ireturn, 1, 0, 0)]
/-- 40: BundleLine.cutIntoPieces(LBundleLine$Frame;)V -/
def mc_X5_cutIntoPieces : List (Option Ent) := [some (.iconst 0, 1, 0, 0), some (.istore_n 2, 1, 0, 0), some (.iload_n 2, 1, 0, 0), some (.aload_n 1, 1, 0, 0), some (.getfield 93, 3, 0, 3), none, none, some (.if_icmp .ge 99, 3, 106, 0), none, none, some (.iload_n 2, 1, 0, 0), some (.aload_n 0, 1, 0, 0), some (.getfield 35, 3, 5, 13), none, none, some (.imul, 1, 0, 0), some (.istore_n 3, 1, 0, 0), some (.aload_n 0, 1, 0, 0), some (.getfield 35, 3, 5, 13), none, none, some (.aload_n 1, 1, 0, 0), some (.getfield 96, 3, 0, 1), none, none, some (.iload_n 3, 1, 0, 0), some (.isub, 1, 0, 0), some (.invokestatic 99, 3, 1001, 0), none, none, some (.istore 4, 2, 0, 0), none, some (.iload_n 2, 1, 0, 0), some (.aload_n 1, 1, 0, 0), some (.getfield 93, 3, 0, 3), none, none, some (.iconst 1, 1, 0, 0), some (.isub, 1, 0, 0), some (.if_icmp .ne 7, 3, 46, 0), none, none, some (.iconst 1, 1, 0, 0), some (.goto 4, 3, 47, 0), none, none, some (.iconst 0, 1, 0, 0), some (.istore 5, 2, 0, 0), none, some (.aload_n 0, 1, 0, 0), some (.getfield 23, 3, 5, 7), none, none, some (.aload_n 0, 1, 0, 0), some (.getfield 74, 3, 5, 8), none, none, some (.new 21, 3, 18, 2), none, none, some (.dup, 1, 0, 0), some (.aload_n 0, 1, 0, 0), some (.getfield 71, 3, 5, 3), none, none, some (.iload 4, 2, 0, 0), none, some (.iload 5, 2, 0, 0), none, some (.aload_n 1, 1, 0, 0), some (.iload_n 3, 1, 0, 0), some (.iload 4, 2, 0, 0), none, some (.invokevirtual 105, 3, 2, 3), none, none, some (.invokespecial 108, 3, 13, 5), none, none, some (.aastore, 1, 0, 0), some (.aload_n 0, 1, 0, 0), some (.dup, 1, 0, 0), some (.getfield 74, 3, 5, 8), none, none, some (.iconst 1, 1, 0, 0), some (.iadd, 1, 0, 0), some (.putfield 74, 3, 5, 8), none, none, some (.aload_n 0, 1, 0, 0), some (.getfield 27, 3, 5, 10), none, none, some (.iconst 0, 1, 0, 0), some (.dup2, 1, 0, 0), some (.iaload, 1, 0, 0), some (.iconst 1, 1, 0, 0), some (.iadd, 1, 0, 0), some (.iastore, 1, 0, 0), some (.iinc 2 1, 3, 0, 0), none, none, some (.goto (-101), 3, 2, 0), none, none, some (.return_, 1, 0, 0)]
/-- 41: BundleLine.cut(I)I -/
def mc_X5_cut : List (Option Ent) := [some (.iload_n 1, 1, 0, 0), some (.iconst 1, 1, 0, 0), some (.if_icmp .ge 10, 3, 12, 0), none, none, some (.aload_n 0, 1, 0, 0), some (.bipush (-4), 2, 0, 0), none, some (.invokevirtual 45, 3, 79, 2), none, none, some (.ireturn, 1, 0, 0), some (.iload_n 1, 1, 0, 0), some (.sipush 250, 3, 0, 0), none, none, some (.if_icmp .le 10, 3, 26, 0), none, none, some (.aload_n 0, 1, 0, 0), some (.bipush (-6), 2, 0, 0), none, some (.invokevirtual 45, 3, 79, 2), none, none, some (.ireturn, 1, 0, 0), some (.aload_n 0, 1, 0, 0), some (.getfield 35, 3, 5, 13), none, none, some (.istore_n 2, 1, 0, 0), some (.aload_n 0, 1, 0, 0), some (.iload_n 1, 1, 0, 0), some (.putfield 35, 3, 5, 13), none, none, some (.iload_n 2, 1, 0, 0), some (.ireturn, 1, 0, 0)]
/-- 42: BundleLine.room(I)I -/
def mc_X5_room : List (Option Ent) := [some (.iload_n 1, 1, 0, 0), some (.sipush 4000, 3, 0, 0), none, none, some (.if_icmp .ge 10, 3, 14, 0), none, none, some (.aload_n 0, 1, 0, 0), some (.bipush (-4), 2, 0, 0), none, some (.invokevirtual 45, 3, 79, 2), none, none, some (.ireturn, 1, 0, 0), some (.iload_n 1, 1, 0, 0), some (.sipush 20000, 3, 0, 0), none, none, some (.if_icmp .le 10, 3, 28, 0), none, none, some (.aload_n 0, 1, 0, 0), some (.bipush (-6), 2, 0, 0), none, some (.invokevirtual 45, 3, 79, 2), none, none, some (.ireturn, 1, 0, 0), some (.aload_n 0, 1, 0, 0), some (.getfield 39, 3, 5, 14), none, none, some (.istore_n 2, 1, 0, 0), some (.aload_n 0, 1, 0, 0), some (.iload_n 1, 1, 0, 0), some (.putfield 39, 3, 5, 14), none, none, some (.iload_n 2, 1, 0, 0), some (.ireturn, 1, 0, 0)]
/-- 43: BundleLine.tick(I)I -/
def mc_X5_tick : List (Option Ent) := [some (.iload_n 1, 1, 0, 0), some (.iconst 1, 1, 0, 0), some (.if_icmp .ge 10, 3, 12, 0), none, none, some (.aload_n 0, 1, 0, 0), some (.bipush (-4), 2, 0, 0), none, some (.invokevirtual 45, 3, 79, 2), none, none, some (.ireturn, 1, 0, 0), some (.iload_n 1, 1, 0, 0), some (.bipush 100, 2, 0, 0), none, some (.if_icmp .gt 15, 3, 30, 0), none, none, some (.aload_n 0, 1, 0, 0), some (.getfield 111, 3, 5, 16), none, none, some (.iload_n 1, 1, 0, 0), some (.iadd, 1, 0, 0), some (.sipush 20000, 3, 0, 0), none, none, some (.if_icmp .le 10, 3, 37, 0), none, none, some (.aload_n 0, 1, 0, 0), some (.bipush (-6), 2, 0, 0), none, some (.invokevirtual 45, 3, 79, 2), none, none, some (.ireturn, 1, 0, 0), some (.aload_n 0, 1, 0, 0), some (.getfield 77, 3, 5, 4), none, none, some (.istore_n 2, 1, 0, 0), some (.iconst 0, 1, 0, 0), some (.istore_n 3, 1, 0, 0), some (.iload_n 3, 1, 0, 0), some (.iload_n 1, 1, 0, 0), some (.if_icmp .ge 39, 3, 85, 0), none, none, some (.aload_n 0, 1, 0, 0), some (.dup, 1, 0, 0), some (.getfield 111, 3, 5, 16), none, none, some (.iconst 1, 1, 0, 0), some (.iadd, 1, 0, 0), some (.putfield 111, 3, 5, 16), none, none, some (.aload_n 0, 1, 0, 0), some (.invokevirtual 114, 3, 44, 1), none, none, some (.aload_n 0, 1, 0, 0), some (.invokevirtual 117, 3, 45, 1), none, none, some (.aload_n 0, 1, 0, 0), some (.invokevirtual 120, 3, 49, 1), none, none, some (.aload_n 0, 1, 0, 0), some (.invokevirtual 123, 3, 50, 1), none, none, some (.aload_n 0, 1, 0, 0), some (.invokevirtual 126, 3, 56, 1), none, none, some (.iinc 3 1, 3, 0, 0), none, none, some (.goto (-38), 3, 44, 0), none, none, some (.aload_n 0, 1, 0, 0), some (.getfield 77, 3, 5, 4), none, none, some (.iload_n 2, 1, 0, 0), some (.isub, 1, 0, 0), some (.ireturn, 1, 0, 0)]
/-- 44: BundleLine.layLostPieces()V -/
def mc_X5_layLostPieces : List (Option Ent) := [some (.aload_n 0, 1, 0, 0), some (.getfield 129, 3, 5, 5), none, none, some (.istore_n 1, 1, 0, 0), some (.iload_n 1, 1, 0, 0), some (.aload_n 0, 1, 0, 0), some (.getfield 132, 3, 5, 9), none, none, some (.if_icmp .ge 54, 3, 64, 0), none, none, some (.aload_n 0, 1, 0, 0), some (.getfield 27, 3, 5, 10), none, none, some (.iconst 2, 1, 0, 0), some (.iaload, 1, 0, 0), some (.ifCond .le 45, 3, 64, 0), none, none, some (.aload_n 0, 1, 0, 0), some (.iload_n 1, 1, 0, 0), some (.invokevirtual 135, 3, 83, 2), none, none, some (.astore_n 2, 1, 0, 0), some (.aload_n 2, 1, 0, 0), some (.ifnull 29, 3, 58, 0), none, none, some (.aload_n 2, 1, 0, 0), some (.getfield 139, 3, 2, 5), none, none, some (.iconst 2, 1, 0, 0), some (.if_icmp .ne 21, 3, 58, 0), none, none, some (.aload_n 0, 1, 0, 0), some (.aload_n 2, 1, 0, 0), some (.invokevirtual 142, 3, 46, 2), none, none, some (.astore_n 3, 1, 0, 0), some (.aload_n 3, 1, 0, 0), some (.ifnonnull 4, 3, 51, 0), none, none, some (.return_, 1, 0, 0), some (.aload_n 0, 1, 0, 0), some (.aload_n 3, 1, 0, 0), some (.iload_n 1, 1, 0, 0), some (.aload_n 2, 1, 0, 0), some (.invokevirtual 146, 3, 48, 4), none, none, some (.iinc 1 1, 3, 0, 0), none, none, some (.goto (-56), 3, 5, 0), none, none, some (.return_, 1, 0, 0)]
/-- 45: BundleLine.layNewPieces()V -/
def mc_X5_layNewPieces : List (Option Ent) := [some (.aload_n 0, 1, 0, 0), some (.getfield 132, 3, 5, 9), none, none, some (.istore_n 1, 1, 0, 0), some (.iload_n 1, 1, 0, 0), some (.aload_n 0, 1, 0, 0), some (.getfield 74, 3, 5, 8), none, none, some (.if_icmp .ge 69, 3, 79, 0), none, none, some (.aload_n 0, 1, 0, 0), some (.iload_n 1, 1, 0, 0), some (.invokevirtual 135, 3, 83, 2), none, none, some (.astore_n 2, 1, 0, 0), some (.aload_n 2, 1, 0, 0), some (.ifnull 14, 3, 34, 0), none, none, some (.aload_n 2, 1, 0, 0), some (.getfield 150, 3, 2, 1), none, none, some (.aload_n 0, 1, 0, 0), some (.invokevirtual 151, 3, 80, 1), none, none, some (.if_icmp .le 4, 3, 35, 0), none, none, some (.return_, 1, 0, 0), some (.aload_n 0, 1, 0, 0), some (.aload_n 2, 1, 0, 0), some (.invokevirtual 142, 3, 46, 2), none, none, some (.astore_n 3, 1, 0, 0), some (.aload_n 3, 1, 0, 0), some (.ifnonnull 4, 3, 46, 0), none, none, some (.return_, 1, 0, 0), some (.aload_n 0, 1, 0, 0), some (.dup, 1, 0, 0), some (.getfield 155, 3, 5, 15), none, none, some (.aload_n 2, 1, 0, 0), some (.getfield 150, 3, 2, 1), none, none, some (.iadd, 1, 0, 0), some (.putfield 155, 3, 5, 15), none, none, some (.aload_n 0, 1, 0, 0), some (.iload_n 1, 1, 0, 0), some (.iconst 1, 1, 0, 0), some (.iadd, 1, 0, 0), some (.putfield 132, 3, 5, 9), none, none, some (.aload_n 0, 1, 0, 0), some (.aload_n 3, 1, 0, 0), some (.iload_n 1, 1, 0, 0), some (.aload_n 2, 1, 0, 0), some (.invokevirtual 146, 3, 48, 4), none, none, some (.iinc 1 1, 3, 0, 0), none, none, some (.goto (-71), 3, 5, 0), none, none, some (.return_, 1, 0, 0)]
/-- 46: BundleLine.lineFor(LBundleLine$Piece;)LBundleLine$Line; -/
def mc_X5_lineFor : List (Option Ent) := [some (.aconst_null, 1, 0, 0), some (.astore_n 2, 1, 0, 0), some (.iconst 0, 1, 0, 0), some (.istore_n 3, 1, 0, 0), some (.iload_n 3, 1, 0, 0), some (.aload_n 0, 1, 0, 0), some (.getfield 49, 3, 5, 1), none, none, some (.if_icmp .ge 46, 3, 55, 0), none, none, some (.aload_n 0, 1, 0, 0), some (.iload_n 3, 1, 0, 0), some (.invokevirtual 55, 3, 81, 2), none, none, some (.astore 4, 2, 0, 0), none, some (.aload 4, 2, 0, 0), none, some (.ifnull 28, 3, 49, 0), none, none, some (.aload 4, 2, 0, 0), none, some (.invokevirtual 158, 3, 4, 1), none, none, some (.ifCond .eq 20, 3, 49, 0), none, none, some (.aload_n 2, 1, 0, 0), some (.ifnull 13, 3, 46, 0), none, none, some (.aload 4, 2, 0, 0), none, some (.aload_n 2, 1, 0, 0), some (.aload_n 1, 1, 0, 0), some (.invokestatic 162, 3, 47, 3), none, none, some (.ifCond .eq 6, 3, 49, 0), none, none, some (.aload 4, 2, 0, 0), none, some (.astore_n 2, 1, 0, 0), some (.iinc 3 1, 3, 0, 0), none, none, some (.goto (-48), 3, 4, 0), none, none, some (.aload_n 2, 1, 0, 0), some (.areturn, 1, 0, 0)]
/-- 47: BundleLine.isBetter(LBundleLine$Line;LBundleLine$Line;LBundleLine$Piece;)Z -/
def mc_X5_isBetter : List (Option Ent) := [some (.aload_n 2, 1, 0, 0), some (.aload_n 0, 1, 0, 0), some (.getfield 166, 3, 1, 0), none, none, some (.invokevirtual 169, 3, 14, 2), none, none, some (.istore_n 3, 1, 0, 0), some (.aload_n 2, 1, 0, 0), some (.aload_n 1, 1, 0, 0), some (.getfield 166, 3, 1, 0), none, none, some (.invokevirtual 169, 3, 14, 2), none, none, some (.istore 4, 2, 0, 0), none, some (.iload_n 3, 1, 0, 0), some (.iload 4, 2, 0, 0), none, some (.if_icmp .eq 15, 3, 37, 0), none, none, some (.iload_n 3, 1, 0, 0), some (.iload 4, 2, 0, 0), none, some (.if_icmp .ge 7, 3, 35, 0), none, none, some (.iconst 1, 1, 0, 0), some (.goto 4, 3, 36, 0), none, none, some (.iconst 0, 1, 0, 0), some (.ireturn, 1, 1, 0), some (.aload_n 0, 1, 0, 0), some (.aload_n 2, 1, 0, 0), some (.getfield 150, 3, 2, 1), none, none, some (.invokevirtual 172, 3, 6, 2), none, none, some (.istore 5, 2, 0, 0), none, some (.aload_n 1, 1, 0, 0), some (.aload_n 2, 1, 0, 0), some (.getfield 150, 3, 2, 1), none, none, some (.invokevirtual 172, 3, 6, 2), none, none, some (.istore 6, 2, 0, 0), none, some (.iload 5, 2, 0, 0), none, some (.iload 6, 2, 0, 0), none, some (.if_icmp .eq 16, 3, 77, 0), none, none, some (.iload 5, 2, 0, 0), none, some (.iload 6, 2, 0, 0), none, some (.if_icmp .ge 7, 3, 75, 0), none, none, some (.iconst 1, 1, 0, 0), some (.goto 4, 3, 76, 0), none, none, some (.iconst 0, 1, 0, 0), some (.ireturn, 1, 1, 0), some (.aload_n 0, 1, 0, 0), some (.getfield 175, 3, 1, 13), none, none, some (.aload_n 1, 1, 0, 0), some (.getfield 175, 3, 1, 13), none, none, some (.if_icmp .ge 7, 3, 92, 0), none, none, some (.iconst 1, 1, 0, 0), some (.goto 4, 3, 93, 0), none, none, some (.iconst 0, 1, 0, 0), some (.ireturn, 1, 1, 0)]
/-- 48: BundleLine.layOn(LBundleLine$Line;ILBundleLine$Piece;)V -/
def mc_X5_layOn : List (Option Ent) := [some (.aload_n 0, 1, 0, 0), some (.aload_n 3, 1, 0, 0), some (.iconst 1, 1, 0, 0), some (.invokevirtual 178, 3, 57, 3), none, none, some (.aload_n 3, 1, 0, 0), some (.dup, 1, 0, 0), some (.getfield 182, 3, 2, 6), none, none, some (.iconst 1, 1, 0, 0), some (.iadd, 1, 0, 0), some (.putfield 182, 3, 2, 6), none, none, some (.aload_n 3, 1, 0, 0), some (.aload_n 1, 1, 0, 0), some (.getfield 166, 3, 1, 0), none, none, some (.putfield 185, 3, 2, 7), none, none, some (.aload_n 1, 1, 0, 0), some (.getfield 188, 3, 1, 4), none, none, some (.iload_n 2, 1, 0, 0), some (.aload_n 3, 1, 0, 0), some (.getfield 150, 3, 2, 1), none, none, some (.invokevirtual 192, 3, 18, 3), none, none, some (.return_, 1, 0, 0)]
/-- 49: BundleLine.sendOnLines()V -/
def mc_X5_sendOnLines : List (Option Ent) := [some (.iconst 0, 1, 0, 0), some (.istore_n 1, 1, 0, 0), some (.iload_n 1, 1, 0, 0), some (.aload_n 0, 1, 0, 0), some (.getfield 49, 3, 5, 1), none, none, some (.if_icmp .ge 27, 3, 34, 0), none, none, some (.aload_n 0, 1, 0, 0), some (.iload_n 1, 1, 0, 0), some (.invokevirtual 55, 3, 81, 2), none, none, some (.astore_n 2, 1, 0, 0), some (.aload_n 2, 1, 0, 0), some (.ifnull 11, 3, 28, 0), none, none, some (.aload_n 2, 1, 0, 0), some (.aload_n 0, 1, 0, 0), some (.getfield 111, 3, 5, 16), none, none, some (.invokevirtual 198, 3, 8, 2), none, none, some (.iinc 1 1, 3, 0, 0), none, none, some (.goto (-29), 3, 2, 0), none, none, some (.return_, 1, 0, 0)]
/-- 50: BundleLine.takeWhatComes()V -/
def mc_X5_takeWhatComes : List (Option Ent) := [some (.iconst 0, 1, 0, 0), some (.istore_n 1, 1, 0, 0), some (.iload_n 1, 1, 0, 0), some (.aload_n 0, 1, 0, 0), some (.getfield 49, 3, 5, 1), none, none, some (.if_icmp .ge 24, 3, 31, 0), none, none, some (.aload_n 0, 1, 0, 0), some (.iload_n 1, 1, 0, 0), some (.invokevirtual 55, 3, 81, 2), none, none, some (.astore_n 2, 1, 0, 0), some (.aload_n 2, 1, 0, 0), some (.ifnull 8, 3, 25, 0), none, none, some (.aload_n 0, 1, 0, 0), some (.aload_n 2, 1, 0, 0), some (.invokevirtual 202, 3, 51, 2), none, none, some (.iinc 1 1, 3, 0, 0), none, none, some (.goto (-26), 3, 2, 0), none, none, some (.aload_n 0, 1, 0, 0), some (.invokevirtual 206, 3, 55, 1), none, none, some (.return_, 1, 0, 0)]
/-- 51: BundleLine.takeFrom(LBundleLine$Line;)V -/
def mc_X5_takeFrom : List (Option Ent) := [some (.aload_n 1, 1, 0, 0), some (.getfield 209, 3, 1, 5), none, none, some (.astore_n 2, 1, 0, 0), some (.iconst 0, 1, 0, 0), some (.istore_n 3, 1, 0, 0), some (.iload_n 3, 1, 0, 0), some (.sipush 200, 3, 0, 0), none, none, some (.if_icmp .ge 96, 3, 107, 0), none, none, some (.aload_n 2, 1, 0, 0), some (.aload_n 0, 1, 0, 0), some (.getfield 111, 3, 5, 16), none, none, some (.invokevirtual 213, 3, 29, 2), none, none, some (.ifCond .eq 85, 3, 107, 0), none, none, some (.aload_n 2, 1, 0, 0), some (.iconst 0, 1, 0, 0), some (.invokevirtual 219, 3, 24, 2), none, none, some (.istore 4, 2, 0, 0), none, some (.aload_n 2, 1, 0, 0), some (.iconst 0, 1, 0, 0), some (.invokevirtual 222, 3, 25, 2), none, none, some (.istore 5, 2, 0, 0), none, some (.aload_n 2, 1, 0, 0), some (.iconst 0, 1, 0, 0), some (.invokevirtual 225, 3, 27, 2), none, none, some (.istore 6, 2, 0, 0), none, some (.aload_n 2, 1, 0, 0), some (.invokevirtual 228, 3, 30, 1), none, none, some (.iload 6, 2, 0, 0), none, some (.iconst 1, 1, 0, 0), some (.iand, 1, 0, 0), some (.ifCond .eq 6, 3, 60, 0), none, none, some (.goto 44, 3, 101, 0), none, none, some (.iload 6, 2, 0, 0), none, some (.iconst 2, 1, 0, 0), some (.iand, 1, 0, 0), some (.ifCond .eq 16, 3, 80, 0), none, none, some (.aload_n 1, 1, 0, 0), some (.dup, 1, 0, 0), some (.getfield 231, 3, 1, 16), none, none, some (.iconst 1, 1, 0, 0), some (.iadd, 1, 0, 0), some (.putfield 231, 3, 1, 16), none, none, some (.goto 24, 3, 101, 0), none, none, some (.aload_n 0, 1, 0, 0), some (.aload_n 1, 1, 0, 0), some (.iload 5, 2, 0, 0), none, some (.invokevirtual 234, 3, 53, 3), none, none, some (.aload_n 1, 1, 0, 0), some (.iload 5, 2, 0, 0), none, some (.iconst 1, 1, 0, 0), some (.iadd, 1, 0, 0), some (.putfield 238, 3, 1, 12), none, none, some (.aload_n 0, 1, 0, 0), some (.iload 4, 2, 0, 0), none, some (.invokevirtual 241, 3, 52, 2), none, none, some (.iinc 3 1, 3, 0, 0), none, none, some (.goto (-97), 3, 7, 0), none, none, some (.return_, 1, 0, 0)]
/-- 52: BundleLine.arrive(I)V -/
def mc_X5_arrive : List (Option Ent) := [some (.aload_n 0, 1, 0, 0), some (.iload_n 1, 1, 0, 0), some (.invokevirtual 135, 3, 83, 2), none, none, some (.astore_n 2, 1, 0, 0), some (.aload_n 2, 1, 0, 0), some (.ifnull 11, 3, 18, 0), none, none, some (.aload_n 2, 1, 0, 0), some (.getfield 139, 3, 2, 5), none, none, some (.iconst 3, 1, 0, 0), some (.if_icmp .ne 4, 3, 19, 0), none, none, some (.return_, 1, 0, 0), some (.aload_n 0, 1, 0, 0), some (.aload_n 2, 1, 0, 0), some (.iconst 3, 1, 0, 0), some (.invokevirtual 178, 3, 57, 3), none, none, some (.aload_n 0, 1, 0, 0), some (.aload_n 2, 1, 0, 0), some (.getfield 244, 3, 2, 0), none, none, some (.invokevirtual 247, 3, 82, 2), none, none, some (.astore_n 3, 1, 0, 0), some (.aload_n 3, 1, 0, 0), some (.ifnull 13, 3, 48, 0), none, none, some (.aload_n 3, 1, 0, 0), some (.dup, 1, 0, 0), some (.getfield 251, 3, 0, 4), none, none, some (.iconst 1, 1, 0, 0), some (.iadd, 1, 0, 0), some (.putfield 251, 3, 0, 4), none, none, some (.return_, 1, 0, 0)]
/-- 53: BundleLine.loseUpTo(LBundleLine$Line;I)V -/
def mc_X5_loseUpTo : List (Option Ent) := [some (.aload_n 1, 1, 0, 0), some (.getfield 238, 3, 1, 12), none, none, some (.istore_n 3, 1, 0, 0), some (.iload_n 3, 1, 0, 0), some (.iload_n 2, 1, 0, 0), some (.if_icmp .ge 19, 3, 26, 0), none, none, some (.aload_n 0, 1, 0, 0), some (.aload_n 1, 1, 0, 0), some (.aload_n 1, 1, 0, 0), some (.iload_n 3, 1, 0, 0), some (.invokevirtual 254, 3, 7, 2), none, none, some (.invokevirtual 257, 3, 54, 3), none, none, some (.iinc 3 1, 3, 0, 0), none, none, some (.goto (-18), 3, 5, 0), none, none, some (.return_, 1, 0, 0)]
/-- 54: BundleLine.loseOn(LBundleLine$Line;I)V -/
def mc_X5_loseOn : List (Option Ent) := [some (.aload_n 0, 1, 0, 0), some (.iload_n 2, 1, 0, 0), some (.invokevirtual 135, 3, 83, 2), none, none, some (.astore_n 3, 1, 0, 0), some (.aload_n 3, 1, 0, 0), some (.ifnull 22, 3, 29, 0), none, none, some (.aload_n 3, 1, 0, 0), some (.getfield 139, 3, 2, 5), none, none, some (.iconst 1, 1, 0, 0), some (.if_icmp .ne 14, 3, 29, 0), none, none, some (.aload_n 3, 1, 0, 0), some (.getfield 185, 3, 2, 7), none, none, some (.aload_n 1, 1, 0, 0), some (.getfield 166, 3, 1, 0), none, none, some (.if_icmp .eq 4, 3, 30, 0), none, none, some (.return_, 1, 0, 0), some (.aload_n 0, 1, 0, 0), some (.aload_n 3, 1, 0, 0), some (.iconst 2, 1, 0, 0), some (.invokevirtual 178, 3, 57, 3), none, none, some (.aload_n 3, 1, 0, 0), some (.aload_n 1, 1, 0, 0), some (.getfield 166, 3, 1, 0), none, none, some (.invokevirtual 260, 3, 15, 2), none, none, some (.aload_n 1, 1, 0, 0), some (.dup, 1, 0, 0), some (.getfield 263, 3, 1, 14), none, none, some (.iconst 1, 1, 0, 0), some (.iadd, 1, 0, 0), some (.putfield 263, 3, 1, 14), none, none, some (.return_, 1, 0, 0)]
/-- 55: BundleLine.giveFrames()V -/
def mc_X5_giveFrames : List (Option Ent) := [some (.aload_n 0, 1, 0, 0), some (.getfield 77, 3, 5, 4), none, none, some (.istore_n 1, 1, 0, 0), some (.iload_n 1, 1, 0, 0), some (.aload_n 0, 1, 0, 0), some (.getfield 71, 3, 5, 3), none, none, some (.if_icmp .ge 85, 3, 95, 0), none, none, some (.aload_n 0, 1, 0, 0), some (.iload_n 1, 1, 0, 0), some (.invokevirtual 247, 3, 82, 2), none, none, some (.astore_n 2, 1, 0, 0), some (.aload_n 2, 1, 0, 0), some (.ifnull 14, 3, 34, 0), none, none, some (.aload_n 2, 1, 0, 0), some (.getfield 251, 3, 0, 4), none, none, some (.aload_n 2, 1, 0, 0), some (.getfield 93, 3, 0, 3), none, none, some (.if_icmp .ge 4, 3, 35, 0), none, none, some (.return_, 1, 0, 0), some (.aload_n 2, 1, 0, 0), some (.aload_n 0, 1, 0, 0), some (.getfield 111, 3, 5, 16), none, none, some (.putfield 266, 3, 0, 5), none, none, some (.aload_n 0, 1, 0, 0), some (.iload_n 1, 1, 0, 0), some (.iconst 1, 1, 0, 0), some (.iadd, 1, 0, 0), some (.putfield 77, 3, 5, 4), none, none, some (.aload_n 0, 1, 0, 0), some (.dup, 1, 0, 0), some (.getfield 129, 3, 5, 5), none, none, some (.aload_n 2, 1, 0, 0), some (.getfield 93, 3, 0, 3), none, none, some (.iadd, 1, 0, 0), some (.putfield 129, 3, 5, 5), none, none, some (.aload_n 0, 1, 0, 0), some (.dup, 1, 0, 0), some (.getfield 269, 3, 5, 6), none, none, some (.aload_n 2, 1, 0, 0), some (.getfield 96, 3, 0, 1), none, none, some (.iadd, 1, 0, 0), some (.putfield 269, 3, 5, 6), none, none, some (.aload_n 0, 1, 0, 0), some (.dup, 1, 0, 0), some (.getfield 155, 3, 5, 15), none, none, some (.aload_n 2, 1, 0, 0), some (.getfield 96, 3, 0, 1), none, none, some (.isub, 1, 0, 0), some (.putfield 155, 3, 5, 15), none, none, some (.iinc 1 1, 3, 0, 0), none, none, some (.goto (-87), 3, 5, 0), none, none, some (.return_, 1, 0, 0)]
/-- 56: BundleLine.restLines()V -/
def mc_X5_restLines : List (Option Ent) := [some (.iconst 0, 1, 0, 0), some (.istore_n 1, 1, 0, 0), some (.iload_n 1, 1, 0, 0), some (.aload_n 0, 1, 0, 0), some (.getfield 49, 3, 5, 1), none, none, some (.if_icmp .ge 46, 3, 53, 0), none, none, some (.aload_n 0, 1, 0, 0), some (.iload_n 1, 1, 0, 0), some (.invokevirtual 55, 3, 81, 2), none, none, some (.astore_n 2, 1, 0, 0), some (.aload_n 2, 1, 0, 0), some (.ifnull 30, 3, 47, 0), none, none, some (.aload_n 2, 1, 0, 0), some (.invokevirtual 272, 3, 5, 1), none, none, some (.ifCond .eq 23, 3, 47, 0), none, none, some (.aload_n 2, 1, 0, 0), some (.getfield 188, 3, 1, 4), none, none, some (.bipush (-2), 2, 0, 0), none, some (.iconst 1, 1, 0, 0), some (.invokevirtual 192, 3, 18, 3), none, none, some (.aload_n 2, 1, 0, 0), some (.dup, 1, 0, 0), some (.getfield 275, 3, 1, 15), none, none, some (.iconst 1, 1, 0, 0), some (.iadd, 1, 0, 0), some (.putfield 275, 3, 1, 15), none, none, some (.iinc 1 1, 3, 0, 0), none, none, some (.goto (-48), 3, 2, 0), none, none, some (.return_, 1, 0, 0)]
/-- 57: BundleLine.become(LBundleLine$Piece;I)V -/
def mc_X5_become : List (Option Ent) := [some (.aload_n 0, 1, 0, 0), some (.getfield 27, 3, 5, 10), none, none, some (.aload_n 1, 1, 0, 0), some (.getfield 139, 3, 2, 5), none, none, some (.dup2, 1, 0, 0), some (.iaload, 1, 0, 0), some (.iconst 1, 1, 0, 0), some (.isub, 1, 0, 0), some (.iastore, 1, 0, 0), some (.aload_n 0, 1, 0, 0), some (.getfield 27, 3, 5, 10), none, none, some (.iload_n 2, 1, 0, 0), some (.dup2, 1, 0, 0), some (.iaload, 1, 0, 0), some (.iconst 1, 1, 0, 0), some (.iadd, 1, 0, 0), some (.iastore, 1, 0, 0), some (.aload_n 1, 1, 0, 0), some (.iload_n 2, 1, 0, 0), some (.putfield 139, 3, 2, 5), none, none, some (.return_, 1, 0, 0)]
/-- 58: BundleLine.lose(I)I -/
def mc_X5_lose : List (Option Ent) := [some (.aload_n 0, 1, 0, 0), some (.iload_n 1, 1, 0, 0), some (.invokevirtual 55, 3, 81, 2), none, none, some (.astore_n 2, 1, 0, 0), some (.aload_n 2, 1, 0, 0), some (.ifnonnull 9, 3, 16, 0), none, none, some (.aload_n 0, 1, 0, 0), some (.iconst (-1), 1, 0, 0), some (.invokevirtual 45, 3, 79, 2), none, none, some (.ireturn, 1, 0, 0), some (.aload_n 2, 1, 0, 0), some (.getfield 59, 3, 1, 1), none, none, some (.iconst 2, 1, 0, 0), some (.if_icmp .eq 18, 3, 39, 0), none, none, some (.aload_n 2, 1, 0, 0), some (.getfield 59, 3, 1, 1), none, none, some (.iconst 3, 1, 0, 0), some (.if_icmp .eq 10, 3, 39, 0), none, none, some (.aload_n 0, 1, 0, 0), some (.bipush (-2), 2, 0, 0), none, some (.invokevirtual 45, 3, 79, 2), none, none, some (.ireturn, 1, 0, 0), some (.aload_n 2, 1, 0, 0), some (.getfield 209, 3, 1, 5), none, none, some (.iconst 1, 1, 0, 0), some (.invokevirtual 278, 3, 31, 2), none, none, some (.istore_n 3, 1, 0, 0), some (.iload_n 3, 1, 0, 0), some (.ifCond .ge 10, 3, 59, 0), none, none, some (.aload_n 0, 1, 0, 0), some (.bipush (-5), 2, 0, 0), none, some (.invokevirtual 45, 3, 79, 2), none, none, some (.ireturn, 1, 0, 0), some (.aload_n 2, 1, 0, 0), some (.getfield 209, 3, 1, 5), none, none, some (.iload_n 3, 1, 0, 0), some (.iconst 1, 1, 0, 0), some (.invokevirtual 281, 3, 32, 3), none, none, some (.aload_n 2, 1, 0, 0), some (.getfield 209, 3, 1, 5), none, none, some (.iload_n 3, 1, 0, 0), some (.invokevirtual 219, 3, 24, 2), none, none, some (.istore 4, 2, 0, 0), none, some (.iload 4, 2, 0, 0), none, some (.bipush (-2), 2, 0, 0), none, some (.if_icmp .ne 8, 3, 90, 0), none, none, some (.bipush (-9), 2, 0, 0), none, some (.goto 5, 3, 92, 0), none, none, some (.iload 4, 2, 0, 0), none, some (.ireturn, 1, 0, 0)]
/-- 59: BundleLine.bend(III)I -/
def mc_X5_bend : List (Option Ent) := [some (.aload_n 0, 1, 0, 0), some (.iload_n 1, 1, 0, 0), some (.invokevirtual 55, 3, 81, 2), none, none, some (.astore 4, 2, 0, 0), none, some (.aload 4, 2, 0, 0), none, some (.ifnonnull 9, 3, 18, 0), none, none, some (.aload_n 0, 1, 0, 0), some (.iconst (-1), 1, 0, 0), some (.invokevirtual 45, 3, 79, 2), none, none, some (.ireturn, 1, 0, 0), some (.iload_n 3, 1, 0, 0), some (.iconst 1, 1, 0, 0), some (.if_icmp .ge 10, 3, 30, 0), none, none, some (.aload_n 0, 1, 0, 0), some (.bipush (-4), 2, 0, 0), none, some (.invokevirtual 45, 3, 79, 2), none, none, some (.ireturn, 1, 0, 0), some (.iload_n 3, 1, 0, 0), some (.sipush 255, 3, 0, 0), none, none, some (.if_icmp .le 10, 3, 44, 0), none, none, some (.aload_n 0, 1, 0, 0), some (.bipush (-6), 2, 0, 0), none, some (.invokevirtual 45, 3, 79, 2), none, none, some (.ireturn, 1, 0, 0), some (.aload 4, 2, 0, 0), none, some (.getfield 209, 3, 1, 5), none, none, some (.iconst 3, 1, 0, 0), some (.invokevirtual 278, 3, 31, 2), none, none, some (.istore 5, 2, 0, 0), none, some (.iload 5, 2, 0, 0), none, some (.ifCond .ge 10, 3, 67, 0), none, none, some (.aload_n 0, 1, 0, 0), some (.bipush (-5), 2, 0, 0), none, some (.invokevirtual 45, 3, 79, 2), none, none, some (.ireturn, 1, 0, 0), some (.aload 4, 2, 0, 0), none, some (.getfield 209, 3, 1, 5), none, none, some (.iload 5, 2, 0, 0), none, some (.invokevirtual 219, 3, 24, 2), none, none, some (.istore 6, 2, 0, 0), none, some (.aload_n 0, 1, 0, 0), some (.iload 6, 2, 0, 0), none, some (.invokevirtual 135, 3, 83, 2), none, none, some (.astore 7, 2, 0, 0), none, some (.aload 7, 2, 0, 0), none, some (.ifnonnull 10, 3, 99, 0), none, none, some (.aload_n 0, 1, 0, 0), some (.bipush (-2), 2, 0, 0), none, some (.invokevirtual 45, 3, 79, 2), none, none, some (.ireturn, 1, 0, 0), some (.iload_n 2, 1, 0, 0), some (.ifCond .lt 12, 3, 112, 0), none, none, some (.iload_n 2, 1, 0, 0), some (.aload 7, 2, 0, 0), none, some (.getfield 150, 3, 2, 1), none, none, some (.if_icmp .lt 10, 3, 119, 0), none, none, some (.aload_n 0, 1, 0, 0), some (.bipush (-3), 2, 0, 0), none, some (.invokevirtual 45, 3, 79, 2), none, none, some (.ireturn, 1, 0, 0), some (.aload 4, 2, 0, 0), none, some (.getfield 209, 3, 1, 5), none, none, some (.iload 5, 2, 0, 0), none, some (.iconst 2, 1, 0, 0), some (.invokevirtual 281, 3, 32, 3), none, none, some (.iload 6, 2, 0, 0), none, some (.ireturn, 1, 0, 0)]
/-- 60: BundleLine.fall(I)I -/
def mc_X5_fall : List (Option Ent) := [some (.aload_n 0, 1, 0, 0), some (.iload_n 1, 1, 0, 0), some (.invokevirtual 55, 3, 81, 2), none, none, some (.astore_n 2, 1, 0, 0), some (.aload_n 2, 1, 0, 0), some (.ifnonnull 9, 3, 16, 0), none, none, some (.aload_n 0, 1, 0, 0), some (.iconst (-1), 1, 0, 0), some (.invokevirtual 45, 3, 79, 2), none, none, some (.ireturn, 1, 0, 0), some (.aload_n 2, 1, 0, 0), some (.getfield 284, 3, 1, 8), none, none, some (.ifCond .ne 10, 3, 30, 0), none, none, some (.aload_n 0, 1, 0, 0), some (.bipush (-5), 2, 0, 0), none, some (.invokevirtual 45, 3, 79, 2), none, none, some (.ireturn, 1, 0, 0), some (.aload_n 2, 1, 0, 0), some (.getfield 263, 3, 1, 14), none, none, some (.istore_n 3, 1, 0, 0), some (.iconst 0, 1, 0, 0), some (.istore 4, 2, 0, 0), none, some (.iload 4, 2, 0, 0), none, some (.aload_n 2, 1, 0, 0), some (.getfield 188, 3, 1, 4), none, none, some (.getfield 288, 3, 3, 3), none, none, some (.if_icmp .ge 23, 3, 70, 0), none, none, some (.aload_n 0, 1, 0, 0), some (.aload_n 2, 1, 0, 0), some (.aload_n 2, 1, 0, 0), some (.getfield 188, 3, 1, 4), none, none, some (.iload 4, 2, 0, 0), none, some (.invokevirtual 291, 3, 17, 2), none, none, some (.invokevirtual 257, 3, 54, 3), none, none, some (.iinc 4 1, 3, 0, 0), none, none, some (.goto (-29), 3, 38, 0), none, none, some (.aload_n 0, 1, 0, 0), some (.aload_n 2, 1, 0, 0), some (.aload_n 2, 1, 0, 0), some (.getfield 292, 3, 1, 11), none, none, some (.invokevirtual 234, 3, 53, 3), none, none, some (.aload_n 2, 1, 0, 0), some (.invokevirtual 295, 3, 12, 1), none, none, some (.aload_n 2, 1, 0, 0), some (.getfield 263, 3, 1, 14), none, none, some (.iload_n 3, 1, 0, 0), some (.isub, 1, 0, 0), some (.ireturn, 1, 0, 0)]
/-- 61: BundleLine.rise(I)I -/
def mc_X5_rise : List (Option Ent) := [some (.aload_n 0, 1, 0, 0), some (.iload_n 1, 1, 0, 0), some (.invokevirtual 55, 3, 81, 2), none, none, some (.astore_n 2, 1, 0, 0), some (.aload_n 2, 1, 0, 0), some (.ifnonnull 9, 3, 16, 0), none, none, some (.aload_n 0, 1, 0, 0), some (.iconst (-1), 1, 0, 0), some (.invokevirtual 45, 3, 79, 2), none, none, some (.ireturn, 1, 0, 0), some (.aload_n 2, 1, 0, 0), some (.getfield 284, 3, 1, 8), none, none, some (.ifCond .eq 10, 3, 30, 0), none, none, some (.aload_n 0, 1, 0, 0), some (.bipush (-5), 2, 0, 0), none, some (.invokevirtual 45, 3, 79, 2), none, none, some (.ireturn, 1, 0, 0), some (.aload_n 2, 1, 0, 0), some (.iconst 1, 1, 0, 0), some (.putfield 284, 3, 1, 8), none, none, some (.iconst 1, 1, 0, 0), some (.ireturn, 1, 0, 0)]
/-- 62: BundleLine.line(II)I -/
def mc_X5_line : List (Option Ent) := [some (.aload_n 0, 1, 0, 0), some (.iload_n 1, 1, 0, 0), some (.invokevirtual 55, 3, 81, 2), none, none, some (.astore_n 3, 1, 0, 0), some (.aload_n 3, 1, 0, 0), some (.ifnonnull 6, 3, 13, 0), none, none, some (.bipush (-9), 2, 0, 0), none, some (.ireturn, 1, 0, 0), some (.iload_n 2, 1, 0, 0), some (.tableswitch 166 0 14 #[74, 79, 84, 89, 102, 110, 118, 126, 131, 136, 141, 146, 151, 156, 161], 74, 0, 0), none, none, none, none, none, none, none, none, none, none, none, none, none, none, none, none, none, none, none, none, none, none, none, none, none, none, none, none, none, none, none, none, none, none, none, none, none, none, none, none, none, none, none, none, none, none, none, none, none, none, none, none, none, none, none, none, none, none, none, none, none, none, none, none, none, none, none, none, none, none, none, none, none, some (.aload_n 3, 1, 0, 0), some (.getfield 59, 3, 1, 1), none, none, some (.ireturn, 1, 0, 0), some (.aload_n 3, 1, 0, 0), some (.getfield 298, 3, 1, 2), none, none, some (.ireturn, 1, 0, 0), some (.aload_n 3, 1, 0, 0), some (.getfield 301, 3, 1, 3), none, none, some (.ireturn, 1, 0, 0), some (.aload_n 3, 1, 0, 0), some (.getfield 284, 3, 1, 8), none, none, some (.ifCond .eq 7, 3, 114, 0), none, none, some (.iconst 1, 1, 0, 0), some (.goto 4, 3, 115, 0), none, none, some (.iconst 0, 1, 0, 0), some (.ireturn, 1, 0, 0), some (.aload_n 3, 1, 0, 0), some (.getfield 188, 3, 1, 4), none, none, some (.getfield 288, 3, 3, 3), none, none, some (.ireturn, 1, 0, 0), some (.aload_n 3, 1, 0, 0), some (.getfield 188, 3, 1, 4), none, none, some (.getfield 304, 3, 3, 4), none, none, some (.ireturn, 1, 0, 0), some (.aload_n 3, 1, 0, 0), some (.getfield 209, 3, 1, 5), none, none, some (.getfield 307, 3, 4, 5), none, none, some (.ireturn, 1, 0, 0), some (.aload_n 3, 1, 0, 0), some (.getfield 292, 3, 1, 11), none, none, some (.ireturn, 1, 0, 0), some (.aload_n 3, 1, 0, 0), some (.getfield 238, 3, 1, 12), none, none, some (.ireturn, 1, 0, 0), some (.aload_n 3, 1, 0, 0), some (.getfield 175, 3, 1, 13), none, none, some (.ireturn, 1, 0, 0), some (.aload_n 3, 1, 0, 0), some (.getfield 263, 3, 1, 14), none, none, some (.ireturn, 1, 0, 0), some (.aload_n 3, 1, 0, 0), some (.getfield 275, 3, 1, 15), none, none, some (.ireturn, 1, 0, 0), some (.aload_n 3, 1, 0, 0), some (.getfield 231, 3, 1, 16), none, none, some (.ireturn, 1, 0, 0), some (.aload_n 3, 1, 0, 0), some (.getfield 62, 3, 1, 9), none, none, some (.ireturn, 1, 0, 0), some (.aload_n 3, 1, 0, 0), some (.getfield 65, 3, 1, 10), none, none, some (.ireturn, 1, 0, 0), some (.bipush (-9), 2, 0, 0), none, some (.ireturn, 1, 0, 0)]
/-- 63: BundleLine.piece(II)I -/
def mc_X5_piece : List (Option Ent) := [some (.aload_n 0, 1, 0, 0), some (.iload_n 1, 1, 0, 0), some (.invokevirtual 135, 3, 83, 2), none, none, some (.astore_n 3, 1, 0, 0), some (.aload_n 3, 1, 0, 0), some (.ifnonnull 6, 3, 13, 0), none, none, some (.bipush (-9), 2, 0, 0), none, some (.ireturn, 1, 0, 0), some (.iload_n 2, 1, 0, 0), some (.tableswitch 85 0 6 #[42, 47, 52, 57, 62, 67, 80], 42, 0, 0), none, none, none, none, none, none, none, none, none, none, none, none, none, none, none, none, none, none, none, none, none, none, none, none, none, none, none, none, none, none, none, none, none, none, none, none, none, none, none, none, none, some (.aload_n 3, 1, 0, 0), some (.getfield 139, 3, 2, 5), none, none, some (.ireturn, 1, 0, 0), some (.aload_n 3, 1, 0, 0), some (.getfield 244, 3, 2, 0), none, none, some (.ireturn, 1, 0, 0), some (.aload_n 3, 1, 0, 0), some (.getfield 150, 3, 2, 1), none, none, some (.ireturn, 1, 0, 0), some (.aload_n 3, 1, 0, 0), some (.getfield 182, 3, 2, 6), none, none, some (.ireturn, 1, 0, 0), some (.aload_n 3, 1, 0, 0), some (.getfield 185, 3, 2, 7), none, none, some (.ireturn, 1, 0, 0), some (.aload_n 3, 1, 0, 0), some (.getfield 308, 3, 2, 2), none, none, some (.ifCond .eq 7, 3, 92, 0), none, none, some (.iconst 1, 1, 0, 0), some (.goto 4, 3, 93, 0), none, none, some (.iconst 0, 1, 0, 0), some (.ireturn, 1, 0, 0), some (.aload_n 3, 1, 0, 0), some (.getfield 311, 3, 2, 3), none, none, some (.ireturn, 1, 0, 0), some (.bipush (-9), 2, 0, 0), none, some (.ireturn, 1, 0, 0)]
/-- 64: BundleLine.lostOn(II)I -/
def mc_X5_lostOn : List (Option Ent) := [some (.aload_n 0, 1, 0, 0), some (.iload_n 1, 1, 0, 0), some (.invokevirtual 135, 3, 83, 2), none, none, some (.astore_n 3, 1, 0, 0), some (.aload_n 3, 1, 0, 0), some (.ifnull 11, 3, 18, 0), none, none, some (.aload_n 0, 1, 0, 0), some (.iload_n 2, 1, 0, 0), some (.invokevirtual 55, 3, 81, 2), none, none, some (.ifnonnull 6, 3, 21, 0), none, none, some (.bipush (-9), 2, 0, 0), none, some (.ireturn, 1, 0, 0), some (.aload_n 3, 1, 0, 0), some (.iload_n 2, 1, 0, 0), some (.invokevirtual 169, 3, 14, 2), none, none, some (.ireturn, 1, 0, 0)]
/-- 65: BundleLine.queued(II)I -/
def mc_X5_queued : List (Option Ent) := [some (.aload_n 0, 1, 0, 0), some (.iload_n 1, 1, 0, 0), some (.invokevirtual 55, 3, 81, 2), none, none, some (.astore_n 3, 1, 0, 0), some (.aload_n 3, 1, 0, 0), some (.ifnull 18, 3, 25, 0), none, none, some (.iload_n 2, 1, 0, 0), some (.ifCond .lt 14, 3, 25, 0), none, none, some (.iload_n 2, 1, 0, 0), some (.aload_n 3, 1, 0, 0), some (.getfield 188, 3, 1, 4), none, none, some (.getfield 288, 3, 3, 3), none, none, some (.if_icmp .lt 6, 3, 28, 0), none, none, some (.bipush (-9), 2, 0, 0), none, some (.ireturn, 1, 0, 0), some (.aload_n 3, 1, 0, 0), some (.getfield 188, 3, 1, 4), none, none, some (.iload_n 2, 1, 0, 0), some (.invokevirtual 291, 3, 17, 2), none, none, some (.ireturn, 1, 0, 0)]
/-- 66: BundleLine.under(III)I -/
def mc_X5_under : List (Option Ent) := [some (.aload_n 0, 1, 0, 0), some (.iload_n 1, 1, 0, 0), some (.invokevirtual 55, 3, 81, 2), none, none, some (.astore 4, 2, 0, 0), none, some (.aload 4, 2, 0, 0), none, some (.ifnull 19, 3, 28, 0), none, none, some (.iload_n 2, 1, 0, 0), some (.ifCond .lt 15, 3, 28, 0), none, none, some (.iload_n 2, 1, 0, 0), some (.aload 4, 2, 0, 0), none, some (.getfield 209, 3, 1, 5), none, none, some (.getfield 307, 3, 4, 5), none, none, some (.if_icmp .lt 6, 3, 31, 0), none, none, some (.bipush (-9), 2, 0, 0), none, some (.ireturn, 1, 0, 0), some (.iload_n 3, 1, 0, 0), some (.tableswitch 72 0 3 #[32, 42, 52, 62], 32, 0, 0), none, none, none, none, none, none, none, none, none, none, none, none, none, none, none, none, none, none, none, none, none, none, none, none, none, none, none, none, none, none, none, some (.aload 4, 2, 0, 0), none, some (.getfield 209, 3, 1, 5), none, none, some (.iload_n 2, 1, 0, 0), some (.invokevirtual 219, 3, 24, 2), none, none, some (.ireturn, 1, 0, 0), some (.aload 4, 2, 0, 0), none, some (.getfield 209, 3, 1, 5), none, none, some (.iload_n 2, 1, 0, 0), some (.invokevirtual 222, 3, 25, 2), none, none, some (.ireturn, 1, 0, 0), some (.aload 4, 2, 0, 0), none, some (.getfield 209, 3, 1, 5), none, none, some (.iload_n 2, 1, 0, 0), some (.invokevirtual 314, 3, 26, 2), none, none, some (.ireturn, 1, 0, 0), some (.aload 4, 2, 0, 0), none, some (.getfield 209, 3, 1, 5), none, none, some (.iload_n 2, 1, 0, 0), some (.invokevirtual 225, 3, 27, 2), none, none, some (.ireturn, 1, 0, 0), some (.bipush (-9), 2, 0, 0), none, some (.ireturn, 1, 0, 0)]
/-- 67: BundleLine.waits(I)I -/
def mc_X5_waits : List (Option Ent) := [some (.iload_n 1, 1, 0, 0), some (.ifCond .lt 20, 3, 21, 0), none, none, some (.iload_n 1, 1, 0, 0), some (.aload_n 0, 1, 0, 0), some (.getfield 27, 3, 5, 10), none, none, some (.iconst 2, 1, 0, 0), some (.iaload, 1, 0, 0), some (.aload_n 0, 1, 0, 0), some (.getfield 27, 3, 5, 10), none, none, some (.iconst 0, 1, 0, 0), some (.iaload, 1, 0, 0), some (.iadd, 1, 0, 0), some (.if_icmp .lt 6, 3, 24, 0), none, none, some (.bipush (-9), 2, 0, 0), none, some (.ireturn, 1, 0, 0), some (.iload_n 1, 1, 0, 0), some (.aload_n 0, 1, 0, 0), some (.getfield 27, 3, 5, 10), none, none, some (.iconst 2, 1, 0, 0), some (.iaload, 1, 0, 0), some (.if_icmp .lt 17, 3, 48, 0), none, none, some (.aload_n 0, 1, 0, 0), some (.getfield 132, 3, 5, 9), none, none, some (.iload_n 1, 1, 0, 0), some (.iadd, 1, 0, 0), some (.aload_n 0, 1, 0, 0), some (.getfield 27, 3, 5, 10), none, none, some (.iconst 2, 1, 0, 0), some (.iaload, 1, 0, 0), some (.isub, 1, 0, 0), some (.ireturn, 1, 0, 0), some (.aload_n 0, 1, 0, 0), some (.iload_n 1, 1, 0, 0), some (.invokevirtual 317, 3, 68, 2), none, none, some (.ireturn, 1, 0, 0)]
/-- 68: BundleLine.lostPieceAt(I)I -/
def mc_X5_lostPieceAt : List (Option Ent) := [some (.iconst 0, 1, 0, 0), some (.istore_n 2, 1, 0, 0), some (.aload_n 0, 1, 0, 0), some (.getfield 129, 3, 5, 5), none, none, some (.istore_n 3, 1, 0, 0), some (.iload_n 3, 1, 0, 0), some (.aload_n 0, 1, 0, 0), some (.getfield 132, 3, 5, 9), none, none, some (.if_icmp .ge 40, 3, 52, 0), none, none, some (.aload_n 0, 1, 0, 0), some (.iload_n 3, 1, 0, 0), some (.invokevirtual 135, 3, 83, 2), none, none, some (.astore 4, 2, 0, 0), none, some (.aload 4, 2, 0, 0), none, some (.ifnull 22, 3, 46, 0), none, none, some (.aload 4, 2, 0, 0), none, some (.getfield 139, 3, 2, 5), none, none, some (.iconst 2, 1, 0, 0), some (.if_icmp .ne 13, 3, 46, 0), none, none, some (.iload_n 2, 1, 0, 0), some (.iload_n 1, 1, 0, 0), some (.if_icmp .ne 5, 3, 43, 0), none, none, some (.iload_n 3, 1, 0, 0), some (.ireturn, 1, 0, 0), some (.iinc 2 1, 3, 0, 0), none, none, some (.iinc 3 1, 3, 0, 0), none, none, some (.goto (-42), 3, 7, 0), none, none, some (.bipush (-9), 2, 0, 0), none, some (.ireturn, 1, 0, 0)]
/-- 69: BundleLine.got(II)I -/
def mc_X5_got : List (Option Ent) := [some (.aload_n 0, 1, 0, 0), some (.iload_n 1, 1, 0, 0), some (.invokevirtual 247, 3, 82, 2), none, none, some (.astore_n 3, 1, 0, 0), some (.aload_n 3, 1, 0, 0), some (.ifnonnull 9, 3, 16, 0), none, none, some (.aload_n 0, 1, 0, 0), some (.iconst (-1), 1, 0, 0), some (.invokevirtual 45, 3, 79, 2), none, none, some (.ireturn, 1, 0, 0), some (.iload_n 1, 1, 0, 0), some (.aload_n 0, 1, 0, 0), some (.getfield 77, 3, 5, 4), none, none, some (.if_icmp .ge 14, 3, 35, 0), none, none, some (.iload_n 1, 1, 0, 0), some (.aload_n 0, 1, 0, 0), some (.getfield 77, 3, 5, 4), none, none, some (.bipush 20, 2, 0, 0), none, some (.isub, 1, 0, 0), some (.if_icmp .ge 10, 3, 42, 0), none, none, some (.aload_n 0, 1, 0, 0), some (.bipush (-3), 2, 0, 0), none, some (.invokevirtual 45, 3, 79, 2), none, none, some (.ireturn, 1, 0, 0), some (.iload_n 2, 1, 0, 0), some (.iconst (-1), 1, 0, 0), some (.if_icmp .ne 8, 3, 52, 0), none, none, some (.aload_n 3, 1, 0, 0), some (.getfield 96, 3, 0, 1), none, none, some (.ireturn, 1, 0, 0), some (.iload_n 2, 1, 0, 0), some (.ifCond .lt 11, 3, 64, 0), none, none, some (.iload_n 2, 1, 0, 0), some (.aload_n 3, 1, 0, 0), some (.getfield 96, 3, 0, 1), none, none, some (.if_icmp .lt 10, 3, 71, 0), none, none, some (.aload_n 0, 1, 0, 0), some (.bipush (-3), 2, 0, 0), none, some (.invokevirtual 45, 3, 79, 2), none, none, some (.ireturn, 1, 0, 0), some (.aload_n 3, 1, 0, 0), some (.iload_n 2, 1, 0, 0), some (.invokevirtual 320, 3, 1, 2), none, none, some (.ireturn, 1, 0, 0)]
/-- 70: BundleLine.frameOf(II)I -/
def mc_X5_frameOf : List (Option Ent) := [some (.aload_n 0, 1, 0, 0), some (.iload_n 1, 1, 0, 0), some (.invokevirtual 247, 3, 82, 2), none, none, some (.astore_n 3, 1, 0, 0), some (.aload_n 3, 1, 0, 0), some (.ifnonnull 6, 3, 13, 0), none, none, some (.bipush (-9), 2, 0, 0), none, some (.ireturn, 1, 0, 0), some (.iload_n 2, 1, 0, 0), some (.tableswitch 59 0 4 #[34, 39, 44, 49, 54], 34, 0, 0), none, none, none, none, none, none, none, none, none, none, none, none, none, none, none, none, none, none, none, none, none, none, none, none, none, none, none, none, none, none, none, none, none, some (.aload_n 3, 1, 0, 0), some (.getfield 96, 3, 0, 1), none, none, some (.ireturn, 1, 0, 0), some (.aload_n 3, 1, 0, 0), some (.getfield 323, 3, 0, 2), none, none, some (.ireturn, 1, 0, 0), some (.aload_n 3, 1, 0, 0), some (.getfield 93, 3, 0, 3), none, none, some (.ireturn, 1, 0, 0), some (.aload_n 3, 1, 0, 0), some (.getfield 251, 3, 0, 4), none, none, some (.ireturn, 1, 0, 0), some (.aload_n 3, 1, 0, 0), some (.getfield 266, 3, 0, 5), none, none, some (.ireturn, 1, 0, 0), some (.bipush (-9), 2, 0, 0), none, some (.ireturn, 1, 0, 0)]
/-- 71: BundleLine.credit()I -/
def mc_X5_credit : List (Option Ent) := [some (.aload_n 0, 1, 0, 0), some (.invokevirtual 151, 3, 80, 1), none, none, some (.ireturn, 1, 0, 0)]
/-- 72: BundleLine.skew()I -/
def mc_X5_skew : List (Option Ent) := [some (.bipush (-9), 2, 0, 0), none, some (.istore_n 1, 1, 0, 0), some (.bipush (-9), 2, 0, 0), none, some (.istore_n 2, 1, 0, 0), some (.aload_n 0, 1, 0, 0), some (.getfield 129, 3, 5, 5), none, none, some (.istore_n 3, 1, 0, 0), some (.iload_n 3, 1, 0, 0), some (.aload_n 0, 1, 0, 0), some (.getfield 74, 3, 5, 8), none, none, some (.if_icmp .ge 43, 3, 59, 0), none, none, some (.aload_n 0, 1, 0, 0), some (.iload_n 3, 1, 0, 0), some (.invokevirtual 135, 3, 83, 2), none, none, some (.astore 4, 2, 0, 0), none, some (.aload 4, 2, 0, 0), none, some (.ifnull 17, 3, 45, 0), none, none, some (.aload 4, 2, 0, 0), none, some (.getfield 139, 3, 2, 5), none, none, some (.iconst 3, 1, 0, 0), some (.if_icmp .ne 8, 3, 45, 0), none, none, some (.iload_n 3, 1, 0, 0), some (.istore_n 1, 1, 0, 0), some (.goto 11, 3, 53, 0), none, none, some (.iload_n 2, 1, 0, 0), some (.bipush (-9), 2, 0, 0), none, some (.if_icmp .ne 5, 3, 53, 0), none, none, some (.iload_n 3, 1, 0, 0), some (.istore_n 2, 1, 0, 0), some (.iinc 3 1, 3, 0, 0), none, none, some (.goto (-45), 3, 11, 0), none, none, some (.iload_n 1, 1, 0, 0), some (.bipush (-9), 2, 0, 0), none, some (.if_icmp .ne 7, 3, 69, 0), none, none, some (.iconst 0, 1, 0, 0), some (.goto 6, 3, 72, 0), none, none, some (.iload_n 1, 1, 0, 0), some (.iload_n 2, 1, 0, 0), some (.isub, 1, 0, 0), some (.ireturn, 1, 0, 0)]
/-- 73: BundleLine.witness(II)I -/
def mc_X5_witness : List (Option Ent) := [some (.aload_n 0, 1, 0, 0), some (.iload_n 1, 1, 0, 0), some (.invokevirtual 247, 3, 82, 2), none, none, some (.astore_n 3, 1, 0, 0), some (.aload_n 3, 1, 0, 0), some (.ifnull 23, 3, 30, 0), none, none, some (.iload_n 1, 1, 0, 0), some (.aload_n 0, 1, 0, 0), some (.getfield 77, 3, 5, 4), none, none, some (.if_icmp .ge 15, 3, 30, 0), none, none, some (.iload_n 2, 1, 0, 0), some (.ifCond .lt 11, 3, 30, 0), none, none, some (.iload_n 2, 1, 0, 0), some (.aload_n 3, 1, 0, 0), some (.getfield 93, 3, 0, 3), none, none, some (.if_icmp .lt 6, 3, 33, 0), none, none, some (.bipush (-9), 2, 0, 0), none, some (.ireturn, 1, 0, 0), some (.aload_n 0, 1, 0, 0), some (.aload_n 3, 1, 0, 0), some (.getfield 323, 3, 0, 2), none, none, some (.iload_n 2, 1, 0, 0), some (.iadd, 1, 0, 0), some (.invokevirtual 326, 3, 75, 2), none, none, some (.ireturn, 1, 0, 0)]
/-- 74: BundleLine.check(II)Z -/
def mc_X5_check : List (Option Ent) := [some (.aload_n 0, 1, 0, 0), some (.iload_n 1, 1, 0, 0), some (.invokevirtual 247, 3, 82, 2), none, none, some (.astore_n 3, 1, 0, 0), some (.aload_n 3, 1, 0, 0), some (.ifnull 11, 3, 18, 0), none, none, some (.iload_n 1, 1, 0, 0), some (.aload_n 0, 1, 0, 0), some (.getfield 77, 3, 5, 4), none, none, some (.if_icmp .lt 5, 3, 20, 0), none, none, some (.iconst 0, 1, 0, 0), some (.ireturn, 1, 1, 0), some (.iconst 0, 1, 0, 0), some (.istore 4, 2, 0, 0), none, some (.iconst 0, 1, 0, 0), some (.istore 5, 2, 0, 0), none, some (.iload 5, 2, 0, 0), none, some (.aload_n 3, 1, 0, 0), some (.getfield 93, 3, 0, 3), none, none, some (.if_icmp .ge 28, 3, 60, 0), none, none, some (.bipush 31, 2, 0, 0), none, some (.iload 4, 2, 0, 0), none, some (.imul, 1, 0, 0), some (.aload_n 0, 1, 0, 0), some (.aload_n 3, 1, 0, 0), some (.getfield 323, 3, 0, 2), none, none, some (.iload 5, 2, 0, 0), none, some (.iadd, 1, 0, 0), some (.invokevirtual 326, 3, 75, 2), none, none, some (.iadd, 1, 0, 0), some (.istore 4, 2, 0, 0), none, some (.iinc 5 1, 3, 0, 0), none, none, some (.goto (-31), 3, 26, 0), none, none, some (.iload 4, 2, 0, 0), none, some (.iload_n 2, 1, 0, 0), some (.if_icmp .ne 7, 3, 70, 0), none, none, some (.iconst 1, 1, 0, 0), some (.goto 4, 3, 71, 0), none, none, some (.iconst 0, 1, 0, 0), some (.ireturn, 1, 1, 0)]
/-- 75: BundleLine.witnessOf(I)I -/
def mc_X5_witnessOf : List (Option Ent) := [some (.aload_n 0, 1, 0, 0), some (.iload_n 1, 1, 0, 0), some (.invokevirtual 135, 3, 83, 2), none, none, some (.astore_n 2, 1, 0, 0), some (.aload_n 2, 1, 0, 0), some (.ifnonnull 8, 3, 15, 0), none, none, some (.bipush (-9), 2, 0, 0), none, some (.goto 15, 3, 27, 0), none, none, some (.bipush 100, 2, 0, 0), none, some (.aload_n 2, 1, 0, 0), some (.getfield 182, 3, 2, 6), none, none, some (.imul, 1, 0, 0), some (.aload_n 2, 1, 0, 0), some (.getfield 185, 3, 2, 7), none, none, some (.iadd, 1, 0, 0), some (.ireturn, 1, 0, 0)]
/-- 76: BundleLine.status(I)I -/
def mc_X5_status : List (Option Ent) := [some (.iload_n 1, 1, 0, 0), some (.tableswitch 138 0 12 #[67, 72, 77, 82, 87, 92, 99, 106, 113, 118, 123, 128, 133], 67, 0, 0), none, none, none, none, none, none, none, none, none, none, none, none, none, none, none, none, none, none, none, none, none, none, none, none, none, none, none, none, none, none, none, none, none, none, none, none, none, none, none, none, none, none, none, none, none, none, none, none, none, none, none, none, none, none, none, none, none, none, none, none, none, none, none, none, none, none, some (.aload_n 0, 1, 0, 0), some (.getfield 111, 3, 5, 16), none, none, some (.ireturn, 1, 0, 0), some (.aload_n 0, 1, 0, 0), some (.getfield 49, 3, 5, 1), none, none, some (.ireturn, 1, 0, 0), some (.aload_n 0, 1, 0, 0), some (.getfield 71, 3, 5, 3), none, none, some (.ireturn, 1, 0, 0), some (.aload_n 0, 1, 0, 0), some (.getfield 77, 3, 5, 4), none, none, some (.ireturn, 1, 0, 0), some (.aload_n 0, 1, 0, 0), some (.getfield 74, 3, 5, 8), none, none, some (.ireturn, 1, 0, 0), some (.aload_n 0, 1, 0, 0), some (.getfield 27, 3, 5, 10), none, none, some (.iconst 3, 1, 0, 0), some (.iaload, 1, 0, 0), some (.ireturn, 1, 0, 0), some (.aload_n 0, 1, 0, 0), some (.getfield 27, 3, 5, 10), none, none, some (.iconst 2, 1, 0, 0), some (.iaload, 1, 0, 0), some (.ireturn, 1, 0, 0), some (.aload_n 0, 1, 0, 0), some (.getfield 27, 3, 5, 10), none, none, some (.iconst 0, 1, 0, 0), some (.iaload, 1, 0, 0), some (.ireturn, 1, 0, 0), some (.aload_n 0, 1, 0, 0), some (.getfield 68, 3, 5, 12), none, none, some (.ireturn, 1, 0, 0), some (.aload_n 0, 1, 0, 0), some (.getfield 269, 3, 5, 6), none, none, some (.ireturn, 1, 0, 0), some (.aload_n 0, 1, 0, 0), some (.getfield 35, 3, 5, 13), none, none, some (.ireturn, 1, 0, 0), some (.aload_n 0, 1, 0, 0), some (.getfield 39, 3, 5, 14), none, none, some (.ireturn, 1, 0, 0), some (.aload_n 0, 1, 0, 0), some (.invokevirtual 329, 3, 77, 1), none, none, some (.ireturn, 1, 0, 0), some (.aload_n 0, 1, 0, 0), some (.bipush 20, 2, 0, 0), none, some (.iload_n 1, 1, 0, 0), some (.isub, 1, 0, 0), some (.invokevirtual 332, 3, 78, 2), none, none, some (.ireturn, 1, 0, 0)]
/-- 77: BundleLine.allEmptiesLaid()I -/
def mc_X5_allEmptiesLaid : List (Option Ent) := [some (.iconst 0, 1, 0, 0), some (.istore_n 1, 1, 0, 0), some (.iconst 0, 1, 0, 0), some (.istore_n 2, 1, 0, 0), some (.iload_n 2, 1, 0, 0), some (.aload_n 0, 1, 0, 0), some (.getfield 49, 3, 5, 1), none, none, some (.if_icmp .ge 26, 3, 35, 0), none, none, some (.aload_n 0, 1, 0, 0), some (.iload_n 2, 1, 0, 0), some (.invokevirtual 55, 3, 81, 2), none, none, some (.astore_n 3, 1, 0, 0), some (.aload_n 3, 1, 0, 0), some (.ifnull 10, 3, 29, 0), none, none, some (.iload_n 1, 1, 0, 0), some (.aload_n 3, 1, 0, 0), some (.getfield 275, 3, 1, 15), none, none, some (.iadd, 1, 0, 0), some (.istore_n 1, 1, 0, 0), some (.iinc 2 1, 3, 0, 0), none, none, some (.goto (-28), 3, 4, 0), none, none, some (.iload_n 1, 1, 0, 0), some (.ireturn, 1, 0, 0)]
/-- 78: BundleLine.refusalsOf(I)I -/
def mc_X5_refusalsOf : List (Option Ent) := [some (.iload_n 1, 1, 0, 0), some (.iconst (-1), 1, 0, 0), some (.if_icmp .gt 9, 3, 11, 0), none, none, some (.iload_n 1, 1, 0, 0), some (.bipush (-6), 2, 0, 0), none, some (.if_icmp .ge 6, 3, 14, 0), none, none, some (.bipush (-9), 2, 0, 0), none, some (.ireturn, 1, 0, 0), some (.aload_n 0, 1, 0, 0), some (.getfield 42, 3, 5, 17), none, none, some (.iload_n 1, 1, 0, 0), some (.ineg, 1, 0, 0), some (.iaload, 1, 0, 0), some (.ireturn, 1, 0, 0)]
/-- 79: BundleLine.refuse(I)I -/
def mc_X5_refuse : List (Option Ent) := [some (.iload_n 1, 1, 0, 0), some (.iconst (-1), 1, 0, 0), some (.if_icmp .gt 20, 3, 22, 0), none, none, some (.iload_n 1, 1, 0, 0), some (.bipush (-6), 2, 0, 0), none, some (.if_icmp .lt 14, 3, 22, 0), none, none, some (.aload_n 0, 1, 0, 0), some (.getfield 42, 3, 5, 17), none, none, some (.iload_n 1, 1, 0, 0), some (.ineg, 1, 0, 0), some (.dup2, 1, 0, 0), some (.iaload, 1, 0, 0), some (.iconst 1, 1, 0, 0), some (.iadd, 1, 0, 0), some (.iastore, 1, 0, 0), some (.iload_n 1, 1, 0, 0), some (.ireturn, 1, 0, 0)]
/-- 80: BundleLine.creditLeft()I -/
def mc_X5_creditLeft : List (Option Ent) := [some (.aload_n 0, 1, 0, 0), some (.getfield 39, 3, 5, 14), none, none, some (.aload_n 0, 1, 0, 0), some (.getfield 155, 3, 5, 15), none, none, some (.isub, 1, 0, 0), some (.ireturn, 1, 0, 0)]
/-- 81: BundleLine.lineAt(I)LBundleLine$Line; -/
def mc_X5_lineAt : List (Option Ent) := [some (.iload_n 1, 1, 0, 0), some (.ifCond .lt 11, 3, 12, 0), none, none, some (.iload_n 1, 1, 0, 0), some (.aload_n 0, 1, 0, 0), some (.getfield 49, 3, 5, 1), none, none, some (.if_icmp .lt 7, 3, 16, 0), none, none, some (.aconst_null, 1, 0, 0), some (.goto 9, 3, 22, 0), none, none, some (.aload_n 0, 1, 0, 0), some (.getfield 11, 3, 5, 0), none, none, some (.iload_n 1, 1, 0, 0), some (.aaload, 1, 0, 0), some (.areturn, 1, 0, 0)]
/-- 82: BundleLine.frameAt(I)LBundleLine$Frame; -/
def mc_X5_frameAt : List (Option Ent) := [some (.iload_n 1, 1, 0, 0), some (.ifCond .lt 11, 3, 12, 0), none, none, some (.iload_n 1, 1, 0, 0), some (.aload_n 0, 1, 0, 0), some (.getfield 71, 3, 5, 3), none, none, some (.if_icmp .lt 7, 3, 16, 0), none, none, some (.aconst_null, 1, 0, 0), some (.goto 9, 3, 22, 0), none, none, some (.aload_n 0, 1, 0, 0), some (.getfield 17, 3, 5, 2), none, none, some (.iload_n 1, 1, 0, 0), some (.aaload, 1, 0, 0), some (.areturn, 1, 0, 0)]
/-- 83: BundleLine.pieceAt(I)LBundleLine$Piece; -/
def mc_X5_pieceAt : List (Option Ent) := [some (.iload_n 1, 1, 0, 0), some (.ifCond .lt 11, 3, 12, 0), none, none, some (.iload_n 1, 1, 0, 0), some (.aload_n 0, 1, 0, 0), some (.getfield 74, 3, 5, 8), none, none, some (.if_icmp .lt 7, 3, 16, 0), none, none, some (.aconst_null, 1, 0, 0), some (.goto 9, 3, 22, 0), none, none, some (.aload_n 0, 1, 0, 0), some (.getfield 23, 3, 5, 7), none, none, some (.iload_n 1, 1, 0, 0), some (.aaload, 1, 0, 0), some (.areturn, 1, 0, 0)]
/-- 84: BundleLineModel.<init>()V -/
def mc_X6_init : List (Option Ent) := [some (.aload_n 0, 1, 0, 0), some (.invokespecial 1, 3, 1000, 0), none, none, some (.aload_n 0, 1, 0, 0), some (.bipush 8, 2, 0, 0), none, some (.newarray .int, 2, 23, 0), none, some (.putfield 7, 3, 6, 1), none, none, some (.aload_n 0, 1, 0, 0), some (.bipush 8, 2, 0, 0), none, some (.newarray .int, 2, 24, 0), none, some (.putfield 13, 3, 6, 2), none, none, some (.aload_n 0, 1, 0, 0), some (.bipush 8, 2, 0, 0), none, some (.newarray .int, 2, 25, 0), none, some (.putfield 16, 3, 6, 3), none, none, some (.aload_n 0, 1, 0, 0), some (.bipush 8, 2, 0, 0), none, some (.newarray .boolean, 2, 26, 0), none, some (.putfield 19, 3, 6, 4), none, none, some (.aload_n 0, 1, 0, 0), some (.bipush 8, 2, 0, 0), none, some (.newarray .int, 2, 27, 0), none, some (.putfield 23, 3, 6, 5), none, none, some (.aload_n 0, 1, 0, 0), some (.bipush 8, 2, 0, 0), none, some (.newarray .int, 2, 28, 0), none, some (.putfield 26, 3, 6, 6), none, none, some (.aload_n 0, 1, 0, 0), some (.sipush 328, 3, 0, 0), none, none, some (.newarray .int, 2, 29, 0), none, some (.putfield 29, 3, 6, 7), none, none, some (.aload_n 0, 1, 0, 0), some (.bipush 8, 2, 0, 0), none, some (.newarray .int, 2, 30, 0), none, some (.putfield 32, 3, 6, 8), none, none, some (.aload_n 0, 1, 0, 0), some (.bipush 8, 2, 0, 0), none, some (.newarray .int, 2, 31, 0), none, some (.putfield 35, 3, 6, 9), none, none, some (.aload_n 0, 1, 0, 0), some (.sipush 1600, 3, 0, 0), none, none, some (.newarray .int, 2, 32, 0), none, some (.putfield 38, 3, 6, 10), none, none, some (.aload_n 0, 1, 0, 0), some (.sipush 1600, 3, 0, 0), none, none, some (.newarray .int, 2, 33, 0), none, some (.putfield 41, 3, 6, 11), none, none, some (.aload_n 0, 1, 0, 0), some (.sipush 1600, 3, 0, 0), none, none, some (.newarray .int, 2, 34, 0), none, some (.putfield 44, 3, 6, 12), none, none, some (.aload_n 0, 1, 0, 0), some (.sipush 1600, 3, 0, 0), none, none, some (.newarray .int, 2, 35, 0), none, some (.putfield 47, 3, 6, 13), none, none, some (.aload_n 0, 1, 0, 0), some (.bipush 8, 2, 0, 0), none, some (.newarray .int, 2, 36, 0), none, some (.putfield 50, 3, 6, 14), none, none, some (.aload_n 0, 1, 0, 0), some (.bipush 8, 2, 0, 0), none, some (.newarray .int, 2, 37, 0), none, some (.putfield 53, 3, 6, 15), none, none, some (.aload_n 0, 1, 0, 0), some (.bipush 8, 2, 0, 0), none, some (.newarray .int, 2, 38, 0), none, some (.putfield 56, 3, 6, 16), none, none, some (.aload_n 0, 1, 0, 0), some (.bipush 8, 2, 0, 0), none, some (.newarray .int, 2, 39, 0), none, some (.putfield 59, 3, 6, 17), none, none, some (.aload_n 0, 1, 0, 0), some (.bipush 8, 2, 0, 0), none, some (.newarray .int, 2, 40, 0), none, some (.putfield 62, 3, 6, 18), none, none, some (.aload_n 0, 1, 0, 0), some (.bipush 8, 2, 0, 0), none, some (.newarray .int, 2, 41, 0), none, some (.putfield 65, 3, 6, 19), none, none, some (.aload_n 0, 1, 0, 0), some (.bipush 8, 2, 0, 0), none, some (.newarray .int, 2, 42, 0), none, some (.putfield 68, 3, 6, 20), none, none, some (.aload_n 0, 1, 0, 0), some (.bipush 8, 2, 0, 0), none, some (.newarray .int, 2, 43, 0), none, some (.putfield 71, 3, 6, 21), none, none, some (.aload_n 0, 1, 0, 0), some (.sipush 160, 3, 0, 0), none, none, some (.newarray .int, 2, 44, 0), none, some (.putfield 74, 3, 6, 22), none, none, some (.aload_n 0, 1, 0, 0), some (.sipush 3000, 3, 0, 0), none, none, some (.newarray .int, 2, 45, 0), none, some (.putfield 77, 3, 6, 24), none, none, some (.aload_n 0, 1, 0, 0), some (.sipush 3000, 3, 0, 0), none, none, some (.newarray .int, 2, 46, 0), none, some (.putfield 80, 3, 6, 25), none, none, some (.aload_n 0, 1, 0, 0), some (.sipush 3000, 3, 0, 0), none, none, some (.newarray .int, 2, 47, 0), none, some (.putfield 83, 3, 6, 26), none, none, some (.aload_n 0, 1, 0, 0), some (.sipush 3000, 3, 0, 0), none, none, some (.newarray .int, 2, 48, 0), none, some (.putfield 86, 3, 6, 27), none, none, some (.aload_n 0, 1, 0, 0), some (.sipush 3000, 3, 0, 0), none, none, some (.newarray .int, 2, 49, 0), none, some (.putfield 89, 3, 6, 28), none, none, some (.aload_n 0, 1, 0, 0), some (.sipush 3000, 3, 0, 0), none, none, some (.newarray .int, 2, 50, 0), none, some (.putfield 92, 3, 6, 29), none, none, some (.aload_n 0, 1, 0, 0), some (.sipush 3000, 3, 0, 0), none, none, some (.newarray .int, 2, 51, 0), none, some (.putfield 95, 3, 6, 30), none, none, some (.aload_n 0, 1, 0, 0), some (.sipush 24000, 3, 0, 0), none, none, some (.newarray .int, 2, 52, 0), none, some (.putfield 98, 3, 6, 31), none, none, some (.aload_n 0, 1, 0, 0), some (.sipush 300, 3, 0, 0), none, none, some (.newarray .int, 2, 53, 0), none, some (.putfield 101, 3, 6, 34), none, none, some (.aload_n 0, 1, 0, 0), some (.sipush 300, 3, 0, 0), none, none, some (.newarray .int, 2, 54, 0), none, some (.putfield 104, 3, 6, 35), none, none, some (.aload_n 0, 1, 0, 0), some (.sipush 300, 3, 0, 0), none, none, some (.newarray .int, 2, 55, 0), none, some (.putfield 107, 3, 6, 36), none, none, some (.aload_n 0, 1, 0, 0), some (.sipush 300, 3, 0, 0), none, none, some (.newarray .int, 2, 56, 0), none, some (.putfield 110, 3, 6, 37), none, none, some (.aload_n 0, 1, 0, 0), some (.sipush 300, 3, 0, 0), none, none, some (.newarray .int, 2, 57, 0), none, some (.putfield 113, 3, 6, 38), none, none, some (.aload_n 0, 1, 0, 0), some (.ldc 116, 2, 1200000, 0), none, some (.newarray .byte, 2, 58, 0), none, some (.putfield 117, 3, 6, 39), none, none, some (.aload_n 0, 1, 0, 0), some (.sipush 4000, 3, 0, 0), none, none, some (.newarray .byte, 2, 59, 0), none, some (.putfield 121, 3, 6, 41), none, none, some (.aload_n 0, 1, 0, 0), some (.sipush 250, 3, 0, 0), none, none, some (.putfield 124, 3, 6, 43), none, none, some (.aload_n 0, 1, 0, 0), some (.sipush 8000, 3, 0, 0), none, none, some (.putfield 128, 3, 6, 44), none, none, some (.aload_n 0, 1, 0, 0), some (.bipush 7, 2, 0, 0), none, some (.newarray .int, 2, 60, 0), none, some (.putfield 131, 3, 6, 46), none, none, some (.return_, 1, 0, 0)]
/-- 85: BundleLineModel.in(III)Z -/
def mc_X6_in : List (Option Ent) := [some (.iload_n 0, 1, 0, 0), some (.iload_n 1, 1, 0, 0), some (.if_icmp .lt 12, 3, 14, 0), none, none, some (.iload_n 0, 1, 0, 0), some (.iload_n 2, 1, 0, 0), some (.if_icmp .gt 7, 3, 14, 0), none, none, some (.iconst 1, 1, 0, 0), some (.goto 4, 3, 15, 0), none, none, some (.iconst 0, 1, 0, 0), some (.ireturn, 1, 1, 0)]
/-- 86: BundleLineModel.refuse(I)I -/
def mc_X6_refuse : List (Option Ent) := [some (.aload_n 0, 1, 0, 0), some (.getfield 131, 3, 6, 46), none, none, some (.iload_n 1, 1, 0, 0), some (.ineg, 1, 0, 0), some (.dup2, 1, 0, 0), some (.iaload, 1, 0, 0), some (.iconst 1, 1, 0, 0), some (.iadd, 1, 0, 0), some (.iastore, 1, 0, 0), some (.iload_n 1, 1, 0, 0), some (.ireturn, 1, 0, 0)]
/-- 87: BundleLineModel.isLine(I)Z -/
def mc_X6_isLine : List (Option Ent) := [some (.iload_n 1, 1, 0, 0), some (.iconst 0, 1, 0, 0), some (.aload_n 0, 1, 0, 0), some (.getfield 134, 3, 6, 0), none, none, some (.iconst 1, 1, 0, 0), some (.isub, 1, 0, 0), some (.invokestatic 137, 3, 85, 3), none, none, some (.ireturn, 1, 1, 0)]
/-- 88: BundleLineModel.open(III)I -/
def mc_X6_open : List (Option Ent) := [some (.iload_n 1, 1, 0, 0), some (.iconst 0, 1, 0, 0), some (.iconst 3, 1, 0, 0), some (.invokestatic 137, 3, 85, 3), none, none, some (.ifCond .ne 10, 3, 16, 0), none, none, some (.aload_n 0, 1, 0, 0), some (.bipush (-2), 2, 0, 0), none, some (.invokevirtual 141, 3, 86, 2), none, none, some (.ireturn, 1, 0, 0), some (.iload_n 2, 1, 0, 0), some (.iload_n 1, 1, 0, 0), some (.ifCond .ne 9, 3, 27, 0), none, none, some (.sipush 250, 3, 0, 0), none, none, some (.goto 4, 3, 28, 0), none, none, some (.iconst 1, 1, 0, 0), some (.if_icmp .lt 8, 3, 36, 0), none, none, some (.iload_n 3, 1, 0, 0), some (.iconst 1, 1, 0, 0), some (.if_icmp .ge 10, 3, 43, 0), none, none, some (.aload_n 0, 1, 0, 0), some (.bipush (-4), 2, 0, 0), none, some (.invokevirtual 141, 3, 86, 2), none, none, some (.ireturn, 1, 0, 0), some (.iload_n 2, 1, 0, 0), some (.sipush 1000, 3, 0, 0), none, none, some (.if_icmp .gt 18, 3, 65, 0), none, none, some (.iload_n 3, 1, 0, 0), some (.bipush 40, 2, 0, 0), none, some (.if_icmp .gt 12, 3, 65, 0), none, none, some (.aload_n 0, 1, 0, 0), some (.getfield 134, 3, 6, 0), none, none, some (.bipush 8, 2, 0, 0), none, some (.if_icmp .ne 10, 3, 72, 0), none, none, some (.aload_n 0, 1, 0, 0), some (.bipush (-6), 2, 0, 0), none, some (.invokevirtual 141, 3, 86, 2), none, none, some (.ireturn, 1, 0, 0), some (.aload_n 0, 1, 0, 0), some (.getfield 134, 3, 6, 0), none, none, some (.istore 4, 2, 0, 0), none, some (.aload_n 0, 1, 0, 0), some (.dup, 1, 0, 0), some (.getfield 134, 3, 6, 0), none, none, some (.iconst 1, 1, 0, 0), some (.iadd, 1, 0, 0), some (.putfield 134, 3, 6, 0), none, none, some (.aload_n 0, 1, 0, 0), some (.getfield 7, 3, 6, 1), none, none, some (.iload 4, 2, 0, 0), none, some (.iload_n 1, 1, 0, 0), some (.iastore, 1, 0, 0), some (.aload_n 0, 1, 0, 0), some (.getfield 13, 3, 6, 2), none, none, some (.iload 4, 2, 0, 0), none, some (.iload_n 2, 1, 0, 0), some (.iastore, 1, 0, 0), some (.aload_n 0, 1, 0, 0), some (.getfield 16, 3, 6, 3), none, none, some (.iload 4, 2, 0, 0), none, some (.iload_n 3, 1, 0, 0), some (.iastore, 1, 0, 0), some (.aload_n 0, 1, 0, 0), some (.getfield 19, 3, 6, 4), none, none, some (.iload 4, 2, 0, 0), none, some (.iconst 1, 1, 0, 0), some (.bastore, 1, 1, 0), some (.aload_n 0, 1, 0, 0), some (.getfield 23, 3, 6, 5), none, none, some (.iload 4, 2, 0, 0), none, some (.iload_n 1, 1, 0, 0), some (.iconst 3, 1, 0, 0), some (.if_icmp .ne 9, 3, 137, 0), none, none, some (.sipush 1000, 3, 0, 0), none, none, some (.goto 4, 3, 138, 0), none, none, some (.iconst 0, 1, 0, 0), some (.iastore, 1, 0, 0), some (.aload_n 0, 1, 0, 0), some (.getfield 26, 3, 6, 6), none, none, some (.iload 4, 2, 0, 0), none, some (.iload_n 1, 1, 0, 0), some (.iconst 3, 1, 0, 0), some (.if_icmp .ne 7, 3, 154, 0), none, none, some (.iconst 4, 1, 0, 0), some (.goto 4, 3, 155, 0), none, none, some (.iconst 0, 1, 0, 0), some (.iastore, 1, 0, 0), some (.iload 4, 2, 0, 0), none, some (.ireturn, 1, 0, 0)]
/-- 89: BundleLineModel.lease(III)I -/
def mc_X6_lease : List (Option Ent) := [some (.aload_n 0, 1, 0, 0), some (.iload_n 1, 1, 0, 0), some (.invokevirtual 145, 3, 87, 2), none, none, some (.ifCond .ne 9, 3, 14, 0), none, none, some (.aload_n 0, 1, 0, 0), some (.iconst (-1), 1, 0, 0), some (.invokevirtual 141, 3, 86, 2), none, none, some (.ireturn, 1, 0, 0), some (.aload_n 0, 1, 0, 0), some (.getfield 7, 3, 6, 1), none, none, some (.iload_n 1, 1, 0, 0), some (.iaload, 1, 0, 0), some (.iconst 3, 1, 0, 0), some (.if_icmp .eq 10, 3, 31, 0), none, none, some (.aload_n 0, 1, 0, 0), some (.bipush (-2), 2, 0, 0), none, some (.invokevirtual 141, 3, 86, 2), none, none, some (.ireturn, 1, 0, 0), some (.iload_n 2, 1, 0, 0), some (.sipush 250, 3, 0, 0), none, none, some (.if_icmp .lt 8, 3, 43, 0), none, none, some (.iload_n 3, 1, 0, 0), some (.iconst 1, 1, 0, 0), some (.if_icmp .ge 10, 3, 50, 0), none, none, some (.aload_n 0, 1, 0, 0), some (.bipush (-4), 2, 0, 0), none, some (.invokevirtual 141, 3, 86, 2), none, none, some (.ireturn, 1, 0, 0), some (.iload_n 2, 1, 0, 0), some (.sipush 20000, 3, 0, 0), none, none, some (.if_icmp .gt 9, 3, 63, 0), none, none, some (.iload_n 3, 1, 0, 0), some (.bipush 20, 2, 0, 0), none, some (.if_icmp .le 10, 3, 70, 0), none, none, some (.aload_n 0, 1, 0, 0), some (.bipush (-6), 2, 0, 0), none, some (.invokevirtual 141, 3, 86, 2), none, none, some (.ireturn, 1, 0, 0), some (.aload_n 0, 1, 0, 0), some (.getfield 23, 3, 6, 5), none, none, some (.iload_n 1, 1, 0, 0), some (.iload_n 2, 1, 0, 0), some (.iastore, 1, 0, 0), some (.aload_n 0, 1, 0, 0), some (.getfield 26, 3, 6, 6), none, none, some (.iload_n 1, 1, 0, 0), some (.iload_n 3, 1, 0, 0), some (.iastore, 1, 0, 0), some (.iconst 1, 1, 0, 0), some (.ireturn, 1, 0, 0)]
/-- 90: BundleLineModel.type(JI)I -/
def mc_X6_type : List (Option Ent) := [some (.iload_n 3, 1, 0, 0), some (.iconst 1, 1, 0, 0), some (.if_icmp .ge 10, 3, 12, 0), none, none, some (.aload_n 0, 1, 0, 0), some (.bipush (-4), 2, 0, 0), none, some (.invokevirtual 141, 3, 86, 2), none, none, some (.ireturn, 1, 0, 0), some (.iload_n 3, 1, 0, 0), some (.bipush 8, 2, 0, 0), none, some (.if_icmp .gt 15, 3, 30, 0), none, none, some (.aload_n 0, 1, 0, 0), some (.getfield 149, 3, 6, 42), none, none, some (.iload_n 3, 1, 0, 0), some (.iadd, 1, 0, 0), some (.sipush 4000, 3, 0, 0), none, none, some (.if_icmp .le 10, 3, 37, 0), none, none, some (.aload_n 0, 1, 0, 0), some (.bipush (-6), 2, 0, 0), none, some (.invokevirtual 141, 3, 86, 2), none, none, some (.ireturn, 1, 0, 0), some (.iload_n 3, 1, 0, 0), some (.iconst 1, 1, 0, 0), some (.isub, 1, 0, 0), some (.istore 4, 2, 0, 0), none, some (.iload 4, 2, 0, 0), none, some (.ifCond .lt 37, 3, 81, 0), none, none, some (.aload_n 0, 1, 0, 0), some (.getfield 121, 3, 6, 41), none, none, some (.aload_n 0, 1, 0, 0), some (.getfield 149, 3, 6, 42), none, none, some (.lload_n 1, 1, 0, 0), some (.bipush 8, 2, 0, 0), none, some (.iload 4, 2, 0, 0), none, some (.imul, 1, 0, 0), some (.lshr, 1, 0, 0), some (.l2i, 1, 0, 0), some (.i2b, 1, 0, 0), some (.bastore, 1, 0, 0), some (.aload_n 0, 1, 0, 0), some (.dup, 1, 0, 0), some (.getfield 149, 3, 6, 42), none, none, some (.iconst 1, 1, 0, 0), some (.iadd, 1, 0, 0), some (.putfield 149, 3, 6, 42), none, none, some (.iinc 4 (-1), 3, 0, 0), none, none, some (.goto (-36), 3, 42, 0), none, none, some (.aload_n 0, 1, 0, 0), some (.getfield 149, 3, 6, 42), none, none, some (.ireturn, 1, 0, 0)]
/-- 91: BundleLineModel.grow(I)I -/
def mc_X6_grow : List (Option Ent) := [some (.aload_n 0, 1, 0, 0), some (.getfield 149, 3, 6, 42), none, none, some (.ifCond .ne 10, 3, 14, 0), none, none, some (.aload_n 0, 1, 0, 0), some (.bipush (-3), 2, 0, 0), none, some (.invokevirtual 141, 3, 86, 2), none, none, some (.ireturn, 1, 0, 0), some (.iload_n 1, 1, 0, 0), some (.aload_n 0, 1, 0, 0), some (.getfield 149, 3, 6, 42), none, none, some (.if_icmp .ge 10, 3, 29, 0), none, none, some (.aload_n 0, 1, 0, 0), some (.bipush (-4), 2, 0, 0), none, some (.invokevirtual 141, 3, 86, 2), none, none, some (.ireturn, 1, 0, 0), some (.iload_n 1, 1, 0, 0), some (.sipush 4000, 3, 0, 0), none, none, some (.if_icmp .le 10, 3, 43, 0), none, none, some (.aload_n 0, 1, 0, 0), some (.bipush (-6), 2, 0, 0), none, some (.invokevirtual 141, 3, 86, 2), none, none, some (.ireturn, 1, 0, 0), some (.aload_n 0, 1, 0, 0), some (.getfield 149, 3, 6, 42), none, none, some (.istore_n 2, 1, 0, 0), some (.aload_n 0, 1, 0, 0), some (.getfield 149, 3, 6, 42), none, none, some (.iload_n 1, 1, 0, 0), some (.if_icmp .ge 36, 3, 89, 0), none, none, some (.aload_n 0, 1, 0, 0), some (.getfield 121, 3, 6, 41), none, none, some (.aload_n 0, 1, 0, 0), some (.getfield 149, 3, 6, 42), none, none, some (.aload_n 0, 1, 0, 0), some (.getfield 121, 3, 6, 41), none, none, some (.aload_n 0, 1, 0, 0), some (.getfield 149, 3, 6, 42), none, none, some (.iload_n 2, 1, 0, 0), some (.isub, 1, 0, 0), some (.baload, 1, 0, 0), some (.bastore, 1, 0, 0), some (.aload_n 0, 1, 0, 0), some (.dup, 1, 0, 0), some (.getfield 149, 3, 6, 42), none, none, some (.iconst 1, 1, 0, 0), some (.iadd, 1, 0, 0), some (.putfield 149, 3, 6, 42), none, none, some (.goto (-38), 3, 48, 0), none, none, some (.iload_n 2, 1, 0, 0), some (.ireturn, 1, 0, 0)]
/-- 92: BundleLineModel.frame()I -/
def mc_X6_frame : List (Option Ent) := [some (.aload_n 0, 1, 0, 0), some (.getfield 149, 3, 6, 42), none, none, some (.ifCond .ne 10, 3, 14, 0), none, none, some (.aload_n 0, 1, 0, 0), some (.bipush (-3), 2, 0, 0), none, some (.invokevirtual 141, 3, 86, 2), none, none, some (.ireturn, 1, 0, 0), some (.aload_n 0, 1, 0, 0), some (.getfield 149, 3, 6, 42), none, none, some (.aload_n 0, 1, 0, 0), some (.getfield 124, 3, 6, 43), none, none, some (.iadd, 1, 0, 0), some (.iconst 1, 1, 0, 0), some (.isub, 1, 0, 0), some (.aload_n 0, 1, 0, 0), some (.getfield 124, 3, 6, 43), none, none, some (.idiv, 1, 0, 0), some (.istore_n 1, 1, 0, 0), some (.aload_n 0, 1, 0, 0), some (.getfield 152, 3, 6, 32), none, none, some (.sipush 300, 3, 0, 0), none, none, some (.if_icmp .eq 29, 3, 67, 0), none, none, some (.aload_n 0, 1, 0, 0), some (.getfield 155, 3, 6, 23), none, none, some (.iload_n 1, 1, 0, 0), some (.iadd, 1, 0, 0), some (.sipush 3000, 3, 0, 0), none, none, some (.if_icmp .gt 17, 3, 67, 0), none, none, some (.aload_n 0, 1, 0, 0), some (.getfield 152, 3, 6, 32), none, none, some (.aload_n 0, 1, 0, 0), some (.getfield 158, 3, 6, 33), none, none, some (.isub, 1, 0, 0), some (.bipush 100, 2, 0, 0), none, some (.if_icmp .lt 10, 3, 74, 0), none, none, some (.aload_n 0, 1, 0, 0), some (.bipush (-6), 2, 0, 0), none, some (.invokevirtual 141, 3, 86, 2), none, none, some (.ireturn, 1, 0, 0), some (.aload_n 0, 1, 0, 0), some (.getfield 152, 3, 6, 32), none, none, some (.istore_n 2, 1, 0, 0), some (.aload_n 0, 1, 0, 0), some (.dup, 1, 0, 0), some (.getfield 152, 3, 6, 32), none, none, some (.iconst 1, 1, 0, 0), some (.iadd, 1, 0, 0), some (.putfield 152, 3, 6, 32), none, none, some (.aload_n 0, 1, 0, 0), some (.getfield 101, 3, 6, 34), none, none, some (.iload_n 2, 1, 0, 0), some (.aload_n 0, 1, 0, 0), some (.getfield 149, 3, 6, 42), none, none, some (.iastore, 1, 0, 0), some (.aload_n 0, 1, 0, 0), some (.getfield 104, 3, 6, 35), none, none, some (.iload_n 2, 1, 0, 0), some (.aload_n 0, 1, 0, 0), some (.getfield 155, 3, 6, 23), none, none, some (.iastore, 1, 0, 0), some (.aload_n 0, 1, 0, 0), some (.getfield 107, 3, 6, 36), none, none, some (.iload_n 2, 1, 0, 0), some (.iload_n 1, 1, 0, 0), some (.iastore, 1, 0, 0), some (.aload_n 0, 1, 0, 0), some (.getfield 110, 3, 6, 37), none, none, some (.iload_n 2, 1, 0, 0), some (.bipush (-9), 2, 0, 0), none, some (.iastore, 1, 0, 0), some (.aload_n 0, 1, 0, 0), some (.getfield 113, 3, 6, 38), none, none, some (.iload_n 2, 1, 0, 0), some (.aload_n 0, 1, 0, 0), some (.getfield 161, 3, 6, 40), none, none, some (.iastore, 1, 0, 0), some (.iconst 0, 1, 0, 0), some (.istore_n 3, 1, 0, 0), some (.iload_n 3, 1, 0, 0), some (.iload_n 1, 1, 0, 0), some (.if_icmp .ge 108, 3, 246, 0), none, none, some (.aload_n 0, 1, 0, 0), some (.getfield 155, 3, 6, 23), none, none, some (.istore 4, 2, 0, 0), none, some (.aload_n 0, 1, 0, 0), some (.dup, 1, 0, 0), some (.getfield 155, 3, 6, 23), none, none, some (.iconst 1, 1, 0, 0), some (.iadd, 1, 0, 0), some (.putfield 155, 3, 6, 23), none, none, some (.aload_n 0, 1, 0, 0), some (.getfield 77, 3, 6, 24), none, none, some (.iload 4, 2, 0, 0), none, some (.iconst 0, 1, 0, 0), some (.iastore, 1, 0, 0), some (.aload_n 0, 1, 0, 0), some (.getfield 80, 3, 6, 25), none, none, some (.iload 4, 2, 0, 0), none, some (.iload_n 2, 1, 0, 0), some (.iastore, 1, 0, 0), some (.aload_n 0, 1, 0, 0), some (.getfield 83, 3, 6, 26), none, none, some (.iload 4, 2, 0, 0), none, some (.aload_n 0, 1, 0, 0), some (.getfield 161, 3, 6, 40), none, none, some (.iload_n 3, 1, 0, 0), some (.aload_n 0, 1, 0, 0), some (.getfield 124, 3, 6, 43), none, none, some (.imul, 1, 0, 0), some (.iadd, 1, 0, 0), some (.iastore, 1, 0, 0), some (.aload_n 0, 1, 0, 0), some (.getfield 86, 3, 6, 27), none, none, some (.iload 4, 2, 0, 0), none, some (.iload_n 3, 1, 0, 0), some (.iload_n 1, 1, 0, 0), some (.iconst 1, 1, 0, 0), some (.isub, 1, 0, 0), some (.if_icmp .ge 10, 3, 211, 0), none, none, some (.aload_n 0, 1, 0, 0), some (.getfield 124, 3, 6, 43), none, none, some (.goto 14, 3, 222, 0), none, none, some (.aload_n 0, 1, 0, 0), some (.getfield 149, 3, 6, 42), none, none, some (.iload_n 3, 1, 0, 0), some (.aload_n 0, 1, 0, 0), some (.getfield 124, 3, 6, 43), none, none, some (.imul, 1, 0, 0), some (.isub, 1, 0, 0), some (.iastore, 1, 0, 0), some (.aload_n 0, 1, 0, 0), some (.getfield 92, 3, 6, 29), none, none, some (.iload 4, 2, 0, 0), none, some (.bipush (-9), 2, 0, 0), none, some (.iastore, 1, 0, 0), some (.aload_n 0, 1, 0, 0), some (.getfield 95, 3, 6, 30), none, none, some (.iload 4, 2, 0, 0), none, some (.iconst (-1), 1, 0, 0), some (.iastore, 1, 0, 0), some (.iinc 3 1, 3, 0, 0), none, none, some (.goto (-107), 3, 136, 0), none, none, some (.iconst 0, 1, 0, 0), some (.istore_n 3, 1, 0, 0), some (.iload_n 3, 1, 0, 0), some (.aload_n 0, 1, 0, 0), some (.getfield 149, 3, 6, 42), none, none, some (.if_icmp .ge 34, 3, 287, 0), none, none, some (.aload_n 0, 1, 0, 0), some (.getfield 117, 3, 6, 39), none, none, some (.aload_n 0, 1, 0, 0), some (.getfield 161, 3, 6, 40), none, none, some (.aload_n 0, 1, 0, 0), some (.getfield 121, 3, 6, 41), none, none, some (.iload_n 3, 1, 0, 0), some (.baload, 1, 0, 0), some (.bastore, 1, 0, 0), some (.aload_n 0, 1, 0, 0), some (.dup, 1, 0, 0), some (.getfield 161, 3, 6, 40), none, none, some (.iconst 1, 1, 0, 0), some (.iadd, 1, 0, 0), some (.putfield 161, 3, 6, 40), none, none, some (.iinc 3 1, 3, 0, 0), none, none, some (.goto (-36), 3, 248, 0), none, none, some (.aload_n 0, 1, 0, 0), some (.iconst 0, 1, 0, 0), some (.putfield 149, 3, 6, 42), none, none, some (.iload_n 2, 1, 0, 0), some (.ireturn, 1, 0, 0)]
/-- 93: BundleLineModel.cut(I)I -/
def mc_X6_cut : List (Option Ent) := [some (.iload_n 1, 1, 0, 0), some (.iconst 1, 1, 0, 0), some (.if_icmp .ge 10, 3, 12, 0), none, none, some (.aload_n 0, 1, 0, 0), some (.bipush (-4), 2, 0, 0), none, some (.invokevirtual 141, 3, 86, 2), none, none, some (.ireturn, 1, 0, 0), some (.iload_n 1, 1, 0, 0), some (.sipush 250, 3, 0, 0), none, none, some (.if_icmp .le 10, 3, 26, 0), none, none, some (.aload_n 0, 1, 0, 0), some (.bipush (-6), 2, 0, 0), none, some (.invokevirtual 141, 3, 86, 2), none, none, some (.ireturn, 1, 0, 0), some (.aload_n 0, 1, 0, 0), some (.getfield 124, 3, 6, 43), none, none, some (.istore_n 2, 1, 0, 0), some (.aload_n 0, 1, 0, 0), some (.iload_n 1, 1, 0, 0), some (.putfield 124, 3, 6, 43), none, none, some (.iload_n 2, 1, 0, 0), some (.ireturn, 1, 0, 0)]
/-- 94: BundleLineModel.room(I)I -/
def mc_X6_room : List (Option Ent) := [some (.iload_n 1, 1, 0, 0), some (.sipush 4000, 3, 0, 0), none, none, some (.if_icmp .ge 10, 3, 14, 0), none, none, some (.aload_n 0, 1, 0, 0), some (.bipush (-4), 2, 0, 0), none, some (.invokevirtual 141, 3, 86, 2), none, none, some (.ireturn, 1, 0, 0), some (.iload_n 1, 1, 0, 0), some (.sipush 20000, 3, 0, 0), none, none, some (.if_icmp .le 10, 3, 28, 0), none, none, some (.aload_n 0, 1, 0, 0), some (.bipush (-6), 2, 0, 0), none, some (.invokevirtual 141, 3, 86, 2), none, none, some (.ireturn, 1, 0, 0), some (.aload_n 0, 1, 0, 0), some (.getfield 128, 3, 6, 44), none, none, some (.istore_n 2, 1, 0, 0), some (.aload_n 0, 1, 0, 0), some (.iload_n 1, 1, 0, 0), some (.putfield 128, 3, 6, 44), none, none, some (.iload_n 2, 1, 0, 0), some (.ireturn, 1, 0, 0)]
/-- 95: BundleLineModel.sumOf(I)I -/
def mc_X6_sumOf : List (Option Ent) := [some (.iconst 0, 1, 0, 0), some (.istore_n 2, 1, 0, 0), some (.iconst 0, 1, 0, 0), some (.istore_n 3, 1, 0, 0), some (.iload_n 3, 1, 0, 0), some (.aload_n 0, 1, 0, 0), some (.getfield 86, 3, 6, 27), none, none, some (.iload_n 1, 1, 0, 0), some (.iaload, 1, 0, 0), some (.if_icmp .ge 33, 3, 44, 0), none, none, some (.iload_n 2, 1, 0, 0), some (.aload_n 0, 1, 0, 0), some (.getfield 117, 3, 6, 39), none, none, some (.aload_n 0, 1, 0, 0), some (.getfield 83, 3, 6, 26), none, none, some (.iload_n 1, 1, 0, 0), some (.iaload, 1, 0, 0), some (.iload_n 3, 1, 0, 0), some (.iadd, 1, 0, 0), some (.baload, 1, 0, 0), some (.sipush 255, 3, 0, 0), none, none, some (.iand, 1, 0, 0), some (.iload_n 3, 1, 0, 0), some (.iconst 1, 1, 0, 0), some (.iadd, 1, 0, 0), some (.imul, 1, 0, 0), some (.iadd, 1, 0, 0), some (.istore_n 2, 1, 0, 0), some (.iinc 3 1, 3, 0, 0), none, none, some (.goto (-37), 3, 4, 0), none, none, some (.iload_n 2, 1, 0, 0), some (.ireturn, 1, 0, 0)]
/-- 96: BundleLineModel.credit()I -/
def mc_X6_credit : List (Option Ent) := [some (.aload_n 0, 1, 0, 0), some (.getfield 128, 3, 6, 44), none, none, some (.istore_n 1, 1, 0, 0), some (.iconst 0, 1, 0, 0), some (.istore_n 2, 1, 0, 0), some (.iload_n 2, 1, 0, 0), some (.aload_n 0, 1, 0, 0), some (.getfield 155, 3, 6, 23), none, none, some (.if_icmp .ge 44, 3, 56, 0), none, none, some (.iload_n 1, 1, 0, 0), some (.aload_n 0, 1, 0, 0), some (.getfield 77, 3, 6, 24), none, none, some (.iload_n 2, 1, 0, 0), some (.iaload, 1, 0, 0), some (.ifCond .eq 25, 3, 47, 0), none, none, some (.aload_n 0, 1, 0, 0), some (.getfield 80, 3, 6, 25), none, none, some (.iload_n 2, 1, 0, 0), some (.iaload, 1, 0, 0), some (.aload_n 0, 1, 0, 0), some (.getfield 158, 3, 6, 33), none, none, some (.if_icmp .lt 12, 3, 47, 0), none, none, some (.aload_n 0, 1, 0, 0), some (.getfield 86, 3, 6, 27), none, none, some (.iload_n 2, 1, 0, 0), some (.iaload, 1, 0, 0), some (.goto 4, 3, 48, 0), none, none, some (.iconst 0, 1, 0, 0), some (.isub, 1, 0, 0), some (.istore_n 1, 1, 0, 0), some (.iinc 2 1, 3, 0, 0), none, none, some (.goto (-46), 3, 7, 0), none, none, some (.iload_n 1, 1, 0, 0), some (.ireturn, 1, 0, 0)]
/-- 97: BundleLineModel.sizeOf(I)I -/
def mc_X6_sizeOf : List (Option Ent) := [some (.iload_n 1, 1, 0, 0), some (.bipush (-2), 2, 0, 0), none, some (.if_icmp .ne 7, 3, 10, 0), none, none, some (.iconst 1, 1, 0, 0), some (.goto 9, 3, 16, 0), none, none, some (.aload_n 0, 1, 0, 0), some (.getfield 86, 3, 6, 27), none, none, some (.iload_n 1, 1, 0, 0), some (.iaload, 1, 0, 0), some (.ireturn, 1, 0, 0)]
/-- 98: BundleLineModel.waiting(I)I -/
def mc_X6_waiting : List (Option Ent) := [some (.aload_n 0, 1, 0, 0), some (.getfield 35, 3, 6, 9), none, none, some (.iload_n 1, 1, 0, 0), some (.iaload, 1, 0, 0), some (.ineg, 1, 0, 0), some (.istore_n 2, 1, 0, 0), some (.iconst 0, 1, 0, 0), some (.istore_n 3, 1, 0, 0), some (.iload_n 3, 1, 0, 0), some (.aload_n 0, 1, 0, 0), some (.getfield 32, 3, 6, 8), none, none, some (.iload_n 1, 1, 0, 0), some (.iaload, 1, 0, 0), some (.if_icmp .ge 27, 3, 44, 0), none, none, some (.iload_n 2, 1, 0, 0), some (.aload_n 0, 1, 0, 0), some (.aload_n 0, 1, 0, 0), some (.getfield 29, 3, 6, 7), none, none, some (.bipush 41, 2, 0, 0), none, some (.iload_n 1, 1, 0, 0), some (.imul, 1, 0, 0), some (.iload_n 3, 1, 0, 0), some (.iadd, 1, 0, 0), some (.iaload, 1, 0, 0), some (.invokevirtual 164, 3, 97, 2), none, none, some (.iadd, 1, 0, 0), some (.istore_n 2, 1, 0, 0), some (.iinc 3 1, 3, 0, 0), none, none, some (.goto (-31), 3, 10, 0), none, none, some (.iload_n 2, 1, 0, 0), some (.ireturn, 1, 0, 0)]
/-- 99: BundleLineModel.lose(II)V -/
def mc_X6_lose : List (Option Ent) := [some (.aload_n 0, 1, 0, 0), some (.getfield 77, 3, 6, 24), none, none, some (.iload_n 1, 1, 0, 0), some (.iconst 2, 1, 0, 0), some (.iastore, 1, 0, 0), some (.aload_n 0, 1, 0, 0), some (.getfield 98, 3, 6, 31), none, none, some (.bipush 8, 2, 0, 0), none, some (.iload_n 1, 1, 0, 0), some (.imul, 1, 0, 0), some (.iload_n 2, 1, 0, 0), some (.iadd, 1, 0, 0), some (.dup2, 1, 0, 0), some (.iaload, 1, 0, 0), some (.iconst 1, 1, 0, 0), some (.iadd, 1, 0, 0), some (.iastore, 1, 0, 0), some (.aload_n 0, 1, 0, 0), some (.getfield 65, 3, 6, 19), none, none, some (.iload_n 2, 1, 0, 0), some (.dup2, 1, 0, 0), some (.iaload, 1, 0, 0), some (.iconst 1, 1, 0, 0), some (.iadd, 1, 0, 0), some (.iastore, 1, 0, 0), some (.return_, 1, 0, 0)]
/-- 100: BundleLineModel.isBetter(III)Z -/
def mc_X6_isBetter : List (Option Ent) := [some (.iload_n 3, 1, 0, 0), some (.bipush (-9), 2, 0, 0), none, some (.if_icmp .ne 5, 3, 8, 0), none, none, some (.iconst 1, 1, 0, 0), some (.ireturn, 1, 1, 0), some (.aload_n 0, 1, 0, 0), some (.getfield 77, 3, 6, 24), none, none, some (.iload_n 1, 1, 0, 0), some (.iaload, 1, 0, 0), some (.iconst 2, 1, 0, 0), some (.if_icmp .ne 59, 3, 74, 0), none, none, some (.aload_n 0, 1, 0, 0), some (.getfield 98, 3, 6, 31), none, none, some (.bipush 8, 2, 0, 0), none, some (.iload_n 1, 1, 0, 0), some (.imul, 1, 0, 0), some (.iload_n 2, 1, 0, 0), some (.iadd, 1, 0, 0), some (.iaload, 1, 0, 0), some (.aload_n 0, 1, 0, 0), some (.getfield 98, 3, 6, 31), none, none, some (.bipush 8, 2, 0, 0), none, some (.iload_n 1, 1, 0, 0), some (.imul, 1, 0, 0), some (.iload_n 3, 1, 0, 0), some (.iadd, 1, 0, 0), some (.iaload, 1, 0, 0), some (.if_icmp .eq 34, 3, 74, 0), none, none, some (.aload_n 0, 1, 0, 0), some (.getfield 98, 3, 6, 31), none, none, some (.bipush 8, 2, 0, 0), none, some (.iload_n 1, 1, 0, 0), some (.imul, 1, 0, 0), some (.iload_n 2, 1, 0, 0), some (.iadd, 1, 0, 0), some (.iaload, 1, 0, 0), some (.aload_n 0, 1, 0, 0), some (.getfield 98, 3, 6, 31), none, none, some (.bipush 8, 2, 0, 0), none, some (.iload_n 1, 1, 0, 0), some (.imul, 1, 0, 0), some (.iload_n 3, 1, 0, 0), some (.iadd, 1, 0, 0), some (.iaload, 1, 0, 0), some (.if_icmp .ge 7, 3, 72, 0), none, none, some (.iconst 1, 1, 0, 0), some (.goto 4, 3, 73, 0), none, none, some (.iconst 0, 1, 0, 0), some (.ireturn, 1, 1, 0), some (.aload_n 0, 1, 0, 0), some (.iload_n 2, 1, 0, 0), some (.invokevirtual 167, 3, 98, 2), none, none, some (.aload_n 0, 1, 0, 0), some (.getfield 86, 3, 6, 27), none, none, some (.iload_n 1, 1, 0, 0), some (.iaload, 1, 0, 0), some (.iadd, 1, 0, 0), some (.aload_n 0, 1, 0, 0), some (.getfield 13, 3, 6, 2), none, none, some (.iload_n 2, 1, 0, 0), some (.iaload, 1, 0, 0), some (.iadd, 1, 0, 0), some (.iconst 1, 1, 0, 0), some (.isub, 1, 0, 0), some (.aload_n 0, 1, 0, 0), some (.getfield 13, 3, 6, 2), none, none, some (.iload_n 2, 1, 0, 0), some (.iaload, 1, 0, 0), some (.idiv, 1, 0, 0), some (.istore 4, 2, 0, 0), none, some (.aload_n 0, 1, 0, 0), some (.iload_n 3, 1, 0, 0), some (.invokevirtual 167, 3, 98, 2), none, none, some (.aload_n 0, 1, 0, 0), some (.getfield 86, 3, 6, 27), none, none, some (.iload_n 1, 1, 0, 0), some (.iaload, 1, 0, 0), some (.iadd, 1, 0, 0), some (.aload_n 0, 1, 0, 0), some (.getfield 13, 3, 6, 2), none, none, some (.iload_n 3, 1, 0, 0), some (.iaload, 1, 0, 0), some (.iadd, 1, 0, 0), some (.iconst 1, 1, 0, 0), some (.isub, 1, 0, 0), some (.aload_n 0, 1, 0, 0), some (.getfield 13, 3, 6, 2), none, none, some (.iload_n 3, 1, 0, 0), some (.iaload, 1, 0, 0), some (.idiv, 1, 0, 0), some (.istore 5, 2, 0, 0), none, some (.iload 4, 2, 0, 0), none, some (.iload 5, 2, 0, 0), none, some (.if_icmp .eq 18, 3, 156, 0), none, none, some (.iload 4, 2, 0, 0), none, some (.iload 5, 2, 0, 0), none, some (.if_icmp .ge 7, 3, 152, 0), none, none, some (.iconst 1, 1, 0, 0), some (.goto 27, 3, 176, 0), none, none, some (.iconst 0, 1, 0, 0), some (.goto 23, 3, 176, 0), none, none, some (.aload_n 0, 1, 0, 0), some (.getfield 62, 3, 6, 18), none, none, some (.iload_n 2, 1, 0, 0), some (.iaload, 1, 0, 0), some (.aload_n 0, 1, 0, 0), some (.getfield 62, 3, 6, 18), none, none, some (.iload_n 3, 1, 0, 0), some (.iaload, 1, 0, 0), some (.if_icmp .ge 7, 3, 175, 0), none, none, some (.iconst 1, 1, 0, 0), some (.goto 4, 3, 176, 0), none, none, some (.iconst 0, 1, 0, 0), some (.ireturn, 1, 1, 0)]
/-- 101: BundleLineModel.bestLine(I)I -/
def mc_X6_bestLine : List (Option Ent) := [some (.bipush (-9), 2, 0, 0), none, some (.istore_n 2, 1, 0, 0), some (.iconst 0, 1, 0, 0), some (.istore_n 3, 1, 0, 0), some (.iload_n 3, 1, 0, 0), some (.aload_n 0, 1, 0, 0), some (.getfield 134, 3, 6, 0), none, none, some (.if_icmp .ge 41, 3, 51, 0), none, none, some (.aload_n 0, 1, 0, 0), some (.getfield 19, 3, 6, 4), none, none, some (.iload_n 3, 1, 0, 0), some (.baload, 1, 1, 0), some (.ifCond .eq 26, 3, 45, 0), none, none, some (.aload_n 0, 1, 0, 0), some (.getfield 32, 3, 6, 8), none, none, some (.iload_n 3, 1, 0, 0), some (.iaload, 1, 0, 0), some (.bipush 40, 2, 0, 0), none, some (.if_icmp .ge 15, 3, 45, 0), none, none, some (.aload_n 0, 1, 0, 0), some (.iload_n 1, 1, 0, 0), some (.iload_n 3, 1, 0, 0), some (.iload_n 2, 1, 0, 0), some (.invokevirtual 170, 3, 100, 4), none, none, some (.ifCond .eq 5, 3, 45, 0), none, none, some (.iload_n 3, 1, 0, 0), some (.istore_n 2, 1, 0, 0), some (.iinc 3 1, 3, 0, 0), none, none, some (.goto (-43), 3, 5, 0), none, none, some (.iload_n 2, 1, 0, 0), some (.ireturn, 1, 0, 0)]
/-- 102: BundleLineModel.layOn(II)V -/
def mc_X6_layOn : List (Option Ent) := [some (.aload_n 0, 1, 0, 0), some (.getfield 29, 3, 6, 7), none, none, some (.bipush 41, 2, 0, 0), none, some (.iload_n 2, 1, 0, 0), some (.imul, 1, 0, 0), some (.aload_n 0, 1, 0, 0), some (.getfield 32, 3, 6, 8), none, none, some (.iload_n 2, 1, 0, 0), some (.iaload, 1, 0, 0), some (.iadd, 1, 0, 0), some (.iload_n 1, 1, 0, 0), some (.iastore, 1, 0, 0), some (.aload_n 0, 1, 0, 0), some (.getfield 32, 3, 6, 8), none, none, some (.iload_n 2, 1, 0, 0), some (.dup2, 1, 0, 0), some (.iaload, 1, 0, 0), some (.iconst 1, 1, 0, 0), some (.iadd, 1, 0, 0), some (.iastore, 1, 0, 0), some (.iload_n 1, 1, 0, 0), some (.bipush (-2), 2, 0, 0), none, some (.if_icmp .ne 14, 3, 44, 0), none, none, some (.aload_n 0, 1, 0, 0), some (.getfield 68, 3, 6, 20), none, none, some (.iload_n 2, 1, 0, 0), some (.dup2, 1, 0, 0), some (.iaload, 1, 0, 0), some (.iconst 1, 1, 0, 0), some (.iadd, 1, 0, 0), some (.iastore, 1, 0, 0), some (.return_, 1, 0, 0), some (.aload_n 0, 1, 0, 0), some (.getfield 77, 3, 6, 24), none, none, some (.iload_n 1, 1, 0, 0), some (.iconst 1, 1, 0, 0), some (.iastore, 1, 0, 0), some (.aload_n 0, 1, 0, 0), some (.getfield 92, 3, 6, 29), none, none, some (.iload_n 1, 1, 0, 0), some (.iload_n 2, 1, 0, 0), some (.iastore, 1, 0, 0), some (.aload_n 0, 1, 0, 0), some (.getfield 95, 3, 6, 30), none, none, some (.iload_n 1, 1, 0, 0), some (.iconst (-1), 1, 0, 0), some (.iastore, 1, 0, 0), some (.aload_n 0, 1, 0, 0), some (.getfield 89, 3, 6, 28), none, none, some (.iload_n 1, 1, 0, 0), some (.dup2, 1, 0, 0), some (.iaload, 1, 0, 0), some (.iconst 1, 1, 0, 0), some (.iadd, 1, 0, 0), some (.iastore, 1, 0, 0), some (.return_, 1, 0, 0)]
/-- 103: BundleLineModel.laying()V -/
def mc_X6_laying : List (Option Ent) := [some (.iconst 0, 1, 0, 0), some (.istore_n 1, 1, 0, 0), some (.iload_n 1, 1, 0, 0), some (.aload_n 0, 1, 0, 0), some (.getfield 155, 3, 6, 23), none, none, some (.if_icmp .ge 38, 3, 45, 0), none, none, some (.aload_n 0, 1, 0, 0), some (.getfield 77, 3, 6, 24), none, none, some (.iload_n 1, 1, 0, 0), some (.iaload, 1, 0, 0), some (.iconst 2, 1, 0, 0), some (.if_icmp .ne 22, 3, 39, 0), none, none, some (.aload_n 0, 1, 0, 0), some (.iload_n 1, 1, 0, 0), some (.invokevirtual 173, 3, 101, 2), none, none, some (.istore_n 2, 1, 0, 0), some (.iload_n 2, 1, 0, 0), some (.bipush (-9), 2, 0, 0), none, some (.if_icmp .ne 4, 3, 33, 0), none, none, some (.return_, 1, 0, 0), some (.aload_n 0, 1, 0, 0), some (.iload_n 1, 1, 0, 0), some (.iload_n 2, 1, 0, 0), some (.invokevirtual 176, 3, 102, 3), none, none, some (.iinc 1 1, 3, 0, 0), none, none, some (.goto (-40), 3, 2, 0), none, none, some (.aload_n 0, 1, 0, 0), some (.invokevirtual 180, 3, 96, 1), none, none, some (.istore_n 1, 1, 0, 0), some (.iconst 0, 1, 0, 0), some (.istore_n 2, 1, 0, 0), some (.iload_n 2, 1, 0, 0), some (.aload_n 0, 1, 0, 0), some (.getfield 155, 3, 6, 23), none, none, some (.if_icmp .ge 59, 3, 116, 0), none, none, some (.aload_n 0, 1, 0, 0), some (.getfield 77, 3, 6, 24), none, none, some (.iload_n 2, 1, 0, 0), some (.iaload, 1, 0, 0), some (.ifCond .eq 6, 3, 72, 0), none, none, some (.goto 41, 3, 110, 0), none, none, some (.aload_n 0, 1, 0, 0), some (.iload_n 2, 1, 0, 0), some (.invokevirtual 173, 3, 101, 2), none, none, some (.istore_n 3, 1, 0, 0), some (.iload_n 3, 1, 0, 0), some (.bipush (-9), 2, 0, 0), none, some (.if_icmp .eq 13, 3, 94, 0), none, none, some (.aload_n 0, 1, 0, 0), some (.getfield 86, 3, 6, 27), none, none, some (.iload_n 2, 1, 0, 0), some (.iaload, 1, 0, 0), some (.iload_n 1, 1, 0, 0), some (.if_icmp .le 4, 3, 95, 0), none, none, some (.return_, 1, 0, 0), some (.aload_n 0, 1, 0, 0), some (.iload_n 2, 1, 0, 0), some (.iload_n 3, 1, 0, 0), some (.invokevirtual 176, 3, 102, 3), none, none, some (.iload_n 1, 1, 0, 0), some (.aload_n 0, 1, 0, 0), some (.getfield 86, 3, 6, 27), none, none, some (.iload_n 2, 1, 0, 0), some (.iaload, 1, 0, 0), some (.isub, 1, 0, 0), some (.istore_n 1, 1, 0, 0), some (.iinc 2 1, 3, 0, 0), none, none, some (.goto (-61), 3, 52, 0), none, none, some (.return_, 1, 0, 0)]
/-- 104: BundleLineModel.allowed(I)I -/
def mc_X6_allowed : List (Option Ent) := [some (.aload_n 0, 1, 0, 0), some (.getfield 7, 3, 6, 1), none, none, some (.iload_n 1, 1, 0, 0), some (.iaload, 1, 0, 0), some (.iconst 3, 1, 0, 0), some (.if_icmp .eq 10, 3, 17, 0), none, none, some (.aload_n 0, 1, 0, 0), some (.getfield 13, 3, 6, 2), none, none, some (.iload_n 1, 1, 0, 0), some (.iaload, 1, 0, 0), some (.ireturn, 1, 0, 0), some (.aload_n 0, 1, 0, 0), some (.getfield 23, 3, 6, 5), none, none, some (.iload_n 1, 1, 0, 0), some (.iaload, 1, 0, 0), some (.istore_n 2, 1, 0, 0), some (.iconst 1, 1, 0, 0), some (.istore_n 3, 1, 0, 0), some (.iload_n 3, 1, 0, 0), some (.aload_n 0, 1, 0, 0), some (.getfield 26, 3, 6, 6), none, none, some (.iload_n 1, 1, 0, 0), some (.iaload, 1, 0, 0), some (.if_icmp .ge 39, 3, 72, 0), none, none, some (.iload_n 3, 1, 0, 0), some (.aload_n 0, 1, 0, 0), some (.getfield 184, 3, 6, 45), none, none, some (.if_icmp .ge 31, 3, 72, 0), none, none, some (.iload_n 2, 1, 0, 0), some (.aload_n 0, 1, 0, 0), some (.getfield 74, 3, 6, 22), none, none, some (.bipush 20, 2, 0, 0), none, some (.iload_n 1, 1, 0, 0), some (.imul, 1, 0, 0), some (.aload_n 0, 1, 0, 0), some (.getfield 184, 3, 6, 45), none, none, some (.iload_n 3, 1, 0, 0), some (.isub, 1, 0, 0), some (.bipush 20, 2, 0, 0), none, some (.irem, 1, 0, 0), some (.iadd, 1, 0, 0), some (.iaload, 1, 0, 0), some (.isub, 1, 0, 0), some (.istore_n 2, 1, 0, 0), some (.iinc 3 1, 3, 0, 0), none, none, some (.goto (-43), 3, 26, 0), none, none, some (.iload_n 2, 1, 0, 0), some (.ifCond .ge 7, 3, 80, 0), none, none, some (.iconst 0, 1, 0, 0), some (.goto 23, 3, 100, 0), none, none, some (.iload_n 2, 1, 0, 0), some (.aload_n 0, 1, 0, 0), some (.getfield 13, 3, 6, 2), none, none, some (.iload_n 1, 1, 0, 0), some (.iaload, 1, 0, 0), some (.if_icmp .ge 7, 3, 94, 0), none, none, some (.iload_n 2, 1, 0, 0), some (.goto 9, 3, 100, 0), none, none, some (.aload_n 0, 1, 0, 0), some (.getfield 13, 3, 6, 2), none, none, some (.iload_n 1, 1, 0, 0), some (.iaload, 1, 0, 0), some (.ireturn, 1, 0, 0)]
/-- 105: BundleLineModel.sendFirst(I)V -/
def mc_X6_sendFirst : List (Option Ent) := [some (.aload_n 0, 1, 0, 0), some (.getfield 29, 3, 6, 7), none, none, some (.bipush 41, 2, 0, 0), none, some (.iload_n 1, 1, 0, 0), some (.imul, 1, 0, 0), some (.iaload, 1, 0, 0), some (.istore_n 2, 1, 0, 0), some (.aload_n 0, 1, 0, 0), some (.getfield 32, 3, 6, 8), none, none, some (.iload_n 1, 1, 0, 0), some (.dup2, 1, 0, 0), some (.iaload, 1, 0, 0), some (.iconst 1, 1, 0, 0), some (.isub, 1, 0, 0), some (.iastore, 1, 0, 0), some (.iconst 0, 1, 0, 0), some (.istore_n 3, 1, 0, 0), some (.iload_n 3, 1, 0, 0), some (.aload_n 0, 1, 0, 0), some (.getfield 32, 3, 6, 8), none, none, some (.iload_n 1, 1, 0, 0), some (.iaload, 1, 0, 0), some (.if_icmp .ge 33, 3, 62, 0), none, none, some (.aload_n 0, 1, 0, 0), some (.getfield 29, 3, 6, 7), none, none, some (.bipush 41, 2, 0, 0), none, some (.iload_n 1, 1, 0, 0), some (.imul, 1, 0, 0), some (.iload_n 3, 1, 0, 0), some (.iadd, 1, 0, 0), some (.aload_n 0, 1, 0, 0), some (.getfield 29, 3, 6, 7), none, none, some (.bipush 41, 2, 0, 0), none, some (.iload_n 1, 1, 0, 0), some (.imul, 1, 0, 0), some (.iload_n 3, 1, 0, 0), some (.iadd, 1, 0, 0), some (.iconst 1, 1, 0, 0), some (.iadd, 1, 0, 0), some (.iaload, 1, 0, 0), some (.iastore, 1, 0, 0), some (.iinc 3 1, 3, 0, 0), none, none, some (.goto (-37), 3, 22, 0), none, none, some (.aload_n 0, 1, 0, 0), some (.getfield 35, 3, 6, 9), none, none, some (.iload_n 1, 1, 0, 0), some (.iconst 0, 1, 0, 0), some (.iastore, 1, 0, 0), some (.sipush 200, 3, 0, 0), none, none, some (.iload_n 1, 1, 0, 0), some (.imul, 1, 0, 0), some (.aload_n 0, 1, 0, 0), some (.getfield 50, 3, 6, 14), none, none, some (.iload_n 1, 1, 0, 0), some (.iaload, 1, 0, 0), some (.aload_n 0, 1, 0, 0), some (.getfield 53, 3, 6, 15), none, none, some (.iload_n 1, 1, 0, 0), some (.iaload, 1, 0, 0), some (.iadd, 1, 0, 0), some (.sipush 200, 3, 0, 0), none, none, some (.irem, 1, 0, 0), some (.iadd, 1, 0, 0), some (.istore_n 3, 1, 0, 0), some (.aload_n 0, 1, 0, 0), some (.getfield 53, 3, 6, 15), none, none, some (.iload_n 1, 1, 0, 0), some (.dup2, 1, 0, 0), some (.iaload, 1, 0, 0), some (.iconst 1, 1, 0, 0), some (.iadd, 1, 0, 0), some (.iastore, 1, 0, 0), some (.aload_n 0, 1, 0, 0), some (.getfield 38, 3, 6, 10), none, none, some (.iload_n 3, 1, 0, 0), some (.iload_n 2, 1, 0, 0), some (.iastore, 1, 0, 0), some (.aload_n 0, 1, 0, 0), some (.getfield 41, 3, 6, 11), none, none, some (.iload_n 3, 1, 0, 0), some (.aload_n 0, 1, 0, 0), some (.getfield 56, 3, 6, 16), none, none, some (.iload_n 1, 1, 0, 0), some (.iaload, 1, 0, 0), some (.iastore, 1, 0, 0), some (.aload_n 0, 1, 0, 0), some (.getfield 44, 3, 6, 12), none, none, some (.iload_n 3, 1, 0, 0), some (.aload_n 0, 1, 0, 0), some (.getfield 184, 3, 6, 45), none, none, some (.aload_n 0, 1, 0, 0), some (.getfield 16, 3, 6, 3), none, none, some (.iload_n 1, 1, 0, 0), some (.iaload, 1, 0, 0), some (.iadd, 1, 0, 0), some (.iastore, 1, 0, 0), some (.aload_n 0, 1, 0, 0), some (.getfield 47, 3, 6, 13), none, none, some (.iload_n 3, 1, 0, 0), some (.iconst 0, 1, 0, 0), some (.iastore, 1, 0, 0), some (.iload_n 2, 1, 0, 0), some (.bipush (-2), 2, 0, 0), none, some (.if_icmp .eq 15, 3, 164, 0), none, none, some (.aload_n 0, 1, 0, 0), some (.getfield 95, 3, 6, 30), none, none, some (.iload_n 2, 1, 0, 0), some (.aload_n 0, 1, 0, 0), some (.getfield 56, 3, 6, 16), none, none, some (.iload_n 1, 1, 0, 0), some (.iaload, 1, 0, 0), some (.iastore, 1, 0, 0), some (.aload_n 0, 1, 0, 0), some (.getfield 56, 3, 6, 16), none, none, some (.iload_n 1, 1, 0, 0), some (.dup2, 1, 0, 0), some (.iaload, 1, 0, 0), some (.iconst 1, 1, 0, 0), some (.iadd, 1, 0, 0), some (.iastore, 1, 0, 0), some (.return_, 1, 0, 0)]
/-- 106: BundleLineModel.sending(I)V -/
def mc_X6_sending : List (Option Ent) := [some (.aload_n 0, 1, 0, 0), some (.getfield 74, 3, 6, 22), none, none, some (.bipush 20, 2, 0, 0), none, some (.iload_n 1, 1, 0, 0), some (.imul, 1, 0, 0), some (.aload_n 0, 1, 0, 0), some (.getfield 184, 3, 6, 45), none, none, some (.bipush 20, 2, 0, 0), none, some (.irem, 1, 0, 0), some (.iadd, 1, 0, 0), some (.iconst 0, 1, 0, 0), some (.iastore, 1, 0, 0), some (.aload_n 0, 1, 0, 0), some (.getfield 19, 3, 6, 4), none, none, some (.iload_n 1, 1, 0, 0), some (.baload, 1, 1, 0), some (.ifCond .ne 4, 3, 28, 0), none, none, some (.return_, 1, 0, 0), some (.aload_n 0, 1, 0, 0), some (.iload_n 1, 1, 0, 0), some (.invokevirtual 187, 3, 104, 2), none, none, some (.istore_n 2, 1, 0, 0), some (.iload_n 2, 1, 0, 0), some (.ifCond .le 135, 3, 170, 0), none, none, some (.aload_n 0, 1, 0, 0), some (.getfield 32, 3, 6, 8), none, none, some (.iload_n 1, 1, 0, 0), some (.iaload, 1, 0, 0), some (.ifCond .le 126, 3, 170, 0), none, none, some (.aload_n 0, 1, 0, 0), some (.getfield 53, 3, 6, 15), none, none, some (.iload_n 1, 1, 0, 0), some (.iaload, 1, 0, 0), some (.sipush 200, 3, 0, 0), none, none, some (.if_icmp .ge 114, 3, 170, 0), none, none, some (.aload_n 0, 1, 0, 0), some (.aload_n 0, 1, 0, 0), some (.getfield 29, 3, 6, 7), none, none, some (.bipush 41, 2, 0, 0), none, some (.iload_n 1, 1, 0, 0), some (.imul, 1, 0, 0), some (.iaload, 1, 0, 0), some (.invokevirtual 164, 3, 97, 2), none, none, some (.aload_n 0, 1, 0, 0), some (.getfield 35, 3, 6, 9), none, none, some (.iload_n 1, 1, 0, 0), some (.iaload, 1, 0, 0), some (.isub, 1, 0, 0), some (.istore_n 3, 1, 0, 0), some (.aload_n 0, 1, 0, 0), some (.getfield 7, 3, 6, 1), none, none, some (.iload_n 1, 1, 0, 0), some (.iaload, 1, 0, 0), some (.ifCond .ne 9, 3, 95, 0), none, none, some (.iload_n 3, 1, 0, 0), some (.iload_n 2, 1, 0, 0), some (.if_icmp .le 4, 3, 95, 0), none, none, some (.return_, 1, 0, 0), some (.iload_n 3, 1, 0, 0), some (.iload_n 2, 1, 0, 0), some (.if_icmp .ge 7, 3, 104, 0), none, none, some (.iload_n 3, 1, 0, 0), some (.goto 4, 3, 105, 0), none, none, some (.iload_n 2, 1, 0, 0), some (.istore 4, 2, 0, 0), none, some (.aload_n 0, 1, 0, 0), some (.getfield 35, 3, 6, 9), none, none, some (.iload_n 1, 1, 0, 0), some (.dup2, 1, 0, 0), some (.iaload, 1, 0, 0), some (.iload 4, 2, 0, 0), none, some (.iadd, 1, 0, 0), some (.iastore, 1, 0, 0), some (.iload_n 2, 1, 0, 0), some (.iload 4, 2, 0, 0), none, some (.isub, 1, 0, 0), some (.istore_n 2, 1, 0, 0), some (.aload_n 0, 1, 0, 0), some (.getfield 62, 3, 6, 18), none, none, some (.iload_n 1, 1, 0, 0), some (.dup2, 1, 0, 0), some (.iaload, 1, 0, 0), some (.iload 4, 2, 0, 0), none, some (.iadd, 1, 0, 0), some (.iastore, 1, 0, 0), some (.aload_n 0, 1, 0, 0), some (.getfield 74, 3, 6, 22), none, none, some (.bipush 20, 2, 0, 0), none, some (.iload_n 1, 1, 0, 0), some (.imul, 1, 0, 0), some (.aload_n 0, 1, 0, 0), some (.getfield 184, 3, 6, 45), none, none, some (.bipush 20, 2, 0, 0), none, some (.irem, 1, 0, 0), some (.iadd, 1, 0, 0), some (.dup2, 1, 0, 0), some (.iaload, 1, 0, 0), some (.iload 4, 2, 0, 0), none, some (.iadd, 1, 0, 0), some (.iastore, 1, 0, 0), some (.iload 4, 2, 0, 0), none, some (.iload_n 3, 1, 0, 0), some (.if_icmp .ne 8, 3, 167, 0), none, none, some (.aload_n 0, 1, 0, 0), some (.iload_n 1, 1, 0, 0), some (.invokevirtual 190, 3, 105, 2), none, none, some (.goto (-133), 3, 34, 0), none, none, some (.return_, 1, 0, 0)]
/-- 107: BundleLineModel.coming(I)V -/
def mc_X6_coming : List (Option Ent) := [some (.aload_n 0, 1, 0, 0), some (.getfield 53, 3, 6, 15), none, none, some (.iload_n 1, 1, 0, 0), some (.iaload, 1, 0, 0), some (.ifCond .le 126, 3, 132, 0), none, none, some (.aload_n 0, 1, 0, 0), some (.getfield 44, 3, 6, 12), none, none, some (.sipush 200, 3, 0, 0), none, none, some (.iload_n 1, 1, 0, 0), some (.imul, 1, 0, 0), some (.aload_n 0, 1, 0, 0), some (.getfield 50, 3, 6, 14), none, none, some (.iload_n 1, 1, 0, 0), some (.iaload, 1, 0, 0), some (.iadd, 1, 0, 0), some (.iaload, 1, 0, 0), some (.aload_n 0, 1, 0, 0), some (.getfield 184, 3, 6, 45), none, none, some (.if_icmp .ne 102, 3, 132, 0), none, none, some (.sipush 200, 3, 0, 0), none, none, some (.iload_n 1, 1, 0, 0), some (.imul, 1, 0, 0), some (.aload_n 0, 1, 0, 0), some (.getfield 50, 3, 6, 14), none, none, some (.iload_n 1, 1, 0, 0), some (.iaload, 1, 0, 0), some (.iadd, 1, 0, 0), some (.istore_n 2, 1, 0, 0), some (.aload_n 0, 1, 0, 0), some (.getfield 50, 3, 6, 14), none, none, some (.iload_n 1, 1, 0, 0), some (.aload_n 0, 1, 0, 0), some (.getfield 50, 3, 6, 14), none, none, some (.iload_n 1, 1, 0, 0), some (.iaload, 1, 0, 0), some (.iconst 1, 1, 0, 0), some (.iadd, 1, 0, 0), some (.sipush 200, 3, 0, 0), none, none, some (.irem, 1, 0, 0), some (.iastore, 1, 0, 0), some (.aload_n 0, 1, 0, 0), some (.getfield 53, 3, 6, 15), none, none, some (.iload_n 1, 1, 0, 0), some (.dup2, 1, 0, 0), some (.iaload, 1, 0, 0), some (.iconst 1, 1, 0, 0), some (.isub, 1, 0, 0), some (.iastore, 1, 0, 0), some (.aload_n 0, 1, 0, 0), some (.getfield 47, 3, 6, 13), none, none, some (.iload_n 2, 1, 0, 0), some (.iaload, 1, 0, 0), some (.iconst 1, 1, 0, 0), some (.iand, 1, 0, 0), some (.iconst 1, 1, 0, 0), some (.if_icmp .ne 6, 3, 89, 0), none, none, some (.goto (-86), 3, 0, 0), none, none, some (.aload_n 0, 1, 0, 0), some (.getfield 47, 3, 6, 13), none, none, some (.iload_n 2, 1, 0, 0), some (.iaload, 1, 0, 0), some (.iconst 1, 1, 0, 0), some (.if_icmp .le 16, 3, 112, 0), none, none, some (.aload_n 0, 1, 0, 0), some (.getfield 71, 3, 6, 21), none, none, some (.iload_n 1, 1, 0, 0), some (.dup2, 1, 0, 0), some (.iaload, 1, 0, 0), some (.iconst 1, 1, 0, 0), some (.iadd, 1, 0, 0), some (.iastore, 1, 0, 0), some (.goto (-109), 3, 0, 0), none, none, some (.aload_n 0, 1, 0, 0), some (.iload_n 1, 1, 0, 0), some (.aload_n 0, 1, 0, 0), some (.getfield 38, 3, 6, 10), none, none, some (.iload_n 2, 1, 0, 0), some (.iaload, 1, 0, 0), some (.aload_n 0, 1, 0, 0), some (.getfield 41, 3, 6, 11), none, none, some (.iload_n 2, 1, 0, 0), some (.iaload, 1, 0, 0), some (.invokevirtual 194, 3, 108, 4), none, none, some (.goto (-129), 3, 0, 0), none, none, some (.return_, 1, 0, 0)]
/-- 108: BundleLineModel.comes(III)V -/
def mc_X6_comes : List (Option Ent) := [some (.iconst 0, 1, 0, 0), some (.istore 4, 2, 0, 0), none, some (.iload 4, 2, 0, 0), none, some (.aload_n 0, 1, 0, 0), some (.getfield 155, 3, 6, 23), none, none, some (.if_icmp .ge 70, 3, 79, 0), none, none, some (.aload_n 0, 1, 0, 0), some (.getfield 59, 3, 6, 17), none, none, some (.iload_n 1, 1, 0, 0), some (.iaload, 1, 0, 0), some (.iload_n 3, 1, 0, 0), some (.if_icmp .ge 60, 3, 79, 0), none, none, some (.aload_n 0, 1, 0, 0), some (.getfield 77, 3, 6, 24), none, none, some (.iload 4, 2, 0, 0), none, some (.iaload, 1, 0, 0), some (.iconst 1, 1, 0, 0), some (.if_icmp .ne 43, 3, 73, 0), none, none, some (.aload_n 0, 1, 0, 0), some (.getfield 92, 3, 6, 29), none, none, some (.iload 4, 2, 0, 0), none, some (.iaload, 1, 0, 0), some (.iload_n 1, 1, 0, 0), some (.if_icmp .ne 32, 3, 73, 0), none, none, some (.aload_n 0, 1, 0, 0), some (.getfield 95, 3, 6, 30), none, none, some (.iload 4, 2, 0, 0), none, some (.iaload, 1, 0, 0), some (.aload_n 0, 1, 0, 0), some (.getfield 59, 3, 6, 17), none, none, some (.iload_n 1, 1, 0, 0), some (.iaload, 1, 0, 0), some (.iload_n 3, 1, 0, 0), some (.iconst 1, 1, 0, 0), some (.isub, 1, 0, 0), some (.invokestatic 137, 3, 85, 3), none, none, some (.ifCond .eq 10, 3, 73, 0), none, none, some (.aload_n 0, 1, 0, 0), some (.iload 4, 2, 0, 0), none, some (.iload_n 1, 1, 0, 0), some (.invokevirtual 198, 3, 99, 3), none, none, some (.iinc 4 1, 3, 0, 0), none, none, some (.goto (-73), 3, 3, 0), none, none, some (.aload_n 0, 1, 0, 0), some (.getfield 59, 3, 6, 17), none, none, some (.iload_n 1, 1, 0, 0), some (.iload_n 3, 1, 0, 0), some (.iconst 1, 1, 0, 0), some (.iadd, 1, 0, 0), some (.iastore, 1, 0, 0), some (.iload_n 2, 1, 0, 0), some (.bipush (-2), 2, 0, 0), none, some (.if_icmp .eq 10, 3, 101, 0), none, none, some (.aload_n 0, 1, 0, 0), some (.getfield 77, 3, 6, 24), none, none, some (.iload_n 2, 1, 0, 0), some (.iconst 3, 1, 0, 0), some (.iastore, 1, 0, 0), some (.return_, 1, 0, 0)]
/-- 109: BundleLineModel.isWhole(I)Z -/
def mc_X6_isWhole : List (Option Ent) := [some (.iconst 1, 1, 0, 0), some (.istore_n 2, 1, 0, 0), some (.iconst 0, 1, 0, 0), some (.istore_n 3, 1, 0, 0), some (.iload_n 3, 1, 0, 0), some (.aload_n 0, 1, 0, 0), some (.getfield 107, 3, 6, 36), none, none, some (.iload_n 1, 1, 0, 0), some (.iaload, 1, 0, 0), some (.if_icmp .ge 36, 3, 47, 0), none, none, some (.iload_n 2, 1, 0, 0), some (.ifCond .eq 24, 3, 39, 0), none, none, some (.aload_n 0, 1, 0, 0), some (.getfield 77, 3, 6, 24), none, none, some (.aload_n 0, 1, 0, 0), some (.getfield 104, 3, 6, 35), none, none, some (.iload_n 1, 1, 0, 0), some (.iaload, 1, 0, 0), some (.iload_n 3, 1, 0, 0), some (.iadd, 1, 0, 0), some (.iaload, 1, 0, 0), some (.iconst 3, 1, 0, 0), some (.if_icmp .ne 7, 3, 39, 0), none, none, some (.iconst 1, 1, 0, 0), some (.goto 4, 3, 40, 0), none, none, some (.iconst 0, 1, 0, 0), some (.istore_n 2, 1, 0, 0), some (.iinc 3 1, 3, 0, 0), none, none, some (.goto (-40), 3, 4, 0), none, none, some (.iload_n 2, 1, 0, 0), some (.ireturn, 1, 1, 0)]
/-- 110: BundleLineModel.step()V -/
def mc_X6_step : List (Option Ent) := [some (.aload_n 0, 1, 0, 0), some (.dup, 1, 0, 0), some (.getfield 184, 3, 6, 45), none, none, some (.iconst 1, 1, 0, 0), some (.iadd, 1, 0, 0), some (.putfield 184, 3, 6, 45), none, none, some (.aload_n 0, 1, 0, 0), some (.invokevirtual 201, 3, 103, 1), none, none, some (.iconst 0, 1, 0, 0), some (.istore_n 1, 1, 0, 0), some (.iload_n 1, 1, 0, 0), some (.aload_n 0, 1, 0, 0), some (.getfield 134, 3, 6, 0), none, none, some (.if_icmp .ge 14, 3, 35, 0), none, none, some (.aload_n 0, 1, 0, 0), some (.iload_n 1, 1, 0, 0), some (.invokevirtual 204, 3, 106, 2), none, none, some (.iinc 1 1, 3, 0, 0), none, none, some (.goto (-16), 3, 16, 0), none, none, some (.iconst 0, 1, 0, 0), some (.istore_n 1, 1, 0, 0), some (.iload_n 1, 1, 0, 0), some (.aload_n 0, 1, 0, 0), some (.getfield 134, 3, 6, 0), none, none, some (.if_icmp .ge 14, 3, 56, 0), none, none, some (.aload_n 0, 1, 0, 0), some (.iload_n 1, 1, 0, 0), some (.invokevirtual 207, 3, 107, 2), none, none, some (.iinc 1 1, 3, 0, 0), none, none, some (.goto (-16), 3, 37, 0), none, none, some (.aload_n 0, 1, 0, 0), some (.getfield 158, 3, 6, 33), none, none, some (.aload_n 0, 1, 0, 0), some (.getfield 152, 3, 6, 32), none, none, some (.if_icmp .ge 40, 3, 104, 0), none, none, some (.aload_n 0, 1, 0, 0), some (.aload_n 0, 1, 0, 0), some (.getfield 158, 3, 6, 33), none, none, some (.invokevirtual 210, 3, 109, 2), none, none, some (.ifCond .eq 29, 3, 104, 0), none, none, some (.aload_n 0, 1, 0, 0), some (.getfield 110, 3, 6, 37), none, none, some (.aload_n 0, 1, 0, 0), some (.getfield 158, 3, 6, 33), none, none, some (.aload_n 0, 1, 0, 0), some (.getfield 184, 3, 6, 45), none, none, some (.iastore, 1, 0, 0), some (.aload_n 0, 1, 0, 0), some (.dup, 1, 0, 0), some (.getfield 158, 3, 6, 33), none, none, some (.iconst 1, 1, 0, 0), some (.iadd, 1, 0, 0), some (.putfield 158, 3, 6, 33), none, none, some (.goto (-45), 3, 56, 0), none, none, some (.iconst 0, 1, 0, 0), some (.istore_n 1, 1, 0, 0), some (.iload_n 1, 1, 0, 0), some (.aload_n 0, 1, 0, 0), some (.getfield 134, 3, 6, 0), none, none, some (.if_icmp .ge 58, 3, 169, 0), none, none, some (.aload_n 0, 1, 0, 0), some (.getfield 19, 3, 6, 4), none, none, some (.iload_n 1, 1, 0, 0), some (.baload, 1, 1, 0), some (.ifCond .eq 43, 3, 163, 0), none, none, some (.aload_n 0, 1, 0, 0), some (.getfield 32, 3, 6, 8), none, none, some (.iload_n 1, 1, 0, 0), some (.iaload, 1, 0, 0), some (.ifCond .ne 34, 3, 163, 0), none, none, some (.aload_n 0, 1, 0, 0), some (.getfield 53, 3, 6, 15), none, none, some (.iload_n 1, 1, 0, 0), some (.iaload, 1, 0, 0), some (.ifCond .ne 25, 3, 163, 0), none, none, some (.aload_n 0, 1, 0, 0), some (.getfield 59, 3, 6, 17), none, none, some (.iload_n 1, 1, 0, 0), some (.iaload, 1, 0, 0), some (.aload_n 0, 1, 0, 0), some (.getfield 56, 3, 6, 16), none, none, some (.iload_n 1, 1, 0, 0), some (.iaload, 1, 0, 0), some (.if_icmp .ge 10, 3, 163, 0), none, none, some (.aload_n 0, 1, 0, 0), some (.bipush (-2), 2, 0, 0), none, some (.iload_n 1, 1, 0, 0), some (.invokevirtual 176, 3, 102, 3), none, none, some (.iinc 1 1, 3, 0, 0), none, none, some (.goto (-60), 3, 106, 0), none, none, some (.return_, 1, 0, 0)]
/-- 111: BundleLineModel.tick(I)I -/
def mc_X6_tick : List (Option Ent) := [some (.iload_n 1, 1, 0, 0), some (.iconst 1, 1, 0, 0), some (.if_icmp .ge 10, 3, 12, 0), none, none, some (.aload_n 0, 1, 0, 0), some (.bipush (-4), 2, 0, 0), none, some (.invokevirtual 141, 3, 86, 2), none, none, some (.ireturn, 1, 0, 0), some (.iload_n 1, 1, 0, 0), some (.bipush 100, 2, 0, 0), none, some (.if_icmp .gt 15, 3, 30, 0), none, none, some (.aload_n 0, 1, 0, 0), some (.getfield 184, 3, 6, 45), none, none, some (.iload_n 1, 1, 0, 0), some (.iadd, 1, 0, 0), some (.sipush 20000, 3, 0, 0), none, none, some (.if_icmp .le 10, 3, 37, 0), none, none, some (.aload_n 0, 1, 0, 0), some (.bipush (-6), 2, 0, 0), none, some (.invokevirtual 141, 3, 86, 2), none, none, some (.ireturn, 1, 0, 0), some (.aload_n 0, 1, 0, 0), some (.getfield 158, 3, 6, 33), none, none, some (.istore_n 2, 1, 0, 0), some (.iconst 0, 1, 0, 0), some (.istore_n 3, 1, 0, 0), some (.iload_n 3, 1, 0, 0), some (.iload_n 1, 1, 0, 0), some (.if_icmp .ge 13, 3, 59, 0), none, none, some (.aload_n 0, 1, 0, 0), some (.invokevirtual 213, 3, 110, 1), none, none, some (.iinc 3 1, 3, 0, 0), none, none, some (.goto (-12), 3, 44, 0), none, none, some (.aload_n 0, 1, 0, 0), some (.getfield 158, 3, 6, 33), none, none, some (.iload_n 2, 1, 0, 0), some (.isub, 1, 0, 0), some (.ireturn, 1, 0, 0)]
/-- 112: BundleLineModel.firstNot(II)I -/
def mc_X6_firstNot : List (Option Ent) := [some (.iconst 0, 1, 0, 0), some (.istore_n 3, 1, 0, 0), some (.iload_n 3, 1, 0, 0), some (.aload_n 0, 1, 0, 0), some (.getfield 53, 3, 6, 15), none, none, some (.iload_n 1, 1, 0, 0), some (.iaload, 1, 0, 0), some (.if_icmp .ge 44, 3, 53, 0), none, none, some (.sipush 200, 3, 0, 0), none, none, some (.iload_n 1, 1, 0, 0), some (.imul, 1, 0, 0), some (.aload_n 0, 1, 0, 0), some (.getfield 50, 3, 6, 14), none, none, some (.iload_n 1, 1, 0, 0), some (.iaload, 1, 0, 0), some (.iload_n 3, 1, 0, 0), some (.iadd, 1, 0, 0), some (.sipush 200, 3, 0, 0), none, none, some (.irem, 1, 0, 0), some (.iadd, 1, 0, 0), some (.istore 4, 2, 0, 0), none, some (.aload_n 0, 1, 0, 0), some (.getfield 47, 3, 6, 13), none, none, some (.iload 4, 2, 0, 0), none, some (.iaload, 1, 0, 0), some (.iload_n 2, 1, 0, 0), some (.iand, 1, 0, 0), some (.ifCond .ne 6, 3, 47, 0), none, none, some (.iload 4, 2, 0, 0), none, some (.ireturn, 1, 0, 0), some (.iinc 3 1, 3, 0, 0), none, none, some (.goto (-48), 3, 2, 0), none, none, some (.bipush (-9), 2, 0, 0), none, some (.ireturn, 1, 0, 0)]
/-- 113: BundleLineModel.lose(I)I -/
def mc_X6_lose_ : List (Option Ent) := [some (.aload_n 0, 1, 0, 0), some (.iload_n 1, 1, 0, 0), some (.invokevirtual 145, 3, 87, 2), none, none, some (.ifCond .ne 9, 3, 14, 0), none, none, some (.aload_n 0, 1, 0, 0), some (.iconst (-1), 1, 0, 0), some (.invokevirtual 141, 3, 86, 2), none, none, some (.ireturn, 1, 0, 0), some (.aload_n 0, 1, 0, 0), some (.getfield 7, 3, 6, 1), none, none, some (.iload_n 1, 1, 0, 0), some (.iaload, 1, 0, 0), some (.ifCond .eq 13, 3, 33, 0), none, none, some (.aload_n 0, 1, 0, 0), some (.getfield 7, 3, 6, 1), none, none, some (.iload_n 1, 1, 0, 0), some (.iaload, 1, 0, 0), some (.iconst 1, 1, 0, 0), some (.if_icmp .ne 10, 3, 40, 0), none, none, some (.aload_n 0, 1, 0, 0), some (.bipush (-2), 2, 0, 0), none, some (.invokevirtual 141, 3, 86, 2), none, none, some (.ireturn, 1, 0, 0), some (.aload_n 0, 1, 0, 0), some (.iload_n 1, 1, 0, 0), some (.iconst 1, 1, 0, 0), some (.invokevirtual 216, 3, 112, 3), none, none, some (.istore_n 2, 1, 0, 0), some (.iload_n 2, 1, 0, 0), some (.bipush (-9), 2, 0, 0), none, some (.if_icmp .ne 10, 3, 60, 0), none, none, some (.aload_n 0, 1, 0, 0), some (.bipush (-5), 2, 0, 0), none, some (.invokevirtual 141, 3, 86, 2), none, none, some (.ireturn, 1, 0, 0), some (.aload_n 0, 1, 0, 0), some (.getfield 47, 3, 6, 13), none, none, some (.iload_n 2, 1, 0, 0), some (.dup2, 1, 0, 0), some (.iaload, 1, 0, 0), some (.iconst 1, 1, 0, 0), some (.ior, 1, 0, 0), some (.iastore, 1, 0, 0), some (.aload_n 0, 1, 0, 0), some (.getfield 38, 3, 6, 10), none, none, some (.iload_n 2, 1, 0, 0), some (.iaload, 1, 0, 0), some (.bipush (-2), 2, 0, 0), none, some (.if_icmp .ne 8, 3, 86, 0), none, none, some (.bipush (-9), 2, 0, 0), none, some (.goto 9, 3, 92, 0), none, none, some (.aload_n 0, 1, 0, 0), some (.getfield 38, 3, 6, 10), none, none, some (.iload_n 2, 1, 0, 0), some (.iaload, 1, 0, 0), some (.ireturn, 1, 0, 0)]
/-- 114: BundleLineModel.bend(III)I -/
def mc_X6_bend : List (Option Ent) := [some (.aload_n 0, 1, 0, 0), some (.iload_n 1, 1, 0, 0), some (.invokevirtual 145, 3, 87, 2), none, none, some (.ifCond .ne 9, 3, 14, 0), none, none, some (.aload_n 0, 1, 0, 0), some (.iconst (-1), 1, 0, 0), some (.invokevirtual 141, 3, 86, 2), none, none, some (.ireturn, 1, 0, 0), some (.iload_n 3, 1, 0, 0), some (.iconst 1, 1, 0, 0), some (.if_icmp .ge 10, 3, 26, 0), none, none, some (.aload_n 0, 1, 0, 0), some (.bipush (-4), 2, 0, 0), none, some (.invokevirtual 141, 3, 86, 2), none, none, some (.ireturn, 1, 0, 0), some (.iload_n 3, 1, 0, 0), some (.sipush 255, 3, 0, 0), none, none, some (.if_icmp .le 10, 3, 40, 0), none, none, some (.aload_n 0, 1, 0, 0), some (.bipush (-6), 2, 0, 0), none, some (.invokevirtual 141, 3, 86, 2), none, none, some (.ireturn, 1, 0, 0), some (.aload_n 0, 1, 0, 0), some (.iload_n 1, 1, 0, 0), some (.iconst 3, 1, 0, 0), some (.invokevirtual 216, 3, 112, 3), none, none, some (.istore 4, 2, 0, 0), none, some (.iload 4, 2, 0, 0), none, some (.bipush (-9), 2, 0, 0), none, some (.if_icmp .ne 10, 3, 62, 0), none, none, some (.aload_n 0, 1, 0, 0), some (.bipush (-5), 2, 0, 0), none, some (.invokevirtual 141, 3, 86, 2), none, none, some (.ireturn, 1, 0, 0), some (.aload_n 0, 1, 0, 0), some (.getfield 38, 3, 6, 10), none, none, some (.iload 4, 2, 0, 0), none, some (.iaload, 1, 0, 0), some (.bipush (-2), 2, 0, 0), none, some (.if_icmp .ne 10, 3, 81, 0), none, none, some (.aload_n 0, 1, 0, 0), some (.bipush (-2), 2, 0, 0), none, some (.invokevirtual 141, 3, 86, 2), none, none, some (.ireturn, 1, 0, 0), some (.iload_n 2, 1, 0, 0), some (.iconst 0, 1, 0, 0), some (.aload_n 0, 1, 0, 0), some (.getfield 86, 3, 6, 27), none, none, some (.aload_n 0, 1, 0, 0), some (.getfield 38, 3, 6, 10), none, none, some (.iload 4, 2, 0, 0), none, some (.iaload, 1, 0, 0), some (.iaload, 1, 0, 0), some (.iconst 1, 1, 0, 0), some (.isub, 1, 0, 0), some (.invokestatic 137, 3, 85, 3), none, none, some (.ifCond .ne 10, 3, 110, 0), none, none, some (.aload_n 0, 1, 0, 0), some (.bipush (-3), 2, 0, 0), none, some (.invokevirtual 141, 3, 86, 2), none, none, some (.ireturn, 1, 0, 0), some (.aload_n 0, 1, 0, 0), some (.getfield 47, 3, 6, 13), none, none, some (.iload 4, 2, 0, 0), none, some (.dup2, 1, 0, 0), some (.iaload, 1, 0, 0), some (.iconst 2, 1, 0, 0), some (.ior, 1, 0, 0), some (.iastore, 1, 0, 0), some (.aload_n 0, 1, 0, 0), some (.getfield 38, 3, 6, 10), none, none, some (.iload 4, 2, 0, 0), none, some (.iaload, 1, 0, 0), some (.ireturn, 1, 0, 0)]
/-- 115: BundleLineModel.fall(I)I -/
def mc_X6_fall : List (Option Ent) := [some (.aload_n 0, 1, 0, 0), some (.iload_n 1, 1, 0, 0), some (.invokevirtual 145, 3, 87, 2), none, none, some (.ifCond .ne 9, 3, 14, 0), none, none, some (.aload_n 0, 1, 0, 0), some (.iconst (-1), 1, 0, 0), some (.invokevirtual 141, 3, 86, 2), none, none, some (.ireturn, 1, 0, 0), some (.aload_n 0, 1, 0, 0), some (.getfield 19, 3, 6, 4), none, none, some (.iload_n 1, 1, 0, 0), some (.baload, 1, 1, 0), some (.ifCond .ne 10, 3, 30, 0), none, none, some (.aload_n 0, 1, 0, 0), some (.bipush (-5), 2, 0, 0), none, some (.invokevirtual 141, 3, 86, 2), none, none, some (.ireturn, 1, 0, 0), some (.aload_n 0, 1, 0, 0), some (.getfield 19, 3, 6, 4), none, none, some (.iload_n 1, 1, 0, 0), some (.iconst 0, 1, 0, 0), some (.bastore, 1, 1, 0), some (.iconst 0, 1, 0, 0), some (.istore_n 2, 1, 0, 0), some (.iconst 0, 1, 0, 0), some (.istore_n 3, 1, 0, 0), some (.iload_n 3, 1, 0, 0), some (.aload_n 0, 1, 0, 0), some (.getfield 155, 3, 6, 23), none, none, some (.if_icmp .ge 38, 3, 84, 0), none, none, some (.aload_n 0, 1, 0, 0), some (.getfield 77, 3, 6, 24), none, none, some (.iload_n 3, 1, 0, 0), some (.iaload, 1, 0, 0), some (.iconst 1, 1, 0, 0), some (.if_icmp .ne 22, 3, 78, 0), none, none, some (.aload_n 0, 1, 0, 0), some (.getfield 92, 3, 6, 29), none, none, some (.iload_n 3, 1, 0, 0), some (.iaload, 1, 0, 0), some (.iload_n 1, 1, 0, 0), some (.if_icmp .ne 12, 3, 78, 0), none, none, some (.aload_n 0, 1, 0, 0), some (.iload_n 3, 1, 0, 0), some (.iload_n 1, 1, 0, 0), some (.invokevirtual 198, 3, 99, 3), none, none, some (.iinc 2 1, 3, 0, 0), none, none, some (.iinc 3 1, 3, 0, 0), none, none, some (.goto (-40), 3, 41, 0), none, none, some (.aload_n 0, 1, 0, 0), some (.getfield 59, 3, 6, 17), none, none, some (.iload_n 1, 1, 0, 0), some (.aload_n 0, 1, 0, 0), some (.getfield 56, 3, 6, 16), none, none, some (.iload_n 1, 1, 0, 0), some (.iaload, 1, 0, 0), some (.iastore, 1, 0, 0), some (.aload_n 0, 1, 0, 0), some (.getfield 32, 3, 6, 8), none, none, some (.iload_n 1, 1, 0, 0), some (.iconst 0, 1, 0, 0), some (.iastore, 1, 0, 0), some (.aload_n 0, 1, 0, 0), some (.getfield 53, 3, 6, 15), none, none, some (.iload_n 1, 1, 0, 0), some (.iconst 0, 1, 0, 0), some (.iastore, 1, 0, 0), some (.aload_n 0, 1, 0, 0), some (.getfield 35, 3, 6, 9), none, none, some (.iload_n 1, 1, 0, 0), some (.iconst 0, 1, 0, 0), some (.iastore, 1, 0, 0), some (.iload_n 2, 1, 0, 0), some (.ireturn, 1, 0, 0)]
/-- 116: BundleLineModel.rise(I)I -/
def mc_X6_rise : List (Option Ent) := [some (.aload_n 0, 1, 0, 0), some (.iload_n 1, 1, 0, 0), some (.invokevirtual 145, 3, 87, 2), none, none, some (.ifCond .ne 9, 3, 14, 0), none, none, some (.aload_n 0, 1, 0, 0), some (.iconst (-1), 1, 0, 0), some (.invokevirtual 141, 3, 86, 2), none, none, some (.ireturn, 1, 0, 0), some (.aload_n 0, 1, 0, 0), some (.getfield 19, 3, 6, 4), none, none, some (.iload_n 1, 1, 0, 0), some (.baload, 1, 1, 0), some (.ifCond .eq 10, 3, 30, 0), none, none, some (.aload_n 0, 1, 0, 0), some (.bipush (-5), 2, 0, 0), none, some (.invokevirtual 141, 3, 86, 2), none, none, some (.ireturn, 1, 0, 0), some (.aload_n 0, 1, 0, 0), some (.getfield 19, 3, 6, 4), none, none, some (.iload_n 1, 1, 0, 0), some (.iconst 1, 1, 0, 0), some (.bastore, 1, 1, 0), some (.iconst 1, 1, 0, 0), some (.ireturn, 1, 0, 0)]
/-- 117: BundleLineModel.line(II)I -/
def mc_X6_line : List (Option Ent) := [some (.aload_n 0, 1, 0, 0), some (.iload_n 1, 1, 0, 0), some (.invokevirtual 145, 3, 87, 2), none, none, some (.ifCond .ne 6, 3, 11, 0), none, none, some (.bipush (-9), 2, 0, 0), none, some (.ireturn, 1, 0, 0), some (.iload_n 2, 1, 0, 0), some (.tableswitch 188 0 14 #[76, 83, 90, 97, 112, 119, 125, 132, 139, 146, 153, 160, 167, 174, 181], 76, 0, 0), none, none, none, none, none, none, none, none, none, none, none, none, none, none, none, none, none, none, none, none, none, none, none, none, none, none, none, none, none, none, none, none, none, none, none, none, none, none, none, none, none, none, none, none, none, none, none, none, none, none, none, none, none, none, none, none, none, none, none, none, none, none, none, none, none, none, none, none, none, none, none, none, none, none, none, some (.aload_n 0, 1, 0, 0), some (.getfield 7, 3, 6, 1), none, none, some (.iload_n 1, 1, 0, 0), some (.iaload, 1, 0, 0), some (.ireturn, 1, 0, 0), some (.aload_n 0, 1, 0, 0), some (.getfield 13, 3, 6, 2), none, none, some (.iload_n 1, 1, 0, 0), some (.iaload, 1, 0, 0), some (.ireturn, 1, 0, 0), some (.aload_n 0, 1, 0, 0), some (.getfield 16, 3, 6, 3), none, none, some (.iload_n 1, 1, 0, 0), some (.iaload, 1, 0, 0), some (.ireturn, 1, 0, 0), some (.aload_n 0, 1, 0, 0), some (.getfield 19, 3, 6, 4), none, none, some (.iload_n 1, 1, 0, 0), some (.baload, 1, 1, 0), some (.ifCond .eq 7, 3, 122, 0), none, none, some (.iconst 1, 1, 0, 0), some (.goto 4, 3, 123, 0), none, none, some (.iconst 0, 1, 0, 0), some (.ireturn, 1, 0, 0), some (.aload_n 0, 1, 0, 0), some (.getfield 32, 3, 6, 8), none, none, some (.iload_n 1, 1, 0, 0), some (.iaload, 1, 0, 0), some (.ireturn, 1, 0, 0), some (.aload_n 0, 1, 0, 0), some (.iload_n 1, 1, 0, 0), some (.invokevirtual 167, 3, 98, 2), none, none, some (.ireturn, 1, 0, 0), some (.aload_n 0, 1, 0, 0), some (.getfield 53, 3, 6, 15), none, none, some (.iload_n 1, 1, 0, 0), some (.iaload, 1, 0, 0), some (.ireturn, 1, 0, 0), some (.aload_n 0, 1, 0, 0), some (.getfield 56, 3, 6, 16), none, none, some (.iload_n 1, 1, 0, 0), some (.iaload, 1, 0, 0), some (.ireturn, 1, 0, 0), some (.aload_n 0, 1, 0, 0), some (.getfield 59, 3, 6, 17), none, none, some (.iload_n 1, 1, 0, 0), some (.iaload, 1, 0, 0), some (.ireturn, 1, 0, 0), some (.aload_n 0, 1, 0, 0), some (.getfield 62, 3, 6, 18), none, none, some (.iload_n 1, 1, 0, 0), some (.iaload, 1, 0, 0), some (.ireturn, 1, 0, 0), some (.aload_n 0, 1, 0, 0), some (.getfield 65, 3, 6, 19), none, none, some (.iload_n 1, 1, 0, 0), some (.iaload, 1, 0, 0), some (.ireturn, 1, 0, 0), some (.aload_n 0, 1, 0, 0), some (.getfield 68, 3, 6, 20), none, none, some (.iload_n 1, 1, 0, 0), some (.iaload, 1, 0, 0), some (.ireturn, 1, 0, 0), some (.aload_n 0, 1, 0, 0), some (.getfield 71, 3, 6, 21), none, none, some (.iload_n 1, 1, 0, 0), some (.iaload, 1, 0, 0), some (.ireturn, 1, 0, 0), some (.aload_n 0, 1, 0, 0), some (.getfield 23, 3, 6, 5), none, none, some (.iload_n 1, 1, 0, 0), some (.iaload, 1, 0, 0), some (.ireturn, 1, 0, 0), some (.aload_n 0, 1, 0, 0), some (.getfield 26, 3, 6, 6), none, none, some (.iload_n 1, 1, 0, 0), some (.iaload, 1, 0, 0), some (.ireturn, 1, 0, 0), some (.bipush (-9), 2, 0, 0), none, some (.ireturn, 1, 0, 0)]
/-- 118: BundleLineModel.isPiece(I)Z -/
def mc_X6_isPiece : List (Option Ent) := [some (.iload_n 1, 1, 0, 0), some (.iconst 0, 1, 0, 0), some (.aload_n 0, 1, 0, 0), some (.getfield 155, 3, 6, 23), none, none, some (.iconst 1, 1, 0, 0), some (.isub, 1, 0, 0), some (.invokestatic 137, 3, 85, 3), none, none, some (.ireturn, 1, 1, 0)]
/-- 119: BundleLineModel.piece(II)I -/
def mc_X6_piece : List (Option Ent) := [some (.aload_n 0, 1, 0, 0), some (.iload_n 1, 1, 0, 0), some (.invokevirtual 220, 3, 118, 2), none, none, some (.ifCond .ne 6, 3, 11, 0), none, none, some (.bipush (-9), 2, 0, 0), none, some (.ireturn, 1, 0, 0), some (.iload_n 2, 1, 0, 0), some (.tableswitch 120 0 6 #[44, 51, 58, 65, 72, 79, 114], 44, 0, 0), none, none, none, none, none, none, none, none, none, none, none, none, none, none, none, none, none, none, none, none, none, none, none, none, none, none, none, none, none, none, none, none, none, none, none, none, none, none, none, none, none, none, none, some (.aload_n 0, 1, 0, 0), some (.getfield 77, 3, 6, 24), none, none, some (.iload_n 1, 1, 0, 0), some (.iaload, 1, 0, 0), some (.ireturn, 1, 0, 0), some (.aload_n 0, 1, 0, 0), some (.getfield 80, 3, 6, 25), none, none, some (.iload_n 1, 1, 0, 0), some (.iaload, 1, 0, 0), some (.ireturn, 1, 0, 0), some (.aload_n 0, 1, 0, 0), some (.getfield 86, 3, 6, 27), none, none, some (.iload_n 1, 1, 0, 0), some (.iaload, 1, 0, 0), some (.ireturn, 1, 0, 0), some (.aload_n 0, 1, 0, 0), some (.getfield 89, 3, 6, 28), none, none, some (.iload_n 1, 1, 0, 0), some (.iaload, 1, 0, 0), some (.ireturn, 1, 0, 0), some (.aload_n 0, 1, 0, 0), some (.getfield 92, 3, 6, 29), none, none, some (.iload_n 1, 1, 0, 0), some (.iaload, 1, 0, 0), some (.ireturn, 1, 0, 0), some (.iload_n 1, 1, 0, 0), some (.aload_n 0, 1, 0, 0), some (.getfield 104, 3, 6, 35), none, none, some (.aload_n 0, 1, 0, 0), some (.getfield 80, 3, 6, 25), none, none, some (.iload_n 1, 1, 0, 0), some (.iaload, 1, 0, 0), some (.iaload, 1, 0, 0), some (.aload_n 0, 1, 0, 0), some (.getfield 107, 3, 6, 36), none, none, some (.aload_n 0, 1, 0, 0), some (.getfield 80, 3, 6, 25), none, none, some (.iload_n 1, 1, 0, 0), some (.iaload, 1, 0, 0), some (.iaload, 1, 0, 0), some (.iadd, 1, 0, 0), some (.iconst 1, 1, 0, 0), some (.isub, 1, 0, 0), some (.if_icmp .ne 7, 3, 124, 0), none, none, some (.iconst 1, 1, 0, 0), some (.goto 4, 3, 125, 0), none, none, some (.iconst 0, 1, 0, 0), some (.ireturn, 1, 0, 0), some (.aload_n 0, 1, 0, 0), some (.iload_n 1, 1, 0, 0), some (.invokevirtual 223, 3, 95, 2), none, none, some (.ireturn, 1, 0, 0), some (.bipush (-9), 2, 0, 0), none, some (.ireturn, 1, 0, 0)]
/-- 120: BundleLineModel.lostOn(II)I -/
def mc_X6_lostOn : List (Option Ent) := [some (.aload_n 0, 1, 0, 0), some (.iload_n 1, 1, 0, 0), some (.invokevirtual 220, 3, 118, 2), none, none, some (.ifCond .eq 25, 3, 30, 0), none, none, some (.aload_n 0, 1, 0, 0), some (.iload_n 2, 1, 0, 0), some (.invokevirtual 145, 3, 87, 2), none, none, some (.ifCond .eq 17, 3, 30, 0), none, none, some (.aload_n 0, 1, 0, 0), some (.getfield 98, 3, 6, 31), none, none, some (.bipush 8, 2, 0, 0), none, some (.iload_n 1, 1, 0, 0), some (.imul, 1, 0, 0), some (.iload_n 2, 1, 0, 0), some (.iadd, 1, 0, 0), some (.iaload, 1, 0, 0), some (.goto 5, 3, 32, 0), none, none, some (.bipush (-9), 2, 0, 0), none, some (.ireturn, 1, 0, 0)]
/-- 121: BundleLineModel.queued(II)I -/
def mc_X6_queued : List (Option Ent) := [some (.aload_n 0, 1, 0, 0), some (.iload_n 1, 1, 0, 0), some (.invokevirtual 145, 3, 87, 2), none, none, some (.ifCond .eq 33, 3, 38, 0), none, none, some (.iload_n 2, 1, 0, 0), some (.iconst 0, 1, 0, 0), some (.aload_n 0, 1, 0, 0), some (.getfield 32, 3, 6, 8), none, none, some (.iload_n 1, 1, 0, 0), some (.iaload, 1, 0, 0), some (.iconst 1, 1, 0, 0), some (.isub, 1, 0, 0), some (.invokestatic 137, 3, 85, 3), none, none, some (.ifCond .eq 17, 3, 38, 0), none, none, some (.aload_n 0, 1, 0, 0), some (.getfield 29, 3, 6, 7), none, none, some (.bipush 41, 2, 0, 0), none, some (.iload_n 1, 1, 0, 0), some (.imul, 1, 0, 0), some (.iload_n 2, 1, 0, 0), some (.iadd, 1, 0, 0), some (.iaload, 1, 0, 0), some (.goto 5, 3, 40, 0), none, none, some (.bipush (-9), 2, 0, 0), none, some (.ireturn, 1, 0, 0)]
/-- 122: BundleLineModel.under(III)I -/
def mc_X6_under : List (Option Ent) := [some (.aload_n 0, 1, 0, 0), some (.iload_n 1, 1, 0, 0), some (.invokevirtual 145, 3, 87, 2), none, none, some (.ifCond .eq 28, 3, 33, 0), none, none, some (.iload_n 2, 1, 0, 0), some (.iconst 0, 1, 0, 0), some (.aload_n 0, 1, 0, 0), some (.getfield 53, 3, 6, 15), none, none, some (.iload_n 1, 1, 0, 0), some (.iaload, 1, 0, 0), some (.iconst 1, 1, 0, 0), some (.isub, 1, 0, 0), some (.invokestatic 137, 3, 85, 3), none, none, some (.ifCond .eq 12, 3, 33, 0), none, none, some (.iload_n 3, 1, 0, 0), some (.iconst 0, 1, 0, 0), some (.iconst 3, 1, 0, 0), some (.invokestatic 137, 3, 85, 3), none, none, some (.ifCond .ne 6, 3, 36, 0), none, none, some (.bipush (-9), 2, 0, 0), none, some (.ireturn, 1, 0, 0), some (.sipush 200, 3, 0, 0), none, none, some (.iload_n 1, 1, 0, 0), some (.imul, 1, 0, 0), some (.aload_n 0, 1, 0, 0), some (.getfield 50, 3, 6, 14), none, none, some (.iload_n 1, 1, 0, 0), some (.iaload, 1, 0, 0), some (.iload_n 2, 1, 0, 0), some (.iadd, 1, 0, 0), some (.sipush 200, 3, 0, 0), none, none, some (.irem, 1, 0, 0), some (.iadd, 1, 0, 0), some (.istore 4, 2, 0, 0), none, some (.iload_n 3, 1, 0, 0), some (.ifCond .ne 13, 3, 70, 0), none, none, some (.aload_n 0, 1, 0, 0), some (.getfield 38, 3, 6, 10), none, none, some (.iload 4, 2, 0, 0), none, some (.iaload, 1, 0, 0), some (.goto 40, 3, 107, 0), none, none, some (.iload_n 3, 1, 0, 0), some (.iconst 1, 1, 0, 0), some (.if_icmp .ne 13, 3, 85, 0), none, none, some (.aload_n 0, 1, 0, 0), some (.getfield 41, 3, 6, 11), none, none, some (.iload 4, 2, 0, 0), none, some (.iaload, 1, 0, 0), some (.goto 25, 3, 107, 0), none, none, some (.iload_n 3, 1, 0, 0), some (.iconst 2, 1, 0, 0), some (.if_icmp .ne 13, 3, 100, 0), none, none, some (.aload_n 0, 1, 0, 0), some (.getfield 44, 3, 6, 12), none, none, some (.iload 4, 2, 0, 0), none, some (.iaload, 1, 0, 0), some (.goto 10, 3, 107, 0), none, none, some (.aload_n 0, 1, 0, 0), some (.getfield 47, 3, 6, 13), none, none, some (.iload 4, 2, 0, 0), none, some (.iaload, 1, 0, 0), some (.ireturn, 1, 0, 0)]
/-- 123: BundleLineModel.waits(I)I -/
def mc_X6_waits : List (Option Ent) := [some (.iload_n 1, 1, 0, 0), some (.istore_n 2, 1, 0, 0), some (.iconst 0, 1, 0, 0), some (.istore_n 3, 1, 0, 0), some (.iload_n 3, 1, 0, 0), some (.aload_n 0, 1, 0, 0), some (.getfield 155, 3, 6, 23), none, none, some (.if_icmp .ge 37, 3, 46, 0), none, none, some (.iload_n 1, 1, 0, 0), some (.ifCond .lt 33, 3, 46, 0), none, none, some (.iload_n 2, 1, 0, 0), some (.aload_n 0, 1, 0, 0), some (.getfield 77, 3, 6, 24), none, none, some (.iload_n 3, 1, 0, 0), some (.iaload, 1, 0, 0), some (.iconst 2, 1, 0, 0), some (.if_icmp .ne 7, 3, 31, 0), none, none, some (.iconst 1, 1, 0, 0), some (.goto 4, 3, 32, 0), none, none, some (.iconst 0, 1, 0, 0), some (.isub, 1, 0, 0), some (.istore_n 2, 1, 0, 0), some (.iload_n 2, 1, 0, 0), some (.ifCond .ge 5, 3, 40, 0), none, none, some (.iload_n 3, 1, 0, 0), some (.ireturn, 1, 0, 0), some (.iinc 3 1, 3, 0, 0), none, none, some (.goto (-39), 3, 4, 0), none, none, some (.iconst 0, 1, 0, 0), some (.istore_n 3, 1, 0, 0), some (.iload_n 3, 1, 0, 0), some (.aload_n 0, 1, 0, 0), some (.getfield 155, 3, 6, 23), none, none, some (.if_icmp .ge 36, 3, 89, 0), none, none, some (.iload_n 1, 1, 0, 0), some (.ifCond .lt 32, 3, 89, 0), none, none, some (.iload_n 2, 1, 0, 0), some (.aload_n 0, 1, 0, 0), some (.getfield 77, 3, 6, 24), none, none, some (.iload_n 3, 1, 0, 0), some (.iaload, 1, 0, 0), some (.ifCond .ne 7, 3, 74, 0), none, none, some (.iconst 1, 1, 0, 0), some (.goto 4, 3, 75, 0), none, none, some (.iconst 0, 1, 0, 0), some (.isub, 1, 0, 0), some (.istore_n 2, 1, 0, 0), some (.iload_n 2, 1, 0, 0), some (.ifCond .ge 5, 3, 83, 0), none, none, some (.iload_n 3, 1, 0, 0), some (.ireturn, 1, 0, 0), some (.iinc 3 1, 3, 0, 0), none, none, some (.goto (-38), 3, 48, 0), none, none, some (.bipush (-9), 2, 0, 0), none, some (.ireturn, 1, 0, 0)]
/-- 124: BundleLineModel.isFrame(I)Z -/
def mc_X6_isFrame : List (Option Ent) := [some (.iload_n 1, 1, 0, 0), some (.iconst 0, 1, 0, 0), some (.aload_n 0, 1, 0, 0), some (.getfield 152, 3, 6, 32), none, none, some (.iconst 1, 1, 0, 0), some (.isub, 1, 0, 0), some (.invokestatic 137, 3, 85, 3), none, none, some (.ireturn, 1, 1, 0)]
/-- 125: BundleLineModel.got(II)I -/
def mc_X6_got : List (Option Ent) := [some (.aload_n 0, 1, 0, 0), some (.iload_n 1, 1, 0, 0), some (.invokevirtual 226, 3, 124, 2), none, none, some (.ifCond .ne 9, 3, 14, 0), none, none, some (.aload_n 0, 1, 0, 0), some (.iconst (-1), 1, 0, 0), some (.invokevirtual 141, 3, 86, 2), none, none, some (.ireturn, 1, 0, 0), some (.iload_n 1, 1, 0, 0), some (.aload_n 0, 1, 0, 0), some (.getfield 158, 3, 6, 33), none, none, some (.if_icmp .ge 30, 3, 49, 0), none, none, some (.iload_n 1, 1, 0, 0), some (.aload_n 0, 1, 0, 0), some (.getfield 158, 3, 6, 33), none, none, some (.bipush 20, 2, 0, 0), none, some (.isub, 1, 0, 0), some (.if_icmp .lt 19, 3, 49, 0), none, none, some (.iload_n 2, 1, 0, 0), some (.iconst (-1), 1, 0, 0), some (.aload_n 0, 1, 0, 0), some (.getfield 101, 3, 6, 34), none, none, some (.iload_n 1, 1, 0, 0), some (.iaload, 1, 0, 0), some (.iconst 1, 1, 0, 0), some (.isub, 1, 0, 0), some (.invokestatic 137, 3, 85, 3), none, none, some (.ifCond .ne 10, 3, 56, 0), none, none, some (.aload_n 0, 1, 0, 0), some (.bipush (-3), 2, 0, 0), none, some (.invokevirtual 141, 3, 86, 2), none, none, some (.ireturn, 1, 0, 0), some (.iload_n 2, 1, 0, 0), some (.ifCond .ge 12, 3, 69, 0), none, none, some (.aload_n 0, 1, 0, 0), some (.getfield 101, 3, 6, 34), none, none, some (.iload_n 1, 1, 0, 0), some (.iaload, 1, 0, 0), some (.goto 20, 3, 86, 0), none, none, some (.aload_n 0, 1, 0, 0), some (.getfield 117, 3, 6, 39), none, none, some (.aload_n 0, 1, 0, 0), some (.getfield 113, 3, 6, 38), none, none, some (.iload_n 1, 1, 0, 0), some (.iaload, 1, 0, 0), some (.iload_n 2, 1, 0, 0), some (.iadd, 1, 0, 0), some (.baload, 1, 0, 0), some (.sipush 255, 3, 0, 0), none, none, some (.iand, 1, 0, 0), some (.ireturn, 1, 0, 0)]
/-- 126: BundleLineModel.frameOf(II)I -/
def mc_X6_frameOf : List (Option Ent) := [some (.aload_n 0, 1, 0, 0), some (.iload_n 1, 1, 0, 0), some (.invokevirtual 226, 3, 124, 2), none, none, some (.ifCond .ne 6, 3, 11, 0), none, none, some (.bipush (-9), 2, 0, 0), none, some (.ireturn, 1, 0, 0), some (.iconst 0, 1, 0, 0), some (.istore_n 3, 1, 0, 0), some (.iconst 0, 1, 0, 0), some (.istore 4, 2, 0, 0), none, some (.iload 4, 2, 0, 0), none, some (.aload_n 0, 1, 0, 0), some (.getfield 107, 3, 6, 36), none, none, some (.iload_n 1, 1, 0, 0), some (.iaload, 1, 0, 0), some (.if_icmp .ge 35, 3, 59, 0), none, none, some (.iload_n 3, 1, 0, 0), some (.aload_n 0, 1, 0, 0), some (.getfield 77, 3, 6, 24), none, none, some (.aload_n 0, 1, 0, 0), some (.getfield 104, 3, 6, 35), none, none, some (.iload_n 1, 1, 0, 0), some (.iaload, 1, 0, 0), some (.iload 4, 2, 0, 0), none, some (.iadd, 1, 0, 0), some (.iaload, 1, 0, 0), some (.iconst 3, 1, 0, 0), some (.if_icmp .ne 7, 3, 50, 0), none, none, some (.iconst 1, 1, 0, 0), some (.goto 4, 3, 51, 0), none, none, some (.iconst 0, 1, 0, 0), some (.iadd, 1, 0, 0), some (.istore_n 3, 1, 0, 0), some (.iinc 4 1, 3, 0, 0), none, none, some (.goto (-40), 3, 16, 0), none, none, some (.iload_n 2, 1, 0, 0), some (.ifCond .ne 12, 3, 72, 0), none, none, some (.aload_n 0, 1, 0, 0), some (.getfield 101, 3, 6, 34), none, none, some (.iload_n 1, 1, 0, 0), some (.iaload, 1, 0, 0), some (.goto 56, 3, 125, 0), none, none, some (.iload_n 2, 1, 0, 0), some (.iconst 1, 1, 0, 0), some (.if_icmp .ne 12, 3, 86, 0), none, none, some (.aload_n 0, 1, 0, 0), some (.getfield 104, 3, 6, 35), none, none, some (.iload_n 1, 1, 0, 0), some (.iaload, 1, 0, 0), some (.goto 42, 3, 125, 0), none, none, some (.iload_n 2, 1, 0, 0), some (.iconst 2, 1, 0, 0), some (.if_icmp .ne 12, 3, 100, 0), none, none, some (.aload_n 0, 1, 0, 0), some (.getfield 107, 3, 6, 36), none, none, some (.iload_n 1, 1, 0, 0), some (.iaload, 1, 0, 0), some (.goto 28, 3, 125, 0), none, none, some (.iload_n 2, 1, 0, 0), some (.iconst 3, 1, 0, 0), some (.if_icmp .ne 7, 3, 109, 0), none, none, some (.iload_n 3, 1, 0, 0), some (.goto 19, 3, 125, 0), none, none, some (.iload_n 2, 1, 0, 0), some (.iconst 4, 1, 0, 0), some (.if_icmp .ne 12, 3, 123, 0), none, none, some (.aload_n 0, 1, 0, 0), some (.getfield 110, 3, 6, 37), none, none, some (.iload_n 1, 1, 0, 0), some (.iaload, 1, 0, 0), some (.goto 5, 3, 125, 0), none, none, some (.bipush (-9), 2, 0, 0), none, some (.ireturn, 1, 0, 0)]
/-- 127: BundleLineModel.skew()I -/
def mc_X6_skew : List (Option Ent) := [some (.bipush (-9), 2, 0, 0), none, some (.istore_n 1, 1, 0, 0), some (.bipush (-9), 2, 0, 0), none, some (.istore_n 2, 1, 0, 0), some (.aload_n 0, 1, 0, 0), some (.getfield 155, 3, 6, 23), none, none, some (.iconst 1, 1, 0, 0), some (.isub, 1, 0, 0), some (.istore_n 3, 1, 0, 0), some (.iload_n 3, 1, 0, 0), some (.ifCond .lt 60, 3, 74, 0), none, none, some (.aload_n 0, 1, 0, 0), some (.getfield 77, 3, 6, 24), none, none, some (.iload_n 3, 1, 0, 0), some (.iaload, 1, 0, 0), some (.iconst 3, 1, 0, 0), some (.if_icmp .eq 7, 3, 31, 0), none, none, some (.iload_n 3, 1, 0, 0), some (.goto 4, 3, 32, 0), none, none, some (.iload_n 2, 1, 0, 0), some (.istore_n 2, 1, 0, 0), some (.iload_n 1, 1, 0, 0), some (.bipush (-9), 2, 0, 0), none, some (.if_icmp .ne 30, 3, 66, 0), none, none, some (.aload_n 0, 1, 0, 0), some (.getfield 77, 3, 6, 24), none, none, some (.iload_n 3, 1, 0, 0), some (.iaload, 1, 0, 0), some (.iconst 3, 1, 0, 0), some (.if_icmp .ne 20, 3, 66, 0), none, none, some (.aload_n 0, 1, 0, 0), some (.getfield 80, 3, 6, 25), none, none, some (.iload_n 3, 1, 0, 0), some (.iaload, 1, 0, 0), some (.aload_n 0, 1, 0, 0), some (.getfield 158, 3, 6, 33), none, none, some (.if_icmp .lt 7, 3, 66, 0), none, none, some (.iload_n 3, 1, 0, 0), some (.goto 4, 3, 67, 0), none, none, some (.iload_n 1, 1, 0, 0), some (.istore_n 1, 1, 0, 0), some (.iinc 3 (-1), 3, 0, 0), none, none, some (.goto (-58), 3, 13, 0), none, none, some (.iload_n 1, 1, 0, 0), some (.bipush (-9), 2, 0, 0), none, some (.if_icmp .ne 7, 3, 84, 0), none, none, some (.iconst 0, 1, 0, 0), some (.goto 6, 3, 87, 0), none, none, some (.iload_n 1, 1, 0, 0), some (.iload_n 2, 1, 0, 0), some (.isub, 1, 0, 0), some (.ireturn, 1, 0, 0)]
/-- 128: BundleLineModel.witness(II)I -/
def mc_X6_witness : List (Option Ent) := [some (.aload_n 0, 1, 0, 0), some (.iload_n 1, 1, 0, 0), some (.invokevirtual 226, 3, 124, 2), none, none, some (.ifCond .eq 27, 3, 32, 0), none, none, some (.iload_n 1, 1, 0, 0), some (.aload_n 0, 1, 0, 0), some (.getfield 158, 3, 6, 33), none, none, some (.if_icmp .ge 19, 3, 32, 0), none, none, some (.iload_n 2, 1, 0, 0), some (.iconst 0, 1, 0, 0), some (.aload_n 0, 1, 0, 0), some (.getfield 107, 3, 6, 36), none, none, some (.iload_n 1, 1, 0, 0), some (.iaload, 1, 0, 0), some (.iconst 1, 1, 0, 0), some (.isub, 1, 0, 0), some (.invokestatic 137, 3, 85, 3), none, none, some (.ifCond .ne 6, 3, 35, 0), none, none, some (.bipush (-9), 2, 0, 0), none, some (.ireturn, 1, 0, 0), some (.aload_n 0, 1, 0, 0), some (.getfield 104, 3, 6, 35), none, none, some (.iload_n 1, 1, 0, 0), some (.iaload, 1, 0, 0), some (.iload_n 2, 1, 0, 0), some (.iadd, 1, 0, 0), some (.istore_n 3, 1, 0, 0), some (.bipush 100, 2, 0, 0), none, some (.aload_n 0, 1, 0, 0), some (.getfield 89, 3, 6, 28), none, none, some (.iload_n 3, 1, 0, 0), some (.iaload, 1, 0, 0), some (.imul, 1, 0, 0), some (.aload_n 0, 1, 0, 0), some (.getfield 92, 3, 6, 29), none, none, some (.iload_n 3, 1, 0, 0), some (.iaload, 1, 0, 0), some (.iadd, 1, 0, 0), some (.ireturn, 1, 0, 0)]
/-- 129: BundleLineModel.check(II)Z -/
def mc_X6_check : List (Option Ent) := [some (.aload_n 0, 1, 0, 0), some (.iload_n 1, 1, 0, 0), some (.invokevirtual 226, 3, 124, 2), none, none, some (.ifCond .eq 11, 3, 16, 0), none, none, some (.iload_n 1, 1, 0, 0), some (.aload_n 0, 1, 0, 0), some (.getfield 158, 3, 6, 33), none, none, some (.if_icmp .lt 5, 3, 18, 0), none, none, some (.iconst 0, 1, 0, 0), some (.ireturn, 1, 1, 0), some (.iconst 0, 1, 0, 0), some (.istore_n 3, 1, 0, 0), some (.iconst 0, 1, 0, 0), some (.istore 4, 2, 0, 0), none, some (.iload 4, 2, 0, 0), none, some (.aload_n 0, 1, 0, 0), some (.getfield 107, 3, 6, 36), none, none, some (.iload_n 1, 1, 0, 0), some (.iaload, 1, 0, 0), some (.if_icmp .ge 22, 3, 53, 0), none, none, some (.bipush 31, 2, 0, 0), none, some (.iload_n 3, 1, 0, 0), some (.imul, 1, 0, 0), some (.aload_n 0, 1, 0, 0), some (.iload_n 1, 1, 0, 0), some (.iload 4, 2, 0, 0), none, some (.invokevirtual 229, 3, 128, 3), none, none, some (.iadd, 1, 0, 0), some (.istore_n 3, 1, 0, 0), some (.iinc 4 1, 3, 0, 0), none, none, some (.goto (-27), 3, 23, 0), none, none, some (.iload_n 3, 1, 0, 0), some (.iload_n 2, 1, 0, 0), some (.if_icmp .ne 7, 3, 62, 0), none, none, some (.iconst 1, 1, 0, 0), some (.goto 4, 3, 63, 0), none, none, some (.iconst 0, 1, 0, 0), some (.ireturn, 1, 1, 0)]
/-- 130: BundleLineModel.many(I)I -/
def mc_X6_many : List (Option Ent) := [some (.iconst 0, 1, 0, 0), some (.istore_n 2, 1, 0, 0), some (.iconst 0, 1, 0, 0), some (.istore_n 3, 1, 0, 0), some (.iload_n 3, 1, 0, 0), some (.aload_n 0, 1, 0, 0), some (.getfield 155, 3, 6, 23), none, none, some (.if_icmp .ge 27, 3, 36, 0), none, none, some (.iload_n 2, 1, 0, 0), some (.aload_n 0, 1, 0, 0), some (.getfield 77, 3, 6, 24), none, none, some (.iload_n 3, 1, 0, 0), some (.iaload, 1, 0, 0), some (.iload_n 1, 1, 0, 0), some (.if_icmp .ne 7, 3, 27, 0), none, none, some (.iconst 1, 1, 0, 0), some (.goto 4, 3, 28, 0), none, none, some (.iconst 0, 1, 0, 0), some (.iadd, 1, 0, 0), some (.istore_n 2, 1, 0, 0), some (.iinc 3 1, 3, 0, 0), none, none, some (.goto (-29), 3, 4, 0), none, none, some (.iload_n 2, 1, 0, 0), some (.ireturn, 1, 0, 0)]
/-- 131: BundleLineModel.status(I)I -/
def mc_X6_status : List (Option Ent) := [some (.iconst 0, 1, 0, 0), some (.istore_n 2, 1, 0, 0), some (.iload_n 1, 1, 0, 0), some (.tableswitch 177 0 12 #[65, 70, 75, 80, 85, 90, 96, 102, 108, 113, 140, 145, 150], 65, 0, 0), none, none, none, none, none, none, none, none, none, none, none, none, none, none, none, none, none, none, none, none, none, none, none, none, none, none, none, none, none, none, none, none, none, none, none, none, none, none, none, none, none, none, none, none, none, none, none, none, none, none, none, none, none, none, none, none, none, none, none, none, none, none, none, none, some (.aload_n 0, 1, 0, 0), some (.getfield 184, 3, 6, 45), none, none, some (.ireturn, 1, 0, 0), some (.aload_n 0, 1, 0, 0), some (.getfield 134, 3, 6, 0), none, none, some (.ireturn, 1, 0, 0), some (.aload_n 0, 1, 0, 0), some (.getfield 152, 3, 6, 32), none, none, some (.ireturn, 1, 0, 0), some (.aload_n 0, 1, 0, 0), some (.getfield 158, 3, 6, 33), none, none, some (.ireturn, 1, 0, 0), some (.aload_n 0, 1, 0, 0), some (.getfield 155, 3, 6, 23), none, none, some (.ireturn, 1, 0, 0), some (.aload_n 0, 1, 0, 0), some (.iconst 3, 1, 0, 0), some (.invokevirtual 232, 3, 130, 2), none, none, some (.ireturn, 1, 0, 0), some (.aload_n 0, 1, 0, 0), some (.iconst 2, 1, 0, 0), some (.invokevirtual 232, 3, 130, 2), none, none, some (.ireturn, 1, 0, 0), some (.aload_n 0, 1, 0, 0), some (.iconst 0, 1, 0, 0), some (.invokevirtual 232, 3, 130, 2), none, none, some (.ireturn, 1, 0, 0), some (.aload_n 0, 1, 0, 0), some (.getfield 149, 3, 6, 42), none, none, some (.ireturn, 1, 0, 0), some (.iconst 0, 1, 0, 0), some (.istore_n 3, 1, 0, 0), some (.iload_n 3, 1, 0, 0), some (.aload_n 0, 1, 0, 0), some (.getfield 158, 3, 6, 33), none, none, some (.if_icmp .ge 18, 3, 141, 0), none, none, some (.iload_n 2, 1, 0, 0), some (.aload_n 0, 1, 0, 0), some (.getfield 101, 3, 6, 34), none, none, some (.iload_n 3, 1, 0, 0), some (.iaload, 1, 0, 0), some (.iadd, 1, 0, 0), some (.istore_n 2, 1, 0, 0), some (.iinc 3 1, 3, 0, 0), none, none, some (.goto (-20), 3, 118, 0), none, none, some (.iload_n 2, 1, 0, 0), some (.ireturn, 1, 0, 0), some (.aload_n 0, 1, 0, 0), some (.getfield 124, 3, 6, 43), none, none, some (.ireturn, 1, 0, 0), some (.aload_n 0, 1, 0, 0), some (.getfield 128, 3, 6, 44), none, none, some (.ireturn, 1, 0, 0), some (.iconst 0, 1, 0, 0), some (.istore_n 3, 1, 0, 0), some (.iload_n 3, 1, 0, 0), some (.aload_n 0, 1, 0, 0), some (.getfield 134, 3, 6, 0), none, none, some (.if_icmp .ge 18, 3, 178, 0), none, none, some (.iload_n 2, 1, 0, 0), some (.aload_n 0, 1, 0, 0), some (.getfield 68, 3, 6, 20), none, none, some (.iload_n 3, 1, 0, 0), some (.iaload, 1, 0, 0), some (.iadd, 1, 0, 0), some (.istore_n 2, 1, 0, 0), some (.iinc 3 1, 3, 0, 0), none, none, some (.goto (-20), 3, 155, 0), none, none, some (.iload_n 2, 1, 0, 0), some (.ireturn, 1, 0, 0), some (.iload_n 1, 1, 0, 0), some (.bipush 21, 2, 0, 0), none, some (.bipush 26, 2, 0, 0), none, some (.invokestatic 137, 3, 85, 3), none, none, some (.ifCond .eq 15, 3, 203, 0), none, none, some (.aload_n 0, 1, 0, 0), some (.getfield 131, 3, 6, 46), none, none, some (.iload_n 1, 1, 0, 0), some (.bipush 20, 2, 0, 0), none, some (.isub, 1, 0, 0), some (.iaload, 1, 0, 0), some (.goto 5, 3, 205, 0), none, none, some (.bipush (-9), 2, 0, 0), none, some (.ireturn, 1, 0, 0)]
/-- 132: java/util/Arrays.copyOf([BI)[B -/
def mc_J7_copyOf_9075b : List (Option Ent) := [some (.iload_n 1, 1, 0, 0), some (.aload_n 0, 1, 0, 0), some (.arraylength, 1, 0, 0), some (.if_icmp .ne 11, 3, 14, 0), none, none, some (.aload_n 0, 1, 0, 0), some (.invokevirtual 310, 3, 1003, 21), none, none, some (.checkcast 311, 3, 0, 0), none, none, some (.areturn, 1, 0, 0), some (.iload_n 1, 1, 0, 0), some (.newarray .byte, 2, 21, 0), none, some (.astore_n 2, 1, 0, 0), some (.aload_n 0, 1, 0, 0), some (.iconst 0, 1, 0, 0), some (.aload_n 2, 1, 0, 0), some (.iconst 0, 1, 0, 0), some (.aload_n 0, 1, 0, 0), some (.arraylength, 1, 0, 0), some (.iload_n 1, 1, 0, 0), some (.invokestatic 304, 3, 1001, 0), none, none, some (.invokestatic 150, 3, 1002, 0), none, none, some (.aload_n 2, 1, 0, 0), some (.areturn, 1, 0, 0)]
/-- 133: BundleLineLaw.law([I)Z -/
def mc_L_law : List (Option Ent) := [some (.new 7, 3, 0, 5), none, none, some (.dup, 1, 0, 0), some (.invokespecial 9, 3, 34, 1), none, none, some (.astore_n 1, 1, 0, 0), some (.new 10, 3, 22, 6), none, none, some (.dup, 1, 0, 0), some (.invokespecial 12, 3, 84, 1), none, none, some (.astore_n 2, 1, 0, 0), some (.iconst 0, 1, 0, 0), some (.istore_n 3, 1, 0, 0), some (.iload_n 3, 1, 0, 0), some (.aload_n 0, 1, 0, 0), some (.arraylength, 1, 1, 0), some (.iconst 4, 1, 0, 0), some (.isub, 1, 0, 0), some (.if_icmp .gt 876, 3, 899, 0), none, none, some (.aload_n 0, 1, 0, 0), some (.iload_n 3, 1, 0, 0), some (.iaload, 1, 1, 0), some (.bipush 31, 2, 0, 0), none, some (.iand, 1, 0, 0), some (.tableswitch 861 0 24 #[116, 159, 202, 265, 288, 301, 324, 347, 370, 393, 436, 459, 482, 515, 548, 581, 614, 657, 680, 713, 746, 759, 772, 805, 838], 116, 0, 0), none, none, none, none, none, none, none, none, none, none, none, none, none, none, none, none, none, none, none, none, none, none, none, none, none, none, none, none, none, none, none, none, none, none, none, none, none, none, none, none, none, none, none, none, none, none, none, none, none, none, none, none, none, none, none, none, none, none, none, none, none, none, none, none, none, none, none, none, none, none, none, none, none, none, none, none, none, none, none, none, none, none, none, none, none, none, none, none, none, none, none, none, none, none, none, none, none, none, none, none, none, none, none, none, none, none, none, none, none, none, none, none, none, none, none, some (.aload_n 1, 1, 0, 0), some (.aload_n 0, 1, 0, 0), some (.iload_n 3, 1, 0, 0), some (.iconst 1, 1, 0, 0), some (.iadd, 1, 0, 0), some (.iaload, 1, 1, 0), some (.aload_n 0, 1, 0, 0), some (.iload_n 3, 1, 0, 0), some (.iconst 2, 1, 0, 0), some (.iadd, 1, 0, 0), some (.iaload, 1, 1, 0), some (.aload_n 0, 1, 0, 0), some (.iload_n 3, 1, 0, 0), some (.iconst 3, 1, 0, 0), some (.iadd, 1, 0, 0), some (.iaload, 1, 1, 0), some (.invokevirtual 13, 3, 35, 4), none, none, some (.aload_n 2, 1, 0, 0), some (.aload_n 0, 1, 0, 0), some (.iload_n 3, 1, 0, 0), some (.iconst 1, 1, 0, 0), some (.iadd, 1, 0, 0), some (.iaload, 1, 1, 0), some (.aload_n 0, 1, 0, 0), some (.iload_n 3, 1, 0, 0), some (.iconst 2, 1, 0, 0), some (.iadd, 1, 0, 0), some (.iaload, 1, 1, 0), some (.aload_n 0, 1, 0, 0), some (.iload_n 3, 1, 0, 0), some (.iconst 3, 1, 0, 0), some (.iadd, 1, 0, 0), some (.iaload, 1, 1, 0), some (.invokevirtual 17, 3, 88, 4), none, none, some (.if_icmp .eq 707, 3, 893, 0), none, none, some (.iconst 0, 1, 0, 0), some (.ireturn, 1, 1, 0), some (.aload_n 1, 1, 0, 0), some (.aload_n 0, 1, 0, 0), some (.iload_n 3, 1, 0, 0), some (.iconst 1, 1, 0, 0), some (.iadd, 1, 0, 0), some (.iaload, 1, 1, 0), some (.aload_n 0, 1, 0, 0), some (.iload_n 3, 1, 0, 0), some (.iconst 2, 1, 0, 0), some (.iadd, 1, 0, 0), some (.iaload, 1, 1, 0), some (.aload_n 0, 1, 0, 0), some (.iload_n 3, 1, 0, 0), some (.iconst 3, 1, 0, 0), some (.iadd, 1, 0, 0), some (.iaload, 1, 1, 0), some (.invokevirtual 18, 3, 36, 4), none, none, some (.aload_n 2, 1, 0, 0), some (.aload_n 0, 1, 0, 0), some (.iload_n 3, 1, 0, 0), some (.iconst 1, 1, 0, 0), some (.iadd, 1, 0, 0), some (.iaload, 1, 1, 0), some (.aload_n 0, 1, 0, 0), some (.iload_n 3, 1, 0, 0), some (.iconst 2, 1, 0, 0), some (.iadd, 1, 0, 0), some (.iaload, 1, 1, 0), some (.aload_n 0, 1, 0, 0), some (.iload_n 3, 1, 0, 0), some (.iconst 3, 1, 0, 0), some (.iadd, 1, 0, 0), some (.iaload, 1, 1, 0), some (.invokevirtual 21, 3, 89, 4), none, none, some (.if_icmp .eq 664, 3, 893, 0), none, none, some (.iconst 0, 1, 0, 0), some (.ireturn, 1, 1, 0), some (.aload_n 1, 1, 0, 0), some (.aload_n 0, 1, 0, 0), some (.iload_n 3, 1, 0, 0), some (.iconst 1, 1, 0, 0), some (.iadd, 1, 0, 0), some (.iaload, 1, 1, 0), some (.i2l, 1, 0, 0), some (.bipush 32, 2, 0, 0), none, some (.lshl, 1, 0, 0), some (.aload_n 0, 1, 0, 0), some (.iload_n 3, 1, 0, 0), some (.iconst 2, 1, 0, 0), some (.iadd, 1, 0, 0), some (.iaload, 1, 1, 0), some (.i2l, 1, 0, 0), some (.ldc2_w 22, 3, 4294967295, 0), none, none, some (.land, 1, 0, 0), some (.lor, 1, 0, 0), some (.aload_n 0, 1, 0, 0), some (.iload_n 3, 1, 0, 0), some (.iconst 3, 1, 0, 0), some (.iadd, 1, 0, 0), some (.iaload, 1, 1, 0), some (.invokevirtual 24, 3, 37, 3), none, none, some (.aload_n 2, 1, 0, 0), some (.aload_n 0, 1, 0, 0), some (.iload_n 3, 1, 0, 0), some (.iconst 1, 1, 0, 0), some (.iadd, 1, 0, 0), some (.iaload, 1, 1, 0), some (.i2l, 1, 0, 0), some (.bipush 32, 2, 0, 0), none, some (.lshl, 1, 0, 0), some (.aload_n 0, 1, 0, 0), some (.iload_n 3, 1, 0, 0), some (.iconst 2, 1, 0, 0), some (.iadd, 1, 0, 0), some (.iaload, 1, 1, 0), some (.i2l, 1, 0, 0), some (.ldc2_w 22, 3, 4294967295, 0), none, none, some (.land, 1, 0, 0), some (.lor, 1, 0, 0), some (.aload_n 0, 1, 0, 0), some (.iload_n 3, 1, 0, 0), some (.iconst 3, 1, 0, 0), some (.iadd, 1, 0, 0), some (.iaload, 1, 1, 0), some (.invokevirtual 28, 3, 90, 3), none, none, some (.if_icmp .eq 601, 3, 893, 0), none, none, some (.iconst 0, 1, 0, 0), some (.ireturn, 1, 1, 0), some (.aload_n 1, 1, 0, 0), some (.aload_n 0, 1, 0, 0), some (.iload_n 3, 1, 0, 0), some (.iconst 1, 1, 0, 0), some (.iadd, 1, 0, 0), some (.iaload, 1, 1, 0), some (.invokevirtual 29, 3, 38, 2), none, none, some (.aload_n 2, 1, 0, 0), some (.aload_n 0, 1, 0, 0), some (.iload_n 3, 1, 0, 0), some (.iconst 1, 1, 0, 0), some (.iadd, 1, 0, 0), some (.iaload, 1, 1, 0), some (.invokevirtual 33, 3, 91, 2), none, none, some (.if_icmp .eq 578, 3, 893, 0), none, none, some (.iconst 0, 1, 0, 0), some (.ireturn, 1, 1, 0), some (.aload_n 1, 1, 0, 0), some (.invokevirtual 34, 3, 39, 1), none, none, some (.aload_n 2, 1, 0, 0), some (.invokevirtual 38, 3, 92, 1), none, none, some (.if_icmp .eq 565, 3, 893, 0), none, none, some (.iconst 0, 1, 0, 0), some (.ireturn, 1, 1, 0), some (.aload_n 1, 1, 0, 0), some (.aload_n 0, 1, 0, 0), some (.iload_n 3, 1, 0, 0), some (.iconst 1, 1, 0, 0), some (.iadd, 1, 0, 0), some (.iaload, 1, 1, 0), some (.invokevirtual 39, 3, 41, 2), none, none, some (.aload_n 2, 1, 0, 0), some (.aload_n 0, 1, 0, 0), some (.iload_n 3, 1, 0, 0), some (.iconst 1, 1, 0, 0), some (.iadd, 1, 0, 0), some (.iaload, 1, 1, 0), some (.invokevirtual 42, 3, 93, 2), none, none, some (.if_icmp .eq 542, 3, 893, 0), none, none, some (.iconst 0, 1, 0, 0), some (.ireturn, 1, 1, 0), some (.aload_n 1, 1, 0, 0), some (.aload_n 0, 1, 0, 0), some (.iload_n 3, 1, 0, 0), some (.iconst 1, 1, 0, 0), some (.iadd, 1, 0, 0), some (.iaload, 1, 1, 0), some (.invokevirtual 43, 3, 42, 2), none, none, some (.aload_n 2, 1, 0, 0), some (.aload_n 0, 1, 0, 0), some (.iload_n 3, 1, 0, 0), some (.iconst 1, 1, 0, 0), some (.iadd, 1, 0, 0), some (.iaload, 1, 1, 0), some (.invokevirtual 46, 3, 94, 2), none, none, some (.if_icmp .eq 519, 3, 893, 0), none, none, some (.iconst 0, 1, 0, 0), some (.ireturn, 1, 1, 0), some (.aload_n 1, 1, 0, 0), some (.aload_n 0, 1, 0, 0), some (.iload_n 3, 1, 0, 0), some (.iconst 1, 1, 0, 0), some (.iadd, 1, 0, 0), some (.iaload, 1, 1, 0), some (.invokevirtual 47, 3, 43, 2), none, none, some (.aload_n 2, 1, 0, 0), some (.aload_n 0, 1, 0, 0), some (.iload_n 3, 1, 0, 0), some (.iconst 1, 1, 0, 0), some (.iadd, 1, 0, 0), some (.iaload, 1, 1, 0), some (.invokevirtual 50, 3, 111, 2), none, none, some (.if_icmp .eq 496, 3, 893, 0), none, none, some (.iconst 0, 1, 0, 0), some (.ireturn, 1, 1, 0), some (.aload_n 1, 1, 0, 0), some (.aload_n 0, 1, 0, 0), some (.iload_n 3, 1, 0, 0), some (.iconst 1, 1, 0, 0), some (.iadd, 1, 0, 0), some (.iaload, 1, 1, 0), some (.invokevirtual 51, 3, 58, 2), none, none, some (.aload_n 2, 1, 0, 0), some (.aload_n 0, 1, 0, 0), some (.iload_n 3, 1, 0, 0), some (.iconst 1, 1, 0, 0), some (.iadd, 1, 0, 0), some (.iaload, 1, 1, 0), some (.invokevirtual 54, 3, 113, 2), none, none, some (.if_icmp .eq 473, 3, 893, 0), none, none, some (.iconst 0, 1, 0, 0), some (.ireturn, 1, 1, 0), some (.aload_n 1, 1, 0, 0), some (.aload_n 0, 1, 0, 0), some (.iload_n 3, 1, 0, 0), some (.iconst 1, 1, 0, 0), some (.iadd, 1, 0, 0), some (.iaload, 1, 1, 0), some (.aload_n 0, 1, 0, 0), some (.iload_n 3, 1, 0, 0), some (.iconst 2, 1, 0, 0), some (.iadd, 1, 0, 0), some (.iaload, 1, 1, 0), some (.aload_n 0, 1, 0, 0), some (.iload_n 3, 1, 0, 0), some (.iconst 3, 1, 0, 0), some (.iadd, 1, 0, 0), some (.iaload, 1, 1, 0), some (.invokevirtual 55, 3, 59, 4), none, none, some (.aload_n 2, 1, 0, 0), some (.aload_n 0, 1, 0, 0), some (.iload_n 3, 1, 0, 0), some (.iconst 1, 1, 0, 0), some (.iadd, 1, 0, 0), some (.iaload, 1, 1, 0), some (.aload_n 0, 1, 0, 0), some (.iload_n 3, 1, 0, 0), some (.iconst 2, 1, 0, 0), some (.iadd, 1, 0, 0), some (.iaload, 1, 1, 0), some (.aload_n 0, 1, 0, 0), some (.iload_n 3, 1, 0, 0), some (.iconst 3, 1, 0, 0), some (.iadd, 1, 0, 0), some (.iaload, 1, 1, 0), some (.invokevirtual 58, 3, 114, 4), none, none, some (.if_icmp .eq 430, 3, 893, 0), none, none, some (.iconst 0, 1, 0, 0), some (.ireturn, 1, 1, 0), some (.aload_n 1, 1, 0, 0), some (.aload_n 0, 1, 0, 0), some (.iload_n 3, 1, 0, 0), some (.iconst 1, 1, 0, 0), some (.iadd, 1, 0, 0), some (.iaload, 1, 1, 0), some (.invokevirtual 59, 3, 60, 2), none, none, some (.aload_n 2, 1, 0, 0), some (.aload_n 0, 1, 0, 0), some (.iload_n 3, 1, 0, 0), some (.iconst 1, 1, 0, 0), some (.iadd, 1, 0, 0), some (.iaload, 1, 1, 0), some (.invokevirtual 62, 3, 115, 2), none, none, some (.if_icmp .eq 407, 3, 893, 0), none, none, some (.iconst 0, 1, 0, 0), some (.ireturn, 1, 1, 0), some (.aload_n 1, 1, 0, 0), some (.aload_n 0, 1, 0, 0), some (.iload_n 3, 1, 0, 0), some (.iconst 1, 1, 0, 0), some (.iadd, 1, 0, 0), some (.iaload, 1, 1, 0), some (.invokevirtual 63, 3, 61, 2), none, none, some (.aload_n 2, 1, 0, 0), some (.aload_n 0, 1, 0, 0), some (.iload_n 3, 1, 0, 0), some (.iconst 1, 1, 0, 0), some (.iadd, 1, 0, 0), some (.iaload, 1, 1, 0), some (.invokevirtual 66, 3, 116, 2), none, none, some (.if_icmp .eq 384, 3, 893, 0), none, none, some (.iconst 0, 1, 0, 0), some (.ireturn, 1, 1, 0), some (.aload_n 1, 1, 0, 0), some (.aload_n 0, 1, 0, 0), some (.iload_n 3, 1, 0, 0), some (.iconst 1, 1, 0, 0), some (.iadd, 1, 0, 0), some (.iaload, 1, 1, 0), some (.aload_n 0, 1, 0, 0), some (.iload_n 3, 1, 0, 0), some (.iconst 2, 1, 0, 0), some (.iadd, 1, 0, 0), some (.iaload, 1, 1, 0), some (.invokevirtual 67, 3, 62, 3), none, none, some (.aload_n 2, 1, 0, 0), some (.aload_n 0, 1, 0, 0), some (.iload_n 3, 1, 0, 0), some (.iconst 1, 1, 0, 0), some (.iadd, 1, 0, 0), some (.iaload, 1, 1, 0), some (.aload_n 0, 1, 0, 0), some (.iload_n 3, 1, 0, 0), some (.iconst 2, 1, 0, 0), some (.iadd, 1, 0, 0), some (.iaload, 1, 1, 0), some (.invokevirtual 71, 3, 117, 3), none, none, some (.if_icmp .eq 351, 3, 893, 0), none, none, some (.iconst 0, 1, 0, 0), some (.ireturn, 1, 1, 0), some (.aload_n 1, 1, 0, 0), some (.aload_n 0, 1, 0, 0), some (.iload_n 3, 1, 0, 0), some (.iconst 1, 1, 0, 0), some (.iadd, 1, 0, 0), some (.iaload, 1, 1, 0), some (.aload_n 0, 1, 0, 0), some (.iload_n 3, 1, 0, 0), some (.iconst 2, 1, 0, 0), some (.iadd, 1, 0, 0), some (.iaload, 1, 1, 0), some (.invokevirtual 72, 3, 63, 3), none, none, some (.aload_n 2, 1, 0, 0), some (.aload_n 0, 1, 0, 0), some (.iload_n 3, 1, 0, 0), some (.iconst 1, 1, 0, 0), some (.iadd, 1, 0, 0), some (.iaload, 1, 1, 0), some (.aload_n 0, 1, 0, 0), some (.iload_n 3, 1, 0, 0), some (.iconst 2, 1, 0, 0), some (.iadd, 1, 0, 0), some (.iaload, 1, 1, 0), some (.invokevirtual 75, 3, 119, 3), none, none, some (.if_icmp .eq 318, 3, 893, 0), none, none, some (.iconst 0, 1, 0, 0), some (.ireturn, 1, 1, 0), some (.aload_n 1, 1, 0, 0), some (.aload_n 0, 1, 0, 0), some (.iload_n 3, 1, 0, 0), some (.iconst 1, 1, 0, 0), some (.iadd, 1, 0, 0), some (.iaload, 1, 1, 0), some (.aload_n 0, 1, 0, 0), some (.iload_n 3, 1, 0, 0), some (.iconst 2, 1, 0, 0), some (.iadd, 1, 0, 0), some (.iaload, 1, 1, 0), some (.invokevirtual 76, 3, 64, 3), none, none, some (.aload_n 2, 1, 0, 0), some (.aload_n 0, 1, 0, 0), some (.iload_n 3, 1, 0, 0), some (.iconst 1, 1, 0, 0), some (.iadd, 1, 0, 0), some (.iaload, 1, 1, 0), some (.aload_n 0, 1, 0, 0), some (.iload_n 3, 1, 0, 0), some (.iconst 2, 1, 0, 0), some (.iadd, 1, 0, 0), some (.iaload, 1, 1, 0), some (.invokevirtual 79, 3, 120, 3), none, none, some (.if_icmp .eq 285, 3, 893, 0), none, none, some (.iconst 0, 1, 0, 0), some (.ireturn, 1, 1, 0), some (.aload_n 1, 1, 0, 0), some (.aload_n 0, 1, 0, 0), some (.iload_n 3, 1, 0, 0), some (.iconst 1, 1, 0, 0), some (.iadd, 1, 0, 0), some (.iaload, 1, 1, 0), some (.aload_n 0, 1, 0, 0), some (.iload_n 3, 1, 0, 0), some (.iconst 2, 1, 0, 0), some (.iadd, 1, 0, 0), some (.iaload, 1, 1, 0), some (.invokevirtual 80, 3, 65, 3), none, none, some (.aload_n 2, 1, 0, 0), some (.aload_n 0, 1, 0, 0), some (.iload_n 3, 1, 0, 0), some (.iconst 1, 1, 0, 0), some (.iadd, 1, 0, 0), some (.iaload, 1, 1, 0), some (.aload_n 0, 1, 0, 0), some (.iload_n 3, 1, 0, 0), some (.iconst 2, 1, 0, 0), some (.iadd, 1, 0, 0), some (.iaload, 1, 1, 0), some (.invokevirtual 83, 3, 121, 3), none, none, some (.if_icmp .eq 252, 3, 893, 0), none, none, some (.iconst 0, 1, 0, 0), some (.ireturn, 1, 1, 0), some (.aload_n 1, 1, 0, 0), some (.aload_n 0, 1, 0, 0), some (.iload_n 3, 1, 0, 0), some (.iconst 1, 1, 0, 0), some (.iadd, 1, 0, 0), some (.iaload, 1, 1, 0), some (.aload_n 0, 1, 0, 0), some (.iload_n 3, 1, 0, 0), some (.iconst 2, 1, 0, 0), some (.iadd, 1, 0, 0), some (.iaload, 1, 1, 0), some (.aload_n 0, 1, 0, 0), some (.iload_n 3, 1, 0, 0), some (.iconst 3, 1, 0, 0), some (.iadd, 1, 0, 0), some (.iaload, 1, 1, 0), some (.invokevirtual 84, 3, 66, 4), none, none, some (.aload_n 2, 1, 0, 0), some (.aload_n 0, 1, 0, 0), some (.iload_n 3, 1, 0, 0), some (.iconst 1, 1, 0, 0), some (.iadd, 1, 0, 0), some (.iaload, 1, 1, 0), some (.aload_n 0, 1, 0, 0), some (.iload_n 3, 1, 0, 0), some (.iconst 2, 1, 0, 0), some (.iadd, 1, 0, 0), some (.iaload, 1, 1, 0), some (.aload_n 0, 1, 0, 0), some (.iload_n 3, 1, 0, 0), some (.iconst 3, 1, 0, 0), some (.iadd, 1, 0, 0), some (.iaload, 1, 1, 0), some (.invokevirtual 87, 3, 122, 4), none, none, some (.if_icmp .eq 209, 3, 893, 0), none, none, some (.iconst 0, 1, 0, 0), some (.ireturn, 1, 1, 0), some (.aload_n 1, 1, 0, 0), some (.aload_n 0, 1, 0, 0), some (.iload_n 3, 1, 0, 0), some (.iconst 1, 1, 0, 0), some (.iadd, 1, 0, 0), some (.iaload, 1, 1, 0), some (.invokevirtual 88, 3, 67, 2), none, none, some (.aload_n 2, 1, 0, 0), some (.aload_n 0, 1, 0, 0), some (.iload_n 3, 1, 0, 0), some (.iconst 1, 1, 0, 0), some (.iadd, 1, 0, 0), some (.iaload, 1, 1, 0), some (.invokevirtual 91, 3, 123, 2), none, none, some (.if_icmp .eq 186, 3, 893, 0), none, none, some (.iconst 0, 1, 0, 0), some (.ireturn, 1, 1, 0), some (.aload_n 1, 1, 0, 0), some (.aload_n 0, 1, 0, 0), some (.iload_n 3, 1, 0, 0), some (.iconst 1, 1, 0, 0), some (.iadd, 1, 0, 0), some (.iaload, 1, 1, 0), some (.aload_n 0, 1, 0, 0), some (.iload_n 3, 1, 0, 0), some (.iconst 2, 1, 0, 0), some (.iadd, 1, 0, 0), some (.iaload, 1, 1, 0), some (.invokevirtual 92, 3, 69, 3), none, none, some (.aload_n 2, 1, 0, 0), some (.aload_n 0, 1, 0, 0), some (.iload_n 3, 1, 0, 0), some (.iconst 1, 1, 0, 0), some (.iadd, 1, 0, 0), some (.iaload, 1, 1, 0), some (.aload_n 0, 1, 0, 0), some (.iload_n 3, 1, 0, 0), some (.iconst 2, 1, 0, 0), some (.iadd, 1, 0, 0), some (.iaload, 1, 1, 0), some (.invokevirtual 95, 3, 125, 3), none, none, some (.if_icmp .eq 153, 3, 893, 0), none, none, some (.iconst 0, 1, 0, 0), some (.ireturn, 1, 1, 0), some (.aload_n 1, 1, 0, 0), some (.aload_n 0, 1, 0, 0), some (.iload_n 3, 1, 0, 0), some (.iconst 1, 1, 0, 0), some (.iadd, 1, 0, 0), some (.iaload, 1, 1, 0), some (.aload_n 0, 1, 0, 0), some (.iload_n 3, 1, 0, 0), some (.iconst 2, 1, 0, 0), some (.iadd, 1, 0, 0), some (.iaload, 1, 1, 0), some (.invokevirtual 96, 3, 70, 3), none, none, some (.aload_n 2, 1, 0, 0), some (.aload_n 0, 1, 0, 0), some (.iload_n 3, 1, 0, 0), some (.iconst 1, 1, 0, 0), some (.iadd, 1, 0, 0), some (.iaload, 1, 1, 0), some (.aload_n 0, 1, 0, 0), some (.iload_n 3, 1, 0, 0), some (.iconst 2, 1, 0, 0), some (.iadd, 1, 0, 0), some (.iaload, 1, 1, 0), some (.invokevirtual 99, 3, 126, 3), none, none, some (.if_icmp .eq 120, 3, 893, 0), none, none, some (.iconst 0, 1, 0, 0), some (.ireturn, 1, 1, 0), some (.aload_n 1, 1, 0, 0), some (.invokevirtual 100, 3, 71, 1), none, none, some (.aload_n 2, 1, 0, 0), some (.invokevirtual 103, 3, 96, 1), none, none, some (.if_icmp .eq 107, 3, 893, 0), none, none, some (.iconst 0, 1, 0, 0), some (.ireturn, 1, 1, 0), some (.aload_n 1, 1, 0, 0), some (.invokevirtual 104, 3, 72, 1), none, none, some (.aload_n 2, 1, 0, 0), some (.invokevirtual 107, 3, 127, 1), none, none, some (.if_icmp .eq 94, 3, 893, 0), none, none, some (.iconst 0, 1, 0, 0), some (.ireturn, 1, 1, 0), some (.aload_n 1, 1, 0, 0), some (.aload_n 0, 1, 0, 0), some (.iload_n 3, 1, 0, 0), some (.iconst 1, 1, 0, 0), some (.iadd, 1, 0, 0), some (.iaload, 1, 1, 0), some (.aload_n 0, 1, 0, 0), some (.iload_n 3, 1, 0, 0), some (.iconst 2, 1, 0, 0), some (.iadd, 1, 0, 0), some (.iaload, 1, 1, 0), some (.invokevirtual 108, 3, 73, 3), none, none, some (.aload_n 2, 1, 0, 0), some (.aload_n 0, 1, 0, 0), some (.iload_n 3, 1, 0, 0), some (.iconst 1, 1, 0, 0), some (.iadd, 1, 0, 0), some (.iaload, 1, 1, 0), some (.aload_n 0, 1, 0, 0), some (.iload_n 3, 1, 0, 0), some (.iconst 2, 1, 0, 0), some (.iadd, 1, 0, 0), some (.iaload, 1, 1, 0), some (.invokevirtual 111, 3, 128, 3), none, none, some (.if_icmp .eq 61, 3, 893, 0), none, none, some (.iconst 0, 1, 0, 0), some (.ireturn, 1, 1, 0), some (.aload_n 1, 1, 0, 0), some (.aload_n 0, 1, 0, 0), some (.iload_n 3, 1, 0, 0), some (.iconst 1, 1, 0, 0), some (.iadd, 1, 0, 0), some (.iaload, 1, 1, 0), some (.aload_n 0, 1, 0, 0), some (.iload_n 3, 1, 0, 0), some (.iconst 2, 1, 0, 0), some (.iadd, 1, 0, 0), some (.iaload, 1, 1, 0), some (.invokevirtual 112, 3, 74, 3), none, none, some (.aload_n 2, 1, 0, 0), some (.aload_n 0, 1, 0, 0), some (.iload_n 3, 1, 0, 0), some (.iconst 1, 1, 0, 0), some (.iadd, 1, 0, 0), some (.iaload, 1, 1, 0), some (.aload_n 0, 1, 0, 0), some (.iload_n 3, 1, 0, 0), some (.iconst 2, 1, 0, 0), some (.iadd, 1, 0, 0), some (.iaload, 1, 1, 0), some (.invokevirtual 116, 3, 129, 3), none, none, some (.if_icmp .eq 28, 3, 893, 0), none, none, some (.iconst 0, 1, 0, 0), some (.ireturn, 1, 1, 0), some (.aload_n 1, 1, 0, 0), some (.aload_n 0, 1, 0, 0), some (.iload_n 3, 1, 0, 0), some (.iconst 1, 1, 0, 0), some (.iadd, 1, 0, 0), some (.iaload, 1, 1, 0), some (.invokevirtual 117, 3, 76, 2), none, none, some (.aload_n 2, 1, 0, 0), some (.aload_n 0, 1, 0, 0), some (.iload_n 3, 1, 0, 0), some (.iconst 1, 1, 0, 0), some (.iadd, 1, 0, 0), some (.iaload, 1, 1, 0), some (.invokevirtual 120, 3, 131, 2), none, none, some (.if_icmp .eq 5, 3, 893, 0), none, none, some (.iconst 0, 1, 0, 0), some (.ireturn, 1, 1, 0), some (.iinc 3 4, 3, 0, 0), none, none, some (.goto (-878), 3, 18, 0), none, none, some (.iconst 1, 1, 0, 0), some (.ireturn, 1, 1, 0)]
def mc_progs : List (List (Option Ent)) := [mc_X0_init, mc_X0_byteAt, mc_X0_sumOf, mc_X1_init, mc_X1_takesMore, mc_X1_restsUnheard, mc_X1_ticksToSend, mc_X1_sentWith, mc_X1_sendAt, mc_X1_bytesFor, mc_X1_sendBytes, mc_X1_sendFirst, mc_X1_goDown, mc_X2_init, mc_X2_lossesOn, mc_X2_addLossOn, mc_X3_init, mc_X3_numberOf, mc_X3_add, mc_X3_restOfFirst, mc_X3_takeFromFirst, mc_X3_dropFirst, mc_X3_clear, mc_X4_init, mc_X4_numberOf, mc_X4_countOf, mc_X4_comingOf, mc_X4_marksOf, mc_X4_add, mc_X4_hasComeAt, mc_X4_dropFirst, mc_X4_firstWithout, mc_X4_mark, mc_X4_clear, mc_X5_init, mc_X5_open, mc_X5_lease, mc_X5_type, mc_X5_grow, mc_X5_frame, mc_X5_cutIntoPieces, mc_X5_cut, mc_X5_room, mc_X5_tick, mc_X5_layLostPieces, mc_X5_layNewPieces, mc_X5_lineFor, mc_X5_isBetter, mc_X5_layOn, mc_X5_sendOnLines, mc_X5_takeWhatComes, mc_X5_takeFrom, mc_X5_arrive, mc_X5_loseUpTo, mc_X5_loseOn, mc_X5_giveFrames, mc_X5_restLines, mc_X5_become, mc_X5_lose, mc_X5_bend, mc_X5_fall, mc_X5_rise, mc_X5_line, mc_X5_piece, mc_X5_lostOn, mc_X5_queued, mc_X5_under, mc_X5_waits, mc_X5_lostPieceAt, mc_X5_got, mc_X5_frameOf, mc_X5_credit, mc_X5_skew, mc_X5_witness, mc_X5_check, mc_X5_witnessOf, mc_X5_status, mc_X5_allEmptiesLaid, mc_X5_refusalsOf, mc_X5_refuse, mc_X5_creditLeft, mc_X5_lineAt, mc_X5_frameAt, mc_X5_pieceAt, mc_X6_init, mc_X6_in, mc_X6_refuse, mc_X6_isLine, mc_X6_open, mc_X6_lease, mc_X6_type, mc_X6_grow, mc_X6_frame, mc_X6_cut, mc_X6_room, mc_X6_sumOf, mc_X6_credit, mc_X6_sizeOf, mc_X6_waiting, mc_X6_lose, mc_X6_isBetter, mc_X6_bestLine, mc_X6_layOn, mc_X6_laying, mc_X6_allowed, mc_X6_sendFirst, mc_X6_sending, mc_X6_coming, mc_X6_comes, mc_X6_isWhole, mc_X6_step, mc_X6_tick, mc_X6_firstNot, mc_X6_lose_, mc_X6_bend, mc_X6_fall, mc_X6_rise, mc_X6_line, mc_X6_isPiece, mc_X6_piece, mc_X6_lostOn, mc_X6_queued, mc_X6_under, mc_X6_waits, mc_X6_isFrame, mc_X6_got, mc_X6_frameOf, mc_X6_skew, mc_X6_witness, mc_X6_check, mc_X6_many, mc_X6_status, mc_J7_copyOf_9075b, mc_L_law]
end
section
/-! A small machine of our own (names for cells, tables for code), in whose words the methods are proved. -/
abbrev Nm : Type := Nat × Nat
abbrev Vl : Type := Int32 ⊕ (Int64 ⊕ Option Nm)
abbrev vI (x : Int32) : Vl := Sum.inl x
abbrev vL (x : Int64) : Vl := Sum.inr (Sum.inl x)
abbrev vR (o : Option Nm) : Vl := Sum.inr (Sum.inr o)
abbrev Ls : Type := List (Option Vl)
abbrev St : Type := List Vl
abbrev Hp : Type := (Nat → Nat) × (Nm → Nat) × (Nm → Nat → Int32) × (Nm → Nat → Option Nm) × Nat × Nat
def hpC (h : Hp) : Nat → Nat := h.1
def hpL (h : Hp) : Nm → Nat := h.2.1
def hpI (h : Hp) : Nm → Nat → Int32 := h.2.2.1
def hpR (h : Hp) : Nm → Nat → Option Nm := h.2.2.2.1
def hpN (h : Hp) : Nat := h.2.2.2.2.1
def hpS (h : Hp) : Nat := h.2.2.2.2.2
def live (h : Hp) (n : Nm) : Prop := n.2 < hpC h n.1
def setI (h : Hp) (n : Nm) (k : Nat) (v : Int32) : Hp := (h.1, h.2.1, fun n' k' => if n' = n ∧ k' = k then v else h.2.2.1 n' k', h.2.2.2)
def setR (h : Hp) (n : Nm) (k : Nat) (v : Option Nm) : Hp := (h.1, h.2.1, h.2.2.1, fun n' k' => if n' = n ∧ k' = k then v else h.2.2.2.1 n' k', h.2.2.2.2)
/-- a new cell of the kind t: of so many places, an array's length (0 of an object) -/
def newC (h : Hp) (t len size : Nat) : Hp := (fun t' => if t' = t then h.1 t + 1 else h.1 t', fun n' => if n' = (t, h.1 t) then len else h.2.1 n', fun n' k' => if n' = (t, h.1 t) then 0 else h.2.2.1 n' k', fun n' k' => if n' = (t, h.1 t) then none else h.2.2.2.1 n' k', h.2.2.2.2.1 + 1, h.2.2.2.2.2 + size)
/-- a row's ints at one stroke -/
def setF (h : Hp) (n : Nm) (f : Nat → Int32) : Hp := (h.1, h.2.1, fun n' k' => if n' = n then f k' else h.2.2.1 n' k', h.2.2.2)
def inb (i : Int32) (n : Nat) : Prop := ¬ i < 0 ∧ i.toNatClampNeg < n
def nat (i : Int32) : Nat := i.toNatClampNeg
def icB (c : ClassFile.Cond) (x y : Int32) : Prop := match c with
  | .eq => x = y
  | .ne => ¬ x = y
  | .lt => x < y
  | .ge => y ≤ x
  | .gt => y < x
  | .le => x ≤ y
def ldI (L : Ls) (i : Nat) (st : St) : Option (Ls × St) := match L[i]? with
  | some (some (.inl x)) => some (L, .inl x :: st)
  | _ => none
def ldL (L : Ls) (i : Nat) (st : St) : Option (Ls × St) := match L[i]? with
  | some (some (.inr (.inl x))) => some (L, .inr (.inl x) :: st)
  | _ => none
def ldR (L : Ls) (i : Nat) (st : St) : Option (Ls × St) := match L[i]? with
  | some (some (.inr (.inr x))) => some (L, .inr (.inr x) :: st)
  | _ => none
/-- a place behind which no long begins -/
def okst (L : Ls) (i : Nat) : Bool := match i with
  | 0 => true
  | j + 1 => match L[j]? with
    | some (some (.inr (.inl _))) => false
    | _ => true
def sto (L : Ls) (i : Nat) (v : Vl) (st : St) : Option (Ls × St) := match decide (i < L.length) && okst L i with
  | true => some (L.set i (some v), st)
  | false => none
def cat1 (v : Vl) : Bool := match v with
  | .inr (.inl _) => false
  | _ => true
/-- what needs no heap -/
def pu (ins : Instr) (a : Nat) (L : Ls) (st : St) : Option (Ls × St) := match ins, st with
  | .iload_n k, st => ldI L (k : Nat) st
  | .iload k, st => ldI L k st
  | .lload_n k, st => ldL L (k : Nat) st
  | .aload_n k, st => ldR L (k : Nat) st
  | .aload k, st => ldR L k st
  | .istore_n k, .inl x :: st => sto L (k : Nat) (.inl x) st
  | .istore k, .inl x :: st => sto L k (.inl x) st
  | .astore_n k, .inr (.inr x) :: st => sto L (k : Nat) (.inr (.inr x)) st
  | .astore k, .inr (.inr x) :: st => sto L k (.inr (.inr x)) st
  | .iinc k n, st => (match L[k]? with
    | some (some (.inl x)) => sto L k (.inl (x + Int32.ofInt n)) st
    | _ => none)
  | .iconst n, st => some (L, .inl (Int32.ofInt n) :: st)
  | .bipush n, st => some (L, .inl (Int8.ofInt n).toInt32 :: st)
  | .sipush n, st => some (L, .inl (Int16.ofInt n).toInt32 :: st)
  | .ldc _, st => some (L, .inl (Int32.ofNat a) :: st)
  | .ldc2_w _, st => some (L, .inr (.inl (Int64.ofNat a)) :: st)
  | .aconst_null, st => some (L, .inr (.inr none) :: st)
  | .iadd, .inl y :: .inl x :: st => some (L, .inl (x + y) :: st)
  | .isub, .inl y :: .inl x :: st => some (L, .inl (x - y) :: st)
  | .imul, .inl y :: .inl x :: st => some (L, .inl (x * y) :: st)
  | .iand, .inl y :: .inl x :: st => some (L, .inl (x &&& y) :: st)
  | .ior, .inl y :: .inl x :: st => some (L, .inl (x ||| y) :: st)
  | .ineg, .inl x :: st => some (L, .inl (-x) :: st)
  | .i2l, .inl x :: st => some (L, .inr (.inl x.toInt64) :: st)
  | .l2i, .inr (.inl x) :: st => some (L, .inl x.toInt32 :: st)
  | .i2b, .inl x :: st => some (L, .inl x.toInt8.toInt32 :: st)
  | .land, .inr (.inl y) :: .inr (.inl x) :: st => some (L, .inr (.inl (x &&& y)) :: st)
  | .lor, .inr (.inl y) :: .inr (.inl x) :: st => some (L, .inr (.inl (x ||| y)) :: st)
  | .lshl, .inl y :: .inr (.inl x) :: st => some (L, .inr (.inl (x <<< (y.toInt64 &&& 63))) :: st)
  | .lshr, .inl y :: .inr (.inl x) :: st => some (L, .inr (.inl (x >>> (y.toInt64 &&& 63))) :: st)
  | .lushr, .inl y :: .inr (.inl x) :: st => some (L, .inr (.inl (x.toUInt64 >>> (y.toInt64.toUInt64 &&& Int64.toUInt64 63)).toInt64) :: st)
  | .dup, v :: st => (match cat1 v with
    | true => some (L, v :: v :: st)
    | false => none)
  | .dup2, v :: w :: st => (match cat1 v && cat1 w with
    | true => some (L, v :: w :: v :: w :: st)
    | false => none)
  | _, _ => none
/-- what a cell of a kind is: an object of the class (below 10), a row of ints (100), bytes (101), truths (102), objects of the class c (110 + c) -/
def kd (t : Nat) : Nat := mc_kd.getD t 99
def ety (t : Nat) : Nat := mc_ety.getD t 99
/-- a field: 0 an int, 1 a truth, 2 a reference; which kind of cell it leads to, always of the same number as its own -/
def fty (c k : Nat) : Nat := (mc_fty.getD c []).getD k 9
def srf (c k : Nat) : Nat := (mc_srf.getD c []).getD k 99
def nfl (c : Nat) : Nat := (mc_fty.getD c []).length
def catS : St → Nat
  | [] => 0
  | v :: st => (if cat1 v then 1 else 2) + catS st
/-- what needs the heap; with it the condition under which it may -/
def op (X : Nat × (Nat → Int32)) (ins : Instr) (a b : Nat) (st : St) (h : Hp) : Option (St × Hp × Prop) := match ins, st with
  | .getfield _, .inr (.inr (some n)) :: st => (match fty a b with
    | 2 => some (.inr (.inr (some (srf a b, n.2))) :: st, h, live h n ∧ kd n.1 = a ∧ hpR h n b = some (srf a b, n.2))
    | _ => some (.inl (hpI h n b) :: st, h, live h n ∧ kd n.1 = a))
  | .putfield _, .inl x :: .inr (.inr (some n)) :: st => (match fty a b with
    | 0 => some (st, setI h n b x, live h n ∧ kd n.1 = a)
    | 1 => some (st, setI h n b x, live h n ∧ kd n.1 = a ∧ (x = 0 ∨ x = 1))
    | _ => none)
  | .putfield _, .inr (.inr (some m)) :: .inr (.inr (some n)) :: st => (match fty a b with
    | 2 => some (st, setR h n b (some m), live h n ∧ kd n.1 = a ∧ live h m)
    | _ => none)
  | .iaload, .inl i :: .inr (.inr (some n)) :: st => (match a with
    | 0 => some (.inl (hpI h n (nat i)) :: st, h, live h n ∧ kd n.1 = 100 ∧ inb i (hpL h n))
    | _ => some (.inl (X.2 (nat i)) :: st, h, n = (98, 0) ∧ inb i X.1))
  | .baload, .inl i :: .inr (.inr (some n)) :: st => (match a with
    | 0 => some (.inl (hpI h n (nat i)) :: st, h, live h n ∧ kd n.1 = 101 ∧ inb i (hpL h n))
    | _ => some (.inl (hpI h n (nat i)) :: st, h, live h n ∧ kd n.1 = 102 ∧ inb i (hpL h n)))
  | .aaload, .inl i :: .inr (.inr (some n)) :: st => some (.inr (.inr (some (ety n.1, nat i))) :: st, h, live h n ∧ kd n.1 = 110 + kd (ety n.1) ∧ kd (ety n.1) < 10 ∧ inb i (hpL h n) ∧ hpR h n (nat i) = some (ety n.1, nat i))
  | .iastore, .inl x :: .inl i :: .inr (.inr (some n)) :: st => some (st, setI h n (nat i) x, live h n ∧ kd n.1 = 100 ∧ inb i (hpL h n))
  | .bastore, .inl x :: .inl i :: .inr (.inr (some n)) :: st => (match a with
    | 0 => some (st, setI h n (nat i) x.toInt8.toInt32, live h n ∧ kd n.1 = 101 ∧ inb i (hpL h n))
    | _ => some (st, setI h n (nat i) x, live h n ∧ kd n.1 = 102 ∧ inb i (hpL h n) ∧ (x = 0 ∨ x = 1)))
  | .aastore, .inr (.inr (some m)) :: .inl i :: .inr (.inr (some n)) :: st => some (st, setR h n (nat i) (some m), live h n ∧ kd n.1 = 110 + kd m.1 ∧ kd m.1 < 10 ∧ live h m ∧ inb i (hpL h n))
  | .arraylength, .inr (.inr (some n)) :: st => (match a with
    | 0 => some (.inl (Int32.ofNat (hpL h n)) :: st, h, live h n ∧ 100 ≤ kd n.1)
    | _ => some (.inl (Int32.ofNat X.1) :: st, h, n = (98, 0)))
  | .idiv, .inl y :: .inl x :: st => some (.inl (x / y) :: st, h, ¬ y = 0)
  | .irem, .inl y :: .inl x :: st => some (.inl (x - x / y * y) :: st, h, ¬ y = 0)
  | .newarray _, .inl n :: st => some (.inr (.inr (some (a, hpC h a))) :: st, newC h a (nat n) (nat n), ¬ n < 0 ∧ nat n ≤ 2000000)
  | .anewarray _, .inl n :: st => some (.inr (.inr (some (a, hpC h a))) :: st, newC h a (nat n) (nat n), ¬ n < 0 ∧ nat n ≤ 2000000)
  | .new _, st => some (.inr (.inr (some (a, hpC h a))) :: st, newC h a 0 (nfl b), True)
  | .invokespecial _, .inr (.inr (some _)) :: st => (match a with
    | 1000 => some (st, h, catS st ≤ 8)
    | _ => none)
  | .invokestatic _, .inl y :: .inl x :: st => (match a with
    | 1001 => some (.inl (if y < x then y else x) :: st, h, catS st ≤ 8)
    | 1002 => (match st with
      | .inr (.inr (some d)) :: .inl sp :: .inr (.inr (some s)) :: st => some (st, setF h d (fun k => if nat x ≤ k ∧ k < nat x + nat y then hpI h s (nat sp + (k - nat x)) else hpI h d k), catS st ≤ 8 ∧ live h s ∧ live h d ∧ kd s.1 = 101 ∧ kd d.1 = 101 ∧ ¬ sp < 0 ∧ ¬ x < 0 ∧ ¬ y < 0 ∧ nat sp + nat y ≤ hpL h s ∧ nat x + nat y ≤ hpL h d)
      | _ => none)
    | _ => none)
  | .invokevirtual _, .inr (.inr (some s)) :: st => (match a with
    | 1003 => some (.inr (.inr (some (b, hpC h b))) :: st, setF (newC h b (hpL h s) (hpL h s)) (b, hpC h b) (hpI h s), catS st ≤ 8 ∧ live h s ∧ kd s.1 = 101)
    | _ => none)
  | .checkcast _, .inr (.inr (some n)) :: st => some (.inr (.inr (some n)) :: st, h, live h n ∧ kd n.1 = 101)
  | _, _ => none
/-- a branch: when it is taken -/
def br (ins : Instr) (st : St) : Option (Prop × St) := match ins, st with
  | .if_icmp c _, .inl y :: .inl x :: st => some (icB c x y, st)
  | .ifCond c _, .inl x :: st => some (icB c x 0, st)
  | .ifnull _, .inr (.inr o) :: st => some (o = none, st)
  | .ifnonnull _, .inr (.inr o) :: st => some (¬ o = none, st)
  | .goto _, st => some (True, st)
  | _, _ => none
def swt (pc : Nat) (ins : Instr) (x : Int32) : Option Nat := match ins with
  | .tableswitch d lo hi offs => (if x.toInt < lo ∨ hi < x.toInt then some ((pc : Int) + d).toNat else (offs[(x.toInt - lo).toNat]?).map (fun o => ((pc : Int) + o).toNat))
  | _ => none
/-- a return: the answer; a truth is 0 or 1 -/
def rt (ins : Instr) (a : Nat) (st : St) : Option (Option Vl × Prop) := match ins, st with
  | .ireturn, [.inl x] => (match a with
    | 0 => some (some (.inl x), True)
    | _ => some (some (.inl x), x = 0 ∨ x = 1))
  | .areturn, [.inr (.inr o)] => some (some (.inr (.inr o)), True)
  | .return_, [] => some (none, True)
  | _, _ => none
def spl (b : Nat) (st : St) : List Vl × St := ((st.take b).reverse, st.drop b)
def spr : List Vl → Ls
  | [] => []
  | v :: vs => if cat1 v then some v :: spr vs else some v :: none :: spr vs
def ent (n : Nat) (args : List Vl) : Ls := spr args ++ List.replicate (n - (spr args).length) none
def cd (y pc : Nat) : Option Ent := match mc_progs[y]? with
  | some c => (match c[pc]? with
    | some e => e
    | none => none)
  | none => none
def mlo (y : Nat) : Nat := mc_mlo.getD y 0
def mow (y : Nat) : Nat := mc_mow.getD y 9
/-- the receiver stands, and is of the method's class -/
def rok (h : Hp) (ins : Instr) (a : Nat) (args : List Vl) : Prop := match ins with
  | .invokestatic _ => True
  | _ => (match args with
    | .inr (.inr (some n)) :: _ => live h n ∧ kd n.1 = mow a
    | _ => False)
def isInv : Instr → Bool
  | .invokevirtual _ => true
  | .invokestatic _ => true
  | .invokespecial _ => true
  | _ => false
abbrev MP : Type := Nat → Nat → Ls → St → Hp → Option Vl → Hp → Prop
def Rpu (P : MP) : Prop := ∀ (y pc : Nat) (L : Ls) (st : St) (h : Hp) (r : Option Vl) (h' : Hp) (ins : Instr) (len a b : Nat) (L' : Ls) (st' : St), cd y pc = some (ins, len, a, b) → pu ins a L st = some (L', st') → P y (pc + len) L' st' h r h' → P y pc L st h r h'
def Rop (X : Nat × (Nat → Int32)) (P : MP) : Prop := ∀ (y pc : Nat) (L : Ls) (st : St) (h : Hp) (r : Option Vl) (h' : Hp) (ins : Instr) (len a b : Nat) (st' : St) (h1 : Hp) (C : Prop), cd y pc = some (ins, len, a, b) → op X ins a b st h = some (st', h1, C) → C → P y (pc + len) L st' h1 r h' → P y pc L st h r h'
def RbT (P : MP) : Prop := ∀ (y pc : Nat) (L : Ls) (st : St) (h : Hp) (r : Option Vl) (h' : Hp) (ins : Instr) (a b : Nat) (st' : St) (C : Prop), cd y pc = some (ins, 3, a, b) → br ins st = some (C, st') → C → P y a L st' h r h' → P y pc L st h r h'
def RbF (P : MP) : Prop := ∀ (y pc : Nat) (L : Ls) (st : St) (h : Hp) (r : Option Vl) (h' : Hp) (ins : Instr) (a b : Nat) (st' : St) (C : Prop), cd y pc = some (ins, 3, a, b) → br ins st = some (C, st') → ¬ C → P y (pc + 3) L st' h r h' → P y pc L st h r h'
def Rsw (P : MP) : Prop := ∀ (y pc : Nat) (L : Ls) (st : St) (h : Hp) (r : Option Vl) (h' : Hp) (ins : Instr) (len a b : Nat) (x : Int32) (t : Nat), cd y pc = some (ins, len, a, b) → swt pc ins x = some t → P y t L st h r h' → P y pc L (.inl x :: st) h r h'
def Rca (P : MP) : Prop := ∀ (y pc : Nat) (L : Ls) (st : St) (h : Hp) (r : Option Vl) (h' : Hp) (ins : Instr) (a b : Nat) (r1 : Option Vl) (h1 : Hp), cd y pc = some (ins, 3, a, b) → isInv ins = true → a < 133 → b ≤ st.length → catS (spl b st).2 ≤ 8 → (spr (spl b st).1).length ≤ mlo a → rok h ins a (spl b st).1 → P a 0 (ent (mlo a) (spl b st).1) [] h r1 h1 → P y (pc + 3) L (r1.toList ++ (spl b st).2) h1 r h' → P y pc L st h r h'
def Rrt (P : MP) : Prop := ∀ (y pc : Nat) (L : Ls) (st : St) (h : Hp) (r : Option Vl) (ins : Instr) (len a b : Nat) (C : Prop), cd y pc = some (ins, len, a, b) → rt ins a st = some (r, C) → C → P y pc L st h r h
def Clo (X : Nat × (Nat → Int32)) (P : MP) : Prop := Rpu P ∧ Rop X P ∧ RbT P ∧ RbF P ∧ Rsw P ∧ Rca P ∧ Rrt P
/-- the machine's runs: the least relation that its rules allow -/
def Ev (X : Nat × (Nat → Int32)) : MP := fun y pc L st h r h' => ∀ P : MP, Clo X P → P y pc L st h r h'
def wp (X : Nat × (Nat → Int32)) (y pc : Nat) (L : Ls) (st : St) (h : Hp) (Q : Option Vl → Hp → Prop) : Prop := ∃ (r : Option Vl) (h' : Hp), Ev X y pc L st h r h' ∧ Q r h'
section WP
variable {X : Nat × (Nat → Int32)} {y pc : Nat} {L : Ls} {st : St} {h : Hp} {Q : Option Vl → Hp → Prop} {ins : Instr} {len a b : Nat} {st' : St} {C : Prop}
theorem w_pu {L' : Ls} (hc : cd y pc = some (ins, len, a, b)) (hp : pu ins a L st = some (L', st')) (k : wp X y (pc + len) L' st' h Q) : wp X y pc L st h Q := by
  obtain ⟨r, h', e, q⟩ := k
  exact ⟨r, h', fun P hP => hP.1 y pc L st h r h' ins len a b L' st' hc hp (e P hP), q⟩
theorem w_op {h1 : Hp} (hc : cd y pc = some (ins, len, a, b)) (hp : op X ins a b st h = some (st', h1, C)) (hC : C) (k : wp X y (pc + len) L st' h1 Q) : wp X y pc L st h Q := by
  obtain ⟨r, h', e, q⟩ := k
  exact ⟨r, h', fun P hP => hP.2.1 y pc L st h r h' ins len a b st' h1 C hc hp hC (e P hP), q⟩
theorem w_br (hc : cd y pc = some (ins, 3, a, b)) (hp : br ins st = some (C, st')) (k1 : C → wp X y a L st' h Q) (k2 : ¬ C → wp X y (pc + 3) L st' h Q) : wp X y pc L st h Q := by
  by_cases hC : C
  · obtain ⟨r, h', e, q⟩ := k1 hC
    exact ⟨r, h', fun P hP => hP.2.2.1 y pc L st h r h' ins a b st' C hc hp hC (e P hP), q⟩
  · obtain ⟨r, h', e, q⟩ := k2 hC
    exact ⟨r, h', fun P hP => hP.2.2.2.1 y pc L st h r h' ins a b st' C hc hp hC (e P hP), q⟩
theorem w_go {off : Int} (hc : cd y pc = some (.goto off, 3, a, b)) (k : wp X y a L st h Q) : wp X y pc L st h Q := w_br hc rfl (fun _ => k) (fun q => absurd trivial q)
theorem w_sw {x : Int32} {t : Nat} (hc : cd y pc = some (ins, len, a, b)) (hp : swt pc ins x = some t) (k : wp X y t L st h Q) : wp X y pc L (vI x :: st) h Q := by
  obtain ⟨r, h', e, q⟩ := k
  exact ⟨r, h', fun P hP => hP.2.2.2.2.1 y pc L st h r h' ins len a b x t hc hp (e P hP), q⟩
theorem w_ca {args : List Vl} {Q1 : Option Vl → Hp → Prop} (hc : cd y pc = some (ins, 3, a, b)) (hi : isInv ins = true) (ha : a < 133) (hb : b ≤ st.length) (hsp : spl b st = (args, st')) (hw : catS st' ≤ 8) (hsl : (spr args).length ≤ mlo a) (hro : rok h ins a args) (hs : wp X a 0 (ent (mlo a) args) [] h Q1) (k : ∀ (r1 : Option Vl) (h1 : Hp), Q1 r1 h1 → wp X y (pc + 3) L (r1.toList ++ st') h1 Q) : wp X y pc L st h Q := by
  obtain ⟨r1, h1, e1, q1⟩ := hs
  obtain ⟨r, h', e, q⟩ := k r1 h1 q1
  have e2 : (spl b st).1 = args := by rw [hsp]
  have e3 : (spl b st).2 = st' := by rw [hsp]
  exact ⟨r, h', fun P hP => hP.2.2.2.2.2.1 y pc L st h r h' ins a b r1 h1 hc hi ha hb (by rw [e3]; exact hw) (by rw [e2]; exact hsl) (by rw [e2]; exact hro) (by rw [e2]; exact e1 P hP) (by rw [e3]; exact e P hP), q⟩
theorem w_rt {r : Option Vl} (hc : cd y pc = some (ins, len, a, b)) (hp : rt ins a st = some (r, C)) (hC : C) (q : Q r h) : wp X y pc L st h Q :=
  ⟨r, h, fun P hP => hP.2.2.2.2.2.2 y pc L st h r ins len a b C hc hp hC, q⟩
theorem w_mono {Q1 : Option Vl → Hp → Prop} (k : wp X y pc L st h Q1) (hq : ∀ r h', Q1 r h' → Q r h') : wp X y pc L st h Q := by
  obtain ⟨r, h', e, q⟩ := k
  exact ⟨r, h', e, hq r h' q⟩
/-- a constant, by its own numeral -/
theorem w_cst {v : Int32} {x : Int32} (hc : cd y pc = some (ins, len, a, b)) (hp : pu ins a L st = some (L, vI x :: st)) (hv : x = v) (k : wp X y (pc + len) L (vI v :: st) h Q) : wp X y pc L st h Q := by
  subst hv
  exact w_pu hc hp k
theorem w_inc {i : Nat} {n : Int} {x v : Int32} (hc : cd y pc = some (.iinc i n, len, a, b)) (hl : L[i]? = some (some (vI x))) (hs : (decide (i < L.length) && okst L i) = true) (hv : Int32.ofInt n = v) (k : wp X y (pc + len) (L.set i (some (vI (x + v)))) st h Q) : wp X y pc L st h Q := by
  subst hv
  refine w_pu (L' := L.set i (some (vI (x + Int32.ofInt n)))) (st' := st) hc ?_ k
  simp only [pu, hl, sto, hs]
end WP
end
section
/-! Our tables tied to the claim's words: names, code, links (written by a program). -/
def mc_ynm : List MethodName := [yX0_init, yX0_byteAt, yX0_sumOf, yX1_init, yX1_takesMore, yX1_restsUnheard, yX1_ticksToSend, yX1_sentWith, yX1_sendAt, yX1_bytesFor, yX1_sendBytes, yX1_sendFirst, yX1_goDown, yX2_init, yX2_lossesOn, yX2_addLossOn, yX3_init, yX3_numberOf, yX3_add, yX3_restOfFirst, yX3_takeFromFirst, yX3_dropFirst, yX3_clear, yX4_init, yX4_numberOf, yX4_countOf, yX4_comingOf, yX4_marksOf, yX4_add, yX4_hasComeAt, yX4_dropFirst, yX4_firstWithout, yX4_mark, yX4_clear, yX5_init, yX5_open, yX5_lease, yX5_type, yX5_grow, yX5_frame, yX5_cutIntoPieces, yX5_cut, yX5_room, yX5_tick, yX5_layLostPieces, yX5_layNewPieces, yX5_lineFor, yX5_isBetter, yX5_layOn, yX5_sendOnLines, yX5_takeWhatComes, yX5_takeFrom, yX5_arrive, yX5_loseUpTo, yX5_loseOn, yX5_giveFrames, yX5_restLines, yX5_become, yX5_lose, yX5_bend, yX5_fall, yX5_rise, yX5_line, yX5_piece, yX5_lostOn, yX5_queued, yX5_under, yX5_waits, yX5_lostPieceAt, yX5_got, yX5_frameOf, yX5_credit, yX5_skew, yX5_witness, yX5_check, yX5_witnessOf, yX5_status, yX5_allEmptiesLaid, yX5_refusalsOf, yX5_refuse, yX5_creditLeft, yX5_lineAt, yX5_frameAt, yX5_pieceAt, yX6_init, yX6_in, yX6_refuse, yX6_isLine, yX6_open, yX6_lease, yX6_type, yX6_grow, yX6_frame, yX6_cut, yX6_room, yX6_sumOf, yX6_credit, yX6_sizeOf, yX6_waiting, yX6_lose, yX6_isBetter, yX6_bestLine, yX6_layOn, yX6_laying, yX6_allowed, yX6_sendFirst, yX6_sending, yX6_coming, yX6_comes, yX6_isWhole, yX6_step, yX6_tick, yX6_firstNot, yX6_lose_, yX6_bend, yX6_fall, yX6_rise, yX6_line, yX6_isPiece, yX6_piece, yX6_lostOn, yX6_queued, yX6_under, yX6_waits, yX6_isFrame, yX6_got, yX6_frameOf, yX6_skew, yX6_witness, yX6_check, yX6_many, yX6_status, yJ7_copyOf_9075b, yL_law]
def mc_yby : List ByteArray := [cX0_init, cX0_byteAt, cX0_sumOf, cX1_init, cX1_takesMore, cX1_restsUnheard, cX1_ticksToSend, cX1_sentWith, cX1_sendAt, cX1_bytesFor, cX1_sendBytes, cX1_sendFirst, cX1_goDown, cX2_init, cX2_lossesOn, cX2_addLossOn, cX3_init, cX3_numberOf, cX3_add, cX3_restOfFirst, cX3_takeFromFirst, cX3_dropFirst, cX3_clear, cX4_init, cX4_numberOf, cX4_countOf, cX4_comingOf, cX4_marksOf, cX4_add, cX4_hasComeAt, cX4_dropFirst, cX4_firstWithout, cX4_mark, cX4_clear, cX5_init, cX5_open, cX5_lease, cX5_type, cX5_grow, cX5_frame, cX5_cutIntoPieces, cX5_cut, cX5_room, cX5_tick, cX5_layLostPieces, cX5_layNewPieces, cX5_lineFor, cX5_isBetter, cX5_layOn, cX5_sendOnLines, cX5_takeWhatComes, cX5_takeFrom, cX5_arrive, cX5_loseUpTo, cX5_loseOn, cX5_giveFrames, cX5_restLines, cX5_become, cX5_lose, cX5_bend, cX5_fall, cX5_rise, cX5_line, cX5_piece, cX5_lostOn, cX5_queued, cX5_under, cX5_waits, cX5_lostPieceAt, cX5_got, cX5_frameOf, cX5_credit, cX5_skew, cX5_witness, cX5_check, cX5_witnessOf, cX5_status, cX5_allEmptiesLaid, cX5_refusalsOf, cX5_refuse, cX5_creditLeft, cX5_lineAt, cX5_frameAt, cX5_pieceAt, cX6_init, cX6_in, cX6_refuse, cX6_isLine, cX6_open, cX6_lease, cX6_type, cX6_grow, cX6_frame, cX6_cut, cX6_room, cX6_sumOf, cX6_credit, cX6_sizeOf, cX6_waiting, cX6_lose, cX6_isBetter, cX6_bestLine, cX6_layOn, cX6_laying, cX6_allowed, cX6_sendFirst, cX6_sending, cX6_coming, cX6_comes, cX6_isWhole, cX6_step, cX6_tick, cX6_firstNot, cX6_lose_, cX6_bend, cX6_fall, cX6_rise, cX6_line, cX6_isPiece, cX6_piece, cX6_lostOn, cX6_queued, cX6_under, cX6_waits, cX6_isFrame, cX6_got, cX6_frameOf, cX6_skew, cX6_witness, cX6_check, cX6_many, cX6_status, cJ7_copyOf_9075b, cL_law]
def mc_yrt : List (Option FieldType) := [none, (some .int), (some .int), none, (some .boolean), (some .boolean), (some .int), (some .int), none, (some .int), none, none, none, none, (some .int), none, none, (some .int), none, (some .int), none, none, none, none, (some .int), (some .int), (some .int), (some .int), none, (some .boolean), none, (some .int), none, none, none, (some .int), (some .int), (some .int), (some .int), (some .int), none, (some .int), (some .int), (some .int), none, none, (some (.object "BundleLine$Line")), (some .boolean), none, none, none, none, none, none, none, none, none, none, (some .int), (some .int), (some .int), (some .int), (some .int), (some .int), (some .int), (some .int), (some .int), (some .int), (some .int), (some .int), (some .int), (some .int), (some .int), (some .int), (some .boolean), (some .int), (some .int), (some .int), (some .int), (some .int), (some .int), (some (.object "BundleLine$Line")), (some (.object "BundleLine$Frame")), (some (.object "BundleLine$Piece")), none, (some .boolean), (some .int), (some .boolean), (some .int), (some .int), (some .int), (some .int), (some .int), (some .int), (some .int), (some .int), (some .int), (some .int), (some .int), none, (some .boolean), (some .int), none, none, (some .int), none, none, none, none, (some .boolean), none, (some .int), (some .int), (some .int), (some .int), (some .int), (some .int), (some .int), (some .boolean), (some .int), (some .int), (some .int), (some .int), (some .int), (some .boolean), (some .int), (some .int), (some .int), (some .int), (some .boolean), (some .int), (some .int), (some (.array .byte)), (some .boolean)]
def mc_yrk : List Nat := [1, 0, 1, 2, 0, 0, 0, 0, 3, 1, 2, 1, 1, 1, 0, 0, 1, 0, 0, 0, 0, 0, 0, 1, 0, 0, 0, 0, 0, 1, 0, 1, 0, 0, 1, 3, 1, 1, 1, 3, 2, 1, 1, 5, 3, 3, 2, 1, 1, 4, 4, 3, 1, 2, 1, 1, 1, 0, 2, 2, 3, 1, 1, 1, 1, 1, 1, 2, 1, 1, 1, 1, 1, 2, 2, 1, 2, 1, 0, 0, 0, 0, 0, 0, 1, 0, 0, 1, 1, 2, 1, 1, 1, 1, 1, 0, 0, 0, 1, 0, 2, 3, 0, 4, 0, 0, 1, 2, 1, 0, 5, 6, 0, 2, 2, 2, 2, 2, 1, 2, 2, 2, 2, 0, 1, 2, 2, 0, 2, 3, 0, 1, 1, 7]
def mc_ylo : List Nat := [20, 0, 21, 40, 0, 0, 0, 0, 72, 21, 46, 24, 20, 20, 0, 0, 20, 0, 0, 0, 0, 0, 0, 20, 0, 0, 0, 0, 0, 21, 0, 21, 0, 0, 20, 64, 21, 21, 21, 70, 45, 21, 21, 116, 71, 71, 47, 21, 23, 94, 94, 68, 22, 45, 22, 21, 23, 0, 43, 43, 68, 21, 21, 21, 21, 21, 21, 45, 21, 21, 21, 20, 21, 43, 43, 21, 44, 21, 0, 0, 0, 0, 0, 0, 20, 0, 0, 22, 22, 43, 21, 21, 21, 21, 21, 0, 0, 0, 21, 0, 44, 69, 0, 92, 0, 0, 23, 46, 22, 0, 115, 136, 0, 43, 43, 43, 43, 44, 22, 43, 43, 43, 43, 0, 22, 43, 43, 0, 43, 66, 0, 23, 26, 159]
def mc_yin : List Bool := [true, false, false, true, false, false, false, false, false, false, false, false, false, true, false, false, true, false, false, false, false, false, false, true, false, false, false, false, false, false, false, false, false, false, true, false, false, false, false, false, false, false, false, false, false, false, false, false, false, false, false, false, false, false, false, false, false, false, false, false, false, false, false, false, false, false, false, false, false, false, false, false, false, false, false, false, false, false, false, false, false, false, false, false, true, false, false, false, false, false, false, false, false, false, false, false, false, false, false, false, false, false, false, false, false, false, false, false, false, false, false, false, false, false, false, false, false, false, false, false, false, false, false, false, false, false, false, false, false, false, false, false, false, false]
def yNm (y : Nat) : MethodName := mc_ynm.getD y yL_law
def yBy (y : Nat) : ByteArray := mc_yby.getD y code
def yRt (y : Nat) : Option FieldType := mc_yrt.getD y none
def yRk (y : Nat) : Nat := mc_yrk.getD y 0
def yLo (y : Nat) : Nat := mc_ylo.getD y 0
def yIn (y : Nat) : Bool := mc_yin.getD y false
def cnm (c : Nat) : String := [RX0, RX1, RX2, RX3, RX4, RX5, RX6, RL, RJ7].getD c ""
def clT (c : Nat) : u_T := [TX0, TX1, TX2, TX3, TX4, TX5, TX6].getD c TX0
def clY (c : Nat) : Nat → FieldType := [tyX0, tyX1, tyX2, tyX3, tyX4, tyX5, tyX6].getD c tyX0
def yOw (y : Nat) : String := cnm (mow y)
/-- a word that the tables hold and that stays -/
def iw (w : Cond) : Prop := w ∈ lw_tbl ∧ goodWord w = true
def plen (ins : Instr) : Nat := match ins with
  | .iload _ => 2
  | .aload _ => 2
  | .istore _ => 2
  | .astore _ => 2
  | .iinc _ _ => 3
  | .bipush _ => 2
  | .sipush _ => 3
  | .ldc _ => 2
  | .ldc2_w _ => 3
  | _ => 1
def okv (y i a : Nat) (np : Nat) : Prop := iw (.methodLink (yOw y) i (yNm a)) ∧ iw (.initialized (yNm a).cls) ∧ iw (.code (yNm a) (yBy a) (mlo a) (yRt a)) ∧ ((yNm a).cls ≠ "java/lang/invoke/MethodHandle" ∧ (yNm a).cls ≠ "java/lang/invoke/VarHandle" ∧ (parseMethodDescriptor (yNm a).desc).map (fun d => d.parameters.length) = some np) ∧ yRk a + 1 ≤ yRk y ∧ 8 + (mlo a + 11) + yLo a ≤ yLo y ∧ plainName (yNm a).cls = true ∧ (yNm a).cls = yOw a ∧ (yIn a = true → (yNm a).name = "<init>")
def okw (y pc : Nat) (ins : Instr) (len a b : Nat) : Prop := match ins with
  | .iaload => len = 1 ∧ (a = 0 ∨ y = 133)
  | .arraylength => len = 1 ∧ (a = 0 ∨ y = 133)
  | .getfield i => len = 3 ∧ a < 7 ∧ b < nfl a ∧ iw (.fieldLink (yOw y) i (clT a b).1 (clT a b).2.1 (clT a b).2.2.1)
  | .putfield i => len = 3 ∧ a < 7 ∧ b < nfl a ∧ iw (.fieldLink (yOw y) i (clT a b).1 (clT a b).2.1 (clT a b).2.2.1) ∧ ((clT a b).2.2.2 = false ∨ ((clT a b).2.2.2 = true ∧ yIn y = true ∧ (clT a b).1 = yOw y))
  | .new i => len = 3 ∧ kd a = b ∧ b < 7 ∧ iw (.classLink (yOw y) i (cnm b)) ∧ iw (.instantiable (cnm b) (nfl b)) ∧ iw (.initialized (cnm b))
  | .newarray t => len = 2 ∧ iw (.arrayClass (newarray.typeOf t)) ∧ ((kd a = 100 ∧ t = .int) ∨ (kd a = 101 ∧ t = .byte) ∨ (kd a = 102 ∧ t = .boolean))
  | .anewarray i => len = 3 ∧ kd (ety a) < 3 ∧ kd a = 110 + kd (ety a) ∧ iw (.classLink (yOw y) i (cnm (kd (ety a))))
  | .ldc i => len = 2 ∧ iw (.constant (yOw y) i (Int32.ofNat a))
  | .ldc2_w i => len = 3 ∧ iw (.constantLong (yOw y) i (Int64.ofNat a))
  | .if_icmp _ off => (pc : Int) + off = (a : Int)
  | .ifCond _ off => (pc : Int) + off = (a : Int)
  | .ifnull off => (pc : Int) + off = (a : Int)
  | .ifnonnull off => (pc : Int) + off = (a : Int)
  | .goto off => (pc : Int) + off = (a : Int)
  | .tableswitch d _ _ offs => 0 ≤ (pc : Int) + d ∧ offs.toList.all (fun o => decide (0 ≤ (pc : Int) + o)) = true
  | .invokevirtual i => len = 3 ∧ (a < 1000 → okv y i a (b - 1) ∧ 1 ≤ b ∧ iw (.instanceMethod (yNm a)) ∧ iw (.selects (yNm a).cls (yNm a) (yNm a)) ∧ (yNm a).cls = cnm (mow a) ∧ mow a < 7) ∧ (a = 1003 → kd b = 101 ∧ iw (.methodLink (yOw y) i ⟨"[B", "clone", "()Ljava/lang/Object;"⟩) ∧ iw (.sameMethod "[B" "java/lang/Object" "clone" "()Ljava/lang/Object;") ∧ iw (.native ⟨"java/lang/Object", "clone", "()Ljava/lang/Object;"⟩) ∧ iw (.instanceMethod ⟨"java/lang/Object", "clone", "()Ljava/lang/Object;"⟩) ∧ iw (.selects "[B" ⟨"[B", "clone", "()Ljava/lang/Object;"⟩ ⟨"java/lang/Object", "clone", "()Ljava/lang/Object;"⟩) ∧ 1 ≤ yRk y ∧ 22 ≤ yLo y)
  | .invokestatic i => len = 3 ∧ (a < 1000 → okv y i a b ∧ iw (.static (yNm a))) ∧ (a = 1001 → iw (.methodLink (yOw y) i Lib.Math.min.name) ∧ iw (.static Lib.Math.min.name) ∧ iw (.initialized "java/lang/Math") ∧ iw (.code Lib.Math.min.name Lib.Math.min.code 2 (some .int)) ∧ 1 ≤ yRk y ∧ 21 ≤ yLo y) ∧ (a = 1002 → iw (.methodLink (yOw y) i arraycopyName) ∧ iw (.native arraycopyName) ∧ iw (.static arraycopyName) ∧ iw (.initialized "java/lang/System") ∧ 1 ≤ yRk y ∧ 26 ≤ yLo y)
  | .invokespecial i => len = 3 ∧ (a < 1000 → okv y i a (b - 1) ∧ 1 ≤ b ∧ iw (.instanceMethod (yNm a)) ∧ (yNm a).name = "<init>" ∧ yRt a = none ∧ (yNm a).cls = cnm (mow a)) ∧ (a = 1000 → iw (.methodLink (yOw y) i objectInit) ∧ iw (.instanceMethod objectInit) ∧ iw (.code objectInit ⟨#[0xb1]⟩ 1 none) ∧ 1 ≤ yRk y ∧ 20 ≤ yLo y)
  | .ireturn => len = 1 ∧ ((a = 0 ∧ yRt y = some .int) ∨ (a = 1 ∧ yRt y = some .boolean))
  | .areturn => len = 1 ∧ ∃ t, yRt y = some t ∧ ((∃ n, t = .object n) ∨ ∃ t2, t = .array t2)
  | .return_ => len = 1 ∧ yRt y = none
  | .checkcast i => len = 3 ∧ iw (.classLink (yOw y) i "[B")
  | ins => len = plen ins
def okl (y : Nat) : Nat → List (Option Ent) → Prop
  | _, [] => True
  | pc, none :: l => okl y (pc + 1) l
  | pc, some e :: l => okw y pc e.1 e.2.1 e.2.2.1 e.2.2.2 ∧ okl y (pc + 1) l
def dck (b : ByteArray) : Nat → List (Option Ent) → Bool
  | _, [] => true
  | pc, none :: l => dck b (pc + 1) l
  | pc, some e :: l => (match decode b pc with
    | .ok q => decide (q.1 = e.1) && decide (q.2 = e.2.1)
    | .error _ => false) && dck b (pc + 1) l
set_option maxRecDepth 100000 in
theorem kw_0 : iw (.methodLink RX0 3 objectInit) := ⟨List.mem_of_getElem? (i := 302) (by rfl), by rfl⟩
set_option maxRecDepth 100000 in
theorem kw_1 : iw (.instanceMethod objectInit) := ⟨List.mem_of_getElem? (i := 64) (by rfl), by rfl⟩
set_option maxRecDepth 100000 in
theorem kw_2 : iw (.code objectInit ⟨#[0xb1]⟩ 1 none) := ⟨List.mem_of_getElem? (i := 65) (by rfl), by rfl⟩
set_option maxRecDepth 100000 in
theorem kw_3 : iw (.fieldLink RX0 9 "BundleLine$Frame" "bytes" "[B") := ⟨List.mem_of_getElem? (i := 303) (by rfl), by rfl⟩
set_option maxRecDepth 100000 in
theorem kw_4 : iw (.fieldLink RX0 15 "BundleLine$Frame" "size" "I") := ⟨List.mem_of_getElem? (i := 304) (by rfl), by rfl⟩
set_option maxRecDepth 100000 in
theorem kw_5 : iw (.fieldLink RX0 19 "BundleLine$Frame" "firstPiece" "I") := ⟨List.mem_of_getElem? (i := 306) (by rfl), by rfl⟩
set_option maxRecDepth 100000 in
theorem kw_6 : iw (.fieldLink RX0 22 "BundleLine$Frame" "row" "I") := ⟨List.mem_of_getElem? (i := 308) (by rfl), by rfl⟩
set_option maxRecDepth 100000 in
theorem kw_7 : iw (.fieldLink RX0 25 "BundleLine$Frame" "givenAt" "I") := ⟨List.mem_of_getElem? (i := 311) (by rfl), by rfl⟩
set_option maxRecDepth 100000 in
theorem kw_8 : iw (.methodLink RX0 28 yX0_byteAt) := ⟨List.mem_of_getElem? (i := 336) (by rfl), by rfl⟩
set_option maxRecDepth 100000 in
theorem kw_9 : iw (.initialized RX0) := ⟨List.mem_of_getElem? (i := 53) (by rfl), by rfl⟩
set_option maxRecDepth 100000 in
theorem kw_10 : iw (.code yX0_byteAt cX0_byteAt 2 (some .int)) := ⟨List.mem_of_getElem? (i := 339) (by rfl), by rfl⟩
set_option maxRecDepth 100000 in
theorem kw_11 : iw (.instanceMethod yX0_byteAt) := ⟨List.mem_of_getElem? (i := 337) (by rfl), by rfl⟩
set_option maxRecDepth 100000 in
theorem kw_12 : iw (.selects RX0 yX0_byteAt yX0_byteAt) := ⟨List.mem_of_getElem? (i := 338) (by rfl), by rfl⟩
set_option maxRecDepth 100000 in
theorem kw_13 : iw (.methodLink RX1 3 objectInit) := ⟨List.mem_of_getElem? (i := 141) (by rfl), by rfl⟩
set_option maxRecDepth 100000 in
theorem kw_14 : iw (.fieldLink RX1 9 "BundleLine$Line" "number" "I") := ⟨List.mem_of_getElem? (i := 198) (by rfl), by rfl⟩
set_option maxRecDepth 100000 in
theorem kw_15 : iw (.fieldLink RX1 15 "BundleLine$Line" "kind" "I") := ⟨List.mem_of_getElem? (i := 200) (by rfl), by rfl⟩
set_option maxRecDepth 100000 in
theorem kw_16 : iw (.fieldLink RX1 18 "BundleLine$Line" "speed" "I") := ⟨List.mem_of_getElem? (i := 202) (by rfl), by rfl⟩
set_option maxRecDepth 100000 in
theorem kw_17 : iw (.fieldLink RX1 21 "BundleLine$Line" "delay" "I") := ⟨List.mem_of_getElem? (i := 204) (by rfl), by rfl⟩
set_option maxRecDepth 100000 in
theorem kw_18 : iw (.classLink RX1 24 RX3) := ⟨List.mem_of_getElem? (i := 142) (by rfl), by rfl⟩
set_option maxRecDepth 100000 in
theorem kw_19 : iw (.instantiable RX3 6) := ⟨List.mem_of_getElem? (i := 143) (by rfl), by rfl⟩
set_option maxRecDepth 100000 in
theorem kw_20 : iw (.initialized RX3) := ⟨List.mem_of_getElem? (i := 51) (by rfl), by rfl⟩
set_option maxRecDepth 100000 in
theorem kw_21 : iw (.methodLink RX1 26 yX3_init) := ⟨List.mem_of_getElem? (i := 144) (by rfl), by rfl⟩
set_option maxRecDepth 100000 in
theorem kw_22 : iw (.code yX3_init cX3_init 1 none) := ⟨List.mem_of_getElem? (i := 146) (by rfl), by rfl⟩
set_option maxRecDepth 100000 in
theorem kw_23 : iw (.instanceMethod yX3_init) := ⟨List.mem_of_getElem? (i := 145) (by rfl), by rfl⟩
set_option maxRecDepth 100000 in
theorem kw_24 : iw (.fieldLink RX1 27 "BundleLine$Line" "queue" "LBundleLine$Queue;") := ⟨List.mem_of_getElem? (i := 206) (by rfl), by rfl⟩
set_option maxRecDepth 100000 in
theorem kw_25 : iw (.classLink RX1 31 RX4) := ⟨List.mem_of_getElem? (i := 171) (by rfl), by rfl⟩
set_option maxRecDepth 100000 in
theorem kw_26 : iw (.instantiable RX4 6) := ⟨List.mem_of_getElem? (i := 172) (by rfl), by rfl⟩
set_option maxRecDepth 100000 in
theorem kw_27 : iw (.initialized RX4) := ⟨List.mem_of_getElem? (i := 52) (by rfl), by rfl⟩
set_option maxRecDepth 100000 in
theorem kw_28 : iw (.methodLink RX1 33 yX4_init) := ⟨List.mem_of_getElem? (i := 173) (by rfl), by rfl⟩
set_option maxRecDepth 100000 in
theorem kw_29 : iw (.code yX4_init cX4_init 1 none) := ⟨List.mem_of_getElem? (i := 175) (by rfl), by rfl⟩
set_option maxRecDepth 100000 in
theorem kw_30 : iw (.instanceMethod yX4_init) := ⟨List.mem_of_getElem? (i := 174) (by rfl), by rfl⟩
set_option maxRecDepth 100000 in
theorem kw_31 : iw (.fieldLink RX1 34 "BundleLine$Line" "underWay" "LBundleLine$UnderWay;") := ⟨List.mem_of_getElem? (i := 208) (by rfl), by rfl⟩
set_option maxRecDepth 100000 in
theorem kw_32 : iw (.arrayClass .int) := ⟨List.mem_of_getElem? (i := 127) (by rfl), by rfl⟩
set_option maxRecDepth 100000 in
theorem kw_33 : iw (.fieldLink RX1 38 "BundleLine$Line" "sent" "[I") := ⟨List.mem_of_getElem? (i := 210) (by rfl), by rfl⟩
set_option maxRecDepth 100000 in
theorem kw_34 : iw (.fieldLink RX1 42 "BundleLine$Line" "log" "[I") := ⟨List.mem_of_getElem? (i := 211) (by rfl), by rfl⟩
set_option maxRecDepth 100000 in
theorem kw_35 : iw (.fieldLink RX1 45 "BundleLine$Line" "isUp" "Z") := ⟨List.mem_of_getElem? (i := 212) (by rfl), by rfl⟩
set_option maxRecDepth 100000 in
theorem kw_36 : iw (.fieldLink RX1 49 "BundleLine$Line" "allowance" "I") := ⟨List.mem_of_getElem? (i := 214) (by rfl), by rfl⟩
set_option maxRecDepth 100000 in
theorem kw_37 : iw (.fieldLink RX1 52 "BundleLine$Line" "span" "I") := ⟨List.mem_of_getElem? (i := 216) (by rfl), by rfl⟩
set_option maxRecDepth 100000 in
theorem kw_38 : iw (.fieldLink RX1 55 "BundleLine$Queue" "length" "I") := ⟨List.mem_of_getElem? (i := 151) (by rfl), by rfl⟩
set_option maxRecDepth 100000 in
theorem kw_39 : iw (.fieldLink RX1 58 "BundleLine$UnderWay" "length" "I") := ⟨List.mem_of_getElem? (i := 182) (by rfl), by rfl⟩
set_option maxRecDepth 100000 in
theorem kw_40 : iw (.fieldLink RX1 59 "BundleLine$Line" "seen" "I") := ⟨List.mem_of_getElem? (i := 220) (by rfl), by rfl⟩
set_option maxRecDepth 100000 in
theorem kw_41 : iw (.fieldLink RX1 62 "BundleLine$Line" "count" "I") := ⟨List.mem_of_getElem? (i := 218) (by rfl), by rfl⟩
set_option maxRecDepth 100000 in
theorem kw_42 : iw (.fieldLink RX1 65 "BundleLine$Queue" "waitingBytes" "I") := ⟨List.mem_of_getElem? (i := 155) (by rfl), by rfl⟩
set_option maxRecDepth 100000 in
theorem kw_43 : iw (.fieldLink RX1 68 "BundleLine$Line" "carried" "I") := ⟨List.mem_of_getElem? (i := 222) (by rfl), by rfl⟩
set_option maxRecDepth 100000 in
theorem kw_44 : iw (.methodLink RX1 71 yX1_bytesFor) := ⟨List.mem_of_getElem? (i := 442) (by rfl), by rfl⟩
set_option maxRecDepth 100000 in
theorem kw_45 : iw (.initialized RX1) := ⟨List.mem_of_getElem? (i := 50) (by rfl), by rfl⟩
set_option maxRecDepth 100000 in
theorem kw_46 : iw (.code yX1_bytesFor cX1_bytesFor 4 (some .int)) := ⟨List.mem_of_getElem? (i := 445) (by rfl), by rfl⟩
set_option maxRecDepth 100000 in
theorem kw_47 : iw (.instanceMethod yX1_bytesFor) := ⟨List.mem_of_getElem? (i := 444) (by rfl), by rfl⟩
set_option maxRecDepth 100000 in
theorem kw_48 : iw (.selects RX1 yX1_bytesFor yX1_bytesFor) := ⟨List.mem_of_getElem? (i := 11) (by rfl), by rfl⟩
set_option maxRecDepth 100000 in
theorem kw_49 : iw (.methodLink RX1 75 yX1_sendBytes) := ⟨List.mem_of_getElem? (i := 447) (by rfl), by rfl⟩
set_option maxRecDepth 100000 in
theorem kw_50 : iw (.code yX1_sendBytes cX1_sendBytes 7 none) := ⟨List.mem_of_getElem? (i := 450) (by rfl), by rfl⟩
set_option maxRecDepth 100000 in
theorem kw_51 : iw (.instanceMethod yX1_sendBytes) := ⟨List.mem_of_getElem? (i := 449) (by rfl), by rfl⟩
set_option maxRecDepth 100000 in
theorem kw_52 : iw (.selects RX1 yX1_sendBytes yX1_sendBytes) := ⟨List.mem_of_getElem? (i := 12) (by rfl), by rfl⟩
set_option maxRecDepth 100000 in
theorem kw_53 : iw (.methodLink RX1 79 Lib.Math.min.name) := ⟨List.mem_of_getElem? (i := 446) (by rfl), by rfl⟩
set_option maxRecDepth 100000 in
theorem kw_54 : iw (.static Lib.Math.min.name) := ⟨List.mem_of_getElem? (i := 294) (by rfl), by rfl⟩
set_option maxRecDepth 100000 in
theorem kw_55 : iw (.initialized "java/lang/Math") := ⟨List.mem_of_getElem? (i := 55) (by rfl), by rfl⟩
set_option maxRecDepth 100000 in
theorem kw_56 : iw (.code Lib.Math.min.name Lib.Math.min.code 2 (some .int)) := ⟨List.mem_of_getElem? (i := 295) (by rfl), by rfl⟩
set_option maxRecDepth 100000 in
theorem kw_57 : iw (.methodLink RX1 85 yX3_restOfFirst) := ⟨List.mem_of_getElem? (i := 451) (by rfl), by rfl⟩
set_option maxRecDepth 100000 in
theorem kw_58 : iw (.code yX3_restOfFirst cX3_restOfFirst 1 (some .int)) := ⟨List.mem_of_getElem? (i := 454) (by rfl), by rfl⟩
set_option maxRecDepth 100000 in
theorem kw_59 : iw (.instanceMethod yX3_restOfFirst) := ⟨List.mem_of_getElem? (i := 452) (by rfl), by rfl⟩
set_option maxRecDepth 100000 in
theorem kw_60 : iw (.selects RX3 yX3_restOfFirst yX3_restOfFirst) := ⟨List.mem_of_getElem? (i := 453) (by rfl), by rfl⟩
set_option maxRecDepth 100000 in
theorem kw_61 : iw (.methodLink RX1 89 yX3_takeFromFirst) := ⟨List.mem_of_getElem? (i := 455) (by rfl), by rfl⟩
set_option maxRecDepth 100000 in
theorem kw_62 : iw (.code yX3_takeFromFirst cX3_takeFromFirst 2 none) := ⟨List.mem_of_getElem? (i := 458) (by rfl), by rfl⟩
set_option maxRecDepth 100000 in
theorem kw_63 : iw (.instanceMethod yX3_takeFromFirst) := ⟨List.mem_of_getElem? (i := 456) (by rfl), by rfl⟩
set_option maxRecDepth 100000 in
theorem kw_64 : iw (.selects RX3 yX3_takeFromFirst yX3_takeFromFirst) := ⟨List.mem_of_getElem? (i := 457) (by rfl), by rfl⟩
set_option maxRecDepth 100000 in
theorem kw_65 : iw (.methodLink RX1 93 yX1_sendFirst) := ⟨List.mem_of_getElem? (i := 459) (by rfl), by rfl⟩
set_option maxRecDepth 100000 in
theorem kw_66 : iw (.code yX1_sendFirst cX1_sendFirst 3 none) := ⟨List.mem_of_getElem? (i := 462) (by rfl), by rfl⟩
set_option maxRecDepth 100000 in
theorem kw_67 : iw (.instanceMethod yX1_sendFirst) := ⟨List.mem_of_getElem? (i := 461) (by rfl), by rfl⟩
set_option maxRecDepth 100000 in
theorem kw_68 : iw (.selects RX1 yX1_sendFirst yX1_sendFirst) := ⟨List.mem_of_getElem? (i := 13) (by rfl), by rfl⟩
set_option maxRecDepth 100000 in
theorem kw_69 : iw (.methodLink RX1 96 yX3_numberOf) := ⟨List.mem_of_getElem? (i := 463) (by rfl), by rfl⟩
set_option maxRecDepth 100000 in
theorem kw_70 : iw (.code yX3_numberOf cX3_numberOf 2 (some .int)) := ⟨List.mem_of_getElem? (i := 466) (by rfl), by rfl⟩
set_option maxRecDepth 100000 in
theorem kw_71 : iw (.instanceMethod yX3_numberOf) := ⟨List.mem_of_getElem? (i := 464) (by rfl), by rfl⟩
set_option maxRecDepth 100000 in
theorem kw_72 : iw (.selects RX3 yX3_numberOf yX3_numberOf) := ⟨List.mem_of_getElem? (i := 465) (by rfl), by rfl⟩
set_option maxRecDepth 100000 in
theorem kw_73 : iw (.methodLink RX1 99 yX3_dropFirst) := ⟨List.mem_of_getElem? (i := 467) (by rfl), by rfl⟩
set_option maxRecDepth 100000 in
theorem kw_74 : iw (.code yX3_dropFirst cX3_dropFirst 1 none) := ⟨List.mem_of_getElem? (i := 470) (by rfl), by rfl⟩
set_option maxRecDepth 100000 in
theorem kw_75 : iw (.instanceMethod yX3_dropFirst) := ⟨List.mem_of_getElem? (i := 468) (by rfl), by rfl⟩
set_option maxRecDepth 100000 in
theorem kw_76 : iw (.selects RX3 yX3_dropFirst yX3_dropFirst) := ⟨List.mem_of_getElem? (i := 469) (by rfl), by rfl⟩
set_option maxRecDepth 100000 in
theorem kw_77 : iw (.methodLink RX1 102 yX4_add) := ⟨List.mem_of_getElem? (i := 471) (by rfl), by rfl⟩
set_option maxRecDepth 100000 in
theorem kw_78 : iw (.code yX4_add cX4_add 5 none) := ⟨List.mem_of_getElem? (i := 474) (by rfl), by rfl⟩
set_option maxRecDepth 100000 in
theorem kw_79 : iw (.instanceMethod yX4_add) := ⟨List.mem_of_getElem? (i := 472) (by rfl), by rfl⟩
set_option maxRecDepth 100000 in
theorem kw_80 : iw (.selects RX4 yX4_add yX4_add) := ⟨List.mem_of_getElem? (i := 473) (by rfl), by rfl⟩
set_option maxRecDepth 100000 in
theorem kw_81 : iw (.methodLink RX1 106 yX3_clear) := ⟨List.mem_of_getElem? (i := 569) (by rfl), by rfl⟩
set_option maxRecDepth 100000 in
theorem kw_82 : iw (.code yX3_clear cX3_clear 1 none) := ⟨List.mem_of_getElem? (i := 572) (by rfl), by rfl⟩
set_option maxRecDepth 100000 in
theorem kw_83 : iw (.instanceMethod yX3_clear) := ⟨List.mem_of_getElem? (i := 570) (by rfl), by rfl⟩
set_option maxRecDepth 100000 in
theorem kw_84 : iw (.selects RX3 yX3_clear yX3_clear) := ⟨List.mem_of_getElem? (i := 571) (by rfl), by rfl⟩
set_option maxRecDepth 100000 in
theorem kw_85 : iw (.methodLink RX1 109 yX4_clear) := ⟨List.mem_of_getElem? (i := 573) (by rfl), by rfl⟩
set_option maxRecDepth 100000 in
theorem kw_86 : iw (.code yX4_clear cX4_clear 1 none) := ⟨List.mem_of_getElem? (i := 576) (by rfl), by rfl⟩
set_option maxRecDepth 100000 in
theorem kw_87 : iw (.instanceMethod yX4_clear) := ⟨List.mem_of_getElem? (i := 574) (by rfl), by rfl⟩
set_option maxRecDepth 100000 in
theorem kw_88 : iw (.selects RX4 yX4_clear yX4_clear) := ⟨List.mem_of_getElem? (i := 575) (by rfl), by rfl⟩
set_option maxRecDepth 100000 in
theorem kw_89 : iw (.methodLink RX2 3 objectInit) := ⟨List.mem_of_getElem? (i := 343) (by rfl), by rfl⟩
set_option maxRecDepth 100000 in
theorem kw_90 : iw (.fieldLink RX2 9 "BundleLine$Piece" "frame" "I") := ⟨List.mem_of_getElem? (i := 344) (by rfl), by rfl⟩
set_option maxRecDepth 100000 in
theorem kw_91 : iw (.fieldLink RX2 15 "BundleLine$Piece" "size" "I") := ⟨List.mem_of_getElem? (i := 346) (by rfl), by rfl⟩
set_option maxRecDepth 100000 in
theorem kw_92 : iw (.fieldLink RX2 18 "BundleLine$Piece" "isLast" "Z") := ⟨List.mem_of_getElem? (i := 348) (by rfl), by rfl⟩
set_option maxRecDepth 100000 in
theorem kw_93 : iw (.fieldLink RX2 22 "BundleLine$Piece" "sum" "I") := ⟨List.mem_of_getElem? (i := 350) (by rfl), by rfl⟩
set_option maxRecDepth 100000 in
theorem kw_94 : iw (.fieldLink RX2 25 "BundleLine$Piece" "losses" "[I") := ⟨List.mem_of_getElem? (i := 352) (by rfl), by rfl⟩
set_option maxRecDepth 100000 in
theorem kw_95 : iw (.fieldLink RX2 29 "BundleLine$Piece" "state" "I") := ⟨List.mem_of_getElem? (i := 353) (by rfl), by rfl⟩
set_option maxRecDepth 100000 in
theorem kw_96 : iw (.fieldLink RX2 32 "BundleLine$Piece" "line" "I") := ⟨List.mem_of_getElem? (i := 356) (by rfl), by rfl⟩
set_option maxRecDepth 100000 in
theorem kw_97 : iw (.methodLink RX3 1 objectInit) := ⟨List.mem_of_getElem? (i := 147) (by rfl), by rfl⟩
set_option maxRecDepth 100000 in
theorem kw_98 : iw (.fieldLink RX3 9 "BundleLine$Queue" "numbers" "[I") := ⟨List.mem_of_getElem? (i := 148) (by rfl), by rfl⟩
set_option maxRecDepth 100000 in
theorem kw_99 : iw (.fieldLink RX3 13 "BundleLine$Queue" "sizes" "[I") := ⟨List.mem_of_getElem? (i := 149) (by rfl), by rfl⟩
set_option maxRecDepth 100000 in
theorem kw_100 : iw (.fieldLink RX3 16 "BundleLine$Queue" "head" "I") := ⟨List.mem_of_getElem? (i := 150) (by rfl), by rfl⟩
set_option maxRecDepth 100000 in
theorem kw_101 : iw (.fieldLink RX3 20 "BundleLine$Queue" "length" "I") := ⟨List.mem_of_getElem? (i := 152) (by rfl), by rfl⟩
set_option maxRecDepth 100000 in
theorem kw_102 : iw (.fieldLink RX3 23 "BundleLine$Queue" "waitingBytes" "I") := ⟨List.mem_of_getElem? (i := 154) (by rfl), by rfl⟩
set_option maxRecDepth 100000 in
theorem kw_103 : iw (.fieldLink RX3 26 "BundleLine$Queue" "sentOfFirst" "I") := ⟨List.mem_of_getElem? (i := 157) (by rfl), by rfl⟩
set_option maxRecDepth 100000 in
theorem kw_104 : iw (.methodLink RX4 1 objectInit) := ⟨List.mem_of_getElem? (i := 176) (by rfl), by rfl⟩
set_option maxRecDepth 100000 in
theorem kw_105 : iw (.fieldLink RX4 9 "BundleLine$UnderWay" "numbers" "[I") := ⟨List.mem_of_getElem? (i := 177) (by rfl), by rfl⟩
set_option maxRecDepth 100000 in
theorem kw_106 : iw (.fieldLink RX4 13 "BundleLine$UnderWay" "counts" "[I") := ⟨List.mem_of_getElem? (i := 178) (by rfl), by rfl⟩
set_option maxRecDepth 100000 in
theorem kw_107 : iw (.fieldLink RX4 16 "BundleLine$UnderWay" "comings" "[I") := ⟨List.mem_of_getElem? (i := 179) (by rfl), by rfl⟩
set_option maxRecDepth 100000 in
theorem kw_108 : iw (.fieldLink RX4 19 "BundleLine$UnderWay" "marks" "[I") := ⟨List.mem_of_getElem? (i := 180) (by rfl), by rfl⟩
set_option maxRecDepth 100000 in
theorem kw_109 : iw (.fieldLink RX4 22 "BundleLine$UnderWay" "head" "I") := ⟨List.mem_of_getElem? (i := 181) (by rfl), by rfl⟩
set_option maxRecDepth 100000 in
theorem kw_110 : iw (.fieldLink RX4 26 "BundleLine$UnderWay" "length" "I") := ⟨List.mem_of_getElem? (i := 183) (by rfl), by rfl⟩
set_option maxRecDepth 100000 in
theorem kw_111 : iw (.methodLink RX4 29 yX4_comingOf) := ⟨List.mem_of_getElem? (i := 487) (by rfl), by rfl⟩
set_option maxRecDepth 100000 in
theorem kw_112 : iw (.code yX4_comingOf cX4_comingOf 2 (some .int)) := ⟨List.mem_of_getElem? (i := 490) (by rfl), by rfl⟩
set_option maxRecDepth 100000 in
theorem kw_113 : iw (.instanceMethod yX4_comingOf) := ⟨List.mem_of_getElem? (i := 488) (by rfl), by rfl⟩
set_option maxRecDepth 100000 in
theorem kw_114 : iw (.selects RX4 yX4_comingOf yX4_comingOf) := ⟨List.mem_of_getElem? (i := 489) (by rfl), by rfl⟩
set_option maxRecDepth 100000 in
theorem kw_115 : iw (.methodLink RX4 33 yX4_marksOf) := ⟨List.mem_of_getElem? (i := 551) (by rfl), by rfl⟩
set_option maxRecDepth 100000 in
theorem kw_116 : iw (.code yX4_marksOf cX4_marksOf 2 (some .int)) := ⟨List.mem_of_getElem? (i := 502) (by rfl), by rfl⟩
set_option maxRecDepth 100000 in
theorem kw_117 : iw (.instanceMethod yX4_marksOf) := ⟨List.mem_of_getElem? (i := 500) (by rfl), by rfl⟩
set_option maxRecDepth 100000 in
theorem kw_118 : iw (.selects RX4 yX4_marksOf yX4_marksOf) := ⟨List.mem_of_getElem? (i := 501) (by rfl), by rfl⟩
set_option maxRecDepth 100000 in
theorem kw_119 : iw (.methodLink RX5 1 objectInit) := ⟨List.mem_of_getElem? (i := 63) (by rfl), by rfl⟩
set_option maxRecDepth 100000 in
theorem kw_120 : iw (.classLink RX5 9 RX1) := ⟨List.mem_of_getElem? (i := 66) (by rfl), by rfl⟩
set_option maxRecDepth 100000 in
theorem kw_121 : iw (.fieldLink RX5 11 "BundleLine" "lines" "[LBundleLine$Line;") := ⟨List.mem_of_getElem? (i := 72) (by rfl), by rfl⟩
set_option maxRecDepth 100000 in
theorem kw_122 : iw (.classLink RX5 15 RX0) := ⟨List.mem_of_getElem? (i := 68) (by rfl), by rfl⟩
set_option maxRecDepth 100000 in
theorem kw_123 : iw (.fieldLink RX5 17 "BundleLine" "frames" "[LBundleLine$Frame;") := ⟨List.mem_of_getElem? (i := 74) (by rfl), by rfl⟩
set_option maxRecDepth 100000 in
theorem kw_124 : iw (.classLink RX5 21 RX2) := ⟨List.mem_of_getElem? (i := 70) (by rfl), by rfl⟩
set_option maxRecDepth 100000 in
theorem kw_125 : iw (.fieldLink RX5 23 "BundleLine" "pieces" "[LBundleLine$Piece;") := ⟨List.mem_of_getElem? (i := 79) (by rfl), by rfl⟩
set_option maxRecDepth 100000 in
theorem kw_126 : iw (.fieldLink RX5 27 "BundleLine" "inState" "[I") := ⟨List.mem_of_getElem? (i := 82) (by rfl), by rfl⟩
set_option maxRecDepth 100000 in
theorem kw_127 : iw (.arrayClass .byte) := ⟨List.mem_of_getElem? (i := 128) (by rfl), by rfl⟩
set_option maxRecDepth 100000 in
theorem kw_128 : iw (.fieldLink RX5 31 "BundleLine" "tray" "[B") := ⟨List.mem_of_getElem? (i := 83) (by rfl), by rfl⟩
set_option maxRecDepth 100000 in
theorem kw_129 : iw (.fieldLink RX5 35 "BundleLine" "cutSize" "I") := ⟨List.mem_of_getElem? (i := 85) (by rfl), by rfl⟩
set_option maxRecDepth 100000 in
theorem kw_130 : iw (.fieldLink RX5 39 "BundleLine" "roomSize" "I") := ⟨List.mem_of_getElem? (i := 86) (by rfl), by rfl⟩
set_option maxRecDepth 100000 in
theorem kw_131 : iw (.fieldLink RX5 42 "BundleLine" "refusals" "[I") := ⟨List.mem_of_getElem? (i := 89) (by rfl), by rfl⟩
set_option maxRecDepth 100000 in
theorem kw_132 : iw (.methodLink RX5 45 yX5_refuse) := ⟨List.mem_of_getElem? (i := 133) (by rfl), by rfl⟩
set_option maxRecDepth 100000 in
theorem kw_133 : iw (.initialized RX5) := ⟨List.mem_of_getElem? (i := 48) (by rfl), by rfl⟩
set_option maxRecDepth 100000 in
theorem kw_134 : iw (.code yX5_refuse cX5_refuse 2 (some .int)) := ⟨List.mem_of_getElem? (i := 136) (by rfl), by rfl⟩
set_option maxRecDepth 100000 in
theorem kw_135 : iw (.instanceMethod yX5_refuse) := ⟨List.mem_of_getElem? (i := 135) (by rfl), by rfl⟩
set_option maxRecDepth 100000 in
theorem kw_136 : iw (.selects RX5 yX5_refuse yX5_refuse) := ⟨List.mem_of_getElem? (i := 0) (by rfl), by rfl⟩
set_option maxRecDepth 100000 in
theorem kw_137 : iw (.fieldLink RX5 49 "BundleLine" "lineCount" "I") := ⟨List.mem_of_getElem? (i := 73) (by rfl), by rfl⟩
set_option maxRecDepth 100000 in
theorem kw_138 : iw (.instantiable RX1 17) := ⟨List.mem_of_getElem? (i := 137) (by rfl), by rfl⟩
set_option maxRecDepth 100000 in
theorem kw_139 : iw (.methodLink RX5 52 yX1_init) := ⟨List.mem_of_getElem? (i := 138) (by rfl), by rfl⟩
set_option maxRecDepth 100000 in
theorem kw_140 : iw (.code yX1_init cX1_init 5 none) := ⟨List.mem_of_getElem? (i := 140) (by rfl), by rfl⟩
set_option maxRecDepth 100000 in
theorem kw_141 : iw (.instanceMethod yX1_init) := ⟨List.mem_of_getElem? (i := 139) (by rfl), by rfl⟩
set_option maxRecDepth 100000 in
theorem kw_142 : iw (.methodLink RX5 55 yX5_lineAt) := ⟨List.mem_of_getElem? (i := 266) (by rfl), by rfl⟩
set_option maxRecDepth 100000 in
theorem kw_143 : iw (.code yX5_lineAt cX5_lineAt 2 (some (.object "BundleLine$Line"))) := ⟨List.mem_of_getElem? (i := 269) (by rfl), by rfl⟩
set_option maxRecDepth 100000 in
theorem kw_144 : iw (.instanceMethod yX5_lineAt) := ⟨List.mem_of_getElem? (i := 268) (by rfl), by rfl⟩
set_option maxRecDepth 100000 in
theorem kw_145 : iw (.selects RX5 yX5_lineAt yX5_lineAt) := ⟨List.mem_of_getElem? (i := 1) (by rfl), by rfl⟩
set_option maxRecDepth 100000 in
theorem kw_146 : iw (.fieldLink RX5 59 "BundleLine$Line" "kind" "I") := ⟨List.mem_of_getElem? (i := 201) (by rfl), by rfl⟩
set_option maxRecDepth 100000 in
theorem kw_147 : iw (.fieldLink RX5 62 "BundleLine$Line" "allowance" "I") := ⟨List.mem_of_getElem? (i := 215) (by rfl), by rfl⟩
set_option maxRecDepth 100000 in
theorem kw_148 : iw (.fieldLink RX5 65 "BundleLine$Line" "span" "I") := ⟨List.mem_of_getElem? (i := 217) (by rfl), by rfl⟩
set_option maxRecDepth 100000 in
theorem kw_149 : iw (.fieldLink RX5 68 "BundleLine" "trayLength" "I") := ⟨List.mem_of_getElem? (i := 84) (by rfl), by rfl⟩
set_option maxRecDepth 100000 in
theorem kw_150 : iw (.fieldLink RX5 71 "BundleLine" "frameCount" "I") := ⟨List.mem_of_getElem? (i := 75) (by rfl), by rfl⟩
set_option maxRecDepth 100000 in
theorem kw_151 : iw (.fieldLink RX5 74 "BundleLine" "pieceCount" "I") := ⟨List.mem_of_getElem? (i := 80) (by rfl), by rfl⟩
set_option maxRecDepth 100000 in
theorem kw_152 : iw (.fieldLink RX5 77 "BundleLine" "givenFrames" "I") := ⟨List.mem_of_getElem? (i := 76) (by rfl), by rfl⟩
set_option maxRecDepth 100000 in
theorem kw_153 : iw (.instantiable RX0 6) := ⟨List.mem_of_getElem? (i := 282) (by rfl), by rfl⟩
set_option maxRecDepth 100000 in
theorem kw_154 : iw (.methodLink RX5 80 yJ7_copyOf_9075b) := ⟨List.mem_of_getElem? (i := 283) (by rfl), by rfl⟩
set_option maxRecDepth 100000 in
theorem kw_155 : iw (.initialized RJ7) := ⟨List.mem_of_getElem? (i := 54) (by rfl), by rfl⟩
set_option maxRecDepth 100000 in
theorem kw_156 : iw (.code yJ7_copyOf_9075b cJ7_copyOf_9075b 3 (some (.array .byte))) := ⟨List.mem_of_getElem? (i := 285) (by rfl), by rfl⟩
set_option maxRecDepth 100000 in
theorem kw_157 : iw (.static yJ7_copyOf_9075b) := ⟨List.mem_of_getElem? (i := 284) (by rfl), by rfl⟩
set_option maxRecDepth 100000 in
theorem kw_158 : iw (.methodLink RX5 86 yX0_init) := ⟨List.mem_of_getElem? (i := 299) (by rfl), by rfl⟩
set_option maxRecDepth 100000 in
theorem kw_159 : iw (.code yX0_init cX0_init 4 none) := ⟨List.mem_of_getElem? (i := 301) (by rfl), by rfl⟩
set_option maxRecDepth 100000 in
theorem kw_160 : iw (.instanceMethod yX0_init) := ⟨List.mem_of_getElem? (i := 300) (by rfl), by rfl⟩
set_option maxRecDepth 100000 in
theorem kw_161 : iw (.methodLink RX5 89 yX5_cutIntoPieces) := ⟨List.mem_of_getElem? (i := 326) (by rfl), by rfl⟩
set_option maxRecDepth 100000 in
theorem kw_162 : iw (.code yX5_cutIntoPieces cX5_cutIntoPieces 6 none) := ⟨List.mem_of_getElem? (i := 329) (by rfl), by rfl⟩
set_option maxRecDepth 100000 in
theorem kw_163 : iw (.instanceMethod yX5_cutIntoPieces) := ⟨List.mem_of_getElem? (i := 328) (by rfl), by rfl⟩
set_option maxRecDepth 100000 in
theorem kw_164 : iw (.selects RX5 yX5_cutIntoPieces yX5_cutIntoPieces) := ⟨List.mem_of_getElem? (i := 2) (by rfl), by rfl⟩
set_option maxRecDepth 100000 in
theorem kw_165 : iw (.fieldLink RX5 93 "BundleLine$Frame" "row" "I") := ⟨List.mem_of_getElem? (i := 309) (by rfl), by rfl⟩
set_option maxRecDepth 100000 in
theorem kw_166 : iw (.fieldLink RX5 96 "BundleLine$Frame" "size" "I") := ⟨List.mem_of_getElem? (i := 305) (by rfl), by rfl⟩
set_option maxRecDepth 100000 in
theorem kw_167 : iw (.methodLink RX5 99 Lib.Math.min.name) := ⟨List.mem_of_getElem? (i := 330) (by rfl), by rfl⟩
set_option maxRecDepth 100000 in
theorem kw_168 : iw (.instantiable RX2 8) := ⟨List.mem_of_getElem? (i := 331) (by rfl), by rfl⟩
set_option maxRecDepth 100000 in
theorem kw_169 : iw (.initialized RX2) := ⟨List.mem_of_getElem? (i := 57) (by rfl), by rfl⟩
set_option maxRecDepth 100000 in
theorem kw_170 : iw (.methodLink RX5 105 yX0_sumOf) := ⟨List.mem_of_getElem? (i := 332) (by rfl), by rfl⟩
set_option maxRecDepth 100000 in
theorem kw_171 : iw (.code yX0_sumOf cX0_sumOf 5 (some .int)) := ⟨List.mem_of_getElem? (i := 335) (by rfl), by rfl⟩
set_option maxRecDepth 100000 in
theorem kw_172 : iw (.instanceMethod yX0_sumOf) := ⟨List.mem_of_getElem? (i := 333) (by rfl), by rfl⟩
set_option maxRecDepth 100000 in
theorem kw_173 : iw (.selects RX0 yX0_sumOf yX0_sumOf) := ⟨List.mem_of_getElem? (i := 334) (by rfl), by rfl⟩
set_option maxRecDepth 100000 in
theorem kw_174 : iw (.methodLink RX5 108 yX2_init) := ⟨List.mem_of_getElem? (i := 340) (by rfl), by rfl⟩
set_option maxRecDepth 100000 in
theorem kw_175 : iw (.code yX2_init cX2_init 5 none) := ⟨List.mem_of_getElem? (i := 342) (by rfl), by rfl⟩
set_option maxRecDepth 100000 in
theorem kw_176 : iw (.instanceMethod yX2_init) := ⟨List.mem_of_getElem? (i := 341) (by rfl), by rfl⟩
set_option maxRecDepth 100000 in
theorem kw_177 : iw (.fieldLink RX5 111 "BundleLine" "time" "I") := ⟨List.mem_of_getElem? (i := 88) (by rfl), by rfl⟩
set_option maxRecDepth 100000 in
theorem kw_178 : iw (.methodLink RX5 114 yX5_layLostPieces) := ⟨List.mem_of_getElem? (i := 387) (by rfl), by rfl⟩
set_option maxRecDepth 100000 in
theorem kw_179 : iw (.code yX5_layLostPieces cX5_layLostPieces 4 none) := ⟨List.mem_of_getElem? (i := 390) (by rfl), by rfl⟩
set_option maxRecDepth 100000 in
theorem kw_180 : iw (.instanceMethod yX5_layLostPieces) := ⟨List.mem_of_getElem? (i := 389) (by rfl), by rfl⟩
set_option maxRecDepth 100000 in
theorem kw_181 : iw (.selects RX5 yX5_layLostPieces yX5_layLostPieces) := ⟨List.mem_of_getElem? (i := 3) (by rfl), by rfl⟩
set_option maxRecDepth 100000 in
theorem kw_182 : iw (.methodLink RX5 117 yX5_layNewPieces) := ⟨List.mem_of_getElem? (i := 426) (by rfl), by rfl⟩
set_option maxRecDepth 100000 in
theorem kw_183 : iw (.code yX5_layNewPieces cX5_layNewPieces 4 none) := ⟨List.mem_of_getElem? (i := 429) (by rfl), by rfl⟩
set_option maxRecDepth 100000 in
theorem kw_184 : iw (.instanceMethod yX5_layNewPieces) := ⟨List.mem_of_getElem? (i := 428) (by rfl), by rfl⟩
set_option maxRecDepth 100000 in
theorem kw_185 : iw (.selects RX5 yX5_layNewPieces yX5_layNewPieces) := ⟨List.mem_of_getElem? (i := 8) (by rfl), by rfl⟩
set_option maxRecDepth 100000 in
theorem kw_186 : iw (.methodLink RX5 120 yX5_sendOnLines) := ⟨List.mem_of_getElem? (i := 434) (by rfl), by rfl⟩
set_option maxRecDepth 100000 in
theorem kw_187 : iw (.code yX5_sendOnLines cX5_sendOnLines 3 none) := ⟨List.mem_of_getElem? (i := 437) (by rfl), by rfl⟩
set_option maxRecDepth 100000 in
theorem kw_188 : iw (.instanceMethod yX5_sendOnLines) := ⟨List.mem_of_getElem? (i := 436) (by rfl), by rfl⟩
set_option maxRecDepth 100000 in
theorem kw_189 : iw (.selects RX5 yX5_sendOnLines yX5_sendOnLines) := ⟨List.mem_of_getElem? (i := 10) (by rfl), by rfl⟩
set_option maxRecDepth 100000 in
theorem kw_190 : iw (.methodLink RX5 123 yX5_takeWhatComes) := ⟨List.mem_of_getElem? (i := 475) (by rfl), by rfl⟩
set_option maxRecDepth 100000 in
theorem kw_191 : iw (.code yX5_takeWhatComes cX5_takeWhatComes 3 none) := ⟨List.mem_of_getElem? (i := 478) (by rfl), by rfl⟩
set_option maxRecDepth 100000 in
theorem kw_192 : iw (.instanceMethod yX5_takeWhatComes) := ⟨List.mem_of_getElem? (i := 477) (by rfl), by rfl⟩
set_option maxRecDepth 100000 in
theorem kw_193 : iw (.selects RX5 yX5_takeWhatComes yX5_takeWhatComes) := ⟨List.mem_of_getElem? (i := 14) (by rfl), by rfl⟩
set_option maxRecDepth 100000 in
theorem kw_194 : iw (.methodLink RX5 126 yX5_restLines) := ⟨List.mem_of_getElem? (i := 535) (by rfl), by rfl⟩
set_option maxRecDepth 100000 in
theorem kw_195 : iw (.code yX5_restLines cX5_restLines 3 none) := ⟨List.mem_of_getElem? (i := 538) (by rfl), by rfl⟩
set_option maxRecDepth 100000 in
theorem kw_196 : iw (.instanceMethod yX5_restLines) := ⟨List.mem_of_getElem? (i := 537) (by rfl), by rfl⟩
set_option maxRecDepth 100000 in
theorem kw_197 : iw (.selects RX5 yX5_restLines yX5_restLines) := ⟨List.mem_of_getElem? (i := 21) (by rfl), by rfl⟩
set_option maxRecDepth 100000 in
theorem kw_198 : iw (.fieldLink RX5 129 "BundleLine" "givenPieces" "I") := ⟨List.mem_of_getElem? (i := 77) (by rfl), by rfl⟩
set_option maxRecDepth 100000 in
theorem kw_199 : iw (.fieldLink RX5 132 "BundleLine" "firstNew" "I") := ⟨List.mem_of_getElem? (i := 81) (by rfl), by rfl⟩
set_option maxRecDepth 100000 in
theorem kw_200 : iw (.methodLink RX5 135 yX5_pieceAt) := ⟨List.mem_of_getElem? (i := 391) (by rfl), by rfl⟩
set_option maxRecDepth 100000 in
theorem kw_201 : iw (.code yX5_pieceAt cX5_pieceAt 2 (some (.object "BundleLine$Piece"))) := ⟨List.mem_of_getElem? (i := 394) (by rfl), by rfl⟩
set_option maxRecDepth 100000 in
theorem kw_202 : iw (.instanceMethod yX5_pieceAt) := ⟨List.mem_of_getElem? (i := 393) (by rfl), by rfl⟩
set_option maxRecDepth 100000 in
theorem kw_203 : iw (.selects RX5 yX5_pieceAt yX5_pieceAt) := ⟨List.mem_of_getElem? (i := 4) (by rfl), by rfl⟩
set_option maxRecDepth 100000 in
theorem kw_204 : iw (.fieldLink RX5 139 "BundleLine$Piece" "state" "I") := ⟨List.mem_of_getElem? (i := 354) (by rfl), by rfl⟩
set_option maxRecDepth 100000 in
theorem kw_205 : iw (.methodLink RX5 142 yX5_lineFor) := ⟨List.mem_of_getElem? (i := 395) (by rfl), by rfl⟩
set_option maxRecDepth 100000 in
theorem kw_206 : iw (.code yX5_lineFor cX5_lineFor 5 (some (.object "BundleLine$Line"))) := ⟨List.mem_of_getElem? (i := 398) (by rfl), by rfl⟩
set_option maxRecDepth 100000 in
theorem kw_207 : iw (.instanceMethod yX5_lineFor) := ⟨List.mem_of_getElem? (i := 397) (by rfl), by rfl⟩
set_option maxRecDepth 100000 in
theorem kw_208 : iw (.selects RX5 yX5_lineFor yX5_lineFor) := ⟨List.mem_of_getElem? (i := 5) (by rfl), by rfl⟩
set_option maxRecDepth 100000 in
theorem kw_209 : iw (.methodLink RX5 146 yX5_layOn) := ⟨List.mem_of_getElem? (i := 414) (by rfl), by rfl⟩
set_option maxRecDepth 100000 in
theorem kw_210 : iw (.code yX5_layOn cX5_layOn 4 none) := ⟨List.mem_of_getElem? (i := 417) (by rfl), by rfl⟩
set_option maxRecDepth 100000 in
theorem kw_211 : iw (.instanceMethod yX5_layOn) := ⟨List.mem_of_getElem? (i := 416) (by rfl), by rfl⟩
set_option maxRecDepth 100000 in
theorem kw_212 : iw (.selects RX5 yX5_layOn yX5_layOn) := ⟨List.mem_of_getElem? (i := 6) (by rfl), by rfl⟩
set_option maxRecDepth 100000 in
theorem kw_213 : iw (.fieldLink RX5 150 "BundleLine$Piece" "size" "I") := ⟨List.mem_of_getElem? (i := 347) (by rfl), by rfl⟩
set_option maxRecDepth 100000 in
theorem kw_214 : iw (.methodLink RX5 151 yX5_creditLeft) := ⟨List.mem_of_getElem? (i := 430) (by rfl), by rfl⟩
set_option maxRecDepth 100000 in
theorem kw_215 : iw (.code yX5_creditLeft cX5_creditLeft 1 (some .int)) := ⟨List.mem_of_getElem? (i := 433) (by rfl), by rfl⟩
set_option maxRecDepth 100000 in
theorem kw_216 : iw (.instanceMethod yX5_creditLeft) := ⟨List.mem_of_getElem? (i := 432) (by rfl), by rfl⟩
set_option maxRecDepth 100000 in
theorem kw_217 : iw (.selects RX5 yX5_creditLeft yX5_creditLeft) := ⟨List.mem_of_getElem? (i := 9) (by rfl), by rfl⟩
set_option maxRecDepth 100000 in
theorem kw_218 : iw (.fieldLink RX5 155 "BundleLine" "heldBytes" "I") := ⟨List.mem_of_getElem? (i := 87) (by rfl), by rfl⟩
set_option maxRecDepth 100000 in
theorem kw_219 : iw (.methodLink RX5 158 yX1_takesMore) := ⟨List.mem_of_getElem? (i := 399) (by rfl), by rfl⟩
set_option maxRecDepth 100000 in
theorem kw_220 : iw (.code yX1_takesMore cX1_takesMore 1 (some .boolean)) := ⟨List.mem_of_getElem? (i := 402) (by rfl), by rfl⟩
set_option maxRecDepth 100000 in
theorem kw_221 : iw (.instanceMethod yX1_takesMore) := ⟨List.mem_of_getElem? (i := 400) (by rfl), by rfl⟩
set_option maxRecDepth 100000 in
theorem kw_222 : iw (.selects RX1 yX1_takesMore yX1_takesMore) := ⟨List.mem_of_getElem? (i := 401) (by rfl), by rfl⟩
set_option maxRecDepth 100000 in
theorem kw_223 : iw (.methodLink RX5 162 yX5_isBetter) := ⟨List.mem_of_getElem? (i := 403) (by rfl), by rfl⟩
set_option maxRecDepth 100000 in
theorem kw_224 : iw (.code yX5_isBetter cX5_isBetter 7 (some .boolean)) := ⟨List.mem_of_getElem? (i := 405) (by rfl), by rfl⟩
set_option maxRecDepth 100000 in
theorem kw_225 : iw (.static yX5_isBetter) := ⟨List.mem_of_getElem? (i := 404) (by rfl), by rfl⟩
set_option maxRecDepth 100000 in
theorem kw_226 : iw (.fieldLink RX5 166 "BundleLine$Line" "number" "I") := ⟨List.mem_of_getElem? (i := 199) (by rfl), by rfl⟩
set_option maxRecDepth 100000 in
theorem kw_227 : iw (.methodLink RX5 169 yX2_lossesOn) := ⟨List.mem_of_getElem? (i := 406) (by rfl), by rfl⟩
set_option maxRecDepth 100000 in
theorem kw_228 : iw (.code yX2_lossesOn cX2_lossesOn 2 (some .int)) := ⟨List.mem_of_getElem? (i := 409) (by rfl), by rfl⟩
set_option maxRecDepth 100000 in
theorem kw_229 : iw (.instanceMethod yX2_lossesOn) := ⟨List.mem_of_getElem? (i := 407) (by rfl), by rfl⟩
set_option maxRecDepth 100000 in
theorem kw_230 : iw (.selects RX2 yX2_lossesOn yX2_lossesOn) := ⟨List.mem_of_getElem? (i := 408) (by rfl), by rfl⟩
set_option maxRecDepth 100000 in
theorem kw_231 : iw (.methodLink RX5 172 yX1_ticksToSend) := ⟨List.mem_of_getElem? (i := 410) (by rfl), by rfl⟩
set_option maxRecDepth 100000 in
theorem kw_232 : iw (.code yX1_ticksToSend cX1_ticksToSend 2 (some .int)) := ⟨List.mem_of_getElem? (i := 413) (by rfl), by rfl⟩
set_option maxRecDepth 100000 in
theorem kw_233 : iw (.instanceMethod yX1_ticksToSend) := ⟨List.mem_of_getElem? (i := 411) (by rfl), by rfl⟩
set_option maxRecDepth 100000 in
theorem kw_234 : iw (.selects RX1 yX1_ticksToSend yX1_ticksToSend) := ⟨List.mem_of_getElem? (i := 412) (by rfl), by rfl⟩
set_option maxRecDepth 100000 in
theorem kw_235 : iw (.fieldLink RX5 175 "BundleLine$Line" "carried" "I") := ⟨List.mem_of_getElem? (i := 223) (by rfl), by rfl⟩
set_option maxRecDepth 100000 in
theorem kw_236 : iw (.methodLink RX5 178 yX5_become) := ⟨List.mem_of_getElem? (i := 418) (by rfl), by rfl⟩
set_option maxRecDepth 100000 in
theorem kw_237 : iw (.code yX5_become cX5_become 3 none) := ⟨List.mem_of_getElem? (i := 421) (by rfl), by rfl⟩
set_option maxRecDepth 100000 in
theorem kw_238 : iw (.instanceMethod yX5_become) := ⟨List.mem_of_getElem? (i := 420) (by rfl), by rfl⟩
set_option maxRecDepth 100000 in
theorem kw_239 : iw (.selects RX5 yX5_become yX5_become) := ⟨List.mem_of_getElem? (i := 7) (by rfl), by rfl⟩
set_option maxRecDepth 100000 in
theorem kw_240 : iw (.fieldLink RX5 182 "BundleLine$Piece" "tries" "I") := ⟨List.mem_of_getElem? (i := 355) (by rfl), by rfl⟩
set_option maxRecDepth 100000 in
theorem kw_241 : iw (.fieldLink RX5 185 "BundleLine$Piece" "line" "I") := ⟨List.mem_of_getElem? (i := 357) (by rfl), by rfl⟩
set_option maxRecDepth 100000 in
theorem kw_242 : iw (.fieldLink RX5 188 "BundleLine$Line" "queue" "LBundleLine$Queue;") := ⟨List.mem_of_getElem? (i := 207) (by rfl), by rfl⟩
set_option maxRecDepth 100000 in
theorem kw_243 : iw (.methodLink RX5 192 yX3_add) := ⟨List.mem_of_getElem? (i := 422) (by rfl), by rfl⟩
set_option maxRecDepth 100000 in
theorem kw_244 : iw (.code yX3_add cX3_add 4 none) := ⟨List.mem_of_getElem? (i := 425) (by rfl), by rfl⟩
set_option maxRecDepth 100000 in
theorem kw_245 : iw (.instanceMethod yX3_add) := ⟨List.mem_of_getElem? (i := 423) (by rfl), by rfl⟩
set_option maxRecDepth 100000 in
theorem kw_246 : iw (.selects RX3 yX3_add yX3_add) := ⟨List.mem_of_getElem? (i := 424) (by rfl), by rfl⟩
set_option maxRecDepth 100000 in
theorem kw_247 : iw (.methodLink RX5 198 yX1_sendAt) := ⟨List.mem_of_getElem? (i := 438) (by rfl), by rfl⟩
set_option maxRecDepth 100000 in
theorem kw_248 : iw (.code yX1_sendAt cX1_sendAt 3 none) := ⟨List.mem_of_getElem? (i := 441) (by rfl), by rfl⟩
set_option maxRecDepth 100000 in
theorem kw_249 : iw (.instanceMethod yX1_sendAt) := ⟨List.mem_of_getElem? (i := 439) (by rfl), by rfl⟩
set_option maxRecDepth 100000 in
theorem kw_250 : iw (.selects RX1 yX1_sendAt yX1_sendAt) := ⟨List.mem_of_getElem? (i := 440) (by rfl), by rfl⟩
set_option maxRecDepth 100000 in
theorem kw_251 : iw (.methodLink RX5 202 yX5_takeFrom) := ⟨List.mem_of_getElem? (i := 479) (by rfl), by rfl⟩
set_option maxRecDepth 100000 in
theorem kw_252 : iw (.code yX5_takeFrom cX5_takeFrom 7 none) := ⟨List.mem_of_getElem? (i := 482) (by rfl), by rfl⟩
set_option maxRecDepth 100000 in
theorem kw_253 : iw (.instanceMethod yX5_takeFrom) := ⟨List.mem_of_getElem? (i := 481) (by rfl), by rfl⟩
set_option maxRecDepth 100000 in
theorem kw_254 : iw (.selects RX5 yX5_takeFrom yX5_takeFrom) := ⟨List.mem_of_getElem? (i := 15) (by rfl), by rfl⟩
set_option maxRecDepth 100000 in
theorem kw_255 : iw (.methodLink RX5 206 yX5_giveFrames) := ⟨List.mem_of_getElem? (i := 531) (by rfl), by rfl⟩
set_option maxRecDepth 100000 in
theorem kw_256 : iw (.code yX5_giveFrames cX5_giveFrames 3 none) := ⟨List.mem_of_getElem? (i := 534) (by rfl), by rfl⟩
set_option maxRecDepth 100000 in
theorem kw_257 : iw (.instanceMethod yX5_giveFrames) := ⟨List.mem_of_getElem? (i := 533) (by rfl), by rfl⟩
set_option maxRecDepth 100000 in
theorem kw_258 : iw (.selects RX5 yX5_giveFrames yX5_giveFrames) := ⟨List.mem_of_getElem? (i := 20) (by rfl), by rfl⟩
set_option maxRecDepth 100000 in
theorem kw_259 : iw (.fieldLink RX5 209 "BundleLine$Line" "underWay" "LBundleLine$UnderWay;") := ⟨List.mem_of_getElem? (i := 209) (by rfl), by rfl⟩
set_option maxRecDepth 100000 in
theorem kw_260 : iw (.methodLink RX5 213 yX4_hasComeAt) := ⟨List.mem_of_getElem? (i := 483) (by rfl), by rfl⟩
set_option maxRecDepth 100000 in
theorem kw_261 : iw (.code yX4_hasComeAt cX4_hasComeAt 2 (some .boolean)) := ⟨List.mem_of_getElem? (i := 486) (by rfl), by rfl⟩
set_option maxRecDepth 100000 in
theorem kw_262 : iw (.instanceMethod yX4_hasComeAt) := ⟨List.mem_of_getElem? (i := 484) (by rfl), by rfl⟩
set_option maxRecDepth 100000 in
theorem kw_263 : iw (.selects RX4 yX4_hasComeAt yX4_hasComeAt) := ⟨List.mem_of_getElem? (i := 485) (by rfl), by rfl⟩
set_option maxRecDepth 100000 in
theorem kw_264 : iw (.methodLink RX5 219 yX4_numberOf) := ⟨List.mem_of_getElem? (i := 491) (by rfl), by rfl⟩
set_option maxRecDepth 100000 in
theorem kw_265 : iw (.code yX4_numberOf cX4_numberOf 2 (some .int)) := ⟨List.mem_of_getElem? (i := 494) (by rfl), by rfl⟩
set_option maxRecDepth 100000 in
theorem kw_266 : iw (.instanceMethod yX4_numberOf) := ⟨List.mem_of_getElem? (i := 492) (by rfl), by rfl⟩
set_option maxRecDepth 100000 in
theorem kw_267 : iw (.selects RX4 yX4_numberOf yX4_numberOf) := ⟨List.mem_of_getElem? (i := 493) (by rfl), by rfl⟩
set_option maxRecDepth 100000 in
theorem kw_268 : iw (.methodLink RX5 222 yX4_countOf) := ⟨List.mem_of_getElem? (i := 495) (by rfl), by rfl⟩
set_option maxRecDepth 100000 in
theorem kw_269 : iw (.code yX4_countOf cX4_countOf 2 (some .int)) := ⟨List.mem_of_getElem? (i := 498) (by rfl), by rfl⟩
set_option maxRecDepth 100000 in
theorem kw_270 : iw (.instanceMethod yX4_countOf) := ⟨List.mem_of_getElem? (i := 496) (by rfl), by rfl⟩
set_option maxRecDepth 100000 in
theorem kw_271 : iw (.selects RX4 yX4_countOf yX4_countOf) := ⟨List.mem_of_getElem? (i := 497) (by rfl), by rfl⟩
set_option maxRecDepth 100000 in
theorem kw_272 : iw (.methodLink RX5 225 yX4_marksOf) := ⟨List.mem_of_getElem? (i := 499) (by rfl), by rfl⟩
set_option maxRecDepth 100000 in
theorem kw_273 : iw (.methodLink RX5 228 yX4_dropFirst) := ⟨List.mem_of_getElem? (i := 503) (by rfl), by rfl⟩
set_option maxRecDepth 100000 in
theorem kw_274 : iw (.code yX4_dropFirst cX4_dropFirst 1 none) := ⟨List.mem_of_getElem? (i := 506) (by rfl), by rfl⟩
set_option maxRecDepth 100000 in
theorem kw_275 : iw (.instanceMethod yX4_dropFirst) := ⟨List.mem_of_getElem? (i := 504) (by rfl), by rfl⟩
set_option maxRecDepth 100000 in
theorem kw_276 : iw (.selects RX4 yX4_dropFirst yX4_dropFirst) := ⟨List.mem_of_getElem? (i := 505) (by rfl), by rfl⟩
set_option maxRecDepth 100000 in
theorem kw_277 : iw (.fieldLink RX5 231 "BundleLine$Line" "refusedPieces" "I") := ⟨List.mem_of_getElem? (i := 226) (by rfl), by rfl⟩
set_option maxRecDepth 100000 in
theorem kw_278 : iw (.methodLink RX5 234 yX5_loseUpTo) := ⟨List.mem_of_getElem? (i := 507) (by rfl), by rfl⟩
set_option maxRecDepth 100000 in
theorem kw_279 : iw (.code yX5_loseUpTo cX5_loseUpTo 4 none) := ⟨List.mem_of_getElem? (i := 510) (by rfl), by rfl⟩
set_option maxRecDepth 100000 in
theorem kw_280 : iw (.instanceMethod yX5_loseUpTo) := ⟨List.mem_of_getElem? (i := 509) (by rfl), by rfl⟩
set_option maxRecDepth 100000 in
theorem kw_281 : iw (.selects RX5 yX5_loseUpTo yX5_loseUpTo) := ⟨List.mem_of_getElem? (i := 16) (by rfl), by rfl⟩
set_option maxRecDepth 100000 in
theorem kw_282 : iw (.fieldLink RX5 238 "BundleLine$Line" "seen" "I") := ⟨List.mem_of_getElem? (i := 221) (by rfl), by rfl⟩
set_option maxRecDepth 100000 in
theorem kw_283 : iw (.methodLink RX5 241 yX5_arrive) := ⟨List.mem_of_getElem? (i := 523) (by rfl), by rfl⟩
set_option maxRecDepth 100000 in
theorem kw_284 : iw (.code yX5_arrive cX5_arrive 4 none) := ⟨List.mem_of_getElem? (i := 526) (by rfl), by rfl⟩
set_option maxRecDepth 100000 in
theorem kw_285 : iw (.instanceMethod yX5_arrive) := ⟨List.mem_of_getElem? (i := 525) (by rfl), by rfl⟩
set_option maxRecDepth 100000 in
theorem kw_286 : iw (.selects RX5 yX5_arrive yX5_arrive) := ⟨List.mem_of_getElem? (i := 18) (by rfl), by rfl⟩
set_option maxRecDepth 100000 in
theorem kw_287 : iw (.fieldLink RX5 244 "BundleLine$Piece" "frame" "I") := ⟨List.mem_of_getElem? (i := 345) (by rfl), by rfl⟩
set_option maxRecDepth 100000 in
theorem kw_288 : iw (.methodLink RX5 247 yX5_frameAt) := ⟨List.mem_of_getElem? (i := 527) (by rfl), by rfl⟩
set_option maxRecDepth 100000 in
theorem kw_289 : iw (.code yX5_frameAt cX5_frameAt 2 (some (.object "BundleLine$Frame"))) := ⟨List.mem_of_getElem? (i := 530) (by rfl), by rfl⟩
set_option maxRecDepth 100000 in
theorem kw_290 : iw (.instanceMethod yX5_frameAt) := ⟨List.mem_of_getElem? (i := 529) (by rfl), by rfl⟩
set_option maxRecDepth 100000 in
theorem kw_291 : iw (.selects RX5 yX5_frameAt yX5_frameAt) := ⟨List.mem_of_getElem? (i := 19) (by rfl), by rfl⟩
set_option maxRecDepth 100000 in
theorem kw_292 : iw (.fieldLink RX5 251 "BundleLine$Frame" "there" "I") := ⟨List.mem_of_getElem? (i := 310) (by rfl), by rfl⟩
set_option maxRecDepth 100000 in
theorem kw_293 : iw (.methodLink RX5 254 yX1_sentWith) := ⟨List.mem_of_getElem? (i := 511) (by rfl), by rfl⟩
set_option maxRecDepth 100000 in
theorem kw_294 : iw (.code yX1_sentWith cX1_sentWith 2 (some .int)) := ⟨List.mem_of_getElem? (i := 514) (by rfl), by rfl⟩
set_option maxRecDepth 100000 in
theorem kw_295 : iw (.instanceMethod yX1_sentWith) := ⟨List.mem_of_getElem? (i := 512) (by rfl), by rfl⟩
set_option maxRecDepth 100000 in
theorem kw_296 : iw (.selects RX1 yX1_sentWith yX1_sentWith) := ⟨List.mem_of_getElem? (i := 513) (by rfl), by rfl⟩
set_option maxRecDepth 100000 in
theorem kw_297 : iw (.methodLink RX5 257 yX5_loseOn) := ⟨List.mem_of_getElem? (i := 515) (by rfl), by rfl⟩
set_option maxRecDepth 100000 in
theorem kw_298 : iw (.code yX5_loseOn cX5_loseOn 4 none) := ⟨List.mem_of_getElem? (i := 518) (by rfl), by rfl⟩
set_option maxRecDepth 100000 in
theorem kw_299 : iw (.instanceMethod yX5_loseOn) := ⟨List.mem_of_getElem? (i := 517) (by rfl), by rfl⟩
set_option maxRecDepth 100000 in
theorem kw_300 : iw (.selects RX5 yX5_loseOn yX5_loseOn) := ⟨List.mem_of_getElem? (i := 17) (by rfl), by rfl⟩
set_option maxRecDepth 100000 in
theorem kw_301 : iw (.methodLink RX5 260 yX2_addLossOn) := ⟨List.mem_of_getElem? (i := 519) (by rfl), by rfl⟩
set_option maxRecDepth 100000 in
theorem kw_302 : iw (.code yX2_addLossOn cX2_addLossOn 2 none) := ⟨List.mem_of_getElem? (i := 522) (by rfl), by rfl⟩
set_option maxRecDepth 100000 in
theorem kw_303 : iw (.instanceMethod yX2_addLossOn) := ⟨List.mem_of_getElem? (i := 520) (by rfl), by rfl⟩
set_option maxRecDepth 100000 in
theorem kw_304 : iw (.selects RX2 yX2_addLossOn yX2_addLossOn) := ⟨List.mem_of_getElem? (i := 521) (by rfl), by rfl⟩
set_option maxRecDepth 100000 in
theorem kw_305 : iw (.fieldLink RX5 263 "BundleLine$Line" "lostPieces" "I") := ⟨List.mem_of_getElem? (i := 224) (by rfl), by rfl⟩
set_option maxRecDepth 100000 in
theorem kw_306 : iw (.fieldLink RX5 266 "BundleLine$Frame" "givenAt" "I") := ⟨List.mem_of_getElem? (i := 312) (by rfl), by rfl⟩
set_option maxRecDepth 100000 in
theorem kw_307 : iw (.fieldLink RX5 269 "BundleLine" "givenBytes" "I") := ⟨List.mem_of_getElem? (i := 78) (by rfl), by rfl⟩
set_option maxRecDepth 100000 in
theorem kw_308 : iw (.methodLink RX5 272 yX1_restsUnheard) := ⟨List.mem_of_getElem? (i := 539) (by rfl), by rfl⟩
set_option maxRecDepth 100000 in
theorem kw_309 : iw (.code yX1_restsUnheard cX1_restsUnheard 1 (some .boolean)) := ⟨List.mem_of_getElem? (i := 542) (by rfl), by rfl⟩
set_option maxRecDepth 100000 in
theorem kw_310 : iw (.instanceMethod yX1_restsUnheard) := ⟨List.mem_of_getElem? (i := 540) (by rfl), by rfl⟩
set_option maxRecDepth 100000 in
theorem kw_311 : iw (.selects RX1 yX1_restsUnheard yX1_restsUnheard) := ⟨List.mem_of_getElem? (i := 541) (by rfl), by rfl⟩
set_option maxRecDepth 100000 in
theorem kw_312 : iw (.fieldLink RX5 275 "BundleLine$Line" "emptiesLaid" "I") := ⟨List.mem_of_getElem? (i := 225) (by rfl), by rfl⟩
set_option maxRecDepth 100000 in
theorem kw_313 : iw (.methodLink RX5 278 yX4_firstWithout) := ⟨List.mem_of_getElem? (i := 547) (by rfl), by rfl⟩
set_option maxRecDepth 100000 in
theorem kw_314 : iw (.code yX4_firstWithout cX4_firstWithout 3 (some .int)) := ⟨List.mem_of_getElem? (i := 550) (by rfl), by rfl⟩
set_option maxRecDepth 100000 in
theorem kw_315 : iw (.instanceMethod yX4_firstWithout) := ⟨List.mem_of_getElem? (i := 548) (by rfl), by rfl⟩
set_option maxRecDepth 100000 in
theorem kw_316 : iw (.selects RX4 yX4_firstWithout yX4_firstWithout) := ⟨List.mem_of_getElem? (i := 549) (by rfl), by rfl⟩
set_option maxRecDepth 100000 in
theorem kw_317 : iw (.methodLink RX5 281 yX4_mark) := ⟨List.mem_of_getElem? (i := 552) (by rfl), by rfl⟩
set_option maxRecDepth 100000 in
theorem kw_318 : iw (.code yX4_mark cX4_mark 4 none) := ⟨List.mem_of_getElem? (i := 555) (by rfl), by rfl⟩
set_option maxRecDepth 100000 in
theorem kw_319 : iw (.instanceMethod yX4_mark) := ⟨List.mem_of_getElem? (i := 553) (by rfl), by rfl⟩
set_option maxRecDepth 100000 in
theorem kw_320 : iw (.selects RX4 yX4_mark yX4_mark) := ⟨List.mem_of_getElem? (i := 554) (by rfl), by rfl⟩
set_option maxRecDepth 100000 in
theorem kw_321 : iw (.fieldLink RX5 284 "BundleLine$Line" "isUp" "Z") := ⟨List.mem_of_getElem? (i := 213) (by rfl), by rfl⟩
set_option maxRecDepth 100000 in
theorem kw_322 : iw (.fieldLink RX5 288 "BundleLine$Queue" "length" "I") := ⟨List.mem_of_getElem? (i := 153) (by rfl), by rfl⟩
set_option maxRecDepth 100000 in
theorem kw_323 : iw (.methodLink RX5 291 yX3_numberOf) := ⟨List.mem_of_getElem? (i := 564) (by rfl), by rfl⟩
set_option maxRecDepth 100000 in
theorem kw_324 : iw (.fieldLink RX5 292 "BundleLine$Line" "count" "I") := ⟨List.mem_of_getElem? (i := 219) (by rfl), by rfl⟩
set_option maxRecDepth 100000 in
theorem kw_325 : iw (.methodLink RX5 295 yX1_goDown) := ⟨List.mem_of_getElem? (i := 565) (by rfl), by rfl⟩
set_option maxRecDepth 100000 in
theorem kw_326 : iw (.code yX1_goDown cX1_goDown 1 none) := ⟨List.mem_of_getElem? (i := 568) (by rfl), by rfl⟩
set_option maxRecDepth 100000 in
theorem kw_327 : iw (.instanceMethod yX1_goDown) := ⟨List.mem_of_getElem? (i := 566) (by rfl), by rfl⟩
set_option maxRecDepth 100000 in
theorem kw_328 : iw (.selects RX1 yX1_goDown yX1_goDown) := ⟨List.mem_of_getElem? (i := 567) (by rfl), by rfl⟩
set_option maxRecDepth 100000 in
theorem kw_329 : iw (.fieldLink RX5 298 "BundleLine$Line" "speed" "I") := ⟨List.mem_of_getElem? (i := 203) (by rfl), by rfl⟩
set_option maxRecDepth 100000 in
theorem kw_330 : iw (.fieldLink RX5 301 "BundleLine$Line" "delay" "I") := ⟨List.mem_of_getElem? (i := 205) (by rfl), by rfl⟩
set_option maxRecDepth 100000 in
theorem kw_331 : iw (.fieldLink RX5 304 "BundleLine$Queue" "waitingBytes" "I") := ⟨List.mem_of_getElem? (i := 156) (by rfl), by rfl⟩
set_option maxRecDepth 100000 in
theorem kw_332 : iw (.fieldLink RX5 307 "BundleLine$UnderWay" "length" "I") := ⟨List.mem_of_getElem? (i := 184) (by rfl), by rfl⟩
set_option maxRecDepth 100000 in
theorem kw_333 : iw (.fieldLink RX5 308 "BundleLine$Piece" "isLast" "Z") := ⟨List.mem_of_getElem? (i := 349) (by rfl), by rfl⟩
set_option maxRecDepth 100000 in
theorem kw_334 : iw (.fieldLink RX5 311 "BundleLine$Piece" "sum" "I") := ⟨List.mem_of_getElem? (i := 351) (by rfl), by rfl⟩
set_option maxRecDepth 100000 in
theorem kw_335 : iw (.methodLink RX5 314 yX4_comingOf) := ⟨List.mem_of_getElem? (i := 601) (by rfl), by rfl⟩
set_option maxRecDepth 100000 in
theorem kw_336 : iw (.methodLink RX5 317 yX5_lostPieceAt) := ⟨List.mem_of_getElem? (i := 606) (by rfl), by rfl⟩
set_option maxRecDepth 100000 in
theorem kw_337 : iw (.code yX5_lostPieceAt cX5_lostPieceAt 5 (some .int)) := ⟨List.mem_of_getElem? (i := 609) (by rfl), by rfl⟩
set_option maxRecDepth 100000 in
theorem kw_338 : iw (.instanceMethod yX5_lostPieceAt) := ⟨List.mem_of_getElem? (i := 608) (by rfl), by rfl⟩
set_option maxRecDepth 100000 in
theorem kw_339 : iw (.selects RX5 yX5_lostPieceAt yX5_lostPieceAt) := ⟨List.mem_of_getElem? (i := 22) (by rfl), by rfl⟩
set_option maxRecDepth 100000 in
theorem kw_340 : iw (.methodLink RX5 320 yX0_byteAt) := ⟨List.mem_of_getElem? (i := 614) (by rfl), by rfl⟩
set_option maxRecDepth 100000 in
theorem kw_341 : iw (.fieldLink RX5 323 "BundleLine$Frame" "firstPiece" "I") := ⟨List.mem_of_getElem? (i := 307) (by rfl), by rfl⟩
set_option maxRecDepth 100000 in
theorem kw_342 : iw (.methodLink RX5 326 yX5_witnessOf) := ⟨List.mem_of_getElem? (i := 631) (by rfl), by rfl⟩
set_option maxRecDepth 100000 in
theorem kw_343 : iw (.code yX5_witnessOf cX5_witnessOf 3 (some .int)) := ⟨List.mem_of_getElem? (i := 634) (by rfl), by rfl⟩
set_option maxRecDepth 100000 in
theorem kw_344 : iw (.instanceMethod yX5_witnessOf) := ⟨List.mem_of_getElem? (i := 633) (by rfl), by rfl⟩
set_option maxRecDepth 100000 in
theorem kw_345 : iw (.selects RX5 yX5_witnessOf yX5_witnessOf) := ⟨List.mem_of_getElem? (i := 23) (by rfl), by rfl⟩
set_option maxRecDepth 100000 in
theorem kw_346 : iw (.methodLink RX5 329 yX5_allEmptiesLaid) := ⟨List.mem_of_getElem? (i := 643) (by rfl), by rfl⟩
set_option maxRecDepth 100000 in
theorem kw_347 : iw (.code yX5_allEmptiesLaid cX5_allEmptiesLaid 4 (some .int)) := ⟨List.mem_of_getElem? (i := 646) (by rfl), by rfl⟩
set_option maxRecDepth 100000 in
theorem kw_348 : iw (.instanceMethod yX5_allEmptiesLaid) := ⟨List.mem_of_getElem? (i := 645) (by rfl), by rfl⟩
set_option maxRecDepth 100000 in
theorem kw_349 : iw (.selects RX5 yX5_allEmptiesLaid yX5_allEmptiesLaid) := ⟨List.mem_of_getElem? (i := 24) (by rfl), by rfl⟩
set_option maxRecDepth 100000 in
theorem kw_350 : iw (.methodLink RX5 332 yX5_refusalsOf) := ⟨List.mem_of_getElem? (i := 647) (by rfl), by rfl⟩
set_option maxRecDepth 100000 in
theorem kw_351 : iw (.code yX5_refusalsOf cX5_refusalsOf 2 (some .int)) := ⟨List.mem_of_getElem? (i := 650) (by rfl), by rfl⟩
set_option maxRecDepth 100000 in
theorem kw_352 : iw (.instanceMethod yX5_refusalsOf) := ⟨List.mem_of_getElem? (i := 649) (by rfl), by rfl⟩
set_option maxRecDepth 100000 in
theorem kw_353 : iw (.selects RX5 yX5_refusalsOf yX5_refusalsOf) := ⟨List.mem_of_getElem? (i := 25) (by rfl), by rfl⟩
set_option maxRecDepth 100000 in
theorem kw_354 : iw (.methodLink RX6 1 objectInit) := ⟨List.mem_of_getElem? (i := 656) (by rfl), by rfl⟩
set_option maxRecDepth 100000 in
theorem kw_355 : iw (.fieldLink RX6 7 "BundleLineModel" "kind" "[I") := ⟨List.mem_of_getElem? (i := 659) (by rfl), by rfl⟩
set_option maxRecDepth 100000 in
theorem kw_356 : iw (.fieldLink RX6 13 "BundleLineModel" "speed" "[I") := ⟨List.mem_of_getElem? (i := 660) (by rfl), by rfl⟩
set_option maxRecDepth 100000 in
theorem kw_357 : iw (.fieldLink RX6 16 "BundleLineModel" "delay" "[I") := ⟨List.mem_of_getElem? (i := 661) (by rfl), by rfl⟩
set_option maxRecDepth 100000 in
theorem kw_358 : iw (.arrayClass .boolean) := ⟨List.mem_of_getElem? (i := 800) (by rfl), by rfl⟩
set_option maxRecDepth 100000 in
theorem kw_359 : iw (.fieldLink RX6 19 "BundleLineModel" "up" "[Z") := ⟨List.mem_of_getElem? (i := 662) (by rfl), by rfl⟩
set_option maxRecDepth 100000 in
theorem kw_360 : iw (.fieldLink RX6 23 "BundleLineModel" "allowance" "[I") := ⟨List.mem_of_getElem? (i := 663) (by rfl), by rfl⟩
set_option maxRecDepth 100000 in
theorem kw_361 : iw (.fieldLink RX6 26 "BundleLineModel" "span" "[I") := ⟨List.mem_of_getElem? (i := 664) (by rfl), by rfl⟩
set_option maxRecDepth 100000 in
theorem kw_362 : iw (.fieldLink RX6 29 "BundleLineModel" "queue" "[I") := ⟨List.mem_of_getElem? (i := 665) (by rfl), by rfl⟩
set_option maxRecDepth 100000 in
theorem kw_363 : iw (.fieldLink RX6 32 "BundleLineModel" "queued" "[I") := ⟨List.mem_of_getElem? (i := 666) (by rfl), by rfl⟩
set_option maxRecDepth 100000 in
theorem kw_364 : iw (.fieldLink RX6 35 "BundleLineModel" "sent" "[I") := ⟨List.mem_of_getElem? (i := 667) (by rfl), by rfl⟩
set_option maxRecDepth 100000 in
theorem kw_365 : iw (.fieldLink RX6 38 "BundleLineModel" "underPiece" "[I") := ⟨List.mem_of_getElem? (i := 668) (by rfl), by rfl⟩
set_option maxRecDepth 100000 in
theorem kw_366 : iw (.fieldLink RX6 41 "BundleLineModel" "underCount" "[I") := ⟨List.mem_of_getElem? (i := 669) (by rfl), by rfl⟩
set_option maxRecDepth 100000 in
theorem kw_367 : iw (.fieldLink RX6 44 "BundleLineModel" "underTime" "[I") := ⟨List.mem_of_getElem? (i := 670) (by rfl), by rfl⟩
set_option maxRecDepth 100000 in
theorem kw_368 : iw (.fieldLink RX6 47 "BundleLineModel" "underHow" "[I") := ⟨List.mem_of_getElem? (i := 671) (by rfl), by rfl⟩
set_option maxRecDepth 100000 in
theorem kw_369 : iw (.fieldLink RX6 50 "BundleLineModel" "firstUnder" "[I") := ⟨List.mem_of_getElem? (i := 672) (by rfl), by rfl⟩
set_option maxRecDepth 100000 in
theorem kw_370 : iw (.fieldLink RX6 53 "BundleLineModel" "under" "[I") := ⟨List.mem_of_getElem? (i := 673) (by rfl), by rfl⟩
set_option maxRecDepth 100000 in
theorem kw_371 : iw (.fieldLink RX6 56 "BundleLineModel" "count" "[I") := ⟨List.mem_of_getElem? (i := 674) (by rfl), by rfl⟩
set_option maxRecDepth 100000 in
theorem kw_372 : iw (.fieldLink RX6 59 "BundleLineModel" "seen" "[I") := ⟨List.mem_of_getElem? (i := 675) (by rfl), by rfl⟩
set_option maxRecDepth 100000 in
theorem kw_373 : iw (.fieldLink RX6 62 "BundleLineModel" "carried" "[I") := ⟨List.mem_of_getElem? (i := 676) (by rfl), by rfl⟩
set_option maxRecDepth 100000 in
theorem kw_374 : iw (.fieldLink RX6 65 "BundleLineModel" "lostBy" "[I") := ⟨List.mem_of_getElem? (i := 677) (by rfl), by rfl⟩
set_option maxRecDepth 100000 in
theorem kw_375 : iw (.fieldLink RX6 68 "BundleLineModel" "empties" "[I") := ⟨List.mem_of_getElem? (i := 678) (by rfl), by rfl⟩
set_option maxRecDepth 100000 in
theorem kw_376 : iw (.fieldLink RX6 71 "BundleLineModel" "refusedBy" "[I") := ⟨List.mem_of_getElem? (i := 679) (by rfl), by rfl⟩
set_option maxRecDepth 100000 in
theorem kw_377 : iw (.fieldLink RX6 74 "BundleLineModel" "inTick" "[I") := ⟨List.mem_of_getElem? (i := 680) (by rfl), by rfl⟩
set_option maxRecDepth 100000 in
theorem kw_378 : iw (.fieldLink RX6 77 "BundleLineModel" "state" "[I") := ⟨List.mem_of_getElem? (i := 682) (by rfl), by rfl⟩
set_option maxRecDepth 100000 in
theorem kw_379 : iw (.fieldLink RX6 80 "BundleLineModel" "frameOf" "[I") := ⟨List.mem_of_getElem? (i := 683) (by rfl), by rfl⟩
set_option maxRecDepth 100000 in
theorem kw_380 : iw (.fieldLink RX6 83 "BundleLineModel" "from" "[I") := ⟨List.mem_of_getElem? (i := 684) (by rfl), by rfl⟩
set_option maxRecDepth 100000 in
theorem kw_381 : iw (.fieldLink RX6 86 "BundleLineModel" "size" "[I") := ⟨List.mem_of_getElem? (i := 685) (by rfl), by rfl⟩
set_option maxRecDepth 100000 in
theorem kw_382 : iw (.fieldLink RX6 89 "BundleLineModel" "tries" "[I") := ⟨List.mem_of_getElem? (i := 686) (by rfl), by rfl⟩
set_option maxRecDepth 100000 in
theorem kw_383 : iw (.fieldLink RX6 92 "BundleLineModel" "lineOf" "[I") := ⟨List.mem_of_getElem? (i := 687) (by rfl), by rfl⟩
set_option maxRecDepth 100000 in
theorem kw_384 : iw (.fieldLink RX6 95 "BundleLineModel" "countOf" "[I") := ⟨List.mem_of_getElem? (i := 688) (by rfl), by rfl⟩
set_option maxRecDepth 100000 in
theorem kw_385 : iw (.fieldLink RX6 98 "BundleLineModel" "lostOn" "[I") := ⟨List.mem_of_getElem? (i := 689) (by rfl), by rfl⟩
set_option maxRecDepth 100000 in
theorem kw_386 : iw (.fieldLink RX6 101 "BundleLineModel" "bytesOf" "[I") := ⟨List.mem_of_getElem? (i := 692) (by rfl), by rfl⟩
set_option maxRecDepth 100000 in
theorem kw_387 : iw (.fieldLink RX6 104 "BundleLineModel" "firstPiece" "[I") := ⟨List.mem_of_getElem? (i := 693) (by rfl), by rfl⟩
set_option maxRecDepth 100000 in
theorem kw_388 : iw (.fieldLink RX6 107 "BundleLineModel" "piecesOf" "[I") := ⟨List.mem_of_getElem? (i := 694) (by rfl), by rfl⟩
set_option maxRecDepth 100000 in
theorem kw_389 : iw (.fieldLink RX6 110 "BundleLineModel" "givenAt" "[I") := ⟨List.mem_of_getElem? (i := 695) (by rfl), by rfl⟩
set_option maxRecDepth 100000 in
theorem kw_390 : iw (.fieldLink RX6 113 "BundleLineModel" "frameBegin" "[I") := ⟨List.mem_of_getElem? (i := 696) (by rfl), by rfl⟩
set_option maxRecDepth 100000 in
theorem kw_391 : iw (.constant RX6 116 1200000) := ⟨List.mem_of_getElem? (i := 657) (by rfl), by rfl⟩
set_option maxRecDepth 100000 in
theorem kw_392 : iw (.fieldLink RX6 117 "BundleLineModel" "bytes" "[B") := ⟨List.mem_of_getElem? (i := 697) (by rfl), by rfl⟩
set_option maxRecDepth 100000 in
theorem kw_393 : iw (.fieldLink RX6 121 "BundleLineModel" "tray" "[B") := ⟨List.mem_of_getElem? (i := 699) (by rfl), by rfl⟩
set_option maxRecDepth 100000 in
theorem kw_394 : iw (.fieldLink RX6 124 "BundleLineModel" "cut" "I") := ⟨List.mem_of_getElem? (i := 701) (by rfl), by rfl⟩
set_option maxRecDepth 100000 in
theorem kw_395 : iw (.fieldLink RX6 128 "BundleLineModel" "room" "I") := ⟨List.mem_of_getElem? (i := 702) (by rfl), by rfl⟩
set_option maxRecDepth 100000 in
theorem kw_396 : iw (.fieldLink RX6 131 "BundleLineModel" "refused" "[I") := ⟨List.mem_of_getElem? (i := 704) (by rfl), by rfl⟩
set_option maxRecDepth 100000 in
theorem kw_397 : iw (.fieldLink RX6 134 "BundleLineModel" "lines" "I") := ⟨List.mem_of_getElem? (i := 658) (by rfl), by rfl⟩
set_option maxRecDepth 100000 in
theorem kw_398 : iw (.methodLink RX6 137 yX6_in) := ⟨List.mem_of_getElem? (i := 805) (by rfl), by rfl⟩
set_option maxRecDepth 100000 in
theorem kw_399 : iw (.initialized RX6) := ⟨List.mem_of_getElem? (i := 49) (by rfl), by rfl⟩
set_option maxRecDepth 100000 in
theorem kw_400 : iw (.code yX6_in cX6_in 3 (some .boolean)) := ⟨List.mem_of_getElem? (i := 807) (by rfl), by rfl⟩
set_option maxRecDepth 100000 in
theorem kw_401 : iw (.static yX6_in) := ⟨List.mem_of_getElem? (i := 806) (by rfl), by rfl⟩
set_option maxRecDepth 100000 in
theorem kw_402 : iw (.methodLink RX6 141 yX6_refuse) := ⟨List.mem_of_getElem? (i := 808) (by rfl), by rfl⟩
set_option maxRecDepth 100000 in
theorem kw_403 : iw (.code yX6_refuse cX6_refuse 2 (some .int)) := ⟨List.mem_of_getElem? (i := 811) (by rfl), by rfl⟩
set_option maxRecDepth 100000 in
theorem kw_404 : iw (.instanceMethod yX6_refuse) := ⟨List.mem_of_getElem? (i := 810) (by rfl), by rfl⟩
set_option maxRecDepth 100000 in
theorem kw_405 : iw (.selects RX6 yX6_refuse yX6_refuse) := ⟨List.mem_of_getElem? (i := 26) (by rfl), by rfl⟩
set_option maxRecDepth 100000 in
theorem kw_406 : iw (.methodLink RX6 145 yX6_isLine) := ⟨List.mem_of_getElem? (i := 816) (by rfl), by rfl⟩
set_option maxRecDepth 100000 in
theorem kw_407 : iw (.code yX6_isLine cX6_isLine 2 (some .boolean)) := ⟨List.mem_of_getElem? (i := 819) (by rfl), by rfl⟩
set_option maxRecDepth 100000 in
theorem kw_408 : iw (.instanceMethod yX6_isLine) := ⟨List.mem_of_getElem? (i := 818) (by rfl), by rfl⟩
set_option maxRecDepth 100000 in
theorem kw_409 : iw (.selects RX6 yX6_isLine yX6_isLine) := ⟨List.mem_of_getElem? (i := 27) (by rfl), by rfl⟩
set_option maxRecDepth 100000 in
theorem kw_410 : iw (.fieldLink RX6 149 "BundleLineModel" "trayed" "I") := ⟨List.mem_of_getElem? (i := 700) (by rfl), by rfl⟩
set_option maxRecDepth 100000 in
theorem kw_411 : iw (.fieldLink RX6 152 "BundleLineModel" "frames" "I") := ⟨List.mem_of_getElem? (i := 690) (by rfl), by rfl⟩
set_option maxRecDepth 100000 in
theorem kw_412 : iw (.fieldLink RX6 155 "BundleLineModel" "pieces" "I") := ⟨List.mem_of_getElem? (i := 681) (by rfl), by rfl⟩
set_option maxRecDepth 100000 in
theorem kw_413 : iw (.fieldLink RX6 158 "BundleLineModel" "given" "I") := ⟨List.mem_of_getElem? (i := 691) (by rfl), by rfl⟩
set_option maxRecDepth 100000 in
theorem kw_414 : iw (.fieldLink RX6 161 "BundleLineModel" "filled" "I") := ⟨List.mem_of_getElem? (i := 698) (by rfl), by rfl⟩
set_option maxRecDepth 100000 in
theorem kw_415 : iw (.methodLink RX6 164 yX6_sizeOf) := ⟨List.mem_of_getElem? (i := 868) (by rfl), by rfl⟩
set_option maxRecDepth 100000 in
theorem kw_416 : iw (.code yX6_sizeOf cX6_sizeOf 2 (some .int)) := ⟨List.mem_of_getElem? (i := 871) (by rfl), by rfl⟩
set_option maxRecDepth 100000 in
theorem kw_417 : iw (.instanceMethod yX6_sizeOf) := ⟨List.mem_of_getElem? (i := 870) (by rfl), by rfl⟩
set_option maxRecDepth 100000 in
theorem kw_418 : iw (.selects RX6 yX6_sizeOf yX6_sizeOf) := ⟨List.mem_of_getElem? (i := 33) (by rfl), by rfl⟩
set_option maxRecDepth 100000 in
theorem kw_419 : iw (.methodLink RX6 167 yX6_waiting) := ⟨List.mem_of_getElem? (i := 864) (by rfl), by rfl⟩
set_option maxRecDepth 100000 in
theorem kw_420 : iw (.code yX6_waiting cX6_waiting 4 (some .int)) := ⟨List.mem_of_getElem? (i := 867) (by rfl), by rfl⟩
set_option maxRecDepth 100000 in
theorem kw_421 : iw (.instanceMethod yX6_waiting) := ⟨List.mem_of_getElem? (i := 866) (by rfl), by rfl⟩
set_option maxRecDepth 100000 in
theorem kw_422 : iw (.selects RX6 yX6_waiting yX6_waiting) := ⟨List.mem_of_getElem? (i := 32) (by rfl), by rfl⟩
set_option maxRecDepth 100000 in
theorem kw_423 : iw (.methodLink RX6 170 yX6_isBetter) := ⟨List.mem_of_getElem? (i := 860) (by rfl), by rfl⟩
set_option maxRecDepth 100000 in
theorem kw_424 : iw (.code yX6_isBetter cX6_isBetter 6 (some .boolean)) := ⟨List.mem_of_getElem? (i := 863) (by rfl), by rfl⟩
set_option maxRecDepth 100000 in
theorem kw_425 : iw (.instanceMethod yX6_isBetter) := ⟨List.mem_of_getElem? (i := 862) (by rfl), by rfl⟩
set_option maxRecDepth 100000 in
theorem kw_426 : iw (.selects RX6 yX6_isBetter yX6_isBetter) := ⟨List.mem_of_getElem? (i := 31) (by rfl), by rfl⟩
set_option maxRecDepth 100000 in
theorem kw_427 : iw (.methodLink RX6 173 yX6_bestLine) := ⟨List.mem_of_getElem? (i := 856) (by rfl), by rfl⟩
set_option maxRecDepth 100000 in
theorem kw_428 : iw (.code yX6_bestLine cX6_bestLine 4 (some .int)) := ⟨List.mem_of_getElem? (i := 859) (by rfl), by rfl⟩
set_option maxRecDepth 100000 in
theorem kw_429 : iw (.instanceMethod yX6_bestLine) := ⟨List.mem_of_getElem? (i := 858) (by rfl), by rfl⟩
set_option maxRecDepth 100000 in
theorem kw_430 : iw (.selects RX6 yX6_bestLine yX6_bestLine) := ⟨List.mem_of_getElem? (i := 30) (by rfl), by rfl⟩
set_option maxRecDepth 100000 in
theorem kw_431 : iw (.methodLink RX6 176 yX6_layOn) := ⟨List.mem_of_getElem? (i := 872) (by rfl), by rfl⟩
set_option maxRecDepth 100000 in
theorem kw_432 : iw (.code yX6_layOn cX6_layOn 3 none) := ⟨List.mem_of_getElem? (i := 875) (by rfl), by rfl⟩
set_option maxRecDepth 100000 in
theorem kw_433 : iw (.instanceMethod yX6_layOn) := ⟨List.mem_of_getElem? (i := 874) (by rfl), by rfl⟩
set_option maxRecDepth 100000 in
theorem kw_434 : iw (.selects RX6 yX6_layOn yX6_layOn) := ⟨List.mem_of_getElem? (i := 34) (by rfl), by rfl⟩
set_option maxRecDepth 100000 in
theorem kw_435 : iw (.methodLink RX6 180 yX6_credit) := ⟨List.mem_of_getElem? (i := 876) (by rfl), by rfl⟩
set_option maxRecDepth 100000 in
theorem kw_436 : iw (.code yX6_credit cX6_credit 3 (some .int)) := ⟨List.mem_of_getElem? (i := 843) (by rfl), by rfl⟩
set_option maxRecDepth 100000 in
theorem kw_437 : iw (.instanceMethod yX6_credit) := ⟨List.mem_of_getElem? (i := 841) (by rfl), by rfl⟩
set_option maxRecDepth 100000 in
theorem kw_438 : iw (.selects RX6 yX6_credit yX6_credit) := ⟨List.mem_of_getElem? (i := 842) (by rfl), by rfl⟩
set_option maxRecDepth 100000 in
theorem kw_439 : iw (.fieldLink RX6 184 "BundleLineModel" "time" "I") := ⟨List.mem_of_getElem? (i := 703) (by rfl), by rfl⟩
set_option maxRecDepth 100000 in
theorem kw_440 : iw (.methodLink RX6 187 yX6_allowed) := ⟨List.mem_of_getElem? (i := 881) (by rfl), by rfl⟩
set_option maxRecDepth 100000 in
theorem kw_441 : iw (.code yX6_allowed cX6_allowed 4 (some .int)) := ⟨List.mem_of_getElem? (i := 884) (by rfl), by rfl⟩
set_option maxRecDepth 100000 in
theorem kw_442 : iw (.instanceMethod yX6_allowed) := ⟨List.mem_of_getElem? (i := 883) (by rfl), by rfl⟩
set_option maxRecDepth 100000 in
theorem kw_443 : iw (.selects RX6 yX6_allowed yX6_allowed) := ⟨List.mem_of_getElem? (i := 36) (by rfl), by rfl⟩
set_option maxRecDepth 100000 in
theorem kw_444 : iw (.methodLink RX6 190 yX6_sendFirst) := ⟨List.mem_of_getElem? (i := 885) (by rfl), by rfl⟩
set_option maxRecDepth 100000 in
theorem kw_445 : iw (.code yX6_sendFirst cX6_sendFirst 4 none) := ⟨List.mem_of_getElem? (i := 888) (by rfl), by rfl⟩
set_option maxRecDepth 100000 in
theorem kw_446 : iw (.instanceMethod yX6_sendFirst) := ⟨List.mem_of_getElem? (i := 887) (by rfl), by rfl⟩
set_option maxRecDepth 100000 in
theorem kw_447 : iw (.selects RX6 yX6_sendFirst yX6_sendFirst) := ⟨List.mem_of_getElem? (i := 37) (by rfl), by rfl⟩
set_option maxRecDepth 100000 in
theorem kw_448 : iw (.methodLink RX6 194 yX6_comes) := ⟨List.mem_of_getElem? (i := 893) (by rfl), by rfl⟩
set_option maxRecDepth 100000 in
theorem kw_449 : iw (.code yX6_comes cX6_comes 5 none) := ⟨List.mem_of_getElem? (i := 896) (by rfl), by rfl⟩
set_option maxRecDepth 100000 in
theorem kw_450 : iw (.instanceMethod yX6_comes) := ⟨List.mem_of_getElem? (i := 895) (by rfl), by rfl⟩
set_option maxRecDepth 100000 in
theorem kw_451 : iw (.selects RX6 yX6_comes yX6_comes) := ⟨List.mem_of_getElem? (i := 39) (by rfl), by rfl⟩
set_option maxRecDepth 100000 in
theorem kw_452 : iw (.methodLink RX6 198 yX6_lose) := ⟨List.mem_of_getElem? (i := 897) (by rfl), by rfl⟩
set_option maxRecDepth 100000 in
theorem kw_453 : iw (.code yX6_lose cX6_lose 3 none) := ⟨List.mem_of_getElem? (i := 900) (by rfl), by rfl⟩
set_option maxRecDepth 100000 in
theorem kw_454 : iw (.instanceMethod yX6_lose) := ⟨List.mem_of_getElem? (i := 899) (by rfl), by rfl⟩
set_option maxRecDepth 100000 in
theorem kw_455 : iw (.selects RX6 yX6_lose yX6_lose) := ⟨List.mem_of_getElem? (i := 40) (by rfl), by rfl⟩
set_option maxRecDepth 100000 in
theorem kw_456 : iw (.methodLink RX6 201 yX6_laying) := ⟨List.mem_of_getElem? (i := 852) (by rfl), by rfl⟩
set_option maxRecDepth 100000 in
theorem kw_457 : iw (.code yX6_laying cX6_laying 4 none) := ⟨List.mem_of_getElem? (i := 855) (by rfl), by rfl⟩
set_option maxRecDepth 100000 in
theorem kw_458 : iw (.instanceMethod yX6_laying) := ⟨List.mem_of_getElem? (i := 854) (by rfl), by rfl⟩
set_option maxRecDepth 100000 in
theorem kw_459 : iw (.selects RX6 yX6_laying yX6_laying) := ⟨List.mem_of_getElem? (i := 29) (by rfl), by rfl⟩
set_option maxRecDepth 100000 in
theorem kw_460 : iw (.methodLink RX6 204 yX6_sending) := ⟨List.mem_of_getElem? (i := 877) (by rfl), by rfl⟩
set_option maxRecDepth 100000 in
theorem kw_461 : iw (.code yX6_sending cX6_sending 5 none) := ⟨List.mem_of_getElem? (i := 880) (by rfl), by rfl⟩
set_option maxRecDepth 100000 in
theorem kw_462 : iw (.instanceMethod yX6_sending) := ⟨List.mem_of_getElem? (i := 879) (by rfl), by rfl⟩
set_option maxRecDepth 100000 in
theorem kw_463 : iw (.selects RX6 yX6_sending yX6_sending) := ⟨List.mem_of_getElem? (i := 35) (by rfl), by rfl⟩
set_option maxRecDepth 100000 in
theorem kw_464 : iw (.methodLink RX6 207 yX6_coming) := ⟨List.mem_of_getElem? (i := 889) (by rfl), by rfl⟩
set_option maxRecDepth 100000 in
theorem kw_465 : iw (.code yX6_coming cX6_coming 3 none) := ⟨List.mem_of_getElem? (i := 892) (by rfl), by rfl⟩
set_option maxRecDepth 100000 in
theorem kw_466 : iw (.instanceMethod yX6_coming) := ⟨List.mem_of_getElem? (i := 891) (by rfl), by rfl⟩
set_option maxRecDepth 100000 in
theorem kw_467 : iw (.selects RX6 yX6_coming yX6_coming) := ⟨List.mem_of_getElem? (i := 38) (by rfl), by rfl⟩
set_option maxRecDepth 100000 in
theorem kw_468 : iw (.methodLink RX6 210 yX6_isWhole) := ⟨List.mem_of_getElem? (i := 901) (by rfl), by rfl⟩
set_option maxRecDepth 100000 in
theorem kw_469 : iw (.code yX6_isWhole cX6_isWhole 4 (some .boolean)) := ⟨List.mem_of_getElem? (i := 904) (by rfl), by rfl⟩
set_option maxRecDepth 100000 in
theorem kw_470 : iw (.instanceMethod yX6_isWhole) := ⟨List.mem_of_getElem? (i := 903) (by rfl), by rfl⟩
set_option maxRecDepth 100000 in
theorem kw_471 : iw (.selects RX6 yX6_isWhole yX6_isWhole) := ⟨List.mem_of_getElem? (i := 41) (by rfl), by rfl⟩
set_option maxRecDepth 100000 in
theorem kw_472 : iw (.methodLink RX6 213 yX6_step) := ⟨List.mem_of_getElem? (i := 848) (by rfl), by rfl⟩
set_option maxRecDepth 100000 in
theorem kw_473 : iw (.code yX6_step cX6_step 2 none) := ⟨List.mem_of_getElem? (i := 851) (by rfl), by rfl⟩
set_option maxRecDepth 100000 in
theorem kw_474 : iw (.instanceMethod yX6_step) := ⟨List.mem_of_getElem? (i := 850) (by rfl), by rfl⟩
set_option maxRecDepth 100000 in
theorem kw_475 : iw (.selects RX6 yX6_step yX6_step) := ⟨List.mem_of_getElem? (i := 28) (by rfl), by rfl⟩
set_option maxRecDepth 100000 in
theorem kw_476 : iw (.methodLink RX6 216 yX6_firstNot) := ⟨List.mem_of_getElem? (i := 909) (by rfl), by rfl⟩
set_option maxRecDepth 100000 in
theorem kw_477 : iw (.code yX6_firstNot cX6_firstNot 5 (some .int)) := ⟨List.mem_of_getElem? (i := 912) (by rfl), by rfl⟩
set_option maxRecDepth 100000 in
theorem kw_478 : iw (.instanceMethod yX6_firstNot) := ⟨List.mem_of_getElem? (i := 911) (by rfl), by rfl⟩
set_option maxRecDepth 100000 in
theorem kw_479 : iw (.selects RX6 yX6_firstNot yX6_firstNot) := ⟨List.mem_of_getElem? (i := 42) (by rfl), by rfl⟩
set_option maxRecDepth 100000 in
theorem kw_480 : iw (.methodLink RX6 220 yX6_isPiece) := ⟨List.mem_of_getElem? (i := 933) (by rfl), by rfl⟩
set_option maxRecDepth 100000 in
theorem kw_481 : iw (.code yX6_isPiece cX6_isPiece 2 (some .boolean)) := ⟨List.mem_of_getElem? (i := 936) (by rfl), by rfl⟩
set_option maxRecDepth 100000 in
theorem kw_482 : iw (.instanceMethod yX6_isPiece) := ⟨List.mem_of_getElem? (i := 935) (by rfl), by rfl⟩
set_option maxRecDepth 100000 in
theorem kw_483 : iw (.selects RX6 yX6_isPiece yX6_isPiece) := ⟨List.mem_of_getElem? (i := 43) (by rfl), by rfl⟩
set_option maxRecDepth 100000 in
theorem kw_484 : iw (.methodLink RX6 223 yX6_sumOf) := ⟨List.mem_of_getElem? (i := 937) (by rfl), by rfl⟩
set_option maxRecDepth 100000 in
theorem kw_485 : iw (.code yX6_sumOf cX6_sumOf 4 (some .int)) := ⟨List.mem_of_getElem? (i := 940) (by rfl), by rfl⟩
set_option maxRecDepth 100000 in
theorem kw_486 : iw (.instanceMethod yX6_sumOf) := ⟨List.mem_of_getElem? (i := 939) (by rfl), by rfl⟩
set_option maxRecDepth 100000 in
theorem kw_487 : iw (.selects RX6 yX6_sumOf yX6_sumOf) := ⟨List.mem_of_getElem? (i := 44) (by rfl), by rfl⟩
set_option maxRecDepth 100000 in
theorem kw_488 : iw (.methodLink RX6 226 yX6_isFrame) := ⟨List.mem_of_getElem? (i := 961) (by rfl), by rfl⟩
set_option maxRecDepth 100000 in
theorem kw_489 : iw (.code yX6_isFrame cX6_isFrame 2 (some .boolean)) := ⟨List.mem_of_getElem? (i := 964) (by rfl), by rfl⟩
set_option maxRecDepth 100000 in
theorem kw_490 : iw (.instanceMethod yX6_isFrame) := ⟨List.mem_of_getElem? (i := 963) (by rfl), by rfl⟩
set_option maxRecDepth 100000 in
theorem kw_491 : iw (.selects RX6 yX6_isFrame yX6_isFrame) := ⟨List.mem_of_getElem? (i := 45) (by rfl), by rfl⟩
set_option maxRecDepth 100000 in
theorem kw_492 : iw (.methodLink RX6 229 yX6_witness) := ⟨List.mem_of_getElem? (i := 981) (by rfl), by rfl⟩
set_option maxRecDepth 100000 in
theorem kw_493 : iw (.code yX6_witness cX6_witness 4 (some .int)) := ⟨List.mem_of_getElem? (i := 976) (by rfl), by rfl⟩
set_option maxRecDepth 100000 in
theorem kw_494 : iw (.instanceMethod yX6_witness) := ⟨List.mem_of_getElem? (i := 974) (by rfl), by rfl⟩
set_option maxRecDepth 100000 in
theorem kw_495 : iw (.selects RX6 yX6_witness yX6_witness) := ⟨List.mem_of_getElem? (i := 975) (by rfl), by rfl⟩
set_option maxRecDepth 100000 in
theorem kw_496 : iw (.methodLink RX6 232 yX6_many) := ⟨List.mem_of_getElem? (i := 986) (by rfl), by rfl⟩
set_option maxRecDepth 100000 in
theorem kw_497 : iw (.code yX6_many cX6_many 4 (some .int)) := ⟨List.mem_of_getElem? (i := 989) (by rfl), by rfl⟩
set_option maxRecDepth 100000 in
theorem kw_498 : iw (.instanceMethod yX6_many) := ⟨List.mem_of_getElem? (i := 988) (by rfl), by rfl⟩
set_option maxRecDepth 100000 in
theorem kw_499 : iw (.selects RX6 yX6_many yX6_many) := ⟨List.mem_of_getElem? (i := 46) (by rfl), by rfl⟩
set_option maxRecDepth 100000 in
theorem kw_500 : iw (.methodLink RJ7 310 ⟨"[B", "clone", "()Ljava/lang/Object;"⟩) := ⟨List.mem_of_getElem? (i := 286) (by rfl), by rfl⟩
set_option maxRecDepth 100000 in
theorem kw_501 : iw (.sameMethod "[B" "java/lang/Object" "clone" "()Ljava/lang/Object;") := ⟨List.mem_of_getElem? (i := 287) (by rfl), by rfl⟩
set_option maxRecDepth 100000 in
theorem kw_502 : iw (.native ⟨"java/lang/Object", "clone", "()Ljava/lang/Object;"⟩) := ⟨List.mem_of_getElem? (i := 288) (by rfl), by rfl⟩
set_option maxRecDepth 100000 in
theorem kw_503 : iw (.instanceMethod ⟨"java/lang/Object", "clone", "()Ljava/lang/Object;"⟩) := ⟨List.mem_of_getElem? (i := 289) (by rfl), by rfl⟩
set_option maxRecDepth 100000 in
theorem kw_504 : iw (.selects "[B" ⟨"[B", "clone", "()Ljava/lang/Object;"⟩ ⟨"java/lang/Object", "clone", "()Ljava/lang/Object;"⟩) := ⟨List.mem_of_getElem? (i := 290) (by rfl), by rfl⟩
set_option maxRecDepth 100000 in
theorem kw_505 : iw (.classLink RJ7 311 "[B") := ⟨List.mem_of_getElem? (i := 292) (by rfl), by rfl⟩
set_option maxRecDepth 100000 in
theorem kw_506 : iw (.methodLink RJ7 304 Lib.Math.min.name) := ⟨List.mem_of_getElem? (i := 293) (by rfl), by rfl⟩
set_option maxRecDepth 100000 in
theorem kw_507 : iw (.methodLink RJ7 150 arraycopyName) := ⟨List.mem_of_getElem? (i := 296) (by rfl), by rfl⟩
set_option maxRecDepth 100000 in
theorem kw_508 : iw (.native arraycopyName) := ⟨List.mem_of_getElem? (i := 298) (by rfl), by rfl⟩
set_option maxRecDepth 100000 in
theorem kw_509 : iw (.static arraycopyName) := ⟨List.mem_of_getElem? (i := 297) (by rfl), by rfl⟩
set_option maxRecDepth 100000 in
theorem kw_510 : iw (.initialized "java/lang/System") := ⟨List.mem_of_getElem? (i := 56) (by rfl), by rfl⟩
set_option maxRecDepth 100000 in
theorem kw_511 : iw (.classLink RL 7 RX5) := ⟨List.mem_of_getElem? (i := 58) (by rfl), by rfl⟩
set_option maxRecDepth 100000 in
theorem kw_512 : iw (.instantiable RX5 18) := ⟨List.mem_of_getElem? (i := 59) (by rfl), by rfl⟩
set_option maxRecDepth 100000 in
theorem kw_513 : iw (.methodLink RL 9 yX5_init) := ⟨List.mem_of_getElem? (i := 60) (by rfl), by rfl⟩
set_option maxRecDepth 100000 in
theorem kw_514 : iw (.code yX5_init cX5_init 1 none) := ⟨List.mem_of_getElem? (i := 62) (by rfl), by rfl⟩
set_option maxRecDepth 100000 in
theorem kw_515 : iw (.instanceMethod yX5_init) := ⟨List.mem_of_getElem? (i := 61) (by rfl), by rfl⟩
set_option maxRecDepth 100000 in
theorem kw_516 : iw (.classLink RL 10 RX6) := ⟨List.mem_of_getElem? (i := 651) (by rfl), by rfl⟩
set_option maxRecDepth 100000 in
theorem kw_517 : iw (.instantiable RX6 47) := ⟨List.mem_of_getElem? (i := 652) (by rfl), by rfl⟩
set_option maxRecDepth 100000 in
theorem kw_518 : iw (.methodLink RL 12 yX6_init) := ⟨List.mem_of_getElem? (i := 653) (by rfl), by rfl⟩
set_option maxRecDepth 100000 in
theorem kw_519 : iw (.code yX6_init cX6_init 1 none) := ⟨List.mem_of_getElem? (i := 655) (by rfl), by rfl⟩
set_option maxRecDepth 100000 in
theorem kw_520 : iw (.instanceMethod yX6_init) := ⟨List.mem_of_getElem? (i := 654) (by rfl), by rfl⟩
set_option maxRecDepth 100000 in
theorem kw_521 : iw (.methodLink RL 13 yX5_open) := ⟨List.mem_of_getElem? (i := 129) (by rfl), by rfl⟩
set_option maxRecDepth 100000 in
theorem kw_522 : iw (.code yX5_open cX5_open 5 (some .int)) := ⟨List.mem_of_getElem? (i := 132) (by rfl), by rfl⟩
set_option maxRecDepth 100000 in
theorem kw_523 : iw (.instanceMethod yX5_open) := ⟨List.mem_of_getElem? (i := 130) (by rfl), by rfl⟩
set_option maxRecDepth 100000 in
theorem kw_524 : iw (.selects RX5 yX5_open yX5_open) := ⟨List.mem_of_getElem? (i := 131) (by rfl), by rfl⟩
set_option maxRecDepth 100000 in
theorem kw_525 : iw (.methodLink RL 17 yX6_open) := ⟨List.mem_of_getElem? (i := 801) (by rfl), by rfl⟩
set_option maxRecDepth 100000 in
theorem kw_526 : iw (.code yX6_open cX6_open 5 (some .int)) := ⟨List.mem_of_getElem? (i := 804) (by rfl), by rfl⟩
set_option maxRecDepth 100000 in
theorem kw_527 : iw (.instanceMethod yX6_open) := ⟨List.mem_of_getElem? (i := 802) (by rfl), by rfl⟩
set_option maxRecDepth 100000 in
theorem kw_528 : iw (.selects RX6 yX6_open yX6_open) := ⟨List.mem_of_getElem? (i := 803) (by rfl), by rfl⟩
set_option maxRecDepth 100000 in
theorem kw_529 : iw (.methodLink RL 18 yX5_lease) := ⟨List.mem_of_getElem? (i := 262) (by rfl), by rfl⟩
set_option maxRecDepth 100000 in
theorem kw_530 : iw (.code yX5_lease cX5_lease 5 (some .int)) := ⟨List.mem_of_getElem? (i := 265) (by rfl), by rfl⟩
set_option maxRecDepth 100000 in
theorem kw_531 : iw (.instanceMethod yX5_lease) := ⟨List.mem_of_getElem? (i := 263) (by rfl), by rfl⟩
set_option maxRecDepth 100000 in
theorem kw_532 : iw (.selects RX5 yX5_lease yX5_lease) := ⟨List.mem_of_getElem? (i := 264) (by rfl), by rfl⟩
set_option maxRecDepth 100000 in
theorem kw_533 : iw (.methodLink RL 21 yX6_lease) := ⟨List.mem_of_getElem? (i := 812) (by rfl), by rfl⟩
set_option maxRecDepth 100000 in
theorem kw_534 : iw (.code yX6_lease cX6_lease 4 (some .int)) := ⟨List.mem_of_getElem? (i := 815) (by rfl), by rfl⟩
set_option maxRecDepth 100000 in
theorem kw_535 : iw (.instanceMethod yX6_lease) := ⟨List.mem_of_getElem? (i := 813) (by rfl), by rfl⟩
set_option maxRecDepth 100000 in
theorem kw_536 : iw (.selects RX6 yX6_lease yX6_lease) := ⟨List.mem_of_getElem? (i := 814) (by rfl), by rfl⟩
set_option maxRecDepth 100000 in
theorem kw_537 : iw (.constantLong RL 22 4294967295) := ⟨List.mem_of_getElem? (i := 990) (by rfl), by rfl⟩
set_option maxRecDepth 100000 in
theorem kw_538 : iw (.methodLink RL 24 yX5_type) := ⟨List.mem_of_getElem? (i := 270) (by rfl), by rfl⟩
set_option maxRecDepth 100000 in
theorem kw_539 : iw (.code yX5_type cX5_type 5 (some .int)) := ⟨List.mem_of_getElem? (i := 273) (by rfl), by rfl⟩
set_option maxRecDepth 100000 in
theorem kw_540 : iw (.instanceMethod yX5_type) := ⟨List.mem_of_getElem? (i := 271) (by rfl), by rfl⟩
set_option maxRecDepth 100000 in
theorem kw_541 : iw (.selects RX5 yX5_type yX5_type) := ⟨List.mem_of_getElem? (i := 272) (by rfl), by rfl⟩
set_option maxRecDepth 100000 in
theorem kw_542 : iw (.methodLink RL 28 yX6_type) := ⟨List.mem_of_getElem? (i := 820) (by rfl), by rfl⟩
set_option maxRecDepth 100000 in
theorem kw_543 : iw (.code yX6_type cX6_type 5 (some .int)) := ⟨List.mem_of_getElem? (i := 823) (by rfl), by rfl⟩
set_option maxRecDepth 100000 in
theorem kw_544 : iw (.instanceMethod yX6_type) := ⟨List.mem_of_getElem? (i := 821) (by rfl), by rfl⟩
set_option maxRecDepth 100000 in
theorem kw_545 : iw (.selects RX6 yX6_type yX6_type) := ⟨List.mem_of_getElem? (i := 822) (by rfl), by rfl⟩
set_option maxRecDepth 100000 in
theorem kw_546 : iw (.methodLink RL 29 yX5_grow) := ⟨List.mem_of_getElem? (i := 274) (by rfl), by rfl⟩
set_option maxRecDepth 100000 in
theorem kw_547 : iw (.code yX5_grow cX5_grow 4 (some .int)) := ⟨List.mem_of_getElem? (i := 277) (by rfl), by rfl⟩
set_option maxRecDepth 100000 in
theorem kw_548 : iw (.instanceMethod yX5_grow) := ⟨List.mem_of_getElem? (i := 275) (by rfl), by rfl⟩
set_option maxRecDepth 100000 in
theorem kw_549 : iw (.selects RX5 yX5_grow yX5_grow) := ⟨List.mem_of_getElem? (i := 276) (by rfl), by rfl⟩
set_option maxRecDepth 100000 in
theorem kw_550 : iw (.methodLink RL 33 yX6_grow) := ⟨List.mem_of_getElem? (i := 824) (by rfl), by rfl⟩
set_option maxRecDepth 100000 in
theorem kw_551 : iw (.code yX6_grow cX6_grow 3 (some .int)) := ⟨List.mem_of_getElem? (i := 827) (by rfl), by rfl⟩
set_option maxRecDepth 100000 in
theorem kw_552 : iw (.instanceMethod yX6_grow) := ⟨List.mem_of_getElem? (i := 825) (by rfl), by rfl⟩
set_option maxRecDepth 100000 in
theorem kw_553 : iw (.selects RX6 yX6_grow yX6_grow) := ⟨List.mem_of_getElem? (i := 826) (by rfl), by rfl⟩
set_option maxRecDepth 100000 in
theorem kw_554 : iw (.methodLink RL 34 yX5_frame) := ⟨List.mem_of_getElem? (i := 278) (by rfl), by rfl⟩
set_option maxRecDepth 100000 in
theorem kw_555 : iw (.code yX5_frame cX5_frame 5 (some .int)) := ⟨List.mem_of_getElem? (i := 281) (by rfl), by rfl⟩
set_option maxRecDepth 100000 in
theorem kw_556 : iw (.instanceMethod yX5_frame) := ⟨List.mem_of_getElem? (i := 279) (by rfl), by rfl⟩
set_option maxRecDepth 100000 in
theorem kw_557 : iw (.selects RX5 yX5_frame yX5_frame) := ⟨List.mem_of_getElem? (i := 280) (by rfl), by rfl⟩
set_option maxRecDepth 100000 in
theorem kw_558 : iw (.methodLink RL 38 yX6_frame) := ⟨List.mem_of_getElem? (i := 828) (by rfl), by rfl⟩
set_option maxRecDepth 100000 in
theorem kw_559 : iw (.code yX6_frame cX6_frame 5 (some .int)) := ⟨List.mem_of_getElem? (i := 831) (by rfl), by rfl⟩
set_option maxRecDepth 100000 in
theorem kw_560 : iw (.instanceMethod yX6_frame) := ⟨List.mem_of_getElem? (i := 829) (by rfl), by rfl⟩
set_option maxRecDepth 100000 in
theorem kw_561 : iw (.selects RX6 yX6_frame yX6_frame) := ⟨List.mem_of_getElem? (i := 830) (by rfl), by rfl⟩
set_option maxRecDepth 100000 in
theorem kw_562 : iw (.methodLink RL 39 yX5_cut) := ⟨List.mem_of_getElem? (i := 375) (by rfl), by rfl⟩
set_option maxRecDepth 100000 in
theorem kw_563 : iw (.code yX5_cut cX5_cut 3 (some .int)) := ⟨List.mem_of_getElem? (i := 378) (by rfl), by rfl⟩
set_option maxRecDepth 100000 in
theorem kw_564 : iw (.instanceMethod yX5_cut) := ⟨List.mem_of_getElem? (i := 376) (by rfl), by rfl⟩
set_option maxRecDepth 100000 in
theorem kw_565 : iw (.selects RX5 yX5_cut yX5_cut) := ⟨List.mem_of_getElem? (i := 377) (by rfl), by rfl⟩
set_option maxRecDepth 100000 in
theorem kw_566 : iw (.methodLink RL 42 yX6_cut) := ⟨List.mem_of_getElem? (i := 832) (by rfl), by rfl⟩
set_option maxRecDepth 100000 in
theorem kw_567 : iw (.code yX6_cut cX6_cut 3 (some .int)) := ⟨List.mem_of_getElem? (i := 835) (by rfl), by rfl⟩
set_option maxRecDepth 100000 in
theorem kw_568 : iw (.instanceMethod yX6_cut) := ⟨List.mem_of_getElem? (i := 833) (by rfl), by rfl⟩
set_option maxRecDepth 100000 in
theorem kw_569 : iw (.selects RX6 yX6_cut yX6_cut) := ⟨List.mem_of_getElem? (i := 834) (by rfl), by rfl⟩
set_option maxRecDepth 100000 in
theorem kw_570 : iw (.methodLink RL 43 yX5_room) := ⟨List.mem_of_getElem? (i := 379) (by rfl), by rfl⟩
set_option maxRecDepth 100000 in
theorem kw_571 : iw (.code yX5_room cX5_room 3 (some .int)) := ⟨List.mem_of_getElem? (i := 382) (by rfl), by rfl⟩
set_option maxRecDepth 100000 in
theorem kw_572 : iw (.instanceMethod yX5_room) := ⟨List.mem_of_getElem? (i := 380) (by rfl), by rfl⟩
set_option maxRecDepth 100000 in
theorem kw_573 : iw (.selects RX5 yX5_room yX5_room) := ⟨List.mem_of_getElem? (i := 381) (by rfl), by rfl⟩
set_option maxRecDepth 100000 in
theorem kw_574 : iw (.methodLink RL 46 yX6_room) := ⟨List.mem_of_getElem? (i := 836) (by rfl), by rfl⟩
set_option maxRecDepth 100000 in
theorem kw_575 : iw (.code yX6_room cX6_room 3 (some .int)) := ⟨List.mem_of_getElem? (i := 839) (by rfl), by rfl⟩
set_option maxRecDepth 100000 in
theorem kw_576 : iw (.instanceMethod yX6_room) := ⟨List.mem_of_getElem? (i := 837) (by rfl), by rfl⟩
set_option maxRecDepth 100000 in
theorem kw_577 : iw (.selects RX6 yX6_room yX6_room) := ⟨List.mem_of_getElem? (i := 838) (by rfl), by rfl⟩
set_option maxRecDepth 100000 in
theorem kw_578 : iw (.methodLink RL 47 yX5_tick) := ⟨List.mem_of_getElem? (i := 383) (by rfl), by rfl⟩
set_option maxRecDepth 100000 in
theorem kw_579 : iw (.code yX5_tick cX5_tick 4 (some .int)) := ⟨List.mem_of_getElem? (i := 386) (by rfl), by rfl⟩
set_option maxRecDepth 100000 in
theorem kw_580 : iw (.instanceMethod yX5_tick) := ⟨List.mem_of_getElem? (i := 384) (by rfl), by rfl⟩
set_option maxRecDepth 100000 in
theorem kw_581 : iw (.selects RX5 yX5_tick yX5_tick) := ⟨List.mem_of_getElem? (i := 385) (by rfl), by rfl⟩
set_option maxRecDepth 100000 in
theorem kw_582 : iw (.methodLink RL 50 yX6_tick) := ⟨List.mem_of_getElem? (i := 844) (by rfl), by rfl⟩
set_option maxRecDepth 100000 in
theorem kw_583 : iw (.code yX6_tick cX6_tick 4 (some .int)) := ⟨List.mem_of_getElem? (i := 847) (by rfl), by rfl⟩
set_option maxRecDepth 100000 in
theorem kw_584 : iw (.instanceMethod yX6_tick) := ⟨List.mem_of_getElem? (i := 845) (by rfl), by rfl⟩
set_option maxRecDepth 100000 in
theorem kw_585 : iw (.selects RX6 yX6_tick yX6_tick) := ⟨List.mem_of_getElem? (i := 846) (by rfl), by rfl⟩
set_option maxRecDepth 100000 in
theorem kw_586 : iw (.methodLink RL 51 yX5_lose) := ⟨List.mem_of_getElem? (i := 543) (by rfl), by rfl⟩
set_option maxRecDepth 100000 in
theorem kw_587 : iw (.code yX5_lose cX5_lose 5 (some .int)) := ⟨List.mem_of_getElem? (i := 546) (by rfl), by rfl⟩
set_option maxRecDepth 100000 in
theorem kw_588 : iw (.instanceMethod yX5_lose) := ⟨List.mem_of_getElem? (i := 544) (by rfl), by rfl⟩
set_option maxRecDepth 100000 in
theorem kw_589 : iw (.selects RX5 yX5_lose yX5_lose) := ⟨List.mem_of_getElem? (i := 545) (by rfl), by rfl⟩
set_option maxRecDepth 100000 in
theorem kw_590 : iw (.methodLink RL 54 yX6_lose_) := ⟨List.mem_of_getElem? (i := 905) (by rfl), by rfl⟩
set_option maxRecDepth 100000 in
theorem kw_591 : iw (.code yX6_lose_ cX6_lose_ 3 (some .int)) := ⟨List.mem_of_getElem? (i := 908) (by rfl), by rfl⟩
set_option maxRecDepth 100000 in
theorem kw_592 : iw (.instanceMethod yX6_lose_) := ⟨List.mem_of_getElem? (i := 906) (by rfl), by rfl⟩
set_option maxRecDepth 100000 in
theorem kw_593 : iw (.selects RX6 yX6_lose_ yX6_lose_) := ⟨List.mem_of_getElem? (i := 907) (by rfl), by rfl⟩
set_option maxRecDepth 100000 in
theorem kw_594 : iw (.methodLink RL 55 yX5_bend) := ⟨List.mem_of_getElem? (i := 556) (by rfl), by rfl⟩
set_option maxRecDepth 100000 in
theorem kw_595 : iw (.code yX5_bend cX5_bend 8 (some .int)) := ⟨List.mem_of_getElem? (i := 559) (by rfl), by rfl⟩
set_option maxRecDepth 100000 in
theorem kw_596 : iw (.instanceMethod yX5_bend) := ⟨List.mem_of_getElem? (i := 557) (by rfl), by rfl⟩
set_option maxRecDepth 100000 in
theorem kw_597 : iw (.selects RX5 yX5_bend yX5_bend) := ⟨List.mem_of_getElem? (i := 558) (by rfl), by rfl⟩
set_option maxRecDepth 100000 in
theorem kw_598 : iw (.methodLink RL 58 yX6_bend) := ⟨List.mem_of_getElem? (i := 913) (by rfl), by rfl⟩
set_option maxRecDepth 100000 in
theorem kw_599 : iw (.code yX6_bend cX6_bend 5 (some .int)) := ⟨List.mem_of_getElem? (i := 916) (by rfl), by rfl⟩
set_option maxRecDepth 100000 in
theorem kw_600 : iw (.instanceMethod yX6_bend) := ⟨List.mem_of_getElem? (i := 914) (by rfl), by rfl⟩
set_option maxRecDepth 100000 in
theorem kw_601 : iw (.selects RX6 yX6_bend yX6_bend) := ⟨List.mem_of_getElem? (i := 915) (by rfl), by rfl⟩
set_option maxRecDepth 100000 in
theorem kw_602 : iw (.methodLink RL 59 yX5_fall) := ⟨List.mem_of_getElem? (i := 560) (by rfl), by rfl⟩
set_option maxRecDepth 100000 in
theorem kw_603 : iw (.code yX5_fall cX5_fall 5 (some .int)) := ⟨List.mem_of_getElem? (i := 563) (by rfl), by rfl⟩
set_option maxRecDepth 100000 in
theorem kw_604 : iw (.instanceMethod yX5_fall) := ⟨List.mem_of_getElem? (i := 561) (by rfl), by rfl⟩
set_option maxRecDepth 100000 in
theorem kw_605 : iw (.selects RX5 yX5_fall yX5_fall) := ⟨List.mem_of_getElem? (i := 562) (by rfl), by rfl⟩
set_option maxRecDepth 100000 in
theorem kw_606 : iw (.methodLink RL 62 yX6_fall) := ⟨List.mem_of_getElem? (i := 917) (by rfl), by rfl⟩
set_option maxRecDepth 100000 in
theorem kw_607 : iw (.code yX6_fall cX6_fall 4 (some .int)) := ⟨List.mem_of_getElem? (i := 920) (by rfl), by rfl⟩
set_option maxRecDepth 100000 in
theorem kw_608 : iw (.instanceMethod yX6_fall) := ⟨List.mem_of_getElem? (i := 918) (by rfl), by rfl⟩
set_option maxRecDepth 100000 in
theorem kw_609 : iw (.selects RX6 yX6_fall yX6_fall) := ⟨List.mem_of_getElem? (i := 919) (by rfl), by rfl⟩
set_option maxRecDepth 100000 in
theorem kw_610 : iw (.methodLink RL 63 yX5_rise) := ⟨List.mem_of_getElem? (i := 577) (by rfl), by rfl⟩
set_option maxRecDepth 100000 in
theorem kw_611 : iw (.code yX5_rise cX5_rise 3 (some .int)) := ⟨List.mem_of_getElem? (i := 580) (by rfl), by rfl⟩
set_option maxRecDepth 100000 in
theorem kw_612 : iw (.instanceMethod yX5_rise) := ⟨List.mem_of_getElem? (i := 578) (by rfl), by rfl⟩
set_option maxRecDepth 100000 in
theorem kw_613 : iw (.selects RX5 yX5_rise yX5_rise) := ⟨List.mem_of_getElem? (i := 579) (by rfl), by rfl⟩
set_option maxRecDepth 100000 in
theorem kw_614 : iw (.methodLink RL 66 yX6_rise) := ⟨List.mem_of_getElem? (i := 921) (by rfl), by rfl⟩
set_option maxRecDepth 100000 in
theorem kw_615 : iw (.code yX6_rise cX6_rise 2 (some .int)) := ⟨List.mem_of_getElem? (i := 924) (by rfl), by rfl⟩
set_option maxRecDepth 100000 in
theorem kw_616 : iw (.instanceMethod yX6_rise) := ⟨List.mem_of_getElem? (i := 922) (by rfl), by rfl⟩
set_option maxRecDepth 100000 in
theorem kw_617 : iw (.selects RX6 yX6_rise yX6_rise) := ⟨List.mem_of_getElem? (i := 923) (by rfl), by rfl⟩
set_option maxRecDepth 100000 in
theorem kw_618 : iw (.methodLink RL 67 yX5_line) := ⟨List.mem_of_getElem? (i := 581) (by rfl), by rfl⟩
set_option maxRecDepth 100000 in
theorem kw_619 : iw (.code yX5_line cX5_line 4 (some .int)) := ⟨List.mem_of_getElem? (i := 584) (by rfl), by rfl⟩
set_option maxRecDepth 100000 in
theorem kw_620 : iw (.instanceMethod yX5_line) := ⟨List.mem_of_getElem? (i := 582) (by rfl), by rfl⟩
set_option maxRecDepth 100000 in
theorem kw_621 : iw (.selects RX5 yX5_line yX5_line) := ⟨List.mem_of_getElem? (i := 583) (by rfl), by rfl⟩
set_option maxRecDepth 100000 in
theorem kw_622 : iw (.methodLink RL 71 yX6_line) := ⟨List.mem_of_getElem? (i := 925) (by rfl), by rfl⟩
set_option maxRecDepth 100000 in
theorem kw_623 : iw (.code yX6_line cX6_line 3 (some .int)) := ⟨List.mem_of_getElem? (i := 928) (by rfl), by rfl⟩
set_option maxRecDepth 100000 in
theorem kw_624 : iw (.instanceMethod yX6_line) := ⟨List.mem_of_getElem? (i := 926) (by rfl), by rfl⟩
set_option maxRecDepth 100000 in
theorem kw_625 : iw (.selects RX6 yX6_line yX6_line) := ⟨List.mem_of_getElem? (i := 927) (by rfl), by rfl⟩
set_option maxRecDepth 100000 in
theorem kw_626 : iw (.methodLink RL 72 yX5_piece) := ⟨List.mem_of_getElem? (i := 585) (by rfl), by rfl⟩
set_option maxRecDepth 100000 in
theorem kw_627 : iw (.code yX5_piece cX5_piece 4 (some .int)) := ⟨List.mem_of_getElem? (i := 588) (by rfl), by rfl⟩
set_option maxRecDepth 100000 in
theorem kw_628 : iw (.instanceMethod yX5_piece) := ⟨List.mem_of_getElem? (i := 586) (by rfl), by rfl⟩
set_option maxRecDepth 100000 in
theorem kw_629 : iw (.selects RX5 yX5_piece yX5_piece) := ⟨List.mem_of_getElem? (i := 587) (by rfl), by rfl⟩
set_option maxRecDepth 100000 in
theorem kw_630 : iw (.methodLink RL 75 yX6_piece) := ⟨List.mem_of_getElem? (i := 929) (by rfl), by rfl⟩
set_option maxRecDepth 100000 in
theorem kw_631 : iw (.code yX6_piece cX6_piece 3 (some .int)) := ⟨List.mem_of_getElem? (i := 932) (by rfl), by rfl⟩
set_option maxRecDepth 100000 in
theorem kw_632 : iw (.instanceMethod yX6_piece) := ⟨List.mem_of_getElem? (i := 930) (by rfl), by rfl⟩
set_option maxRecDepth 100000 in
theorem kw_633 : iw (.selects RX6 yX6_piece yX6_piece) := ⟨List.mem_of_getElem? (i := 931) (by rfl), by rfl⟩
set_option maxRecDepth 100000 in
theorem kw_634 : iw (.methodLink RL 76 yX5_lostOn) := ⟨List.mem_of_getElem? (i := 589) (by rfl), by rfl⟩
set_option maxRecDepth 100000 in
theorem kw_635 : iw (.code yX5_lostOn cX5_lostOn 4 (some .int)) := ⟨List.mem_of_getElem? (i := 592) (by rfl), by rfl⟩
set_option maxRecDepth 100000 in
theorem kw_636 : iw (.instanceMethod yX5_lostOn) := ⟨List.mem_of_getElem? (i := 590) (by rfl), by rfl⟩
set_option maxRecDepth 100000 in
theorem kw_637 : iw (.selects RX5 yX5_lostOn yX5_lostOn) := ⟨List.mem_of_getElem? (i := 591) (by rfl), by rfl⟩
set_option maxRecDepth 100000 in
theorem kw_638 : iw (.methodLink RL 79 yX6_lostOn) := ⟨List.mem_of_getElem? (i := 941) (by rfl), by rfl⟩
set_option maxRecDepth 100000 in
theorem kw_639 : iw (.code yX6_lostOn cX6_lostOn 3 (some .int)) := ⟨List.mem_of_getElem? (i := 944) (by rfl), by rfl⟩
set_option maxRecDepth 100000 in
theorem kw_640 : iw (.instanceMethod yX6_lostOn) := ⟨List.mem_of_getElem? (i := 942) (by rfl), by rfl⟩
set_option maxRecDepth 100000 in
theorem kw_641 : iw (.selects RX6 yX6_lostOn yX6_lostOn) := ⟨List.mem_of_getElem? (i := 943) (by rfl), by rfl⟩
set_option maxRecDepth 100000 in
theorem kw_642 : iw (.methodLink RL 80 yX5_queued) := ⟨List.mem_of_getElem? (i := 593) (by rfl), by rfl⟩
set_option maxRecDepth 100000 in
theorem kw_643 : iw (.code yX5_queued cX5_queued 4 (some .int)) := ⟨List.mem_of_getElem? (i := 596) (by rfl), by rfl⟩
set_option maxRecDepth 100000 in
theorem kw_644 : iw (.instanceMethod yX5_queued) := ⟨List.mem_of_getElem? (i := 594) (by rfl), by rfl⟩
set_option maxRecDepth 100000 in
theorem kw_645 : iw (.selects RX5 yX5_queued yX5_queued) := ⟨List.mem_of_getElem? (i := 595) (by rfl), by rfl⟩
set_option maxRecDepth 100000 in
theorem kw_646 : iw (.methodLink RL 83 yX6_queued) := ⟨List.mem_of_getElem? (i := 945) (by rfl), by rfl⟩
set_option maxRecDepth 100000 in
theorem kw_647 : iw (.code yX6_queued cX6_queued 3 (some .int)) := ⟨List.mem_of_getElem? (i := 948) (by rfl), by rfl⟩
set_option maxRecDepth 100000 in
theorem kw_648 : iw (.instanceMethod yX6_queued) := ⟨List.mem_of_getElem? (i := 946) (by rfl), by rfl⟩
set_option maxRecDepth 100000 in
theorem kw_649 : iw (.selects RX6 yX6_queued yX6_queued) := ⟨List.mem_of_getElem? (i := 947) (by rfl), by rfl⟩
set_option maxRecDepth 100000 in
theorem kw_650 : iw (.methodLink RL 84 yX5_under) := ⟨List.mem_of_getElem? (i := 597) (by rfl), by rfl⟩
set_option maxRecDepth 100000 in
theorem kw_651 : iw (.code yX5_under cX5_under 5 (some .int)) := ⟨List.mem_of_getElem? (i := 600) (by rfl), by rfl⟩
set_option maxRecDepth 100000 in
theorem kw_652 : iw (.instanceMethod yX5_under) := ⟨List.mem_of_getElem? (i := 598) (by rfl), by rfl⟩
set_option maxRecDepth 100000 in
theorem kw_653 : iw (.selects RX5 yX5_under yX5_under) := ⟨List.mem_of_getElem? (i := 599) (by rfl), by rfl⟩
set_option maxRecDepth 100000 in
theorem kw_654 : iw (.methodLink RL 87 yX6_under) := ⟨List.mem_of_getElem? (i := 949) (by rfl), by rfl⟩
set_option maxRecDepth 100000 in
theorem kw_655 : iw (.code yX6_under cX6_under 5 (some .int)) := ⟨List.mem_of_getElem? (i := 952) (by rfl), by rfl⟩
set_option maxRecDepth 100000 in
theorem kw_656 : iw (.instanceMethod yX6_under) := ⟨List.mem_of_getElem? (i := 950) (by rfl), by rfl⟩
set_option maxRecDepth 100000 in
theorem kw_657 : iw (.selects RX6 yX6_under yX6_under) := ⟨List.mem_of_getElem? (i := 951) (by rfl), by rfl⟩
set_option maxRecDepth 100000 in
theorem kw_658 : iw (.methodLink RL 88 yX5_waits) := ⟨List.mem_of_getElem? (i := 602) (by rfl), by rfl⟩
set_option maxRecDepth 100000 in
theorem kw_659 : iw (.code yX5_waits cX5_waits 2 (some .int)) := ⟨List.mem_of_getElem? (i := 605) (by rfl), by rfl⟩
set_option maxRecDepth 100000 in
theorem kw_660 : iw (.instanceMethod yX5_waits) := ⟨List.mem_of_getElem? (i := 603) (by rfl), by rfl⟩
set_option maxRecDepth 100000 in
theorem kw_661 : iw (.selects RX5 yX5_waits yX5_waits) := ⟨List.mem_of_getElem? (i := 604) (by rfl), by rfl⟩
set_option maxRecDepth 100000 in
theorem kw_662 : iw (.methodLink RL 91 yX6_waits) := ⟨List.mem_of_getElem? (i := 953) (by rfl), by rfl⟩
set_option maxRecDepth 100000 in
theorem kw_663 : iw (.code yX6_waits cX6_waits 4 (some .int)) := ⟨List.mem_of_getElem? (i := 956) (by rfl), by rfl⟩
set_option maxRecDepth 100000 in
theorem kw_664 : iw (.instanceMethod yX6_waits) := ⟨List.mem_of_getElem? (i := 954) (by rfl), by rfl⟩
set_option maxRecDepth 100000 in
theorem kw_665 : iw (.selects RX6 yX6_waits yX6_waits) := ⟨List.mem_of_getElem? (i := 955) (by rfl), by rfl⟩
set_option maxRecDepth 100000 in
theorem kw_666 : iw (.methodLink RL 92 yX5_got) := ⟨List.mem_of_getElem? (i := 610) (by rfl), by rfl⟩
set_option maxRecDepth 100000 in
theorem kw_667 : iw (.code yX5_got cX5_got 4 (some .int)) := ⟨List.mem_of_getElem? (i := 613) (by rfl), by rfl⟩
set_option maxRecDepth 100000 in
theorem kw_668 : iw (.instanceMethod yX5_got) := ⟨List.mem_of_getElem? (i := 611) (by rfl), by rfl⟩
set_option maxRecDepth 100000 in
theorem kw_669 : iw (.selects RX5 yX5_got yX5_got) := ⟨List.mem_of_getElem? (i := 612) (by rfl), by rfl⟩
set_option maxRecDepth 100000 in
theorem kw_670 : iw (.methodLink RL 95 yX6_got) := ⟨List.mem_of_getElem? (i := 957) (by rfl), by rfl⟩
set_option maxRecDepth 100000 in
theorem kw_671 : iw (.code yX6_got cX6_got 3 (some .int)) := ⟨List.mem_of_getElem? (i := 960) (by rfl), by rfl⟩
set_option maxRecDepth 100000 in
theorem kw_672 : iw (.instanceMethod yX6_got) := ⟨List.mem_of_getElem? (i := 958) (by rfl), by rfl⟩
set_option maxRecDepth 100000 in
theorem kw_673 : iw (.selects RX6 yX6_got yX6_got) := ⟨List.mem_of_getElem? (i := 959) (by rfl), by rfl⟩
set_option maxRecDepth 100000 in
theorem kw_674 : iw (.methodLink RL 96 yX5_frameOf) := ⟨List.mem_of_getElem? (i := 615) (by rfl), by rfl⟩
set_option maxRecDepth 100000 in
theorem kw_675 : iw (.code yX5_frameOf cX5_frameOf 4 (some .int)) := ⟨List.mem_of_getElem? (i := 618) (by rfl), by rfl⟩
set_option maxRecDepth 100000 in
theorem kw_676 : iw (.instanceMethod yX5_frameOf) := ⟨List.mem_of_getElem? (i := 616) (by rfl), by rfl⟩
set_option maxRecDepth 100000 in
theorem kw_677 : iw (.selects RX5 yX5_frameOf yX5_frameOf) := ⟨List.mem_of_getElem? (i := 617) (by rfl), by rfl⟩
set_option maxRecDepth 100000 in
theorem kw_678 : iw (.methodLink RL 99 yX6_frameOf) := ⟨List.mem_of_getElem? (i := 965) (by rfl), by rfl⟩
set_option maxRecDepth 100000 in
theorem kw_679 : iw (.code yX6_frameOf cX6_frameOf 5 (some .int)) := ⟨List.mem_of_getElem? (i := 968) (by rfl), by rfl⟩
set_option maxRecDepth 100000 in
theorem kw_680 : iw (.instanceMethod yX6_frameOf) := ⟨List.mem_of_getElem? (i := 966) (by rfl), by rfl⟩
set_option maxRecDepth 100000 in
theorem kw_681 : iw (.selects RX6 yX6_frameOf yX6_frameOf) := ⟨List.mem_of_getElem? (i := 967) (by rfl), by rfl⟩
set_option maxRecDepth 100000 in
theorem kw_682 : iw (.methodLink RL 100 yX5_credit) := ⟨List.mem_of_getElem? (i := 619) (by rfl), by rfl⟩
set_option maxRecDepth 100000 in
theorem kw_683 : iw (.code yX5_credit cX5_credit 1 (some .int)) := ⟨List.mem_of_getElem? (i := 622) (by rfl), by rfl⟩
set_option maxRecDepth 100000 in
theorem kw_684 : iw (.instanceMethod yX5_credit) := ⟨List.mem_of_getElem? (i := 620) (by rfl), by rfl⟩
set_option maxRecDepth 100000 in
theorem kw_685 : iw (.selects RX5 yX5_credit yX5_credit) := ⟨List.mem_of_getElem? (i := 621) (by rfl), by rfl⟩
set_option maxRecDepth 100000 in
theorem kw_686 : iw (.methodLink RL 103 yX6_credit) := ⟨List.mem_of_getElem? (i := 840) (by rfl), by rfl⟩
set_option maxRecDepth 100000 in
theorem kw_687 : iw (.methodLink RL 104 yX5_skew) := ⟨List.mem_of_getElem? (i := 623) (by rfl), by rfl⟩
set_option maxRecDepth 100000 in
theorem kw_688 : iw (.code yX5_skew cX5_skew 5 (some .int)) := ⟨List.mem_of_getElem? (i := 626) (by rfl), by rfl⟩
set_option maxRecDepth 100000 in
theorem kw_689 : iw (.instanceMethod yX5_skew) := ⟨List.mem_of_getElem? (i := 624) (by rfl), by rfl⟩
set_option maxRecDepth 100000 in
theorem kw_690 : iw (.selects RX5 yX5_skew yX5_skew) := ⟨List.mem_of_getElem? (i := 625) (by rfl), by rfl⟩
set_option maxRecDepth 100000 in
theorem kw_691 : iw (.methodLink RL 107 yX6_skew) := ⟨List.mem_of_getElem? (i := 969) (by rfl), by rfl⟩
set_option maxRecDepth 100000 in
theorem kw_692 : iw (.code yX6_skew cX6_skew 4 (some .int)) := ⟨List.mem_of_getElem? (i := 972) (by rfl), by rfl⟩
set_option maxRecDepth 100000 in
theorem kw_693 : iw (.instanceMethod yX6_skew) := ⟨List.mem_of_getElem? (i := 970) (by rfl), by rfl⟩
set_option maxRecDepth 100000 in
theorem kw_694 : iw (.selects RX6 yX6_skew yX6_skew) := ⟨List.mem_of_getElem? (i := 971) (by rfl), by rfl⟩
set_option maxRecDepth 100000 in
theorem kw_695 : iw (.methodLink RL 108 yX5_witness) := ⟨List.mem_of_getElem? (i := 627) (by rfl), by rfl⟩
set_option maxRecDepth 100000 in
theorem kw_696 : iw (.code yX5_witness cX5_witness 4 (some .int)) := ⟨List.mem_of_getElem? (i := 630) (by rfl), by rfl⟩
set_option maxRecDepth 100000 in
theorem kw_697 : iw (.instanceMethod yX5_witness) := ⟨List.mem_of_getElem? (i := 628) (by rfl), by rfl⟩
set_option maxRecDepth 100000 in
theorem kw_698 : iw (.selects RX5 yX5_witness yX5_witness) := ⟨List.mem_of_getElem? (i := 629) (by rfl), by rfl⟩
set_option maxRecDepth 100000 in
theorem kw_699 : iw (.methodLink RL 111 yX6_witness) := ⟨List.mem_of_getElem? (i := 973) (by rfl), by rfl⟩
set_option maxRecDepth 100000 in
theorem kw_700 : iw (.methodLink RL 112 yX5_check) := ⟨List.mem_of_getElem? (i := 635) (by rfl), by rfl⟩
set_option maxRecDepth 100000 in
theorem kw_701 : iw (.code yX5_check cX5_check 6 (some .boolean)) := ⟨List.mem_of_getElem? (i := 638) (by rfl), by rfl⟩
set_option maxRecDepth 100000 in
theorem kw_702 : iw (.instanceMethod yX5_check) := ⟨List.mem_of_getElem? (i := 636) (by rfl), by rfl⟩
set_option maxRecDepth 100000 in
theorem kw_703 : iw (.selects RX5 yX5_check yX5_check) := ⟨List.mem_of_getElem? (i := 637) (by rfl), by rfl⟩
set_option maxRecDepth 100000 in
theorem kw_704 : iw (.methodLink RL 116 yX6_check) := ⟨List.mem_of_getElem? (i := 977) (by rfl), by rfl⟩
set_option maxRecDepth 100000 in
theorem kw_705 : iw (.code yX6_check cX6_check 5 (some .boolean)) := ⟨List.mem_of_getElem? (i := 980) (by rfl), by rfl⟩
set_option maxRecDepth 100000 in
theorem kw_706 : iw (.instanceMethod yX6_check) := ⟨List.mem_of_getElem? (i := 978) (by rfl), by rfl⟩
set_option maxRecDepth 100000 in
theorem kw_707 : iw (.selects RX6 yX6_check yX6_check) := ⟨List.mem_of_getElem? (i := 979) (by rfl), by rfl⟩
set_option maxRecDepth 100000 in
theorem kw_708 : iw (.methodLink RL 117 yX5_status) := ⟨List.mem_of_getElem? (i := 639) (by rfl), by rfl⟩
set_option maxRecDepth 100000 in
theorem kw_709 : iw (.code yX5_status cX5_status 2 (some .int)) := ⟨List.mem_of_getElem? (i := 642) (by rfl), by rfl⟩
set_option maxRecDepth 100000 in
theorem kw_710 : iw (.instanceMethod yX5_status) := ⟨List.mem_of_getElem? (i := 640) (by rfl), by rfl⟩
set_option maxRecDepth 100000 in
theorem kw_711 : iw (.selects RX5 yX5_status yX5_status) := ⟨List.mem_of_getElem? (i := 641) (by rfl), by rfl⟩
set_option maxRecDepth 100000 in
theorem kw_712 : iw (.methodLink RL 120 yX6_status) := ⟨List.mem_of_getElem? (i := 982) (by rfl), by rfl⟩
set_option maxRecDepth 100000 in
theorem kw_713 : iw (.code yX6_status cX6_status 4 (some .int)) := ⟨List.mem_of_getElem? (i := 985) (by rfl), by rfl⟩
set_option maxRecDepth 100000 in
theorem kw_714 : iw (.instanceMethod yX6_status) := ⟨List.mem_of_getElem? (i := 983) (by rfl), by rfl⟩
set_option maxRecDepth 100000 in
theorem kw_715 : iw (.selects RX6 yX6_status yX6_status) := ⟨List.mem_of_getElem? (i := 984) (by rfl), by rfl⟩
theorem kw_inst (c : Nat) (hc : c < 7) : iw (.instantiable (cnm c) (nfl c)) := by
  match c, hc with
  | 0, _ => exact kw_153
  | 1, _ => exact kw_138
  | 2, _ => exact kw_168
  | 3, _ => exact kw_19
  | 4, _ => exact kw_26
  | 5, _ => exact kw_512
  | 6, _ => exact kw_517
  | n + 7, h => exact absurd h (by omega)
set_option maxRecDepth 100000 in
theorem aw_0 : Cond.arrayOver (.object RX0) ∈ lw_tbl := List.mem_of_getElem? (i := 69) (by rfl)
set_option maxRecDepth 100000 in
theorem aw_1 : Cond.arrayOver (.object RX1) ∈ lw_tbl := List.mem_of_getElem? (i := 67) (by rfl)
set_option maxRecDepth 100000 in
theorem aw_2 : Cond.arrayOver (.object RX2) ∈ lw_tbl := List.mem_of_getElem? (i := 71) (by rfl)
set_option maxRecDepth 100000 in
theorem aw_c : Cond.castable "[B" "java/lang/Cloneable" ∈ lw_tbl := List.mem_of_getElem? (i := 291) (by rfl)
end
section
/-! Every instruction of our tables is the claim's, and its links stand (written by a program). -/
theorem dck_app (b : ByteArray) : ∀ (l1 l2 : List (Option Ent)) (pc : Nat), dck b pc l1 = true → dck b (pc + l1.length) l2 = true → dck b pc (l1 ++ l2) = true
  | [], l2, pc, _, h2 => h2
  | none :: l1, l2, pc, h1, h2 => by
    show dck b (pc + 1) (l1 ++ l2) = true
    exact dck_app b l1 l2 (pc + 1) h1 (by rw [show pc + 1 + l1.length = pc + (none :: l1 : List (Option Ent)).length by simp only [List.length_cons]; omega]; exact h2)
  | some e :: l1, l2, pc, h1, h2 => by
    simp only [dck, Bool.and_eq_true, List.cons_append] at h1 ⊢
    exact ⟨h1.1, dck_app b l1 l2 (pc + 1) h1.2 (by rw [show pc + 1 + l1.length = pc + (some e :: l1 : List (Option Ent)).length by simp only [List.length_cons]; omega]; exact h2)⟩
set_option maxRecDepth 100000 in
theorem dk_X0_init : dck (yBy 0) 0 mc_X0_init = true := by decide +kernel
set_option maxRecDepth 100000 in
theorem ok_X0_init : okl 0 0 mc_X0_init := ⟨rfl, ⟨rfl, fun h => absurd h (by decide), fun _ => ⟨kw_0, kw_1, kw_2, Nat.le_of_ble_eq_true rfl, Nat.le_of_ble_eq_true rfl⟩⟩, rfl, rfl, ⟨rfl, Nat.le_of_ble_eq_true rfl, Nat.le_of_ble_eq_true rfl, kw_3, Or.inr ⟨rfl, rfl, rfl⟩⟩, rfl, rfl, ⟨rfl, Or.inl rfl⟩, ⟨rfl, Nat.le_of_ble_eq_true rfl, Nat.le_of_ble_eq_true rfl, kw_4, Or.inr ⟨rfl, rfl, rfl⟩⟩, rfl, rfl, ⟨rfl, Nat.le_of_ble_eq_true rfl, Nat.le_of_ble_eq_true rfl, kw_5, Or.inr ⟨rfl, rfl, rfl⟩⟩, rfl, rfl, ⟨rfl, Nat.le_of_ble_eq_true rfl, Nat.le_of_ble_eq_true rfl, kw_6, Or.inr ⟨rfl, rfl, rfl⟩⟩, rfl, rfl, ⟨rfl, Nat.le_of_ble_eq_true rfl, Nat.le_of_ble_eq_true rfl, kw_7, Or.inl rfl⟩, ⟨rfl, rfl⟩, trivial⟩
set_option maxRecDepth 100000 in
theorem dk_X0_byteAt : dck (yBy 1) 0 mc_X0_byteAt = true := by decide +kernel
set_option maxRecDepth 100000 in
theorem ok_X0_byteAt : okl 1 0 mc_X0_byteAt := ⟨rfl, rfl, rfl, rfl, ⟨rfl, Nat.le_of_ble_eq_true rfl, Nat.le_of_ble_eq_true rfl, kw_3⟩, ⟨rfl, Or.inl rfl⟩, rfl, rfl, rfl, rfl, ⟨rfl, Nat.le_of_ble_eq_true rfl, Nat.le_of_ble_eq_true rfl, kw_3⟩, rfl, rfl, rfl, rfl, ⟨rfl, Or.inl ⟨rfl, rfl⟩⟩, trivial⟩
set_option maxRecDepth 100000 in
theorem dk_X0_sumOf : dck (yBy 2) 0 mc_X0_sumOf = true := by decide +kernel
set_option maxRecDepth 100000 in
theorem ok_X0_sumOf : okl 2 0 mc_X0_sumOf := ⟨rfl, rfl, rfl, rfl, rfl, rfl, rfl, rfl, rfl, rfl, rfl, rfl, ⟨rfl, fun _ => ⟨⟨kw_8, kw_9, kw_10, ⟨by decide +kernel, by decide +kernel, by decide +kernel⟩, Nat.le_of_ble_eq_true rfl, Nat.le_of_ble_eq_true rfl, by decide +kernel, rfl, fun h => absurd h (by decide)⟩, Nat.le_of_ble_eq_true rfl, kw_11, kw_12, rfl, Nat.le_of_ble_eq_true rfl⟩, fun h => absurd h (by decide)⟩, rfl, rfl, rfl, rfl, rfl, rfl, rfl, rfl, rfl, ⟨rfl, Or.inl ⟨rfl, rfl⟩⟩, trivial⟩
set_option maxRecDepth 100000 in
theorem dk_X1_init : dck (yBy 3) 0 mc_X1_init = true := by decide +kernel
set_option maxRecDepth 100000 in
theorem ok_X1_init : okl 3 0 mc_X1_init := ⟨rfl, ⟨rfl, fun h => absurd h (by decide), fun _ => ⟨kw_13, kw_1, kw_2, Nat.le_of_ble_eq_true rfl, Nat.le_of_ble_eq_true rfl⟩⟩, rfl, rfl, ⟨rfl, Nat.le_of_ble_eq_true rfl, Nat.le_of_ble_eq_true rfl, kw_14, Or.inr ⟨rfl, rfl, rfl⟩⟩, rfl, rfl, ⟨rfl, Nat.le_of_ble_eq_true rfl, Nat.le_of_ble_eq_true rfl, kw_15, Or.inr ⟨rfl, rfl, rfl⟩⟩, rfl, rfl, ⟨rfl, Nat.le_of_ble_eq_true rfl, Nat.le_of_ble_eq_true rfl, kw_16, Or.inr ⟨rfl, rfl, rfl⟩⟩, rfl, rfl, ⟨rfl, Nat.le_of_ble_eq_true rfl, Nat.le_of_ble_eq_true rfl, kw_17, Or.inr ⟨rfl, rfl, rfl⟩⟩, rfl, ⟨rfl, rfl, Nat.le_of_ble_eq_true rfl, kw_18, kw_19, kw_20⟩, rfl, ⟨rfl, fun _ => ⟨⟨kw_21, kw_20, kw_22, ⟨by decide +kernel, by decide +kernel, by decide +kernel⟩, Nat.le_of_ble_eq_true rfl, Nat.le_of_ble_eq_true rfl, by decide +kernel, rfl, fun _ => rfl⟩, Nat.le_of_ble_eq_true rfl, kw_23, rfl, rfl, rfl⟩, fun h => absurd h (by decide)⟩, ⟨rfl, Nat.le_of_ble_eq_true rfl, Nat.le_of_ble_eq_true rfl, kw_24, Or.inr ⟨rfl, rfl, rfl⟩⟩, rfl, ⟨rfl, rfl, Nat.le_of_ble_eq_true rfl, kw_25, kw_26, kw_27⟩, rfl, ⟨rfl, fun _ => ⟨⟨kw_28, kw_27, kw_29, ⟨by decide +kernel, by decide +kernel, by decide +kernel⟩, Nat.le_of_ble_eq_true rfl, Nat.le_of_ble_eq_true rfl, by decide +kernel, rfl, fun _ => rfl⟩, Nat.le_of_ble_eq_true rfl, kw_30, rfl, rfl, rfl⟩, fun h => absurd h (by decide)⟩, ⟨rfl, Nat.le_of_ble_eq_true rfl, Nat.le_of_ble_eq_true rfl, kw_31, Or.inr ⟨rfl, rfl, rfl⟩⟩, rfl, rfl, ⟨rfl, kw_32, Or.inl ⟨rfl, rfl⟩⟩, ⟨rfl, Nat.le_of_ble_eq_true rfl, Nat.le_of_ble_eq_true rfl, kw_33, Or.inr ⟨rfl, rfl, rfl⟩⟩, rfl, rfl, ⟨rfl, kw_32, Or.inl ⟨rfl, rfl⟩⟩, ⟨rfl, Nat.le_of_ble_eq_true rfl, Nat.le_of_ble_eq_true rfl, kw_34, Or.inr ⟨rfl, rfl, rfl⟩⟩, rfl, rfl, ⟨rfl, Nat.le_of_ble_eq_true rfl, Nat.le_of_ble_eq_true rfl, kw_35, Or.inl rfl⟩, rfl, rfl, rfl, rfl, rfl, rfl, rfl, ⟨rfl, Nat.le_of_ble_eq_true rfl, Nat.le_of_ble_eq_true rfl, kw_36, Or.inl rfl⟩, rfl, rfl, rfl, rfl, rfl, rfl, rfl, ⟨rfl, Nat.le_of_ble_eq_true rfl, Nat.le_of_ble_eq_true rfl, kw_37, Or.inl rfl⟩, ⟨rfl, rfl⟩, trivial⟩
set_option maxRecDepth 100000 in
theorem dk_X1_takesMore : dck (yBy 4) 0 mc_X1_takesMore = true := by decide +kernel
set_option maxRecDepth 100000 in
theorem ok_X1_takesMore : okl 4 0 mc_X1_takesMore := ⟨rfl, ⟨rfl, Nat.le_of_ble_eq_true rfl, Nat.le_of_ble_eq_true rfl, kw_35⟩, rfl, rfl, ⟨rfl, Nat.le_of_ble_eq_true rfl, Nat.le_of_ble_eq_true rfl, kw_24⟩, ⟨rfl, Nat.le_of_ble_eq_true rfl, Nat.le_of_ble_eq_true rfl, kw_38⟩, rfl, rfl, rfl, rfl, rfl, ⟨rfl, Or.inr ⟨rfl, rfl⟩⟩, trivial⟩
set_option maxRecDepth 100000 in
theorem dk_X1_restsUnheard : dck (yBy 5) 0 mc_X1_restsUnheard = true := by decide +kernel
set_option maxRecDepth 100000 in
theorem ok_X1_restsUnheard : okl 5 0 mc_X1_restsUnheard := ⟨rfl, ⟨rfl, Nat.le_of_ble_eq_true rfl, Nat.le_of_ble_eq_true rfl, kw_35⟩, rfl, rfl, ⟨rfl, Nat.le_of_ble_eq_true rfl, Nat.le_of_ble_eq_true rfl, kw_24⟩, ⟨rfl, Nat.le_of_ble_eq_true rfl, Nat.le_of_ble_eq_true rfl, kw_38⟩, rfl, rfl, ⟨rfl, Nat.le_of_ble_eq_true rfl, Nat.le_of_ble_eq_true rfl, kw_31⟩, ⟨rfl, Nat.le_of_ble_eq_true rfl, Nat.le_of_ble_eq_true rfl, kw_39⟩, rfl, rfl, ⟨rfl, Nat.le_of_ble_eq_true rfl, Nat.le_of_ble_eq_true rfl, kw_40⟩, rfl, ⟨rfl, Nat.le_of_ble_eq_true rfl, Nat.le_of_ble_eq_true rfl, kw_41⟩, rfl, rfl, rfl, rfl, ⟨rfl, Or.inr ⟨rfl, rfl⟩⟩, trivial⟩
set_option maxRecDepth 100000 in
theorem dk_X1_ticksToSend : dck (yBy 6) 0 mc_X1_ticksToSend = true := by decide +kernel
set_option maxRecDepth 100000 in
theorem ok_X1_ticksToSend : okl 6 0 mc_X1_ticksToSend := ⟨rfl, ⟨rfl, Nat.le_of_ble_eq_true rfl, Nat.le_of_ble_eq_true rfl, kw_16⟩, rfl, rfl, rfl, rfl, rfl, ⟨rfl, Nat.le_of_ble_eq_true rfl, Nat.le_of_ble_eq_true rfl, kw_24⟩, ⟨rfl, Nat.le_of_ble_eq_true rfl, Nat.le_of_ble_eq_true rfl, kw_42⟩, rfl, rfl, rfl, ⟨rfl, Nat.le_of_ble_eq_true rfl, Nat.le_of_ble_eq_true rfl, kw_16⟩, rfl, rfl, rfl, rfl, ⟨rfl, Nat.le_of_ble_eq_true rfl, Nat.le_of_ble_eq_true rfl, kw_16⟩, rfl, ⟨rfl, Or.inl ⟨rfl, rfl⟩⟩, trivial⟩
set_option maxRecDepth 100000 in
theorem dk_X1_sentWith : dck (yBy 7) 0 mc_X1_sentWith = true := by decide +kernel
set_option maxRecDepth 100000 in
theorem ok_X1_sentWith : okl 7 0 mc_X1_sentWith := ⟨rfl, ⟨rfl, Nat.le_of_ble_eq_true rfl, Nat.le_of_ble_eq_true rfl, kw_33⟩, rfl, rfl, rfl, ⟨rfl, Or.inl rfl⟩, ⟨rfl, Or.inl ⟨rfl, rfl⟩⟩, trivial⟩
set_option maxRecDepth 100000 in
theorem dk_X1_sendAt : dck (yBy 8) 0 mc_X1_sendAt = true := by decide +kernel
set_option maxRecDepth 100000 in
theorem ok_X1_sendAt : okl 8 0 mc_X1_sendAt := ⟨rfl, ⟨rfl, Nat.le_of_ble_eq_true rfl, Nat.le_of_ble_eq_true rfl, kw_43⟩, rfl, rfl, ⟨rfl, Nat.le_of_ble_eq_true rfl, Nat.le_of_ble_eq_true rfl, kw_35⟩, rfl, rfl, rfl, rfl, ⟨rfl, fun _ => ⟨⟨kw_44, kw_45, kw_46, ⟨by decide +kernel, by decide +kernel, by decide +kernel⟩, Nat.le_of_ble_eq_true rfl, Nat.le_of_ble_eq_true rfl, by decide +kernel, rfl, fun h => absurd h (by decide)⟩, Nat.le_of_ble_eq_true rfl, kw_47, kw_48, rfl, Nat.le_of_ble_eq_true rfl⟩, fun h => absurd h (by decide)⟩, rfl, ⟨rfl, fun _ => ⟨⟨kw_49, kw_45, kw_50, ⟨by decide +kernel, by decide +kernel, by decide +kernel⟩, Nat.le_of_ble_eq_true rfl, Nat.le_of_ble_eq_true rfl, by decide +kernel, rfl, fun h => absurd h (by decide)⟩, Nat.le_of_ble_eq_true rfl, kw_51, kw_52, rfl, Nat.le_of_ble_eq_true rfl⟩, fun h => absurd h (by decide)⟩, rfl, ⟨rfl, Nat.le_of_ble_eq_true rfl, Nat.le_of_ble_eq_true rfl, kw_34⟩, rfl, rfl, rfl, rfl, ⟨rfl, Nat.le_of_ble_eq_true rfl, Nat.le_of_ble_eq_true rfl, kw_43⟩, rfl, rfl, rfl, ⟨rfl, rfl⟩, trivial⟩
set_option maxRecDepth 100000 in
theorem dk_X1_bytesFor : dck (yBy 9) 0 mc_X1_bytesFor = true := by decide +kernel
set_option maxRecDepth 100000 in
theorem ok_X1_bytesFor : okl 9 0 mc_X1_bytesFor := ⟨rfl, ⟨rfl, Nat.le_of_ble_eq_true rfl, Nat.le_of_ble_eq_true rfl, kw_15⟩, rfl, rfl, rfl, ⟨rfl, Nat.le_of_ble_eq_true rfl, Nat.le_of_ble_eq_true rfl, kw_16⟩, ⟨rfl, Or.inl ⟨rfl, rfl⟩⟩, rfl, ⟨rfl, Nat.le_of_ble_eq_true rfl, Nat.le_of_ble_eq_true rfl, kw_36⟩, rfl, rfl, rfl, rfl, rfl, ⟨rfl, Nat.le_of_ble_eq_true rfl, Nat.le_of_ble_eq_true rfl, kw_37⟩, rfl, rfl, rfl, ⟨rfl, Nat.le_of_ble_eq_true rfl, Nat.le_of_ble_eq_true rfl, kw_34⟩, rfl, rfl, rfl, rfl, rfl, ⟨rfl, Or.inl rfl⟩, rfl, rfl, rfl, rfl, rfl, ⟨rfl, Nat.le_of_ble_eq_true rfl, Nat.le_of_ble_eq_true rfl, kw_16⟩, rfl, ⟨rfl, fun h => absurd h (by decide), fun _ => ⟨kw_53, kw_54, kw_55, kw_56, Nat.le_of_ble_eq_true rfl, Nat.le_of_ble_eq_true rfl⟩, fun h => absurd h (by decide)⟩, ⟨rfl, Or.inl ⟨rfl, rfl⟩⟩, trivial⟩
set_option maxRecDepth 100000 in
theorem dk_X1_sendBytes : dck (yBy 10) 0 mc_X1_sendBytes = true := by decide +kernel
set_option maxRecDepth 100000 in
theorem ok_X1_sendBytes : okl 10 0 mc_X1_sendBytes := ⟨rfl, rfl, rfl, rfl, rfl, rfl, rfl, rfl, rfl, rfl, ⟨rfl, Nat.le_of_ble_eq_true rfl, Nat.le_of_ble_eq_true rfl, kw_24⟩, ⟨rfl, Nat.le_of_ble_eq_true rfl, Nat.le_of_ble_eq_true rfl, kw_38⟩, rfl, rfl, ⟨rfl, Nat.le_of_ble_eq_true rfl, Nat.le_of_ble_eq_true rfl, kw_31⟩, ⟨rfl, Nat.le_of_ble_eq_true rfl, Nat.le_of_ble_eq_true rfl, kw_39⟩, rfl, rfl, ⟨rfl, rfl⟩, rfl, ⟨rfl, Nat.le_of_ble_eq_true rfl, Nat.le_of_ble_eq_true rfl, kw_24⟩, ⟨rfl, fun _ => ⟨⟨kw_57, kw_20, kw_58, ⟨by decide +kernel, by decide +kernel, by decide +kernel⟩, Nat.le_of_ble_eq_true rfl, Nat.le_of_ble_eq_true rfl, by decide +kernel, rfl, fun h => absurd h (by decide)⟩, Nat.le_of_ble_eq_true rfl, kw_59, kw_60, rfl, Nat.le_of_ble_eq_true rfl⟩, fun h => absurd h (by decide)⟩, rfl, rfl, ⟨rfl, Nat.le_of_ble_eq_true rfl, Nat.le_of_ble_eq_true rfl, kw_15⟩, rfl, rfl, rfl, rfl, ⟨rfl, rfl⟩, rfl, rfl, ⟨rfl, fun h => absurd h (by decide), fun _ => ⟨kw_53, kw_54, kw_55, kw_56, Nat.le_of_ble_eq_true rfl, Nat.le_of_ble_eq_true rfl⟩, fun h => absurd h (by decide)⟩, rfl, rfl, ⟨rfl, Nat.le_of_ble_eq_true rfl, Nat.le_of_ble_eq_true rfl, kw_24⟩, rfl, ⟨rfl, fun _ => ⟨⟨kw_61, kw_20, kw_62, ⟨by decide +kernel, by decide +kernel, by decide +kernel⟩, Nat.le_of_ble_eq_true rfl, Nat.le_of_ble_eq_true rfl, by decide +kernel, rfl, fun h => absurd h (by decide)⟩, Nat.le_of_ble_eq_true rfl, kw_63, kw_64, rfl, Nat.le_of_ble_eq_true rfl⟩, fun h => absurd h (by decide)⟩, rfl, rfl, ⟨rfl, Nat.le_of_ble_eq_true rfl, Nat.le_of_ble_eq_true rfl, kw_43⟩, rfl, rfl, ⟨rfl, Nat.le_of_ble_eq_true rfl, Nat.le_of_ble_eq_true rfl, kw_43, Or.inl rfl⟩, rfl, rfl, rfl, rfl, rfl, rfl, rfl, rfl, rfl, ⟨rfl, fun _ => ⟨⟨kw_65, kw_45, kw_66, ⟨by decide +kernel, by decide +kernel, by decide +kernel⟩, Nat.le_of_ble_eq_true rfl, Nat.le_of_ble_eq_true rfl, by decide +kernel, rfl, fun h => absurd h (by decide)⟩, Nat.le_of_ble_eq_true rfl, kw_67, kw_68, rfl, Nat.le_of_ble_eq_true rfl⟩, fun h => absurd h (by decide)⟩, rfl, rfl, ⟨rfl, rfl⟩, trivial⟩
set_option maxRecDepth 100000 in
theorem dk_X1_sendFirst : dck (yBy 11) 0 mc_X1_sendFirst = true := by decide +kernel
set_option maxRecDepth 100000 in
theorem ok_X1_sendFirst : okl 11 0 mc_X1_sendFirst := ⟨rfl, ⟨rfl, Nat.le_of_ble_eq_true rfl, Nat.le_of_ble_eq_true rfl, kw_24⟩, rfl, ⟨rfl, fun _ => ⟨⟨kw_69, kw_20, kw_70, ⟨by decide +kernel, by decide +kernel, by decide +kernel⟩, Nat.le_of_ble_eq_true rfl, Nat.le_of_ble_eq_true rfl, by decide +kernel, rfl, fun h => absurd h (by decide)⟩, Nat.le_of_ble_eq_true rfl, kw_71, kw_72, rfl, Nat.le_of_ble_eq_true rfl⟩, fun h => absurd h (by decide)⟩, rfl, rfl, ⟨rfl, Nat.le_of_ble_eq_true rfl, Nat.le_of_ble_eq_true rfl, kw_24⟩, ⟨rfl, fun _ => ⟨⟨kw_73, kw_20, kw_74, ⟨by decide +kernel, by decide +kernel, by decide +kernel⟩, Nat.le_of_ble_eq_true rfl, Nat.le_of_ble_eq_true rfl, by decide +kernel, rfl, fun h => absurd h (by decide)⟩, Nat.le_of_ble_eq_true rfl, kw_75, kw_76, rfl, Nat.le_of_ble_eq_true rfl⟩, fun h => absurd h (by decide)⟩, rfl, ⟨rfl, Nat.le_of_ble_eq_true rfl, Nat.le_of_ble_eq_true rfl, kw_31⟩, rfl, rfl, ⟨rfl, Nat.le_of_ble_eq_true rfl, Nat.le_of_ble_eq_true rfl, kw_41⟩, rfl, rfl, ⟨rfl, Nat.le_of_ble_eq_true rfl, Nat.le_of_ble_eq_true rfl, kw_17⟩, rfl, ⟨rfl, fun _ => ⟨⟨kw_77, kw_27, kw_78, ⟨by decide +kernel, by decide +kernel, by decide +kernel⟩, Nat.le_of_ble_eq_true rfl, Nat.le_of_ble_eq_true rfl, by decide +kernel, rfl, fun h => absurd h (by decide)⟩, Nat.le_of_ble_eq_true rfl, kw_79, kw_80, rfl, Nat.le_of_ble_eq_true rfl⟩, fun h => absurd h (by decide)⟩, rfl, ⟨rfl, Nat.le_of_ble_eq_true rfl, Nat.le_of_ble_eq_true rfl, kw_33⟩, rfl, ⟨rfl, Nat.le_of_ble_eq_true rfl, Nat.le_of_ble_eq_true rfl, kw_41⟩, rfl, rfl, rfl, rfl, rfl, rfl, ⟨rfl, Nat.le_of_ble_eq_true rfl, Nat.le_of_ble_eq_true rfl, kw_41⟩, rfl, rfl, ⟨rfl, Nat.le_of_ble_eq_true rfl, Nat.le_of_ble_eq_true rfl, kw_41, Or.inl rfl⟩, ⟨rfl, rfl⟩, trivial⟩
set_option maxRecDepth 100000 in
theorem dk_X1_goDown : dck (yBy 12) 0 mc_X1_goDown = true := by decide +kernel
set_option maxRecDepth 100000 in
theorem ok_X1_goDown : okl 12 0 mc_X1_goDown := ⟨rfl, rfl, ⟨rfl, Nat.le_of_ble_eq_true rfl, Nat.le_of_ble_eq_true rfl, kw_35, Or.inl rfl⟩, rfl, ⟨rfl, Nat.le_of_ble_eq_true rfl, Nat.le_of_ble_eq_true rfl, kw_24⟩, ⟨rfl, fun _ => ⟨⟨kw_81, kw_20, kw_82, ⟨by decide +kernel, by decide +kernel, by decide +kernel⟩, Nat.le_of_ble_eq_true rfl, Nat.le_of_ble_eq_true rfl, by decide +kernel, rfl, fun h => absurd h (by decide)⟩, Nat.le_of_ble_eq_true rfl, kw_83, kw_84, rfl, Nat.le_of_ble_eq_true rfl⟩, fun h => absurd h (by decide)⟩, rfl, ⟨rfl, Nat.le_of_ble_eq_true rfl, Nat.le_of_ble_eq_true rfl, kw_31⟩, ⟨rfl, fun _ => ⟨⟨kw_85, kw_27, kw_86, ⟨by decide +kernel, by decide +kernel, by decide +kernel⟩, Nat.le_of_ble_eq_true rfl, Nat.le_of_ble_eq_true rfl, by decide +kernel, rfl, fun h => absurd h (by decide)⟩, Nat.le_of_ble_eq_true rfl, kw_87, kw_88, rfl, Nat.le_of_ble_eq_true rfl⟩, fun h => absurd h (by decide)⟩, rfl, rfl, ⟨rfl, Nat.le_of_ble_eq_true rfl, Nat.le_of_ble_eq_true rfl, kw_41⟩, ⟨rfl, Nat.le_of_ble_eq_true rfl, Nat.le_of_ble_eq_true rfl, kw_40, Or.inl rfl⟩, ⟨rfl, rfl⟩, trivial⟩
set_option maxRecDepth 100000 in
theorem dk_X2_init : dck (yBy 13) 0 mc_X2_init = true := by decide +kernel
set_option maxRecDepth 100000 in
theorem ok_X2_init : okl 13 0 mc_X2_init := ⟨rfl, ⟨rfl, fun h => absurd h (by decide), fun _ => ⟨kw_89, kw_1, kw_2, Nat.le_of_ble_eq_true rfl, Nat.le_of_ble_eq_true rfl⟩⟩, rfl, rfl, ⟨rfl, Nat.le_of_ble_eq_true rfl, Nat.le_of_ble_eq_true rfl, kw_90, Or.inr ⟨rfl, rfl, rfl⟩⟩, rfl, rfl, ⟨rfl, Nat.le_of_ble_eq_true rfl, Nat.le_of_ble_eq_true rfl, kw_91, Or.inr ⟨rfl, rfl, rfl⟩⟩, rfl, rfl, ⟨rfl, Nat.le_of_ble_eq_true rfl, Nat.le_of_ble_eq_true rfl, kw_92, Or.inr ⟨rfl, rfl, rfl⟩⟩, rfl, rfl, ⟨rfl, Nat.le_of_ble_eq_true rfl, Nat.le_of_ble_eq_true rfl, kw_93, Or.inr ⟨rfl, rfl, rfl⟩⟩, rfl, rfl, ⟨rfl, kw_32, Or.inl ⟨rfl, rfl⟩⟩, ⟨rfl, Nat.le_of_ble_eq_true rfl, Nat.le_of_ble_eq_true rfl, kw_94, Or.inr ⟨rfl, rfl, rfl⟩⟩, rfl, rfl, ⟨rfl, Nat.le_of_ble_eq_true rfl, Nat.le_of_ble_eq_true rfl, kw_95, Or.inl rfl⟩, rfl, rfl, ⟨rfl, Nat.le_of_ble_eq_true rfl, Nat.le_of_ble_eq_true rfl, kw_96, Or.inl rfl⟩, ⟨rfl, rfl⟩, trivial⟩
set_option maxRecDepth 100000 in
theorem dk_X2_lossesOn : dck (yBy 14) 0 mc_X2_lossesOn = true := by decide +kernel
set_option maxRecDepth 100000 in
theorem ok_X2_lossesOn : okl 14 0 mc_X2_lossesOn := ⟨rfl, rfl, rfl, rfl, ⟨rfl, Nat.le_of_ble_eq_true rfl, Nat.le_of_ble_eq_true rfl, kw_94⟩, ⟨rfl, Or.inl rfl⟩, rfl, rfl, rfl, rfl, ⟨rfl, Nat.le_of_ble_eq_true rfl, Nat.le_of_ble_eq_true rfl, kw_94⟩, rfl, ⟨rfl, Or.inl rfl⟩, ⟨rfl, Or.inl ⟨rfl, rfl⟩⟩, trivial⟩
set_option maxRecDepth 100000 in
theorem dk_X2_addLossOn : dck (yBy 15) 0 mc_X2_addLossOn = true := by decide +kernel
set_option maxRecDepth 100000 in
theorem ok_X2_addLossOn : okl 15 0 mc_X2_addLossOn := ⟨rfl, rfl, rfl, rfl, ⟨rfl, Nat.le_of_ble_eq_true rfl, Nat.le_of_ble_eq_true rfl, kw_94⟩, ⟨rfl, Or.inl rfl⟩, rfl, rfl, ⟨rfl, Nat.le_of_ble_eq_true rfl, Nat.le_of_ble_eq_true rfl, kw_94⟩, rfl, rfl, ⟨rfl, Or.inl rfl⟩, rfl, rfl, rfl, ⟨rfl, rfl⟩, trivial⟩
set_option maxRecDepth 100000 in
theorem dk_X3_init : dck (yBy 16) 0 mc_X3_init = true := by decide +kernel
set_option maxRecDepth 100000 in
theorem ok_X3_init : okl 16 0 mc_X3_init := ⟨rfl, ⟨rfl, fun h => absurd h (by decide), fun _ => ⟨kw_97, kw_1, kw_2, Nat.le_of_ble_eq_true rfl, Nat.le_of_ble_eq_true rfl⟩⟩, rfl, rfl, ⟨rfl, kw_32, Or.inl ⟨rfl, rfl⟩⟩, ⟨rfl, Nat.le_of_ble_eq_true rfl, Nat.le_of_ble_eq_true rfl, kw_98, Or.inr ⟨rfl, rfl, rfl⟩⟩, rfl, rfl, ⟨rfl, kw_32, Or.inl ⟨rfl, rfl⟩⟩, ⟨rfl, Nat.le_of_ble_eq_true rfl, Nat.le_of_ble_eq_true rfl, kw_99, Or.inr ⟨rfl, rfl, rfl⟩⟩, ⟨rfl, rfl⟩, trivial⟩
set_option maxRecDepth 100000 in
theorem dk_X3_numberOf : dck (yBy 17) 0 mc_X3_numberOf = true := by decide +kernel
set_option maxRecDepth 100000 in
theorem ok_X3_numberOf : okl 17 0 mc_X3_numberOf := ⟨rfl, ⟨rfl, Nat.le_of_ble_eq_true rfl, Nat.le_of_ble_eq_true rfl, kw_98⟩, rfl, ⟨rfl, Nat.le_of_ble_eq_true rfl, Nat.le_of_ble_eq_true rfl, kw_100⟩, rfl, rfl, rfl, rfl, ⟨rfl, Or.inl rfl⟩, ⟨rfl, Or.inl ⟨rfl, rfl⟩⟩, trivial⟩
set_option maxRecDepth 100000 in
theorem dk_X3_add : dck (yBy 18) 0 mc_X3_add = true := by decide +kernel
set_option maxRecDepth 100000 in
theorem ok_X3_add : okl 18 0 mc_X3_add := ⟨rfl, ⟨rfl, Nat.le_of_ble_eq_true rfl, Nat.le_of_ble_eq_true rfl, kw_100⟩, rfl, ⟨rfl, Nat.le_of_ble_eq_true rfl, Nat.le_of_ble_eq_true rfl, kw_101⟩, rfl, rfl, rfl, rfl, rfl, ⟨rfl, Nat.le_of_ble_eq_true rfl, Nat.le_of_ble_eq_true rfl, kw_98⟩, rfl, rfl, rfl, rfl, ⟨rfl, Nat.le_of_ble_eq_true rfl, Nat.le_of_ble_eq_true rfl, kw_99⟩, rfl, rfl, rfl, rfl, rfl, ⟨rfl, Nat.le_of_ble_eq_true rfl, Nat.le_of_ble_eq_true rfl, kw_101⟩, rfl, rfl, ⟨rfl, Nat.le_of_ble_eq_true rfl, Nat.le_of_ble_eq_true rfl, kw_101, Or.inl rfl⟩, rfl, rfl, ⟨rfl, Nat.le_of_ble_eq_true rfl, Nat.le_of_ble_eq_true rfl, kw_102⟩, rfl, rfl, ⟨rfl, Nat.le_of_ble_eq_true rfl, Nat.le_of_ble_eq_true rfl, kw_102, Or.inl rfl⟩, ⟨rfl, rfl⟩, trivial⟩
set_option maxRecDepth 100000 in
theorem dk_X3_restOfFirst : dck (yBy 19) 0 mc_X3_restOfFirst = true := by decide +kernel
set_option maxRecDepth 100000 in
theorem ok_X3_restOfFirst : okl 19 0 mc_X3_restOfFirst := ⟨rfl, ⟨rfl, Nat.le_of_ble_eq_true rfl, Nat.le_of_ble_eq_true rfl, kw_99⟩, rfl, ⟨rfl, Nat.le_of_ble_eq_true rfl, Nat.le_of_ble_eq_true rfl, kw_100⟩, rfl, rfl, ⟨rfl, Or.inl rfl⟩, rfl, ⟨rfl, Nat.le_of_ble_eq_true rfl, Nat.le_of_ble_eq_true rfl, kw_103⟩, rfl, ⟨rfl, Or.inl ⟨rfl, rfl⟩⟩, trivial⟩
set_option maxRecDepth 100000 in
theorem dk_X3_takeFromFirst : dck (yBy 20) 0 mc_X3_takeFromFirst = true := by decide +kernel
set_option maxRecDepth 100000 in
theorem ok_X3_takeFromFirst : okl 20 0 mc_X3_takeFromFirst := ⟨rfl, rfl, ⟨rfl, Nat.le_of_ble_eq_true rfl, Nat.le_of_ble_eq_true rfl, kw_103⟩, rfl, rfl, ⟨rfl, Nat.le_of_ble_eq_true rfl, Nat.le_of_ble_eq_true rfl, kw_103, Or.inl rfl⟩, rfl, rfl, ⟨rfl, Nat.le_of_ble_eq_true rfl, Nat.le_of_ble_eq_true rfl, kw_102⟩, rfl, rfl, ⟨rfl, Nat.le_of_ble_eq_true rfl, Nat.le_of_ble_eq_true rfl, kw_102, Or.inl rfl⟩, ⟨rfl, rfl⟩, trivial⟩
set_option maxRecDepth 100000 in
theorem dk_X3_dropFirst : dck (yBy 21) 0 mc_X3_dropFirst = true := by decide +kernel
set_option maxRecDepth 100000 in
theorem ok_X3_dropFirst : okl 21 0 mc_X3_dropFirst := ⟨rfl, rfl, ⟨rfl, Nat.le_of_ble_eq_true rfl, Nat.le_of_ble_eq_true rfl, kw_100⟩, rfl, rfl, rfl, rfl, ⟨rfl, Nat.le_of_ble_eq_true rfl, Nat.le_of_ble_eq_true rfl, kw_100, Or.inl rfl⟩, rfl, rfl, ⟨rfl, Nat.le_of_ble_eq_true rfl, Nat.le_of_ble_eq_true rfl, kw_101⟩, rfl, rfl, ⟨rfl, Nat.le_of_ble_eq_true rfl, Nat.le_of_ble_eq_true rfl, kw_101, Or.inl rfl⟩, rfl, rfl, ⟨rfl, Nat.le_of_ble_eq_true rfl, Nat.le_of_ble_eq_true rfl, kw_103, Or.inl rfl⟩, ⟨rfl, rfl⟩, trivial⟩
set_option maxRecDepth 100000 in
theorem dk_X3_clear : dck (yBy 22) 0 mc_X3_clear = true := by decide +kernel
set_option maxRecDepth 100000 in
theorem ok_X3_clear : okl 22 0 mc_X3_clear := ⟨rfl, rfl, ⟨rfl, Nat.le_of_ble_eq_true rfl, Nat.le_of_ble_eq_true rfl, kw_101, Or.inl rfl⟩, rfl, rfl, ⟨rfl, Nat.le_of_ble_eq_true rfl, Nat.le_of_ble_eq_true rfl, kw_102, Or.inl rfl⟩, rfl, rfl, ⟨rfl, Nat.le_of_ble_eq_true rfl, Nat.le_of_ble_eq_true rfl, kw_103, Or.inl rfl⟩, ⟨rfl, rfl⟩, trivial⟩
set_option maxRecDepth 100000 in
theorem dk_X4_init : dck (yBy 23) 0 mc_X4_init = true := by decide +kernel
set_option maxRecDepth 100000 in
theorem ok_X4_init : okl 23 0 mc_X4_init := ⟨rfl, ⟨rfl, fun h => absurd h (by decide), fun _ => ⟨kw_104, kw_1, kw_2, Nat.le_of_ble_eq_true rfl, Nat.le_of_ble_eq_true rfl⟩⟩, rfl, rfl, ⟨rfl, kw_32, Or.inl ⟨rfl, rfl⟩⟩, ⟨rfl, Nat.le_of_ble_eq_true rfl, Nat.le_of_ble_eq_true rfl, kw_105, Or.inr ⟨rfl, rfl, rfl⟩⟩, rfl, rfl, ⟨rfl, kw_32, Or.inl ⟨rfl, rfl⟩⟩, ⟨rfl, Nat.le_of_ble_eq_true rfl, Nat.le_of_ble_eq_true rfl, kw_106, Or.inr ⟨rfl, rfl, rfl⟩⟩, rfl, rfl, ⟨rfl, kw_32, Or.inl ⟨rfl, rfl⟩⟩, ⟨rfl, Nat.le_of_ble_eq_true rfl, Nat.le_of_ble_eq_true rfl, kw_107, Or.inr ⟨rfl, rfl, rfl⟩⟩, rfl, rfl, ⟨rfl, kw_32, Or.inl ⟨rfl, rfl⟩⟩, ⟨rfl, Nat.le_of_ble_eq_true rfl, Nat.le_of_ble_eq_true rfl, kw_108, Or.inr ⟨rfl, rfl, rfl⟩⟩, ⟨rfl, rfl⟩, trivial⟩
set_option maxRecDepth 100000 in
theorem dk_X4_numberOf : dck (yBy 24) 0 mc_X4_numberOf = true := by decide +kernel
set_option maxRecDepth 100000 in
theorem ok_X4_numberOf : okl 24 0 mc_X4_numberOf := ⟨rfl, ⟨rfl, Nat.le_of_ble_eq_true rfl, Nat.le_of_ble_eq_true rfl, kw_105⟩, rfl, ⟨rfl, Nat.le_of_ble_eq_true rfl, Nat.le_of_ble_eq_true rfl, kw_109⟩, rfl, rfl, rfl, rfl, ⟨rfl, Or.inl rfl⟩, ⟨rfl, Or.inl ⟨rfl, rfl⟩⟩, trivial⟩
set_option maxRecDepth 100000 in
theorem dk_X4_countOf : dck (yBy 25) 0 mc_X4_countOf = true := by decide +kernel
set_option maxRecDepth 100000 in
theorem ok_X4_countOf : okl 25 0 mc_X4_countOf := ⟨rfl, ⟨rfl, Nat.le_of_ble_eq_true rfl, Nat.le_of_ble_eq_true rfl, kw_106⟩, rfl, ⟨rfl, Nat.le_of_ble_eq_true rfl, Nat.le_of_ble_eq_true rfl, kw_109⟩, rfl, rfl, rfl, rfl, ⟨rfl, Or.inl rfl⟩, ⟨rfl, Or.inl ⟨rfl, rfl⟩⟩, trivial⟩
set_option maxRecDepth 100000 in
theorem dk_X4_comingOf : dck (yBy 26) 0 mc_X4_comingOf = true := by decide +kernel
set_option maxRecDepth 100000 in
theorem ok_X4_comingOf : okl 26 0 mc_X4_comingOf := ⟨rfl, ⟨rfl, Nat.le_of_ble_eq_true rfl, Nat.le_of_ble_eq_true rfl, kw_107⟩, rfl, ⟨rfl, Nat.le_of_ble_eq_true rfl, Nat.le_of_ble_eq_true rfl, kw_109⟩, rfl, rfl, rfl, rfl, ⟨rfl, Or.inl rfl⟩, ⟨rfl, Or.inl ⟨rfl, rfl⟩⟩, trivial⟩
set_option maxRecDepth 100000 in
theorem dk_X4_marksOf : dck (yBy 27) 0 mc_X4_marksOf = true := by decide +kernel
set_option maxRecDepth 100000 in
theorem ok_X4_marksOf : okl 27 0 mc_X4_marksOf := ⟨rfl, ⟨rfl, Nat.le_of_ble_eq_true rfl, Nat.le_of_ble_eq_true rfl, kw_108⟩, rfl, ⟨rfl, Nat.le_of_ble_eq_true rfl, Nat.le_of_ble_eq_true rfl, kw_109⟩, rfl, rfl, rfl, rfl, ⟨rfl, Or.inl rfl⟩, ⟨rfl, Or.inl ⟨rfl, rfl⟩⟩, trivial⟩
set_option maxRecDepth 100000 in
theorem dk_X4_add : dck (yBy 28) 0 mc_X4_add = true := by decide +kernel
set_option maxRecDepth 100000 in
theorem ok_X4_add : okl 28 0 mc_X4_add := ⟨rfl, ⟨rfl, Nat.le_of_ble_eq_true rfl, Nat.le_of_ble_eq_true rfl, kw_109⟩, rfl, ⟨rfl, Nat.le_of_ble_eq_true rfl, Nat.le_of_ble_eq_true rfl, kw_110⟩, rfl, rfl, rfl, rfl, rfl, ⟨rfl, Nat.le_of_ble_eq_true rfl, Nat.le_of_ble_eq_true rfl, kw_105⟩, rfl, rfl, rfl, rfl, ⟨rfl, Nat.le_of_ble_eq_true rfl, Nat.le_of_ble_eq_true rfl, kw_106⟩, rfl, rfl, rfl, rfl, ⟨rfl, Nat.le_of_ble_eq_true rfl, Nat.le_of_ble_eq_true rfl, kw_107⟩, rfl, rfl, rfl, rfl, ⟨rfl, Nat.le_of_ble_eq_true rfl, Nat.le_of_ble_eq_true rfl, kw_108⟩, rfl, rfl, rfl, rfl, rfl, ⟨rfl, Nat.le_of_ble_eq_true rfl, Nat.le_of_ble_eq_true rfl, kw_110⟩, rfl, rfl, ⟨rfl, Nat.le_of_ble_eq_true rfl, Nat.le_of_ble_eq_true rfl, kw_110, Or.inl rfl⟩, ⟨rfl, rfl⟩, trivial⟩
set_option maxRecDepth 100000 in
theorem dk_X4_hasComeAt : dck (yBy 29) 0 mc_X4_hasComeAt = true := by decide +kernel
set_option maxRecDepth 100000 in
theorem ok_X4_hasComeAt : okl 29 0 mc_X4_hasComeAt := ⟨rfl, ⟨rfl, Nat.le_of_ble_eq_true rfl, Nat.le_of_ble_eq_true rfl, kw_110⟩, rfl, rfl, rfl, ⟨rfl, fun _ => ⟨⟨kw_111, kw_27, kw_112, ⟨by decide +kernel, by decide +kernel, by decide +kernel⟩, Nat.le_of_ble_eq_true rfl, Nat.le_of_ble_eq_true rfl, by decide +kernel, rfl, fun h => absurd h (by decide)⟩, Nat.le_of_ble_eq_true rfl, kw_113, kw_114, rfl, Nat.le_of_ble_eq_true rfl⟩, fun h => absurd h (by decide)⟩, rfl, rfl, rfl, rfl, rfl, ⟨rfl, Or.inr ⟨rfl, rfl⟩⟩, trivial⟩
set_option maxRecDepth 100000 in
theorem dk_X4_dropFirst : dck (yBy 30) 0 mc_X4_dropFirst = true := by decide +kernel
set_option maxRecDepth 100000 in
theorem ok_X4_dropFirst : okl 30 0 mc_X4_dropFirst := ⟨rfl, rfl, ⟨rfl, Nat.le_of_ble_eq_true rfl, Nat.le_of_ble_eq_true rfl, kw_109⟩, rfl, rfl, rfl, rfl, ⟨rfl, Nat.le_of_ble_eq_true rfl, Nat.le_of_ble_eq_true rfl, kw_109, Or.inl rfl⟩, rfl, rfl, ⟨rfl, Nat.le_of_ble_eq_true rfl, Nat.le_of_ble_eq_true rfl, kw_110⟩, rfl, rfl, ⟨rfl, Nat.le_of_ble_eq_true rfl, Nat.le_of_ble_eq_true rfl, kw_110, Or.inl rfl⟩, ⟨rfl, rfl⟩, trivial⟩
set_option maxRecDepth 100000 in
theorem dk_X4_firstWithout : dck (yBy 31) 0 mc_X4_firstWithout = true := by decide +kernel
set_option maxRecDepth 100000 in
theorem ok_X4_firstWithout : okl 31 0 mc_X4_firstWithout := ⟨rfl, rfl, rfl, rfl, ⟨rfl, Nat.le_of_ble_eq_true rfl, Nat.le_of_ble_eq_true rfl, kw_110⟩, rfl, rfl, rfl, ⟨rfl, fun _ => ⟨⟨kw_115, kw_27, kw_116, ⟨by decide +kernel, by decide +kernel, by decide +kernel⟩, Nat.le_of_ble_eq_true rfl, Nat.le_of_ble_eq_true rfl, by decide +kernel, rfl, fun h => absurd h (by decide)⟩, Nat.le_of_ble_eq_true rfl, kw_117, kw_118, rfl, Nat.le_of_ble_eq_true rfl⟩, fun h => absurd h (by decide)⟩, rfl, rfl, rfl, rfl, ⟨rfl, Or.inl ⟨rfl, rfl⟩⟩, rfl, rfl, rfl, ⟨rfl, Or.inl ⟨rfl, rfl⟩⟩, trivial⟩
set_option maxRecDepth 100000 in
theorem dk_X4_mark : dck (yBy 32) 0 mc_X4_mark = true := by decide +kernel
set_option maxRecDepth 100000 in
theorem ok_X4_mark : okl 32 0 mc_X4_mark := ⟨rfl, ⟨rfl, Nat.le_of_ble_eq_true rfl, Nat.le_of_ble_eq_true rfl, kw_109⟩, rfl, rfl, rfl, rfl, rfl, rfl, ⟨rfl, Nat.le_of_ble_eq_true rfl, Nat.le_of_ble_eq_true rfl, kw_108⟩, rfl, rfl, ⟨rfl, Nat.le_of_ble_eq_true rfl, Nat.le_of_ble_eq_true rfl, kw_108⟩, rfl, ⟨rfl, Or.inl rfl⟩, rfl, rfl, rfl, ⟨rfl, rfl⟩, trivial⟩
set_option maxRecDepth 100000 in
theorem dk_X4_clear : dck (yBy 33) 0 mc_X4_clear = true := by decide +kernel
set_option maxRecDepth 100000 in
theorem ok_X4_clear : okl 33 0 mc_X4_clear := ⟨rfl, rfl, ⟨rfl, Nat.le_of_ble_eq_true rfl, Nat.le_of_ble_eq_true rfl, kw_110, Or.inl rfl⟩, ⟨rfl, rfl⟩, trivial⟩
set_option maxRecDepth 100000 in
theorem dk_X5_init : dck (yBy 34) 0 mc_X5_init = true := by decide +kernel
set_option maxRecDepth 100000 in
theorem ok_X5_init : okl 34 0 mc_X5_init := ⟨rfl, ⟨rfl, fun h => absurd h (by decide), fun _ => ⟨kw_119, kw_1, kw_2, Nat.le_of_ble_eq_true rfl, Nat.le_of_ble_eq_true rfl⟩⟩, rfl, rfl, ⟨rfl, Nat.le_of_ble_eq_true rfl, rfl, kw_120⟩, ⟨rfl, Nat.le_of_ble_eq_true rfl, Nat.le_of_ble_eq_true rfl, kw_121, Or.inr ⟨rfl, rfl, rfl⟩⟩, rfl, rfl, ⟨rfl, Nat.le_of_ble_eq_true rfl, rfl, kw_122⟩, ⟨rfl, Nat.le_of_ble_eq_true rfl, Nat.le_of_ble_eq_true rfl, kw_123, Or.inr ⟨rfl, rfl, rfl⟩⟩, rfl, rfl, ⟨rfl, Nat.le_of_ble_eq_true rfl, rfl, kw_124⟩, ⟨rfl, Nat.le_of_ble_eq_true rfl, Nat.le_of_ble_eq_true rfl, kw_125, Or.inr ⟨rfl, rfl, rfl⟩⟩, rfl, rfl, ⟨rfl, kw_32, Or.inl ⟨rfl, rfl⟩⟩, ⟨rfl, Nat.le_of_ble_eq_true rfl, Nat.le_of_ble_eq_true rfl, kw_126, Or.inr ⟨rfl, rfl, rfl⟩⟩, rfl, rfl, ⟨rfl, kw_127, Or.inr (Or.inl ⟨rfl, rfl⟩)⟩, ⟨rfl, Nat.le_of_ble_eq_true rfl, Nat.le_of_ble_eq_true rfl, kw_128, Or.inr ⟨rfl, rfl, rfl⟩⟩, rfl, rfl, ⟨rfl, Nat.le_of_ble_eq_true rfl, Nat.le_of_ble_eq_true rfl, kw_129, Or.inl rfl⟩, rfl, rfl, ⟨rfl, Nat.le_of_ble_eq_true rfl, Nat.le_of_ble_eq_true rfl, kw_130, Or.inl rfl⟩, rfl, rfl, ⟨rfl, kw_32, Or.inl ⟨rfl, rfl⟩⟩, ⟨rfl, Nat.le_of_ble_eq_true rfl, Nat.le_of_ble_eq_true rfl, kw_131, Or.inr ⟨rfl, rfl, rfl⟩⟩, ⟨rfl, rfl⟩, trivial⟩
set_option maxRecDepth 100000 in
theorem dk_X5_open : dck (yBy 35) 0 mc_X5_open = true := by decide +kernel
set_option maxRecDepth 100000 in
theorem ok_X5_open : okl 35 0 mc_X5_open := ⟨rfl, rfl, rfl, rfl, rfl, rfl, rfl, ⟨rfl, fun _ => ⟨⟨kw_132, kw_133, kw_134, ⟨by decide +kernel, by decide +kernel, by decide +kernel⟩, Nat.le_of_ble_eq_true rfl, Nat.le_of_ble_eq_true rfl, by decide +kernel, rfl, fun h => absurd h (by decide)⟩, Nat.le_of_ble_eq_true rfl, kw_135, kw_136, rfl, Nat.le_of_ble_eq_true rfl⟩, fun h => absurd h (by decide)⟩, ⟨rfl, Or.inl ⟨rfl, rfl⟩⟩, rfl, rfl, rfl, rfl, rfl, rfl, rfl, rfl, rfl, rfl, rfl, rfl, rfl, rfl, ⟨rfl, fun _ => ⟨⟨kw_132, kw_133, kw_134, ⟨by decide +kernel, by decide +kernel, by decide +kernel⟩, Nat.le_of_ble_eq_true rfl, Nat.le_of_ble_eq_true rfl, by decide +kernel, rfl, fun h => absurd h (by decide)⟩, Nat.le_of_ble_eq_true rfl, kw_135, kw_136, rfl, Nat.le_of_ble_eq_true rfl⟩, fun h => absurd h (by decide)⟩, ⟨rfl, Or.inl ⟨rfl, rfl⟩⟩, rfl, rfl, rfl, rfl, rfl, rfl, rfl, ⟨rfl, Nat.le_of_ble_eq_true rfl, Nat.le_of_ble_eq_true rfl, kw_137⟩, rfl, rfl, rfl, rfl, ⟨rfl, fun _ => ⟨⟨kw_132, kw_133, kw_134, ⟨by decide +kernel, by decide +kernel, by decide +kernel⟩, Nat.le_of_ble_eq_true rfl, Nat.le_of_ble_eq_true rfl, by decide +kernel, rfl, fun h => absurd h (by decide)⟩, Nat.le_of_ble_eq_true rfl, kw_135, kw_136, rfl, Nat.le_of_ble_eq_true rfl⟩, fun h => absurd h (by decide)⟩, ⟨rfl, Or.inl ⟨rfl, rfl⟩⟩, rfl, ⟨rfl, Nat.le_of_ble_eq_true rfl, Nat.le_of_ble_eq_true rfl, kw_121⟩, rfl, ⟨rfl, Nat.le_of_ble_eq_true rfl, Nat.le_of_ble_eq_true rfl, kw_137⟩, ⟨rfl, rfl, Nat.le_of_ble_eq_true rfl, kw_120, kw_138, kw_45⟩, rfl, rfl, ⟨rfl, Nat.le_of_ble_eq_true rfl, Nat.le_of_ble_eq_true rfl, kw_137⟩, rfl, rfl, rfl, ⟨rfl, fun _ => ⟨⟨kw_139, kw_45, kw_140, ⟨by decide +kernel, by decide +kernel, by decide +kernel⟩, Nat.le_of_ble_eq_true rfl, Nat.le_of_ble_eq_true rfl, by decide +kernel, rfl, fun _ => rfl⟩, Nat.le_of_ble_eq_true rfl, kw_141, rfl, rfl, rfl⟩, fun h => absurd h (by decide)⟩, rfl, rfl, rfl, ⟨rfl, Nat.le_of_ble_eq_true rfl, Nat.le_of_ble_eq_true rfl, kw_137⟩, rfl, rfl, ⟨rfl, Nat.le_of_ble_eq_true rfl, Nat.le_of_ble_eq_true rfl, kw_137, Or.inl rfl⟩, rfl, ⟨rfl, Nat.le_of_ble_eq_true rfl, Nat.le_of_ble_eq_true rfl, kw_137⟩, rfl, rfl, ⟨rfl, Or.inl ⟨rfl, rfl⟩⟩, trivial⟩
set_option maxRecDepth 100000 in
theorem dk_X5_lease : dck (yBy 36) 0 mc_X5_lease = true := by decide +kernel
set_option maxRecDepth 100000 in
theorem ok_X5_lease : okl 36 0 mc_X5_lease := ⟨rfl, rfl, ⟨rfl, fun _ => ⟨⟨kw_142, kw_133, kw_143, ⟨by decide +kernel, by decide +kernel, by decide +kernel⟩, Nat.le_of_ble_eq_true rfl, Nat.le_of_ble_eq_true rfl, by decide +kernel, rfl, fun h => absurd h (by decide)⟩, Nat.le_of_ble_eq_true rfl, kw_144, kw_145, rfl, Nat.le_of_ble_eq_true rfl⟩, fun h => absurd h (by decide)⟩, rfl, rfl, rfl, rfl, rfl, ⟨rfl, fun _ => ⟨⟨kw_132, kw_133, kw_134, ⟨by decide +kernel, by decide +kernel, by decide +kernel⟩, Nat.le_of_ble_eq_true rfl, Nat.le_of_ble_eq_true rfl, by decide +kernel, rfl, fun h => absurd h (by decide)⟩, Nat.le_of_ble_eq_true rfl, kw_135, kw_136, rfl, Nat.le_of_ble_eq_true rfl⟩, fun h => absurd h (by decide)⟩, ⟨rfl, Or.inl ⟨rfl, rfl⟩⟩, rfl, ⟨rfl, Nat.le_of_ble_eq_true rfl, Nat.le_of_ble_eq_true rfl, kw_146⟩, rfl, rfl, rfl, rfl, ⟨rfl, fun _ => ⟨⟨kw_132, kw_133, kw_134, ⟨by decide +kernel, by decide +kernel, by decide +kernel⟩, Nat.le_of_ble_eq_true rfl, Nat.le_of_ble_eq_true rfl, by decide +kernel, rfl, fun h => absurd h (by decide)⟩, Nat.le_of_ble_eq_true rfl, kw_135, kw_136, rfl, Nat.le_of_ble_eq_true rfl⟩, fun h => absurd h (by decide)⟩, ⟨rfl, Or.inl ⟨rfl, rfl⟩⟩, rfl, rfl, rfl, rfl, rfl, rfl, rfl, rfl, ⟨rfl, fun _ => ⟨⟨kw_132, kw_133, kw_134, ⟨by decide +kernel, by decide +kernel, by decide +kernel⟩, Nat.le_of_ble_eq_true rfl, Nat.le_of_ble_eq_true rfl, by decide +kernel, rfl, fun h => absurd h (by decide)⟩, Nat.le_of_ble_eq_true rfl, kw_135, kw_136, rfl, Nat.le_of_ble_eq_true rfl⟩, fun h => absurd h (by decide)⟩, ⟨rfl, Or.inl ⟨rfl, rfl⟩⟩, rfl, rfl, rfl, rfl, rfl, rfl, rfl, rfl, ⟨rfl, fun _ => ⟨⟨kw_132, kw_133, kw_134, ⟨by decide +kernel, by decide +kernel, by decide +kernel⟩, Nat.le_of_ble_eq_true rfl, Nat.le_of_ble_eq_true rfl, by decide +kernel, rfl, fun h => absurd h (by decide)⟩, Nat.le_of_ble_eq_true rfl, kw_135, kw_136, rfl, Nat.le_of_ble_eq_true rfl⟩, fun h => absurd h (by decide)⟩, ⟨rfl, Or.inl ⟨rfl, rfl⟩⟩, rfl, rfl, ⟨rfl, Nat.le_of_ble_eq_true rfl, Nat.le_of_ble_eq_true rfl, kw_147, Or.inl rfl⟩, rfl, rfl, ⟨rfl, Nat.le_of_ble_eq_true rfl, Nat.le_of_ble_eq_true rfl, kw_148, Or.inl rfl⟩, rfl, ⟨rfl, Or.inl ⟨rfl, rfl⟩⟩, trivial⟩
set_option maxRecDepth 100000 in
theorem dk_X5_type : dck (yBy 37) 0 mc_X5_type = true := by decide +kernel
set_option maxRecDepth 100000 in
theorem ok_X5_type : okl 37 0 mc_X5_type := ⟨rfl, rfl, rfl, rfl, rfl, ⟨rfl, fun _ => ⟨⟨kw_132, kw_133, kw_134, ⟨by decide +kernel, by decide +kernel, by decide +kernel⟩, Nat.le_of_ble_eq_true rfl, Nat.le_of_ble_eq_true rfl, by decide +kernel, rfl, fun h => absurd h (by decide)⟩, Nat.le_of_ble_eq_true rfl, kw_135, kw_136, rfl, Nat.le_of_ble_eq_true rfl⟩, fun h => absurd h (by decide)⟩, ⟨rfl, Or.inl ⟨rfl, rfl⟩⟩, rfl, rfl, rfl, rfl, ⟨rfl, Nat.le_of_ble_eq_true rfl, Nat.le_of_ble_eq_true rfl, kw_149⟩, rfl, rfl, rfl, rfl, rfl, rfl, ⟨rfl, fun _ => ⟨⟨kw_132, kw_133, kw_134, ⟨by decide +kernel, by decide +kernel, by decide +kernel⟩, Nat.le_of_ble_eq_true rfl, Nat.le_of_ble_eq_true rfl, by decide +kernel, rfl, fun h => absurd h (by decide)⟩, Nat.le_of_ble_eq_true rfl, kw_135, kw_136, rfl, Nat.le_of_ble_eq_true rfl⟩, fun h => absurd h (by decide)⟩, ⟨rfl, Or.inl ⟨rfl, rfl⟩⟩, rfl, rfl, rfl, rfl, rfl, rfl, rfl, ⟨rfl, Nat.le_of_ble_eq_true rfl, Nat.le_of_ble_eq_true rfl, kw_128⟩, rfl, ⟨rfl, Nat.le_of_ble_eq_true rfl, Nat.le_of_ble_eq_true rfl, kw_149⟩, rfl, rfl, rfl, rfl, rfl, rfl, rfl, rfl, rfl, rfl, ⟨rfl, Nat.le_of_ble_eq_true rfl, Nat.le_of_ble_eq_true rfl, kw_149⟩, rfl, rfl, ⟨rfl, Nat.le_of_ble_eq_true rfl, Nat.le_of_ble_eq_true rfl, kw_149, Or.inl rfl⟩, rfl, rfl, rfl, ⟨rfl, Nat.le_of_ble_eq_true rfl, Nat.le_of_ble_eq_true rfl, kw_149⟩, ⟨rfl, Or.inl ⟨rfl, rfl⟩⟩, trivial⟩
set_option maxRecDepth 100000 in
theorem dk_X5_grow : dck (yBy 38) 0 mc_X5_grow = true := by decide +kernel
set_option maxRecDepth 100000 in
theorem ok_X5_grow : okl 38 0 mc_X5_grow := ⟨rfl, ⟨rfl, Nat.le_of_ble_eq_true rfl, Nat.le_of_ble_eq_true rfl, kw_149⟩, rfl, rfl, rfl, rfl, rfl, ⟨rfl, fun _ => ⟨⟨kw_132, kw_133, kw_134, ⟨by decide +kernel, by decide +kernel, by decide +kernel⟩, Nat.le_of_ble_eq_true rfl, Nat.le_of_ble_eq_true rfl, by decide +kernel, rfl, fun h => absurd h (by decide)⟩, Nat.le_of_ble_eq_true rfl, kw_135, kw_136, rfl, Nat.le_of_ble_eq_true rfl⟩, fun h => absurd h (by decide)⟩, ⟨rfl, Or.inl ⟨rfl, rfl⟩⟩, rfl, rfl, rfl, rfl, rfl, ⟨rfl, fun _ => ⟨⟨kw_132, kw_133, kw_134, ⟨by decide +kernel, by decide +kernel, by decide +kernel⟩, Nat.le_of_ble_eq_true rfl, Nat.le_of_ble_eq_true rfl, by decide +kernel, rfl, fun h => absurd h (by decide)⟩, Nat.le_of_ble_eq_true rfl, kw_135, kw_136, rfl, Nat.le_of_ble_eq_true rfl⟩, fun h => absurd h (by decide)⟩, ⟨rfl, Or.inl ⟨rfl, rfl⟩⟩, rfl, rfl, rfl, rfl, rfl, ⟨rfl, fun _ => ⟨⟨kw_132, kw_133, kw_134, ⟨by decide +kernel, by decide +kernel, by decide +kernel⟩, Nat.le_of_ble_eq_true rfl, Nat.le_of_ble_eq_true rfl, by decide +kernel, rfl, fun h => absurd h (by decide)⟩, Nat.le_of_ble_eq_true rfl, kw_135, kw_136, rfl, Nat.le_of_ble_eq_true rfl⟩, fun h => absurd h (by decide)⟩, ⟨rfl, Or.inl ⟨rfl, rfl⟩⟩, rfl, rfl, rfl, rfl, rfl, rfl, ⟨rfl, Nat.le_of_ble_eq_true rfl, Nat.le_of_ble_eq_true rfl, kw_128⟩, rfl, rfl, ⟨rfl, Nat.le_of_ble_eq_true rfl, Nat.le_of_ble_eq_true rfl, kw_128⟩, rfl, rfl, rfl, rfl, rfl, rfl, rfl, rfl, rfl, ⟨rfl, Nat.le_of_ble_eq_true rfl, Nat.le_of_ble_eq_true rfl, kw_149, Or.inl rfl⟩, rfl, ⟨rfl, Or.inl ⟨rfl, rfl⟩⟩, trivial⟩
set_option maxRecDepth 100000 in
theorem dk_X5_frame : dck (yBy 39) 0 mc_X5_frame = true := by decide +kernel
set_option maxRecDepth 100000 in
theorem ok_X5_frame : okl 39 0 mc_X5_frame := ⟨rfl, ⟨rfl, Nat.le_of_ble_eq_true rfl, Nat.le_of_ble_eq_true rfl, kw_149⟩, rfl, rfl, rfl, rfl, rfl, ⟨rfl, fun _ => ⟨⟨kw_132, kw_133, kw_134, ⟨by decide +kernel, by decide +kernel, by decide +kernel⟩, Nat.le_of_ble_eq_true rfl, Nat.le_of_ble_eq_true rfl, by decide +kernel, rfl, fun h => absurd h (by decide)⟩, Nat.le_of_ble_eq_true rfl, kw_135, kw_136, rfl, Nat.le_of_ble_eq_true rfl⟩, fun h => absurd h (by decide)⟩, ⟨rfl, Or.inl ⟨rfl, rfl⟩⟩, rfl, rfl, ⟨rfl, Nat.le_of_ble_eq_true rfl, Nat.le_of_ble_eq_true rfl, kw_129⟩, rfl, rfl, rfl, rfl, ⟨rfl, Nat.le_of_ble_eq_true rfl, Nat.le_of_ble_eq_true rfl, kw_129⟩, rfl, rfl, rfl, ⟨rfl, Nat.le_of_ble_eq_true rfl, Nat.le_of_ble_eq_true rfl, kw_150⟩, rfl, rfl, rfl, ⟨rfl, Nat.le_of_ble_eq_true rfl, Nat.le_of_ble_eq_true rfl, kw_151⟩, rfl, rfl, rfl, rfl, rfl, rfl, rfl, rfl, rfl, rfl, rfl, ⟨rfl, Nat.le_of_ble_eq_true rfl, Nat.le_of_ble_eq_true rfl, kw_150⟩, rfl, ⟨rfl, Nat.le_of_ble_eq_true rfl, Nat.le_of_ble_eq_true rfl, kw_152⟩, rfl, rfl, rfl, rfl, rfl, ⟨rfl, fun _ => ⟨⟨kw_132, kw_133, kw_134, ⟨by decide +kernel, by decide +kernel, by decide +kernel⟩, Nat.le_of_ble_eq_true rfl, Nat.le_of_ble_eq_true rfl, by decide +kernel, rfl, fun h => absurd h (by decide)⟩, Nat.le_of_ble_eq_true rfl, kw_135, kw_136, rfl, Nat.le_of_ble_eq_true rfl⟩, fun h => absurd h (by decide)⟩, ⟨rfl, Or.inl ⟨rfl, rfl⟩⟩, ⟨rfl, rfl, Nat.le_of_ble_eq_true rfl, kw_122, kw_153, kw_9⟩, rfl, rfl, ⟨rfl, Nat.le_of_ble_eq_true rfl, Nat.le_of_ble_eq_true rfl, kw_128⟩, rfl, ⟨rfl, fun _ => ⟨⟨kw_154, kw_155, kw_156, ⟨by decide +kernel, by decide +kernel, by decide +kernel⟩, Nat.le_of_ble_eq_true rfl, Nat.le_of_ble_eq_true rfl, by decide +kernel, rfl, fun h => absurd h (by decide)⟩, kw_157⟩, fun h => absurd h (by decide), fun h => absurd h (by decide)⟩, rfl, ⟨rfl, Nat.le_of_ble_eq_true rfl, Nat.le_of_ble_eq_true rfl, kw_151⟩, rfl, ⟨rfl, fun _ => ⟨⟨kw_158, kw_9, kw_159, ⟨by decide +kernel, by decide +kernel, by decide +kernel⟩, Nat.le_of_ble_eq_true rfl, Nat.le_of_ble_eq_true rfl, by decide +kernel, rfl, fun _ => rfl⟩, Nat.le_of_ble_eq_true rfl, kw_160, rfl, rfl, rfl⟩, fun h => absurd h (by decide)⟩, rfl, rfl, ⟨rfl, Nat.le_of_ble_eq_true rfl, Nat.le_of_ble_eq_true rfl, kw_123⟩, rfl, ⟨rfl, Nat.le_of_ble_eq_true rfl, Nat.le_of_ble_eq_true rfl, kw_150⟩, rfl, rfl, rfl, rfl, ⟨rfl, fun _ => ⟨⟨kw_161, kw_133, kw_162, ⟨by decide +kernel, by decide +kernel, by decide +kernel⟩, Nat.le_of_ble_eq_true rfl, Nat.le_of_ble_eq_true rfl, by decide +kernel, rfl, fun h => absurd h (by decide)⟩, Nat.le_of_ble_eq_true rfl, kw_163, kw_164, rfl, Nat.le_of_ble_eq_true rfl⟩, fun h => absurd h (by decide)⟩, rfl, rfl, ⟨rfl, Nat.le_of_ble_eq_true rfl, Nat.le_of_ble_eq_true rfl, kw_150⟩, rfl, rfl, ⟨rfl, Nat.le_of_ble_eq_true rfl, Nat.le_of_ble_eq_true rfl, kw_150, Or.inl rfl⟩, rfl, rfl, ⟨rfl, Nat.le_of_ble_eq_true rfl, Nat.le_of_ble_eq_true rfl, kw_149, Or.inl rfl⟩, rfl, ⟨rfl, Nat.le_of_ble_eq_true rfl, Nat.le_of_ble_eq_true rfl, kw_150⟩, rfl, rfl, ⟨rfl, Or.inl ⟨rfl, rfl⟩⟩, trivial⟩
set_option maxRecDepth 100000 in
theorem dk_X5_cutIntoPieces : dck (yBy 40) 0 mc_X5_cutIntoPieces = true := by decide +kernel
set_option maxRecDepth 100000 in
theorem ok_X5_cutIntoPieces : okl 40 0 mc_X5_cutIntoPieces := ⟨rfl, rfl, rfl, rfl, ⟨rfl, Nat.le_of_ble_eq_true rfl, Nat.le_of_ble_eq_true rfl, kw_165⟩, rfl, rfl, rfl, ⟨rfl, Nat.le_of_ble_eq_true rfl, Nat.le_of_ble_eq_true rfl, kw_129⟩, rfl, rfl, rfl, ⟨rfl, Nat.le_of_ble_eq_true rfl, Nat.le_of_ble_eq_true rfl, kw_129⟩, rfl, ⟨rfl, Nat.le_of_ble_eq_true rfl, Nat.le_of_ble_eq_true rfl, kw_166⟩, rfl, rfl, ⟨rfl, fun h => absurd h (by decide), fun _ => ⟨kw_167, kw_54, kw_55, kw_56, Nat.le_of_ble_eq_true rfl, Nat.le_of_ble_eq_true rfl⟩, fun h => absurd h (by decide)⟩, rfl, rfl, rfl, ⟨rfl, Nat.le_of_ble_eq_true rfl, Nat.le_of_ble_eq_true rfl, kw_165⟩, rfl, rfl, rfl, rfl, rfl, rfl, rfl, rfl, ⟨rfl, Nat.le_of_ble_eq_true rfl, Nat.le_of_ble_eq_true rfl, kw_125⟩, rfl, ⟨rfl, Nat.le_of_ble_eq_true rfl, Nat.le_of_ble_eq_true rfl, kw_151⟩, ⟨rfl, rfl, Nat.le_of_ble_eq_true rfl, kw_124, kw_168, kw_169⟩, rfl, rfl, ⟨rfl, Nat.le_of_ble_eq_true rfl, Nat.le_of_ble_eq_true rfl, kw_150⟩, rfl, rfl, rfl, rfl, rfl, ⟨rfl, fun _ => ⟨⟨kw_170, kw_9, kw_171, ⟨by decide +kernel, by decide +kernel, by decide +kernel⟩, Nat.le_of_ble_eq_true rfl, Nat.le_of_ble_eq_true rfl, by decide +kernel, rfl, fun h => absurd h (by decide)⟩, Nat.le_of_ble_eq_true rfl, kw_172, kw_173, rfl, Nat.le_of_ble_eq_true rfl⟩, fun h => absurd h (by decide)⟩, ⟨rfl, fun _ => ⟨⟨kw_174, kw_169, kw_175, ⟨by decide +kernel, by decide +kernel, by decide +kernel⟩, Nat.le_of_ble_eq_true rfl, Nat.le_of_ble_eq_true rfl, by decide +kernel, rfl, fun _ => rfl⟩, Nat.le_of_ble_eq_true rfl, kw_176, rfl, rfl, rfl⟩, fun h => absurd h (by decide)⟩, rfl, rfl, rfl, ⟨rfl, Nat.le_of_ble_eq_true rfl, Nat.le_of_ble_eq_true rfl, kw_151⟩, rfl, rfl, ⟨rfl, Nat.le_of_ble_eq_true rfl, Nat.le_of_ble_eq_true rfl, kw_151, Or.inl rfl⟩, rfl, ⟨rfl, Nat.le_of_ble_eq_true rfl, Nat.le_of_ble_eq_true rfl, kw_126⟩, rfl, rfl, ⟨rfl, Or.inl rfl⟩, rfl, rfl, rfl, rfl, rfl, ⟨rfl, rfl⟩, trivial⟩
set_option maxRecDepth 100000 in
theorem dk_X5_cut : dck (yBy 41) 0 mc_X5_cut = true := by decide +kernel
set_option maxRecDepth 100000 in
theorem ok_X5_cut : okl 41 0 mc_X5_cut := ⟨rfl, rfl, rfl, rfl, rfl, ⟨rfl, fun _ => ⟨⟨kw_132, kw_133, kw_134, ⟨by decide +kernel, by decide +kernel, by decide +kernel⟩, Nat.le_of_ble_eq_true rfl, Nat.le_of_ble_eq_true rfl, by decide +kernel, rfl, fun h => absurd h (by decide)⟩, Nat.le_of_ble_eq_true rfl, kw_135, kw_136, rfl, Nat.le_of_ble_eq_true rfl⟩, fun h => absurd h (by decide)⟩, ⟨rfl, Or.inl ⟨rfl, rfl⟩⟩, rfl, rfl, rfl, rfl, rfl, ⟨rfl, fun _ => ⟨⟨kw_132, kw_133, kw_134, ⟨by decide +kernel, by decide +kernel, by decide +kernel⟩, Nat.le_of_ble_eq_true rfl, Nat.le_of_ble_eq_true rfl, by decide +kernel, rfl, fun h => absurd h (by decide)⟩, Nat.le_of_ble_eq_true rfl, kw_135, kw_136, rfl, Nat.le_of_ble_eq_true rfl⟩, fun h => absurd h (by decide)⟩, ⟨rfl, Or.inl ⟨rfl, rfl⟩⟩, rfl, ⟨rfl, Nat.le_of_ble_eq_true rfl, Nat.le_of_ble_eq_true rfl, kw_129⟩, rfl, rfl, rfl, ⟨rfl, Nat.le_of_ble_eq_true rfl, Nat.le_of_ble_eq_true rfl, kw_129, Or.inl rfl⟩, rfl, ⟨rfl, Or.inl ⟨rfl, rfl⟩⟩, trivial⟩
set_option maxRecDepth 100000 in
theorem dk_X5_room : dck (yBy 42) 0 mc_X5_room = true := by decide +kernel
set_option maxRecDepth 100000 in
theorem ok_X5_room : okl 42 0 mc_X5_room := ⟨rfl, rfl, rfl, rfl, rfl, ⟨rfl, fun _ => ⟨⟨kw_132, kw_133, kw_134, ⟨by decide +kernel, by decide +kernel, by decide +kernel⟩, Nat.le_of_ble_eq_true rfl, Nat.le_of_ble_eq_true rfl, by decide +kernel, rfl, fun h => absurd h (by decide)⟩, Nat.le_of_ble_eq_true rfl, kw_135, kw_136, rfl, Nat.le_of_ble_eq_true rfl⟩, fun h => absurd h (by decide)⟩, ⟨rfl, Or.inl ⟨rfl, rfl⟩⟩, rfl, rfl, rfl, rfl, rfl, ⟨rfl, fun _ => ⟨⟨kw_132, kw_133, kw_134, ⟨by decide +kernel, by decide +kernel, by decide +kernel⟩, Nat.le_of_ble_eq_true rfl, Nat.le_of_ble_eq_true rfl, by decide +kernel, rfl, fun h => absurd h (by decide)⟩, Nat.le_of_ble_eq_true rfl, kw_135, kw_136, rfl, Nat.le_of_ble_eq_true rfl⟩, fun h => absurd h (by decide)⟩, ⟨rfl, Or.inl ⟨rfl, rfl⟩⟩, rfl, ⟨rfl, Nat.le_of_ble_eq_true rfl, Nat.le_of_ble_eq_true rfl, kw_130⟩, rfl, rfl, rfl, ⟨rfl, Nat.le_of_ble_eq_true rfl, Nat.le_of_ble_eq_true rfl, kw_130, Or.inl rfl⟩, rfl, ⟨rfl, Or.inl ⟨rfl, rfl⟩⟩, trivial⟩
set_option maxRecDepth 100000 in
theorem dk_X5_tick : dck (yBy 43) 0 mc_X5_tick = true := by decide +kernel
set_option maxRecDepth 100000 in
theorem ok_X5_tick : okl 43 0 mc_X5_tick := ⟨rfl, rfl, rfl, rfl, rfl, ⟨rfl, fun _ => ⟨⟨kw_132, kw_133, kw_134, ⟨by decide +kernel, by decide +kernel, by decide +kernel⟩, Nat.le_of_ble_eq_true rfl, Nat.le_of_ble_eq_true rfl, by decide +kernel, rfl, fun h => absurd h (by decide)⟩, Nat.le_of_ble_eq_true rfl, kw_135, kw_136, rfl, Nat.le_of_ble_eq_true rfl⟩, fun h => absurd h (by decide)⟩, ⟨rfl, Or.inl ⟨rfl, rfl⟩⟩, rfl, rfl, rfl, rfl, ⟨rfl, Nat.le_of_ble_eq_true rfl, Nat.le_of_ble_eq_true rfl, kw_177⟩, rfl, rfl, rfl, rfl, rfl, rfl, ⟨rfl, fun _ => ⟨⟨kw_132, kw_133, kw_134, ⟨by decide +kernel, by decide +kernel, by decide +kernel⟩, Nat.le_of_ble_eq_true rfl, Nat.le_of_ble_eq_true rfl, by decide +kernel, rfl, fun h => absurd h (by decide)⟩, Nat.le_of_ble_eq_true rfl, kw_135, kw_136, rfl, Nat.le_of_ble_eq_true rfl⟩, fun h => absurd h (by decide)⟩, ⟨rfl, Or.inl ⟨rfl, rfl⟩⟩, rfl, ⟨rfl, Nat.le_of_ble_eq_true rfl, Nat.le_of_ble_eq_true rfl, kw_152⟩, rfl, rfl, rfl, rfl, rfl, rfl, rfl, rfl, ⟨rfl, Nat.le_of_ble_eq_true rfl, Nat.le_of_ble_eq_true rfl, kw_177⟩, rfl, rfl, ⟨rfl, Nat.le_of_ble_eq_true rfl, Nat.le_of_ble_eq_true rfl, kw_177, Or.inl rfl⟩, rfl, ⟨rfl, fun _ => ⟨⟨kw_178, kw_133, kw_179, ⟨by decide +kernel, by decide +kernel, by decide +kernel⟩, Nat.le_of_ble_eq_true rfl, Nat.le_of_ble_eq_true rfl, by decide +kernel, rfl, fun h => absurd h (by decide)⟩, Nat.le_of_ble_eq_true rfl, kw_180, kw_181, rfl, Nat.le_of_ble_eq_true rfl⟩, fun h => absurd h (by decide)⟩, rfl, ⟨rfl, fun _ => ⟨⟨kw_182, kw_133, kw_183, ⟨by decide +kernel, by decide +kernel, by decide +kernel⟩, Nat.le_of_ble_eq_true rfl, Nat.le_of_ble_eq_true rfl, by decide +kernel, rfl, fun h => absurd h (by decide)⟩, Nat.le_of_ble_eq_true rfl, kw_184, kw_185, rfl, Nat.le_of_ble_eq_true rfl⟩, fun h => absurd h (by decide)⟩, rfl, ⟨rfl, fun _ => ⟨⟨kw_186, kw_133, kw_187, ⟨by decide +kernel, by decide +kernel, by decide +kernel⟩, Nat.le_of_ble_eq_true rfl, Nat.le_of_ble_eq_true rfl, by decide +kernel, rfl, fun h => absurd h (by decide)⟩, Nat.le_of_ble_eq_true rfl, kw_188, kw_189, rfl, Nat.le_of_ble_eq_true rfl⟩, fun h => absurd h (by decide)⟩, rfl, ⟨rfl, fun _ => ⟨⟨kw_190, kw_133, kw_191, ⟨by decide +kernel, by decide +kernel, by decide +kernel⟩, Nat.le_of_ble_eq_true rfl, Nat.le_of_ble_eq_true rfl, by decide +kernel, rfl, fun h => absurd h (by decide)⟩, Nat.le_of_ble_eq_true rfl, kw_192, kw_193, rfl, Nat.le_of_ble_eq_true rfl⟩, fun h => absurd h (by decide)⟩, rfl, ⟨rfl, fun _ => ⟨⟨kw_194, kw_133, kw_195, ⟨by decide +kernel, by decide +kernel, by decide +kernel⟩, Nat.le_of_ble_eq_true rfl, Nat.le_of_ble_eq_true rfl, by decide +kernel, rfl, fun h => absurd h (by decide)⟩, Nat.le_of_ble_eq_true rfl, kw_196, kw_197, rfl, Nat.le_of_ble_eq_true rfl⟩, fun h => absurd h (by decide)⟩, rfl, rfl, rfl, ⟨rfl, Nat.le_of_ble_eq_true rfl, Nat.le_of_ble_eq_true rfl, kw_152⟩, rfl, rfl, ⟨rfl, Or.inl ⟨rfl, rfl⟩⟩, trivial⟩
set_option maxRecDepth 100000 in
theorem dk_X5_layLostPieces : dck (yBy 44) 0 mc_X5_layLostPieces = true := by decide +kernel
set_option maxRecDepth 100000 in
theorem ok_X5_layLostPieces : okl 44 0 mc_X5_layLostPieces := ⟨rfl, ⟨rfl, Nat.le_of_ble_eq_true rfl, Nat.le_of_ble_eq_true rfl, kw_198⟩, rfl, rfl, rfl, ⟨rfl, Nat.le_of_ble_eq_true rfl, Nat.le_of_ble_eq_true rfl, kw_199⟩, rfl, rfl, ⟨rfl, Nat.le_of_ble_eq_true rfl, Nat.le_of_ble_eq_true rfl, kw_126⟩, rfl, ⟨rfl, Or.inl rfl⟩, rfl, rfl, rfl, ⟨rfl, fun _ => ⟨⟨kw_200, kw_133, kw_201, ⟨by decide +kernel, by decide +kernel, by decide +kernel⟩, Nat.le_of_ble_eq_true rfl, Nat.le_of_ble_eq_true rfl, by decide +kernel, rfl, fun h => absurd h (by decide)⟩, Nat.le_of_ble_eq_true rfl, kw_202, kw_203, rfl, Nat.le_of_ble_eq_true rfl⟩, fun h => absurd h (by decide)⟩, rfl, rfl, rfl, rfl, ⟨rfl, Nat.le_of_ble_eq_true rfl, Nat.le_of_ble_eq_true rfl, kw_204⟩, rfl, rfl, rfl, rfl, ⟨rfl, fun _ => ⟨⟨kw_205, kw_133, kw_206, ⟨by decide +kernel, by decide +kernel, by decide +kernel⟩, Nat.le_of_ble_eq_true rfl, Nat.le_of_ble_eq_true rfl, by decide +kernel, rfl, fun h => absurd h (by decide)⟩, Nat.le_of_ble_eq_true rfl, kw_207, kw_208, rfl, Nat.le_of_ble_eq_true rfl⟩, fun h => absurd h (by decide)⟩, rfl, rfl, rfl, ⟨rfl, rfl⟩, rfl, rfl, rfl, rfl, ⟨rfl, fun _ => ⟨⟨kw_209, kw_133, kw_210, ⟨by decide +kernel, by decide +kernel, by decide +kernel⟩, Nat.le_of_ble_eq_true rfl, Nat.le_of_ble_eq_true rfl, by decide +kernel, rfl, fun h => absurd h (by decide)⟩, Nat.le_of_ble_eq_true rfl, kw_211, kw_212, rfl, Nat.le_of_ble_eq_true rfl⟩, fun h => absurd h (by decide)⟩, rfl, rfl, ⟨rfl, rfl⟩, trivial⟩
set_option maxRecDepth 100000 in
theorem dk_X5_layNewPieces : dck (yBy 45) 0 mc_X5_layNewPieces = true := by decide +kernel
set_option maxRecDepth 100000 in
theorem ok_X5_layNewPieces : okl 45 0 mc_X5_layNewPieces := ⟨rfl, ⟨rfl, Nat.le_of_ble_eq_true rfl, Nat.le_of_ble_eq_true rfl, kw_199⟩, rfl, rfl, rfl, ⟨rfl, Nat.le_of_ble_eq_true rfl, Nat.le_of_ble_eq_true rfl, kw_151⟩, rfl, rfl, rfl, ⟨rfl, fun _ => ⟨⟨kw_200, kw_133, kw_201, ⟨by decide +kernel, by decide +kernel, by decide +kernel⟩, Nat.le_of_ble_eq_true rfl, Nat.le_of_ble_eq_true rfl, by decide +kernel, rfl, fun h => absurd h (by decide)⟩, Nat.le_of_ble_eq_true rfl, kw_202, kw_203, rfl, Nat.le_of_ble_eq_true rfl⟩, fun h => absurd h (by decide)⟩, rfl, rfl, rfl, rfl, ⟨rfl, Nat.le_of_ble_eq_true rfl, Nat.le_of_ble_eq_true rfl, kw_213⟩, rfl, ⟨rfl, fun _ => ⟨⟨kw_214, kw_133, kw_215, ⟨by decide +kernel, by decide +kernel, by decide +kernel⟩, Nat.le_of_ble_eq_true rfl, Nat.le_of_ble_eq_true rfl, by decide +kernel, rfl, fun h => absurd h (by decide)⟩, Nat.le_of_ble_eq_true rfl, kw_216, kw_217, rfl, Nat.le_of_ble_eq_true rfl⟩, fun h => absurd h (by decide)⟩, rfl, ⟨rfl, rfl⟩, rfl, rfl, ⟨rfl, fun _ => ⟨⟨kw_205, kw_133, kw_206, ⟨by decide +kernel, by decide +kernel, by decide +kernel⟩, Nat.le_of_ble_eq_true rfl, Nat.le_of_ble_eq_true rfl, by decide +kernel, rfl, fun h => absurd h (by decide)⟩, Nat.le_of_ble_eq_true rfl, kw_207, kw_208, rfl, Nat.le_of_ble_eq_true rfl⟩, fun h => absurd h (by decide)⟩, rfl, rfl, rfl, ⟨rfl, rfl⟩, rfl, rfl, ⟨rfl, Nat.le_of_ble_eq_true rfl, Nat.le_of_ble_eq_true rfl, kw_218⟩, rfl, ⟨rfl, Nat.le_of_ble_eq_true rfl, Nat.le_of_ble_eq_true rfl, kw_213⟩, rfl, ⟨rfl, Nat.le_of_ble_eq_true rfl, Nat.le_of_ble_eq_true rfl, kw_218, Or.inl rfl⟩, rfl, rfl, rfl, rfl, ⟨rfl, Nat.le_of_ble_eq_true rfl, Nat.le_of_ble_eq_true rfl, kw_199, Or.inl rfl⟩, rfl, rfl, rfl, rfl, ⟨rfl, fun _ => ⟨⟨kw_209, kw_133, kw_210, ⟨by decide +kernel, by decide +kernel, by decide +kernel⟩, Nat.le_of_ble_eq_true rfl, Nat.le_of_ble_eq_true rfl, by decide +kernel, rfl, fun h => absurd h (by decide)⟩, Nat.le_of_ble_eq_true rfl, kw_211, kw_212, rfl, Nat.le_of_ble_eq_true rfl⟩, fun h => absurd h (by decide)⟩, rfl, rfl, ⟨rfl, rfl⟩, trivial⟩
set_option maxRecDepth 100000 in
theorem dk_X5_lineFor : dck (yBy 46) 0 mc_X5_lineFor = true := by decide +kernel
set_option maxRecDepth 100000 in
theorem ok_X5_lineFor : okl 46 0 mc_X5_lineFor := ⟨rfl, rfl, rfl, rfl, rfl, rfl, ⟨rfl, Nat.le_of_ble_eq_true rfl, Nat.le_of_ble_eq_true rfl, kw_137⟩, rfl, rfl, rfl, ⟨rfl, fun _ => ⟨⟨kw_142, kw_133, kw_143, ⟨by decide +kernel, by decide +kernel, by decide +kernel⟩, Nat.le_of_ble_eq_true rfl, Nat.le_of_ble_eq_true rfl, by decide +kernel, rfl, fun h => absurd h (by decide)⟩, Nat.le_of_ble_eq_true rfl, kw_144, kw_145, rfl, Nat.le_of_ble_eq_true rfl⟩, fun h => absurd h (by decide)⟩, rfl, rfl, rfl, rfl, ⟨rfl, fun _ => ⟨⟨kw_219, kw_45, kw_220, ⟨by decide +kernel, by decide +kernel, by decide +kernel⟩, Nat.le_of_ble_eq_true rfl, Nat.le_of_ble_eq_true rfl, by decide +kernel, rfl, fun h => absurd h (by decide)⟩, Nat.le_of_ble_eq_true rfl, kw_221, kw_222, rfl, Nat.le_of_ble_eq_true rfl⟩, fun h => absurd h (by decide)⟩, rfl, rfl, rfl, rfl, rfl, rfl, ⟨rfl, fun _ => ⟨⟨kw_223, kw_133, kw_224, ⟨by decide +kernel, by decide +kernel, by decide +kernel⟩, Nat.le_of_ble_eq_true rfl, Nat.le_of_ble_eq_true rfl, by decide +kernel, rfl, fun h => absurd h (by decide)⟩, kw_225⟩, fun h => absurd h (by decide), fun h => absurd h (by decide)⟩, rfl, rfl, rfl, rfl, rfl, rfl, ⟨rfl, _, rfl, Or.inl ⟨_, rfl⟩⟩, trivial⟩
set_option maxRecDepth 100000 in
theorem dk_X5_isBetter : dck (yBy 47) 0 mc_X5_isBetter = true := by decide +kernel
set_option maxRecDepth 100000 in
theorem ok_X5_isBetter : okl 47 0 mc_X5_isBetter := ⟨rfl, rfl, ⟨rfl, Nat.le_of_ble_eq_true rfl, Nat.le_of_ble_eq_true rfl, kw_226⟩, ⟨rfl, fun _ => ⟨⟨kw_227, kw_169, kw_228, ⟨by decide +kernel, by decide +kernel, by decide +kernel⟩, Nat.le_of_ble_eq_true rfl, Nat.le_of_ble_eq_true rfl, by decide +kernel, rfl, fun h => absurd h (by decide)⟩, Nat.le_of_ble_eq_true rfl, kw_229, kw_230, rfl, Nat.le_of_ble_eq_true rfl⟩, fun h => absurd h (by decide)⟩, rfl, rfl, rfl, ⟨rfl, Nat.le_of_ble_eq_true rfl, Nat.le_of_ble_eq_true rfl, kw_226⟩, ⟨rfl, fun _ => ⟨⟨kw_227, kw_169, kw_228, ⟨by decide +kernel, by decide +kernel, by decide +kernel⟩, Nat.le_of_ble_eq_true rfl, Nat.le_of_ble_eq_true rfl, by decide +kernel, rfl, fun h => absurd h (by decide)⟩, Nat.le_of_ble_eq_true rfl, kw_229, kw_230, rfl, Nat.le_of_ble_eq_true rfl⟩, fun h => absurd h (by decide)⟩, rfl, rfl, rfl, rfl, rfl, rfl, rfl, rfl, rfl, rfl, ⟨rfl, Or.inr ⟨rfl, rfl⟩⟩, rfl, rfl, ⟨rfl, Nat.le_of_ble_eq_true rfl, Nat.le_of_ble_eq_true rfl, kw_213⟩, ⟨rfl, fun _ => ⟨⟨kw_231, kw_45, kw_232, ⟨by decide +kernel, by decide +kernel, by decide +kernel⟩, Nat.le_of_ble_eq_true rfl, Nat.le_of_ble_eq_true rfl, by decide +kernel, rfl, fun h => absurd h (by decide)⟩, Nat.le_of_ble_eq_true rfl, kw_233, kw_234, rfl, Nat.le_of_ble_eq_true rfl⟩, fun h => absurd h (by decide)⟩, rfl, rfl, rfl, ⟨rfl, Nat.le_of_ble_eq_true rfl, Nat.le_of_ble_eq_true rfl, kw_213⟩, ⟨rfl, fun _ => ⟨⟨kw_231, kw_45, kw_232, ⟨by decide +kernel, by decide +kernel, by decide +kernel⟩, Nat.le_of_ble_eq_true rfl, Nat.le_of_ble_eq_true rfl, by decide +kernel, rfl, fun h => absurd h (by decide)⟩, Nat.le_of_ble_eq_true rfl, kw_233, kw_234, rfl, Nat.le_of_ble_eq_true rfl⟩, fun h => absurd h (by decide)⟩, rfl, rfl, rfl, rfl, rfl, rfl, rfl, rfl, rfl, rfl, ⟨rfl, Or.inr ⟨rfl, rfl⟩⟩, rfl, ⟨rfl, Nat.le_of_ble_eq_true rfl, Nat.le_of_ble_eq_true rfl, kw_235⟩, rfl, ⟨rfl, Nat.le_of_ble_eq_true rfl, Nat.le_of_ble_eq_true rfl, kw_235⟩, rfl, rfl, rfl, rfl, ⟨rfl, Or.inr ⟨rfl, rfl⟩⟩, trivial⟩
set_option maxRecDepth 100000 in
theorem dk_X5_layOn : dck (yBy 48) 0 mc_X5_layOn = true := by decide +kernel
set_option maxRecDepth 100000 in
theorem ok_X5_layOn : okl 48 0 mc_X5_layOn := ⟨rfl, rfl, rfl, ⟨rfl, fun _ => ⟨⟨kw_236, kw_133, kw_237, ⟨by decide +kernel, by decide +kernel, by decide +kernel⟩, Nat.le_of_ble_eq_true rfl, Nat.le_of_ble_eq_true rfl, by decide +kernel, rfl, fun h => absurd h (by decide)⟩, Nat.le_of_ble_eq_true rfl, kw_238, kw_239, rfl, Nat.le_of_ble_eq_true rfl⟩, fun h => absurd h (by decide)⟩, rfl, rfl, ⟨rfl, Nat.le_of_ble_eq_true rfl, Nat.le_of_ble_eq_true rfl, kw_240⟩, rfl, rfl, ⟨rfl, Nat.le_of_ble_eq_true rfl, Nat.le_of_ble_eq_true rfl, kw_240, Or.inl rfl⟩, rfl, rfl, ⟨rfl, Nat.le_of_ble_eq_true rfl, Nat.le_of_ble_eq_true rfl, kw_226⟩, ⟨rfl, Nat.le_of_ble_eq_true rfl, Nat.le_of_ble_eq_true rfl, kw_241, Or.inl rfl⟩, rfl, ⟨rfl, Nat.le_of_ble_eq_true rfl, Nat.le_of_ble_eq_true rfl, kw_242⟩, rfl, rfl, ⟨rfl, Nat.le_of_ble_eq_true rfl, Nat.le_of_ble_eq_true rfl, kw_213⟩, ⟨rfl, fun _ => ⟨⟨kw_243, kw_20, kw_244, ⟨by decide +kernel, by decide +kernel, by decide +kernel⟩, Nat.le_of_ble_eq_true rfl, Nat.le_of_ble_eq_true rfl, by decide +kernel, rfl, fun h => absurd h (by decide)⟩, Nat.le_of_ble_eq_true rfl, kw_245, kw_246, rfl, Nat.le_of_ble_eq_true rfl⟩, fun h => absurd h (by decide)⟩, ⟨rfl, rfl⟩, trivial⟩
set_option maxRecDepth 100000 in
theorem dk_X5_sendOnLines : dck (yBy 49) 0 mc_X5_sendOnLines = true := by decide +kernel
set_option maxRecDepth 100000 in
theorem ok_X5_sendOnLines : okl 49 0 mc_X5_sendOnLines := ⟨rfl, rfl, rfl, rfl, ⟨rfl, Nat.le_of_ble_eq_true rfl, Nat.le_of_ble_eq_true rfl, kw_137⟩, rfl, rfl, rfl, ⟨rfl, fun _ => ⟨⟨kw_142, kw_133, kw_143, ⟨by decide +kernel, by decide +kernel, by decide +kernel⟩, Nat.le_of_ble_eq_true rfl, Nat.le_of_ble_eq_true rfl, by decide +kernel, rfl, fun h => absurd h (by decide)⟩, Nat.le_of_ble_eq_true rfl, kw_144, kw_145, rfl, Nat.le_of_ble_eq_true rfl⟩, fun h => absurd h (by decide)⟩, rfl, rfl, rfl, rfl, rfl, ⟨rfl, Nat.le_of_ble_eq_true rfl, Nat.le_of_ble_eq_true rfl, kw_177⟩, ⟨rfl, fun _ => ⟨⟨kw_247, kw_45, kw_248, ⟨by decide +kernel, by decide +kernel, by decide +kernel⟩, Nat.le_of_ble_eq_true rfl, Nat.le_of_ble_eq_true rfl, by decide +kernel, rfl, fun h => absurd h (by decide)⟩, Nat.le_of_ble_eq_true rfl, kw_249, kw_250, rfl, Nat.le_of_ble_eq_true rfl⟩, fun h => absurd h (by decide)⟩, rfl, rfl, ⟨rfl, rfl⟩, trivial⟩
set_option maxRecDepth 100000 in
theorem dk_X5_takeWhatComes : dck (yBy 50) 0 mc_X5_takeWhatComes = true := by decide +kernel
set_option maxRecDepth 100000 in
theorem ok_X5_takeWhatComes : okl 50 0 mc_X5_takeWhatComes := ⟨rfl, rfl, rfl, rfl, ⟨rfl, Nat.le_of_ble_eq_true rfl, Nat.le_of_ble_eq_true rfl, kw_137⟩, rfl, rfl, rfl, ⟨rfl, fun _ => ⟨⟨kw_142, kw_133, kw_143, ⟨by decide +kernel, by decide +kernel, by decide +kernel⟩, Nat.le_of_ble_eq_true rfl, Nat.le_of_ble_eq_true rfl, by decide +kernel, rfl, fun h => absurd h (by decide)⟩, Nat.le_of_ble_eq_true rfl, kw_144, kw_145, rfl, Nat.le_of_ble_eq_true rfl⟩, fun h => absurd h (by decide)⟩, rfl, rfl, rfl, rfl, rfl, ⟨rfl, fun _ => ⟨⟨kw_251, kw_133, kw_252, ⟨by decide +kernel, by decide +kernel, by decide +kernel⟩, Nat.le_of_ble_eq_true rfl, Nat.le_of_ble_eq_true rfl, by decide +kernel, rfl, fun h => absurd h (by decide)⟩, Nat.le_of_ble_eq_true rfl, kw_253, kw_254, rfl, Nat.le_of_ble_eq_true rfl⟩, fun h => absurd h (by decide)⟩, rfl, rfl, rfl, ⟨rfl, fun _ => ⟨⟨kw_255, kw_133, kw_256, ⟨by decide +kernel, by decide +kernel, by decide +kernel⟩, Nat.le_of_ble_eq_true rfl, Nat.le_of_ble_eq_true rfl, by decide +kernel, rfl, fun h => absurd h (by decide)⟩, Nat.le_of_ble_eq_true rfl, kw_257, kw_258, rfl, Nat.le_of_ble_eq_true rfl⟩, fun h => absurd h (by decide)⟩, ⟨rfl, rfl⟩, trivial⟩
set_option maxRecDepth 100000 in
theorem dk_X5_takeFrom : dck (yBy 51) 0 mc_X5_takeFrom = true := by decide +kernel
set_option maxRecDepth 100000 in
theorem ok_X5_takeFrom : okl 51 0 mc_X5_takeFrom := ⟨rfl, ⟨rfl, Nat.le_of_ble_eq_true rfl, Nat.le_of_ble_eq_true rfl, kw_259⟩, rfl, rfl, rfl, rfl, rfl, rfl, rfl, rfl, ⟨rfl, Nat.le_of_ble_eq_true rfl, Nat.le_of_ble_eq_true rfl, kw_177⟩, ⟨rfl, fun _ => ⟨⟨kw_260, kw_27, kw_261, ⟨by decide +kernel, by decide +kernel, by decide +kernel⟩, Nat.le_of_ble_eq_true rfl, Nat.le_of_ble_eq_true rfl, by decide +kernel, rfl, fun h => absurd h (by decide)⟩, Nat.le_of_ble_eq_true rfl, kw_262, kw_263, rfl, Nat.le_of_ble_eq_true rfl⟩, fun h => absurd h (by decide)⟩, rfl, rfl, rfl, ⟨rfl, fun _ => ⟨⟨kw_264, kw_27, kw_265, ⟨by decide +kernel, by decide +kernel, by decide +kernel⟩, Nat.le_of_ble_eq_true rfl, Nat.le_of_ble_eq_true rfl, by decide +kernel, rfl, fun h => absurd h (by decide)⟩, Nat.le_of_ble_eq_true rfl, kw_266, kw_267, rfl, Nat.le_of_ble_eq_true rfl⟩, fun h => absurd h (by decide)⟩, rfl, rfl, rfl, ⟨rfl, fun _ => ⟨⟨kw_268, kw_27, kw_269, ⟨by decide +kernel, by decide +kernel, by decide +kernel⟩, Nat.le_of_ble_eq_true rfl, Nat.le_of_ble_eq_true rfl, by decide +kernel, rfl, fun h => absurd h (by decide)⟩, Nat.le_of_ble_eq_true rfl, kw_270, kw_271, rfl, Nat.le_of_ble_eq_true rfl⟩, fun h => absurd h (by decide)⟩, rfl, rfl, rfl, ⟨rfl, fun _ => ⟨⟨kw_272, kw_27, kw_116, ⟨by decide +kernel, by decide +kernel, by decide +kernel⟩, Nat.le_of_ble_eq_true rfl, Nat.le_of_ble_eq_true rfl, by decide +kernel, rfl, fun h => absurd h (by decide)⟩, Nat.le_of_ble_eq_true rfl, kw_117, kw_118, rfl, Nat.le_of_ble_eq_true rfl⟩, fun h => absurd h (by decide)⟩, rfl, rfl, ⟨rfl, fun _ => ⟨⟨kw_273, kw_27, kw_274, ⟨by decide +kernel, by decide +kernel, by decide +kernel⟩, Nat.le_of_ble_eq_true rfl, Nat.le_of_ble_eq_true rfl, by decide +kernel, rfl, fun h => absurd h (by decide)⟩, Nat.le_of_ble_eq_true rfl, kw_275, kw_276, rfl, Nat.le_of_ble_eq_true rfl⟩, fun h => absurd h (by decide)⟩, rfl, rfl, rfl, rfl, rfl, rfl, rfl, rfl, rfl, rfl, rfl, ⟨rfl, Nat.le_of_ble_eq_true rfl, Nat.le_of_ble_eq_true rfl, kw_277⟩, rfl, rfl, ⟨rfl, Nat.le_of_ble_eq_true rfl, Nat.le_of_ble_eq_true rfl, kw_277, Or.inl rfl⟩, rfl, rfl, rfl, rfl, ⟨rfl, fun _ => ⟨⟨kw_278, kw_133, kw_279, ⟨by decide +kernel, by decide +kernel, by decide +kernel⟩, Nat.le_of_ble_eq_true rfl, Nat.le_of_ble_eq_true rfl, by decide +kernel, rfl, fun h => absurd h (by decide)⟩, Nat.le_of_ble_eq_true rfl, kw_280, kw_281, rfl, Nat.le_of_ble_eq_true rfl⟩, fun h => absurd h (by decide)⟩, rfl, rfl, rfl, rfl, ⟨rfl, Nat.le_of_ble_eq_true rfl, Nat.le_of_ble_eq_true rfl, kw_282, Or.inl rfl⟩, rfl, rfl, ⟨rfl, fun _ => ⟨⟨kw_283, kw_133, kw_284, ⟨by decide +kernel, by decide +kernel, by decide +kernel⟩, Nat.le_of_ble_eq_true rfl, Nat.le_of_ble_eq_true rfl, by decide +kernel, rfl, fun h => absurd h (by decide)⟩, Nat.le_of_ble_eq_true rfl, kw_285, kw_286, rfl, Nat.le_of_ble_eq_true rfl⟩, fun h => absurd h (by decide)⟩, rfl, rfl, ⟨rfl, rfl⟩, trivial⟩
set_option maxRecDepth 100000 in
theorem dk_X5_arrive : dck (yBy 52) 0 mc_X5_arrive = true := by decide +kernel
set_option maxRecDepth 100000 in
theorem ok_X5_arrive : okl 52 0 mc_X5_arrive := ⟨rfl, rfl, ⟨rfl, fun _ => ⟨⟨kw_200, kw_133, kw_201, ⟨by decide +kernel, by decide +kernel, by decide +kernel⟩, Nat.le_of_ble_eq_true rfl, Nat.le_of_ble_eq_true rfl, by decide +kernel, rfl, fun h => absurd h (by decide)⟩, Nat.le_of_ble_eq_true rfl, kw_202, kw_203, rfl, Nat.le_of_ble_eq_true rfl⟩, fun h => absurd h (by decide)⟩, rfl, rfl, rfl, rfl, ⟨rfl, Nat.le_of_ble_eq_true rfl, Nat.le_of_ble_eq_true rfl, kw_204⟩, rfl, rfl, ⟨rfl, rfl⟩, rfl, rfl, rfl, ⟨rfl, fun _ => ⟨⟨kw_236, kw_133, kw_237, ⟨by decide +kernel, by decide +kernel, by decide +kernel⟩, Nat.le_of_ble_eq_true rfl, Nat.le_of_ble_eq_true rfl, by decide +kernel, rfl, fun h => absurd h (by decide)⟩, Nat.le_of_ble_eq_true rfl, kw_238, kw_239, rfl, Nat.le_of_ble_eq_true rfl⟩, fun h => absurd h (by decide)⟩, rfl, rfl, ⟨rfl, Nat.le_of_ble_eq_true rfl, Nat.le_of_ble_eq_true rfl, kw_287⟩, ⟨rfl, fun _ => ⟨⟨kw_288, kw_133, kw_289, ⟨by decide +kernel, by decide +kernel, by decide +kernel⟩, Nat.le_of_ble_eq_true rfl, Nat.le_of_ble_eq_true rfl, by decide +kernel, rfl, fun h => absurd h (by decide)⟩, Nat.le_of_ble_eq_true rfl, kw_290, kw_291, rfl, Nat.le_of_ble_eq_true rfl⟩, fun h => absurd h (by decide)⟩, rfl, rfl, rfl, rfl, rfl, ⟨rfl, Nat.le_of_ble_eq_true rfl, Nat.le_of_ble_eq_true rfl, kw_292⟩, rfl, rfl, ⟨rfl, Nat.le_of_ble_eq_true rfl, Nat.le_of_ble_eq_true rfl, kw_292, Or.inl rfl⟩, ⟨rfl, rfl⟩, trivial⟩
set_option maxRecDepth 100000 in
theorem dk_X5_loseUpTo : dck (yBy 53) 0 mc_X5_loseUpTo = true := by decide +kernel
set_option maxRecDepth 100000 in
theorem ok_X5_loseUpTo : okl 53 0 mc_X5_loseUpTo := ⟨rfl, ⟨rfl, Nat.le_of_ble_eq_true rfl, Nat.le_of_ble_eq_true rfl, kw_282⟩, rfl, rfl, rfl, rfl, rfl, rfl, rfl, rfl, ⟨rfl, fun _ => ⟨⟨kw_293, kw_45, kw_294, ⟨by decide +kernel, by decide +kernel, by decide +kernel⟩, Nat.le_of_ble_eq_true rfl, Nat.le_of_ble_eq_true rfl, by decide +kernel, rfl, fun h => absurd h (by decide)⟩, Nat.le_of_ble_eq_true rfl, kw_295, kw_296, rfl, Nat.le_of_ble_eq_true rfl⟩, fun h => absurd h (by decide)⟩, ⟨rfl, fun _ => ⟨⟨kw_297, kw_133, kw_298, ⟨by decide +kernel, by decide +kernel, by decide +kernel⟩, Nat.le_of_ble_eq_true rfl, Nat.le_of_ble_eq_true rfl, by decide +kernel, rfl, fun h => absurd h (by decide)⟩, Nat.le_of_ble_eq_true rfl, kw_299, kw_300, rfl, Nat.le_of_ble_eq_true rfl⟩, fun h => absurd h (by decide)⟩, rfl, rfl, ⟨rfl, rfl⟩, trivial⟩
set_option maxRecDepth 100000 in
theorem dk_X5_loseOn : dck (yBy 54) 0 mc_X5_loseOn = true := by decide +kernel
set_option maxRecDepth 100000 in
theorem ok_X5_loseOn : okl 54 0 mc_X5_loseOn := ⟨rfl, rfl, ⟨rfl, fun _ => ⟨⟨kw_200, kw_133, kw_201, ⟨by decide +kernel, by decide +kernel, by decide +kernel⟩, Nat.le_of_ble_eq_true rfl, Nat.le_of_ble_eq_true rfl, by decide +kernel, rfl, fun h => absurd h (by decide)⟩, Nat.le_of_ble_eq_true rfl, kw_202, kw_203, rfl, Nat.le_of_ble_eq_true rfl⟩, fun h => absurd h (by decide)⟩, rfl, rfl, rfl, rfl, ⟨rfl, Nat.le_of_ble_eq_true rfl, Nat.le_of_ble_eq_true rfl, kw_204⟩, rfl, rfl, rfl, ⟨rfl, Nat.le_of_ble_eq_true rfl, Nat.le_of_ble_eq_true rfl, kw_241⟩, rfl, ⟨rfl, Nat.le_of_ble_eq_true rfl, Nat.le_of_ble_eq_true rfl, kw_226⟩, rfl, ⟨rfl, rfl⟩, rfl, rfl, rfl, ⟨rfl, fun _ => ⟨⟨kw_236, kw_133, kw_237, ⟨by decide +kernel, by decide +kernel, by decide +kernel⟩, Nat.le_of_ble_eq_true rfl, Nat.le_of_ble_eq_true rfl, by decide +kernel, rfl, fun h => absurd h (by decide)⟩, Nat.le_of_ble_eq_true rfl, kw_238, kw_239, rfl, Nat.le_of_ble_eq_true rfl⟩, fun h => absurd h (by decide)⟩, rfl, rfl, ⟨rfl, Nat.le_of_ble_eq_true rfl, Nat.le_of_ble_eq_true rfl, kw_226⟩, ⟨rfl, fun _ => ⟨⟨kw_301, kw_169, kw_302, ⟨by decide +kernel, by decide +kernel, by decide +kernel⟩, Nat.le_of_ble_eq_true rfl, Nat.le_of_ble_eq_true rfl, by decide +kernel, rfl, fun h => absurd h (by decide)⟩, Nat.le_of_ble_eq_true rfl, kw_303, kw_304, rfl, Nat.le_of_ble_eq_true rfl⟩, fun h => absurd h (by decide)⟩, rfl, rfl, ⟨rfl, Nat.le_of_ble_eq_true rfl, Nat.le_of_ble_eq_true rfl, kw_305⟩, rfl, rfl, ⟨rfl, Nat.le_of_ble_eq_true rfl, Nat.le_of_ble_eq_true rfl, kw_305, Or.inl rfl⟩, ⟨rfl, rfl⟩, trivial⟩
set_option maxRecDepth 100000 in
theorem dk_X5_giveFrames : dck (yBy 55) 0 mc_X5_giveFrames = true := by decide +kernel
set_option maxRecDepth 100000 in
theorem ok_X5_giveFrames : okl 55 0 mc_X5_giveFrames := ⟨rfl, ⟨rfl, Nat.le_of_ble_eq_true rfl, Nat.le_of_ble_eq_true rfl, kw_152⟩, rfl, rfl, rfl, ⟨rfl, Nat.le_of_ble_eq_true rfl, Nat.le_of_ble_eq_true rfl, kw_150⟩, rfl, rfl, rfl, ⟨rfl, fun _ => ⟨⟨kw_288, kw_133, kw_289, ⟨by decide +kernel, by decide +kernel, by decide +kernel⟩, Nat.le_of_ble_eq_true rfl, Nat.le_of_ble_eq_true rfl, by decide +kernel, rfl, fun h => absurd h (by decide)⟩, Nat.le_of_ble_eq_true rfl, kw_290, kw_291, rfl, Nat.le_of_ble_eq_true rfl⟩, fun h => absurd h (by decide)⟩, rfl, rfl, rfl, rfl, ⟨rfl, Nat.le_of_ble_eq_true rfl, Nat.le_of_ble_eq_true rfl, kw_292⟩, rfl, ⟨rfl, Nat.le_of_ble_eq_true rfl, Nat.le_of_ble_eq_true rfl, kw_165⟩, rfl, ⟨rfl, rfl⟩, rfl, rfl, ⟨rfl, Nat.le_of_ble_eq_true rfl, Nat.le_of_ble_eq_true rfl, kw_177⟩, ⟨rfl, Nat.le_of_ble_eq_true rfl, Nat.le_of_ble_eq_true rfl, kw_306, Or.inl rfl⟩, rfl, rfl, rfl, rfl, ⟨rfl, Nat.le_of_ble_eq_true rfl, Nat.le_of_ble_eq_true rfl, kw_152, Or.inl rfl⟩, rfl, rfl, ⟨rfl, Nat.le_of_ble_eq_true rfl, Nat.le_of_ble_eq_true rfl, kw_198⟩, rfl, ⟨rfl, Nat.le_of_ble_eq_true rfl, Nat.le_of_ble_eq_true rfl, kw_165⟩, rfl, ⟨rfl, Nat.le_of_ble_eq_true rfl, Nat.le_of_ble_eq_true rfl, kw_198, Or.inl rfl⟩, rfl, rfl, ⟨rfl, Nat.le_of_ble_eq_true rfl, Nat.le_of_ble_eq_true rfl, kw_307⟩, rfl, ⟨rfl, Nat.le_of_ble_eq_true rfl, Nat.le_of_ble_eq_true rfl, kw_166⟩, rfl, ⟨rfl, Nat.le_of_ble_eq_true rfl, Nat.le_of_ble_eq_true rfl, kw_307, Or.inl rfl⟩, rfl, rfl, ⟨rfl, Nat.le_of_ble_eq_true rfl, Nat.le_of_ble_eq_true rfl, kw_218⟩, rfl, ⟨rfl, Nat.le_of_ble_eq_true rfl, Nat.le_of_ble_eq_true rfl, kw_166⟩, rfl, ⟨rfl, Nat.le_of_ble_eq_true rfl, Nat.le_of_ble_eq_true rfl, kw_218, Or.inl rfl⟩, rfl, rfl, ⟨rfl, rfl⟩, trivial⟩
set_option maxRecDepth 100000 in
theorem dk_X5_restLines : dck (yBy 56) 0 mc_X5_restLines = true := by decide +kernel
set_option maxRecDepth 100000 in
theorem ok_X5_restLines : okl 56 0 mc_X5_restLines := ⟨rfl, rfl, rfl, rfl, ⟨rfl, Nat.le_of_ble_eq_true rfl, Nat.le_of_ble_eq_true rfl, kw_137⟩, rfl, rfl, rfl, ⟨rfl, fun _ => ⟨⟨kw_142, kw_133, kw_143, ⟨by decide +kernel, by decide +kernel, by decide +kernel⟩, Nat.le_of_ble_eq_true rfl, Nat.le_of_ble_eq_true rfl, by decide +kernel, rfl, fun h => absurd h (by decide)⟩, Nat.le_of_ble_eq_true rfl, kw_144, kw_145, rfl, Nat.le_of_ble_eq_true rfl⟩, fun h => absurd h (by decide)⟩, rfl, rfl, rfl, rfl, ⟨rfl, fun _ => ⟨⟨kw_308, kw_45, kw_309, ⟨by decide +kernel, by decide +kernel, by decide +kernel⟩, Nat.le_of_ble_eq_true rfl, Nat.le_of_ble_eq_true rfl, by decide +kernel, rfl, fun h => absurd h (by decide)⟩, Nat.le_of_ble_eq_true rfl, kw_310, kw_311, rfl, Nat.le_of_ble_eq_true rfl⟩, fun h => absurd h (by decide)⟩, rfl, rfl, ⟨rfl, Nat.le_of_ble_eq_true rfl, Nat.le_of_ble_eq_true rfl, kw_242⟩, rfl, rfl, ⟨rfl, fun _ => ⟨⟨kw_243, kw_20, kw_244, ⟨by decide +kernel, by decide +kernel, by decide +kernel⟩, Nat.le_of_ble_eq_true rfl, Nat.le_of_ble_eq_true rfl, by decide +kernel, rfl, fun h => absurd h (by decide)⟩, Nat.le_of_ble_eq_true rfl, kw_245, kw_246, rfl, Nat.le_of_ble_eq_true rfl⟩, fun h => absurd h (by decide)⟩, rfl, rfl, ⟨rfl, Nat.le_of_ble_eq_true rfl, Nat.le_of_ble_eq_true rfl, kw_312⟩, rfl, rfl, ⟨rfl, Nat.le_of_ble_eq_true rfl, Nat.le_of_ble_eq_true rfl, kw_312, Or.inl rfl⟩, rfl, rfl, ⟨rfl, rfl⟩, trivial⟩
set_option maxRecDepth 100000 in
theorem dk_X5_become : dck (yBy 57) 0 mc_X5_become = true := by decide +kernel
set_option maxRecDepth 100000 in
theorem ok_X5_become : okl 57 0 mc_X5_become := ⟨rfl, ⟨rfl, Nat.le_of_ble_eq_true rfl, Nat.le_of_ble_eq_true rfl, kw_126⟩, rfl, ⟨rfl, Nat.le_of_ble_eq_true rfl, Nat.le_of_ble_eq_true rfl, kw_204⟩, rfl, ⟨rfl, Or.inl rfl⟩, rfl, rfl, rfl, rfl, ⟨rfl, Nat.le_of_ble_eq_true rfl, Nat.le_of_ble_eq_true rfl, kw_126⟩, rfl, rfl, ⟨rfl, Or.inl rfl⟩, rfl, rfl, rfl, rfl, rfl, ⟨rfl, Nat.le_of_ble_eq_true rfl, Nat.le_of_ble_eq_true rfl, kw_204, Or.inl rfl⟩, ⟨rfl, rfl⟩, trivial⟩
set_option maxRecDepth 100000 in
theorem dk_X5_lose : dck (yBy 58) 0 mc_X5_lose = true := by decide +kernel
set_option maxRecDepth 100000 in
theorem ok_X5_lose : okl 58 0 mc_X5_lose := ⟨rfl, rfl, ⟨rfl, fun _ => ⟨⟨kw_142, kw_133, kw_143, ⟨by decide +kernel, by decide +kernel, by decide +kernel⟩, Nat.le_of_ble_eq_true rfl, Nat.le_of_ble_eq_true rfl, by decide +kernel, rfl, fun h => absurd h (by decide)⟩, Nat.le_of_ble_eq_true rfl, kw_144, kw_145, rfl, Nat.le_of_ble_eq_true rfl⟩, fun h => absurd h (by decide)⟩, rfl, rfl, rfl, rfl, rfl, ⟨rfl, fun _ => ⟨⟨kw_132, kw_133, kw_134, ⟨by decide +kernel, by decide +kernel, by decide +kernel⟩, Nat.le_of_ble_eq_true rfl, Nat.le_of_ble_eq_true rfl, by decide +kernel, rfl, fun h => absurd h (by decide)⟩, Nat.le_of_ble_eq_true rfl, kw_135, kw_136, rfl, Nat.le_of_ble_eq_true rfl⟩, fun h => absurd h (by decide)⟩, ⟨rfl, Or.inl ⟨rfl, rfl⟩⟩, rfl, ⟨rfl, Nat.le_of_ble_eq_true rfl, Nat.le_of_ble_eq_true rfl, kw_146⟩, rfl, rfl, rfl, ⟨rfl, Nat.le_of_ble_eq_true rfl, Nat.le_of_ble_eq_true rfl, kw_146⟩, rfl, rfl, rfl, rfl, ⟨rfl, fun _ => ⟨⟨kw_132, kw_133, kw_134, ⟨by decide +kernel, by decide +kernel, by decide +kernel⟩, Nat.le_of_ble_eq_true rfl, Nat.le_of_ble_eq_true rfl, by decide +kernel, rfl, fun h => absurd h (by decide)⟩, Nat.le_of_ble_eq_true rfl, kw_135, kw_136, rfl, Nat.le_of_ble_eq_true rfl⟩, fun h => absurd h (by decide)⟩, ⟨rfl, Or.inl ⟨rfl, rfl⟩⟩, rfl, ⟨rfl, Nat.le_of_ble_eq_true rfl, Nat.le_of_ble_eq_true rfl, kw_259⟩, rfl, ⟨rfl, fun _ => ⟨⟨kw_313, kw_27, kw_314, ⟨by decide +kernel, by decide +kernel, by decide +kernel⟩, Nat.le_of_ble_eq_true rfl, Nat.le_of_ble_eq_true rfl, by decide +kernel, rfl, fun h => absurd h (by decide)⟩, Nat.le_of_ble_eq_true rfl, kw_315, kw_316, rfl, Nat.le_of_ble_eq_true rfl⟩, fun h => absurd h (by decide)⟩, rfl, rfl, rfl, rfl, rfl, ⟨rfl, fun _ => ⟨⟨kw_132, kw_133, kw_134, ⟨by decide +kernel, by decide +kernel, by decide +kernel⟩, Nat.le_of_ble_eq_true rfl, Nat.le_of_ble_eq_true rfl, by decide +kernel, rfl, fun h => absurd h (by decide)⟩, Nat.le_of_ble_eq_true rfl, kw_135, kw_136, rfl, Nat.le_of_ble_eq_true rfl⟩, fun h => absurd h (by decide)⟩, ⟨rfl, Or.inl ⟨rfl, rfl⟩⟩, rfl, ⟨rfl, Nat.le_of_ble_eq_true rfl, Nat.le_of_ble_eq_true rfl, kw_259⟩, rfl, rfl, ⟨rfl, fun _ => ⟨⟨kw_317, kw_27, kw_318, ⟨by decide +kernel, by decide +kernel, by decide +kernel⟩, Nat.le_of_ble_eq_true rfl, Nat.le_of_ble_eq_true rfl, by decide +kernel, rfl, fun h => absurd h (by decide)⟩, Nat.le_of_ble_eq_true rfl, kw_319, kw_320, rfl, Nat.le_of_ble_eq_true rfl⟩, fun h => absurd h (by decide)⟩, rfl, ⟨rfl, Nat.le_of_ble_eq_true rfl, Nat.le_of_ble_eq_true rfl, kw_259⟩, rfl, ⟨rfl, fun _ => ⟨⟨kw_264, kw_27, kw_265, ⟨by decide +kernel, by decide +kernel, by decide +kernel⟩, Nat.le_of_ble_eq_true rfl, Nat.le_of_ble_eq_true rfl, by decide +kernel, rfl, fun h => absurd h (by decide)⟩, Nat.le_of_ble_eq_true rfl, kw_266, kw_267, rfl, Nat.le_of_ble_eq_true rfl⟩, fun h => absurd h (by decide)⟩, rfl, rfl, rfl, rfl, rfl, rfl, rfl, ⟨rfl, Or.inl ⟨rfl, rfl⟩⟩, trivial⟩
set_option maxRecDepth 100000 in
theorem dk_X5_bend : dck (yBy 59) 0 mc_X5_bend = true := by decide +kernel
set_option maxRecDepth 100000 in
theorem ok_X5_bend : okl 59 0 mc_X5_bend := ⟨rfl, rfl, ⟨rfl, fun _ => ⟨⟨kw_142, kw_133, kw_143, ⟨by decide +kernel, by decide +kernel, by decide +kernel⟩, Nat.le_of_ble_eq_true rfl, Nat.le_of_ble_eq_true rfl, by decide +kernel, rfl, fun h => absurd h (by decide)⟩, Nat.le_of_ble_eq_true rfl, kw_144, kw_145, rfl, Nat.le_of_ble_eq_true rfl⟩, fun h => absurd h (by decide)⟩, rfl, rfl, rfl, rfl, rfl, ⟨rfl, fun _ => ⟨⟨kw_132, kw_133, kw_134, ⟨by decide +kernel, by decide +kernel, by decide +kernel⟩, Nat.le_of_ble_eq_true rfl, Nat.le_of_ble_eq_true rfl, by decide +kernel, rfl, fun h => absurd h (by decide)⟩, Nat.le_of_ble_eq_true rfl, kw_135, kw_136, rfl, Nat.le_of_ble_eq_true rfl⟩, fun h => absurd h (by decide)⟩, ⟨rfl, Or.inl ⟨rfl, rfl⟩⟩, rfl, rfl, rfl, rfl, rfl, ⟨rfl, fun _ => ⟨⟨kw_132, kw_133, kw_134, ⟨by decide +kernel, by decide +kernel, by decide +kernel⟩, Nat.le_of_ble_eq_true rfl, Nat.le_of_ble_eq_true rfl, by decide +kernel, rfl, fun h => absurd h (by decide)⟩, Nat.le_of_ble_eq_true rfl, kw_135, kw_136, rfl, Nat.le_of_ble_eq_true rfl⟩, fun h => absurd h (by decide)⟩, ⟨rfl, Or.inl ⟨rfl, rfl⟩⟩, rfl, rfl, rfl, rfl, rfl, ⟨rfl, fun _ => ⟨⟨kw_132, kw_133, kw_134, ⟨by decide +kernel, by decide +kernel, by decide +kernel⟩, Nat.le_of_ble_eq_true rfl, Nat.le_of_ble_eq_true rfl, by decide +kernel, rfl, fun h => absurd h (by decide)⟩, Nat.le_of_ble_eq_true rfl, kw_135, kw_136, rfl, Nat.le_of_ble_eq_true rfl⟩, fun h => absurd h (by decide)⟩, ⟨rfl, Or.inl ⟨rfl, rfl⟩⟩, rfl, ⟨rfl, Nat.le_of_ble_eq_true rfl, Nat.le_of_ble_eq_true rfl, kw_259⟩, rfl, ⟨rfl, fun _ => ⟨⟨kw_313, kw_27, kw_314, ⟨by decide +kernel, by decide +kernel, by decide +kernel⟩, Nat.le_of_ble_eq_true rfl, Nat.le_of_ble_eq_true rfl, by decide +kernel, rfl, fun h => absurd h (by decide)⟩, Nat.le_of_ble_eq_true rfl, kw_315, kw_316, rfl, Nat.le_of_ble_eq_true rfl⟩, fun h => absurd h (by decide)⟩, rfl, rfl, rfl, rfl, rfl, ⟨rfl, fun _ => ⟨⟨kw_132, kw_133, kw_134, ⟨by decide +kernel, by decide +kernel, by decide +kernel⟩, Nat.le_of_ble_eq_true rfl, Nat.le_of_ble_eq_true rfl, by decide +kernel, rfl, fun h => absurd h (by decide)⟩, Nat.le_of_ble_eq_true rfl, kw_135, kw_136, rfl, Nat.le_of_ble_eq_true rfl⟩, fun h => absurd h (by decide)⟩, ⟨rfl, Or.inl ⟨rfl, rfl⟩⟩, rfl, ⟨rfl, Nat.le_of_ble_eq_true rfl, Nat.le_of_ble_eq_true rfl, kw_259⟩, rfl, ⟨rfl, fun _ => ⟨⟨kw_264, kw_27, kw_265, ⟨by decide +kernel, by decide +kernel, by decide +kernel⟩, Nat.le_of_ble_eq_true rfl, Nat.le_of_ble_eq_true rfl, by decide +kernel, rfl, fun h => absurd h (by decide)⟩, Nat.le_of_ble_eq_true rfl, kw_266, kw_267, rfl, Nat.le_of_ble_eq_true rfl⟩, fun h => absurd h (by decide)⟩, rfl, rfl, rfl, ⟨rfl, fun _ => ⟨⟨kw_200, kw_133, kw_201, ⟨by decide +kernel, by decide +kernel, by decide +kernel⟩, Nat.le_of_ble_eq_true rfl, Nat.le_of_ble_eq_true rfl, by decide +kernel, rfl, fun h => absurd h (by decide)⟩, Nat.le_of_ble_eq_true rfl, kw_202, kw_203, rfl, Nat.le_of_ble_eq_true rfl⟩, fun h => absurd h (by decide)⟩, rfl, rfl, rfl, rfl, rfl, ⟨rfl, fun _ => ⟨⟨kw_132, kw_133, kw_134, ⟨by decide +kernel, by decide +kernel, by decide +kernel⟩, Nat.le_of_ble_eq_true rfl, Nat.le_of_ble_eq_true rfl, by decide +kernel, rfl, fun h => absurd h (by decide)⟩, Nat.le_of_ble_eq_true rfl, kw_135, kw_136, rfl, Nat.le_of_ble_eq_true rfl⟩, fun h => absurd h (by decide)⟩, ⟨rfl, Or.inl ⟨rfl, rfl⟩⟩, rfl, rfl, rfl, rfl, ⟨rfl, Nat.le_of_ble_eq_true rfl, Nat.le_of_ble_eq_true rfl, kw_213⟩, rfl, rfl, rfl, ⟨rfl, fun _ => ⟨⟨kw_132, kw_133, kw_134, ⟨by decide +kernel, by decide +kernel, by decide +kernel⟩, Nat.le_of_ble_eq_true rfl, Nat.le_of_ble_eq_true rfl, by decide +kernel, rfl, fun h => absurd h (by decide)⟩, Nat.le_of_ble_eq_true rfl, kw_135, kw_136, rfl, Nat.le_of_ble_eq_true rfl⟩, fun h => absurd h (by decide)⟩, ⟨rfl, Or.inl ⟨rfl, rfl⟩⟩, rfl, ⟨rfl, Nat.le_of_ble_eq_true rfl, Nat.le_of_ble_eq_true rfl, kw_259⟩, rfl, rfl, ⟨rfl, fun _ => ⟨⟨kw_317, kw_27, kw_318, ⟨by decide +kernel, by decide +kernel, by decide +kernel⟩, Nat.le_of_ble_eq_true rfl, Nat.le_of_ble_eq_true rfl, by decide +kernel, rfl, fun h => absurd h (by decide)⟩, Nat.le_of_ble_eq_true rfl, kw_319, kw_320, rfl, Nat.le_of_ble_eq_true rfl⟩, fun h => absurd h (by decide)⟩, rfl, ⟨rfl, Or.inl ⟨rfl, rfl⟩⟩, trivial⟩
set_option maxRecDepth 100000 in
theorem dk_X5_fall : dck (yBy 60) 0 mc_X5_fall = true := by decide +kernel
set_option maxRecDepth 100000 in
theorem ok_X5_fall : okl 60 0 mc_X5_fall := ⟨rfl, rfl, ⟨rfl, fun _ => ⟨⟨kw_142, kw_133, kw_143, ⟨by decide +kernel, by decide +kernel, by decide +kernel⟩, Nat.le_of_ble_eq_true rfl, Nat.le_of_ble_eq_true rfl, by decide +kernel, rfl, fun h => absurd h (by decide)⟩, Nat.le_of_ble_eq_true rfl, kw_144, kw_145, rfl, Nat.le_of_ble_eq_true rfl⟩, fun h => absurd h (by decide)⟩, rfl, rfl, rfl, rfl, rfl, ⟨rfl, fun _ => ⟨⟨kw_132, kw_133, kw_134, ⟨by decide +kernel, by decide +kernel, by decide +kernel⟩, Nat.le_of_ble_eq_true rfl, Nat.le_of_ble_eq_true rfl, by decide +kernel, rfl, fun h => absurd h (by decide)⟩, Nat.le_of_ble_eq_true rfl, kw_135, kw_136, rfl, Nat.le_of_ble_eq_true rfl⟩, fun h => absurd h (by decide)⟩, ⟨rfl, Or.inl ⟨rfl, rfl⟩⟩, rfl, ⟨rfl, Nat.le_of_ble_eq_true rfl, Nat.le_of_ble_eq_true rfl, kw_321⟩, rfl, rfl, rfl, ⟨rfl, fun _ => ⟨⟨kw_132, kw_133, kw_134, ⟨by decide +kernel, by decide +kernel, by decide +kernel⟩, Nat.le_of_ble_eq_true rfl, Nat.le_of_ble_eq_true rfl, by decide +kernel, rfl, fun h => absurd h (by decide)⟩, Nat.le_of_ble_eq_true rfl, kw_135, kw_136, rfl, Nat.le_of_ble_eq_true rfl⟩, fun h => absurd h (by decide)⟩, ⟨rfl, Or.inl ⟨rfl, rfl⟩⟩, rfl, ⟨rfl, Nat.le_of_ble_eq_true rfl, Nat.le_of_ble_eq_true rfl, kw_305⟩, rfl, rfl, rfl, rfl, rfl, ⟨rfl, Nat.le_of_ble_eq_true rfl, Nat.le_of_ble_eq_true rfl, kw_242⟩, ⟨rfl, Nat.le_of_ble_eq_true rfl, Nat.le_of_ble_eq_true rfl, kw_322⟩, rfl, rfl, rfl, rfl, ⟨rfl, Nat.le_of_ble_eq_true rfl, Nat.le_of_ble_eq_true rfl, kw_242⟩, rfl, ⟨rfl, fun _ => ⟨⟨kw_323, kw_20, kw_70, ⟨by decide +kernel, by decide +kernel, by decide +kernel⟩, Nat.le_of_ble_eq_true rfl, Nat.le_of_ble_eq_true rfl, by decide +kernel, rfl, fun h => absurd h (by decide)⟩, Nat.le_of_ble_eq_true rfl, kw_71, kw_72, rfl, Nat.le_of_ble_eq_true rfl⟩, fun h => absurd h (by decide)⟩, ⟨rfl, fun _ => ⟨⟨kw_297, kw_133, kw_298, ⟨by decide +kernel, by decide +kernel, by decide +kernel⟩, Nat.le_of_ble_eq_true rfl, Nat.le_of_ble_eq_true rfl, by decide +kernel, rfl, fun h => absurd h (by decide)⟩, Nat.le_of_ble_eq_true rfl, kw_299, kw_300, rfl, Nat.le_of_ble_eq_true rfl⟩, fun h => absurd h (by decide)⟩, rfl, rfl, rfl, rfl, rfl, ⟨rfl, Nat.le_of_ble_eq_true rfl, Nat.le_of_ble_eq_true rfl, kw_324⟩, ⟨rfl, fun _ => ⟨⟨kw_278, kw_133, kw_279, ⟨by decide +kernel, by decide +kernel, by decide +kernel⟩, Nat.le_of_ble_eq_true rfl, Nat.le_of_ble_eq_true rfl, by decide +kernel, rfl, fun h => absurd h (by decide)⟩, Nat.le_of_ble_eq_true rfl, kw_280, kw_281, rfl, Nat.le_of_ble_eq_true rfl⟩, fun h => absurd h (by decide)⟩, rfl, ⟨rfl, fun _ => ⟨⟨kw_325, kw_45, kw_326, ⟨by decide +kernel, by decide +kernel, by decide +kernel⟩, Nat.le_of_ble_eq_true rfl, Nat.le_of_ble_eq_true rfl, by decide +kernel, rfl, fun h => absurd h (by decide)⟩, Nat.le_of_ble_eq_true rfl, kw_327, kw_328, rfl, Nat.le_of_ble_eq_true rfl⟩, fun h => absurd h (by decide)⟩, rfl, ⟨rfl, Nat.le_of_ble_eq_true rfl, Nat.le_of_ble_eq_true rfl, kw_305⟩, rfl, rfl, ⟨rfl, Or.inl ⟨rfl, rfl⟩⟩, trivial⟩
set_option maxRecDepth 100000 in
theorem dk_X5_rise : dck (yBy 61) 0 mc_X5_rise = true := by decide +kernel
set_option maxRecDepth 100000 in
theorem ok_X5_rise : okl 61 0 mc_X5_rise := ⟨rfl, rfl, ⟨rfl, fun _ => ⟨⟨kw_142, kw_133, kw_143, ⟨by decide +kernel, by decide +kernel, by decide +kernel⟩, Nat.le_of_ble_eq_true rfl, Nat.le_of_ble_eq_true rfl, by decide +kernel, rfl, fun h => absurd h (by decide)⟩, Nat.le_of_ble_eq_true rfl, kw_144, kw_145, rfl, Nat.le_of_ble_eq_true rfl⟩, fun h => absurd h (by decide)⟩, rfl, rfl, rfl, rfl, rfl, ⟨rfl, fun _ => ⟨⟨kw_132, kw_133, kw_134, ⟨by decide +kernel, by decide +kernel, by decide +kernel⟩, Nat.le_of_ble_eq_true rfl, Nat.le_of_ble_eq_true rfl, by decide +kernel, rfl, fun h => absurd h (by decide)⟩, Nat.le_of_ble_eq_true rfl, kw_135, kw_136, rfl, Nat.le_of_ble_eq_true rfl⟩, fun h => absurd h (by decide)⟩, ⟨rfl, Or.inl ⟨rfl, rfl⟩⟩, rfl, ⟨rfl, Nat.le_of_ble_eq_true rfl, Nat.le_of_ble_eq_true rfl, kw_321⟩, rfl, rfl, rfl, ⟨rfl, fun _ => ⟨⟨kw_132, kw_133, kw_134, ⟨by decide +kernel, by decide +kernel, by decide +kernel⟩, Nat.le_of_ble_eq_true rfl, Nat.le_of_ble_eq_true rfl, by decide +kernel, rfl, fun h => absurd h (by decide)⟩, Nat.le_of_ble_eq_true rfl, kw_135, kw_136, rfl, Nat.le_of_ble_eq_true rfl⟩, fun h => absurd h (by decide)⟩, ⟨rfl, Or.inl ⟨rfl, rfl⟩⟩, rfl, rfl, ⟨rfl, Nat.le_of_ble_eq_true rfl, Nat.le_of_ble_eq_true rfl, kw_321, Or.inl rfl⟩, rfl, ⟨rfl, Or.inl ⟨rfl, rfl⟩⟩, trivial⟩
set_option maxRecDepth 100000 in
theorem dk_X5_line : dck (yBy 62) 0 mc_X5_line = true := by decide +kernel
set_option maxRecDepth 100000 in
theorem ok_X5_line : okl 62 0 mc_X5_line := ⟨rfl, rfl, ⟨rfl, fun _ => ⟨⟨kw_142, kw_133, kw_143, ⟨by decide +kernel, by decide +kernel, by decide +kernel⟩, Nat.le_of_ble_eq_true rfl, Nat.le_of_ble_eq_true rfl, by decide +kernel, rfl, fun h => absurd h (by decide)⟩, Nat.le_of_ble_eq_true rfl, kw_144, kw_145, rfl, Nat.le_of_ble_eq_true rfl⟩, fun h => absurd h (by decide)⟩, rfl, rfl, rfl, rfl, ⟨rfl, Or.inl ⟨rfl, rfl⟩⟩, rfl, ⟨by decide, by decide⟩, rfl, ⟨rfl, Nat.le_of_ble_eq_true rfl, Nat.le_of_ble_eq_true rfl, kw_146⟩, ⟨rfl, Or.inl ⟨rfl, rfl⟩⟩, rfl, ⟨rfl, Nat.le_of_ble_eq_true rfl, Nat.le_of_ble_eq_true rfl, kw_329⟩, ⟨rfl, Or.inl ⟨rfl, rfl⟩⟩, rfl, ⟨rfl, Nat.le_of_ble_eq_true rfl, Nat.le_of_ble_eq_true rfl, kw_330⟩, ⟨rfl, Or.inl ⟨rfl, rfl⟩⟩, rfl, ⟨rfl, Nat.le_of_ble_eq_true rfl, Nat.le_of_ble_eq_true rfl, kw_321⟩, rfl, rfl, rfl, rfl, ⟨rfl, Or.inl ⟨rfl, rfl⟩⟩, rfl, ⟨rfl, Nat.le_of_ble_eq_true rfl, Nat.le_of_ble_eq_true rfl, kw_242⟩, ⟨rfl, Nat.le_of_ble_eq_true rfl, Nat.le_of_ble_eq_true rfl, kw_322⟩, ⟨rfl, Or.inl ⟨rfl, rfl⟩⟩, rfl, ⟨rfl, Nat.le_of_ble_eq_true rfl, Nat.le_of_ble_eq_true rfl, kw_242⟩, ⟨rfl, Nat.le_of_ble_eq_true rfl, Nat.le_of_ble_eq_true rfl, kw_331⟩, ⟨rfl, Or.inl ⟨rfl, rfl⟩⟩, rfl, ⟨rfl, Nat.le_of_ble_eq_true rfl, Nat.le_of_ble_eq_true rfl, kw_259⟩, ⟨rfl, Nat.le_of_ble_eq_true rfl, Nat.le_of_ble_eq_true rfl, kw_332⟩, ⟨rfl, Or.inl ⟨rfl, rfl⟩⟩, rfl, ⟨rfl, Nat.le_of_ble_eq_true rfl, Nat.le_of_ble_eq_true rfl, kw_324⟩, ⟨rfl, Or.inl ⟨rfl, rfl⟩⟩, rfl, ⟨rfl, Nat.le_of_ble_eq_true rfl, Nat.le_of_ble_eq_true rfl, kw_282⟩, ⟨rfl, Or.inl ⟨rfl, rfl⟩⟩, rfl, ⟨rfl, Nat.le_of_ble_eq_true rfl, Nat.le_of_ble_eq_true rfl, kw_235⟩, ⟨rfl, Or.inl ⟨rfl, rfl⟩⟩, rfl, ⟨rfl, Nat.le_of_ble_eq_true rfl, Nat.le_of_ble_eq_true rfl, kw_305⟩, ⟨rfl, Or.inl ⟨rfl, rfl⟩⟩, rfl, ⟨rfl, Nat.le_of_ble_eq_true rfl, Nat.le_of_ble_eq_true rfl, kw_312⟩, ⟨rfl, Or.inl ⟨rfl, rfl⟩⟩, rfl, ⟨rfl, Nat.le_of_ble_eq_true rfl, Nat.le_of_ble_eq_true rfl, kw_277⟩, ⟨rfl, Or.inl ⟨rfl, rfl⟩⟩, rfl, ⟨rfl, Nat.le_of_ble_eq_true rfl, Nat.le_of_ble_eq_true rfl, kw_147⟩, ⟨rfl, Or.inl ⟨rfl, rfl⟩⟩, rfl, ⟨rfl, Nat.le_of_ble_eq_true rfl, Nat.le_of_ble_eq_true rfl, kw_148⟩, ⟨rfl, Or.inl ⟨rfl, rfl⟩⟩, rfl, ⟨rfl, Or.inl ⟨rfl, rfl⟩⟩, trivial⟩
set_option maxRecDepth 100000 in
theorem dk_X5_piece : dck (yBy 63) 0 mc_X5_piece = true := by decide +kernel
set_option maxRecDepth 100000 in
theorem ok_X5_piece : okl 63 0 mc_X5_piece := ⟨rfl, rfl, ⟨rfl, fun _ => ⟨⟨kw_200, kw_133, kw_201, ⟨by decide +kernel, by decide +kernel, by decide +kernel⟩, Nat.le_of_ble_eq_true rfl, Nat.le_of_ble_eq_true rfl, by decide +kernel, rfl, fun h => absurd h (by decide)⟩, Nat.le_of_ble_eq_true rfl, kw_202, kw_203, rfl, Nat.le_of_ble_eq_true rfl⟩, fun h => absurd h (by decide)⟩, rfl, rfl, rfl, rfl, ⟨rfl, Or.inl ⟨rfl, rfl⟩⟩, rfl, ⟨by decide, by decide⟩, rfl, ⟨rfl, Nat.le_of_ble_eq_true rfl, Nat.le_of_ble_eq_true rfl, kw_204⟩, ⟨rfl, Or.inl ⟨rfl, rfl⟩⟩, rfl, ⟨rfl, Nat.le_of_ble_eq_true rfl, Nat.le_of_ble_eq_true rfl, kw_287⟩, ⟨rfl, Or.inl ⟨rfl, rfl⟩⟩, rfl, ⟨rfl, Nat.le_of_ble_eq_true rfl, Nat.le_of_ble_eq_true rfl, kw_213⟩, ⟨rfl, Or.inl ⟨rfl, rfl⟩⟩, rfl, ⟨rfl, Nat.le_of_ble_eq_true rfl, Nat.le_of_ble_eq_true rfl, kw_240⟩, ⟨rfl, Or.inl ⟨rfl, rfl⟩⟩, rfl, ⟨rfl, Nat.le_of_ble_eq_true rfl, Nat.le_of_ble_eq_true rfl, kw_241⟩, ⟨rfl, Or.inl ⟨rfl, rfl⟩⟩, rfl, ⟨rfl, Nat.le_of_ble_eq_true rfl, Nat.le_of_ble_eq_true rfl, kw_333⟩, rfl, rfl, rfl, rfl, ⟨rfl, Or.inl ⟨rfl, rfl⟩⟩, rfl, ⟨rfl, Nat.le_of_ble_eq_true rfl, Nat.le_of_ble_eq_true rfl, kw_334⟩, ⟨rfl, Or.inl ⟨rfl, rfl⟩⟩, rfl, ⟨rfl, Or.inl ⟨rfl, rfl⟩⟩, trivial⟩
set_option maxRecDepth 100000 in
theorem dk_X5_lostOn : dck (yBy 64) 0 mc_X5_lostOn = true := by decide +kernel
set_option maxRecDepth 100000 in
theorem ok_X5_lostOn : okl 64 0 mc_X5_lostOn := ⟨rfl, rfl, ⟨rfl, fun _ => ⟨⟨kw_200, kw_133, kw_201, ⟨by decide +kernel, by decide +kernel, by decide +kernel⟩, Nat.le_of_ble_eq_true rfl, Nat.le_of_ble_eq_true rfl, by decide +kernel, rfl, fun h => absurd h (by decide)⟩, Nat.le_of_ble_eq_true rfl, kw_202, kw_203, rfl, Nat.le_of_ble_eq_true rfl⟩, fun h => absurd h (by decide)⟩, rfl, rfl, rfl, rfl, rfl, ⟨rfl, fun _ => ⟨⟨kw_142, kw_133, kw_143, ⟨by decide +kernel, by decide +kernel, by decide +kernel⟩, Nat.le_of_ble_eq_true rfl, Nat.le_of_ble_eq_true rfl, by decide +kernel, rfl, fun h => absurd h (by decide)⟩, Nat.le_of_ble_eq_true rfl, kw_144, kw_145, rfl, Nat.le_of_ble_eq_true rfl⟩, fun h => absurd h (by decide)⟩, rfl, rfl, ⟨rfl, Or.inl ⟨rfl, rfl⟩⟩, rfl, rfl, ⟨rfl, fun _ => ⟨⟨kw_227, kw_169, kw_228, ⟨by decide +kernel, by decide +kernel, by decide +kernel⟩, Nat.le_of_ble_eq_true rfl, Nat.le_of_ble_eq_true rfl, by decide +kernel, rfl, fun h => absurd h (by decide)⟩, Nat.le_of_ble_eq_true rfl, kw_229, kw_230, rfl, Nat.le_of_ble_eq_true rfl⟩, fun h => absurd h (by decide)⟩, ⟨rfl, Or.inl ⟨rfl, rfl⟩⟩, trivial⟩
set_option maxRecDepth 100000 in
theorem dk_X5_queued : dck (yBy 65) 0 mc_X5_queued = true := by decide +kernel
set_option maxRecDepth 100000 in
theorem ok_X5_queued : okl 65 0 mc_X5_queued := ⟨rfl, rfl, ⟨rfl, fun _ => ⟨⟨kw_142, kw_133, kw_143, ⟨by decide +kernel, by decide +kernel, by decide +kernel⟩, Nat.le_of_ble_eq_true rfl, Nat.le_of_ble_eq_true rfl, by decide +kernel, rfl, fun h => absurd h (by decide)⟩, Nat.le_of_ble_eq_true rfl, kw_144, kw_145, rfl, Nat.le_of_ble_eq_true rfl⟩, fun h => absurd h (by decide)⟩, rfl, rfl, rfl, rfl, rfl, rfl, rfl, ⟨rfl, Nat.le_of_ble_eq_true rfl, Nat.le_of_ble_eq_true rfl, kw_242⟩, ⟨rfl, Nat.le_of_ble_eq_true rfl, Nat.le_of_ble_eq_true rfl, kw_322⟩, rfl, rfl, ⟨rfl, Or.inl ⟨rfl, rfl⟩⟩, rfl, ⟨rfl, Nat.le_of_ble_eq_true rfl, Nat.le_of_ble_eq_true rfl, kw_242⟩, rfl, ⟨rfl, fun _ => ⟨⟨kw_323, kw_20, kw_70, ⟨by decide +kernel, by decide +kernel, by decide +kernel⟩, Nat.le_of_ble_eq_true rfl, Nat.le_of_ble_eq_true rfl, by decide +kernel, rfl, fun h => absurd h (by decide)⟩, Nat.le_of_ble_eq_true rfl, kw_71, kw_72, rfl, Nat.le_of_ble_eq_true rfl⟩, fun h => absurd h (by decide)⟩, ⟨rfl, Or.inl ⟨rfl, rfl⟩⟩, trivial⟩
set_option maxRecDepth 100000 in
theorem dk_X5_under : dck (yBy 66) 0 mc_X5_under = true := by decide +kernel
set_option maxRecDepth 100000 in
theorem ok_X5_under : okl 66 0 mc_X5_under := ⟨rfl, rfl, ⟨rfl, fun _ => ⟨⟨kw_142, kw_133, kw_143, ⟨by decide +kernel, by decide +kernel, by decide +kernel⟩, Nat.le_of_ble_eq_true rfl, Nat.le_of_ble_eq_true rfl, by decide +kernel, rfl, fun h => absurd h (by decide)⟩, Nat.le_of_ble_eq_true rfl, kw_144, kw_145, rfl, Nat.le_of_ble_eq_true rfl⟩, fun h => absurd h (by decide)⟩, rfl, rfl, rfl, rfl, rfl, rfl, rfl, ⟨rfl, Nat.le_of_ble_eq_true rfl, Nat.le_of_ble_eq_true rfl, kw_259⟩, ⟨rfl, Nat.le_of_ble_eq_true rfl, Nat.le_of_ble_eq_true rfl, kw_332⟩, rfl, rfl, ⟨rfl, Or.inl ⟨rfl, rfl⟩⟩, rfl, ⟨by decide, by decide⟩, rfl, ⟨rfl, Nat.le_of_ble_eq_true rfl, Nat.le_of_ble_eq_true rfl, kw_259⟩, rfl, ⟨rfl, fun _ => ⟨⟨kw_264, kw_27, kw_265, ⟨by decide +kernel, by decide +kernel, by decide +kernel⟩, Nat.le_of_ble_eq_true rfl, Nat.le_of_ble_eq_true rfl, by decide +kernel, rfl, fun h => absurd h (by decide)⟩, Nat.le_of_ble_eq_true rfl, kw_266, kw_267, rfl, Nat.le_of_ble_eq_true rfl⟩, fun h => absurd h (by decide)⟩, ⟨rfl, Or.inl ⟨rfl, rfl⟩⟩, rfl, ⟨rfl, Nat.le_of_ble_eq_true rfl, Nat.le_of_ble_eq_true rfl, kw_259⟩, rfl, ⟨rfl, fun _ => ⟨⟨kw_268, kw_27, kw_269, ⟨by decide +kernel, by decide +kernel, by decide +kernel⟩, Nat.le_of_ble_eq_true rfl, Nat.le_of_ble_eq_true rfl, by decide +kernel, rfl, fun h => absurd h (by decide)⟩, Nat.le_of_ble_eq_true rfl, kw_270, kw_271, rfl, Nat.le_of_ble_eq_true rfl⟩, fun h => absurd h (by decide)⟩, ⟨rfl, Or.inl ⟨rfl, rfl⟩⟩, rfl, ⟨rfl, Nat.le_of_ble_eq_true rfl, Nat.le_of_ble_eq_true rfl, kw_259⟩, rfl, ⟨rfl, fun _ => ⟨⟨kw_335, kw_27, kw_112, ⟨by decide +kernel, by decide +kernel, by decide +kernel⟩, Nat.le_of_ble_eq_true rfl, Nat.le_of_ble_eq_true rfl, by decide +kernel, rfl, fun h => absurd h (by decide)⟩, Nat.le_of_ble_eq_true rfl, kw_113, kw_114, rfl, Nat.le_of_ble_eq_true rfl⟩, fun h => absurd h (by decide)⟩, ⟨rfl, Or.inl ⟨rfl, rfl⟩⟩, rfl, ⟨rfl, Nat.le_of_ble_eq_true rfl, Nat.le_of_ble_eq_true rfl, kw_259⟩, rfl, ⟨rfl, fun _ => ⟨⟨kw_272, kw_27, kw_116, ⟨by decide +kernel, by decide +kernel, by decide +kernel⟩, Nat.le_of_ble_eq_true rfl, Nat.le_of_ble_eq_true rfl, by decide +kernel, rfl, fun h => absurd h (by decide)⟩, Nat.le_of_ble_eq_true rfl, kw_117, kw_118, rfl, Nat.le_of_ble_eq_true rfl⟩, fun h => absurd h (by decide)⟩, ⟨rfl, Or.inl ⟨rfl, rfl⟩⟩, rfl, ⟨rfl, Or.inl ⟨rfl, rfl⟩⟩, trivial⟩
set_option maxRecDepth 100000 in
theorem dk_X5_waits : dck (yBy 67) 0 mc_X5_waits = true := by decide +kernel
set_option maxRecDepth 100000 in
theorem ok_X5_waits : okl 67 0 mc_X5_waits := ⟨rfl, rfl, rfl, rfl, ⟨rfl, Nat.le_of_ble_eq_true rfl, Nat.le_of_ble_eq_true rfl, kw_126⟩, rfl, ⟨rfl, Or.inl rfl⟩, rfl, ⟨rfl, Nat.le_of_ble_eq_true rfl, Nat.le_of_ble_eq_true rfl, kw_126⟩, rfl, ⟨rfl, Or.inl rfl⟩, rfl, rfl, rfl, ⟨rfl, Or.inl ⟨rfl, rfl⟩⟩, rfl, rfl, ⟨rfl, Nat.le_of_ble_eq_true rfl, Nat.le_of_ble_eq_true rfl, kw_126⟩, rfl, ⟨rfl, Or.inl rfl⟩, rfl, rfl, ⟨rfl, Nat.le_of_ble_eq_true rfl, Nat.le_of_ble_eq_true rfl, kw_199⟩, rfl, rfl, rfl, ⟨rfl, Nat.le_of_ble_eq_true rfl, Nat.le_of_ble_eq_true rfl, kw_126⟩, rfl, ⟨rfl, Or.inl rfl⟩, rfl, ⟨rfl, Or.inl ⟨rfl, rfl⟩⟩, rfl, rfl, ⟨rfl, fun _ => ⟨⟨kw_336, kw_133, kw_337, ⟨by decide +kernel, by decide +kernel, by decide +kernel⟩, Nat.le_of_ble_eq_true rfl, Nat.le_of_ble_eq_true rfl, by decide +kernel, rfl, fun h => absurd h (by decide)⟩, Nat.le_of_ble_eq_true rfl, kw_338, kw_339, rfl, Nat.le_of_ble_eq_true rfl⟩, fun h => absurd h (by decide)⟩, ⟨rfl, Or.inl ⟨rfl, rfl⟩⟩, trivial⟩
set_option maxRecDepth 100000 in
theorem dk_X5_lostPieceAt : dck (yBy 68) 0 mc_X5_lostPieceAt = true := by decide +kernel
set_option maxRecDepth 100000 in
theorem ok_X5_lostPieceAt : okl 68 0 mc_X5_lostPieceAt := ⟨rfl, rfl, rfl, ⟨rfl, Nat.le_of_ble_eq_true rfl, Nat.le_of_ble_eq_true rfl, kw_198⟩, rfl, rfl, rfl, ⟨rfl, Nat.le_of_ble_eq_true rfl, Nat.le_of_ble_eq_true rfl, kw_199⟩, rfl, rfl, rfl, ⟨rfl, fun _ => ⟨⟨kw_200, kw_133, kw_201, ⟨by decide +kernel, by decide +kernel, by decide +kernel⟩, Nat.le_of_ble_eq_true rfl, Nat.le_of_ble_eq_true rfl, by decide +kernel, rfl, fun h => absurd h (by decide)⟩, Nat.le_of_ble_eq_true rfl, kw_202, kw_203, rfl, Nat.le_of_ble_eq_true rfl⟩, fun h => absurd h (by decide)⟩, rfl, rfl, rfl, rfl, ⟨rfl, Nat.le_of_ble_eq_true rfl, Nat.le_of_ble_eq_true rfl, kw_204⟩, rfl, rfl, rfl, rfl, rfl, rfl, ⟨rfl, Or.inl ⟨rfl, rfl⟩⟩, rfl, rfl, rfl, rfl, ⟨rfl, Or.inl ⟨rfl, rfl⟩⟩, trivial⟩
set_option maxRecDepth 100000 in
theorem dk_X5_got : dck (yBy 69) 0 mc_X5_got = true := by decide +kernel
set_option maxRecDepth 100000 in
theorem ok_X5_got : okl 69 0 mc_X5_got := ⟨rfl, rfl, ⟨rfl, fun _ => ⟨⟨kw_288, kw_133, kw_289, ⟨by decide +kernel, by decide +kernel, by decide +kernel⟩, Nat.le_of_ble_eq_true rfl, Nat.le_of_ble_eq_true rfl, by decide +kernel, rfl, fun h => absurd h (by decide)⟩, Nat.le_of_ble_eq_true rfl, kw_290, kw_291, rfl, Nat.le_of_ble_eq_true rfl⟩, fun h => absurd h (by decide)⟩, rfl, rfl, rfl, rfl, rfl, ⟨rfl, fun _ => ⟨⟨kw_132, kw_133, kw_134, ⟨by decide +kernel, by decide +kernel, by decide +kernel⟩, Nat.le_of_ble_eq_true rfl, Nat.le_of_ble_eq_true rfl, by decide +kernel, rfl, fun h => absurd h (by decide)⟩, Nat.le_of_ble_eq_true rfl, kw_135, kw_136, rfl, Nat.le_of_ble_eq_true rfl⟩, fun h => absurd h (by decide)⟩, ⟨rfl, Or.inl ⟨rfl, rfl⟩⟩, rfl, rfl, ⟨rfl, Nat.le_of_ble_eq_true rfl, Nat.le_of_ble_eq_true rfl, kw_152⟩, rfl, rfl, rfl, ⟨rfl, Nat.le_of_ble_eq_true rfl, Nat.le_of_ble_eq_true rfl, kw_152⟩, rfl, rfl, rfl, rfl, rfl, ⟨rfl, fun _ => ⟨⟨kw_132, kw_133, kw_134, ⟨by decide +kernel, by decide +kernel, by decide +kernel⟩, Nat.le_of_ble_eq_true rfl, Nat.le_of_ble_eq_true rfl, by decide +kernel, rfl, fun h => absurd h (by decide)⟩, Nat.le_of_ble_eq_true rfl, kw_135, kw_136, rfl, Nat.le_of_ble_eq_true rfl⟩, fun h => absurd h (by decide)⟩, ⟨rfl, Or.inl ⟨rfl, rfl⟩⟩, rfl, rfl, rfl, rfl, ⟨rfl, Nat.le_of_ble_eq_true rfl, Nat.le_of_ble_eq_true rfl, kw_166⟩, ⟨rfl, Or.inl ⟨rfl, rfl⟩⟩, rfl, rfl, rfl, rfl, ⟨rfl, Nat.le_of_ble_eq_true rfl, Nat.le_of_ble_eq_true rfl, kw_166⟩, rfl, rfl, rfl, ⟨rfl, fun _ => ⟨⟨kw_132, kw_133, kw_134, ⟨by decide +kernel, by decide +kernel, by decide +kernel⟩, Nat.le_of_ble_eq_true rfl, Nat.le_of_ble_eq_true rfl, by decide +kernel, rfl, fun h => absurd h (by decide)⟩, Nat.le_of_ble_eq_true rfl, kw_135, kw_136, rfl, Nat.le_of_ble_eq_true rfl⟩, fun h => absurd h (by decide)⟩, ⟨rfl, Or.inl ⟨rfl, rfl⟩⟩, rfl, rfl, ⟨rfl, fun _ => ⟨⟨kw_340, kw_9, kw_10, ⟨by decide +kernel, by decide +kernel, by decide +kernel⟩, Nat.le_of_ble_eq_true rfl, Nat.le_of_ble_eq_true rfl, by decide +kernel, rfl, fun h => absurd h (by decide)⟩, Nat.le_of_ble_eq_true rfl, kw_11, kw_12, rfl, Nat.le_of_ble_eq_true rfl⟩, fun h => absurd h (by decide)⟩, ⟨rfl, Or.inl ⟨rfl, rfl⟩⟩, trivial⟩
set_option maxRecDepth 100000 in
theorem dk_X5_frameOf : dck (yBy 70) 0 mc_X5_frameOf = true := by decide +kernel
set_option maxRecDepth 100000 in
theorem ok_X5_frameOf : okl 70 0 mc_X5_frameOf := ⟨rfl, rfl, ⟨rfl, fun _ => ⟨⟨kw_288, kw_133, kw_289, ⟨by decide +kernel, by decide +kernel, by decide +kernel⟩, Nat.le_of_ble_eq_true rfl, Nat.le_of_ble_eq_true rfl, by decide +kernel, rfl, fun h => absurd h (by decide)⟩, Nat.le_of_ble_eq_true rfl, kw_290, kw_291, rfl, Nat.le_of_ble_eq_true rfl⟩, fun h => absurd h (by decide)⟩, rfl, rfl, rfl, rfl, ⟨rfl, Or.inl ⟨rfl, rfl⟩⟩, rfl, ⟨by decide, by decide⟩, rfl, ⟨rfl, Nat.le_of_ble_eq_true rfl, Nat.le_of_ble_eq_true rfl, kw_166⟩, ⟨rfl, Or.inl ⟨rfl, rfl⟩⟩, rfl, ⟨rfl, Nat.le_of_ble_eq_true rfl, Nat.le_of_ble_eq_true rfl, kw_341⟩, ⟨rfl, Or.inl ⟨rfl, rfl⟩⟩, rfl, ⟨rfl, Nat.le_of_ble_eq_true rfl, Nat.le_of_ble_eq_true rfl, kw_165⟩, ⟨rfl, Or.inl ⟨rfl, rfl⟩⟩, rfl, ⟨rfl, Nat.le_of_ble_eq_true rfl, Nat.le_of_ble_eq_true rfl, kw_292⟩, ⟨rfl, Or.inl ⟨rfl, rfl⟩⟩, rfl, ⟨rfl, Nat.le_of_ble_eq_true rfl, Nat.le_of_ble_eq_true rfl, kw_306⟩, ⟨rfl, Or.inl ⟨rfl, rfl⟩⟩, rfl, ⟨rfl, Or.inl ⟨rfl, rfl⟩⟩, trivial⟩
set_option maxRecDepth 100000 in
theorem dk_X5_credit : dck (yBy 71) 0 mc_X5_credit = true := by decide +kernel
set_option maxRecDepth 100000 in
theorem ok_X5_credit : okl 71 0 mc_X5_credit := ⟨rfl, ⟨rfl, fun _ => ⟨⟨kw_214, kw_133, kw_215, ⟨by decide +kernel, by decide +kernel, by decide +kernel⟩, Nat.le_of_ble_eq_true rfl, Nat.le_of_ble_eq_true rfl, by decide +kernel, rfl, fun h => absurd h (by decide)⟩, Nat.le_of_ble_eq_true rfl, kw_216, kw_217, rfl, Nat.le_of_ble_eq_true rfl⟩, fun h => absurd h (by decide)⟩, ⟨rfl, Or.inl ⟨rfl, rfl⟩⟩, trivial⟩
set_option maxRecDepth 100000 in
theorem dk_X5_skew : dck (yBy 72) 0 mc_X5_skew = true := by decide +kernel
set_option maxRecDepth 100000 in
theorem ok_X5_skew : okl 72 0 mc_X5_skew := ⟨rfl, rfl, rfl, rfl, rfl, ⟨rfl, Nat.le_of_ble_eq_true rfl, Nat.le_of_ble_eq_true rfl, kw_198⟩, rfl, rfl, rfl, ⟨rfl, Nat.le_of_ble_eq_true rfl, Nat.le_of_ble_eq_true rfl, kw_151⟩, rfl, rfl, rfl, ⟨rfl, fun _ => ⟨⟨kw_200, kw_133, kw_201, ⟨by decide +kernel, by decide +kernel, by decide +kernel⟩, Nat.le_of_ble_eq_true rfl, Nat.le_of_ble_eq_true rfl, by decide +kernel, rfl, fun h => absurd h (by decide)⟩, Nat.le_of_ble_eq_true rfl, kw_202, kw_203, rfl, Nat.le_of_ble_eq_true rfl⟩, fun h => absurd h (by decide)⟩, rfl, rfl, rfl, rfl, ⟨rfl, Nat.le_of_ble_eq_true rfl, Nat.le_of_ble_eq_true rfl, kw_204⟩, rfl, rfl, rfl, rfl, rfl, rfl, rfl, rfl, rfl, rfl, rfl, rfl, rfl, rfl, rfl, rfl, rfl, rfl, rfl, rfl, ⟨rfl, Or.inl ⟨rfl, rfl⟩⟩, trivial⟩
set_option maxRecDepth 100000 in
theorem dk_X5_witness : dck (yBy 73) 0 mc_X5_witness = true := by decide +kernel
set_option maxRecDepth 100000 in
theorem ok_X5_witness : okl 73 0 mc_X5_witness := ⟨rfl, rfl, ⟨rfl, fun _ => ⟨⟨kw_288, kw_133, kw_289, ⟨by decide +kernel, by decide +kernel, by decide +kernel⟩, Nat.le_of_ble_eq_true rfl, Nat.le_of_ble_eq_true rfl, by decide +kernel, rfl, fun h => absurd h (by decide)⟩, Nat.le_of_ble_eq_true rfl, kw_290, kw_291, rfl, Nat.le_of_ble_eq_true rfl⟩, fun h => absurd h (by decide)⟩, rfl, rfl, rfl, rfl, rfl, ⟨rfl, Nat.le_of_ble_eq_true rfl, Nat.le_of_ble_eq_true rfl, kw_152⟩, rfl, rfl, rfl, rfl, rfl, ⟨rfl, Nat.le_of_ble_eq_true rfl, Nat.le_of_ble_eq_true rfl, kw_165⟩, rfl, rfl, ⟨rfl, Or.inl ⟨rfl, rfl⟩⟩, rfl, rfl, ⟨rfl, Nat.le_of_ble_eq_true rfl, Nat.le_of_ble_eq_true rfl, kw_341⟩, rfl, rfl, ⟨rfl, fun _ => ⟨⟨kw_342, kw_133, kw_343, ⟨by decide +kernel, by decide +kernel, by decide +kernel⟩, Nat.le_of_ble_eq_true rfl, Nat.le_of_ble_eq_true rfl, by decide +kernel, rfl, fun h => absurd h (by decide)⟩, Nat.le_of_ble_eq_true rfl, kw_344, kw_345, rfl, Nat.le_of_ble_eq_true rfl⟩, fun h => absurd h (by decide)⟩, ⟨rfl, Or.inl ⟨rfl, rfl⟩⟩, trivial⟩
set_option maxRecDepth 100000 in
theorem dk_X5_check : dck (yBy 74) 0 mc_X5_check = true := by decide +kernel
set_option maxRecDepth 100000 in
theorem ok_X5_check : okl 74 0 mc_X5_check := ⟨rfl, rfl, ⟨rfl, fun _ => ⟨⟨kw_288, kw_133, kw_289, ⟨by decide +kernel, by decide +kernel, by decide +kernel⟩, Nat.le_of_ble_eq_true rfl, Nat.le_of_ble_eq_true rfl, by decide +kernel, rfl, fun h => absurd h (by decide)⟩, Nat.le_of_ble_eq_true rfl, kw_290, kw_291, rfl, Nat.le_of_ble_eq_true rfl⟩, fun h => absurd h (by decide)⟩, rfl, rfl, rfl, rfl, rfl, ⟨rfl, Nat.le_of_ble_eq_true rfl, Nat.le_of_ble_eq_true rfl, kw_152⟩, rfl, rfl, ⟨rfl, Or.inr ⟨rfl, rfl⟩⟩, rfl, rfl, rfl, rfl, rfl, rfl, ⟨rfl, Nat.le_of_ble_eq_true rfl, Nat.le_of_ble_eq_true rfl, kw_165⟩, rfl, rfl, rfl, rfl, rfl, rfl, ⟨rfl, Nat.le_of_ble_eq_true rfl, Nat.le_of_ble_eq_true rfl, kw_341⟩, rfl, rfl, ⟨rfl, fun _ => ⟨⟨kw_342, kw_133, kw_343, ⟨by decide +kernel, by decide +kernel, by decide +kernel⟩, Nat.le_of_ble_eq_true rfl, Nat.le_of_ble_eq_true rfl, by decide +kernel, rfl, fun h => absurd h (by decide)⟩, Nat.le_of_ble_eq_true rfl, kw_344, kw_345, rfl, Nat.le_of_ble_eq_true rfl⟩, fun h => absurd h (by decide)⟩, rfl, rfl, rfl, rfl, rfl, rfl, rfl, rfl, rfl, rfl, ⟨rfl, Or.inr ⟨rfl, rfl⟩⟩, trivial⟩
set_option maxRecDepth 100000 in
theorem dk_X5_witnessOf : dck (yBy 75) 0 mc_X5_witnessOf = true := by decide +kernel
set_option maxRecDepth 100000 in
theorem ok_X5_witnessOf : okl 75 0 mc_X5_witnessOf := ⟨rfl, rfl, ⟨rfl, fun _ => ⟨⟨kw_200, kw_133, kw_201, ⟨by decide +kernel, by decide +kernel, by decide +kernel⟩, Nat.le_of_ble_eq_true rfl, Nat.le_of_ble_eq_true rfl, by decide +kernel, rfl, fun h => absurd h (by decide)⟩, Nat.le_of_ble_eq_true rfl, kw_202, kw_203, rfl, Nat.le_of_ble_eq_true rfl⟩, fun h => absurd h (by decide)⟩, rfl, rfl, rfl, rfl, rfl, rfl, rfl, ⟨rfl, Nat.le_of_ble_eq_true rfl, Nat.le_of_ble_eq_true rfl, kw_240⟩, rfl, rfl, ⟨rfl, Nat.le_of_ble_eq_true rfl, Nat.le_of_ble_eq_true rfl, kw_241⟩, rfl, ⟨rfl, Or.inl ⟨rfl, rfl⟩⟩, trivial⟩
set_option maxRecDepth 100000 in
theorem dk_X5_status : dck (yBy 76) 0 mc_X5_status = true := by decide +kernel
set_option maxRecDepth 100000 in
theorem ok_X5_status : okl 76 0 mc_X5_status := ⟨rfl, ⟨by decide, by decide⟩, rfl, ⟨rfl, Nat.le_of_ble_eq_true rfl, Nat.le_of_ble_eq_true rfl, kw_177⟩, ⟨rfl, Or.inl ⟨rfl, rfl⟩⟩, rfl, ⟨rfl, Nat.le_of_ble_eq_true rfl, Nat.le_of_ble_eq_true rfl, kw_137⟩, ⟨rfl, Or.inl ⟨rfl, rfl⟩⟩, rfl, ⟨rfl, Nat.le_of_ble_eq_true rfl, Nat.le_of_ble_eq_true rfl, kw_150⟩, ⟨rfl, Or.inl ⟨rfl, rfl⟩⟩, rfl, ⟨rfl, Nat.le_of_ble_eq_true rfl, Nat.le_of_ble_eq_true rfl, kw_152⟩, ⟨rfl, Or.inl ⟨rfl, rfl⟩⟩, rfl, ⟨rfl, Nat.le_of_ble_eq_true rfl, Nat.le_of_ble_eq_true rfl, kw_151⟩, ⟨rfl, Or.inl ⟨rfl, rfl⟩⟩, rfl, ⟨rfl, Nat.le_of_ble_eq_true rfl, Nat.le_of_ble_eq_true rfl, kw_126⟩, rfl, ⟨rfl, Or.inl rfl⟩, ⟨rfl, Or.inl ⟨rfl, rfl⟩⟩, rfl, ⟨rfl, Nat.le_of_ble_eq_true rfl, Nat.le_of_ble_eq_true rfl, kw_126⟩, rfl, ⟨rfl, Or.inl rfl⟩, ⟨rfl, Or.inl ⟨rfl, rfl⟩⟩, rfl, ⟨rfl, Nat.le_of_ble_eq_true rfl, Nat.le_of_ble_eq_true rfl, kw_126⟩, rfl, ⟨rfl, Or.inl rfl⟩, ⟨rfl, Or.inl ⟨rfl, rfl⟩⟩, rfl, ⟨rfl, Nat.le_of_ble_eq_true rfl, Nat.le_of_ble_eq_true rfl, kw_149⟩, ⟨rfl, Or.inl ⟨rfl, rfl⟩⟩, rfl, ⟨rfl, Nat.le_of_ble_eq_true rfl, Nat.le_of_ble_eq_true rfl, kw_307⟩, ⟨rfl, Or.inl ⟨rfl, rfl⟩⟩, rfl, ⟨rfl, Nat.le_of_ble_eq_true rfl, Nat.le_of_ble_eq_true rfl, kw_129⟩, ⟨rfl, Or.inl ⟨rfl, rfl⟩⟩, rfl, ⟨rfl, Nat.le_of_ble_eq_true rfl, Nat.le_of_ble_eq_true rfl, kw_130⟩, ⟨rfl, Or.inl ⟨rfl, rfl⟩⟩, rfl, ⟨rfl, fun _ => ⟨⟨kw_346, kw_133, kw_347, ⟨by decide +kernel, by decide +kernel, by decide +kernel⟩, Nat.le_of_ble_eq_true rfl, Nat.le_of_ble_eq_true rfl, by decide +kernel, rfl, fun h => absurd h (by decide)⟩, Nat.le_of_ble_eq_true rfl, kw_348, kw_349, rfl, Nat.le_of_ble_eq_true rfl⟩, fun h => absurd h (by decide)⟩, ⟨rfl, Or.inl ⟨rfl, rfl⟩⟩, rfl, rfl, rfl, rfl, ⟨rfl, fun _ => ⟨⟨kw_350, kw_133, kw_351, ⟨by decide +kernel, by decide +kernel, by decide +kernel⟩, Nat.le_of_ble_eq_true rfl, Nat.le_of_ble_eq_true rfl, by decide +kernel, rfl, fun h => absurd h (by decide)⟩, Nat.le_of_ble_eq_true rfl, kw_352, kw_353, rfl, Nat.le_of_ble_eq_true rfl⟩, fun h => absurd h (by decide)⟩, ⟨rfl, Or.inl ⟨rfl, rfl⟩⟩, trivial⟩
set_option maxRecDepth 100000 in
theorem dk_X5_allEmptiesLaid : dck (yBy 77) 0 mc_X5_allEmptiesLaid = true := by decide +kernel
set_option maxRecDepth 100000 in
theorem ok_X5_allEmptiesLaid : okl 77 0 mc_X5_allEmptiesLaid := ⟨rfl, rfl, rfl, rfl, rfl, rfl, ⟨rfl, Nat.le_of_ble_eq_true rfl, Nat.le_of_ble_eq_true rfl, kw_137⟩, rfl, rfl, rfl, ⟨rfl, fun _ => ⟨⟨kw_142, kw_133, kw_143, ⟨by decide +kernel, by decide +kernel, by decide +kernel⟩, Nat.le_of_ble_eq_true rfl, Nat.le_of_ble_eq_true rfl, by decide +kernel, rfl, fun h => absurd h (by decide)⟩, Nat.le_of_ble_eq_true rfl, kw_144, kw_145, rfl, Nat.le_of_ble_eq_true rfl⟩, fun h => absurd h (by decide)⟩, rfl, rfl, rfl, rfl, rfl, ⟨rfl, Nat.le_of_ble_eq_true rfl, Nat.le_of_ble_eq_true rfl, kw_312⟩, rfl, rfl, rfl, rfl, rfl, ⟨rfl, Or.inl ⟨rfl, rfl⟩⟩, trivial⟩
set_option maxRecDepth 100000 in
theorem dk_X5_refusalsOf : dck (yBy 78) 0 mc_X5_refusalsOf = true := by decide +kernel
set_option maxRecDepth 100000 in
theorem ok_X5_refusalsOf : okl 78 0 mc_X5_refusalsOf := ⟨rfl, rfl, rfl, rfl, rfl, rfl, rfl, ⟨rfl, Or.inl ⟨rfl, rfl⟩⟩, rfl, ⟨rfl, Nat.le_of_ble_eq_true rfl, Nat.le_of_ble_eq_true rfl, kw_131⟩, rfl, rfl, ⟨rfl, Or.inl rfl⟩, ⟨rfl, Or.inl ⟨rfl, rfl⟩⟩, trivial⟩
set_option maxRecDepth 100000 in
theorem dk_X5_refuse : dck (yBy 79) 0 mc_X5_refuse = true := by decide +kernel
set_option maxRecDepth 100000 in
theorem ok_X5_refuse : okl 79 0 mc_X5_refuse := ⟨rfl, rfl, rfl, rfl, rfl, rfl, rfl, ⟨rfl, Nat.le_of_ble_eq_true rfl, Nat.le_of_ble_eq_true rfl, kw_131⟩, rfl, rfl, rfl, ⟨rfl, Or.inl rfl⟩, rfl, rfl, rfl, rfl, ⟨rfl, Or.inl ⟨rfl, rfl⟩⟩, trivial⟩
set_option maxRecDepth 100000 in
theorem dk_X5_creditLeft : dck (yBy 80) 0 mc_X5_creditLeft = true := by decide +kernel
set_option maxRecDepth 100000 in
theorem ok_X5_creditLeft : okl 80 0 mc_X5_creditLeft := ⟨rfl, ⟨rfl, Nat.le_of_ble_eq_true rfl, Nat.le_of_ble_eq_true rfl, kw_130⟩, rfl, ⟨rfl, Nat.le_of_ble_eq_true rfl, Nat.le_of_ble_eq_true rfl, kw_218⟩, rfl, ⟨rfl, Or.inl ⟨rfl, rfl⟩⟩, trivial⟩
set_option maxRecDepth 100000 in
theorem dk_X5_lineAt : dck (yBy 81) 0 mc_X5_lineAt = true := by decide +kernel
set_option maxRecDepth 100000 in
theorem ok_X5_lineAt : okl 81 0 mc_X5_lineAt := ⟨rfl, rfl, rfl, rfl, ⟨rfl, Nat.le_of_ble_eq_true rfl, Nat.le_of_ble_eq_true rfl, kw_137⟩, rfl, rfl, rfl, rfl, ⟨rfl, Nat.le_of_ble_eq_true rfl, Nat.le_of_ble_eq_true rfl, kw_121⟩, rfl, rfl, ⟨rfl, _, rfl, Or.inl ⟨_, rfl⟩⟩, trivial⟩
set_option maxRecDepth 100000 in
theorem dk_X5_frameAt : dck (yBy 82) 0 mc_X5_frameAt = true := by decide +kernel
set_option maxRecDepth 100000 in
theorem ok_X5_frameAt : okl 82 0 mc_X5_frameAt := ⟨rfl, rfl, rfl, rfl, ⟨rfl, Nat.le_of_ble_eq_true rfl, Nat.le_of_ble_eq_true rfl, kw_150⟩, rfl, rfl, rfl, rfl, ⟨rfl, Nat.le_of_ble_eq_true rfl, Nat.le_of_ble_eq_true rfl, kw_123⟩, rfl, rfl, ⟨rfl, _, rfl, Or.inl ⟨_, rfl⟩⟩, trivial⟩
set_option maxRecDepth 100000 in
theorem dk_X5_pieceAt : dck (yBy 83) 0 mc_X5_pieceAt = true := by decide +kernel
set_option maxRecDepth 100000 in
theorem ok_X5_pieceAt : okl 83 0 mc_X5_pieceAt := ⟨rfl, rfl, rfl, rfl, ⟨rfl, Nat.le_of_ble_eq_true rfl, Nat.le_of_ble_eq_true rfl, kw_151⟩, rfl, rfl, rfl, rfl, ⟨rfl, Nat.le_of_ble_eq_true rfl, Nat.le_of_ble_eq_true rfl, kw_125⟩, rfl, rfl, ⟨rfl, _, rfl, Or.inl ⟨_, rfl⟩⟩, trivial⟩
set_option maxRecDepth 100000 in
theorem dk_X6_init : dck (yBy 84) 0 mc_X6_init = true := by decide +kernel
set_option maxRecDepth 100000 in
theorem ok_X6_init : okl 84 0 mc_X6_init := ⟨rfl, ⟨rfl, fun h => absurd h (by decide), fun _ => ⟨kw_354, kw_1, kw_2, Nat.le_of_ble_eq_true rfl, Nat.le_of_ble_eq_true rfl⟩⟩, rfl, rfl, ⟨rfl, kw_32, Or.inl ⟨rfl, rfl⟩⟩, ⟨rfl, Nat.le_of_ble_eq_true rfl, Nat.le_of_ble_eq_true rfl, kw_355, Or.inr ⟨rfl, rfl, rfl⟩⟩, rfl, rfl, ⟨rfl, kw_32, Or.inl ⟨rfl, rfl⟩⟩, ⟨rfl, Nat.le_of_ble_eq_true rfl, Nat.le_of_ble_eq_true rfl, kw_356, Or.inr ⟨rfl, rfl, rfl⟩⟩, rfl, rfl, ⟨rfl, kw_32, Or.inl ⟨rfl, rfl⟩⟩, ⟨rfl, Nat.le_of_ble_eq_true rfl, Nat.le_of_ble_eq_true rfl, kw_357, Or.inr ⟨rfl, rfl, rfl⟩⟩, rfl, rfl, ⟨rfl, kw_358, Or.inr (Or.inr ⟨rfl, rfl⟩)⟩, ⟨rfl, Nat.le_of_ble_eq_true rfl, Nat.le_of_ble_eq_true rfl, kw_359, Or.inr ⟨rfl, rfl, rfl⟩⟩, rfl, rfl, ⟨rfl, kw_32, Or.inl ⟨rfl, rfl⟩⟩, ⟨rfl, Nat.le_of_ble_eq_true rfl, Nat.le_of_ble_eq_true rfl, kw_360, Or.inr ⟨rfl, rfl, rfl⟩⟩, rfl, rfl, ⟨rfl, kw_32, Or.inl ⟨rfl, rfl⟩⟩, ⟨rfl, Nat.le_of_ble_eq_true rfl, Nat.le_of_ble_eq_true rfl, kw_361, Or.inr ⟨rfl, rfl, rfl⟩⟩, rfl, rfl, ⟨rfl, kw_32, Or.inl ⟨rfl, rfl⟩⟩, ⟨rfl, Nat.le_of_ble_eq_true rfl, Nat.le_of_ble_eq_true rfl, kw_362, Or.inr ⟨rfl, rfl, rfl⟩⟩, rfl, rfl, ⟨rfl, kw_32, Or.inl ⟨rfl, rfl⟩⟩, ⟨rfl, Nat.le_of_ble_eq_true rfl, Nat.le_of_ble_eq_true rfl, kw_363, Or.inr ⟨rfl, rfl, rfl⟩⟩, rfl, rfl, ⟨rfl, kw_32, Or.inl ⟨rfl, rfl⟩⟩, ⟨rfl, Nat.le_of_ble_eq_true rfl, Nat.le_of_ble_eq_true rfl, kw_364, Or.inr ⟨rfl, rfl, rfl⟩⟩, rfl, rfl, ⟨rfl, kw_32, Or.inl ⟨rfl, rfl⟩⟩, ⟨rfl, Nat.le_of_ble_eq_true rfl, Nat.le_of_ble_eq_true rfl, kw_365, Or.inr ⟨rfl, rfl, rfl⟩⟩, rfl, rfl, ⟨rfl, kw_32, Or.inl ⟨rfl, rfl⟩⟩, ⟨rfl, Nat.le_of_ble_eq_true rfl, Nat.le_of_ble_eq_true rfl, kw_366, Or.inr ⟨rfl, rfl, rfl⟩⟩, rfl, rfl, ⟨rfl, kw_32, Or.inl ⟨rfl, rfl⟩⟩, ⟨rfl, Nat.le_of_ble_eq_true rfl, Nat.le_of_ble_eq_true rfl, kw_367, Or.inr ⟨rfl, rfl, rfl⟩⟩, rfl, rfl, ⟨rfl, kw_32, Or.inl ⟨rfl, rfl⟩⟩, ⟨rfl, Nat.le_of_ble_eq_true rfl, Nat.le_of_ble_eq_true rfl, kw_368, Or.inr ⟨rfl, rfl, rfl⟩⟩, rfl, rfl, ⟨rfl, kw_32, Or.inl ⟨rfl, rfl⟩⟩, ⟨rfl, Nat.le_of_ble_eq_true rfl, Nat.le_of_ble_eq_true rfl, kw_369, Or.inr ⟨rfl, rfl, rfl⟩⟩, rfl, rfl, ⟨rfl, kw_32, Or.inl ⟨rfl, rfl⟩⟩, ⟨rfl, Nat.le_of_ble_eq_true rfl, Nat.le_of_ble_eq_true rfl, kw_370, Or.inr ⟨rfl, rfl, rfl⟩⟩, rfl, rfl, ⟨rfl, kw_32, Or.inl ⟨rfl, rfl⟩⟩, ⟨rfl, Nat.le_of_ble_eq_true rfl, Nat.le_of_ble_eq_true rfl, kw_371, Or.inr ⟨rfl, rfl, rfl⟩⟩, rfl, rfl, ⟨rfl, kw_32, Or.inl ⟨rfl, rfl⟩⟩, ⟨rfl, Nat.le_of_ble_eq_true rfl, Nat.le_of_ble_eq_true rfl, kw_372, Or.inr ⟨rfl, rfl, rfl⟩⟩, rfl, rfl, ⟨rfl, kw_32, Or.inl ⟨rfl, rfl⟩⟩, ⟨rfl, Nat.le_of_ble_eq_true rfl, Nat.le_of_ble_eq_true rfl, kw_373, Or.inr ⟨rfl, rfl, rfl⟩⟩, rfl, rfl, ⟨rfl, kw_32, Or.inl ⟨rfl, rfl⟩⟩, ⟨rfl, Nat.le_of_ble_eq_true rfl, Nat.le_of_ble_eq_true rfl, kw_374, Or.inr ⟨rfl, rfl, rfl⟩⟩, rfl, rfl, ⟨rfl, kw_32, Or.inl ⟨rfl, rfl⟩⟩, ⟨rfl, Nat.le_of_ble_eq_true rfl, Nat.le_of_ble_eq_true rfl, kw_375, Or.inr ⟨rfl, rfl, rfl⟩⟩, rfl, rfl, ⟨rfl, kw_32, Or.inl ⟨rfl, rfl⟩⟩, ⟨rfl, Nat.le_of_ble_eq_true rfl, Nat.le_of_ble_eq_true rfl, kw_376, Or.inr ⟨rfl, rfl, rfl⟩⟩, rfl, rfl, ⟨rfl, kw_32, Or.inl ⟨rfl, rfl⟩⟩, ⟨rfl, Nat.le_of_ble_eq_true rfl, Nat.le_of_ble_eq_true rfl, kw_377, Or.inr ⟨rfl, rfl, rfl⟩⟩, rfl, rfl, ⟨rfl, kw_32, Or.inl ⟨rfl, rfl⟩⟩, ⟨rfl, Nat.le_of_ble_eq_true rfl, Nat.le_of_ble_eq_true rfl, kw_378, Or.inr ⟨rfl, rfl, rfl⟩⟩, rfl, rfl, ⟨rfl, kw_32, Or.inl ⟨rfl, rfl⟩⟩, ⟨rfl, Nat.le_of_ble_eq_true rfl, Nat.le_of_ble_eq_true rfl, kw_379, Or.inr ⟨rfl, rfl, rfl⟩⟩, rfl, rfl, ⟨rfl, kw_32, Or.inl ⟨rfl, rfl⟩⟩, ⟨rfl, Nat.le_of_ble_eq_true rfl, Nat.le_of_ble_eq_true rfl, kw_380, Or.inr ⟨rfl, rfl, rfl⟩⟩, rfl, rfl, ⟨rfl, kw_32, Or.inl ⟨rfl, rfl⟩⟩, ⟨rfl, Nat.le_of_ble_eq_true rfl, Nat.le_of_ble_eq_true rfl, kw_381, Or.inr ⟨rfl, rfl, rfl⟩⟩, rfl, rfl, ⟨rfl, kw_32, Or.inl ⟨rfl, rfl⟩⟩, ⟨rfl, Nat.le_of_ble_eq_true rfl, Nat.le_of_ble_eq_true rfl, kw_382, Or.inr ⟨rfl, rfl, rfl⟩⟩, rfl, rfl, ⟨rfl, kw_32, Or.inl ⟨rfl, rfl⟩⟩, ⟨rfl, Nat.le_of_ble_eq_true rfl, Nat.le_of_ble_eq_true rfl, kw_383, Or.inr ⟨rfl, rfl, rfl⟩⟩, rfl, rfl, ⟨rfl, kw_32, Or.inl ⟨rfl, rfl⟩⟩, ⟨rfl, Nat.le_of_ble_eq_true rfl, Nat.le_of_ble_eq_true rfl, kw_384, Or.inr ⟨rfl, rfl, rfl⟩⟩, rfl, rfl, ⟨rfl, kw_32, Or.inl ⟨rfl, rfl⟩⟩, ⟨rfl, Nat.le_of_ble_eq_true rfl, Nat.le_of_ble_eq_true rfl, kw_385, Or.inr ⟨rfl, rfl, rfl⟩⟩, rfl, rfl, ⟨rfl, kw_32, Or.inl ⟨rfl, rfl⟩⟩, ⟨rfl, Nat.le_of_ble_eq_true rfl, Nat.le_of_ble_eq_true rfl, kw_386, Or.inr ⟨rfl, rfl, rfl⟩⟩, rfl, rfl, ⟨rfl, kw_32, Or.inl ⟨rfl, rfl⟩⟩, ⟨rfl, Nat.le_of_ble_eq_true rfl, Nat.le_of_ble_eq_true rfl, kw_387, Or.inr ⟨rfl, rfl, rfl⟩⟩, rfl, rfl, ⟨rfl, kw_32, Or.inl ⟨rfl, rfl⟩⟩, ⟨rfl, Nat.le_of_ble_eq_true rfl, Nat.le_of_ble_eq_true rfl, kw_388, Or.inr ⟨rfl, rfl, rfl⟩⟩, rfl, rfl, ⟨rfl, kw_32, Or.inl ⟨rfl, rfl⟩⟩, ⟨rfl, Nat.le_of_ble_eq_true rfl, Nat.le_of_ble_eq_true rfl, kw_389, Or.inr ⟨rfl, rfl, rfl⟩⟩, rfl, rfl, ⟨rfl, kw_32, Or.inl ⟨rfl, rfl⟩⟩, ⟨rfl, Nat.le_of_ble_eq_true rfl, Nat.le_of_ble_eq_true rfl, kw_390, Or.inr ⟨rfl, rfl, rfl⟩⟩, rfl, ⟨rfl, kw_391⟩, ⟨rfl, kw_127, Or.inr (Or.inl ⟨rfl, rfl⟩)⟩, ⟨rfl, Nat.le_of_ble_eq_true rfl, Nat.le_of_ble_eq_true rfl, kw_392, Or.inr ⟨rfl, rfl, rfl⟩⟩, rfl, rfl, ⟨rfl, kw_127, Or.inr (Or.inl ⟨rfl, rfl⟩)⟩, ⟨rfl, Nat.le_of_ble_eq_true rfl, Nat.le_of_ble_eq_true rfl, kw_393, Or.inr ⟨rfl, rfl, rfl⟩⟩, rfl, rfl, ⟨rfl, Nat.le_of_ble_eq_true rfl, Nat.le_of_ble_eq_true rfl, kw_394, Or.inl rfl⟩, rfl, rfl, ⟨rfl, Nat.le_of_ble_eq_true rfl, Nat.le_of_ble_eq_true rfl, kw_395, Or.inl rfl⟩, rfl, rfl, ⟨rfl, kw_32, Or.inl ⟨rfl, rfl⟩⟩, ⟨rfl, Nat.le_of_ble_eq_true rfl, Nat.le_of_ble_eq_true rfl, kw_396, Or.inr ⟨rfl, rfl, rfl⟩⟩, ⟨rfl, rfl⟩, trivial⟩
set_option maxRecDepth 100000 in
theorem dk_X6_in : dck (yBy 85) 0 mc_X6_in = true := by decide +kernel
set_option maxRecDepth 100000 in
theorem ok_X6_in : okl 85 0 mc_X6_in := ⟨rfl, rfl, rfl, rfl, rfl, rfl, rfl, rfl, rfl, ⟨rfl, Or.inr ⟨rfl, rfl⟩⟩, trivial⟩
set_option maxRecDepth 100000 in
theorem dk_X6_refuse : dck (yBy 86) 0 mc_X6_refuse = true := by decide +kernel
set_option maxRecDepth 100000 in
theorem ok_X6_refuse : okl 86 0 mc_X6_refuse := ⟨rfl, ⟨rfl, Nat.le_of_ble_eq_true rfl, Nat.le_of_ble_eq_true rfl, kw_396⟩, rfl, rfl, rfl, ⟨rfl, Or.inl rfl⟩, rfl, rfl, rfl, rfl, ⟨rfl, Or.inl ⟨rfl, rfl⟩⟩, trivial⟩
set_option maxRecDepth 100000 in
theorem dk_X6_isLine : dck (yBy 87) 0 mc_X6_isLine = true := by decide +kernel
set_option maxRecDepth 100000 in
theorem ok_X6_isLine : okl 87 0 mc_X6_isLine := ⟨rfl, rfl, rfl, ⟨rfl, Nat.le_of_ble_eq_true rfl, Nat.le_of_ble_eq_true rfl, kw_397⟩, rfl, rfl, ⟨rfl, fun _ => ⟨⟨kw_398, kw_399, kw_400, ⟨by decide +kernel, by decide +kernel, by decide +kernel⟩, Nat.le_of_ble_eq_true rfl, Nat.le_of_ble_eq_true rfl, by decide +kernel, rfl, fun h => absurd h (by decide)⟩, kw_401⟩, fun h => absurd h (by decide), fun h => absurd h (by decide)⟩, ⟨rfl, Or.inr ⟨rfl, rfl⟩⟩, trivial⟩
set_option maxRecDepth 100000 in
theorem dk_X6_open : dck (yBy 88) 0 mc_X6_open = true := by decide +kernel
set_option maxRecDepth 100000 in
theorem ok_X6_open : okl 88 0 mc_X6_open := ⟨rfl, rfl, rfl, ⟨rfl, fun _ => ⟨⟨kw_398, kw_399, kw_400, ⟨by decide +kernel, by decide +kernel, by decide +kernel⟩, Nat.le_of_ble_eq_true rfl, Nat.le_of_ble_eq_true rfl, by decide +kernel, rfl, fun h => absurd h (by decide)⟩, kw_401⟩, fun h => absurd h (by decide), fun h => absurd h (by decide)⟩, rfl, rfl, rfl, ⟨rfl, fun _ => ⟨⟨kw_402, kw_399, kw_403, ⟨by decide +kernel, by decide +kernel, by decide +kernel⟩, Nat.le_of_ble_eq_true rfl, Nat.le_of_ble_eq_true rfl, by decide +kernel, rfl, fun h => absurd h (by decide)⟩, Nat.le_of_ble_eq_true rfl, kw_404, kw_405, rfl, Nat.le_of_ble_eq_true rfl⟩, fun h => absurd h (by decide)⟩, ⟨rfl, Or.inl ⟨rfl, rfl⟩⟩, rfl, rfl, rfl, rfl, rfl, rfl, rfl, rfl, rfl, rfl, rfl, rfl, ⟨rfl, fun _ => ⟨⟨kw_402, kw_399, kw_403, ⟨by decide +kernel, by decide +kernel, by decide +kernel⟩, Nat.le_of_ble_eq_true rfl, Nat.le_of_ble_eq_true rfl, by decide +kernel, rfl, fun h => absurd h (by decide)⟩, Nat.le_of_ble_eq_true rfl, kw_404, kw_405, rfl, Nat.le_of_ble_eq_true rfl⟩, fun h => absurd h (by decide)⟩, ⟨rfl, Or.inl ⟨rfl, rfl⟩⟩, rfl, rfl, rfl, rfl, rfl, rfl, rfl, ⟨rfl, Nat.le_of_ble_eq_true rfl, Nat.le_of_ble_eq_true rfl, kw_397⟩, rfl, rfl, rfl, rfl, ⟨rfl, fun _ => ⟨⟨kw_402, kw_399, kw_403, ⟨by decide +kernel, by decide +kernel, by decide +kernel⟩, Nat.le_of_ble_eq_true rfl, Nat.le_of_ble_eq_true rfl, by decide +kernel, rfl, fun h => absurd h (by decide)⟩, Nat.le_of_ble_eq_true rfl, kw_404, kw_405, rfl, Nat.le_of_ble_eq_true rfl⟩, fun h => absurd h (by decide)⟩, ⟨rfl, Or.inl ⟨rfl, rfl⟩⟩, rfl, ⟨rfl, Nat.le_of_ble_eq_true rfl, Nat.le_of_ble_eq_true rfl, kw_397⟩, rfl, rfl, rfl, ⟨rfl, Nat.le_of_ble_eq_true rfl, Nat.le_of_ble_eq_true rfl, kw_397⟩, rfl, rfl, ⟨rfl, Nat.le_of_ble_eq_true rfl, Nat.le_of_ble_eq_true rfl, kw_397, Or.inl rfl⟩, rfl, ⟨rfl, Nat.le_of_ble_eq_true rfl, Nat.le_of_ble_eq_true rfl, kw_355⟩, rfl, rfl, rfl, rfl, ⟨rfl, Nat.le_of_ble_eq_true rfl, Nat.le_of_ble_eq_true rfl, kw_356⟩, rfl, rfl, rfl, rfl, ⟨rfl, Nat.le_of_ble_eq_true rfl, Nat.le_of_ble_eq_true rfl, kw_357⟩, rfl, rfl, rfl, rfl, ⟨rfl, Nat.le_of_ble_eq_true rfl, Nat.le_of_ble_eq_true rfl, kw_359⟩, rfl, rfl, rfl, rfl, ⟨rfl, Nat.le_of_ble_eq_true rfl, Nat.le_of_ble_eq_true rfl, kw_360⟩, rfl, rfl, rfl, rfl, rfl, rfl, rfl, rfl, rfl, ⟨rfl, Nat.le_of_ble_eq_true rfl, Nat.le_of_ble_eq_true rfl, kw_361⟩, rfl, rfl, rfl, rfl, rfl, rfl, rfl, rfl, rfl, ⟨rfl, Or.inl ⟨rfl, rfl⟩⟩, trivial⟩
set_option maxRecDepth 100000 in
theorem dk_X6_lease : dck (yBy 89) 0 mc_X6_lease = true := by decide +kernel
set_option maxRecDepth 100000 in
theorem ok_X6_lease : okl 89 0 mc_X6_lease := ⟨rfl, rfl, ⟨rfl, fun _ => ⟨⟨kw_406, kw_399, kw_407, ⟨by decide +kernel, by decide +kernel, by decide +kernel⟩, Nat.le_of_ble_eq_true rfl, Nat.le_of_ble_eq_true rfl, by decide +kernel, rfl, fun h => absurd h (by decide)⟩, Nat.le_of_ble_eq_true rfl, kw_408, kw_409, rfl, Nat.le_of_ble_eq_true rfl⟩, fun h => absurd h (by decide)⟩, rfl, rfl, rfl, ⟨rfl, fun _ => ⟨⟨kw_402, kw_399, kw_403, ⟨by decide +kernel, by decide +kernel, by decide +kernel⟩, Nat.le_of_ble_eq_true rfl, Nat.le_of_ble_eq_true rfl, by decide +kernel, rfl, fun h => absurd h (by decide)⟩, Nat.le_of_ble_eq_true rfl, kw_404, kw_405, rfl, Nat.le_of_ble_eq_true rfl⟩, fun h => absurd h (by decide)⟩, ⟨rfl, Or.inl ⟨rfl, rfl⟩⟩, rfl, ⟨rfl, Nat.le_of_ble_eq_true rfl, Nat.le_of_ble_eq_true rfl, kw_355⟩, rfl, ⟨rfl, Or.inl rfl⟩, rfl, rfl, rfl, rfl, ⟨rfl, fun _ => ⟨⟨kw_402, kw_399, kw_403, ⟨by decide +kernel, by decide +kernel, by decide +kernel⟩, Nat.le_of_ble_eq_true rfl, Nat.le_of_ble_eq_true rfl, by decide +kernel, rfl, fun h => absurd h (by decide)⟩, Nat.le_of_ble_eq_true rfl, kw_404, kw_405, rfl, Nat.le_of_ble_eq_true rfl⟩, fun h => absurd h (by decide)⟩, ⟨rfl, Or.inl ⟨rfl, rfl⟩⟩, rfl, rfl, rfl, rfl, rfl, rfl, rfl, rfl, ⟨rfl, fun _ => ⟨⟨kw_402, kw_399, kw_403, ⟨by decide +kernel, by decide +kernel, by decide +kernel⟩, Nat.le_of_ble_eq_true rfl, Nat.le_of_ble_eq_true rfl, by decide +kernel, rfl, fun h => absurd h (by decide)⟩, Nat.le_of_ble_eq_true rfl, kw_404, kw_405, rfl, Nat.le_of_ble_eq_true rfl⟩, fun h => absurd h (by decide)⟩, ⟨rfl, Or.inl ⟨rfl, rfl⟩⟩, rfl, rfl, rfl, rfl, rfl, rfl, rfl, rfl, ⟨rfl, fun _ => ⟨⟨kw_402, kw_399, kw_403, ⟨by decide +kernel, by decide +kernel, by decide +kernel⟩, Nat.le_of_ble_eq_true rfl, Nat.le_of_ble_eq_true rfl, by decide +kernel, rfl, fun h => absurd h (by decide)⟩, Nat.le_of_ble_eq_true rfl, kw_404, kw_405, rfl, Nat.le_of_ble_eq_true rfl⟩, fun h => absurd h (by decide)⟩, ⟨rfl, Or.inl ⟨rfl, rfl⟩⟩, rfl, ⟨rfl, Nat.le_of_ble_eq_true rfl, Nat.le_of_ble_eq_true rfl, kw_360⟩, rfl, rfl, rfl, rfl, ⟨rfl, Nat.le_of_ble_eq_true rfl, Nat.le_of_ble_eq_true rfl, kw_361⟩, rfl, rfl, rfl, rfl, ⟨rfl, Or.inl ⟨rfl, rfl⟩⟩, trivial⟩
set_option maxRecDepth 100000 in
theorem dk_X6_type : dck (yBy 90) 0 mc_X6_type = true := by decide +kernel
set_option maxRecDepth 100000 in
theorem ok_X6_type : okl 90 0 mc_X6_type := ⟨rfl, rfl, rfl, rfl, rfl, ⟨rfl, fun _ => ⟨⟨kw_402, kw_399, kw_403, ⟨by decide +kernel, by decide +kernel, by decide +kernel⟩, Nat.le_of_ble_eq_true rfl, Nat.le_of_ble_eq_true rfl, by decide +kernel, rfl, fun h => absurd h (by decide)⟩, Nat.le_of_ble_eq_true rfl, kw_404, kw_405, rfl, Nat.le_of_ble_eq_true rfl⟩, fun h => absurd h (by decide)⟩, ⟨rfl, Or.inl ⟨rfl, rfl⟩⟩, rfl, rfl, rfl, rfl, ⟨rfl, Nat.le_of_ble_eq_true rfl, Nat.le_of_ble_eq_true rfl, kw_410⟩, rfl, rfl, rfl, rfl, rfl, rfl, ⟨rfl, fun _ => ⟨⟨kw_402, kw_399, kw_403, ⟨by decide +kernel, by decide +kernel, by decide +kernel⟩, Nat.le_of_ble_eq_true rfl, Nat.le_of_ble_eq_true rfl, by decide +kernel, rfl, fun h => absurd h (by decide)⟩, Nat.le_of_ble_eq_true rfl, kw_404, kw_405, rfl, Nat.le_of_ble_eq_true rfl⟩, fun h => absurd h (by decide)⟩, ⟨rfl, Or.inl ⟨rfl, rfl⟩⟩, rfl, rfl, rfl, rfl, rfl, rfl, rfl, ⟨rfl, Nat.le_of_ble_eq_true rfl, Nat.le_of_ble_eq_true rfl, kw_393⟩, rfl, ⟨rfl, Nat.le_of_ble_eq_true rfl, Nat.le_of_ble_eq_true rfl, kw_410⟩, rfl, rfl, rfl, rfl, rfl, rfl, rfl, rfl, rfl, rfl, ⟨rfl, Nat.le_of_ble_eq_true rfl, Nat.le_of_ble_eq_true rfl, kw_410⟩, rfl, rfl, ⟨rfl, Nat.le_of_ble_eq_true rfl, Nat.le_of_ble_eq_true rfl, kw_410, Or.inl rfl⟩, rfl, rfl, rfl, ⟨rfl, Nat.le_of_ble_eq_true rfl, Nat.le_of_ble_eq_true rfl, kw_410⟩, ⟨rfl, Or.inl ⟨rfl, rfl⟩⟩, trivial⟩
set_option maxRecDepth 100000 in
theorem dk_X6_grow : dck (yBy 91) 0 mc_X6_grow = true := by decide +kernel
set_option maxRecDepth 100000 in
theorem ok_X6_grow : okl 91 0 mc_X6_grow := ⟨rfl, ⟨rfl, Nat.le_of_ble_eq_true rfl, Nat.le_of_ble_eq_true rfl, kw_410⟩, rfl, rfl, rfl, ⟨rfl, fun _ => ⟨⟨kw_402, kw_399, kw_403, ⟨by decide +kernel, by decide +kernel, by decide +kernel⟩, Nat.le_of_ble_eq_true rfl, Nat.le_of_ble_eq_true rfl, by decide +kernel, rfl, fun h => absurd h (by decide)⟩, Nat.le_of_ble_eq_true rfl, kw_404, kw_405, rfl, Nat.le_of_ble_eq_true rfl⟩, fun h => absurd h (by decide)⟩, ⟨rfl, Or.inl ⟨rfl, rfl⟩⟩, rfl, rfl, ⟨rfl, Nat.le_of_ble_eq_true rfl, Nat.le_of_ble_eq_true rfl, kw_410⟩, rfl, rfl, rfl, ⟨rfl, fun _ => ⟨⟨kw_402, kw_399, kw_403, ⟨by decide +kernel, by decide +kernel, by decide +kernel⟩, Nat.le_of_ble_eq_true rfl, Nat.le_of_ble_eq_true rfl, by decide +kernel, rfl, fun h => absurd h (by decide)⟩, Nat.le_of_ble_eq_true rfl, kw_404, kw_405, rfl, Nat.le_of_ble_eq_true rfl⟩, fun h => absurd h (by decide)⟩, ⟨rfl, Or.inl ⟨rfl, rfl⟩⟩, rfl, rfl, rfl, rfl, rfl, ⟨rfl, fun _ => ⟨⟨kw_402, kw_399, kw_403, ⟨by decide +kernel, by decide +kernel, by decide +kernel⟩, Nat.le_of_ble_eq_true rfl, Nat.le_of_ble_eq_true rfl, by decide +kernel, rfl, fun h => absurd h (by decide)⟩, Nat.le_of_ble_eq_true rfl, kw_404, kw_405, rfl, Nat.le_of_ble_eq_true rfl⟩, fun h => absurd h (by decide)⟩, ⟨rfl, Or.inl ⟨rfl, rfl⟩⟩, rfl, ⟨rfl, Nat.le_of_ble_eq_true rfl, Nat.le_of_ble_eq_true rfl, kw_410⟩, rfl, rfl, ⟨rfl, Nat.le_of_ble_eq_true rfl, Nat.le_of_ble_eq_true rfl, kw_410⟩, rfl, rfl, rfl, ⟨rfl, Nat.le_of_ble_eq_true rfl, Nat.le_of_ble_eq_true rfl, kw_393⟩, rfl, ⟨rfl, Nat.le_of_ble_eq_true rfl, Nat.le_of_ble_eq_true rfl, kw_410⟩, rfl, ⟨rfl, Nat.le_of_ble_eq_true rfl, Nat.le_of_ble_eq_true rfl, kw_393⟩, rfl, ⟨rfl, Nat.le_of_ble_eq_true rfl, Nat.le_of_ble_eq_true rfl, kw_410⟩, rfl, rfl, rfl, rfl, rfl, rfl, ⟨rfl, Nat.le_of_ble_eq_true rfl, Nat.le_of_ble_eq_true rfl, kw_410⟩, rfl, rfl, ⟨rfl, Nat.le_of_ble_eq_true rfl, Nat.le_of_ble_eq_true rfl, kw_410, Or.inl rfl⟩, rfl, rfl, ⟨rfl, Or.inl ⟨rfl, rfl⟩⟩, trivial⟩
set_option maxRecDepth 100000 in
theorem dk_X6_frame : dck (yBy 92) 0 mc_X6_frame = true := by decide +kernel
set_option maxRecDepth 100000 in
theorem ok_X6_frame : okl 92 0 mc_X6_frame := ⟨rfl, ⟨rfl, Nat.le_of_ble_eq_true rfl, Nat.le_of_ble_eq_true rfl, kw_410⟩, rfl, rfl, rfl, ⟨rfl, fun _ => ⟨⟨kw_402, kw_399, kw_403, ⟨by decide +kernel, by decide +kernel, by decide +kernel⟩, Nat.le_of_ble_eq_true rfl, Nat.le_of_ble_eq_true rfl, by decide +kernel, rfl, fun h => absurd h (by decide)⟩, Nat.le_of_ble_eq_true rfl, kw_404, kw_405, rfl, Nat.le_of_ble_eq_true rfl⟩, fun h => absurd h (by decide)⟩, ⟨rfl, Or.inl ⟨rfl, rfl⟩⟩, rfl, ⟨rfl, Nat.le_of_ble_eq_true rfl, Nat.le_of_ble_eq_true rfl, kw_410⟩, rfl, ⟨rfl, Nat.le_of_ble_eq_true rfl, Nat.le_of_ble_eq_true rfl, kw_394⟩, rfl, rfl, rfl, rfl, ⟨rfl, Nat.le_of_ble_eq_true rfl, Nat.le_of_ble_eq_true rfl, kw_394⟩, rfl, rfl, rfl, ⟨rfl, Nat.le_of_ble_eq_true rfl, Nat.le_of_ble_eq_true rfl, kw_411⟩, rfl, rfl, rfl, ⟨rfl, Nat.le_of_ble_eq_true rfl, Nat.le_of_ble_eq_true rfl, kw_412⟩, rfl, rfl, rfl, rfl, rfl, ⟨rfl, Nat.le_of_ble_eq_true rfl, Nat.le_of_ble_eq_true rfl, kw_411⟩, rfl, ⟨rfl, Nat.le_of_ble_eq_true rfl, Nat.le_of_ble_eq_true rfl, kw_413⟩, rfl, rfl, rfl, rfl, rfl, ⟨rfl, fun _ => ⟨⟨kw_402, kw_399, kw_403, ⟨by decide +kernel, by decide +kernel, by decide +kernel⟩, Nat.le_of_ble_eq_true rfl, Nat.le_of_ble_eq_true rfl, by decide +kernel, rfl, fun h => absurd h (by decide)⟩, Nat.le_of_ble_eq_true rfl, kw_404, kw_405, rfl, Nat.le_of_ble_eq_true rfl⟩, fun h => absurd h (by decide)⟩, ⟨rfl, Or.inl ⟨rfl, rfl⟩⟩, rfl, ⟨rfl, Nat.le_of_ble_eq_true rfl, Nat.le_of_ble_eq_true rfl, kw_411⟩, rfl, rfl, rfl, ⟨rfl, Nat.le_of_ble_eq_true rfl, Nat.le_of_ble_eq_true rfl, kw_411⟩, rfl, rfl, ⟨rfl, Nat.le_of_ble_eq_true rfl, Nat.le_of_ble_eq_true rfl, kw_411, Or.inl rfl⟩, rfl, ⟨rfl, Nat.le_of_ble_eq_true rfl, Nat.le_of_ble_eq_true rfl, kw_386⟩, rfl, rfl, ⟨rfl, Nat.le_of_ble_eq_true rfl, Nat.le_of_ble_eq_true rfl, kw_410⟩, rfl, rfl, ⟨rfl, Nat.le_of_ble_eq_true rfl, Nat.le_of_ble_eq_true rfl, kw_387⟩, rfl, rfl, ⟨rfl, Nat.le_of_ble_eq_true rfl, Nat.le_of_ble_eq_true rfl, kw_412⟩, rfl, rfl, ⟨rfl, Nat.le_of_ble_eq_true rfl, Nat.le_of_ble_eq_true rfl, kw_388⟩, rfl, rfl, rfl, rfl, ⟨rfl, Nat.le_of_ble_eq_true rfl, Nat.le_of_ble_eq_true rfl, kw_389⟩, rfl, rfl, rfl, rfl, ⟨rfl, Nat.le_of_ble_eq_true rfl, Nat.le_of_ble_eq_true rfl, kw_390⟩, rfl, rfl, ⟨rfl, Nat.le_of_ble_eq_true rfl, Nat.le_of_ble_eq_true rfl, kw_414⟩, rfl, rfl, rfl, rfl, rfl, rfl, rfl, ⟨rfl, Nat.le_of_ble_eq_true rfl, Nat.le_of_ble_eq_true rfl, kw_412⟩, rfl, rfl, rfl, ⟨rfl, Nat.le_of_ble_eq_true rfl, Nat.le_of_ble_eq_true rfl, kw_412⟩, rfl, rfl, ⟨rfl, Nat.le_of_ble_eq_true rfl, Nat.le_of_ble_eq_true rfl, kw_412, Or.inl rfl⟩, rfl, ⟨rfl, Nat.le_of_ble_eq_true rfl, Nat.le_of_ble_eq_true rfl, kw_378⟩, rfl, rfl, rfl, rfl, ⟨rfl, Nat.le_of_ble_eq_true rfl, Nat.le_of_ble_eq_true rfl, kw_379⟩, rfl, rfl, rfl, rfl, ⟨rfl, Nat.le_of_ble_eq_true rfl, Nat.le_of_ble_eq_true rfl, kw_380⟩, rfl, rfl, ⟨rfl, Nat.le_of_ble_eq_true rfl, Nat.le_of_ble_eq_true rfl, kw_414⟩, rfl, rfl, ⟨rfl, Nat.le_of_ble_eq_true rfl, Nat.le_of_ble_eq_true rfl, kw_394⟩, rfl, rfl, rfl, rfl, ⟨rfl, Nat.le_of_ble_eq_true rfl, Nat.le_of_ble_eq_true rfl, kw_381⟩, rfl, rfl, rfl, rfl, rfl, rfl, rfl, ⟨rfl, Nat.le_of_ble_eq_true rfl, Nat.le_of_ble_eq_true rfl, kw_394⟩, rfl, rfl, ⟨rfl, Nat.le_of_ble_eq_true rfl, Nat.le_of_ble_eq_true rfl, kw_410⟩, rfl, rfl, ⟨rfl, Nat.le_of_ble_eq_true rfl, Nat.le_of_ble_eq_true rfl, kw_394⟩, rfl, rfl, rfl, rfl, ⟨rfl, Nat.le_of_ble_eq_true rfl, Nat.le_of_ble_eq_true rfl, kw_383⟩, rfl, rfl, rfl, rfl, ⟨rfl, Nat.le_of_ble_eq_true rfl, Nat.le_of_ble_eq_true rfl, kw_384⟩, rfl, rfl, rfl, rfl, rfl, rfl, rfl, rfl, rfl, ⟨rfl, Nat.le_of_ble_eq_true rfl, Nat.le_of_ble_eq_true rfl, kw_410⟩, rfl, rfl, ⟨rfl, Nat.le_of_ble_eq_true rfl, Nat.le_of_ble_eq_true rfl, kw_392⟩, rfl, ⟨rfl, Nat.le_of_ble_eq_true rfl, Nat.le_of_ble_eq_true rfl, kw_414⟩, rfl, ⟨rfl, Nat.le_of_ble_eq_true rfl, Nat.le_of_ble_eq_true rfl, kw_393⟩, rfl, rfl, rfl, rfl, rfl, ⟨rfl, Nat.le_of_ble_eq_true rfl, Nat.le_of_ble_eq_true rfl, kw_414⟩, rfl, rfl, ⟨rfl, Nat.le_of_ble_eq_true rfl, Nat.le_of_ble_eq_true rfl, kw_414, Or.inl rfl⟩, rfl, rfl, rfl, rfl, ⟨rfl, Nat.le_of_ble_eq_true rfl, Nat.le_of_ble_eq_true rfl, kw_410, Or.inl rfl⟩, rfl, ⟨rfl, Or.inl ⟨rfl, rfl⟩⟩, trivial⟩
set_option maxRecDepth 100000 in
theorem dk_X6_cut : dck (yBy 93) 0 mc_X6_cut = true := by decide +kernel
set_option maxRecDepth 100000 in
theorem ok_X6_cut : okl 93 0 mc_X6_cut := ⟨rfl, rfl, rfl, rfl, rfl, ⟨rfl, fun _ => ⟨⟨kw_402, kw_399, kw_403, ⟨by decide +kernel, by decide +kernel, by decide +kernel⟩, Nat.le_of_ble_eq_true rfl, Nat.le_of_ble_eq_true rfl, by decide +kernel, rfl, fun h => absurd h (by decide)⟩, Nat.le_of_ble_eq_true rfl, kw_404, kw_405, rfl, Nat.le_of_ble_eq_true rfl⟩, fun h => absurd h (by decide)⟩, ⟨rfl, Or.inl ⟨rfl, rfl⟩⟩, rfl, rfl, rfl, rfl, rfl, ⟨rfl, fun _ => ⟨⟨kw_402, kw_399, kw_403, ⟨by decide +kernel, by decide +kernel, by decide +kernel⟩, Nat.le_of_ble_eq_true rfl, Nat.le_of_ble_eq_true rfl, by decide +kernel, rfl, fun h => absurd h (by decide)⟩, Nat.le_of_ble_eq_true rfl, kw_404, kw_405, rfl, Nat.le_of_ble_eq_true rfl⟩, fun h => absurd h (by decide)⟩, ⟨rfl, Or.inl ⟨rfl, rfl⟩⟩, rfl, ⟨rfl, Nat.le_of_ble_eq_true rfl, Nat.le_of_ble_eq_true rfl, kw_394⟩, rfl, rfl, rfl, ⟨rfl, Nat.le_of_ble_eq_true rfl, Nat.le_of_ble_eq_true rfl, kw_394, Or.inl rfl⟩, rfl, ⟨rfl, Or.inl ⟨rfl, rfl⟩⟩, trivial⟩
set_option maxRecDepth 100000 in
theorem dk_X6_room : dck (yBy 94) 0 mc_X6_room = true := by decide +kernel
set_option maxRecDepth 100000 in
theorem ok_X6_room : okl 94 0 mc_X6_room := ⟨rfl, rfl, rfl, rfl, rfl, ⟨rfl, fun _ => ⟨⟨kw_402, kw_399, kw_403, ⟨by decide +kernel, by decide +kernel, by decide +kernel⟩, Nat.le_of_ble_eq_true rfl, Nat.le_of_ble_eq_true rfl, by decide +kernel, rfl, fun h => absurd h (by decide)⟩, Nat.le_of_ble_eq_true rfl, kw_404, kw_405, rfl, Nat.le_of_ble_eq_true rfl⟩, fun h => absurd h (by decide)⟩, ⟨rfl, Or.inl ⟨rfl, rfl⟩⟩, rfl, rfl, rfl, rfl, rfl, ⟨rfl, fun _ => ⟨⟨kw_402, kw_399, kw_403, ⟨by decide +kernel, by decide +kernel, by decide +kernel⟩, Nat.le_of_ble_eq_true rfl, Nat.le_of_ble_eq_true rfl, by decide +kernel, rfl, fun h => absurd h (by decide)⟩, Nat.le_of_ble_eq_true rfl, kw_404, kw_405, rfl, Nat.le_of_ble_eq_true rfl⟩, fun h => absurd h (by decide)⟩, ⟨rfl, Or.inl ⟨rfl, rfl⟩⟩, rfl, ⟨rfl, Nat.le_of_ble_eq_true rfl, Nat.le_of_ble_eq_true rfl, kw_395⟩, rfl, rfl, rfl, ⟨rfl, Nat.le_of_ble_eq_true rfl, Nat.le_of_ble_eq_true rfl, kw_395, Or.inl rfl⟩, rfl, ⟨rfl, Or.inl ⟨rfl, rfl⟩⟩, trivial⟩
set_option maxRecDepth 100000 in
theorem dk_X6_sumOf : dck (yBy 95) 0 mc_X6_sumOf = true := by decide +kernel
set_option maxRecDepth 100000 in
theorem ok_X6_sumOf : okl 95 0 mc_X6_sumOf := ⟨rfl, rfl, rfl, rfl, rfl, rfl, ⟨rfl, Nat.le_of_ble_eq_true rfl, Nat.le_of_ble_eq_true rfl, kw_381⟩, rfl, ⟨rfl, Or.inl rfl⟩, rfl, rfl, rfl, ⟨rfl, Nat.le_of_ble_eq_true rfl, Nat.le_of_ble_eq_true rfl, kw_392⟩, rfl, ⟨rfl, Nat.le_of_ble_eq_true rfl, Nat.le_of_ble_eq_true rfl, kw_380⟩, rfl, ⟨rfl, Or.inl rfl⟩, rfl, rfl, rfl, rfl, rfl, rfl, rfl, rfl, rfl, rfl, rfl, rfl, rfl, rfl, ⟨rfl, Or.inl ⟨rfl, rfl⟩⟩, trivial⟩
set_option maxRecDepth 100000 in
theorem dk_X6_credit : dck (yBy 96) 0 mc_X6_credit = true := by decide +kernel
set_option maxRecDepth 100000 in
theorem ok_X6_credit : okl 96 0 mc_X6_credit := ⟨rfl, ⟨rfl, Nat.le_of_ble_eq_true rfl, Nat.le_of_ble_eq_true rfl, kw_395⟩, rfl, rfl, rfl, rfl, rfl, ⟨rfl, Nat.le_of_ble_eq_true rfl, Nat.le_of_ble_eq_true rfl, kw_412⟩, rfl, rfl, rfl, ⟨rfl, Nat.le_of_ble_eq_true rfl, Nat.le_of_ble_eq_true rfl, kw_378⟩, rfl, ⟨rfl, Or.inl rfl⟩, rfl, rfl, ⟨rfl, Nat.le_of_ble_eq_true rfl, Nat.le_of_ble_eq_true rfl, kw_379⟩, rfl, ⟨rfl, Or.inl rfl⟩, rfl, ⟨rfl, Nat.le_of_ble_eq_true rfl, Nat.le_of_ble_eq_true rfl, kw_413⟩, rfl, rfl, ⟨rfl, Nat.le_of_ble_eq_true rfl, Nat.le_of_ble_eq_true rfl, kw_381⟩, rfl, ⟨rfl, Or.inl rfl⟩, rfl, rfl, rfl, rfl, rfl, rfl, rfl, ⟨rfl, Or.inl ⟨rfl, rfl⟩⟩, trivial⟩
set_option maxRecDepth 100000 in
theorem dk_X6_sizeOf : dck (yBy 97) 0 mc_X6_sizeOf = true := by decide +kernel
set_option maxRecDepth 100000 in
theorem ok_X6_sizeOf : okl 97 0 mc_X6_sizeOf := ⟨rfl, rfl, rfl, rfl, rfl, rfl, ⟨rfl, Nat.le_of_ble_eq_true rfl, Nat.le_of_ble_eq_true rfl, kw_381⟩, rfl, ⟨rfl, Or.inl rfl⟩, ⟨rfl, Or.inl ⟨rfl, rfl⟩⟩, trivial⟩
set_option maxRecDepth 100000 in
theorem dk_X6_waiting : dck (yBy 98) 0 mc_X6_waiting = true := by decide +kernel
set_option maxRecDepth 100000 in
theorem ok_X6_waiting : okl 98 0 mc_X6_waiting := ⟨rfl, ⟨rfl, Nat.le_of_ble_eq_true rfl, Nat.le_of_ble_eq_true rfl, kw_364⟩, rfl, ⟨rfl, Or.inl rfl⟩, rfl, rfl, rfl, rfl, rfl, rfl, ⟨rfl, Nat.le_of_ble_eq_true rfl, Nat.le_of_ble_eq_true rfl, kw_363⟩, rfl, ⟨rfl, Or.inl rfl⟩, rfl, rfl, rfl, rfl, ⟨rfl, Nat.le_of_ble_eq_true rfl, Nat.le_of_ble_eq_true rfl, kw_362⟩, rfl, rfl, rfl, rfl, rfl, ⟨rfl, Or.inl rfl⟩, ⟨rfl, fun _ => ⟨⟨kw_415, kw_399, kw_416, ⟨by decide +kernel, by decide +kernel, by decide +kernel⟩, Nat.le_of_ble_eq_true rfl, Nat.le_of_ble_eq_true rfl, by decide +kernel, rfl, fun h => absurd h (by decide)⟩, Nat.le_of_ble_eq_true rfl, kw_417, kw_418, rfl, Nat.le_of_ble_eq_true rfl⟩, fun h => absurd h (by decide)⟩, rfl, rfl, rfl, rfl, rfl, ⟨rfl, Or.inl ⟨rfl, rfl⟩⟩, trivial⟩
set_option maxRecDepth 100000 in
theorem dk_X6_lose : dck (yBy 99) 0 mc_X6_lose = true := by decide +kernel
set_option maxRecDepth 100000 in
theorem ok_X6_lose : okl 99 0 mc_X6_lose := ⟨rfl, ⟨rfl, Nat.le_of_ble_eq_true rfl, Nat.le_of_ble_eq_true rfl, kw_378⟩, rfl, rfl, rfl, rfl, ⟨rfl, Nat.le_of_ble_eq_true rfl, Nat.le_of_ble_eq_true rfl, kw_385⟩, rfl, rfl, rfl, rfl, rfl, rfl, ⟨rfl, Or.inl rfl⟩, rfl, rfl, rfl, rfl, ⟨rfl, Nat.le_of_ble_eq_true rfl, Nat.le_of_ble_eq_true rfl, kw_374⟩, rfl, rfl, ⟨rfl, Or.inl rfl⟩, rfl, rfl, rfl, ⟨rfl, rfl⟩, trivial⟩
set_option maxRecDepth 100000 in
theorem dk_X6_isBetter : dck (yBy 100) 0 mc_X6_isBetter = true := by decide +kernel
set_option maxRecDepth 100000 in
theorem ok_X6_isBetter : okl 100 0 mc_X6_isBetter := ⟨rfl, rfl, rfl, rfl, ⟨rfl, Or.inr ⟨rfl, rfl⟩⟩, rfl, ⟨rfl, Nat.le_of_ble_eq_true rfl, Nat.le_of_ble_eq_true rfl, kw_378⟩, rfl, ⟨rfl, Or.inl rfl⟩, rfl, rfl, rfl, ⟨rfl, Nat.le_of_ble_eq_true rfl, Nat.le_of_ble_eq_true rfl, kw_385⟩, rfl, rfl, rfl, rfl, rfl, ⟨rfl, Or.inl rfl⟩, rfl, ⟨rfl, Nat.le_of_ble_eq_true rfl, Nat.le_of_ble_eq_true rfl, kw_385⟩, rfl, rfl, rfl, rfl, rfl, ⟨rfl, Or.inl rfl⟩, rfl, rfl, ⟨rfl, Nat.le_of_ble_eq_true rfl, Nat.le_of_ble_eq_true rfl, kw_385⟩, rfl, rfl, rfl, rfl, rfl, ⟨rfl, Or.inl rfl⟩, rfl, ⟨rfl, Nat.le_of_ble_eq_true rfl, Nat.le_of_ble_eq_true rfl, kw_385⟩, rfl, rfl, rfl, rfl, rfl, ⟨rfl, Or.inl rfl⟩, rfl, rfl, rfl, rfl, ⟨rfl, Or.inr ⟨rfl, rfl⟩⟩, rfl, rfl, ⟨rfl, fun _ => ⟨⟨kw_419, kw_399, kw_420, ⟨by decide +kernel, by decide +kernel, by decide +kernel⟩, Nat.le_of_ble_eq_true rfl, Nat.le_of_ble_eq_true rfl, by decide +kernel, rfl, fun h => absurd h (by decide)⟩, Nat.le_of_ble_eq_true rfl, kw_421, kw_422, rfl, Nat.le_of_ble_eq_true rfl⟩, fun h => absurd h (by decide)⟩, rfl, ⟨rfl, Nat.le_of_ble_eq_true rfl, Nat.le_of_ble_eq_true rfl, kw_381⟩, rfl, ⟨rfl, Or.inl rfl⟩, rfl, rfl, ⟨rfl, Nat.le_of_ble_eq_true rfl, Nat.le_of_ble_eq_true rfl, kw_356⟩, rfl, ⟨rfl, Or.inl rfl⟩, rfl, rfl, rfl, rfl, ⟨rfl, Nat.le_of_ble_eq_true rfl, Nat.le_of_ble_eq_true rfl, kw_356⟩, rfl, ⟨rfl, Or.inl rfl⟩, rfl, rfl, rfl, rfl, ⟨rfl, fun _ => ⟨⟨kw_419, kw_399, kw_420, ⟨by decide +kernel, by decide +kernel, by decide +kernel⟩, Nat.le_of_ble_eq_true rfl, Nat.le_of_ble_eq_true rfl, by decide +kernel, rfl, fun h => absurd h (by decide)⟩, Nat.le_of_ble_eq_true rfl, kw_421, kw_422, rfl, Nat.le_of_ble_eq_true rfl⟩, fun h => absurd h (by decide)⟩, rfl, ⟨rfl, Nat.le_of_ble_eq_true rfl, Nat.le_of_ble_eq_true rfl, kw_381⟩, rfl, ⟨rfl, Or.inl rfl⟩, rfl, rfl, ⟨rfl, Nat.le_of_ble_eq_true rfl, Nat.le_of_ble_eq_true rfl, kw_356⟩, rfl, ⟨rfl, Or.inl rfl⟩, rfl, rfl, rfl, rfl, ⟨rfl, Nat.le_of_ble_eq_true rfl, Nat.le_of_ble_eq_true rfl, kw_356⟩, rfl, ⟨rfl, Or.inl rfl⟩, rfl, rfl, rfl, rfl, rfl, rfl, rfl, rfl, rfl, rfl, rfl, rfl, rfl, ⟨rfl, Nat.le_of_ble_eq_true rfl, Nat.le_of_ble_eq_true rfl, kw_373⟩, rfl, ⟨rfl, Or.inl rfl⟩, rfl, ⟨rfl, Nat.le_of_ble_eq_true rfl, Nat.le_of_ble_eq_true rfl, kw_373⟩, rfl, ⟨rfl, Or.inl rfl⟩, rfl, rfl, rfl, rfl, ⟨rfl, Or.inr ⟨rfl, rfl⟩⟩, trivial⟩
set_option maxRecDepth 100000 in
theorem dk_X6_bestLine : dck (yBy 101) 0 mc_X6_bestLine = true := by decide +kernel
set_option maxRecDepth 100000 in
theorem ok_X6_bestLine : okl 101 0 mc_X6_bestLine := ⟨rfl, rfl, rfl, rfl, rfl, rfl, ⟨rfl, Nat.le_of_ble_eq_true rfl, Nat.le_of_ble_eq_true rfl, kw_397⟩, rfl, rfl, ⟨rfl, Nat.le_of_ble_eq_true rfl, Nat.le_of_ble_eq_true rfl, kw_359⟩, rfl, rfl, rfl, rfl, ⟨rfl, Nat.le_of_ble_eq_true rfl, Nat.le_of_ble_eq_true rfl, kw_363⟩, rfl, ⟨rfl, Or.inl rfl⟩, rfl, rfl, rfl, rfl, rfl, rfl, ⟨rfl, fun _ => ⟨⟨kw_423, kw_399, kw_424, ⟨by decide +kernel, by decide +kernel, by decide +kernel⟩, Nat.le_of_ble_eq_true rfl, Nat.le_of_ble_eq_true rfl, by decide +kernel, rfl, fun h => absurd h (by decide)⟩, Nat.le_of_ble_eq_true rfl, kw_425, kw_426, rfl, Nat.le_of_ble_eq_true rfl⟩, fun h => absurd h (by decide)⟩, rfl, rfl, rfl, rfl, rfl, rfl, ⟨rfl, Or.inl ⟨rfl, rfl⟩⟩, trivial⟩
set_option maxRecDepth 100000 in
theorem dk_X6_layOn : dck (yBy 102) 0 mc_X6_layOn = true := by decide +kernel
set_option maxRecDepth 100000 in
theorem ok_X6_layOn : okl 102 0 mc_X6_layOn := ⟨rfl, ⟨rfl, Nat.le_of_ble_eq_true rfl, Nat.le_of_ble_eq_true rfl, kw_362⟩, rfl, rfl, rfl, rfl, ⟨rfl, Nat.le_of_ble_eq_true rfl, Nat.le_of_ble_eq_true rfl, kw_363⟩, rfl, ⟨rfl, Or.inl rfl⟩, rfl, rfl, rfl, rfl, ⟨rfl, Nat.le_of_ble_eq_true rfl, Nat.le_of_ble_eq_true rfl, kw_363⟩, rfl, rfl, ⟨rfl, Or.inl rfl⟩, rfl, rfl, rfl, rfl, rfl, rfl, rfl, ⟨rfl, Nat.le_of_ble_eq_true rfl, Nat.le_of_ble_eq_true rfl, kw_375⟩, rfl, rfl, ⟨rfl, Or.inl rfl⟩, rfl, rfl, rfl, ⟨rfl, rfl⟩, rfl, ⟨rfl, Nat.le_of_ble_eq_true rfl, Nat.le_of_ble_eq_true rfl, kw_378⟩, rfl, rfl, rfl, rfl, ⟨rfl, Nat.le_of_ble_eq_true rfl, Nat.le_of_ble_eq_true rfl, kw_383⟩, rfl, rfl, rfl, rfl, ⟨rfl, Nat.le_of_ble_eq_true rfl, Nat.le_of_ble_eq_true rfl, kw_384⟩, rfl, rfl, rfl, rfl, ⟨rfl, Nat.le_of_ble_eq_true rfl, Nat.le_of_ble_eq_true rfl, kw_382⟩, rfl, rfl, ⟨rfl, Or.inl rfl⟩, rfl, rfl, rfl, ⟨rfl, rfl⟩, trivial⟩
set_option maxRecDepth 100000 in
theorem dk_X6_laying : dck (yBy 103) 0 mc_X6_laying = true := by decide +kernel
set_option maxRecDepth 100000 in
theorem ok_X6_laying : okl 103 0 mc_X6_laying := ⟨rfl, rfl, rfl, rfl, ⟨rfl, Nat.le_of_ble_eq_true rfl, Nat.le_of_ble_eq_true rfl, kw_412⟩, rfl, rfl, ⟨rfl, Nat.le_of_ble_eq_true rfl, Nat.le_of_ble_eq_true rfl, kw_378⟩, rfl, ⟨rfl, Or.inl rfl⟩, rfl, rfl, rfl, rfl, ⟨rfl, fun _ => ⟨⟨kw_427, kw_399, kw_428, ⟨by decide +kernel, by decide +kernel, by decide +kernel⟩, Nat.le_of_ble_eq_true rfl, Nat.le_of_ble_eq_true rfl, by decide +kernel, rfl, fun h => absurd h (by decide)⟩, Nat.le_of_ble_eq_true rfl, kw_429, kw_430, rfl, Nat.le_of_ble_eq_true rfl⟩, fun h => absurd h (by decide)⟩, rfl, rfl, rfl, rfl, ⟨rfl, rfl⟩, rfl, rfl, rfl, ⟨rfl, fun _ => ⟨⟨kw_431, kw_399, kw_432, ⟨by decide +kernel, by decide +kernel, by decide +kernel⟩, Nat.le_of_ble_eq_true rfl, Nat.le_of_ble_eq_true rfl, by decide +kernel, rfl, fun h => absurd h (by decide)⟩, Nat.le_of_ble_eq_true rfl, kw_433, kw_434, rfl, Nat.le_of_ble_eq_true rfl⟩, fun h => absurd h (by decide)⟩, rfl, rfl, rfl, ⟨rfl, fun _ => ⟨⟨kw_435, kw_399, kw_436, ⟨by decide +kernel, by decide +kernel, by decide +kernel⟩, Nat.le_of_ble_eq_true rfl, Nat.le_of_ble_eq_true rfl, by decide +kernel, rfl, fun h => absurd h (by decide)⟩, Nat.le_of_ble_eq_true rfl, kw_437, kw_438, rfl, Nat.le_of_ble_eq_true rfl⟩, fun h => absurd h (by decide)⟩, rfl, rfl, rfl, rfl, rfl, ⟨rfl, Nat.le_of_ble_eq_true rfl, Nat.le_of_ble_eq_true rfl, kw_412⟩, rfl, rfl, ⟨rfl, Nat.le_of_ble_eq_true rfl, Nat.le_of_ble_eq_true rfl, kw_378⟩, rfl, ⟨rfl, Or.inl rfl⟩, rfl, rfl, rfl, rfl, ⟨rfl, fun _ => ⟨⟨kw_427, kw_399, kw_428, ⟨by decide +kernel, by decide +kernel, by decide +kernel⟩, Nat.le_of_ble_eq_true rfl, Nat.le_of_ble_eq_true rfl, by decide +kernel, rfl, fun h => absurd h (by decide)⟩, Nat.le_of_ble_eq_true rfl, kw_429, kw_430, rfl, Nat.le_of_ble_eq_true rfl⟩, fun h => absurd h (by decide)⟩, rfl, rfl, rfl, rfl, rfl, ⟨rfl, Nat.le_of_ble_eq_true rfl, Nat.le_of_ble_eq_true rfl, kw_381⟩, rfl, ⟨rfl, Or.inl rfl⟩, rfl, rfl, ⟨rfl, rfl⟩, rfl, rfl, rfl, ⟨rfl, fun _ => ⟨⟨kw_431, kw_399, kw_432, ⟨by decide +kernel, by decide +kernel, by decide +kernel⟩, Nat.le_of_ble_eq_true rfl, Nat.le_of_ble_eq_true rfl, by decide +kernel, rfl, fun h => absurd h (by decide)⟩, Nat.le_of_ble_eq_true rfl, kw_433, kw_434, rfl, Nat.le_of_ble_eq_true rfl⟩, fun h => absurd h (by decide)⟩, rfl, rfl, ⟨rfl, Nat.le_of_ble_eq_true rfl, Nat.le_of_ble_eq_true rfl, kw_381⟩, rfl, ⟨rfl, Or.inl rfl⟩, rfl, rfl, rfl, rfl, ⟨rfl, rfl⟩, trivial⟩
set_option maxRecDepth 100000 in
theorem dk_X6_allowed : dck (yBy 104) 0 mc_X6_allowed = true := by decide +kernel
set_option maxRecDepth 100000 in
theorem ok_X6_allowed : okl 104 0 mc_X6_allowed := ⟨rfl, ⟨rfl, Nat.le_of_ble_eq_true rfl, Nat.le_of_ble_eq_true rfl, kw_355⟩, rfl, ⟨rfl, Or.inl rfl⟩, rfl, rfl, rfl, ⟨rfl, Nat.le_of_ble_eq_true rfl, Nat.le_of_ble_eq_true rfl, kw_356⟩, rfl, ⟨rfl, Or.inl rfl⟩, ⟨rfl, Or.inl ⟨rfl, rfl⟩⟩, rfl, ⟨rfl, Nat.le_of_ble_eq_true rfl, Nat.le_of_ble_eq_true rfl, kw_360⟩, rfl, ⟨rfl, Or.inl rfl⟩, rfl, rfl, rfl, rfl, rfl, ⟨rfl, Nat.le_of_ble_eq_true rfl, Nat.le_of_ble_eq_true rfl, kw_361⟩, rfl, ⟨rfl, Or.inl rfl⟩, rfl, rfl, rfl, ⟨rfl, Nat.le_of_ble_eq_true rfl, Nat.le_of_ble_eq_true rfl, kw_439⟩, rfl, rfl, rfl, ⟨rfl, Nat.le_of_ble_eq_true rfl, Nat.le_of_ble_eq_true rfl, kw_377⟩, rfl, rfl, rfl, rfl, ⟨rfl, Nat.le_of_ble_eq_true rfl, Nat.le_of_ble_eq_true rfl, kw_439⟩, rfl, rfl, rfl, rfl, rfl, ⟨rfl, Or.inl rfl⟩, rfl, rfl, rfl, rfl, rfl, rfl, rfl, rfl, rfl, rfl, ⟨rfl, Nat.le_of_ble_eq_true rfl, Nat.le_of_ble_eq_true rfl, kw_356⟩, rfl, ⟨rfl, Or.inl rfl⟩, rfl, rfl, rfl, rfl, ⟨rfl, Nat.le_of_ble_eq_true rfl, Nat.le_of_ble_eq_true rfl, kw_356⟩, rfl, ⟨rfl, Or.inl rfl⟩, ⟨rfl, Or.inl ⟨rfl, rfl⟩⟩, trivial⟩
set_option maxRecDepth 100000 in
theorem dk_X6_sendFirst : dck (yBy 105) 0 mc_X6_sendFirst = true := by decide +kernel
set_option maxRecDepth 100000 in
theorem ok_X6_sendFirst : okl 105 0 mc_X6_sendFirst := ⟨rfl, ⟨rfl, Nat.le_of_ble_eq_true rfl, Nat.le_of_ble_eq_true rfl, kw_362⟩, rfl, rfl, rfl, ⟨rfl, Or.inl rfl⟩, rfl, rfl, ⟨rfl, Nat.le_of_ble_eq_true rfl, Nat.le_of_ble_eq_true rfl, kw_363⟩, rfl, rfl, ⟨rfl, Or.inl rfl⟩, rfl, rfl, rfl, rfl, rfl, rfl, rfl, ⟨rfl, Nat.le_of_ble_eq_true rfl, Nat.le_of_ble_eq_true rfl, kw_363⟩, rfl, ⟨rfl, Or.inl rfl⟩, rfl, rfl, ⟨rfl, Nat.le_of_ble_eq_true rfl, Nat.le_of_ble_eq_true rfl, kw_362⟩, rfl, rfl, rfl, rfl, rfl, rfl, ⟨rfl, Nat.le_of_ble_eq_true rfl, Nat.le_of_ble_eq_true rfl, kw_362⟩, rfl, rfl, rfl, rfl, rfl, rfl, rfl, ⟨rfl, Or.inl rfl⟩, rfl, rfl, rfl, rfl, ⟨rfl, Nat.le_of_ble_eq_true rfl, Nat.le_of_ble_eq_true rfl, kw_364⟩, rfl, rfl, rfl, rfl, rfl, rfl, rfl, ⟨rfl, Nat.le_of_ble_eq_true rfl, Nat.le_of_ble_eq_true rfl, kw_369⟩, rfl, ⟨rfl, Or.inl rfl⟩, rfl, ⟨rfl, Nat.le_of_ble_eq_true rfl, Nat.le_of_ble_eq_true rfl, kw_370⟩, rfl, ⟨rfl, Or.inl rfl⟩, rfl, rfl, rfl, rfl, rfl, rfl, ⟨rfl, Nat.le_of_ble_eq_true rfl, Nat.le_of_ble_eq_true rfl, kw_370⟩, rfl, rfl, ⟨rfl, Or.inl rfl⟩, rfl, rfl, rfl, rfl, ⟨rfl, Nat.le_of_ble_eq_true rfl, Nat.le_of_ble_eq_true rfl, kw_365⟩, rfl, rfl, rfl, rfl, ⟨rfl, Nat.le_of_ble_eq_true rfl, Nat.le_of_ble_eq_true rfl, kw_366⟩, rfl, rfl, ⟨rfl, Nat.le_of_ble_eq_true rfl, Nat.le_of_ble_eq_true rfl, kw_371⟩, rfl, ⟨rfl, Or.inl rfl⟩, rfl, rfl, ⟨rfl, Nat.le_of_ble_eq_true rfl, Nat.le_of_ble_eq_true rfl, kw_367⟩, rfl, rfl, ⟨rfl, Nat.le_of_ble_eq_true rfl, Nat.le_of_ble_eq_true rfl, kw_439⟩, rfl, ⟨rfl, Nat.le_of_ble_eq_true rfl, Nat.le_of_ble_eq_true rfl, kw_357⟩, rfl, ⟨rfl, Or.inl rfl⟩, rfl, rfl, rfl, ⟨rfl, Nat.le_of_ble_eq_true rfl, Nat.le_of_ble_eq_true rfl, kw_368⟩, rfl, rfl, rfl, rfl, rfl, rfl, rfl, ⟨rfl, Nat.le_of_ble_eq_true rfl, Nat.le_of_ble_eq_true rfl, kw_384⟩, rfl, rfl, ⟨rfl, Nat.le_of_ble_eq_true rfl, Nat.le_of_ble_eq_true rfl, kw_371⟩, rfl, ⟨rfl, Or.inl rfl⟩, rfl, rfl, ⟨rfl, Nat.le_of_ble_eq_true rfl, Nat.le_of_ble_eq_true rfl, kw_371⟩, rfl, rfl, ⟨rfl, Or.inl rfl⟩, rfl, rfl, rfl, ⟨rfl, rfl⟩, trivial⟩
set_option maxRecDepth 100000 in
theorem dk_X6_sending : dck (yBy 106) 0 mc_X6_sending = true := by decide +kernel
set_option maxRecDepth 100000 in
theorem ok_X6_sending : okl 106 0 mc_X6_sending := ⟨rfl, ⟨rfl, Nat.le_of_ble_eq_true rfl, Nat.le_of_ble_eq_true rfl, kw_377⟩, rfl, rfl, rfl, rfl, ⟨rfl, Nat.le_of_ble_eq_true rfl, Nat.le_of_ble_eq_true rfl, kw_439⟩, rfl, rfl, rfl, rfl, rfl, rfl, ⟨rfl, Nat.le_of_ble_eq_true rfl, Nat.le_of_ble_eq_true rfl, kw_359⟩, rfl, rfl, rfl, ⟨rfl, rfl⟩, rfl, rfl, ⟨rfl, fun _ => ⟨⟨kw_440, kw_399, kw_441, ⟨by decide +kernel, by decide +kernel, by decide +kernel⟩, Nat.le_of_ble_eq_true rfl, Nat.le_of_ble_eq_true rfl, by decide +kernel, rfl, fun h => absurd h (by decide)⟩, Nat.le_of_ble_eq_true rfl, kw_442, kw_443, rfl, Nat.le_of_ble_eq_true rfl⟩, fun h => absurd h (by decide)⟩, rfl, rfl, rfl, rfl, ⟨rfl, Nat.le_of_ble_eq_true rfl, Nat.le_of_ble_eq_true rfl, kw_363⟩, rfl, ⟨rfl, Or.inl rfl⟩, rfl, rfl, ⟨rfl, Nat.le_of_ble_eq_true rfl, Nat.le_of_ble_eq_true rfl, kw_370⟩, rfl, ⟨rfl, Or.inl rfl⟩, rfl, rfl, rfl, rfl, ⟨rfl, Nat.le_of_ble_eq_true rfl, Nat.le_of_ble_eq_true rfl, kw_362⟩, rfl, rfl, rfl, ⟨rfl, Or.inl rfl⟩, ⟨rfl, fun _ => ⟨⟨kw_415, kw_399, kw_416, ⟨by decide +kernel, by decide +kernel, by decide +kernel⟩, Nat.le_of_ble_eq_true rfl, Nat.le_of_ble_eq_true rfl, by decide +kernel, rfl, fun h => absurd h (by decide)⟩, Nat.le_of_ble_eq_true rfl, kw_417, kw_418, rfl, Nat.le_of_ble_eq_true rfl⟩, fun h => absurd h (by decide)⟩, rfl, ⟨rfl, Nat.le_of_ble_eq_true rfl, Nat.le_of_ble_eq_true rfl, kw_364⟩, rfl, ⟨rfl, Or.inl rfl⟩, rfl, rfl, rfl, ⟨rfl, Nat.le_of_ble_eq_true rfl, Nat.le_of_ble_eq_true rfl, kw_355⟩, rfl, ⟨rfl, Or.inl rfl⟩, rfl, rfl, rfl, rfl, ⟨rfl, rfl⟩, rfl, rfl, rfl, rfl, rfl, rfl, rfl, rfl, ⟨rfl, Nat.le_of_ble_eq_true rfl, Nat.le_of_ble_eq_true rfl, kw_364⟩, rfl, rfl, ⟨rfl, Or.inl rfl⟩, rfl, rfl, rfl, rfl, rfl, rfl, rfl, rfl, ⟨rfl, Nat.le_of_ble_eq_true rfl, Nat.le_of_ble_eq_true rfl, kw_373⟩, rfl, rfl, ⟨rfl, Or.inl rfl⟩, rfl, rfl, rfl, rfl, ⟨rfl, Nat.le_of_ble_eq_true rfl, Nat.le_of_ble_eq_true rfl, kw_377⟩, rfl, rfl, rfl, rfl, ⟨rfl, Nat.le_of_ble_eq_true rfl, Nat.le_of_ble_eq_true rfl, kw_439⟩, rfl, rfl, rfl, rfl, ⟨rfl, Or.inl rfl⟩, rfl, rfl, rfl, rfl, rfl, rfl, rfl, rfl, ⟨rfl, fun _ => ⟨⟨kw_444, kw_399, kw_445, ⟨by decide +kernel, by decide +kernel, by decide +kernel⟩, Nat.le_of_ble_eq_true rfl, Nat.le_of_ble_eq_true rfl, by decide +kernel, rfl, fun h => absurd h (by decide)⟩, Nat.le_of_ble_eq_true rfl, kw_446, kw_447, rfl, Nat.le_of_ble_eq_true rfl⟩, fun h => absurd h (by decide)⟩, rfl, ⟨rfl, rfl⟩, trivial⟩
set_option maxRecDepth 100000 in
theorem dk_X6_coming : dck (yBy 107) 0 mc_X6_coming = true := by decide +kernel
set_option maxRecDepth 100000 in
theorem ok_X6_coming : okl 107 0 mc_X6_coming := ⟨rfl, ⟨rfl, Nat.le_of_ble_eq_true rfl, Nat.le_of_ble_eq_true rfl, kw_370⟩, rfl, ⟨rfl, Or.inl rfl⟩, rfl, rfl, ⟨rfl, Nat.le_of_ble_eq_true rfl, Nat.le_of_ble_eq_true rfl, kw_367⟩, rfl, rfl, rfl, rfl, ⟨rfl, Nat.le_of_ble_eq_true rfl, Nat.le_of_ble_eq_true rfl, kw_369⟩, rfl, ⟨rfl, Or.inl rfl⟩, rfl, ⟨rfl, Or.inl rfl⟩, rfl, ⟨rfl, Nat.le_of_ble_eq_true rfl, Nat.le_of_ble_eq_true rfl, kw_439⟩, rfl, rfl, rfl, rfl, rfl, ⟨rfl, Nat.le_of_ble_eq_true rfl, Nat.le_of_ble_eq_true rfl, kw_369⟩, rfl, ⟨rfl, Or.inl rfl⟩, rfl, rfl, rfl, ⟨rfl, Nat.le_of_ble_eq_true rfl, Nat.le_of_ble_eq_true rfl, kw_369⟩, rfl, rfl, ⟨rfl, Nat.le_of_ble_eq_true rfl, Nat.le_of_ble_eq_true rfl, kw_369⟩, rfl, ⟨rfl, Or.inl rfl⟩, rfl, rfl, rfl, rfl, rfl, rfl, ⟨rfl, Nat.le_of_ble_eq_true rfl, Nat.le_of_ble_eq_true rfl, kw_370⟩, rfl, rfl, ⟨rfl, Or.inl rfl⟩, rfl, rfl, rfl, rfl, ⟨rfl, Nat.le_of_ble_eq_true rfl, Nat.le_of_ble_eq_true rfl, kw_368⟩, rfl, ⟨rfl, Or.inl rfl⟩, rfl, rfl, rfl, rfl, rfl, rfl, ⟨rfl, Nat.le_of_ble_eq_true rfl, Nat.le_of_ble_eq_true rfl, kw_368⟩, rfl, ⟨rfl, Or.inl rfl⟩, rfl, rfl, rfl, ⟨rfl, Nat.le_of_ble_eq_true rfl, Nat.le_of_ble_eq_true rfl, kw_376⟩, rfl, rfl, ⟨rfl, Or.inl rfl⟩, rfl, rfl, rfl, rfl, rfl, rfl, rfl, ⟨rfl, Nat.le_of_ble_eq_true rfl, Nat.le_of_ble_eq_true rfl, kw_365⟩, rfl, ⟨rfl, Or.inl rfl⟩, rfl, ⟨rfl, Nat.le_of_ble_eq_true rfl, Nat.le_of_ble_eq_true rfl, kw_366⟩, rfl, ⟨rfl, Or.inl rfl⟩, ⟨rfl, fun _ => ⟨⟨kw_448, kw_399, kw_449, ⟨by decide +kernel, by decide +kernel, by decide +kernel⟩, Nat.le_of_ble_eq_true rfl, Nat.le_of_ble_eq_true rfl, by decide +kernel, rfl, fun h => absurd h (by decide)⟩, Nat.le_of_ble_eq_true rfl, kw_450, kw_451, rfl, Nat.le_of_ble_eq_true rfl⟩, fun h => absurd h (by decide)⟩, rfl, ⟨rfl, rfl⟩, trivial⟩
set_option maxRecDepth 100000 in
theorem dk_X6_comes : dck (yBy 108) 0 mc_X6_comes = true := by decide +kernel
set_option maxRecDepth 100000 in
theorem ok_X6_comes : okl 108 0 mc_X6_comes := ⟨rfl, rfl, rfl, rfl, ⟨rfl, Nat.le_of_ble_eq_true rfl, Nat.le_of_ble_eq_true rfl, kw_412⟩, rfl, rfl, ⟨rfl, Nat.le_of_ble_eq_true rfl, Nat.le_of_ble_eq_true rfl, kw_372⟩, rfl, ⟨rfl, Or.inl rfl⟩, rfl, rfl, rfl, ⟨rfl, Nat.le_of_ble_eq_true rfl, Nat.le_of_ble_eq_true rfl, kw_378⟩, rfl, ⟨rfl, Or.inl rfl⟩, rfl, rfl, rfl, ⟨rfl, Nat.le_of_ble_eq_true rfl, Nat.le_of_ble_eq_true rfl, kw_383⟩, rfl, ⟨rfl, Or.inl rfl⟩, rfl, rfl, rfl, ⟨rfl, Nat.le_of_ble_eq_true rfl, Nat.le_of_ble_eq_true rfl, kw_384⟩, rfl, ⟨rfl, Or.inl rfl⟩, rfl, ⟨rfl, Nat.le_of_ble_eq_true rfl, Nat.le_of_ble_eq_true rfl, kw_372⟩, rfl, ⟨rfl, Or.inl rfl⟩, rfl, rfl, rfl, ⟨rfl, fun _ => ⟨⟨kw_398, kw_399, kw_400, ⟨by decide +kernel, by decide +kernel, by decide +kernel⟩, Nat.le_of_ble_eq_true rfl, Nat.le_of_ble_eq_true rfl, by decide +kernel, rfl, fun h => absurd h (by decide)⟩, kw_401⟩, fun h => absurd h (by decide), fun h => absurd h (by decide)⟩, rfl, rfl, rfl, rfl, ⟨rfl, fun _ => ⟨⟨kw_452, kw_399, kw_453, ⟨by decide +kernel, by decide +kernel, by decide +kernel⟩, Nat.le_of_ble_eq_true rfl, Nat.le_of_ble_eq_true rfl, by decide +kernel, rfl, fun h => absurd h (by decide)⟩, Nat.le_of_ble_eq_true rfl, kw_454, kw_455, rfl, Nat.le_of_ble_eq_true rfl⟩, fun h => absurd h (by decide)⟩, rfl, rfl, rfl, ⟨rfl, Nat.le_of_ble_eq_true rfl, Nat.le_of_ble_eq_true rfl, kw_372⟩, rfl, rfl, rfl, rfl, rfl, rfl, rfl, rfl, rfl, ⟨rfl, Nat.le_of_ble_eq_true rfl, Nat.le_of_ble_eq_true rfl, kw_378⟩, rfl, rfl, rfl, ⟨rfl, rfl⟩, trivial⟩
set_option maxRecDepth 100000 in
theorem dk_X6_isWhole : dck (yBy 109) 0 mc_X6_isWhole = true := by decide +kernel
set_option maxRecDepth 100000 in
theorem ok_X6_isWhole : okl 109 0 mc_X6_isWhole := ⟨rfl, rfl, rfl, rfl, rfl, rfl, ⟨rfl, Nat.le_of_ble_eq_true rfl, Nat.le_of_ble_eq_true rfl, kw_388⟩, rfl, ⟨rfl, Or.inl rfl⟩, rfl, rfl, rfl, rfl, ⟨rfl, Nat.le_of_ble_eq_true rfl, Nat.le_of_ble_eq_true rfl, kw_378⟩, rfl, ⟨rfl, Nat.le_of_ble_eq_true rfl, Nat.le_of_ble_eq_true rfl, kw_387⟩, rfl, ⟨rfl, Or.inl rfl⟩, rfl, rfl, ⟨rfl, Or.inl rfl⟩, rfl, rfl, rfl, rfl, rfl, rfl, rfl, rfl, rfl, ⟨rfl, Or.inr ⟨rfl, rfl⟩⟩, trivial⟩
set_option maxRecDepth 100000 in
theorem dk_X6_step : dck (yBy 110) 0 mc_X6_step = true := by decide +kernel
set_option maxRecDepth 100000 in
theorem ok_X6_step : okl 110 0 mc_X6_step := ⟨rfl, rfl, ⟨rfl, Nat.le_of_ble_eq_true rfl, Nat.le_of_ble_eq_true rfl, kw_439⟩, rfl, rfl, ⟨rfl, Nat.le_of_ble_eq_true rfl, Nat.le_of_ble_eq_true rfl, kw_439, Or.inl rfl⟩, rfl, ⟨rfl, fun _ => ⟨⟨kw_456, kw_399, kw_457, ⟨by decide +kernel, by decide +kernel, by decide +kernel⟩, Nat.le_of_ble_eq_true rfl, Nat.le_of_ble_eq_true rfl, by decide +kernel, rfl, fun h => absurd h (by decide)⟩, Nat.le_of_ble_eq_true rfl, kw_458, kw_459, rfl, Nat.le_of_ble_eq_true rfl⟩, fun h => absurd h (by decide)⟩, rfl, rfl, rfl, rfl, ⟨rfl, Nat.le_of_ble_eq_true rfl, Nat.le_of_ble_eq_true rfl, kw_397⟩, rfl, rfl, rfl, ⟨rfl, fun _ => ⟨⟨kw_460, kw_399, kw_461, ⟨by decide +kernel, by decide +kernel, by decide +kernel⟩, Nat.le_of_ble_eq_true rfl, Nat.le_of_ble_eq_true rfl, by decide +kernel, rfl, fun h => absurd h (by decide)⟩, Nat.le_of_ble_eq_true rfl, kw_462, kw_463, rfl, Nat.le_of_ble_eq_true rfl⟩, fun h => absurd h (by decide)⟩, rfl, rfl, rfl, rfl, rfl, rfl, ⟨rfl, Nat.le_of_ble_eq_true rfl, Nat.le_of_ble_eq_true rfl, kw_397⟩, rfl, rfl, rfl, ⟨rfl, fun _ => ⟨⟨kw_464, kw_399, kw_465, ⟨by decide +kernel, by decide +kernel, by decide +kernel⟩, Nat.le_of_ble_eq_true rfl, Nat.le_of_ble_eq_true rfl, by decide +kernel, rfl, fun h => absurd h (by decide)⟩, Nat.le_of_ble_eq_true rfl, kw_466, kw_467, rfl, Nat.le_of_ble_eq_true rfl⟩, fun h => absurd h (by decide)⟩, rfl, rfl, rfl, ⟨rfl, Nat.le_of_ble_eq_true rfl, Nat.le_of_ble_eq_true rfl, kw_413⟩, rfl, ⟨rfl, Nat.le_of_ble_eq_true rfl, Nat.le_of_ble_eq_true rfl, kw_411⟩, rfl, rfl, rfl, ⟨rfl, Nat.le_of_ble_eq_true rfl, Nat.le_of_ble_eq_true rfl, kw_413⟩, ⟨rfl, fun _ => ⟨⟨kw_468, kw_399, kw_469, ⟨by decide +kernel, by decide +kernel, by decide +kernel⟩, Nat.le_of_ble_eq_true rfl, Nat.le_of_ble_eq_true rfl, by decide +kernel, rfl, fun h => absurd h (by decide)⟩, Nat.le_of_ble_eq_true rfl, kw_470, kw_471, rfl, Nat.le_of_ble_eq_true rfl⟩, fun h => absurd h (by decide)⟩, rfl, rfl, ⟨rfl, Nat.le_of_ble_eq_true rfl, Nat.le_of_ble_eq_true rfl, kw_389⟩, rfl, ⟨rfl, Nat.le_of_ble_eq_true rfl, Nat.le_of_ble_eq_true rfl, kw_413⟩, rfl, ⟨rfl, Nat.le_of_ble_eq_true rfl, Nat.le_of_ble_eq_true rfl, kw_439⟩, rfl, rfl, rfl, ⟨rfl, Nat.le_of_ble_eq_true rfl, Nat.le_of_ble_eq_true rfl, kw_413⟩, rfl, rfl, ⟨rfl, Nat.le_of_ble_eq_true rfl, Nat.le_of_ble_eq_true rfl, kw_413, Or.inl rfl⟩, rfl, rfl, rfl, rfl, rfl, ⟨rfl, Nat.le_of_ble_eq_true rfl, Nat.le_of_ble_eq_true rfl, kw_397⟩, rfl, rfl, ⟨rfl, Nat.le_of_ble_eq_true rfl, Nat.le_of_ble_eq_true rfl, kw_359⟩, rfl, rfl, rfl, rfl, ⟨rfl, Nat.le_of_ble_eq_true rfl, Nat.le_of_ble_eq_true rfl, kw_363⟩, rfl, ⟨rfl, Or.inl rfl⟩, rfl, rfl, ⟨rfl, Nat.le_of_ble_eq_true rfl, Nat.le_of_ble_eq_true rfl, kw_370⟩, rfl, ⟨rfl, Or.inl rfl⟩, rfl, rfl, ⟨rfl, Nat.le_of_ble_eq_true rfl, Nat.le_of_ble_eq_true rfl, kw_372⟩, rfl, ⟨rfl, Or.inl rfl⟩, rfl, ⟨rfl, Nat.le_of_ble_eq_true rfl, Nat.le_of_ble_eq_true rfl, kw_371⟩, rfl, ⟨rfl, Or.inl rfl⟩, rfl, rfl, rfl, rfl, ⟨rfl, fun _ => ⟨⟨kw_431, kw_399, kw_432, ⟨by decide +kernel, by decide +kernel, by decide +kernel⟩, Nat.le_of_ble_eq_true rfl, Nat.le_of_ble_eq_true rfl, by decide +kernel, rfl, fun h => absurd h (by decide)⟩, Nat.le_of_ble_eq_true rfl, kw_433, kw_434, rfl, Nat.le_of_ble_eq_true rfl⟩, fun h => absurd h (by decide)⟩, rfl, rfl, ⟨rfl, rfl⟩, trivial⟩
set_option maxRecDepth 100000 in
theorem dk_X6_tick : dck (yBy 111) 0 mc_X6_tick = true := by decide +kernel
set_option maxRecDepth 100000 in
theorem ok_X6_tick : okl 111 0 mc_X6_tick := ⟨rfl, rfl, rfl, rfl, rfl, ⟨rfl, fun _ => ⟨⟨kw_402, kw_399, kw_403, ⟨by decide +kernel, by decide +kernel, by decide +kernel⟩, Nat.le_of_ble_eq_true rfl, Nat.le_of_ble_eq_true rfl, by decide +kernel, rfl, fun h => absurd h (by decide)⟩, Nat.le_of_ble_eq_true rfl, kw_404, kw_405, rfl, Nat.le_of_ble_eq_true rfl⟩, fun h => absurd h (by decide)⟩, ⟨rfl, Or.inl ⟨rfl, rfl⟩⟩, rfl, rfl, rfl, rfl, ⟨rfl, Nat.le_of_ble_eq_true rfl, Nat.le_of_ble_eq_true rfl, kw_439⟩, rfl, rfl, rfl, rfl, rfl, rfl, ⟨rfl, fun _ => ⟨⟨kw_402, kw_399, kw_403, ⟨by decide +kernel, by decide +kernel, by decide +kernel⟩, Nat.le_of_ble_eq_true rfl, Nat.le_of_ble_eq_true rfl, by decide +kernel, rfl, fun h => absurd h (by decide)⟩, Nat.le_of_ble_eq_true rfl, kw_404, kw_405, rfl, Nat.le_of_ble_eq_true rfl⟩, fun h => absurd h (by decide)⟩, ⟨rfl, Or.inl ⟨rfl, rfl⟩⟩, rfl, ⟨rfl, Nat.le_of_ble_eq_true rfl, Nat.le_of_ble_eq_true rfl, kw_413⟩, rfl, rfl, rfl, rfl, rfl, rfl, rfl, ⟨rfl, fun _ => ⟨⟨kw_472, kw_399, kw_473, ⟨by decide +kernel, by decide +kernel, by decide +kernel⟩, Nat.le_of_ble_eq_true rfl, Nat.le_of_ble_eq_true rfl, by decide +kernel, rfl, fun h => absurd h (by decide)⟩, Nat.le_of_ble_eq_true rfl, kw_474, kw_475, rfl, Nat.le_of_ble_eq_true rfl⟩, fun h => absurd h (by decide)⟩, rfl, rfl, rfl, ⟨rfl, Nat.le_of_ble_eq_true rfl, Nat.le_of_ble_eq_true rfl, kw_413⟩, rfl, rfl, ⟨rfl, Or.inl ⟨rfl, rfl⟩⟩, trivial⟩
set_option maxRecDepth 100000 in
theorem dk_X6_firstNot : dck (yBy 112) 0 mc_X6_firstNot = true := by decide +kernel
set_option maxRecDepth 100000 in
theorem ok_X6_firstNot : okl 112 0 mc_X6_firstNot := ⟨rfl, rfl, rfl, rfl, ⟨rfl, Nat.le_of_ble_eq_true rfl, Nat.le_of_ble_eq_true rfl, kw_370⟩, rfl, ⟨rfl, Or.inl rfl⟩, rfl, rfl, rfl, rfl, rfl, ⟨rfl, Nat.le_of_ble_eq_true rfl, Nat.le_of_ble_eq_true rfl, kw_369⟩, rfl, ⟨rfl, Or.inl rfl⟩, rfl, rfl, rfl, rfl, rfl, rfl, rfl, ⟨rfl, Nat.le_of_ble_eq_true rfl, Nat.le_of_ble_eq_true rfl, kw_368⟩, rfl, ⟨rfl, Or.inl rfl⟩, rfl, rfl, rfl, rfl, ⟨rfl, Or.inl ⟨rfl, rfl⟩⟩, rfl, rfl, rfl, ⟨rfl, Or.inl ⟨rfl, rfl⟩⟩, trivial⟩
set_option maxRecDepth 100000 in
theorem dk_X6_lose_ : dck (yBy 113) 0 mc_X6_lose_ = true := by decide +kernel
set_option maxRecDepth 100000 in
theorem ok_X6_lose_ : okl 113 0 mc_X6_lose_ := ⟨rfl, rfl, ⟨rfl, fun _ => ⟨⟨kw_406, kw_399, kw_407, ⟨by decide +kernel, by decide +kernel, by decide +kernel⟩, Nat.le_of_ble_eq_true rfl, Nat.le_of_ble_eq_true rfl, by decide +kernel, rfl, fun h => absurd h (by decide)⟩, Nat.le_of_ble_eq_true rfl, kw_408, kw_409, rfl, Nat.le_of_ble_eq_true rfl⟩, fun h => absurd h (by decide)⟩, rfl, rfl, rfl, ⟨rfl, fun _ => ⟨⟨kw_402, kw_399, kw_403, ⟨by decide +kernel, by decide +kernel, by decide +kernel⟩, Nat.le_of_ble_eq_true rfl, Nat.le_of_ble_eq_true rfl, by decide +kernel, rfl, fun h => absurd h (by decide)⟩, Nat.le_of_ble_eq_true rfl, kw_404, kw_405, rfl, Nat.le_of_ble_eq_true rfl⟩, fun h => absurd h (by decide)⟩, ⟨rfl, Or.inl ⟨rfl, rfl⟩⟩, rfl, ⟨rfl, Nat.le_of_ble_eq_true rfl, Nat.le_of_ble_eq_true rfl, kw_355⟩, rfl, ⟨rfl, Or.inl rfl⟩, rfl, rfl, ⟨rfl, Nat.le_of_ble_eq_true rfl, Nat.le_of_ble_eq_true rfl, kw_355⟩, rfl, ⟨rfl, Or.inl rfl⟩, rfl, rfl, rfl, rfl, ⟨rfl, fun _ => ⟨⟨kw_402, kw_399, kw_403, ⟨by decide +kernel, by decide +kernel, by decide +kernel⟩, Nat.le_of_ble_eq_true rfl, Nat.le_of_ble_eq_true rfl, by decide +kernel, rfl, fun h => absurd h (by decide)⟩, Nat.le_of_ble_eq_true rfl, kw_404, kw_405, rfl, Nat.le_of_ble_eq_true rfl⟩, fun h => absurd h (by decide)⟩, ⟨rfl, Or.inl ⟨rfl, rfl⟩⟩, rfl, rfl, rfl, ⟨rfl, fun _ => ⟨⟨kw_476, kw_399, kw_477, ⟨by decide +kernel, by decide +kernel, by decide +kernel⟩, Nat.le_of_ble_eq_true rfl, Nat.le_of_ble_eq_true rfl, by decide +kernel, rfl, fun h => absurd h (by decide)⟩, Nat.le_of_ble_eq_true rfl, kw_478, kw_479, rfl, Nat.le_of_ble_eq_true rfl⟩, fun h => absurd h (by decide)⟩, rfl, rfl, rfl, rfl, rfl, rfl, ⟨rfl, fun _ => ⟨⟨kw_402, kw_399, kw_403, ⟨by decide +kernel, by decide +kernel, by decide +kernel⟩, Nat.le_of_ble_eq_true rfl, Nat.le_of_ble_eq_true rfl, by decide +kernel, rfl, fun h => absurd h (by decide)⟩, Nat.le_of_ble_eq_true rfl, kw_404, kw_405, rfl, Nat.le_of_ble_eq_true rfl⟩, fun h => absurd h (by decide)⟩, ⟨rfl, Or.inl ⟨rfl, rfl⟩⟩, rfl, ⟨rfl, Nat.le_of_ble_eq_true rfl, Nat.le_of_ble_eq_true rfl, kw_368⟩, rfl, rfl, ⟨rfl, Or.inl rfl⟩, rfl, rfl, rfl, rfl, ⟨rfl, Nat.le_of_ble_eq_true rfl, Nat.le_of_ble_eq_true rfl, kw_365⟩, rfl, ⟨rfl, Or.inl rfl⟩, rfl, rfl, rfl, rfl, rfl, ⟨rfl, Nat.le_of_ble_eq_true rfl, Nat.le_of_ble_eq_true rfl, kw_365⟩, rfl, ⟨rfl, Or.inl rfl⟩, ⟨rfl, Or.inl ⟨rfl, rfl⟩⟩, trivial⟩
set_option maxRecDepth 100000 in
theorem dk_X6_bend : dck (yBy 114) 0 mc_X6_bend = true := by decide +kernel
set_option maxRecDepth 100000 in
theorem ok_X6_bend : okl 114 0 mc_X6_bend := ⟨rfl, rfl, ⟨rfl, fun _ => ⟨⟨kw_406, kw_399, kw_407, ⟨by decide +kernel, by decide +kernel, by decide +kernel⟩, Nat.le_of_ble_eq_true rfl, Nat.le_of_ble_eq_true rfl, by decide +kernel, rfl, fun h => absurd h (by decide)⟩, Nat.le_of_ble_eq_true rfl, kw_408, kw_409, rfl, Nat.le_of_ble_eq_true rfl⟩, fun h => absurd h (by decide)⟩, rfl, rfl, rfl, ⟨rfl, fun _ => ⟨⟨kw_402, kw_399, kw_403, ⟨by decide +kernel, by decide +kernel, by decide +kernel⟩, Nat.le_of_ble_eq_true rfl, Nat.le_of_ble_eq_true rfl, by decide +kernel, rfl, fun h => absurd h (by decide)⟩, Nat.le_of_ble_eq_true rfl, kw_404, kw_405, rfl, Nat.le_of_ble_eq_true rfl⟩, fun h => absurd h (by decide)⟩, ⟨rfl, Or.inl ⟨rfl, rfl⟩⟩, rfl, rfl, rfl, rfl, rfl, ⟨rfl, fun _ => ⟨⟨kw_402, kw_399, kw_403, ⟨by decide +kernel, by decide +kernel, by decide +kernel⟩, Nat.le_of_ble_eq_true rfl, Nat.le_of_ble_eq_true rfl, by decide +kernel, rfl, fun h => absurd h (by decide)⟩, Nat.le_of_ble_eq_true rfl, kw_404, kw_405, rfl, Nat.le_of_ble_eq_true rfl⟩, fun h => absurd h (by decide)⟩, ⟨rfl, Or.inl ⟨rfl, rfl⟩⟩, rfl, rfl, rfl, rfl, rfl, ⟨rfl, fun _ => ⟨⟨kw_402, kw_399, kw_403, ⟨by decide +kernel, by decide +kernel, by decide +kernel⟩, Nat.le_of_ble_eq_true rfl, Nat.le_of_ble_eq_true rfl, by decide +kernel, rfl, fun h => absurd h (by decide)⟩, Nat.le_of_ble_eq_true rfl, kw_404, kw_405, rfl, Nat.le_of_ble_eq_true rfl⟩, fun h => absurd h (by decide)⟩, ⟨rfl, Or.inl ⟨rfl, rfl⟩⟩, rfl, rfl, rfl, ⟨rfl, fun _ => ⟨⟨kw_476, kw_399, kw_477, ⟨by decide +kernel, by decide +kernel, by decide +kernel⟩, Nat.le_of_ble_eq_true rfl, Nat.le_of_ble_eq_true rfl, by decide +kernel, rfl, fun h => absurd h (by decide)⟩, Nat.le_of_ble_eq_true rfl, kw_478, kw_479, rfl, Nat.le_of_ble_eq_true rfl⟩, fun h => absurd h (by decide)⟩, rfl, rfl, rfl, rfl, rfl, rfl, ⟨rfl, fun _ => ⟨⟨kw_402, kw_399, kw_403, ⟨by decide +kernel, by decide +kernel, by decide +kernel⟩, Nat.le_of_ble_eq_true rfl, Nat.le_of_ble_eq_true rfl, by decide +kernel, rfl, fun h => absurd h (by decide)⟩, Nat.le_of_ble_eq_true rfl, kw_404, kw_405, rfl, Nat.le_of_ble_eq_true rfl⟩, fun h => absurd h (by decide)⟩, ⟨rfl, Or.inl ⟨rfl, rfl⟩⟩, rfl, ⟨rfl, Nat.le_of_ble_eq_true rfl, Nat.le_of_ble_eq_true rfl, kw_365⟩, rfl, ⟨rfl, Or.inl rfl⟩, rfl, rfl, rfl, rfl, ⟨rfl, fun _ => ⟨⟨kw_402, kw_399, kw_403, ⟨by decide +kernel, by decide +kernel, by decide +kernel⟩, Nat.le_of_ble_eq_true rfl, Nat.le_of_ble_eq_true rfl, by decide +kernel, rfl, fun h => absurd h (by decide)⟩, Nat.le_of_ble_eq_true rfl, kw_404, kw_405, rfl, Nat.le_of_ble_eq_true rfl⟩, fun h => absurd h (by decide)⟩, ⟨rfl, Or.inl ⟨rfl, rfl⟩⟩, rfl, rfl, rfl, ⟨rfl, Nat.le_of_ble_eq_true rfl, Nat.le_of_ble_eq_true rfl, kw_381⟩, rfl, ⟨rfl, Nat.le_of_ble_eq_true rfl, Nat.le_of_ble_eq_true rfl, kw_365⟩, rfl, ⟨rfl, Or.inl rfl⟩, ⟨rfl, Or.inl rfl⟩, rfl, rfl, ⟨rfl, fun _ => ⟨⟨kw_398, kw_399, kw_400, ⟨by decide +kernel, by decide +kernel, by decide +kernel⟩, Nat.le_of_ble_eq_true rfl, Nat.le_of_ble_eq_true rfl, by decide +kernel, rfl, fun h => absurd h (by decide)⟩, kw_401⟩, fun h => absurd h (by decide), fun h => absurd h (by decide)⟩, rfl, rfl, rfl, ⟨rfl, fun _ => ⟨⟨kw_402, kw_399, kw_403, ⟨by decide +kernel, by decide +kernel, by decide +kernel⟩, Nat.le_of_ble_eq_true rfl, Nat.le_of_ble_eq_true rfl, by decide +kernel, rfl, fun h => absurd h (by decide)⟩, Nat.le_of_ble_eq_true rfl, kw_404, kw_405, rfl, Nat.le_of_ble_eq_true rfl⟩, fun h => absurd h (by decide)⟩, ⟨rfl, Or.inl ⟨rfl, rfl⟩⟩, rfl, ⟨rfl, Nat.le_of_ble_eq_true rfl, Nat.le_of_ble_eq_true rfl, kw_368⟩, rfl, rfl, ⟨rfl, Or.inl rfl⟩, rfl, rfl, rfl, rfl, ⟨rfl, Nat.le_of_ble_eq_true rfl, Nat.le_of_ble_eq_true rfl, kw_365⟩, rfl, ⟨rfl, Or.inl rfl⟩, ⟨rfl, Or.inl ⟨rfl, rfl⟩⟩, trivial⟩
set_option maxRecDepth 100000 in
theorem dk_X6_fall : dck (yBy 115) 0 mc_X6_fall = true := by decide +kernel
set_option maxRecDepth 100000 in
theorem ok_X6_fall : okl 115 0 mc_X6_fall := ⟨rfl, rfl, ⟨rfl, fun _ => ⟨⟨kw_406, kw_399, kw_407, ⟨by decide +kernel, by decide +kernel, by decide +kernel⟩, Nat.le_of_ble_eq_true rfl, Nat.le_of_ble_eq_true rfl, by decide +kernel, rfl, fun h => absurd h (by decide)⟩, Nat.le_of_ble_eq_true rfl, kw_408, kw_409, rfl, Nat.le_of_ble_eq_true rfl⟩, fun h => absurd h (by decide)⟩, rfl, rfl, rfl, ⟨rfl, fun _ => ⟨⟨kw_402, kw_399, kw_403, ⟨by decide +kernel, by decide +kernel, by decide +kernel⟩, Nat.le_of_ble_eq_true rfl, Nat.le_of_ble_eq_true rfl, by decide +kernel, rfl, fun h => absurd h (by decide)⟩, Nat.le_of_ble_eq_true rfl, kw_404, kw_405, rfl, Nat.le_of_ble_eq_true rfl⟩, fun h => absurd h (by decide)⟩, ⟨rfl, Or.inl ⟨rfl, rfl⟩⟩, rfl, ⟨rfl, Nat.le_of_ble_eq_true rfl, Nat.le_of_ble_eq_true rfl, kw_359⟩, rfl, rfl, rfl, rfl, rfl, ⟨rfl, fun _ => ⟨⟨kw_402, kw_399, kw_403, ⟨by decide +kernel, by decide +kernel, by decide +kernel⟩, Nat.le_of_ble_eq_true rfl, Nat.le_of_ble_eq_true rfl, by decide +kernel, rfl, fun h => absurd h (by decide)⟩, Nat.le_of_ble_eq_true rfl, kw_404, kw_405, rfl, Nat.le_of_ble_eq_true rfl⟩, fun h => absurd h (by decide)⟩, ⟨rfl, Or.inl ⟨rfl, rfl⟩⟩, rfl, ⟨rfl, Nat.le_of_ble_eq_true rfl, Nat.le_of_ble_eq_true rfl, kw_359⟩, rfl, rfl, rfl, rfl, rfl, rfl, rfl, rfl, rfl, ⟨rfl, Nat.le_of_ble_eq_true rfl, Nat.le_of_ble_eq_true rfl, kw_412⟩, rfl, rfl, ⟨rfl, Nat.le_of_ble_eq_true rfl, Nat.le_of_ble_eq_true rfl, kw_378⟩, rfl, ⟨rfl, Or.inl rfl⟩, rfl, rfl, rfl, ⟨rfl, Nat.le_of_ble_eq_true rfl, Nat.le_of_ble_eq_true rfl, kw_383⟩, rfl, ⟨rfl, Or.inl rfl⟩, rfl, rfl, rfl, rfl, rfl, ⟨rfl, fun _ => ⟨⟨kw_452, kw_399, kw_453, ⟨by decide +kernel, by decide +kernel, by decide +kernel⟩, Nat.le_of_ble_eq_true rfl, Nat.le_of_ble_eq_true rfl, by decide +kernel, rfl, fun h => absurd h (by decide)⟩, Nat.le_of_ble_eq_true rfl, kw_454, kw_455, rfl, Nat.le_of_ble_eq_true rfl⟩, fun h => absurd h (by decide)⟩, rfl, rfl, rfl, rfl, ⟨rfl, Nat.le_of_ble_eq_true rfl, Nat.le_of_ble_eq_true rfl, kw_372⟩, rfl, rfl, ⟨rfl, Nat.le_of_ble_eq_true rfl, Nat.le_of_ble_eq_true rfl, kw_371⟩, rfl, ⟨rfl, Or.inl rfl⟩, rfl, rfl, ⟨rfl, Nat.le_of_ble_eq_true rfl, Nat.le_of_ble_eq_true rfl, kw_363⟩, rfl, rfl, rfl, rfl, ⟨rfl, Nat.le_of_ble_eq_true rfl, Nat.le_of_ble_eq_true rfl, kw_370⟩, rfl, rfl, rfl, rfl, ⟨rfl, Nat.le_of_ble_eq_true rfl, Nat.le_of_ble_eq_true rfl, kw_364⟩, rfl, rfl, rfl, rfl, ⟨rfl, Or.inl ⟨rfl, rfl⟩⟩, trivial⟩
set_option maxRecDepth 100000 in
theorem dk_X6_rise : dck (yBy 116) 0 mc_X6_rise = true := by decide +kernel
set_option maxRecDepth 100000 in
theorem ok_X6_rise : okl 116 0 mc_X6_rise := ⟨rfl, rfl, ⟨rfl, fun _ => ⟨⟨kw_406, kw_399, kw_407, ⟨by decide +kernel, by decide +kernel, by decide +kernel⟩, Nat.le_of_ble_eq_true rfl, Nat.le_of_ble_eq_true rfl, by decide +kernel, rfl, fun h => absurd h (by decide)⟩, Nat.le_of_ble_eq_true rfl, kw_408, kw_409, rfl, Nat.le_of_ble_eq_true rfl⟩, fun h => absurd h (by decide)⟩, rfl, rfl, rfl, ⟨rfl, fun _ => ⟨⟨kw_402, kw_399, kw_403, ⟨by decide +kernel, by decide +kernel, by decide +kernel⟩, Nat.le_of_ble_eq_true rfl, Nat.le_of_ble_eq_true rfl, by decide +kernel, rfl, fun h => absurd h (by decide)⟩, Nat.le_of_ble_eq_true rfl, kw_404, kw_405, rfl, Nat.le_of_ble_eq_true rfl⟩, fun h => absurd h (by decide)⟩, ⟨rfl, Or.inl ⟨rfl, rfl⟩⟩, rfl, ⟨rfl, Nat.le_of_ble_eq_true rfl, Nat.le_of_ble_eq_true rfl, kw_359⟩, rfl, rfl, rfl, rfl, rfl, ⟨rfl, fun _ => ⟨⟨kw_402, kw_399, kw_403, ⟨by decide +kernel, by decide +kernel, by decide +kernel⟩, Nat.le_of_ble_eq_true rfl, Nat.le_of_ble_eq_true rfl, by decide +kernel, rfl, fun h => absurd h (by decide)⟩, Nat.le_of_ble_eq_true rfl, kw_404, kw_405, rfl, Nat.le_of_ble_eq_true rfl⟩, fun h => absurd h (by decide)⟩, ⟨rfl, Or.inl ⟨rfl, rfl⟩⟩, rfl, ⟨rfl, Nat.le_of_ble_eq_true rfl, Nat.le_of_ble_eq_true rfl, kw_359⟩, rfl, rfl, rfl, rfl, ⟨rfl, Or.inl ⟨rfl, rfl⟩⟩, trivial⟩
set_option maxRecDepth 100000 in
theorem dk_X6_line : dck (yBy 117) 0 mc_X6_line = true := by decide +kernel
set_option maxRecDepth 100000 in
theorem ok_X6_line : okl 117 0 mc_X6_line := ⟨rfl, rfl, ⟨rfl, fun _ => ⟨⟨kw_406, kw_399, kw_407, ⟨by decide +kernel, by decide +kernel, by decide +kernel⟩, Nat.le_of_ble_eq_true rfl, Nat.le_of_ble_eq_true rfl, by decide +kernel, rfl, fun h => absurd h (by decide)⟩, Nat.le_of_ble_eq_true rfl, kw_408, kw_409, rfl, Nat.le_of_ble_eq_true rfl⟩, fun h => absurd h (by decide)⟩, rfl, rfl, ⟨rfl, Or.inl ⟨rfl, rfl⟩⟩, rfl, ⟨by decide, by decide⟩, rfl, ⟨rfl, Nat.le_of_ble_eq_true rfl, Nat.le_of_ble_eq_true rfl, kw_355⟩, rfl, ⟨rfl, Or.inl rfl⟩, ⟨rfl, Or.inl ⟨rfl, rfl⟩⟩, rfl, ⟨rfl, Nat.le_of_ble_eq_true rfl, Nat.le_of_ble_eq_true rfl, kw_356⟩, rfl, ⟨rfl, Or.inl rfl⟩, ⟨rfl, Or.inl ⟨rfl, rfl⟩⟩, rfl, ⟨rfl, Nat.le_of_ble_eq_true rfl, Nat.le_of_ble_eq_true rfl, kw_357⟩, rfl, ⟨rfl, Or.inl rfl⟩, ⟨rfl, Or.inl ⟨rfl, rfl⟩⟩, rfl, ⟨rfl, Nat.le_of_ble_eq_true rfl, Nat.le_of_ble_eq_true rfl, kw_359⟩, rfl, rfl, rfl, rfl, rfl, rfl, ⟨rfl, Or.inl ⟨rfl, rfl⟩⟩, rfl, ⟨rfl, Nat.le_of_ble_eq_true rfl, Nat.le_of_ble_eq_true rfl, kw_363⟩, rfl, ⟨rfl, Or.inl rfl⟩, ⟨rfl, Or.inl ⟨rfl, rfl⟩⟩, rfl, rfl, ⟨rfl, fun _ => ⟨⟨kw_419, kw_399, kw_420, ⟨by decide +kernel, by decide +kernel, by decide +kernel⟩, Nat.le_of_ble_eq_true rfl, Nat.le_of_ble_eq_true rfl, by decide +kernel, rfl, fun h => absurd h (by decide)⟩, Nat.le_of_ble_eq_true rfl, kw_421, kw_422, rfl, Nat.le_of_ble_eq_true rfl⟩, fun h => absurd h (by decide)⟩, ⟨rfl, Or.inl ⟨rfl, rfl⟩⟩, rfl, ⟨rfl, Nat.le_of_ble_eq_true rfl, Nat.le_of_ble_eq_true rfl, kw_370⟩, rfl, ⟨rfl, Or.inl rfl⟩, ⟨rfl, Or.inl ⟨rfl, rfl⟩⟩, rfl, ⟨rfl, Nat.le_of_ble_eq_true rfl, Nat.le_of_ble_eq_true rfl, kw_371⟩, rfl, ⟨rfl, Or.inl rfl⟩, ⟨rfl, Or.inl ⟨rfl, rfl⟩⟩, rfl, ⟨rfl, Nat.le_of_ble_eq_true rfl, Nat.le_of_ble_eq_true rfl, kw_372⟩, rfl, ⟨rfl, Or.inl rfl⟩, ⟨rfl, Or.inl ⟨rfl, rfl⟩⟩, rfl, ⟨rfl, Nat.le_of_ble_eq_true rfl, Nat.le_of_ble_eq_true rfl, kw_373⟩, rfl, ⟨rfl, Or.inl rfl⟩, ⟨rfl, Or.inl ⟨rfl, rfl⟩⟩, rfl, ⟨rfl, Nat.le_of_ble_eq_true rfl, Nat.le_of_ble_eq_true rfl, kw_374⟩, rfl, ⟨rfl, Or.inl rfl⟩, ⟨rfl, Or.inl ⟨rfl, rfl⟩⟩, rfl, ⟨rfl, Nat.le_of_ble_eq_true rfl, Nat.le_of_ble_eq_true rfl, kw_375⟩, rfl, ⟨rfl, Or.inl rfl⟩, ⟨rfl, Or.inl ⟨rfl, rfl⟩⟩, rfl, ⟨rfl, Nat.le_of_ble_eq_true rfl, Nat.le_of_ble_eq_true rfl, kw_376⟩, rfl, ⟨rfl, Or.inl rfl⟩, ⟨rfl, Or.inl ⟨rfl, rfl⟩⟩, rfl, ⟨rfl, Nat.le_of_ble_eq_true rfl, Nat.le_of_ble_eq_true rfl, kw_360⟩, rfl, ⟨rfl, Or.inl rfl⟩, ⟨rfl, Or.inl ⟨rfl, rfl⟩⟩, rfl, ⟨rfl, Nat.le_of_ble_eq_true rfl, Nat.le_of_ble_eq_true rfl, kw_361⟩, rfl, ⟨rfl, Or.inl rfl⟩, ⟨rfl, Or.inl ⟨rfl, rfl⟩⟩, rfl, ⟨rfl, Or.inl ⟨rfl, rfl⟩⟩, trivial⟩
set_option maxRecDepth 100000 in
theorem dk_X6_isPiece : dck (yBy 118) 0 mc_X6_isPiece = true := by decide +kernel
set_option maxRecDepth 100000 in
theorem ok_X6_isPiece : okl 118 0 mc_X6_isPiece := ⟨rfl, rfl, rfl, ⟨rfl, Nat.le_of_ble_eq_true rfl, Nat.le_of_ble_eq_true rfl, kw_412⟩, rfl, rfl, ⟨rfl, fun _ => ⟨⟨kw_398, kw_399, kw_400, ⟨by decide +kernel, by decide +kernel, by decide +kernel⟩, Nat.le_of_ble_eq_true rfl, Nat.le_of_ble_eq_true rfl, by decide +kernel, rfl, fun h => absurd h (by decide)⟩, kw_401⟩, fun h => absurd h (by decide), fun h => absurd h (by decide)⟩, ⟨rfl, Or.inr ⟨rfl, rfl⟩⟩, trivial⟩
set_option maxRecDepth 100000 in
theorem dk_X6_piece : dck (yBy 119) 0 mc_X6_piece = true := by decide +kernel
set_option maxRecDepth 100000 in
theorem ok_X6_piece : okl 119 0 mc_X6_piece := ⟨rfl, rfl, ⟨rfl, fun _ => ⟨⟨kw_480, kw_399, kw_481, ⟨by decide +kernel, by decide +kernel, by decide +kernel⟩, Nat.le_of_ble_eq_true rfl, Nat.le_of_ble_eq_true rfl, by decide +kernel, rfl, fun h => absurd h (by decide)⟩, Nat.le_of_ble_eq_true rfl, kw_482, kw_483, rfl, Nat.le_of_ble_eq_true rfl⟩, fun h => absurd h (by decide)⟩, rfl, rfl, ⟨rfl, Or.inl ⟨rfl, rfl⟩⟩, rfl, ⟨by decide, by decide⟩, rfl, ⟨rfl, Nat.le_of_ble_eq_true rfl, Nat.le_of_ble_eq_true rfl, kw_378⟩, rfl, ⟨rfl, Or.inl rfl⟩, ⟨rfl, Or.inl ⟨rfl, rfl⟩⟩, rfl, ⟨rfl, Nat.le_of_ble_eq_true rfl, Nat.le_of_ble_eq_true rfl, kw_379⟩, rfl, ⟨rfl, Or.inl rfl⟩, ⟨rfl, Or.inl ⟨rfl, rfl⟩⟩, rfl, ⟨rfl, Nat.le_of_ble_eq_true rfl, Nat.le_of_ble_eq_true rfl, kw_381⟩, rfl, ⟨rfl, Or.inl rfl⟩, ⟨rfl, Or.inl ⟨rfl, rfl⟩⟩, rfl, ⟨rfl, Nat.le_of_ble_eq_true rfl, Nat.le_of_ble_eq_true rfl, kw_382⟩, rfl, ⟨rfl, Or.inl rfl⟩, ⟨rfl, Or.inl ⟨rfl, rfl⟩⟩, rfl, ⟨rfl, Nat.le_of_ble_eq_true rfl, Nat.le_of_ble_eq_true rfl, kw_383⟩, rfl, ⟨rfl, Or.inl rfl⟩, ⟨rfl, Or.inl ⟨rfl, rfl⟩⟩, rfl, rfl, ⟨rfl, Nat.le_of_ble_eq_true rfl, Nat.le_of_ble_eq_true rfl, kw_387⟩, rfl, ⟨rfl, Nat.le_of_ble_eq_true rfl, Nat.le_of_ble_eq_true rfl, kw_379⟩, rfl, ⟨rfl, Or.inl rfl⟩, ⟨rfl, Or.inl rfl⟩, rfl, ⟨rfl, Nat.le_of_ble_eq_true rfl, Nat.le_of_ble_eq_true rfl, kw_388⟩, rfl, ⟨rfl, Nat.le_of_ble_eq_true rfl, Nat.le_of_ble_eq_true rfl, kw_379⟩, rfl, ⟨rfl, Or.inl rfl⟩, ⟨rfl, Or.inl rfl⟩, rfl, rfl, rfl, rfl, rfl, rfl, rfl, ⟨rfl, Or.inl ⟨rfl, rfl⟩⟩, rfl, rfl, ⟨rfl, fun _ => ⟨⟨kw_484, kw_399, kw_485, ⟨by decide +kernel, by decide +kernel, by decide +kernel⟩, Nat.le_of_ble_eq_true rfl, Nat.le_of_ble_eq_true rfl, by decide +kernel, rfl, fun h => absurd h (by decide)⟩, Nat.le_of_ble_eq_true rfl, kw_486, kw_487, rfl, Nat.le_of_ble_eq_true rfl⟩, fun h => absurd h (by decide)⟩, ⟨rfl, Or.inl ⟨rfl, rfl⟩⟩, rfl, ⟨rfl, Or.inl ⟨rfl, rfl⟩⟩, trivial⟩
set_option maxRecDepth 100000 in
theorem dk_X6_lostOn : dck (yBy 120) 0 mc_X6_lostOn = true := by decide +kernel
set_option maxRecDepth 100000 in
theorem ok_X6_lostOn : okl 120 0 mc_X6_lostOn := ⟨rfl, rfl, ⟨rfl, fun _ => ⟨⟨kw_480, kw_399, kw_481, ⟨by decide +kernel, by decide +kernel, by decide +kernel⟩, Nat.le_of_ble_eq_true rfl, Nat.le_of_ble_eq_true rfl, by decide +kernel, rfl, fun h => absurd h (by decide)⟩, Nat.le_of_ble_eq_true rfl, kw_482, kw_483, rfl, Nat.le_of_ble_eq_true rfl⟩, fun h => absurd h (by decide)⟩, rfl, rfl, rfl, ⟨rfl, fun _ => ⟨⟨kw_406, kw_399, kw_407, ⟨by decide +kernel, by decide +kernel, by decide +kernel⟩, Nat.le_of_ble_eq_true rfl, Nat.le_of_ble_eq_true rfl, by decide +kernel, rfl, fun h => absurd h (by decide)⟩, Nat.le_of_ble_eq_true rfl, kw_408, kw_409, rfl, Nat.le_of_ble_eq_true rfl⟩, fun h => absurd h (by decide)⟩, rfl, rfl, ⟨rfl, Nat.le_of_ble_eq_true rfl, Nat.le_of_ble_eq_true rfl, kw_385⟩, rfl, rfl, rfl, rfl, rfl, ⟨rfl, Or.inl rfl⟩, rfl, rfl, ⟨rfl, Or.inl ⟨rfl, rfl⟩⟩, trivial⟩
set_option maxRecDepth 100000 in
theorem dk_X6_queued : dck (yBy 121) 0 mc_X6_queued = true := by decide +kernel
set_option maxRecDepth 100000 in
theorem ok_X6_queued : okl 121 0 mc_X6_queued := ⟨rfl, rfl, ⟨rfl, fun _ => ⟨⟨kw_406, kw_399, kw_407, ⟨by decide +kernel, by decide +kernel, by decide +kernel⟩, Nat.le_of_ble_eq_true rfl, Nat.le_of_ble_eq_true rfl, by decide +kernel, rfl, fun h => absurd h (by decide)⟩, Nat.le_of_ble_eq_true rfl, kw_408, kw_409, rfl, Nat.le_of_ble_eq_true rfl⟩, fun h => absurd h (by decide)⟩, rfl, rfl, rfl, rfl, ⟨rfl, Nat.le_of_ble_eq_true rfl, Nat.le_of_ble_eq_true rfl, kw_363⟩, rfl, ⟨rfl, Or.inl rfl⟩, rfl, rfl, ⟨rfl, fun _ => ⟨⟨kw_398, kw_399, kw_400, ⟨by decide +kernel, by decide +kernel, by decide +kernel⟩, Nat.le_of_ble_eq_true rfl, Nat.le_of_ble_eq_true rfl, by decide +kernel, rfl, fun h => absurd h (by decide)⟩, kw_401⟩, fun h => absurd h (by decide), fun h => absurd h (by decide)⟩, rfl, rfl, ⟨rfl, Nat.le_of_ble_eq_true rfl, Nat.le_of_ble_eq_true rfl, kw_362⟩, rfl, rfl, rfl, rfl, rfl, ⟨rfl, Or.inl rfl⟩, rfl, rfl, ⟨rfl, Or.inl ⟨rfl, rfl⟩⟩, trivial⟩
set_option maxRecDepth 100000 in
theorem dk_X6_under : dck (yBy 122) 0 mc_X6_under = true := by decide +kernel
set_option maxRecDepth 100000 in
theorem ok_X6_under : okl 122 0 mc_X6_under := ⟨rfl, rfl, ⟨rfl, fun _ => ⟨⟨kw_406, kw_399, kw_407, ⟨by decide +kernel, by decide +kernel, by decide +kernel⟩, Nat.le_of_ble_eq_true rfl, Nat.le_of_ble_eq_true rfl, by decide +kernel, rfl, fun h => absurd h (by decide)⟩, Nat.le_of_ble_eq_true rfl, kw_408, kw_409, rfl, Nat.le_of_ble_eq_true rfl⟩, fun h => absurd h (by decide)⟩, rfl, rfl, rfl, rfl, ⟨rfl, Nat.le_of_ble_eq_true rfl, Nat.le_of_ble_eq_true rfl, kw_370⟩, rfl, ⟨rfl, Or.inl rfl⟩, rfl, rfl, ⟨rfl, fun _ => ⟨⟨kw_398, kw_399, kw_400, ⟨by decide +kernel, by decide +kernel, by decide +kernel⟩, Nat.le_of_ble_eq_true rfl, Nat.le_of_ble_eq_true rfl, by decide +kernel, rfl, fun h => absurd h (by decide)⟩, kw_401⟩, fun h => absurd h (by decide), fun h => absurd h (by decide)⟩, rfl, rfl, rfl, rfl, ⟨rfl, fun _ => ⟨⟨kw_398, kw_399, kw_400, ⟨by decide +kernel, by decide +kernel, by decide +kernel⟩, Nat.le_of_ble_eq_true rfl, Nat.le_of_ble_eq_true rfl, by decide +kernel, rfl, fun h => absurd h (by decide)⟩, kw_401⟩, fun h => absurd h (by decide), fun h => absurd h (by decide)⟩, rfl, rfl, ⟨rfl, Or.inl ⟨rfl, rfl⟩⟩, rfl, rfl, rfl, rfl, ⟨rfl, Nat.le_of_ble_eq_true rfl, Nat.le_of_ble_eq_true rfl, kw_369⟩, rfl, ⟨rfl, Or.inl rfl⟩, rfl, rfl, rfl, rfl, rfl, rfl, rfl, rfl, rfl, ⟨rfl, Nat.le_of_ble_eq_true rfl, Nat.le_of_ble_eq_true rfl, kw_365⟩, rfl, ⟨rfl, Or.inl rfl⟩, rfl, rfl, rfl, rfl, rfl, ⟨rfl, Nat.le_of_ble_eq_true rfl, Nat.le_of_ble_eq_true rfl, kw_366⟩, rfl, ⟨rfl, Or.inl rfl⟩, rfl, rfl, rfl, rfl, rfl, ⟨rfl, Nat.le_of_ble_eq_true rfl, Nat.le_of_ble_eq_true rfl, kw_367⟩, rfl, ⟨rfl, Or.inl rfl⟩, rfl, rfl, ⟨rfl, Nat.le_of_ble_eq_true rfl, Nat.le_of_ble_eq_true rfl, kw_368⟩, rfl, ⟨rfl, Or.inl rfl⟩, ⟨rfl, Or.inl ⟨rfl, rfl⟩⟩, trivial⟩
set_option maxRecDepth 100000 in
theorem dk_X6_waits : dck (yBy 123) 0 mc_X6_waits = true := by decide +kernel
set_option maxRecDepth 100000 in
theorem ok_X6_waits : okl 123 0 mc_X6_waits := ⟨rfl, rfl, rfl, rfl, rfl, rfl, ⟨rfl, Nat.le_of_ble_eq_true rfl, Nat.le_of_ble_eq_true rfl, kw_412⟩, rfl, rfl, rfl, rfl, rfl, ⟨rfl, Nat.le_of_ble_eq_true rfl, Nat.le_of_ble_eq_true rfl, kw_378⟩, rfl, ⟨rfl, Or.inl rfl⟩, rfl, rfl, rfl, rfl, rfl, rfl, rfl, rfl, rfl, rfl, ⟨rfl, Or.inl ⟨rfl, rfl⟩⟩, rfl, rfl, rfl, rfl, rfl, rfl, ⟨rfl, Nat.le_of_ble_eq_true rfl, Nat.le_of_ble_eq_true rfl, kw_412⟩, rfl, rfl, rfl, rfl, rfl, ⟨rfl, Nat.le_of_ble_eq_true rfl, Nat.le_of_ble_eq_true rfl, kw_378⟩, rfl, ⟨rfl, Or.inl rfl⟩, rfl, rfl, rfl, rfl, rfl, rfl, rfl, rfl, rfl, ⟨rfl, Or.inl ⟨rfl, rfl⟩⟩, rfl, rfl, rfl, ⟨rfl, Or.inl ⟨rfl, rfl⟩⟩, trivial⟩
set_option maxRecDepth 100000 in
theorem dk_X6_isFrame : dck (yBy 124) 0 mc_X6_isFrame = true := by decide +kernel
set_option maxRecDepth 100000 in
theorem ok_X6_isFrame : okl 124 0 mc_X6_isFrame := ⟨rfl, rfl, rfl, ⟨rfl, Nat.le_of_ble_eq_true rfl, Nat.le_of_ble_eq_true rfl, kw_411⟩, rfl, rfl, ⟨rfl, fun _ => ⟨⟨kw_398, kw_399, kw_400, ⟨by decide +kernel, by decide +kernel, by decide +kernel⟩, Nat.le_of_ble_eq_true rfl, Nat.le_of_ble_eq_true rfl, by decide +kernel, rfl, fun h => absurd h (by decide)⟩, kw_401⟩, fun h => absurd h (by decide), fun h => absurd h (by decide)⟩, ⟨rfl, Or.inr ⟨rfl, rfl⟩⟩, trivial⟩
set_option maxRecDepth 100000 in
theorem dk_X6_got : dck (yBy 125) 0 mc_X6_got = true := by decide +kernel
set_option maxRecDepth 100000 in
theorem ok_X6_got : okl 125 0 mc_X6_got := ⟨rfl, rfl, ⟨rfl, fun _ => ⟨⟨kw_488, kw_399, kw_489, ⟨by decide +kernel, by decide +kernel, by decide +kernel⟩, Nat.le_of_ble_eq_true rfl, Nat.le_of_ble_eq_true rfl, by decide +kernel, rfl, fun h => absurd h (by decide)⟩, Nat.le_of_ble_eq_true rfl, kw_490, kw_491, rfl, Nat.le_of_ble_eq_true rfl⟩, fun h => absurd h (by decide)⟩, rfl, rfl, rfl, ⟨rfl, fun _ => ⟨⟨kw_402, kw_399, kw_403, ⟨by decide +kernel, by decide +kernel, by decide +kernel⟩, Nat.le_of_ble_eq_true rfl, Nat.le_of_ble_eq_true rfl, by decide +kernel, rfl, fun h => absurd h (by decide)⟩, Nat.le_of_ble_eq_true rfl, kw_404, kw_405, rfl, Nat.le_of_ble_eq_true rfl⟩, fun h => absurd h (by decide)⟩, ⟨rfl, Or.inl ⟨rfl, rfl⟩⟩, rfl, rfl, ⟨rfl, Nat.le_of_ble_eq_true rfl, Nat.le_of_ble_eq_true rfl, kw_413⟩, rfl, rfl, rfl, ⟨rfl, Nat.le_of_ble_eq_true rfl, Nat.le_of_ble_eq_true rfl, kw_413⟩, rfl, rfl, rfl, rfl, rfl, rfl, ⟨rfl, Nat.le_of_ble_eq_true rfl, Nat.le_of_ble_eq_true rfl, kw_386⟩, rfl, ⟨rfl, Or.inl rfl⟩, rfl, rfl, ⟨rfl, fun _ => ⟨⟨kw_398, kw_399, kw_400, ⟨by decide +kernel, by decide +kernel, by decide +kernel⟩, Nat.le_of_ble_eq_true rfl, Nat.le_of_ble_eq_true rfl, by decide +kernel, rfl, fun h => absurd h (by decide)⟩, kw_401⟩, fun h => absurd h (by decide), fun h => absurd h (by decide)⟩, rfl, rfl, rfl, ⟨rfl, fun _ => ⟨⟨kw_402, kw_399, kw_403, ⟨by decide +kernel, by decide +kernel, by decide +kernel⟩, Nat.le_of_ble_eq_true rfl, Nat.le_of_ble_eq_true rfl, by decide +kernel, rfl, fun h => absurd h (by decide)⟩, Nat.le_of_ble_eq_true rfl, kw_404, kw_405, rfl, Nat.le_of_ble_eq_true rfl⟩, fun h => absurd h (by decide)⟩, ⟨rfl, Or.inl ⟨rfl, rfl⟩⟩, rfl, rfl, rfl, ⟨rfl, Nat.le_of_ble_eq_true rfl, Nat.le_of_ble_eq_true rfl, kw_386⟩, rfl, ⟨rfl, Or.inl rfl⟩, rfl, rfl, ⟨rfl, Nat.le_of_ble_eq_true rfl, Nat.le_of_ble_eq_true rfl, kw_392⟩, rfl, ⟨rfl, Nat.le_of_ble_eq_true rfl, Nat.le_of_ble_eq_true rfl, kw_390⟩, rfl, ⟨rfl, Or.inl rfl⟩, rfl, rfl, rfl, rfl, rfl, ⟨rfl, Or.inl ⟨rfl, rfl⟩⟩, trivial⟩
set_option maxRecDepth 100000 in
theorem dk_X6_frameOf : dck (yBy 126) 0 mc_X6_frameOf = true := by decide +kernel
set_option maxRecDepth 100000 in
theorem ok_X6_frameOf : okl 126 0 mc_X6_frameOf := ⟨rfl, rfl, ⟨rfl, fun _ => ⟨⟨kw_488, kw_399, kw_489, ⟨by decide +kernel, by decide +kernel, by decide +kernel⟩, Nat.le_of_ble_eq_true rfl, Nat.le_of_ble_eq_true rfl, by decide +kernel, rfl, fun h => absurd h (by decide)⟩, Nat.le_of_ble_eq_true rfl, kw_490, kw_491, rfl, Nat.le_of_ble_eq_true rfl⟩, fun h => absurd h (by decide)⟩, rfl, rfl, ⟨rfl, Or.inl ⟨rfl, rfl⟩⟩, rfl, rfl, rfl, rfl, rfl, rfl, ⟨rfl, Nat.le_of_ble_eq_true rfl, Nat.le_of_ble_eq_true rfl, kw_388⟩, rfl, ⟨rfl, Or.inl rfl⟩, rfl, rfl, rfl, ⟨rfl, Nat.le_of_ble_eq_true rfl, Nat.le_of_ble_eq_true rfl, kw_378⟩, rfl, ⟨rfl, Nat.le_of_ble_eq_true rfl, Nat.le_of_ble_eq_true rfl, kw_387⟩, rfl, ⟨rfl, Or.inl rfl⟩, rfl, rfl, ⟨rfl, Or.inl rfl⟩, rfl, rfl, rfl, rfl, rfl, rfl, rfl, rfl, rfl, rfl, rfl, rfl, ⟨rfl, Nat.le_of_ble_eq_true rfl, Nat.le_of_ble_eq_true rfl, kw_386⟩, rfl, ⟨rfl, Or.inl rfl⟩, rfl, rfl, rfl, rfl, rfl, ⟨rfl, Nat.le_of_ble_eq_true rfl, Nat.le_of_ble_eq_true rfl, kw_387⟩, rfl, ⟨rfl, Or.inl rfl⟩, rfl, rfl, rfl, rfl, rfl, ⟨rfl, Nat.le_of_ble_eq_true rfl, Nat.le_of_ble_eq_true rfl, kw_388⟩, rfl, ⟨rfl, Or.inl rfl⟩, rfl, rfl, rfl, rfl, rfl, rfl, rfl, rfl, rfl, rfl, ⟨rfl, Nat.le_of_ble_eq_true rfl, Nat.le_of_ble_eq_true rfl, kw_389⟩, rfl, ⟨rfl, Or.inl rfl⟩, rfl, rfl, ⟨rfl, Or.inl ⟨rfl, rfl⟩⟩, trivial⟩
set_option maxRecDepth 100000 in
theorem dk_X6_skew : dck (yBy 127) 0 mc_X6_skew = true := by decide +kernel
set_option maxRecDepth 100000 in
theorem ok_X6_skew : okl 127 0 mc_X6_skew := ⟨rfl, rfl, rfl, rfl, rfl, ⟨rfl, Nat.le_of_ble_eq_true rfl, Nat.le_of_ble_eq_true rfl, kw_412⟩, rfl, rfl, rfl, rfl, rfl, rfl, ⟨rfl, Nat.le_of_ble_eq_true rfl, Nat.le_of_ble_eq_true rfl, kw_378⟩, rfl, ⟨rfl, Or.inl rfl⟩, rfl, rfl, rfl, rfl, rfl, rfl, rfl, rfl, rfl, rfl, ⟨rfl, Nat.le_of_ble_eq_true rfl, Nat.le_of_ble_eq_true rfl, kw_378⟩, rfl, ⟨rfl, Or.inl rfl⟩, rfl, rfl, rfl, ⟨rfl, Nat.le_of_ble_eq_true rfl, Nat.le_of_ble_eq_true rfl, kw_379⟩, rfl, ⟨rfl, Or.inl rfl⟩, rfl, ⟨rfl, Nat.le_of_ble_eq_true rfl, Nat.le_of_ble_eq_true rfl, kw_413⟩, rfl, rfl, rfl, rfl, rfl, rfl, rfl, rfl, rfl, rfl, rfl, rfl, rfl, rfl, rfl, ⟨rfl, Or.inl ⟨rfl, rfl⟩⟩, trivial⟩
set_option maxRecDepth 100000 in
theorem dk_X6_witness : dck (yBy 128) 0 mc_X6_witness = true := by decide +kernel
set_option maxRecDepth 100000 in
theorem ok_X6_witness : okl 128 0 mc_X6_witness := ⟨rfl, rfl, ⟨rfl, fun _ => ⟨⟨kw_488, kw_399, kw_489, ⟨by decide +kernel, by decide +kernel, by decide +kernel⟩, Nat.le_of_ble_eq_true rfl, Nat.le_of_ble_eq_true rfl, by decide +kernel, rfl, fun h => absurd h (by decide)⟩, Nat.le_of_ble_eq_true rfl, kw_490, kw_491, rfl, Nat.le_of_ble_eq_true rfl⟩, fun h => absurd h (by decide)⟩, rfl, rfl, rfl, ⟨rfl, Nat.le_of_ble_eq_true rfl, Nat.le_of_ble_eq_true rfl, kw_413⟩, rfl, rfl, rfl, rfl, ⟨rfl, Nat.le_of_ble_eq_true rfl, Nat.le_of_ble_eq_true rfl, kw_388⟩, rfl, ⟨rfl, Or.inl rfl⟩, rfl, rfl, ⟨rfl, fun _ => ⟨⟨kw_398, kw_399, kw_400, ⟨by decide +kernel, by decide +kernel, by decide +kernel⟩, Nat.le_of_ble_eq_true rfl, Nat.le_of_ble_eq_true rfl, by decide +kernel, rfl, fun h => absurd h (by decide)⟩, kw_401⟩, fun h => absurd h (by decide), fun h => absurd h (by decide)⟩, rfl, rfl, ⟨rfl, Or.inl ⟨rfl, rfl⟩⟩, rfl, ⟨rfl, Nat.le_of_ble_eq_true rfl, Nat.le_of_ble_eq_true rfl, kw_387⟩, rfl, ⟨rfl, Or.inl rfl⟩, rfl, rfl, rfl, rfl, rfl, ⟨rfl, Nat.le_of_ble_eq_true rfl, Nat.le_of_ble_eq_true rfl, kw_382⟩, rfl, ⟨rfl, Or.inl rfl⟩, rfl, rfl, ⟨rfl, Nat.le_of_ble_eq_true rfl, Nat.le_of_ble_eq_true rfl, kw_383⟩, rfl, ⟨rfl, Or.inl rfl⟩, rfl, ⟨rfl, Or.inl ⟨rfl, rfl⟩⟩, trivial⟩
set_option maxRecDepth 100000 in
theorem dk_X6_check : dck (yBy 129) 0 mc_X6_check = true := by decide +kernel
set_option maxRecDepth 100000 in
theorem ok_X6_check : okl 129 0 mc_X6_check := ⟨rfl, rfl, ⟨rfl, fun _ => ⟨⟨kw_488, kw_399, kw_489, ⟨by decide +kernel, by decide +kernel, by decide +kernel⟩, Nat.le_of_ble_eq_true rfl, Nat.le_of_ble_eq_true rfl, by decide +kernel, rfl, fun h => absurd h (by decide)⟩, Nat.le_of_ble_eq_true rfl, kw_490, kw_491, rfl, Nat.le_of_ble_eq_true rfl⟩, fun h => absurd h (by decide)⟩, rfl, rfl, rfl, ⟨rfl, Nat.le_of_ble_eq_true rfl, Nat.le_of_ble_eq_true rfl, kw_413⟩, rfl, rfl, ⟨rfl, Or.inr ⟨rfl, rfl⟩⟩, rfl, rfl, rfl, rfl, rfl, rfl, ⟨rfl, Nat.le_of_ble_eq_true rfl, Nat.le_of_ble_eq_true rfl, kw_388⟩, rfl, ⟨rfl, Or.inl rfl⟩, rfl, rfl, rfl, rfl, rfl, rfl, rfl, ⟨rfl, fun _ => ⟨⟨kw_492, kw_399, kw_493, ⟨by decide +kernel, by decide +kernel, by decide +kernel⟩, Nat.le_of_ble_eq_true rfl, Nat.le_of_ble_eq_true rfl, by decide +kernel, rfl, fun h => absurd h (by decide)⟩, Nat.le_of_ble_eq_true rfl, kw_494, kw_495, rfl, Nat.le_of_ble_eq_true rfl⟩, fun h => absurd h (by decide)⟩, rfl, rfl, rfl, rfl, rfl, rfl, rfl, rfl, rfl, rfl, ⟨rfl, Or.inr ⟨rfl, rfl⟩⟩, trivial⟩
set_option maxRecDepth 100000 in
theorem dk_X6_many : dck (yBy 130) 0 mc_X6_many = true := by decide +kernel
set_option maxRecDepth 100000 in
theorem ok_X6_many : okl 130 0 mc_X6_many := ⟨rfl, rfl, rfl, rfl, rfl, rfl, ⟨rfl, Nat.le_of_ble_eq_true rfl, Nat.le_of_ble_eq_true rfl, kw_412⟩, rfl, rfl, rfl, ⟨rfl, Nat.le_of_ble_eq_true rfl, Nat.le_of_ble_eq_true rfl, kw_378⟩, rfl, ⟨rfl, Or.inl rfl⟩, rfl, rfl, rfl, rfl, rfl, rfl, rfl, rfl, rfl, rfl, ⟨rfl, Or.inl ⟨rfl, rfl⟩⟩, trivial⟩
set_option maxRecDepth 100000 in
theorem dk_X6_status : dck (yBy 131) 0 mc_X6_status = true := by decide +kernel
set_option maxRecDepth 100000 in
theorem ok_X6_status : okl 131 0 mc_X6_status := ⟨rfl, rfl, rfl, ⟨by decide, by decide⟩, rfl, ⟨rfl, Nat.le_of_ble_eq_true rfl, Nat.le_of_ble_eq_true rfl, kw_439⟩, ⟨rfl, Or.inl ⟨rfl, rfl⟩⟩, rfl, ⟨rfl, Nat.le_of_ble_eq_true rfl, Nat.le_of_ble_eq_true rfl, kw_397⟩, ⟨rfl, Or.inl ⟨rfl, rfl⟩⟩, rfl, ⟨rfl, Nat.le_of_ble_eq_true rfl, Nat.le_of_ble_eq_true rfl, kw_411⟩, ⟨rfl, Or.inl ⟨rfl, rfl⟩⟩, rfl, ⟨rfl, Nat.le_of_ble_eq_true rfl, Nat.le_of_ble_eq_true rfl, kw_413⟩, ⟨rfl, Or.inl ⟨rfl, rfl⟩⟩, rfl, ⟨rfl, Nat.le_of_ble_eq_true rfl, Nat.le_of_ble_eq_true rfl, kw_412⟩, ⟨rfl, Or.inl ⟨rfl, rfl⟩⟩, rfl, rfl, ⟨rfl, fun _ => ⟨⟨kw_496, kw_399, kw_497, ⟨by decide +kernel, by decide +kernel, by decide +kernel⟩, Nat.le_of_ble_eq_true rfl, Nat.le_of_ble_eq_true rfl, by decide +kernel, rfl, fun h => absurd h (by decide)⟩, Nat.le_of_ble_eq_true rfl, kw_498, kw_499, rfl, Nat.le_of_ble_eq_true rfl⟩, fun h => absurd h (by decide)⟩, ⟨rfl, Or.inl ⟨rfl, rfl⟩⟩, rfl, rfl, ⟨rfl, fun _ => ⟨⟨kw_496, kw_399, kw_497, ⟨by decide +kernel, by decide +kernel, by decide +kernel⟩, Nat.le_of_ble_eq_true rfl, Nat.le_of_ble_eq_true rfl, by decide +kernel, rfl, fun h => absurd h (by decide)⟩, Nat.le_of_ble_eq_true rfl, kw_498, kw_499, rfl, Nat.le_of_ble_eq_true rfl⟩, fun h => absurd h (by decide)⟩, ⟨rfl, Or.inl ⟨rfl, rfl⟩⟩, rfl, rfl, ⟨rfl, fun _ => ⟨⟨kw_496, kw_399, kw_497, ⟨by decide +kernel, by decide +kernel, by decide +kernel⟩, Nat.le_of_ble_eq_true rfl, Nat.le_of_ble_eq_true rfl, by decide +kernel, rfl, fun h => absurd h (by decide)⟩, Nat.le_of_ble_eq_true rfl, kw_498, kw_499, rfl, Nat.le_of_ble_eq_true rfl⟩, fun h => absurd h (by decide)⟩, ⟨rfl, Or.inl ⟨rfl, rfl⟩⟩, rfl, ⟨rfl, Nat.le_of_ble_eq_true rfl, Nat.le_of_ble_eq_true rfl, kw_410⟩, ⟨rfl, Or.inl ⟨rfl, rfl⟩⟩, rfl, rfl, rfl, rfl, ⟨rfl, Nat.le_of_ble_eq_true rfl, Nat.le_of_ble_eq_true rfl, kw_413⟩, rfl, rfl, rfl, ⟨rfl, Nat.le_of_ble_eq_true rfl, Nat.le_of_ble_eq_true rfl, kw_386⟩, rfl, ⟨rfl, Or.inl rfl⟩, rfl, rfl, rfl, rfl, rfl, ⟨rfl, Or.inl ⟨rfl, rfl⟩⟩, rfl, ⟨rfl, Nat.le_of_ble_eq_true rfl, Nat.le_of_ble_eq_true rfl, kw_394⟩, ⟨rfl, Or.inl ⟨rfl, rfl⟩⟩, rfl, ⟨rfl, Nat.le_of_ble_eq_true rfl, Nat.le_of_ble_eq_true rfl, kw_395⟩, ⟨rfl, Or.inl ⟨rfl, rfl⟩⟩, rfl, rfl, rfl, rfl, ⟨rfl, Nat.le_of_ble_eq_true rfl, Nat.le_of_ble_eq_true rfl, kw_397⟩, rfl, rfl, rfl, ⟨rfl, Nat.le_of_ble_eq_true rfl, Nat.le_of_ble_eq_true rfl, kw_375⟩, rfl, ⟨rfl, Or.inl rfl⟩, rfl, rfl, rfl, rfl, rfl, ⟨rfl, Or.inl ⟨rfl, rfl⟩⟩, rfl, rfl, rfl, ⟨rfl, fun _ => ⟨⟨kw_398, kw_399, kw_400, ⟨by decide +kernel, by decide +kernel, by decide +kernel⟩, Nat.le_of_ble_eq_true rfl, Nat.le_of_ble_eq_true rfl, by decide +kernel, rfl, fun h => absurd h (by decide)⟩, kw_401⟩, fun h => absurd h (by decide), fun h => absurd h (by decide)⟩, rfl, rfl, ⟨rfl, Nat.le_of_ble_eq_true rfl, Nat.le_of_ble_eq_true rfl, kw_396⟩, rfl, rfl, rfl, ⟨rfl, Or.inl rfl⟩, rfl, rfl, ⟨rfl, Or.inl ⟨rfl, rfl⟩⟩, trivial⟩
set_option maxRecDepth 100000 in
theorem dk_J7_copyOf_9075b : dck (yBy 132) 0 mc_J7_copyOf_9075b = true := by decide +kernel
set_option maxRecDepth 100000 in
theorem ok_J7_copyOf_9075b : okl 132 0 mc_J7_copyOf_9075b := ⟨rfl, rfl, ⟨rfl, Or.inl rfl⟩, rfl, rfl, ⟨rfl, fun h => absurd h (by decide), fun _ => ⟨rfl, kw_500, kw_501, kw_502, kw_503, kw_504, Nat.le_of_ble_eq_true rfl, Nat.le_of_ble_eq_true rfl⟩⟩, ⟨rfl, kw_505⟩, ⟨rfl, _, rfl, Or.inr ⟨_, rfl⟩⟩, rfl, ⟨rfl, kw_127, Or.inr (Or.inl ⟨rfl, rfl⟩)⟩, rfl, rfl, rfl, rfl, rfl, rfl, ⟨rfl, Or.inl rfl⟩, rfl, ⟨rfl, fun h => absurd h (by decide), fun _ => ⟨kw_506, kw_54, kw_55, kw_56, Nat.le_of_ble_eq_true rfl, Nat.le_of_ble_eq_true rfl⟩, fun h => absurd h (by decide)⟩, ⟨rfl, fun h => absurd h (by decide), fun h => absurd h (by decide), fun _ => ⟨kw_507, kw_508, kw_509, kw_510, Nat.le_of_ble_eq_true rfl, Nat.le_of_ble_eq_true rfl⟩⟩, rfl, ⟨rfl, _, rfl, Or.inr ⟨_, rfl⟩⟩, trivial⟩
end
section
/-! The law's own instructions, and all methods together (written by a program). -/
def lc_0 : List (Option Ent) := [some (.new 7, 3, 0, 5), none, none, some (.dup, 1, 0, 0), some (.invokespecial 9, 3, 34, 1), none, none, some (.astore_n 1, 1, 0, 0), some (.new 10, 3, 22, 6), none, none, some (.dup, 1, 0, 0), some (.invokespecial 12, 3, 84, 1), none, none, some (.astore_n 2, 1, 0, 0), some (.iconst 0, 1, 0, 0), some (.istore_n 3, 1, 0, 0), some (.iload_n 3, 1, 0, 0), some (.aload_n 0, 1, 0, 0), some (.arraylength, 1, 1, 0), some (.iconst 4, 1, 0, 0), some (.isub, 1, 0, 0), some (.if_icmp .gt 876, 3, 899, 0), none, none, some (.aload_n 0, 1, 0, 0), some (.iload_n 3, 1, 0, 0), some (.iaload, 1, 1, 0), some (.bipush 31, 2, 0, 0), none, some (.iand, 1, 0, 0), some (.tableswitch 861 0 24 #[116, 159, 202, 265, 288, 301, 324, 347, 370, 393, 436, 459, 482, 515, 548, 581, 614, 657, 680, 713, 746, 759, 772, 805, 838], 116, 0, 0), none, none, none, none, none, none, none]
set_option maxRecDepth 100000 in
theorem dl_0 : dck code 0 lc_0 = true := by decide +kernel
def lc_1 : List (Option Ent) := [none, none, none, none, none, none, none, none, none, none, none, none, none, none, none, none, none, none, none, none, none, none, none, none, none, none, none, none, none, none, none, none, none, none, none, none, none, none, none, none]
set_option maxRecDepth 100000 in
theorem dl_1 : dck code 40 lc_1 = true := by decide +kernel
def lc_2 : List (Option Ent) := [none, none, none, none, none, none, none, none, none, none, none, none, none, none, none, none, none, none, none, none, none, none, none, none, none, none, none, none, none, none, none, none, none, none, none, none, none, none, none, none]
set_option maxRecDepth 100000 in
theorem dl_2 : dck code 80 lc_2 = true := by decide +kernel
def lc_3 : List (Option Ent) := [none, none, none, none, none, none, none, none, none, none, none, none, none, none, none, none, none, none, none, none, none, none, none, none, none, none, none, none, some (.aload_n 1, 1, 0, 0), some (.aload_n 0, 1, 0, 0), some (.iload_n 3, 1, 0, 0), some (.iconst 1, 1, 0, 0), some (.iadd, 1, 0, 0), some (.iaload, 1, 1, 0), some (.aload_n 0, 1, 0, 0), some (.iload_n 3, 1, 0, 0), some (.iconst 2, 1, 0, 0), some (.iadd, 1, 0, 0), some (.iaload, 1, 1, 0), some (.aload_n 0, 1, 0, 0)]
set_option maxRecDepth 100000 in
theorem dl_3 : dck code 120 lc_3 = true := by decide +kernel
def lc_4 : List (Option Ent) := [some (.iload_n 3, 1, 0, 0), some (.iconst 3, 1, 0, 0), some (.iadd, 1, 0, 0), some (.iaload, 1, 1, 0), some (.invokevirtual 13, 3, 35, 4), none, none, some (.aload_n 2, 1, 0, 0), some (.aload_n 0, 1, 0, 0), some (.iload_n 3, 1, 0, 0), some (.iconst 1, 1, 0, 0), some (.iadd, 1, 0, 0), some (.iaload, 1, 1, 0), some (.aload_n 0, 1, 0, 0), some (.iload_n 3, 1, 0, 0), some (.iconst 2, 1, 0, 0), some (.iadd, 1, 0, 0), some (.iaload, 1, 1, 0), some (.aload_n 0, 1, 0, 0), some (.iload_n 3, 1, 0, 0), some (.iconst 3, 1, 0, 0), some (.iadd, 1, 0, 0), some (.iaload, 1, 1, 0), some (.invokevirtual 17, 3, 88, 4), none, none, some (.if_icmp .eq 707, 3, 893, 0), none, none, some (.iconst 0, 1, 0, 0), some (.ireturn, 1, 1, 0), some (.aload_n 1, 1, 0, 0), some (.aload_n 0, 1, 0, 0), some (.iload_n 3, 1, 0, 0), some (.iconst 1, 1, 0, 0), some (.iadd, 1, 0, 0), some (.iaload, 1, 1, 0), some (.aload_n 0, 1, 0, 0), some (.iload_n 3, 1, 0, 0), some (.iconst 2, 1, 0, 0)]
set_option maxRecDepth 100000 in
theorem dl_4 : dck code 160 lc_4 = true := by decide +kernel
def lc_5 : List (Option Ent) := [some (.iadd, 1, 0, 0), some (.iaload, 1, 1, 0), some (.aload_n 0, 1, 0, 0), some (.iload_n 3, 1, 0, 0), some (.iconst 3, 1, 0, 0), some (.iadd, 1, 0, 0), some (.iaload, 1, 1, 0), some (.invokevirtual 18, 3, 36, 4), none, none, some (.aload_n 2, 1, 0, 0), some (.aload_n 0, 1, 0, 0), some (.iload_n 3, 1, 0, 0), some (.iconst 1, 1, 0, 0), some (.iadd, 1, 0, 0), some (.iaload, 1, 1, 0), some (.aload_n 0, 1, 0, 0), some (.iload_n 3, 1, 0, 0), some (.iconst 2, 1, 0, 0), some (.iadd, 1, 0, 0), some (.iaload, 1, 1, 0), some (.aload_n 0, 1, 0, 0), some (.iload_n 3, 1, 0, 0), some (.iconst 3, 1, 0, 0), some (.iadd, 1, 0, 0), some (.iaload, 1, 1, 0), some (.invokevirtual 21, 3, 89, 4), none, none, some (.if_icmp .eq 664, 3, 893, 0), none, none, some (.iconst 0, 1, 0, 0), some (.ireturn, 1, 1, 0), some (.aload_n 1, 1, 0, 0), some (.aload_n 0, 1, 0, 0), some (.iload_n 3, 1, 0, 0), some (.iconst 1, 1, 0, 0), some (.iadd, 1, 0, 0), some (.iaload, 1, 1, 0)]
set_option maxRecDepth 100000 in
theorem dl_5 : dck code 200 lc_5 = true := by decide +kernel
def lc_6 : List (Option Ent) := [some (.i2l, 1, 0, 0), some (.bipush 32, 2, 0, 0), none, some (.lshl, 1, 0, 0), some (.aload_n 0, 1, 0, 0), some (.iload_n 3, 1, 0, 0), some (.iconst 2, 1, 0, 0), some (.iadd, 1, 0, 0), some (.iaload, 1, 1, 0), some (.i2l, 1, 0, 0), some (.ldc2_w 22, 3, 4294967295, 0), none, none, some (.land, 1, 0, 0), some (.lor, 1, 0, 0), some (.aload_n 0, 1, 0, 0), some (.iload_n 3, 1, 0, 0), some (.iconst 3, 1, 0, 0), some (.iadd, 1, 0, 0), some (.iaload, 1, 1, 0), some (.invokevirtual 24, 3, 37, 3), none, none, some (.aload_n 2, 1, 0, 0), some (.aload_n 0, 1, 0, 0), some (.iload_n 3, 1, 0, 0), some (.iconst 1, 1, 0, 0), some (.iadd, 1, 0, 0), some (.iaload, 1, 1, 0), some (.i2l, 1, 0, 0), some (.bipush 32, 2, 0, 0), none, some (.lshl, 1, 0, 0), some (.aload_n 0, 1, 0, 0), some (.iload_n 3, 1, 0, 0), some (.iconst 2, 1, 0, 0), some (.iadd, 1, 0, 0), some (.iaload, 1, 1, 0), some (.i2l, 1, 0, 0), some (.ldc2_w 22, 3, 4294967295, 0)]
set_option maxRecDepth 100000 in
theorem dl_6 : dck code 240 lc_6 = true := by decide +kernel
def lc_7 : List (Option Ent) := [none, none, some (.land, 1, 0, 0), some (.lor, 1, 0, 0), some (.aload_n 0, 1, 0, 0), some (.iload_n 3, 1, 0, 0), some (.iconst 3, 1, 0, 0), some (.iadd, 1, 0, 0), some (.iaload, 1, 1, 0), some (.invokevirtual 28, 3, 90, 3), none, none, some (.if_icmp .eq 601, 3, 893, 0), none, none, some (.iconst 0, 1, 0, 0), some (.ireturn, 1, 1, 0), some (.aload_n 1, 1, 0, 0), some (.aload_n 0, 1, 0, 0), some (.iload_n 3, 1, 0, 0), some (.iconst 1, 1, 0, 0), some (.iadd, 1, 0, 0), some (.iaload, 1, 1, 0), some (.invokevirtual 29, 3, 38, 2), none, none, some (.aload_n 2, 1, 0, 0), some (.aload_n 0, 1, 0, 0), some (.iload_n 3, 1, 0, 0), some (.iconst 1, 1, 0, 0), some (.iadd, 1, 0, 0), some (.iaload, 1, 1, 0), some (.invokevirtual 33, 3, 91, 2), none, none, some (.if_icmp .eq 578, 3, 893, 0), none, none, some (.iconst 0, 1, 0, 0), some (.ireturn, 1, 1, 0)]
set_option maxRecDepth 100000 in
theorem dl_7 : dck code 280 lc_7 = true := by decide +kernel
def lc_8 : List (Option Ent) := [some (.aload_n 1, 1, 0, 0), some (.invokevirtual 34, 3, 39, 1), none, none, some (.aload_n 2, 1, 0, 0), some (.invokevirtual 38, 3, 92, 1), none, none, some (.if_icmp .eq 565, 3, 893, 0), none, none, some (.iconst 0, 1, 0, 0), some (.ireturn, 1, 1, 0), some (.aload_n 1, 1, 0, 0), some (.aload_n 0, 1, 0, 0), some (.iload_n 3, 1, 0, 0), some (.iconst 1, 1, 0, 0), some (.iadd, 1, 0, 0), some (.iaload, 1, 1, 0), some (.invokevirtual 39, 3, 41, 2), none, none, some (.aload_n 2, 1, 0, 0), some (.aload_n 0, 1, 0, 0), some (.iload_n 3, 1, 0, 0), some (.iconst 1, 1, 0, 0), some (.iadd, 1, 0, 0), some (.iaload, 1, 1, 0), some (.invokevirtual 42, 3, 93, 2), none, none, some (.if_icmp .eq 542, 3, 893, 0), none, none, some (.iconst 0, 1, 0, 0), some (.ireturn, 1, 1, 0), some (.aload_n 1, 1, 0, 0), some (.aload_n 0, 1, 0, 0), some (.iload_n 3, 1, 0, 0), some (.iconst 1, 1, 0, 0)]
set_option maxRecDepth 100000 in
theorem dl_8 : dck code 320 lc_8 = true := by decide +kernel
def lc_9 : List (Option Ent) := [some (.iadd, 1, 0, 0), some (.iaload, 1, 1, 0), some (.invokevirtual 43, 3, 42, 2), none, none, some (.aload_n 2, 1, 0, 0), some (.aload_n 0, 1, 0, 0), some (.iload_n 3, 1, 0, 0), some (.iconst 1, 1, 0, 0), some (.iadd, 1, 0, 0), some (.iaload, 1, 1, 0), some (.invokevirtual 46, 3, 94, 2), none, none, some (.if_icmp .eq 519, 3, 893, 0), none, none, some (.iconst 0, 1, 0, 0), some (.ireturn, 1, 1, 0), some (.aload_n 1, 1, 0, 0), some (.aload_n 0, 1, 0, 0), some (.iload_n 3, 1, 0, 0), some (.iconst 1, 1, 0, 0), some (.iadd, 1, 0, 0), some (.iaload, 1, 1, 0), some (.invokevirtual 47, 3, 43, 2), none, none, some (.aload_n 2, 1, 0, 0), some (.aload_n 0, 1, 0, 0), some (.iload_n 3, 1, 0, 0), some (.iconst 1, 1, 0, 0), some (.iadd, 1, 0, 0), some (.iaload, 1, 1, 0), some (.invokevirtual 50, 3, 111, 2), none, none, some (.if_icmp .eq 496, 3, 893, 0), none, none]
set_option maxRecDepth 100000 in
theorem dl_9 : dck code 360 lc_9 = true := by decide +kernel
def lc_10 : List (Option Ent) := [some (.iconst 0, 1, 0, 0), some (.ireturn, 1, 1, 0), some (.aload_n 1, 1, 0, 0), some (.aload_n 0, 1, 0, 0), some (.iload_n 3, 1, 0, 0), some (.iconst 1, 1, 0, 0), some (.iadd, 1, 0, 0), some (.iaload, 1, 1, 0), some (.invokevirtual 51, 3, 58, 2), none, none, some (.aload_n 2, 1, 0, 0), some (.aload_n 0, 1, 0, 0), some (.iload_n 3, 1, 0, 0), some (.iconst 1, 1, 0, 0), some (.iadd, 1, 0, 0), some (.iaload, 1, 1, 0), some (.invokevirtual 54, 3, 113, 2), none, none, some (.if_icmp .eq 473, 3, 893, 0), none, none, some (.iconst 0, 1, 0, 0), some (.ireturn, 1, 1, 0), some (.aload_n 1, 1, 0, 0), some (.aload_n 0, 1, 0, 0), some (.iload_n 3, 1, 0, 0), some (.iconst 1, 1, 0, 0), some (.iadd, 1, 0, 0), some (.iaload, 1, 1, 0), some (.aload_n 0, 1, 0, 0), some (.iload_n 3, 1, 0, 0), some (.iconst 2, 1, 0, 0), some (.iadd, 1, 0, 0), some (.iaload, 1, 1, 0), some (.aload_n 0, 1, 0, 0), some (.iload_n 3, 1, 0, 0), some (.iconst 3, 1, 0, 0), some (.iadd, 1, 0, 0)]
set_option maxRecDepth 100000 in
theorem dl_10 : dck code 400 lc_10 = true := by decide +kernel
def lc_11 : List (Option Ent) := [some (.iaload, 1, 1, 0), some (.invokevirtual 55, 3, 59, 4), none, none, some (.aload_n 2, 1, 0, 0), some (.aload_n 0, 1, 0, 0), some (.iload_n 3, 1, 0, 0), some (.iconst 1, 1, 0, 0), some (.iadd, 1, 0, 0), some (.iaload, 1, 1, 0), some (.aload_n 0, 1, 0, 0), some (.iload_n 3, 1, 0, 0), some (.iconst 2, 1, 0, 0), some (.iadd, 1, 0, 0), some (.iaload, 1, 1, 0), some (.aload_n 0, 1, 0, 0), some (.iload_n 3, 1, 0, 0), some (.iconst 3, 1, 0, 0), some (.iadd, 1, 0, 0), some (.iaload, 1, 1, 0), some (.invokevirtual 58, 3, 114, 4), none, none, some (.if_icmp .eq 430, 3, 893, 0), none, none, some (.iconst 0, 1, 0, 0), some (.ireturn, 1, 1, 0), some (.aload_n 1, 1, 0, 0), some (.aload_n 0, 1, 0, 0), some (.iload_n 3, 1, 0, 0), some (.iconst 1, 1, 0, 0), some (.iadd, 1, 0, 0), some (.iaload, 1, 1, 0), some (.invokevirtual 59, 3, 60, 2), none, none, some (.aload_n 2, 1, 0, 0), some (.aload_n 0, 1, 0, 0), some (.iload_n 3, 1, 0, 0)]
set_option maxRecDepth 100000 in
theorem dl_11 : dck code 440 lc_11 = true := by decide +kernel
def lc_12 : List (Option Ent) := [some (.iconst 1, 1, 0, 0), some (.iadd, 1, 0, 0), some (.iaload, 1, 1, 0), some (.invokevirtual 62, 3, 115, 2), none, none, some (.if_icmp .eq 407, 3, 893, 0), none, none, some (.iconst 0, 1, 0, 0), some (.ireturn, 1, 1, 0), some (.aload_n 1, 1, 0, 0), some (.aload_n 0, 1, 0, 0), some (.iload_n 3, 1, 0, 0), some (.iconst 1, 1, 0, 0), some (.iadd, 1, 0, 0), some (.iaload, 1, 1, 0), some (.invokevirtual 63, 3, 61, 2), none, none, some (.aload_n 2, 1, 0, 0), some (.aload_n 0, 1, 0, 0), some (.iload_n 3, 1, 0, 0), some (.iconst 1, 1, 0, 0), some (.iadd, 1, 0, 0), some (.iaload, 1, 1, 0), some (.invokevirtual 66, 3, 116, 2), none, none, some (.if_icmp .eq 384, 3, 893, 0), none, none, some (.iconst 0, 1, 0, 0), some (.ireturn, 1, 1, 0), some (.aload_n 1, 1, 0, 0), some (.aload_n 0, 1, 0, 0), some (.iload_n 3, 1, 0, 0), some (.iconst 1, 1, 0, 0), some (.iadd, 1, 0, 0), some (.iaload, 1, 1, 0)]
set_option maxRecDepth 100000 in
theorem dl_12 : dck code 480 lc_12 = true := by decide +kernel
def lc_13 : List (Option Ent) := [some (.aload_n 0, 1, 0, 0), some (.iload_n 3, 1, 0, 0), some (.iconst 2, 1, 0, 0), some (.iadd, 1, 0, 0), some (.iaload, 1, 1, 0), some (.invokevirtual 67, 3, 62, 3), none, none, some (.aload_n 2, 1, 0, 0), some (.aload_n 0, 1, 0, 0), some (.iload_n 3, 1, 0, 0), some (.iconst 1, 1, 0, 0), some (.iadd, 1, 0, 0), some (.iaload, 1, 1, 0), some (.aload_n 0, 1, 0, 0), some (.iload_n 3, 1, 0, 0), some (.iconst 2, 1, 0, 0), some (.iadd, 1, 0, 0), some (.iaload, 1, 1, 0), some (.invokevirtual 71, 3, 117, 3), none, none, some (.if_icmp .eq 351, 3, 893, 0), none, none, some (.iconst 0, 1, 0, 0), some (.ireturn, 1, 1, 0), some (.aload_n 1, 1, 0, 0), some (.aload_n 0, 1, 0, 0), some (.iload_n 3, 1, 0, 0), some (.iconst 1, 1, 0, 0), some (.iadd, 1, 0, 0), some (.iaload, 1, 1, 0), some (.aload_n 0, 1, 0, 0), some (.iload_n 3, 1, 0, 0), some (.iconst 2, 1, 0, 0), some (.iadd, 1, 0, 0), some (.iaload, 1, 1, 0), some (.invokevirtual 72, 3, 63, 3), none]
set_option maxRecDepth 100000 in
theorem dl_13 : dck code 520 lc_13 = true := by decide +kernel
def lc_14 : List (Option Ent) := [none, some (.aload_n 2, 1, 0, 0), some (.aload_n 0, 1, 0, 0), some (.iload_n 3, 1, 0, 0), some (.iconst 1, 1, 0, 0), some (.iadd, 1, 0, 0), some (.iaload, 1, 1, 0), some (.aload_n 0, 1, 0, 0), some (.iload_n 3, 1, 0, 0), some (.iconst 2, 1, 0, 0), some (.iadd, 1, 0, 0), some (.iaload, 1, 1, 0), some (.invokevirtual 75, 3, 119, 3), none, none, some (.if_icmp .eq 318, 3, 893, 0), none, none, some (.iconst 0, 1, 0, 0), some (.ireturn, 1, 1, 0), some (.aload_n 1, 1, 0, 0), some (.aload_n 0, 1, 0, 0), some (.iload_n 3, 1, 0, 0), some (.iconst 1, 1, 0, 0), some (.iadd, 1, 0, 0), some (.iaload, 1, 1, 0), some (.aload_n 0, 1, 0, 0), some (.iload_n 3, 1, 0, 0), some (.iconst 2, 1, 0, 0), some (.iadd, 1, 0, 0), some (.iaload, 1, 1, 0), some (.invokevirtual 76, 3, 64, 3), none, none, some (.aload_n 2, 1, 0, 0), some (.aload_n 0, 1, 0, 0), some (.iload_n 3, 1, 0, 0), some (.iconst 1, 1, 0, 0), some (.iadd, 1, 0, 0), some (.iaload, 1, 1, 0)]
set_option maxRecDepth 100000 in
theorem dl_14 : dck code 560 lc_14 = true := by decide +kernel
def lc_15 : List (Option Ent) := [some (.aload_n 0, 1, 0, 0), some (.iload_n 3, 1, 0, 0), some (.iconst 2, 1, 0, 0), some (.iadd, 1, 0, 0), some (.iaload, 1, 1, 0), some (.invokevirtual 79, 3, 120, 3), none, none, some (.if_icmp .eq 285, 3, 893, 0), none, none, some (.iconst 0, 1, 0, 0), some (.ireturn, 1, 1, 0), some (.aload_n 1, 1, 0, 0), some (.aload_n 0, 1, 0, 0), some (.iload_n 3, 1, 0, 0), some (.iconst 1, 1, 0, 0), some (.iadd, 1, 0, 0), some (.iaload, 1, 1, 0), some (.aload_n 0, 1, 0, 0), some (.iload_n 3, 1, 0, 0), some (.iconst 2, 1, 0, 0), some (.iadd, 1, 0, 0), some (.iaload, 1, 1, 0), some (.invokevirtual 80, 3, 65, 3), none, none, some (.aload_n 2, 1, 0, 0), some (.aload_n 0, 1, 0, 0), some (.iload_n 3, 1, 0, 0), some (.iconst 1, 1, 0, 0), some (.iadd, 1, 0, 0), some (.iaload, 1, 1, 0), some (.aload_n 0, 1, 0, 0), some (.iload_n 3, 1, 0, 0), some (.iconst 2, 1, 0, 0), some (.iadd, 1, 0, 0), some (.iaload, 1, 1, 0), some (.invokevirtual 83, 3, 121, 3), none]
set_option maxRecDepth 100000 in
theorem dl_15 : dck code 600 lc_15 = true := by decide +kernel
def lc_16 : List (Option Ent) := [none, some (.if_icmp .eq 252, 3, 893, 0), none, none, some (.iconst 0, 1, 0, 0), some (.ireturn, 1, 1, 0), some (.aload_n 1, 1, 0, 0), some (.aload_n 0, 1, 0, 0), some (.iload_n 3, 1, 0, 0), some (.iconst 1, 1, 0, 0), some (.iadd, 1, 0, 0), some (.iaload, 1, 1, 0), some (.aload_n 0, 1, 0, 0), some (.iload_n 3, 1, 0, 0), some (.iconst 2, 1, 0, 0), some (.iadd, 1, 0, 0), some (.iaload, 1, 1, 0), some (.aload_n 0, 1, 0, 0), some (.iload_n 3, 1, 0, 0), some (.iconst 3, 1, 0, 0), some (.iadd, 1, 0, 0), some (.iaload, 1, 1, 0), some (.invokevirtual 84, 3, 66, 4), none, none, some (.aload_n 2, 1, 0, 0), some (.aload_n 0, 1, 0, 0), some (.iload_n 3, 1, 0, 0), some (.iconst 1, 1, 0, 0), some (.iadd, 1, 0, 0), some (.iaload, 1, 1, 0), some (.aload_n 0, 1, 0, 0), some (.iload_n 3, 1, 0, 0), some (.iconst 2, 1, 0, 0), some (.iadd, 1, 0, 0), some (.iaload, 1, 1, 0), some (.aload_n 0, 1, 0, 0), some (.iload_n 3, 1, 0, 0), some (.iconst 3, 1, 0, 0), some (.iadd, 1, 0, 0)]
set_option maxRecDepth 100000 in
theorem dl_16 : dck code 640 lc_16 = true := by decide +kernel
def lc_17 : List (Option Ent) := [some (.iaload, 1, 1, 0), some (.invokevirtual 87, 3, 122, 4), none, none, some (.if_icmp .eq 209, 3, 893, 0), none, none, some (.iconst 0, 1, 0, 0), some (.ireturn, 1, 1, 0), some (.aload_n 1, 1, 0, 0), some (.aload_n 0, 1, 0, 0), some (.iload_n 3, 1, 0, 0), some (.iconst 1, 1, 0, 0), some (.iadd, 1, 0, 0), some (.iaload, 1, 1, 0), some (.invokevirtual 88, 3, 67, 2), none, none, some (.aload_n 2, 1, 0, 0), some (.aload_n 0, 1, 0, 0), some (.iload_n 3, 1, 0, 0), some (.iconst 1, 1, 0, 0), some (.iadd, 1, 0, 0), some (.iaload, 1, 1, 0), some (.invokevirtual 91, 3, 123, 2), none, none, some (.if_icmp .eq 186, 3, 893, 0), none, none, some (.iconst 0, 1, 0, 0), some (.ireturn, 1, 1, 0), some (.aload_n 1, 1, 0, 0), some (.aload_n 0, 1, 0, 0), some (.iload_n 3, 1, 0, 0), some (.iconst 1, 1, 0, 0), some (.iadd, 1, 0, 0), some (.iaload, 1, 1, 0), some (.aload_n 0, 1, 0, 0), some (.iload_n 3, 1, 0, 0)]
set_option maxRecDepth 100000 in
theorem dl_17 : dck code 680 lc_17 = true := by decide +kernel
def lc_18 : List (Option Ent) := [some (.iconst 2, 1, 0, 0), some (.iadd, 1, 0, 0), some (.iaload, 1, 1, 0), some (.invokevirtual 92, 3, 69, 3), none, none, some (.aload_n 2, 1, 0, 0), some (.aload_n 0, 1, 0, 0), some (.iload_n 3, 1, 0, 0), some (.iconst 1, 1, 0, 0), some (.iadd, 1, 0, 0), some (.iaload, 1, 1, 0), some (.aload_n 0, 1, 0, 0), some (.iload_n 3, 1, 0, 0), some (.iconst 2, 1, 0, 0), some (.iadd, 1, 0, 0), some (.iaload, 1, 1, 0), some (.invokevirtual 95, 3, 125, 3), none, none, some (.if_icmp .eq 153, 3, 893, 0), none, none, some (.iconst 0, 1, 0, 0), some (.ireturn, 1, 1, 0), some (.aload_n 1, 1, 0, 0), some (.aload_n 0, 1, 0, 0), some (.iload_n 3, 1, 0, 0), some (.iconst 1, 1, 0, 0), some (.iadd, 1, 0, 0), some (.iaload, 1, 1, 0), some (.aload_n 0, 1, 0, 0), some (.iload_n 3, 1, 0, 0), some (.iconst 2, 1, 0, 0), some (.iadd, 1, 0, 0), some (.iaload, 1, 1, 0), some (.invokevirtual 96, 3, 70, 3), none, none, some (.aload_n 2, 1, 0, 0)]
set_option maxRecDepth 100000 in
theorem dl_18 : dck code 720 lc_18 = true := by decide +kernel
def lc_19 : List (Option Ent) := [some (.aload_n 0, 1, 0, 0), some (.iload_n 3, 1, 0, 0), some (.iconst 1, 1, 0, 0), some (.iadd, 1, 0, 0), some (.iaload, 1, 1, 0), some (.aload_n 0, 1, 0, 0), some (.iload_n 3, 1, 0, 0), some (.iconst 2, 1, 0, 0), some (.iadd, 1, 0, 0), some (.iaload, 1, 1, 0), some (.invokevirtual 99, 3, 126, 3), none, none, some (.if_icmp .eq 120, 3, 893, 0), none, none, some (.iconst 0, 1, 0, 0), some (.ireturn, 1, 1, 0), some (.aload_n 1, 1, 0, 0), some (.invokevirtual 100, 3, 71, 1), none, none, some (.aload_n 2, 1, 0, 0), some (.invokevirtual 103, 3, 96, 1), none, none, some (.if_icmp .eq 107, 3, 893, 0), none, none, some (.iconst 0, 1, 0, 0), some (.ireturn, 1, 1, 0), some (.aload_n 1, 1, 0, 0), some (.invokevirtual 104, 3, 72, 1), none, none, some (.aload_n 2, 1, 0, 0), some (.invokevirtual 107, 3, 127, 1), none, none, some (.if_icmp .eq 94, 3, 893, 0)]
set_option maxRecDepth 100000 in
theorem dl_19 : dck code 760 lc_19 = true := by decide +kernel
def lc_20 : List (Option Ent) := [none, none, some (.iconst 0, 1, 0, 0), some (.ireturn, 1, 1, 0), some (.aload_n 1, 1, 0, 0), some (.aload_n 0, 1, 0, 0), some (.iload_n 3, 1, 0, 0), some (.iconst 1, 1, 0, 0), some (.iadd, 1, 0, 0), some (.iaload, 1, 1, 0), some (.aload_n 0, 1, 0, 0), some (.iload_n 3, 1, 0, 0), some (.iconst 2, 1, 0, 0), some (.iadd, 1, 0, 0), some (.iaload, 1, 1, 0), some (.invokevirtual 108, 3, 73, 3), none, none, some (.aload_n 2, 1, 0, 0), some (.aload_n 0, 1, 0, 0), some (.iload_n 3, 1, 0, 0), some (.iconst 1, 1, 0, 0), some (.iadd, 1, 0, 0), some (.iaload, 1, 1, 0), some (.aload_n 0, 1, 0, 0), some (.iload_n 3, 1, 0, 0), some (.iconst 2, 1, 0, 0), some (.iadd, 1, 0, 0), some (.iaload, 1, 1, 0), some (.invokevirtual 111, 3, 128, 3), none, none, some (.if_icmp .eq 61, 3, 893, 0), none, none, some (.iconst 0, 1, 0, 0), some (.ireturn, 1, 1, 0), some (.aload_n 1, 1, 0, 0), some (.aload_n 0, 1, 0, 0), some (.iload_n 3, 1, 0, 0)]
set_option maxRecDepth 100000 in
theorem dl_20 : dck code 800 lc_20 = true := by decide +kernel
def lc_21 : List (Option Ent) := [some (.iconst 1, 1, 0, 0), some (.iadd, 1, 0, 0), some (.iaload, 1, 1, 0), some (.aload_n 0, 1, 0, 0), some (.iload_n 3, 1, 0, 0), some (.iconst 2, 1, 0, 0), some (.iadd, 1, 0, 0), some (.iaload, 1, 1, 0), some (.invokevirtual 112, 3, 74, 3), none, none, some (.aload_n 2, 1, 0, 0), some (.aload_n 0, 1, 0, 0), some (.iload_n 3, 1, 0, 0), some (.iconst 1, 1, 0, 0), some (.iadd, 1, 0, 0), some (.iaload, 1, 1, 0), some (.aload_n 0, 1, 0, 0), some (.iload_n 3, 1, 0, 0), some (.iconst 2, 1, 0, 0), some (.iadd, 1, 0, 0), some (.iaload, 1, 1, 0), some (.invokevirtual 116, 3, 129, 3), none, none, some (.if_icmp .eq 28, 3, 893, 0), none, none, some (.iconst 0, 1, 0, 0), some (.ireturn, 1, 1, 0), some (.aload_n 1, 1, 0, 0), some (.aload_n 0, 1, 0, 0), some (.iload_n 3, 1, 0, 0), some (.iconst 1, 1, 0, 0), some (.iadd, 1, 0, 0), some (.iaload, 1, 1, 0), some (.invokevirtual 117, 3, 76, 2), none, none, some (.aload_n 2, 1, 0, 0)]
set_option maxRecDepth 100000 in
theorem dl_21 : dck code 840 lc_21 = true := by decide +kernel
def lc_22 : List (Option Ent) := [some (.aload_n 0, 1, 0, 0), some (.iload_n 3, 1, 0, 0), some (.iconst 1, 1, 0, 0), some (.iadd, 1, 0, 0), some (.iaload, 1, 1, 0), some (.invokevirtual 120, 3, 131, 2), none, none, some (.if_icmp .eq 5, 3, 893, 0), none, none, some (.iconst 0, 1, 0, 0), some (.ireturn, 1, 1, 0), some (.iinc 3 4, 3, 0, 0), none, none, some (.goto (-878), 3, 18, 0), none, none, some (.iconst 1, 1, 0, 0), some (.ireturn, 1, 1, 0)]
set_option maxRecDepth 100000 in
theorem dl_22 : dck code 880 lc_22 = true := by decide +kernel
set_option maxRecDepth 100000 in
theorem lc_eq : mc_L_law = lc_0 ++ (lc_1 ++ (lc_2 ++ (lc_3 ++ (lc_4 ++ (lc_5 ++ (lc_6 ++ (lc_7 ++ (lc_8 ++ (lc_9 ++ (lc_10 ++ (lc_11 ++ (lc_12 ++ (lc_13 ++ (lc_14 ++ (lc_15 ++ (lc_16 ++ (lc_17 ++ (lc_18 ++ (lc_19 ++ (lc_20 ++ (lc_21 ++ (lc_22)))))))))))))))))))))) := by rfl
set_option maxRecDepth 100000 in
theorem dk_L_law : dck (yBy 133) 0 mc_L_law = true := by
  rw [lc_eq]
  exact dck_app _ _ _ _ dl_0 (dck_app _ _ _ _ dl_1 (dck_app _ _ _ _ dl_2 (dck_app _ _ _ _ dl_3 (dck_app _ _ _ _ dl_4 (dck_app _ _ _ _ dl_5 (dck_app _ _ _ _ dl_6 (dck_app _ _ _ _ dl_7 (dck_app _ _ _ _ dl_8 (dck_app _ _ _ _ dl_9 (dck_app _ _ _ _ dl_10 (dck_app _ _ _ _ dl_11 (dck_app _ _ _ _ dl_12 (dck_app _ _ _ _ dl_13 (dck_app _ _ _ _ dl_14 (dck_app _ _ _ _ dl_15 (dck_app _ _ _ _ dl_16 (dck_app _ _ _ _ dl_17 (dck_app _ _ _ _ dl_18 (dck_app _ _ _ _ dl_19 (dck_app _ _ _ _ dl_20 (dck_app _ _ _ _ dl_21 (dl_22))))))))))))))))))))))
set_option maxRecDepth 100000 in
theorem ok_L_law : okl 133 0 mc_L_law := ⟨⟨rfl, rfl, Nat.le_of_ble_eq_true rfl, kw_511, kw_512, kw_133⟩, rfl, ⟨rfl, fun _ => ⟨⟨kw_513, kw_133, kw_514, ⟨by decide +kernel, by decide +kernel, by decide +kernel⟩, Nat.le_of_ble_eq_true rfl, Nat.le_of_ble_eq_true rfl, by decide +kernel, rfl, fun _ => rfl⟩, Nat.le_of_ble_eq_true rfl, kw_515, rfl, rfl, rfl⟩, fun h => absurd h (by decide)⟩, rfl, ⟨rfl, rfl, Nat.le_of_ble_eq_true rfl, kw_516, kw_517, kw_399⟩, rfl, ⟨rfl, fun _ => ⟨⟨kw_518, kw_399, kw_519, ⟨by decide +kernel, by decide +kernel, by decide +kernel⟩, Nat.le_of_ble_eq_true rfl, Nat.le_of_ble_eq_true rfl, by decide +kernel, rfl, fun _ => rfl⟩, Nat.le_of_ble_eq_true rfl, kw_520, rfl, rfl, rfl⟩, fun h => absurd h (by decide)⟩, rfl, rfl, rfl, rfl, rfl, ⟨rfl, Or.inr rfl⟩, rfl, rfl, rfl, rfl, rfl, ⟨rfl, Or.inr rfl⟩, rfl, rfl, ⟨by decide, by decide⟩, rfl, rfl, rfl, rfl, rfl, ⟨rfl, Or.inr rfl⟩, rfl, rfl, rfl, rfl, ⟨rfl, Or.inr rfl⟩, rfl, rfl, rfl, rfl, ⟨rfl, Or.inr rfl⟩, ⟨rfl, fun _ => ⟨⟨kw_521, kw_133, kw_522, ⟨by decide +kernel, by decide +kernel, by decide +kernel⟩, Nat.le_of_ble_eq_true rfl, Nat.le_of_ble_eq_true rfl, by decide +kernel, rfl, fun h => absurd h (by decide)⟩, Nat.le_of_ble_eq_true rfl, kw_523, kw_524, rfl, Nat.le_of_ble_eq_true rfl⟩, fun h => absurd h (by decide)⟩, rfl, rfl, rfl, rfl, rfl, ⟨rfl, Or.inr rfl⟩, rfl, rfl, rfl, rfl, ⟨rfl, Or.inr rfl⟩, rfl, rfl, rfl, rfl, ⟨rfl, Or.inr rfl⟩, ⟨rfl, fun _ => ⟨⟨kw_525, kw_399, kw_526, ⟨by decide +kernel, by decide +kernel, by decide +kernel⟩, Nat.le_of_ble_eq_true rfl, Nat.le_of_ble_eq_true rfl, by decide +kernel, rfl, fun h => absurd h (by decide)⟩, Nat.le_of_ble_eq_true rfl, kw_527, kw_528, rfl, Nat.le_of_ble_eq_true rfl⟩, fun h => absurd h (by decide)⟩, rfl, rfl, ⟨rfl, Or.inr ⟨rfl, rfl⟩⟩, rfl, rfl, rfl, rfl, rfl, ⟨rfl, Or.inr rfl⟩, rfl, rfl, rfl, rfl, ⟨rfl, Or.inr rfl⟩, rfl, rfl, rfl, rfl, ⟨rfl, Or.inr rfl⟩, ⟨rfl, fun _ => ⟨⟨kw_529, kw_133, kw_530, ⟨by decide +kernel, by decide +kernel, by decide +kernel⟩, Nat.le_of_ble_eq_true rfl, Nat.le_of_ble_eq_true rfl, by decide +kernel, rfl, fun h => absurd h (by decide)⟩, Nat.le_of_ble_eq_true rfl, kw_531, kw_532, rfl, Nat.le_of_ble_eq_true rfl⟩, fun h => absurd h (by decide)⟩, rfl, rfl, rfl, rfl, rfl, ⟨rfl, Or.inr rfl⟩, rfl, rfl, rfl, rfl, ⟨rfl, Or.inr rfl⟩, rfl, rfl, rfl, rfl, ⟨rfl, Or.inr rfl⟩, ⟨rfl, fun _ => ⟨⟨kw_533, kw_399, kw_534, ⟨by decide +kernel, by decide +kernel, by decide +kernel⟩, Nat.le_of_ble_eq_true rfl, Nat.le_of_ble_eq_true rfl, by decide +kernel, rfl, fun h => absurd h (by decide)⟩, Nat.le_of_ble_eq_true rfl, kw_535, kw_536, rfl, Nat.le_of_ble_eq_true rfl⟩, fun h => absurd h (by decide)⟩, rfl, rfl, ⟨rfl, Or.inr ⟨rfl, rfl⟩⟩, rfl, rfl, rfl, rfl, rfl, ⟨rfl, Or.inr rfl⟩, rfl, rfl, rfl, rfl, rfl, rfl, rfl, ⟨rfl, Or.inr rfl⟩, rfl, ⟨rfl, kw_537⟩, rfl, rfl, rfl, rfl, rfl, rfl, ⟨rfl, Or.inr rfl⟩, ⟨rfl, fun _ => ⟨⟨kw_538, kw_133, kw_539, ⟨by decide +kernel, by decide +kernel, by decide +kernel⟩, Nat.le_of_ble_eq_true rfl, Nat.le_of_ble_eq_true rfl, by decide +kernel, rfl, fun h => absurd h (by decide)⟩, Nat.le_of_ble_eq_true rfl, kw_540, kw_541, rfl, Nat.le_of_ble_eq_true rfl⟩, fun h => absurd h (by decide)⟩, rfl, rfl, rfl, rfl, rfl, ⟨rfl, Or.inr rfl⟩, rfl, rfl, rfl, rfl, rfl, rfl, rfl, ⟨rfl, Or.inr rfl⟩, rfl, ⟨rfl, kw_537⟩, rfl, rfl, rfl, rfl, rfl, rfl, ⟨rfl, Or.inr rfl⟩, ⟨rfl, fun _ => ⟨⟨kw_542, kw_399, kw_543, ⟨by decide +kernel, by decide +kernel, by decide +kernel⟩, Nat.le_of_ble_eq_true rfl, Nat.le_of_ble_eq_true rfl, by decide +kernel, rfl, fun h => absurd h (by decide)⟩, Nat.le_of_ble_eq_true rfl, kw_544, kw_545, rfl, Nat.le_of_ble_eq_true rfl⟩, fun h => absurd h (by decide)⟩, rfl, rfl, ⟨rfl, Or.inr ⟨rfl, rfl⟩⟩, rfl, rfl, rfl, rfl, rfl, ⟨rfl, Or.inr rfl⟩, ⟨rfl, fun _ => ⟨⟨kw_546, kw_133, kw_547, ⟨by decide +kernel, by decide +kernel, by decide +kernel⟩, Nat.le_of_ble_eq_true rfl, Nat.le_of_ble_eq_true rfl, by decide +kernel, rfl, fun h => absurd h (by decide)⟩, Nat.le_of_ble_eq_true rfl, kw_548, kw_549, rfl, Nat.le_of_ble_eq_true rfl⟩, fun h => absurd h (by decide)⟩, rfl, rfl, rfl, rfl, rfl, ⟨rfl, Or.inr rfl⟩, ⟨rfl, fun _ => ⟨⟨kw_550, kw_399, kw_551, ⟨by decide +kernel, by decide +kernel, by decide +kernel⟩, Nat.le_of_ble_eq_true rfl, Nat.le_of_ble_eq_true rfl, by decide +kernel, rfl, fun h => absurd h (by decide)⟩, Nat.le_of_ble_eq_true rfl, kw_552, kw_553, rfl, Nat.le_of_ble_eq_true rfl⟩, fun h => absurd h (by decide)⟩, rfl, rfl, ⟨rfl, Or.inr ⟨rfl, rfl⟩⟩, rfl, ⟨rfl, fun _ => ⟨⟨kw_554, kw_133, kw_555, ⟨by decide +kernel, by decide +kernel, by decide +kernel⟩, Nat.le_of_ble_eq_true rfl, Nat.le_of_ble_eq_true rfl, by decide +kernel, rfl, fun h => absurd h (by decide)⟩, Nat.le_of_ble_eq_true rfl, kw_556, kw_557, rfl, Nat.le_of_ble_eq_true rfl⟩, fun h => absurd h (by decide)⟩, rfl, ⟨rfl, fun _ => ⟨⟨kw_558, kw_399, kw_559, ⟨by decide +kernel, by decide +kernel, by decide +kernel⟩, Nat.le_of_ble_eq_true rfl, Nat.le_of_ble_eq_true rfl, by decide +kernel, rfl, fun h => absurd h (by decide)⟩, Nat.le_of_ble_eq_true rfl, kw_560, kw_561, rfl, Nat.le_of_ble_eq_true rfl⟩, fun h => absurd h (by decide)⟩, rfl, rfl, ⟨rfl, Or.inr ⟨rfl, rfl⟩⟩, rfl, rfl, rfl, rfl, rfl, ⟨rfl, Or.inr rfl⟩, ⟨rfl, fun _ => ⟨⟨kw_562, kw_133, kw_563, ⟨by decide +kernel, by decide +kernel, by decide +kernel⟩, Nat.le_of_ble_eq_true rfl, Nat.le_of_ble_eq_true rfl, by decide +kernel, rfl, fun h => absurd h (by decide)⟩, Nat.le_of_ble_eq_true rfl, kw_564, kw_565, rfl, Nat.le_of_ble_eq_true rfl⟩, fun h => absurd h (by decide)⟩, rfl, rfl, rfl, rfl, rfl, ⟨rfl, Or.inr rfl⟩, ⟨rfl, fun _ => ⟨⟨kw_566, kw_399, kw_567, ⟨by decide +kernel, by decide +kernel, by decide +kernel⟩, Nat.le_of_ble_eq_true rfl, Nat.le_of_ble_eq_true rfl, by decide +kernel, rfl, fun h => absurd h (by decide)⟩, Nat.le_of_ble_eq_true rfl, kw_568, kw_569, rfl, Nat.le_of_ble_eq_true rfl⟩, fun h => absurd h (by decide)⟩, rfl, rfl, ⟨rfl, Or.inr ⟨rfl, rfl⟩⟩, rfl, rfl, rfl, rfl, rfl, ⟨rfl, Or.inr rfl⟩, ⟨rfl, fun _ => ⟨⟨kw_570, kw_133, kw_571, ⟨by decide +kernel, by decide +kernel, by decide +kernel⟩, Nat.le_of_ble_eq_true rfl, Nat.le_of_ble_eq_true rfl, by decide +kernel, rfl, fun h => absurd h (by decide)⟩, Nat.le_of_ble_eq_true rfl, kw_572, kw_573, rfl, Nat.le_of_ble_eq_true rfl⟩, fun h => absurd h (by decide)⟩, rfl, rfl, rfl, rfl, rfl, ⟨rfl, Or.inr rfl⟩, ⟨rfl, fun _ => ⟨⟨kw_574, kw_399, kw_575, ⟨by decide +kernel, by decide +kernel, by decide +kernel⟩, Nat.le_of_ble_eq_true rfl, Nat.le_of_ble_eq_true rfl, by decide +kernel, rfl, fun h => absurd h (by decide)⟩, Nat.le_of_ble_eq_true rfl, kw_576, kw_577, rfl, Nat.le_of_ble_eq_true rfl⟩, fun h => absurd h (by decide)⟩, rfl, rfl, ⟨rfl, Or.inr ⟨rfl, rfl⟩⟩, rfl, rfl, rfl, rfl, rfl, ⟨rfl, Or.inr rfl⟩, ⟨rfl, fun _ => ⟨⟨kw_578, kw_133, kw_579, ⟨by decide +kernel, by decide +kernel, by decide +kernel⟩, Nat.le_of_ble_eq_true rfl, Nat.le_of_ble_eq_true rfl, by decide +kernel, rfl, fun h => absurd h (by decide)⟩, Nat.le_of_ble_eq_true rfl, kw_580, kw_581, rfl, Nat.le_of_ble_eq_true rfl⟩, fun h => absurd h (by decide)⟩, rfl, rfl, rfl, rfl, rfl, ⟨rfl, Or.inr rfl⟩, ⟨rfl, fun _ => ⟨⟨kw_582, kw_399, kw_583, ⟨by decide +kernel, by decide +kernel, by decide +kernel⟩, Nat.le_of_ble_eq_true rfl, Nat.le_of_ble_eq_true rfl, by decide +kernel, rfl, fun h => absurd h (by decide)⟩, Nat.le_of_ble_eq_true rfl, kw_584, kw_585, rfl, Nat.le_of_ble_eq_true rfl⟩, fun h => absurd h (by decide)⟩, rfl, rfl, ⟨rfl, Or.inr ⟨rfl, rfl⟩⟩, rfl, rfl, rfl, rfl, rfl, ⟨rfl, Or.inr rfl⟩, ⟨rfl, fun _ => ⟨⟨kw_586, kw_133, kw_587, ⟨by decide +kernel, by decide +kernel, by decide +kernel⟩, Nat.le_of_ble_eq_true rfl, Nat.le_of_ble_eq_true rfl, by decide +kernel, rfl, fun h => absurd h (by decide)⟩, Nat.le_of_ble_eq_true rfl, kw_588, kw_589, rfl, Nat.le_of_ble_eq_true rfl⟩, fun h => absurd h (by decide)⟩, rfl, rfl, rfl, rfl, rfl, ⟨rfl, Or.inr rfl⟩, ⟨rfl, fun _ => ⟨⟨kw_590, kw_399, kw_591, ⟨by decide +kernel, by decide +kernel, by decide +kernel⟩, Nat.le_of_ble_eq_true rfl, Nat.le_of_ble_eq_true rfl, by decide +kernel, rfl, fun h => absurd h (by decide)⟩, Nat.le_of_ble_eq_true rfl, kw_592, kw_593, rfl, Nat.le_of_ble_eq_true rfl⟩, fun h => absurd h (by decide)⟩, rfl, rfl, ⟨rfl, Or.inr ⟨rfl, rfl⟩⟩, rfl, rfl, rfl, rfl, rfl, ⟨rfl, Or.inr rfl⟩, rfl, rfl, rfl, rfl, ⟨rfl, Or.inr rfl⟩, rfl, rfl, rfl, rfl, ⟨rfl, Or.inr rfl⟩, ⟨rfl, fun _ => ⟨⟨kw_594, kw_133, kw_595, ⟨by decide +kernel, by decide +kernel, by decide +kernel⟩, Nat.le_of_ble_eq_true rfl, Nat.le_of_ble_eq_true rfl, by decide +kernel, rfl, fun h => absurd h (by decide)⟩, Nat.le_of_ble_eq_true rfl, kw_596, kw_597, rfl, Nat.le_of_ble_eq_true rfl⟩, fun h => absurd h (by decide)⟩, rfl, rfl, rfl, rfl, rfl, ⟨rfl, Or.inr rfl⟩, rfl, rfl, rfl, rfl, ⟨rfl, Or.inr rfl⟩, rfl, rfl, rfl, rfl, ⟨rfl, Or.inr rfl⟩, ⟨rfl, fun _ => ⟨⟨kw_598, kw_399, kw_599, ⟨by decide +kernel, by decide +kernel, by decide +kernel⟩, Nat.le_of_ble_eq_true rfl, Nat.le_of_ble_eq_true rfl, by decide +kernel, rfl, fun h => absurd h (by decide)⟩, Nat.le_of_ble_eq_true rfl, kw_600, kw_601, rfl, Nat.le_of_ble_eq_true rfl⟩, fun h => absurd h (by decide)⟩, rfl, rfl, ⟨rfl, Or.inr ⟨rfl, rfl⟩⟩, rfl, rfl, rfl, rfl, rfl, ⟨rfl, Or.inr rfl⟩, ⟨rfl, fun _ => ⟨⟨kw_602, kw_133, kw_603, ⟨by decide +kernel, by decide +kernel, by decide +kernel⟩, Nat.le_of_ble_eq_true rfl, Nat.le_of_ble_eq_true rfl, by decide +kernel, rfl, fun h => absurd h (by decide)⟩, Nat.le_of_ble_eq_true rfl, kw_604, kw_605, rfl, Nat.le_of_ble_eq_true rfl⟩, fun h => absurd h (by decide)⟩, rfl, rfl, rfl, rfl, rfl, ⟨rfl, Or.inr rfl⟩, ⟨rfl, fun _ => ⟨⟨kw_606, kw_399, kw_607, ⟨by decide +kernel, by decide +kernel, by decide +kernel⟩, Nat.le_of_ble_eq_true rfl, Nat.le_of_ble_eq_true rfl, by decide +kernel, rfl, fun h => absurd h (by decide)⟩, Nat.le_of_ble_eq_true rfl, kw_608, kw_609, rfl, Nat.le_of_ble_eq_true rfl⟩, fun h => absurd h (by decide)⟩, rfl, rfl, ⟨rfl, Or.inr ⟨rfl, rfl⟩⟩, rfl, rfl, rfl, rfl, rfl, ⟨rfl, Or.inr rfl⟩, ⟨rfl, fun _ => ⟨⟨kw_610, kw_133, kw_611, ⟨by decide +kernel, by decide +kernel, by decide +kernel⟩, Nat.le_of_ble_eq_true rfl, Nat.le_of_ble_eq_true rfl, by decide +kernel, rfl, fun h => absurd h (by decide)⟩, Nat.le_of_ble_eq_true rfl, kw_612, kw_613, rfl, Nat.le_of_ble_eq_true rfl⟩, fun h => absurd h (by decide)⟩, rfl, rfl, rfl, rfl, rfl, ⟨rfl, Or.inr rfl⟩, ⟨rfl, fun _ => ⟨⟨kw_614, kw_399, kw_615, ⟨by decide +kernel, by decide +kernel, by decide +kernel⟩, Nat.le_of_ble_eq_true rfl, Nat.le_of_ble_eq_true rfl, by decide +kernel, rfl, fun h => absurd h (by decide)⟩, Nat.le_of_ble_eq_true rfl, kw_616, kw_617, rfl, Nat.le_of_ble_eq_true rfl⟩, fun h => absurd h (by decide)⟩, rfl, rfl, ⟨rfl, Or.inr ⟨rfl, rfl⟩⟩, rfl, rfl, rfl, rfl, rfl, ⟨rfl, Or.inr rfl⟩, rfl, rfl, rfl, rfl, ⟨rfl, Or.inr rfl⟩, ⟨rfl, fun _ => ⟨⟨kw_618, kw_133, kw_619, ⟨by decide +kernel, by decide +kernel, by decide +kernel⟩, Nat.le_of_ble_eq_true rfl, Nat.le_of_ble_eq_true rfl, by decide +kernel, rfl, fun h => absurd h (by decide)⟩, Nat.le_of_ble_eq_true rfl, kw_620, kw_621, rfl, Nat.le_of_ble_eq_true rfl⟩, fun h => absurd h (by decide)⟩, rfl, rfl, rfl, rfl, rfl, ⟨rfl, Or.inr rfl⟩, rfl, rfl, rfl, rfl, ⟨rfl, Or.inr rfl⟩, ⟨rfl, fun _ => ⟨⟨kw_622, kw_399, kw_623, ⟨by decide +kernel, by decide +kernel, by decide +kernel⟩, Nat.le_of_ble_eq_true rfl, Nat.le_of_ble_eq_true rfl, by decide +kernel, rfl, fun h => absurd h (by decide)⟩, Nat.le_of_ble_eq_true rfl, kw_624, kw_625, rfl, Nat.le_of_ble_eq_true rfl⟩, fun h => absurd h (by decide)⟩, rfl, rfl, ⟨rfl, Or.inr ⟨rfl, rfl⟩⟩, rfl, rfl, rfl, rfl, rfl, ⟨rfl, Or.inr rfl⟩, rfl, rfl, rfl, rfl, ⟨rfl, Or.inr rfl⟩, ⟨rfl, fun _ => ⟨⟨kw_626, kw_133, kw_627, ⟨by decide +kernel, by decide +kernel, by decide +kernel⟩, Nat.le_of_ble_eq_true rfl, Nat.le_of_ble_eq_true rfl, by decide +kernel, rfl, fun h => absurd h (by decide)⟩, Nat.le_of_ble_eq_true rfl, kw_628, kw_629, rfl, Nat.le_of_ble_eq_true rfl⟩, fun h => absurd h (by decide)⟩, rfl, rfl, rfl, rfl, rfl, ⟨rfl, Or.inr rfl⟩, rfl, rfl, rfl, rfl, ⟨rfl, Or.inr rfl⟩, ⟨rfl, fun _ => ⟨⟨kw_630, kw_399, kw_631, ⟨by decide +kernel, by decide +kernel, by decide +kernel⟩, Nat.le_of_ble_eq_true rfl, Nat.le_of_ble_eq_true rfl, by decide +kernel, rfl, fun h => absurd h (by decide)⟩, Nat.le_of_ble_eq_true rfl, kw_632, kw_633, rfl, Nat.le_of_ble_eq_true rfl⟩, fun h => absurd h (by decide)⟩, rfl, rfl, ⟨rfl, Or.inr ⟨rfl, rfl⟩⟩, rfl, rfl, rfl, rfl, rfl, ⟨rfl, Or.inr rfl⟩, rfl, rfl, rfl, rfl, ⟨rfl, Or.inr rfl⟩, ⟨rfl, fun _ => ⟨⟨kw_634, kw_133, kw_635, ⟨by decide +kernel, by decide +kernel, by decide +kernel⟩, Nat.le_of_ble_eq_true rfl, Nat.le_of_ble_eq_true rfl, by decide +kernel, rfl, fun h => absurd h (by decide)⟩, Nat.le_of_ble_eq_true rfl, kw_636, kw_637, rfl, Nat.le_of_ble_eq_true rfl⟩, fun h => absurd h (by decide)⟩, rfl, rfl, rfl, rfl, rfl, ⟨rfl, Or.inr rfl⟩, rfl, rfl, rfl, rfl, ⟨rfl, Or.inr rfl⟩, ⟨rfl, fun _ => ⟨⟨kw_638, kw_399, kw_639, ⟨by decide +kernel, by decide +kernel, by decide +kernel⟩, Nat.le_of_ble_eq_true rfl, Nat.le_of_ble_eq_true rfl, by decide +kernel, rfl, fun h => absurd h (by decide)⟩, Nat.le_of_ble_eq_true rfl, kw_640, kw_641, rfl, Nat.le_of_ble_eq_true rfl⟩, fun h => absurd h (by decide)⟩, rfl, rfl, ⟨rfl, Or.inr ⟨rfl, rfl⟩⟩, rfl, rfl, rfl, rfl, rfl, ⟨rfl, Or.inr rfl⟩, rfl, rfl, rfl, rfl, ⟨rfl, Or.inr rfl⟩, ⟨rfl, fun _ => ⟨⟨kw_642, kw_133, kw_643, ⟨by decide +kernel, by decide +kernel, by decide +kernel⟩, Nat.le_of_ble_eq_true rfl, Nat.le_of_ble_eq_true rfl, by decide +kernel, rfl, fun h => absurd h (by decide)⟩, Nat.le_of_ble_eq_true rfl, kw_644, kw_645, rfl, Nat.le_of_ble_eq_true rfl⟩, fun h => absurd h (by decide)⟩, rfl, rfl, rfl, rfl, rfl, ⟨rfl, Or.inr rfl⟩, rfl, rfl, rfl, rfl, ⟨rfl, Or.inr rfl⟩, ⟨rfl, fun _ => ⟨⟨kw_646, kw_399, kw_647, ⟨by decide +kernel, by decide +kernel, by decide +kernel⟩, Nat.le_of_ble_eq_true rfl, Nat.le_of_ble_eq_true rfl, by decide +kernel, rfl, fun h => absurd h (by decide)⟩, Nat.le_of_ble_eq_true rfl, kw_648, kw_649, rfl, Nat.le_of_ble_eq_true rfl⟩, fun h => absurd h (by decide)⟩, rfl, rfl, ⟨rfl, Or.inr ⟨rfl, rfl⟩⟩, rfl, rfl, rfl, rfl, rfl, ⟨rfl, Or.inr rfl⟩, rfl, rfl, rfl, rfl, ⟨rfl, Or.inr rfl⟩, rfl, rfl, rfl, rfl, ⟨rfl, Or.inr rfl⟩, ⟨rfl, fun _ => ⟨⟨kw_650, kw_133, kw_651, ⟨by decide +kernel, by decide +kernel, by decide +kernel⟩, Nat.le_of_ble_eq_true rfl, Nat.le_of_ble_eq_true rfl, by decide +kernel, rfl, fun h => absurd h (by decide)⟩, Nat.le_of_ble_eq_true rfl, kw_652, kw_653, rfl, Nat.le_of_ble_eq_true rfl⟩, fun h => absurd h (by decide)⟩, rfl, rfl, rfl, rfl, rfl, ⟨rfl, Or.inr rfl⟩, rfl, rfl, rfl, rfl, ⟨rfl, Or.inr rfl⟩, rfl, rfl, rfl, rfl, ⟨rfl, Or.inr rfl⟩, ⟨rfl, fun _ => ⟨⟨kw_654, kw_399, kw_655, ⟨by decide +kernel, by decide +kernel, by decide +kernel⟩, Nat.le_of_ble_eq_true rfl, Nat.le_of_ble_eq_true rfl, by decide +kernel, rfl, fun h => absurd h (by decide)⟩, Nat.le_of_ble_eq_true rfl, kw_656, kw_657, rfl, Nat.le_of_ble_eq_true rfl⟩, fun h => absurd h (by decide)⟩, rfl, rfl, ⟨rfl, Or.inr ⟨rfl, rfl⟩⟩, rfl, rfl, rfl, rfl, rfl, ⟨rfl, Or.inr rfl⟩, ⟨rfl, fun _ => ⟨⟨kw_658, kw_133, kw_659, ⟨by decide +kernel, by decide +kernel, by decide +kernel⟩, Nat.le_of_ble_eq_true rfl, Nat.le_of_ble_eq_true rfl, by decide +kernel, rfl, fun h => absurd h (by decide)⟩, Nat.le_of_ble_eq_true rfl, kw_660, kw_661, rfl, Nat.le_of_ble_eq_true rfl⟩, fun h => absurd h (by decide)⟩, rfl, rfl, rfl, rfl, rfl, ⟨rfl, Or.inr rfl⟩, ⟨rfl, fun _ => ⟨⟨kw_662, kw_399, kw_663, ⟨by decide +kernel, by decide +kernel, by decide +kernel⟩, Nat.le_of_ble_eq_true rfl, Nat.le_of_ble_eq_true rfl, by decide +kernel, rfl, fun h => absurd h (by decide)⟩, Nat.le_of_ble_eq_true rfl, kw_664, kw_665, rfl, Nat.le_of_ble_eq_true rfl⟩, fun h => absurd h (by decide)⟩, rfl, rfl, ⟨rfl, Or.inr ⟨rfl, rfl⟩⟩, rfl, rfl, rfl, rfl, rfl, ⟨rfl, Or.inr rfl⟩, rfl, rfl, rfl, rfl, ⟨rfl, Or.inr rfl⟩, ⟨rfl, fun _ => ⟨⟨kw_666, kw_133, kw_667, ⟨by decide +kernel, by decide +kernel, by decide +kernel⟩, Nat.le_of_ble_eq_true rfl, Nat.le_of_ble_eq_true rfl, by decide +kernel, rfl, fun h => absurd h (by decide)⟩, Nat.le_of_ble_eq_true rfl, kw_668, kw_669, rfl, Nat.le_of_ble_eq_true rfl⟩, fun h => absurd h (by decide)⟩, rfl, rfl, rfl, rfl, rfl, ⟨rfl, Or.inr rfl⟩, rfl, rfl, rfl, rfl, ⟨rfl, Or.inr rfl⟩, ⟨rfl, fun _ => ⟨⟨kw_670, kw_399, kw_671, ⟨by decide +kernel, by decide +kernel, by decide +kernel⟩, Nat.le_of_ble_eq_true rfl, Nat.le_of_ble_eq_true rfl, by decide +kernel, rfl, fun h => absurd h (by decide)⟩, Nat.le_of_ble_eq_true rfl, kw_672, kw_673, rfl, Nat.le_of_ble_eq_true rfl⟩, fun h => absurd h (by decide)⟩, rfl, rfl, ⟨rfl, Or.inr ⟨rfl, rfl⟩⟩, rfl, rfl, rfl, rfl, rfl, ⟨rfl, Or.inr rfl⟩, rfl, rfl, rfl, rfl, ⟨rfl, Or.inr rfl⟩, ⟨rfl, fun _ => ⟨⟨kw_674, kw_133, kw_675, ⟨by decide +kernel, by decide +kernel, by decide +kernel⟩, Nat.le_of_ble_eq_true rfl, Nat.le_of_ble_eq_true rfl, by decide +kernel, rfl, fun h => absurd h (by decide)⟩, Nat.le_of_ble_eq_true rfl, kw_676, kw_677, rfl, Nat.le_of_ble_eq_true rfl⟩, fun h => absurd h (by decide)⟩, rfl, rfl, rfl, rfl, rfl, ⟨rfl, Or.inr rfl⟩, rfl, rfl, rfl, rfl, ⟨rfl, Or.inr rfl⟩, ⟨rfl, fun _ => ⟨⟨kw_678, kw_399, kw_679, ⟨by decide +kernel, by decide +kernel, by decide +kernel⟩, Nat.le_of_ble_eq_true rfl, Nat.le_of_ble_eq_true rfl, by decide +kernel, rfl, fun h => absurd h (by decide)⟩, Nat.le_of_ble_eq_true rfl, kw_680, kw_681, rfl, Nat.le_of_ble_eq_true rfl⟩, fun h => absurd h (by decide)⟩, rfl, rfl, ⟨rfl, Or.inr ⟨rfl, rfl⟩⟩, rfl, ⟨rfl, fun _ => ⟨⟨kw_682, kw_133, kw_683, ⟨by decide +kernel, by decide +kernel, by decide +kernel⟩, Nat.le_of_ble_eq_true rfl, Nat.le_of_ble_eq_true rfl, by decide +kernel, rfl, fun h => absurd h (by decide)⟩, Nat.le_of_ble_eq_true rfl, kw_684, kw_685, rfl, Nat.le_of_ble_eq_true rfl⟩, fun h => absurd h (by decide)⟩, rfl, ⟨rfl, fun _ => ⟨⟨kw_686, kw_399, kw_436, ⟨by decide +kernel, by decide +kernel, by decide +kernel⟩, Nat.le_of_ble_eq_true rfl, Nat.le_of_ble_eq_true rfl, by decide +kernel, rfl, fun h => absurd h (by decide)⟩, Nat.le_of_ble_eq_true rfl, kw_437, kw_438, rfl, Nat.le_of_ble_eq_true rfl⟩, fun h => absurd h (by decide)⟩, rfl, rfl, ⟨rfl, Or.inr ⟨rfl, rfl⟩⟩, rfl, ⟨rfl, fun _ => ⟨⟨kw_687, kw_133, kw_688, ⟨by decide +kernel, by decide +kernel, by decide +kernel⟩, Nat.le_of_ble_eq_true rfl, Nat.le_of_ble_eq_true rfl, by decide +kernel, rfl, fun h => absurd h (by decide)⟩, Nat.le_of_ble_eq_true rfl, kw_689, kw_690, rfl, Nat.le_of_ble_eq_true rfl⟩, fun h => absurd h (by decide)⟩, rfl, ⟨rfl, fun _ => ⟨⟨kw_691, kw_399, kw_692, ⟨by decide +kernel, by decide +kernel, by decide +kernel⟩, Nat.le_of_ble_eq_true rfl, Nat.le_of_ble_eq_true rfl, by decide +kernel, rfl, fun h => absurd h (by decide)⟩, Nat.le_of_ble_eq_true rfl, kw_693, kw_694, rfl, Nat.le_of_ble_eq_true rfl⟩, fun h => absurd h (by decide)⟩, rfl, rfl, ⟨rfl, Or.inr ⟨rfl, rfl⟩⟩, rfl, rfl, rfl, rfl, rfl, ⟨rfl, Or.inr rfl⟩, rfl, rfl, rfl, rfl, ⟨rfl, Or.inr rfl⟩, ⟨rfl, fun _ => ⟨⟨kw_695, kw_133, kw_696, ⟨by decide +kernel, by decide +kernel, by decide +kernel⟩, Nat.le_of_ble_eq_true rfl, Nat.le_of_ble_eq_true rfl, by decide +kernel, rfl, fun h => absurd h (by decide)⟩, Nat.le_of_ble_eq_true rfl, kw_697, kw_698, rfl, Nat.le_of_ble_eq_true rfl⟩, fun h => absurd h (by decide)⟩, rfl, rfl, rfl, rfl, rfl, ⟨rfl, Or.inr rfl⟩, rfl, rfl, rfl, rfl, ⟨rfl, Or.inr rfl⟩, ⟨rfl, fun _ => ⟨⟨kw_699, kw_399, kw_493, ⟨by decide +kernel, by decide +kernel, by decide +kernel⟩, Nat.le_of_ble_eq_true rfl, Nat.le_of_ble_eq_true rfl, by decide +kernel, rfl, fun h => absurd h (by decide)⟩, Nat.le_of_ble_eq_true rfl, kw_494, kw_495, rfl, Nat.le_of_ble_eq_true rfl⟩, fun h => absurd h (by decide)⟩, rfl, rfl, ⟨rfl, Or.inr ⟨rfl, rfl⟩⟩, rfl, rfl, rfl, rfl, rfl, ⟨rfl, Or.inr rfl⟩, rfl, rfl, rfl, rfl, ⟨rfl, Or.inr rfl⟩, ⟨rfl, fun _ => ⟨⟨kw_700, kw_133, kw_701, ⟨by decide +kernel, by decide +kernel, by decide +kernel⟩, Nat.le_of_ble_eq_true rfl, Nat.le_of_ble_eq_true rfl, by decide +kernel, rfl, fun h => absurd h (by decide)⟩, Nat.le_of_ble_eq_true rfl, kw_702, kw_703, rfl, Nat.le_of_ble_eq_true rfl⟩, fun h => absurd h (by decide)⟩, rfl, rfl, rfl, rfl, rfl, ⟨rfl, Or.inr rfl⟩, rfl, rfl, rfl, rfl, ⟨rfl, Or.inr rfl⟩, ⟨rfl, fun _ => ⟨⟨kw_704, kw_399, kw_705, ⟨by decide +kernel, by decide +kernel, by decide +kernel⟩, Nat.le_of_ble_eq_true rfl, Nat.le_of_ble_eq_true rfl, by decide +kernel, rfl, fun h => absurd h (by decide)⟩, Nat.le_of_ble_eq_true rfl, kw_706, kw_707, rfl, Nat.le_of_ble_eq_true rfl⟩, fun h => absurd h (by decide)⟩, rfl, rfl, ⟨rfl, Or.inr ⟨rfl, rfl⟩⟩, rfl, rfl, rfl, rfl, rfl, ⟨rfl, Or.inr rfl⟩, ⟨rfl, fun _ => ⟨⟨kw_708, kw_133, kw_709, ⟨by decide +kernel, by decide +kernel, by decide +kernel⟩, Nat.le_of_ble_eq_true rfl, Nat.le_of_ble_eq_true rfl, by decide +kernel, rfl, fun h => absurd h (by decide)⟩, Nat.le_of_ble_eq_true rfl, kw_710, kw_711, rfl, Nat.le_of_ble_eq_true rfl⟩, fun h => absurd h (by decide)⟩, rfl, rfl, rfl, rfl, rfl, ⟨rfl, Or.inr rfl⟩, ⟨rfl, fun _ => ⟨⟨kw_712, kw_399, kw_713, ⟨by decide +kernel, by decide +kernel, by decide +kernel⟩, Nat.le_of_ble_eq_true rfl, Nat.le_of_ble_eq_true rfl, by decide +kernel, rfl, fun h => absurd h (by decide)⟩, Nat.le_of_ble_eq_true rfl, kw_714, kw_715, rfl, Nat.le_of_ble_eq_true rfl⟩, fun h => absurd h (by decide)⟩, rfl, rfl, ⟨rfl, Or.inr ⟨rfl, rfl⟩⟩, rfl, rfl, rfl, ⟨rfl, Or.inr ⟨rfl, rfl⟩⟩, trivial⟩
def allP : Nat → List (List (Option Ent)) → Prop
  | _, [] => True
  | y, c :: cs => (dck (yBy y) 0 c = true ∧ okl y 0 c) ∧ allP (y + 1) cs
set_option maxRecDepth 100000 in
theorem all_ok : allP 0 mc_progs := ⟨⟨dk_X0_init, ok_X0_init⟩, ⟨dk_X0_byteAt, ok_X0_byteAt⟩, ⟨dk_X0_sumOf, ok_X0_sumOf⟩, ⟨dk_X1_init, ok_X1_init⟩, ⟨dk_X1_takesMore, ok_X1_takesMore⟩, ⟨dk_X1_restsUnheard, ok_X1_restsUnheard⟩, ⟨dk_X1_ticksToSend, ok_X1_ticksToSend⟩, ⟨dk_X1_sentWith, ok_X1_sentWith⟩, ⟨dk_X1_sendAt, ok_X1_sendAt⟩, ⟨dk_X1_bytesFor, ok_X1_bytesFor⟩, ⟨dk_X1_sendBytes, ok_X1_sendBytes⟩, ⟨dk_X1_sendFirst, ok_X1_sendFirst⟩, ⟨dk_X1_goDown, ok_X1_goDown⟩, ⟨dk_X2_init, ok_X2_init⟩, ⟨dk_X2_lossesOn, ok_X2_lossesOn⟩, ⟨dk_X2_addLossOn, ok_X2_addLossOn⟩, ⟨dk_X3_init, ok_X3_init⟩, ⟨dk_X3_numberOf, ok_X3_numberOf⟩, ⟨dk_X3_add, ok_X3_add⟩, ⟨dk_X3_restOfFirst, ok_X3_restOfFirst⟩, ⟨dk_X3_takeFromFirst, ok_X3_takeFromFirst⟩, ⟨dk_X3_dropFirst, ok_X3_dropFirst⟩, ⟨dk_X3_clear, ok_X3_clear⟩, ⟨dk_X4_init, ok_X4_init⟩, ⟨dk_X4_numberOf, ok_X4_numberOf⟩, ⟨dk_X4_countOf, ok_X4_countOf⟩, ⟨dk_X4_comingOf, ok_X4_comingOf⟩, ⟨dk_X4_marksOf, ok_X4_marksOf⟩, ⟨dk_X4_add, ok_X4_add⟩, ⟨dk_X4_hasComeAt, ok_X4_hasComeAt⟩, ⟨dk_X4_dropFirst, ok_X4_dropFirst⟩, ⟨dk_X4_firstWithout, ok_X4_firstWithout⟩, ⟨dk_X4_mark, ok_X4_mark⟩, ⟨dk_X4_clear, ok_X4_clear⟩, ⟨dk_X5_init, ok_X5_init⟩, ⟨dk_X5_open, ok_X5_open⟩, ⟨dk_X5_lease, ok_X5_lease⟩, ⟨dk_X5_type, ok_X5_type⟩, ⟨dk_X5_grow, ok_X5_grow⟩, ⟨dk_X5_frame, ok_X5_frame⟩, ⟨dk_X5_cutIntoPieces, ok_X5_cutIntoPieces⟩, ⟨dk_X5_cut, ok_X5_cut⟩, ⟨dk_X5_room, ok_X5_room⟩, ⟨dk_X5_tick, ok_X5_tick⟩, ⟨dk_X5_layLostPieces, ok_X5_layLostPieces⟩, ⟨dk_X5_layNewPieces, ok_X5_layNewPieces⟩, ⟨dk_X5_lineFor, ok_X5_lineFor⟩, ⟨dk_X5_isBetter, ok_X5_isBetter⟩, ⟨dk_X5_layOn, ok_X5_layOn⟩, ⟨dk_X5_sendOnLines, ok_X5_sendOnLines⟩, ⟨dk_X5_takeWhatComes, ok_X5_takeWhatComes⟩, ⟨dk_X5_takeFrom, ok_X5_takeFrom⟩, ⟨dk_X5_arrive, ok_X5_arrive⟩, ⟨dk_X5_loseUpTo, ok_X5_loseUpTo⟩, ⟨dk_X5_loseOn, ok_X5_loseOn⟩, ⟨dk_X5_giveFrames, ok_X5_giveFrames⟩, ⟨dk_X5_restLines, ok_X5_restLines⟩, ⟨dk_X5_become, ok_X5_become⟩, ⟨dk_X5_lose, ok_X5_lose⟩, ⟨dk_X5_bend, ok_X5_bend⟩, ⟨dk_X5_fall, ok_X5_fall⟩, ⟨dk_X5_rise, ok_X5_rise⟩, ⟨dk_X5_line, ok_X5_line⟩, ⟨dk_X5_piece, ok_X5_piece⟩, ⟨dk_X5_lostOn, ok_X5_lostOn⟩, ⟨dk_X5_queued, ok_X5_queued⟩, ⟨dk_X5_under, ok_X5_under⟩, ⟨dk_X5_waits, ok_X5_waits⟩, ⟨dk_X5_lostPieceAt, ok_X5_lostPieceAt⟩, ⟨dk_X5_got, ok_X5_got⟩, ⟨dk_X5_frameOf, ok_X5_frameOf⟩, ⟨dk_X5_credit, ok_X5_credit⟩, ⟨dk_X5_skew, ok_X5_skew⟩, ⟨dk_X5_witness, ok_X5_witness⟩, ⟨dk_X5_check, ok_X5_check⟩, ⟨dk_X5_witnessOf, ok_X5_witnessOf⟩, ⟨dk_X5_status, ok_X5_status⟩, ⟨dk_X5_allEmptiesLaid, ok_X5_allEmptiesLaid⟩, ⟨dk_X5_refusalsOf, ok_X5_refusalsOf⟩, ⟨dk_X5_refuse, ok_X5_refuse⟩, ⟨dk_X5_creditLeft, ok_X5_creditLeft⟩, ⟨dk_X5_lineAt, ok_X5_lineAt⟩, ⟨dk_X5_frameAt, ok_X5_frameAt⟩, ⟨dk_X5_pieceAt, ok_X5_pieceAt⟩, ⟨dk_X6_init, ok_X6_init⟩, ⟨dk_X6_in, ok_X6_in⟩, ⟨dk_X6_refuse, ok_X6_refuse⟩, ⟨dk_X6_isLine, ok_X6_isLine⟩, ⟨dk_X6_open, ok_X6_open⟩, ⟨dk_X6_lease, ok_X6_lease⟩, ⟨dk_X6_type, ok_X6_type⟩, ⟨dk_X6_grow, ok_X6_grow⟩, ⟨dk_X6_frame, ok_X6_frame⟩, ⟨dk_X6_cut, ok_X6_cut⟩, ⟨dk_X6_room, ok_X6_room⟩, ⟨dk_X6_sumOf, ok_X6_sumOf⟩, ⟨dk_X6_credit, ok_X6_credit⟩, ⟨dk_X6_sizeOf, ok_X6_sizeOf⟩, ⟨dk_X6_waiting, ok_X6_waiting⟩, ⟨dk_X6_lose, ok_X6_lose⟩, ⟨dk_X6_isBetter, ok_X6_isBetter⟩, ⟨dk_X6_bestLine, ok_X6_bestLine⟩, ⟨dk_X6_layOn, ok_X6_layOn⟩, ⟨dk_X6_laying, ok_X6_laying⟩, ⟨dk_X6_allowed, ok_X6_allowed⟩, ⟨dk_X6_sendFirst, ok_X6_sendFirst⟩, ⟨dk_X6_sending, ok_X6_sending⟩, ⟨dk_X6_coming, ok_X6_coming⟩, ⟨dk_X6_comes, ok_X6_comes⟩, ⟨dk_X6_isWhole, ok_X6_isWhole⟩, ⟨dk_X6_step, ok_X6_step⟩, ⟨dk_X6_tick, ok_X6_tick⟩, ⟨dk_X6_firstNot, ok_X6_firstNot⟩, ⟨dk_X6_lose_, ok_X6_lose_⟩, ⟨dk_X6_bend, ok_X6_bend⟩, ⟨dk_X6_fall, ok_X6_fall⟩, ⟨dk_X6_rise, ok_X6_rise⟩, ⟨dk_X6_line, ok_X6_line⟩, ⟨dk_X6_isPiece, ok_X6_isPiece⟩, ⟨dk_X6_piece, ok_X6_piece⟩, ⟨dk_X6_lostOn, ok_X6_lostOn⟩, ⟨dk_X6_queued, ok_X6_queued⟩, ⟨dk_X6_under, ok_X6_under⟩, ⟨dk_X6_waits, ok_X6_waits⟩, ⟨dk_X6_isFrame, ok_X6_isFrame⟩, ⟨dk_X6_got, ok_X6_got⟩, ⟨dk_X6_frameOf, ok_X6_frameOf⟩, ⟨dk_X6_skew, ok_X6_skew⟩, ⟨dk_X6_witness, ok_X6_witness⟩, ⟨dk_X6_check, ok_X6_check⟩, ⟨dk_X6_many, ok_X6_many⟩, ⟨dk_X6_status, ok_X6_status⟩, ⟨dk_J7_copyOf_9075b, ok_J7_copyOf_9075b⟩, ⟨dk_L_law, ok_L_law⟩, trivial⟩
end
section
/-! Our small heap as a world of the kit's. -/
def bw : List Cond := lw_tbl.filter goodWord
theorem bw_of {w : Cond} (h : iw w) : w ∈ bw := List.mem_filter.mpr h
theorem bw_good {w : Cond} (h : w ∈ bw) : (w.onTables && w.keeps) = true ∨ ∃ ty, w = .arrayClass ty := good_of_word (List.mem_filter.mp h).2
def wsy (y : Nat) : List Cond := .code (yNm y) (yBy y) (mlo y) (yRt y) :: bw
set_option maxRecDepth 100000 in
theorem hin_0 : ∀ w ∈ u_ws RX0 TX0 6, w ∈ lw_tbl ∧ goodWord w = true := by decide +kernel
set_option maxRecDepth 100000 in
theorem hin_1 : ∀ w ∈ u_ws RX1 TX1 17, w ∈ lw_tbl ∧ goodWord w = true := by decide +kernel
set_option maxRecDepth 100000 in
theorem hin_2 : ∀ w ∈ u_ws RX2 TX2 8, w ∈ lw_tbl ∧ goodWord w = true := by decide +kernel
set_option maxRecDepth 100000 in
theorem hin_3 : ∀ w ∈ u_ws RX3 TX3 6, w ∈ lw_tbl ∧ goodWord w = true := by decide +kernel
set_option maxRecDepth 100000 in
theorem hin_4 : ∀ w ∈ u_ws RX4 TX4 6, w ∈ lw_tbl ∧ goodWord w = true := by decide +kernel
set_option maxRecDepth 100000 in
theorem hin_5 : ∀ w ∈ u_ws RX5 TX5 18, w ∈ lw_tbl ∧ goodWord w = true := by decide +kernel
set_option maxRecDepth 100000 in
theorem hin_6 : ∀ w ∈ u_ws RX6 TX6 47, w ∈ lw_tbl ∧ goodWord w = true := by decide +kernel
theorem hinC (c : Nat) (hc : c < 7) (w : Cond) (hw : w ∈ u_ws (cnm c) (clT c) (nfl c)) : w ∈ bw := by
  apply bw_of
  match c, hc, hw with
  | 0, _, hw => exact hin_0 w hw
  | 1, _, hw => exact hin_1 w hw
  | 2, _, hw => exact hin_2 w hw
  | 3, _, hw => exact hin_3 w hw
  | 4, _, hw => exact hin_4 w hw
  | 5, _, hw => exact hin_5 w hw
  | 6, _, hw => exact hin_6 w hw
  | n + 7, h, _ => exact absurd h (by omega)
theorem cl_at (c : Nat) (hc : c < 7) : vwCl[c]? = some (cnm c, clT c, nfl c) := by
  match c, hc with
  | 0, _ => rfl
  | 1, _ => rfl
  | 2, _ => rfl
  | 3, _ => rfl
  | 4, _ => rfl
  | 5, _ => rfl
  | 6, _ => rfl
  | n + 7, h => exact absurd h (by omega)
theorem clY_ok (c : Nat) (hc : c < 7) : ∀ k, k < nfl c → parseFieldDescriptor (clT c k).2.2.1 = some (clY c k) := by
  match c, hc with
  | 0, _ => exact tyX0_ok
  | 1, _ => exact tyX1_ok
  | 2, _ => exact tyX2_ok
  | 3, _ => exact tyX3_ok
  | 4, _ => exact tyX4_ok
  | 5, _ => exact tyX5_ok
  | 6, _ => exact tyX6_ok
  | n + 7, h => exact absurd h (by omega)
theorem clN_ok (c : Nat) (hc : c < 7) : ∀ a, a < nfl c → ∀ b, b < nfl c → a ≠ b → (clT c a).2.1 ≠ (clT c b).2.1 := by
  match c, hc with
  | 0, _ => exact nmX0
  | 1, _ => exact nmX1
  | 2, _ => exact nmX2
  | 3, _ => exact nmX3
  | 4, _ => exact nmX4
  | 5, _ => exact nmX5
  | 6, _ => exact nmX6
  | n + 7, h => exact absurd h (by omega)
def tyk : FieldType → Nat
  | .int => 0
  | .boolean => 1
  | .object _ => 2
  | .array _ => 2
  | _ => 3
theorem tyk_ok : ∀ c, c < 7 → ∀ k, k < nfl c → tyk (clY c k) = fty c k := by decide +kernel
-- the code table
theorem all_at : ∀ (cs : List (List (Option Ent))) (y0 y : Nat) (c : List (Option Ent)), allP y0 cs → cs[y]? = some c → dck (yBy (y0 + y)) 0 c = true ∧ okl (y0 + y) 0 c
  | [], _, _, _, _, h => by simp at h
  | c0 :: cs, y0, 0, c, hp, h => by
    rw [List.getElem?_cons_zero] at h
    cases h
    exact hp.1
  | c0 :: cs, y0, y + 1, c, hp, h => by
    rw [List.getElem?_cons_succ] at h
    have := all_at cs (y0 + 1) y c hp.2 h
    rwa [show y0 + 1 + y = y0 + (y + 1) by omega] at this
theorem dck_at (b : ByteArray) : ∀ (l : List (Option Ent)) (pc i : Nat) (e : Ent), dck b pc l = true → l[i]? = some (some e) → decode b (pc + i) = .ok (e.1, e.2.1)
  | [], _, _, _, _, h => by simp at h
  | none :: l, pc, 0, e, _, h => by
    rw [List.getElem?_cons_zero] at h
    cases h
  | some e0 :: l, pc, 0, e, hp, h => by
    rw [List.getElem?_cons_zero] at h
    cases h
    simp only [dck, Bool.and_eq_true] at hp
    have h1 := hp.1
    rw [Nat.add_zero]
    cases hd : decode b pc with
    | ok q =>
      rw [hd] at h1
      simp only [Bool.and_eq_true, decide_eq_true_eq] at h1
      rw [← h1.1, ← h1.2]
    | error z =>
      rw [hd] at h1
      cases h1
  | none :: l, pc, i + 1, e, hp, h => by
    rw [List.getElem?_cons_succ] at h
    have := dck_at b l (pc + 1) i e hp h
    rwa [show pc + 1 + i = pc + (i + 1) by omega] at this
  | some e0 :: l, pc, i + 1, e, hp, h => by
    rw [List.getElem?_cons_succ] at h
    simp only [dck, Bool.and_eq_true] at hp
    have := dck_at b l (pc + 1) i e hp.2 h
    rwa [show pc + 1 + i = pc + (i + 1) by omega] at this
theorem okl_at (y : Nat) : ∀ (l : List (Option Ent)) (pc i : Nat) (e : Ent), okl y pc l → l[i]? = some (some e) → okw y (pc + i) e.1 e.2.1 e.2.2.1 e.2.2.2
  | [], _, _, _, _, h => by simp at h
  | none :: l, pc, 0, e, _, h => by
    rw [List.getElem?_cons_zero] at h
    cases h
  | some e0 :: l, pc, 0, e, hp, h => by
    rw [List.getElem?_cons_zero] at h
    cases h
    exact hp.1
  | none :: l, pc, i + 1, e, hp, h => by
    rw [List.getElem?_cons_succ] at h
    have := okl_at y l (pc + 1) i e hp h
    rwa [show pc + 1 + i = pc + (i + 1) by omega] at this
  | some e0 :: l, pc, i + 1, e, hp, h => by
    rw [List.getElem?_cons_succ] at h
    have := okl_at y l (pc + 1) i e hp.2 h
    rwa [show pc + 1 + i = pc + (i + 1) by omega] at this
theorem cd_ok {y pc : Nat} {ins : Instr} {len a b : Nat} (h : cd y pc = some (ins, len, a, b)) : decode (yBy y) pc = .ok (ins, len) ∧ okw y pc ins len a b := by
  unfold cd at h
  cases hy : mc_progs[y]? with
  | none => rw [hy] at h; cases h
  | some c =>
    rw [hy] at h
    dsimp only at h
    cases hc : c[pc]? with
    | none => rw [hc] at h; cases h
    | some e =>
      rw [hc] at h
      dsimp only at h
      subst h
      have h1 := all_at mc_progs 0 y c all_ok hy
      rw [Nat.zero_add] at h1
      have h2 := dck_at _ c 0 pc _ h1.1 hc
      have h3 := okl_at y c 0 pc _ h1.2 hc
      rw [Nat.zero_add] at h2 h3
      exact ⟨h2, h3⟩
-- cells
def fval (h : Hp) (ad : Nm → Nat) (n : Nm) (c k : Nat) : Value := match fty c k with
  | 2 => va_rf ((hpR h n k).map ad)
  | _ => .int (hpI h n k)
def cell (h : Hp) (ad : Nm → Nat) (ca : Nm → ClassId) (n : Nm) : va_E :=
  if kd n.1 < 10 then .inr (kd n.1, (List.range (nfl (kd n.1))).map (fun k => fval h ad n (kd n.1) k))
  else if kd n.1 < 110 then .inl (ca n, hpL h n, .inl (hpI h n))
  else .inl (ca n, hpL h n, .inr (.inr (.inr (.inr (fun j => (hpR h n j).map ad)))))
def wso (h : Hp) (ad : Nm → Nat) (ca : Nm → ClassId) (nms : List Nm) : va_W := nms.map (fun n => (ad n, cell h ad ca n))
def rl (ad : Nm → Nat) (v : Vl) : Value := match v with
  | .inl x => .int x
  | .inr (.inl x) => .long x
  | .inr (.inr o) => va_rf (o.map ad)
def tyA (k : Nat) : FieldType := if k = 100 then .int else if k = 101 then .byte else if k = 102 then .boolean else .object (cnm (k - 110))
def okN (nms : List Nm) (n : Nm) : Prop := n ∈ nms ∨ n = (98, 0)
def okV (nms : List Nm) (v : Vl) : Prop := ∀ n, v = vR (some n) → okN nms n
def okS (nms : List Nm) (st : St) : Prop := ∀ v ∈ st, okV nms v
def okL (nms : List Nm) (L : Ls) : Prop := ∀ v, some v ∈ L → okV nms v
def Wd (D : va_G) (A : Nat → Prop) (s : State) (ad : Nm → Nat) (ca : Nm → ClassId) (nms : List Nm) (tys : List (ClassId × FieldType)) (h : Hp) (H : Heap) : Prop :=
  va_P D vwCl (wso h ad ca nms) H ∧ va_D A (wso h ad ca nms) ∧ va_K D vwCl tys s ∧ (∀ n, n ∈ nms ↔ live h n) ∧ (∀ n ∈ nms, 100 ≤ kd n.1 → ∃ t0 : Nat, tys[t0]? = some (ca n, tyA (kd n.1))) ∧ (∀ n k m, hpR h n k = some m → m ∈ nms) ∧ (∀ n, kd n.1 = 101 → ∀ j, fits .byte (.int (hpI h n j)) = true)
theorem hpI_setI (h : Hp) (n : Nm) (k : Nat) (v : Int32) (n' : Nm) (k' : Nat) : hpI (setI h n k v) n' k' = if n' = n ∧ k' = k then v else hpI h n' k' := rfl
theorem hpR_setR (h : Hp) (n : Nm) (k : Nat) (v : Option Nm) (n' : Nm) (k' : Nat) : hpR (setR h n k v) n' k' = if n' = n ∧ k' = k then v else hpR h n' k' := rfl
theorem hpI_setF (h : Hp) (n : Nm) (f : Nat → Int32) (n' : Nm) (k' : Nat) : hpI (setF h n f) n' k' = if n' = n then f k' else hpI h n' k' := rfl
theorem wso_at {h : Hp} {ad : Nm → Nat} {ca : Nm → ClassId} {nms : List Nm} {q0 : Nat} {n : Nm} (hq : nms[q0]? = some n) : (wso h ad ca nms)[q0]? = some (ad n, cell h ad ca n) := by
  unfold wso
  rw [List.getElem?_map, hq]
  rfl
theorem wso_set {A : Nat → Prop} {h h2 : Hp} {ad : Nm → Nat} {ca : Nm → ClassId} {nms : List Nm} {q0 : Nat} {n : Nm} {e : va_E} (hD : va_D A (wso h ad ca nms)) (hq : nms[q0]? = some n) (he : e = cell h2 ad ca n) (ho : ∀ n', n' ≠ n → cell h2 ad ca n' = cell h ad ca n') : (wso h ad ca nms).set q0 (ad n, e) = wso h2 ad ca nms := by
  have hlen : q0 < (wso h ad ca nms).length := (List.getElem?_eq_some_iff.mp (wso_at (h := h) (ad := ad) (ca := ca) hq)).1
  apply List.ext_getElem?
  intro j
  by_cases hj : j = q0
  · subst hj
    rw [List.getElem?_set_self hlen, wso_at hq, he]
  · rw [List.getElem?_set_ne (Ne.symm hj)]
    cases hjn : nms[j]? with
    | none =>
      unfold wso
      rw [List.getElem?_map, List.getElem?_map, hjn]
      rfl
    | some n' =>
      have hne : n' ≠ n := by
        rintro rfl
        exact hj (hD.1 j q0 _ _ (wso_at hjn) (wso_at hq) rfl)
      rw [wso_at hjn, wso_at hjn, ho n' hne]
theorem cell_setI_ne {h : Hp} {ad : Nm → Nat} {ca : Nm → ClassId} {n n' : Nm} {k : Nat} {v : Int32} (hne : n' ≠ n) : cell (setI h n k v) ad ca n' = cell h ad ca n' := by
  have e : hpI (setI h n k v) n' = hpI h n' := by
    funext j
    rw [hpI_setI, if_neg (fun q => hne q.1)]
  unfold cell fval
  rw [e]
  rfl
theorem cell_setF_ne {h : Hp} {ad : Nm → Nat} {ca : Nm → ClassId} {n n' : Nm} {f : Nat → Int32} (hne : n' ≠ n) : cell (setF h n f) ad ca n' = cell h ad ca n' := by
  have e : hpI (setF h n f) n' = hpI h n' := by
    funext j
    rw [hpI_setF, if_neg hne]
  unfold cell fval
  rw [e]
  rfl
theorem cell_setR_ne {h : Hp} {ad : Nm → Nat} {ca : Nm → ClassId} {n n' : Nm} {k : Nat} {v : Option Nm} (hne : n' ≠ n) : cell (setR h n k v) ad ca n' = cell h ad ca n' := by
  have e : hpR (setR h n k v) n' = hpR h n' := by
    funext j
    rw [hpR_setR, if_neg (fun q => hne q.1)]
  unfold cell fval
  rw [e]
  rfl
theorem rng_set (N k : Nat) (f g : Nat → Value) (hg : ∀ j, j ≠ k → g j = f j) : ((List.range N).map f).set k (g k) = (List.range N).map g := by
  apply List.ext_getElem?
  intro j
  by_cases hj : j = k
  · subst hj
    by_cases hl : j < N
    · rw [List.getElem?_set_self (by simpa using hl)]
      simp [hl]
    · rw [List.getElem?_eq_none (by simpa using hl), List.getElem?_eq_none (by simpa using hl)]
  · rw [List.getElem?_set_ne (Ne.symm hj), List.getElem?_map, List.getElem?_map]
    cases hr : (List.range N)[j]? with
    | none => rfl
    | some x =>
      have : x = j := by
        have := List.getElem?_eq_some_iff.mp hr
        simpa using this.2.symm
      subst this
      simp only [Option.map_some]
      rw [hg x hj]
theorem cell_obj {h : Hp} {ad : Nm → Nat} {ca : Nm → ClassId} {n : Nm} {c : Nat} (hk : kd n.1 = c) (hc : c < 7) : cell h ad ca n = .inr (c, (List.range (nfl c)).map (fun k => fval h ad n c k)) := by
  unfold cell
  rw [hk, if_pos (by omega)]
theorem cell_int {h : Hp} {ad : Nm → Nat} {ca : Nm → ClassId} {n : Nm} (h1 : 100 ≤ kd n.1) (h2 : kd n.1 < 110) : cell h ad ca n = .inl (ca n, hpL h n, .inl (hpI h n)) := by
  unfold cell
  rw [if_neg (by omega), if_pos h2]
theorem cell_ref {h : Hp} {ad : Nm → Nat} {ca : Nm → ClassId} {n : Nm} (h1 : 110 ≤ kd n.1) : cell h ad ca n = .inl (ca n, hpL h n, .inr (.inr (.inr (.inr (fun j => (hpR h n j).map ad))))) := by
  unfold cell
  rw [if_neg (by omega), if_neg (by omega)]
theorem cell_setI_obj {h : Hp} {ad : Nm → Nat} {ca : Nm → ClassId} {n : Nm} {c k : Nat} {v : Int32} (hk : kd n.1 = c) (hc : c < 7) (hf : fty c k ≠ 2) : (.inr (c, ((List.range (nfl c)).map (fun k => fval h ad n c k)).set k (.int v)) : va_E) = cell (setI h n k v) ad ca n := by
  rw [cell_obj hk hc]
  have e : Value.int v = (fun j => fval (setI h n k v) ad n c j) k := by
    show _ = fval _ _ _ _ _
    unfold fval
    split
    · next q => exact absurd q hf
    · rw [hpI_setI, if_pos ⟨rfl, rfl⟩]
  rw [e, rng_set]
  intro j hj
  show fval _ _ _ _ _ = fval _ _ _ _ _
  unfold fval
  rw [hpI_setI, if_neg (fun q => hj q.2)]
  rfl
theorem cell_setR_obj {h : Hp} {ad : Nm → Nat} {ca : Nm → ClassId} {n m : Nm} {c k : Nat} (hk : kd n.1 = c) (hc : c < 7) (hf : fty c k = 2) : (.inr (c, ((List.range (nfl c)).map (fun k => fval h ad n c k)).set k (.ref (ad m))) : va_E) = cell (setR h n k (some m)) ad ca n := by
  rw [cell_obj hk hc]
  have e : Value.ref (ad m) = (fun j => fval (setR h n k (some m)) ad n c j) k := by
    show _ = fval _ _ _ _ _
    unfold fval
    rw [hf]
    show _ = va_rf _
    rw [hpR_setR, if_pos ⟨rfl, rfl⟩]
    rfl
  rw [e, rng_set]
  intro j hj
  show fval _ _ _ _ _ = fval _ _ _ _ _
  unfold fval
  rw [hpR_setR, if_neg (fun q => hj q.2)]
  rfl
theorem cell_setI_arr {h : Hp} {ad : Nm → Nat} {ca : Nm → ClassId} {n : Nm} {k : Nat} {v : Int32} (h1 : 100 ≤ kd n.1) (h2 : kd n.1 < 110) : (.inl (ca n, hpL h n, .inl (upd (hpI h n) k v)) : va_E) = cell (setI h n k v) ad ca n := by
  rw [cell_int h1 h2]
  have e : upd (hpI h n) k v = hpI (setI h n k v) n := by
    funext j
    rw [hpI_setI]
    unfold upd
    by_cases hj : j = k
    · rw [if_pos hj, if_pos ⟨rfl, hj⟩]
    · rw [if_neg hj, if_neg (fun q => hj q.2)]
  rw [e]
  rfl
theorem cell_setF_arr {h : Hp} {ad : Nm → Nat} {ca : Nm → ClassId} {n : Nm} {f : Nat → Int32} (h1 : 100 ≤ kd n.1) (h2 : kd n.1 < 110) : (.inl (ca n, hpL h n, .inl f) : va_E) = cell (setF h n f) ad ca n := by
  rw [cell_int h1 h2]
  have e : f = hpI (setF h n f) n := by
    funext j
    rw [hpI_setF, if_pos rfl]
  rw [← e]
  rfl
theorem cell_setR_arr {h : Hp} {ad : Nm → Nat} {ca : Nm → ClassId} {n m : Nm} {k : Nat} (h1 : 110 ≤ kd n.1) : (.inl (ca n, hpL h n, .inr (.inr (.inr (.inr (va_up (fun j => (hpR h n j).map ad) k (some (ad m))))))) : va_E) = cell (setR h n k (some m)) ad ca n := by
  rw [cell_ref h1]
  have e : va_up (fun j => (hpR h n j).map ad) k (some (ad m)) = (fun j => (hpR (setR h n k (some m)) n j).map ad) := by
    funext j
    rw [hpR_setR]
    unfold va_up
    by_cases hj : j = k
    · rw [if_pos hj, if_pos ⟨rfl, hj⟩]
      rfl
    · rw [if_neg hj, if_neg (fun q => hj q.2)]
  rw [e]
  rfl
theorem Wd_I {D : va_G} {A : Nat → Prop} {s : State} {ad : Nm → Nat} {ca : Nm → ClassId} {nms : List Nm} {tys : List (ClassId × FieldType)} {h : Hp} {H H1 : Heap} {n : Nm} {k : Nat} {v : Int32} (hW : Wd D A s ad ca nms tys h H) (hP : va_P D vwCl (wso (setI h n k v) ad ca nms) H1) (hD : va_D A (wso (setI h n k v) ad ca nms)) (hb : kd n.1 = 101 → fits .byte (.int v) = true) : Wd D A s ad ca nms tys (setI h n k v) H1 := by
  obtain ⟨w1, w2, w3, w4, w5, w6, w7⟩ := hW
  refine ⟨hP, hD, w3, w4, w5, w6, fun n' hn j => ?_⟩
  rw [hpI_setI]
  split
  · next q => exact hb (by rw [← q.1]; exact hn)
  · exact w7 n' hn j
theorem Wd_F {D : va_G} {A : Nat → Prop} {s : State} {ad : Nm → Nat} {ca : Nm → ClassId} {nms : List Nm} {tys : List (ClassId × FieldType)} {h : Hp} {H H1 : Heap} {n : Nm} {f : Nat → Int32} (hW : Wd D A s ad ca nms tys h H) (hP : va_P D vwCl (wso (setF h n f) ad ca nms) H1) (hD : va_D A (wso (setF h n f) ad ca nms)) (hb : kd n.1 = 101 → ∀ j, fits .byte (.int (f j)) = true) : Wd D A s ad ca nms tys (setF h n f) H1 := by
  obtain ⟨w1, w2, w3, w4, w5, w6, w7⟩ := hW
  refine ⟨hP, hD, w3, w4, w5, w6, fun n' hn j => ?_⟩
  rw [hpI_setF]
  split
  · next q => exact hb (by rw [← q]; exact hn) j
  · exact w7 n' hn j
theorem Wd_R {D : va_G} {A : Nat → Prop} {s : State} {ad : Nm → Nat} {ca : Nm → ClassId} {nms : List Nm} {tys : List (ClassId × FieldType)} {h : Hp} {H H1 : Heap} {n m : Nm} {k : Nat} (hW : Wd D A s ad ca nms tys h H) (hm : m ∈ nms) (hP : va_P D vwCl (wso (setR h n k (some m)) ad ca nms) H1) (hD : va_D A (wso (setR h n k (some m)) ad ca nms)) : Wd D A s ad ca nms tys (setR h n k (some m)) H1 := by
  obtain ⟨w1, w2, w3, w4, w5, w6, w7⟩ := hW
  refine ⟨hP, hD, w3, w4, w5, fun n' k' m' hm' => ?_, w7⟩
  rw [hpR_setR] at hm'
  split at hm'
  · cases hm'
    exact hm
  · exact w6 n' k' m' hm'
def upn {α : Type} (f : Nm → α) (n0 : Nm) (v : α) : Nm → α := fun n => if n = n0 then v else f n
theorem upn_eq {α : Type} (f : Nm → α) (n0 : Nm) (v : α) : upn f n0 v n0 = v := if_pos rfl
theorem upn_ne {α : Type} (f : Nm → α) {n n0 : Nm} (v : α) (h : n ≠ n0) : upn f n0 v n = f n := if_neg h
theorem Wd_new {D : va_G} {A : Nat → Prop} {s : State} {ad : Nm → Nat} {ca : Nm → ClassId} {nms : List Nm} {tys tys1 : List (ClassId × FieldType)} {h h2 : Hp} {H H1 : Heap} {t q : Nat} {cA : ClassId} {e : va_E} (hW : Wd D A s ad ca nms tys h H)
    (hC2 : ∀ t', hpC h2 t' = if t' = t then hpC h t + 1 else hpC h t') (ho : ∀ n, n ≠ (t, hpC h t) → hpL h2 n = hpL h n ∧ hpI h2 n = hpI h n ∧ hpR h2 n = hpR h n) (hr0 : ∀ k, hpR h2 (t, hpC h t) k = none) (hb : kd t = 101 → ∀ j, fits .byte (.int (hpI h2 (t, hpC h t) j)) = true)
    (he : e = cell h2 (upn ad (t, hpC h t) q) (upn ca (t, hpC h t) cA) (t, hpC h t)) (hP1 : va_P D vwCl (wso h ad ca nms ++ [(q, e)]) H1) (hD1 : va_D A (wso h ad ca nms ++ [(q, e)])) (hK1 : va_K D vwCl tys1 s) (ht1 : ∀ (t0 : Nat) (x : ClassId × FieldType), tys[t0]? = some x → tys1[t0]? = some x) (ht2 : 100 ≤ kd t → ∃ t0 : Nat, tys1[t0]? = some (cA, tyA (kd t))) :
    Wd D A s (upn ad (t, hpC h t) q) (upn ca (t, hpC h t) cA) (nms ++ [(t, hpC h t)]) tys1 h2 H1 := by
  obtain ⟨w1, w2, w3, w4, w5, w6, w7⟩ := hW
  have hn0 : (t, hpC h t) ∉ nms := fun q => Nat.lt_irrefl _ ((w4 _).mp q)
  have hne : ∀ n, n ∈ nms → n ≠ (t, hpC h t) := fun n hn q => hn0 (q ▸ hn)
  have hcell : ∀ n, n ∈ nms → cell h2 (upn ad (t, hpC h t) q) (upn ca (t, hpC h t) cA) n = cell h ad ca n := by
    intro n hn
    obtain ⟨o1, o2, o3⟩ := ho n (hne n hn)
    have hm : ∀ k, (hpR h n k).map (upn ad (t, hpC h t) q) = (hpR h n k).map ad := by
      intro k
      cases hk : hpR h n k with
      | none => rfl
      | some m => simp only [Option.map_some, upn_ne ad q (hne m (w6 n k m hk))]
    unfold cell fval
    rw [o1, o2, o3, upn_ne ca cA (hne n hn)]
    simp only [hm]
  have hws : wso h2 (upn ad (t, hpC h t) q) (upn ca (t, hpC h t) cA) (nms ++ [(t, hpC h t)]) = wso h ad ca nms ++ [(q, e)] := by
    unfold wso
    rw [List.map_append]
    congr 1
    · apply List.map_congr_left
      intro n hn
      rw [hcell n hn, upn_ne ad q (hne n hn)]
    · rw [he]
      simp only [List.map_cons, List.map_nil, upn_eq]
  refine ⟨by rw [hws]; exact hP1, by rw [hws]; exact hD1, hK1, fun n => ?_, fun n hn hk => ?_, fun n k m hm => ?_, fun n hn j => ?_⟩
  · rw [List.mem_append, List.mem_singleton, w4 n]
    unfold live
    rw [hC2]
    obtain ⟨n1, n2⟩ := n
    by_cases ht : n1 = t
    · subst ht
      rw [if_pos rfl, Prod.mk.injEq]
      show n2 < hpC h n1 ∨ n1 = n1 ∧ n2 = hpC h n1 ↔ n2 < hpC h n1 + 1
      constructor
      · rintro (q | ⟨-, q⟩) <;> omega
      · intro q
        rcases Nat.lt_or_ge n2 (hpC h n1) with z | z
        · exact Or.inl z
        · exact Or.inr ⟨rfl, by omega⟩
    · rw [if_neg ht, Prod.mk.injEq]
      exact ⟨fun z => z.elim id (fun z => absurd z.1 ht), Or.inl⟩
  · rcases List.mem_append.mp hn with hn | hn
    · obtain ⟨t0, h0⟩ := w5 n hn hk
      exact ⟨t0, by rw [upn_ne ca cA (hne n hn)]; exact ht1 _ _ h0⟩
    · rw [List.mem_singleton] at hn
      subst hn
      rw [upn_eq]
      exact ht2 hk
  · by_cases hn : n = (t, hpC h t)
    · subst hn
      rw [hr0] at hm
      cases hm
    · rw [(ho n hn).2.2] at hm
      exact List.mem_append_left _ (w6 n k m hm)
  · by_cases hn2 : n = (t, hpC h t)
    · subst hn2
      exact hb hn j
    · rw [(ho n hn2).2.1]
      exact w7 n hn j
-- locals and stack
def Ext (nms nms1 : List Nm) (ad ad1 : Nm → Nat) : Prop := (∀ n, n ∈ nms → n ∈ nms1) ∧ ∀ n, okN nms n → ad1 n = ad n
theorem Ext_rf (nms : List Nm) (ad : Nm → Nat) : Ext nms nms ad ad := ⟨fun _ h => h, fun _ _ => rfl⟩
theorem Ext_tr {n1 n2 n3 : List Nm} {a1 a2 a3 : Nm → Nat} (h1 : Ext n1 n2 a1 a2) (h2 : Ext n2 n3 a2 a3) : Ext n1 n3 a1 a3 := by
  refine ⟨fun n h => h2.1 n (h1.1 n h), fun n h => ?_⟩
  rw [h2.2 n (h.imp (h1.1 n) id), h1.2 n h]
theorem okV_ext {n1 n2 : List Nm} {a1 a2 : Nm → Nat} (h1 : Ext n1 n2 a1 a2) {v : Vl} (h : okV n1 v) : okV n2 v := fun n e => (h n e).imp (h1.1 n) id
theorem rl_ext {n1 n2 : List Nm} {a1 a2 : Nm → Nat} (h1 : Ext n1 n2 a1 a2) {v : Vl} (h : okV n1 v) : rl a2 v = rl a1 v := by
  rcases v with x | x | o
  · rfl
  · rfl
  · cases o with
    | none => rfl
    | some n =>
      show va_rf ((some n).map a2) = va_rf ((some n).map a1)
      simp only [Option.map_some, h1.2 n (h n rfl)]
theorem rls_ext {n1 n2 : List Nm} {a1 a2 : Nm → Nat} (h1 : Ext n1 n2 a1 a2) {st : St} (h : okS n1 st) : st.map (rl a2) = st.map (rl a1) := List.map_congr_left fun v hv => rl_ext h1 (h v hv)
theorem Ext_new {nms : List Nm} {ad : Nm → Nat} {n0 : Nm} {q : Nat} (h0 : n0 ∉ nms) (h1 : n0 ≠ (98, 0)) : Ext nms (nms ++ [n0]) ad (upn ad n0 q) := by
  refine ⟨fun n h => List.mem_append_left _ h, fun n h => ?_⟩
  apply upn_ne
  rintro rfl
  exact h.elim h0 h1
theorem rl_cat (ad : Nm → Nat) (v : Vl) : (rl ad v).category = if cat1 v = true then 1 else 2 := by
  rcases v with x | x | o
  · rfl
  · rfl
  · cases o <;> rfl
theorem rl_cats (ad : Nm → Nat) : ∀ st : St, ((st.map (rl ad)).map fun v => v.category).sum = catS st
  | [] => rfl
  | v :: st => by
    simp only [List.map_cons, List.sum_cons, catS, rl_cats ad st, rl_cat]
def LR (ad : Nm → Nat) (L : Ls) (ls : Array Slot) (nL : Nat) : Prop := ls.size = nL ∧ lv_wf ls ∧ ∀ (i : Nat) (v : Vl), L[i]? = some (some v) → ls[i]? = some (.val (rl ad v))
def lpr (ad : Nm → Nat) : Nat → Ls → List (Nat × Value)
  | _, [] => []
  | i, none :: L => lpr ad (i + 1) L
  | i, some v :: L => (i, rl ad v) :: lpr ad (i + 1) L
theorem lpr_mem (ad : Nm → Nat) : ∀ (L : Ls) (j i : Nat) (v : Vl), L[i]? = some (some v) → (j + i, rl ad v) ∈ lpr ad j L
  | [], _, _, _, h => by simp at h
  | none :: L, j, 0, v, h => by
    rw [List.getElem?_cons_zero] at h
    cases h
  | some w :: L, j, 0, v, h => by
    rw [List.getElem?_cons_zero] at h
    cases h
    exact List.mem_cons_self
  | none :: L, j, i + 1, v, h => by
    rw [List.getElem?_cons_succ] at h
    have := lpr_mem ad L (j + 1) i v h
    rwa [show j + 1 + i = j + (i + 1) by omega] at this
  | some w :: L, j, i + 1, v, h => by
    rw [List.getElem?_cons_succ] at h
    have := lpr_mem ad L (j + 1) i v h
    rw [show j + 1 + i = j + (i + 1) by omega] at this
    exact List.mem_cons_of_mem _ this
theorem lpr_of (ad : Nm → Nat) : ∀ (L : Ls) (j : Nat) (q : Nat × Value), q ∈ lpr ad j L → ∃ (i : Nat) (v : Vl), L[i]? = some (some v) ∧ q = (j + i, rl ad v)
  | [], _, _, h => by cases h
  | none :: L, j, q, h => by
    obtain ⟨i, v, h1, h2⟩ := lpr_of ad L (j + 1) q h
    exact ⟨i + 1, v, by rw [List.getElem?_cons_succ]; exact h1, by rw [h2, show j + 1 + i = j + (i + 1) by omega]⟩
  | some w :: L, j, q, h => by
    rcases List.mem_cons.mp h with h | h
    · exact ⟨0, w, rfl, h⟩
    · obtain ⟨i, v, h1, h2⟩ := lpr_of ad L (j + 1) q h
      exact ⟨i + 1, v, by rw [List.getElem?_cons_succ]; exact h1, by rw [h2, show j + 1 + i = j + (i + 1) by omega]⟩
theorem LR_has {ad : Nm → Nat} {L : Ls} {ls : Array Slot} {nL : Nat} (h : LR ad L ls nL) : lv_has ls nL (lpr ad 0 L) := by
  refine ⟨h.1, h.2.1, fun q hq => ?_⟩
  obtain ⟨i, v, h1, h2⟩ := lpr_of ad L 0 q hq
  rw [h2, Nat.zero_add]
  exact h.2.2 i v h1
theorem LR_ext {n1 n2 : List Nm} {a1 a2 : Nm → Nat} {L : Ls} {ls : Array Slot} {nL : Nat} (h1 : Ext n1 n2 a1 a2) (ho : okL n1 L) (h : LR a1 L ls nL) : LR a2 L ls nL := by
  refine ⟨h.1, h.2.1, fun i v hv => ?_⟩
  rw [rl_ext h1 (ho v (List.mem_of_getElem? hv))]
  exact h.2.2 i v hv
theorem okst_cat {ad : Nm → Nat} {L : Ls} {i j : Nat} {w : Vl} (ho : okst L i = true) (hj : j + 1 = i) (hw : L[j]? = some (some w)) : ¬ (rl ad w).category = 2 := by
  subst hj
  unfold okst at ho
  dsimp only at ho
  rw [hw] at ho
  rcases w with x | x | o
  · intro q; cases q
  · cases ho
  · cases o <;> (intro q; cases q)
theorem LR_store {ad : Nm → Nat} {L : Ls} {ls' : Array Slot} {nL i : Nat} {v : Vl} (ho : okst L i = true) (h' : lv_has ls' nL ((i, rl ad v) :: (lpr ad 0 L).filter (fun q => !(q.1 == i) && !(q.1 + 1 == i && q.2.category == 2)))) : LR ad (L.set i (some v)) ls' nL := by
  refine ⟨h'.1, h'.2.1, fun j w hj => ?_⟩
  by_cases e : j = i
  · subst e
    have hl : j < L.length := by
      have := (List.getElem?_eq_some_iff.mp hj).1
      simpa using this
    rw [List.getElem?_set_self hl] at hj
    cases hj
    exact h'.2.2 (j, rl ad v) List.mem_cons_self
  · rw [List.getElem?_set_ne (Ne.symm e)] at hj
    have hm := lpr_mem ad L 0 j w hj
    rw [Nat.zero_add] at hm
    refine h'.2.2 (j, rl ad w) (List.mem_cons_of_mem _ (List.mem_filter.mpr ⟨hm, ?_⟩))
    simp only [Bool.and_eq_true, Bool.not_eq_true', beq_eq_false_iff_ne, ne_eq, Bool.and_eq_false_iff]
    refine ⟨e, ?_⟩
    by_cases q : j + 1 = i
    · exact Or.inr (okst_cat ho q hj)
    · exact Or.inl q
theorem spr_cons (v : Vl) (vs : List Vl) : spr (v :: vs) = if cat1 v = true then some v :: spr vs else some v :: none :: spr vs := rfl
theorem spr_len (ad : Nm → Nat) : ∀ args : List Vl, (lg_sl (args.map (rl ad))).length = (spr args).length
  | [] => rfl
  | v :: vs => by
    have ih := spr_len ad vs
    unfold lg_sl at ih ⊢
    rw [List.map_cons, List.flatMap_cons, List.length_append, ih, rl_cat]
    rw [spr_cons]
    by_cases h : cat1 v = true
    · rw [if_pos h, if_pos h, if_neg (by decide)]
      simp only [List.length_cons, List.length_nil]
      omega
    · rw [if_neg h, if_neg h, if_pos rfl]
      simp only [List.length_cons, List.length_nil]
      omega
theorem spr_at (ad : Nm → Nat) : ∀ (args : List Vl) (j i : Nat) (v : Vl), (spr args)[i]? = some (some v) → (j + i, rl ad v) ∈ lv_args j (args.map (rl ad))
  | [], _, _, _, h => by simp [spr] at h
  | w :: vs, j, i, v, h => by
    rw [List.map_cons]
    unfold lv_args
    rw [rl_cat]
    unfold spr at h
    by_cases hc : cat1 w = true
    · rw [if_pos hc] at h ⊢
      rw [if_neg (by decide)]
      cases i with
      | zero =>
        rw [List.getElem?_cons_zero] at h
        cases h
        exact List.mem_cons_self
      | succ i =>
        rw [List.getElem?_cons_succ] at h
        have := spr_at ad vs (j + 1) i v h
        rw [show j + 1 + i = j + (i + 1) by omega] at this
        exact List.mem_cons_of_mem _ this
    · rw [if_neg hc] at h ⊢
      rw [if_pos rfl]
      match i, h with
      | 0, h =>
        rw [List.getElem?_cons_zero] at h
        cases h
        exact List.mem_cons_self
      | 1, h =>
        rw [List.getElem?_cons_succ, List.getElem?_cons_zero] at h
        cases h
      | i + 2, h =>
        rw [List.getElem?_cons_succ, List.getElem?_cons_succ] at h
        have := spr_at ad vs (j + 2) i v h
        rw [show j + 2 + i = j + (i + 2) by omega] at this
        exact List.mem_cons_of_mem _ this
theorem ent_at {n : Nat} {args : List Vl} {i : Nat} {v : Vl} (h : (ent n args)[i]? = some (some v)) : (spr args)[i]? = some (some v) := by
  unfold ent at h
  by_cases hl : i < (spr args).length
  · rwa [List.getElem?_append_left hl] at h
  · rw [List.getElem?_append_right (by omega)] at h
    have := List.mem_of_getElem? h
    rw [List.mem_replicate] at this
    cases this.2
theorem ent_len {n : Nat} {args : List Vl} (h : (spr args).length ≤ n) : (ent n args).length = n := by
  unfold ent
  rw [List.length_append, List.length_replicate]
  omega
theorem spr_ok {nms : List Nm} : ∀ (args : List Vl), okS nms args → okL nms (spr args)
  | [], _ => fun v h => by cases h
  | w :: vs, ho => by
    have ih := spr_ok vs (fun v hv => ho v (List.mem_cons_of_mem _ hv))
    intro v hv
    unfold spr at hv
    by_cases hc : cat1 w = true
    · rw [if_pos hc] at hv
      rcases List.mem_cons.mp hv with h | h
      · cases h
        exact ho _ List.mem_cons_self
      · exact ih v h
    · rw [if_neg hc] at hv
      rcases List.mem_cons.mp hv with h | h
      · cases h
        exact ho _ List.mem_cons_self
      · rcases List.mem_cons.mp h with h | h
        · cases h
        · exact ih v h
theorem ent_ok {nms : List Nm} {n : Nat} {args : List Vl} (ho : okS nms args) : okL nms (ent n args) := by
  intro v hv
  unfold ent at hv
  rcases List.mem_append.mp hv with h | h
  · exact spr_ok args ho v h
  · rw [List.mem_replicate] at h
    cases h.2
theorem LR_entry (ad : Nm → Nat) {args : List Vl} {n : Nat} (h : (spr args).length ≤ n) : LR ad (ent n args) ((lg_sl (args.map (rl ad)) ++ List.replicate (n - (lg_sl (args.map (rl ad))).length) Slot.unset).toArray) n := by
  have h1 := lv_entry (args.map (rl ad)) (n := n) (by rw [spr_len]; exact h)
  refine ⟨h1.1, h1.2.1, fun i v hv => ?_⟩
  have := spr_at ad args 0 i v (ent_at hv)
  rw [Nat.zero_add] at this
  exact h1.2.2 _ this
end
section
/-! The small machine's rules hold of the real one. -/
def Wx (s : State) : Prop := (∀ c, c < 3 → va_AO (cnm c) s) ∧ va_Nw (.castable "[B" "java/lang/Cloneable") s
def Fx (y : Nat) (p : Program) (s : State) (m : MethodId) (args : Array Value) (meth : Method) (c : Code) (A : Nat → Prop) : Prop :=
  p.tables.exec = Jvm.exec ∧ c.code = yBy y ∧ c.maxLocals = mlo y ∧ s.vm.findClass (yOw y) = some m.cls ∧ (∀ w ∈ bw, w.before args s = true) ∧ (yIn y = true → meth.name = "<init>") ∧ (∀ q : Nat, s.heap.size ≤ q → A q) ∧ Wx s
def SC (X : Nat × (Nat → Int32)) (y : Nat) (ad : Nm → Nat) (s : State) (A : Nat → Prop) : Prop := y = 133 → va_X (ad (98, 0)) X.1 X.2 s s.heap ∧ ad (98, 0) < s.heap.size ∧ ¬ A (ad (98, 0))
def RT (y pc : Nat) (r : Option Vl) : Prop := ∃ (ins : Instr) (len a b : Nat) (st : St) (C : Prop), cd y pc = some (ins, len, a, b) ∧ rt ins a st = some (r, C) ∧ C
def PW (X : Nat × (Nat → Int32)) (D : va_G) (l : Launch) : MP := fun y pc L st h r h' => hpN h ≤ hpN h' ∧ hpS h ≤ hpS h' ∧
  ∀ (p : Program) (e : Env) (R : Room) (s : State) (m : MethodId) (args : Array Value) (below : List Frame) (meth : Method) (c : Code) (A : Nat → Prop) (Z : State → Prop), Fx y p s m args meth c A → yRk y ≤ R.frames → yLo y ≤ R.locals →
  ∀ (H : Heap) (locs : List Loc) (cells slots : Nat) (ad : Nm → Nat) (ca : Nm → ClassId) (nms : List Nm) (tys : List (ClassId × FieldType)) (ls : Array Slot), Wd D A s ad ca nms tys h H → va_S A s.heap H locs → SC X y ad s A → LR ad L ls (mlo y) → L.length = mlo y → okL nms L → okS nms st → cells + (hpN h' - hpN h) ≤ R.cells → slots + (hpS h' - hpS h) ≤ R.slots →
  (∀ (pc1 : Nat) (ls1 : Array Slot) (H1 : Heap) (locs1 : List Loc) (ad1 : Nm → Nat) (ca1 : Nm → ClassId) (nms1 : List Nm) (tys1 : List (ClassId × FieldType)), RT y pc1 r → Wd D A s ad1 ca1 nms1 tys1 h' H1 → va_S A s.heap H1 locs1 → Ext nms nms1 ad ad1 → (∀ v, r = some v → okV nms1 v) → ls1.size = mlo y → W p l e R s m args below meth c H1 locs1 (cells + (hpN h' - hpN h)) (slots + (hpS h' - hpS h)) Z (F0 m pc1 ls1 (r.toList.map (rl ad1)))) →
  W p l e R s m args below meth c H locs cells slots Z (F0 m pc ls (st.map (rl ad)))
theorem okV_I {nms : List Nm} {x : Int32} : okV nms (.inl x) := fun n e => by cases e
theorem okV_L {nms : List Nm} {x : Int64} : okV nms (.inr (.inl x)) := fun n e => by cases e
theorem okV_N {nms : List Nm} : okV nms (.inr (.inr none)) := fun n e => by cases e
theorem okV_R {nms : List Nm} {n : Nm} (h : n ∈ nms) : okV nms (.inr (.inr (some n))) := fun n' e => by cases e; exact Or.inl h
theorem okS_c {nms : List Nm} {v : Vl} {st : St} (h1 : okV nms v) (h2 : okS nms st) : okS nms (v :: st) := fun w hw => by
  rcases List.mem_cons.mp hw with h | h
  · rw [h]; exact h1
  · exact h2 w h
theorem okS_t {nms : List Nm} {v : Vl} {st : St} (h : okS nms (v :: st)) : okS nms st := fun w hw => h w (List.mem_cons_of_mem _ hw)
theorem okS_h {nms : List Nm} {v : Vl} {st : St} (h : okS nms (v :: st)) : okV nms v := h v List.mem_cons_self
theorem okL_set {nms : List Nm} {v : Vl} {L : Ls} {i : Nat} (h1 : okV nms v) (h2 : okL nms L) : okL nms (L.set i (some v)) := fun w hw => by
  rcases List.mem_or_eq_of_mem_set hw with h | h
  · exact h2 w h
  · cases h; exact h1
theorem sto_of {L : Ls} {i : Nat} {v : Vl} {st : St} {L' : Ls} {st' : St} (h : sto L i v st = some (L', st')) : i < L.length ∧ okst L i = true ∧ L' = L.set i (some v) ∧ st' = st := by
  unfold sto at h
  split at h
  · next q =>
    simp only [Bool.and_eq_true, decide_eq_true_eq] at q
    cases h
    exact ⟨q.1, q.2, rfl, rfl⟩
  · cases h
theorem ldI_of {L : Ls} {i : Nat} {st : St} {L' : Ls} {st' : St} (h : ldI L i st = some (L', st')) : ∃ x : Int32, L[i]? = some (some (.inl x)) ∧ L' = L ∧ st' = .inl x :: st := by
  unfold ldI at h
  split at h
  · next x q => cases h; exact ⟨x, q, rfl, rfl⟩
  · cases h
theorem ldL_of {L : Ls} {i : Nat} {st : St} {L' : Ls} {st' : St} (h : ldL L i st = some (L', st')) : ∃ x : Int64, L[i]? = some (some (.inr (.inl x))) ∧ L' = L ∧ st' = .inr (.inl x) :: st := by
  unfold ldL at h
  split at h
  · next x q => cases h; exact ⟨x, q, rfl, rfl⟩
  · cases h
theorem ldR_of {L : Ls} {i : Nat} {st : St} {L' : Ls} {st' : St} (h : ldR L i st = some (L', st')) : ∃ x : Option Nm, L[i]? = some (some (.inr (.inr x))) ∧ L' = L ∧ st' = .inr (.inr x) :: st := by
  unfold ldR at h
  split at h
  · next x q => cases h; exact ⟨x, q, rfl, rfl⟩
  · cases h
theorem so_pu (X : Nat × (Nat → Int32)) (D : va_G) (l : Launch) : Rpu (PW X D l) := by
  intro y pc L st h r h' ins len a b L' st' hc hp kn
  obtain ⟨hd, hw⟩ := cd_ok hc
  refine ⟨kn.1, kn.2.1, ?_⟩
  intro p e R s m args below meth c A Z F hf hlo H locs cells slots ad ca nms tys ls hW hS hSC hL hLn hoL hoS hcs hss K
  have kk := fun ls' hL' hLn' hoL' hoS' => kn.2.2 p e R s m args below meth c A Z F hf hlo H locs cells slots ad ca nms tys ls' hW hS hSC hL' hLn' hoL' hoS' hcs hss K
  obtain ⟨hx, hb, hml, hown, hts, -, hA, -⟩ := F
  unfold pu at hp
  split at hp
  · rename_i ins0 st0 k
    obtain rfl : len = 1 := hw
    obtain ⟨x, hl, rfl, rfl⟩ := ldI_of hp
    exact lv_iload_n hx hb hd rfl (hL.2.2 _ _ hl) (kk ls hL hLn hoL (okS_c okV_I hoS))
  · rename_i ins0 st0 k
    obtain rfl : len = 2 := hw
    obtain ⟨x, hl, rfl, rfl⟩ := ldI_of hp
    exact lv_iload hx hb hd (hL.2.2 _ _ hl) (kk ls hL hLn hoL (okS_c okV_I hoS))
  · rename_i ins0 st0 k
    obtain rfl : len = 1 := hw
    obtain ⟨x, hl, rfl, rfl⟩ := ldL_of hp
    exact lv_lload_n hx hb hd rfl (hL.2.2 _ _ hl) (kk ls hL hLn hoL (okS_c okV_L hoS))
  · rename_i ins0 st0 k
    obtain rfl : len = 1 := hw
    obtain ⟨x, hl, rfl, rfl⟩ := ldR_of hp
    cases x with
    | none => exact lv_aload_nN hx hb hd rfl (hL.2.2 _ _ hl) (kk ls hL hLn hoL (okS_c okV_N hoS))
    | some n => exact lv_aload_n hx hb hd rfl (hL.2.2 _ _ hl) (kk ls hL hLn hoL (okS_c (hoL _ (List.mem_of_getElem? hl)) hoS))
  · rename_i ins0 st0 k
    obtain rfl : len = 2 := hw
    obtain ⟨x, hl, rfl, rfl⟩ := ldR_of hp
    cases x with
    | none => exact lv_aloadN hx hb hd (hL.2.2 _ _ hl) (kk ls hL hLn hoL (okS_c okV_N hoS))
    | some n => exact lv_aload hx hb hd (hL.2.2 _ _ hl) (kk ls hL hLn hoL (okS_c (hoL _ (List.mem_of_getElem? hl)) hoS))
  · rename_i ins0 st0 k x st1
    obtain rfl : len = 1 := hw
    obtain ⟨hi, ho, rfl, rfl⟩ := sto_of hp
    exact lv_istore_n hx hb hd rfl (LR_has hL) (by omega) rfl (fun ls' hl' => kk ls' (LR_store ho hl') (by rw [List.length_set]; exact hLn) (okL_set okV_I hoL) (okS_t hoS))
  · rename_i ins0 st0 k x st1
    obtain rfl : len = 2 := hw
    obtain ⟨hi, ho, rfl, rfl⟩ := sto_of hp
    exact lv_istore hx hb hd (LR_has hL) (by omega) rfl (fun ls' hl' => kk ls' (LR_store ho hl') (by rw [List.length_set]; exact hLn) (okL_set okV_I hoL) (okS_t hoS))
  · rename_i ins0 st0 k x st1
    obtain rfl : len = 1 := hw
    obtain ⟨hi, ho, rfl, rfl⟩ := sto_of hp
    cases x with
    | none => exact lv_astore_nN hx hb hd rfl (LR_has hL) (by omega) rfl (fun ls' hl' => kk ls' (LR_store ho hl') (by rw [List.length_set]; exact hLn) (okL_set okV_N hoL) (okS_t hoS))
    | some n => exact lv_astore_n hx hb hd rfl (LR_has hL) (by omega) rfl (fun ls' hl' => kk ls' (LR_store ho hl') (by rw [List.length_set]; exact hLn) (okL_set (okS_h hoS) hoL) (okS_t hoS))
  · rename_i ins0 st0 k x st1
    obtain rfl : len = 2 := hw
    obtain ⟨hi, ho, rfl, rfl⟩ := sto_of hp
    cases x with
    | none => exact lv_astoreN hx hb hd (LR_has hL) (by omega) rfl (fun ls' hl' => kk ls' (LR_store ho hl') (by rw [List.length_set]; exact hLn) (okL_set okV_N hoL) (okS_t hoS))
    | some n => exact lv_astore hx hb hd (LR_has hL) (by omega) rfl (fun ls' hl' => kk ls' (LR_store ho hl') (by rw [List.length_set]; exact hLn) (okL_set (okS_h hoS) hoL) (okS_t hoS))
  · rename_i ins0 st0 k n
    obtain rfl : len = 3 := hw
    split at hp
    · next x q =>
      obtain ⟨hi, ho, rfl, rfl⟩ := sto_of hp
      obtain ⟨j, hj⟩ := List.getElem?_of_mem (lpr_mem ad L 0 _ _ q)
      rw [Nat.zero_add] at hj
      exact lv_iinc hx hb hd (LR_has hL) hj rfl (by omega) rfl (fun ls' hl' => kk ls' (LR_store ho hl') (by rw [List.length_set]; exact hLn) (okL_set okV_I hoL) hoS)
    · cases hp
  · rename_i ins0 st0 n
    cases hp
    obtain rfl : len = 1 := hw
    exact lv_iconst hx hb hd rfl (kk ls hL hLn hoL (okS_c okV_I hoS))
  · rename_i ins0 st0 n
    cases hp
    obtain rfl : len = 2 := hw
    exact lv_bipush hx hb hd rfl (kk ls hL hLn hoL (okS_c okV_I hoS))
  · rename_i ins0 st0 n
    cases hp
    obtain rfl : len = 3 := hw
    exact lv_sipush hx hb hd rfl (kk ls hL hLn hoL (okS_c okV_I hoS))
  · rename_i ins0 st0 i
    cases hp
    obtain ⟨rfl, hk⟩ := (hw : len = 2 ∧ iw (.constant (yOw y) i (Int32.ofNat a)))
    exact lv_ldc hx hb hown (hts _ (bw_of hk)) hd (kk ls hL hLn hoL (okS_c okV_I hoS))
  · rename_i ins0 st0 i
    cases hp
    obtain ⟨rfl, hk⟩ := (hw : len = 3 ∧ iw (.constantLong (yOw y) i (Int64.ofNat a)))
    exact lv_ldc2 hx hb hown (hts _ (bw_of hk)) hd (kk ls hL hLn hoL (okS_c okV_L hoS))
  · rename_i ins0 st0
    cases hp
    obtain rfl : len = 1 := hw
    exact lv_null hx hb hd (kk ls hL hLn hoL (okS_c okV_N hoS))
  · rename_i ins0 st0 z x st1
    cases hp
    obtain rfl : len = 1 := hw
    exact lv_iadd hx hb hd (kk ls hL hLn hoL (okS_c okV_I (okS_t (okS_t hoS))))
  · rename_i ins0 st0 z x st1
    cases hp
    obtain rfl : len = 1 := hw
    exact lv_isub hx hb hd (kk ls hL hLn hoL (okS_c okV_I (okS_t (okS_t hoS))))
  · rename_i ins0 st0 z x st1
    cases hp
    obtain rfl : len = 1 := hw
    exact lv_imul hx hb hd (kk ls hL hLn hoL (okS_c okV_I (okS_t (okS_t hoS))))
  · rename_i ins0 st0 z x st1
    cases hp
    obtain rfl : len = 1 := hw
    exact lv_iand hx hb hd (kk ls hL hLn hoL (okS_c okV_I (okS_t (okS_t hoS))))
  · rename_i ins0 st0 z x st1
    cases hp
    obtain rfl : len = 1 := hw
    exact lv_ior hx hb hd (kk ls hL hLn hoL (okS_c okV_I (okS_t (okS_t hoS))))
  · rename_i ins0 st0 x st1
    cases hp
    obtain rfl : len = 1 := hw
    exact lv_ineg hx hb hd (kk ls hL hLn hoL (okS_c okV_I (okS_t hoS)))
  · rename_i ins0 st0 x st1
    cases hp
    obtain rfl : len = 1 := hw
    exact lv_i2l hx hb hd rfl (kk ls hL hLn hoL (okS_c okV_L (okS_t hoS)))
  · rename_i ins0 st0 x st1
    cases hp
    obtain rfl : len = 1 := hw
    exact lv_l2i hx hb hd rfl (kk ls hL hLn hoL (okS_c okV_I (okS_t hoS)))
  · rename_i ins0 st0 x st1
    cases hp
    obtain rfl : len = 1 := hw
    exact lv_i2b hx hb hd rfl (kk ls hL hLn hoL (okS_c okV_I (okS_t hoS)))
  · rename_i ins0 st0 z x st1
    cases hp
    obtain rfl : len = 1 := hw
    exact lv_land hx hb hd (kk ls hL hLn hoL (okS_c okV_L (okS_t (okS_t hoS))))
  · rename_i ins0 st0 z x st1
    cases hp
    obtain rfl : len = 1 := hw
    exact lv_lor hx hb hd (kk ls hL hLn hoL (okS_c okV_L (okS_t (okS_t hoS))))
  · rename_i ins0 st0 z x st1
    cases hp
    obtain rfl : len = 1 := hw
    exact lv_lshl hx hb hd rfl (kk ls hL hLn hoL (okS_c okV_L (okS_t (okS_t hoS))))
  · rename_i ins0 st0 z x st1
    cases hp
    obtain rfl : len = 1 := hw
    exact lv_lshr hx hb hd rfl (kk ls hL hLn hoL (okS_c okV_L (okS_t (okS_t hoS))))
  · rename_i ins0 st0 z x st1
    cases hp
    obtain rfl : len = 1 := hw
    exact lv_lushr hx hb hd rfl (kk ls hL hLn hoL (okS_c okV_L (okS_t (okS_t hoS))))
  · rename_i ins0 st0 v st1
    split at hp
    · next q =>
      cases hp
      obtain rfl : len = 1 := hw
      exact lv_dup hx hb hd (by rw [rl_cat, if_pos q]) (kk ls hL hLn hoL (okS_c (okS_h hoS) hoS))
    · cases hp
  · rename_i ins0 st0 v w st1
    split at hp
    · next q =>
      cases hp
      simp only [Bool.and_eq_true] at q
      obtain rfl : len = 1 := hw
      exact lv_dup2_11 hx hb hd (by rw [rl_cat, if_pos q.1]) (by rw [rl_cat, if_pos q.2]) (kk ls hL hLn hoL (okS_c (okS_h hoS) (okS_c (okS_h (okS_t hoS)) hoS)))
    · cases hp
  · cases hp
end
section
/-! The rule of what needs the heap. -/
theorem hpC_new (h : Hp) (t n z t' : Nat) : hpC (newC h t n z) t' = if t' = t then hpC h t + 1 else hpC h t' := rfl
theorem new_ne (h : Hp) (t n z : Nat) (x : Nm) (hx : x ≠ (t, hpC h t)) : hpL (newC h t n z) x = hpL h x ∧ hpI (newC h t n z) x = hpI h x ∧ hpR (newC h t n z) x = hpR h x := by
  refine ⟨if_neg hx, ?_, ?_⟩
  · funext k
    exact if_neg hx
  · funext k
    exact if_neg hx
theorem new_L (h : Hp) (t n z : Nat) : hpL (newC h t n z) (t, hpC h t) = n := if_pos rfl
theorem new_I (h : Hp) (t n z : Nat) : hpI (newC h t n z) (t, hpC h t) = fun _ => 0 := by
  funext k
  exact if_pos rfl
theorem new_R (h : Hp) (t n z : Nat) (k : Nat) : hpR (newC h t n z) (t, hpC h t) k = none := if_pos rfl
theorem kd_le (t : Nat) (ht : 99 ≤ t) : kd t = 99 := by
  unfold kd
  rw [List.getD_eq_getElem?_getD, List.getElem?_eq_none (by show 99 ≤ t; exact ht)]
  rfl
theorem kd_lt7 (t : Nat) (h : kd t < 10) : kd t < 7 := by
  have key : ∀ t, t < 99 → kd t < 10 → kd t < 7 := by decide +kernel
  rcases Nat.lt_or_ge t 99 with q | q
  · exact key t q h
  · rw [kd_le t q] at h
    omega
theorem tyk_0 {t : FieldType} (h : tyk t = 0) : t = .int := by cases t <;> first | rfl | cases h
theorem tyk_1 {t : FieldType} (h : tyk t = 1) : t = .boolean := by cases t <;> first | rfl | cases h
theorem tyk_2 {t : FieldType} (h : tyk t = 2) : (∃ n, t = .object n) ∨ ∃ t2, t = .array t2 := by
  cases t <;> first | exact Or.inl ⟨_, rfl⟩ | exact Or.inr ⟨_, rfl⟩ | cases h
theorem nar_bool {x : Int32} (h : x = 0 ∨ x = 1) : narrow .boolean (.int x) = .int x ∧ fits .boolean (.int x) = true := by
  rcases h with rfl | rfl <;> exact ⟨by decide, by decide⟩
theorem inb_vp {i : Int32} {n : Nat} (h : inb i n) : vp_in i n := fun q => q.elim h.1 (fun z => Nat.not_lt.mpr z h.2)
theorem fits_byte8 (x : Int32) : fits .byte (.int x.toInt8.toInt32) = true := by
  have h1 := Int8.toInt_toInt32 x.toInt8
  have h2 := Int8.le_toInt x.toInt8
  have h3 := Int8.toInt_le x.toInt8
  simp only [fits, Bool.and_eq_true, decide_eq_true_eq, Int32.le_iff_toInt_le]
  rw [h1]
  exact ⟨h2, h3⟩
theorem op_mono {X : Nat × (Nat → Int32)} {ins : Instr} {a b : Nat} {st : St} {h : Hp} {st' : St} {h1 : Hp} {C : Prop} (hp : op X ins a b st h = some (st', h1, C)) : hpN h ≤ hpN h1 ∧ hpS h ≤ hpS h1 := by
  unfold op at hp
  split at hp <;> (try split at hp) <;> (try split at hp) <;> first | (cases hp; exact ⟨Nat.le_refl _, Nat.le_refl _⟩) | (cases hp; exact ⟨Nat.le_succ _, Nat.le_add_right _ _⟩) | cases hp
set_option maxHeartbeats 4000000 in
theorem so_op (X : Nat × (Nat → Int32)) (D : va_G) (l : Launch) : Rop X (PW X D l) := by
  intro y pc L st h r h' ins len a b st' h1 C hc hp hC kn
  obtain ⟨hd, hw⟩ := cd_ok hc
  have hmo := op_mono hp
  refine ⟨Nat.le_trans hmo.1 kn.1, Nat.le_trans hmo.2 kn.2.1, ?_⟩
  intro p e R s m args below meth c A Z F hf hlo H locs cells slots ad ca nms tys ls hW hS hSC hL hLn hoL hoS hcs hss K
  have kk := kn.2.2 p e R s m args below meth c A Z F hf hlo
  obtain ⟨hx, hbb, hml, hown, hts, hin, hA, hwx⟩ := F
  have kn1 := kn.1
  have kn2 := kn.2.1
  clear kn
  have w1 := hW.1
  have w2 := hW.2.1
  have w3 := hW.2.2.1
  have w4 := hW.2.2.2.1
  have w5 := hW.2.2.2.2.1
  have w6 := hW.2.2.2.2.2.1
  have w7 := hW.2.2.2.2.2.2
  -- going on after a new cell
  have alloc : ∀ (t q len2 : Nat) (cA : ClassId) (h2 : Hp) (H1 : Heap) (locs1 : List Loc) (ee : va_E) (tys1 : List (ClassId × FieldType)) (st2 : St) (pc2 : Nat), kd t ≠ 98 → hpN h2 = hpN h + 1 → hpS h2 = hpS h + len2 → hpN h2 ≤ hpN h' → hpS h2 ≤ hpS h' → (∀ t', hpC h2 t' = if t' = t then hpC h t + 1 else hpC h t') → (∀ n, n ≠ (t, hpC h t) → hpL h2 n = hpL h n ∧ hpI h2 n = hpI h n ∧ hpR h2 n = hpR h n) → (∀ k, hpR h2 (t, hpC h t) k = none) → (kd t = 101 → ∀ j, fits .byte (.int (hpI h2 (t, hpC h t) j)) = true) →
      ee = cell h2 (upn ad (t, hpC h t) q) (upn ca (t, hpC h t) cA) (t, hpC h t) → va_P D vwCl (wso h ad ca nms ++ [(q, ee)]) H1 → va_D A (wso h ad ca nms ++ [(q, ee)]) → va_K D vwCl tys1 s → (∀ (t0 : Nat) (x : ClassId × FieldType), tys[t0]? = some x → tys1[t0]? = some x) → (100 ≤ kd t → ∃ t0 : Nat, tys1[t0]? = some (cA, tyA (kd t))) → va_S A s.heap H1 locs1 → okS nms st2 →
      (∀ (H : Heap) (locs : List Loc) (cells slots : Nat) (ad : Nm → Nat) (ca : Nm → ClassId) (nms : List Nm) (tys : List (ClassId × FieldType)) (ls : Array Slot), Wd D A s ad ca nms tys h2 H → va_S A s.heap H locs → SC X y ad s A → LR ad L ls (mlo y) → L.length = mlo y → okL nms L → okS nms (.inr (.inr (some (t, hpC h t))) :: st2) → cells + (hpN h' - hpN h2) ≤ R.cells → slots + (hpS h' - hpS h2) ≤ R.slots → (∀ (pc1 : Nat) (ls1 : Array Slot) (H1 : Heap) (locs1 : List Loc) (ad1 : Nm → Nat) (ca1 : Nm → ClassId) (nms1 : List Nm) (tys1 : List (ClassId × FieldType)), RT y pc1 r → Wd D A s ad1 ca1 nms1 tys1 h' H1 → va_S A s.heap H1 locs1 → Ext nms nms1 ad ad1 → (∀ v, r = some v → okV nms1 v) → ls1.size = mlo y → W p l e R s m args below meth c H1 locs1 (cells + (hpN h' - hpN h2)) (slots + (hpS h' - hpS h2)) Z (F0 m pc1 ls1 (r.toList.map (rl ad1)))) → W p l e R s m args below meth c H locs cells slots Z (F0 m pc2 ls (List.map (rl ad) (.inr (.inr (some (t, hpC h t))) :: st2)))) →
      W p l e R s m args below meth c H1 locs1 (cells + 1) (slots + len2) Z (F0 m pc2 ls (.ref q :: List.map (rl ad) st2)) := by
    intro t q len2 cA h2 H1 locs1 ee tys1 st2 pc2 hk98 hN2 hS2 hN3 hS3 hC2 ho hr0 hb he hP1 hD1 hK1 ht1 ht2 hSS hst2 go
    have hW2 := Wd_new hW hC2 ho hr0 hb he hP1 hD1 hK1 ht1 ht2
    have hn0 : (t, hpC h t) ∉ nms := fun q => Nat.lt_irrefl _ ((w4 _).mp q)
    have hn1 : (t, hpC h t) ≠ (98, 0) := fun q => hk98 (by rw [(Prod.mk.inj q).1]; rfl)
    have hE : Ext nms (nms ++ [(t, hpC h t)]) ad (upn ad (t, hpC h t) q) := Ext_new hn0 hn1
    have est : (Value.ref q :: List.map (rl ad) st2) = List.map (rl (upn ad (t, hpC h t) q)) (.inr (.inr (some (t, hpC h t))) :: st2) := by
      rw [List.map_cons, rls_ext hE hst2]
      congr 1
      show Value.ref q = va_rf ((some (t, hpC h t)).map (upn ad (t, hpC h t) q))
      simp only [Option.map_some, upn_eq]
      rfl
    have ec : cells + 1 + (hpN h' - hpN h2) = cells + (hpN h' - hpN h) := by omega
    have es : slots + len2 + (hpS h' - hpS h2) = slots + (hpS h' - hpS h) := by omega
    rw [est]
    refine go H1 locs1 (cells + 1) (slots + len2) _ _ _ _ ls hW2 hSS (fun hy => ?_) (LR_ext hE hoL hL) hLn (fun v hv => okV_ext hE (hoL v hv)) ?_ (by rw [ec]; exact hcs) (by rw [es]; exact hss) ?_
    · rw [hE.2 (98, 0) (Or.inr rfl)]
      exact hSC hy
    · exact okS_c (fun n e => by cases e; exact Or.inl (List.mem_append_right _ (List.mem_singleton.mpr rfl))) (fun v hv => okV_ext hE (hst2 v hv))
    · intro pc1 ls1 H1 locs1 ad1 ca1 nms1 tys1 g1 g2 g3 g4 g5 g6
      rw [ec, es]
      exact K pc1 ls1 H1 locs1 ad1 ca1 nms1 tys1 g1 g2 g3 (Ext_tr hE g4) g5 g6
  unfold op at hp
  split at hp
  · -- getfield
    rename_i ins0 st0 i n st1
    obtain ⟨rfl, ha7, hbn, hk⟩ := (hw : len = 3 ∧ a < 7 ∧ b < nfl a ∧ iw (.fieldLink (yOw y) i (clT a b).1 (clT a b).2.1 (clT a b).2.2.1))
    split at hp
    · next q =>
      cases hp
      obtain ⟨hl, hkd, hr⟩ := hC
      obtain ⟨q0, hq⟩ := List.getElem?_of_mem ((w4 n).mpr hl)
      have he := wso_at (h := h) (ad := ad) (ca := ca) hq
      rw [cell_obj hkd ha7] at he
      refine va_get (ref := (clT a b).1) (T := clT a) (N := nfl a) (Ts := bw) hx hbb hts (hinC a ha7) hown w3 w1 q0 he (cl_at a ha7) b hbn (hts _ (bw_of hk)) (fun _ z => z) (v := rl ad (.inr (.inr (some (srf a b, n.2))))) ?_ hd ?_
      · rw [List.getElem?_map, List.getElem?_range hbn]
        show some (fval h ad n a b) = _
        unfold fval
        rw [q, hr]
        rfl
      · exact kk H locs cells slots ad ca nms tys ls hW hS hSC hL hLn hoL (okS_c (okV_R (w6 n b _ hr)) (okS_t hoS)) hcs hss K
    · next q =>
      cases hp
      obtain ⟨hl, hkd⟩ := hC
      obtain ⟨q0, hq⟩ := List.getElem?_of_mem ((w4 n).mpr hl)
      have he := wso_at (h := h) (ad := ad) (ca := ca) hq
      rw [cell_obj hkd ha7] at he
      refine va_get (ref := (clT a b).1) (T := clT a) (N := nfl a) (Ts := bw) hx hbb hts (hinC a ha7) hown w3 w1 q0 he (cl_at a ha7) b hbn (hts _ (bw_of hk)) (fun _ z => z) (v := .int (hpI h n b)) ?_ hd ?_
      · rw [List.getElem?_map, List.getElem?_range hbn]
        show some (fval h ad n a b) = _
        unfold fval
        split
        · next z => exact absurd z q
        · rfl
      · exact kk H locs cells slots ad ca nms tys ls hW hS hSC hL hLn hoL (okS_c okV_I (okS_t hoS)) hcs hss K
  · -- putfield of an int
    rename_i ins0 st0 i x n st1
    obtain ⟨rfl, ha7, hbn, hk, hfin⟩ := (hw : len = 3 ∧ a < 7 ∧ b < nfl a ∧ iw (.fieldLink (yOw y) i (clT a b).1 (clT a b).2.1 (clT a b).2.2.1) ∧ ((clT a b).2.2.2 = false ∨ ((clT a b).2.2.2 = true ∧ yIn y = true ∧ (clT a b).1 = yOw y)))
    have go : live h n → kd n.1 = a → fty a b ≠ 2 → narrow (clY a b) (.int x) = .int x → fits (clY a b) (.int x) = true → st' = st1 → h1 = setI h n b x → W p l e R s m args below meth c H locs cells slots Z (F0 m pc ls (List.map (rl ad) (.inl x :: .inr (.inr (some n)) :: st1))) := by
      intro hl hkd hf2 hnar hfit e1 e2
      subst e1 e2
      obtain ⟨q0, hq⟩ := List.getElem?_of_mem ((w4 n).mpr hl)
      have he := wso_at (h := h) (ad := ad) (ca := ca) hq
      rw [cell_obj hkd ha7] at he
      have hset := wso_set (h := h) (h2 := setI h n b x) w2 hq (cell_setI_obj (h := h) (ad := ad) (ca := ca) (v := x) hkd ha7 hf2) (fun n' hn' => cell_setI_ne hn')
      have hlen : b < ((List.range (nfl a)).map (fun k => fval h ad n a k)).length := by simpa using hbn
      have go2 : ∀ (H1 : Heap) (locs1 : List Loc), va_P D vwCl ((wso h ad ca nms).set q0 (ad n, .inr (a, ((List.range (nfl a)).map (fun k => fval h ad n a k)).set b (.int x)))) H1 → va_D A ((wso h ad ca nms).set q0 (ad n, .inr (a, ((List.range (nfl a)).map (fun k => fval h ad n a k)).set b (.int x)))) → va_S A s.heap H1 locs1 → W p l e R s m args below meth c H1 locs1 cells slots Z (F0 m (pc + 3) ls (List.map (rl ad) st')) := by
        intro H1 locs1 g1 g2 g3
        rw [hset] at g1 g2
        exact kk H1 locs1 cells slots ad ca nms tys ls (Wd_I hW g1 g2 (fun z => by omega)) g3 hSC hL hLn hoL (okS_t (okS_t hoS)) hcs hss K
      rcases hfin with hfin | ⟨hfin, hini, hdecl⟩
      · exact va_put (ref := (clT a b).1) (T := clT a) (N := nfl a) (Ts := bw) hx hbb hts (hinC a ha7) (clY a) (clY_ok a ha7) (clN_ok a ha7) hown w3 w1 w2 hS q0 he (cl_at a ha7) b hbn (hts _ (bw_of hk)) (fun _ z => z) hfin (clY_ok a ha7 b hbn) hnar hfit hlen hd go2
      · exact va_putF (ref := (clT a b).1) (T := clT a) (N := nfl a) (Ts := bw) hx hbb hts (hinC a ha7) (clY a) (clY_ok a ha7) (clN_ok a ha7) hown w3 w1 w2 hS q0 he (cl_at a ha7) b hbn (hts _ (bw_of hk)) (fun _ z => z) hfin (hin hini) hdecl (clY_ok a ha7 b hbn) hnar hfit hlen hd go2
    have ht := tyk_ok a ha7 b hbn
    split at hp
    · next q =>
      cases hp
      rw [q] at ht
      exact go hC.1 hC.2 (by rw [q]; decide) (by rw [tyk_0 ht]; rfl) (by rw [tyk_0 ht]; rfl) rfl rfl
    · next q =>
      cases hp
      rw [q] at ht
      exact go hC.1 hC.2.1 (by rw [q]; decide) (by rw [tyk_1 ht]; exact (nar_bool hC.2.2).1) (by rw [tyk_1 ht]; exact (nar_bool hC.2.2).2) rfl rfl
    · cases hp
  · -- putfield of a reference
    rename_i ins0 st0 i v n st1
    obtain ⟨rfl, ha7, hbn, hk, hfin⟩ := (hw : len = 3 ∧ a < 7 ∧ b < nfl a ∧ iw (.fieldLink (yOw y) i (clT a b).1 (clT a b).2.1 (clT a b).2.2.1) ∧ ((clT a b).2.2.2 = false ∨ ((clT a b).2.2.2 = true ∧ yIn y = true ∧ (clT a b).1 = yOw y)))
    have ht := tyk_ok a ha7 b hbn
    split at hp
    · next q =>
      cases hp
      rw [q] at ht
      obtain ⟨hl, hkd, hlv⟩ := hC
      obtain ⟨q0, hq⟩ := List.getElem?_of_mem ((w4 n).mpr hl)
      have he := wso_at (h := h) (ad := ad) (ca := ca) hq
      rw [cell_obj hkd ha7] at he
      have hset := wso_set (h := h) (h2 := setR h n b (some v)) w2 hq (cell_setR_obj (h := h) (ad := ad) (ca := ca) (m := v) hkd ha7 q) (fun n' hn' => cell_setR_ne hn')
      have hlen : b < ((List.range (nfl a)).map (fun k => fval h ad n a k)).length := by simpa using hbn
      have hnar : narrow (clY a b) (.ref (ad v)) = .ref (ad v) := by
        rcases tyk_2 ht with ⟨z, e⟩ | ⟨z, e⟩ <;> rw [e] <;> rfl
      have hfit : fits (clY a b) (.ref (ad v)) = true := by
        rcases tyk_2 ht with ⟨z, e⟩ | ⟨z, e⟩ <;> rw [e] <;> rfl
      have go2 : ∀ (H1 : Heap) (locs1 : List Loc), va_P D vwCl ((wso h ad ca nms).set q0 (ad n, .inr (a, ((List.range (nfl a)).map (fun k => fval h ad n a k)).set b (.ref (ad v))))) H1 → va_D A ((wso h ad ca nms).set q0 (ad n, .inr (a, ((List.range (nfl a)).map (fun k => fval h ad n a k)).set b (.ref (ad v))))) → va_S A s.heap H1 locs1 → W p l e R s m args below meth c H1 locs1 cells slots Z (F0 m (pc + 3) ls (List.map (rl ad) st')) := by
        intro H1 locs1 g1 g2 g3
        rw [hset] at g1 g2
        exact kk H1 locs1 cells slots ad ca nms tys ls (Wd_R hW ((w4 v).mpr hlv) g1 g2) g3 hSC hL hLn hoL (okS_t (okS_t hoS)) hcs hss K
      rcases hfin with hfin | ⟨hfin, hini, hdecl⟩
      · exact va_put (ref := (clT a b).1) (T := clT a) (N := nfl a) (Ts := bw) hx hbb hts (hinC a ha7) (clY a) (clY_ok a ha7) (clN_ok a ha7) hown w3 w1 w2 hS q0 he (cl_at a ha7) b hbn (hts _ (bw_of hk)) (fun _ z => z) hfin (clY_ok a ha7 b hbn) hnar hfit hlen hd go2
      · exact va_putF (ref := (clT a b).1) (T := clT a) (N := nfl a) (Ts := bw) hx hbb hts (hinC a ha7) (clY a) (clY_ok a ha7) (clN_ok a ha7) hown w3 w1 w2 hS q0 he (cl_at a ha7) b hbn (hts _ (bw_of hk)) (fun _ z => z) hfin (hin hini) hdecl (clY_ok a ha7 b hbn) hnar hfit hlen hd go2
    · cases hp
  · -- iaload
    rename_i ins0 st0 i n st1
    obtain ⟨rfl, ha⟩ := (hw : len = 1 ∧ (a = 0 ∨ y = 133))
    split at hp
    · cases hp
      obtain ⟨hl, hkd, hi⟩ := hC
      obtain ⟨q0, hq⟩ := List.getElem?_of_mem ((w4 n).mpr hl)
      have he := wso_at (h := h) (ad := ad) (ca := ca) hq
      rw [cell_int (by omega) (by omega)] at he
      obtain ⟨t0, ht⟩ := w5 n ((w4 n).mpr hl) (by omega)
      rw [hkd] at ht
      exact va_iald hx hbb w3 w1 q0 t0 he ht (inb_vp hi) hd (kk H locs cells slots ad ca nms tys ls hW hS hSC hL hLn hoL (okS_c okV_I (okS_t (okS_t hoS))) hcs hss K)
    · next q =>
      cases hp
      obtain ⟨rfl, hi⟩ := hC
      obtain ⟨g1, g2, g3⟩ := hSC (ha.resolve_left q)
      exact va_sld hx hbb g1 g2 g3 hS (inb_vp hi) hd (kk H locs cells slots ad ca nms tys ls hW hS hSC hL hLn hoL (okS_c okV_I (okS_t (okS_t hoS))) hcs hss K)
  · -- baload
    rename_i ins0 st0 i n st1
    obtain rfl : len = 1 := hw
    split at hp
    · cases hp
      obtain ⟨hl, hkd, hi⟩ := hC
      obtain ⟨q0, hq⟩ := List.getElem?_of_mem ((w4 n).mpr hl)
      have he := wso_at (h := h) (ad := ad) (ca := ca) hq
      rw [cell_int (by omega) (by omega)] at he
      obtain ⟨t0, ht⟩ := w5 n ((w4 n).mpr hl) (by omega)
      rw [hkd] at ht
      exact va_bald hx hbb w3 w1 q0 t0 he ht (inb_vp hi) hd (kk H locs cells slots ad ca nms tys ls hW hS hSC hL hLn hoL (okS_c okV_I (okS_t (okS_t hoS))) hcs hss K)
    · cases hp
      obtain ⟨hl, hkd, hi⟩ := hC
      obtain ⟨q0, hq⟩ := List.getElem?_of_mem ((w4 n).mpr hl)
      have he := wso_at (h := h) (ad := ad) (ca := ca) hq
      rw [cell_int (by omega) (by omega)] at he
      obtain ⟨t0, ht⟩ := w5 n ((w4 n).mpr hl) (by omega)
      rw [hkd] at ht
      exact va_zald hx hbb w3 w1 q0 t0 he ht (inb_vp hi) hd (kk H locs cells slots ad ca nms tys ls hW hS hSC hL hLn hoL (okS_c okV_I (okS_t (okS_t hoS))) hcs hss K)
  · -- aaload
    rename_i ins0 st0 i n st1
    obtain rfl : len = 1 := hw
    cases hp
    obtain ⟨hl, hkd, hk10, hi, hr⟩ := hC
    obtain ⟨q0, hq⟩ := List.getElem?_of_mem ((w4 n).mpr hl)
    have he := wso_at (h := h) (ad := ad) (ca := ca) hq
    rw [cell_ref (by omega)] at he
    obtain ⟨t0, ht⟩ := w5 n ((w4 n).mpr hl) (by omega)
    have hty : tyA (kd n.1) = .object (cnm (kd (ety n.1))) := by
      unfold tyA
      rw [if_neg (by omega), if_neg (by omega), if_neg (by omega), show kd n.1 - 110 = kd (ety n.1) by omega]
    rw [hty] at ht
    refine va_aldq hx hbb w3 w1 q0 t0 he ht (inb_vp hi) hd ?_
    have ev : va_rf ((fun j => (hpR h n j).map ad) i.toNatClampNeg) = rl ad (.inr (.inr (some (ety n.1, nat i)))) := by
      show va_rf ((hpR h n (nat i)).map ad) = _
      rw [hr]
      rfl
    rw [ev]
    exact kk H locs cells slots ad ca nms tys ls hW hS hSC hL hLn hoL (okS_c (okV_R (w6 n _ _ hr)) (okS_t (okS_t hoS))) hcs hss K
  · -- iastore
    rename_i ins0 st0 x i n st1
    obtain rfl : len = 1 := hw
    cases hp
    obtain ⟨hl, hkd, hi⟩ := hC
    obtain ⟨q0, hq⟩ := List.getElem?_of_mem ((w4 n).mpr hl)
    have he := wso_at (h := h) (ad := ad) (ca := ca) hq
    rw [cell_int (by omega) (by omega)] at he
    obtain ⟨t0, ht⟩ := w5 n ((w4 n).mpr hl) (by omega)
    rw [hkd] at ht
    have hset := wso_set (h := h) (h2 := setI h n (nat i) x) w2 hq (cell_setI_arr (h := h) (ad := ad) (ca := ca) (v := x) (by omega) (by omega)) (fun n' hn' => cell_setI_ne hn')
    refine va_iast hx hbb w3 w1 w2 hS q0 t0 he ht (inb_vp hi) hd (fun H1 locs1 g1 g2 g3 => ?_)
    have g1 : va_P D vwCl ((wso h ad ca nms).set q0 (ad n, .inl (ca n, hpL h n, .inl (upd (hpI h n) (nat i) x)))) H1 := g1
    have g2 : va_D A ((wso h ad ca nms).set q0 (ad n, .inl (ca n, hpL h n, .inl (upd (hpI h n) (nat i) x)))) := g2
    rw [hset] at g1 g2
    exact kk H1 locs1 cells slots ad ca nms tys ls (Wd_I hW g1 g2 (fun z => by omega)) g3 hSC hL hLn hoL (okS_t (okS_t (okS_t hoS))) hcs hss K
  · -- bastore
    rename_i ins0 st0 x i n st1
    obtain rfl : len = 1 := hw
    split at hp
    · cases hp
      obtain ⟨hl, hkd, hi⟩ := hC
      obtain ⟨q0, hq⟩ := List.getElem?_of_mem ((w4 n).mpr hl)
      have he := wso_at (h := h) (ad := ad) (ca := ca) hq
      rw [cell_int (by omega) (by omega)] at he
      obtain ⟨t0, ht⟩ := w5 n ((w4 n).mpr hl) (by omega)
      rw [hkd] at ht
      have hset := wso_set (h := h) (h2 := setI h n (nat i) x.toInt8.toInt32) w2 hq (cell_setI_arr (h := h) (ad := ad) (ca := ca) (v := x.toInt8.toInt32) (by omega) (by omega)) (fun n' hn' => cell_setI_ne hn')
      refine va_bast hx hbb w3 w1 w2 hS q0 t0 he ht (inb_vp hi) hd (fun H1 locs1 g1 g2 g3 => ?_)
      rw [vp_nar_byte] at g1 g2
      have g1 : va_P D vwCl ((wso h ad ca nms).set q0 (ad n, .inl (ca n, hpL h n, .inl (upd (hpI h n) (nat i) x.toInt8.toInt32)))) H1 := g1
      have g2 : va_D A ((wso h ad ca nms).set q0 (ad n, .inl (ca n, hpL h n, .inl (upd (hpI h n) (nat i) x.toInt8.toInt32)))) := g2
      rw [hset] at g1 g2
      exact kk H1 locs1 cells slots ad ca nms tys ls (Wd_I hW g1 g2 (fun _ => fits_byte8 x)) g3 hSC hL hLn hoL (okS_t (okS_t (okS_t hoS))) hcs hss K
    · cases hp
      obtain ⟨hl, hkd, hi, hx01⟩ := hC
      obtain ⟨q0, hq⟩ := List.getElem?_of_mem ((w4 n).mpr hl)
      have he := wso_at (h := h) (ad := ad) (ca := ca) hq
      rw [cell_int (by omega) (by omega)] at he
      obtain ⟨t0, ht⟩ := w5 n ((w4 n).mpr hl) (by omega)
      rw [hkd] at ht
      have hset := wso_set (h := h) (h2 := setI h n (nat i) x) w2 hq (cell_setI_arr (h := h) (ad := ad) (ca := ca) (v := x) (by omega) (by omega)) (fun n' hn' => cell_setI_ne hn')
      refine va_zast hx hbb w3 w1 w2 hS q0 t0 he ht (inb_vp hi) hd (fun H1 locs1 g1 g2 g3 => ?_)
      have ez : vp_nar .boolean x = x := by
        unfold vp_nar
        rw [(nar_bool hx01).1]
      rw [ez] at g1 g2
      have g1 : va_P D vwCl ((wso h ad ca nms).set q0 (ad n, .inl (ca n, hpL h n, .inl (upd (hpI h n) (nat i) x)))) H1 := g1
      have g2 : va_D A ((wso h ad ca nms).set q0 (ad n, .inl (ca n, hpL h n, .inl (upd (hpI h n) (nat i) x)))) := g2
      rw [hset] at g1 g2
      exact kk H1 locs1 cells slots ad ca nms tys ls (Wd_I hW g1 g2 (fun z => by omega)) g3 hSC hL hLn hoL (okS_t (okS_t (okS_t hoS))) hcs hss K
  · -- aastore
    rename_i ins0 st0 v i n st1
    obtain rfl : len = 1 := hw
    cases hp
    obtain ⟨hl, hkd, hk10, hlv, hi⟩ := hC
    have hk7 := kd_lt7 _ hk10
    obtain ⟨q0, hq⟩ := List.getElem?_of_mem ((w4 n).mpr hl)
    have he := wso_at (h := h) (ad := ad) (ca := ca) hq
    rw [cell_ref (by omega)] at he
    obtain ⟨qk, hqk⟩ := List.getElem?_of_mem ((w4 v).mpr hlv)
    have hev := wso_at (h := h) (ad := ad) (ca := ca) hqk
    rw [cell_obj rfl hk7] at hev
    obtain ⟨t0, ht⟩ := w5 n ((w4 n).mpr hl) (by omega)
    have hty : tyA (kd n.1) = .object (cnm (kd v.1)) := by
      unfold tyA
      rw [if_neg (by omega), if_neg (by omega), if_neg (by omega), show kd n.1 - 110 = kd v.1 by omega]
    rw [hty] at ht
    have hset := wso_set (h := h) (h2 := setR h n (nat i) (some v)) w2 hq (cell_setR_arr (h := h) (ad := ad) (ca := ca) (m := v) (by omega)) (fun n' hn' => cell_setR_ne hn')
    refine va_astq (r := (cnm (kd v.1), clT (kd v.1), nfl (kd v.1))) hx hbb w3 w1 w2 hS q0 t0 qk (kd v.1) he ht hev (cl_at _ hk7) (inb_vp hi) hd (fun H1 locs1 g1 g2 g3 => ?_)
    have g1 : va_P D vwCl ((wso h ad ca nms).set q0 (ad n, .inl (ca n, hpL h n, .inr (.inr (.inr (.inr (va_up (fun j => (hpR h n j).map ad) (nat i) (some (ad v))))))))) H1 := g1
    have g2 : va_D A ((wso h ad ca nms).set q0 (ad n, .inl (ca n, hpL h n, .inr (.inr (.inr (.inr (va_up (fun j => (hpR h n j).map ad) (nat i) (some (ad v))))))))) := g2
    rw [hset] at g1 g2
    exact kk H1 locs1 cells slots ad ca nms tys ls (Wd_R hW ((w4 v).mpr hlv) g1 g2) g3 hSC hL hLn hoL (okS_t (okS_t (okS_t hoS))) hcs hss K
  · -- arraylength
    rename_i ins0 st0 n st1
    obtain ⟨rfl, ha⟩ := (hw : len = 1 ∧ (a = 0 ∨ y = 133))
    split at hp
    · cases hp
      obtain ⟨hl, hkd⟩ := hC
      obtain ⟨q0, hq⟩ := List.getElem?_of_mem ((w4 n).mpr hl)
      have he := wso_at (h := h) (ad := ad) (ca := ca) hq
      obtain ⟨t0, ht⟩ := w5 n ((w4 n).mpr hl) hkd
      by_cases h110 : kd n.1 < 110
      · rw [cell_int hkd h110] at he
        exact va_alen hx hbb w3 w1 q0 t0 he ht rfl hd (kk H locs cells slots ad ca nms tys ls hW hS hSC hL hLn hoL (okS_c okV_I (okS_t hoS)) hcs hss K)
      · rw [cell_ref (by omega)] at he
        exact va_alen hx hbb w3 w1 q0 t0 he ht rfl hd (kk H locs cells slots ad ca nms tys ls hW hS hSC hL hLn hoL (okS_c okV_I (okS_t hoS)) hcs hss K)
    · next q =>
      cases hp
      obtain rfl := hC
      obtain ⟨g1, g2, g3⟩ := hSC (ha.resolve_left q)
      exact va_slen hx hbb g1 g2 g3 hS hd (kk H locs cells slots ad ca nms tys ls hW hS hSC hL hLn hoL (okS_c okV_I (okS_t hoS)) hcs hss K)
  · -- idiv
    rename_i ins0 st0 z x st1
    obtain rfl : len = 1 := hw
    cases hp
    exact lv_idiv hx hbb hd hC (kk H locs cells slots ad ca nms tys ls hW hS hSC hL hLn hoL (okS_c okV_I (okS_t (okS_t hoS))) hcs hss K)
  · -- irem
    rename_i ins0 st0 z x st1
    obtain rfl : len = 1 := hw
    cases hp
    exact lv_irem hx hbb hd hC (kk H locs cells slots ad ca nms tys ls hW hS hSC hL hLn hoL (okS_c okV_I (okS_t (okS_t hoS))) hcs hss K)
  · -- newarray
    rename_i ins0 st0 ty0 n st1
    obtain ⟨rfl, hk, hkt⟩ := (hw : len = 2 ∧ iw (.arrayClass (newarray.typeOf ty0)) ∧ ((kd a = 100 ∧ ty0 = .int) ∨ (kd a = 101 ∧ ty0 = .byte) ∨ (kd a = 102 ∧ ty0 = .boolean)))
    cases hp
    obtain ⟨hn0, hn2⟩ := hC
    have hc1 : cells + 1 ≤ R.cells := by
      have : hpN h + 1 ≤ hpN h' := kn1
      omega
    have hs1 : slots + nat n ≤ R.slots := by
      have : hpS h + nat n ≤ hpS h' := kn2
      omega
    have hgo : ∀ (q : Nat) (cA : ClassId) (H1 : Heap), 100 ≤ kd a → kd a < 110 → va_K D vwCl (tys ++ [(cA, tyA (kd a))]) s → va_P D vwCl (wso h ad ca nms ++ [(q, .inl (cA, nat n, .inl (fun _ => 0)))]) H1 → va_D A (wso h ad ca nms ++ [(q, .inl (cA, nat n, .inl (fun _ => 0)))]) → va_S A s.heap H1 locs → W p l e R s m args below meth c H1 locs (cells + 1) (slots + nat n) Z (F0 m (pc + 2) ls (.ref q :: List.map (rl ad) st1)) := by
      intro q cA H1 hk1 hk2 g1 g2 g3 g4
      refine alloc a q (nat n) cA (newC h a (nat n) (nat n)) H1 locs _ _ st1 (pc + 2) (by omega) rfl rfl kn1 kn2 (hpC_new h a _ _) (new_ne h a _ _) (new_R h a _ _) (fun _ j => by rw [new_I]; rfl) ?_ g2 g3 g1 (fun t0 x hx => ?_) (fun _ => ⟨tys.length, ?_⟩) g4 (okS_t hoS) kk
      · rw [cell_int (n := (a, hpC h a)) hk1 hk2, new_L, new_I, upn_eq]
      · rw [List.getElem?_append_left (List.getElem?_eq_some_iff.mp hx).1]
        exact hx
      · rw [List.getElem?_append_right (Nat.le_refl _), Nat.sub_self]
        rfl
    rcases hkt with ⟨hka, rfl⟩ | ⟨hka, rfl⟩ | ⟨hka, rfl⟩
    · refine va_newa (ty := .int) (a0 := (nat n, .inl (fun _ => 0))) hx hbb (hts _ (bw_of hk)) rfl w3 w1 w2 hS hA (fun _ => rfl) hn0 rfl (by show nat n * 4 ≤ _; omega) hc1 hs1 hd (fun q cA H1 g1 g2 g3 g4 => hgo q cA H1 (by omega) (by omega) (by rw [hka]; exact g1) g2 g3 g4)
    · refine va_newa (ty := .byte) (a0 := (nat n, .inl (fun _ => 0))) hx hbb (hts _ (bw_of hk)) rfl w3 w1 w2 hS hA (fun _ => rfl) hn0 rfl (by show nat n * 1 ≤ _; omega) hc1 hs1 hd (fun q cA H1 g1 g2 g3 g4 => hgo q cA H1 (by omega) (by omega) (by rw [hka]; exact g1) g2 g3 g4)
    · refine va_newa (ty := .boolean) (a0 := (nat n, .inl (fun _ => 0))) hx hbb (hts _ (bw_of hk)) rfl w3 w1 w2 hS hA (fun _ => rfl) hn0 rfl (by show nat n * 1 ≤ _; omega) hc1 hs1 hd (fun q cA H1 g1 g2 g3 g4 => hgo q cA H1 (by omega) (by omega) (by rw [hka]; exact g1) g2 g3 g4)
  · -- anewarray
    rename_i ins0 st0 i n st1
    obtain ⟨rfl, hk3, hka, hk⟩ := (hw : len = 3 ∧ kd (ety a) < 3 ∧ kd a = 110 + kd (ety a) ∧ iw (.classLink (yOw y) i (cnm (kd (ety a)))))
    cases hp
    obtain ⟨hn0, hn2⟩ := hC
    have hc1 : cells + 1 ≤ R.cells := by
      have : hpN h + 1 ≤ hpN h' := kn1
      omega
    have hs1 : slots + nat n ≤ R.slots := by
      have : hpS h + nat n ≤ hpS h' := kn2
      omega
    have hty : tyA (kd a) = .object (cnm (kd (ety a))) := by
      unfold tyA
      rw [if_neg (by omega), if_neg (by omega), if_neg (by omega), show kd a - 110 = kd (ety a) by omega]
    refine va_newq hx hbb hown (hts _ (bw_of hk)) (hwx.1 _ hk3) w3 w1 w2 hS hA hn0 rfl (by show nat n * 4 ≤ _; omega) hc1 hs1 hd (fun q cA H1 g1 g2 g3 g4 => ?_)
    refine alloc a q (nat n) cA (newC h a (nat n) (nat n)) H1 locs _ _ st1 (pc + 3) (by omega) rfl rfl kn1 kn2 (hpC_new h a _ _) (new_ne h a _ _) (new_R h a _ _) (fun z => by omega) ?_ g2 g3 g1 (fun t0 x hx => ?_) (fun _ => ⟨tys.length, ?_⟩) g4 (okS_t hoS) kk
    · rw [cell_ref (n := (a, hpC h a)) (by show 110 ≤ kd a; omega), new_L, upn_eq]
      simp only [new_R, Option.map_none]
      rfl
    · rw [List.getElem?_append_left (List.getElem?_eq_some_iff.mp hx).1]
      exact hx
    · rw [List.getElem?_append_right (Nat.le_refl _), Nat.sub_self, hty]
      rfl
  · -- new
    rename_i ins0 st0 i
    obtain ⟨rfl, hka, hb7, hk1, hk2, hk3⟩ := (hw : len = 3 ∧ kd a = b ∧ b < 7 ∧ iw (.classLink (yOw y) i (cnm b)) ∧ iw (.instantiable (cnm b) (nfl b)) ∧ iw (.initialized (cnm b)))
    cases hp
    have hc1 : cells + 1 ≤ R.cells := by
      have : hpN h + 1 ≤ hpN h' := kn1
      omega
    have hs1 : slots + nfl b ≤ R.slots := by
      have : hpS h + nfl b ≤ hpS h' := kn2
      omega
    have hfs : ∀ j, j < nfl b → defaultValue (clY b j) = vp_V ((List.range (nfl b)).map (fun k => if fty b k = 2 then Value.null else Value.int 0)) j := by
      intro j hj
      have ht := tyk_ok b hb7 j hj
      unfold vp_V
      rw [List.getD_eq_getElem?_getD, List.getElem?_map, List.getElem?_range hj]
      show defaultValue (clY b j) = (if fty b j = 2 then Value.null else Value.int 0)
      have hft : ∀ c, c < 7 → ∀ k, k < nfl c → fty c k = 0 ∨ fty c k = 1 ∨ fty c k = 2 := by decide +kernel
      rcases hft b hb7 j hj with q | q | q
      · rw [q] at ht ⊢
        rw [tyk_0 ht]
        rfl
      · rw [q] at ht ⊢
        rw [tyk_1 ht]
        rfl
      · rw [q] at ht ⊢
        rcases tyk_2 ht with ⟨z, e⟩ | ⟨z, e⟩ <;> rw [e] <;> rfl
    refine va_new (C := cnm b) (T := clT b) (N := nfl b) (Ts := bw) (ci := b) hx hbb hts (hinC b hb7) (clY b) (clY_ok b hb7) hown (hts _ (bw_of hk1)) (hts _ (bw_of hk2)) (hts _ (bw_of hk3)) w3 w1 w2 hS hA (cl_at b hb7) hfs hc1 hs1 hd (fun q H1 g2 g3 g4 => ?_)
    refine alloc a q (nfl b) 0 (newC h a 0 (nfl b)) H1 locs _ tys st (pc + 3) (by omega) rfl rfl kn1 kn2 (hpC_new h a _ _) (new_ne h a _ _) (new_R h a _ _) (fun z => by omega) ?_ g2 g3 w3 (fun t0 x hx => hx) (fun z => by omega) g4 hoS kk
    rw [cell_obj (n := (a, hpC h a)) hka hb7]
    congr 2
    apply List.map_congr_left
    intro k hk
    unfold fval
    rw [new_R, new_I]
    by_cases z : fty b k = 2
    · rw [if_pos z, z]
      rfl
    · rw [if_neg z]
      split
      · next z2 => exact absurd z2 z
      · rfl
  · -- Object.<init>
    rename_i ins0 st0 i n st1
    obtain ⟨rfl, -, hk⟩ := (hw : len = 3 ∧ _ ∧ (a = 1000 → iw (.methodLink (yOw y) i objectInit) ∧ iw (.instanceMethod objectInit) ∧ iw (.code objectInit ⟨#[0xb1]⟩ 1 none) ∧ 1 ≤ yRk y ∧ 20 ≤ yLo y))
    split at hp
    · cases hp
      obtain ⟨k1, k2, k3, k4, k5⟩ := hk rfl
      have hcat := rl_cats ad st'
      refine W.objInit hx hbb hown (hts _ (bw_of k1)) (hts _ (bw_of k2)) (hts _ (bw_of k3)) rfl (by show ls.size = _; rw [hL.1, hml]) rfl hd (by omega) (by show 2 * 0 + _ + 12 ≤ _; omega) ?_
      refine W.eq (g2 := F0 m (pc + 3) ls (List.map (rl ad) st')) rfl ?_
      exact kk H locs cells slots ad ca nms tys ls hW hS hSC hL hLn hoL (okS_t hoS) hcs hss K
    · cases hp
  · -- static calls of the library
    rename_i ins0 st0 i z x st1
    obtain ⟨rfl, -, hk1, hk2⟩ := (hw : len = 3 ∧ _ ∧ (a = 1001 → iw (.methodLink (yOw y) i Lib.Math.min.name) ∧ iw (.static Lib.Math.min.name) ∧ iw (.initialized "java/lang/Math") ∧ iw (.code Lib.Math.min.name Lib.Math.min.code 2 (some .int)) ∧ 1 ≤ yRk y ∧ 21 ≤ yLo y) ∧ (a = 1002 → iw (.methodLink (yOw y) i arraycopyName) ∧ iw (.native arraycopyName) ∧ iw (.static arraycopyName) ∧ iw (.initialized "java/lang/System") ∧ 1 ≤ yRk y ∧ 26 ≤ yLo y))
    split at hp
    · cases hp
      obtain ⟨k1, k2, k3, k4, k5, k6⟩ := hk1 rfl
      have hcat := rl_cats ad st1
      exact va_mmin hx hbb (by rw [hL.1, hml]) hown (hts _ (bw_of k1)) (hts _ (bw_of k2)) (hts _ (bw_of k3)) (hts _ (bw_of k4)) (by omega) (by omega) (by omega) (by omega) hd (kk H locs cells slots ad ca nms tys ls hW hS hSC hL hLn hoL (okS_c okV_I (okS_t (okS_t hoS))) hcs hss K)
    · split at hp
      · next d sp s0 st2 =>
        cases hp
        obtain ⟨k1, k2, k3, k4, k5, k6⟩ := hk2 rfl
        have hcat := rl_cats ad st'
        obtain ⟨c8, hl0, hl1, hkd0, hkd1, q1, q2, q3, q4, q5⟩ := hC
        obtain ⟨q0, hq0⟩ := List.getElem?_of_mem ((w4 s0).mpr hl0)
        have he0 := wso_at (h := h) (ad := ad) (ca := ca) hq0
        rw [cell_int (by omega) (by omega)] at he0
        obtain ⟨qd, hqd⟩ := List.getElem?_of_mem ((w4 d).mpr hl1)
        have hed := wso_at (h := h) (ad := ad) (ca := ca) hqd
        rw [cell_int (by omega) (by omega)] at hed
        obtain ⟨t0, ht0⟩ := w5 s0 ((w4 s0).mpr hl0) (by omega)
        rw [hkd0] at ht0
        obtain ⟨t1, ht1⟩ := w5 d ((w4 d).mpr hl1) (by omega)
        rw [hkd1] at ht1
        have hnw : nativeFrameWords "java/lang/System" "arraycopy" 5 = 7 := by decide +kernel
        have hset := wso_set (h := h) (h2 := setF h d (fun k => if nat x ≤ k ∧ k < nat x + nat z then hpI h s0 (nat sp + (k - nat x)) else hpI h d k)) w2 hqd (cell_setF_arr (h := h) (ad := ad) (ca := ca) (f := fun k => if nat x ≤ k ∧ k < nat x + nat z then hpI h s0 (nat sp + (k - nat x)) else hpI h d k) (by omega) (by omega)) (fun n' hn' => cell_setF_ne hn')
        refine va_copyi hx hbb (by rw [hL.1, hml]) hown (hts _ (bw_of k1)) (hts _ (bw_of k2)) (hts _ (bw_of k3)) (hts _ (bw_of k4)) w3 w1 w2 hS q0 qd t0 t1 he0 hed ht0 ht1 rfl q1 q2 q3 q4 q5 (fun i _ => w7 s0 hkd0 _) (by omega) (by rw [hnw]; omega) hd (fun H1 locs1 g1 g2 g3 => ?_)
        have g1 : va_P D vwCl ((wso h ad ca nms).set qd (ad d, .inl (ca d, hpL h d, .inl (fun k => if nat x ≤ k ∧ k < nat x + nat z then hpI h s0 (nat sp + (k - nat x)) else hpI h d k)))) H1 := g1
        have g2 : va_D A ((wso h ad ca nms).set qd (ad d, .inl (ca d, hpL h d, .inl (fun k => if nat x ≤ k ∧ k < nat x + nat z then hpI h s0 (nat sp + (k - nat x)) else hpI h d k)))) := g2
        rw [hset] at g1 g2
        refine kk H1 locs1 cells slots ad ca nms tys ls (Wd_F hW g1 g2 (fun _ j => ?_)) g3 hSC hL hLn hoL (okS_t (okS_t (okS_t (okS_t (okS_t hoS))))) hcs hss K
        split
        · exact w7 s0 hkd0 _
        · exact w7 d hkd1 _
      · cases hp
    · cases hp
  · -- clone
    rename_i ins0 st0 i s0 st1
    obtain ⟨rfl, -, hk⟩ := (hw : len = 3 ∧ _ ∧ (a = 1003 → kd b = 101 ∧ iw (.methodLink (yOw y) i ⟨"[B", "clone", "()Ljava/lang/Object;"⟩) ∧ iw (.sameMethod "[B" "java/lang/Object" "clone" "()Ljava/lang/Object;") ∧ iw (.native ⟨"java/lang/Object", "clone", "()Ljava/lang/Object;"⟩) ∧ iw (.instanceMethod ⟨"java/lang/Object", "clone", "()Ljava/lang/Object;"⟩) ∧ iw (.selects "[B" ⟨"[B", "clone", "()Ljava/lang/Object;"⟩ ⟨"java/lang/Object", "clone", "()Ljava/lang/Object;"⟩) ∧ 1 ≤ yRk y ∧ 22 ≤ yLo y))
    split at hp
    · cases hp
      obtain ⟨kb, k1, k2, k3, k4, k5, k6, k7⟩ := hk rfl
      have hcat := rl_cats ad st1
      obtain ⟨c8, hl0, hkd0⟩ := hC
      obtain ⟨q0, hq0⟩ := List.getElem?_of_mem ((w4 s0).mpr hl0)
      have he0 := wso_at (h := h) (ad := ad) (ca := ca) hq0
      rw [cell_int (by omega) (by omega)] at he0
      obtain ⟨t0, ht0⟩ := w5 s0 ((w4 s0).mpr hl0) (by omega)
      rw [hkd0] at ht0
      have hc1 : cells + 1 ≤ R.cells := by
        have : hpN h + 1 ≤ hpN h' := kn1
        omega
      have hs1 : slots + hpL h s0 ≤ R.slots := by
        have : hpS h + hpL h s0 ≤ hpS h' := kn2
        omega
      have hs0 : s0 ≠ (b, hpC h b) := by
        rintro rfl
        exact Nat.lt_irrefl _ hl0
      refine va_clone (ad := "[B") hx hbb (by rw [hL.1, hml]) hown (hts _ (bw_of k1)) (hts _ (bw_of k2)) (hts _ (bw_of k3)) (hts _ (bw_of k4)) (hts _ (bw_of k5)) hwx.2 w3 w1 w2 hS hA q0 t0 he0 ht0 (va_nm_byte (w3.2 t0 _ ht0).2) ?_ (by omega) (by omega) hc1 hs1 hd (fun q H1 g1 g2 g3 g4 => ?_)
      · intro j v hv
        rw [vp_cell_i] at hv
        exact va_fit (fun j _ => w7 s0 hkd0 j) j v hv
      · refine alloc b q (hpL h s0) (ca s0) (setF (newC h b (hpL h s0) (hpL h s0)) (b, hpC h b) (hpI h s0)) H1 locs _ _ st1 (pc + 3) (by omega) rfl rfl kn1 kn2 (hpC_new h b (hpL h s0) (hpL h s0)) (fun n hn => ?_) (new_R h b (hpL h s0) (hpL h s0)) (fun _ j => ?_) ?_ g2 g3 g1 (fun t0 x hx => ?_) (fun _ => ⟨tys.length, ?_⟩) g4 (okS_t hoS) kk
        · obtain ⟨n1, n2, n3⟩ := new_ne h b (hpL h s0) (hpL h s0) n hn
          refine ⟨n1, ?_, n3⟩
          funext j
          rw [hpI_setF, if_neg hn, n2]
        · rw [hpI_setF, if_pos rfl]
          exact w7 s0 hkd0 j
        · have e1 : hpI (setF (newC h b (hpL h s0) (hpL h s0)) (b, hpC h b) (hpI h s0)) (b, hpC h b) = hpI h s0 := by
            funext j
            rw [hpI_setF, if_pos rfl]
          have e2 : hpL (setF (newC h b (hpL h s0) (hpL h s0)) (b, hpC h b) (hpI h s0)) (b, hpC h b) = hpL h s0 := new_L h b (hpL h s0) (hpL h s0)
          rw [cell_int (n := (b, hpC h b)) (by show 100 ≤ kd b; omega) (by show kd b < 110; omega), e1, e2, upn_eq]
        · rw [List.getElem?_append_left (List.getElem?_eq_some_iff.mp hx).1]
          exact hx
        · rw [List.getElem?_append_right (Nat.le_refl _), Nat.sub_self, kb]
          rfl
    · cases hp
  · -- checkcast
    rename_i ins0 st0 i n st1
    obtain ⟨rfl, hk⟩ := (hw : len = 3 ∧ iw (.classLink (yOw y) i "[B"))
    cases hp
    obtain ⟨hl, hkd⟩ := hC
    obtain ⟨q0, hq⟩ := List.getElem?_of_mem ((w4 n).mpr hl)
    have he := wso_at (h := h) (ad := ad) (ca := ca) hq
    rw [cell_int (by omega) (by omega)] at he
    obtain ⟨t0, ht⟩ := w5 n ((w4 n).mpr hl) (by omega)
    rw [hkd] at ht
    exact va_castA hx hbb hown (hts _ (bw_of hk)) w1 q0 he (va_nm_byte (w3.2 t0 _ ht).2) hd (kk H locs cells slots ad ca nms tys ls hW hS hSC hL hLn hoL hoS hcs hss K)
  · cases hp
end
section
/-! Branches, switches, returns, calls. -/
theorem so_bT (X : Nat × (Nat → Int32)) (D : va_G) (l : Launch) : RbT (PW X D l) := by
  intro y pc L st h r h' ins a b st' C hc hp hC kn
  obtain ⟨hd, hw⟩ := cd_ok hc
  refine ⟨kn.1, kn.2.1, ?_⟩
  intro p e R s m args below meth c A Z F hf hlo H locs cells slots ad ca nms tys ls hW hS hSC hL hLn hoL hoS hcs hss K
  have kk := fun hoS' => kn.2.2 p e R s m args below meth c A Z F hf hlo H locs cells slots ad ca nms tys ls hW hS hSC hL hLn hoL hoS' hcs hss K
  obtain ⟨hx, hb, hml, hown, hts, -, hA, -⟩ := F
  unfold br at hp
  split at hp
  · rename_i ins0 st0 cnd off z x st1
    cases hp
    have k2 := kk (okS_t (okS_t hoS))
    cases cnd
    · exact lv_icmp_eq hx hb hd hw (fun _ => k2) (fun q => absurd hC q)
    · exact lv_icmp_ne hx hb hd hw (fun _ => k2) (fun q => absurd q hC)
    · exact lv_icmp_lt hx hb hd hw (fun _ => k2) (fun q => absurd hC q)
    · exact lv_icmp_ge hx hb hd hw (fun _ => k2) (fun q => absurd hC q)
    · exact lv_icmp_gt hx hb hd hw (fun _ => k2) (fun q => absurd hC q)
    · exact lv_icmp_le hx hb hd hw (fun _ => k2) (fun q => absurd hC q)
  · rename_i ins0 st0 cnd off x st1
    cases hp
    have k2 := kk (okS_t hoS)
    cases cnd
    · exact lv_if_eq hx hb hd hw (fun _ => k2) (fun q => absurd hC q)
    · exact lv_if_ne hx hb hd hw (fun _ => k2) (fun q => absurd q hC)
    · exact lv_if_lt hx hb hd hw (fun _ => k2) (fun q => absurd hC q)
    · exact lv_if_ge hx hb hd hw (fun _ => k2) (fun q => absurd hC q)
    · exact lv_if_gt hx hb hd hw (fun _ => k2) (fun q => absurd hC q)
    · exact lv_if_le hx hb hd hw (fun _ => k2) (fun q => absurd hC q)
  · rename_i ins0 st0 off o st1
    cases hp
    have k2 := kk (okS_t hoS)
    cases o with
    | none => exact lv_ifnullN hx hb hd hw k2
    | some n => exact absurd hC (by simp)
  · rename_i ins0 st0 off o st1
    cases hp
    have k2 := kk (okS_t hoS)
    cases o with
    | none => exact absurd rfl hC
    | some n => exact lv_ifnonnull hx hb hd hw k2
  · rename_i ins0 st0 off
    cases hp
    exact lv_goto hx hb hd hw (kk hoS)
  · cases hp
theorem so_bF (X : Nat × (Nat → Int32)) (D : va_G) (l : Launch) : RbF (PW X D l) := by
  intro y pc L st h r h' ins a b st' C hc hp hC kn
  obtain ⟨hd, hw⟩ := cd_ok hc
  refine ⟨kn.1, kn.2.1, ?_⟩
  intro p e R s m args below meth c A Z F hf hlo H locs cells slots ad ca nms tys ls hW hS hSC hL hLn hoL hoS hcs hss K
  have kk := fun hoS' => kn.2.2 p e R s m args below meth c A Z F hf hlo H locs cells slots ad ca nms tys ls hW hS hSC hL hLn hoL hoS' hcs hss K
  obtain ⟨hx, hb, hml, hown, hts, -, hA, -⟩ := F
  unfold br at hp
  split at hp
  · rename_i ins0 st0 cnd off z x st1
    cases hp
    have k2 := kk (okS_t (okS_t hoS))
    cases cnd
    · exact lv_icmp_eq hx hb hd hw (fun q => absurd q hC) (fun _ => k2)
    · exact lv_icmp_ne hx hb hd hw (fun q => absurd q hC) (fun _ => k2)
    · exact lv_icmp_lt hx hb hd hw (fun q => absurd q hC) (fun _ => k2)
    · exact lv_icmp_ge hx hb hd hw (fun q => absurd q hC) (fun _ => k2)
    · exact lv_icmp_gt hx hb hd hw (fun q => absurd q hC) (fun _ => k2)
    · exact lv_icmp_le hx hb hd hw (fun q => absurd q hC) (fun _ => k2)
  · rename_i ins0 st0 cnd off x st1
    cases hp
    have k2 := kk (okS_t hoS)
    cases cnd
    · exact lv_if_eq hx hb hd hw (fun q => absurd q hC) (fun _ => k2)
    · exact lv_if_ne hx hb hd hw (fun q => absurd q hC) (fun _ => k2)
    · exact lv_if_lt hx hb hd hw (fun q => absurd q hC) (fun _ => k2)
    · exact lv_if_ge hx hb hd hw (fun q => absurd q hC) (fun _ => k2)
    · exact lv_if_gt hx hb hd hw (fun q => absurd q hC) (fun _ => k2)
    · exact lv_if_le hx hb hd hw (fun q => absurd q hC) (fun _ => k2)
  · rename_i ins0 st0 off o st1
    cases hp
    have k2 := kk (okS_t hoS)
    cases o with
    | none => exact absurd rfl hC
    | some n => exact lv_ifnull hx hb hd k2
  · rename_i ins0 st0 off o st1
    cases hp
    have k2 := kk (okS_t hoS)
    cases o with
    | none => exact lv_ifnonnullN hx hb hd k2
    | some n => exact absurd (by simp) hC
  · cases hp
    exact absurd trivial hC
  · cases hp
theorem so_sw (X : Nat × (Nat → Int32)) (D : va_G) (l : Launch) : Rsw (PW X D l) := by
  intro y pc L st h r h' ins len a b x t hc hp kn
  obtain ⟨hd, hw⟩ := cd_ok hc
  refine ⟨kn.1, kn.2.1, ?_⟩
  intro p e R s m args below meth c A Z F hf hlo H locs cells slots ad ca nms tys ls hW hS hSC hL hLn hoL hoS hcs hss K
  have kk := kn.2.2 p e R s m args below meth c A Z F hf hlo H locs cells slots ad ca nms tys ls hW hS hSC hL hLn hoL (okS_t hoS) hcs hss K
  obtain ⟨hx, hb, hml, hown, hts, -, hA, -⟩ := F
  unfold swt at hp
  split at hp
  · rename_i ins0 d lo hi offs
    obtain ⟨hw1, hw2⟩ := (hw : 0 ≤ (pc : Int) + d ∧ offs.toList.all (fun o => decide (0 ≤ (pc : Int) + o)) = true)
    split at hp
    · next q =>
      cases hp
      exact lv_tableOut hx hb hd q (Int.toNat_of_nonneg hw1).symm kk
    · next q =>
      obtain ⟨off, ho, rfl⟩ := Option.map_eq_some_iff.mp hp
      have hm : 0 ≤ (pc : Int) + off := by
        have := List.all_eq_true.mp hw2 off (Array.mem_toList_iff.mpr (Array.mem_of_getElem? ho))
        simpa using this
      exact lv_tableIn hx hb hd (fun z => q (Or.inl z)) (fun z => q (Or.inr z)) ho (Int.toNat_of_nonneg hm).symm kk
  · cases hp
theorem rt_st {ins : Instr} {a : Nat} {st : St} {r : Option Vl} {C : Prop} (hp : rt ins a st = some (r, C)) : st = r.toList := by
  unfold rt at hp
  split at hp
  · split at hp <;> cases hp <;> rfl
  · cases hp
    rfl
  · cases hp
    rfl
  · cases hp
theorem so_rt (X : Nat × (Nat → Int32)) (D : va_G) (l : Launch) : Rrt (PW X D l) := by
  intro y pc L st h r ins len a b C hc hp hC
  refine ⟨Nat.le_refl _, Nat.le_refl _, ?_⟩
  intro p e R s m args below meth c A Z F hf hlo H locs cells slots ad ca nms tys ls hW hS hSC hL hLn hoL hoS hcs hss K
  have e1 := rt_st hp
  have k := K pc ls H locs ad ca nms tys ⟨ins, len, a, b, st, C, hc, hp, hC⟩ hW hS (Ext_rf nms ad) (fun v hv => hoS v (by rw [e1, hv]; exact List.mem_singleton.mpr rfl)) hL.1
  rw [Nat.sub_self, Nat.sub_self, Nat.add_zero, Nat.add_zero] at k
  rw [e1]
  exact k
/-- what a method's contract says of its end -/
def Qm (D : va_G) (r1 : Option Vl) (h h1 : Hp) (ad : Nm → Nat) (ca : Nm → ClassId) (nms : List Nm) (sz : Nat) : Array Value → State → Outcome → State → Prop := fun _ st0 oc t =>
  (∃ (ad1 : Nm → Nat) (ca1 : Nm → ClassId) (nms1 : List Nm) (tys1 : List (ClassId × FieldType)), oc = .returned (r1.map (rl ad1)) ∧ Ext nms nms1 ad ad1 ∧ (∀ v, r1 = some v → okV nms1 v) ∧ va_P D vwCl (wso h1 ad1 ca1 nms1) t.heap ∧ va_D (va_A (wso h ad ca nms) sz) (wso h1 ad1 ca1 nms1) ∧ va_K D vwCl tys1 t ∧ (∀ n, n ∈ nms1 ↔ live h1 n) ∧ (∀ n ∈ nms1, 100 ≤ kd n.1 → ∃ t0 : Nat, tys1[t0]? = some (ca1 n, tyA (kd n.1))) ∧ (∀ n k m, hpR h1 n k = some m → m ∈ nms1) ∧ (∀ n, kd n.1 = 101 → ∀ j, fits .byte (.int (hpI h1 n j)) = true)) ∧ va_F (va_A (wso h ad ca nms) sz) st0 t
def Bm (D : va_G) (h : Hp) (ad : Nm → Nat) (ca : Nm → ClassId) (nms : List Nm) (tys : List (ClassId × FieldType)) (sz : Nat) : State → Prop := fun U => U.heap.size = sz ∧ va_P D vwCl (wso h ad ca nms) U.heap ∧ va_K D vwCl tys U ∧ va_D (fun _ => True) (wso h ad ca nms) ∧ Wx U
theorem Wx_moved {u U : State} (hvm : u.WarmedH U.vm) (h : Wx u) : Wx U := ⟨fun c hc => va_AO.moved hvm.alike (h.1 c hc), va_Nw.warmC hvm h.2⟩
theorem met_of {X : Nat × (Nat → Int32)} {D : va_G} {l : Launch} {a : Nat} {as : List Vl} {h : Hp} {r1 : Option Vl} {h1 : Hp} (k1 : PW X D l a 0 (ent (mlo a) as) [] h r1 h1) (ha : a ≠ 133) (hpl : plainName (yNm a).cls = true) (hcl : (yNm a).cls = yOw a) (hni : yIn a = true → (yNm a).name = "<init>") (hsp : (spr as).length ≤ mlo a)
    {ad : Nm → Nat} {ca : Nm → ClassId} {nms : List Nm} {tys : List (ClassId × FieldType)} (sz : Nat) (w4 : ∀ n, n ∈ nms ↔ live h n) (w5 : ∀ n ∈ nms, 100 ≤ kd n.1 → ∃ t0 : Nat, tys[t0]? = some (ca n, tyA (kd n.1))) (w6 : ∀ n k m, hpR h n k = some m → m ∈ nms) (w7 : ∀ n, kd n.1 = 101 → ∀ j, fits .byte (.int (hpI h n j)) = true) (hos : okS nms as) :
    Met l (yNm a) (wsy a) ({ frames := yRk a, cells := hpN h1 - hpN h, slots := hpS h1 - hpS h, locals := yLo a }) (va_Pc (as.map (rl ad)) (Bm D h ad ca nms tys sz)) (Qm D r1 h h1 ad ca nms sz) (hpN h1 - hpN h) (hpS h1 - hpS h) (va_A (wso h ad ca nms) sz) := by
  refine Met.ofW (cc := yBy a) (maxL := mlo a) (ret := yRt a) hpl rfl ?_
  intro p e s m args below meth c s₁ B hml hv
  obtain ⟨rfl, hsz, hP, hK, hD0, hWx⟩ := hv
  have hx := B.exec
  have hb := B.bytes
  have hr := B.returns
  have hts := atoms_spec (ws := wsy a) B.pre
  have hown : s.vm.findClass (yNm a).cls = some m.cls := findClass_of_methodNamed B.named
  have hlocks := B.notSynchronized
  have hnm := (name_of_methodNamed B.named B.method).1
  subst hsz
  have hD := hD0.self (sz := s.heap.size)
  rw [lg_entry_eq]
  refine k1.2.2 p e _ s m _ below meth c (va_A (wso h ad ca nms) s.heap.size) _ ⟨hx, hb, hml, by rw [← hcl]; exact hown, fun w hw => hts w (List.mem_cons_of_mem _ hw), fun hi => by rw [hnm]; exact hni hi, fun q hq => Or.inr hq, hWx⟩ (Nat.le_refl _) (Nat.le_refl _) s.heap [] 0 0 ad ca nms tys _ ⟨hP, hD, hK, w4, w5, w6, w7⟩ va_S.rf (fun q => absurd q ha) (LR_entry ad hsp) (ent_len hsp) (ent_ok hos) (fun v hv => by cases hv) (by rw [Nat.zero_add]; exact Nat.le_refl _) (by rw [Nat.zero_add]; exact Nat.le_refl _) ?_
  intro pc1 ls1 H1 locs1 ad1 ca1 nms1 tys1 hRT hW1 hS1 hE hok hls
  obtain ⟨ins, len, a', b', st, C, hc, hp, hC⟩ := hRT
  obtain ⟨hd, hw⟩ := cd_ok hc
  rw [Nat.zero_add, Nat.zero_add]
  have hq : ∀ t : State, t.heap = H1 → s.WarmedH t.vm → Qm D r1 h h1 ad ca nms s.heap.size (as.map (rl ad)).toArray s (.returned (r1.map (rl ad1))) t := by
    intro t ht hwm
    obtain ⟨x1, x2, x3, x4, x5, x6, x7⟩ := hW1
    exact ⟨⟨ad1, ca1, nms1, tys1, rfl, hE, hok, by rw [ht]; exact x1, x2, va_K.moved hwm.alike x3, x4, x5, x6, x7⟩, hS1.F ht⟩
  unfold rt at hp
  split at hp
  · rename_i ins0 st0 x
    split at hp
    · cases hp
      obtain ⟨rfl, hrt⟩ := (hw : len = 1 ∧ ((_ ∧ yRt a = some .int) ∨ (_ ∧ yRt a = some .boolean)))
      rcases hrt with ⟨-, hrt⟩ | ⟨q, -⟩
      · exact W.iret (v := x) hx hb (by rw [hr, hrt]) hq hS1.2.2 hd
      · cases q
    · next q =>
      cases hp
      obtain ⟨rfl, hrt⟩ := (hw : len = 1 ∧ ((a' = 0 ∧ yRt a = some .int) ∨ (a' = 1 ∧ yRt a = some .boolean)))
      rcases hrt with ⟨z, -⟩ | ⟨-, hrt⟩
      · exact absurd z q
      · exact W.zret (v := x) (ty := .boolean) hx hb (by rw [hr, hrt]) (nar_bool hC).1 hq hS1.2.2 hd
  · rename_i ins0 st0 o
    cases hp
    obtain ⟨rfl, t, hrt, hrr⟩ := (hw : len = 1 ∧ ∃ t, yRt a = some t ∧ ((∃ n, t = .object n) ∨ ∃ t2, t = .array t2))
    refine W.aret (rt := t) hx hb (by rw [hr, hrt]) hrr ?_ hq hS1.2.2 hd
    cases o with
    | none => exact Or.inl rfl
    | some n => exact Or.inr ⟨ad1 n, rfl⟩
  · cases hp
    obtain ⟨rfl, hrt⟩ := (hw : len = 1 ∧ yRt a = none)
    exact W.vret hx hb (by rw [hr, hrt]) hq hS1.2.2 hd
  · cases hp
theorem spl_eq (b : Nat) (st : St) : st = (spl b st).1.reverse ++ (spl b st).2 := by
  unfold spl
  rw [List.reverse_reverse, List.take_append_drop]
theorem so_ca (X : Nat × (Nat → Int32)) (D : va_G) (l : Launch) : Rca (PW X D l) := by
  intro y pc L st h r h' ins a b r1 h1 hc hi ha hbl hcat hspr hrok k1 k2
  obtain ⟨hd, hw⟩ := cd_ok hc
  refine ⟨Nat.le_trans k1.1 k2.1, Nat.le_trans k1.2.1 k2.2.1, ?_⟩
  intro p e R s m args below meth c A Z F hf hlo H locs cells slots ad ca nms tys ls hW hS hSC hL hLn hoL hoS hcs hss K
  have kk := k2.2.2 p e R s m args below meth c A Z F hf hlo
  obtain ⟨hx, hb, hml, hown, hts, hin, hA, hwx⟩ := F
  have m1 := k1.1
  have m2 := k1.2.1
  have m3 := k2.1
  have m4 := k2.2.1
  have hst := spl_eq b st
  have hlen : (spl b st).1.length = b := by
    unfold spl
    rw [List.length_reverse, List.length_take]
    omega
  generalize hg1 : (spl b st).1 = as at *
  generalize hg2 : (spl b st).2 = rest at *
  have hoa : okS nms as := fun v hv => hoS v (by rw [hst]; exact List.mem_append_left _ (List.mem_reverse.mpr hv))
  have hor : okS nms rest := fun v hv => hoS v (by rw [hst]; exact List.mem_append_right _ hv)
  obtain ⟨w1, w2, w3, w4, w5, w6, w7⟩ := hW
  have hroom : 2 * (F0 m pc ls (st.map (rl ad))).monitorRoom + ((rest.map (rl ad)).map fun v => v.category).sum ≤ 8 := lv_room (by rw [rl_cats]; exact hcat)
  have hcf : CallFix p m c (yBy y) (mlo y) s args bw (yOw y) := ⟨hx, hb, hml, hown, hts⟩
  have blind : FrameBlind (va_Pc (as.map (rl ad)) (Bm D h ad ca nms tys H.size)) := fun a0 U g mk q => by
    obtain ⟨q0, q1, qP, qK, qD, qW⟩ := q
    exact ⟨q0, q1, qP, va_K.moved (u := U) (U := U.calling g mk a0) (Vm.Alike.refl U.vm) qK, qD, fun c hc => va_AO.moved (u := U) (U := U.calling g mk a0) (Vm.Alike.refl U.vm) (qW.1 c hc), va_Nw.same (u := U) (U := U.calling g mk a0) rfl rfl qW.2⟩
  have pre : ∀ U : State, U.heap = H → s.WarmedH U.vm → va_Pc (as.map (rl ad)) (Bm D h ad ca nms tys H.size) (as.map (rl ad)).toArray U := fun U hU hWm =>
    ⟨rfl, by rw [hU], by rw [hU]; exact w1, va_K.moved hWm.alike w3, w2.weaken (fun _ _ _ _ => trivial), Wx_moved hWm hwx⟩
  -- behind the call
  have fin : va_Run p l e R s m args below meth c H locs cells slots (hpN h1 - hpN h) (hpS h1 - hpS h) (F0 m pc ls (st.map (rl ad))) (rest.map (rl ad)) (Qm D r1 h h1 ad ca nms H.size (as.map (rl ad)).toArray) (va_A (wso h ad ca nms) H.size) → W p l e R s m args below meth c H locs cells slots Z (F0 m pc ls (st.map (rl ad))) := by
    intro hr T hT XX
    obtain ⟨v, st₀, t, T', LL, h0, X', hLL, e1, e2, ⟨⟨ad1, ca1, nms1, tys1, hv, hE, hok, x1, x2, x3, x4, x5, x6, x7⟩, hz, hkp⟩, stp⟩ := hr T hT XX
    cases hv
    rw [h0] at hz hkp
    have hAA : ∀ q : Nat, va_A (wso h ad ca nms) H.size q → A q := by
      intro q hq
      rcases hq with ⟨k, ee, hq⟩ | hq
      · exact w2.2 k (q, ee) hq
      · exact hA q (Nat.le_trans hS.1 hq)
    have hS2 : va_S A s.heap t.heap (locs ++ LL) := by
      refine ⟨Nat.le_trans hS.1 hz, fun q g1 g2 => ?_, fun q hq => ?_⟩
      · rw [hkp q (Nat.lt_of_lt_of_le g1 hS.1) (fun z => g2 (hAA q z))]
        exact hS.2.1 q g1 g2
      · rcases List.mem_append.mp hq with g | g
        · exact hS.2.2 q g
        · exact hAA _ (hLL q g)
    have hvm : s.vm.Alike t.vm := by
      rw [← e2]
      exact X'.warmed.alike
    have ec : cells + (hpN h1 - hpN h) + (hpN h' - hpN h1) = cells + (hpN h' - hpN h) := by omega
    have es : slots + (hpS h1 - hpS h) + (hpS h' - hpS h1) = slots + (hpS h' - hpS h) := by omega
    have hor1 : okS nms1 (r1.toList ++ rest) := by
      intro v hv
      rcases List.mem_append.mp hv with g | g
      · cases r1 with
        | none => cases g
        | some v1 =>
          rw [List.mem_singleton.mp g]
          exact hok v1 rfl
      · exact okV_ext hE (hor v g)
    have kf := kk t.heap (locs ++ LL) (cells + (hpN h1 - hpN h)) (slots + (hpS h1 - hpS h)) ad1 ca1 nms1 tys1 ls ⟨x1, x2.weaken (fun k q _ g => hAA q.1 g), va_K.moved hvm.symm x3, x4, x5, x6, x7⟩ hS2 (fun hy => by rw [hE.2 (98, 0) (Or.inr rfl)]; exact hSC hy) (LR_ext hE hoL hL) hLn (fun v hv => okV_ext hE (hoL v hv)) hor1 (by rw [ec]; exact hcs) (by rw [es]; exact hss) (by
      intro pc1 ls1 H1 locs1 ad2 ca2 nms2 tys2 g1 g2 g3 g4 g5 g6
      rw [ec, es]
      exact K pc1 ls1 H1 locs1 ad2 ca2 nms2 tys2 g1 g2 g3 (Ext_tr hE g4) g5 g6)
    have est : (r1.map (rl ad1)).toList ++ rest.map (rl ad) = (r1.toList ++ rest).map (rl ad1) := by
      rw [List.map_append, rls_ext hE hor]
      cases r1 <;> rfl
    obtain ⟨t2, a1, b1⟩ := kf T' e1 X'
    refine ⟨t2, stp t2 ?_, b1⟩
    rw [est]
    exact a1
  have hfit : cells + (hpN h1 - hpN h) ≤ R.cells ∧ slots + (hpS h1 - hpS h) ≤ R.slots := ⟨by omega, by omega⟩
  have common : ∀ (i np : Nat), okv y i a np → CallB R s args (yOw y) i (yNm a) (yBy a) (mlo a) (yRt a) (wsy a) ({ frames := yRk a, cells := hpN h1 - hpN h, slots := hpS h1 - hpS h, locals := yLo a }) (hpN h1 - hpN h) (hpS h1 - hpS h) np ∧ Met l (yNm a) (wsy a) ({ frames := yRk a, cells := hpN h1 - hpN h, slots := hpS h1 - hpS h, locals := yLo a }) (va_Pc (as.map (rl ad)) (Bm D h ad ca nms tys H.size)) (Qm D r1 h h1 ad ca nms H.size) (hpN h1 - hpN h) (hpS h1 - hpS h) (va_A (wso h ad ca nms) H.size) := by
    intro i np ho
    obtain ⟨o1, o2, o3, o4, o5, o6, o7, o8, o9⟩ := ho
    refine ⟨callB_of np hts (fun w hw => ?_) rfl rfl rfl (hts _ (bw_of o2)) (hts _ (bw_of o1)) o4 ⟨Nat.le_trans o5 hf, Nat.le_trans o6 hlo⟩, met_of k1 (by omega) o7 o8 o9 hspr H.size w4 w5 w6 w7 hoa⟩
    rcases List.mem_cons.mp hw with g | g
    · rw [g]
      exact ⟨bw_of o3, bw_good (bw_of o3)⟩
    · exact ⟨g, bw_good g⟩
  cases ins <;> first | (cases hi; done) | skip
  · -- special
    rename_i i
    obtain ⟨-, hw, -⟩ := (hw : 3 = 3 ∧ (a < 1000 → okv y i a (b - 1) ∧ 1 ≤ b ∧ iw (.instanceMethod (yNm a)) ∧ (yNm a).name = "<init>" ∧ yRt a = none ∧ (yNm a).cls = cnm (mow a)) ∧ _)
    obtain ⟨ho, hb1, hk1, hk2, hk3, hk4⟩ := hw (by omega)
    obtain ⟨hcb, hM⟩ := common i (b - 1) ho
    rw [hk3] at hcb
    match as, hrok with
    | [], hrok => exact absurd hrok (by intro q; exact q)
    | .inl _ :: _, hrok => exact absurd hrok (by intro q; exact q)
    | .inr (.inl _) :: _, hrok => exact absurd hrok (by intro q; exact q)
    | .inr (.inr none) :: _, hrok => exact absurd hrok (by intro q; exact q)
    | .inr (.inr (some n)) :: as1, hrok =>
      refine fin (va_runI (As := as1.map (rl ad)) (b := ad n) hcf hM ⟨hcb, hk2, hts _ (bw_of hk1)⟩ ⟨blind, pre⟩ rfl ?_ (by show ls.size = _; exact hL.1) ?_ hroom hd hfit)
      · rw [List.length_map]
        rw [List.length_cons] at hlen
        omega
      · show st.map (rl ad) = _
        rw [hst]
        simp only [List.reverse_cons, List.map_append, List.map_reverse, List.append_assoc, List.map_cons, List.map_nil]
        rfl
  · -- static
    rename_i i
    obtain ⟨-, hw, -⟩ := (hw : 3 = 3 ∧ (a < 1000 → okv y i a b ∧ iw (.static (yNm a))) ∧ _)
    obtain ⟨ho, hk1⟩ := hw (by omega)
    obtain ⟨hcb, hM⟩ := common i b ho
    refine fin (va_runS (As := as.map (rl ad)) hcf hM ⟨hcb, hts _ (bw_of hk1)⟩ ⟨blind, pre⟩ rfl (by rw [List.length_map]; exact hlen) (by show ls.size = _; exact hL.1) ?_ hroom hd hfit)
    show st.map (rl ad) = _
    rw [hst, List.map_append, List.map_reverse]
  · -- virtual
    rename_i i
    obtain ⟨-, hw, -⟩ := (hw : 3 = 3 ∧ (a < 1000 → okv y i a (b - 1) ∧ 1 ≤ b ∧ iw (.instanceMethod (yNm a)) ∧ iw (.selects (yNm a).cls (yNm a) (yNm a)) ∧ (yNm a).cls = cnm (mow a) ∧ mow a < 7) ∧ _)
    obtain ⟨ho, hb1, hk1, hk2, hk3, hk4⟩ := hw (by omega)
    obtain ⟨hcb, hM⟩ := common i (b - 1) ho
    match as, hrok with
    | [], hrok => exact absurd hrok (by intro q; exact q)
    | .inl _ :: _, hrok => exact absurd hrok (by intro q; exact q)
    | .inr (.inl _) :: _, hrok => exact absurd hrok (by intro q; exact q)
    | .inr (.inr none) :: _, hrok => exact absurd hrok (by intro q; exact q)
    | .inr (.inr (some n)) :: as1, hrok =>
      obtain ⟨hl, hkd⟩ := (hrok : live h n ∧ kd n.1 = mow a)
      obtain ⟨q0, hq⟩ := List.getElem?_of_mem ((w4 n).mpr hl)
      have he := wso_at (h := h) (ad := ad) (ca := ca) hq
      rw [cell_obj hkd hk4] at he
      have hrecv := va_recv w3 w1 (cl_at _ hk4) he
      refine fin (va_runV (As := as1.map (rl ad)) (b := ad n) (C := (yNm a).cls) hcf hM ⟨hcb, hts _ (bw_of hk1), hts _ (bw_of hk2)⟩ ⟨blind, by rw [hk3]; exact hrecv, pre⟩ rfl ?_ (by show ls.size = _; exact hL.1) ?_ hroom hd hfit)
      · rw [List.length_map]
        rw [List.length_cons] at hlen
        omega
      · show st.map (rl ad) = _
        rw [hst]
        simp only [List.reverse_cons, List.map_append, List.map_reverse, List.append_assoc, List.map_cons, List.map_nil]
        rfl
/-- every run of the small machine is one of the real machine -/
theorem so_all (X : Nat × (Nat → Int32)) (D : va_G) (l : Launch) : Clo X (PW X D l) := ⟨so_pu X D l, so_op X D l, so_bT X D l, so_bF X D l, so_sw X D l, so_ca X D l, so_rt X D l⟩
theorem so_ev {X : Nat × (Nat → Int32)} {y pc : Nat} {L : Ls} {st : St} {h : Hp} {r : Option Vl} {h' : Hp} (hE : Ev X y pc L st h r h') (D : va_G) (l : Launch) : PW X D l y pc L st h r h' := hE _ (so_all X D l)
end
section
/-! Rows by which the small machine's methods are walked. -/
def slen (t : Nat) : Nat := mc_len.getD t 0
def cntOf (nl nf np t : Nat) : Nat := if t < 7 then 1 else if t < 18 then nl else if t < 20 then np else if t < 22 then nf else if t < 61 then 1 else 0
/-- what stands: so many lines, frames, pieces; every reference leads where it should; every row has its length -/
def WF (h : Hp) (nl nf np : Nat) : Prop := (∀ t, hpC h t = cntOf nl nf np t) ∧ (∀ t i k, i < hpC h t → fty (kd t) k = 2 → hpR h (t, i) k = some (srf (kd t) k, i)) ∧ (∀ t i, i < hpC h t → slen t ≠ 0 → hpL h (t, i) = slen t) ∧ (∀ k, k < nl → hpR h (1, 0) k = some (7, k)) ∧ (∀ k, k < nf → hpR h (2, 0) k = some (20, k)) ∧ (∀ k, k < np → hpR h (3, 0) k = some (18, k)) ∧ nl ≤ 8 ∧ nf ≤ 300 ∧ np ≤ 3000
theorem wl {h : Hp} {nl nf np t i : Nat} (hw : WF h nl nf np) (hi : i < cntOf nl nf np t) : live h (t, i) := by
  show i < hpC h t
  rw [hw.1]
  exact hi
theorem wr {h : Hp} {nl nf np t i k : Nat} (hw : WF h nl nf np) (hi : i < cntOf nl nf np t) (hf : fty (kd t) k = 2) : hpR h (t, i) k = some (srf (kd t) k, i) := hw.2.1 t i k (wl hw hi) hf
theorem wn {h : Hp} {nl nf np t i : Nat} (hw : WF h nl nf np) (hi : i < cntOf nl nf np t) (hs : slen t ≠ 0) : hpL h (t, i) = slen t := hw.2.2.1 t i (wl hw hi) hs
theorem nat_nI {k : Nat} (hk : k < 2147483648) : nat (nI k) = k := nI_clamp hk
theorem inb_nI {k n : Nat} (hk : k < n) (hn : n < 2147483648) : inb (nI k) n := ⟨nI_pos (by omega), by rw [nI_clamp (by omega)]; exact hk⟩
section WR
variable {X : Nat × (Nat → Int32)} {y pc : Nat} {L : Ls} {st : St} {h : Hp} {Q : Option Vl → Hp → Prop} {ins : Instr} {len a b : Nat}
theorem w_gI {t i ix : Nat} (hc : cd y pc = some (.getfield ix, len, a, b)) (ho : op X (.getfield ix) a b (vR (some (t, i)) :: st) h = some (vI (hpI h (t, i) b) :: st, h, live h (t, i) ∧ kd t = a)) (hl : live h (t, i)) (hk : kd t = a) (k : wp X y (pc + len) L (vI (hpI h (t, i) b) :: st) h Q) : wp X y pc L (vR (some (t, i)) :: st) h Q := w_op hc ho ⟨hl, hk⟩ k
/-- an int field whose value is known -/
theorem w_gV {t i ix : Nat} (v : Int32) (hc : cd y pc = some (.getfield ix, len, a, b)) (ho : op X (.getfield ix) a b (vR (some (t, i)) :: st) h = some (vI (hpI h (t, i) b) :: st, h, live h (t, i) ∧ kd t = a)) (hl : live h (t, i)) (hk : kd t = a) (hv : hpI h (t, i) b = v) (k : wp X y (pc + len) L (vI v :: st) h Q) : wp X y pc L (vR (some (t, i)) :: st) h Q := by
  subst hv
  exact w_op hc ho ⟨hl, hk⟩ k
theorem w_gR {t i ix : Nat} (tgt : Nat) (hc : cd y pc = some (.getfield ix, len, a, b)) (ho : op X (.getfield ix) a b (vR (some (t, i)) :: st) h = some (vR (some (tgt, i)) :: st, h, live h (t, i) ∧ kd t = a ∧ hpR h (t, i) b = some (tgt, i))) (hl : live h (t, i)) (hk : kd t = a) (hr : hpR h (t, i) b = some (tgt, i)) (k : wp X y (pc + len) L (vR (some (tgt, i)) :: st) h Q) : wp X y pc L (vR (some (t, i)) :: st) h Q := w_op hc ho ⟨hl, hk, hr⟩ k
theorem w_pI {t i ix : Nat} {v : Int32} (hc : cd y pc = some (.putfield ix, len, a, b)) (ho : op X (.putfield ix) a b (vI v :: vR (some (t, i)) :: st) h = some (st, setI h (t, i) b v, live h (t, i) ∧ kd t = a)) (hl : live h (t, i)) (hk : kd t = a) (k : wp X y (pc + len) L st (setI h (t, i) b v) Q) : wp X y pc L (vI v :: vR (some (t, i)) :: st) h Q := w_op hc ho ⟨hl, hk⟩ k
theorem w_pB {t i ix : Nat} {v : Int32} (hc : cd y pc = some (.putfield ix, len, a, b)) (ho : op X (.putfield ix) a b (vI v :: vR (some (t, i)) :: st) h = some (st, setI h (t, i) b v, live h (t, i) ∧ kd t = a ∧ (v = 0 ∨ v = 1))) (hl : live h (t, i)) (hk : kd t = a) (hv : v = 0 ∨ v = 1) (k : wp X y (pc + len) L st (setI h (t, i) b v) Q) : wp X y pc L (vI v :: vR (some (t, i)) :: st) h Q := w_op hc ho ⟨hl, hk, hv⟩ k
theorem w_pR {t i ix : Nat} {m : Nm} (hc : cd y pc = some (.putfield ix, len, a, b)) (ho : op X (.putfield ix) a b (vR (some m) :: vR (some (t, i)) :: st) h = some (st, setR h (t, i) b (some m), live h (t, i) ∧ kd t = a ∧ live h m)) (hl : live h (t, i)) (hk : kd t = a) (hm : live h m) (k : wp X y (pc + len) L st (setR h (t, i) b (some m)) Q) : wp X y pc L (vR (some m) :: vR (some (t, i)) :: st) h Q := w_op hc ho ⟨hl, hk, hm⟩ k
/-- an int out of a row, at a place that is told as a number -/
theorem w_ai {t i N : Nat} {x : Int32} (j : Nat) (hc : cd y pc = some (.iaload, len, 0, b)) (hl : live h (t, i)) (hk : kd t = 100) (hN : hpL h (t, i) = N) (hN2 : N < 2147483648) (hx : x = nI j) (hj : j < N) (k : wp X y (pc + len) L (vI (hpI h (t, i) j) :: st) h Q) : wp X y pc L (vI x :: vR (some (t, i)) :: st) h Q := by
  subst hx hN
  refine w_op hc (st' := vI (hpI h (t, i) (nat (nI j))) :: st) rfl ⟨hl, hk, inb_nI hj hN2⟩ ?_
  rw [nat_nI (by omega)]
  exact k
theorem w_ab {t i N : Nat} {x : Int32} (j : Nat) (hc : cd y pc = some (.baload, len, a, b)) (hl : live h (t, i)) (hk : a = 0 ∧ kd t = 101 ∨ a = 1 ∧ kd t = 102) (hN : hpL h (t, i) = N) (hN2 : N < 2147483648) (hx : x = nI j) (hj : j < N) (k : wp X y (pc + len) L (vI (hpI h (t, i) j) :: st) h Q) : wp X y pc L (vI x :: vR (some (t, i)) :: st) h Q := by
  subst hx hN
  rcases hk with ⟨rfl, hk⟩ | ⟨rfl, hk⟩
  · refine w_op hc (st' := vI (hpI h (t, i) (nat (nI j))) :: st) rfl ⟨hl, hk, inb_nI hj hN2⟩ ?_
    rw [nat_nI (by omega)]
    exact k
  · refine w_op hc (st' := vI (hpI h (t, i) (nat (nI j))) :: st) rfl ⟨hl, hk, inb_nI hj hN2⟩ ?_
    rw [nat_nI (by omega)]
    exact k
theorem w_aq {t i N : Nat} {x : Int32} (j tgt : Nat) (hc : cd y pc = some (.aaload, len, a, b)) (he : ety t = tgt) (hl : live h (t, i)) (hk : kd t = 110 + kd (ety t)) (hk2 : kd (ety t) < 10) (hN : hpL h (t, i) = N) (hN2 : N < 2147483648) (hx : x = nI j) (hj : j < N) (hr : hpR h (t, i) j = some (tgt, j)) (k : wp X y (pc + len) L (vR (some (tgt, j)) :: st) h Q) : wp X y pc L (vI x :: vR (some (t, i)) :: st) h Q := by
  subst hx hN he
  refine w_op hc (st' := vR (some (ety t, nat (nI j))) :: st) rfl ⟨hl, hk, hk2, inb_nI hj hN2, ?_⟩ ?_
  · rw [nat_nI (by omega)]
    exact hr
  · rw [nat_nI (by omega)]
    exact k
theorem w_si {t i N : Nat} {x v : Int32} (j : Nat) (hc : cd y pc = some (.iastore, len, a, b)) (hl : live h (t, i)) (hk : kd t = 100) (hN : hpL h (t, i) = N) (hN2 : N < 2147483648) (hx : x = nI j) (hj : j < N) (k : wp X y (pc + len) L st (setI h (t, i) j v) Q) : wp X y pc L (vI v :: vI x :: vR (some (t, i)) :: st) h Q := by
  subst hx hN
  refine w_op hc (h1 := setI h (t, i) (nat (nI j)) v) rfl ⟨hl, hk, inb_nI hj hN2⟩ ?_
  rw [nat_nI (by omega)]
  exact k
theorem w_sb {t i N : Nat} {x v : Int32} (j : Nat) (hc : cd y pc = some (.bastore, len, 0, b)) (hl : live h (t, i)) (hk : kd t = 101) (hN : hpL h (t, i) = N) (hN2 : N < 2147483648) (hx : x = nI j) (hj : j < N) (k : wp X y (pc + len) L st (setI h (t, i) j v.toInt8.toInt32) Q) : wp X y pc L (vI v :: vI x :: vR (some (t, i)) :: st) h Q := by
  subst hx hN
  refine w_op hc (h1 := setI h (t, i) (nat (nI j)) v.toInt8.toInt32) rfl ⟨hl, hk, inb_nI hj hN2⟩ ?_
  rw [nat_nI (by omega)]
  exact k
theorem w_sz {t i N : Nat} {x v : Int32} (j : Nat) (hc : cd y pc = some (.bastore, len, 1, b)) (hl : live h (t, i)) (hk : kd t = 102) (hN : hpL h (t, i) = N) (hN2 : N < 2147483648) (hx : x = nI j) (hj : j < N) (hv : v = 0 ∨ v = 1) (k : wp X y (pc + len) L st (setI h (t, i) j v) Q) : wp X y pc L (vI v :: vI x :: vR (some (t, i)) :: st) h Q := by
  subst hx hN
  refine w_op hc (h1 := setI h (t, i) (nat (nI j)) v) rfl ⟨hl, hk, inb_nI hj hN2, hv⟩ ?_
  rw [nat_nI (by omega)]
  exact k
theorem w_sq {t i N : Nat} {x : Int32} {m : Nm} (j : Nat) (hc : cd y pc = some (.aastore, len, a, b)) (hl : live h (t, i)) (hk : kd t = 110 + kd m.1) (hk2 : kd m.1 < 10) (hm : live h m) (hN : hpL h (t, i) = N) (hN2 : N < 2147483648) (hx : x = nI j) (hj : j < N) (k : wp X y (pc + len) L st (setR h (t, i) j (some m)) Q) : wp X y pc L (vR (some m) :: vI x :: vR (some (t, i)) :: st) h Q := by
  subst hx hN
  refine w_op hc (h1 := setR h (t, i) (nat (nI j)) (some m)) rfl ⟨hl, hk, hk2, hm, inb_nI hj hN2⟩ ?_
  rw [nat_nI (by omega)]
  exact k
/-- a script's int -/
theorem w_sc {x : Int32} (j : Nat) (hc : cd y pc = some (.iaload, len, 1, b)) (hX : X.1 < 2147483648) (hx : x = nI j) (hj : j < X.1) (k : wp X y (pc + len) L (vI (X.2 j) :: st) h Q) : wp X y pc L (vI x :: vR (some (98, 0)) :: st) h Q := by
  subst hx
  refine w_op hc (st' := vI (X.2 (nat (nI j))) :: st) rfl ⟨rfl, inb_nI hj hX⟩ ?_
  rw [nat_nI (by omega)]
  exact k
theorem w_eq {x z : Int32} {off : Int} (hc : cd y pc = some (.if_icmp .eq off, 3, a, b)) (k1 : x = z → wp X y a L st h Q) (k2 : ¬ x = z → wp X y (pc + 3) L st h Q) : wp X y pc L (vI z :: vI x :: st) h Q := w_br hc rfl k1 k2
theorem w_ne {x z : Int32} {off : Int} (hc : cd y pc = some (.if_icmp .ne off, 3, a, b)) (k1 : ¬ x = z → wp X y a L st h Q) (k2 : x = z → wp X y (pc + 3) L st h Q) : wp X y pc L (vI z :: vI x :: st) h Q := w_br hc rfl k1 (fun q => k2 (Decidable.not_not.mp q))
theorem w_lt {x z : Int32} {off : Int} (hc : cd y pc = some (.if_icmp .lt off, 3, a, b)) (k1 : x < z → wp X y a L st h Q) (k2 : ¬ x < z → wp X y (pc + 3) L st h Q) : wp X y pc L (vI z :: vI x :: st) h Q := w_br hc rfl k1 k2
theorem w_ge {x z : Int32} {off : Int} (hc : cd y pc = some (.if_icmp .ge off, 3, a, b)) (k1 : z ≤ x → wp X y a L st h Q) (k2 : ¬ z ≤ x → wp X y (pc + 3) L st h Q) : wp X y pc L (vI z :: vI x :: st) h Q := w_br hc rfl k1 k2
theorem w_gt {x z : Int32} {off : Int} (hc : cd y pc = some (.if_icmp .gt off, 3, a, b)) (k1 : z < x → wp X y a L st h Q) (k2 : ¬ z < x → wp X y (pc + 3) L st h Q) : wp X y pc L (vI z :: vI x :: st) h Q := w_br hc rfl k1 k2
theorem w_le {x z : Int32} {off : Int} (hc : cd y pc = some (.if_icmp .le off, 3, a, b)) (k1 : x ≤ z → wp X y a L st h Q) (k2 : ¬ x ≤ z → wp X y (pc + 3) L st h Q) : wp X y pc L (vI z :: vI x :: st) h Q := w_br hc rfl k1 k2
theorem w_eq0 {x : Int32} {off : Int} (hc : cd y pc = some (.ifCond .eq off, 3, a, b)) (k1 : x = 0 → wp X y a L st h Q) (k2 : ¬ x = 0 → wp X y (pc + 3) L st h Q) : wp X y pc L (vI x :: st) h Q := w_br hc rfl k1 k2
theorem w_ne0 {x : Int32} {off : Int} (hc : cd y pc = some (.ifCond .ne off, 3, a, b)) (k1 : ¬ x = 0 → wp X y a L st h Q) (k2 : x = 0 → wp X y (pc + 3) L st h Q) : wp X y pc L (vI x :: st) h Q := w_br hc rfl k1 (fun q => k2 (Decidable.not_not.mp q))
theorem w_lt0 {x : Int32} {off : Int} (hc : cd y pc = some (.ifCond .lt off, 3, a, b)) (k1 : x < 0 → wp X y a L st h Q) (k2 : ¬ x < 0 → wp X y (pc + 3) L st h Q) : wp X y pc L (vI x :: st) h Q := w_br hc rfl k1 k2
theorem w_ge0 {x : Int32} {off : Int} (hc : cd y pc = some (.ifCond .ge off, 3, a, b)) (k1 : 0 ≤ x → wp X y a L st h Q) (k2 : ¬ 0 ≤ x → wp X y (pc + 3) L st h Q) : wp X y pc L (vI x :: st) h Q := w_br hc rfl k1 k2
theorem w_gt0 {x : Int32} {off : Int} (hc : cd y pc = some (.ifCond .gt off, 3, a, b)) (k1 : 0 < x → wp X y a L st h Q) (k2 : ¬ 0 < x → wp X y (pc + 3) L st h Q) : wp X y pc L (vI x :: st) h Q := w_br hc rfl k1 k2
theorem w_le0 {x : Int32} {off : Int} (hc : cd y pc = some (.ifCond .le off, 3, a, b)) (k1 : x ≤ 0 → wp X y a L st h Q) (k2 : ¬ x ≤ 0 → wp X y (pc + 3) L st h Q) : wp X y pc L (vI x :: st) h Q := w_br hc rfl k1 k2
/-- a reference that isn't null -/
theorem w_nn {n : Nm} {off : Int} (hc : cd y pc = some (.ifnonnull off, 3, a, b)) (k : wp X y a L st h Q) : wp X y pc L (vR (some n) :: st) h Q := w_br hc rfl (fun _ => k) (fun q => absurd (by simp) q)
theorem w_nnN {off : Int} (hc : cd y pc = some (.ifnonnull off, 3, a, b)) (k : wp X y (pc + 3) L st h Q) : wp X y pc L (vR none :: st) h Q := w_br hc rfl (fun q => absurd rfl q) (fun _ => k)
theorem w_nu {n : Nm} {off : Int} (hc : cd y pc = some (.ifnull off, 3, a, b)) (k : wp X y (pc + 3) L st h Q) : wp X y pc L (vR (some n) :: st) h Q := w_br hc rfl (fun q => absurd q (by simp)) (fun _ => k)
theorem w_nuN {off : Int} (hc : cd y pc = some (.ifnull off, 3, a, b)) (k : wp X y a L st h Q) : wp X y pc L (vR none :: st) h Q := w_br hc rfl (fun _ => k) (fun q => absurd rfl q)
/-- a call that answers v -/
theorem w_cg {args : List Vl} {st' : St} {P : Hp → Prop} (v : Vl) {E : Ls} (hc : cd y pc = some (ins, 3, a, b)) (hi : isInv ins = true) (ha : a < 133) (hb : b ≤ st.length) (hsp : spl b st = (args, st')) (hw : catS st' ≤ 8) (hsl : (spr args).length ≤ mlo a) (hro : rok h ins a args) (he : ent (mlo a) args = E) (hs : wp X a 0 E [] h (fun r h' => r = some v ∧ P h')) (k : ∀ h', P h' → wp X y (pc + 3) L (v :: st') h' Q) : wp X y pc L st h Q := by
  subst he
  refine w_ca hc hi ha hb hsp hw hsl hro hs (fun r1 h1 q => ?_)
  obtain ⟨rfl, q⟩ := q
  exact k h1 q
/-- a call that answers v and changes nothing -/
theorem w_cp {args : List Vl} {st' : St} (v : Vl) {E : Ls} (hc : cd y pc = some (ins, 3, a, b)) (hi : isInv ins = true) (ha : a < 133) (hb : b ≤ st.length) (hsp : spl b st = (args, st')) (hw : catS st' ≤ 8) (hsl : (spr args).length ≤ mlo a) (hro : rok h ins a args) (he : ent (mlo a) args = E) (hs : wp X a 0 E [] h (fun r h' => r = some v ∧ h' = h)) (k : wp X y (pc + 3) L (v :: st') h Q) : wp X y pc L st h Q :=
  w_cg v hc hi ha hb hsp hw hsl hro he hs (fun h' q => by rw [q]; exact k)
/-- a call that answers nothing -/
theorem w_cv {args : List Vl} {st' : St} {P : Hp → Prop} {E : Ls} (hc : cd y pc = some (ins, 3, a, b)) (hi : isInv ins = true) (ha : a < 133) (hb : b ≤ st.length) (hsp : spl b st = (args, st')) (hw : catS st' ≤ 8) (hsl : (spr args).length ≤ mlo a) (hro : rok h ins a args) (he : ent (mlo a) args = E) (hs : wp X a 0 E [] h (fun r h' => r = none ∧ P h')) (k : ∀ h', P h' → wp X y (pc + 3) L st' h' Q) : wp X y pc L st h Q := by
  subst he
  refine w_ca hc hi ha hb hsp hw hsl hro hs (fun r1 h1 q => ?_)
  obtain ⟨rfl, q⟩ := q
  exact k h1 q
end WR
section WE
variable {X : Nat × (Nat → Int32)} {y pc : Nat} {L : Ls} {st : St} {h : Hp} {Q : Option Vl → Hp → Prop} {ins : Instr} {len a b : Nat}
/-- a call that answers v, and the heap is H1 then -/
theorem w_cgE {args : List Vl} {st' : St} (v : Vl) (H1 : Hp) {E : Ls} (hc : cd y pc = some (ins, 3, a, b)) (hi : isInv ins = true) (ha : a < 133) (hb : b ≤ st.length) (hsp : spl b st = (args, st')) (hw : catS st' ≤ 8) (hsl : (spr args).length ≤ mlo a) (hro : rok h ins a args) (he : ent (mlo a) args = E) (hs : wp X a 0 E [] h (fun r h' => r = some v ∧ h' = H1)) (k : wp X y (pc + 3) L (v :: st') H1 Q) : wp X y pc L st h Q :=
  w_cg v hc hi ha hb hsp hw hsl hro he hs (fun h' q => by rw [q]; exact k)
/-- a call that answers nothing, and the heap is H1 then -/
theorem w_cvE {args : List Vl} {st' : St} (H1 : Hp) {E : Ls} (hc : cd y pc = some (ins, 3, a, b)) (hi : isInv ins = true) (ha : a < 133) (hb : b ≤ st.length) (hsp : spl b st = (args, st')) (hw : catS st' ≤ 8) (hsl : (spr args).length ≤ mlo a) (hro : rok h ins a args) (he : ent (mlo a) args = E) (hs : wp X a 0 E [] h (fun r h' => r = none ∧ h' = H1)) (k : wp X y (pc + 3) L st' H1 Q) : wp X y pc L st h Q :=
  w_cv hc hi ha hb hsp hw hsl hro he hs (fun h' q => by rw [q]; exact k)
end WE
end
section
/-! The reference's state as numbers: s 0 k its own ints, s j k the k-th place of its row j (the cell (22 + j, 0)). -/
abbrev SS : Type := Nat → Nat → Int32
def gS (h : Hp) : SS := fun j k => hpI h (22 + j, 0) k
def pS (h : Hp) (s : SS) : Hp := (h.1, h.2.1, fun n k => if 22 ≤ n.1 ∧ n.2 = 0 then s (n.1 - 22) k else h.2.2.1 n k, h.2.2.2)
def uS (s : SS) (j k : Nat) (v : Int32) : SS := fun j' k' => if j' = j ∧ k' = k then v else s j' k'
theorem pS_at (h : Hp) (s : SS) (j k : Nat) : hpI (pS h s) (22 + j, 0) k = s j k := by
  show (if 22 ≤ 22 + j ∧ 0 = 0 then s (22 + j - 22) k else _) = _
  rw [if_pos ⟨by omega, rfl⟩, Nat.add_sub_cancel_left]
theorem gS_pS (h : Hp) (s : SS) : gS (pS h s) = s := by
  funext j k
  exact pS_at h s j k
theorem pS_gS (h : Hp) : pS h (gS h) = h := by
  obtain ⟨a, b, c, d⟩ := h
  show (a, b, _, d) = (a, b, c, d)
  congr 3
  funext n k
  by_cases q : 22 ≤ n.1 ∧ n.2 = 0
  · rw [if_pos q]
    show c (22 + (n.1 - 22), 0) k = c n k
    congr 1
    obtain ⟨n1, n2⟩ := n
    obtain ⟨q1, q2⟩ := q
    dsimp only at q1 q2
    subst q2
    rw [show 22 + (n1 - 22) = n1 by omega]
  · rw [if_neg q]
theorem pS_set (h : Hp) (s : SS) (j k : Nat) (v : Int32) : setI (pS h s) (22 + j, 0) k v = pS h (uS s j k v) := by
  obtain ⟨a, b, c, d⟩ := h
  show (a, b, _, d) = (a, b, _, d)
  congr 3
  funext n k'
  obtain ⟨n1, n2⟩ := n
  show (if (n1, n2) = (22 + j, 0) ∧ k' = k then v else if 22 ≤ n1 ∧ n2 = 0 then s (n1 - 22) k' else c (n1, n2) k') = if 22 ≤ n1 ∧ n2 = 0 then uS s j k v (n1 - 22) k' else c (n1, n2) k'
  by_cases q : 22 ≤ n1 ∧ n2 = 0
  · rw [if_pos q, if_pos q]
    unfold uS
    obtain ⟨q1, q2⟩ := q
    subst q2
    have e : ((n1, 0) = (22 + j, 0) ∧ k' = k) ↔ (n1 - 22 = j ∧ k' = k) := by
      rw [Prod.mk.injEq]
      constructor
      · rintro ⟨⟨z, -⟩, w⟩
        exact ⟨by omega, w⟩
      · rintro ⟨z, w⟩
        exact ⟨⟨by omega, rfl⟩, w⟩
    by_cases z : n1 - 22 = j ∧ k' = k
    · rw [if_pos (e.mpr z), if_pos z]
    · rw [if_neg (fun w => z (e.mp w)), if_neg z]
  · rw [if_neg q, if_neg q, if_neg]
    rintro ⟨z, -⟩
    rw [Prod.mk.injEq] at z
    exact q ⟨by omega, z.2⟩
theorem pS_pS (h : Hp) (s t : SS) : pS (pS h s) t = pS h t := by
  obtain ⟨a, b, c, d⟩ := h
  show (a, b, _, d) = (a, b, _, d)
  congr 3
  funext n k
  by_cases q : 22 ≤ n.1 ∧ n.2 = 0
  · rw [if_pos q, if_pos q]
  · rw [if_neg q, if_neg q]
    exact if_neg q
theorem uS_eq (s : SS) (j k : Nat) (v : Int32) : uS s j k v j k = v := if_pos ⟨rfl, rfl⟩
theorem uS_ne (s : SS) {j k : Nat} (v : Int32) {j' k' : Nat} (q : ¬ (j' = j ∧ k' = k)) : uS s j k v j' k' = s j' k' := if_neg q
theorem uS_j (s : SS) {j k : Nat} (v : Int32) {j' : Nat} (k' : Nat) (q : ¬ j' = j) : uS s j k v j' k' = s j' k' := if_neg (fun z => q z.1)
theorem uS_k (s : SS) {j k : Nat} (v : Int32) (j' : Nat) {k' : Nat} (q : ¬ k' = k) : uS s j k v j' k' = s j' k' := if_neg (fun z => q z.2)
theorem nI_mul (a b : Nat) : nI a * nI b = nI (a * b) := by
  unfold nI
  exact (Int32.ofNat_mul a b).symm
theorem nI_sub {a b : Nat} (h : b ≤ a) : nI a - nI b = nI (a - b) := by
  have e : nI a = nI (a - b) + nI b := by rw [nI_add, Nat.sub_add_cancel h]
  rw [e, Int32.add_sub_cancel]
section MR
variable {X : Nat × (Nat → Int32)} {y pc : Nat} {L : Ls} {st : St} {h : Hp} {s : SS} {Q : Option Vl → Hp → Prop} {ins : Instr} {len a b : Nat} {nl nf np : Nat}
theorem wM (hw : WF h nl nf np) (j : Nat) (hj : j < 39) : live (pS h s) (22 + j, 0) := by
  show 0 < hpC h (22 + j)
  rw [hw.1]
  unfold cntOf
  rw [if_neg (by omega), if_neg (by omega), if_neg (by omega), if_neg (by omega), if_pos (by omega)]
  exact Nat.one_pos
theorem m_g {ix : Nat} (hw : WF h nl nf np) (hc : cd y pc = some (.getfield ix, len, 6, b)) (hf : fty 6 b = 0) (k : wp X y (pc + len) L (vI (s 0 b) :: st) (pS h s) Q) : wp X y pc L (vR (some (22, 0)) :: st) (pS h s) Q := by
  refine w_op hc (h1 := pS h s) (st' := vI (hpI (pS h s) (22, 0) b) :: st) (C := live (pS h s) (22, 0) ∧ kd 22 = 6) ?_ ⟨wM hw 0 (by omega), rfl⟩ ?_
  · unfold op
    dsimp only
    rw [hf]
    rfl
  · rw [show hpI (pS h s) (22, 0) b = s 0 b from pS_at h s 0 b]
    exact k
theorem m_gR {ix : Nat} (j : Nat) (hw : WF h nl nf np) (hc : cd y pc = some (.getfield ix, len, 6, b)) (hf : fty 6 b = 2) (hj : srf 6 b = 22 + j) (k : wp X y (pc + len) L (vR (some (22 + j, 0)) :: st) (pS h s) Q) : wp X y pc L (vR (some (22, 0)) :: st) (pS h s) Q := by
  refine w_op hc (h1 := pS h s) (st' := vR (some (srf 6 b, 0)) :: st) (C := live (pS h s) (22, 0) ∧ kd 22 = 6 ∧ hpR (pS h s) (22, 0) b = some (srf 6 b, 0)) ?_ ⟨wM hw 0 (by omega), rfl, ?_⟩ ?_
  · unfold op
    dsimp only
    rw [hf]
    rfl
  · exact wr (t := 22) (i := 0) hw Nat.one_pos hf
  · rw [hj]
    exact k
theorem m_p {ix : Nat} {v : Int32} (hw : WF h nl nf np) (hc : cd y pc = some (.putfield ix, len, 6, b)) (hf : fty 6 b = 0) (k : wp X y (pc + len) L st (pS h (uS s 0 b v)) Q) : wp X y pc L (vI v :: vR (some (22, 0)) :: st) (pS h s) Q := by
  refine w_op hc (st' := st) (h1 := setI (pS h s) (22, 0) b v) (C := live (pS h s) (22, 0) ∧ kd 22 = 6) ?_ ⟨wM hw 0 (by omega), rfl⟩ ?_
  · unfold op
    dsimp only
    rw [hf]
    rfl
  · rw [show setI (pS h s) (22, 0) b v = pS h (uS s 0 b v) from pS_set h s 0 b v]
    exact k
theorem wMN (hw : WF h nl nf np) (j : Nat) (hj : j < 39) (hs : slen (22 + j) ≠ 0) : hpL (pS h s) (22 + j, 0) = slen (22 + j) := by
  refine wn (t := 22 + j) (i := 0) hw ?_ hs
  unfold cntOf
  rw [if_neg (by omega), if_neg (by omega), if_neg (by omega), if_neg (by omega), if_pos (by omega)]
  exact Nat.one_pos
theorem slen_lt (t : Nat) : slen t < 2147483648 := by
  unfold slen
  rw [List.getD_eq_getElem?_getD]
  cases q : mc_len[t]? with
  | none => exact Nat.le_of_ble_eq_true rfl
  | some x =>
    have : mc_len.all (fun x => Nat.blt x 2147483648) = true := by decide +kernel
    exact Nat.le_of_ble_eq_true (List.all_eq_true.mp this x (List.mem_of_getElem? q))
theorem m_ai {x : Int32} (j k : Nat) (hw : WF h nl nf np) (hc : cd y pc = some (.iaload, len, 0, b)) (hk : kd (22 + j) = 100) (hj : j < 39) (hx : x = nI k) (hkl : k < slen (22 + j)) (kk : wp X y (pc + len) L (vI (s j k) :: st) (pS h s) Q) : wp X y pc L (vI x :: vR (some (22 + j, 0)) :: st) (pS h s) Q := by
  refine w_ai k hc (wM hw j hj) hk (wMN hw j hj (by omega)) (slen_lt _) hx hkl ?_
  rw [pS_at]
  exact kk
theorem m_ab {x : Int32} (j k : Nat) (hw : WF h nl nf np) (hc : cd y pc = some (.baload, len, a, b)) (hk : a = 0 ∧ kd (22 + j) = 101 ∨ a = 1 ∧ kd (22 + j) = 102) (hj : j < 39) (hx : x = nI k) (hkl : k < slen (22 + j)) (kk : wp X y (pc + len) L (vI (s j k) :: st) (pS h s) Q) : wp X y pc L (vI x :: vR (some (22 + j, 0)) :: st) (pS h s) Q := by
  refine w_ab k hc (wM hw j hj) hk (wMN hw j hj (by omega)) (slen_lt _) hx hkl ?_
  rw [pS_at]
  exact kk
theorem m_si {x v : Int32} (j k : Nat) (hw : WF h nl nf np) (hc : cd y pc = some (.iastore, len, a, b)) (hk : kd (22 + j) = 100) (hj : j < 39) (hx : x = nI k) (hkl : k < slen (22 + j)) (kk : wp X y (pc + len) L st (pS h (uS s j k v)) Q) : wp X y pc L (vI v :: vI x :: vR (some (22 + j, 0)) :: st) (pS h s) Q := by
  refine w_si k hc (wM hw j hj) hk (wMN hw j hj (by omega)) (slen_lt _) hx hkl ?_
  rw [pS_set]
  exact kk
theorem m_sb {x v : Int32} (j k : Nat) (hw : WF h nl nf np) (hc : cd y pc = some (.bastore, len, 0, b)) (hk : kd (22 + j) = 101) (hj : j < 39) (hx : x = nI k) (hkl : k < slen (22 + j)) (kk : wp X y (pc + len) L st (pS h (uS s j k v.toInt8.toInt32)) Q) : wp X y pc L (vI v :: vI x :: vR (some (22 + j, 0)) :: st) (pS h s) Q := by
  refine w_sb k hc (wM hw j hj) hk (wMN hw j hj (by omega)) (slen_lt _) hx hkl ?_
  rw [pS_set]
  exact kk
theorem m_sz {x v : Int32} (j k : Nat) (hw : WF h nl nf np) (hc : cd y pc = some (.bastore, len, 1, b)) (hk : kd (22 + j) = 102) (hj : j < 39) (hx : x = nI k) (hkl : k < slen (22 + j)) (hv : v = 0 ∨ v = 1) (kk : wp X y (pc + len) L st (pS h (uS s j k v)) Q) : wp X y pc L (vI v :: vI x :: vR (some (22 + j, 0)) :: st) (pS h s) Q := by
  refine w_sz k hc (wM hw j hj) hk (wMN hw j hj (by omega)) (slen_lt _) hx hkl hv ?_
  rw [pS_set]
  exact kk
theorem w_top {x : Int32} (v : Int32) (hv : x = v) (k : wp X y pc L (vI v :: st) h Q) : wp X y pc L (vI x :: st) h Q := by
  subst hv
  exact k
/-- the row of locals in another form -/
theorem w_loc (L' : Ls) (hL : L = L') (k : wp X y pc L' st h Q) : wp X y pc L st h Q := by
  subst hL
  exact k
theorem w_hp (h' : Hp) (hh : h = h') (k : wp X y pc L st h' Q) : wp X y pc L st h Q := by
  subst hh
  exact k
/-- a counter goes on by one -/
theorem w_i1 {i k : Nat} (hc : cd y pc = some (.iinc i 1, len, a, b)) (hl : L[i]? = some (some (vI (nI k)))) (hs : (decide (i < L.length) && okst L i) = true) (kk : wp X y (pc + len) (L.set i (some (vI (nI (k + 1))))) st h Q) : wp X y pc L st h Q := by
  refine w_inc (v := 1) hc hl hs rfl ?_
  rw [nI_1]
  exact kk
end MR
end
section
/-! What the calls do to the reference's numbers, as functions. -/
def szo (s : SS) (p : Int32) : Int32 := if p = -2 then 1 else s 26 (nat p)
/-- a piece's number, or an EMPTY -/
def okp (np : Nat) (p : Int32) : Prop := p = -2 ∨ ∃ k, k < np ∧ p = nI k
def inF (v lo hi : Int32) : Int32 := if lo ≤ v ∧ v ≤ hi then 1 else 0
def wsum (s : SS) (l : Nat) : Nat → Int32
  | 0 => -(s 9 l)
  | n + 1 => wsum s l n + szo s (s 7 (41 * l + n))
def enc (o : Option Nat) : Int32 := match o with
  | none => -9
  | some k => nI k
def refuseF (s : SS) (k : Nat) : SS := uS s 38 k (s 38 k + 1)
def loseF (s : SS) (p l : Nat) : SS := uS (uS (uS s 23 p 2) 30 (8 * p + l) (s 30 (8 * p + l) + 1)) 19 l (s 19 l + 1)
def layF (s : SS) (v : Int32) (l : Nat) : SS := uS (uS s 7 (41 * l + nat (s 8 l)) v) 8 l (s 8 l + 1)
def layOnF (s : SS) (p l : Nat) : SS := uS (uS (uS (uS (layF s (nI p) l) 23 p 1) 28 p (nI l)) 29 p (-1)) 27 p (s 27 p + 1)
def layEF (s : SS) (l : Nat) : SS := uS (layF s (-2) l) 20 l (s 20 l + 1)
def ticksF (s : SS) (p l : Nat) : Int32 := (wsum s l (nat (s 8 l)) + s 26 p + s 2 l - 1) / s 2 l
def betterF (s : SS) (p l m : Nat) : Bool :=
  if s 23 p = 2 ∧ ¬ s 30 (8 * p + l) = s 30 (8 * p + m) then decide (s 30 (8 * p + l) < s 30 (8 * p + m))
  else if ticksF s p l = ticksF s p m then decide (s 18 l < s 18 m) else decide (ticksF s p l < ticksF s p m)
def betterO (s : SS) (p l : Nat) (o : Option Nat) : Bool := match o with
  | none => true
  | some m => betterF s p l m
def blF (s : SS) (p : Nat) : Nat → Option Nat
  | 0 => none
  | n + 1 => if ¬ s 4 n = 0 ∧ s 8 n < 40 ∧ betterO s p n (blF s p n) = true then some n else blF s p n
def credF (s : SS) : Nat → Int32
  | 0 => s 0 44
  | n + 1 => credF s n - (if ¬ s 23 n = 0 ∧ s 0 33 ≤ s 24 n then s 26 n else 0)
/-- the LOST ones laid, from the d-th last piece on; whether it stopped for want of a line -/
def layL (nl np : Nat) : Nat → SS → SS × Bool
  | 0, s => (s, false)
  | d + 1, s => if s 23 (np - (d + 1)) = 2 then (match blF s (np - (d + 1)) nl with
    | none => (s, true)
    | some l => layL nl np d (layOnF s (np - (d + 1)) l)) else layL nl np d s
def layN (nl np : Nat) : Nat → Int32 → SS → SS
  | 0, _, s => s
  | d + 1, left, s => if s 23 (np - (d + 1)) = 0 then (match blF s (np - (d + 1)) nl with
    | none => s
    | some l => if left < s 26 (np - (d + 1)) then s else layN nl np d (left - s 26 (np - (d + 1))) (layOnF s (np - (d + 1)) l)) else layN nl np d left s
def layingF (nl np : Nat) (s : SS) : SS := match layL nl np np s with
  | (t, true) => t
  | (t, false) => layN nl np np (credF t np) t
def alw (s : SS) (l t : Nat) : Nat → Int32
  | 0 => s 5 l
  | k + 1 => alw s l t k - s 22 (20 * l + (t - (k + 1)) % 20)
def allowedF (s : SS) (l t : Nat) : Int32 := if s 1 l = 3 then
    (if alw s l t (min (nat (s 6 l)) t - 1) < 0 then 0 else if alw s l t (min (nat (s 6 l)) t - 1) < s 2 l then alw s l t (min (nat (s 6 l)) t - 1) else s 2 l)
  else s 2 l
/-- a queue's row one place on, its first n places -/
def shF (s : SS) (l n : Nat) : SS := fun j k => if j = 7 ∧ 41 * l ≤ k ∧ k < 41 * l + n then s 7 (k + 1) else s j k
def wayF (s : SS) (l : Nat) : Nat := 200 * l + (nat (s 14 l) + nat (s 15 l)) % 200
/-- the first piece of the queue is sent -/
def sFF (s : SS) (l : Nat) : SS :=
  let p := s 7 (41 * l)
  let a := uS (shF (uS s 8 l (s 8 l - 1)) l (nat (s 8 l) - 1)) 9 l 0
  let b := uS (uS (uS (uS (uS a 15 l (s 15 l + 1)) 10 (wayF s l) p) 11 (wayF s l) (s 16 l)) 12 (wayF s l) (s 0 45 + s 3 l)) 13 (wayF s l) 0
  uS (if p = -2 then b else uS b 29 (nat p) (s 16 l)) 16 l (s 16 l + 1)
def sndF (t l : Nat) : Nat → Int32 → SS → SS
  | 0, _, s => s
  | n + 1, left, s => if 0 < left ∧ 0 < s 8 l ∧ s 15 l < 200 then
      (if s 1 l = 0 ∧ left < szo s (s 7 (41 * l)) - s 9 l then s
       else if szo s (s 7 (41 * l)) - s 9 l ≤ left then
         sndF t l n (left - (szo s (s 7 (41 * l)) - s 9 l)) (sFF (uS (uS (uS s 9 l (s 9 l + (szo s (s 7 (41 * l)) - s 9 l))) 18 l (s 18 l + (szo s (s 7 (41 * l)) - s 9 l))) 22 (20 * l + t % 20) (s 22 (20 * l + t % 20) + (szo s (s 7 (41 * l)) - s 9 l))) l)
       else uS (uS (uS s 9 l (s 9 l + left)) 18 l (s 18 l + left)) 22 (20 * l + t % 20) (s 22 (20 * l + t % 20) + left))
    else s
def sendingF (t l : Nat) (s : SS) : SS := if s 4 l = 0 then uS s 22 (20 * l + t % 20) 0 else sndF t l 41 (allowedF (uS s 22 (20 * l + t % 20) 0) l t) (uS s 22 (20 * l + t % 20) 0)
def hitF (s : SS) (l q : Nat) (c : Int32) : Bool := decide (s 23 q = 1) && (decide (s 28 q = nI l) && (decide (s 17 l ≤ s 29 q) && decide (s 29 q ≤ c - 1)))
def lsF (l : Nat) (c : Int32) : Nat → SS → SS
  | 0, s => s
  | q + 1, s => if hitF (lsF l c q s) l q c = true then loseF (lsF l c q s) q l else lsF l c q s
def comesF (np l : Nat) (v c : Int32) (s : SS) : SS :=
  let a := uS (if s 17 l < c then lsF l c np s else s) 17 l (c + 1)
  if v = -2 then a else uS a 23 (nat v) 3
def cmF (np l : Nat) : Nat → SS → SS
  | 0, s => s
  | n + 1, s => if 0 < s 15 l ∧ s 12 (200 * l + nat (s 14 l)) = s 0 45 then
      (if s 13 (200 * l + nat (s 14 l)) &&& 1 = 1 then cmF np l n (uS (uS s 14 l (nI ((nat (s 14 l) + 1) % 200))) 15 l (s 15 l - 1))
       else if 1 < s 13 (200 * l + nat (s 14 l)) then cmF np l n (uS (uS (uS s 14 l (nI ((nat (s 14 l) + 1) % 200))) 15 l (s 15 l - 1)) 21 l (s 21 l + 1))
       else cmF np l n (comesF np l (s 10 (200 * l + nat (s 14 l))) (s 11 (200 * l + nat (s 14 l))) (uS (uS s 14 l (nI ((nat (s 14 l) + 1) % 200))) 15 l (s 15 l - 1))))
    else s
def allT (s : SS) (a : Nat) : Nat → Bool
  | 0 => true
  | n + 1 => allT s a n && decide (s 23 (a + n) = 3)
def wholeF (s : SS) (f : Nat) : Bool := allT s (nat (s 32 f)) (nat (s 33 f))
def gvF : Nat → SS → SS
  | 0, s => s
  | d + 1, s => if s 0 33 < s 0 32 ∧ wholeF s (nat (s 0 33)) = true then gvF d (uS (uS s 34 (nat (s 0 33)) (s 0 45)) 0 33 (s 0 33 + 1)) else s
def restF (l : Nat) (s : SS) : SS := if ¬ s 4 l = 0 ∧ s 8 l = 0 ∧ s 15 l = 0 ∧ s 17 l < s 16 l then layEF s l else s
/-- on each line, by numbers -/
def onL (f : Nat → SS → SS) : Nat → SS → SS
  | 0, s => s
  | l + 1, s => f l (onL f l s)
/-- one tick: to the time t -/
def stepF (nl nf np t : Nat) (s : SS) : SS := onL restF nl (gvF (nf + 1) (onL (fun l => cmF np l 201) nl (onL (sendingF t) nl (layingF nl np (uS s 0 45 (nI t))))))
def tickF (nl nf np t : Nat) : Nat → SS → SS
  | 0, s => s
  | n + 1, s => stepF nl nf np (t + n + 1) (tickF nl nf np t n s)
end
section
/-! The reference's methods, in the words of its own numbers: what is asked most often. -/
theorem ix_lits : (0 : Int32) = nI 0 ∧ (1 : Int32) = nI 1 ∧ (8 : Int32) = nI 8 ∧ (20 : Int32) = nI 20 ∧ (40 : Int32) = nI 40 ∧ (41 : Int32) = nI 41 ∧ (200 : Int32) = nI 200 := ⟨rfl, rfl, rfl, rfl, rfl, rfl, rfl⟩
abbrev TM : Option Vl := some (vR (some (22, 0)))

theorem nI_neg {n : Nat} (h : n < 2147483648) (v : Int32) (hv : v < 0) : ¬ nI n = v := by
  intro q
  rw [← q] at hv
  exact nI_pos h hv
theorem nI_nem2 {n : Nat} (h : n < 2147483648) : ¬ nI n = -2 := nI_neg h _ (by decide)
theorem nI_nem9 {n : Nat} (h : n < 2147483648) : ¬ nI n = -9 := nI_neg h _ (by decide)
def bI (b : Bool) : Int32 := if b = true then 1 else 0
theorem bI_0 {b : Bool} (h : bI b = 0) : b = false := by
  cases b
  · rfl
  · cases h
theorem bI_1 {b : Bool} (h : ¬ bI b = 0) : b = true := by
  cases b
  · exact absurd rfl h
  · rfl
theorem mX_in (X : Nat × (Nat → Int32)) (h : Hp) (v lo hi : Int32) : wp X 85 0 [some (vI v), some (vI lo), some (vI hi)] [] h (fun r h' => r = some (vI (inF v lo hi)) ∧ h' = h) := by
  refine w_pu rfl rfl ?_
  refine w_pu rfl rfl ?_
  refine w_lt rfl (fun c0 => ?_) (fun c0 => ?_)
  · refine w_cst (v := 0) rfl rfl rfl ?_
    refine w_rt rfl rfl (by first | exact Or.inl rfl | exact Or.inr rfl) ?_
    exact ⟨by rw [inF, if_neg (fun q => Int32.not_lt.mpr q.1 c0)], rfl⟩
  · refine w_pu rfl rfl ?_
    refine w_pu rfl rfl ?_
    refine w_gt rfl (fun c1 => ?_) (fun c1 => ?_)
    · refine w_cst (v := 0) rfl rfl rfl ?_
      refine w_rt rfl rfl (by first | exact Or.inl rfl | exact Or.inr rfl) ?_
      exact ⟨by rw [inF, if_neg (fun q => Int32.not_lt.mpr q.2 c1)], rfl⟩
    · refine w_cst (v := 1) rfl rfl rfl ?_
      refine w_go rfl ?_
      refine w_rt rfl rfl (by first | exact Or.inl rfl | exact Or.inr rfl) ?_
      exact ⟨by rw [inF, if_pos ⟨Int32.not_lt.mp c0, Int32.not_lt.mp c1⟩], rfl⟩
theorem mX_refuse (X : Nat × (Nat → Int32)) {h : Hp} {nl nf np : Nat} (hw : WF h nl nf np) (s : SS) (v : Int32) (k : Nat) (hk : -v = nI k) (hk2 : k < 7) : wp X 86 0 [TM, some (vI v)] [] (pS h s) (fun r h' => r = some (vI v) ∧ h' = pS h (uS s 38 k (s 38 k + 1))) := by
  refine w_pu rfl rfl ?_
  refine m_gR 38 hw rfl rfl rfl ?_
  refine w_pu rfl rfl ?_
  refine w_pu rfl rfl ?_
  refine w_pu rfl rfl ?_
  refine m_ai 38 k hw rfl rfl (by omega) (by first | rfl | simp only [ix_lits, nI_mul, nI_add, hk]) (by show k < 7; omega) ?_
  refine w_cst (v := 1) rfl rfl rfl ?_
  refine w_pu rfl rfl ?_
  refine m_si 38 k hw rfl rfl (by omega) (by first | rfl | simp only [ix_lits, nI_mul, nI_add, hk]) (by show k < 7; omega) ?_
  refine w_pu rfl rfl ?_
  refine w_rt rfl rfl trivial ?_
  exact ⟨rfl, rfl⟩
theorem mX_isLine (X : Nat × (Nat → Int32)) {h : Hp} {nl nf np : Nat} (hw : WF h nl nf np) (s : SS) (v : Int32) : wp X 87 0 [TM, some (vI v)] [] (pS h s) (fun r h' => r = some (vI (inF v 0 (s 0 0 - 1))) ∧ h' = pS h s) := by
  refine w_pu rfl rfl ?_
  refine w_cst (v := 0) rfl rfl rfl ?_
  refine w_pu rfl rfl ?_
  refine m_g hw rfl rfl ?_
  refine w_cst (v := 1) rfl rfl rfl ?_
  refine w_pu rfl rfl ?_
  refine w_cp (vI (inF v 0 ((s 0 0) - 1))) rfl rfl (by decide) (Nat.le_of_ble_eq_true rfl) rfl (Nat.le_of_ble_eq_true rfl) (Nat.le_of_ble_eq_true rfl) trivial rfl (mX_in X _ v 0 ((s 0 0) - 1)) ?_
  refine w_rt rfl rfl (by unfold inF; split; exact Or.inr rfl; exact Or.inl rfl) ?_
  exact ⟨rfl, rfl⟩
theorem mX_isPiece (X : Nat × (Nat → Int32)) {h : Hp} {nl nf np : Nat} (hw : WF h nl nf np) (s : SS) (v : Int32) : wp X 118 0 [TM, some (vI v)] [] (pS h s) (fun r h' => r = some (vI (inF v 0 (s 0 23 - 1))) ∧ h' = pS h s) := by
  refine w_pu rfl rfl ?_
  refine w_cst (v := 0) rfl rfl rfl ?_
  refine w_pu rfl rfl ?_
  refine m_g hw rfl rfl ?_
  refine w_cst (v := 1) rfl rfl rfl ?_
  refine w_pu rfl rfl ?_
  refine w_cp (vI (inF v 0 ((s 0 23) - 1))) rfl rfl (by decide) (Nat.le_of_ble_eq_true rfl) rfl (Nat.le_of_ble_eq_true rfl) (Nat.le_of_ble_eq_true rfl) trivial rfl (mX_in X _ v 0 ((s 0 23) - 1)) ?_
  refine w_rt rfl rfl (by unfold inF; split; exact Or.inr rfl; exact Or.inl rfl) ?_
  exact ⟨rfl, rfl⟩
theorem mX_isFrame (X : Nat × (Nat → Int32)) {h : Hp} {nl nf np : Nat} (hw : WF h nl nf np) (s : SS) (v : Int32) : wp X 124 0 [TM, some (vI v)] [] (pS h s) (fun r h' => r = some (vI (inF v 0 (s 0 32 - 1))) ∧ h' = pS h s) := by
  refine w_pu rfl rfl ?_
  refine w_cst (v := 0) rfl rfl rfl ?_
  refine w_pu rfl rfl ?_
  refine m_g hw rfl rfl ?_
  refine w_cst (v := 1) rfl rfl rfl ?_
  refine w_pu rfl rfl ?_
  refine w_cp (vI (inF v 0 ((s 0 32) - 1))) rfl rfl (by decide) (Nat.le_of_ble_eq_true rfl) rfl (Nat.le_of_ble_eq_true rfl) (Nat.le_of_ble_eq_true rfl) trivial rfl (mX_in X _ v 0 ((s 0 32) - 1)) ?_
  refine w_rt rfl rfl (by unfold inF; split; exact Or.inr rfl; exact Or.inl rfl) ?_
  exact ⟨rfl, rfl⟩
theorem mX_sizeOf (X : Nat × (Nat → Int32)) {h : Hp} {nl nf np : Nat} (hw : WF h nl nf np) (s : SS) (v : Int32) (hv : okp np v) : wp X 97 0 [TM, some (vI v)] [] (pS h s) (fun r h' => r = some (vI (szo s v)) ∧ h' = pS h s) := by
  have h3 := hw.2.2.2.2.2.2.2.2
  refine w_pu rfl rfl ?_
  refine w_cst (v := (-2)) rfl rfl rfl ?_
  refine w_ne rfl (fun c0 => ?_) (fun c0 => ?_)
  · obtain ⟨k, hk, rfl⟩ := hv.resolve_left c0
    refine w_pu rfl rfl ?_
    refine m_gR 26 hw rfl rfl rfl ?_
    refine w_pu rfl rfl ?_
    refine m_ai 26 k hw rfl rfl (by omega) (by first | rfl | simp only [ix_lits, nI_mul, nI_add]) (by show k < 3000; omega) ?_
    refine w_rt rfl rfl trivial ?_
    exact ⟨by rw [szo, if_neg c0, nat_nI (by omega)], rfl⟩
  · refine w_cst (v := 1) rfl rfl rfl ?_
    refine w_go rfl ?_
    refine w_rt rfl rfl trivial ?_
    exact ⟨by rw [szo, if_pos c0], rfl⟩
theorem mX_waiting (X : Nat × (Nat → Int32)) {h : Hp} {nl nf np : Nat} (hw : WF h nl nf np) (s : SS) (l q : Nat) (hl : l < nl) (hq1 : s 8 l = nI q) (hq2 : q ≤ 40) (hq : ∀ k, k < q → okp np (s 7 (41 * l + k))) : wp X 98 0 [TM, some (vI (nI l)), none, none] [] (pS h s) (fun r h' => r = some (vI (wsum s l q)) ∧ h' = pS h s) := by
  have h3 := hw.2.2.2.2.2.2.1
  have loop : ∀ d k, k + d = q → wp X 98 10 [TM, some (vI (nI l)), some (vI (wsum s l k)), some (vI (nI k))] [] (pS h s) (fun r h' => r = some (vI (wsum s l q)) ∧ h' = pS h s) := by
    intro d
    induction d with
    | zero =>
      intro k hk
      refine w_pu rfl rfl ?_
      refine w_pu rfl rfl ?_
      refine m_gR 8 hw rfl rfl rfl ?_
      refine w_pu rfl rfl ?_
      refine m_ai 8 l hw rfl rfl (by omega) (by first | rfl | simp only [ix_lits, nI_mul, nI_add, hq1]) (by show l < 8; omega) ?_
      refine w_ge rfl (fun c0 => ?_) (fun c0 => ?_)
      · refine w_pu rfl rfl ?_
        refine w_rt rfl rfl trivial ?_
        exact ⟨by rw [show k = q by omega], rfl⟩
      · exact absurd (by rw [hq1]; exact nI_le (by omega) (by omega)) c0
    | succ d ih =>
      intro k hk
      refine w_pu rfl rfl ?_
      refine w_pu rfl rfl ?_
      refine m_gR 8 hw rfl rfl rfl ?_
      refine w_pu rfl rfl ?_
      refine m_ai 8 l hw rfl rfl (by omega) (by first | rfl | simp only [ix_lits, nI_mul, nI_add, hq1]) (by show l < 8; omega) ?_
      refine w_ge rfl (fun c0 => ?_) (fun c0 => ?_)
      · exact absurd (by rw [hq1] at c0; exact c0) (nI_ge (by omega) (by omega))
      · refine w_pu rfl rfl ?_
        refine w_pu rfl rfl ?_
        refine w_pu rfl rfl ?_
        refine m_gR 7 hw rfl rfl rfl ?_
        refine w_cst (v := 41) rfl rfl rfl ?_
        refine w_pu rfl rfl ?_
        refine w_pu rfl rfl ?_
        refine w_pu rfl rfl ?_
        refine w_pu rfl rfl ?_
        refine m_ai 7 ((41 * l) + k) hw rfl rfl (by omega) (by first | rfl | simp only [ix_lits, nI_mul, nI_add, hq1]) (by show ((41 * l) + k) < 328; omega) ?_
        refine w_cp (vI (szo s (s 7 ((41 * l) + k)))) rfl rfl (by decide) (Nat.le_of_ble_eq_true rfl) rfl (Nat.le_of_ble_eq_true rfl) (Nat.le_of_ble_eq_true rfl) ⟨wM hw 0 (by omega), rfl⟩ rfl (mX_sizeOf X hw s (s 7 ((41 * l) + k)) (by first | exact hq _ (by omega) | assumption)) ?_
        refine w_pu rfl rfl ?_
        refine w_pu rfl rfl ?_
        refine w_i1 rfl rfl rfl ?_
        refine w_go rfl ?_
        exact ih (k + 1) (by omega)
  refine w_pu rfl rfl ?_
  refine m_gR 9 hw rfl rfl rfl ?_
  refine w_pu rfl rfl ?_
  refine m_ai 9 l hw rfl rfl (by omega) (by first | rfl | simp only [ix_lits, nI_mul, nI_add]) (by show l < 8; omega) ?_
  refine w_pu rfl rfl ?_
  refine w_pu rfl rfl ?_
  refine w_cst (v := 0) rfl rfl rfl ?_
  refine w_pu rfl rfl ?_
  exact loop q 0 (by omega)
theorem mX_lose (X : Nat × (Nat → Int32)) {h : Hp} {nl nf np : Nat} (hw : WF h nl nf np) (s : SS) (p l : Nat) (hp : p < np) (hl : l < 8) : wp X 99 0 [TM, some (vI (nI p)), some (vI (nI l))] [] (pS h s) (fun r h' => r = none ∧ h' = pS h (loseF s p l)) := by
  have h3 := hw.2.2.2.2.2.2.2.2
  refine w_pu rfl rfl ?_
  refine m_gR 23 hw rfl rfl rfl ?_
  refine w_pu rfl rfl ?_
  refine w_cst (v := 2) rfl rfl rfl ?_
  refine m_si 23 p hw rfl rfl (by omega) (by first | rfl | simp only [ix_lits, nI_mul, nI_add]) (by show p < 3000; omega) ?_
  refine w_pu rfl rfl ?_
  refine m_gR 30 hw rfl rfl rfl ?_
  refine w_cst (v := 8) rfl rfl rfl ?_
  refine w_pu rfl rfl ?_
  refine w_pu rfl rfl ?_
  refine w_pu rfl rfl ?_
  refine w_pu rfl rfl ?_
  refine w_pu rfl rfl ?_
  refine m_ai 30 ((8 * p) + l) hw rfl rfl (by omega) (by first | rfl | simp only [ix_lits, nI_mul, nI_add]) (by show ((8 * p) + l) < 24000; omega) ?_
  refine w_top (s 30 ((8 * p) + l)) rfl ?_
  refine w_cst (v := 1) rfl rfl rfl ?_
  refine w_pu rfl rfl ?_
  refine m_si 30 ((8 * p) + l) hw rfl rfl (by omega) (by first | rfl | simp only [ix_lits, nI_mul, nI_add]) (by show ((8 * p) + l) < 24000; omega) ?_
  refine w_pu rfl rfl ?_
  refine m_gR 19 hw rfl rfl rfl ?_
  refine w_pu rfl rfl ?_
  refine w_pu rfl rfl ?_
  refine m_ai 19 l hw rfl rfl (by omega) (by first | rfl | simp only [ix_lits, nI_mul, nI_add]) (by show l < 8; omega) ?_
  refine w_top (s 19 l) rfl ?_
  refine w_cst (v := 1) rfl rfl rfl ?_
  refine w_pu rfl rfl ?_
  refine m_si 19 l hw rfl rfl (by omega) (by first | rfl | simp only [ix_lits, nI_mul, nI_add]) (by show l < 8; omega) ?_
  refine w_rt rfl rfl trivial ?_
  exact ⟨rfl, rfl⟩
theorem mX_layOn (X : Nat × (Nat → Int32)) {h : Hp} {nl nf np : Nat} (hw : WF h nl nf np) (s : SS) (p l q : Nat) (hp : p < np) (hl : l < nl) (hq1 : s 8 l = nI q) (hq2 : q ≤ 40) : wp X 102 0 [TM, some (vI (nI p)), some (vI (nI l))] [] (pS h s) (fun r h' => r = none ∧ h' = pS h (layOnF s p l)) := by
  have h3 := hw.2.2.2.2.2.2.2.2
  have h4 := hw.2.2.2.2.2.2.1
  refine w_pu rfl rfl ?_
  refine m_gR 7 hw rfl rfl rfl ?_
  refine w_cst (v := 41) rfl rfl rfl ?_
  refine w_pu rfl rfl ?_
  refine w_pu rfl rfl ?_
  refine w_pu rfl rfl ?_
  refine m_gR 8 hw rfl rfl rfl ?_
  refine w_pu rfl rfl ?_
  refine m_ai 8 l hw rfl rfl (by omega) (by first | rfl | simp only [ix_lits, nI_mul, nI_add, hq1]) (by show l < 8; omega) ?_
  refine w_pu rfl rfl ?_
  refine w_pu rfl rfl ?_
  refine m_si 7 ((41 * l) + q) hw rfl rfl (by omega) (by first | rfl | simp only [ix_lits, nI_mul, nI_add, hq1]) (by show ((41 * l) + q) < 328; omega) ?_
  refine w_pu rfl rfl ?_
  refine m_gR 8 hw rfl rfl rfl ?_
  refine w_pu rfl rfl ?_
  refine w_pu rfl rfl ?_
  refine m_ai 8 l hw rfl rfl (by omega) (by first | rfl | simp only [ix_lits, nI_mul, nI_add, hq1]) (by show l < 8; omega) ?_
  refine w_top (s 8 l) rfl ?_
  refine w_cst (v := 1) rfl rfl rfl ?_
  refine w_pu rfl rfl ?_
  refine m_si 8 l hw rfl rfl (by omega) (by first | rfl | simp only [ix_lits, nI_mul, nI_add, hq1]) (by show l < 8; omega) ?_
  refine w_pu rfl rfl ?_
  refine w_cst (v := (-2)) rfl rfl rfl ?_
  refine w_ne rfl (fun c0 => ?_) (fun c0 => ?_)
  · refine w_pu rfl rfl ?_
    refine m_gR 23 hw rfl rfl rfl ?_
    refine w_pu rfl rfl ?_
    refine w_cst (v := 1) rfl rfl rfl ?_
    refine m_si 23 p hw rfl rfl (by omega) (by first | rfl | simp only [ix_lits, nI_mul, nI_add, hq1]) (by show p < 3000; omega) ?_
    refine w_pu rfl rfl ?_
    refine m_gR 28 hw rfl rfl rfl ?_
    refine w_pu rfl rfl ?_
    refine w_pu rfl rfl ?_
    refine m_si 28 p hw rfl rfl (by omega) (by first | rfl | simp only [ix_lits, nI_mul, nI_add, hq1]) (by show p < 3000; omega) ?_
    refine w_pu rfl rfl ?_
    refine m_gR 29 hw rfl rfl rfl ?_
    refine w_pu rfl rfl ?_
    refine w_cst (v := (-1)) rfl rfl rfl ?_
    refine m_si 29 p hw rfl rfl (by omega) (by first | rfl | simp only [ix_lits, nI_mul, nI_add, hq1]) (by show p < 3000; omega) ?_
    refine w_pu rfl rfl ?_
    refine m_gR 27 hw rfl rfl rfl ?_
    refine w_pu rfl rfl ?_
    refine w_pu rfl rfl ?_
    refine m_ai 27 p hw rfl rfl (by omega) (by first | rfl | simp only [ix_lits, nI_mul, nI_add, hq1]) (by show p < 3000; omega) ?_
    refine w_top (s 27 p) rfl ?_
    refine w_cst (v := 1) rfl rfl rfl ?_
    refine w_pu rfl rfl ?_
    refine m_si 27 p hw rfl rfl (by omega) (by first | rfl | simp only [ix_lits, nI_mul, nI_add, hq1]) (by show p < 3000; omega) ?_
    refine w_rt rfl rfl trivial ?_
    refine ⟨rfl, ?_⟩
    unfold layOnF layF
    rw [hq1, nat_nI (by omega)]
  · exact absurd c0 (nI_nem2 (by omega))
theorem mX_layE (X : Nat × (Nat → Int32)) {h : Hp} {nl nf np : Nat} (hw : WF h nl nf np) (s : SS) (l q : Nat) (hl : l < nl) (hq1 : s 8 l = nI q) (hq2 : q ≤ 40) : wp X 102 0 [TM, some (vI (-2)), some (vI (nI l))] [] (pS h s) (fun r h' => r = none ∧ h' = pS h (layEF s l)) := by
  have h3 := hw.2.2.2.2.2.2.2.2
  have h4 := hw.2.2.2.2.2.2.1
  refine w_pu rfl rfl ?_
  refine m_gR 7 hw rfl rfl rfl ?_
  refine w_cst (v := 41) rfl rfl rfl ?_
  refine w_pu rfl rfl ?_
  refine w_pu rfl rfl ?_
  refine w_pu rfl rfl ?_
  refine m_gR 8 hw rfl rfl rfl ?_
  refine w_pu rfl rfl ?_
  refine m_ai 8 l hw rfl rfl (by omega) (by first | rfl | simp only [ix_lits, nI_mul, nI_add, hq1]) (by show l < 8; omega) ?_
  refine w_pu rfl rfl ?_
  refine w_pu rfl rfl ?_
  refine m_si 7 ((41 * l) + q) hw rfl rfl (by omega) (by first | rfl | simp only [ix_lits, nI_mul, nI_add, hq1]) (by show ((41 * l) + q) < 328; omega) ?_
  refine w_pu rfl rfl ?_
  refine m_gR 8 hw rfl rfl rfl ?_
  refine w_pu rfl rfl ?_
  refine w_pu rfl rfl ?_
  refine m_ai 8 l hw rfl rfl (by omega) (by first | rfl | simp only [ix_lits, nI_mul, nI_add, hq1]) (by show l < 8; omega) ?_
  refine w_top (s 8 l) rfl ?_
  refine w_cst (v := 1) rfl rfl rfl ?_
  refine w_pu rfl rfl ?_
  refine m_si 8 l hw rfl rfl (by omega) (by first | rfl | simp only [ix_lits, nI_mul, nI_add, hq1]) (by show l < 8; omega) ?_
  refine w_pu rfl rfl ?_
  refine w_cst (v := (-2)) rfl rfl rfl ?_
  refine w_ne rfl (fun c0 => ?_) (fun c0 => ?_)
  · exact absurd rfl c0
  · refine w_pu rfl rfl ?_
    refine m_gR 20 hw rfl rfl rfl ?_
    refine w_pu rfl rfl ?_
    refine w_pu rfl rfl ?_
    refine m_ai 20 l hw rfl rfl (by omega) (by first | rfl | simp only [ix_lits, nI_mul, nI_add, hq1]) (by show l < 8; omega) ?_
    refine w_top (s 20 l) rfl ?_
    refine w_cst (v := 1) rfl rfl rfl ?_
    refine w_pu rfl rfl ?_
    refine m_si 20 l hw rfl rfl (by omega) (by first | rfl | simp only [ix_lits, nI_mul, nI_add, hq1]) (by show l < 8; omega) ?_
    refine w_rt rfl rfl trivial ?_
    refine ⟨rfl, ?_⟩
    unfold layEF layF
    rw [hq1, nat_nI (by omega)]
theorem mX_isBetter_some (X : Nat × (Nat → Int32)) {h : Hp} {nl nf np : Nat} (hw : WF h nl nf np) (s : SS) (hq : ∀ l, l < nl → ∃ q, s 8 l = nI q ∧ q ≤ 40 ∧ ∀ k, k < q → okp np (s 7 (41 * l + k))) (hsp : ∀ l, l < nl → ¬ s 2 l = 0) (p l m : Nat) (hp : p < np) (hl : l < nl) (hm : m < nl) : wp X 100 0 [TM, some (vI (nI p)), some (vI (nI l)), some (vI (nI m)), none, none] [] (pS h s) (fun r h' => r = some (vI (bI (betterF s p l m))) ∧ h' = pS h s) := by
  have h3 := hw.2.2.2.2.2.2.2.2
  have h4 := hw.2.2.2.2.2.2.1
  obtain ⟨ql, l1, l2, l3⟩ := hq l hl
  obtain ⟨qm, m1, m2, m3⟩ := hq m hm
  have el : ticksF s p l = (wsum s l ql + s 26 p + s 2 l - 1) / s 2 l := by
    unfold ticksF
    rw [l1, nat_nI (by omega)]
  have em : ticksF s p m = (wsum s m qm + s 26 p + s 2 m - 1) / s 2 m := by
    unfold ticksF
    rw [m1, nat_nI (by omega)]
  refine w_pu rfl rfl ?_
  refine w_cst (v := (-9)) rfl rfl rfl ?_
  refine w_ne rfl (fun c0 => ?_) (fun c0 => ?_)
  · refine w_pu rfl rfl ?_
    refine m_gR 23 hw rfl rfl rfl ?_
    refine w_pu rfl rfl ?_
    refine m_ai 23 p hw rfl rfl (by omega) (by first | rfl | simp only [ix_lits, nI_mul, nI_add]) (by show p < 3000; omega) ?_
    refine w_cst (v := 2) rfl rfl rfl ?_
    refine w_ne rfl (fun c1 => ?_) (fun c1 => ?_)
    · refine w_pu rfl rfl ?_
      refine w_pu rfl rfl ?_
      refine w_cp (vI (wsum s l ql)) rfl rfl (by decide) (Nat.le_of_ble_eq_true rfl) rfl (Nat.le_of_ble_eq_true rfl) (Nat.le_of_ble_eq_true rfl) ⟨wM hw 0 (by omega), rfl⟩ rfl (mX_waiting X hw s l ql hl l1 l2 l3) ?_
      refine w_pu rfl rfl ?_
      refine m_gR 26 hw rfl rfl rfl ?_
      refine w_pu rfl rfl ?_
      refine m_ai 26 p hw rfl rfl (by omega) (by first | rfl | simp only [ix_lits, nI_mul, nI_add]) (by show p < 3000; omega) ?_
      refine w_pu rfl rfl ?_
      refine w_pu rfl rfl ?_
      refine m_gR 2 hw rfl rfl rfl ?_
      refine w_pu rfl rfl ?_
      refine m_ai 2 l hw rfl rfl (by omega) (by first | rfl | simp only [ix_lits, nI_mul, nI_add]) (by show l < 8; omega) ?_
      refine w_pu rfl rfl ?_
      refine w_cst (v := 1) rfl rfl rfl ?_
      refine w_pu rfl rfl ?_
      refine w_pu rfl rfl ?_
      refine m_gR 2 hw rfl rfl rfl ?_
      refine w_pu rfl rfl ?_
      refine m_ai 2 l hw rfl rfl (by omega) (by first | rfl | simp only [ix_lits, nI_mul, nI_add]) (by show l < 8; omega) ?_
      refine w_op rfl rfl (by exact hsp _ (by assumption)) ?_
      refine w_top (ticksF s p l) el.symm ?_
      refine w_pu rfl rfl ?_
      refine w_pu rfl rfl ?_
      refine w_pu rfl rfl ?_
      refine w_cp (vI (wsum s m qm)) rfl rfl (by decide) (Nat.le_of_ble_eq_true rfl) rfl (Nat.le_of_ble_eq_true rfl) (Nat.le_of_ble_eq_true rfl) ⟨wM hw 0 (by omega), rfl⟩ rfl (mX_waiting X hw s m qm hm m1 m2 m3) ?_
      refine w_pu rfl rfl ?_
      refine m_gR 26 hw rfl rfl rfl ?_
      refine w_pu rfl rfl ?_
      refine m_ai 26 p hw rfl rfl (by omega) (by first | rfl | simp only [ix_lits, nI_mul, nI_add]) (by show p < 3000; omega) ?_
      refine w_pu rfl rfl ?_
      refine w_pu rfl rfl ?_
      refine m_gR 2 hw rfl rfl rfl ?_
      refine w_pu rfl rfl ?_
      refine m_ai 2 m hw rfl rfl (by omega) (by first | rfl | simp only [ix_lits, nI_mul, nI_add]) (by show m < 8; omega) ?_
      refine w_pu rfl rfl ?_
      refine w_cst (v := 1) rfl rfl rfl ?_
      refine w_pu rfl rfl ?_
      refine w_pu rfl rfl ?_
      refine m_gR 2 hw rfl rfl rfl ?_
      refine w_pu rfl rfl ?_
      refine m_ai 2 m hw rfl rfl (by omega) (by first | rfl | simp only [ix_lits, nI_mul, nI_add]) (by show m < 8; omega) ?_
      refine w_op rfl rfl (by exact hsp _ (by assumption)) ?_
      refine w_top (ticksF s p m) em.symm ?_
      refine w_pu rfl rfl ?_
      refine w_pu rfl rfl ?_
      refine w_pu rfl rfl ?_
      refine w_eq rfl (fun c2 => ?_) (fun c2 => ?_)
      · refine w_pu rfl rfl ?_
        refine m_gR 18 hw rfl rfl rfl ?_
        refine w_pu rfl rfl ?_
        refine m_ai 18 l hw rfl rfl (by omega) (by first | rfl | simp only [ix_lits, nI_mul, nI_add]) (by show l < 8; omega) ?_
        refine w_pu rfl rfl ?_
        refine m_gR 18 hw rfl rfl rfl ?_
        refine w_pu rfl rfl ?_
        refine m_ai 18 m hw rfl rfl (by omega) (by first | rfl | simp only [ix_lits, nI_mul, nI_add]) (by show m < 8; omega) ?_
        refine w_ge rfl (fun c3 => ?_) (fun c3 => ?_)
        · refine w_cst (v := 0) rfl rfl rfl ?_
          refine w_rt rfl rfl (by first | exact Or.inl rfl | exact Or.inr rfl) ?_
          exact ⟨by rw [betterF, if_neg (fun q => c1 q.1), if_pos c2, decide_eq_false (Int32.not_lt.mpr c3)]; rfl, rfl⟩
        · refine w_cst (v := 1) rfl rfl rfl ?_
          refine w_go rfl ?_
          refine w_rt rfl rfl (by first | exact Or.inl rfl | exact Or.inr rfl) ?_
          exact ⟨by rw [betterF, if_neg (fun q => c1 q.1), if_pos c2, decide_eq_true (Int32.not_le.mp c3)]; rfl, rfl⟩
      · refine w_pu rfl rfl ?_
        refine w_pu rfl rfl ?_
        refine w_ge rfl (fun c4 => ?_) (fun c4 => ?_)
        · refine w_cst (v := 0) rfl rfl rfl ?_
          refine w_go rfl ?_
          refine w_rt rfl rfl (by first | exact Or.inl rfl | exact Or.inr rfl) ?_
          exact ⟨by rw [betterF, if_neg (fun q => c1 q.1), if_neg c2, decide_eq_false (Int32.not_lt.mpr c4)]; rfl, rfl⟩
        · refine w_cst (v := 1) rfl rfl rfl ?_
          refine w_go rfl ?_
          refine w_rt rfl rfl (by first | exact Or.inl rfl | exact Or.inr rfl) ?_
          exact ⟨by rw [betterF, if_neg (fun q => c1 q.1), if_neg c2, decide_eq_true (Int32.not_le.mp c4)]; rfl, rfl⟩
    · refine w_pu rfl rfl ?_
      refine m_gR 30 hw rfl rfl rfl ?_
      refine w_cst (v := 8) rfl rfl rfl ?_
      refine w_pu rfl rfl ?_
      refine w_pu rfl rfl ?_
      refine w_pu rfl rfl ?_
      refine w_pu rfl rfl ?_
      refine m_ai 30 ((8 * p) + l) hw rfl rfl (by omega) (by first | rfl | simp only [ix_lits, nI_mul, nI_add]) (by show ((8 * p) + l) < 24000; omega) ?_
      refine w_pu rfl rfl ?_
      refine m_gR 30 hw rfl rfl rfl ?_
      refine w_cst (v := 8) rfl rfl rfl ?_
      refine w_pu rfl rfl ?_
      refine w_pu rfl rfl ?_
      refine w_pu rfl rfl ?_
      refine w_pu rfl rfl ?_
      refine m_ai 30 ((8 * p) + m) hw rfl rfl (by omega) (by first | rfl | simp only [ix_lits, nI_mul, nI_add]) (by show ((8 * p) + m) < 24000; omega) ?_
      refine w_eq rfl (fun c5 => ?_) (fun c5 => ?_)
      · refine w_pu rfl rfl ?_
        refine w_pu rfl rfl ?_
        refine w_cp (vI (wsum s l ql)) rfl rfl (by decide) (Nat.le_of_ble_eq_true rfl) rfl (Nat.le_of_ble_eq_true rfl) (Nat.le_of_ble_eq_true rfl) ⟨wM hw 0 (by omega), rfl⟩ rfl (mX_waiting X hw s l ql hl l1 l2 l3) ?_
        refine w_pu rfl rfl ?_
        refine m_gR 26 hw rfl rfl rfl ?_
        refine w_pu rfl rfl ?_
        refine m_ai 26 p hw rfl rfl (by omega) (by first | rfl | simp only [ix_lits, nI_mul, nI_add]) (by show p < 3000; omega) ?_
        refine w_pu rfl rfl ?_
        refine w_pu rfl rfl ?_
        refine m_gR 2 hw rfl rfl rfl ?_
        refine w_pu rfl rfl ?_
        refine m_ai 2 l hw rfl rfl (by omega) (by first | rfl | simp only [ix_lits, nI_mul, nI_add]) (by show l < 8; omega) ?_
        refine w_pu rfl rfl ?_
        refine w_cst (v := 1) rfl rfl rfl ?_
        refine w_pu rfl rfl ?_
        refine w_pu rfl rfl ?_
        refine m_gR 2 hw rfl rfl rfl ?_
        refine w_pu rfl rfl ?_
        refine m_ai 2 l hw rfl rfl (by omega) (by first | rfl | simp only [ix_lits, nI_mul, nI_add]) (by show l < 8; omega) ?_
        refine w_op rfl rfl (by exact hsp _ (by assumption)) ?_
        refine w_top (ticksF s p l) el.symm ?_
        refine w_pu rfl rfl ?_
        refine w_pu rfl rfl ?_
        refine w_pu rfl rfl ?_
        refine w_cp (vI (wsum s m qm)) rfl rfl (by decide) (Nat.le_of_ble_eq_true rfl) rfl (Nat.le_of_ble_eq_true rfl) (Nat.le_of_ble_eq_true rfl) ⟨wM hw 0 (by omega), rfl⟩ rfl (mX_waiting X hw s m qm hm m1 m2 m3) ?_
        refine w_pu rfl rfl ?_
        refine m_gR 26 hw rfl rfl rfl ?_
        refine w_pu rfl rfl ?_
        refine m_ai 26 p hw rfl rfl (by omega) (by first | rfl | simp only [ix_lits, nI_mul, nI_add]) (by show p < 3000; omega) ?_
        refine w_pu rfl rfl ?_
        refine w_pu rfl rfl ?_
        refine m_gR 2 hw rfl rfl rfl ?_
        refine w_pu rfl rfl ?_
        refine m_ai 2 m hw rfl rfl (by omega) (by first | rfl | simp only [ix_lits, nI_mul, nI_add]) (by show m < 8; omega) ?_
        refine w_pu rfl rfl ?_
        refine w_cst (v := 1) rfl rfl rfl ?_
        refine w_pu rfl rfl ?_
        refine w_pu rfl rfl ?_
        refine m_gR 2 hw rfl rfl rfl ?_
        refine w_pu rfl rfl ?_
        refine m_ai 2 m hw rfl rfl (by omega) (by first | rfl | simp only [ix_lits, nI_mul, nI_add]) (by show m < 8; omega) ?_
        refine w_op rfl rfl (by exact hsp _ (by assumption)) ?_
        refine w_top (ticksF s p m) em.symm ?_
        refine w_pu rfl rfl ?_
        refine w_pu rfl rfl ?_
        refine w_pu rfl rfl ?_
        refine w_eq rfl (fun c6 => ?_) (fun c6 => ?_)
        · refine w_pu rfl rfl ?_
          refine m_gR 18 hw rfl rfl rfl ?_
          refine w_pu rfl rfl ?_
          refine m_ai 18 l hw rfl rfl (by omega) (by first | rfl | simp only [ix_lits, nI_mul, nI_add]) (by show l < 8; omega) ?_
          refine w_pu rfl rfl ?_
          refine m_gR 18 hw rfl rfl rfl ?_
          refine w_pu rfl rfl ?_
          refine m_ai 18 m hw rfl rfl (by omega) (by first | rfl | simp only [ix_lits, nI_mul, nI_add]) (by show m < 8; omega) ?_
          refine w_ge rfl (fun c7 => ?_) (fun c7 => ?_)
          · refine w_cst (v := 0) rfl rfl rfl ?_
            refine w_rt rfl rfl (by first | exact Or.inl rfl | exact Or.inr rfl) ?_
            exact ⟨by rw [betterF, if_neg (fun q => q.2 c5), if_pos c6, decide_eq_false (Int32.not_lt.mpr c7)]; rfl, rfl⟩
          · refine w_cst (v := 1) rfl rfl rfl ?_
            refine w_go rfl ?_
            refine w_rt rfl rfl (by first | exact Or.inl rfl | exact Or.inr rfl) ?_
            exact ⟨by rw [betterF, if_neg (fun q => q.2 c5), if_pos c6, decide_eq_true (Int32.not_le.mp c7)]; rfl, rfl⟩
        · refine w_pu rfl rfl ?_
          refine w_pu rfl rfl ?_
          refine w_ge rfl (fun c8 => ?_) (fun c8 => ?_)
          · refine w_cst (v := 0) rfl rfl rfl ?_
            refine w_go rfl ?_
            refine w_rt rfl rfl (by first | exact Or.inl rfl | exact Or.inr rfl) ?_
            exact ⟨by rw [betterF, if_neg (fun q => q.2 c5), if_neg c6, decide_eq_false (Int32.not_lt.mpr c8)]; rfl, rfl⟩
          · refine w_cst (v := 1) rfl rfl rfl ?_
            refine w_go rfl ?_
            refine w_rt rfl rfl (by first | exact Or.inl rfl | exact Or.inr rfl) ?_
            exact ⟨by rw [betterF, if_neg (fun q => q.2 c5), if_neg c6, decide_eq_true (Int32.not_le.mp c8)]; rfl, rfl⟩
      · refine w_pu rfl rfl ?_
        refine m_gR 30 hw rfl rfl rfl ?_
        refine w_cst (v := 8) rfl rfl rfl ?_
        refine w_pu rfl rfl ?_
        refine w_pu rfl rfl ?_
        refine w_pu rfl rfl ?_
        refine w_pu rfl rfl ?_
        refine m_ai 30 ((8 * p) + l) hw rfl rfl (by omega) (by first | rfl | simp only [ix_lits, nI_mul, nI_add]) (by show ((8 * p) + l) < 24000; omega) ?_
        refine w_pu rfl rfl ?_
        refine m_gR 30 hw rfl rfl rfl ?_
        refine w_cst (v := 8) rfl rfl rfl ?_
        refine w_pu rfl rfl ?_
        refine w_pu rfl rfl ?_
        refine w_pu rfl rfl ?_
        refine w_pu rfl rfl ?_
        refine m_ai 30 ((8 * p) + m) hw rfl rfl (by omega) (by first | rfl | simp only [ix_lits, nI_mul, nI_add]) (by show ((8 * p) + m) < 24000; omega) ?_
        refine w_ge rfl (fun c9 => ?_) (fun c9 => ?_)
        · refine w_cst (v := 0) rfl rfl rfl ?_
          refine w_rt rfl rfl (by first | exact Or.inl rfl | exact Or.inr rfl) ?_
          exact ⟨by rw [betterF, if_pos ⟨c1, c5⟩, decide_eq_false (Int32.not_lt.mpr c9)]; rfl, rfl⟩
        · refine w_cst (v := 1) rfl rfl rfl ?_
          refine w_go rfl ?_
          refine w_rt rfl rfl (by first | exact Or.inl rfl | exact Or.inr rfl) ?_
          exact ⟨by rw [betterF, if_pos ⟨c1, c5⟩, decide_eq_true (Int32.not_le.mp c9)]; rfl, rfl⟩
  · exact absurd c0 (nI_nem9 (by omega))
theorem mX_isBetter (X : Nat × (Nat → Int32)) {h : Hp} {nl nf np : Nat} (hw : WF h nl nf np) (s : SS) (hq : ∀ l, l < nl → ∃ q, s 8 l = nI q ∧ q ≤ 40 ∧ ∀ k, k < q → okp np (s 7 (41 * l + k))) (hsp : ∀ l, l < nl → ¬ s 2 l = 0) (p l : Nat) (o : Option Nat) (hp : p < np) (hl : l < nl) (ho : ∀ m, o = some m → m < nl) : wp X 100 0 [TM, some (vI (nI p)), some (vI (nI l)), some (vI (enc o)), none, none] [] (pS h s) (fun r h' => r = some (vI (bI (betterO s p l o))) ∧ h' = pS h s) := by
  cases o with
  | some m => exact mX_isBetter_some X hw s hq hsp p l m hp hl (ho m rfl)
  | none =>
    show wp X 100 0 [TM, some (vI (nI p)), some (vI (nI l)), some (vI (-9)), none, none] [] (pS h s) _
    refine w_pu rfl rfl ?_
    refine w_cst (v := (-9)) rfl rfl rfl ?_
    refine w_ne rfl (fun c0 => ?_) (fun c0 => ?_)
    · exact absurd rfl c0
    · refine w_cst (v := 1) rfl rfl rfl ?_
      refine w_rt rfl rfl (by first | exact Or.inl rfl | exact Or.inr rfl) ?_
      exact ⟨rfl, rfl⟩
theorem blF_lt (s : SS) (p : Nat) : ∀ n m, blF s p n = some m → m < n
  | 0, m, q => by cases q
  | n + 1, m, q => by
    rw [blF] at q
    split at q
    · cases q
      exact Nat.lt_succ_self n
    · exact Nat.lt_succ_of_lt (blF_lt s p n m q)
theorem mX_bestLine (X : Nat × (Nat → Int32)) {h : Hp} {nl nf np : Nat} (hw : WF h nl nf np) (s : SS) (hn : s 0 0 = nI nl) (hq : ∀ l, l < nl → ∃ q, s 8 l = nI q ∧ q ≤ 40 ∧ ∀ k, k < q → okp np (s 7 (41 * l + k))) (hsp : ∀ l, l < nl → ¬ s 2 l = 0) (p : Nat) (hp : p < np) : wp X 101 0 [TM, some (vI (nI p)), none, none] [] (pS h s) (fun r h' => r = some (vI (enc (blF s p nl))) ∧ h' = pS h s) := by
  have h4 := hw.2.2.2.2.2.2.1
  have loop : ∀ d k, k + d = nl → wp X 101 5 [TM, some (vI (nI p)), some (vI (enc (blF s p k))), some (vI (nI k))] [] (pS h s) (fun r h' => r = some (vI (enc (blF s p nl))) ∧ h' = pS h s) := by
    intro d
    induction d with
    | zero =>
      intro k hk
      refine w_pu rfl rfl ?_
      refine w_pu rfl rfl ?_
      refine m_g hw rfl rfl ?_
      refine w_ge rfl (fun c0 => ?_) (fun c0 => ?_)
      · refine w_pu rfl rfl ?_
        refine w_rt rfl rfl trivial ?_
        exact ⟨by rw [show k = nl by omega], rfl⟩
      · exact absurd (by rw [hn]; exact nI_le (by omega) (by omega)) c0
    | succ d ih =>
      intro k hk
      refine w_pu rfl rfl ?_
      refine w_pu rfl rfl ?_
      refine m_g hw rfl rfl ?_
      refine w_ge rfl (fun c0 => ?_) (fun c0 => ?_)
      · exact absurd (by rw [hn] at c0; exact c0) (nI_ge (by omega) (by omega))
      · refine w_pu rfl rfl ?_
        refine m_gR 4 hw rfl rfl rfl ?_
        refine w_pu rfl rfl ?_
        refine m_ab 4 k hw rfl (Or.inr ⟨rfl, rfl⟩) (by omega) (by first | rfl | simp only [ix_lits, nI_mul, nI_add]) (by show k < 8; omega) ?_
        refine w_eq0 rfl (fun c1 => ?_) (fun c1 => ?_)
        · refine w_i1 rfl rfl rfl ?_
          refine w_go rfl ?_
          refine w_loc [TM, some (vI (nI p)), some (vI (enc (blF s p (k + 1)))), some (vI (nI (k + 1)))] (by rw [blF, if_neg (fun q => q.1 c1)]; rfl) ?_
          exact ih (k + 1) (by omega)
        · refine w_pu rfl rfl ?_
          refine m_gR 8 hw rfl rfl rfl ?_
          refine w_pu rfl rfl ?_
          refine m_ai 8 k hw rfl rfl (by omega) (by first | rfl | simp only [ix_lits, nI_mul, nI_add]) (by show k < 8; omega) ?_
          refine w_cst (v := 40) rfl rfl rfl ?_
          refine w_ge rfl (fun c2 => ?_) (fun c2 => ?_)
          · refine w_i1 rfl rfl rfl ?_
            refine w_go rfl ?_
            refine w_loc [TM, some (vI (nI p)), some (vI (enc (blF s p (k + 1)))), some (vI (nI (k + 1)))] (by rw [blF, if_neg (fun q => Int32.not_lt.mpr c2 q.2.1)]; rfl) ?_
            exact ih (k + 1) (by omega)
          · refine w_pu rfl rfl ?_
            refine w_pu rfl rfl ?_
            refine w_pu rfl rfl ?_
            refine w_pu rfl rfl ?_
            refine w_cp (vI (bI (betterO s p k (blF s p k)))) rfl rfl (by decide) (Nat.le_of_ble_eq_true rfl) rfl (Nat.le_of_ble_eq_true rfl) (Nat.le_of_ble_eq_true rfl) ⟨wM hw 0 (by omega), rfl⟩ rfl (mX_isBetter X hw s hq hsp p k (blF s p k) hp (by omega) (fun m q => Nat.lt_of_lt_of_le (blF_lt s p k m q) (by omega))) ?_
            refine w_eq0 rfl (fun c3 => ?_) (fun c3 => ?_)
            · refine w_i1 rfl rfl rfl ?_
              refine w_go rfl ?_
              refine w_loc [TM, some (vI (nI p)), some (vI (enc (blF s p (k + 1)))), some (vI (nI (k + 1)))] (by rw [blF, if_neg (fun q => absurd q.2.2 (by rw [bI_0 c3]; decide))]; rfl) ?_
              exact ih (k + 1) (by omega)
            · refine w_pu rfl rfl ?_
              refine w_pu rfl rfl ?_
              refine w_i1 rfl rfl rfl ?_
              refine w_go rfl ?_
              refine w_loc [TM, some (vI (nI p)), some (vI (enc (blF s p (k + 1)))), some (vI (nI (k + 1)))] (by rw [blF, if_pos ⟨c1, Int32.not_le.mp c2, bI_1 c3⟩]; rfl) ?_
              exact ih (k + 1) (by omega)
  refine w_cst (v := (-9)) rfl rfl rfl ?_
  refine w_pu rfl rfl ?_
  refine w_cst (v := 0) rfl rfl rfl ?_
  refine w_pu rfl rfl ?_
  exact loop nl 0 (by omega)
end
section
/-! The reference's tick. -/
theorem mX_credit (X : Nat × (Nat → Int32)) {h : Hp} {nl nf np : Nat} (hw : WF h nl nf np) (s : SS) (hn : s 0 23 = nI np) : wp X 96 0 [TM, none, none] [] (pS h s) (fun r h' => r = some (vI (credF s np)) ∧ h' = pS h s) := by
  have h3 := hw.2.2.2.2.2.2.2.2
  have loop : ∀ d k, k + d = np → wp X 96 7 [TM, some (vI (credF s k)), some (vI (nI k))] [] (pS h s) (fun r h' => r = some (vI (credF s np)) ∧ h' = pS h s) := by
    intro d
    induction d with
    | zero =>
      intro k hk
      refine w_pu rfl rfl ?_
      refine w_pu rfl rfl ?_
      refine m_g hw rfl rfl ?_
      refine w_ge rfl (fun c0 => ?_) (fun c0 => ?_)
      · refine w_pu rfl rfl ?_
        refine w_rt rfl rfl trivial ?_
        exact ⟨by rw [show k = np by omega], rfl⟩
      · exact absurd (by rw [hn]; exact nI_le (by omega) (by omega)) c0
    | succ d ih =>
      intro k hk
      refine w_pu rfl rfl ?_
      refine w_pu rfl rfl ?_
      refine m_g hw rfl rfl ?_
      refine w_ge rfl (fun c0 => ?_) (fun c0 => ?_)
      · exact absurd (by rw [hn] at c0; exact c0) (nI_ge (by omega) (by omega))
      · refine w_pu rfl rfl ?_
        refine w_pu rfl rfl ?_
        refine m_gR 23 hw rfl rfl rfl ?_
        refine w_pu rfl rfl ?_
        refine m_ai 23 k hw rfl rfl (by omega) (by first | rfl | simp only [ix_lits, nI_mul, nI_add]) (by show k < 3000; omega) ?_
        refine w_eq0 rfl (fun c1 => ?_) (fun c1 => ?_)
        · refine w_cst (v := 0) rfl rfl rfl ?_
          refine w_pu rfl rfl ?_
          refine w_pu rfl rfl ?_
          refine w_i1 rfl rfl rfl ?_
          refine w_go rfl ?_
          refine w_loc [TM, some (vI (credF s (k + 1))), some (vI (nI (k + 1)))] (by rw [credF, if_neg (fun q => q.1 c1)]; rfl) ?_
          exact ih (k + 1) (by omega)
        · refine w_pu rfl rfl ?_
          refine m_gR 24 hw rfl rfl rfl ?_
          refine w_pu rfl rfl ?_
          refine m_ai 24 k hw rfl rfl (by omega) (by first | rfl | simp only [ix_lits, nI_mul, nI_add]) (by show k < 3000; omega) ?_
          refine w_pu rfl rfl ?_
          refine m_g hw rfl rfl ?_
          refine w_lt rfl (fun c2 => ?_) (fun c2 => ?_)
          · refine w_cst (v := 0) rfl rfl rfl ?_
            refine w_pu rfl rfl ?_
            refine w_pu rfl rfl ?_
            refine w_i1 rfl rfl rfl ?_
            refine w_go rfl ?_
            refine w_loc [TM, some (vI (credF s (k + 1))), some (vI (nI (k + 1)))] (by rw [credF, if_neg (fun q => Int32.not_lt.mpr q.2 c2)]; rfl) ?_
            exact ih (k + 1) (by omega)
          · refine w_pu rfl rfl ?_
            refine m_gR 26 hw rfl rfl rfl ?_
            refine w_pu rfl rfl ?_
            refine m_ai 26 k hw rfl rfl (by omega) (by first | rfl | simp only [ix_lits, nI_mul, nI_add]) (by show k < 3000; omega) ?_
            refine w_go rfl ?_
            refine w_pu rfl rfl ?_
            refine w_pu rfl rfl ?_
            refine w_i1 rfl rfl rfl ?_
            refine w_go rfl ?_
            refine w_loc [TM, some (vI (credF s (k + 1))), some (vI (nI (k + 1)))] (by rw [credF, if_pos ⟨c1, Int32.not_lt.mp c2⟩]; rfl) ?_
            exact ih (k + 1) (by omega)
  refine w_pu rfl rfl ?_
  refine m_g hw rfl rfl ?_
  refine w_pu rfl rfl ?_
  refine w_cst (v := 0) rfl rfl rfl ?_
  refine w_pu rfl rfl ?_
  exact loop np 0 (by omega)
def finL (nl np d : Nat) (s : SS) : SS := match layL nl np d s with
  | (t, true) => t
  | (t, false) => layN nl np np (credF t np) t
theorem mX_laying (X : Nat × (Nat → Int32)) {h : Hp} {nl nf np : Nat} (hw : WF h nl nf np) (J : SS → Prop) (hJ : ∀ t, J t → t 0 0 = nI nl ∧ t 0 23 = nI np ∧ (∀ l, l < nl → ∃ q, t 8 l = nI q ∧ q ≤ 40 ∧ ∀ k, k < q → okp np (t 7 (41 * l + k))) ∧ (∀ l, l < nl → ¬ t 2 l = 0)) (hL : ∀ t p l, J t → p < np → (t 23 p = 2 ∨ t 23 p = 0) → blF t p nl = some l → J (layOnF t p l)) (s : SS) (hs : J s) : wp X 103 0 [TM, none, none, none] [] (pS h s) (fun r h' => r = none ∧ h' = pS h (layingF nl np s)) := by
  have h3 := hw.2.2.2.2.2.2.2.2
  have h4 := hw.2.2.2.2.2.2.1
  have loop2 : ∀ d k left (s : SS) (x : Option Vl), k + d = np → J s → wp X 103 52 [TM, some (vI left), some (vI (nI k)), x] [] (pS h s) (fun r h' => r = none ∧ h' = pS h (layN nl np d left s)) := by
    intro d
    induction d with
    | zero =>
      intro k left s x hk hs
      obtain ⟨j1, j2, j3, j4⟩ := hJ s hs
      refine w_pu rfl rfl ?_
      refine w_pu rfl rfl ?_
      refine m_g hw rfl rfl ?_
      refine w_ge rfl (fun c0 => ?_) (fun c0 => ?_)
      · refine w_rt rfl rfl trivial ?_
        exact ⟨rfl, rfl⟩
      · exact absurd (by rw [j2]; exact nI_le (by omega) (by omega)) c0
    | succ d ih =>
      intro k left s x hk hs
      obtain ⟨j1, j2, j3, j4⟩ := hJ s hs
      have ek : np - (d + 1) = k := by omega
      refine w_pu rfl rfl ?_
      refine w_pu rfl rfl ?_
      refine m_g hw rfl rfl ?_
      refine w_ge rfl (fun c0 => ?_) (fun c0 => ?_)
      · exact absurd (by rw [j2] at c0; exact c0) (nI_ge (by omega) (by omega))
      · refine w_pu rfl rfl ?_
        refine m_gR 23 hw rfl rfl rfl ?_
        refine w_pu rfl rfl ?_
        refine m_ai 23 k hw rfl rfl (by omega) (by first | rfl | simp only [ix_lits, nI_mul, nI_add]) (by show k < 3000; omega) ?_
        refine w_eq0 rfl (fun c1 => ?_) (fun c1 => ?_)
        · refine w_pu rfl rfl ?_
          refine w_pu rfl rfl ?_
          refine w_cp (vI (enc (blF s k nl))) rfl rfl (by decide) (Nat.le_of_ble_eq_true rfl) rfl (Nat.le_of_ble_eq_true rfl) (Nat.le_of_ble_eq_true rfl) ⟨wM hw 0 (by omega), rfl⟩ rfl (mX_bestLine X hw s j1 j3 j4 k (by omega)) ?_
          cases hb : blF s k nl with
          | none =>
            refine w_pu rfl rfl ?_
            refine w_pu rfl rfl ?_
            refine w_cst (v := (-9)) rfl rfl rfl ?_
            refine w_eq rfl (fun c10 => ?_) (fun c10 => ?_)
            · refine w_rt rfl rfl trivial ?_
              exact ⟨rfl, by rw [layN, ek, if_pos c1, hb]⟩
            · exact absurd rfl c10
          | some l =>
            have hl := blF_lt s k nl l hb
            obtain ⟨q, q1, q2, -⟩ := j3 l hl
            refine w_pu rfl rfl ?_
            refine w_pu rfl rfl ?_
            refine w_cst (v := (-9)) rfl rfl rfl ?_
            refine w_eq rfl (fun c20 => ?_) (fun c20 => ?_)
            · exact absurd c20 (nI_nem9 (by omega))
            · refine w_pu rfl rfl ?_
              refine m_gR 26 hw rfl rfl rfl ?_
              refine w_pu rfl rfl ?_
              refine m_ai 26 k hw rfl rfl (by omega) (by first | rfl | simp only [ix_lits, nI_mul, nI_add]) (by show k < 3000; omega) ?_
              refine w_pu rfl rfl ?_
              refine w_le rfl (fun c21 => ?_) (fun c21 => ?_)
              · refine w_pu rfl rfl ?_
                refine w_pu rfl rfl ?_
                refine w_pu rfl rfl ?_
                refine w_cvE (pS h (layOnF s k l)) rfl rfl (by decide) (Nat.le_of_ble_eq_true rfl) rfl (Nat.le_of_ble_eq_true rfl) (Nat.le_of_ble_eq_true rfl) ⟨wM hw 0 (by omega), rfl⟩ rfl (mX_layOn X hw s k l q (by omega) hl q1 q2) ?_
                refine w_pu rfl rfl ?_
                refine w_pu rfl rfl ?_
                refine m_gR 26 hw rfl rfl rfl ?_
                refine w_pu rfl rfl ?_
                refine m_ai 26 k hw rfl rfl (by omega) (by first | rfl | simp only [ix_lits, nI_mul, nI_add]) (by show k < 3000; omega) ?_
                refine w_pu rfl rfl ?_
                refine w_pu rfl rfl ?_
                refine w_i1 rfl rfl rfl ?_
                refine w_go rfl ?_
                rw [layN, ek, if_pos c1, hb]
                dsimp only
                rw [if_neg (Int32.not_lt.mpr c21)]
                exact ih (k + 1) _ _ _ (by omega) (hL s k l hs (by omega) (Or.inr c1) hb)
              · refine w_rt rfl rfl trivial ?_
                exact ⟨rfl, by rw [layN, ek, if_pos c1, hb]; dsimp only; rw [if_pos (Int32.not_le.mp c21)]⟩
        · refine w_go rfl ?_
          refine w_i1 rfl rfl rfl ?_
          refine w_go rfl ?_
          rw [layN, ek, if_neg c1]
          exact ih (k + 1) _ _ _ (by omega) hs
  have loop1 : ∀ d k (s : SS) (x : Option Vl), k + d = np → J s → wp X 103 2 [TM, some (vI (nI k)), x, none] [] (pS h s) (fun r h' => r = none ∧ h' = pS h (finL nl np d s)) := by
    intro d
    induction d with
    | zero =>
      intro k s x hk hs
      obtain ⟨j1, j2, j3, j4⟩ := hJ s hs
      refine w_pu rfl rfl ?_
      refine w_pu rfl rfl ?_
      refine m_g hw rfl rfl ?_
      refine w_ge rfl (fun c0 => ?_) (fun c0 => ?_)
      · refine w_pu rfl rfl ?_
        refine w_cp (vI (credF s np)) rfl rfl (by decide) (Nat.le_of_ble_eq_true rfl) rfl (Nat.le_of_ble_eq_true rfl) (Nat.le_of_ble_eq_true rfl) ⟨wM hw 0 (by omega), rfl⟩ rfl (mX_credit X hw s j2) ?_
        refine w_pu rfl rfl ?_
        refine w_cst (v := 0) rfl rfl rfl ?_
        refine w_pu rfl rfl ?_
        exact loop2 np 0 _ s _ (by omega) hs
      · exact absurd (by rw [j2]; exact nI_le (by omega) (by omega)) c0
    | succ d ih =>
      intro k s x hk hs
      obtain ⟨j1, j2, j3, j4⟩ := hJ s hs
      have ek : np - (d + 1) = k := by omega
      refine w_pu rfl rfl ?_
      refine w_pu rfl rfl ?_
      refine m_g hw rfl rfl ?_
      refine w_ge rfl (fun c0 => ?_) (fun c0 => ?_)
      · exact absurd (by rw [j2] at c0; exact c0) (nI_ge (by omega) (by omega))
      · refine w_pu rfl rfl ?_
        refine m_gR 23 hw rfl rfl rfl ?_
        refine w_pu rfl rfl ?_
        refine m_ai 23 k hw rfl rfl (by omega) (by first | rfl | simp only [ix_lits, nI_mul, nI_add]) (by show k < 3000; omega) ?_
        refine w_cst (v := 2) rfl rfl rfl ?_
        refine w_ne rfl (fun c1 => ?_) (fun c1 => ?_)
        · refine w_i1 rfl rfl rfl ?_
          refine w_go rfl ?_
          rw [finL, layL, ek, if_neg c1]
          exact ih (k + 1) _ _ (by omega) hs
        · refine w_pu rfl rfl ?_
          refine w_pu rfl rfl ?_
          refine w_cp (vI (enc (blF s k nl))) rfl rfl (by decide) (Nat.le_of_ble_eq_true rfl) rfl (Nat.le_of_ble_eq_true rfl) (Nat.le_of_ble_eq_true rfl) ⟨wM hw 0 (by omega), rfl⟩ rfl (mX_bestLine X hw s j1 j3 j4 k (by omega)) ?_
          cases hb : blF s k nl with
          | none =>
            refine w_pu rfl rfl ?_
            refine w_pu rfl rfl ?_
            refine w_cst (v := (-9)) rfl rfl rfl ?_
            refine w_ne rfl (fun c10 => ?_) (fun c10 => ?_)
            · exact absurd rfl c10
            · refine w_rt rfl rfl trivial ?_
              exact ⟨rfl, by rw [finL, layL, ek, if_pos c1, hb]⟩
          | some l =>
            have hl := blF_lt s k nl l hb
            obtain ⟨q, q1, q2, -⟩ := j3 l hl
            refine w_pu rfl rfl ?_
            refine w_pu rfl rfl ?_
            refine w_cst (v := (-9)) rfl rfl rfl ?_
            refine w_ne rfl (fun c20 => ?_) (fun c20 => ?_)
            · refine w_pu rfl rfl ?_
              refine w_pu rfl rfl ?_
              refine w_pu rfl rfl ?_
              refine w_cvE (pS h (layOnF s k l)) rfl rfl (by decide) (Nat.le_of_ble_eq_true rfl) rfl (Nat.le_of_ble_eq_true rfl) (Nat.le_of_ble_eq_true rfl) ⟨wM hw 0 (by omega), rfl⟩ rfl (mX_layOn X hw s k l q (by omega) hl q1 q2) ?_
              refine w_i1 rfl rfl rfl ?_
              refine w_go rfl ?_
              rw [finL, layL, ek, if_pos c1, hb]
              exact ih (k + 1) _ _ (by omega) (hL s k l hs (by omega) (Or.inl c1) hb)
            · exact absurd c20 (nI_nem9 (by omega))
  refine w_cst (v := 0) rfl rfl rfl ?_
  refine w_pu rfl rfl ?_
  exact loop1 np 0 s _ (by omega) hs
theorem mX_allowed (X : Nat × (Nat → Int32)) {h : Hp} {nl nf np : Nat} (hw : WF h nl nf np) (s : SS) (l t sp : Nat) (hl : l < nl) (ht : s 0 45 = nI t) (ht2 : t ≤ 20000) (hs1 : s 6 l = nI sp) (hs2 : sp ≤ 20) : wp X 104 0 [TM, some (vI (nI l)), none, none] [] (pS h s) (fun r h' => r = some (vI (allowedF s l t)) ∧ h' = pS h s) := by
  have h4 := hw.2.2.2.2.2.2.1
  have em : min (nat (s 6 l)) t - 1 = min sp t - 1 := by rw [hs1, nat_nI (by omega)]
  have loop : ∀ d k, k + d = min sp t - 1 → s 1 l = 3 → wp X 104 26 [TM, some (vI (nI l)), some (vI (alw s l t k)), some (vI (nI (k + 1)))] [] (pS h s) (fun r h' => r = some (vI (allowedF s l t)) ∧ h' = pS h s) := by
    intro d
    induction d with
    | zero =>
      intro k hk hkd
      have ek : min sp t - 1 = k := by omega
      refine w_pu rfl rfl ?_
      refine w_pu rfl rfl ?_
      refine m_gR 6 hw rfl rfl rfl ?_
      refine w_pu rfl rfl ?_
      refine m_ai 6 l hw rfl rfl (by omega) (by first | rfl | simp only [ix_lits, nI_mul, nI_add]) (by show l < 8; omega) ?_
      refine w_ge rfl (fun c0 => ?_) (fun c0 => ?_)
      · refine w_pu rfl rfl ?_
        refine w_ge0 rfl (fun c1 => ?_) (fun c1 => ?_)
        · refine w_pu rfl rfl ?_
          refine w_pu rfl rfl ?_
          refine m_gR 2 hw rfl rfl rfl ?_
          refine w_pu rfl rfl ?_
          refine m_ai 2 l hw rfl rfl (by omega) (by first | rfl | simp only [ix_lits, nI_mul, nI_add]) (by show l < 8; omega) ?_
          refine w_ge rfl (fun c2 => ?_) (fun c2 => ?_)
          · refine w_pu rfl rfl ?_
            refine m_gR 2 hw rfl rfl rfl ?_
            refine w_pu rfl rfl ?_
            refine m_ai 2 l hw rfl rfl (by omega) (by first | rfl | simp only [ix_lits, nI_mul, nI_add]) (by show l < 8; omega) ?_
            refine w_rt rfl rfl trivial ?_
            exact ⟨by rw [allowedF, if_pos hkd, em, ek, if_neg (Int32.not_lt.mpr c1), if_neg (Int32.not_lt.mpr c2)], rfl⟩
          · refine w_pu rfl rfl ?_
            refine w_go rfl ?_
            refine w_rt rfl rfl trivial ?_
            exact ⟨by rw [allowedF, if_pos hkd, em, ek, if_neg (Int32.not_lt.mpr c1), if_pos (Int32.not_le.mp c2)], rfl⟩
        · refine w_cst (v := 0) rfl rfl rfl ?_
          refine w_go rfl ?_
          refine w_rt rfl rfl trivial ?_
          exact ⟨by rw [allowedF, if_pos hkd, em, ek, if_pos (Int32.not_le.mp c1)], rfl⟩
      · refine w_pu rfl rfl ?_
        refine w_pu rfl rfl ?_
        refine m_g hw rfl rfl ?_
        refine w_ge rfl (fun c3 => ?_) (fun c3 => ?_)
        · refine w_pu rfl rfl ?_
          refine w_ge0 rfl (fun c4 => ?_) (fun c4 => ?_)
          · refine w_pu rfl rfl ?_
            refine w_pu rfl rfl ?_
            refine m_gR 2 hw rfl rfl rfl ?_
            refine w_pu rfl rfl ?_
            refine m_ai 2 l hw rfl rfl (by omega) (by first | rfl | simp only [ix_lits, nI_mul, nI_add]) (by show l < 8; omega) ?_
            refine w_ge rfl (fun c5 => ?_) (fun c5 => ?_)
            · refine w_pu rfl rfl ?_
              refine m_gR 2 hw rfl rfl rfl ?_
              refine w_pu rfl rfl ?_
              refine m_ai 2 l hw rfl rfl (by omega) (by first | rfl | simp only [ix_lits, nI_mul, nI_add]) (by show l < 8; omega) ?_
              refine w_rt rfl rfl trivial ?_
              exact ⟨by rw [allowedF, if_pos hkd, em, ek, if_neg (Int32.not_lt.mpr c4), if_neg (Int32.not_lt.mpr c5)], rfl⟩
            · refine w_pu rfl rfl ?_
              refine w_go rfl ?_
              refine w_rt rfl rfl trivial ?_
              exact ⟨by rw [allowedF, if_pos hkd, em, ek, if_neg (Int32.not_lt.mpr c4), if_pos (Int32.not_le.mp c5)], rfl⟩
          · refine w_cst (v := 0) rfl rfl rfl ?_
            refine w_go rfl ?_
            refine w_rt rfl rfl trivial ?_
            exact ⟨by rw [allowedF, if_pos hkd, em, ek, if_pos (Int32.not_le.mp c4)], rfl⟩
        · have a0 : ¬ sp ≤ k + 1 := fun q => c0 (by rw [hs1]; exact nI_le q (by omega))
          have a1 : ¬ t ≤ k + 1 := fun q => c3 (by rw [ht]; exact nI_le q (by omega))
          refine w_pu rfl rfl ?_
          refine w_pu rfl rfl ?_
          refine m_gR 22 hw rfl rfl rfl ?_
          refine w_cst (v := 20) rfl rfl rfl ?_
          refine w_pu rfl rfl ?_
          refine w_pu rfl rfl ?_
          refine w_pu rfl rfl ?_
          refine m_g hw rfl rfl ?_
          refine w_pu rfl rfl ?_
          refine w_pu rfl rfl ?_
          refine w_cst (v := 20) rfl rfl rfl ?_
          refine w_op rfl rfl (by decide) ?_
          refine w_top (nI ((t - (k + 1)) % 20)) (by rw [ht, nI_sub (by omega)]; exact pk_rem (d := 20) (by omega) (by omega) (by omega)) ?_
          refine w_pu rfl rfl ?_
          refine m_ai 22 ((20 * l) + ((t - (k + 1)) % 20)) hw rfl rfl (by omega) (by first | rfl | simp only [ix_lits, nI_mul, nI_add]) (by show ((20 * l) + ((t - (k + 1)) % 20)) < 160; omega) ?_
          refine w_pu rfl rfl ?_
          refine w_pu rfl rfl ?_
          refine w_i1 rfl rfl rfl ?_
          refine w_go rfl ?_
          exact absurd hk (by omega)
    | succ d ih =>
      intro k hk hkd
      refine w_pu rfl rfl ?_
      refine w_pu rfl rfl ?_
      refine m_gR 6 hw rfl rfl rfl ?_
      refine w_pu rfl rfl ?_
      refine m_ai 6 l hw rfl rfl (by omega) (by first | rfl | simp only [ix_lits, nI_mul, nI_add]) (by show l < 8; omega) ?_
      refine w_ge rfl (fun c0 => ?_) (fun c0 => ?_)
      · exact absurd (by rw [hs1] at c0; exact c0) (nI_ge (by omega) (by omega))
      · refine w_pu rfl rfl ?_
        refine w_pu rfl rfl ?_
        refine m_g hw rfl rfl ?_
        refine w_ge rfl (fun c1 => ?_) (fun c1 => ?_)
        · exact absurd (by rw [ht] at c1; exact c1) (nI_ge (by omega) (by omega))
        · have a0 : ¬ sp ≤ k + 1 := fun q => c0 (by rw [hs1]; exact nI_le q (by omega))
          have a1 : ¬ t ≤ k + 1 := fun q => c1 (by rw [ht]; exact nI_le q (by omega))
          refine w_pu rfl rfl ?_
          refine w_pu rfl rfl ?_
          refine m_gR 22 hw rfl rfl rfl ?_
          refine w_cst (v := 20) rfl rfl rfl ?_
          refine w_pu rfl rfl ?_
          refine w_pu rfl rfl ?_
          refine w_pu rfl rfl ?_
          refine m_g hw rfl rfl ?_
          refine w_pu rfl rfl ?_
          refine w_pu rfl rfl ?_
          refine w_cst (v := 20) rfl rfl rfl ?_
          refine w_op rfl rfl (by decide) ?_
          refine w_top (nI ((t - (k + 1)) % 20)) (by rw [ht, nI_sub (by omega)]; exact pk_rem (d := 20) (by omega) (by omega) (by omega)) ?_
          refine w_pu rfl rfl ?_
          refine m_ai 22 ((20 * l) + ((t - (k + 1)) % 20)) hw rfl rfl (by omega) (by first | rfl | simp only [ix_lits, nI_mul, nI_add]) (by show ((20 * l) + ((t - (k + 1)) % 20)) < 160; omega) ?_
          refine w_pu rfl rfl ?_
          refine w_pu rfl rfl ?_
          refine w_i1 rfl rfl rfl ?_
          refine w_go rfl ?_
          exact ih (k + 1) (by omega) hkd
  refine w_pu rfl rfl ?_
  refine m_gR 1 hw rfl rfl rfl ?_
  refine w_pu rfl rfl ?_
  refine m_ai 1 l hw rfl rfl (by omega) (by first | rfl | simp only [ix_lits, nI_mul, nI_add]) (by show l < 8; omega) ?_
  refine w_cst (v := 3) rfl rfl rfl ?_
  refine w_eq rfl (fun c0 => ?_) (fun c0 => ?_)
  · refine w_pu rfl rfl ?_
    refine m_gR 5 hw rfl rfl rfl ?_
    refine w_pu rfl rfl ?_
    refine m_ai 5 l hw rfl rfl (by omega) (by first | rfl | simp only [ix_lits, nI_mul, nI_add]) (by show l < 8; omega) ?_
    refine w_pu rfl rfl ?_
    refine w_cst (v := 1) rfl rfl rfl ?_
    refine w_pu rfl rfl ?_
    exact loop (min sp t - 1) 0 (by omega) c0
  · refine w_pu rfl rfl ?_
    refine m_gR 2 hw rfl rfl rfl ?_
    refine w_pu rfl rfl ?_
    refine m_ai 2 l hw rfl rfl (by omega) (by first | rfl | simp only [ix_lits, nI_mul, nI_add]) (by show l < 8; omega) ?_
    refine w_rt rfl rfl trivial ?_
    exact ⟨by rw [allowedF, if_neg c0], rfl⟩
theorem shF_step (s : SS) (l k : Nat) : uS (shF s l k) 7 (41 * l + k) (shF s l k 7 (41 * l + k + 1)) = shF s l (k + 1) := by
  funext j i
  unfold uS shF
  by_cases hj : j = 7
  · subst hj
    by_cases h1 : i = 41 * l + k
    · subst h1
      rw [if_pos ⟨rfl, rfl⟩, if_neg (by omega), if_pos ⟨rfl, by omega, by omega⟩]
    · rw [if_neg (fun q => h1 q.2)]
      by_cases h2 : 41 * l ≤ i ∧ i < 41 * l + k
      · rw [if_pos ⟨rfl, h2⟩, if_pos ⟨rfl, h2.1, by omega⟩]
      · rw [if_neg (fun q => h2 q.2), if_neg (fun q => h2 ⟨q.2.1, by omega⟩)]
  · rw [if_neg (fun q => hj q.1), if_neg (fun q => hj q.1), if_neg (fun q => hj q.1)]
theorem shF_0 (s : SS) (l : Nat) : shF s l 0 = s := by
  funext j i
  unfold shF
  rw [if_neg (by omega)]
theorem shF_j (s : SS) (l n : Nat) {j : Nat} (i : Nat) (hj : ¬ j = 7) : shF s l n j i = s j i := if_neg (fun q => hj q.1)
theorem mX_sendFirst (X : Nat × (Nat → Int32)) {h : Hp} {nl nf np : Nat} (hw : WF h nl nf np) (s : SS) (l q f u : Nat) (hl : l < nl) (hq1 : s 8 l = nI q) (hq0 : 1 ≤ q) (hq2 : q ≤ 40) (hf : s 14 l = nI f) (hf2 : f < 200) (hu : s 15 l = nI u) (hu2 : u < 200) (hp : okp np (s 7 (41 * l))) : wp X 105 0 [TM, some (vI (nI l)), none, none] [] (pS h s) (fun r h' => r = none ∧ h' = pS h (sFF s l)) := by
  have h4 := hw.2.2.2.2.2.2.1
  have h3 := hw.2.2.2.2.2.2.2.2
  have loop : ∀ d k (a : SS), k + d = q - 1 → a = shF (uS s 8 l (s 8 l - 1)) l k → wp X 105 22 [TM, some (vI (nI l)), some (vI (s 7 (41 * l))), some (vI (nI k))] [] (pS h a) (fun r h' => r = none ∧ h' = pS h (sFF s l)) := by
    intro d
    induction d with
    | zero =>
      intro k a hk ha
      have ek : k = q - 1 := by omega
      have a8 : a 8 l = nI (q - 1) := by
        rw [ha, shF_j _ _ _ _ (by decide), uS_eq, hq1]
        exact nI_sub (b := 1) hq0
      have a14 : a 14 l = nI f := by rw [ha, shF_j _ _ _ _ (by decide), uS_j _ _ _ (by decide), hf]
      have a15 : a 15 l = nI u := by rw [ha, shF_j _ _ _ _ (by decide), uS_j _ _ _ (by decide), hu]
      have a16 : a 16 l = s 16 l := by rw [ha, shF_j _ _ _ _ (by decide), uS_j _ _ _ (by decide)]
      have a45 : a 0 45 = s 0 45 := by rw [ha, shF_j _ _ _ _ (by decide), uS_j _ _ _ (by decide)]
      have a3 : a 3 l = s 3 l := by rw [ha, shF_j _ _ _ _ (by decide), uS_j _ _ _ (by decide)]
      have ew : wayF s l = 200 * l + (f + u) % 200 := by
        unfold wayF
        rw [hf, hu, nat_nI (by omega), nat_nI (by omega)]
      refine w_pu rfl rfl ?_
      refine w_pu rfl rfl ?_
      refine m_gR 8 hw rfl rfl rfl ?_
      refine w_pu rfl rfl ?_
      refine m_ai 8 l hw rfl rfl (by omega) (by first | rfl | simp only [ix_lits, nI_mul, nI_add]) (by show l < 8; omega) ?_
      refine w_ge rfl (fun c0 => ?_) (fun c0 => ?_)
      · refine w_pu rfl rfl ?_
        refine m_gR 9 hw rfl rfl rfl ?_
        refine w_pu rfl rfl ?_
        refine w_cst (v := 0) rfl rfl rfl ?_
        refine m_si 9 l hw rfl rfl (by omega) (by first | rfl | simp only [ix_lits, nI_mul, nI_add]) (by show l < 8; omega) ?_
        refine w_cst (v := 200) rfl rfl rfl ?_
        refine w_pu rfl rfl ?_
        refine w_pu rfl rfl ?_
        refine w_pu rfl rfl ?_
        refine m_gR 14 hw rfl rfl rfl ?_
        refine w_pu rfl rfl ?_
        refine m_ai 14 l hw rfl rfl (by omega) (by first | rfl | simp only [ix_lits, nI_mul, nI_add]) (by show l < 8; omega) ?_
        refine w_top (a 14 l) rfl ?_
        refine w_pu rfl rfl ?_
        refine m_gR 15 hw rfl rfl rfl ?_
        refine w_pu rfl rfl ?_
        refine m_ai 15 l hw rfl rfl (by omega) (by first | rfl | simp only [ix_lits, nI_mul, nI_add]) (by show l < 8; omega) ?_
        refine w_top (a 15 l) rfl ?_
        refine w_pu rfl rfl ?_
        refine w_cst (v := 200) rfl rfl rfl ?_
        refine w_op rfl rfl (by decide) ?_
        refine w_top (nI ((f + u) % 200)) (by rw [a14, a15, nI_add]; exact pk_rem (d := 200) (by omega) (by omega) (by omega)) ?_
        refine w_pu rfl rfl ?_
        refine w_pu rfl rfl ?_
        refine w_pu rfl rfl ?_
        refine m_gR 15 hw rfl rfl rfl ?_
        refine w_pu rfl rfl ?_
        refine w_pu rfl rfl ?_
        refine m_ai 15 l hw rfl rfl (by omega) (by first | rfl | simp only [ix_lits, nI_mul, nI_add]) (by show l < 8; omega) ?_
        refine w_top (a 15 l) rfl ?_
        refine w_cst (v := 1) rfl rfl rfl ?_
        refine w_pu rfl rfl ?_
        refine m_si 15 l hw rfl rfl (by omega) (by first | rfl | simp only [ix_lits, nI_mul, nI_add]) (by show l < 8; omega) ?_
        refine w_pu rfl rfl ?_
        refine m_gR 10 hw rfl rfl rfl ?_
        refine w_pu rfl rfl ?_
        refine w_pu rfl rfl ?_
        refine m_si 10 ((200 * l) + ((f + u) % 200)) hw rfl rfl (by omega) (by first | rfl | simp only [ix_lits, nI_mul, nI_add]) (by show ((200 * l) + ((f + u) % 200)) < 1600; omega) ?_
        refine w_pu rfl rfl ?_
        refine m_gR 11 hw rfl rfl rfl ?_
        refine w_pu rfl rfl ?_
        refine w_pu rfl rfl ?_
        refine m_gR 16 hw rfl rfl rfl ?_
        refine w_pu rfl rfl ?_
        refine m_ai 16 l hw rfl rfl (by omega) (by first | rfl | simp only [ix_lits, nI_mul, nI_add]) (by show l < 8; omega) ?_
        refine w_top (a 16 l) rfl ?_
        refine m_si 11 ((200 * l) + ((f + u) % 200)) hw rfl rfl (by omega) (by first | rfl | simp only [ix_lits, nI_mul, nI_add]) (by show ((200 * l) + ((f + u) % 200)) < 1600; omega) ?_
        refine w_pu rfl rfl ?_
        refine m_gR 12 hw rfl rfl rfl ?_
        refine w_pu rfl rfl ?_
        refine w_pu rfl rfl ?_
        refine m_g hw rfl rfl ?_
        refine w_top (a 0 45) rfl ?_
        refine w_pu rfl rfl ?_
        refine m_gR 3 hw rfl rfl rfl ?_
        refine w_pu rfl rfl ?_
        refine m_ai 3 l hw rfl rfl (by omega) (by first | rfl | simp only [ix_lits, nI_mul, nI_add]) (by show l < 8; omega) ?_
        refine w_top (a 3 l) rfl ?_
        refine w_pu rfl rfl ?_
        refine m_si 12 ((200 * l) + ((f + u) % 200)) hw rfl rfl (by omega) (by first | rfl | simp only [ix_lits, nI_mul, nI_add]) (by show ((200 * l) + ((f + u) % 200)) < 1600; omega) ?_
        refine w_pu rfl rfl ?_
        refine m_gR 13 hw rfl rfl rfl ?_
        refine w_pu rfl rfl ?_
        refine w_cst (v := 0) rfl rfl rfl ?_
        refine m_si 13 ((200 * l) + ((f + u) % 200)) hw rfl rfl (by omega) (by first | rfl | simp only [ix_lits, nI_mul, nI_add]) (by show ((200 * l) + ((f + u) % 200)) < 1600; omega) ?_
        refine w_pu rfl rfl ?_
        refine w_cst (v := (-2)) rfl rfl rfl ?_
        refine w_eq rfl (fun c1 => ?_) (fun c1 => ?_)
        · refine w_pu rfl rfl ?_
          refine m_gR 16 hw rfl rfl rfl ?_
          refine w_pu rfl rfl ?_
          refine w_pu rfl rfl ?_
          refine m_ai 16 l hw rfl rfl (by omega) (by first | rfl | simp only [ix_lits, nI_mul, nI_add]) (by show l < 8; omega) ?_
          refine w_top (a 16 l) rfl ?_
          refine w_cst (v := 1) rfl rfl rfl ?_
          refine w_pu rfl rfl ?_
          refine m_si 16 l hw rfl rfl (by omega) (by first | rfl | simp only [ix_lits, nI_mul, nI_add]) (by show l < 8; omega) ?_
          refine w_rt rfl rfl trivial ?_
          refine ⟨rfl, ?_⟩
          unfold sFF
          dsimp only
          rw [ew, hq1, nat_nI (by omega), ← ek, a16, a45, a3, a15, hu]
          rw [if_pos c1, ha, hq1]
        · obtain ⟨pk, hpk1, hpk⟩ := hp.resolve_left c1
          refine w_pu rfl rfl ?_
          refine m_gR 29 hw rfl rfl rfl ?_
          refine w_pu rfl rfl ?_
          refine w_pu rfl rfl ?_
          refine m_gR 16 hw rfl rfl rfl ?_
          refine w_pu rfl rfl ?_
          refine m_ai 16 l hw rfl rfl (by omega) (by first | rfl | simp only [ix_lits, nI_mul, nI_add]) (by show l < 8; omega) ?_
          refine w_top (a 16 l) rfl ?_
          refine m_si 29 pk hw rfl rfl (by omega) (by first | rfl | simp only [ix_lits, nI_mul, nI_add, hpk]) (by show pk < 3000; omega) ?_
          refine w_pu rfl rfl ?_
          refine m_gR 16 hw rfl rfl rfl ?_
          refine w_pu rfl rfl ?_
          refine w_pu rfl rfl ?_
          refine m_ai 16 l hw rfl rfl (by omega) (by first | rfl | simp only [ix_lits, nI_mul, nI_add]) (by show l < 8; omega) ?_
          refine w_top (a 16 l) rfl ?_
          refine w_cst (v := 1) rfl rfl rfl ?_
          refine w_pu rfl rfl ?_
          refine m_si 16 l hw rfl rfl (by omega) (by first | rfl | simp only [ix_lits, nI_mul, nI_add]) (by show l < 8; omega) ?_
          refine w_rt rfl rfl trivial ?_
          refine ⟨rfl, ?_⟩
          unfold sFF
          dsimp only
          rw [ew, hq1, nat_nI (by omega), ← ek, a16, a45, a3, a15, hu]
          rw [if_neg (by rw [hpk]; exact nI_nem2 (by omega)), ha, hq1, hpk, nat_nI (by omega)]
      · exact absurd (by rw [a8]; exact nI_le (by omega) (by omega)) c0
    | succ d ih =>
      intro k a hk ha
      have a8 : a 8 l = nI (q - 1) := by
        rw [ha, shF_j _ _ _ _ (by decide), uS_eq, hq1]
        exact nI_sub (b := 1) hq0
      refine w_pu rfl rfl ?_
      refine w_pu rfl rfl ?_
      refine m_gR 8 hw rfl rfl rfl ?_
      refine w_pu rfl rfl ?_
      refine m_ai 8 l hw rfl rfl (by omega) (by first | rfl | simp only [ix_lits, nI_mul, nI_add]) (by show l < 8; omega) ?_
      refine w_ge rfl (fun c0 => ?_) (fun c0 => ?_)
      · exact absurd (by rw [a8] at c0; exact c0) (nI_ge (by omega) (by omega))
      · refine w_pu rfl rfl ?_
        refine m_gR 7 hw rfl rfl rfl ?_
        refine w_cst (v := 41) rfl rfl rfl ?_
        refine w_pu rfl rfl ?_
        refine w_pu rfl rfl ?_
        refine w_pu rfl rfl ?_
        refine w_pu rfl rfl ?_
        refine w_pu rfl rfl ?_
        refine m_gR 7 hw rfl rfl rfl ?_
        refine w_cst (v := 41) rfl rfl rfl ?_
        refine w_pu rfl rfl ?_
        refine w_pu rfl rfl ?_
        refine w_pu rfl rfl ?_
        refine w_pu rfl rfl ?_
        refine w_cst (v := 1) rfl rfl rfl ?_
        refine w_pu rfl rfl ?_
        refine m_ai 7 (((41 * l) + k) + 1) hw rfl rfl (by omega) (by first | rfl | simp only [ix_lits, nI_mul, nI_add]) (by show (((41 * l) + k) + 1) < 328; omega) ?_
        refine m_si 7 ((41 * l) + k) hw rfl rfl (by omega) (by first | rfl | simp only [ix_lits, nI_mul, nI_add]) (by show ((41 * l) + k) < 328; omega) ?_
        refine w_i1 rfl rfl rfl ?_
        refine w_go rfl ?_
        exact ih (k + 1) _ (by omega) (by rw [← shF_step, ← ha])
  refine w_pu rfl rfl ?_
  refine m_gR 7 hw rfl rfl rfl ?_
  refine w_cst (v := 41) rfl rfl rfl ?_
  refine w_pu rfl rfl ?_
  refine w_pu rfl rfl ?_
  refine m_ai 7 (41 * l) hw rfl rfl (by omega) (by first | rfl | simp only [ix_lits, nI_mul, nI_add]) (by show (41 * l) < 328; omega) ?_
  refine w_pu rfl rfl ?_
  refine w_pu rfl rfl ?_
  refine m_gR 8 hw rfl rfl rfl ?_
  refine w_pu rfl rfl ?_
  refine w_pu rfl rfl ?_
  refine m_ai 8 l hw rfl rfl (by omega) (by first | rfl | simp only [ix_lits, nI_mul, nI_add]) (by show l < 8; omega) ?_
  refine w_cst (v := 1) rfl rfl rfl ?_
  refine w_pu rfl rfl ?_
  refine m_si 8 l hw rfl rfl (by omega) (by first | rfl | simp only [ix_lits, nI_mul, nI_add]) (by show l < 8; omega) ?_
  refine w_cst (v := 0) rfl rfl rfl ?_
  refine w_pu rfl rfl ?_
  exact loop (q - 1) 0 _ (by omega) (by rw [shF_0])
end
section
/-! The reference's tick, second half. -/
def LQ (s : SS) (l np : Nat) : Prop := (∃ q, s 8 l = nI q ∧ q ≤ 40 ∧ ∀ k, k < q → okp np (s 7 (41 * l + k))) ∧ (∃ u, s 15 l = nI u ∧ u ≤ 200) ∧ ∃ f, s 14 l = nI f ∧ f < 200
theorem LQ_congr {s t : SS} {l np : Nat} (h7 : ∀ i, t 7 i = s 7 i) (h8 : t 8 l = s 8 l) (h15 : t 15 l = s 15 l) (h14 : t 14 l = s 14 l) (h : LQ s l np) : LQ t l np := by
  obtain ⟨⟨q, a, b, c⟩, ⟨u, d, e⟩, f, g, i⟩ := h
  exact ⟨⟨q, h8.trans a, b, fun k hk => by rw [h7]; exact c k hk⟩, ⟨u, h15.trans d, e⟩, f, h14.trans g, i⟩
theorem sFF_j (s : SS) (l : Nat) {j : Nat} (k : Nat) (hj : ¬ j = 7 ∧ ¬ j = 8 ∧ ¬ j = 9 ∧ ¬ j = 10 ∧ ¬ j = 11 ∧ ¬ j = 12 ∧ ¬ j = 13 ∧ ¬ j = 15 ∧ ¬ j = 16 ∧ ¬ j = 29) : sFF s l j k = s j k := by
  obtain ⟨h1, h2, h3, h4, h5, h6, h7, h8, h9, h10⟩ := hj
  unfold sFF
  split <;> simp only [uS_j _ _ _ h1, uS_j _ _ _ h2, uS_j _ _ _ h3, uS_j _ _ _ h4, uS_j _ _ _ h5, uS_j _ _ _ h6, uS_j _ _ _ h7, uS_j _ _ _ h8, uS_j _ _ _ h9, uS_j _ _ _ h10, shF_j _ _ _ _ h1]
theorem sFF_8 (s : SS) (l : Nat) : sFF s l 8 l = s 8 l - 1 := by
  unfold sFF
  split <;> rw [uS_j _ _ _ (by decide)]
  · rw [uS_j _ _ _ (by decide), uS_j _ _ _ (by decide), uS_j _ _ _ (by decide), uS_j _ _ _ (by decide), uS_j _ _ _ (by decide), uS_j _ _ _ (by decide), shF_j _ _ _ _ (by decide), uS_eq]
  · rw [uS_j _ _ _ (by decide), uS_j _ _ _ (by decide), uS_j _ _ _ (by decide), uS_j _ _ _ (by decide), uS_j _ _ _ (by decide), uS_j _ _ _ (by decide), uS_j _ _ _ (by decide), shF_j _ _ _ _ (by decide), uS_eq]
theorem sFF_15 (s : SS) (l : Nat) : sFF s l 15 l = s 15 l + 1 := by
  unfold sFF
  split <;> rw [uS_j _ _ _ (by decide)]
  · rw [uS_j _ _ _ (by decide), uS_j _ _ _ (by decide), uS_j _ _ _ (by decide), uS_j _ _ _ (by decide), uS_eq]
  · rw [uS_j _ _ _ (by decide), uS_j _ _ _ (by decide), uS_j _ _ _ (by decide), uS_j _ _ _ (by decide), uS_j _ _ _ (by decide), uS_eq]
theorem sFF_7 (s : SS) (l i : Nat) : sFF s l 7 i = if 41 * l ≤ i ∧ i < 41 * l + (nat (s 8 l) - 1) then s 7 (i + 1) else s 7 i := by
  unfold sFF
  split <;> rw [uS_j _ _ _ (by decide)]
  · rw [uS_j _ _ _ (by decide), uS_j _ _ _ (by decide), uS_j _ _ _ (by decide), uS_j _ _ _ (by decide), uS_j _ _ _ (by decide), uS_j _ _ _ (by decide)]
    unfold shF
    by_cases q : 41 * l ≤ i ∧ i < 41 * l + (nat (s 8 l) - 1)
    · rw [if_pos ⟨rfl, q⟩, if_pos q, uS_j _ _ _ (by decide)]
    · rw [if_neg (fun z => q z.2), if_neg q, uS_j _ _ _ (by decide)]
  · rw [uS_j _ _ _ (by decide), uS_j _ _ _ (by decide), uS_j _ _ _ (by decide), uS_j _ _ _ (by decide), uS_j _ _ _ (by decide), uS_j _ _ _ (by decide), uS_j _ _ _ (by decide)]
    unfold shF
    by_cases q : 41 * l ≤ i ∧ i < 41 * l + (nat (s 8 l) - 1)
    · rw [if_pos ⟨rfl, q⟩, if_pos q, uS_j _ _ _ (by decide)]
    · rw [if_neg (fun z => q z.2), if_neg q, uS_j _ _ _ (by decide)]
theorem LQ_sFF {s : SS} {l np q u : Nat} (hq : s 8 l = nI q) (hq1 : 1 ≤ q) (hq4 : q ≤ 40) (hu : s 15 l = nI u) (hu1 : u < 200) (h : LQ s l np) : LQ (sFF s l) l np := by
  obtain ⟨⟨q', a, b, c⟩, -, f, g, i⟩ := h
  have e : q' = q := by
    exact (nI_eq (by omega) (by omega)).mp (a.symm.trans hq)
  subst e
  refine ⟨⟨q' - 1, ?_, by omega, fun k hk => ?_⟩, ⟨u + 1, by rw [sFF_15, hu, nI_1], by omega⟩, f, ?_, i⟩
  · rw [sFF_8, hq]
    exact nI_sub (b := 1) hq1
  · rw [sFF_7, hq, nat_nI (by omega), if_pos ⟨by omega, by omega⟩]
    exact c (k + 1) (by omega)
  · rw [sFF_j _ _ _ (by decide)]
    exact g
theorem mX_sending (X : Nat × (Nat → Int32)) {h : Hp} {nl nf np : Nat} (hw : WF h nl nf np) (s : SS) (l t sp : Nat) (hl : l < nl) (ht : s 0 45 = nI t) (ht2 : t ≤ 20000) (hs1 : s 6 l = nI sp) (hs2 : sp ≤ 20) (hLQ : LQ s l np) : wp X 106 0 [TM, some (vI (nI l)), none, none, none] [] (pS h s) (fun r h' => r = none ∧ h' = pS h (sendingF t l s)) := by
  have h4 := hw.2.2.2.2.2.2.1
  have h3 := hw.2.2.2.2.2.2.2.2
  have out : ∀ (s : SS) (left : Int32) (x y : Option Vl), ¬ 0 < left → wp X 106 34 [TM, some (vI (nI l)), some (vI left), x, y] [] (pS h s) (fun r h' => r = none ∧ h' = pS h s) := by
    intro s left x y hleft
    refine w_pu rfl rfl ?_
    refine w_le0 rfl (fun c0 => ?_) (fun c0 => ?_)
    · refine w_rt rfl rfl trivial ?_
      exact ⟨rfl, rfl⟩
    · exact absurd (Int32.not_le.mp c0) hleft
  have loop : ∀ n left (s : SS) (x y : Option Vl) (q : Nat), s 8 l = nI q → q ≤ 40 → q + 1 ≤ n → s 0 45 = nI t → LQ s l np → wp X 106 34 [TM, some (vI (nI l)), some (vI left), x, y] [] (pS h s) (fun r h' => r = none ∧ h' = pS h (sndF t l n left s)) := by
    intro n
    induction n with
    | zero => intro left s x y q hq hq40 hn; exact absurd hn (by omega)
    | succ n ih =>
      intro left s x y q hq hq40 hn ht hLQ
      obtain ⟨⟨q', q1, q2, q3⟩, ⟨u, u1, u2⟩, f, f1, f2⟩ := id hLQ
      have eq : q' = q := (nI_eq (by omega) (by omega)).mp (q1.symm.trans hq)
      subst eq
      refine w_pu rfl rfl ?_
      refine w_le0 rfl (fun c0 => ?_) (fun c0 => ?_)
      · refine w_rt rfl rfl trivial ?_
        exact ⟨rfl, by rw [sndF, if_neg (fun z => Int32.not_lt.mpr c0 z.1)]⟩
      · refine w_pu rfl rfl ?_
        refine m_gR 8 hw rfl rfl rfl ?_
        refine w_pu rfl rfl ?_
        refine m_ai 8 l hw rfl rfl (by omega) (by first | rfl | simp only [ix_lits, nI_mul, nI_add]) (by show l < 8; omega) ?_
        refine w_le0 rfl (fun c1 => ?_) (fun c1 => ?_)
        · refine w_rt rfl rfl trivial ?_
          exact ⟨rfl, by rw [sndF, if_neg (fun z => Int32.not_lt.mpr c1 z.2.1)]⟩
        · have hq0 : 1 ≤ q' := by
            rcases Nat.eq_zero_or_pos q' with z | z
            · exact absurd (by rw [hq, z]; decide) c1
            · exact z
          refine w_pu rfl rfl ?_
          refine m_gR 15 hw rfl rfl rfl ?_
          refine w_pu rfl rfl ?_
          refine m_ai 15 l hw rfl rfl (by omega) (by first | rfl | simp only [ix_lits, nI_mul, nI_add]) (by show l < 8; omega) ?_
          refine w_cst (v := 200) rfl rfl rfl ?_
          refine w_ge rfl (fun c2 => ?_) (fun c2 => ?_)
          · refine w_rt rfl rfl trivial ?_
            exact ⟨rfl, by rw [sndF, if_neg (fun z => Int32.not_lt.mpr c2 z.2.2)]⟩
          · have hu0 : u < 200 := by
              rcases Nat.lt_or_ge u 200 with z | z
              · exact z
              · exact absurd (by rw [u1]; exact nI_le z (by omega)) c2
            refine w_pu rfl rfl ?_
            refine w_pu rfl rfl ?_
            refine m_gR 7 hw rfl rfl rfl ?_
            refine w_cst (v := 41) rfl rfl rfl ?_
            refine w_pu rfl rfl ?_
            refine w_pu rfl rfl ?_
            refine m_ai 7 (41 * l) hw rfl rfl (by omega) (by first | rfl | simp only [ix_lits, nI_mul, nI_add]) (by show (41 * l) < 328; omega) ?_
            refine w_cp (vI (szo s (s 7 (41 * l)))) rfl rfl (by decide) (Nat.le_of_ble_eq_true rfl) rfl (Nat.le_of_ble_eq_true rfl) (Nat.le_of_ble_eq_true rfl) ⟨wM hw 0 (by omega), rfl⟩ rfl (mX_sizeOf X hw s (s 7 (41 * l)) (by have := q3 0 (by omega); rw [Nat.add_zero] at this; exact this)) ?_
            refine w_pu rfl rfl ?_
            refine m_gR 9 hw rfl rfl rfl ?_
            refine w_pu rfl rfl ?_
            refine m_ai 9 l hw rfl rfl (by omega) (by first | rfl | simp only [ix_lits, nI_mul, nI_add]) (by show l < 8; omega) ?_
            refine w_pu rfl rfl ?_
            refine w_pu rfl rfl ?_
            refine w_pu rfl rfl ?_
            refine m_gR 1 hw rfl rfl rfl ?_
            refine w_pu rfl rfl ?_
            refine m_ai 1 l hw rfl rfl (by omega) (by first | rfl | simp only [ix_lits, nI_mul, nI_add]) (by show l < 8; omega) ?_
            refine w_ne0 rfl (fun c3 => ?_) (fun c3 => ?_)
            · refine w_pu rfl rfl ?_
              refine w_pu rfl rfl ?_
              refine w_ge rfl (fun c4 => ?_) (fun c4 => ?_)
              · refine w_pu rfl rfl ?_
                refine w_pu rfl rfl ?_
                refine w_pu rfl rfl ?_
                refine m_gR 9 hw rfl rfl rfl ?_
                refine w_pu rfl rfl ?_
                refine w_pu rfl rfl ?_
                refine m_ai 9 l hw rfl rfl (by omega) (by first | rfl | simp only [ix_lits, nI_mul, nI_add]) (by show l < 8; omega) ?_
                refine w_pu rfl rfl ?_
                refine w_pu rfl rfl ?_
                refine m_si 9 l hw rfl rfl (by omega) (by first | rfl | simp only [ix_lits, nI_mul, nI_add]) (by show l < 8; omega) ?_
                refine w_pu rfl rfl ?_
                refine w_pu rfl rfl ?_
                refine w_pu rfl rfl ?_
                refine w_pu rfl rfl ?_
                refine w_pu rfl rfl ?_
                refine m_gR 18 hw rfl rfl rfl ?_
                refine w_pu rfl rfl ?_
                refine w_pu rfl rfl ?_
                refine m_ai 18 l hw rfl rfl (by omega) (by first | rfl | simp only [ix_lits, nI_mul, nI_add]) (by show l < 8; omega) ?_
                refine w_top (s 18 l) rfl ?_
                refine w_pu rfl rfl ?_
                refine w_pu rfl rfl ?_
                refine m_si 18 l hw rfl rfl (by omega) (by first | rfl | simp only [ix_lits, nI_mul, nI_add]) (by show l < 8; omega) ?_
                refine w_pu rfl rfl ?_
                refine m_gR 22 hw rfl rfl rfl ?_
                refine w_cst (v := 20) rfl rfl rfl ?_
                refine w_pu rfl rfl ?_
                refine w_pu rfl rfl ?_
                refine w_pu rfl rfl ?_
                refine m_g hw rfl rfl ?_
                refine w_top (s 0 45) rfl ?_
                refine w_cst (v := 20) rfl rfl rfl ?_
                refine w_op rfl rfl (by decide) ?_
                refine w_top (nI (t % 20)) (by rw [ht]; exact pk_rem (d := 20) (by omega) (by omega) (by omega)) ?_
                refine w_pu rfl rfl ?_
                refine w_pu rfl rfl ?_
                refine m_ai 22 ((20 * l) + (t % 20)) hw rfl rfl (by omega) (by first | rfl | simp only [ix_lits, nI_mul, nI_add]) (by show ((20 * l) + (t % 20)) < 160; omega) ?_
                refine w_top (s 22 ((20 * l) + (t % 20))) rfl ?_
                refine w_pu rfl rfl ?_
                refine w_pu rfl rfl ?_
                refine m_si 22 ((20 * l) + (t % 20)) hw rfl rfl (by omega) (by first | rfl | simp only [ix_lits, nI_mul, nI_add]) (by show ((20 * l) + (t % 20)) < 160; omega) ?_
                refine w_pu rfl rfl ?_
                refine w_pu rfl rfl ?_
                refine w_ne rfl (fun c5 => ?_) (fun c5 => ?_)
                · refine w_go rfl ?_
                  rw [sndF, if_pos ⟨Int32.not_le.mp c0, Int32.not_le.mp c1, Int32.not_le.mp c2⟩, if_neg (fun z => c3 z.1), if_neg (fun z => c5 (Int32.le_antisymm c4 z))]
                  exact out _ _ _ _ (by rw [Int32.sub_self]; decide)
                · refine w_pu rfl rfl ?_
                  refine w_pu rfl rfl ?_
                  refine w_cvE (pS h (sFF (uS (uS (uS s 9 l ((s 9 l) + left)) 18 l ((s 18 l) + left)) 22 ((20 * l) + (t % 20)) ((s 22 ((20 * l) + (t % 20))) + left)) l)) rfl rfl (by decide) (Nat.le_of_ble_eq_true rfl) rfl (Nat.le_of_ble_eq_true rfl) (Nat.le_of_ble_eq_true rfl) ⟨wM hw 0 (by omega), rfl⟩ rfl (mX_sendFirst X hw (uS (uS (uS s 9 l ((s 9 l) + left)) 18 l ((s 18 l) + left)) 22 ((20 * l) + (t % 20)) ((s 22 ((20 * l) + (t % 20))) + left)) l q' f u hl hq (by omega) q2 f1 f2 u1 (by omega) (by have := q3 0 (by omega); rw [Nat.add_zero] at this; exact this)) ?_
                  refine w_go rfl ?_
                  have e9 := c5
                  rw [sndF, if_pos ⟨Int32.not_le.mp c0, Int32.not_le.mp c1, Int32.not_le.mp c2⟩, if_neg (fun z => c3 z.1), if_pos (by rw [← e9]; exact Int32.le_refl _), ← e9]
                  exact ih _ _ _ _ (q' - 1) (by rw [sFF_8]; show s 8 l - 1 = _; rw [hq]; exact nI_sub (b := 1) (by omega)) (by omega) (by omega) (by rw [sFF_j _ _ _ (by decide)]; exact ht) (LQ_sFF (q := q') (u := u) hq (by omega) q2 u1 (by omega) (LQ_congr (fun _ => rfl) rfl rfl rfl hLQ))
              · refine w_pu rfl rfl ?_
                refine w_go rfl ?_
                refine w_pu rfl rfl ?_
                refine w_pu rfl rfl ?_
                refine m_gR 9 hw rfl rfl rfl ?_
                refine w_pu rfl rfl ?_
                refine w_pu rfl rfl ?_
                refine m_ai 9 l hw rfl rfl (by omega) (by first | rfl | simp only [ix_lits, nI_mul, nI_add]) (by show l < 8; omega) ?_
                refine w_pu rfl rfl ?_
                refine w_pu rfl rfl ?_
                refine m_si 9 l hw rfl rfl (by omega) (by first | rfl | simp only [ix_lits, nI_mul, nI_add]) (by show l < 8; omega) ?_
                refine w_pu rfl rfl ?_
                refine w_pu rfl rfl ?_
                refine w_pu rfl rfl ?_
                refine w_pu rfl rfl ?_
                refine w_pu rfl rfl ?_
                refine m_gR 18 hw rfl rfl rfl ?_
                refine w_pu rfl rfl ?_
                refine w_pu rfl rfl ?_
                refine m_ai 18 l hw rfl rfl (by omega) (by first | rfl | simp only [ix_lits, nI_mul, nI_add]) (by show l < 8; omega) ?_
                refine w_top (s 18 l) rfl ?_
                refine w_pu rfl rfl ?_
                refine w_pu rfl rfl ?_
                refine m_si 18 l hw rfl rfl (by omega) (by first | rfl | simp only [ix_lits, nI_mul, nI_add]) (by show l < 8; omega) ?_
                refine w_pu rfl rfl ?_
                refine m_gR 22 hw rfl rfl rfl ?_
                refine w_cst (v := 20) rfl rfl rfl ?_
                refine w_pu rfl rfl ?_
                refine w_pu rfl rfl ?_
                refine w_pu rfl rfl ?_
                refine m_g hw rfl rfl ?_
                refine w_top (s 0 45) rfl ?_
                refine w_cst (v := 20) rfl rfl rfl ?_
                refine w_op rfl rfl (by decide) ?_
                refine w_top (nI (t % 20)) (by rw [ht]; exact pk_rem (d := 20) (by omega) (by omega) (by omega)) ?_
                refine w_pu rfl rfl ?_
                refine w_pu rfl rfl ?_
                refine m_ai 22 ((20 * l) + (t % 20)) hw rfl rfl (by omega) (by first | rfl | simp only [ix_lits, nI_mul, nI_add]) (by show ((20 * l) + (t % 20)) < 160; omega) ?_
                refine w_top (s 22 ((20 * l) + (t % 20))) rfl ?_
                refine w_pu rfl rfl ?_
                refine w_pu rfl rfl ?_
                refine m_si 22 ((20 * l) + (t % 20)) hw rfl rfl (by omega) (by first | rfl | simp only [ix_lits, nI_mul, nI_add]) (by show ((20 * l) + (t % 20)) < 160; omega) ?_
                refine w_pu rfl rfl ?_
                refine w_pu rfl rfl ?_
                refine w_ne rfl (fun c6 => ?_) (fun c6 => ?_)
                · exact absurd rfl c6
                · refine w_pu rfl rfl ?_
                  refine w_pu rfl rfl ?_
                  refine w_cvE (pS h (sFF (uS (uS (uS s 9 l ((s 9 l) + ((szo s (s 7 (41 * l))) - (s 9 l)))) 18 l ((s 18 l) + ((szo s (s 7 (41 * l))) - (s 9 l)))) 22 ((20 * l) + (t % 20)) ((s 22 ((20 * l) + (t % 20))) + ((szo s (s 7 (41 * l))) - (s 9 l)))) l)) rfl rfl (by decide) (Nat.le_of_ble_eq_true rfl) rfl (Nat.le_of_ble_eq_true rfl) (Nat.le_of_ble_eq_true rfl) ⟨wM hw 0 (by omega), rfl⟩ rfl (mX_sendFirst X hw (uS (uS (uS s 9 l ((s 9 l) + ((szo s (s 7 (41 * l))) - (s 9 l)))) 18 l ((s 18 l) + ((szo s (s 7 (41 * l))) - (s 9 l)))) 22 ((20 * l) + (t % 20)) ((s 22 ((20 * l) + (t % 20))) + ((szo s (s 7 (41 * l))) - (s 9 l)))) l q' f u hl hq (by omega) q2 f1 f2 u1 (by omega) (by have := q3 0 (by omega); rw [Nat.add_zero] at this; exact this)) ?_
                  refine w_go rfl ?_
                  rw [sndF, if_pos ⟨Int32.not_le.mp c0, Int32.not_le.mp c1, Int32.not_le.mp c2⟩, if_neg (fun z => c3 z.1), if_pos (by exact Int32.le_of_lt (Int32.not_le.mp c4))]
                  exact ih _ _ _ _ (q' - 1) (by rw [sFF_8]; show s 8 l - 1 = _; rw [hq]; exact nI_sub (b := 1) (by omega)) (by omega) (by omega) (by rw [sFF_j _ _ _ (by decide)]; exact ht) (LQ_sFF (q := q') (u := u) hq (by omega) q2 u1 (by omega) (LQ_congr (fun _ => rfl) rfl rfl rfl hLQ))
            · refine w_pu rfl rfl ?_
              refine w_pu rfl rfl ?_
              refine w_le rfl (fun c7 => ?_) (fun c7 => ?_)
              · refine w_pu rfl rfl ?_
                refine w_pu rfl rfl ?_
                refine w_ge rfl (fun c8 => ?_) (fun c8 => ?_)
                · refine w_pu rfl rfl ?_
                  refine w_pu rfl rfl ?_
                  refine w_pu rfl rfl ?_
                  refine m_gR 9 hw rfl rfl rfl ?_
                  refine w_pu rfl rfl ?_
                  refine w_pu rfl rfl ?_
                  refine m_ai 9 l hw rfl rfl (by omega) (by first | rfl | simp only [ix_lits, nI_mul, nI_add]) (by show l < 8; omega) ?_
                  refine w_pu rfl rfl ?_
                  refine w_pu rfl rfl ?_
                  refine m_si 9 l hw rfl rfl (by omega) (by first | rfl | simp only [ix_lits, nI_mul, nI_add]) (by show l < 8; omega) ?_
                  refine w_pu rfl rfl ?_
                  refine w_pu rfl rfl ?_
                  refine w_pu rfl rfl ?_
                  refine w_pu rfl rfl ?_
                  refine w_pu rfl rfl ?_
                  refine m_gR 18 hw rfl rfl rfl ?_
                  refine w_pu rfl rfl ?_
                  refine w_pu rfl rfl ?_
                  refine m_ai 18 l hw rfl rfl (by omega) (by first | rfl | simp only [ix_lits, nI_mul, nI_add]) (by show l < 8; omega) ?_
                  refine w_top (s 18 l) rfl ?_
                  refine w_pu rfl rfl ?_
                  refine w_pu rfl rfl ?_
                  refine m_si 18 l hw rfl rfl (by omega) (by first | rfl | simp only [ix_lits, nI_mul, nI_add]) (by show l < 8; omega) ?_
                  refine w_pu rfl rfl ?_
                  refine m_gR 22 hw rfl rfl rfl ?_
                  refine w_cst (v := 20) rfl rfl rfl ?_
                  refine w_pu rfl rfl ?_
                  refine w_pu rfl rfl ?_
                  refine w_pu rfl rfl ?_
                  refine m_g hw rfl rfl ?_
                  refine w_top (s 0 45) rfl ?_
                  refine w_cst (v := 20) rfl rfl rfl ?_
                  refine w_op rfl rfl (by decide) ?_
                  refine w_top (nI (t % 20)) (by rw [ht]; exact pk_rem (d := 20) (by omega) (by omega) (by omega)) ?_
                  refine w_pu rfl rfl ?_
                  refine w_pu rfl rfl ?_
                  refine m_ai 22 ((20 * l) + (t % 20)) hw rfl rfl (by omega) (by first | rfl | simp only [ix_lits, nI_mul, nI_add]) (by show ((20 * l) + (t % 20)) < 160; omega) ?_
                  refine w_top (s 22 ((20 * l) + (t % 20))) rfl ?_
                  refine w_pu rfl rfl ?_
                  refine w_pu rfl rfl ?_
                  refine m_si 22 ((20 * l) + (t % 20)) hw rfl rfl (by omega) (by first | rfl | simp only [ix_lits, nI_mul, nI_add]) (by show ((20 * l) + (t % 20)) < 160; omega) ?_
                  refine w_pu rfl rfl ?_
                  refine w_pu rfl rfl ?_
                  refine w_ne rfl (fun c9 => ?_) (fun c9 => ?_)
                  · refine w_go rfl ?_
                    rw [sndF, if_pos ⟨Int32.not_le.mp c0, Int32.not_le.mp c1, Int32.not_le.mp c2⟩, if_neg (fun z => Int32.not_lt.mpr c7 z.2), if_neg (fun z => c9 (Int32.le_antisymm c8 z))]
                    exact out _ _ _ _ (by rw [Int32.sub_self]; decide)
                  · refine w_pu rfl rfl ?_
                    refine w_pu rfl rfl ?_
                    refine w_cvE (pS h (sFF (uS (uS (uS s 9 l ((s 9 l) + left)) 18 l ((s 18 l) + left)) 22 ((20 * l) + (t % 20)) ((s 22 ((20 * l) + (t % 20))) + left)) l)) rfl rfl (by decide) (Nat.le_of_ble_eq_true rfl) rfl (Nat.le_of_ble_eq_true rfl) (Nat.le_of_ble_eq_true rfl) ⟨wM hw 0 (by omega), rfl⟩ rfl (mX_sendFirst X hw (uS (uS (uS s 9 l ((s 9 l) + left)) 18 l ((s 18 l) + left)) 22 ((20 * l) + (t % 20)) ((s 22 ((20 * l) + (t % 20))) + left)) l q' f u hl hq (by omega) q2 f1 f2 u1 (by omega) (by have := q3 0 (by omega); rw [Nat.add_zero] at this; exact this)) ?_
                    refine w_go rfl ?_
                    have e9 := c9
                    rw [sndF, if_pos ⟨Int32.not_le.mp c0, Int32.not_le.mp c1, Int32.not_le.mp c2⟩, if_neg (fun z => Int32.not_lt.mpr c7 z.2), if_pos (by rw [← e9]; exact Int32.le_refl _), ← e9]
                    exact ih _ _ _ _ (q' - 1) (by rw [sFF_8]; show s 8 l - 1 = _; rw [hq]; exact nI_sub (b := 1) (by omega)) (by omega) (by omega) (by rw [sFF_j _ _ _ (by decide)]; exact ht) (LQ_sFF (q := q') (u := u) hq (by omega) q2 u1 (by omega) (LQ_congr (fun _ => rfl) rfl rfl rfl hLQ))
                · refine w_pu rfl rfl ?_
                  refine w_go rfl ?_
                  refine w_pu rfl rfl ?_
                  refine w_pu rfl rfl ?_
                  refine m_gR 9 hw rfl rfl rfl ?_
                  refine w_pu rfl rfl ?_
                  refine w_pu rfl rfl ?_
                  refine m_ai 9 l hw rfl rfl (by omega) (by first | rfl | simp only [ix_lits, nI_mul, nI_add]) (by show l < 8; omega) ?_
                  refine w_pu rfl rfl ?_
                  refine w_pu rfl rfl ?_
                  refine m_si 9 l hw rfl rfl (by omega) (by first | rfl | simp only [ix_lits, nI_mul, nI_add]) (by show l < 8; omega) ?_
                  refine w_pu rfl rfl ?_
                  refine w_pu rfl rfl ?_
                  refine w_pu rfl rfl ?_
                  refine w_pu rfl rfl ?_
                  refine w_pu rfl rfl ?_
                  refine m_gR 18 hw rfl rfl rfl ?_
                  refine w_pu rfl rfl ?_
                  refine w_pu rfl rfl ?_
                  refine m_ai 18 l hw rfl rfl (by omega) (by first | rfl | simp only [ix_lits, nI_mul, nI_add]) (by show l < 8; omega) ?_
                  refine w_top (s 18 l) rfl ?_
                  refine w_pu rfl rfl ?_
                  refine w_pu rfl rfl ?_
                  refine m_si 18 l hw rfl rfl (by omega) (by first | rfl | simp only [ix_lits, nI_mul, nI_add]) (by show l < 8; omega) ?_
                  refine w_pu rfl rfl ?_
                  refine m_gR 22 hw rfl rfl rfl ?_
                  refine w_cst (v := 20) rfl rfl rfl ?_
                  refine w_pu rfl rfl ?_
                  refine w_pu rfl rfl ?_
                  refine w_pu rfl rfl ?_
                  refine m_g hw rfl rfl ?_
                  refine w_top (s 0 45) rfl ?_
                  refine w_cst (v := 20) rfl rfl rfl ?_
                  refine w_op rfl rfl (by decide) ?_
                  refine w_top (nI (t % 20)) (by rw [ht]; exact pk_rem (d := 20) (by omega) (by omega) (by omega)) ?_
                  refine w_pu rfl rfl ?_
                  refine w_pu rfl rfl ?_
                  refine m_ai 22 ((20 * l) + (t % 20)) hw rfl rfl (by omega) (by first | rfl | simp only [ix_lits, nI_mul, nI_add]) (by show ((20 * l) + (t % 20)) < 160; omega) ?_
                  refine w_top (s 22 ((20 * l) + (t % 20))) rfl ?_
                  refine w_pu rfl rfl ?_
                  refine w_pu rfl rfl ?_
                  refine m_si 22 ((20 * l) + (t % 20)) hw rfl rfl (by omega) (by first | rfl | simp only [ix_lits, nI_mul, nI_add]) (by show ((20 * l) + (t % 20)) < 160; omega) ?_
                  refine w_pu rfl rfl ?_
                  refine w_pu rfl rfl ?_
                  refine w_ne rfl (fun c10 => ?_) (fun c10 => ?_)
                  · exact absurd rfl c10
                  · refine w_pu rfl rfl ?_
                    refine w_pu rfl rfl ?_
                    refine w_cvE (pS h (sFF (uS (uS (uS s 9 l ((s 9 l) + ((szo s (s 7 (41 * l))) - (s 9 l)))) 18 l ((s 18 l) + ((szo s (s 7 (41 * l))) - (s 9 l)))) 22 ((20 * l) + (t % 20)) ((s 22 ((20 * l) + (t % 20))) + ((szo s (s 7 (41 * l))) - (s 9 l)))) l)) rfl rfl (by decide) (Nat.le_of_ble_eq_true rfl) rfl (Nat.le_of_ble_eq_true rfl) (Nat.le_of_ble_eq_true rfl) ⟨wM hw 0 (by omega), rfl⟩ rfl (mX_sendFirst X hw (uS (uS (uS s 9 l ((s 9 l) + ((szo s (s 7 (41 * l))) - (s 9 l)))) 18 l ((s 18 l) + ((szo s (s 7 (41 * l))) - (s 9 l)))) 22 ((20 * l) + (t % 20)) ((s 22 ((20 * l) + (t % 20))) + ((szo s (s 7 (41 * l))) - (s 9 l)))) l q' f u hl hq (by omega) q2 f1 f2 u1 (by omega) (by have := q3 0 (by omega); rw [Nat.add_zero] at this; exact this)) ?_
                    refine w_go rfl ?_
                    rw [sndF, if_pos ⟨Int32.not_le.mp c0, Int32.not_le.mp c1, Int32.not_le.mp c2⟩, if_neg (fun z => Int32.not_lt.mpr c7 z.2), if_pos (by exact Int32.le_of_lt (Int32.not_le.mp c8))]
                    exact ih _ _ _ _ (q' - 1) (by rw [sFF_8]; show s 8 l - 1 = _; rw [hq]; exact nI_sub (b := 1) (by omega)) (by omega) (by omega) (by rw [sFF_j _ _ _ (by decide)]; exact ht) (LQ_sFF (q := q') (u := u) hq (by omega) q2 u1 (by omega) (LQ_congr (fun _ => rfl) rfl rfl rfl hLQ))
              · refine w_rt rfl rfl trivial ?_
                exact ⟨rfl, by rw [sndF, if_pos ⟨Int32.not_le.mp c0, Int32.not_le.mp c1, Int32.not_le.mp c2⟩, if_pos ⟨c3, Int32.not_le.mp c7⟩]⟩
  refine w_pu rfl rfl ?_
  refine m_gR 22 hw rfl rfl rfl ?_
  refine w_cst (v := 20) rfl rfl rfl ?_
  refine w_pu rfl rfl ?_
  refine w_pu rfl rfl ?_
  refine w_pu rfl rfl ?_
  refine m_g hw rfl rfl ?_
  refine w_cst (v := 20) rfl rfl rfl ?_
  refine w_op rfl rfl (by decide) ?_
  refine w_top (nI (t % 20)) (by rw [ht]; exact pk_rem (d := 20) (by omega) (by omega) (by omega)) ?_
  refine w_pu rfl rfl ?_
  refine w_cst (v := 0) rfl rfl rfl ?_
  refine m_si 22 ((20 * l) + (t % 20)) hw rfl rfl (by omega) (by first | rfl | simp only [ix_lits, nI_mul, nI_add]) (by show ((20 * l) + (t % 20)) < 160; omega) ?_
  refine w_pu rfl rfl ?_
  refine m_gR 4 hw rfl rfl rfl ?_
  refine w_pu rfl rfl ?_
  refine m_ab 4 l hw rfl (Or.inr ⟨rfl, rfl⟩) (by omega) (by first | rfl | simp only [ix_lits, nI_mul, nI_add]) (by show l < 8; omega) ?_
  refine w_top (s 4 l) rfl ?_
  refine w_ne0 rfl (fun c0 => ?_) (fun c0 => ?_)
  · refine w_pu rfl rfl ?_
    refine w_pu rfl rfl ?_
    refine w_cp (vI (allowedF (uS s 22 ((20 * l) + (t % 20)) 0) l t)) rfl rfl (by decide) (Nat.le_of_ble_eq_true rfl) rfl (Nat.le_of_ble_eq_true rfl) (Nat.le_of_ble_eq_true rfl) ⟨wM hw 0 (by omega), rfl⟩ rfl (mX_allowed X hw (uS s 22 ((20 * l) + (t % 20)) 0) l t sp hl ht ht2 hs1 hs2) ?_
    refine w_pu rfl rfl ?_
    obtain ⟨⟨q, q1, q2, q3⟩, -⟩ := id hLQ
    rw [sendingF, if_neg c0]
    exact loop 41 _ _ _ _ q q1 q2 (by omega) ht (LQ_congr (fun _ => rfl) rfl rfl rfl hLQ)
  · refine w_rt rfl rfl trivial ?_
    exact ⟨rfl, by rw [sendingF, if_pos c0]⟩
theorem loseF_j (s : SS) (p l : Nat) {j : Nat} (k : Nat) (hj : ¬ j = 23 ∧ ¬ j = 30 ∧ ¬ j = 19) : loseF s p l j k = s j k := by
  unfold loseF
  rw [uS_j _ _ _ hj.2.2, uS_j _ _ _ hj.2.1, uS_j _ _ _ hj.1]
theorem lsF_j (l : Nat) (c : Int32) (s : SS) {j : Nat} (k : Nat) (hj : ¬ j = 23 ∧ ¬ j = 30 ∧ ¬ j = 19) : ∀ n, lsF l c n s j k = s j k
  | 0 => rfl
  | n + 1 => by
    rw [lsF]
    split
    · rw [loseF_j _ _ _ _ hj, lsF_j l c s k hj n]
    · exact lsF_j l c s k hj n
theorem comesF_j (np l : Nat) (v c : Int32) (s : SS) {j : Nat} (k : Nat) (hj : ¬ j = 23 ∧ ¬ j = 30 ∧ ¬ j = 19 ∧ ¬ j = 17) : comesF np l v c s j k = s j k := by
  have e : (uS (if s 17 l < c then lsF l c np s else s) 17 l (c + 1)) j k = s j k := by
    rw [uS_j _ _ _ hj.2.2.2]
    split
    · exact lsF_j l c s k ⟨hj.1, hj.2.1, hj.2.2.1⟩ np
    · rfl
  unfold comesF
  split
  · exact e
  · rw [uS_j _ _ _ hj.1]
    exact e
theorem inF_0 {v lo hi : Int32} (h : inF v lo hi = 0) : ¬ (lo ≤ v ∧ v ≤ hi) := by
  intro q
  rw [inF, if_pos q] at h
  cases h
theorem inF_1 {v lo hi : Int32} (h : ¬ inF v lo hi = 0) : lo ≤ v ∧ v ≤ hi := by
  by_cases q : lo ≤ v ∧ v ≤ hi
  · exact q
  · rw [inF, if_neg q] at h
    exact absurd rfl h
theorem hitF_iff {s : SS} {l q : Nat} {c : Int32} : hitF s l q c = true ↔ s 23 q = 1 ∧ s 28 q = nI l ∧ s 17 l ≤ s 29 q ∧ s 29 q ≤ c - 1 := by
  unfold hitF
  simp only [Bool.and_eq_true, decide_eq_true_eq]
theorem mX_comes (X : Nat × (Nat → Int32)) {h : Hp} {nl nf np : Nat} (hw : WF h nl nf np) (s : SS) (l : Nat) (v c : Int32) (hl : l < nl) (hn : s 0 23 = nI np) (hv : okp np v) : wp X 108 0 [TM, some (vI (nI l)), some (vI v), some (vI c), none] [] (pS h s) (fun r h' => r = none ∧ h' = pS h (comesF np l v c s)) := by
  have h4 := hw.2.2.2.2.2.2.1
  have h3 := hw.2.2.2.2.2.2.2.2
  have tail : ∀ (a : SS) (x : Option Vl), a = (if s 17 l < c then lsF l c np s else s) → wp X 108 79 [TM, some (vI (nI l)), some (vI v), some (vI c), x] [] (pS h a) (fun r h' => r = none ∧ h' = pS h (comesF np l v c s)) := by
    intro a x ha
    have e : comesF np l v c s = if v = -2 then uS a 17 l (c + 1) else uS (uS a 17 l (c + 1)) 23 (nat v) 3 := by
      unfold comesF
      rw [← ha]
    refine w_pu rfl rfl ?_
    refine m_gR 17 hw rfl rfl rfl ?_
    refine w_pu rfl rfl ?_
    refine w_pu rfl rfl ?_
    refine w_cst (v := 1) rfl rfl rfl ?_
    refine w_pu rfl rfl ?_
    refine m_si 17 l hw rfl rfl (by omega) (by first | rfl | exact hk | simp only [ix_lits, nI_mul, nI_add]) (by show l < 8; omega) ?_
    refine w_pu rfl rfl ?_
    refine w_cst (v := (-2)) rfl rfl rfl ?_
    refine w_eq rfl (fun c0 => ?_) (fun c0 => ?_)
    · refine w_rt rfl rfl trivial ?_
      exact ⟨rfl, by rw [e, if_pos c0]⟩
    · obtain ⟨k, hk1, hk⟩ := hv.resolve_left c0
      refine w_pu rfl rfl ?_
      refine m_gR 23 hw rfl rfl rfl ?_
      refine w_pu rfl rfl ?_
      refine w_cst (v := 3) rfl rfl rfl ?_
      refine m_si 23 k hw rfl rfl (by omega) (by first | rfl | exact hk | simp only [ix_lits, nI_mul, nI_add]) (by show k < 3000; omega) ?_
      refine w_rt rfl rfl trivial ?_
      exact ⟨rfl, by rw [e, if_neg c0, hk, nat_nI (by omega)]⟩
  by_cases hsc : s 17 l < c
  · have loop : ∀ d k (a : SS), k + d = np → a = lsF l c k s → wp X 108 3 [TM, some (vI (nI l)), some (vI v), some (vI c), some (vI (nI k))] [] (pS h a) (fun r h' => r = none ∧ h' = pS h (comesF np l v c s)) := by
      intro d
      induction d with
      | zero =>
        intro k a hk ha
        have a0 : a 0 23 = nI np := by rw [ha, lsF_j _ _ _ _ (by decide), hn]
        refine w_pu rfl rfl ?_
        refine w_pu rfl rfl ?_
        refine m_g hw rfl rfl ?_
        refine w_ge rfl (fun c0 => ?_) (fun c0 => ?_)
        · exact tail a _ (by rw [if_pos hsc, ha, show k = np by omega])
        · exact absurd (by rw [a0]; exact nI_le (by omega) (by omega)) c0
      | succ d ih =>
        intro k a hk ha
        have a0 : a 0 23 = nI np := by rw [ha, lsF_j _ _ _ _ (by decide), hn]
        have a17 : a 17 l = s 17 l := by rw [ha, lsF_j _ _ _ _ (by decide)]
        refine w_pu rfl rfl ?_
        refine w_pu rfl rfl ?_
        refine m_g hw rfl rfl ?_
        refine w_ge rfl (fun c0 => ?_) (fun c0 => ?_)
        · exact absurd (by rw [a0] at c0; exact c0) (nI_ge (by omega) (by omega))
        · refine w_pu rfl rfl ?_
          refine m_gR 17 hw rfl rfl rfl ?_
          refine w_pu rfl rfl ?_
          refine m_ai 17 l hw rfl rfl (by omega) (by first | rfl | simp only [ix_lits, nI_mul, nI_add]) (by show l < 8; omega) ?_
          refine w_pu rfl rfl ?_
          refine w_ge rfl (fun c1 => ?_) (fun c1 => ?_)
          · exact absurd (by rw [a17] at c1; exact c1) (Int32.not_le.mpr hsc)
          · refine w_pu rfl rfl ?_
            refine m_gR 23 hw rfl rfl rfl ?_
            refine w_pu rfl rfl ?_
            refine m_ai 23 k hw rfl rfl (by omega) (by first | rfl | simp only [ix_lits, nI_mul, nI_add]) (by show k < 3000; omega) ?_
            refine w_cst (v := 1) rfl rfl rfl ?_
            refine w_ne rfl (fun c2 => ?_) (fun c2 => ?_)
            · refine w_i1 rfl rfl rfl ?_
              refine w_go rfl ?_
              exact ih (k + 1) a (by omega) (by rw [lsF, ← ha, if_neg (fun z => c2 (hitF_iff.mp z).1)])
            · refine w_pu rfl rfl ?_
              refine m_gR 28 hw rfl rfl rfl ?_
              refine w_pu rfl rfl ?_
              refine m_ai 28 k hw rfl rfl (by omega) (by first | rfl | simp only [ix_lits, nI_mul, nI_add]) (by show k < 3000; omega) ?_
              refine w_pu rfl rfl ?_
              refine w_ne rfl (fun c3 => ?_) (fun c3 => ?_)
              · refine w_i1 rfl rfl rfl ?_
                refine w_go rfl ?_
                exact ih (k + 1) a (by omega) (by rw [lsF, ← ha, if_neg (fun z => c3 (hitF_iff.mp z).2.1)])
              · refine w_pu rfl rfl ?_
                refine m_gR 29 hw rfl rfl rfl ?_
                refine w_pu rfl rfl ?_
                refine m_ai 29 k hw rfl rfl (by omega) (by first | rfl | simp only [ix_lits, nI_mul, nI_add]) (by show k < 3000; omega) ?_
                refine w_pu rfl rfl ?_
                refine m_gR 17 hw rfl rfl rfl ?_
                refine w_pu rfl rfl ?_
                refine m_ai 17 l hw rfl rfl (by omega) (by first | rfl | simp only [ix_lits, nI_mul, nI_add]) (by show l < 8; omega) ?_
                refine w_pu rfl rfl ?_
                refine w_cst (v := 1) rfl rfl rfl ?_
                refine w_pu rfl rfl ?_
                refine w_cp (vI (inF (a 29 k) (a 17 l) (c - 1))) rfl rfl (by decide) (Nat.le_of_ble_eq_true rfl) rfl (Nat.le_of_ble_eq_true rfl) (Nat.le_of_ble_eq_true rfl) trivial rfl (mX_in X _ (a 29 k) (a 17 l) (c - 1)) ?_
                refine w_eq0 rfl (fun c4 => ?_) (fun c4 => ?_)
                · refine w_i1 rfl rfl rfl ?_
                  refine w_go rfl ?_
                  exact ih (k + 1) a (by omega) (by rw [lsF, ← ha, if_neg (fun z => inF_0 c4 (hitF_iff.mp z).2.2)])
                · refine w_pu rfl rfl ?_
                  refine w_pu rfl rfl ?_
                  refine w_pu rfl rfl ?_
                  refine w_cvE (pS h (loseF a k l)) rfl rfl (by decide) (Nat.le_of_ble_eq_true rfl) rfl (Nat.le_of_ble_eq_true rfl) (Nat.le_of_ble_eq_true rfl) ⟨wM hw 0 (by omega), rfl⟩ rfl (mX_lose X hw a k l (by omega) (by omega)) ?_
                  refine w_i1 rfl rfl rfl ?_
                  refine w_go rfl ?_
                  exact ih (k + 1) _ (by omega) (by rw [lsF, ← ha, if_pos (hitF_iff.mpr ⟨c2, c3, inF_1 c4⟩)])
    refine w_cst (v := 0) rfl rfl rfl ?_
    refine w_pu rfl rfl ?_
    exact loop np 0 s (by omega) rfl
  · refine w_cst (v := 0) rfl rfl rfl ?_
    refine w_pu rfl rfl ?_
    refine w_pu rfl rfl ?_
    refine w_pu rfl rfl ?_
    refine m_g hw rfl rfl ?_
    refine w_ge rfl (fun c0 => ?_) (fun c0 => ?_)
    · exact tail s _ (by rw [if_neg hsc])
    · refine w_pu rfl rfl ?_
      refine m_gR 17 hw rfl rfl rfl ?_
      refine w_pu rfl rfl ?_
      refine m_ai 17 l hw rfl rfl (by omega) (by first | rfl | simp only [ix_lits, nI_mul, nI_add]) (by show l < 8; omega) ?_
      refine w_pu rfl rfl ?_
      refine w_ge rfl (fun c1 => ?_) (fun c1 => ?_)
      · exact tail s _ (by rw [if_neg hsc])
      · exact absurd (Int32.not_le.mp c1) hsc
theorem uS_at2 {s : SS} {j k : Nat} {v w : Int32} {j2 k2 : Nat} (hj : ¬ j = j2) : uS (uS s j k v) j2 k2 w j k = v := by
  rw [uS_j _ _ _ hj, uS_eq]
def CM (s : SS) (l np : Nat) : Prop := ∃ u f, s 15 l = nI u ∧ u ≤ 200 ∧ s 14 l = nI f ∧ f < 200 ∧ ∀ k, k < u → okp np (s 10 (200 * l + (f + k) % 200))
theorem mX_coming (X : Nat × (Nat → Int32)) {h : Hp} {nl nf np : Nat} (hw : WF h nl nf np) (s : SS) (l : Nat) (hl : l < nl) (hn : s 0 23 = nI np) (hCM : CM s l np) : wp X 107 0 [TM, some (vI (nI l)), none] [] (pS h s) (fun r h' => r = none ∧ h' = pS h (cmF np l 201 s)) := by
  have h4 := hw.2.2.2.2.2.2.1
  have h3 := hw.2.2.2.2.2.2.2.2
  have loop : ∀ n (s : SS) (x : Option Vl) (u f : Nat), s 0 23 = nI np → s 15 l = nI u → u ≤ 200 → u + 1 ≤ n → s 14 l = nI f → f < 200 → (∀ k, k < u → okp np (s 10 (200 * l + (f + k) % 200))) → wp X 107 0 [TM, some (vI (nI l)), x] [] (pS h s) (fun r h' => r = none ∧ h' = pS h (cmF np l n s)) := by
    intro n
    induction n with
    | zero => intro s x u f hn hu hu2 hun; exact absurd hun (by omega)
    | succ n ih =>
      intro s x u f hn hu hu2 hun hf hf2 hk
      have ef : nat (s 14 l) = f := by rw [hf, nat_nI (by omega)]
      refine w_pu rfl rfl ?_
      refine m_gR 15 hw rfl rfl rfl ?_
      refine w_pu rfl rfl ?_
      refine m_ai 15 l hw rfl rfl (by omega) (by first | rfl | simp only [ix_lits, nI_mul, nI_add, hf]) (by show l < 8; omega) ?_
      refine w_le0 rfl (fun c0 => ?_) (fun c0 => ?_)
      · refine w_rt rfl rfl trivial ?_
        exact ⟨rfl, by rw [cmF, if_neg (fun z => Int32.not_lt.mpr c0 z.1)]⟩
      · have hu0 : 1 ≤ u := by
          rcases Nat.eq_zero_or_pos u with z | z
          · exact absurd (by rw [hu, z]; decide) c0
          · exact z
        refine w_pu rfl rfl ?_
        refine m_gR 12 hw rfl rfl rfl ?_
        refine w_cst (v := 200) rfl rfl rfl ?_
        refine w_pu rfl rfl ?_
        refine w_pu rfl rfl ?_
        refine w_pu rfl rfl ?_
        refine m_gR 14 hw rfl rfl rfl ?_
        refine w_pu rfl rfl ?_
        refine m_ai 14 l hw rfl rfl (by omega) (by first | rfl | simp only [ix_lits, nI_mul, nI_add, hf]) (by show l < 8; omega) ?_
        refine w_pu rfl rfl ?_
        refine m_ai 12 ((200 * l) + f) hw rfl rfl (by omega) (by first | rfl | simp only [ix_lits, nI_mul, nI_add, hf]) (by show ((200 * l) + f) < 1600; omega) ?_
        refine w_pu rfl rfl ?_
        refine m_g hw rfl rfl ?_
        refine w_ne rfl (fun c1 => ?_) (fun c1 => ?_)
        · refine w_rt rfl rfl trivial ?_
          exact ⟨rfl, by rw [cmF, if_neg (fun z => c1 (by rw [← ef]; exact z.2))]⟩
        · refine w_cst (v := 200) rfl rfl rfl ?_
          refine w_pu rfl rfl ?_
          refine w_pu rfl rfl ?_
          refine w_pu rfl rfl ?_
          refine m_gR 14 hw rfl rfl rfl ?_
          refine w_pu rfl rfl ?_
          refine m_ai 14 l hw rfl rfl (by omega) (by first | rfl | simp only [ix_lits, nI_mul, nI_add, hf]) (by show l < 8; omega) ?_
          refine w_pu rfl rfl ?_
          refine w_pu rfl rfl ?_
          refine w_pu rfl rfl ?_
          refine m_gR 14 hw rfl rfl rfl ?_
          refine w_pu rfl rfl ?_
          refine w_pu rfl rfl ?_
          refine m_gR 14 hw rfl rfl rfl ?_
          refine w_pu rfl rfl ?_
          refine m_ai 14 l hw rfl rfl (by omega) (by first | rfl | simp only [ix_lits, nI_mul, nI_add, hf]) (by show l < 8; omega) ?_
          refine w_cst (v := 1) rfl rfl rfl ?_
          refine w_pu rfl rfl ?_
          refine w_cst (v := 200) rfl rfl rfl ?_
          refine w_op rfl rfl (by decide) ?_
          refine w_top (nI ((f + 1) % 200)) (by rw [hf, nI_1]; exact pk_rem (d := 200) (by omega) (by omega) (by omega)) ?_
          refine m_si 14 l hw rfl rfl (by omega) (by first | rfl | simp only [ix_lits, nI_mul, nI_add, hf]) (by show l < 8; omega) ?_
          refine w_pu rfl rfl ?_
          refine m_gR 15 hw rfl rfl rfl ?_
          refine w_pu rfl rfl ?_
          refine w_pu rfl rfl ?_
          refine m_ai 15 l hw rfl rfl (by omega) (by first | rfl | simp only [ix_lits, nI_mul, nI_add, hf]) (by show l < 8; omega) ?_
          refine w_top (s 15 l) rfl ?_
          refine w_cst (v := 1) rfl rfl rfl ?_
          refine w_pu rfl rfl ?_
          refine m_si 15 l hw rfl rfl (by omega) (by first | rfl | simp only [ix_lits, nI_mul, nI_add, hf]) (by show l < 8; omega) ?_
          refine w_pu rfl rfl ?_
          refine m_gR 13 hw rfl rfl rfl ?_
          refine w_pu rfl rfl ?_
          refine m_ai 13 ((200 * l) + f) hw rfl rfl (by omega) (by first | rfl | simp only [ix_lits, nI_mul, nI_add, hf]) (by show ((200 * l) + f) < 1600; omega) ?_
          refine w_top (s 13 ((200 * l) + f)) rfl ?_
          refine w_cst (v := 1) rfl rfl rfl ?_
          refine w_pu rfl rfl ?_
          refine w_cst (v := 1) rfl rfl rfl ?_
          refine w_ne rfl (fun c2 => ?_) (fun c2 => ?_)
          · refine w_pu rfl rfl ?_
            refine m_gR 13 hw rfl rfl rfl ?_
            refine w_pu rfl rfl ?_
            refine m_ai 13 ((200 * l) + f) hw rfl rfl (by omega) (by first | rfl | simp only [ix_lits, nI_mul, nI_add, hf]) (by show ((200 * l) + f) < 1600; omega) ?_
            refine w_top (s 13 ((200 * l) + f)) rfl ?_
            refine w_cst (v := 1) rfl rfl rfl ?_
            refine w_le rfl (fun c3 => ?_) (fun c3 => ?_)
            · refine w_pu rfl rfl ?_
              refine w_pu rfl rfl ?_
              refine w_pu rfl rfl ?_
              refine m_gR 10 hw rfl rfl rfl ?_
              refine w_pu rfl rfl ?_
              refine m_ai 10 ((200 * l) + f) hw rfl rfl (by omega) (by first | rfl | simp only [ix_lits, nI_mul, nI_add, hf]) (by show ((200 * l) + f) < 1600; omega) ?_
              refine w_top (s 10 ((200 * l) + f)) rfl ?_
              refine w_pu rfl rfl ?_
              refine m_gR 11 hw rfl rfl rfl ?_
              refine w_pu rfl rfl ?_
              refine m_ai 11 ((200 * l) + f) hw rfl rfl (by omega) (by first | rfl | simp only [ix_lits, nI_mul, nI_add, hf]) (by show ((200 * l) + f) < 1600; omega) ?_
              refine w_top (s 11 ((200 * l) + f)) rfl ?_
              refine w_cvE (pS h (comesF np l (s 10 ((200 * l) + f)) (s 11 ((200 * l) + f)) (uS (uS s 14 l (nI ((f + 1) % 200))) 15 l ((s 15 l) - 1)))) rfl rfl (by decide) (Nat.le_of_ble_eq_true rfl) rfl (Nat.le_of_ble_eq_true rfl) (Nat.le_of_ble_eq_true rfl) ⟨wM hw 0 (by omega), rfl⟩ rfl (mX_comes X hw (uS (uS s 14 l (nI ((f + 1) % 200))) 15 l ((s 15 l) - 1)) l (s 10 ((200 * l) + f)) (s 11 ((200 * l) + f)) hl hn (by have := hk 0 (by omega); rw [Nat.add_zero, Nat.mod_eq_of_lt hf2] at this; exact this)) ?_
              refine w_go rfl ?_
              rw [cmF, if_pos ⟨Int32.not_le.mp c0, by rw [ef]; exact c1⟩, ef, if_neg c2, if_neg (Int32.not_lt.mpr c3)]
              refine ih _ _ (u - 1) ((f + 1) % 200) (by rw [comesF_j _ _ _ _ _ _ (by decide)]; exact hn) (by rw [comesF_j _ _ _ _ _ _ (by decide)]; rw [uS_eq, hu]; exact nI_sub (b := 1) hu0) (by omega) (by omega) (by rw [comesF_j _ _ _ _ _ _ (by decide)]; exact uS_at2 (by omega)) (Nat.mod_lt _ (by omega)) (fun k hk2 => ?_)
              have h9 := hk (k + 1) (by omega)
              rw [show (f + (k + 1)) % 200 = ((f + 1) % 200 + k) % 200 by omega] at h9
              rw [comesF_j _ _ _ _ _ _ (by decide)]
              exact h9
            · refine w_pu rfl rfl ?_
              refine m_gR 21 hw rfl rfl rfl ?_
              refine w_pu rfl rfl ?_
              refine w_pu rfl rfl ?_
              refine m_ai 21 l hw rfl rfl (by omega) (by first | rfl | simp only [ix_lits, nI_mul, nI_add, hf]) (by show l < 8; omega) ?_
              refine w_top (s 21 l) rfl ?_
              refine w_cst (v := 1) rfl rfl rfl ?_
              refine w_pu rfl rfl ?_
              refine m_si 21 l hw rfl rfl (by omega) (by first | rfl | simp only [ix_lits, nI_mul, nI_add, hf]) (by show l < 8; omega) ?_
              refine w_go rfl ?_
              rw [cmF, if_pos ⟨Int32.not_le.mp c0, by rw [ef]; exact c1⟩, ef, if_neg c2, if_pos (Int32.not_le.mp c3)]
              refine ih _ _ (u - 1) ((f + 1) % 200) hn (by rw [uS_j _ _ _ (by decide), uS_eq, hu]; exact nI_sub (b := 1) hu0) (by omega) (by omega) (by rw [uS_j _ _ _ (by decide)]; exact uS_at2 (by omega)) (Nat.mod_lt _ (by omega)) (fun k hk2 => ?_)
              have h9 := hk (k + 1) (by omega)
              rw [show (f + (k + 1)) % 200 = ((f + 1) % 200 + k) % 200 by omega] at h9
              exact h9
          · refine w_go rfl ?_
            rw [cmF, if_pos ⟨Int32.not_le.mp c0, by rw [ef]; exact c1⟩, ef, if_pos c2]
            refine ih _ _ (u - 1) ((f + 1) % 200) hn (by rw [uS_eq, hu]; exact nI_sub (b := 1) hu0) (by omega) (by omega) (uS_at2 (by omega)) (Nat.mod_lt _ (by omega)) (fun k hk2 => ?_)
            have h9 := hk (k + 1) (by omega)
            rw [show (f + (k + 1)) % 200 = ((f + 1) % 200 + k) % 200 by omega] at h9
            exact h9
  obtain ⟨u, f, a1, a2, a3, a4, a5⟩ := hCM
  exact loop 201 s _ u f hn a1 a2 (by omega) a3 a4 a5
theorem bI_01 (b : Bool) : bI b = 0 ∨ bI b = 1 := by
  cases b
  · exact Or.inl rfl
  · exact Or.inr rfl
theorem mX_isWhole (X : Nat × (Nat → Int32)) {h : Hp} {nl nf np : Nat} (hw : WF h nl nf np) (s : SS) (f a r : Nat) (hf : f < nf) (ha : s 32 f = nI a) (hr : s 33 f = nI r) (har : a + r ≤ np) : wp X 109 0 [TM, some (vI (nI f)), none, none] [] (pS h s) (fun r h' => r = some (vI (bI (wholeF s f))) ∧ h' = pS h s) := by
  have h3 := hw.2.2.2.2.2.2.2.2
  have h5 := hw.2.2.2.2.2.2.2.1
  have ew : wholeF s f = allT s a r := by rw [wholeF, ha, hr, nat_nI (by omega), nat_nI (by omega)]
  rw [ew]
  have loop : ∀ d k, k + d = r → wp X 109 4 [TM, some (vI (nI f)), some (vI (bI (allT s a k))), some (vI (nI k))] [] (pS h s) (fun r' h' => r' = some (vI (bI (allT s a r))) ∧ h' = pS h s) := by
    intro d
    induction d with
    | zero =>
      intro k hk
      refine w_pu rfl rfl ?_
      refine w_pu rfl rfl ?_
      refine m_gR 33 hw rfl rfl rfl ?_
      refine w_pu rfl rfl ?_
      refine m_ai 33 f hw rfl rfl (by omega) (by first | rfl | simp only [ix_lits, nI_mul, nI_add]) (by show f < 300; omega) ?_
      refine w_ge rfl (fun c0 => ?_) (fun c0 => ?_)
      · refine w_pu rfl rfl ?_
        refine w_rt rfl rfl (by exact bI_01 _) ?_
        exact ⟨by rw [show k = r by omega], rfl⟩
      · exact absurd (by rw [hr]; exact nI_le (by omega) (by omega)) c0
    | succ d ih =>
      intro k hk
      refine w_pu rfl rfl ?_
      refine w_pu rfl rfl ?_
      refine m_gR 33 hw rfl rfl rfl ?_
      refine w_pu rfl rfl ?_
      refine m_ai 33 f hw rfl rfl (by omega) (by first | rfl | simp only [ix_lits, nI_mul, nI_add, ha]) (by show f < 300; omega) ?_
      refine w_ge rfl (fun c0 => ?_) (fun c0 => ?_)
      · exact absurd (by rw [hr] at c0; exact c0) (nI_ge (by omega) (by omega))
      · refine w_pu rfl rfl ?_
        refine w_eq0 rfl (fun c1 => ?_) (fun c1 => ?_)
        · refine w_cst (v := 0) rfl rfl rfl ?_
          refine w_pu rfl rfl ?_
          refine w_i1 rfl rfl rfl ?_
          refine w_go rfl ?_
          refine w_loc [TM, some (vI (nI f)), some (vI (bI (allT s a (k + 1)))), some (vI (nI (k + 1)))] (by rw [allT, bI_0 c1, Bool.false_and]; rfl) ?_
          exact ih (k + 1) (by omega)
        · refine w_pu rfl rfl ?_
          refine m_gR 23 hw rfl rfl rfl ?_
          refine w_pu rfl rfl ?_
          refine m_gR 32 hw rfl rfl rfl ?_
          refine w_pu rfl rfl ?_
          refine m_ai 32 f hw rfl rfl (by omega) (by first | rfl | simp only [ix_lits, nI_mul, nI_add, ha]) (by show f < 300; omega) ?_
          refine w_pu rfl rfl ?_
          refine w_pu rfl rfl ?_
          refine m_ai 23 (a + k) hw rfl rfl (by omega) (by first | rfl | simp only [ix_lits, nI_mul, nI_add, ha]) (by show (a + k) < 3000; omega) ?_
          refine w_cst (v := 3) rfl rfl rfl ?_
          refine w_ne rfl (fun c2 => ?_) (fun c2 => ?_)
          · refine w_cst (v := 0) rfl rfl rfl ?_
            refine w_pu rfl rfl ?_
            refine w_i1 rfl rfl rfl ?_
            refine w_go rfl ?_
            refine w_loc [TM, some (vI (nI f)), some (vI (bI (allT s a (k + 1)))), some (vI (nI (k + 1)))] (by rw [allT, decide_eq_false c2, Bool.and_false]; rfl) ?_
            exact ih (k + 1) (by omega)
          · refine w_cst (v := 1) rfl rfl rfl ?_
            refine w_go rfl ?_
            refine w_pu rfl rfl ?_
            refine w_i1 rfl rfl rfl ?_
            refine w_go rfl ?_
            refine w_loc [TM, some (vI (nI f)), some (vI (bI (allT s a (k + 1)))), some (vI (nI (k + 1)))] (by rw [allT, bI_1 c1, decide_eq_true c2]; rfl) ?_
            exact ih (k + 1) (by omega)
  refine w_cst (v := 1) rfl rfl rfl ?_
  refine w_pu rfl rfl ?_
  refine w_cst (v := 0) rfl rfl rfl ?_
  refine w_pu rfl rfl ?_
  exact loop r 0 (by omega)
end
section
/-! The reference's tick, as a whole. -/
def FR (s : SS) (nf np : Nat) : Prop := ∀ f, f < nf → ∃ a r, s 32 f = nI a ∧ s 33 f = nI r ∧ a + r ≤ np
def st2 (nl np t : Nat) (s : SS) : SS := layingF nl np (uS s 0 45 (nI t))
def st3 (nl np t : Nat) (s : SS) (l : Nat) : SS := onL (sendingF t) l (st2 nl np t s)
def st4 (nl np t : Nat) (s : SS) (l : Nat) : SS := onL (fun l => cmF np l 201) l (st3 nl np t s nl)
def st5 (nl nf np t : Nat) (s : SS) : SS := gvF (nf + 1) (st4 nl np t s nl)
def st6 (nl nf np t : Nat) (s : SS) (l : Nat) : SS := onL restF l (st5 nl nf np t s)
theorem st2_eq (nl np t : Nat) (s : SS) : st2 nl np t s = layingF nl np (uS s 0 45 (nI t)) := by rw [st2]
theorem st3_0 (nl np t : Nat) (s : SS) : st3 nl np t s 0 = st2 nl np t s := by rw [st3, onL]
theorem st3_s (nl np t : Nat) (s : SS) (l : Nat) : st3 nl np t s (l + 1) = sendingF t l (st3 nl np t s l) := by rw [st3, st3, onL]
theorem st4_0 (nl np t : Nat) (s : SS) : st4 nl np t s 0 = st3 nl np t s nl := by rw [st4, onL]
theorem st4_s (nl np t : Nat) (s : SS) (l : Nat) : st4 nl np t s (l + 1) = cmF np l 201 (st4 nl np t s l) := by rw [st4, st4, onL]
theorem st5_eq (nl nf np t : Nat) (s : SS) : gvF (nf + 1) (st4 nl np t s nl) = st5 nl nf np t s := by rw [st5]
theorem st6_0 (nl nf np t : Nat) (s : SS) : st6 nl nf np t s 0 = st5 nl nf np t s := by rw [st6, onL]
theorem st6_s (nl nf np t : Nat) (s : SS) (l : Nat) : st6 nl nf np t s (l + 1) = restF l (st6 nl nf np t s l) := by rw [st6, st6, onL]
theorem stepF_st (nl nf np t : Nat) (s : SS) : stepF nl nf np t s = st6 nl nf np t s nl := by rw [stepF, st6, st5, st4, st3, st2]
theorem tickF_s (nl nf np t n : Nat) (s : SS) : tickF nl nf np t (n + 1) s = stepF nl nf np (t + n + 1) (tickF nl nf np t n s) := by rw [tickF]
/-- what a tick needs that no index leaves its row -/
def StepOK (nl nf np t : Nat) (s : SS) : Prop := s 0 45 + 1 = nI t ∧ t ≤ 20000 ∧
  (∃ J : SS → Prop, (∀ t, J t → t 0 0 = nI nl ∧ t 0 23 = nI np ∧ (∀ l, l < nl → ∃ q, t 8 l = nI q ∧ q ≤ 40 ∧ ∀ k, k < q → okp np (t 7 (41 * l + k))) ∧ (∀ l, l < nl → ¬ t 2 l = 0)) ∧ (∀ t p l, J t → p < np → (t 23 p = 2 ∨ t 23 p = 0) → blF t p nl = some l → J (layOnF t p l)) ∧ J (uS s 0 45 (nI t))) ∧
  (∀ l, l ≤ nl → st3 nl np t s l 0 0 = nI nl ∧ st3 nl np t s l 0 45 = nI t ∧ (l < nl → (∃ sp, st3 nl np t s l 6 l = nI sp ∧ sp ≤ 20) ∧ LQ (st3 nl np t s l) l np)) ∧
  (∀ l, l ≤ nl → st4 nl np t s l 0 0 = nI nl ∧ st4 nl np t s l 0 23 = nI np ∧ (l < nl → CM (st4 nl np t s l) l np)) ∧
  (∃ g, st4 nl np t s nl 0 33 = nI g ∧ g ≤ nf ∧ st4 nl np t s nl 0 32 = nI nf ∧ FR (st4 nl np t s nl) nf np) ∧
  (∀ l, l ≤ nl → st6 nl nf np t s l 0 0 = nI nl ∧ (l < nl → ∃ q, st6 nl nf np t s l 8 l = nI q ∧ q ≤ 40))
theorem mX_step (X : Nat × (Nat → Int32)) {h : Hp} {nl nf np : Nat} (hw : WF h nl nf np) (s : SS) (t : Nat) (ok : StepOK nl nf np t s) : wp X 110 0 [TM, none] [] (pS h s) (fun r h' => r = none ∧ h' = pS h (stepF nl nf np t s)) := by
  have h4 := hw.2.2.2.2.2.2.1
  have h5 := hw.2.2.2.2.2.2.2.1
  have h3 := hw.2.2.2.2.2.2.2.2
  obtain ⟨ht, ht2, ⟨J, J1, J2, J3⟩, hS, hC, ⟨g, g1, g2, g3, g4⟩, hR⟩ := ok
  have rest : ∀ d l, l + d = nl → wp X 110 106 [TM, some (vI (nI l))] [] (pS h (st6 nl nf np t s l)) (fun r h' => r = none ∧ h' = pS h (stepF nl nf np t s)) := by
    intro d
    induction d with
    | zero =>
      intro l hl
      obtain ⟨r1, -⟩ := hR l (by omega)
      generalize ha : st6 nl nf np t s l = a at r1 ⊢
      refine w_pu rfl rfl ?_
      refine w_pu rfl rfl ?_
      refine m_g hw rfl rfl ?_
      refine w_ge rfl (fun c0 => ?_) (fun c0 => ?_)
      · refine w_rt rfl rfl trivial ?_
        exact ⟨rfl, by rw [stepF_st, ← ha, show l = nl by omega]⟩
      · exact absurd (by rw [r1]; exact nI_le (by omega) (by omega)) c0
    | succ d ih =>
      intro l hl
      obtain ⟨r1, r2⟩ := hR l (by omega)
      obtain ⟨q, q1, q2⟩ := r2 (by omega)
      have ih := ih (l + 1) (by omega)
      rw [st6_s] at ih
      generalize ha : st6 nl nf np t s l = a at r1 q1 ih ⊢
      refine w_pu rfl rfl ?_
      refine w_pu rfl rfl ?_
      refine m_g hw rfl rfl ?_
      refine w_ge rfl (fun c0 => ?_) (fun c0 => ?_)
      · exact absurd (by rw [r1] at c0; exact c0) (nI_ge (by omega) (by omega))
      · refine w_pu rfl rfl ?_
        refine m_gR 4 hw rfl rfl rfl ?_
        refine w_pu rfl rfl ?_
        refine m_ab 4 l hw rfl (Or.inr ⟨rfl, rfl⟩) (by omega) (by first | rfl | simp only [ix_lits, nI_mul, nI_add]) (by show l < 8; omega) ?_
        refine w_eq0 rfl (fun c1 => ?_) (fun c1 => ?_)
        · refine w_i1 rfl rfl rfl ?_
          refine w_go rfl ?_
          rw [restF, if_neg (fun z => z.1 c1)] at ih
          exact ih
        · refine w_pu rfl rfl ?_
          refine m_gR 8 hw rfl rfl rfl ?_
          refine w_pu rfl rfl ?_
          refine m_ai 8 l hw rfl rfl (by omega) (by first | rfl | simp only [ix_lits, nI_mul, nI_add]) (by show l < 8; omega) ?_
          refine w_ne0 rfl (fun c2 => ?_) (fun c2 => ?_)
          · refine w_i1 rfl rfl rfl ?_
            refine w_go rfl ?_
            rw [restF, if_neg (fun z => c2 z.2.1)] at ih
            exact ih
          · refine w_pu rfl rfl ?_
            refine m_gR 15 hw rfl rfl rfl ?_
            refine w_pu rfl rfl ?_
            refine m_ai 15 l hw rfl rfl (by omega) (by first | rfl | simp only [ix_lits, nI_mul, nI_add]) (by show l < 8; omega) ?_
            refine w_ne0 rfl (fun c3 => ?_) (fun c3 => ?_)
            · refine w_i1 rfl rfl rfl ?_
              refine w_go rfl ?_
              rw [restF, if_neg (fun z => c3 z.2.2.1)] at ih
              exact ih
            · refine w_pu rfl rfl ?_
              refine m_gR 17 hw rfl rfl rfl ?_
              refine w_pu rfl rfl ?_
              refine m_ai 17 l hw rfl rfl (by omega) (by first | rfl | simp only [ix_lits, nI_mul, nI_add]) (by show l < 8; omega) ?_
              refine w_pu rfl rfl ?_
              refine m_gR 16 hw rfl rfl rfl ?_
              refine w_pu rfl rfl ?_
              refine m_ai 16 l hw rfl rfl (by omega) (by first | rfl | simp only [ix_lits, nI_mul, nI_add]) (by show l < 8; omega) ?_
              refine w_ge rfl (fun c4 => ?_) (fun c4 => ?_)
              · refine w_i1 rfl rfl rfl ?_
                refine w_go rfl ?_
                rw [restF, if_neg (fun z => Int32.not_lt.mpr c4 z.2.2.2)] at ih
                exact ih
              · refine w_pu rfl rfl ?_
                refine w_cst (v := (-2)) rfl rfl rfl ?_
                refine w_pu rfl rfl ?_
                refine w_cvE (pS h (layEF a l)) rfl rfl (by decide) (Nat.le_of_ble_eq_true rfl) rfl (Nat.le_of_ble_eq_true rfl) (Nat.le_of_ble_eq_true rfl) ⟨wM hw 0 (by omega), rfl⟩ rfl (mX_layE X hw a l q (by omega) q1 q2) ?_
                refine w_i1 rfl rfl rfl ?_
                refine w_go rfl ?_
                rw [restF, if_pos ⟨c1, c2, c3, Int32.not_le.mp c4⟩] at ih
                exact ih
  have give : ∀ n g (s4 : SS) (x : Option Vl), s4 0 33 = nI g → g ≤ nf → nf + 1 ≤ g + n → s4 0 32 = nI nf → FR s4 nf np → gvF n s4 = st5 nl nf np t s → wp X 110 56 [TM, x] [] (pS h s4) (fun r h' => r = none ∧ h' = pS h (stepF nl nf np t s)) := by
    intro n
    induction n with
    | zero => intro g s4 x h1 h2 hn; exact absurd hn (by omega)
    | succ n ih =>
      intro g s4 x e33 hg hn e32 hF e5
      have eg : nat (s4 0 33) = g := by rw [e33, nat_nI (by omega)]
      refine w_pu rfl rfl ?_
      refine m_g hw rfl rfl ?_
      refine w_pu rfl rfl ?_
      refine m_g hw rfl rfl ?_
      refine w_ge rfl (fun c0 => ?_) (fun c0 => ?_)
      · refine w_cst (v := 0) rfl rfl rfl ?_
        refine w_pu rfl rfl ?_
        have e6 : s4 = st6 nl nf np t s 0 := by
          rw [st6_0, ← e5, gvF, if_neg (fun z => Int32.not_lt.mpr c0 z.1)]
        rw [e6]
        exact rest nl 0 (by omega)
      · have hgf : g < nf := by
          rcases Nat.lt_or_ge g nf with z | z
          · exact z
          · exact absurd (by rw [e33, e32]; exact nI_le z (by omega)) c0
        refine w_pu rfl rfl ?_
        refine w_pu rfl rfl ?_
        refine m_g hw rfl rfl ?_
        refine w_top (nI g) e33 ?_
        refine w_cp (vI (bI (wholeF s4 g))) rfl rfl (by decide) (Nat.le_of_ble_eq_true rfl) rfl (Nat.le_of_ble_eq_true rfl) (Nat.le_of_ble_eq_true rfl) ⟨wM hw 0 (by omega), rfl⟩ rfl (mX_isWhole X hw s4 g _ _ hgf (hF g hgf).choose_spec.choose_spec.1 (hF g hgf).choose_spec.choose_spec.2.1 (hF g hgf).choose_spec.choose_spec.2.2) ?_
        refine w_eq0 rfl (fun c1 => ?_) (fun c1 => ?_)
        · refine w_cst (v := 0) rfl rfl rfl ?_
          refine w_pu rfl rfl ?_
          have e6 : s4 = st6 nl nf np t s 0 := by
            rw [st6_0, ← e5, gvF, if_neg (fun z => by have := bI_0 c1; rw [← eg, z.2] at this; cases this)]
          rw [e6]
          exact rest nl 0 (by omega)
        · refine w_pu rfl rfl ?_
          refine m_gR 34 hw rfl rfl rfl ?_
          refine w_pu rfl rfl ?_
          refine m_g hw rfl rfl ?_
          refine w_pu rfl rfl ?_
          refine m_g hw rfl rfl ?_
          refine m_si 34 g hw rfl rfl (by omega) (by first | rfl | simp only [ix_lits, nI_mul, nI_add, e33]) (by show g < 300; omega) ?_
          refine w_pu rfl rfl ?_
          refine w_pu rfl rfl ?_
          refine m_g hw rfl rfl ?_
          refine w_top (s4 0 33) rfl ?_
          refine w_cst (v := 1) rfl rfl rfl ?_
          refine w_pu rfl rfl ?_
          refine m_p hw rfl rfl ?_
          refine w_go rfl ?_
          refine ih (g + 1) _ _ ?_ (by omega) (by omega) e32 hF ?_
          · rw [uS_eq, e33, nI_1]
          · rw [← e5, gvF, if_pos ⟨Int32.not_le.mp c0, by rw [eg]; exact bI_1 c1⟩, eg]
  have com : ∀ d l, l + d = nl → wp X 110 37 [TM, some (vI (nI l))] [] (pS h (st4 nl np t s l)) (fun r h' => r = none ∧ h' = pS h (stepF nl nf np t s)) := by
    intro d
    induction d with
    | zero =>
      intro l hl
      have el : l = nl := by omega
      subst el
      obtain ⟨r1, -⟩ := hC l (by omega)
      have gv := fun x => give (nf + 1) g (st4 l np t s l) x g1 g2 (by omega) g3 g4 (st5_eq l nf np t s)
      generalize ha : st4 l np t s l = a at r1 gv ⊢
      refine w_pu rfl rfl ?_
      refine w_pu rfl rfl ?_
      refine m_g hw rfl rfl ?_
      refine w_ge rfl (fun c0 => ?_) (fun c0 => ?_)
      · exact gv _
      · exact absurd (by rw [r1]; exact Int32.le_refl _) c0
    | succ d ih =>
      intro l hl
      obtain ⟨r1, r2, r3⟩ := hC l (by omega)
      have r3 := r3 (by omega)
      have ih := ih (l + 1) (by omega)
      rw [st4_s] at ih
      generalize ha : st4 nl np t s l = a at r1 r2 r3 ih ⊢
      refine w_pu rfl rfl ?_
      refine w_pu rfl rfl ?_
      refine m_g hw rfl rfl ?_
      refine w_ge rfl (fun c0 => ?_) (fun c0 => ?_)
      · exact absurd (by rw [r1] at c0; exact c0) (nI_ge (by omega) (by omega))
      · refine w_pu rfl rfl ?_
        refine w_pu rfl rfl ?_
        refine w_cvE (pS h (cmF np l 201 a)) rfl rfl (by decide) (Nat.le_of_ble_eq_true rfl) rfl (Nat.le_of_ble_eq_true rfl) (Nat.le_of_ble_eq_true rfl) ⟨wM hw 0 (by omega), rfl⟩ rfl (mX_coming X hw a l (by omega) r2 r3) ?_
        refine w_i1 rfl rfl rfl ?_
        refine w_go rfl ?_
        exact ih
  have snd : ∀ d l, l + d = nl → wp X 110 16 [TM, some (vI (nI l))] [] (pS h (st3 nl np t s l)) (fun r h' => r = none ∧ h' = pS h (stepF nl nf np t s)) := by
    intro d
    induction d with
    | zero =>
      intro l hl
      have el : l = nl := by omega
      subst el
      obtain ⟨r1, -⟩ := hS l (by omega)
      have cm : wp X 110 37 [TM, some (vI (nI 0))] [] (pS h (st3 l np t s l)) (fun r h' => r = none ∧ h' = pS h (stepF l nf np t s)) := by
        rw [← st4_0]
        exact com l 0 (by omega)
      generalize ha : st3 l np t s l = a at r1 cm ⊢
      refine w_pu rfl rfl ?_
      refine w_pu rfl rfl ?_
      refine m_g hw rfl rfl ?_
      refine w_ge rfl (fun c0 => ?_) (fun c0 => ?_)
      · refine w_cst (v := 0) rfl rfl rfl ?_
        refine w_pu rfl rfl ?_
        exact cm
      · exact absurd (by rw [r1]; exact Int32.le_refl _) c0
    | succ d ih =>
      intro l hl
      obtain ⟨r1, r2, r3⟩ := hS l (by omega)
      obtain ⟨⟨sp, r3, r4⟩, r5⟩ := r3 (by omega)
      have ih := ih (l + 1) (by omega)
      rw [st3_s] at ih
      generalize ha : st3 nl np t s l = a at r1 r2 r3 r5 ih ⊢
      refine w_pu rfl rfl ?_
      refine w_pu rfl rfl ?_
      refine m_g hw rfl rfl ?_
      refine w_ge rfl (fun c0 => ?_) (fun c0 => ?_)
      · exact absurd (by rw [r1] at c0; exact c0) (nI_ge (by omega) (by omega))
      · refine w_pu rfl rfl ?_
        refine w_pu rfl rfl ?_
        refine w_cvE (pS h (sendingF t l a)) rfl rfl (by decide) (Nat.le_of_ble_eq_true rfl) rfl (Nat.le_of_ble_eq_true rfl) (Nat.le_of_ble_eq_true rfl) ⟨wM hw 0 (by omega), rfl⟩ rfl (mX_sending X hw a l t sp (by omega) r2 ht2 r3 r4 r5) ?_
        refine w_i1 rfl rfl rfl ?_
        refine w_go rfl ?_
        exact ih
  refine w_pu rfl rfl ?_
  refine w_pu rfl rfl ?_
  refine m_g hw rfl rfl ?_
  refine w_cst (v := 1) rfl rfl rfl ?_
  refine w_pu rfl rfl ?_
  refine m_p hw rfl rfl ?_
  refine w_pu rfl rfl ?_
  refine w_cvE (pS h (st2 nl np t s)) rfl rfl (by decide) (Nat.le_of_ble_eq_true rfl) rfl (Nat.le_of_ble_eq_true rfl) (Nat.le_of_ble_eq_true rfl) ⟨wM hw 0 (by omega), rfl⟩ rfl (by rw [ht, st2_eq]; exact mX_laying X hw J J1 J2 _ J3) ?_
  refine w_cst (v := 0) rfl rfl rfl ?_
  refine w_pu rfl rfl ?_
  rw [← st3_0]
  exact snd nl 0 (by omega)
theorem i32_pos {n : Int32} (h : 0 ≤ n) : ∃ m, m < 2147483648 ∧ n = nI m := by
  have h1 : (0 : Int) ≤ n.toInt := by simpa using Int32.le_iff_toInt_le.mp h
  have h2 := Int32.toInt_lt n
  refine ⟨n.toInt.toNat, by omega, Int32.toInt_inj.mp ?_⟩
  rw [nI_toInt (by omega)]
  omega
theorem mX_tick (X : Nat × (Nat → Int32)) {h : Hp} {nl nf np : Nat} (hw : WF h nl nf np) (s : SS) (n : Int32) (t : Nat) (ht : s 0 45 = nI t) (ht2 : t ≤ 20000) (ok : ∀ m, n = nI m → 1 ≤ m → m ≤ 100 → t + m ≤ 20000 → ∀ k, k < m → StepOK nl nf np (t + k + 1) (tickF nl nf np t k s)) : wp X 111 0 [TM, some (vI n), none, none] [] (pS h s) (fun r h' => ∃ v, r = some (vI v) ∧ ((n < 1 ∧ v = -4 ∧ h' = pS h (refuseF s 4)) ∨ (¬ n < 1 ∧ (100 < n ∨ 20000 < s 0 45 + n) ∧ v = -6 ∧ h' = pS h (refuseF s 6)) ∨ (∃ m, n = nI m ∧ 1 ≤ m ∧ m ≤ 100 ∧ t + m ≤ 20000 ∧ v = tickF nl nf np t m s 0 33 - s 0 33 ∧ h' = pS h (tickF nl nf np t m s)))) := by
  have key : ∀ c1 : 1 ≤ n, ¬ 100 < n → s 0 45 + n ≤ 20000 → ∃ m, n = nI m ∧ 1 ≤ m ∧ m ≤ 100 ∧ t + m ≤ 20000 := by
    intro c1 c2 c3
    obtain ⟨m, hm, rfl⟩ := i32_pos (n := n) (Int32.le_trans (by decide) c1)
    have a1 : 1 ≤ m := (nI_leI (a := 1) (by omega) hm).mp c1
    have a2 : m ≤ 100 := (nI_leI (b := 100) hm (by omega)).mp (Int32.not_lt.mp c2)
    rw [ht, nI_add] at c3
    exact ⟨m, rfl, a1, a2, (nI_leI (b := 20000) (by omega) (by omega)).mp c3⟩
  have loop : ∀ m, n = nI m → 1 ≤ m → m ≤ 100 → t + m ≤ 20000 → ∀ d k, k + d = m → wp X 111 44 [TM, some (vI (nI m)), some (vI (s 0 33)), some (vI (nI k))] [] (pS h (tickF nl nf np t k s)) (fun r h' => r = some (vI (tickF nl nf np t m s 0 33 - s 0 33)) ∧ h' = pS h (tickF nl nf np t m s)) := by
    intro m hm hm1 hm2 hm3 d
    induction d with
    | zero =>
      intro k hk
      rw [show k = m by omega]
      generalize tickF nl nf np t m s = a
      refine w_pu rfl rfl ?_
      refine w_pu rfl rfl ?_
      refine w_ge rfl (fun c0 => ?_) (fun c0 => ?_)
      · refine w_pu rfl rfl ?_
        refine m_g hw rfl rfl ?_
        refine w_pu rfl rfl ?_
        refine w_pu rfl rfl ?_
        refine w_rt rfl rfl trivial ?_
        exact ⟨rfl, rfl⟩
      · exact absurd (Int32.le_refl _) c0
    | succ d ih =>
      intro k hk
      have ih := ih (k + 1) (by omega)
      rw [tickF_s] at ih
      have okk := ok m hm hm1 hm2 hm3 k (by omega)
      generalize tickF nl nf np t k s = a at ih okk ⊢
      refine w_pu rfl rfl ?_
      refine w_pu rfl rfl ?_
      refine w_ge rfl (fun c0 => ?_) (fun c0 => ?_)
      · exact absurd c0 (nI_ge (by omega) (by omega))
      · refine w_pu rfl rfl ?_
        refine w_cvE (pS h (stepF nl nf np (t + k + 1) a)) rfl rfl (by decide) (Nat.le_of_ble_eq_true rfl) rfl (Nat.le_of_ble_eq_true rfl) (Nat.le_of_ble_eq_true rfl) ⟨wM hw 0 (by omega), rfl⟩ rfl (mX_step X hw a (t + k + 1) okk) ?_
        refine w_i1 rfl rfl rfl ?_
        refine w_go rfl ?_
        exact ih
  refine w_pu rfl rfl ?_
  refine w_cst (v := 1) rfl rfl rfl ?_
  refine w_ge rfl (fun c0 => ?_) (fun c0 => ?_)
  · refine w_pu rfl rfl ?_
    refine w_cst (v := 100) rfl rfl rfl ?_
    refine w_gt rfl (fun c1 => ?_) (fun c1 => ?_)
    · refine w_pu rfl rfl ?_
      refine w_cst (v := (-6)) rfl rfl rfl ?_
      refine w_cgE (vI (-6)) (pS h (refuseF s 6)) rfl rfl (by decide) (Nat.le_of_ble_eq_true rfl) rfl (Nat.le_of_ble_eq_true rfl) (Nat.le_of_ble_eq_true rfl) ⟨wM hw 0 (by omega), rfl⟩ rfl (mX_refuse X hw s (-6) 6 (by decide) (by decide)) ?_
      refine w_rt rfl rfl trivial ?_
      exact ⟨_, rfl, Or.inr (Or.inl ⟨Int32.not_lt.mpr c0, Or.inl c1, rfl, rfl⟩)⟩
    · refine w_pu rfl rfl ?_
      refine m_g hw rfl rfl ?_
      refine w_pu rfl rfl ?_
      refine w_pu rfl rfl ?_
      refine w_cst (v := 20000) rfl rfl rfl ?_
      refine w_le rfl (fun c2 => ?_) (fun c2 => ?_)
      · refine w_pu rfl rfl ?_
        refine m_g hw rfl rfl ?_
        refine w_pu rfl rfl ?_
        refine w_cst (v := 0) rfl rfl rfl ?_
        refine w_pu rfl rfl ?_
        obtain ⟨m, rfl, m1, m2, m3⟩ := key c0 c1 c2
        exact w_mono (loop m rfl m1 m2 m3 m 0 (by omega)) (fun r h' q => ⟨_, q.1, Or.inr (Or.inr ⟨m, rfl, m1, m2, m3, rfl, q.2⟩)⟩)
      · refine w_pu rfl rfl ?_
        refine w_cst (v := (-6)) rfl rfl rfl ?_
        refine w_cgE (vI (-6)) (pS h (refuseF s 6)) rfl rfl (by decide) (Nat.le_of_ble_eq_true rfl) rfl (Nat.le_of_ble_eq_true rfl) (Nat.le_of_ble_eq_true rfl) ⟨wM hw 0 (by omega), rfl⟩ rfl (mX_refuse X hw s (-6) 6 (by decide) (by decide)) ?_
        refine w_rt rfl rfl trivial ?_
        exact ⟨_, rfl, Or.inr (Or.inl ⟨Int32.not_lt.mpr c0, Or.inr (Int32.not_le.mp c2), rfl, rfl⟩)⟩
  · refine w_pu rfl rfl ?_
    refine w_cst (v := (-4)) rfl rfl rfl ?_
    refine w_cgE (vI (-4)) (pS h (refuseF s 4)) rfl rfl (by decide) (Nat.le_of_ble_eq_true rfl) rfl (Nat.le_of_ble_eq_true rfl) (Nat.le_of_ble_eq_true rfl) ⟨wM hw 0 (by omega), rfl⟩ rfl (mX_refuse X hw s (-4) 4 (by decide) (by decide)) ?_
    refine w_rt rfl rfl trivial ?_
    exact ⟨_, rfl, Or.inl ⟨Int32.not_le.mp c0, rfl, rfl⟩⟩
end
section
/-! The reference's other calls: those without a loop (written by a program). -/
def lnO (n : Nat) (v : Int32) : Option Nat := if 0 ≤ v ∧ nat v < n then some (nat v) else none
theorem lnO_some {n : Nat} {v : Int32} {k : Nat} (h : lnO n v = some k) : v = nI k ∧ k < n := by
  unfold lnO at h
  split at h
  · next q =>
    cases h
    obtain ⟨m, hm, rfl⟩ := i32_pos q.1
    rw [nat_nI hm]
    exact ⟨rfl, by have := q.2; rwa [nat_nI hm] at this⟩
  · cases h
theorem lnO_nI {n k : Nat} (hk : k < n) (hn : n ≤ 2147483648) : lnO n (nI k) = some k := by
  unfold lnO
  rw [nat_nI (by omega), if_pos ⟨nI_pos' (by omega), hk⟩]
theorem inF_lnO {n : Nat} (v : Int32) (hn : n < 2147483648) : inF v 0 (nI n - 1) = bI (lnO n v).isSome := by
  unfold inF lnO
  by_cases h0 : 0 ≤ v
  · obtain ⟨m, hm, rfl⟩ := i32_pos h0
    rw [nat_nI hm]
    rcases Nat.eq_zero_or_pos n with z | z
    · subst z
      rw [if_neg (fun q => absurd (Int32.le_trans q.1 q.2) (by decide)), if_neg (fun q => absurd q.2 (by omega))]
      rfl
    · rw [show nI n - 1 = nI (n - 1) from nI_sub (b := 1) z]
      by_cases hmn : m < n
      · rw [if_pos ⟨h0, nI_le (by omega) (by omega)⟩, if_pos ⟨h0, hmn⟩]
        rfl
      · rw [if_neg (fun q => hmn (by have := (nI_leI hm (by omega)).mp q.2; omega)), if_neg (fun q => hmn q.2)]
        rfl
  · rw [if_neg (fun q => h0 q.1), if_neg (fun q => h0 q.1)]
    rfl
/-- a number beyond a table that begins at 0 -/
theorem sw_out {pc : Nat} {d hi : Int} {offs : Array Int} {x : Int32} {t : Nat} (h1 : 0 ≤ hi ∧ hi < 2147483647) (ht : ((pc : Int) + d).toNat = t) (h : ∀ k : Nat, k < hi.toNat + 1 → ¬ x = nI k) : swt pc (.tableswitch d 0 hi offs) x = some t := by
  unfold swt
  dsimp only
  rw [if_pos, ht]
  by_cases z : x.toInt < 0
  · exact Or.inl z
  · right
    by_cases w : hi < x.toInt
    · exact w
    · exfalso
      refine h x.toInt.toNat (by omega) (Int32.toInt_inj.mp ?_)
      rw [nI_toInt (by omega)]
      omega
def cutF (nl nf np : Nat) (s : SS) (n : Int32) : Int32 × SS := (if 1 ≤ n then (if n ≤ 250 then (s 0 43, (uS s 0 43 n)) else ((-6), refuseF s 6)) else ((-4), refuseF s 4))
theorem mX_cut (X : Nat × (Nat → Int32)) {h : Hp} {nl nf np : Nat} (hw : WF h nl nf np) (s : SS)  (n : Int32) : wp X 93 0 [TM, some (vI n), none] [] (pS h s) (fun r h' => r = some (vI (cutF nl nf np s n).1) ∧ h' = pS h (cutF nl nf np s n).2) := by
  have h3 := hw.2.2.2.2.2.2.2.2
  have h4 := hw.2.2.2.2.2.2.1
  have h5 := hw.2.2.2.2.2.2.2.1
  refine w_pu rfl rfl ?_
  refine w_cst (v := 1) rfl rfl rfl ?_
  refine w_ge rfl (fun c0 => ?_) (fun c0 => ?_)
  · refine w_pu rfl rfl ?_
    refine w_cst (v := 250) rfl rfl rfl ?_
    refine w_le rfl (fun c1 => ?_) (fun c1 => ?_)
    · refine w_pu rfl rfl ?_
      refine m_g hw rfl rfl ?_
      refine w_pu rfl rfl ?_
      refine w_pu rfl rfl ?_
      refine w_pu rfl rfl ?_
      refine m_p hw rfl rfl ?_
      refine w_pu rfl rfl ?_
      refine w_rt rfl rfl trivial ?_
      exact ⟨by rw [cutF, if_pos c0, if_pos c1], by rw [cutF, if_pos c0, if_pos c1]⟩
    · refine w_pu rfl rfl ?_
      refine w_cst (v := (-6)) rfl rfl rfl ?_
      refine w_cgE (vI (-6)) (pS h (refuseF s 6)) rfl rfl (by decide) (Nat.le_of_ble_eq_true rfl) rfl (Nat.le_of_ble_eq_true rfl) (Nat.le_of_ble_eq_true rfl) ⟨wM hw 0 (by omega), rfl⟩ rfl (mX_refuse X hw s (-6) 6 (by decide) (by decide)) ?_
      refine w_rt rfl rfl trivial ?_
      exact ⟨by rw [cutF, if_pos c0, if_neg c1], by rw [cutF, if_pos c0, if_neg c1]⟩
  · refine w_pu rfl rfl ?_
    refine w_cst (v := (-4)) rfl rfl rfl ?_
    refine w_cgE (vI (-4)) (pS h (refuseF s 4)) rfl rfl (by decide) (Nat.le_of_ble_eq_true rfl) rfl (Nat.le_of_ble_eq_true rfl) (Nat.le_of_ble_eq_true rfl) ⟨wM hw 0 (by omega), rfl⟩ rfl (mX_refuse X hw s (-4) 4 (by decide) (by decide)) ?_
    refine w_rt rfl rfl trivial ?_
    exact ⟨by rw [cutF, if_neg c0], by rw [cutF, if_neg c0]⟩
def roomF (nl nf np : Nat) (s : SS) (n : Int32) : Int32 × SS := (if 4000 ≤ n then (if n ≤ 20000 then (s 0 44, (uS s 0 44 n)) else ((-6), refuseF s 6)) else ((-4), refuseF s 4))
theorem mX_room (X : Nat × (Nat → Int32)) {h : Hp} {nl nf np : Nat} (hw : WF h nl nf np) (s : SS)  (n : Int32) : wp X 94 0 [TM, some (vI n), none] [] (pS h s) (fun r h' => r = some (vI (roomF nl nf np s n).1) ∧ h' = pS h (roomF nl nf np s n).2) := by
  have h3 := hw.2.2.2.2.2.2.2.2
  have h4 := hw.2.2.2.2.2.2.1
  have h5 := hw.2.2.2.2.2.2.2.1
  refine w_pu rfl rfl ?_
  refine w_cst (v := 4000) rfl rfl rfl ?_
  refine w_ge rfl (fun c0 => ?_) (fun c0 => ?_)
  · refine w_pu rfl rfl ?_
    refine w_cst (v := 20000) rfl rfl rfl ?_
    refine w_le rfl (fun c1 => ?_) (fun c1 => ?_)
    · refine w_pu rfl rfl ?_
      refine m_g hw rfl rfl ?_
      refine w_pu rfl rfl ?_
      refine w_pu rfl rfl ?_
      refine w_pu rfl rfl ?_
      refine m_p hw rfl rfl ?_
      refine w_pu rfl rfl ?_
      refine w_rt rfl rfl trivial ?_
      exact ⟨by rw [roomF, if_pos c0, if_pos c1], by rw [roomF, if_pos c0, if_pos c1]⟩
    · refine w_pu rfl rfl ?_
      refine w_cst (v := (-6)) rfl rfl rfl ?_
      refine w_cgE (vI (-6)) (pS h (refuseF s 6)) rfl rfl (by decide) (Nat.le_of_ble_eq_true rfl) rfl (Nat.le_of_ble_eq_true rfl) (Nat.le_of_ble_eq_true rfl) ⟨wM hw 0 (by omega), rfl⟩ rfl (mX_refuse X hw s (-6) 6 (by decide) (by decide)) ?_
      refine w_rt rfl rfl trivial ?_
      exact ⟨by rw [roomF, if_pos c0, if_neg c1], by rw [roomF, if_pos c0, if_neg c1]⟩
  · refine w_pu rfl rfl ?_
    refine w_cst (v := (-4)) rfl rfl rfl ?_
    refine w_cgE (vI (-4)) (pS h (refuseF s 4)) rfl rfl (by decide) (Nat.le_of_ble_eq_true rfl) rfl (Nat.le_of_ble_eq_true rfl) (Nat.le_of_ble_eq_true rfl) ⟨wM hw 0 (by omega), rfl⟩ rfl (mX_refuse X hw s (-4) 4 (by decide) (by decide)) ?_
    refine w_rt rfl rfl trivial ?_
    exact ⟨by rw [roomF, if_neg c0], by rw [roomF, if_neg c0]⟩
def riseF (nl nf np : Nat) (s : SS) (l : Int32) : Int32 × SS := (match lnO nl l with
  | none => ((-1), refuseF s 1)
  | some kl => (if (s 4 kl) = 0 then (1, (uS s 4 kl 1)) else ((-5), refuseF s 5)))
theorem riseF_0 {nl nf np : Nat} {s : SS} {l : Int32} (el : lnO nl l = none) : riseF nl nf np s l = ((-1), refuseF s 1) := by
  unfold riseF
  rw [el]
theorem riseF_1 {nl nf np : Nat} {s : SS} {l : Int32} {kl : Nat} (el : lnO nl l = some kl) : riseF nl nf np s l = (if (s 4 kl) = 0 then (1, (uS s 4 kl 1)) else ((-5), refuseF s 5)) := by
  unfold riseF
  rw [el]
theorem mX_rise (X : Nat × (Nat → Int32)) {h : Hp} {nl nf np : Nat} (hw : WF h nl nf np) (s : SS) (hnl : s 0 0 = nI nl) (l : Int32) : wp X 116 0 [TM, some (vI l)] [] (pS h s) (fun r h' => r = some (vI (riseF nl nf np s l).1) ∧ h' = pS h (riseF nl nf np s l).2) := by
  have h3 := hw.2.2.2.2.2.2.2.2
  have h4 := hw.2.2.2.2.2.2.1
  have h5 := hw.2.2.2.2.2.2.2.1
  cases el : lnO nl l with
  | none =>
    refine w_pu rfl rfl ?_
    refine w_pu rfl rfl ?_
    refine w_cp (vI (inF l 0 (s 0 0 - 1))) rfl rfl (by decide) (Nat.le_of_ble_eq_true rfl) rfl (Nat.le_of_ble_eq_true rfl) (Nat.le_of_ble_eq_true rfl) ⟨wM hw 0 (by omega), rfl⟩ rfl (mX_isLine X hw s l) ?_
    refine w_top 0 (by rw [hnl, inF_lnO _ (by omega), el]; rfl) ?_
    refine w_ne0 rfl (fun c0 => ?_) (fun c0 => ?_)
    · exact absurd c0 (by decide)
    · refine w_pu rfl rfl ?_
      refine w_cst (v := (-1)) rfl rfl rfl ?_
      refine w_cgE (vI (-1)) (pS h (refuseF s 1)) rfl rfl (by decide) (Nat.le_of_ble_eq_true rfl) rfl (Nat.le_of_ble_eq_true rfl) (Nat.le_of_ble_eq_true rfl) ⟨wM hw 0 (by omega), rfl⟩ rfl (mX_refuse X hw s (-1) 1 (by decide) (by decide)) ?_
      refine w_rt rfl rfl trivial ?_
      exact ⟨by rw [riseF_0 el], by rw [riseF_0 el]⟩
  | some kl =>
    obtain ⟨rfl, hkl⟩ := lnO_some el
    refine w_pu rfl rfl ?_
    refine w_pu rfl rfl ?_
    refine w_cp (vI (inF (nI kl) 0 (s 0 0 - 1))) rfl rfl (by decide) (Nat.le_of_ble_eq_true rfl) rfl (Nat.le_of_ble_eq_true rfl) (Nat.le_of_ble_eq_true rfl) ⟨wM hw 0 (by omega), rfl⟩ rfl (mX_isLine X hw s (nI kl)) ?_
    refine w_top 1 (by rw [hnl, inF_lnO _ (by omega), el]; rfl) ?_
    refine w_ne0 rfl (fun c0 => ?_) (fun c0 => ?_)
    · refine w_pu rfl rfl ?_
      refine m_gR 4 hw rfl rfl rfl ?_
      refine w_pu rfl rfl ?_
      refine m_ab 4 kl hw rfl (Or.inr ⟨rfl, rfl⟩) (by omega) (by first | rfl | simp only [ix_lits, nI_mul, nI_add]) (by show kl < 8; omega) ?_
      refine w_eq0 rfl (fun c1 => ?_) (fun c1 => ?_)
      · refine w_pu rfl rfl ?_
        refine m_gR 4 hw rfl rfl rfl ?_
        refine w_pu rfl rfl ?_
        refine w_cst (v := 1) rfl rfl rfl ?_
        refine m_sz 4 kl hw rfl rfl (by omega) (by first | rfl | simp only [ix_lits, nI_mul, nI_add]) (by show kl < 8; omega) (by first | exact Or.inl rfl | exact Or.inr rfl) ?_
        refine w_cst (v := 1) rfl rfl rfl ?_
        refine w_rt rfl rfl trivial ?_
        exact ⟨by rw [riseF_1 el, if_pos c1], by rw [riseF_1 el, if_pos c1]⟩
      · refine w_pu rfl rfl ?_
        refine w_cst (v := (-5)) rfl rfl rfl ?_
        refine w_cgE (vI (-5)) (pS h (refuseF s 5)) rfl rfl (by decide) (Nat.le_of_ble_eq_true rfl) rfl (Nat.le_of_ble_eq_true rfl) (Nat.le_of_ble_eq_true rfl) ⟨wM hw 0 (by omega), rfl⟩ rfl (mX_refuse X hw s (-5) 5 (by decide) (by decide)) ?_
        refine w_rt rfl rfl trivial ?_
        exact ⟨by rw [riseF_1 el, if_neg c1], by rw [riseF_1 el, if_neg c1]⟩
    · exact absurd c0 (by decide)
def leaseF (nl nf np : Nat) (s : SS) (l a p : Int32) : Int32 × SS := (match lnO nl l with
  | none => ((-1), refuseF s 1)
  | some kl => (if (s 1 kl) = 3 then (if a < 250 then ((-4), refuseF s 4) else (if 1 ≤ p then (if 20000 < a then ((-6), refuseF s 6) else (if p ≤ 20 then (1, (uS (uS s 5 kl a) 6 kl p)) else ((-6), refuseF s 6))) else ((-4), refuseF s 4))) else ((-2), refuseF s 2)))
theorem leaseF_0 {nl nf np : Nat} {s : SS} {l a p : Int32} (el : lnO nl l = none) : leaseF nl nf np s l a p = ((-1), refuseF s 1) := by
  unfold leaseF
  rw [el]
theorem leaseF_1 {nl nf np : Nat} {s : SS} {l a p : Int32} {kl : Nat} (el : lnO nl l = some kl) : leaseF nl nf np s l a p = (if (s 1 kl) = 3 then (if a < 250 then ((-4), refuseF s 4) else (if 1 ≤ p then (if 20000 < a then ((-6), refuseF s 6) else (if p ≤ 20 then (1, (uS (uS s 5 kl a) 6 kl p)) else ((-6), refuseF s 6))) else ((-4), refuseF s 4))) else ((-2), refuseF s 2)) := by
  unfold leaseF
  rw [el]
theorem mX_lease (X : Nat × (Nat → Int32)) {h : Hp} {nl nf np : Nat} (hw : WF h nl nf np) (s : SS) (hnl : s 0 0 = nI nl) (l a p : Int32) : wp X 89 0 [TM, some (vI l), some (vI a), some (vI p)] [] (pS h s) (fun r h' => r = some (vI (leaseF nl nf np s l a p).1) ∧ h' = pS h (leaseF nl nf np s l a p).2) := by
  have h3 := hw.2.2.2.2.2.2.2.2
  have h4 := hw.2.2.2.2.2.2.1
  have h5 := hw.2.2.2.2.2.2.2.1
  cases el : lnO nl l with
  | none =>
    refine w_pu rfl rfl ?_
    refine w_pu rfl rfl ?_
    refine w_cp (vI (inF l 0 (s 0 0 - 1))) rfl rfl (by decide) (Nat.le_of_ble_eq_true rfl) rfl (Nat.le_of_ble_eq_true rfl) (Nat.le_of_ble_eq_true rfl) ⟨wM hw 0 (by omega), rfl⟩ rfl (mX_isLine X hw s l) ?_
    refine w_top 0 (by rw [hnl, inF_lnO _ (by omega), el]; rfl) ?_
    refine w_ne0 rfl (fun c0 => ?_) (fun c0 => ?_)
    · exact absurd c0 (by decide)
    · refine w_pu rfl rfl ?_
      refine w_cst (v := (-1)) rfl rfl rfl ?_
      refine w_cgE (vI (-1)) (pS h (refuseF s 1)) rfl rfl (by decide) (Nat.le_of_ble_eq_true rfl) rfl (Nat.le_of_ble_eq_true rfl) (Nat.le_of_ble_eq_true rfl) ⟨wM hw 0 (by omega), rfl⟩ rfl (mX_refuse X hw s (-1) 1 (by decide) (by decide)) ?_
      refine w_rt rfl rfl trivial ?_
      exact ⟨by rw [leaseF_0 el], by rw [leaseF_0 el]⟩
  | some kl =>
    obtain ⟨rfl, hkl⟩ := lnO_some el
    refine w_pu rfl rfl ?_
    refine w_pu rfl rfl ?_
    refine w_cp (vI (inF (nI kl) 0 (s 0 0 - 1))) rfl rfl (by decide) (Nat.le_of_ble_eq_true rfl) rfl (Nat.le_of_ble_eq_true rfl) (Nat.le_of_ble_eq_true rfl) ⟨wM hw 0 (by omega), rfl⟩ rfl (mX_isLine X hw s (nI kl)) ?_
    refine w_top 1 (by rw [hnl, inF_lnO _ (by omega), el]; rfl) ?_
    refine w_ne0 rfl (fun c0 => ?_) (fun c0 => ?_)
    · refine w_pu rfl rfl ?_
      refine m_gR 1 hw rfl rfl rfl ?_
      refine w_pu rfl rfl ?_
      refine m_ai 1 kl hw rfl rfl (by omega) (by first | rfl | simp only [ix_lits, nI_mul, nI_add]) (by show kl < 8; omega) ?_
      refine w_cst (v := 3) rfl rfl rfl ?_
      refine w_eq rfl (fun c1 => ?_) (fun c1 => ?_)
      · refine w_pu rfl rfl ?_
        refine w_cst (v := 250) rfl rfl rfl ?_
        refine w_lt rfl (fun c2 => ?_) (fun c2 => ?_)
        · refine w_pu rfl rfl ?_
          refine w_cst (v := (-4)) rfl rfl rfl ?_
          refine w_cgE (vI (-4)) (pS h (refuseF s 4)) rfl rfl (by decide) (Nat.le_of_ble_eq_true rfl) rfl (Nat.le_of_ble_eq_true rfl) (Nat.le_of_ble_eq_true rfl) ⟨wM hw 0 (by omega), rfl⟩ rfl (mX_refuse X hw s (-4) 4 (by decide) (by decide)) ?_
          refine w_rt rfl rfl trivial ?_
          exact ⟨by rw [leaseF_1 el, if_pos c1, if_pos c2], by rw [leaseF_1 el, if_pos c1, if_pos c2]⟩
        · refine w_pu rfl rfl ?_
          refine w_cst (v := 1) rfl rfl rfl ?_
          refine w_ge rfl (fun c3 => ?_) (fun c3 => ?_)
          · refine w_pu rfl rfl ?_
            refine w_cst (v := 20000) rfl rfl rfl ?_
            refine w_gt rfl (fun c4 => ?_) (fun c4 => ?_)
            · refine w_pu rfl rfl ?_
              refine w_cst (v := (-6)) rfl rfl rfl ?_
              refine w_cgE (vI (-6)) (pS h (refuseF s 6)) rfl rfl (by decide) (Nat.le_of_ble_eq_true rfl) rfl (Nat.le_of_ble_eq_true rfl) (Nat.le_of_ble_eq_true rfl) ⟨wM hw 0 (by omega), rfl⟩ rfl (mX_refuse X hw s (-6) 6 (by decide) (by decide)) ?_
              refine w_rt rfl rfl trivial ?_
              exact ⟨by rw [leaseF_1 el, if_pos c1, if_neg c2, if_pos c3, if_pos c4], by rw [leaseF_1 el, if_pos c1, if_neg c2, if_pos c3, if_pos c4]⟩
            · refine w_pu rfl rfl ?_
              refine w_cst (v := 20) rfl rfl rfl ?_
              refine w_le rfl (fun c5 => ?_) (fun c5 => ?_)
              · refine w_pu rfl rfl ?_
                refine m_gR 5 hw rfl rfl rfl ?_
                refine w_pu rfl rfl ?_
                refine w_pu rfl rfl ?_
                refine m_si 5 kl hw rfl rfl (by omega) (by first | rfl | simp only [ix_lits, nI_mul, nI_add]) (by show kl < 8; omega) ?_
                refine w_pu rfl rfl ?_
                refine m_gR 6 hw rfl rfl rfl ?_
                refine w_pu rfl rfl ?_
                refine w_pu rfl rfl ?_
                refine m_si 6 kl hw rfl rfl (by omega) (by first | rfl | simp only [ix_lits, nI_mul, nI_add]) (by show kl < 8; omega) ?_
                refine w_cst (v := 1) rfl rfl rfl ?_
                refine w_rt rfl rfl trivial ?_
                exact ⟨by rw [leaseF_1 el, if_pos c1, if_neg c2, if_pos c3, if_neg c4, if_pos c5], by rw [leaseF_1 el, if_pos c1, if_neg c2, if_pos c3, if_neg c4, if_pos c5]⟩
              · refine w_pu rfl rfl ?_
                refine w_cst (v := (-6)) rfl rfl rfl ?_
                refine w_cgE (vI (-6)) (pS h (refuseF s 6)) rfl rfl (by decide) (Nat.le_of_ble_eq_true rfl) rfl (Nat.le_of_ble_eq_true rfl) (Nat.le_of_ble_eq_true rfl) ⟨wM hw 0 (by omega), rfl⟩ rfl (mX_refuse X hw s (-6) 6 (by decide) (by decide)) ?_
                refine w_rt rfl rfl trivial ?_
                exact ⟨by rw [leaseF_1 el, if_pos c1, if_neg c2, if_pos c3, if_neg c4, if_neg c5], by rw [leaseF_1 el, if_pos c1, if_neg c2, if_pos c3, if_neg c4, if_neg c5]⟩
          · refine w_pu rfl rfl ?_
            refine w_cst (v := (-4)) rfl rfl rfl ?_
            refine w_cgE (vI (-4)) (pS h (refuseF s 4)) rfl rfl (by decide) (Nat.le_of_ble_eq_true rfl) rfl (Nat.le_of_ble_eq_true rfl) (Nat.le_of_ble_eq_true rfl) ⟨wM hw 0 (by omega), rfl⟩ rfl (mX_refuse X hw s (-4) 4 (by decide) (by decide)) ?_
            refine w_rt rfl rfl trivial ?_
            exact ⟨by rw [leaseF_1 el, if_pos c1, if_neg c2, if_neg c3], by rw [leaseF_1 el, if_pos c1, if_neg c2, if_neg c3]⟩
      · refine w_pu rfl rfl ?_
        refine w_cst (v := (-2)) rfl rfl rfl ?_
        refine w_cgE (vI (-2)) (pS h (refuseF s 2)) rfl rfl (by decide) (Nat.le_of_ble_eq_true rfl) rfl (Nat.le_of_ble_eq_true rfl) (Nat.le_of_ble_eq_true rfl) ⟨wM hw 0 (by omega), rfl⟩ rfl (mX_refuse X hw s (-2) 2 (by decide) (by decide)) ?_
        refine w_rt rfl rfl trivial ?_
        exact ⟨by rw [leaseF_1 el, if_neg c1], by rw [leaseF_1 el, if_neg c1]⟩
    · exact absurd c0 (by decide)
def lostOnF (nl nf np : Nat) (s : SS) (p l : Int32) : Int32 × SS := (match lnO np p with
  | none => ((-9), s)
  | some kp => (match lnO nl l with
  | none => ((-9), s)
  | some kl => (s 30 ((8 * kp) + kl), s)))
theorem lostOnF_0 {nl nf np : Nat} {s : SS} {p l : Int32} (ep : lnO np p = none) : lostOnF nl nf np s p l = ((-9), s) := by
  unfold lostOnF
  rw [ep]
theorem lostOnF_1 {nl nf np : Nat} {s : SS} {p l : Int32} {kp : Nat} (ep : lnO np p = some kp) (el : lnO nl l = none) : lostOnF nl nf np s p l = ((-9), s) := by
  unfold lostOnF
  rw [ep]; dsimp only; rw [el]
theorem lostOnF_2 {nl nf np : Nat} {s : SS} {p l : Int32} {kp : Nat} {kl : Nat} (ep : lnO np p = some kp) (el : lnO nl l = some kl) : lostOnF nl nf np s p l = (s 30 ((8 * kp) + kl), s) := by
  unfold lostOnF
  rw [ep]; dsimp only; rw [el]
theorem mX_lostOn (X : Nat × (Nat → Int32)) {h : Hp} {nl nf np : Nat} (hw : WF h nl nf np) (s : SS) (hnl : s 0 0 = nI nl) (hnp : s 0 23 = nI np) (p l : Int32) : wp X 120 0 [TM, some (vI p), some (vI l)] [] (pS h s) (fun r h' => r = some (vI (lostOnF nl nf np s p l).1) ∧ h' = pS h (lostOnF nl nf np s p l).2) := by
  have h3 := hw.2.2.2.2.2.2.2.2
  have h4 := hw.2.2.2.2.2.2.1
  have h5 := hw.2.2.2.2.2.2.2.1
  cases ep : lnO np p with
  | none =>
    refine w_pu rfl rfl ?_
    refine w_pu rfl rfl ?_
    refine w_cp (vI (inF p 0 (s 0 23 - 1))) rfl rfl (by decide) (Nat.le_of_ble_eq_true rfl) rfl (Nat.le_of_ble_eq_true rfl) (Nat.le_of_ble_eq_true rfl) ⟨wM hw 0 (by omega), rfl⟩ rfl (mX_isPiece X hw s p) ?_
    refine w_top 0 (by rw [hnp, inF_lnO _ (by omega), ep]; rfl) ?_
    refine w_eq0 rfl (fun c0 => ?_) (fun c0 => ?_)
    · refine w_cst (v := (-9)) rfl rfl rfl ?_
      refine w_rt rfl rfl trivial ?_
      exact ⟨by rw [lostOnF_0 ep], by rw [lostOnF_0 ep]⟩
    · exact absurd c0 (by decide)
  | some kp =>
    obtain ⟨rfl, hkp⟩ := lnO_some ep
    cases el : lnO nl l with
    | none =>
      refine w_pu rfl rfl ?_
      refine w_pu rfl rfl ?_
      refine w_cp (vI (inF (nI kp) 0 (s 0 23 - 1))) rfl rfl (by decide) (Nat.le_of_ble_eq_true rfl) rfl (Nat.le_of_ble_eq_true rfl) (Nat.le_of_ble_eq_true rfl) ⟨wM hw 0 (by omega), rfl⟩ rfl (mX_isPiece X hw s (nI kp)) ?_
      refine w_top 1 (by rw [hnp, inF_lnO _ (by omega), ep]; rfl) ?_
      refine w_eq0 rfl (fun c0 => ?_) (fun c0 => ?_)
      · exact absurd c0 (by decide)
      · refine w_pu rfl rfl ?_
        refine w_pu rfl rfl ?_
        refine w_cp (vI (inF l 0 (s 0 0 - 1))) rfl rfl (by decide) (Nat.le_of_ble_eq_true rfl) rfl (Nat.le_of_ble_eq_true rfl) (Nat.le_of_ble_eq_true rfl) ⟨wM hw 0 (by omega), rfl⟩ rfl (mX_isLine X hw s l) ?_
        refine w_top 0 (by rw [hnl, inF_lnO _ (by omega), el]; rfl) ?_
        refine w_eq0 rfl (fun c1 => ?_) (fun c1 => ?_)
        · refine w_cst (v := (-9)) rfl rfl rfl ?_
          refine w_rt rfl rfl trivial ?_
          exact ⟨by rw [lostOnF_1 ep el], by rw [lostOnF_1 ep el]⟩
        · exact absurd c1 (by decide)
    | some kl =>
      obtain ⟨rfl, hkl⟩ := lnO_some el
      refine w_pu rfl rfl ?_
      refine w_pu rfl rfl ?_
      refine w_cp (vI (inF (nI kp) 0 (s 0 23 - 1))) rfl rfl (by decide) (Nat.le_of_ble_eq_true rfl) rfl (Nat.le_of_ble_eq_true rfl) (Nat.le_of_ble_eq_true rfl) ⟨wM hw 0 (by omega), rfl⟩ rfl (mX_isPiece X hw s (nI kp)) ?_
      refine w_top 1 (by rw [hnp, inF_lnO _ (by omega), ep]; rfl) ?_
      refine w_eq0 rfl (fun c0 => ?_) (fun c0 => ?_)
      · exact absurd c0 (by decide)
      · refine w_pu rfl rfl ?_
        refine w_pu rfl rfl ?_
        refine w_cp (vI (inF (nI kl) 0 (s 0 0 - 1))) rfl rfl (by decide) (Nat.le_of_ble_eq_true rfl) rfl (Nat.le_of_ble_eq_true rfl) (Nat.le_of_ble_eq_true rfl) ⟨wM hw 0 (by omega), rfl⟩ rfl (mX_isLine X hw s (nI kl)) ?_
        refine w_top 1 (by rw [hnl, inF_lnO _ (by omega), el]; rfl) ?_
        refine w_eq0 rfl (fun c1 => ?_) (fun c1 => ?_)
        · exact absurd c1 (by decide)
        · refine w_pu rfl rfl ?_
          refine m_gR 30 hw rfl rfl rfl ?_
          refine w_cst (v := 8) rfl rfl rfl ?_
          refine w_pu rfl rfl ?_
          refine w_pu rfl rfl ?_
          refine w_pu rfl rfl ?_
          refine w_pu rfl rfl ?_
          refine m_ai 30 ((8 * kp) + kl) hw rfl rfl (by omega) (by first | rfl | simp only [ix_lits, nI_mul, nI_add]) (by show ((8 * kp) + kl) < 24000; omega) ?_
          refine w_go rfl ?_
          refine w_rt rfl rfl trivial ?_
          exact ⟨by rw [lostOnF_2 ep el], by rw [lostOnF_2 ep el]⟩
def lineF (nl nf np : Nat) (s : SS) (l a : Int32) : Int32 × SS := (match lnO nl l with
  | none => ((-9), s)
  | some kl => (if a = 0 then (s 1 kl, s) else if a = 1 then (s 2 kl, s) else if a = 2 then (s 3 kl, s) else if a = 3 then (if (s 4 kl) = 0 then (0, s) else (1, s)) else if a = 4 then (s 8 kl, s) else if a = 5 then (wsum s kl (nat (s 8 kl)), s) else if a = 6 then (s 15 kl, s) else if a = 7 then (s 16 kl, s) else if a = 8 then (s 17 kl, s) else if a = 9 then (s 18 kl, s) else if a = 10 then (s 19 kl, s) else if a = 11 then (s 20 kl, s) else if a = 12 then (s 21 kl, s) else if a = 13 then (s 5 kl, s) else if a = 14 then (s 6 kl, s) else ((-9), s)))
theorem lineF_0 {nl nf np : Nat} {s : SS} {l a : Int32} (el : lnO nl l = none) : lineF nl nf np s l a = ((-9), s) := by
  unfold lineF
  rw [el]
theorem lineF_1 {nl nf np : Nat} {s : SS} {l a : Int32} {kl : Nat} (el : lnO nl l = some kl) : lineF nl nf np s l a = (if a = 0 then (s 1 kl, s) else if a = 1 then (s 2 kl, s) else if a = 2 then (s 3 kl, s) else if a = 3 then (if (s 4 kl) = 0 then (0, s) else (1, s)) else if a = 4 then (s 8 kl, s) else if a = 5 then (wsum s kl (nat (s 8 kl)), s) else if a = 6 then (s 15 kl, s) else if a = 7 then (s 16 kl, s) else if a = 8 then (s 17 kl, s) else if a = 9 then (s 18 kl, s) else if a = 10 then (s 19 kl, s) else if a = 11 then (s 20 kl, s) else if a = 12 then (s 21 kl, s) else if a = 13 then (s 5 kl, s) else if a = 14 then (s 6 kl, s) else ((-9), s)) := by
  unfold lineF
  rw [el]
theorem mX_line (X : Nat × (Nat → Int32)) {h : Hp} {nl nf np : Nat} (hw : WF h nl nf np) (s : SS) (hnl : s 0 0 = nI nl) (hq : ∀ l, l < nl → ∃ q, s 8 l = nI q ∧ q ≤ 40 ∧ ∀ k, k < q → okp np (s 7 (41 * l + k))) (l a : Int32) : wp X 117 0 [TM, some (vI l), some (vI a)] [] (pS h s) (fun r h' => r = some (vI (lineF nl nf np s l a).1) ∧ h' = pS h (lineF nl nf np s l a).2) := by
  have h3 := hw.2.2.2.2.2.2.2.2
  have h4 := hw.2.2.2.2.2.2.1
  have h5 := hw.2.2.2.2.2.2.2.1
  cases el : lnO nl l with
  | none =>
    refine w_pu rfl rfl ?_
    refine w_pu rfl rfl ?_
    refine w_cp (vI (inF l 0 (s 0 0 - 1))) rfl rfl (by decide) (Nat.le_of_ble_eq_true rfl) rfl (Nat.le_of_ble_eq_true rfl) (Nat.le_of_ble_eq_true rfl) ⟨wM hw 0 (by omega), rfl⟩ rfl (mX_isLine X hw s l) ?_
    refine w_top 0 (by rw [hnl, inF_lnO _ (by omega), el]; rfl) ?_
    refine w_ne0 rfl (fun c0 => ?_) (fun c0 => ?_)
    · exact absurd c0 (by decide)
    · refine w_cst (v := (-9)) rfl rfl rfl ?_
      refine w_rt rfl rfl trivial ?_
      exact ⟨by rw [lineF_0 el], by rw [lineF_0 el]⟩
  | some kl =>
    obtain ⟨rfl, hkl⟩ := lnO_some el
    obtain ⟨q, z1, z2, z3⟩ := hq kl hkl
    refine w_pu rfl rfl ?_
    refine w_pu rfl rfl ?_
    refine w_cp (vI (inF (nI kl) 0 (s 0 0 - 1))) rfl rfl (by decide) (Nat.le_of_ble_eq_true rfl) rfl (Nat.le_of_ble_eq_true rfl) (Nat.le_of_ble_eq_true rfl) ⟨wM hw 0 (by omega), rfl⟩ rfl (mX_isLine X hw s (nI kl)) ?_
    refine w_top 1 (by rw [hnl, inF_lnO _ (by omega), el]; rfl) ?_
    refine w_ne0 rfl (fun c0 => ?_) (fun c0 => ?_)
    · refine w_pu rfl rfl ?_
      by_cases q0 : a = 0
      · refine w_top 0 q0 ?_
        refine w_sw (t := 88) rfl rfl ?_
        refine w_pu rfl rfl ?_
        refine m_gR 1 hw rfl rfl rfl ?_
        refine w_pu rfl rfl ?_
        refine m_ai 1 kl hw rfl rfl (by omega) (by first | rfl | simp only [ix_lits, nI_mul, nI_add]) (by show kl < 8; omega) ?_
        refine w_rt rfl rfl trivial ?_
        exact ⟨by rw [lineF_1 el, if_pos q0], by rw [lineF_1 el, if_pos q0]⟩
      by_cases q1 : a = 1
      · refine w_top 1 q1 ?_
        refine w_sw (t := 95) rfl rfl ?_
        refine w_pu rfl rfl ?_
        refine m_gR 2 hw rfl rfl rfl ?_
        refine w_pu rfl rfl ?_
        refine m_ai 2 kl hw rfl rfl (by omega) (by first | rfl | simp only [ix_lits, nI_mul, nI_add]) (by show kl < 8; omega) ?_
        refine w_rt rfl rfl trivial ?_
        exact ⟨by rw [lineF_1 el, if_neg q0, if_pos q1], by rw [lineF_1 el, if_neg q0, if_pos q1]⟩
      by_cases q2 : a = 2
      · refine w_top 2 q2 ?_
        refine w_sw (t := 102) rfl rfl ?_
        refine w_pu rfl rfl ?_
        refine m_gR 3 hw rfl rfl rfl ?_
        refine w_pu rfl rfl ?_
        refine m_ai 3 kl hw rfl rfl (by omega) (by first | rfl | simp only [ix_lits, nI_mul, nI_add]) (by show kl < 8; omega) ?_
        refine w_rt rfl rfl trivial ?_
        exact ⟨by rw [lineF_1 el, if_neg q0, if_neg q1, if_pos q2], by rw [lineF_1 el, if_neg q0, if_neg q1, if_pos q2]⟩
      by_cases q3 : a = 3
      · refine w_top 3 q3 ?_
        refine w_sw (t := 109) rfl rfl ?_
        refine w_pu rfl rfl ?_
        refine m_gR 4 hw rfl rfl rfl ?_
        refine w_pu rfl rfl ?_
        refine m_ab 4 kl hw rfl (Or.inr ⟨rfl, rfl⟩) (by omega) (by first | rfl | simp only [ix_lits, nI_mul, nI_add]) (by show kl < 8; omega) ?_
        refine w_eq0 rfl (fun c1 => ?_) (fun c1 => ?_)
        · refine w_cst (v := 0) rfl rfl rfl ?_
          refine w_rt rfl rfl trivial ?_
          exact ⟨by rw [lineF_1 el, if_neg q0, if_neg q1, if_neg q2, if_pos q3, if_pos c1], by rw [lineF_1 el, if_neg q0, if_neg q1, if_neg q2, if_pos q3, if_pos c1]⟩
        · refine w_cst (v := 1) rfl rfl rfl ?_
          refine w_go rfl ?_
          refine w_rt rfl rfl trivial ?_
          exact ⟨by rw [lineF_1 el, if_neg q0, if_neg q1, if_neg q2, if_pos q3, if_neg c1], by rw [lineF_1 el, if_neg q0, if_neg q1, if_neg q2, if_pos q3, if_neg c1]⟩
      by_cases q4 : a = 4
      · refine w_top 4 q4 ?_
        refine w_sw (t := 124) rfl rfl ?_
        refine w_pu rfl rfl ?_
        refine m_gR 8 hw rfl rfl rfl ?_
        refine w_pu rfl rfl ?_
        refine m_ai 8 kl hw rfl rfl (by omega) (by first | rfl | simp only [ix_lits, nI_mul, nI_add]) (by show kl < 8; omega) ?_
        refine w_rt rfl rfl trivial ?_
        exact ⟨by rw [lineF_1 el, if_neg q0, if_neg q1, if_neg q2, if_neg q3, if_pos q4], by rw [lineF_1 el, if_neg q0, if_neg q1, if_neg q2, if_neg q3, if_pos q4]⟩
      by_cases q5 : a = 5
      · refine w_top 5 q5 ?_
        refine w_sw (t := 131) rfl rfl ?_
        refine w_pu rfl rfl ?_
        refine w_pu rfl rfl ?_
        refine w_cp (vI (wsum s kl q)) rfl rfl (by decide) (Nat.le_of_ble_eq_true rfl) rfl (Nat.le_of_ble_eq_true rfl) (Nat.le_of_ble_eq_true rfl) ⟨wM hw 0 (by omega), rfl⟩ rfl (mX_waiting X hw s kl q hkl z1 z2 z3) ?_
        refine w_top (wsum s kl (nat (s 8 kl))) (by rw [z1, nat_nI (by omega)]) ?_
        refine w_rt rfl rfl trivial ?_
        exact ⟨by rw [lineF_1 el, if_neg q0, if_neg q1, if_neg q2, if_neg q3, if_neg q4, if_pos q5], by rw [lineF_1 el, if_neg q0, if_neg q1, if_neg q2, if_neg q3, if_neg q4, if_pos q5]⟩
      by_cases q6 : a = 6
      · refine w_top 6 q6 ?_
        refine w_sw (t := 137) rfl rfl ?_
        refine w_pu rfl rfl ?_
        refine m_gR 15 hw rfl rfl rfl ?_
        refine w_pu rfl rfl ?_
        refine m_ai 15 kl hw rfl rfl (by omega) (by first | rfl | simp only [ix_lits, nI_mul, nI_add]) (by show kl < 8; omega) ?_
        refine w_rt rfl rfl trivial ?_
        exact ⟨by rw [lineF_1 el, if_neg q0, if_neg q1, if_neg q2, if_neg q3, if_neg q4, if_neg q5, if_pos q6], by rw [lineF_1 el, if_neg q0, if_neg q1, if_neg q2, if_neg q3, if_neg q4, if_neg q5, if_pos q6]⟩
      by_cases q7 : a = 7
      · refine w_top 7 q7 ?_
        refine w_sw (t := 144) rfl rfl ?_
        refine w_pu rfl rfl ?_
        refine m_gR 16 hw rfl rfl rfl ?_
        refine w_pu rfl rfl ?_
        refine m_ai 16 kl hw rfl rfl (by omega) (by first | rfl | simp only [ix_lits, nI_mul, nI_add]) (by show kl < 8; omega) ?_
        refine w_rt rfl rfl trivial ?_
        exact ⟨by rw [lineF_1 el, if_neg q0, if_neg q1, if_neg q2, if_neg q3, if_neg q4, if_neg q5, if_neg q6, if_pos q7], by rw [lineF_1 el, if_neg q0, if_neg q1, if_neg q2, if_neg q3, if_neg q4, if_neg q5, if_neg q6, if_pos q7]⟩
      by_cases q8 : a = 8
      · refine w_top 8 q8 ?_
        refine w_sw (t := 151) rfl rfl ?_
        refine w_pu rfl rfl ?_
        refine m_gR 17 hw rfl rfl rfl ?_
        refine w_pu rfl rfl ?_
        refine m_ai 17 kl hw rfl rfl (by omega) (by first | rfl | simp only [ix_lits, nI_mul, nI_add]) (by show kl < 8; omega) ?_
        refine w_rt rfl rfl trivial ?_
        exact ⟨by rw [lineF_1 el, if_neg q0, if_neg q1, if_neg q2, if_neg q3, if_neg q4, if_neg q5, if_neg q6, if_neg q7, if_pos q8], by rw [lineF_1 el, if_neg q0, if_neg q1, if_neg q2, if_neg q3, if_neg q4, if_neg q5, if_neg q6, if_neg q7, if_pos q8]⟩
      by_cases q9 : a = 9
      · refine w_top 9 q9 ?_
        refine w_sw (t := 158) rfl rfl ?_
        refine w_pu rfl rfl ?_
        refine m_gR 18 hw rfl rfl rfl ?_
        refine w_pu rfl rfl ?_
        refine m_ai 18 kl hw rfl rfl (by omega) (by first | rfl | simp only [ix_lits, nI_mul, nI_add]) (by show kl < 8; omega) ?_
        refine w_rt rfl rfl trivial ?_
        exact ⟨by rw [lineF_1 el, if_neg q0, if_neg q1, if_neg q2, if_neg q3, if_neg q4, if_neg q5, if_neg q6, if_neg q7, if_neg q8, if_pos q9], by rw [lineF_1 el, if_neg q0, if_neg q1, if_neg q2, if_neg q3, if_neg q4, if_neg q5, if_neg q6, if_neg q7, if_neg q8, if_pos q9]⟩
      by_cases q10 : a = 10
      · refine w_top 10 q10 ?_
        refine w_sw (t := 165) rfl rfl ?_
        refine w_pu rfl rfl ?_
        refine m_gR 19 hw rfl rfl rfl ?_
        refine w_pu rfl rfl ?_
        refine m_ai 19 kl hw rfl rfl (by omega) (by first | rfl | simp only [ix_lits, nI_mul, nI_add]) (by show kl < 8; omega) ?_
        refine w_rt rfl rfl trivial ?_
        exact ⟨by rw [lineF_1 el, if_neg q0, if_neg q1, if_neg q2, if_neg q3, if_neg q4, if_neg q5, if_neg q6, if_neg q7, if_neg q8, if_neg q9, if_pos q10], by rw [lineF_1 el, if_neg q0, if_neg q1, if_neg q2, if_neg q3, if_neg q4, if_neg q5, if_neg q6, if_neg q7, if_neg q8, if_neg q9, if_pos q10]⟩
      by_cases q11 : a = 11
      · refine w_top 11 q11 ?_
        refine w_sw (t := 172) rfl rfl ?_
        refine w_pu rfl rfl ?_
        refine m_gR 20 hw rfl rfl rfl ?_
        refine w_pu rfl rfl ?_
        refine m_ai 20 kl hw rfl rfl (by omega) (by first | rfl | simp only [ix_lits, nI_mul, nI_add]) (by show kl < 8; omega) ?_
        refine w_rt rfl rfl trivial ?_
        exact ⟨by rw [lineF_1 el, if_neg q0, if_neg q1, if_neg q2, if_neg q3, if_neg q4, if_neg q5, if_neg q6, if_neg q7, if_neg q8, if_neg q9, if_neg q10, if_pos q11], by rw [lineF_1 el, if_neg q0, if_neg q1, if_neg q2, if_neg q3, if_neg q4, if_neg q5, if_neg q6, if_neg q7, if_neg q8, if_neg q9, if_neg q10, if_pos q11]⟩
      by_cases q12 : a = 12
      · refine w_top 12 q12 ?_
        refine w_sw (t := 179) rfl rfl ?_
        refine w_pu rfl rfl ?_
        refine m_gR 21 hw rfl rfl rfl ?_
        refine w_pu rfl rfl ?_
        refine m_ai 21 kl hw rfl rfl (by omega) (by first | rfl | simp only [ix_lits, nI_mul, nI_add]) (by show kl < 8; omega) ?_
        refine w_rt rfl rfl trivial ?_
        exact ⟨by rw [lineF_1 el, if_neg q0, if_neg q1, if_neg q2, if_neg q3, if_neg q4, if_neg q5, if_neg q6, if_neg q7, if_neg q8, if_neg q9, if_neg q10, if_neg q11, if_pos q12], by rw [lineF_1 el, if_neg q0, if_neg q1, if_neg q2, if_neg q3, if_neg q4, if_neg q5, if_neg q6, if_neg q7, if_neg q8, if_neg q9, if_neg q10, if_neg q11, if_pos q12]⟩
      by_cases q13 : a = 13
      · refine w_top 13 q13 ?_
        refine w_sw (t := 186) rfl rfl ?_
        refine w_pu rfl rfl ?_
        refine m_gR 5 hw rfl rfl rfl ?_
        refine w_pu rfl rfl ?_
        refine m_ai 5 kl hw rfl rfl (by omega) (by first | rfl | simp only [ix_lits, nI_mul, nI_add]) (by show kl < 8; omega) ?_
        refine w_rt rfl rfl trivial ?_
        exact ⟨by rw [lineF_1 el, if_neg q0, if_neg q1, if_neg q2, if_neg q3, if_neg q4, if_neg q5, if_neg q6, if_neg q7, if_neg q8, if_neg q9, if_neg q10, if_neg q11, if_neg q12, if_pos q13], by rw [lineF_1 el, if_neg q0, if_neg q1, if_neg q2, if_neg q3, if_neg q4, if_neg q5, if_neg q6, if_neg q7, if_neg q8, if_neg q9, if_neg q10, if_neg q11, if_neg q12, if_pos q13]⟩
      by_cases q14 : a = 14
      · refine w_top 14 q14 ?_
        refine w_sw (t := 193) rfl rfl ?_
        refine w_pu rfl rfl ?_
        refine m_gR 6 hw rfl rfl rfl ?_
        refine w_pu rfl rfl ?_
        refine m_ai 6 kl hw rfl rfl (by omega) (by first | rfl | simp only [ix_lits, nI_mul, nI_add]) (by show kl < 8; omega) ?_
        refine w_rt rfl rfl trivial ?_
        exact ⟨by rw [lineF_1 el, if_neg q0, if_neg q1, if_neg q2, if_neg q3, if_neg q4, if_neg q5, if_neg q6, if_neg q7, if_neg q8, if_neg q9, if_neg q10, if_neg q11, if_neg q12, if_neg q13, if_pos q14], by rw [lineF_1 el, if_neg q0, if_neg q1, if_neg q2, if_neg q3, if_neg q4, if_neg q5, if_neg q6, if_neg q7, if_neg q8, if_neg q9, if_neg q10, if_neg q11, if_neg q12, if_neg q13, if_pos q14]⟩
      refine w_sw (t := 200) rfl (sw_out (by decide) rfl ?_) ?_
      · intro k k1
        match k, k1 with
        | 0, _ => exact q0
        | 1, _ => exact q1
        | 2, _ => exact q2
        | 3, _ => exact q3
        | 4, _ => exact q4
        | 5, _ => exact q5
        | 6, _ => exact q6
        | 7, _ => exact q7
        | 8, _ => exact q8
        | 9, _ => exact q9
        | 10, _ => exact q10
        | 11, _ => exact q11
        | 12, _ => exact q12
        | 13, _ => exact q13
        | 14, _ => exact q14
        | k + 15, k1 => exact absurd k1 (by omega)
      refine w_cst (v := (-9)) rfl rfl rfl ?_
      refine w_rt rfl rfl trivial ?_
      exact ⟨by rw [lineF_1 el, if_neg q0, if_neg q1, if_neg q2, if_neg q3, if_neg q4, if_neg q5, if_neg q6, if_neg q7, if_neg q8, if_neg q9, if_neg q10, if_neg q11, if_neg q12, if_neg q13, if_neg q14], by rw [lineF_1 el, if_neg q0, if_neg q1, if_neg q2, if_neg q3, if_neg q4, if_neg q5, if_neg q6, if_neg q7, if_neg q8, if_neg q9, if_neg q10, if_neg q11, if_neg q12, if_neg q13, if_neg q14]⟩
    · exact absurd c0 (by decide)
def queuedF (nl nf np : Nat) (s : SS) (l k : Int32) : Int32 × SS := (match lnO nl l with
  | none => ((-9), s)
  | some kl => (match lnO (nat (s 8 kl)) k with
  | none => ((-9), s)
  | some kk => (s 7 ((41 * kl) + kk), s)))
theorem queuedF_0 {nl nf np : Nat} {s : SS} {l k : Int32} (el : lnO nl l = none) : queuedF nl nf np s l k = ((-9), s) := by
  unfold queuedF
  rw [el]
theorem queuedF_1 {nl nf np : Nat} {s : SS} {l k : Int32} {kl : Nat} (el : lnO nl l = some kl) (ek : lnO (nat (s 8 kl)) k = none) : queuedF nl nf np s l k = ((-9), s) := by
  unfold queuedF
  rw [el]; dsimp only; rw [ek]
theorem queuedF_2 {nl nf np : Nat} {s : SS} {l k : Int32} {kl : Nat} {kk : Nat} (el : lnO nl l = some kl) (ek : lnO (nat (s 8 kl)) k = some kk) : queuedF nl nf np s l k = (s 7 ((41 * kl) + kk), s) := by
  unfold queuedF
  rw [el]; dsimp only; rw [ek]
theorem mX_queued (X : Nat × (Nat → Int32)) {h : Hp} {nl nf np : Nat} (hw : WF h nl nf np) (s : SS) (hnl : s 0 0 = nI nl) (hq : ∀ l, l < nl → ∃ q, s 8 l = nI q ∧ q ≤ 40 ∧ ∀ k, k < q → okp np (s 7 (41 * l + k))) (l k : Int32) : wp X 121 0 [TM, some (vI l), some (vI k)] [] (pS h s) (fun r h' => r = some (vI (queuedF nl nf np s l k).1) ∧ h' = pS h (queuedF nl nf np s l k).2) := by
  have h3 := hw.2.2.2.2.2.2.2.2
  have h4 := hw.2.2.2.2.2.2.1
  have h5 := hw.2.2.2.2.2.2.2.1
  cases el : lnO nl l with
  | none =>
    refine w_pu rfl rfl ?_
    refine w_pu rfl rfl ?_
    refine w_cp (vI (inF l 0 (s 0 0 - 1))) rfl rfl (by decide) (Nat.le_of_ble_eq_true rfl) rfl (Nat.le_of_ble_eq_true rfl) (Nat.le_of_ble_eq_true rfl) ⟨wM hw 0 (by omega), rfl⟩ rfl (mX_isLine X hw s l) ?_
    refine w_top 0 (by rw [hnl, inF_lnO _ (by omega), el]; rfl) ?_
    refine w_eq0 rfl (fun c0 => ?_) (fun c0 => ?_)
    · refine w_cst (v := (-9)) rfl rfl rfl ?_
      refine w_rt rfl rfl trivial ?_
      exact ⟨by rw [queuedF_0 el], by rw [queuedF_0 el]⟩
    · exact absurd c0 (by decide)
  | some kl =>
    obtain ⟨rfl, hkl⟩ := lnO_some el
    obtain ⟨q, z1, z2, z3⟩ := hq kl hkl
    cases ek : lnO (nat (s 8 kl)) k with
    | none =>
      refine w_pu rfl rfl ?_
      refine w_pu rfl rfl ?_
      refine w_cp (vI (inF (nI kl) 0 (s 0 0 - 1))) rfl rfl (by decide) (Nat.le_of_ble_eq_true rfl) rfl (Nat.le_of_ble_eq_true rfl) (Nat.le_of_ble_eq_true rfl) ⟨wM hw 0 (by omega), rfl⟩ rfl (mX_isLine X hw s (nI kl)) ?_
      refine w_top 1 (by rw [hnl, inF_lnO _ (by omega), el]; rfl) ?_
      refine w_eq0 rfl (fun c0 => ?_) (fun c0 => ?_)
      · exact absurd c0 (by decide)
      · refine w_pu rfl rfl ?_
        refine w_cst (v := 0) rfl rfl rfl ?_
        refine w_pu rfl rfl ?_
        refine m_gR 8 hw rfl rfl rfl ?_
        refine w_pu rfl rfl ?_
        refine m_ai 8 kl hw rfl rfl (by omega) (by first | rfl | simp only [ix_lits, nI_mul, nI_add]) (by show kl < 8; omega) ?_
        refine w_cst (v := 1) rfl rfl rfl ?_
        refine w_pu rfl rfl ?_
        refine w_cp (vI (inF k 0 ((s 8 kl) - 1))) rfl rfl (by decide) (Nat.le_of_ble_eq_true rfl) rfl (Nat.le_of_ble_eq_true rfl) (Nat.le_of_ble_eq_true rfl) trivial rfl (mX_in X _ k 0 ((s 8 kl) - 1)) ?_
        refine w_top 0 (by rw [show s 8 kl - 1 = nI (nat (s 8 kl)) - 1 by rw [z1, nat_nI (by omega)], inF_lnO _ (by rw [z1, nat_nI (by omega)]; omega), ek]; rfl) ?_
        refine w_eq0 rfl (fun c1 => ?_) (fun c1 => ?_)
        · refine w_cst (v := (-9)) rfl rfl rfl ?_
          refine w_rt rfl rfl trivial ?_
          exact ⟨by rw [queuedF_1 el ek], by rw [queuedF_1 el ek]⟩
        · exact absurd c1 (by decide)
    | some kk =>
      obtain ⟨rfl, hkk⟩ := lnO_some ek
      rw [z1, nat_nI (by omega)] at hkk
      refine w_pu rfl rfl ?_
      refine w_pu rfl rfl ?_
      refine w_cp (vI (inF (nI kl) 0 (s 0 0 - 1))) rfl rfl (by decide) (Nat.le_of_ble_eq_true rfl) rfl (Nat.le_of_ble_eq_true rfl) (Nat.le_of_ble_eq_true rfl) ⟨wM hw 0 (by omega), rfl⟩ rfl (mX_isLine X hw s (nI kl)) ?_
      refine w_top 1 (by rw [hnl, inF_lnO _ (by omega), el]; rfl) ?_
      refine w_eq0 rfl (fun c0 => ?_) (fun c0 => ?_)
      · exact absurd c0 (by decide)
      · refine w_pu rfl rfl ?_
        refine w_cst (v := 0) rfl rfl rfl ?_
        refine w_pu rfl rfl ?_
        refine m_gR 8 hw rfl rfl rfl ?_
        refine w_pu rfl rfl ?_
        refine m_ai 8 kl hw rfl rfl (by omega) (by first | rfl | simp only [ix_lits, nI_mul, nI_add]) (by show kl < 8; omega) ?_
        refine w_cst (v := 1) rfl rfl rfl ?_
        refine w_pu rfl rfl ?_
        refine w_cp (vI (inF (nI kk) 0 ((s 8 kl) - 1))) rfl rfl (by decide) (Nat.le_of_ble_eq_true rfl) rfl (Nat.le_of_ble_eq_true rfl) (Nat.le_of_ble_eq_true rfl) trivial rfl (mX_in X _ (nI kk) 0 ((s 8 kl) - 1)) ?_
        refine w_top 1 (by rw [show s 8 kl - 1 = nI (nat (s 8 kl)) - 1 by rw [z1, nat_nI (by omega)], inF_lnO _ (by rw [z1, nat_nI (by omega)]; omega), ek]; rfl) ?_
        refine w_eq0 rfl (fun c1 => ?_) (fun c1 => ?_)
        · exact absurd c1 (by decide)
        · refine w_pu rfl rfl ?_
          refine m_gR 7 hw rfl rfl rfl ?_
          refine w_cst (v := 41) rfl rfl rfl ?_
          refine w_pu rfl rfl ?_
          refine w_pu rfl rfl ?_
          refine w_pu rfl rfl ?_
          refine w_pu rfl rfl ?_
          refine m_ai 7 ((41 * kl) + kk) hw rfl rfl (by omega) (by first | rfl | simp only [ix_lits, nI_mul, nI_add]) (by show ((41 * kl) + kk) < 328; omega) ?_
          refine w_go rfl ?_
          refine w_rt rfl rfl trivial ?_
          exact ⟨by rw [queuedF_2 el ek], by rw [queuedF_2 el ek]⟩
def underF (nl nf np : Nat) (s : SS) (l k a : Int32) : Int32 × SS := (match lnO nl l with
  | none => ((-9), s)
  | some kl => (match lnO (nat (s 15 kl)) k with
  | none => ((-9), s)
  | some kk => (if (inF a 0 3) = 0 then ((-9), s) else (if a = 0 then (s 10 ((200 * kl) + ((nat (s 14 kl) + kk) % 200)), s) else (if a = 1 then (s 11 ((200 * kl) + ((nat (s 14 kl) + kk) % 200)), s) else (if a = 2 then (s 12 ((200 * kl) + ((nat (s 14 kl) + kk) % 200)), s) else (s 13 ((200 * kl) + ((nat (s 14 kl) + kk) % 200)), s)))))))
theorem underF_0 {nl nf np : Nat} {s : SS} {l k a : Int32} (el : lnO nl l = none) : underF nl nf np s l k a = ((-9), s) := by
  unfold underF
  rw [el]
theorem underF_1 {nl nf np : Nat} {s : SS} {l k a : Int32} {kl : Nat} (el : lnO nl l = some kl) (ek : lnO (nat (s 15 kl)) k = none) : underF nl nf np s l k a = ((-9), s) := by
  unfold underF
  rw [el]; dsimp only; rw [ek]
theorem underF_2 {nl nf np : Nat} {s : SS} {l k a : Int32} {kl : Nat} {kk : Nat} (el : lnO nl l = some kl) (ek : lnO (nat (s 15 kl)) k = some kk) : underF nl nf np s l k a = (if (inF a 0 3) = 0 then ((-9), s) else (if a = 0 then (s 10 ((200 * kl) + ((nat (s 14 kl) + kk) % 200)), s) else (if a = 1 then (s 11 ((200 * kl) + ((nat (s 14 kl) + kk) % 200)), s) else (if a = 2 then (s 12 ((200 * kl) + ((nat (s 14 kl) + kk) % 200)), s) else (s 13 ((200 * kl) + ((nat (s 14 kl) + kk) % 200)), s))))) := by
  unfold underF
  rw [el]; dsimp only; rw [ek]
theorem mX_under (X : Nat × (Nat → Int32)) {h : Hp} {nl nf np : Nat} (hw : WF h nl nf np) (s : SS) (hnl : s 0 0 = nI nl) (hu : ∀ l, l < nl → ∃ u f, s 15 l = nI u ∧ u ≤ 200 ∧ s 14 l = nI f ∧ f < 200) (l k a : Int32) : wp X 122 0 [TM, some (vI l), some (vI k), some (vI a), none] [] (pS h s) (fun r h' => r = some (vI (underF nl nf np s l k a).1) ∧ h' = pS h (underF nl nf np s l k a).2) := by
  have h3 := hw.2.2.2.2.2.2.2.2
  have h4 := hw.2.2.2.2.2.2.1
  have h5 := hw.2.2.2.2.2.2.2.1
  cases el : lnO nl l with
  | none =>
    refine w_pu rfl rfl ?_
    refine w_pu rfl rfl ?_
    refine w_cp (vI (inF l 0 (s 0 0 - 1))) rfl rfl (by decide) (Nat.le_of_ble_eq_true rfl) rfl (Nat.le_of_ble_eq_true rfl) (Nat.le_of_ble_eq_true rfl) ⟨wM hw 0 (by omega), rfl⟩ rfl (mX_isLine X hw s l) ?_
    refine w_top 0 (by rw [hnl, inF_lnO _ (by omega), el]; rfl) ?_
    refine w_eq0 rfl (fun c0 => ?_) (fun c0 => ?_)
    · refine w_cst (v := (-9)) rfl rfl rfl ?_
      refine w_rt rfl rfl trivial ?_
      exact ⟨by rw [underF_0 el], by rw [underF_0 el]⟩
    · exact absurd c0 (by decide)
  | some kl =>
    obtain ⟨rfl, hkl⟩ := lnO_some el
    obtain ⟨u, f, u1, u2, f1, f2⟩ := hu kl hkl
    have ef : nat (s 14 kl) = f := by rw [f1, nat_nI (by omega)]
    cases ek : lnO (nat (s 15 kl)) k with
    | none =>
      refine w_pu rfl rfl ?_
      refine w_pu rfl rfl ?_
      refine w_cp (vI (inF (nI kl) 0 (s 0 0 - 1))) rfl rfl (by decide) (Nat.le_of_ble_eq_true rfl) rfl (Nat.le_of_ble_eq_true rfl) (Nat.le_of_ble_eq_true rfl) ⟨wM hw 0 (by omega), rfl⟩ rfl (mX_isLine X hw s (nI kl)) ?_
      refine w_top 1 (by rw [hnl, inF_lnO _ (by omega), el]; rfl) ?_
      refine w_eq0 rfl (fun c0 => ?_) (fun c0 => ?_)
      · exact absurd c0 (by decide)
      · refine w_pu rfl rfl ?_
        refine w_cst (v := 0) rfl rfl rfl ?_
        refine w_pu rfl rfl ?_
        refine m_gR 15 hw rfl rfl rfl ?_
        refine w_pu rfl rfl ?_
        refine m_ai 15 kl hw rfl rfl (by omega) (by first | rfl | simp only [ix_lits, nI_mul, nI_add]) (by show kl < 8; omega) ?_
        refine w_cst (v := 1) rfl rfl rfl ?_
        refine w_pu rfl rfl ?_
        refine w_cp (vI (inF k 0 ((s 15 kl) - 1))) rfl rfl (by decide) (Nat.le_of_ble_eq_true rfl) rfl (Nat.le_of_ble_eq_true rfl) (Nat.le_of_ble_eq_true rfl) trivial rfl (mX_in X _ k 0 ((s 15 kl) - 1)) ?_
        refine w_top 0 (by rw [show s 15 kl - 1 = nI (nat (s 15 kl)) - 1 by rw [u1, nat_nI (by omega)], inF_lnO _ (by rw [u1, nat_nI (by omega)]; omega), ek]; rfl) ?_
        refine w_eq0 rfl (fun c1 => ?_) (fun c1 => ?_)
        · refine w_cst (v := (-9)) rfl rfl rfl ?_
          refine w_rt rfl rfl trivial ?_
          exact ⟨by rw [underF_1 el ek], by rw [underF_1 el ek]⟩
        · exact absurd c1 (by decide)
    | some kk =>
      obtain ⟨rfl, hkk⟩ := lnO_some ek
      rw [u1, nat_nI (by omega)] at hkk
      refine w_pu rfl rfl ?_
      refine w_pu rfl rfl ?_
      refine w_cp (vI (inF (nI kl) 0 (s 0 0 - 1))) rfl rfl (by decide) (Nat.le_of_ble_eq_true rfl) rfl (Nat.le_of_ble_eq_true rfl) (Nat.le_of_ble_eq_true rfl) ⟨wM hw 0 (by omega), rfl⟩ rfl (mX_isLine X hw s (nI kl)) ?_
      refine w_top 1 (by rw [hnl, inF_lnO _ (by omega), el]; rfl) ?_
      refine w_eq0 rfl (fun c0 => ?_) (fun c0 => ?_)
      · exact absurd c0 (by decide)
      · refine w_pu rfl rfl ?_
        refine w_cst (v := 0) rfl rfl rfl ?_
        refine w_pu rfl rfl ?_
        refine m_gR 15 hw rfl rfl rfl ?_
        refine w_pu rfl rfl ?_
        refine m_ai 15 kl hw rfl rfl (by omega) (by first | rfl | simp only [ix_lits, nI_mul, nI_add]) (by show kl < 8; omega) ?_
        refine w_cst (v := 1) rfl rfl rfl ?_
        refine w_pu rfl rfl ?_
        refine w_cp (vI (inF (nI kk) 0 ((s 15 kl) - 1))) rfl rfl (by decide) (Nat.le_of_ble_eq_true rfl) rfl (Nat.le_of_ble_eq_true rfl) (Nat.le_of_ble_eq_true rfl) trivial rfl (mX_in X _ (nI kk) 0 ((s 15 kl) - 1)) ?_
        refine w_top 1 (by rw [show s 15 kl - 1 = nI (nat (s 15 kl)) - 1 by rw [u1, nat_nI (by omega)], inF_lnO _ (by rw [u1, nat_nI (by omega)]; omega), ek]; rfl) ?_
        refine w_eq0 rfl (fun c1 => ?_) (fun c1 => ?_)
        · exact absurd c1 (by decide)
        · refine w_pu rfl rfl ?_
          refine w_cst (v := 0) rfl rfl rfl ?_
          refine w_cst (v := 3) rfl rfl rfl ?_
          refine w_cp (vI (inF a 0 3)) rfl rfl (by decide) (Nat.le_of_ble_eq_true rfl) rfl (Nat.le_of_ble_eq_true rfl) (Nat.le_of_ble_eq_true rfl) trivial rfl (mX_in X _ a 0 3) ?_
          refine w_ne0 rfl (fun c2 => ?_) (fun c2 => ?_)
          · refine w_cst (v := 200) rfl rfl rfl ?_
            refine w_pu rfl rfl ?_
            refine w_pu rfl rfl ?_
            refine w_pu rfl rfl ?_
            refine m_gR 14 hw rfl rfl rfl ?_
            refine w_pu rfl rfl ?_
            refine m_ai 14 kl hw rfl rfl (by omega) (by first | rfl | simp only [ix_lits, nI_mul, nI_add]) (by show kl < 8; omega) ?_
            refine w_pu rfl rfl ?_
            refine w_pu rfl rfl ?_
            refine w_cst (v := 200) rfl rfl rfl ?_
            refine w_op rfl rfl (by decide) ?_
            refine w_top (nI ((nat (s 14 kl) + kk) % 200)) (by rw [ef, f1, nI_add]; exact pk_rem (d := 200) (by omega) (by omega) (by omega)) ?_
            refine w_pu rfl rfl ?_
            refine w_pu rfl rfl ?_
            refine w_pu rfl rfl ?_
            refine w_ne0 rfl (fun c3 => ?_) (fun c3 => ?_)
            · refine w_pu rfl rfl ?_
              refine w_cst (v := 1) rfl rfl rfl ?_
              refine w_ne rfl (fun c4 => ?_) (fun c4 => ?_)
              · refine w_pu rfl rfl ?_
                refine w_cst (v := 2) rfl rfl rfl ?_
                refine w_ne rfl (fun c5 => ?_) (fun c5 => ?_)
                · refine w_pu rfl rfl ?_
                  refine m_gR 13 hw rfl rfl rfl ?_
                  refine w_pu rfl rfl ?_
                  refine m_ai 13 ((200 * kl) + ((nat (s 14 kl) + kk) % 200)) hw rfl rfl (by omega) (by first | rfl | simp only [ix_lits, nI_mul, nI_add]) (by show ((200 * kl) + ((nat (s 14 kl) + kk) % 200)) < 1600; omega) ?_
                  refine w_rt rfl rfl trivial ?_
                  exact ⟨by rw [underF_2 el ek, if_neg c2, if_neg c3, if_neg c4, if_neg c5], by rw [underF_2 el ek, if_neg c2, if_neg c3, if_neg c4, if_neg c5]⟩
                · refine w_pu rfl rfl ?_
                  refine m_gR 12 hw rfl rfl rfl ?_
                  refine w_pu rfl rfl ?_
                  refine m_ai 12 ((200 * kl) + ((nat (s 14 kl) + kk) % 200)) hw rfl rfl (by omega) (by first | rfl | simp only [ix_lits, nI_mul, nI_add]) (by show ((200 * kl) + ((nat (s 14 kl) + kk) % 200)) < 1600; omega) ?_
                  refine w_go rfl ?_
                  refine w_rt rfl rfl trivial ?_
                  exact ⟨by rw [underF_2 el ek, if_neg c2, if_neg c3, if_neg c4, if_pos c5], by rw [underF_2 el ek, if_neg c2, if_neg c3, if_neg c4, if_pos c5]⟩
              · refine w_pu rfl rfl ?_
                refine m_gR 11 hw rfl rfl rfl ?_
                refine w_pu rfl rfl ?_
                refine m_ai 11 ((200 * kl) + ((nat (s 14 kl) + kk) % 200)) hw rfl rfl (by omega) (by first | rfl | simp only [ix_lits, nI_mul, nI_add]) (by show ((200 * kl) + ((nat (s 14 kl) + kk) % 200)) < 1600; omega) ?_
                refine w_go rfl ?_
                refine w_rt rfl rfl trivial ?_
                exact ⟨by rw [underF_2 el ek, if_neg c2, if_neg c3, if_pos c4], by rw [underF_2 el ek, if_neg c2, if_neg c3, if_pos c4]⟩
            · refine w_pu rfl rfl ?_
              refine m_gR 10 hw rfl rfl rfl ?_
              refine w_pu rfl rfl ?_
              refine m_ai 10 ((200 * kl) + ((nat (s 14 kl) + kk) % 200)) hw rfl rfl (by omega) (by first | rfl | simp only [ix_lits, nI_mul, nI_add]) (by show ((200 * kl) + ((nat (s 14 kl) + kk) % 200)) < 1600; omega) ?_
              refine w_go rfl ?_
              refine w_rt rfl rfl trivial ?_
              exact ⟨by rw [underF_2 el ek, if_neg c2, if_pos c3], by rw [underF_2 el ek, if_neg c2, if_pos c3]⟩
          · refine w_cst (v := (-9)) rfl rfl rfl ?_
            refine w_rt rfl rfl trivial ?_
            exact ⟨by rw [underF_2 el ek, if_pos c2], by rw [underF_2 el ek, if_pos c2]⟩
def witnessF (nl nf np : Nat) (s : SS) (f k : Int32) : Int32 × SS := (match lnO nf f with
  | none => ((-9), s)
  | some kf => (if (s 0 33) ≤ (nI kf) then ((-9), s) else (if (inF k 0 ((s 33 kf) - 1)) = 0 then ((-9), s) else (((100 * (s 27 ((nat (s 32 kf)) + (nat k)))) + (s 28 ((nat (s 32 kf)) + (nat k)))), s))))
theorem witnessF_0 {nl nf np : Nat} {s : SS} {f k : Int32} (ef : lnO nf f = none) : witnessF nl nf np s f k = ((-9), s) := by
  unfold witnessF
  rw [ef]
theorem witnessF_1 {nl nf np : Nat} {s : SS} {f k : Int32} {kf : Nat} (ef : lnO nf f = some kf) : witnessF nl nf np s f k = (if (s 0 33) ≤ (nI kf) then ((-9), s) else (if (inF k 0 ((s 33 kf) - 1)) = 0 then ((-9), s) else (((100 * (s 27 ((nat (s 32 kf)) + (nat k)))) + (s 28 ((nat (s 32 kf)) + (nat k)))), s))) := by
  unfold witnessF
  rw [ef]
theorem mX_witness (X : Nat × (Nat → Int32)) {h : Hp} {nl nf np : Nat} (hw : WF h nl nf np) (s : SS) (hnf : s 0 32 = nI nf) (hfr : ∀ f, f < nf → ∃ a r, s 32 f = nI a ∧ s 33 f = nI r ∧ a + r ≤ np) (f k : Int32) : wp X 128 0 [TM, some (vI f), some (vI k), none] [] (pS h s) (fun r h' => r = some (vI (witnessF nl nf np s f k).1) ∧ h' = pS h (witnessF nl nf np s f k).2) := by
  have h3 := hw.2.2.2.2.2.2.2.2
  have h4 := hw.2.2.2.2.2.2.1
  have h5 := hw.2.2.2.2.2.2.2.1
  cases ef : lnO nf f with
  | none =>
    refine w_pu rfl rfl ?_
    refine w_pu rfl rfl ?_
    refine w_cp (vI (inF f 0 (s 0 32 - 1))) rfl rfl (by decide) (Nat.le_of_ble_eq_true rfl) rfl (Nat.le_of_ble_eq_true rfl) (Nat.le_of_ble_eq_true rfl) ⟨wM hw 0 (by omega), rfl⟩ rfl (mX_isFrame X hw s f) ?_
    refine w_top 0 (by rw [hnf, inF_lnO _ (by omega), ef]; rfl) ?_
    refine w_eq0 rfl (fun c0 => ?_) (fun c0 => ?_)
    · refine w_cst (v := (-9)) rfl rfl rfl ?_
      refine w_rt rfl rfl trivial ?_
      exact ⟨by rw [witnessF_0 ef], by rw [witnessF_0 ef]⟩
    · exact absurd c0 (by decide)
  | some kf =>
    obtain ⟨rfl, hkf⟩ := lnO_some ef
    obtain ⟨a, r, a1, a2, a3⟩ := hfr kf hkf
    refine w_pu rfl rfl ?_
    refine w_pu rfl rfl ?_
    refine w_cp (vI (inF (nI kf) 0 (s 0 32 - 1))) rfl rfl (by decide) (Nat.le_of_ble_eq_true rfl) rfl (Nat.le_of_ble_eq_true rfl) (Nat.le_of_ble_eq_true rfl) ⟨wM hw 0 (by omega), rfl⟩ rfl (mX_isFrame X hw s (nI kf)) ?_
    refine w_top 1 (by rw [hnf, inF_lnO _ (by omega), ef]; rfl) ?_
    refine w_eq0 rfl (fun c0 => ?_) (fun c0 => ?_)
    · exact absurd c0 (by decide)
    · refine w_pu rfl rfl ?_
      refine w_pu rfl rfl ?_
      refine m_g hw rfl rfl ?_
      refine w_ge rfl (fun c1 => ?_) (fun c1 => ?_)
      · refine w_cst (v := (-9)) rfl rfl rfl ?_
        refine w_rt rfl rfl trivial ?_
        exact ⟨by rw [witnessF_1 ef, if_pos c1], by rw [witnessF_1 ef, if_pos c1]⟩
      · refine w_pu rfl rfl ?_
        refine w_cst (v := 0) rfl rfl rfl ?_
        refine w_pu rfl rfl ?_
        refine m_gR 33 hw rfl rfl rfl ?_
        refine w_pu rfl rfl ?_
        refine m_ai 33 kf hw rfl rfl (by omega) (by first | rfl | simp only [ix_lits, nI_mul, nI_add]) (by show kf < 300; omega) ?_
        refine w_cst (v := 1) rfl rfl rfl ?_
        refine w_pu rfl rfl ?_
        refine w_cp (vI (inF k 0 ((s 33 kf) - 1))) rfl rfl (by decide) (Nat.le_of_ble_eq_true rfl) rfl (Nat.le_of_ble_eq_true rfl) (Nat.le_of_ble_eq_true rfl) trivial rfl (mX_in X _ k 0 ((s 33 kf) - 1)) ?_
        refine w_ne0 rfl (fun c2 => ?_) (fun c2 => ?_)
        · have hk := inF_1 c2
          obtain ⟨kk, hk1, hk2⟩ := i32_pos hk.1
          have hk4 : kk < r := by
            have := hk.2
            rw [hk2, a2] at this
            rcases Nat.eq_zero_or_pos r with z | z
            · rw [z] at this; exact absurd (Int32.le_trans (nI_pos' (by omega)) this) (by decide)
            · rw [show nI r - 1 = nI (r - 1) from nI_sub (b := 1) z] at this
              have := (nI_leI (by omega) (by omega)).mp this
              omega
          have ek : nat k = kk := by rw [hk2, nat_nI (by omega)]
          have ea : nat (s 32 kf) = a := by rw [a1, nat_nI (by omega)]
          refine w_pu rfl rfl ?_
          refine m_gR 32 hw rfl rfl rfl ?_
          refine w_pu rfl rfl ?_
          refine m_ai 32 kf hw rfl rfl (by omega) (by first | rfl | simp only [ix_lits, nI_mul, nI_add]) (by show kf < 300; omega) ?_
          refine w_pu rfl rfl ?_
          refine w_pu rfl rfl ?_
          refine w_pu rfl rfl ?_
          refine w_cst (v := 100) rfl rfl rfl ?_
          refine w_pu rfl rfl ?_
          refine m_gR 27 hw rfl rfl rfl ?_
          refine w_pu rfl rfl ?_
          refine m_ai 27 ((nat (s 32 kf)) + (nat k)) hw rfl rfl (by omega) (by rw [ek, ea, a1, hk2, nI_add]) (by show ((nat (s 32 kf)) + (nat k)) < 3000; omega) ?_
          refine w_pu rfl rfl ?_
          refine w_pu rfl rfl ?_
          refine m_gR 28 hw rfl rfl rfl ?_
          refine w_pu rfl rfl ?_
          refine m_ai 28 ((nat (s 32 kf)) + (nat k)) hw rfl rfl (by omega) (by rw [ek, ea, a1, hk2, nI_add]) (by show ((nat (s 32 kf)) + (nat k)) < 3000; omega) ?_
          refine w_pu rfl rfl ?_
          refine w_rt rfl rfl trivial ?_
          exact ⟨by rw [witnessF_1 ef, if_neg c1, if_neg c2], by rw [witnessF_1 ef, if_neg c1, if_neg c2]⟩
        · refine w_cst (v := (-9)) rfl rfl rfl ?_
          refine w_rt rfl rfl trivial ?_
          exact ⟨by rw [witnessF_1 ef, if_neg c1, if_pos c2], by rw [witnessF_1 ef, if_neg c1, if_pos c2]⟩
def gotF (nl nf np : Nat) (s : SS) (f i : Int32) : Int32 × SS := (match lnO nf f with
  | none => ((-1), refuseF s 1)
  | some kf => (if (s 0 33) ≤ (nI kf) then ((-3), refuseF s 3) else (if (nI kf) < ((s 0 33) - 20) then ((-3), refuseF s 3) else (if (inF i (-1) ((s 31 kf) - 1)) = 0 then ((-3), refuseF s 3) else (if 0 ≤ i then (((s 36 ((nat (s 35 kf)) + (nat i))) &&& 255), s) else (s 31 kf, s))))))
theorem gotF_0 {nl nf np : Nat} {s : SS} {f i : Int32} (ef : lnO nf f = none) : gotF nl nf np s f i = ((-1), refuseF s 1) := by
  unfold gotF
  rw [ef]
theorem gotF_1 {nl nf np : Nat} {s : SS} {f i : Int32} {kf : Nat} (ef : lnO nf f = some kf) : gotF nl nf np s f i = (if (s 0 33) ≤ (nI kf) then ((-3), refuseF s 3) else (if (nI kf) < ((s 0 33) - 20) then ((-3), refuseF s 3) else (if (inF i (-1) ((s 31 kf) - 1)) = 0 then ((-3), refuseF s 3) else (if 0 ≤ i then (((s 36 ((nat (s 35 kf)) + (nat i))) &&& 255), s) else (s 31 kf, s))))) := by
  unfold gotF
  rw [ef]
theorem mX_got (X : Nat × (Nat → Int32)) {h : Hp} {nl nf np : Nat} (hw : WF h nl nf np) (s : SS) (hnf : s 0 32 = nI nf) (hfr : ∀ f, f < nf → ∃ b n, s 35 f = nI b ∧ s 31 f = nI n ∧ b + n ≤ 1200000) (f i : Int32) : wp X 125 0 [TM, some (vI f), some (vI i)] [] (pS h s) (fun r h' => r = some (vI (gotF nl nf np s f i).1) ∧ h' = pS h (gotF nl nf np s f i).2) := by
  have h3 := hw.2.2.2.2.2.2.2.2
  have h4 := hw.2.2.2.2.2.2.1
  have h5 := hw.2.2.2.2.2.2.2.1
  cases ef : lnO nf f with
  | none =>
    refine w_pu rfl rfl ?_
    refine w_pu rfl rfl ?_
    refine w_cp (vI (inF f 0 (s 0 32 - 1))) rfl rfl (by decide) (Nat.le_of_ble_eq_true rfl) rfl (Nat.le_of_ble_eq_true rfl) (Nat.le_of_ble_eq_true rfl) ⟨wM hw 0 (by omega), rfl⟩ rfl (mX_isFrame X hw s f) ?_
    refine w_top 0 (by rw [hnf, inF_lnO _ (by omega), ef]; rfl) ?_
    refine w_ne0 rfl (fun c0 => ?_) (fun c0 => ?_)
    · exact absurd c0 (by decide)
    · refine w_pu rfl rfl ?_
      refine w_cst (v := (-1)) rfl rfl rfl ?_
      refine w_cgE (vI (-1)) (pS h (refuseF s 1)) rfl rfl (by decide) (Nat.le_of_ble_eq_true rfl) rfl (Nat.le_of_ble_eq_true rfl) (Nat.le_of_ble_eq_true rfl) ⟨wM hw 0 (by omega), rfl⟩ rfl (mX_refuse X hw s (-1) 1 (by decide) (by decide)) ?_
      refine w_rt rfl rfl trivial ?_
      exact ⟨by rw [gotF_0 ef], by rw [gotF_0 ef]⟩
  | some kf =>
    obtain ⟨rfl, hkf⟩ := lnO_some ef
    obtain ⟨b, n, a1, a2, a3⟩ := hfr kf hkf
    have eb : nat (s 35 kf) = b := by rw [a1, nat_nI (by omega)]
    refine w_pu rfl rfl ?_
    refine w_pu rfl rfl ?_
    refine w_cp (vI (inF (nI kf) 0 (s 0 32 - 1))) rfl rfl (by decide) (Nat.le_of_ble_eq_true rfl) rfl (Nat.le_of_ble_eq_true rfl) (Nat.le_of_ble_eq_true rfl) ⟨wM hw 0 (by omega), rfl⟩ rfl (mX_isFrame X hw s (nI kf)) ?_
    refine w_top 1 (by rw [hnf, inF_lnO _ (by omega), ef]; rfl) ?_
    refine w_ne0 rfl (fun c0 => ?_) (fun c0 => ?_)
    · refine w_pu rfl rfl ?_
      refine w_pu rfl rfl ?_
      refine m_g hw rfl rfl ?_
      refine w_ge rfl (fun c1 => ?_) (fun c1 => ?_)
      · refine w_pu rfl rfl ?_
        refine w_cst (v := (-3)) rfl rfl rfl ?_
        refine w_cgE (vI (-3)) (pS h (refuseF s 3)) rfl rfl (by decide) (Nat.le_of_ble_eq_true rfl) rfl (Nat.le_of_ble_eq_true rfl) (Nat.le_of_ble_eq_true rfl) ⟨wM hw 0 (by omega), rfl⟩ rfl (mX_refuse X hw s (-3) 3 (by decide) (by decide)) ?_
        refine w_rt rfl rfl trivial ?_
        exact ⟨by rw [gotF_1 ef, if_pos c1], by rw [gotF_1 ef, if_pos c1]⟩
      · refine w_pu rfl rfl ?_
        refine w_pu rfl rfl ?_
        refine m_g hw rfl rfl ?_
        refine w_cst (v := 20) rfl rfl rfl ?_
        refine w_pu rfl rfl ?_
        refine w_lt rfl (fun c2 => ?_) (fun c2 => ?_)
        · refine w_pu rfl rfl ?_
          refine w_cst (v := (-3)) rfl rfl rfl ?_
          refine w_cgE (vI (-3)) (pS h (refuseF s 3)) rfl rfl (by decide) (Nat.le_of_ble_eq_true rfl) rfl (Nat.le_of_ble_eq_true rfl) (Nat.le_of_ble_eq_true rfl) ⟨wM hw 0 (by omega), rfl⟩ rfl (mX_refuse X hw s (-3) 3 (by decide) (by decide)) ?_
          refine w_rt rfl rfl trivial ?_
          exact ⟨by rw [gotF_1 ef, if_neg c1, if_pos c2], by rw [gotF_1 ef, if_neg c1, if_pos c2]⟩
        · refine w_pu rfl rfl ?_
          refine w_cst (v := (-1)) rfl rfl rfl ?_
          refine w_pu rfl rfl ?_
          refine m_gR 31 hw rfl rfl rfl ?_
          refine w_pu rfl rfl ?_
          refine m_ai 31 kf hw rfl rfl (by omega) (by first | rfl | simp only [ix_lits, nI_mul, nI_add]) (by show kf < 300; omega) ?_
          refine w_cst (v := 1) rfl rfl rfl ?_
          refine w_pu rfl rfl ?_
          refine w_cp (vI (inF i (-1) ((s 31 kf) - 1))) rfl rfl (by decide) (Nat.le_of_ble_eq_true rfl) rfl (Nat.le_of_ble_eq_true rfl) (Nat.le_of_ble_eq_true rfl) trivial rfl (mX_in X _ i (-1) ((s 31 kf) - 1)) ?_
          refine w_ne0 rfl (fun c3 => ?_) (fun c3 => ?_)
          · refine w_pu rfl rfl ?_
            refine w_ge0 rfl (fun c4 => ?_) (fun c4 => ?_)
            · have hk := inF_1 c3
              obtain ⟨kk, hk1, hk2⟩ := i32_pos c4
              have hk4 : kk < n := by
                have := hk.2
                rw [hk2, a2] at this
                rcases Nat.eq_zero_or_pos n with z | z
                · rw [z] at this; exact absurd (Int32.le_trans (nI_pos' (by omega)) this) (by decide)
                · rw [show nI n - 1 = nI (n - 1) from nI_sub (b := 1) z] at this
                  have := (nI_leI (by omega) (by omega)).mp this
                  omega
              have ek : nat i = kk := by rw [hk2, nat_nI (by omega)]
              refine w_pu rfl rfl ?_
              refine m_gR 36 hw rfl rfl rfl ?_
              refine w_pu rfl rfl ?_
              refine m_gR 35 hw rfl rfl rfl ?_
              refine w_pu rfl rfl ?_
              refine m_ai 35 kf hw rfl rfl (by omega) (by first | rfl | simp only [ix_lits, nI_mul, nI_add]) (by show kf < 300; omega) ?_
              refine w_pu rfl rfl ?_
              refine w_pu rfl rfl ?_
              refine m_ab 36 ((nat (s 35 kf)) + (nat i)) hw rfl (Or.inl ⟨rfl, rfl⟩) (by omega) (by rw [ek, eb, a1, hk2, nI_add]) (by show ((nat (s 35 kf)) + (nat i)) < 1200000; omega) ?_
              refine w_cst (v := 255) rfl rfl rfl ?_
              refine w_pu rfl rfl ?_
              refine w_rt rfl rfl trivial ?_
              exact ⟨by rw [gotF_1 ef, if_neg c1, if_neg c2, if_neg c3, if_pos c4], by rw [gotF_1 ef, if_neg c1, if_neg c2, if_neg c3, if_pos c4]⟩
            · refine w_pu rfl rfl ?_
              refine m_gR 31 hw rfl rfl rfl ?_
              refine w_pu rfl rfl ?_
              refine m_ai 31 kf hw rfl rfl (by omega) (by first | rfl | simp only [ix_lits, nI_mul, nI_add]) (by show kf < 300; omega) ?_
              refine w_go rfl ?_
              refine w_rt rfl rfl trivial ?_
              exact ⟨by rw [gotF_1 ef, if_neg c1, if_neg c2, if_neg c3, if_neg c4], by rw [gotF_1 ef, if_neg c1, if_neg c2, if_neg c3, if_neg c4]⟩
          · refine w_pu rfl rfl ?_
            refine w_cst (v := (-3)) rfl rfl rfl ?_
            refine w_cgE (vI (-3)) (pS h (refuseF s 3)) rfl rfl (by decide) (Nat.le_of_ble_eq_true rfl) rfl (Nat.le_of_ble_eq_true rfl) (Nat.le_of_ble_eq_true rfl) ⟨wM hw 0 (by omega), rfl⟩ rfl (mX_refuse X hw s (-3) 3 (by decide) (by decide)) ?_
            refine w_rt rfl rfl trivial ?_
            exact ⟨by rw [gotF_1 ef, if_neg c1, if_neg c2, if_pos c3], by rw [gotF_1 ef, if_neg c1, if_neg c2, if_pos c3]⟩
    · exact absurd c0 (by decide)
end
section
/-! The reference's other calls: those with a loop. -/
def sumF (s : SS) (a : Nat) : Nat → Int32
  | 0 => 0
  | k + 1 => sumF s a k + (s 36 (a + k) &&& 255) * (nI k + 1)
def manyF (s : SS) (v : Int32) : Nat → Int32
  | 0 => 0
  | n + 1 => manyF s v n + (if s 23 n = v then 1 else 0)
def bsumF (s : SS) : Nat → Int32
  | 0 => 0
  | n + 1 => bsumF s n + s 31 n
def esumF (s : SS) : Nat → Int32
  | 0 => 0
  | n + 1 => esumF s n + s 20 n
def cntTF (s : SS) (a : Nat) : Nat → Int32
  | 0 => 0
  | k + 1 => cntTF s a k + (if s 23 (a + k) = 3 then 1 else 0)
/-- the first of the last d pieces at which the count falls below 0 -/
def wtF (s : SS) (v : Int32) (np : Nat) : Nat → Int32 → Nat ⊕ Int32
  | 0, n => .inr n
  | d + 1, n => if n - (if s 23 (np - (d + 1)) = v then 1 else 0) < 0 then .inl (np - (d + 1)) else wtF s v np d (n - (if s 23 (np - (d + 1)) = v then 1 else 0))
def waitsF (np : Nat) (s : SS) (i : Int32) : Int32 := if i < 0 then -9 else match wtF s 2 np np i with
  | .inl p => nI p
  | .inr n => (match wtF s 0 np np n with
    | .inl p => nI p
    | .inr _ => -9)
def skF (s : SS) : Nat → Int32 → Int32 → Int32
  | 0, m, l => if m = -9 then 0 else m - l
  | n + 1, m, l => skF s n (if m = -9 ∧ s 23 n = 3 ∧ s 0 33 ≤ s 24 n then nI n else m) (if s 23 n = 3 then l else nI n)
def fnF (s : SS) (l : Nat) (how : Int32) (f : Nat) : Nat → Nat → Option Nat
  | 0, _ => none
  | d + 1, k => if s 13 (200 * l + (f + k) % 200) &&& how = 0 then some k else fnF s l how f d (k + 1)
def flF (l : Nat) : Nat → SS → SS × Int32
  | 0, s => (s, 0)
  | q + 1, s => if (flF l q s).1 23 q = 1 ∧ (flF l q s).1 28 q = nI l then (loseF (flF l q s).1 q l, (flF l q s).2 + 1) else flF l q s
theorem flF_j (l : Nat) (s : SS) {j : Nat} (k : Nat) (hj : ¬ j = 23 ∧ ¬ j = 30 ∧ ¬ j = 19) : ∀ n, (flF l n s).1 j k = s j k
  | 0 => rfl
  | n + 1 => by
    rw [flF]
    split
    · dsimp only
      rw [loseF_j _ _ _ _ hj, flF_j l s k hj n]
    · exact flF_j l s k hj n
theorem mX_sumOf (X : Nat × (Nat → Int32)) {h : Hp} {nl nf np : Nat} (hw : WF h nl nf np) (s : SS) (p a z : Nat) (hp : p < np) (ha : s 25 p = nI a) (hz : s 26 p = nI z) (haz : a + z ≤ 1200000) : wp X 95 0 [TM, some (vI (nI p)), none, none] [] (pS h s) (fun r h' => r = some (vI (sumF s a z)) ∧ h' = pS h s) := by
  have h3 := hw.2.2.2.2.2.2.2.2
  have loop : ∀ d k, k + d = z → wp X 95 4 [TM, some (vI (nI p)), some (vI (sumF s a k)), some (vI (nI k))] [] (pS h s) (fun r h' => r = some (vI (sumF s a z)) ∧ h' = pS h s) := by
    intro d
    induction d with
    | zero =>
      intro k hk
      refine w_pu rfl rfl ?_
      refine w_pu rfl rfl ?_
      refine m_gR 26 hw rfl rfl rfl ?_
      refine w_pu rfl rfl ?_
      refine m_ai 26 p hw rfl rfl (by omega) (by first | rfl | simp only [ix_lits, nI_mul, nI_add]) (by show p < 3000; omega) ?_
      refine w_ge rfl (fun c0 => ?_) (fun c0 => ?_)
      · refine w_pu rfl rfl ?_
        refine w_rt rfl rfl trivial ?_
        exact ⟨by rw [show k = z by omega], rfl⟩
      · exact absurd (by rw [hz]; exact nI_le (by omega) (by omega)) c0
    | succ d ih =>
      intro k hk
      refine w_pu rfl rfl ?_
      refine w_pu rfl rfl ?_
      refine m_gR 26 hw rfl rfl rfl ?_
      refine w_pu rfl rfl ?_
      refine m_ai 26 p hw rfl rfl (by omega) (by first | rfl | simp only [ix_lits, nI_mul, nI_add, ha]) (by show p < 3000; omega) ?_
      refine w_ge rfl (fun c0 => ?_) (fun c0 => ?_)
      · exact absurd (by rw [hz] at c0; exact c0) (nI_ge (by omega) (by omega))
      · refine w_pu rfl rfl ?_
        refine w_pu rfl rfl ?_
        refine m_gR 36 hw rfl rfl rfl ?_
        refine w_pu rfl rfl ?_
        refine m_gR 25 hw rfl rfl rfl ?_
        refine w_pu rfl rfl ?_
        refine m_ai 25 p hw rfl rfl (by omega) (by first | rfl | simp only [ix_lits, nI_mul, nI_add, ha]) (by show p < 3000; omega) ?_
        refine w_pu rfl rfl ?_
        refine w_pu rfl rfl ?_
        refine m_ab 36 (a + k) hw rfl (Or.inl ⟨rfl, rfl⟩) (by omega) (by first | rfl | simp only [ix_lits, nI_mul, nI_add, ha]) (by show (a + k) < 1200000; omega) ?_
        refine w_cst (v := 255) rfl rfl rfl ?_
        refine w_pu rfl rfl ?_
        refine w_pu rfl rfl ?_
        refine w_cst (v := 1) rfl rfl rfl ?_
        refine w_pu rfl rfl ?_
        refine w_pu rfl rfl ?_
        refine w_pu rfl rfl ?_
        refine w_pu rfl rfl ?_
        refine w_i1 rfl rfl rfl ?_
        refine w_go rfl ?_
        exact ih (k + 1) (by omega)
  refine w_cst (v := 0) rfl rfl rfl ?_
  refine w_pu rfl rfl ?_
  refine w_cst (v := 0) rfl rfl rfl ?_
  refine w_pu rfl rfl ?_
  exact loop z 0 (by omega)
theorem mX_many (X : Nat × (Nat → Int32)) {h : Hp} {nl nf np : Nat} (hw : WF h nl nf np) (s : SS) (hn : s 0 23 = nI np) (v : Int32) : wp X 130 0 [TM, some (vI v), none, none] [] (pS h s) (fun r h' => r = some (vI (manyF s v np)) ∧ h' = pS h s) := by
  have h3 := hw.2.2.2.2.2.2.2.2
  have loop : ∀ d k, k + d = np → wp X 130 4 [TM, some (vI v), some (vI (manyF s v k)), some (vI (nI k))] [] (pS h s) (fun r h' => r = some (vI (manyF s v np)) ∧ h' = pS h s) := by
    intro d
    induction d with
    | zero =>
      intro k hk
      refine w_pu rfl rfl ?_
      refine w_pu rfl rfl ?_
      refine m_g hw rfl rfl ?_
      refine w_ge rfl (fun c0 => ?_) (fun c0 => ?_)
      · refine w_pu rfl rfl ?_
        refine w_rt rfl rfl trivial ?_
        exact ⟨by rw [show k = np by omega], rfl⟩
      · exact absurd (by rw [hn]; exact nI_le (by omega) (by omega)) c0
    | succ d ih =>
      intro k hk
      refine w_pu rfl rfl ?_
      refine w_pu rfl rfl ?_
      refine m_g hw rfl rfl ?_
      refine w_ge rfl (fun c0 => ?_) (fun c0 => ?_)
      · exact absurd (by rw [hn] at c0; exact c0) (nI_ge (by omega) (by omega))
      · refine w_pu rfl rfl ?_
        refine w_pu rfl rfl ?_
        refine m_gR 23 hw rfl rfl rfl ?_
        refine w_pu rfl rfl ?_
        refine m_ai 23 k hw rfl rfl (by omega) (by first | rfl | simp only [ix_lits, nI_mul, nI_add]) (by show k < 3000; omega) ?_
        refine w_pu rfl rfl ?_
        refine w_ne rfl (fun c1 => ?_) (fun c1 => ?_)
        · refine w_cst (v := 0) rfl rfl rfl ?_
          refine w_pu rfl rfl ?_
          refine w_pu rfl rfl ?_
          refine w_i1 rfl rfl rfl ?_
          refine w_go rfl ?_
          refine w_loc [TM, some (vI v), some (vI (manyF s v (k + 1))), some (vI (nI (k + 1)))] (by rw [manyF, if_neg c1]; rfl) ?_
          exact ih (k + 1) (by omega)
        · refine w_cst (v := 1) rfl rfl rfl ?_
          refine w_go rfl ?_
          refine w_pu rfl rfl ?_
          refine w_pu rfl rfl ?_
          refine w_i1 rfl rfl rfl ?_
          refine w_go rfl ?_
          refine w_loc [TM, some (vI v), some (vI (manyF s v (k + 1))), some (vI (nI (k + 1)))] (by rw [manyF, if_pos c1]; rfl) ?_
          exact ih (k + 1) (by omega)
  refine w_cst (v := 0) rfl rfl rfl ?_
  refine w_pu rfl rfl ?_
  refine w_cst (v := 0) rfl rfl rfl ?_
  refine w_pu rfl rfl ?_
  exact loop np 0 (by omega)
theorem mX_waits (X : Nat × (Nat → Int32)) {h : Hp} {nl nf np : Nat} (hw : WF h nl nf np) (s : SS) (hn : s 0 23 = nI np) (i : Int32) : wp X 123 0 [TM, some (vI i), none, none] [] (pS h s) (fun r h' => r = some (vI (waitsF np s i)) ∧ h' = pS h s) := by
  have h3 := hw.2.2.2.2.2.2.2.2
  have loop2 : ∀ d k n, ¬ i < 0 → k + d = np → wp X 123 48 [TM, some (vI i), some (vI n), some (vI (nI k))] [] (pS h s) (fun r h' => r = some (vI (match wtF s 0 np d n with | .inl p => nI p | .inr _ => -9)) ∧ h' = pS h s) := by
    intro d
    induction d with
    | zero =>
      intro k n hi hk
      refine w_pu rfl rfl ?_
      refine w_pu rfl rfl ?_
      refine m_g hw rfl rfl ?_
      refine w_ge rfl (fun c0 => ?_) (fun c0 => ?_)
      · refine w_cst (v := (-9)) rfl rfl rfl ?_
        refine w_rt rfl rfl trivial ?_
        exact ⟨rfl, rfl⟩
      · exact absurd (by rw [hn]; exact nI_le (by omega) (by omega)) c0
    | succ d ih =>
      intro k n hi hk
      have ek : np - (d + 1) = k := by omega
      rw [wtF, ek]
      refine w_pu rfl rfl ?_
      refine w_pu rfl rfl ?_
      refine m_g hw rfl rfl ?_
      refine w_ge rfl (fun c0 => ?_) (fun c0 => ?_)
      · exact absurd (by rw [hn] at c0; exact c0) (nI_ge (by omega) (by omega))
      · refine w_pu rfl rfl ?_
        refine w_lt0 rfl (fun c1 => ?_) (fun c1 => ?_)
        · exact absurd c1 hi
        · refine w_pu rfl rfl ?_
          refine w_pu rfl rfl ?_
          refine m_gR 23 hw rfl rfl rfl ?_
          refine w_pu rfl rfl ?_
          refine m_ai 23 k hw rfl rfl (by omega) (by first | rfl | simp only [ix_lits, nI_mul, nI_add]) (by show k < 3000; omega) ?_
          refine w_ne0 rfl (fun c2 => ?_) (fun c2 => ?_)
          · refine w_cst (v := 0) rfl rfl rfl ?_
            refine w_pu rfl rfl ?_
            refine w_pu rfl rfl ?_
            refine w_pu rfl rfl ?_
            refine w_ge0 rfl (fun c3 => ?_) (fun c3 => ?_)
            · refine w_i1 rfl rfl rfl ?_
              refine w_go rfl ?_
              rw [if_neg c2, if_neg (Int32.not_lt.mpr c3)]
              exact ih (k + 1) _ hi (by omega)
            · refine w_pu rfl rfl ?_
              refine w_rt rfl rfl trivial ?_
              exact ⟨by rw [if_neg c2, if_pos (Int32.not_le.mp c3)], rfl⟩
          · refine w_cst (v := 1) rfl rfl rfl ?_
            refine w_go rfl ?_
            refine w_pu rfl rfl ?_
            refine w_pu rfl rfl ?_
            refine w_pu rfl rfl ?_
            refine w_ge0 rfl (fun c4 => ?_) (fun c4 => ?_)
            · refine w_i1 rfl rfl rfl ?_
              refine w_go rfl ?_
              rw [if_pos c2, if_neg (Int32.not_lt.mpr c4)]
              exact ih (k + 1) _ hi (by omega)
            · refine w_pu rfl rfl ?_
              refine w_rt rfl rfl trivial ?_
              exact ⟨by rw [if_pos c2, if_pos (Int32.not_le.mp c4)], rfl⟩
  have loop1 : ∀ d k n, ¬ i < 0 → k + d = np → wp X 123 4 [TM, some (vI i), some (vI n), some (vI (nI k))] [] (pS h s) (fun r h' => r = some (vI (match wtF s 2 np d n with | .inl p => nI p | .inr n => (match wtF s 0 np np n with | .inl p => nI p | .inr _ => -9))) ∧ h' = pS h s) := by
    intro d
    induction d with
    | zero =>
      intro k n hi hk
      refine w_pu rfl rfl ?_
      refine w_pu rfl rfl ?_
      refine m_g hw rfl rfl ?_
      refine w_ge rfl (fun c0 => ?_) (fun c0 => ?_)
      · refine w_cst (v := 0) rfl rfl rfl ?_
        refine w_pu rfl rfl ?_
        exact loop2 np 0 n hi (by omega)
      · exact absurd (by rw [hn]; exact nI_le (by omega) (by omega)) c0
    | succ d ih =>
      intro k n hi hk
      have ek : np - (d + 1) = k := by omega
      rw [wtF, ek]
      refine w_pu rfl rfl ?_
      refine w_pu rfl rfl ?_
      refine m_g hw rfl rfl ?_
      refine w_ge rfl (fun c0 => ?_) (fun c0 => ?_)
      · exact absurd (by rw [hn] at c0; exact c0) (nI_ge (by omega) (by omega))
      · refine w_pu rfl rfl ?_
        refine w_lt0 rfl (fun c1 => ?_) (fun c1 => ?_)
        · exact absurd c1 hi
        · refine w_pu rfl rfl ?_
          refine w_pu rfl rfl ?_
          refine m_gR 23 hw rfl rfl rfl ?_
          refine w_pu rfl rfl ?_
          refine m_ai 23 k hw rfl rfl (by omega) (by first | rfl | simp only [ix_lits, nI_mul, nI_add]) (by show k < 3000; omega) ?_
          refine w_cst (v := 2) rfl rfl rfl ?_
          refine w_ne rfl (fun c2 => ?_) (fun c2 => ?_)
          · refine w_cst (v := 0) rfl rfl rfl ?_
            refine w_pu rfl rfl ?_
            refine w_pu rfl rfl ?_
            refine w_pu rfl rfl ?_
            refine w_ge0 rfl (fun c3 => ?_) (fun c3 => ?_)
            · refine w_i1 rfl rfl rfl ?_
              refine w_go rfl ?_
              rw [if_neg c2, if_neg (Int32.not_lt.mpr c3)]
              exact ih (k + 1) _ hi (by omega)
            · refine w_pu rfl rfl ?_
              refine w_rt rfl rfl trivial ?_
              exact ⟨by rw [if_neg c2, if_pos (Int32.not_le.mp c3)], rfl⟩
          · refine w_cst (v := 1) rfl rfl rfl ?_
            refine w_go rfl ?_
            refine w_pu rfl rfl ?_
            refine w_pu rfl rfl ?_
            refine w_pu rfl rfl ?_
            refine w_ge0 rfl (fun c4 => ?_) (fun c4 => ?_)
            · refine w_i1 rfl rfl rfl ?_
              refine w_go rfl ?_
              rw [if_pos c2, if_neg (Int32.not_lt.mpr c4)]
              exact ih (k + 1) _ hi (by omega)
            · refine w_pu rfl rfl ?_
              refine w_rt rfl rfl trivial ?_
              exact ⟨by rw [if_pos c2, if_pos (Int32.not_le.mp c4)], rfl⟩
  by_cases hi : i < 0
  · have key : ∀ n, wp X 123 46 [TM, some (vI i), some (vI n), some (vI (nI 0))] [] (pS h s) (fun r h' => r = some (vI (waitsF np s i)) ∧ h' = pS h s) := by
      intro n
      refine w_cst (v := 0) rfl rfl rfl ?_
      refine w_pu rfl rfl ?_
      refine w_pu rfl rfl ?_
      refine w_pu rfl rfl ?_
      refine m_g hw rfl rfl ?_
      refine w_ge rfl (fun c0 => ?_) (fun c0 => ?_)
      · refine w_cst (v := (-9)) rfl rfl rfl ?_
        refine w_rt rfl rfl trivial ?_
        exact ⟨by rw [waitsF, if_pos hi], rfl⟩
      · refine w_pu rfl rfl ?_
        refine w_lt0 rfl (fun c1 => ?_) (fun c1 => ?_)
        · refine w_cst (v := (-9)) rfl rfl rfl ?_
          refine w_rt rfl rfl trivial ?_
          exact ⟨by rw [waitsF, if_pos hi], rfl⟩
        · exact absurd hi c1
    refine w_pu rfl rfl ?_
    refine w_pu rfl rfl ?_
    refine w_cst (v := 0) rfl rfl rfl ?_
    refine w_pu rfl rfl ?_
    refine w_pu rfl rfl ?_
    refine w_pu rfl rfl ?_
    refine m_g hw rfl rfl ?_
    refine w_ge rfl (fun c0 => ?_) (fun c0 => ?_)
    · exact key _
    · refine w_pu rfl rfl ?_
      refine w_lt0 rfl (fun c1 => ?_) (fun c1 => ?_)
      · exact key _
      · exact absurd hi c1
  · refine w_pu rfl rfl ?_
    refine w_pu rfl rfl ?_
    refine w_cst (v := 0) rfl rfl rfl ?_
    refine w_pu rfl rfl ?_
    rw [waitsF, if_neg hi]
    exact loop1 np 0 i hi (by omega)
theorem w_dec {X : Nat × (Nat → Int32)} {y pc : Nat} {L : Ls} {st : St} {h : Hp} {Q : Option Vl → Hp → Prop} {len a b i : Nat} {x : Int32} (hc : cd y pc = some (.iinc i (-1), len, a, b)) (hl : L[i]? = some (some (vI x))) (hs : (decide (i < L.length) && okst L i) = true) (kk : wp X y (pc + len) (L.set i (some (vI (x - 1)))) st h Q) : wp X y pc L st h Q := by
  refine w_inc (v := -1) hc hl hs rfl ?_
  rw [show x + -1 = x - 1 from (Int32.sub_eq_add_neg ..).symm]
  exact kk
theorem mX_skew (X : Nat × (Nat → Int32)) {h : Hp} {nl nf np : Nat} (hw : WF h nl nf np) (s : SS) (hn : s 0 23 = nI np) : wp X 127 0 [TM, none, none, none] [] (pS h s) (fun r h' => r = some (vI (skF s np (-9) (-9))) ∧ h' = pS h s) := by
  have h3 := hw.2.2.2.2.2.2.2.2
  have loop : ∀ n m l, n ≤ np → wp X 127 13 [TM, some (vI m), some (vI l), some (vI (nI n - 1))] [] (pS h s) (fun r h' => r = some (vI (skF s n m l)) ∧ h' = pS h s) := by
    intro n
    induction n with
    | zero =>
      intro m l hk
      refine w_pu rfl rfl ?_
      refine w_lt0 rfl (fun c0 => ?_) (fun c0 => ?_)
      · refine w_pu rfl rfl ?_
        refine w_cst (v := (-9)) rfl rfl rfl ?_
        refine w_ne rfl (fun c1 => ?_) (fun c1 => ?_)
        · refine w_pu rfl rfl ?_
          refine w_pu rfl rfl ?_
          refine w_pu rfl rfl ?_
          refine w_rt rfl rfl trivial ?_
          exact ⟨by rw [skF, if_neg c1], rfl⟩
        · refine w_cst (v := 0) rfl rfl rfl ?_
          refine w_go rfl ?_
          refine w_rt rfl rfl trivial ?_
          exact ⟨by rw [skF, if_pos c1], rfl⟩
      · exact absurd (by decide) c0
    | succ n ih =>
      intro m l hk
      rw [nI_pred, skF]
      refine w_pu rfl rfl ?_
      refine w_lt0 rfl (fun c0 => ?_) (fun c0 => ?_)
      · exact absurd c0 (nI_pos (by omega))
      · refine w_pu rfl rfl ?_
        refine m_gR 23 hw rfl rfl rfl ?_
        refine w_pu rfl rfl ?_
        refine m_ai 23 n hw rfl rfl (by omega) (by first | rfl | simp only [ix_lits, nI_mul, nI_add]) (by show n < 3000; omega) ?_
        refine w_cst (v := 3) rfl rfl rfl ?_
        refine w_eq rfl (fun c1 => ?_) (fun c1 => ?_)
        · refine w_pu rfl rfl ?_
          refine w_pu rfl rfl ?_
          refine w_pu rfl rfl ?_
          refine w_cst (v := (-9)) rfl rfl rfl ?_
          refine w_ne rfl (fun c2 => ?_) (fun c2 => ?_)
          · refine w_pu rfl rfl ?_
            refine w_pu rfl rfl ?_
            refine w_dec rfl rfl rfl ?_
            refine w_go rfl ?_
            have ih := ih (if m = -9 ∧ s 23 n = 3 ∧ s 0 33 ≤ s 24 n then nI n else m) (if s 23 n = 3 then l else nI n) (by omega)
            rw [if_neg (fun z => c2 z.1), if_pos c1] at ih ⊢
            exact ih
          · refine w_pu rfl rfl ?_
            refine m_gR 23 hw rfl rfl rfl ?_
            refine w_pu rfl rfl ?_
            refine m_ai 23 n hw rfl rfl (by omega) (by first | rfl | simp only [ix_lits, nI_mul, nI_add]) (by show n < 3000; omega) ?_
            refine w_cst (v := 3) rfl rfl rfl ?_
            refine w_ne rfl (fun c3 => ?_) (fun c3 => ?_)
            · refine w_pu rfl rfl ?_
              refine w_pu rfl rfl ?_
              refine w_dec rfl rfl rfl ?_
              refine w_go rfl ?_
              have ih := ih (if m = -9 ∧ s 23 n = 3 ∧ s 0 33 ≤ s 24 n then nI n else m) (if s 23 n = 3 then l else nI n) (by omega)
              rw [if_neg (fun z => c3 z.2.1), if_pos c1] at ih ⊢
              exact ih
            · refine w_pu rfl rfl ?_
              refine m_gR 24 hw rfl rfl rfl ?_
              refine w_pu rfl rfl ?_
              refine m_ai 24 n hw rfl rfl (by omega) (by first | rfl | simp only [ix_lits, nI_mul, nI_add]) (by show n < 3000; omega) ?_
              refine w_pu rfl rfl ?_
              refine m_g hw rfl rfl ?_
              refine w_lt rfl (fun c4 => ?_) (fun c4 => ?_)
              · refine w_pu rfl rfl ?_
                refine w_pu rfl rfl ?_
                refine w_dec rfl rfl rfl ?_
                refine w_go rfl ?_
                have ih := ih (if m = -9 ∧ s 23 n = 3 ∧ s 0 33 ≤ s 24 n then nI n else m) (if s 23 n = 3 then l else nI n) (by omega)
                rw [if_neg (fun z => Int32.not_lt.mpr z.2.2 c4), if_pos c1] at ih ⊢
                exact ih
              · refine w_pu rfl rfl ?_
                refine w_go rfl ?_
                refine w_pu rfl rfl ?_
                refine w_dec rfl rfl rfl ?_
                refine w_go rfl ?_
                have ih := ih (if m = -9 ∧ s 23 n = 3 ∧ s 0 33 ≤ s 24 n then nI n else m) (if s 23 n = 3 then l else nI n) (by omega)
                rw [if_pos ⟨c2, c3, Int32.not_lt.mp c4⟩, if_pos c1] at ih ⊢
                exact ih
        · refine w_pu rfl rfl ?_
          refine w_go rfl ?_
          refine w_pu rfl rfl ?_
          refine w_pu rfl rfl ?_
          refine w_cst (v := (-9)) rfl rfl rfl ?_
          refine w_ne rfl (fun c5 => ?_) (fun c5 => ?_)
          · refine w_pu rfl rfl ?_
            refine w_pu rfl rfl ?_
            refine w_dec rfl rfl rfl ?_
            refine w_go rfl ?_
            have ih := ih (if m = -9 ∧ s 23 n = 3 ∧ s 0 33 ≤ s 24 n then nI n else m) (if s 23 n = 3 then l else nI n) (by omega)
            rw [if_neg (fun z => c5 z.1), if_neg c1] at ih ⊢
            exact ih
          · refine w_pu rfl rfl ?_
            refine m_gR 23 hw rfl rfl rfl ?_
            refine w_pu rfl rfl ?_
            refine m_ai 23 n hw rfl rfl (by omega) (by first | rfl | simp only [ix_lits, nI_mul, nI_add]) (by show n < 3000; omega) ?_
            refine w_cst (v := 3) rfl rfl rfl ?_
            refine w_ne rfl (fun c6 => ?_) (fun c6 => ?_)
            · refine w_pu rfl rfl ?_
              refine w_pu rfl rfl ?_
              refine w_dec rfl rfl rfl ?_
              refine w_go rfl ?_
              have ih := ih (if m = -9 ∧ s 23 n = 3 ∧ s 0 33 ≤ s 24 n then nI n else m) (if s 23 n = 3 then l else nI n) (by omega)
              rw [if_neg (fun z => c6 z.2.1), if_neg c1] at ih ⊢
              exact ih
            · refine w_pu rfl rfl ?_
              refine m_gR 24 hw rfl rfl rfl ?_
              refine w_pu rfl rfl ?_
              refine m_ai 24 n hw rfl rfl (by omega) (by first | rfl | simp only [ix_lits, nI_mul, nI_add]) (by show n < 3000; omega) ?_
              refine w_pu rfl rfl ?_
              refine m_g hw rfl rfl ?_
              refine w_lt rfl (fun c7 => ?_) (fun c7 => ?_)
              · refine w_pu rfl rfl ?_
                refine w_pu rfl rfl ?_
                refine w_dec rfl rfl rfl ?_
                refine w_go rfl ?_
                have ih := ih (if m = -9 ∧ s 23 n = 3 ∧ s 0 33 ≤ s 24 n then nI n else m) (if s 23 n = 3 then l else nI n) (by omega)
                rw [if_neg (fun z => Int32.not_lt.mpr z.2.2 c7), if_neg c1] at ih ⊢
                exact ih
              · refine w_pu rfl rfl ?_
                refine w_go rfl ?_
                refine w_pu rfl rfl ?_
                refine w_dec rfl rfl rfl ?_
                refine w_go rfl ?_
                have ih := ih (if m = -9 ∧ s 23 n = 3 ∧ s 0 33 ≤ s 24 n then nI n else m) (if s 23 n = 3 then l else nI n) (by omega)
                rw [if_pos ⟨c5, c6, Int32.not_lt.mp c7⟩, if_neg c1] at ih ⊢
                exact ih
  refine w_cst (v := (-9)) rfl rfl rfl ?_
  refine w_pu rfl rfl ?_
  refine w_cst (v := (-9)) rfl rfl rfl ?_
  refine w_pu rfl rfl ?_
  refine w_pu rfl rfl ?_
  refine m_g hw rfl rfl ?_
  refine w_cst (v := 1) rfl rfl rfl ?_
  refine w_pu rfl rfl ?_
  refine w_pu rfl rfl ?_
  rw [hn]
  exact loop np _ _ (Nat.le_refl _)
def fnO (s : SS) (l : Nat) (how : Int32) : Option Nat := fnF s l how (nat (s 14 l)) (nat (s 15 l)) 0
theorem fnF_lt (s : SS) (l : Nat) (how : Int32) (f : Nat) : ∀ d k j, fnF s l how f d k = some j → k ≤ j ∧ j < k + d
  | 0, k, j, h => by cases h
  | d + 1, k, j, h => by
    rw [fnF] at h
    split at h
    · cases h
      omega
    · have := fnF_lt s l how f d (k + 1) j h
      omega
def encW (s : SS) (l : Nat) (o : Option Nat) : Int32 := match o with
  | none => -9
  | some k => nI (200 * l + (nat (s 14 l) + k) % 200)
theorem mX_firstNot (X : Nat × (Nat → Int32)) {h : Hp} {nl nf np : Nat} (hw : WF h nl nf np) (s : SS) (l u f : Nat) (how : Int32) (hl : l < nl) (hu : s 15 l = nI u) (hu2 : u ≤ 200) (hf : s 14 l = nI f) (hf2 : f < 200) : wp X 112 0 [TM, some (vI (nI l)), some (vI how), none, none] [] (pS h s) (fun r h' => r = some (vI (encW s l (fnO s l how))) ∧ h' = pS h s) := by
  have h4 := hw.2.2.2.2.2.2.1
  have ef : nat (s 14 l) = f := by rw [hf, nat_nI (by omega)]
  have eu : nat (s 15 l) = u := by rw [hu, nat_nI (by omega)]
  have loop : ∀ d k (x : Option Vl), k + d = u → wp X 112 2 [TM, some (vI (nI l)), some (vI how), some (vI (nI k)), x] [] (pS h s) (fun r h' => r = some (vI (encW s l (fnF s l how f d k))) ∧ h' = pS h s) := by
    intro d
    induction d with
    | zero =>
      intro k x hk
      refine w_pu rfl rfl ?_
      refine w_pu rfl rfl ?_
      refine m_gR 15 hw rfl rfl rfl ?_
      refine w_pu rfl rfl ?_
      refine m_ai 15 l hw rfl rfl (by omega) (by first | rfl | simp only [ix_lits, nI_mul, nI_add]) (by show l < 8; omega) ?_
      refine w_ge rfl (fun c0 => ?_) (fun c0 => ?_)
      · refine w_cst (v := (-9)) rfl rfl rfl ?_
        refine w_rt rfl rfl trivial ?_
        exact ⟨rfl, rfl⟩
      · exact absurd (by rw [hu]; exact nI_le (by omega) (by omega)) c0
    | succ d ih =>
      intro k x hk
      rw [fnF]
      refine w_pu rfl rfl ?_
      refine w_pu rfl rfl ?_
      refine m_gR 15 hw rfl rfl rfl ?_
      refine w_pu rfl rfl ?_
      refine m_ai 15 l hw rfl rfl (by omega) (by first | rfl | simp only [ix_lits, nI_mul, nI_add]) (by show l < 8; omega) ?_
      refine w_ge rfl (fun c0 => ?_) (fun c0 => ?_)
      · exact absurd (by rw [hu] at c0; exact c0) (nI_ge (by omega) (by omega))
      · refine w_cst (v := 200) rfl rfl rfl ?_
        refine w_pu rfl rfl ?_
        refine w_pu rfl rfl ?_
        refine w_pu rfl rfl ?_
        refine m_gR 14 hw rfl rfl rfl ?_
        refine w_pu rfl rfl ?_
        refine m_ai 14 l hw rfl rfl (by omega) (by first | rfl | simp only [ix_lits, nI_mul, nI_add]) (by show l < 8; omega) ?_
        refine w_pu rfl rfl ?_
        refine w_pu rfl rfl ?_
        refine w_cst (v := 200) rfl rfl rfl ?_
        refine w_op rfl rfl (by decide) ?_
        refine w_top (nI ((f + k) % 200)) (by rw [hf, nI_add]; exact pk_rem (d := 200) (by omega) (by omega) (by omega)) ?_
        refine w_pu rfl rfl ?_
        refine w_pu rfl rfl ?_
        refine w_pu rfl rfl ?_
        refine m_gR 13 hw rfl rfl rfl ?_
        refine w_pu rfl rfl ?_
        refine m_ai 13 ((200 * l) + ((f + k) % 200)) hw rfl rfl (by omega) (by first | rfl | simp only [ix_lits, nI_mul, nI_add]) (by show ((200 * l) + ((f + k) % 200)) < 1600; omega) ?_
        refine w_pu rfl rfl ?_
        refine w_pu rfl rfl ?_
        refine w_ne0 rfl (fun c1 => ?_) (fun c1 => ?_)
        · refine w_i1 rfl rfl rfl ?_
          refine w_go rfl ?_
          rw [if_neg c1]
          exact ih (k + 1) _ (by omega)
        · refine w_pu rfl rfl ?_
          refine w_rt rfl rfl trivial ?_
          exact ⟨by rw [if_pos c1, encW, ef], rfl⟩
  refine w_cst (v := 0) rfl rfl rfl ?_
  refine w_pu rfl rfl ?_
  rw [fnO, ef, eu]
  exact loop u 0 _ (by omega)
end
