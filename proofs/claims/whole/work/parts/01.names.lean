-- ===== PART A: goes FIRST, ahead of the names: the tables' words, and 'selects' of the private methods out of them =====
/-- a private method of a class that the tables say can be made, by its rows of tables_1 -/
def lw_okq (q : MethodName × Nat) : Prop := (q.1.cls ≠ "java/lang/invoke/MethodHandle" ∧ q.1.cls ≠ "java/lang/invoke/VarHandle") ∧ Cond.instantiable q.1.cls q.2 ∈ tables_1 ∧ Cond.privateMethod q.1 ∈ tables_1 ∧ Cond.instanceMethod q.1 ∈ tables_1
theorem lw_p0 : lw_okq (⟨"BundleLine", "refuse", "(I)I"⟩, 18) := ⟨⟨by decide +kernel, by decide +kernel⟩, List.mem_of_getElem? (i := 12) (by decide +kernel), List.mem_of_getElem? (i := 87) (by decide +kernel), List.mem_of_getElem? (i := 88) (by decide +kernel)⟩
theorem lw_p1 : lw_okq (⟨"BundleLine", "lineAt", "(I)LBundleLine$Line;"⟩, 18) := ⟨⟨by decide +kernel, by decide +kernel⟩, List.mem_of_getElem? (i := 12) (by decide +kernel), List.mem_of_getElem? (i := 220) (by decide +kernel), List.mem_of_getElem? (i := 221) (by decide +kernel)⟩
theorem lw_p2 : lw_okq (⟨"BundleLine", "piecesOf", "(I)I"⟩, 18) := ⟨⟨by decide +kernel, by decide +kernel⟩, List.mem_of_getElem? (i := 12) (by decide +kernel), List.mem_of_getElem? (i := 236) (by decide +kernel), List.mem_of_getElem? (i := 237) (by decide +kernel)⟩
theorem lw_p3 : lw_okq (⟨"BundleLine", "cutIntoPieces", "(LBundleLine$Frame;)V"⟩, 18) := ⟨⟨by decide +kernel, by decide +kernel⟩, List.mem_of_getElem? (i := 12) (by decide +kernel), List.mem_of_getElem? (i := 284) (by decide +kernel), List.mem_of_getElem? (i := 285) (by decide +kernel)⟩
theorem lw_p4 : lw_okq (⟨"BundleLine", "countInState", "(II)V"⟩, 18) := ⟨⟨by decide +kernel, by decide +kernel⟩, List.mem_of_getElem? (i := 12) (by decide +kernel), List.mem_of_getElem? (i := 333) (by decide +kernel), List.mem_of_getElem? (i := 334) (by decide +kernel)⟩
theorem lw_p5 : lw_okq (⟨"BundleLine", "layLostPieces", "()V"⟩, 18) := ⟨⟨by decide +kernel, by decide +kernel⟩, List.mem_of_getElem? (i := 12) (by decide +kernel), List.mem_of_getElem? (i := 349) (by decide +kernel), List.mem_of_getElem? (i := 350) (by decide +kernel)⟩
theorem lw_p6 : lw_okq (⟨"BundleLine", "pieceAt", "(I)LBundleLine$Piece;"⟩, 18) := ⟨⟨by decide +kernel, by decide +kernel⟩, List.mem_of_getElem? (i := 12) (by decide +kernel), List.mem_of_getElem? (i := 353) (by decide +kernel), List.mem_of_getElem? (i := 354) (by decide +kernel)⟩
theorem lw_p7 : lw_okq (⟨"BundleLine", "lineFor", "(LBundleLine$Piece;)LBundleLine$Line;"⟩, 18) := ⟨⟨by decide +kernel, by decide +kernel⟩, List.mem_of_getElem? (i := 12) (by decide +kernel), List.mem_of_getElem? (i := 357) (by decide +kernel), List.mem_of_getElem? (i := 358) (by decide +kernel)⟩
theorem lw_p8 : lw_okq (⟨"BundleLine", "layOn", "(LBundleLine$Line;ILBundleLine$Piece;)V"⟩, 18) := ⟨⟨by decide +kernel, by decide +kernel⟩, List.mem_of_getElem? (i := 12) (by decide +kernel), List.mem_of_getElem? (i := 376) (by decide +kernel), List.mem_of_getElem? (i := 377) (by decide +kernel)⟩
theorem lw_p9 : lw_okq (⟨"BundleLine", "become", "(LBundleLine$Piece;I)V"⟩, 18) := ⟨⟨by decide +kernel, by decide +kernel⟩, List.mem_of_getElem? (i := 12) (by decide +kernel), List.mem_of_getElem? (i := 380) (by decide +kernel), List.mem_of_getElem? (i := 381) (by decide +kernel)⟩
theorem lw_p10 : lw_okq (⟨"BundleLine", "layNewPieces", "()V"⟩, 18) := ⟨⟨by decide +kernel, by decide +kernel⟩, List.mem_of_getElem? (i := 12) (by decide +kernel), List.mem_of_getElem? (i := 388) (by decide +kernel), List.mem_of_getElem? (i := 389) (by decide +kernel)⟩
theorem lw_p11 : lw_okq (⟨"BundleLine", "creditLeft", "()I"⟩, 18) := ⟨⟨by decide +kernel, by decide +kernel⟩, List.mem_of_getElem? (i := 12) (by decide +kernel), List.mem_of_getElem? (i := 392) (by decide +kernel), List.mem_of_getElem? (i := 393) (by decide +kernel)⟩
theorem lw_p12 : lw_okq (⟨"BundleLine", "sendOnLines", "()V"⟩, 18) := ⟨⟨by decide +kernel, by decide +kernel⟩, List.mem_of_getElem? (i := 12) (by decide +kernel), List.mem_of_getElem? (i := 396) (by decide +kernel), List.mem_of_getElem? (i := 397) (by decide +kernel)⟩
theorem lw_p13 : lw_okq (⟨"BundleLine$Line", "bytesFor", "(I)I"⟩, 17) := ⟨⟨by decide +kernel, by decide +kernel⟩, List.mem_of_getElem? (i := 90) (by decide +kernel), List.mem_of_getElem? (i := 404) (by decide +kernel), List.mem_of_getElem? (i := 405) (by decide +kernel)⟩
theorem lw_p14 : lw_okq (⟨"BundleLine$Line", "sendBytes", "(II)V"⟩, 17) := ⟨⟨by decide +kernel, by decide +kernel⟩, List.mem_of_getElem? (i := 90) (by decide +kernel), List.mem_of_getElem? (i := 409) (by decide +kernel), List.mem_of_getElem? (i := 410) (by decide +kernel)⟩
theorem lw_p15 : lw_okq (⟨"BundleLine$Line", "sendFirst", "(I)V"⟩, 17) := ⟨⟨by decide +kernel, by decide +kernel⟩, List.mem_of_getElem? (i := 90) (by decide +kernel), List.mem_of_getElem? (i := 421) (by decide +kernel), List.mem_of_getElem? (i := 422) (by decide +kernel)⟩
def lw_privs_1 : List (MethodName × Nat) := [(⟨"BundleLine", "refuse", "(I)I"⟩, 18), (⟨"BundleLine", "lineAt", "(I)LBundleLine$Line;"⟩, 18), (⟨"BundleLine", "piecesOf", "(I)I"⟩, 18), (⟨"BundleLine", "cutIntoPieces", "(LBundleLine$Frame;)V"⟩, 18), (⟨"BundleLine", "countInState", "(II)V"⟩, 18), (⟨"BundleLine", "layLostPieces", "()V"⟩, 18), (⟨"BundleLine", "pieceAt", "(I)LBundleLine$Piece;"⟩, 18), (⟨"BundleLine", "lineFor", "(LBundleLine$Piece;)LBundleLine$Line;"⟩, 18), (⟨"BundleLine", "layOn", "(LBundleLine$Line;ILBundleLine$Piece;)V"⟩, 18), (⟨"BundleLine", "become", "(LBundleLine$Piece;I)V"⟩, 18), (⟨"BundleLine", "layNewPieces", "()V"⟩, 18), (⟨"BundleLine", "creditLeft", "()I"⟩, 18), (⟨"BundleLine", "sendOnLines", "()V"⟩, 18), (⟨"BundleLine$Line", "bytesFor", "(I)I"⟩, 17), (⟨"BundleLine$Line", "sendBytes", "(II)V"⟩, 17), (⟨"BundleLine$Line", "sendFirst", "(I)V"⟩, 17)]
theorem lw_r1 : ∀ q ∈ lw_privs_1, lw_okq q := List.forall_mem_cons.mpr ⟨lw_p0, List.forall_mem_cons.mpr ⟨lw_p1, List.forall_mem_cons.mpr ⟨lw_p2, List.forall_mem_cons.mpr ⟨lw_p3, List.forall_mem_cons.mpr ⟨lw_p4, List.forall_mem_cons.mpr ⟨lw_p5, List.forall_mem_cons.mpr ⟨lw_p6, List.forall_mem_cons.mpr ⟨lw_p7, List.forall_mem_cons.mpr ⟨lw_p8, List.forall_mem_cons.mpr ⟨lw_p9, List.forall_mem_cons.mpr ⟨lw_p10, List.forall_mem_cons.mpr ⟨lw_p11, List.forall_mem_cons.mpr ⟨lw_p12, List.forall_mem_cons.mpr ⟨lw_p13, List.forall_mem_cons.mpr ⟨lw_p14, List.forall_mem_cons.mpr ⟨lw_p15, fun _ h => absurd h List.not_mem_nil⟩⟩⟩⟩⟩⟩⟩⟩⟩⟩⟩⟩⟩⟩⟩⟩
theorem lw_p16 : lw_okq (⟨"BundleLine", "takeWhatComes", "()V"⟩, 18) := ⟨⟨by decide +kernel, by decide +kernel⟩, List.mem_of_getElem? (i := 12) (by decide +kernel), List.mem_of_getElem? (i := 437) (by decide +kernel), List.mem_of_getElem? (i := 438) (by decide +kernel)⟩
theorem lw_p17 : lw_okq (⟨"BundleLine", "takeFrom", "(LBundleLine$Line;)V"⟩, 18) := ⟨⟨by decide +kernel, by decide +kernel⟩, List.mem_of_getElem? (i := 12) (by decide +kernel), List.mem_of_getElem? (i := 441) (by decide +kernel), List.mem_of_getElem? (i := 442) (by decide +kernel)⟩
theorem lw_p18 : lw_okq (⟨"BundleLine", "loseUpTo", "(LBundleLine$Line;I)V"⟩, 18) := ⟨⟨by decide +kernel, by decide +kernel⟩, List.mem_of_getElem? (i := 12) (by decide +kernel), List.mem_of_getElem? (i := 469) (by decide +kernel), List.mem_of_getElem? (i := 470) (by decide +kernel)⟩
theorem lw_p19 : lw_okq (⟨"BundleLine", "loseOn", "(LBundleLine$Line;I)V"⟩, 18) := ⟨⟨by decide +kernel, by decide +kernel⟩, List.mem_of_getElem? (i := 12) (by decide +kernel), List.mem_of_getElem? (i := 477) (by decide +kernel), List.mem_of_getElem? (i := 478) (by decide +kernel)⟩
theorem lw_p20 : lw_okq (⟨"BundleLine", "arrive", "(I)V"⟩, 18) := ⟨⟨by decide +kernel, by decide +kernel⟩, List.mem_of_getElem? (i := 12) (by decide +kernel), List.mem_of_getElem? (i := 485) (by decide +kernel), List.mem_of_getElem? (i := 486) (by decide +kernel)⟩
theorem lw_p21 : lw_okq (⟨"BundleLine", "frameAt", "(I)LBundleLine$Frame;"⟩, 18) := ⟨⟨by decide +kernel, by decide +kernel⟩, List.mem_of_getElem? (i := 12) (by decide +kernel), List.mem_of_getElem? (i := 489) (by decide +kernel), List.mem_of_getElem? (i := 490) (by decide +kernel)⟩
theorem lw_p22 : lw_okq (⟨"BundleLine", "giveFrames", "()V"⟩, 18) := ⟨⟨by decide +kernel, by decide +kernel⟩, List.mem_of_getElem? (i := 12) (by decide +kernel), List.mem_of_getElem? (i := 493) (by decide +kernel), List.mem_of_getElem? (i := 494) (by decide +kernel)⟩
theorem lw_p23 : lw_okq (⟨"BundleLine", "restLines", "()V"⟩, 18) := ⟨⟨by decide +kernel, by decide +kernel⟩, List.mem_of_getElem? (i := 12) (by decide +kernel), List.mem_of_getElem? (i := 497) (by decide +kernel), List.mem_of_getElem? (i := 498) (by decide +kernel)⟩
theorem lw_p24 : lw_okq (⟨"BundleLine", "lostPieceAt", "(I)I"⟩, 18) := ⟨⟨by decide +kernel, by decide +kernel⟩, List.mem_of_getElem? (i := 12) (by decide +kernel), List.mem_of_getElem? (i := 568) (by decide +kernel), List.mem_of_getElem? (i := 569) (by decide +kernel)⟩
theorem lw_p25 : lw_okq (⟨"BundleLine", "witnessOf", "(I)I"⟩, 18) := ⟨⟨by decide +kernel, by decide +kernel⟩, List.mem_of_getElem? (i := 12) (by decide +kernel), List.mem_of_getElem? (i := 593) (by decide +kernel), List.mem_of_getElem? (i := 594) (by decide +kernel)⟩
theorem lw_p26 : lw_okq (⟨"BundleLine", "allEmptiesLaid", "()I"⟩, 18) := ⟨⟨by decide +kernel, by decide +kernel⟩, List.mem_of_getElem? (i := 12) (by decide +kernel), List.mem_of_getElem? (i := 605) (by decide +kernel), List.mem_of_getElem? (i := 606) (by decide +kernel)⟩
theorem lw_p27 : lw_okq (⟨"BundleLine", "refusalsOf", "(I)I"⟩, 18) := ⟨⟨by decide +kernel, by decide +kernel⟩, List.mem_of_getElem? (i := 12) (by decide +kernel), List.mem_of_getElem? (i := 609) (by decide +kernel), List.mem_of_getElem? (i := 610) (by decide +kernel)⟩
theorem lw_p28 : lw_okq (⟨"BundleLineModel", "refuse", "(I)I"⟩, 47) := ⟨⟨by decide +kernel, by decide +kernel⟩, List.mem_of_getElem? (i := 613) (by decide +kernel), List.mem_of_getElem? (i := 770) (by decide +kernel), List.mem_of_getElem? (i := 771) (by decide +kernel)⟩
theorem lw_p29 : lw_okq (⟨"BundleLineModel", "isLine", "(I)Z"⟩, 47) := ⟨⟨by decide +kernel, by decide +kernel⟩, List.mem_of_getElem? (i := 613) (by decide +kernel), List.mem_of_getElem? (i := 778) (by decide +kernel), List.mem_of_getElem? (i := 779) (by decide +kernel)⟩
theorem lw_p30 : lw_okq (⟨"BundleLineModel", "step", "()V"⟩, 47) := ⟨⟨by decide +kernel, by decide +kernel⟩, List.mem_of_getElem? (i := 613) (by decide +kernel), List.mem_of_getElem? (i := 810) (by decide +kernel), List.mem_of_getElem? (i := 811) (by decide +kernel)⟩
theorem lw_p31 : lw_okq (⟨"BundleLineModel", "laying", "()V"⟩, 47) := ⟨⟨by decide +kernel, by decide +kernel⟩, List.mem_of_getElem? (i := 613) (by decide +kernel), List.mem_of_getElem? (i := 814) (by decide +kernel), List.mem_of_getElem? (i := 815) (by decide +kernel)⟩
def lw_privs_2 : List (MethodName × Nat) := [(⟨"BundleLine", "takeWhatComes", "()V"⟩, 18), (⟨"BundleLine", "takeFrom", "(LBundleLine$Line;)V"⟩, 18), (⟨"BundleLine", "loseUpTo", "(LBundleLine$Line;I)V"⟩, 18), (⟨"BundleLine", "loseOn", "(LBundleLine$Line;I)V"⟩, 18), (⟨"BundleLine", "arrive", "(I)V"⟩, 18), (⟨"BundleLine", "frameAt", "(I)LBundleLine$Frame;"⟩, 18), (⟨"BundleLine", "giveFrames", "()V"⟩, 18), (⟨"BundleLine", "restLines", "()V"⟩, 18), (⟨"BundleLine", "lostPieceAt", "(I)I"⟩, 18), (⟨"BundleLine", "witnessOf", "(I)I"⟩, 18), (⟨"BundleLine", "allEmptiesLaid", "()I"⟩, 18), (⟨"BundleLine", "refusalsOf", "(I)I"⟩, 18), (⟨"BundleLineModel", "refuse", "(I)I"⟩, 47), (⟨"BundleLineModel", "isLine", "(I)Z"⟩, 47), (⟨"BundleLineModel", "step", "()V"⟩, 47), (⟨"BundleLineModel", "laying", "()V"⟩, 47)]
theorem lw_r2 : ∀ q ∈ lw_privs_2, lw_okq q := List.forall_mem_cons.mpr ⟨lw_p16, List.forall_mem_cons.mpr ⟨lw_p17, List.forall_mem_cons.mpr ⟨lw_p18, List.forall_mem_cons.mpr ⟨lw_p19, List.forall_mem_cons.mpr ⟨lw_p20, List.forall_mem_cons.mpr ⟨lw_p21, List.forall_mem_cons.mpr ⟨lw_p22, List.forall_mem_cons.mpr ⟨lw_p23, List.forall_mem_cons.mpr ⟨lw_p24, List.forall_mem_cons.mpr ⟨lw_p25, List.forall_mem_cons.mpr ⟨lw_p26, List.forall_mem_cons.mpr ⟨lw_p27, List.forall_mem_cons.mpr ⟨lw_p28, List.forall_mem_cons.mpr ⟨lw_p29, List.forall_mem_cons.mpr ⟨lw_p30, List.forall_mem_cons.mpr ⟨lw_p31, fun _ h => absurd h List.not_mem_nil⟩⟩⟩⟩⟩⟩⟩⟩⟩⟩⟩⟩⟩⟩⟩⟩
theorem lw_p32 : lw_okq (⟨"BundleLineModel", "bestLine", "(I)I"⟩, 47) := ⟨⟨by decide +kernel, by decide +kernel⟩, List.mem_of_getElem? (i := 613) (by decide +kernel), List.mem_of_getElem? (i := 818) (by decide +kernel), List.mem_of_getElem? (i := 819) (by decide +kernel)⟩
theorem lw_p33 : lw_okq (⟨"BundleLineModel", "isBetter", "(III)Z"⟩, 47) := ⟨⟨by decide +kernel, by decide +kernel⟩, List.mem_of_getElem? (i := 613) (by decide +kernel), List.mem_of_getElem? (i := 822) (by decide +kernel), List.mem_of_getElem? (i := 823) (by decide +kernel)⟩
theorem lw_p34 : lw_okq (⟨"BundleLineModel", "waiting", "(I)I"⟩, 47) := ⟨⟨by decide +kernel, by decide +kernel⟩, List.mem_of_getElem? (i := 613) (by decide +kernel), List.mem_of_getElem? (i := 826) (by decide +kernel), List.mem_of_getElem? (i := 827) (by decide +kernel)⟩
theorem lw_p35 : lw_okq (⟨"BundleLineModel", "sizeOf", "(I)I"⟩, 47) := ⟨⟨by decide +kernel, by decide +kernel⟩, List.mem_of_getElem? (i := 613) (by decide +kernel), List.mem_of_getElem? (i := 830) (by decide +kernel), List.mem_of_getElem? (i := 831) (by decide +kernel)⟩
theorem lw_p36 : lw_okq (⟨"BundleLineModel", "layOn", "(II)V"⟩, 47) := ⟨⟨by decide +kernel, by decide +kernel⟩, List.mem_of_getElem? (i := 613) (by decide +kernel), List.mem_of_getElem? (i := 834) (by decide +kernel), List.mem_of_getElem? (i := 835) (by decide +kernel)⟩
theorem lw_p37 : lw_okq (⟨"BundleLineModel", "sending", "(I)V"⟩, 47) := ⟨⟨by decide +kernel, by decide +kernel⟩, List.mem_of_getElem? (i := 613) (by decide +kernel), List.mem_of_getElem? (i := 839) (by decide +kernel), List.mem_of_getElem? (i := 840) (by decide +kernel)⟩
theorem lw_p38 : lw_okq (⟨"BundleLineModel", "allowed", "(I)I"⟩, 47) := ⟨⟨by decide +kernel, by decide +kernel⟩, List.mem_of_getElem? (i := 613) (by decide +kernel), List.mem_of_getElem? (i := 843) (by decide +kernel), List.mem_of_getElem? (i := 844) (by decide +kernel)⟩
theorem lw_p39 : lw_okq (⟨"BundleLineModel", "sendFirst", "(I)V"⟩, 47) := ⟨⟨by decide +kernel, by decide +kernel⟩, List.mem_of_getElem? (i := 613) (by decide +kernel), List.mem_of_getElem? (i := 847) (by decide +kernel), List.mem_of_getElem? (i := 848) (by decide +kernel)⟩
theorem lw_p40 : lw_okq (⟨"BundleLineModel", "coming", "(I)V"⟩, 47) := ⟨⟨by decide +kernel, by decide +kernel⟩, List.mem_of_getElem? (i := 613) (by decide +kernel), List.mem_of_getElem? (i := 851) (by decide +kernel), List.mem_of_getElem? (i := 852) (by decide +kernel)⟩
theorem lw_p41 : lw_okq (⟨"BundleLineModel", "comes", "(III)V"⟩, 47) := ⟨⟨by decide +kernel, by decide +kernel⟩, List.mem_of_getElem? (i := 613) (by decide +kernel), List.mem_of_getElem? (i := 855) (by decide +kernel), List.mem_of_getElem? (i := 856) (by decide +kernel)⟩
theorem lw_p42 : lw_okq (⟨"BundleLineModel", "lose", "(II)V"⟩, 47) := ⟨⟨by decide +kernel, by decide +kernel⟩, List.mem_of_getElem? (i := 613) (by decide +kernel), List.mem_of_getElem? (i := 859) (by decide +kernel), List.mem_of_getElem? (i := 860) (by decide +kernel)⟩
theorem lw_p43 : lw_okq (⟨"BundleLineModel", "isWhole", "(I)Z"⟩, 47) := ⟨⟨by decide +kernel, by decide +kernel⟩, List.mem_of_getElem? (i := 613) (by decide +kernel), List.mem_of_getElem? (i := 863) (by decide +kernel), List.mem_of_getElem? (i := 864) (by decide +kernel)⟩
theorem lw_p44 : lw_okq (⟨"BundleLineModel", "firstNot", "(II)I"⟩, 47) := ⟨⟨by decide +kernel, by decide +kernel⟩, List.mem_of_getElem? (i := 613) (by decide +kernel), List.mem_of_getElem? (i := 871) (by decide +kernel), List.mem_of_getElem? (i := 872) (by decide +kernel)⟩
theorem lw_p45 : lw_okq (⟨"BundleLineModel", "isPiece", "(I)Z"⟩, 47) := ⟨⟨by decide +kernel, by decide +kernel⟩, List.mem_of_getElem? (i := 613) (by decide +kernel), List.mem_of_getElem? (i := 895) (by decide +kernel), List.mem_of_getElem? (i := 896) (by decide +kernel)⟩
theorem lw_p46 : lw_okq (⟨"BundleLineModel", "sumOf", "(I)I"⟩, 47) := ⟨⟨by decide +kernel, by decide +kernel⟩, List.mem_of_getElem? (i := 613) (by decide +kernel), List.mem_of_getElem? (i := 899) (by decide +kernel), List.mem_of_getElem? (i := 900) (by decide +kernel)⟩
theorem lw_p47 : lw_okq (⟨"BundleLineModel", "isFrame", "(I)Z"⟩, 47) := ⟨⟨by decide +kernel, by decide +kernel⟩, List.mem_of_getElem? (i := 613) (by decide +kernel), List.mem_of_getElem? (i := 923) (by decide +kernel), List.mem_of_getElem? (i := 924) (by decide +kernel)⟩
def lw_privs_3 : List (MethodName × Nat) := [(⟨"BundleLineModel", "bestLine", "(I)I"⟩, 47), (⟨"BundleLineModel", "isBetter", "(III)Z"⟩, 47), (⟨"BundleLineModel", "waiting", "(I)I"⟩, 47), (⟨"BundleLineModel", "sizeOf", "(I)I"⟩, 47), (⟨"BundleLineModel", "layOn", "(II)V"⟩, 47), (⟨"BundleLineModel", "sending", "(I)V"⟩, 47), (⟨"BundleLineModel", "allowed", "(I)I"⟩, 47), (⟨"BundleLineModel", "sendFirst", "(I)V"⟩, 47), (⟨"BundleLineModel", "coming", "(I)V"⟩, 47), (⟨"BundleLineModel", "comes", "(III)V"⟩, 47), (⟨"BundleLineModel", "lose", "(II)V"⟩, 47), (⟨"BundleLineModel", "isWhole", "(I)Z"⟩, 47), (⟨"BundleLineModel", "firstNot", "(II)I"⟩, 47), (⟨"BundleLineModel", "isPiece", "(I)Z"⟩, 47), (⟨"BundleLineModel", "sumOf", "(I)I"⟩, 47), (⟨"BundleLineModel", "isFrame", "(I)Z"⟩, 47)]
theorem lw_r3 : ∀ q ∈ lw_privs_3, lw_okq q := List.forall_mem_cons.mpr ⟨lw_p32, List.forall_mem_cons.mpr ⟨lw_p33, List.forall_mem_cons.mpr ⟨lw_p34, List.forall_mem_cons.mpr ⟨lw_p35, List.forall_mem_cons.mpr ⟨lw_p36, List.forall_mem_cons.mpr ⟨lw_p37, List.forall_mem_cons.mpr ⟨lw_p38, List.forall_mem_cons.mpr ⟨lw_p39, List.forall_mem_cons.mpr ⟨lw_p40, List.forall_mem_cons.mpr ⟨lw_p41, List.forall_mem_cons.mpr ⟨lw_p42, List.forall_mem_cons.mpr ⟨lw_p43, List.forall_mem_cons.mpr ⟨lw_p44, List.forall_mem_cons.mpr ⟨lw_p45, List.forall_mem_cons.mpr ⟨lw_p46, List.forall_mem_cons.mpr ⟨lw_p47, fun _ h => absurd h List.not_mem_nil⟩⟩⟩⟩⟩⟩⟩⟩⟩⟩⟩⟩⟩⟩⟩⟩
theorem lw_p48 : lw_okq (⟨"BundleLineModel", "many", "(I)I"⟩, 47) := ⟨⟨by decide +kernel, by decide +kernel⟩, List.mem_of_getElem? (i := 613) (by decide +kernel), List.mem_of_getElem? (i := 948) (by decide +kernel), List.mem_of_getElem? (i := 949) (by decide +kernel)⟩
def lw_privs_4 : List (MethodName × Nat) := [(⟨"BundleLineModel", "many", "(I)I"⟩, 47)]
theorem lw_r4 : ∀ q ∈ lw_privs_4, lw_okq q := List.forall_mem_cons.mpr ⟨lw_p48, fun _ h => absurd h List.not_mem_nil⟩
def lw_privs : List (MethodName × Nat) := lw_privs_1 ++ (lw_privs_2 ++ (lw_privs_3 ++ (lw_privs_4)))
def lw_tbl : List Cond := k2_sels lw_privs ++ tables_1
theorem lw_privs_ok : ∀ q ∈ lw_privs, lw_okq q := by
  show ∀ q ∈ lw_privs_1 ++ (lw_privs_2 ++ (lw_privs_3 ++ (lw_privs_4))), lw_okq q
  exact List.forall_mem_append.mpr ⟨lw_r1, List.forall_mem_append.mpr ⟨lw_r2, List.forall_mem_append.mpr ⟨lw_r3, lw_r4⟩⟩⟩
/-! ===== BEGIN words of one list among another's, by their places ===== -/
theorem goodIn_r {big : List Cond} (ws : List Cond) (ps : List Nat) (hp : ws = ps.filterMap (fun i => big[i]?)) (h : ws.all goodWord = true) : GoodIn big ws := by
  intro w hw
  have h1 := List.all_eq_true.mp h w hw
  rw [hp] at hw
  obtain ⟨i, -, hi⟩ := List.mem_filterMap.mp hw
  have hm : w ∈ big := by first | exact List.mem_of_getElem? hi | exact List.getElem?_mem hi
  exact ⟨hm, good_of_word h1⟩
theorem goodIn_app {big a b : List Cond} (ha : GoodIn big a) (hb : GoodIn big b) : GoodIn big (a ++ b) := fun w h => (List.mem_append.mp h).elim (ha w) (hb w)
theorem goodIn_ca {big a b : List Cond} {c : Cond} (ha : GoodIn big (c :: a)) (hb : GoodIn big b) : GoodIn big (c :: (a ++ b)) := fun w h => (List.mem_cons.mp h).elim (fun e => ha w (List.mem_cons.mpr (Or.inl e))) (fun h => (List.mem_append.mp h).elim (fun h => ha w (List.mem_cons.mpr (Or.inr h))) (hb w))
theorem goodIn_sub {big ws : List Cond} (hm : ∀ w ∈ ws, w ∈ big) (h : ws.all goodWord = true) : GoodIn big ws := fun w hw => ⟨hm w hw, good_of_word (List.all_eq_true.mp h w hw)⟩
/-! ===== END ===== -/

/-! ===== BEGIN printed: names, fields, word lists, decode rows ===== -/
def RX0 : String := "BundleLine$Frame"
def TX0 : u_T := fun k => match k with
  | 0 => ("BundleLine$Frame", "bytes", "[B", true)
  | 1 => ("BundleLine$Frame", "size", "I", true)
  | 2 => ("BundleLine$Frame", "firstPiece", "I", true)
  | 3 => ("BundleLine$Frame", "row", "I", true)
  | 4 => ("BundleLine$Frame", "there", "I", false)
  | _ => ("BundleLine$Frame", "givenAt", "I", false)
def tyX0 : Nat → FieldType := fun k => match k with
  | 0 => .array .byte
  | 1 => .int
  | 2 => .int
  | 3 => .int
  | 4 => .int
  | _ => .int
abbrev wsX00 : List Cond := u_ws RX0 TX0 6
theorem nmX0 : ∀ a, a < 6 → ∀ b, b < 6 → a ≠ b → (TX0 a).2.1 ≠ (TX0 b).2.1 := by decide +kernel
theorem tyX0_ok : ∀ k, k < 6 → parseFieldDescriptor (TX0 k).2.2.1 = some (tyX0 k) := by decide +kernel
abbrev cX0_init : ByteArray := prog_2_method_1_code
def yX0_init : MethodName := ⟨RX0, "<init>", "([BII)V"⟩
abbrev cX0_byteAt : ByteArray := prog_2_method_2_code
def yX0_byteAt : MethodName := ⟨RX0, "byteAt", "(I)I"⟩
abbrev cX0_sumOf : ByteArray := prog_2_method_3_code
def yX0_sumOf : MethodName := ⟨RX0, "sumOf", "(II)I"⟩
def RX1 : String := "BundleLine$Line"
def TX1 : u_T := fun k => match k with
  | 0 => ("BundleLine$Line", "number", "I", true)
  | 1 => ("BundleLine$Line", "kind", "I", true)
  | 2 => ("BundleLine$Line", "speed", "I", true)
  | 3 => ("BundleLine$Line", "delay", "I", true)
  | 4 => ("BundleLine$Line", "queue", "LBundleLine$Queue;", true)
  | 5 => ("BundleLine$Line", "underWay", "LBundleLine$UnderWay;", true)
  | 6 => ("BundleLine$Line", "sent", "[I", true)
  | 7 => ("BundleLine$Line", "log", "[I", true)
  | 8 => ("BundleLine$Line", "isUp", "Z", false)
  | 9 => ("BundleLine$Line", "allowance", "I", false)
  | 10 => ("BundleLine$Line", "span", "I", false)
  | 11 => ("BundleLine$Line", "count", "I", false)
  | 12 => ("BundleLine$Line", "seen", "I", false)
  | 13 => ("BundleLine$Line", "carried", "I", false)
  | 14 => ("BundleLine$Line", "lostPieces", "I", false)
  | 15 => ("BundleLine$Line", "emptiesLaid", "I", false)
  | _ => ("BundleLine$Line", "refusedPieces", "I", false)
def tyX1 : Nat → FieldType := fun k => match k with
  | 0 => .int
  | 1 => .int
  | 2 => .int
  | 3 => .int
  | 4 => .object "BundleLine$Queue"
  | 5 => .object "BundleLine$UnderWay"
  | 6 => .array .int
  | 7 => .array .int
  | 8 => .boolean
  | 9 => .int
  | 10 => .int
  | 11 => .int
  | 12 => .int
  | 13 => .int
  | 14 => .int
  | 15 => .int
  | _ => .int
abbrev wsX10 : List Cond := u_ws RX1 TX1 17
theorem nmX1 : ∀ a, a < 17 → ∀ b, b < 17 → a ≠ b → (TX1 a).2.1 ≠ (TX1 b).2.1 := by decide +kernel
theorem tyX1_ok : ∀ k, k < 17 → parseFieldDescriptor (TX1 k).2.2.1 = some (tyX1 k) := by decide +kernel
abbrev cX1_init : ByteArray := prog_3_method_1_code
def yX1_init : MethodName := ⟨RX1, "<init>", "(IIII)V"⟩
abbrev cX1_takesMore : ByteArray := prog_3_method_2_code
def yX1_takesMore : MethodName := ⟨RX1, "takesMore", "()Z"⟩
abbrev cX1_restsUnheard : ByteArray := prog_3_method_3_code
def yX1_restsUnheard : MethodName := ⟨RX1, "restsUnheard", "()Z"⟩
abbrev cX1_ticksToSend : ByteArray := prog_3_method_4_code
def yX1_ticksToSend : MethodName := ⟨RX1, "ticksToSend", "(I)I"⟩
abbrev cX1_sentWith : ByteArray := prog_3_method_5_code
def yX1_sentWith : MethodName := ⟨RX1, "sentWith", "(I)I"⟩
abbrev cX1_sendAt : ByteArray := prog_3_method_6_code
def yX1_sendAt : MethodName := ⟨RX1, "sendAt", "(I)V"⟩
abbrev cX1_bytesFor : ByteArray := prog_3_method_7_code
def yX1_bytesFor : MethodName := ⟨RX1, "bytesFor", "(I)I"⟩
abbrev cX1_sendBytes : ByteArray := prog_3_method_8_code
def yX1_sendBytes : MethodName := ⟨RX1, "sendBytes", "(II)V"⟩
abbrev cX1_sendFirst : ByteArray := prog_3_method_9_code
def yX1_sendFirst : MethodName := ⟨RX1, "sendFirst", "(I)V"⟩
abbrev cX1_goDown : ByteArray := prog_3_method_10_code
def yX1_goDown : MethodName := ⟨RX1, "goDown", "()V"⟩
def RX2 : String := "BundleLine$Piece"
def TX2 : u_T := fun k => match k with
  | 0 => ("BundleLine$Piece", "frame", "I", true)
  | 1 => ("BundleLine$Piece", "size", "I", true)
  | 2 => ("BundleLine$Piece", "isLast", "Z", true)
  | 3 => ("BundleLine$Piece", "sum", "I", true)
  | 4 => ("BundleLine$Piece", "losses", "[I", true)
  | 5 => ("BundleLine$Piece", "state", "I", false)
  | 6 => ("BundleLine$Piece", "tries", "I", false)
  | _ => ("BundleLine$Piece", "line", "I", false)
def tyX2 : Nat → FieldType := fun k => match k with
  | 0 => .int
  | 1 => .int
  | 2 => .boolean
  | 3 => .int
  | 4 => .array .int
  | 5 => .int
  | 6 => .int
  | _ => .int
abbrev wsX20 : List Cond := u_ws RX2 TX2 8
theorem nmX2 : ∀ a, a < 8 → ∀ b, b < 8 → a ≠ b → (TX2 a).2.1 ≠ (TX2 b).2.1 := by decide +kernel
theorem tyX2_ok : ∀ k, k < 8 → parseFieldDescriptor (TX2 k).2.2.1 = some (tyX2 k) := by decide +kernel
abbrev cX2_init : ByteArray := prog_4_method_1_code
def yX2_init : MethodName := ⟨RX2, "<init>", "(IIZI)V"⟩
abbrev cX2_lossesOn : ByteArray := prog_4_method_2_code
def yX2_lossesOn : MethodName := ⟨RX2, "lossesOn", "(I)I"⟩
abbrev cX2_addLossOn : ByteArray := prog_4_method_3_code
def yX2_addLossOn : MethodName := ⟨RX2, "addLossOn", "(I)V"⟩
def RX3 : String := "BundleLine$Queue"
def TX3 : u_T := fun k => match k with
  | 0 => ("BundleLine$Queue", "numbers", "[I", true)
  | 1 => ("BundleLine$Queue", "sizes", "[I", true)
  | 2 => ("BundleLine$Queue", "head", "I", false)
  | 3 => ("BundleLine$Queue", "length", "I", false)
  | 4 => ("BundleLine$Queue", "waitingBytes", "I", false)
  | _ => ("BundleLine$Queue", "sentOfFirst", "I", false)
def tyX3 : Nat → FieldType := fun k => match k with
  | 0 => .array .int
  | 1 => .array .int
  | 2 => .int
  | 3 => .int
  | 4 => .int
  | _ => .int
abbrev wsX30 : List Cond := u_ws RX3 TX3 6
theorem nmX3 : ∀ a, a < 6 → ∀ b, b < 6 → a ≠ b → (TX3 a).2.1 ≠ (TX3 b).2.1 := by decide +kernel
theorem tyX3_ok : ∀ k, k < 6 → parseFieldDescriptor (TX3 k).2.2.1 = some (tyX3 k) := by decide +kernel
abbrev cX3_init : ByteArray := prog_5_method_1_code
def yX3_init : MethodName := ⟨RX3, "<init>", "()V"⟩
abbrev cX3_numberOf : ByteArray := prog_5_method_2_code
def yX3_numberOf : MethodName := ⟨RX3, "numberOf", "(I)I"⟩
abbrev cX3_add : ByteArray := prog_5_method_3_code
def yX3_add : MethodName := ⟨RX3, "add", "(II)V"⟩
abbrev cX3_restOfFirst : ByteArray := prog_5_method_4_code
def yX3_restOfFirst : MethodName := ⟨RX3, "restOfFirst", "()I"⟩
abbrev cX3_takeFromFirst : ByteArray := prog_5_method_5_code
def yX3_takeFromFirst : MethodName := ⟨RX3, "takeFromFirst", "(I)V"⟩
abbrev cX3_dropFirst : ByteArray := prog_5_method_6_code
def yX3_dropFirst : MethodName := ⟨RX3, "dropFirst", "()V"⟩
abbrev cX3_clear : ByteArray := prog_5_method_7_code
def yX3_clear : MethodName := ⟨RX3, "clear", "()V"⟩
def RX4 : String := "BundleLine$UnderWay"
def TX4 : u_T := fun k => match k with
  | 0 => ("BundleLine$UnderWay", "numbers", "[I", true)
  | 1 => ("BundleLine$UnderWay", "counts", "[I", true)
  | 2 => ("BundleLine$UnderWay", "comings", "[I", true)
  | 3 => ("BundleLine$UnderWay", "marks", "[I", true)
  | 4 => ("BundleLine$UnderWay", "head", "I", false)
  | _ => ("BundleLine$UnderWay", "length", "I", false)
def tyX4 : Nat → FieldType := fun k => match k with
  | 0 => .array .int
  | 1 => .array .int
  | 2 => .array .int
  | 3 => .array .int
  | 4 => .int
  | _ => .int
abbrev wsX40 : List Cond := u_ws RX4 TX4 6
theorem nmX4 : ∀ a, a < 6 → ∀ b, b < 6 → a ≠ b → (TX4 a).2.1 ≠ (TX4 b).2.1 := by decide +kernel
theorem tyX4_ok : ∀ k, k < 6 → parseFieldDescriptor (TX4 k).2.2.1 = some (tyX4 k) := by decide +kernel
abbrev cX4_init : ByteArray := prog_6_method_1_code
def yX4_init : MethodName := ⟨RX4, "<init>", "()V"⟩
abbrev cX4_numberOf : ByteArray := prog_6_method_2_code
def yX4_numberOf : MethodName := ⟨RX4, "numberOf", "(I)I"⟩
abbrev cX4_countOf : ByteArray := prog_6_method_3_code
def yX4_countOf : MethodName := ⟨RX4, "countOf", "(I)I"⟩
abbrev cX4_comingOf : ByteArray := prog_6_method_4_code
def yX4_comingOf : MethodName := ⟨RX4, "comingOf", "(I)I"⟩
abbrev cX4_marksOf : ByteArray := prog_6_method_5_code
def yX4_marksOf : MethodName := ⟨RX4, "marksOf", "(I)I"⟩
abbrev cX4_add : ByteArray := prog_6_method_6_code
def yX4_add : MethodName := ⟨RX4, "add", "(III)V"⟩
abbrev cX4_hasComeAt : ByteArray := prog_6_method_7_code
def yX4_hasComeAt : MethodName := ⟨RX4, "hasComeAt", "(I)Z"⟩
abbrev cX4_dropFirst : ByteArray := prog_6_method_8_code
def yX4_dropFirst : MethodName := ⟨RX4, "dropFirst", "()V"⟩
abbrev cX4_firstWithout : ByteArray := prog_6_method_9_code
def yX4_firstWithout : MethodName := ⟨RX4, "firstWithout", "(I)I"⟩
abbrev cX4_mark : ByteArray := prog_6_method_10_code
def yX4_mark : MethodName := ⟨RX4, "mark", "(II)V"⟩
abbrev cX4_clear : ByteArray := prog_6_method_11_code
def yX4_clear : MethodName := ⟨RX4, "clear", "()V"⟩
def RX5 : String := "BundleLine"
def TX5 : u_T := fun k => match k with
  | 0 => ("BundleLine", "lines", "[LBundleLine$Line;", true)
  | 1 => ("BundleLine", "lineCount", "I", false)
  | 2 => ("BundleLine", "frames", "[LBundleLine$Frame;", true)
  | 3 => ("BundleLine", "frameCount", "I", false)
  | 4 => ("BundleLine", "givenFrames", "I", false)
  | 5 => ("BundleLine", "givenPieces", "I", false)
  | 6 => ("BundleLine", "givenBytes", "I", false)
  | 7 => ("BundleLine", "pieces", "[LBundleLine$Piece;", true)
  | 8 => ("BundleLine", "pieceCount", "I", false)
  | 9 => ("BundleLine", "firstNew", "I", false)
  | 10 => ("BundleLine", "inState", "[I", true)
  | 11 => ("BundleLine", "tray", "[B", true)
  | 12 => ("BundleLine", "trayLength", "I", false)
  | 13 => ("BundleLine", "cutSize", "I", false)
  | 14 => ("BundleLine", "roomSize", "I", false)
  | 15 => ("BundleLine", "heldBytes", "I", false)
  | 16 => ("BundleLine", "time", "I", false)
  | _ => ("BundleLine", "refusals", "[I", true)
def tyX5 : Nat → FieldType := fun k => match k with
  | 0 => .array (.object "BundleLine$Line")
  | 1 => .int
  | 2 => .array (.object "BundleLine$Frame")
  | 3 => .int
  | 4 => .int
  | 5 => .int
  | 6 => .int
  | 7 => .array (.object "BundleLine$Piece")
  | 8 => .int
  | 9 => .int
  | 10 => .array .int
  | 11 => .array .byte
  | 12 => .int
  | 13 => .int
  | 14 => .int
  | 15 => .int
  | 16 => .int
  | _ => .array .int
abbrev wsX50 : List Cond := u_ws RX5 TX5 18
theorem nmX5 : ∀ a, a < 18 → ∀ b, b < 18 → a ≠ b → (TX5 a).2.1 ≠ (TX5 b).2.1 := by decide +kernel
theorem tyX5_ok : ∀ k, k < 18 → parseFieldDescriptor (TX5 k).2.2.1 = some (tyX5 k) := by decide +kernel
abbrev cX5_init : ByteArray := prog_1_method_1_code
def yX5_init : MethodName := ⟨RX5, "<init>", "()V"⟩
abbrev cX5_open : ByteArray := prog_1_method_2_code
def yX5_open : MethodName := ⟨RX5, "open", "(III)I"⟩
abbrev cX5_lease : ByteArray := prog_1_method_3_code
def yX5_lease : MethodName := ⟨RX5, "lease", "(III)I"⟩
abbrev cX5_type : ByteArray := prog_1_method_4_code
def yX5_type : MethodName := ⟨RX5, "type", "(JI)I"⟩
abbrev cX5_grow : ByteArray := prog_1_method_5_code
def yX5_grow : MethodName := ⟨RX5, "grow", "(I)I"⟩
abbrev cX5_frame : ByteArray := prog_1_method_6_code
def yX5_frame : MethodName := ⟨RX5, "frame", "()I"⟩
abbrev cX5_piecesOf : ByteArray := prog_1_method_7_code
def yX5_piecesOf : MethodName := ⟨RX5, "piecesOf", "(I)I"⟩
abbrev cX5_cutIntoPieces : ByteArray := prog_1_method_8_code
def yX5_cutIntoPieces : MethodName := ⟨RX5, "cutIntoPieces", "(LBundleLine$Frame;)V"⟩
abbrev cX5_cut : ByteArray := prog_1_method_9_code
def yX5_cut : MethodName := ⟨RX5, "cut", "(I)I"⟩
abbrev cX5_room : ByteArray := prog_1_method_10_code
def yX5_room : MethodName := ⟨RX5, "room", "(I)I"⟩
abbrev cX5_tick : ByteArray := prog_1_method_11_code
def yX5_tick : MethodName := ⟨RX5, "tick", "(I)I"⟩
abbrev cX5_layLostPieces : ByteArray := prog_1_method_12_code
def yX5_layLostPieces : MethodName := ⟨RX5, "layLostPieces", "()V"⟩
abbrev cX5_layNewPieces : ByteArray := prog_1_method_13_code
def yX5_layNewPieces : MethodName := ⟨RX5, "layNewPieces", "()V"⟩
abbrev cX5_lineFor : ByteArray := prog_1_method_14_code
def yX5_lineFor : MethodName := ⟨RX5, "lineFor", "(LBundleLine$Piece;)LBundleLine$Line;"⟩
abbrev cX5_isBetter : ByteArray := prog_1_method_15_code
def yX5_isBetter : MethodName := ⟨RX5, "isBetter", "(LBundleLine$Line;LBundleLine$Line;LBundleLine$Piece;)Z"⟩
abbrev cX5_layOn : ByteArray := prog_1_method_16_code
def yX5_layOn : MethodName := ⟨RX5, "layOn", "(LBundleLine$Line;ILBundleLine$Piece;)V"⟩
abbrev cX5_sendOnLines : ByteArray := prog_1_method_17_code
def yX5_sendOnLines : MethodName := ⟨RX5, "sendOnLines", "()V"⟩
abbrev cX5_takeWhatComes : ByteArray := prog_1_method_18_code
def yX5_takeWhatComes : MethodName := ⟨RX5, "takeWhatComes", "()V"⟩
abbrev cX5_takeFrom : ByteArray := prog_1_method_19_code
def yX5_takeFrom : MethodName := ⟨RX5, "takeFrom", "(LBundleLine$Line;)V"⟩
abbrev cX5_arrive : ByteArray := prog_1_method_20_code
def yX5_arrive : MethodName := ⟨RX5, "arrive", "(I)V"⟩
abbrev cX5_loseUpTo : ByteArray := prog_1_method_21_code
def yX5_loseUpTo : MethodName := ⟨RX5, "loseUpTo", "(LBundleLine$Line;I)V"⟩
abbrev cX5_loseOn : ByteArray := prog_1_method_22_code
def yX5_loseOn : MethodName := ⟨RX5, "loseOn", "(LBundleLine$Line;I)V"⟩
abbrev cX5_giveFrames : ByteArray := prog_1_method_23_code
def yX5_giveFrames : MethodName := ⟨RX5, "giveFrames", "()V"⟩
abbrev cX5_restLines : ByteArray := prog_1_method_24_code
def yX5_restLines : MethodName := ⟨RX5, "restLines", "()V"⟩
abbrev cX5_become : ByteArray := prog_1_method_25_code
def yX5_become : MethodName := ⟨RX5, "become", "(LBundleLine$Piece;I)V"⟩
abbrev cX5_countInState : ByteArray := prog_1_method_26_code
def yX5_countInState : MethodName := ⟨RX5, "countInState", "(II)V"⟩
abbrev cX5_lose : ByteArray := prog_1_method_27_code
def yX5_lose : MethodName := ⟨RX5, "lose", "(I)I"⟩
abbrev cX5_bend : ByteArray := prog_1_method_28_code
def yX5_bend : MethodName := ⟨RX5, "bend", "(III)I"⟩
abbrev cX5_fall : ByteArray := prog_1_method_29_code
def yX5_fall : MethodName := ⟨RX5, "fall", "(I)I"⟩
abbrev cX5_rise : ByteArray := prog_1_method_30_code
def yX5_rise : MethodName := ⟨RX5, "rise", "(I)I"⟩
abbrev cX5_line : ByteArray := prog_1_method_31_code
def yX5_line : MethodName := ⟨RX5, "line", "(II)I"⟩
abbrev cX5_piece : ByteArray := prog_1_method_32_code
def yX5_piece : MethodName := ⟨RX5, "piece", "(II)I"⟩
abbrev cX5_lostOn : ByteArray := prog_1_method_33_code
def yX5_lostOn : MethodName := ⟨RX5, "lostOn", "(II)I"⟩
abbrev cX5_queued : ByteArray := prog_1_method_34_code
def yX5_queued : MethodName := ⟨RX5, "queued", "(II)I"⟩
abbrev cX5_under : ByteArray := prog_1_method_35_code
def yX5_under : MethodName := ⟨RX5, "under", "(III)I"⟩
abbrev cX5_waits : ByteArray := prog_1_method_36_code
def yX5_waits : MethodName := ⟨RX5, "waits", "(I)I"⟩
abbrev cX5_lostPieceAt : ByteArray := prog_1_method_37_code
def yX5_lostPieceAt : MethodName := ⟨RX5, "lostPieceAt", "(I)I"⟩
abbrev cX5_got : ByteArray := prog_1_method_38_code
def yX5_got : MethodName := ⟨RX5, "got", "(II)I"⟩
abbrev cX5_frameOf : ByteArray := prog_1_method_39_code
def yX5_frameOf : MethodName := ⟨RX5, "frameOf", "(II)I"⟩
abbrev cX5_credit : ByteArray := prog_1_method_40_code
def yX5_credit : MethodName := ⟨RX5, "credit", "()I"⟩
abbrev cX5_skew : ByteArray := prog_1_method_41_code
def yX5_skew : MethodName := ⟨RX5, "skew", "()I"⟩
abbrev cX5_witness : ByteArray := prog_1_method_42_code
def yX5_witness : MethodName := ⟨RX5, "witness", "(II)I"⟩
abbrev cX5_check : ByteArray := prog_1_method_43_code
def yX5_check : MethodName := ⟨RX5, "check", "(II)Z"⟩
abbrev cX5_witnessOf : ByteArray := prog_1_method_44_code
def yX5_witnessOf : MethodName := ⟨RX5, "witnessOf", "(I)I"⟩
abbrev cX5_status : ByteArray := prog_1_method_45_code
def yX5_status : MethodName := ⟨RX5, "status", "(I)I"⟩
abbrev cX5_allEmptiesLaid : ByteArray := prog_1_method_46_code
def yX5_allEmptiesLaid : MethodName := ⟨RX5, "allEmptiesLaid", "()I"⟩
abbrev cX5_refusalsOf : ByteArray := prog_1_method_47_code
def yX5_refusalsOf : MethodName := ⟨RX5, "refusalsOf", "(I)I"⟩
abbrev cX5_refuse : ByteArray := prog_1_method_48_code
def yX5_refuse : MethodName := ⟨RX5, "refuse", "(I)I"⟩
abbrev cX5_creditLeft : ByteArray := prog_1_method_49_code
def yX5_creditLeft : MethodName := ⟨RX5, "creditLeft", "()I"⟩
abbrev cX5_lineAt : ByteArray := prog_1_method_50_code
def yX5_lineAt : MethodName := ⟨RX5, "lineAt", "(I)LBundleLine$Line;"⟩
abbrev cX5_frameAt : ByteArray := prog_1_method_51_code
def yX5_frameAt : MethodName := ⟨RX5, "frameAt", "(I)LBundleLine$Frame;"⟩
abbrev cX5_pieceAt : ByteArray := prog_1_method_52_code
def yX5_pieceAt : MethodName := ⟨RX5, "pieceAt", "(I)LBundleLine$Piece;"⟩
def RX6 : String := "BundleLineModel"
def TX6 : u_T := fun k => match k with
  | 0 => ("BundleLineModel", "lines", "I", false)
  | 1 => ("BundleLineModel", "kind", "[I", true)
  | 2 => ("BundleLineModel", "speed", "[I", true)
  | 3 => ("BundleLineModel", "delay", "[I", true)
  | 4 => ("BundleLineModel", "up", "[Z", true)
  | 5 => ("BundleLineModel", "allowance", "[I", true)
  | 6 => ("BundleLineModel", "span", "[I", true)
  | 7 => ("BundleLineModel", "queue", "[I", true)
  | 8 => ("BundleLineModel", "queued", "[I", true)
  | 9 => ("BundleLineModel", "sent", "[I", true)
  | 10 => ("BundleLineModel", "underPiece", "[I", true)
  | 11 => ("BundleLineModel", "underCount", "[I", true)
  | 12 => ("BundleLineModel", "underTime", "[I", true)
  | 13 => ("BundleLineModel", "underHow", "[I", true)
  | 14 => ("BundleLineModel", "firstUnder", "[I", true)
  | 15 => ("BundleLineModel", "under", "[I", true)
  | 16 => ("BundleLineModel", "count", "[I", true)
  | 17 => ("BundleLineModel", "seen", "[I", true)
  | 18 => ("BundleLineModel", "carried", "[I", true)
  | 19 => ("BundleLineModel", "lostBy", "[I", true)
  | 20 => ("BundleLineModel", "empties", "[I", true)
  | 21 => ("BundleLineModel", "refusedBy", "[I", true)
  | 22 => ("BundleLineModel", "inTick", "[I", true)
  | 23 => ("BundleLineModel", "pieces", "I", false)
  | 24 => ("BundleLineModel", "state", "[I", true)
  | 25 => ("BundleLineModel", "frameOf", "[I", true)
  | 26 => ("BundleLineModel", "from", "[I", true)
  | 27 => ("BundleLineModel", "size", "[I", true)
  | 28 => ("BundleLineModel", "tries", "[I", true)
  | 29 => ("BundleLineModel", "lineOf", "[I", true)
  | 30 => ("BundleLineModel", "countOf", "[I", true)
  | 31 => ("BundleLineModel", "lostOn", "[I", true)
  | 32 => ("BundleLineModel", "frames", "I", false)
  | 33 => ("BundleLineModel", "given", "I", false)
  | 34 => ("BundleLineModel", "bytesOf", "[I", true)
  | 35 => ("BundleLineModel", "firstPiece", "[I", true)
  | 36 => ("BundleLineModel", "piecesOf", "[I", true)
  | 37 => ("BundleLineModel", "givenAt", "[I", true)
  | 38 => ("BundleLineModel", "frameBegin", "[I", true)
  | 39 => ("BundleLineModel", "bytes", "[B", true)
  | 40 => ("BundleLineModel", "filled", "I", false)
  | 41 => ("BundleLineModel", "tray", "[B", true)
  | 42 => ("BundleLineModel", "trayed", "I", false)
  | 43 => ("BundleLineModel", "cut", "I", false)
  | 44 => ("BundleLineModel", "room", "I", false)
  | 45 => ("BundleLineModel", "time", "I", false)
  | _ => ("BundleLineModel", "refused", "[I", true)
def tyX6 : Nat → FieldType := fun k => match k with
  | 0 => .int
  | 1 => .array .int
  | 2 => .array .int
  | 3 => .array .int
  | 4 => .array .boolean
  | 5 => .array .int
  | 6 => .array .int
  | 7 => .array .int
  | 8 => .array .int
  | 9 => .array .int
  | 10 => .array .int
  | 11 => .array .int
  | 12 => .array .int
  | 13 => .array .int
  | 14 => .array .int
  | 15 => .array .int
  | 16 => .array .int
  | 17 => .array .int
  | 18 => .array .int
  | 19 => .array .int
  | 20 => .array .int
  | 21 => .array .int
  | 22 => .array .int
  | 23 => .int
  | 24 => .array .int
  | 25 => .array .int
  | 26 => .array .int
  | 27 => .array .int
  | 28 => .array .int
  | 29 => .array .int
  | 30 => .array .int
  | 31 => .array .int
  | 32 => .int
  | 33 => .int
  | 34 => .array .int
  | 35 => .array .int
  | 36 => .array .int
  | 37 => .array .int
  | 38 => .array .int
  | 39 => .array .byte
  | 40 => .int
  | 41 => .array .byte
  | 42 => .int
  | 43 => .int
  | 44 => .int
  | 45 => .int
  | _ => .array .int
abbrev wsX60 : List Cond := u_ws RX6 TX6 47
theorem nmX6 : ∀ a, a < 47 → ∀ b, b < 47 → a ≠ b → (TX6 a).2.1 ≠ (TX6 b).2.1 := by decide +kernel
theorem tyX6_ok : ∀ k, k < 47 → parseFieldDescriptor (TX6 k).2.2.1 = some (tyX6 k) := by decide +kernel
abbrev cX6_init : ByteArray := prog_8_method_1_code
def yX6_init : MethodName := ⟨RX6, "<init>", "()V"⟩
abbrev cX6_in : ByteArray := prog_8_method_3_code
def yX6_in : MethodName := ⟨RX6, "in", "(III)Z"⟩
abbrev cX6_refuse : ByteArray := prog_8_method_4_code
def yX6_refuse : MethodName := ⟨RX6, "refuse", "(I)I"⟩
abbrev cX6_isLine : ByteArray := prog_8_method_5_code
def yX6_isLine : MethodName := ⟨RX6, "isLine", "(I)Z"⟩
abbrev cX6_open : ByteArray := prog_8_method_6_code
def yX6_open : MethodName := ⟨RX6, "open", "(III)I"⟩
abbrev cX6_lease : ByteArray := prog_8_method_7_code
def yX6_lease : MethodName := ⟨RX6, "lease", "(III)I"⟩
abbrev cX6_type : ByteArray := prog_8_method_8_code
def yX6_type : MethodName := ⟨RX6, "type", "(JI)I"⟩
abbrev cX6_grow : ByteArray := prog_8_method_9_code
def yX6_grow : MethodName := ⟨RX6, "grow", "(I)I"⟩
abbrev cX6_frame : ByteArray := prog_8_method_10_code
def yX6_frame : MethodName := ⟨RX6, "frame", "()I"⟩
abbrev cX6_cut : ByteArray := prog_8_method_11_code
def yX6_cut : MethodName := ⟨RX6, "cut", "(I)I"⟩
abbrev cX6_room : ByteArray := prog_8_method_12_code
def yX6_room : MethodName := ⟨RX6, "room", "(I)I"⟩
abbrev cX6_sumOf : ByteArray := prog_8_method_13_code
def yX6_sumOf : MethodName := ⟨RX6, "sumOf", "(I)I"⟩
abbrev cX6_credit : ByteArray := prog_8_method_14_code
def yX6_credit : MethodName := ⟨RX6, "credit", "()I"⟩
abbrev cX6_sizeOf : ByteArray := prog_8_method_15_code
def yX6_sizeOf : MethodName := ⟨RX6, "sizeOf", "(I)I"⟩
abbrev cX6_waiting : ByteArray := prog_8_method_16_code
def yX6_waiting : MethodName := ⟨RX6, "waiting", "(I)I"⟩
abbrev cX6_lose : ByteArray := prog_8_method_17_code
def yX6_lose : MethodName := ⟨RX6, "lose", "(II)V"⟩
abbrev cX6_isBetter : ByteArray := prog_8_method_18_code
def yX6_isBetter : MethodName := ⟨RX6, "isBetter", "(III)Z"⟩
abbrev cX6_bestLine : ByteArray := prog_8_method_19_code
def yX6_bestLine : MethodName := ⟨RX6, "bestLine", "(I)I"⟩
abbrev cX6_layOn : ByteArray := prog_8_method_20_code
def yX6_layOn : MethodName := ⟨RX6, "layOn", "(II)V"⟩
abbrev cX6_laying : ByteArray := prog_8_method_21_code
def yX6_laying : MethodName := ⟨RX6, "laying", "()V"⟩
abbrev cX6_allowed : ByteArray := prog_8_method_22_code
def yX6_allowed : MethodName := ⟨RX6, "allowed", "(I)I"⟩
abbrev cX6_sendFirst : ByteArray := prog_8_method_23_code
def yX6_sendFirst : MethodName := ⟨RX6, "sendFirst", "(I)V"⟩
abbrev cX6_sending : ByteArray := prog_8_method_24_code
def yX6_sending : MethodName := ⟨RX6, "sending", "(I)V"⟩
abbrev cX6_coming : ByteArray := prog_8_method_25_code
def yX6_coming : MethodName := ⟨RX6, "coming", "(I)V"⟩
abbrev cX6_comes : ByteArray := prog_8_method_26_code
def yX6_comes : MethodName := ⟨RX6, "comes", "(III)V"⟩
abbrev cX6_isWhole : ByteArray := prog_8_method_27_code
def yX6_isWhole : MethodName := ⟨RX6, "isWhole", "(I)Z"⟩
abbrev cX6_step : ByteArray := prog_8_method_28_code
def yX6_step : MethodName := ⟨RX6, "step", "()V"⟩
abbrev cX6_tick : ByteArray := prog_8_method_29_code
def yX6_tick : MethodName := ⟨RX6, "tick", "(I)I"⟩
abbrev cX6_firstNot : ByteArray := prog_8_method_30_code
def yX6_firstNot : MethodName := ⟨RX6, "firstNot", "(II)I"⟩
abbrev cX6_lose_ : ByteArray := prog_8_method_31_code
def yX6_lose_ : MethodName := ⟨RX6, "lose", "(I)I"⟩
abbrev cX6_bend : ByteArray := prog_8_method_32_code
def yX6_bend : MethodName := ⟨RX6, "bend", "(III)I"⟩
abbrev cX6_fall : ByteArray := prog_8_method_33_code
def yX6_fall : MethodName := ⟨RX6, "fall", "(I)I"⟩
abbrev cX6_rise : ByteArray := prog_8_method_34_code
def yX6_rise : MethodName := ⟨RX6, "rise", "(I)I"⟩
abbrev cX6_line : ByteArray := prog_8_method_35_code
def yX6_line : MethodName := ⟨RX6, "line", "(II)I"⟩
abbrev cX6_isPiece : ByteArray := prog_8_method_36_code
def yX6_isPiece : MethodName := ⟨RX6, "isPiece", "(I)Z"⟩
abbrev cX6_piece : ByteArray := prog_8_method_37_code
def yX6_piece : MethodName := ⟨RX6, "piece", "(II)I"⟩
abbrev cX6_lostOn : ByteArray := prog_8_method_38_code
def yX6_lostOn : MethodName := ⟨RX6, "lostOn", "(II)I"⟩
abbrev cX6_queued : ByteArray := prog_8_method_39_code
def yX6_queued : MethodName := ⟨RX6, "queued", "(II)I"⟩
abbrev cX6_under : ByteArray := prog_8_method_40_code
def yX6_under : MethodName := ⟨RX6, "under", "(III)I"⟩
abbrev cX6_waits : ByteArray := prog_8_method_41_code
def yX6_waits : MethodName := ⟨RX6, "waits", "(I)I"⟩
abbrev cX6_isFrame : ByteArray := prog_8_method_42_code
def yX6_isFrame : MethodName := ⟨RX6, "isFrame", "(I)Z"⟩
abbrev cX6_got : ByteArray := prog_8_method_43_code
def yX6_got : MethodName := ⟨RX6, "got", "(II)I"⟩
abbrev cX6_frameOf : ByteArray := prog_8_method_44_code
def yX6_frameOf : MethodName := ⟨RX6, "frameOf", "(II)I"⟩
abbrev cX6_skew : ByteArray := prog_8_method_45_code
def yX6_skew : MethodName := ⟨RX6, "skew", "()I"⟩
abbrev cX6_witness : ByteArray := prog_8_method_46_code
def yX6_witness : MethodName := ⟨RX6, "witness", "(II)I"⟩
abbrev cX6_check : ByteArray := prog_8_method_47_code
def yX6_check : MethodName := ⟨RX6, "check", "(II)Z"⟩
abbrev cX6_many : ByteArray := prog_8_method_48_code
def yX6_many : MethodName := ⟨RX6, "many", "(I)I"⟩
abbrev cX6_status : ByteArray := prog_8_method_49_code
def yX6_status : MethodName := ⟨RX6, "status", "(I)I"⟩
def RJx8e188 : String := "java/lang/Cloneable"
def TJx8e188 : u_T := fun k => match k with
  | _ => ("", "", "", false)
def tyJx8e188 : Nat → FieldType := fun k => match k with
  | _ => .int
abbrev wsJx8e1880 : List Cond := u_ws RJx8e188 TJx8e188 0
theorem nmJx8e188 : ∀ a, a < 0 → ∀ b, b < 0 → a ≠ b → (TJx8e188 a).2.1 ≠ (TJx8e188 b).2.1 := by decide +kernel
theorem tyJx8e188_ok : ∀ k, k < 0 → parseFieldDescriptor (TJx8e188 k).2.2.1 = some (tyJx8e188 k) := by decide +kernel
def RJ9 : String := "java/lang/Math"
def TJ9 : u_T := fun k => match k with
  | _ => ("", "", "", false)
def tyJ9 : Nat → FieldType := fun k => match k with
  | _ => .int
abbrev wsJ90 : List Cond := u_ws RJ9 TJ9 0
theorem nmJ9 : ∀ a, a < 0 → ∀ b, b < 0 → a ≠ b → (TJ9 a).2.1 ≠ (TJ9 b).2.1 := by decide +kernel
theorem tyJ9_ok : ∀ k, k < 0 → parseFieldDescriptor (TJ9 k).2.2.1 = some (tyJ9 k) := by decide +kernel
abbrev cJ9_min_7cf53 : ByteArray := prog_10_method_69_code
def yJ9_min_7cf53 : MethodName := ⟨RJ9, "min", "(II)I"⟩
def RJ10 : String := "java/lang/System"
def TJ10 : u_T := fun k => match k with
  | _ => ("", "", "", false)
def tyJ10 : Nat → FieldType := fun k => match k with
  | _ => .int
abbrev wsJ100 : List Cond := u_ws RJ10 TJ10 0
theorem nmJ10 : ∀ a, a < 0 → ∀ b, b < 0 → a ≠ b → (TJ10 a).2.1 ≠ (TJ10 b).2.1 := by decide +kernel
theorem tyJ10_ok : ∀ k, k < 0 → parseFieldDescriptor (TJ10 k).2.2.1 = some (tyJ10 k) := by decide +kernel
def RJ7 : String := "java/util/Arrays"
def TJ7 : u_T := fun k => match k with
  | _ => ("", "", "", false)
def tyJ7 : Nat → FieldType := fun k => match k with
  | _ => .int
abbrev wsJ70 : List Cond := u_ws RJ7 TJ7 0
theorem nmJ7 : ∀ a, a < 0 → ∀ b, b < 0 → a ≠ b → (TJ7 a).2.1 ≠ (TJ7 b).2.1 := by decide +kernel
theorem tyJ7_ok : ∀ k, k < 0 → parseFieldDescriptor (TJ7 k).2.2.1 = some (tyJ7 k) := by decide +kernel
abbrev cJ7_copyOf_9075b : ByteArray := prog_12_method_121_code
def yJ7_copyOf_9075b : MethodName := ⟨RJ7, "copyOf", "([BI)[B"⟩
def RL : String := "BundleLineLaw"
abbrev cL_law : ByteArray := code
def yL_law : MethodName := ⟨RL, "law", "([I)Z"⟩
abbrev vwCl : List vw_C := [(RX0, TX0, 6), (RX1, TX1, 17), (RX2, TX2, 8), (RX3, TX3, 6), (RX4, TX4, 6), (RX5, TX5, 18), (RX6, TX6, 47)]
