/-! Our tables tied to the claim's words: names, code, links (written by a program). -/
def mc_ynm : List MethodName := [yX0_init, yX0_byteAt, yX0_sumOf, yX1_init, yX1_takesMore, yX1_restsUnheard, yX1_ticksToSend, yX1_sentWith, yX1_sendAt, yX1_bytesFor, yX1_sendBytes, yX1_sendFirst, yX1_goDown, yX2_init, yX2_lossesOn, yX2_addLossOn, yX3_init, yX3_numberOf, yX3_add, yX3_restOfFirst, yX3_takeFromFirst, yX3_dropFirst, yX3_clear, yX4_init, yX4_numberOf, yX4_countOf, yX4_comingOf, yX4_marksOf, yX4_add, yX4_hasComeAt, yX4_dropFirst, yX4_firstWithout, yX4_mark, yX4_clear, yX5_init, yX5_open, yX5_lease, yX5_type, yX5_grow, yX5_frame, yX5_cutIntoPieces, yX5_cut, yX5_room, yX5_tick, yX5_layLostPieces, yX5_layNewPieces, yX5_lineFor, yX5_isBetter, yX5_layOn, yX5_sendOnLines, yX5_takeWhatComes, yX5_takeFrom, yX5_arrive, yX5_loseUpTo, yX5_loseOn, yX5_giveFrames, yX5_restLines, yX5_become, yX5_lose, yX5_bend, yX5_fall, yX5_rise, yX5_line, yX5_piece, yX5_lostOn, yX5_queued, yX5_under, yX5_waits, yX5_lostPieceAt, yX5_got, yX5_frameOf, yX5_credit, yX5_skew, yX5_witness, yX5_check, yX5_witnessOf, yX5_status, yX5_allEmptiesLaid, yX5_refusalsOf, yX5_refuse, yX5_creditLeft, yX5_lineAt, yX5_frameAt, yX5_pieceAt, yX6_init, yX6_in, yX6_refuse, yX6_isLine, yX6_open, yX6_lease, yX6_type, yX6_grow, yX6_frame, yX6_cut, yX6_room, yX6_sumOf, yX6_credit, yX6_sizeOf, yX6_waiting, yX6_lose, yX6_isBetter, yX6_bestLine, yX6_layOn, yX6_laying, yX6_allowed, yX6_sendFirst, yX6_sending, yX6_coming, yX6_comes, yX6_isWhole, yX6_step, yX6_tick, yX6_firstNot, yX6_lose_, yX6_bend, yX6_fall, yX6_rise, yX6_line, yX6_isPiece, yX6_piece, yX6_lostOn, yX6_queued, yX6_under, yX6_waits, yX6_isFrame, yX6_got, yX6_frameOf, yX6_skew, yX6_witness, yX6_check, yX6_many, yX6_status, yJ7_copyOf_9075b, yX5_piecesOf, yX5_countInState, yL_law]
def mc_yby : List ByteArray := [cX0_init, cX0_byteAt, cX0_sumOf, cX1_init, cX1_takesMore, cX1_restsUnheard, cX1_ticksToSend, cX1_sentWith, cX1_sendAt, cX1_bytesFor, cX1_sendBytes, cX1_sendFirst, cX1_goDown, cX2_init, cX2_lossesOn, cX2_addLossOn, cX3_init, cX3_numberOf, cX3_add, cX3_restOfFirst, cX3_takeFromFirst, cX3_dropFirst, cX3_clear, cX4_init, cX4_numberOf, cX4_countOf, cX4_comingOf, cX4_marksOf, cX4_add, cX4_hasComeAt, cX4_dropFirst, cX4_firstWithout, cX4_mark, cX4_clear, cX5_init, cX5_open, cX5_lease, cX5_type, cX5_grow, cX5_frame, cX5_cutIntoPieces, cX5_cut, cX5_room, cX5_tick, cX5_layLostPieces, cX5_layNewPieces, cX5_lineFor, cX5_isBetter, cX5_layOn, cX5_sendOnLines, cX5_takeWhatComes, cX5_takeFrom, cX5_arrive, cX5_loseUpTo, cX5_loseOn, cX5_giveFrames, cX5_restLines, cX5_become, cX5_lose, cX5_bend, cX5_fall, cX5_rise, cX5_line, cX5_piece, cX5_lostOn, cX5_queued, cX5_under, cX5_waits, cX5_lostPieceAt, cX5_got, cX5_frameOf, cX5_credit, cX5_skew, cX5_witness, cX5_check, cX5_witnessOf, cX5_status, cX5_allEmptiesLaid, cX5_refusalsOf, cX5_refuse, cX5_creditLeft, cX5_lineAt, cX5_frameAt, cX5_pieceAt, cX6_init, cX6_in, cX6_refuse, cX6_isLine, cX6_open, cX6_lease, cX6_type, cX6_grow, cX6_frame, cX6_cut, cX6_room, cX6_sumOf, cX6_credit, cX6_sizeOf, cX6_waiting, cX6_lose, cX6_isBetter, cX6_bestLine, cX6_layOn, cX6_laying, cX6_allowed, cX6_sendFirst, cX6_sending, cX6_coming, cX6_comes, cX6_isWhole, cX6_step, cX6_tick, cX6_firstNot, cX6_lose_, cX6_bend, cX6_fall, cX6_rise, cX6_line, cX6_isPiece, cX6_piece, cX6_lostOn, cX6_queued, cX6_under, cX6_waits, cX6_isFrame, cX6_got, cX6_frameOf, cX6_skew, cX6_witness, cX6_check, cX6_many, cX6_status, cJ7_copyOf_9075b, cX5_piecesOf, cX5_countInState, cL_law]
def mc_yrt : List (Option FieldType) := [none, (some .int), (some .int), none, (some .boolean), (some .boolean), (some .int), (some .int), none, (some .int), none, none, none, none, (some .int), none, none, (some .int), none, (some .int), none, none, none, none, (some .int), (some .int), (some .int), (some .int), none, (some .boolean), none, (some .int), none, none, none, (some .int), (some .int), (some .int), (some .int), (some .int), none, (some .int), (some .int), (some .int), none, none, (some (.object "BundleLine$Line")), (some .boolean), none, none, none, none, none, none, none, none, none, none, (some .int), (some .int), (some .int), (some .int), (some .int), (some .int), (some .int), (some .int), (some .int), (some .int), (some .int), (some .int), (some .int), (some .int), (some .int), (some .int), (some .boolean), (some .int), (some .int), (some .int), (some .int), (some .int), (some .int), (some (.object "BundleLine$Line")), (some (.object "BundleLine$Frame")), (some (.object "BundleLine$Piece")), none, (some .boolean), (some .int), (some .boolean), (some .int), (some .int), (some .int), (some .int), (some .int), (some .int), (some .int), (some .int), (some .int), (some .int), (some .int), none, (some .boolean), (some .int), none, none, (some .int), none, none, none, none, (some .boolean), none, (some .int), (some .int), (some .int), (some .int), (some .int), (some .int), (some .int), (some .boolean), (some .int), (some .int), (some .int), (some .int), (some .int), (some .boolean), (some .int), (some .int), (some .int), (some .int), (some .boolean), (some .int), (some .int), (some (.array .byte)), (some .int), none, (some .boolean)]
def mc_yrk : List Nat := [1, 0, 1, 2, 0, 0, 0, 0, 3, 1, 2, 1, 1, 1, 0, 0, 1, 0, 0, 0, 0, 0, 0, 1, 0, 0, 0, 0, 0, 1, 0, 1, 0, 0, 1, 3, 1, 1, 1, 3, 2, 1, 1, 6, 3, 3, 2, 1, 2, 4, 5, 4, 2, 3, 2, 1, 1, 1, 2, 2, 4, 1, 1, 1, 1, 1, 1, 2, 1, 1, 1, 1, 1, 2, 2, 1, 2, 1, 0, 0, 0, 0, 0, 0, 1, 0, 0, 1, 1, 2, 1, 1, 1, 1, 1, 0, 0, 0, 1, 0, 2, 3, 0, 4, 0, 0, 1, 2, 1, 0, 5, 6, 0, 2, 2, 2, 2, 2, 1, 2, 2, 2, 2, 0, 1, 2, 2, 0, 2, 3, 0, 1, 1, 0, 0, 7]
def mc_ylo : List Nat := [20, 0, 21, 40, 0, 0, 0, 0, 72, 21, 46, 24, 20, 20, 0, 0, 20, 0, 0, 0, 0, 0, 0, 20, 0, 0, 0, 0, 0, 21, 0, 21, 0, 0, 20, 64, 21, 21, 21, 70, 45, 21, 21, 138, 71, 71, 47, 21, 44, 94, 116, 90, 44, 67, 44, 21, 23, 22, 43, 43, 90, 21, 21, 21, 21, 21, 21, 45, 21, 21, 21, 20, 21, 43, 43, 21, 44, 21, 0, 0, 0, 0, 0, 0, 20, 0, 0, 22, 22, 43, 21, 21, 21, 21, 21, 0, 0, 0, 21, 0, 44, 69, 0, 92, 0, 0, 23, 46, 22, 0, 115, 136, 0, 43, 43, 43, 43, 44, 22, 43, 43, 43, 43, 0, 22, 43, 43, 0, 43, 66, 0, 23, 26, 0, 0, 161]
def mc_yin : List Bool := [true, false, false, true, false, false, false, false, false, false, false, false, false, true, false, false, true, false, false, false, false, false, false, true, false, false, false, false, false, false, false, false, false, false, true, false, false, false, false, false, false, false, false, false, false, false, false, false, false, false, false, false, false, false, false, false, false, false, false, false, false, false, false, false, false, false, false, false, false, false, false, false, false, false, false, false, false, false, false, false, false, false, false, false, true, false, false, false, false, false, false, false, false, false, false, false, false, false, false, false, false, false, false, false, false, false, false, false, false, false, false, false, false, false, false, false, false, false, false, false, false, false, false, false, false, false, false, false, false, false, false, false, false, false, false, false]
def yNm (y : Nat) : MethodName := mc_ynm.getD y yL_law
def yBy (y : Nat) : ByteArray := mc_yby.getD y code
def yRt (y : Nat) : Option FieldType := mc_yrt.getD y none
def yRk (y : Nat) : Nat := mc_yrk.getD y 0
def yLo (y : Nat) : Nat := mc_ylo.getD y 0
def yIn (y : Nat) : Bool := mc_yin.getD y false
def cnm (c : Nat) : String := [RX0, RX1, RX2, RX3, RX4, RX5, RX6, RL, RJ7].getD c ""
def clT (c : Nat) : u_T := [TX0, TX1, TX2, TX3, TX4, TX5, TX6].getD c TX0
def clY (c : Nat) : Nat → FieldType := [tyX0, tyX1, tyX2, tyX3, tyX4, tyX5, tyX6].getD c tyX0
def yOw (y : Nat) : String := cnm (mow y)
/-- a word that the tables hold and that stays -/
def iw (w : Cond) : Prop := w ∈ lw_tbl ∧ goodWord w = true
def plen (ins : Instr) : Nat := match ins with
  | .iload _ => 2
  | .aload _ => 2
  | .istore _ => 2
  | .astore _ => 2
  | .iinc _ _ => 3
  | .bipush _ => 2
  | .sipush _ => 3
  | .ldc _ => 2
  | .ldc2_w _ => 3
  | _ => 1
def okv (y i a : Nat) (np : Nat) : Prop := iw (.methodLink (yOw y) i (yNm a)) ∧ iw (.initialized (yNm a).cls) ∧ iw (.code (yNm a) (yBy a) (mlo a) (yRt a)) ∧ ((yNm a).cls ≠ "java/lang/invoke/MethodHandle" ∧ (yNm a).cls ≠ "java/lang/invoke/VarHandle" ∧ (parseMethodDescriptor (yNm a).desc).map (fun d => d.parameters.length) = some np) ∧ yRk a + 1 ≤ yRk y ∧ 8 + (mlo a + 11) + yLo a ≤ yLo y ∧ plainName (yNm a).cls = true ∧ (yNm a).cls = yOw a ∧ (yIn a = true → (yNm a).name = "<init>")
def okw (y pc : Nat) (ins : Instr) (len a b : Nat) : Prop := match ins with
  | .iaload => len = 1 ∧ (a = 0 ∨ y = 135)
  | .arraylength => len = 1 ∧ (a = 0 ∨ y = 135)
  | .getfield i => len = 3 ∧ a < 7 ∧ b < nfl a ∧ iw (.fieldLink (yOw y) i (clT a b).1 (clT a b).2.1 (clT a b).2.2.1)
  | .putfield i => len = 3 ∧ a < 7 ∧ b < nfl a ∧ iw (.fieldLink (yOw y) i (clT a b).1 (clT a b).2.1 (clT a b).2.2.1) ∧ ((clT a b).2.2.2 = false ∨ ((clT a b).2.2.2 = true ∧ yIn y = true ∧ (clT a b).1 = yOw y))
  | .new i => len = 3 ∧ kd a = b ∧ b < 7 ∧ iw (.classLink (yOw y) i (cnm b)) ∧ iw (.instantiable (cnm b) (nfl b)) ∧ iw (.initialized (cnm b))
  | .newarray t => len = 2 ∧ iw (.arrayClass (newarray.typeOf t)) ∧ ((kd a = 100 ∧ t = .int) ∨ (kd a = 101 ∧ t = .byte) ∨ (kd a = 102 ∧ t = .boolean))
  | .anewarray i => len = 3 ∧ kd (ety a) < 3 ∧ kd a = 110 + kd (ety a) ∧ iw (.classLink (yOw y) i (cnm (kd (ety a))))
  | .ldc i => len = 2 ∧ iw (.constant (yOw y) i (Int32.ofNat a))
  | .ldc2_w i => len = 3 ∧ iw (.constantLong (yOw y) i (Int64.ofNat a))
  | .if_icmp _ off => (pc : Int) + off = (a : Int)
  | .ifCond _ off => (pc : Int) + off = (a : Int)
  | .ifnull off => (pc : Int) + off = (a : Int)
  | .ifnonnull off => (pc : Int) + off = (a : Int)
  | .goto off => (pc : Int) + off = (a : Int)
  | .tableswitch d _ _ offs => 0 ≤ (pc : Int) + d ∧ offs.toList.all (fun o => decide (0 ≤ (pc : Int) + o)) = true
  | .invokevirtual i => len = 3 ∧ (a < 1000 → okv y i a (b - 1) ∧ 1 ≤ b ∧ iw (.instanceMethod (yNm a)) ∧ iw (.selects (yNm a).cls (yNm a) (yNm a)) ∧ (yNm a).cls = cnm (mow a) ∧ mow a < 7) ∧ (a = 1003 → kd b = 101 ∧ iw (.methodLink (yOw y) i ⟨"[B", "clone", "()Ljava/lang/Object;"⟩) ∧ iw (.sameMethod "[B" "java/lang/Object" "clone" "()Ljava/lang/Object;") ∧ iw (.native ⟨"java/lang/Object", "clone", "()Ljava/lang/Object;"⟩) ∧ iw (.instanceMethod ⟨"java/lang/Object", "clone", "()Ljava/lang/Object;"⟩) ∧ iw (.selects "[B" ⟨"[B", "clone", "()Ljava/lang/Object;"⟩ ⟨"java/lang/Object", "clone", "()Ljava/lang/Object;"⟩) ∧ 1 ≤ yRk y ∧ 22 ≤ yLo y)
  | .invokestatic i => len = 3 ∧ (a < 1000 → okv y i a b ∧ iw (.static (yNm a))) ∧ (a = 1001 → iw (.methodLink (yOw y) i Lib.Math.min.name) ∧ iw (.static Lib.Math.min.name) ∧ iw (.initialized "java/lang/Math") ∧ iw (.code Lib.Math.min.name Lib.Math.min.code 2 (some .int)) ∧ 1 ≤ yRk y ∧ 21 ≤ yLo y) ∧ (a = 1002 → iw (.methodLink (yOw y) i arraycopyName) ∧ iw (.native arraycopyName) ∧ iw (.static arraycopyName) ∧ iw (.initialized "java/lang/System") ∧ 1 ≤ yRk y ∧ 26 ≤ yLo y)
  | .invokespecial i => len = 3 ∧ (a < 1000 → okv y i a (b - 1) ∧ 1 ≤ b ∧ iw (.instanceMethod (yNm a)) ∧ (yNm a).name = "<init>" ∧ yRt a = none ∧ (yNm a).cls = cnm (mow a)) ∧ (a = 1000 → iw (.methodLink (yOw y) i objectInit) ∧ iw (.instanceMethod objectInit) ∧ iw (.code objectInit ⟨#[0xb1]⟩ 1 none) ∧ 1 ≤ yRk y ∧ 20 ≤ yLo y)
  | .ireturn => len = 1 ∧ ((a = 0 ∧ yRt y = some .int) ∨ (a = 1 ∧ yRt y = some .boolean))
  | .areturn => len = 1 ∧ ∃ t, yRt y = some t ∧ ((∃ n, t = .object n) ∨ ∃ t2, t = .array t2)
  | .return_ => len = 1 ∧ yRt y = none
  | .checkcast i => len = 3 ∧ iw (.classLink (yOw y) i "[B")
  | ins => len = plen ins
def okl (y : Nat) : Nat → List (Option Ent) → Prop
  | _, [] => True
  | pc, none :: l => okl y (pc + 1) l
  | pc, some e :: l => okw y pc e.1 e.2.1 e.2.2.1 e.2.2.2 ∧ okl y (pc + 1) l
def dck (b : ByteArray) : Nat → List (Option Ent) → Bool
  | _, [] => true
  | pc, none :: l => dck b (pc + 1) l
  | pc, some e :: l => (match decode b pc with
    | .ok q => decide (q.1 = e.1) && decide (q.2 = e.2.1)
    | .error _ => false) && dck b (pc + 1) l
set_option maxRecDepth 100000 in
theorem kw_0 : iw (.methodLink RX0 3 objectInit) := ⟨List.mem_of_getElem? (i := 308) (by rfl), by rfl⟩
set_option maxRecDepth 100000 in
theorem kw_1 : iw (.instanceMethod objectInit) := ⟨List.mem_of_getElem? (i := 66) (by rfl), by rfl⟩
set_option maxRecDepth 100000 in
theorem kw_2 : iw (.code objectInit ⟨#[0xb1]⟩ 1 none) := ⟨List.mem_of_getElem? (i := 67) (by rfl), by rfl⟩
set_option maxRecDepth 100000 in
theorem kw_3 : iw (.fieldLink RX0 9 "BundleLine$Frame" "bytes" "[B") := ⟨List.mem_of_getElem? (i := 309) (by rfl), by rfl⟩
set_option maxRecDepth 100000 in
theorem kw_4 : iw (.fieldLink RX0 15 "BundleLine$Frame" "size" "I") := ⟨List.mem_of_getElem? (i := 310) (by rfl), by rfl⟩
set_option maxRecDepth 100000 in
theorem kw_5 : iw (.fieldLink RX0 19 "BundleLine$Frame" "firstPiece" "I") := ⟨List.mem_of_getElem? (i := 312) (by rfl), by rfl⟩
set_option maxRecDepth 100000 in
theorem kw_6 : iw (.fieldLink RX0 22 "BundleLine$Frame" "row" "I") := ⟨List.mem_of_getElem? (i := 314) (by rfl), by rfl⟩
set_option maxRecDepth 100000 in
theorem kw_7 : iw (.fieldLink RX0 25 "BundleLine$Frame" "givenAt" "I") := ⟨List.mem_of_getElem? (i := 317) (by rfl), by rfl⟩
set_option maxRecDepth 100000 in
theorem kw_8 : iw (.methodLink RX0 28 yX0_byteAt) := ⟨List.mem_of_getElem? (i := 342) (by rfl), by rfl⟩
set_option maxRecDepth 100000 in
theorem kw_9 : iw (.initialized RX0) := ⟨List.mem_of_getElem? (i := 55) (by rfl), by rfl⟩
set_option maxRecDepth 100000 in
theorem kw_10 : iw (.code yX0_byteAt cX0_byteAt 2 (some .int)) := ⟨List.mem_of_getElem? (i := 345) (by rfl), by rfl⟩
set_option maxRecDepth 100000 in
theorem kw_11 : iw (.instanceMethod yX0_byteAt) := ⟨List.mem_of_getElem? (i := 343) (by rfl), by rfl⟩
set_option maxRecDepth 100000 in
theorem kw_12 : iw (.selects RX0 yX0_byteAt yX0_byteAt) := ⟨List.mem_of_getElem? (i := 344) (by rfl), by rfl⟩
set_option maxRecDepth 100000 in
theorem kw_13 : iw (.methodLink RX1 3 objectInit) := ⟨List.mem_of_getElem? (i := 143) (by rfl), by rfl⟩
set_option maxRecDepth 100000 in
theorem kw_14 : iw (.fieldLink RX1 9 "BundleLine$Line" "number" "I") := ⟨List.mem_of_getElem? (i := 200) (by rfl), by rfl⟩
set_option maxRecDepth 100000 in
theorem kw_15 : iw (.fieldLink RX1 15 "BundleLine$Line" "kind" "I") := ⟨List.mem_of_getElem? (i := 202) (by rfl), by rfl⟩
set_option maxRecDepth 100000 in
theorem kw_16 : iw (.fieldLink RX1 18 "BundleLine$Line" "speed" "I") := ⟨List.mem_of_getElem? (i := 204) (by rfl), by rfl⟩
set_option maxRecDepth 100000 in
theorem kw_17 : iw (.fieldLink RX1 21 "BundleLine$Line" "delay" "I") := ⟨List.mem_of_getElem? (i := 206) (by rfl), by rfl⟩
set_option maxRecDepth 100000 in
theorem kw_18 : iw (.classLink RX1 24 RX3) := ⟨List.mem_of_getElem? (i := 144) (by rfl), by rfl⟩
set_option maxRecDepth 100000 in
theorem kw_19 : iw (.instantiable RX3 6) := ⟨List.mem_of_getElem? (i := 145) (by rfl), by rfl⟩
set_option maxRecDepth 100000 in
theorem kw_20 : iw (.initialized RX3) := ⟨List.mem_of_getElem? (i := 53) (by rfl), by rfl⟩
set_option maxRecDepth 100000 in
theorem kw_21 : iw (.methodLink RX1 26 yX3_init) := ⟨List.mem_of_getElem? (i := 146) (by rfl), by rfl⟩
set_option maxRecDepth 100000 in
theorem kw_22 : iw (.code yX3_init cX3_init 1 none) := ⟨List.mem_of_getElem? (i := 148) (by rfl), by rfl⟩
set_option maxRecDepth 100000 in
theorem kw_23 : iw (.instanceMethod yX3_init) := ⟨List.mem_of_getElem? (i := 147) (by rfl), by rfl⟩
set_option maxRecDepth 100000 in
theorem kw_24 : iw (.fieldLink RX1 27 "BundleLine$Line" "queue" "LBundleLine$Queue;") := ⟨List.mem_of_getElem? (i := 208) (by rfl), by rfl⟩
set_option maxRecDepth 100000 in
theorem kw_25 : iw (.classLink RX1 31 RX4) := ⟨List.mem_of_getElem? (i := 173) (by rfl), by rfl⟩
set_option maxRecDepth 100000 in
theorem kw_26 : iw (.instantiable RX4 6) := ⟨List.mem_of_getElem? (i := 174) (by rfl), by rfl⟩
set_option maxRecDepth 100000 in
theorem kw_27 : iw (.initialized RX4) := ⟨List.mem_of_getElem? (i := 54) (by rfl), by rfl⟩
set_option maxRecDepth 100000 in
theorem kw_28 : iw (.methodLink RX1 33 yX4_init) := ⟨List.mem_of_getElem? (i := 175) (by rfl), by rfl⟩
set_option maxRecDepth 100000 in
theorem kw_29 : iw (.code yX4_init cX4_init 1 none) := ⟨List.mem_of_getElem? (i := 177) (by rfl), by rfl⟩
set_option maxRecDepth 100000 in
theorem kw_30 : iw (.instanceMethod yX4_init) := ⟨List.mem_of_getElem? (i := 176) (by rfl), by rfl⟩
set_option maxRecDepth 100000 in
theorem kw_31 : iw (.fieldLink RX1 34 "BundleLine$Line" "underWay" "LBundleLine$UnderWay;") := ⟨List.mem_of_getElem? (i := 210) (by rfl), by rfl⟩
set_option maxRecDepth 100000 in
theorem kw_32 : iw (.arrayClass .int) := ⟨List.mem_of_getElem? (i := 129) (by rfl), by rfl⟩
set_option maxRecDepth 100000 in
theorem kw_33 : iw (.fieldLink RX1 38 "BundleLine$Line" "sent" "[I") := ⟨List.mem_of_getElem? (i := 212) (by rfl), by rfl⟩
set_option maxRecDepth 100000 in
theorem kw_34 : iw (.fieldLink RX1 42 "BundleLine$Line" "log" "[I") := ⟨List.mem_of_getElem? (i := 213) (by rfl), by rfl⟩
set_option maxRecDepth 100000 in
theorem kw_35 : iw (.fieldLink RX1 45 "BundleLine$Line" "isUp" "Z") := ⟨List.mem_of_getElem? (i := 214) (by rfl), by rfl⟩
set_option maxRecDepth 100000 in
theorem kw_36 : iw (.fieldLink RX1 49 "BundleLine$Line" "allowance" "I") := ⟨List.mem_of_getElem? (i := 216) (by rfl), by rfl⟩
set_option maxRecDepth 100000 in
theorem kw_37 : iw (.fieldLink RX1 52 "BundleLine$Line" "span" "I") := ⟨List.mem_of_getElem? (i := 218) (by rfl), by rfl⟩
set_option maxRecDepth 100000 in
theorem kw_38 : iw (.fieldLink RX1 55 "BundleLine$Queue" "length" "I") := ⟨List.mem_of_getElem? (i := 153) (by rfl), by rfl⟩
set_option maxRecDepth 100000 in
theorem kw_39 : iw (.fieldLink RX1 58 "BundleLine$UnderWay" "length" "I") := ⟨List.mem_of_getElem? (i := 184) (by rfl), by rfl⟩
set_option maxRecDepth 100000 in
theorem kw_40 : iw (.fieldLink RX1 59 "BundleLine$Line" "seen" "I") := ⟨List.mem_of_getElem? (i := 222) (by rfl), by rfl⟩
set_option maxRecDepth 100000 in
theorem kw_41 : iw (.fieldLink RX1 62 "BundleLine$Line" "count" "I") := ⟨List.mem_of_getElem? (i := 220) (by rfl), by rfl⟩
set_option maxRecDepth 100000 in
theorem kw_42 : iw (.fieldLink RX1 65 "BundleLine$Queue" "waitingBytes" "I") := ⟨List.mem_of_getElem? (i := 157) (by rfl), by rfl⟩
set_option maxRecDepth 100000 in
theorem kw_43 : iw (.fieldLink RX1 68 "BundleLine$Line" "carried" "I") := ⟨List.mem_of_getElem? (i := 224) (by rfl), by rfl⟩
set_option maxRecDepth 100000 in
theorem kw_44 : iw (.methodLink RX1 71 yX1_bytesFor) := ⟨List.mem_of_getElem? (i := 452) (by rfl), by rfl⟩
set_option maxRecDepth 100000 in
theorem kw_45 : iw (.initialized RX1) := ⟨List.mem_of_getElem? (i := 52) (by rfl), by rfl⟩
set_option maxRecDepth 100000 in
theorem kw_46 : iw (.code yX1_bytesFor cX1_bytesFor 4 (some .int)) := ⟨List.mem_of_getElem? (i := 455) (by rfl), by rfl⟩
set_option maxRecDepth 100000 in
theorem kw_47 : iw (.instanceMethod yX1_bytesFor) := ⟨List.mem_of_getElem? (i := 454) (by rfl), by rfl⟩
set_option maxRecDepth 100000 in
theorem kw_48 : iw (.selects RX1 yX1_bytesFor yX1_bytesFor) := ⟨List.mem_of_getElem? (i := 13) (by rfl), by rfl⟩
set_option maxRecDepth 100000 in
theorem kw_49 : iw (.methodLink RX1 75 yX1_sendBytes) := ⟨List.mem_of_getElem? (i := 457) (by rfl), by rfl⟩
set_option maxRecDepth 100000 in
theorem kw_50 : iw (.code yX1_sendBytes cX1_sendBytes 7 none) := ⟨List.mem_of_getElem? (i := 460) (by rfl), by rfl⟩
set_option maxRecDepth 100000 in
theorem kw_51 : iw (.instanceMethod yX1_sendBytes) := ⟨List.mem_of_getElem? (i := 459) (by rfl), by rfl⟩
set_option maxRecDepth 100000 in
theorem kw_52 : iw (.selects RX1 yX1_sendBytes yX1_sendBytes) := ⟨List.mem_of_getElem? (i := 14) (by rfl), by rfl⟩
set_option maxRecDepth 100000 in
theorem kw_53 : iw (.methodLink RX1 79 Lib.Math.min.name) := ⟨List.mem_of_getElem? (i := 456) (by rfl), by rfl⟩
set_option maxRecDepth 100000 in
theorem kw_54 : iw (.static Lib.Math.min.name) := ⟨List.mem_of_getElem? (i := 300) (by rfl), by rfl⟩
set_option maxRecDepth 100000 in
theorem kw_55 : iw (.initialized "java/lang/Math") := ⟨List.mem_of_getElem? (i := 57) (by rfl), by rfl⟩
set_option maxRecDepth 100000 in
theorem kw_56 : iw (.code Lib.Math.min.name Lib.Math.min.code 2 (some .int)) := ⟨List.mem_of_getElem? (i := 301) (by rfl), by rfl⟩
set_option maxRecDepth 100000 in
theorem kw_57 : iw (.methodLink RX1 85 yX3_restOfFirst) := ⟨List.mem_of_getElem? (i := 461) (by rfl), by rfl⟩
set_option maxRecDepth 100000 in
theorem kw_58 : iw (.code yX3_restOfFirst cX3_restOfFirst 1 (some .int)) := ⟨List.mem_of_getElem? (i := 464) (by rfl), by rfl⟩
set_option maxRecDepth 100000 in
theorem kw_59 : iw (.instanceMethod yX3_restOfFirst) := ⟨List.mem_of_getElem? (i := 462) (by rfl), by rfl⟩
set_option maxRecDepth 100000 in
theorem kw_60 : iw (.selects RX3 yX3_restOfFirst yX3_restOfFirst) := ⟨List.mem_of_getElem? (i := 463) (by rfl), by rfl⟩
set_option maxRecDepth 100000 in
theorem kw_61 : iw (.methodLink RX1 89 yX3_takeFromFirst) := ⟨List.mem_of_getElem? (i := 465) (by rfl), by rfl⟩
set_option maxRecDepth 100000 in
theorem kw_62 : iw (.code yX3_takeFromFirst cX3_takeFromFirst 2 none) := ⟨List.mem_of_getElem? (i := 468) (by rfl), by rfl⟩
set_option maxRecDepth 100000 in
theorem kw_63 : iw (.instanceMethod yX3_takeFromFirst) := ⟨List.mem_of_getElem? (i := 466) (by rfl), by rfl⟩
set_option maxRecDepth 100000 in
theorem kw_64 : iw (.selects RX3 yX3_takeFromFirst yX3_takeFromFirst) := ⟨List.mem_of_getElem? (i := 467) (by rfl), by rfl⟩
set_option maxRecDepth 100000 in
theorem kw_65 : iw (.methodLink RX1 93 yX1_sendFirst) := ⟨List.mem_of_getElem? (i := 469) (by rfl), by rfl⟩
set_option maxRecDepth 100000 in
theorem kw_66 : iw (.code yX1_sendFirst cX1_sendFirst 3 none) := ⟨List.mem_of_getElem? (i := 472) (by rfl), by rfl⟩
set_option maxRecDepth 100000 in
theorem kw_67 : iw (.instanceMethod yX1_sendFirst) := ⟨List.mem_of_getElem? (i := 471) (by rfl), by rfl⟩
set_option maxRecDepth 100000 in
theorem kw_68 : iw (.selects RX1 yX1_sendFirst yX1_sendFirst) := ⟨List.mem_of_getElem? (i := 15) (by rfl), by rfl⟩
set_option maxRecDepth 100000 in
theorem kw_69 : iw (.methodLink RX1 96 yX3_numberOf) := ⟨List.mem_of_getElem? (i := 473) (by rfl), by rfl⟩
set_option maxRecDepth 100000 in
theorem kw_70 : iw (.code yX3_numberOf cX3_numberOf 2 (some .int)) := ⟨List.mem_of_getElem? (i := 476) (by rfl), by rfl⟩
set_option maxRecDepth 100000 in
theorem kw_71 : iw (.instanceMethod yX3_numberOf) := ⟨List.mem_of_getElem? (i := 474) (by rfl), by rfl⟩
set_option maxRecDepth 100000 in
theorem kw_72 : iw (.selects RX3 yX3_numberOf yX3_numberOf) := ⟨List.mem_of_getElem? (i := 475) (by rfl), by rfl⟩
set_option maxRecDepth 100000 in
theorem kw_73 : iw (.methodLink RX1 99 yX3_dropFirst) := ⟨List.mem_of_getElem? (i := 477) (by rfl), by rfl⟩
set_option maxRecDepth 100000 in
theorem kw_74 : iw (.code yX3_dropFirst cX3_dropFirst 1 none) := ⟨List.mem_of_getElem? (i := 480) (by rfl), by rfl⟩
set_option maxRecDepth 100000 in
theorem kw_75 : iw (.instanceMethod yX3_dropFirst) := ⟨List.mem_of_getElem? (i := 478) (by rfl), by rfl⟩
set_option maxRecDepth 100000 in
theorem kw_76 : iw (.selects RX3 yX3_dropFirst yX3_dropFirst) := ⟨List.mem_of_getElem? (i := 479) (by rfl), by rfl⟩
set_option maxRecDepth 100000 in
theorem kw_77 : iw (.methodLink RX1 102 yX4_add) := ⟨List.mem_of_getElem? (i := 481) (by rfl), by rfl⟩
set_option maxRecDepth 100000 in
theorem kw_78 : iw (.code yX4_add cX4_add 5 none) := ⟨List.mem_of_getElem? (i := 484) (by rfl), by rfl⟩
set_option maxRecDepth 100000 in
theorem kw_79 : iw (.instanceMethod yX4_add) := ⟨List.mem_of_getElem? (i := 482) (by rfl), by rfl⟩
set_option maxRecDepth 100000 in
theorem kw_80 : iw (.selects RX4 yX4_add yX4_add) := ⟨List.mem_of_getElem? (i := 483) (by rfl), by rfl⟩
set_option maxRecDepth 100000 in
theorem kw_81 : iw (.methodLink RX1 106 yX3_clear) := ⟨List.mem_of_getElem? (i := 579) (by rfl), by rfl⟩
set_option maxRecDepth 100000 in
theorem kw_82 : iw (.code yX3_clear cX3_clear 1 none) := ⟨List.mem_of_getElem? (i := 582) (by rfl), by rfl⟩
set_option maxRecDepth 100000 in
theorem kw_83 : iw (.instanceMethod yX3_clear) := ⟨List.mem_of_getElem? (i := 580) (by rfl), by rfl⟩
set_option maxRecDepth 100000 in
theorem kw_84 : iw (.selects RX3 yX3_clear yX3_clear) := ⟨List.mem_of_getElem? (i := 581) (by rfl), by rfl⟩
set_option maxRecDepth 100000 in
theorem kw_85 : iw (.methodLink RX1 109 yX4_clear) := ⟨List.mem_of_getElem? (i := 583) (by rfl), by rfl⟩
set_option maxRecDepth 100000 in
theorem kw_86 : iw (.code yX4_clear cX4_clear 1 none) := ⟨List.mem_of_getElem? (i := 586) (by rfl), by rfl⟩
set_option maxRecDepth 100000 in
theorem kw_87 : iw (.instanceMethod yX4_clear) := ⟨List.mem_of_getElem? (i := 584) (by rfl), by rfl⟩
set_option maxRecDepth 100000 in
theorem kw_88 : iw (.selects RX4 yX4_clear yX4_clear) := ⟨List.mem_of_getElem? (i := 585) (by rfl), by rfl⟩
set_option maxRecDepth 100000 in
theorem kw_89 : iw (.methodLink RX2 3 objectInit) := ⟨List.mem_of_getElem? (i := 349) (by rfl), by rfl⟩
set_option maxRecDepth 100000 in
theorem kw_90 : iw (.fieldLink RX2 9 "BundleLine$Piece" "frame" "I") := ⟨List.mem_of_getElem? (i := 350) (by rfl), by rfl⟩
set_option maxRecDepth 100000 in
theorem kw_91 : iw (.fieldLink RX2 15 "BundleLine$Piece" "size" "I") := ⟨List.mem_of_getElem? (i := 352) (by rfl), by rfl⟩
set_option maxRecDepth 100000 in
theorem kw_92 : iw (.fieldLink RX2 18 "BundleLine$Piece" "isLast" "Z") := ⟨List.mem_of_getElem? (i := 354) (by rfl), by rfl⟩
set_option maxRecDepth 100000 in
theorem kw_93 : iw (.fieldLink RX2 22 "BundleLine$Piece" "sum" "I") := ⟨List.mem_of_getElem? (i := 356) (by rfl), by rfl⟩
set_option maxRecDepth 100000 in
theorem kw_94 : iw (.fieldLink RX2 25 "BundleLine$Piece" "losses" "[I") := ⟨List.mem_of_getElem? (i := 358) (by rfl), by rfl⟩
set_option maxRecDepth 100000 in
theorem kw_95 : iw (.fieldLink RX2 29 "BundleLine$Piece" "state" "I") := ⟨List.mem_of_getElem? (i := 359) (by rfl), by rfl⟩
set_option maxRecDepth 100000 in
theorem kw_96 : iw (.fieldLink RX2 32 "BundleLine$Piece" "line" "I") := ⟨List.mem_of_getElem? (i := 362) (by rfl), by rfl⟩
set_option maxRecDepth 100000 in
theorem kw_97 : iw (.methodLink RX3 1 objectInit) := ⟨List.mem_of_getElem? (i := 149) (by rfl), by rfl⟩
set_option maxRecDepth 100000 in
theorem kw_98 : iw (.fieldLink RX3 9 "BundleLine$Queue" "numbers" "[I") := ⟨List.mem_of_getElem? (i := 150) (by rfl), by rfl⟩
set_option maxRecDepth 100000 in
theorem kw_99 : iw (.fieldLink RX3 13 "BundleLine$Queue" "sizes" "[I") := ⟨List.mem_of_getElem? (i := 151) (by rfl), by rfl⟩
set_option maxRecDepth 100000 in
theorem kw_100 : iw (.fieldLink RX3 16 "BundleLine$Queue" "head" "I") := ⟨List.mem_of_getElem? (i := 152) (by rfl), by rfl⟩
set_option maxRecDepth 100000 in
theorem kw_101 : iw (.fieldLink RX3 20 "BundleLine$Queue" "length" "I") := ⟨List.mem_of_getElem? (i := 154) (by rfl), by rfl⟩
set_option maxRecDepth 100000 in
theorem kw_102 : iw (.fieldLink RX3 23 "BundleLine$Queue" "waitingBytes" "I") := ⟨List.mem_of_getElem? (i := 156) (by rfl), by rfl⟩
set_option maxRecDepth 100000 in
theorem kw_103 : iw (.fieldLink RX3 26 "BundleLine$Queue" "sentOfFirst" "I") := ⟨List.mem_of_getElem? (i := 159) (by rfl), by rfl⟩
set_option maxRecDepth 100000 in
theorem kw_104 : iw (.methodLink RX4 1 objectInit) := ⟨List.mem_of_getElem? (i := 178) (by rfl), by rfl⟩
set_option maxRecDepth 100000 in
theorem kw_105 : iw (.fieldLink RX4 9 "BundleLine$UnderWay" "numbers" "[I") := ⟨List.mem_of_getElem? (i := 179) (by rfl), by rfl⟩
set_option maxRecDepth 100000 in
theorem kw_106 : iw (.fieldLink RX4 13 "BundleLine$UnderWay" "counts" "[I") := ⟨List.mem_of_getElem? (i := 180) (by rfl), by rfl⟩
set_option maxRecDepth 100000 in
theorem kw_107 : iw (.fieldLink RX4 16 "BundleLine$UnderWay" "comings" "[I") := ⟨List.mem_of_getElem? (i := 181) (by rfl), by rfl⟩
set_option maxRecDepth 100000 in
theorem kw_108 : iw (.fieldLink RX4 19 "BundleLine$UnderWay" "marks" "[I") := ⟨List.mem_of_getElem? (i := 182) (by rfl), by rfl⟩
set_option maxRecDepth 100000 in
theorem kw_109 : iw (.fieldLink RX4 22 "BundleLine$UnderWay" "head" "I") := ⟨List.mem_of_getElem? (i := 183) (by rfl), by rfl⟩
set_option maxRecDepth 100000 in
theorem kw_110 : iw (.fieldLink RX4 26 "BundleLine$UnderWay" "length" "I") := ⟨List.mem_of_getElem? (i := 185) (by rfl), by rfl⟩
set_option maxRecDepth 100000 in
theorem kw_111 : iw (.methodLink RX4 29 yX4_comingOf) := ⟨List.mem_of_getElem? (i := 497) (by rfl), by rfl⟩
set_option maxRecDepth 100000 in
theorem kw_112 : iw (.code yX4_comingOf cX4_comingOf 2 (some .int)) := ⟨List.mem_of_getElem? (i := 500) (by rfl), by rfl⟩
set_option maxRecDepth 100000 in
theorem kw_113 : iw (.instanceMethod yX4_comingOf) := ⟨List.mem_of_getElem? (i := 498) (by rfl), by rfl⟩
set_option maxRecDepth 100000 in
theorem kw_114 : iw (.selects RX4 yX4_comingOf yX4_comingOf) := ⟨List.mem_of_getElem? (i := 499) (by rfl), by rfl⟩
set_option maxRecDepth 100000 in
theorem kw_115 : iw (.methodLink RX4 33 yX4_marksOf) := ⟨List.mem_of_getElem? (i := 561) (by rfl), by rfl⟩
set_option maxRecDepth 100000 in
theorem kw_116 : iw (.code yX4_marksOf cX4_marksOf 2 (some .int)) := ⟨List.mem_of_getElem? (i := 512) (by rfl), by rfl⟩
set_option maxRecDepth 100000 in
theorem kw_117 : iw (.instanceMethod yX4_marksOf) := ⟨List.mem_of_getElem? (i := 510) (by rfl), by rfl⟩
set_option maxRecDepth 100000 in
theorem kw_118 : iw (.selects RX4 yX4_marksOf yX4_marksOf) := ⟨List.mem_of_getElem? (i := 511) (by rfl), by rfl⟩
set_option maxRecDepth 100000 in
theorem kw_119 : iw (.methodLink RX5 1 objectInit) := ⟨List.mem_of_getElem? (i := 65) (by rfl), by rfl⟩
set_option maxRecDepth 100000 in
theorem kw_120 : iw (.classLink RX5 9 RX1) := ⟨List.mem_of_getElem? (i := 68) (by rfl), by rfl⟩
set_option maxRecDepth 100000 in
theorem kw_121 : iw (.fieldLink RX5 11 "BundleLine" "lines" "[LBundleLine$Line;") := ⟨List.mem_of_getElem? (i := 74) (by rfl), by rfl⟩
set_option maxRecDepth 100000 in
theorem kw_122 : iw (.classLink RX5 15 RX0) := ⟨List.mem_of_getElem? (i := 70) (by rfl), by rfl⟩
set_option maxRecDepth 100000 in
theorem kw_123 : iw (.fieldLink RX5 17 "BundleLine" "frames" "[LBundleLine$Frame;") := ⟨List.mem_of_getElem? (i := 76) (by rfl), by rfl⟩
set_option maxRecDepth 100000 in
theorem kw_124 : iw (.classLink RX5 21 RX2) := ⟨List.mem_of_getElem? (i := 72) (by rfl), by rfl⟩
set_option maxRecDepth 100000 in
theorem kw_125 : iw (.fieldLink RX5 23 "BundleLine" "pieces" "[LBundleLine$Piece;") := ⟨List.mem_of_getElem? (i := 81) (by rfl), by rfl⟩
set_option maxRecDepth 100000 in
theorem kw_126 : iw (.fieldLink RX5 27 "BundleLine" "inState" "[I") := ⟨List.mem_of_getElem? (i := 84) (by rfl), by rfl⟩
set_option maxRecDepth 100000 in
theorem kw_127 : iw (.arrayClass .byte) := ⟨List.mem_of_getElem? (i := 130) (by rfl), by rfl⟩
set_option maxRecDepth 100000 in
theorem kw_128 : iw (.fieldLink RX5 31 "BundleLine" "tray" "[B") := ⟨List.mem_of_getElem? (i := 85) (by rfl), by rfl⟩
set_option maxRecDepth 100000 in
theorem kw_129 : iw (.fieldLink RX5 35 "BundleLine" "cutSize" "I") := ⟨List.mem_of_getElem? (i := 87) (by rfl), by rfl⟩
set_option maxRecDepth 100000 in
theorem kw_130 : iw (.fieldLink RX5 39 "BundleLine" "roomSize" "I") := ⟨List.mem_of_getElem? (i := 88) (by rfl), by rfl⟩
set_option maxRecDepth 100000 in
theorem kw_131 : iw (.fieldLink RX5 42 "BundleLine" "refusals" "[I") := ⟨List.mem_of_getElem? (i := 91) (by rfl), by rfl⟩
set_option maxRecDepth 100000 in
theorem kw_132 : iw (.methodLink RX5 45 yX5_refuse) := ⟨List.mem_of_getElem? (i := 135) (by rfl), by rfl⟩
set_option maxRecDepth 100000 in
theorem kw_133 : iw (.initialized RX5) := ⟨List.mem_of_getElem? (i := 50) (by rfl), by rfl⟩
set_option maxRecDepth 100000 in
theorem kw_134 : iw (.code yX5_refuse cX5_refuse 2 (some .int)) := ⟨List.mem_of_getElem? (i := 138) (by rfl), by rfl⟩
set_option maxRecDepth 100000 in
theorem kw_135 : iw (.instanceMethod yX5_refuse) := ⟨List.mem_of_getElem? (i := 137) (by rfl), by rfl⟩
set_option maxRecDepth 100000 in
theorem kw_136 : iw (.selects RX5 yX5_refuse yX5_refuse) := ⟨List.mem_of_getElem? (i := 0) (by rfl), by rfl⟩
set_option maxRecDepth 100000 in
theorem kw_137 : iw (.fieldLink RX5 49 "BundleLine" "lineCount" "I") := ⟨List.mem_of_getElem? (i := 75) (by rfl), by rfl⟩
set_option maxRecDepth 100000 in
theorem kw_138 : iw (.instantiable RX1 17) := ⟨List.mem_of_getElem? (i := 139) (by rfl), by rfl⟩
set_option maxRecDepth 100000 in
theorem kw_139 : iw (.methodLink RX5 52 yX1_init) := ⟨List.mem_of_getElem? (i := 140) (by rfl), by rfl⟩
set_option maxRecDepth 100000 in
theorem kw_140 : iw (.code yX1_init cX1_init 5 none) := ⟨List.mem_of_getElem? (i := 142) (by rfl), by rfl⟩
set_option maxRecDepth 100000 in
theorem kw_141 : iw (.instanceMethod yX1_init) := ⟨List.mem_of_getElem? (i := 141) (by rfl), by rfl⟩
set_option maxRecDepth 100000 in
theorem kw_142 : iw (.methodLink RX5 55 yX5_lineAt) := ⟨List.mem_of_getElem? (i := 268) (by rfl), by rfl⟩
set_option maxRecDepth 100000 in
theorem kw_143 : iw (.code yX5_lineAt cX5_lineAt 2 (some (.object "BundleLine$Line"))) := ⟨List.mem_of_getElem? (i := 271) (by rfl), by rfl⟩
set_option maxRecDepth 100000 in
theorem kw_144 : iw (.instanceMethod yX5_lineAt) := ⟨List.mem_of_getElem? (i := 270) (by rfl), by rfl⟩
set_option maxRecDepth 100000 in
theorem kw_145 : iw (.selects RX5 yX5_lineAt yX5_lineAt) := ⟨List.mem_of_getElem? (i := 1) (by rfl), by rfl⟩
set_option maxRecDepth 100000 in
theorem kw_146 : iw (.fieldLink RX5 59 "BundleLine$Line" "kind" "I") := ⟨List.mem_of_getElem? (i := 203) (by rfl), by rfl⟩
set_option maxRecDepth 100000 in
theorem kw_147 : iw (.fieldLink RX5 62 "BundleLine$Line" "allowance" "I") := ⟨List.mem_of_getElem? (i := 217) (by rfl), by rfl⟩
set_option maxRecDepth 100000 in
theorem kw_148 : iw (.fieldLink RX5 65 "BundleLine$Line" "span" "I") := ⟨List.mem_of_getElem? (i := 219) (by rfl), by rfl⟩
set_option maxRecDepth 100000 in
theorem kw_149 : iw (.fieldLink RX5 68 "BundleLine" "trayLength" "I") := ⟨List.mem_of_getElem? (i := 86) (by rfl), by rfl⟩
set_option maxRecDepth 100000 in
theorem kw_150 : iw (.methodLink RX5 71 yX5_piecesOf) := ⟨List.mem_of_getElem? (i := 284) (by rfl), by rfl⟩
set_option maxRecDepth 100000 in
theorem kw_151 : iw (.code yX5_piecesOf cX5_piecesOf 2 (some .int)) := ⟨List.mem_of_getElem? (i := 287) (by rfl), by rfl⟩
set_option maxRecDepth 100000 in
theorem kw_152 : iw (.instanceMethod yX5_piecesOf) := ⟨List.mem_of_getElem? (i := 286) (by rfl), by rfl⟩
set_option maxRecDepth 100000 in
theorem kw_153 : iw (.selects RX5 yX5_piecesOf yX5_piecesOf) := ⟨List.mem_of_getElem? (i := 2) (by rfl), by rfl⟩
set_option maxRecDepth 100000 in
theorem kw_154 : iw (.fieldLink RX5 74 "BundleLine" "frameCount" "I") := ⟨List.mem_of_getElem? (i := 77) (by rfl), by rfl⟩
set_option maxRecDepth 100000 in
theorem kw_155 : iw (.fieldLink RX5 77 "BundleLine" "pieceCount" "I") := ⟨List.mem_of_getElem? (i := 82) (by rfl), by rfl⟩
set_option maxRecDepth 100000 in
theorem kw_156 : iw (.fieldLink RX5 80 "BundleLine" "givenFrames" "I") := ⟨List.mem_of_getElem? (i := 78) (by rfl), by rfl⟩
set_option maxRecDepth 100000 in
theorem kw_157 : iw (.instantiable RX0 6) := ⟨List.mem_of_getElem? (i := 288) (by rfl), by rfl⟩
set_option maxRecDepth 100000 in
theorem kw_158 : iw (.methodLink RX5 83 yJ7_copyOf_9075b) := ⟨List.mem_of_getElem? (i := 289) (by rfl), by rfl⟩
set_option maxRecDepth 100000 in
theorem kw_159 : iw (.initialized RJ7) := ⟨List.mem_of_getElem? (i := 56) (by rfl), by rfl⟩
set_option maxRecDepth 100000 in
theorem kw_160 : iw (.code yJ7_copyOf_9075b cJ7_copyOf_9075b 3 (some (.array .byte))) := ⟨List.mem_of_getElem? (i := 291) (by rfl), by rfl⟩
set_option maxRecDepth 100000 in
theorem kw_161 : iw (.static yJ7_copyOf_9075b) := ⟨List.mem_of_getElem? (i := 290) (by rfl), by rfl⟩
set_option maxRecDepth 100000 in
theorem kw_162 : iw (.methodLink RX5 89 yX0_init) := ⟨List.mem_of_getElem? (i := 305) (by rfl), by rfl⟩
set_option maxRecDepth 100000 in
theorem kw_163 : iw (.code yX0_init cX0_init 4 none) := ⟨List.mem_of_getElem? (i := 307) (by rfl), by rfl⟩
set_option maxRecDepth 100000 in
theorem kw_164 : iw (.instanceMethod yX0_init) := ⟨List.mem_of_getElem? (i := 306) (by rfl), by rfl⟩
set_option maxRecDepth 100000 in
theorem kw_165 : iw (.methodLink RX5 92 yX5_cutIntoPieces) := ⟨List.mem_of_getElem? (i := 332) (by rfl), by rfl⟩
set_option maxRecDepth 100000 in
theorem kw_166 : iw (.code yX5_cutIntoPieces cX5_cutIntoPieces 6 none) := ⟨List.mem_of_getElem? (i := 335) (by rfl), by rfl⟩
set_option maxRecDepth 100000 in
theorem kw_167 : iw (.instanceMethod yX5_cutIntoPieces) := ⟨List.mem_of_getElem? (i := 334) (by rfl), by rfl⟩
set_option maxRecDepth 100000 in
theorem kw_168 : iw (.selects RX5 yX5_cutIntoPieces yX5_cutIntoPieces) := ⟨List.mem_of_getElem? (i := 3) (by rfl), by rfl⟩
set_option maxRecDepth 100000 in
theorem kw_169 : iw (.fieldLink RX5 96 "BundleLine$Frame" "row" "I") := ⟨List.mem_of_getElem? (i := 315) (by rfl), by rfl⟩
set_option maxRecDepth 100000 in
theorem kw_170 : iw (.fieldLink RX5 99 "BundleLine$Frame" "size" "I") := ⟨List.mem_of_getElem? (i := 311) (by rfl), by rfl⟩
set_option maxRecDepth 100000 in
theorem kw_171 : iw (.methodLink RX5 102 Lib.Math.min.name) := ⟨List.mem_of_getElem? (i := 336) (by rfl), by rfl⟩
set_option maxRecDepth 100000 in
theorem kw_172 : iw (.instantiable RX2 8) := ⟨List.mem_of_getElem? (i := 337) (by rfl), by rfl⟩
set_option maxRecDepth 100000 in
theorem kw_173 : iw (.initialized RX2) := ⟨List.mem_of_getElem? (i := 59) (by rfl), by rfl⟩
set_option maxRecDepth 100000 in
theorem kw_174 : iw (.methodLink RX5 108 yX0_sumOf) := ⟨List.mem_of_getElem? (i := 338) (by rfl), by rfl⟩
set_option maxRecDepth 100000 in
theorem kw_175 : iw (.code yX0_sumOf cX0_sumOf 5 (some .int)) := ⟨List.mem_of_getElem? (i := 341) (by rfl), by rfl⟩
set_option maxRecDepth 100000 in
theorem kw_176 : iw (.instanceMethod yX0_sumOf) := ⟨List.mem_of_getElem? (i := 339) (by rfl), by rfl⟩
set_option maxRecDepth 100000 in
theorem kw_177 : iw (.selects RX0 yX0_sumOf yX0_sumOf) := ⟨List.mem_of_getElem? (i := 340) (by rfl), by rfl⟩
set_option maxRecDepth 100000 in
theorem kw_178 : iw (.methodLink RX5 111 yX2_init) := ⟨List.mem_of_getElem? (i := 346) (by rfl), by rfl⟩
set_option maxRecDepth 100000 in
theorem kw_179 : iw (.code yX2_init cX2_init 5 none) := ⟨List.mem_of_getElem? (i := 348) (by rfl), by rfl⟩
set_option maxRecDepth 100000 in
theorem kw_180 : iw (.instanceMethod yX2_init) := ⟨List.mem_of_getElem? (i := 347) (by rfl), by rfl⟩
set_option maxRecDepth 100000 in
theorem kw_181 : iw (.methodLink RX5 114 yX5_countInState) := ⟨List.mem_of_getElem? (i := 381) (by rfl), by rfl⟩
set_option maxRecDepth 100000 in
theorem kw_182 : iw (.code yX5_countInState cX5_countInState 3 none) := ⟨List.mem_of_getElem? (i := 384) (by rfl), by rfl⟩
set_option maxRecDepth 100000 in
theorem kw_183 : iw (.instanceMethod yX5_countInState) := ⟨List.mem_of_getElem? (i := 383) (by rfl), by rfl⟩
set_option maxRecDepth 100000 in
theorem kw_184 : iw (.selects RX5 yX5_countInState yX5_countInState) := ⟨List.mem_of_getElem? (i := 4) (by rfl), by rfl⟩
set_option maxRecDepth 100000 in
theorem kw_185 : iw (.fieldLink RX5 118 "BundleLine" "time" "I") := ⟨List.mem_of_getElem? (i := 90) (by rfl), by rfl⟩
set_option maxRecDepth 100000 in
theorem kw_186 : iw (.methodLink RX5 121 yX5_layLostPieces) := ⟨List.mem_of_getElem? (i := 397) (by rfl), by rfl⟩
set_option maxRecDepth 100000 in
theorem kw_187 : iw (.code yX5_layLostPieces cX5_layLostPieces 4 none) := ⟨List.mem_of_getElem? (i := 400) (by rfl), by rfl⟩
set_option maxRecDepth 100000 in
theorem kw_188 : iw (.instanceMethod yX5_layLostPieces) := ⟨List.mem_of_getElem? (i := 399) (by rfl), by rfl⟩
set_option maxRecDepth 100000 in
theorem kw_189 : iw (.selects RX5 yX5_layLostPieces yX5_layLostPieces) := ⟨List.mem_of_getElem? (i := 5) (by rfl), by rfl⟩
set_option maxRecDepth 100000 in
theorem kw_190 : iw (.methodLink RX5 124 yX5_layNewPieces) := ⟨List.mem_of_getElem? (i := 436) (by rfl), by rfl⟩
set_option maxRecDepth 100000 in
theorem kw_191 : iw (.code yX5_layNewPieces cX5_layNewPieces 4 none) := ⟨List.mem_of_getElem? (i := 439) (by rfl), by rfl⟩
set_option maxRecDepth 100000 in
theorem kw_192 : iw (.instanceMethod yX5_layNewPieces) := ⟨List.mem_of_getElem? (i := 438) (by rfl), by rfl⟩
set_option maxRecDepth 100000 in
theorem kw_193 : iw (.selects RX5 yX5_layNewPieces yX5_layNewPieces) := ⟨List.mem_of_getElem? (i := 10) (by rfl), by rfl⟩
set_option maxRecDepth 100000 in
theorem kw_194 : iw (.methodLink RX5 127 yX5_sendOnLines) := ⟨List.mem_of_getElem? (i := 444) (by rfl), by rfl⟩
set_option maxRecDepth 100000 in
theorem kw_195 : iw (.code yX5_sendOnLines cX5_sendOnLines 3 none) := ⟨List.mem_of_getElem? (i := 447) (by rfl), by rfl⟩
set_option maxRecDepth 100000 in
theorem kw_196 : iw (.instanceMethod yX5_sendOnLines) := ⟨List.mem_of_getElem? (i := 446) (by rfl), by rfl⟩
set_option maxRecDepth 100000 in
theorem kw_197 : iw (.selects RX5 yX5_sendOnLines yX5_sendOnLines) := ⟨List.mem_of_getElem? (i := 12) (by rfl), by rfl⟩
set_option maxRecDepth 100000 in
theorem kw_198 : iw (.methodLink RX5 130 yX5_takeWhatComes) := ⟨List.mem_of_getElem? (i := 485) (by rfl), by rfl⟩
set_option maxRecDepth 100000 in
theorem kw_199 : iw (.code yX5_takeWhatComes cX5_takeWhatComes 3 none) := ⟨List.mem_of_getElem? (i := 488) (by rfl), by rfl⟩
set_option maxRecDepth 100000 in
theorem kw_200 : iw (.instanceMethod yX5_takeWhatComes) := ⟨List.mem_of_getElem? (i := 487) (by rfl), by rfl⟩
set_option maxRecDepth 100000 in
theorem kw_201 : iw (.selects RX5 yX5_takeWhatComes yX5_takeWhatComes) := ⟨List.mem_of_getElem? (i := 16) (by rfl), by rfl⟩
set_option maxRecDepth 100000 in
theorem kw_202 : iw (.methodLink RX5 133 yX5_restLines) := ⟨List.mem_of_getElem? (i := 545) (by rfl), by rfl⟩
set_option maxRecDepth 100000 in
theorem kw_203 : iw (.code yX5_restLines cX5_restLines 3 none) := ⟨List.mem_of_getElem? (i := 548) (by rfl), by rfl⟩
set_option maxRecDepth 100000 in
theorem kw_204 : iw (.instanceMethod yX5_restLines) := ⟨List.mem_of_getElem? (i := 547) (by rfl), by rfl⟩
set_option maxRecDepth 100000 in
theorem kw_205 : iw (.selects RX5 yX5_restLines yX5_restLines) := ⟨List.mem_of_getElem? (i := 23) (by rfl), by rfl⟩
set_option maxRecDepth 100000 in
theorem kw_206 : iw (.fieldLink RX5 136 "BundleLine" "givenPieces" "I") := ⟨List.mem_of_getElem? (i := 79) (by rfl), by rfl⟩
set_option maxRecDepth 100000 in
theorem kw_207 : iw (.fieldLink RX5 139 "BundleLine" "firstNew" "I") := ⟨List.mem_of_getElem? (i := 83) (by rfl), by rfl⟩
set_option maxRecDepth 100000 in
theorem kw_208 : iw (.methodLink RX5 142 yX5_pieceAt) := ⟨List.mem_of_getElem? (i := 401) (by rfl), by rfl⟩
set_option maxRecDepth 100000 in
theorem kw_209 : iw (.code yX5_pieceAt cX5_pieceAt 2 (some (.object "BundleLine$Piece"))) := ⟨List.mem_of_getElem? (i := 404) (by rfl), by rfl⟩
set_option maxRecDepth 100000 in
theorem kw_210 : iw (.instanceMethod yX5_pieceAt) := ⟨List.mem_of_getElem? (i := 403) (by rfl), by rfl⟩
set_option maxRecDepth 100000 in
theorem kw_211 : iw (.selects RX5 yX5_pieceAt yX5_pieceAt) := ⟨List.mem_of_getElem? (i := 6) (by rfl), by rfl⟩
set_option maxRecDepth 100000 in
theorem kw_212 : iw (.fieldLink RX5 146 "BundleLine$Piece" "state" "I") := ⟨List.mem_of_getElem? (i := 360) (by rfl), by rfl⟩
set_option maxRecDepth 100000 in
theorem kw_213 : iw (.methodLink RX5 149 yX5_lineFor) := ⟨List.mem_of_getElem? (i := 405) (by rfl), by rfl⟩
set_option maxRecDepth 100000 in
theorem kw_214 : iw (.code yX5_lineFor cX5_lineFor 5 (some (.object "BundleLine$Line"))) := ⟨List.mem_of_getElem? (i := 408) (by rfl), by rfl⟩
set_option maxRecDepth 100000 in
theorem kw_215 : iw (.instanceMethod yX5_lineFor) := ⟨List.mem_of_getElem? (i := 407) (by rfl), by rfl⟩
set_option maxRecDepth 100000 in
theorem kw_216 : iw (.selects RX5 yX5_lineFor yX5_lineFor) := ⟨List.mem_of_getElem? (i := 7) (by rfl), by rfl⟩
set_option maxRecDepth 100000 in
theorem kw_217 : iw (.methodLink RX5 153 yX5_layOn) := ⟨List.mem_of_getElem? (i := 424) (by rfl), by rfl⟩
set_option maxRecDepth 100000 in
theorem kw_218 : iw (.code yX5_layOn cX5_layOn 4 none) := ⟨List.mem_of_getElem? (i := 427) (by rfl), by rfl⟩
set_option maxRecDepth 100000 in
theorem kw_219 : iw (.instanceMethod yX5_layOn) := ⟨List.mem_of_getElem? (i := 426) (by rfl), by rfl⟩
set_option maxRecDepth 100000 in
theorem kw_220 : iw (.selects RX5 yX5_layOn yX5_layOn) := ⟨List.mem_of_getElem? (i := 8) (by rfl), by rfl⟩
set_option maxRecDepth 100000 in
theorem kw_221 : iw (.fieldLink RX5 157 "BundleLine$Piece" "size" "I") := ⟨List.mem_of_getElem? (i := 353) (by rfl), by rfl⟩
set_option maxRecDepth 100000 in
theorem kw_222 : iw (.methodLink RX5 158 yX5_creditLeft) := ⟨List.mem_of_getElem? (i := 440) (by rfl), by rfl⟩
set_option maxRecDepth 100000 in
theorem kw_223 : iw (.code yX5_creditLeft cX5_creditLeft 1 (some .int)) := ⟨List.mem_of_getElem? (i := 443) (by rfl), by rfl⟩
set_option maxRecDepth 100000 in
theorem kw_224 : iw (.instanceMethod yX5_creditLeft) := ⟨List.mem_of_getElem? (i := 442) (by rfl), by rfl⟩
set_option maxRecDepth 100000 in
theorem kw_225 : iw (.selects RX5 yX5_creditLeft yX5_creditLeft) := ⟨List.mem_of_getElem? (i := 11) (by rfl), by rfl⟩
set_option maxRecDepth 100000 in
theorem kw_226 : iw (.fieldLink RX5 162 "BundleLine" "heldBytes" "I") := ⟨List.mem_of_getElem? (i := 89) (by rfl), by rfl⟩
set_option maxRecDepth 100000 in
theorem kw_227 : iw (.methodLink RX5 165 yX1_takesMore) := ⟨List.mem_of_getElem? (i := 409) (by rfl), by rfl⟩
set_option maxRecDepth 100000 in
theorem kw_228 : iw (.code yX1_takesMore cX1_takesMore 1 (some .boolean)) := ⟨List.mem_of_getElem? (i := 412) (by rfl), by rfl⟩
set_option maxRecDepth 100000 in
theorem kw_229 : iw (.instanceMethod yX1_takesMore) := ⟨List.mem_of_getElem? (i := 410) (by rfl), by rfl⟩
set_option maxRecDepth 100000 in
theorem kw_230 : iw (.selects RX1 yX1_takesMore yX1_takesMore) := ⟨List.mem_of_getElem? (i := 411) (by rfl), by rfl⟩
set_option maxRecDepth 100000 in
theorem kw_231 : iw (.methodLink RX5 169 yX5_isBetter) := ⟨List.mem_of_getElem? (i := 413) (by rfl), by rfl⟩
set_option maxRecDepth 100000 in
theorem kw_232 : iw (.code yX5_isBetter cX5_isBetter 7 (some .boolean)) := ⟨List.mem_of_getElem? (i := 415) (by rfl), by rfl⟩
set_option maxRecDepth 100000 in
theorem kw_233 : iw (.static yX5_isBetter) := ⟨List.mem_of_getElem? (i := 414) (by rfl), by rfl⟩
set_option maxRecDepth 100000 in
theorem kw_234 : iw (.fieldLink RX5 173 "BundleLine$Line" "number" "I") := ⟨List.mem_of_getElem? (i := 201) (by rfl), by rfl⟩
set_option maxRecDepth 100000 in
theorem kw_235 : iw (.methodLink RX5 176 yX2_lossesOn) := ⟨List.mem_of_getElem? (i := 416) (by rfl), by rfl⟩
set_option maxRecDepth 100000 in
theorem kw_236 : iw (.code yX2_lossesOn cX2_lossesOn 2 (some .int)) := ⟨List.mem_of_getElem? (i := 419) (by rfl), by rfl⟩
set_option maxRecDepth 100000 in
theorem kw_237 : iw (.instanceMethod yX2_lossesOn) := ⟨List.mem_of_getElem? (i := 417) (by rfl), by rfl⟩
set_option maxRecDepth 100000 in
theorem kw_238 : iw (.selects RX2 yX2_lossesOn yX2_lossesOn) := ⟨List.mem_of_getElem? (i := 418) (by rfl), by rfl⟩
set_option maxRecDepth 100000 in
theorem kw_239 : iw (.methodLink RX5 179 yX1_ticksToSend) := ⟨List.mem_of_getElem? (i := 420) (by rfl), by rfl⟩
set_option maxRecDepth 100000 in
theorem kw_240 : iw (.code yX1_ticksToSend cX1_ticksToSend 2 (some .int)) := ⟨List.mem_of_getElem? (i := 423) (by rfl), by rfl⟩
set_option maxRecDepth 100000 in
theorem kw_241 : iw (.instanceMethod yX1_ticksToSend) := ⟨List.mem_of_getElem? (i := 421) (by rfl), by rfl⟩
set_option maxRecDepth 100000 in
theorem kw_242 : iw (.selects RX1 yX1_ticksToSend yX1_ticksToSend) := ⟨List.mem_of_getElem? (i := 422) (by rfl), by rfl⟩
set_option maxRecDepth 100000 in
theorem kw_243 : iw (.fieldLink RX5 182 "BundleLine$Line" "carried" "I") := ⟨List.mem_of_getElem? (i := 225) (by rfl), by rfl⟩
set_option maxRecDepth 100000 in
theorem kw_244 : iw (.methodLink RX5 185 yX5_become) := ⟨List.mem_of_getElem? (i := 428) (by rfl), by rfl⟩
set_option maxRecDepth 100000 in
theorem kw_245 : iw (.code yX5_become cX5_become 3 none) := ⟨List.mem_of_getElem? (i := 431) (by rfl), by rfl⟩
set_option maxRecDepth 100000 in
theorem kw_246 : iw (.instanceMethod yX5_become) := ⟨List.mem_of_getElem? (i := 430) (by rfl), by rfl⟩
set_option maxRecDepth 100000 in
theorem kw_247 : iw (.selects RX5 yX5_become yX5_become) := ⟨List.mem_of_getElem? (i := 9) (by rfl), by rfl⟩
set_option maxRecDepth 100000 in
theorem kw_248 : iw (.fieldLink RX5 189 "BundleLine$Piece" "tries" "I") := ⟨List.mem_of_getElem? (i := 361) (by rfl), by rfl⟩
set_option maxRecDepth 100000 in
theorem kw_249 : iw (.fieldLink RX5 192 "BundleLine$Piece" "line" "I") := ⟨List.mem_of_getElem? (i := 363) (by rfl), by rfl⟩
set_option maxRecDepth 100000 in
theorem kw_250 : iw (.fieldLink RX5 195 "BundleLine$Line" "queue" "LBundleLine$Queue;") := ⟨List.mem_of_getElem? (i := 209) (by rfl), by rfl⟩
set_option maxRecDepth 100000 in
theorem kw_251 : iw (.methodLink RX5 199 yX3_add) := ⟨List.mem_of_getElem? (i := 432) (by rfl), by rfl⟩
set_option maxRecDepth 100000 in
theorem kw_252 : iw (.code yX3_add cX3_add 4 none) := ⟨List.mem_of_getElem? (i := 435) (by rfl), by rfl⟩
set_option maxRecDepth 100000 in
theorem kw_253 : iw (.instanceMethod yX3_add) := ⟨List.mem_of_getElem? (i := 433) (by rfl), by rfl⟩
set_option maxRecDepth 100000 in
theorem kw_254 : iw (.selects RX3 yX3_add yX3_add) := ⟨List.mem_of_getElem? (i := 434) (by rfl), by rfl⟩
set_option maxRecDepth 100000 in
theorem kw_255 : iw (.methodLink RX5 204 yX1_sendAt) := ⟨List.mem_of_getElem? (i := 448) (by rfl), by rfl⟩
set_option maxRecDepth 100000 in
theorem kw_256 : iw (.code yX1_sendAt cX1_sendAt 3 none) := ⟨List.mem_of_getElem? (i := 451) (by rfl), by rfl⟩
set_option maxRecDepth 100000 in
theorem kw_257 : iw (.instanceMethod yX1_sendAt) := ⟨List.mem_of_getElem? (i := 449) (by rfl), by rfl⟩
set_option maxRecDepth 100000 in
theorem kw_258 : iw (.selects RX1 yX1_sendAt yX1_sendAt) := ⟨List.mem_of_getElem? (i := 450) (by rfl), by rfl⟩
set_option maxRecDepth 100000 in
theorem kw_259 : iw (.methodLink RX5 208 yX5_takeFrom) := ⟨List.mem_of_getElem? (i := 489) (by rfl), by rfl⟩
set_option maxRecDepth 100000 in
theorem kw_260 : iw (.code yX5_takeFrom cX5_takeFrom 7 none) := ⟨List.mem_of_getElem? (i := 492) (by rfl), by rfl⟩
set_option maxRecDepth 100000 in
theorem kw_261 : iw (.instanceMethod yX5_takeFrom) := ⟨List.mem_of_getElem? (i := 491) (by rfl), by rfl⟩
set_option maxRecDepth 100000 in
theorem kw_262 : iw (.selects RX5 yX5_takeFrom yX5_takeFrom) := ⟨List.mem_of_getElem? (i := 17) (by rfl), by rfl⟩
set_option maxRecDepth 100000 in
theorem kw_263 : iw (.methodLink RX5 212 yX5_giveFrames) := ⟨List.mem_of_getElem? (i := 541) (by rfl), by rfl⟩
set_option maxRecDepth 100000 in
theorem kw_264 : iw (.code yX5_giveFrames cX5_giveFrames 3 none) := ⟨List.mem_of_getElem? (i := 544) (by rfl), by rfl⟩
set_option maxRecDepth 100000 in
theorem kw_265 : iw (.instanceMethod yX5_giveFrames) := ⟨List.mem_of_getElem? (i := 543) (by rfl), by rfl⟩
set_option maxRecDepth 100000 in
theorem kw_266 : iw (.selects RX5 yX5_giveFrames yX5_giveFrames) := ⟨List.mem_of_getElem? (i := 22) (by rfl), by rfl⟩
set_option maxRecDepth 100000 in
theorem kw_267 : iw (.fieldLink RX5 215 "BundleLine$Line" "underWay" "LBundleLine$UnderWay;") := ⟨List.mem_of_getElem? (i := 211) (by rfl), by rfl⟩
set_option maxRecDepth 100000 in
theorem kw_268 : iw (.methodLink RX5 219 yX4_hasComeAt) := ⟨List.mem_of_getElem? (i := 493) (by rfl), by rfl⟩
set_option maxRecDepth 100000 in
theorem kw_269 : iw (.code yX4_hasComeAt cX4_hasComeAt 2 (some .boolean)) := ⟨List.mem_of_getElem? (i := 496) (by rfl), by rfl⟩
set_option maxRecDepth 100000 in
theorem kw_270 : iw (.instanceMethod yX4_hasComeAt) := ⟨List.mem_of_getElem? (i := 494) (by rfl), by rfl⟩
set_option maxRecDepth 100000 in
theorem kw_271 : iw (.selects RX4 yX4_hasComeAt yX4_hasComeAt) := ⟨List.mem_of_getElem? (i := 495) (by rfl), by rfl⟩
set_option maxRecDepth 100000 in
theorem kw_272 : iw (.methodLink RX5 225 yX4_numberOf) := ⟨List.mem_of_getElem? (i := 501) (by rfl), by rfl⟩
set_option maxRecDepth 100000 in
theorem kw_273 : iw (.code yX4_numberOf cX4_numberOf 2 (some .int)) := ⟨List.mem_of_getElem? (i := 504) (by rfl), by rfl⟩
set_option maxRecDepth 100000 in
theorem kw_274 : iw (.instanceMethod yX4_numberOf) := ⟨List.mem_of_getElem? (i := 502) (by rfl), by rfl⟩
set_option maxRecDepth 100000 in
theorem kw_275 : iw (.selects RX4 yX4_numberOf yX4_numberOf) := ⟨List.mem_of_getElem? (i := 503) (by rfl), by rfl⟩
set_option maxRecDepth 100000 in
theorem kw_276 : iw (.methodLink RX5 228 yX4_countOf) := ⟨List.mem_of_getElem? (i := 505) (by rfl), by rfl⟩
set_option maxRecDepth 100000 in
theorem kw_277 : iw (.code yX4_countOf cX4_countOf 2 (some .int)) := ⟨List.mem_of_getElem? (i := 508) (by rfl), by rfl⟩
set_option maxRecDepth 100000 in
theorem kw_278 : iw (.instanceMethod yX4_countOf) := ⟨List.mem_of_getElem? (i := 506) (by rfl), by rfl⟩
set_option maxRecDepth 100000 in
theorem kw_279 : iw (.selects RX4 yX4_countOf yX4_countOf) := ⟨List.mem_of_getElem? (i := 507) (by rfl), by rfl⟩
set_option maxRecDepth 100000 in
theorem kw_280 : iw (.methodLink RX5 231 yX4_marksOf) := ⟨List.mem_of_getElem? (i := 509) (by rfl), by rfl⟩
set_option maxRecDepth 100000 in
theorem kw_281 : iw (.methodLink RX5 234 yX4_dropFirst) := ⟨List.mem_of_getElem? (i := 513) (by rfl), by rfl⟩
set_option maxRecDepth 100000 in
theorem kw_282 : iw (.code yX4_dropFirst cX4_dropFirst 1 none) := ⟨List.mem_of_getElem? (i := 516) (by rfl), by rfl⟩
set_option maxRecDepth 100000 in
theorem kw_283 : iw (.instanceMethod yX4_dropFirst) := ⟨List.mem_of_getElem? (i := 514) (by rfl), by rfl⟩
set_option maxRecDepth 100000 in
theorem kw_284 : iw (.selects RX4 yX4_dropFirst yX4_dropFirst) := ⟨List.mem_of_getElem? (i := 515) (by rfl), by rfl⟩
set_option maxRecDepth 100000 in
theorem kw_285 : iw (.fieldLink RX5 237 "BundleLine$Line" "refusedPieces" "I") := ⟨List.mem_of_getElem? (i := 228) (by rfl), by rfl⟩
set_option maxRecDepth 100000 in
theorem kw_286 : iw (.methodLink RX5 240 yX5_loseUpTo) := ⟨List.mem_of_getElem? (i := 517) (by rfl), by rfl⟩
set_option maxRecDepth 100000 in
theorem kw_287 : iw (.code yX5_loseUpTo cX5_loseUpTo 4 none) := ⟨List.mem_of_getElem? (i := 520) (by rfl), by rfl⟩
set_option maxRecDepth 100000 in
theorem kw_288 : iw (.instanceMethod yX5_loseUpTo) := ⟨List.mem_of_getElem? (i := 519) (by rfl), by rfl⟩
set_option maxRecDepth 100000 in
theorem kw_289 : iw (.selects RX5 yX5_loseUpTo yX5_loseUpTo) := ⟨List.mem_of_getElem? (i := 18) (by rfl), by rfl⟩
set_option maxRecDepth 100000 in
theorem kw_290 : iw (.fieldLink RX5 244 "BundleLine$Line" "seen" "I") := ⟨List.mem_of_getElem? (i := 223) (by rfl), by rfl⟩
set_option maxRecDepth 100000 in
theorem kw_291 : iw (.methodLink RX5 247 yX5_arrive) := ⟨List.mem_of_getElem? (i := 533) (by rfl), by rfl⟩
set_option maxRecDepth 100000 in
theorem kw_292 : iw (.code yX5_arrive cX5_arrive 4 none) := ⟨List.mem_of_getElem? (i := 536) (by rfl), by rfl⟩
set_option maxRecDepth 100000 in
theorem kw_293 : iw (.instanceMethod yX5_arrive) := ⟨List.mem_of_getElem? (i := 535) (by rfl), by rfl⟩
set_option maxRecDepth 100000 in
theorem kw_294 : iw (.selects RX5 yX5_arrive yX5_arrive) := ⟨List.mem_of_getElem? (i := 20) (by rfl), by rfl⟩
set_option maxRecDepth 100000 in
theorem kw_295 : iw (.fieldLink RX5 250 "BundleLine$Piece" "frame" "I") := ⟨List.mem_of_getElem? (i := 351) (by rfl), by rfl⟩
set_option maxRecDepth 100000 in
theorem kw_296 : iw (.methodLink RX5 253 yX5_frameAt) := ⟨List.mem_of_getElem? (i := 537) (by rfl), by rfl⟩
set_option maxRecDepth 100000 in
theorem kw_297 : iw (.code yX5_frameAt cX5_frameAt 2 (some (.object "BundleLine$Frame"))) := ⟨List.mem_of_getElem? (i := 540) (by rfl), by rfl⟩
set_option maxRecDepth 100000 in
theorem kw_298 : iw (.instanceMethod yX5_frameAt) := ⟨List.mem_of_getElem? (i := 539) (by rfl), by rfl⟩
set_option maxRecDepth 100000 in
theorem kw_299 : iw (.selects RX5 yX5_frameAt yX5_frameAt) := ⟨List.mem_of_getElem? (i := 21) (by rfl), by rfl⟩
set_option maxRecDepth 100000 in
theorem kw_300 : iw (.fieldLink RX5 257 "BundleLine$Frame" "there" "I") := ⟨List.mem_of_getElem? (i := 316) (by rfl), by rfl⟩
set_option maxRecDepth 100000 in
theorem kw_301 : iw (.methodLink RX5 260 yX1_sentWith) := ⟨List.mem_of_getElem? (i := 521) (by rfl), by rfl⟩
set_option maxRecDepth 100000 in
theorem kw_302 : iw (.code yX1_sentWith cX1_sentWith 2 (some .int)) := ⟨List.mem_of_getElem? (i := 524) (by rfl), by rfl⟩
set_option maxRecDepth 100000 in
theorem kw_303 : iw (.instanceMethod yX1_sentWith) := ⟨List.mem_of_getElem? (i := 522) (by rfl), by rfl⟩
set_option maxRecDepth 100000 in
theorem kw_304 : iw (.selects RX1 yX1_sentWith yX1_sentWith) := ⟨List.mem_of_getElem? (i := 523) (by rfl), by rfl⟩
set_option maxRecDepth 100000 in
theorem kw_305 : iw (.methodLink RX5 263 yX5_loseOn) := ⟨List.mem_of_getElem? (i := 525) (by rfl), by rfl⟩
set_option maxRecDepth 100000 in
theorem kw_306 : iw (.code yX5_loseOn cX5_loseOn 4 none) := ⟨List.mem_of_getElem? (i := 528) (by rfl), by rfl⟩
set_option maxRecDepth 100000 in
theorem kw_307 : iw (.instanceMethod yX5_loseOn) := ⟨List.mem_of_getElem? (i := 527) (by rfl), by rfl⟩
set_option maxRecDepth 100000 in
theorem kw_308 : iw (.selects RX5 yX5_loseOn yX5_loseOn) := ⟨List.mem_of_getElem? (i := 19) (by rfl), by rfl⟩
set_option maxRecDepth 100000 in
theorem kw_309 : iw (.methodLink RX5 266 yX2_addLossOn) := ⟨List.mem_of_getElem? (i := 529) (by rfl), by rfl⟩
set_option maxRecDepth 100000 in
theorem kw_310 : iw (.code yX2_addLossOn cX2_addLossOn 2 none) := ⟨List.mem_of_getElem? (i := 532) (by rfl), by rfl⟩
set_option maxRecDepth 100000 in
theorem kw_311 : iw (.instanceMethod yX2_addLossOn) := ⟨List.mem_of_getElem? (i := 530) (by rfl), by rfl⟩
set_option maxRecDepth 100000 in
theorem kw_312 : iw (.selects RX2 yX2_addLossOn yX2_addLossOn) := ⟨List.mem_of_getElem? (i := 531) (by rfl), by rfl⟩
set_option maxRecDepth 100000 in
theorem kw_313 : iw (.fieldLink RX5 269 "BundleLine$Line" "lostPieces" "I") := ⟨List.mem_of_getElem? (i := 226) (by rfl), by rfl⟩
set_option maxRecDepth 100000 in
theorem kw_314 : iw (.fieldLink RX5 272 "BundleLine$Frame" "givenAt" "I") := ⟨List.mem_of_getElem? (i := 318) (by rfl), by rfl⟩
set_option maxRecDepth 100000 in
theorem kw_315 : iw (.fieldLink RX5 275 "BundleLine" "givenBytes" "I") := ⟨List.mem_of_getElem? (i := 80) (by rfl), by rfl⟩
set_option maxRecDepth 100000 in
theorem kw_316 : iw (.methodLink RX5 278 yX1_restsUnheard) := ⟨List.mem_of_getElem? (i := 549) (by rfl), by rfl⟩
set_option maxRecDepth 100000 in
theorem kw_317 : iw (.code yX1_restsUnheard cX1_restsUnheard 1 (some .boolean)) := ⟨List.mem_of_getElem? (i := 552) (by rfl), by rfl⟩
set_option maxRecDepth 100000 in
theorem kw_318 : iw (.instanceMethod yX1_restsUnheard) := ⟨List.mem_of_getElem? (i := 550) (by rfl), by rfl⟩
set_option maxRecDepth 100000 in
theorem kw_319 : iw (.selects RX1 yX1_restsUnheard yX1_restsUnheard) := ⟨List.mem_of_getElem? (i := 551) (by rfl), by rfl⟩
set_option maxRecDepth 100000 in
theorem kw_320 : iw (.fieldLink RX5 281 "BundleLine$Line" "emptiesLaid" "I") := ⟨List.mem_of_getElem? (i := 227) (by rfl), by rfl⟩
set_option maxRecDepth 100000 in
theorem kw_321 : iw (.methodLink RX5 284 yX4_firstWithout) := ⟨List.mem_of_getElem? (i := 557) (by rfl), by rfl⟩
set_option maxRecDepth 100000 in
theorem kw_322 : iw (.code yX4_firstWithout cX4_firstWithout 3 (some .int)) := ⟨List.mem_of_getElem? (i := 560) (by rfl), by rfl⟩
set_option maxRecDepth 100000 in
theorem kw_323 : iw (.instanceMethod yX4_firstWithout) := ⟨List.mem_of_getElem? (i := 558) (by rfl), by rfl⟩
set_option maxRecDepth 100000 in
theorem kw_324 : iw (.selects RX4 yX4_firstWithout yX4_firstWithout) := ⟨List.mem_of_getElem? (i := 559) (by rfl), by rfl⟩
set_option maxRecDepth 100000 in
theorem kw_325 : iw (.methodLink RX5 287 yX4_mark) := ⟨List.mem_of_getElem? (i := 562) (by rfl), by rfl⟩
set_option maxRecDepth 100000 in
theorem kw_326 : iw (.code yX4_mark cX4_mark 4 none) := ⟨List.mem_of_getElem? (i := 565) (by rfl), by rfl⟩
set_option maxRecDepth 100000 in
theorem kw_327 : iw (.instanceMethod yX4_mark) := ⟨List.mem_of_getElem? (i := 563) (by rfl), by rfl⟩
set_option maxRecDepth 100000 in
theorem kw_328 : iw (.selects RX4 yX4_mark yX4_mark) := ⟨List.mem_of_getElem? (i := 564) (by rfl), by rfl⟩
set_option maxRecDepth 100000 in
theorem kw_329 : iw (.fieldLink RX5 290 "BundleLine$Line" "isUp" "Z") := ⟨List.mem_of_getElem? (i := 215) (by rfl), by rfl⟩
set_option maxRecDepth 100000 in
theorem kw_330 : iw (.fieldLink RX5 294 "BundleLine$Queue" "length" "I") := ⟨List.mem_of_getElem? (i := 155) (by rfl), by rfl⟩
set_option maxRecDepth 100000 in
theorem kw_331 : iw (.methodLink RX5 297 yX3_numberOf) := ⟨List.mem_of_getElem? (i := 574) (by rfl), by rfl⟩
set_option maxRecDepth 100000 in
theorem kw_332 : iw (.fieldLink RX5 298 "BundleLine$Line" "count" "I") := ⟨List.mem_of_getElem? (i := 221) (by rfl), by rfl⟩
set_option maxRecDepth 100000 in
theorem kw_333 : iw (.methodLink RX5 301 yX1_goDown) := ⟨List.mem_of_getElem? (i := 575) (by rfl), by rfl⟩
set_option maxRecDepth 100000 in
theorem kw_334 : iw (.code yX1_goDown cX1_goDown 1 none) := ⟨List.mem_of_getElem? (i := 578) (by rfl), by rfl⟩
set_option maxRecDepth 100000 in
theorem kw_335 : iw (.instanceMethod yX1_goDown) := ⟨List.mem_of_getElem? (i := 576) (by rfl), by rfl⟩
set_option maxRecDepth 100000 in
theorem kw_336 : iw (.selects RX1 yX1_goDown yX1_goDown) := ⟨List.mem_of_getElem? (i := 577) (by rfl), by rfl⟩
set_option maxRecDepth 100000 in
theorem kw_337 : iw (.fieldLink RX5 304 "BundleLine$Line" "speed" "I") := ⟨List.mem_of_getElem? (i := 205) (by rfl), by rfl⟩
set_option maxRecDepth 100000 in
theorem kw_338 : iw (.fieldLink RX5 307 "BundleLine$Line" "delay" "I") := ⟨List.mem_of_getElem? (i := 207) (by rfl), by rfl⟩
set_option maxRecDepth 100000 in
theorem kw_339 : iw (.fieldLink RX5 310 "BundleLine$Queue" "waitingBytes" "I") := ⟨List.mem_of_getElem? (i := 158) (by rfl), by rfl⟩
set_option maxRecDepth 100000 in
theorem kw_340 : iw (.fieldLink RX5 313 "BundleLine$UnderWay" "length" "I") := ⟨List.mem_of_getElem? (i := 186) (by rfl), by rfl⟩
set_option maxRecDepth 100000 in
theorem kw_341 : iw (.fieldLink RX5 314 "BundleLine$Piece" "isLast" "Z") := ⟨List.mem_of_getElem? (i := 355) (by rfl), by rfl⟩
set_option maxRecDepth 100000 in
theorem kw_342 : iw (.fieldLink RX5 317 "BundleLine$Piece" "sum" "I") := ⟨List.mem_of_getElem? (i := 357) (by rfl), by rfl⟩
set_option maxRecDepth 100000 in
theorem kw_343 : iw (.methodLink RX5 320 yX4_comingOf) := ⟨List.mem_of_getElem? (i := 611) (by rfl), by rfl⟩
set_option maxRecDepth 100000 in
theorem kw_344 : iw (.methodLink RX5 323 yX5_lostPieceAt) := ⟨List.mem_of_getElem? (i := 616) (by rfl), by rfl⟩
set_option maxRecDepth 100000 in
theorem kw_345 : iw (.code yX5_lostPieceAt cX5_lostPieceAt 5 (some .int)) := ⟨List.mem_of_getElem? (i := 619) (by rfl), by rfl⟩
set_option maxRecDepth 100000 in
theorem kw_346 : iw (.instanceMethod yX5_lostPieceAt) := ⟨List.mem_of_getElem? (i := 618) (by rfl), by rfl⟩
set_option maxRecDepth 100000 in
theorem kw_347 : iw (.selects RX5 yX5_lostPieceAt yX5_lostPieceAt) := ⟨List.mem_of_getElem? (i := 24) (by rfl), by rfl⟩
set_option maxRecDepth 100000 in
theorem kw_348 : iw (.methodLink RX5 326 yX0_byteAt) := ⟨List.mem_of_getElem? (i := 624) (by rfl), by rfl⟩
set_option maxRecDepth 100000 in
theorem kw_349 : iw (.fieldLink RX5 329 "BundleLine$Frame" "firstPiece" "I") := ⟨List.mem_of_getElem? (i := 313) (by rfl), by rfl⟩
set_option maxRecDepth 100000 in
theorem kw_350 : iw (.methodLink RX5 332 yX5_witnessOf) := ⟨List.mem_of_getElem? (i := 641) (by rfl), by rfl⟩
set_option maxRecDepth 100000 in
theorem kw_351 : iw (.code yX5_witnessOf cX5_witnessOf 3 (some .int)) := ⟨List.mem_of_getElem? (i := 644) (by rfl), by rfl⟩
set_option maxRecDepth 100000 in
theorem kw_352 : iw (.instanceMethod yX5_witnessOf) := ⟨List.mem_of_getElem? (i := 643) (by rfl), by rfl⟩
set_option maxRecDepth 100000 in
theorem kw_353 : iw (.selects RX5 yX5_witnessOf yX5_witnessOf) := ⟨List.mem_of_getElem? (i := 25) (by rfl), by rfl⟩
set_option maxRecDepth 100000 in
theorem kw_354 : iw (.methodLink RX5 335 yX5_allEmptiesLaid) := ⟨List.mem_of_getElem? (i := 653) (by rfl), by rfl⟩
set_option maxRecDepth 100000 in
theorem kw_355 : iw (.code yX5_allEmptiesLaid cX5_allEmptiesLaid 4 (some .int)) := ⟨List.mem_of_getElem? (i := 656) (by rfl), by rfl⟩
set_option maxRecDepth 100000 in
theorem kw_356 : iw (.instanceMethod yX5_allEmptiesLaid) := ⟨List.mem_of_getElem? (i := 655) (by rfl), by rfl⟩
set_option maxRecDepth 100000 in
theorem kw_357 : iw (.selects RX5 yX5_allEmptiesLaid yX5_allEmptiesLaid) := ⟨List.mem_of_getElem? (i := 26) (by rfl), by rfl⟩
set_option maxRecDepth 100000 in
theorem kw_358 : iw (.methodLink RX5 338 yX5_refusalsOf) := ⟨List.mem_of_getElem? (i := 657) (by rfl), by rfl⟩
set_option maxRecDepth 100000 in
theorem kw_359 : iw (.code yX5_refusalsOf cX5_refusalsOf 2 (some .int)) := ⟨List.mem_of_getElem? (i := 660) (by rfl), by rfl⟩
set_option maxRecDepth 100000 in
theorem kw_360 : iw (.instanceMethod yX5_refusalsOf) := ⟨List.mem_of_getElem? (i := 659) (by rfl), by rfl⟩
set_option maxRecDepth 100000 in
theorem kw_361 : iw (.selects RX5 yX5_refusalsOf yX5_refusalsOf) := ⟨List.mem_of_getElem? (i := 27) (by rfl), by rfl⟩
set_option maxRecDepth 100000 in
theorem kw_362 : iw (.methodLink RX6 1 objectInit) := ⟨List.mem_of_getElem? (i := 666) (by rfl), by rfl⟩
set_option maxRecDepth 100000 in
theorem kw_363 : iw (.fieldLink RX6 7 "BundleLineModel" "kind" "[I") := ⟨List.mem_of_getElem? (i := 669) (by rfl), by rfl⟩
set_option maxRecDepth 100000 in
theorem kw_364 : iw (.fieldLink RX6 13 "BundleLineModel" "speed" "[I") := ⟨List.mem_of_getElem? (i := 670) (by rfl), by rfl⟩
set_option maxRecDepth 100000 in
theorem kw_365 : iw (.fieldLink RX6 16 "BundleLineModel" "delay" "[I") := ⟨List.mem_of_getElem? (i := 671) (by rfl), by rfl⟩
set_option maxRecDepth 100000 in
theorem kw_366 : iw (.arrayClass .boolean) := ⟨List.mem_of_getElem? (i := 810) (by rfl), by rfl⟩
set_option maxRecDepth 100000 in
theorem kw_367 : iw (.fieldLink RX6 19 "BundleLineModel" "up" "[Z") := ⟨List.mem_of_getElem? (i := 672) (by rfl), by rfl⟩
set_option maxRecDepth 100000 in
theorem kw_368 : iw (.fieldLink RX6 23 "BundleLineModel" "allowance" "[I") := ⟨List.mem_of_getElem? (i := 673) (by rfl), by rfl⟩
set_option maxRecDepth 100000 in
theorem kw_369 : iw (.fieldLink RX6 26 "BundleLineModel" "span" "[I") := ⟨List.mem_of_getElem? (i := 674) (by rfl), by rfl⟩
set_option maxRecDepth 100000 in
theorem kw_370 : iw (.fieldLink RX6 29 "BundleLineModel" "queue" "[I") := ⟨List.mem_of_getElem? (i := 675) (by rfl), by rfl⟩
set_option maxRecDepth 100000 in
theorem kw_371 : iw (.fieldLink RX6 32 "BundleLineModel" "queued" "[I") := ⟨List.mem_of_getElem? (i := 676) (by rfl), by rfl⟩
set_option maxRecDepth 100000 in
theorem kw_372 : iw (.fieldLink RX6 35 "BundleLineModel" "sent" "[I") := ⟨List.mem_of_getElem? (i := 677) (by rfl), by rfl⟩
set_option maxRecDepth 100000 in
theorem kw_373 : iw (.fieldLink RX6 38 "BundleLineModel" "underPiece" "[I") := ⟨List.mem_of_getElem? (i := 678) (by rfl), by rfl⟩
set_option maxRecDepth 100000 in
theorem kw_374 : iw (.fieldLink RX6 41 "BundleLineModel" "underCount" "[I") := ⟨List.mem_of_getElem? (i := 679) (by rfl), by rfl⟩
set_option maxRecDepth 100000 in
theorem kw_375 : iw (.fieldLink RX6 44 "BundleLineModel" "underTime" "[I") := ⟨List.mem_of_getElem? (i := 680) (by rfl), by rfl⟩
set_option maxRecDepth 100000 in
theorem kw_376 : iw (.fieldLink RX6 47 "BundleLineModel" "underHow" "[I") := ⟨List.mem_of_getElem? (i := 681) (by rfl), by rfl⟩
set_option maxRecDepth 100000 in
theorem kw_377 : iw (.fieldLink RX6 50 "BundleLineModel" "firstUnder" "[I") := ⟨List.mem_of_getElem? (i := 682) (by rfl), by rfl⟩
set_option maxRecDepth 100000 in
theorem kw_378 : iw (.fieldLink RX6 53 "BundleLineModel" "under" "[I") := ⟨List.mem_of_getElem? (i := 683) (by rfl), by rfl⟩
set_option maxRecDepth 100000 in
theorem kw_379 : iw (.fieldLink RX6 56 "BundleLineModel" "count" "[I") := ⟨List.mem_of_getElem? (i := 684) (by rfl), by rfl⟩
set_option maxRecDepth 100000 in
theorem kw_380 : iw (.fieldLink RX6 59 "BundleLineModel" "seen" "[I") := ⟨List.mem_of_getElem? (i := 685) (by rfl), by rfl⟩
set_option maxRecDepth 100000 in
theorem kw_381 : iw (.fieldLink RX6 62 "BundleLineModel" "carried" "[I") := ⟨List.mem_of_getElem? (i := 686) (by rfl), by rfl⟩
set_option maxRecDepth 100000 in
theorem kw_382 : iw (.fieldLink RX6 65 "BundleLineModel" "lostBy" "[I") := ⟨List.mem_of_getElem? (i := 687) (by rfl), by rfl⟩
set_option maxRecDepth 100000 in
theorem kw_383 : iw (.fieldLink RX6 68 "BundleLineModel" "empties" "[I") := ⟨List.mem_of_getElem? (i := 688) (by rfl), by rfl⟩
set_option maxRecDepth 100000 in
theorem kw_384 : iw (.fieldLink RX6 71 "BundleLineModel" "refusedBy" "[I") := ⟨List.mem_of_getElem? (i := 689) (by rfl), by rfl⟩
set_option maxRecDepth 100000 in
theorem kw_385 : iw (.fieldLink RX6 74 "BundleLineModel" "inTick" "[I") := ⟨List.mem_of_getElem? (i := 690) (by rfl), by rfl⟩
set_option maxRecDepth 100000 in
theorem kw_386 : iw (.fieldLink RX6 77 "BundleLineModel" "state" "[I") := ⟨List.mem_of_getElem? (i := 692) (by rfl), by rfl⟩
set_option maxRecDepth 100000 in
theorem kw_387 : iw (.fieldLink RX6 80 "BundleLineModel" "frameOf" "[I") := ⟨List.mem_of_getElem? (i := 693) (by rfl), by rfl⟩
set_option maxRecDepth 100000 in
theorem kw_388 : iw (.fieldLink RX6 83 "BundleLineModel" "from" "[I") := ⟨List.mem_of_getElem? (i := 694) (by rfl), by rfl⟩
set_option maxRecDepth 100000 in
theorem kw_389 : iw (.fieldLink RX6 86 "BundleLineModel" "size" "[I") := ⟨List.mem_of_getElem? (i := 695) (by rfl), by rfl⟩
set_option maxRecDepth 100000 in
theorem kw_390 : iw (.fieldLink RX6 89 "BundleLineModel" "tries" "[I") := ⟨List.mem_of_getElem? (i := 696) (by rfl), by rfl⟩
set_option maxRecDepth 100000 in
theorem kw_391 : iw (.fieldLink RX6 92 "BundleLineModel" "lineOf" "[I") := ⟨List.mem_of_getElem? (i := 697) (by rfl), by rfl⟩
set_option maxRecDepth 100000 in
theorem kw_392 : iw (.fieldLink RX6 95 "BundleLineModel" "countOf" "[I") := ⟨List.mem_of_getElem? (i := 698) (by rfl), by rfl⟩
set_option maxRecDepth 100000 in
theorem kw_393 : iw (.fieldLink RX6 98 "BundleLineModel" "lostOn" "[I") := ⟨List.mem_of_getElem? (i := 699) (by rfl), by rfl⟩
set_option maxRecDepth 100000 in
theorem kw_394 : iw (.fieldLink RX6 101 "BundleLineModel" "bytesOf" "[I") := ⟨List.mem_of_getElem? (i := 702) (by rfl), by rfl⟩
set_option maxRecDepth 100000 in
theorem kw_395 : iw (.fieldLink RX6 104 "BundleLineModel" "firstPiece" "[I") := ⟨List.mem_of_getElem? (i := 703) (by rfl), by rfl⟩
set_option maxRecDepth 100000 in
theorem kw_396 : iw (.fieldLink RX6 107 "BundleLineModel" "piecesOf" "[I") := ⟨List.mem_of_getElem? (i := 704) (by rfl), by rfl⟩
set_option maxRecDepth 100000 in
theorem kw_397 : iw (.fieldLink RX6 110 "BundleLineModel" "givenAt" "[I") := ⟨List.mem_of_getElem? (i := 705) (by rfl), by rfl⟩
set_option maxRecDepth 100000 in
theorem kw_398 : iw (.fieldLink RX6 113 "BundleLineModel" "frameBegin" "[I") := ⟨List.mem_of_getElem? (i := 706) (by rfl), by rfl⟩
set_option maxRecDepth 100000 in
theorem kw_399 : iw (.constant RX6 116 1200000) := ⟨List.mem_of_getElem? (i := 667) (by rfl), by rfl⟩
set_option maxRecDepth 100000 in
theorem kw_400 : iw (.fieldLink RX6 117 "BundleLineModel" "bytes" "[B") := ⟨List.mem_of_getElem? (i := 707) (by rfl), by rfl⟩
set_option maxRecDepth 100000 in
theorem kw_401 : iw (.fieldLink RX6 121 "BundleLineModel" "tray" "[B") := ⟨List.mem_of_getElem? (i := 709) (by rfl), by rfl⟩
set_option maxRecDepth 100000 in
theorem kw_402 : iw (.fieldLink RX6 124 "BundleLineModel" "cut" "I") := ⟨List.mem_of_getElem? (i := 711) (by rfl), by rfl⟩
set_option maxRecDepth 100000 in
theorem kw_403 : iw (.fieldLink RX6 128 "BundleLineModel" "room" "I") := ⟨List.mem_of_getElem? (i := 712) (by rfl), by rfl⟩
set_option maxRecDepth 100000 in
theorem kw_404 : iw (.fieldLink RX6 131 "BundleLineModel" "refused" "[I") := ⟨List.mem_of_getElem? (i := 714) (by rfl), by rfl⟩
set_option maxRecDepth 100000 in
theorem kw_405 : iw (.fieldLink RX6 134 "BundleLineModel" "lines" "I") := ⟨List.mem_of_getElem? (i := 668) (by rfl), by rfl⟩
set_option maxRecDepth 100000 in
theorem kw_406 : iw (.methodLink RX6 137 yX6_in) := ⟨List.mem_of_getElem? (i := 815) (by rfl), by rfl⟩
set_option maxRecDepth 100000 in
theorem kw_407 : iw (.initialized RX6) := ⟨List.mem_of_getElem? (i := 51) (by rfl), by rfl⟩
set_option maxRecDepth 100000 in
theorem kw_408 : iw (.code yX6_in cX6_in 3 (some .boolean)) := ⟨List.mem_of_getElem? (i := 817) (by rfl), by rfl⟩
set_option maxRecDepth 100000 in
theorem kw_409 : iw (.static yX6_in) := ⟨List.mem_of_getElem? (i := 816) (by rfl), by rfl⟩
set_option maxRecDepth 100000 in
theorem kw_410 : iw (.methodLink RX6 141 yX6_refuse) := ⟨List.mem_of_getElem? (i := 818) (by rfl), by rfl⟩
set_option maxRecDepth 100000 in
theorem kw_411 : iw (.code yX6_refuse cX6_refuse 2 (some .int)) := ⟨List.mem_of_getElem? (i := 821) (by rfl), by rfl⟩
set_option maxRecDepth 100000 in
theorem kw_412 : iw (.instanceMethod yX6_refuse) := ⟨List.mem_of_getElem? (i := 820) (by rfl), by rfl⟩
set_option maxRecDepth 100000 in
theorem kw_413 : iw (.selects RX6 yX6_refuse yX6_refuse) := ⟨List.mem_of_getElem? (i := 28) (by rfl), by rfl⟩
set_option maxRecDepth 100000 in
theorem kw_414 : iw (.methodLink RX6 145 yX6_isLine) := ⟨List.mem_of_getElem? (i := 826) (by rfl), by rfl⟩
set_option maxRecDepth 100000 in
theorem kw_415 : iw (.code yX6_isLine cX6_isLine 2 (some .boolean)) := ⟨List.mem_of_getElem? (i := 829) (by rfl), by rfl⟩
set_option maxRecDepth 100000 in
theorem kw_416 : iw (.instanceMethod yX6_isLine) := ⟨List.mem_of_getElem? (i := 828) (by rfl), by rfl⟩
set_option maxRecDepth 100000 in
theorem kw_417 : iw (.selects RX6 yX6_isLine yX6_isLine) := ⟨List.mem_of_getElem? (i := 29) (by rfl), by rfl⟩
set_option maxRecDepth 100000 in
theorem kw_418 : iw (.fieldLink RX6 149 "BundleLineModel" "trayed" "I") := ⟨List.mem_of_getElem? (i := 710) (by rfl), by rfl⟩
set_option maxRecDepth 100000 in
theorem kw_419 : iw (.fieldLink RX6 152 "BundleLineModel" "frames" "I") := ⟨List.mem_of_getElem? (i := 700) (by rfl), by rfl⟩
set_option maxRecDepth 100000 in
theorem kw_420 : iw (.fieldLink RX6 155 "BundleLineModel" "pieces" "I") := ⟨List.mem_of_getElem? (i := 691) (by rfl), by rfl⟩
set_option maxRecDepth 100000 in
theorem kw_421 : iw (.fieldLink RX6 158 "BundleLineModel" "given" "I") := ⟨List.mem_of_getElem? (i := 701) (by rfl), by rfl⟩
set_option maxRecDepth 100000 in
theorem kw_422 : iw (.fieldLink RX6 161 "BundleLineModel" "filled" "I") := ⟨List.mem_of_getElem? (i := 708) (by rfl), by rfl⟩
set_option maxRecDepth 100000 in
theorem kw_423 : iw (.methodLink RX6 164 yX6_sizeOf) := ⟨List.mem_of_getElem? (i := 878) (by rfl), by rfl⟩
set_option maxRecDepth 100000 in
theorem kw_424 : iw (.code yX6_sizeOf cX6_sizeOf 2 (some .int)) := ⟨List.mem_of_getElem? (i := 881) (by rfl), by rfl⟩
set_option maxRecDepth 100000 in
theorem kw_425 : iw (.instanceMethod yX6_sizeOf) := ⟨List.mem_of_getElem? (i := 880) (by rfl), by rfl⟩
set_option maxRecDepth 100000 in
theorem kw_426 : iw (.selects RX6 yX6_sizeOf yX6_sizeOf) := ⟨List.mem_of_getElem? (i := 35) (by rfl), by rfl⟩
set_option maxRecDepth 100000 in
theorem kw_427 : iw (.methodLink RX6 167 yX6_waiting) := ⟨List.mem_of_getElem? (i := 874) (by rfl), by rfl⟩
set_option maxRecDepth 100000 in
theorem kw_428 : iw (.code yX6_waiting cX6_waiting 4 (some .int)) := ⟨List.mem_of_getElem? (i := 877) (by rfl), by rfl⟩
set_option maxRecDepth 100000 in
theorem kw_429 : iw (.instanceMethod yX6_waiting) := ⟨List.mem_of_getElem? (i := 876) (by rfl), by rfl⟩
set_option maxRecDepth 100000 in
theorem kw_430 : iw (.selects RX6 yX6_waiting yX6_waiting) := ⟨List.mem_of_getElem? (i := 34) (by rfl), by rfl⟩
set_option maxRecDepth 100000 in
theorem kw_431 : iw (.methodLink RX6 170 yX6_isBetter) := ⟨List.mem_of_getElem? (i := 870) (by rfl), by rfl⟩
set_option maxRecDepth 100000 in
theorem kw_432 : iw (.code yX6_isBetter cX6_isBetter 6 (some .boolean)) := ⟨List.mem_of_getElem? (i := 873) (by rfl), by rfl⟩
set_option maxRecDepth 100000 in
theorem kw_433 : iw (.instanceMethod yX6_isBetter) := ⟨List.mem_of_getElem? (i := 872) (by rfl), by rfl⟩
set_option maxRecDepth 100000 in
theorem kw_434 : iw (.selects RX6 yX6_isBetter yX6_isBetter) := ⟨List.mem_of_getElem? (i := 33) (by rfl), by rfl⟩
set_option maxRecDepth 100000 in
theorem kw_435 : iw (.methodLink RX6 173 yX6_bestLine) := ⟨List.mem_of_getElem? (i := 866) (by rfl), by rfl⟩
set_option maxRecDepth 100000 in
theorem kw_436 : iw (.code yX6_bestLine cX6_bestLine 4 (some .int)) := ⟨List.mem_of_getElem? (i := 869) (by rfl), by rfl⟩
set_option maxRecDepth 100000 in
theorem kw_437 : iw (.instanceMethod yX6_bestLine) := ⟨List.mem_of_getElem? (i := 868) (by rfl), by rfl⟩
set_option maxRecDepth 100000 in
theorem kw_438 : iw (.selects RX6 yX6_bestLine yX6_bestLine) := ⟨List.mem_of_getElem? (i := 32) (by rfl), by rfl⟩
set_option maxRecDepth 100000 in
theorem kw_439 : iw (.methodLink RX6 176 yX6_layOn) := ⟨List.mem_of_getElem? (i := 882) (by rfl), by rfl⟩
set_option maxRecDepth 100000 in
theorem kw_440 : iw (.code yX6_layOn cX6_layOn 3 none) := ⟨List.mem_of_getElem? (i := 885) (by rfl), by rfl⟩
set_option maxRecDepth 100000 in
theorem kw_441 : iw (.instanceMethod yX6_layOn) := ⟨List.mem_of_getElem? (i := 884) (by rfl), by rfl⟩
set_option maxRecDepth 100000 in
theorem kw_442 : iw (.selects RX6 yX6_layOn yX6_layOn) := ⟨List.mem_of_getElem? (i := 36) (by rfl), by rfl⟩
set_option maxRecDepth 100000 in
theorem kw_443 : iw (.methodLink RX6 180 yX6_credit) := ⟨List.mem_of_getElem? (i := 886) (by rfl), by rfl⟩
set_option maxRecDepth 100000 in
theorem kw_444 : iw (.code yX6_credit cX6_credit 3 (some .int)) := ⟨List.mem_of_getElem? (i := 853) (by rfl), by rfl⟩
set_option maxRecDepth 100000 in
theorem kw_445 : iw (.instanceMethod yX6_credit) := ⟨List.mem_of_getElem? (i := 851) (by rfl), by rfl⟩
set_option maxRecDepth 100000 in
theorem kw_446 : iw (.selects RX6 yX6_credit yX6_credit) := ⟨List.mem_of_getElem? (i := 852) (by rfl), by rfl⟩
set_option maxRecDepth 100000 in
theorem kw_447 : iw (.fieldLink RX6 184 "BundleLineModel" "time" "I") := ⟨List.mem_of_getElem? (i := 713) (by rfl), by rfl⟩
set_option maxRecDepth 100000 in
theorem kw_448 : iw (.methodLink RX6 187 yX6_allowed) := ⟨List.mem_of_getElem? (i := 891) (by rfl), by rfl⟩
set_option maxRecDepth 100000 in
theorem kw_449 : iw (.code yX6_allowed cX6_allowed 4 (some .int)) := ⟨List.mem_of_getElem? (i := 894) (by rfl), by rfl⟩
set_option maxRecDepth 100000 in
theorem kw_450 : iw (.instanceMethod yX6_allowed) := ⟨List.mem_of_getElem? (i := 893) (by rfl), by rfl⟩
set_option maxRecDepth 100000 in
theorem kw_451 : iw (.selects RX6 yX6_allowed yX6_allowed) := ⟨List.mem_of_getElem? (i := 38) (by rfl), by rfl⟩
set_option maxRecDepth 100000 in
theorem kw_452 : iw (.methodLink RX6 190 yX6_sendFirst) := ⟨List.mem_of_getElem? (i := 895) (by rfl), by rfl⟩
set_option maxRecDepth 100000 in
theorem kw_453 : iw (.code yX6_sendFirst cX6_sendFirst 4 none) := ⟨List.mem_of_getElem? (i := 898) (by rfl), by rfl⟩
set_option maxRecDepth 100000 in
theorem kw_454 : iw (.instanceMethod yX6_sendFirst) := ⟨List.mem_of_getElem? (i := 897) (by rfl), by rfl⟩
set_option maxRecDepth 100000 in
theorem kw_455 : iw (.selects RX6 yX6_sendFirst yX6_sendFirst) := ⟨List.mem_of_getElem? (i := 39) (by rfl), by rfl⟩
set_option maxRecDepth 100000 in
theorem kw_456 : iw (.methodLink RX6 194 yX6_comes) := ⟨List.mem_of_getElem? (i := 903) (by rfl), by rfl⟩
set_option maxRecDepth 100000 in
theorem kw_457 : iw (.code yX6_comes cX6_comes 5 none) := ⟨List.mem_of_getElem? (i := 906) (by rfl), by rfl⟩
set_option maxRecDepth 100000 in
theorem kw_458 : iw (.instanceMethod yX6_comes) := ⟨List.mem_of_getElem? (i := 905) (by rfl), by rfl⟩
set_option maxRecDepth 100000 in
theorem kw_459 : iw (.selects RX6 yX6_comes yX6_comes) := ⟨List.mem_of_getElem? (i := 41) (by rfl), by rfl⟩
set_option maxRecDepth 100000 in
theorem kw_460 : iw (.methodLink RX6 198 yX6_lose) := ⟨List.mem_of_getElem? (i := 907) (by rfl), by rfl⟩
set_option maxRecDepth 100000 in
theorem kw_461 : iw (.code yX6_lose cX6_lose 3 none) := ⟨List.mem_of_getElem? (i := 910) (by rfl), by rfl⟩
set_option maxRecDepth 100000 in
theorem kw_462 : iw (.instanceMethod yX6_lose) := ⟨List.mem_of_getElem? (i := 909) (by rfl), by rfl⟩
set_option maxRecDepth 100000 in
theorem kw_463 : iw (.selects RX6 yX6_lose yX6_lose) := ⟨List.mem_of_getElem? (i := 42) (by rfl), by rfl⟩
set_option maxRecDepth 100000 in
theorem kw_464 : iw (.methodLink RX6 201 yX6_laying) := ⟨List.mem_of_getElem? (i := 862) (by rfl), by rfl⟩
set_option maxRecDepth 100000 in
theorem kw_465 : iw (.code yX6_laying cX6_laying 4 none) := ⟨List.mem_of_getElem? (i := 865) (by rfl), by rfl⟩
set_option maxRecDepth 100000 in
theorem kw_466 : iw (.instanceMethod yX6_laying) := ⟨List.mem_of_getElem? (i := 864) (by rfl), by rfl⟩
set_option maxRecDepth 100000 in
theorem kw_467 : iw (.selects RX6 yX6_laying yX6_laying) := ⟨List.mem_of_getElem? (i := 31) (by rfl), by rfl⟩
set_option maxRecDepth 100000 in
theorem kw_468 : iw (.methodLink RX6 204 yX6_sending) := ⟨List.mem_of_getElem? (i := 887) (by rfl), by rfl⟩
set_option maxRecDepth 100000 in
theorem kw_469 : iw (.code yX6_sending cX6_sending 5 none) := ⟨List.mem_of_getElem? (i := 890) (by rfl), by rfl⟩
set_option maxRecDepth 100000 in
theorem kw_470 : iw (.instanceMethod yX6_sending) := ⟨List.mem_of_getElem? (i := 889) (by rfl), by rfl⟩
set_option maxRecDepth 100000 in
theorem kw_471 : iw (.selects RX6 yX6_sending yX6_sending) := ⟨List.mem_of_getElem? (i := 37) (by rfl), by rfl⟩
set_option maxRecDepth 100000 in
theorem kw_472 : iw (.methodLink RX6 207 yX6_coming) := ⟨List.mem_of_getElem? (i := 899) (by rfl), by rfl⟩
set_option maxRecDepth 100000 in
theorem kw_473 : iw (.code yX6_coming cX6_coming 3 none) := ⟨List.mem_of_getElem? (i := 902) (by rfl), by rfl⟩
set_option maxRecDepth 100000 in
theorem kw_474 : iw (.instanceMethod yX6_coming) := ⟨List.mem_of_getElem? (i := 901) (by rfl), by rfl⟩
set_option maxRecDepth 100000 in
theorem kw_475 : iw (.selects RX6 yX6_coming yX6_coming) := ⟨List.mem_of_getElem? (i := 40) (by rfl), by rfl⟩
set_option maxRecDepth 100000 in
theorem kw_476 : iw (.methodLink RX6 210 yX6_isWhole) := ⟨List.mem_of_getElem? (i := 911) (by rfl), by rfl⟩
set_option maxRecDepth 100000 in
theorem kw_477 : iw (.code yX6_isWhole cX6_isWhole 4 (some .boolean)) := ⟨List.mem_of_getElem? (i := 914) (by rfl), by rfl⟩
set_option maxRecDepth 100000 in
theorem kw_478 : iw (.instanceMethod yX6_isWhole) := ⟨List.mem_of_getElem? (i := 913) (by rfl), by rfl⟩
set_option maxRecDepth 100000 in
theorem kw_479 : iw (.selects RX6 yX6_isWhole yX6_isWhole) := ⟨List.mem_of_getElem? (i := 43) (by rfl), by rfl⟩
set_option maxRecDepth 100000 in
theorem kw_480 : iw (.methodLink RX6 213 yX6_step) := ⟨List.mem_of_getElem? (i := 858) (by rfl), by rfl⟩
set_option maxRecDepth 100000 in
theorem kw_481 : iw (.code yX6_step cX6_step 2 none) := ⟨List.mem_of_getElem? (i := 861) (by rfl), by rfl⟩
set_option maxRecDepth 100000 in
theorem kw_482 : iw (.instanceMethod yX6_step) := ⟨List.mem_of_getElem? (i := 860) (by rfl), by rfl⟩
set_option maxRecDepth 100000 in
theorem kw_483 : iw (.selects RX6 yX6_step yX6_step) := ⟨List.mem_of_getElem? (i := 30) (by rfl), by rfl⟩
set_option maxRecDepth 100000 in
theorem kw_484 : iw (.methodLink RX6 216 yX6_firstNot) := ⟨List.mem_of_getElem? (i := 919) (by rfl), by rfl⟩
set_option maxRecDepth 100000 in
theorem kw_485 : iw (.code yX6_firstNot cX6_firstNot 5 (some .int)) := ⟨List.mem_of_getElem? (i := 922) (by rfl), by rfl⟩
set_option maxRecDepth 100000 in
theorem kw_486 : iw (.instanceMethod yX6_firstNot) := ⟨List.mem_of_getElem? (i := 921) (by rfl), by rfl⟩
set_option maxRecDepth 100000 in
theorem kw_487 : iw (.selects RX6 yX6_firstNot yX6_firstNot) := ⟨List.mem_of_getElem? (i := 44) (by rfl), by rfl⟩
set_option maxRecDepth 100000 in
theorem kw_488 : iw (.methodLink RX6 220 yX6_isPiece) := ⟨List.mem_of_getElem? (i := 943) (by rfl), by rfl⟩
set_option maxRecDepth 100000 in
theorem kw_489 : iw (.code yX6_isPiece cX6_isPiece 2 (some .boolean)) := ⟨List.mem_of_getElem? (i := 946) (by rfl), by rfl⟩
set_option maxRecDepth 100000 in
theorem kw_490 : iw (.instanceMethod yX6_isPiece) := ⟨List.mem_of_getElem? (i := 945) (by rfl), by rfl⟩
set_option maxRecDepth 100000 in
theorem kw_491 : iw (.selects RX6 yX6_isPiece yX6_isPiece) := ⟨List.mem_of_getElem? (i := 45) (by rfl), by rfl⟩
set_option maxRecDepth 100000 in
theorem kw_492 : iw (.methodLink RX6 223 yX6_sumOf) := ⟨List.mem_of_getElem? (i := 947) (by rfl), by rfl⟩
set_option maxRecDepth 100000 in
theorem kw_493 : iw (.code yX6_sumOf cX6_sumOf 4 (some .int)) := ⟨List.mem_of_getElem? (i := 950) (by rfl), by rfl⟩
set_option maxRecDepth 100000 in
theorem kw_494 : iw (.instanceMethod yX6_sumOf) := ⟨List.mem_of_getElem? (i := 949) (by rfl), by rfl⟩
set_option maxRecDepth 100000 in
theorem kw_495 : iw (.selects RX6 yX6_sumOf yX6_sumOf) := ⟨List.mem_of_getElem? (i := 46) (by rfl), by rfl⟩
set_option maxRecDepth 100000 in
theorem kw_496 : iw (.methodLink RX6 226 yX6_isFrame) := ⟨List.mem_of_getElem? (i := 971) (by rfl), by rfl⟩
set_option maxRecDepth 100000 in
theorem kw_497 : iw (.code yX6_isFrame cX6_isFrame 2 (some .boolean)) := ⟨List.mem_of_getElem? (i := 974) (by rfl), by rfl⟩
set_option maxRecDepth 100000 in
theorem kw_498 : iw (.instanceMethod yX6_isFrame) := ⟨List.mem_of_getElem? (i := 973) (by rfl), by rfl⟩
set_option maxRecDepth 100000 in
theorem kw_499 : iw (.selects RX6 yX6_isFrame yX6_isFrame) := ⟨List.mem_of_getElem? (i := 47) (by rfl), by rfl⟩
set_option maxRecDepth 100000 in
theorem kw_500 : iw (.methodLink RX6 229 yX6_witness) := ⟨List.mem_of_getElem? (i := 991) (by rfl), by rfl⟩
set_option maxRecDepth 100000 in
theorem kw_501 : iw (.code yX6_witness cX6_witness 4 (some .int)) := ⟨List.mem_of_getElem? (i := 986) (by rfl), by rfl⟩
set_option maxRecDepth 100000 in
theorem kw_502 : iw (.instanceMethod yX6_witness) := ⟨List.mem_of_getElem? (i := 984) (by rfl), by rfl⟩
set_option maxRecDepth 100000 in
theorem kw_503 : iw (.selects RX6 yX6_witness yX6_witness) := ⟨List.mem_of_getElem? (i := 985) (by rfl), by rfl⟩
set_option maxRecDepth 100000 in
theorem kw_504 : iw (.methodLink RX6 232 yX6_many) := ⟨List.mem_of_getElem? (i := 996) (by rfl), by rfl⟩
set_option maxRecDepth 100000 in
theorem kw_505 : iw (.code yX6_many cX6_many 4 (some .int)) := ⟨List.mem_of_getElem? (i := 999) (by rfl), by rfl⟩
set_option maxRecDepth 100000 in
theorem kw_506 : iw (.instanceMethod yX6_many) := ⟨List.mem_of_getElem? (i := 998) (by rfl), by rfl⟩
set_option maxRecDepth 100000 in
theorem kw_507 : iw (.selects RX6 yX6_many yX6_many) := ⟨List.mem_of_getElem? (i := 48) (by rfl), by rfl⟩
set_option maxRecDepth 100000 in
theorem kw_508 : iw (.methodLink RJ7 310 ⟨"[B", "clone", "()Ljava/lang/Object;"⟩) := ⟨List.mem_of_getElem? (i := 292) (by rfl), by rfl⟩
set_option maxRecDepth 100000 in
theorem kw_509 : iw (.sameMethod "[B" "java/lang/Object" "clone" "()Ljava/lang/Object;") := ⟨List.mem_of_getElem? (i := 293) (by rfl), by rfl⟩
set_option maxRecDepth 100000 in
theorem kw_510 : iw (.native ⟨"java/lang/Object", "clone", "()Ljava/lang/Object;"⟩) := ⟨List.mem_of_getElem? (i := 294) (by rfl), by rfl⟩
set_option maxRecDepth 100000 in
theorem kw_511 : iw (.instanceMethod ⟨"java/lang/Object", "clone", "()Ljava/lang/Object;"⟩) := ⟨List.mem_of_getElem? (i := 295) (by rfl), by rfl⟩
set_option maxRecDepth 100000 in
theorem kw_512 : iw (.selects "[B" ⟨"[B", "clone", "()Ljava/lang/Object;"⟩ ⟨"java/lang/Object", "clone", "()Ljava/lang/Object;"⟩) := ⟨List.mem_of_getElem? (i := 296) (by rfl), by rfl⟩
set_option maxRecDepth 100000 in
theorem kw_513 : iw (.classLink RJ7 311 "[B") := ⟨List.mem_of_getElem? (i := 298) (by rfl), by rfl⟩
set_option maxRecDepth 100000 in
theorem kw_514 : iw (.methodLink RJ7 304 Lib.Math.min.name) := ⟨List.mem_of_getElem? (i := 299) (by rfl), by rfl⟩
set_option maxRecDepth 100000 in
theorem kw_515 : iw (.methodLink RJ7 150 arraycopyName) := ⟨List.mem_of_getElem? (i := 302) (by rfl), by rfl⟩
set_option maxRecDepth 100000 in
theorem kw_516 : iw (.native arraycopyName) := ⟨List.mem_of_getElem? (i := 304) (by rfl), by rfl⟩
set_option maxRecDepth 100000 in
theorem kw_517 : iw (.static arraycopyName) := ⟨List.mem_of_getElem? (i := 303) (by rfl), by rfl⟩
set_option maxRecDepth 100000 in
theorem kw_518 : iw (.initialized "java/lang/System") := ⟨List.mem_of_getElem? (i := 58) (by rfl), by rfl⟩
set_option maxRecDepth 100000 in
theorem kw_519 : iw (.classLink RL 7 RX5) := ⟨List.mem_of_getElem? (i := 60) (by rfl), by rfl⟩
set_option maxRecDepth 100000 in
theorem kw_520 : iw (.instantiable RX5 18) := ⟨List.mem_of_getElem? (i := 61) (by rfl), by rfl⟩
set_option maxRecDepth 100000 in
theorem kw_521 : iw (.methodLink RL 9 yX5_init) := ⟨List.mem_of_getElem? (i := 62) (by rfl), by rfl⟩
set_option maxRecDepth 100000 in
theorem kw_522 : iw (.code yX5_init cX5_init 1 none) := ⟨List.mem_of_getElem? (i := 64) (by rfl), by rfl⟩
set_option maxRecDepth 100000 in
theorem kw_523 : iw (.instanceMethod yX5_init) := ⟨List.mem_of_getElem? (i := 63) (by rfl), by rfl⟩
set_option maxRecDepth 100000 in
theorem kw_524 : iw (.classLink RL 10 RX6) := ⟨List.mem_of_getElem? (i := 661) (by rfl), by rfl⟩
set_option maxRecDepth 100000 in
theorem kw_525 : iw (.instantiable RX6 47) := ⟨List.mem_of_getElem? (i := 662) (by rfl), by rfl⟩
set_option maxRecDepth 100000 in
theorem kw_526 : iw (.methodLink RL 12 yX6_init) := ⟨List.mem_of_getElem? (i := 663) (by rfl), by rfl⟩
set_option maxRecDepth 100000 in
theorem kw_527 : iw (.code yX6_init cX6_init 1 none) := ⟨List.mem_of_getElem? (i := 665) (by rfl), by rfl⟩
set_option maxRecDepth 100000 in
theorem kw_528 : iw (.instanceMethod yX6_init) := ⟨List.mem_of_getElem? (i := 664) (by rfl), by rfl⟩
set_option maxRecDepth 100000 in
theorem kw_529 : iw (.methodLink RL 13 yX5_open) := ⟨List.mem_of_getElem? (i := 131) (by rfl), by rfl⟩
set_option maxRecDepth 100000 in
theorem kw_530 : iw (.code yX5_open cX5_open 5 (some .int)) := ⟨List.mem_of_getElem? (i := 134) (by rfl), by rfl⟩
set_option maxRecDepth 100000 in
theorem kw_531 : iw (.instanceMethod yX5_open) := ⟨List.mem_of_getElem? (i := 132) (by rfl), by rfl⟩
set_option maxRecDepth 100000 in
theorem kw_532 : iw (.selects RX5 yX5_open yX5_open) := ⟨List.mem_of_getElem? (i := 133) (by rfl), by rfl⟩
set_option maxRecDepth 100000 in
theorem kw_533 : iw (.methodLink RL 17 yX6_open) := ⟨List.mem_of_getElem? (i := 811) (by rfl), by rfl⟩
set_option maxRecDepth 100000 in
theorem kw_534 : iw (.code yX6_open cX6_open 5 (some .int)) := ⟨List.mem_of_getElem? (i := 814) (by rfl), by rfl⟩
set_option maxRecDepth 100000 in
theorem kw_535 : iw (.instanceMethod yX6_open) := ⟨List.mem_of_getElem? (i := 812) (by rfl), by rfl⟩
set_option maxRecDepth 100000 in
theorem kw_536 : iw (.selects RX6 yX6_open yX6_open) := ⟨List.mem_of_getElem? (i := 813) (by rfl), by rfl⟩
set_option maxRecDepth 100000 in
theorem kw_537 : iw (.methodLink RL 18 yX5_lease) := ⟨List.mem_of_getElem? (i := 264) (by rfl), by rfl⟩
set_option maxRecDepth 100000 in
theorem kw_538 : iw (.code yX5_lease cX5_lease 5 (some .int)) := ⟨List.mem_of_getElem? (i := 267) (by rfl), by rfl⟩
set_option maxRecDepth 100000 in
theorem kw_539 : iw (.instanceMethod yX5_lease) := ⟨List.mem_of_getElem? (i := 265) (by rfl), by rfl⟩
set_option maxRecDepth 100000 in
theorem kw_540 : iw (.selects RX5 yX5_lease yX5_lease) := ⟨List.mem_of_getElem? (i := 266) (by rfl), by rfl⟩
set_option maxRecDepth 100000 in
theorem kw_541 : iw (.methodLink RL 21 yX6_lease) := ⟨List.mem_of_getElem? (i := 822) (by rfl), by rfl⟩
set_option maxRecDepth 100000 in
theorem kw_542 : iw (.code yX6_lease cX6_lease 4 (some .int)) := ⟨List.mem_of_getElem? (i := 825) (by rfl), by rfl⟩
set_option maxRecDepth 100000 in
theorem kw_543 : iw (.instanceMethod yX6_lease) := ⟨List.mem_of_getElem? (i := 823) (by rfl), by rfl⟩
set_option maxRecDepth 100000 in
theorem kw_544 : iw (.selects RX6 yX6_lease yX6_lease) := ⟨List.mem_of_getElem? (i := 824) (by rfl), by rfl⟩
set_option maxRecDepth 100000 in
theorem kw_545 : iw (.constantLong RL 22 4294967295) := ⟨List.mem_of_getElem? (i := 1000) (by rfl), by rfl⟩
set_option maxRecDepth 100000 in
theorem kw_546 : iw (.methodLink RL 24 yX5_type) := ⟨List.mem_of_getElem? (i := 272) (by rfl), by rfl⟩
set_option maxRecDepth 100000 in
theorem kw_547 : iw (.code yX5_type cX5_type 5 (some .int)) := ⟨List.mem_of_getElem? (i := 275) (by rfl), by rfl⟩
set_option maxRecDepth 100000 in
theorem kw_548 : iw (.instanceMethod yX5_type) := ⟨List.mem_of_getElem? (i := 273) (by rfl), by rfl⟩
set_option maxRecDepth 100000 in
theorem kw_549 : iw (.selects RX5 yX5_type yX5_type) := ⟨List.mem_of_getElem? (i := 274) (by rfl), by rfl⟩
set_option maxRecDepth 100000 in
theorem kw_550 : iw (.methodLink RL 28 yX6_type) := ⟨List.mem_of_getElem? (i := 830) (by rfl), by rfl⟩
set_option maxRecDepth 100000 in
theorem kw_551 : iw (.code yX6_type cX6_type 5 (some .int)) := ⟨List.mem_of_getElem? (i := 833) (by rfl), by rfl⟩
set_option maxRecDepth 100000 in
theorem kw_552 : iw (.instanceMethod yX6_type) := ⟨List.mem_of_getElem? (i := 831) (by rfl), by rfl⟩
set_option maxRecDepth 100000 in
theorem kw_553 : iw (.selects RX6 yX6_type yX6_type) := ⟨List.mem_of_getElem? (i := 832) (by rfl), by rfl⟩
set_option maxRecDepth 100000 in
theorem kw_554 : iw (.methodLink RL 29 yX5_grow) := ⟨List.mem_of_getElem? (i := 276) (by rfl), by rfl⟩
set_option maxRecDepth 100000 in
theorem kw_555 : iw (.code yX5_grow cX5_grow 4 (some .int)) := ⟨List.mem_of_getElem? (i := 279) (by rfl), by rfl⟩
set_option maxRecDepth 100000 in
theorem kw_556 : iw (.instanceMethod yX5_grow) := ⟨List.mem_of_getElem? (i := 277) (by rfl), by rfl⟩
set_option maxRecDepth 100000 in
theorem kw_557 : iw (.selects RX5 yX5_grow yX5_grow) := ⟨List.mem_of_getElem? (i := 278) (by rfl), by rfl⟩
set_option maxRecDepth 100000 in
theorem kw_558 : iw (.methodLink RL 33 yX6_grow) := ⟨List.mem_of_getElem? (i := 834) (by rfl), by rfl⟩
set_option maxRecDepth 100000 in
theorem kw_559 : iw (.code yX6_grow cX6_grow 3 (some .int)) := ⟨List.mem_of_getElem? (i := 837) (by rfl), by rfl⟩
set_option maxRecDepth 100000 in
theorem kw_560 : iw (.instanceMethod yX6_grow) := ⟨List.mem_of_getElem? (i := 835) (by rfl), by rfl⟩
set_option maxRecDepth 100000 in
theorem kw_561 : iw (.selects RX6 yX6_grow yX6_grow) := ⟨List.mem_of_getElem? (i := 836) (by rfl), by rfl⟩
set_option maxRecDepth 100000 in
theorem kw_562 : iw (.methodLink RL 34 yX5_frame) := ⟨List.mem_of_getElem? (i := 280) (by rfl), by rfl⟩
set_option maxRecDepth 100000 in
theorem kw_563 : iw (.code yX5_frame cX5_frame 5 (some .int)) := ⟨List.mem_of_getElem? (i := 283) (by rfl), by rfl⟩
set_option maxRecDepth 100000 in
theorem kw_564 : iw (.instanceMethod yX5_frame) := ⟨List.mem_of_getElem? (i := 281) (by rfl), by rfl⟩
set_option maxRecDepth 100000 in
theorem kw_565 : iw (.selects RX5 yX5_frame yX5_frame) := ⟨List.mem_of_getElem? (i := 282) (by rfl), by rfl⟩
set_option maxRecDepth 100000 in
theorem kw_566 : iw (.methodLink RL 38 yX6_frame) := ⟨List.mem_of_getElem? (i := 838) (by rfl), by rfl⟩
set_option maxRecDepth 100000 in
theorem kw_567 : iw (.code yX6_frame cX6_frame 5 (some .int)) := ⟨List.mem_of_getElem? (i := 841) (by rfl), by rfl⟩
set_option maxRecDepth 100000 in
theorem kw_568 : iw (.instanceMethod yX6_frame) := ⟨List.mem_of_getElem? (i := 839) (by rfl), by rfl⟩
set_option maxRecDepth 100000 in
theorem kw_569 : iw (.selects RX6 yX6_frame yX6_frame) := ⟨List.mem_of_getElem? (i := 840) (by rfl), by rfl⟩
set_option maxRecDepth 100000 in
theorem kw_570 : iw (.methodLink RL 39 yX5_cut) := ⟨List.mem_of_getElem? (i := 385) (by rfl), by rfl⟩
set_option maxRecDepth 100000 in
theorem kw_571 : iw (.code yX5_cut cX5_cut 3 (some .int)) := ⟨List.mem_of_getElem? (i := 388) (by rfl), by rfl⟩
set_option maxRecDepth 100000 in
theorem kw_572 : iw (.instanceMethod yX5_cut) := ⟨List.mem_of_getElem? (i := 386) (by rfl), by rfl⟩
set_option maxRecDepth 100000 in
theorem kw_573 : iw (.selects RX5 yX5_cut yX5_cut) := ⟨List.mem_of_getElem? (i := 387) (by rfl), by rfl⟩
set_option maxRecDepth 100000 in
theorem kw_574 : iw (.methodLink RL 42 yX6_cut) := ⟨List.mem_of_getElem? (i := 842) (by rfl), by rfl⟩
set_option maxRecDepth 100000 in
theorem kw_575 : iw (.code yX6_cut cX6_cut 3 (some .int)) := ⟨List.mem_of_getElem? (i := 845) (by rfl), by rfl⟩
set_option maxRecDepth 100000 in
theorem kw_576 : iw (.instanceMethod yX6_cut) := ⟨List.mem_of_getElem? (i := 843) (by rfl), by rfl⟩
set_option maxRecDepth 100000 in
theorem kw_577 : iw (.selects RX6 yX6_cut yX6_cut) := ⟨List.mem_of_getElem? (i := 844) (by rfl), by rfl⟩
set_option maxRecDepth 100000 in
theorem kw_578 : iw (.methodLink RL 43 yX5_room) := ⟨List.mem_of_getElem? (i := 389) (by rfl), by rfl⟩
set_option maxRecDepth 100000 in
theorem kw_579 : iw (.code yX5_room cX5_room 3 (some .int)) := ⟨List.mem_of_getElem? (i := 392) (by rfl), by rfl⟩
set_option maxRecDepth 100000 in
theorem kw_580 : iw (.instanceMethod yX5_room) := ⟨List.mem_of_getElem? (i := 390) (by rfl), by rfl⟩
set_option maxRecDepth 100000 in
theorem kw_581 : iw (.selects RX5 yX5_room yX5_room) := ⟨List.mem_of_getElem? (i := 391) (by rfl), by rfl⟩
set_option maxRecDepth 100000 in
theorem kw_582 : iw (.methodLink RL 46 yX6_room) := ⟨List.mem_of_getElem? (i := 846) (by rfl), by rfl⟩
set_option maxRecDepth 100000 in
theorem kw_583 : iw (.code yX6_room cX6_room 3 (some .int)) := ⟨List.mem_of_getElem? (i := 849) (by rfl), by rfl⟩
set_option maxRecDepth 100000 in
theorem kw_584 : iw (.instanceMethod yX6_room) := ⟨List.mem_of_getElem? (i := 847) (by rfl), by rfl⟩
set_option maxRecDepth 100000 in
theorem kw_585 : iw (.selects RX6 yX6_room yX6_room) := ⟨List.mem_of_getElem? (i := 848) (by rfl), by rfl⟩
set_option maxRecDepth 100000 in
theorem kw_586 : iw (.methodLink RL 47 yX5_tick) := ⟨List.mem_of_getElem? (i := 393) (by rfl), by rfl⟩
set_option maxRecDepth 100000 in
theorem kw_587 : iw (.code yX5_tick cX5_tick 4 (some .int)) := ⟨List.mem_of_getElem? (i := 396) (by rfl), by rfl⟩
set_option maxRecDepth 100000 in
theorem kw_588 : iw (.instanceMethod yX5_tick) := ⟨List.mem_of_getElem? (i := 394) (by rfl), by rfl⟩
set_option maxRecDepth 100000 in
theorem kw_589 : iw (.selects RX5 yX5_tick yX5_tick) := ⟨List.mem_of_getElem? (i := 395) (by rfl), by rfl⟩
set_option maxRecDepth 100000 in
theorem kw_590 : iw (.methodLink RL 50 yX6_tick) := ⟨List.mem_of_getElem? (i := 854) (by rfl), by rfl⟩
set_option maxRecDepth 100000 in
theorem kw_591 : iw (.code yX6_tick cX6_tick 4 (some .int)) := ⟨List.mem_of_getElem? (i := 857) (by rfl), by rfl⟩
set_option maxRecDepth 100000 in
theorem kw_592 : iw (.instanceMethod yX6_tick) := ⟨List.mem_of_getElem? (i := 855) (by rfl), by rfl⟩
set_option maxRecDepth 100000 in
theorem kw_593 : iw (.selects RX6 yX6_tick yX6_tick) := ⟨List.mem_of_getElem? (i := 856) (by rfl), by rfl⟩
set_option maxRecDepth 100000 in
theorem kw_594 : iw (.methodLink RL 51 yX5_lose) := ⟨List.mem_of_getElem? (i := 553) (by rfl), by rfl⟩
set_option maxRecDepth 100000 in
theorem kw_595 : iw (.code yX5_lose cX5_lose 5 (some .int)) := ⟨List.mem_of_getElem? (i := 556) (by rfl), by rfl⟩
set_option maxRecDepth 100000 in
theorem kw_596 : iw (.instanceMethod yX5_lose) := ⟨List.mem_of_getElem? (i := 554) (by rfl), by rfl⟩
set_option maxRecDepth 100000 in
theorem kw_597 : iw (.selects RX5 yX5_lose yX5_lose) := ⟨List.mem_of_getElem? (i := 555) (by rfl), by rfl⟩
set_option maxRecDepth 100000 in
theorem kw_598 : iw (.methodLink RL 54 yX6_lose_) := ⟨List.mem_of_getElem? (i := 915) (by rfl), by rfl⟩
set_option maxRecDepth 100000 in
theorem kw_599 : iw (.code yX6_lose_ cX6_lose_ 3 (some .int)) := ⟨List.mem_of_getElem? (i := 918) (by rfl), by rfl⟩
set_option maxRecDepth 100000 in
theorem kw_600 : iw (.instanceMethod yX6_lose_) := ⟨List.mem_of_getElem? (i := 916) (by rfl), by rfl⟩
set_option maxRecDepth 100000 in
theorem kw_601 : iw (.selects RX6 yX6_lose_ yX6_lose_) := ⟨List.mem_of_getElem? (i := 917) (by rfl), by rfl⟩
set_option maxRecDepth 100000 in
theorem kw_602 : iw (.methodLink RL 55 yX5_bend) := ⟨List.mem_of_getElem? (i := 566) (by rfl), by rfl⟩
set_option maxRecDepth 100000 in
theorem kw_603 : iw (.code yX5_bend cX5_bend 8 (some .int)) := ⟨List.mem_of_getElem? (i := 569) (by rfl), by rfl⟩
set_option maxRecDepth 100000 in
theorem kw_604 : iw (.instanceMethod yX5_bend) := ⟨List.mem_of_getElem? (i := 567) (by rfl), by rfl⟩
set_option maxRecDepth 100000 in
theorem kw_605 : iw (.selects RX5 yX5_bend yX5_bend) := ⟨List.mem_of_getElem? (i := 568) (by rfl), by rfl⟩
set_option maxRecDepth 100000 in
theorem kw_606 : iw (.methodLink RL 58 yX6_bend) := ⟨List.mem_of_getElem? (i := 923) (by rfl), by rfl⟩
set_option maxRecDepth 100000 in
theorem kw_607 : iw (.code yX6_bend cX6_bend 5 (some .int)) := ⟨List.mem_of_getElem? (i := 926) (by rfl), by rfl⟩
set_option maxRecDepth 100000 in
theorem kw_608 : iw (.instanceMethod yX6_bend) := ⟨List.mem_of_getElem? (i := 924) (by rfl), by rfl⟩
set_option maxRecDepth 100000 in
theorem kw_609 : iw (.selects RX6 yX6_bend yX6_bend) := ⟨List.mem_of_getElem? (i := 925) (by rfl), by rfl⟩
set_option maxRecDepth 100000 in
theorem kw_610 : iw (.methodLink RL 59 yX5_fall) := ⟨List.mem_of_getElem? (i := 570) (by rfl), by rfl⟩
set_option maxRecDepth 100000 in
theorem kw_611 : iw (.code yX5_fall cX5_fall 5 (some .int)) := ⟨List.mem_of_getElem? (i := 573) (by rfl), by rfl⟩
set_option maxRecDepth 100000 in
theorem kw_612 : iw (.instanceMethod yX5_fall) := ⟨List.mem_of_getElem? (i := 571) (by rfl), by rfl⟩
set_option maxRecDepth 100000 in
theorem kw_613 : iw (.selects RX5 yX5_fall yX5_fall) := ⟨List.mem_of_getElem? (i := 572) (by rfl), by rfl⟩
set_option maxRecDepth 100000 in
theorem kw_614 : iw (.methodLink RL 62 yX6_fall) := ⟨List.mem_of_getElem? (i := 927) (by rfl), by rfl⟩
set_option maxRecDepth 100000 in
theorem kw_615 : iw (.code yX6_fall cX6_fall 4 (some .int)) := ⟨List.mem_of_getElem? (i := 930) (by rfl), by rfl⟩
set_option maxRecDepth 100000 in
theorem kw_616 : iw (.instanceMethod yX6_fall) := ⟨List.mem_of_getElem? (i := 928) (by rfl), by rfl⟩
set_option maxRecDepth 100000 in
theorem kw_617 : iw (.selects RX6 yX6_fall yX6_fall) := ⟨List.mem_of_getElem? (i := 929) (by rfl), by rfl⟩
set_option maxRecDepth 100000 in
theorem kw_618 : iw (.methodLink RL 63 yX5_rise) := ⟨List.mem_of_getElem? (i := 587) (by rfl), by rfl⟩
set_option maxRecDepth 100000 in
theorem kw_619 : iw (.code yX5_rise cX5_rise 3 (some .int)) := ⟨List.mem_of_getElem? (i := 590) (by rfl), by rfl⟩
set_option maxRecDepth 100000 in
theorem kw_620 : iw (.instanceMethod yX5_rise) := ⟨List.mem_of_getElem? (i := 588) (by rfl), by rfl⟩
set_option maxRecDepth 100000 in
theorem kw_621 : iw (.selects RX5 yX5_rise yX5_rise) := ⟨List.mem_of_getElem? (i := 589) (by rfl), by rfl⟩
set_option maxRecDepth 100000 in
theorem kw_622 : iw (.methodLink RL 66 yX6_rise) := ⟨List.mem_of_getElem? (i := 931) (by rfl), by rfl⟩
set_option maxRecDepth 100000 in
theorem kw_623 : iw (.code yX6_rise cX6_rise 2 (some .int)) := ⟨List.mem_of_getElem? (i := 934) (by rfl), by rfl⟩
set_option maxRecDepth 100000 in
theorem kw_624 : iw (.instanceMethod yX6_rise) := ⟨List.mem_of_getElem? (i := 932) (by rfl), by rfl⟩
set_option maxRecDepth 100000 in
theorem kw_625 : iw (.selects RX6 yX6_rise yX6_rise) := ⟨List.mem_of_getElem? (i := 933) (by rfl), by rfl⟩
set_option maxRecDepth 100000 in
theorem kw_626 : iw (.methodLink RL 67 yX5_line) := ⟨List.mem_of_getElem? (i := 591) (by rfl), by rfl⟩
set_option maxRecDepth 100000 in
theorem kw_627 : iw (.code yX5_line cX5_line 4 (some .int)) := ⟨List.mem_of_getElem? (i := 594) (by rfl), by rfl⟩
set_option maxRecDepth 100000 in
theorem kw_628 : iw (.instanceMethod yX5_line) := ⟨List.mem_of_getElem? (i := 592) (by rfl), by rfl⟩
set_option maxRecDepth 100000 in
theorem kw_629 : iw (.selects RX5 yX5_line yX5_line) := ⟨List.mem_of_getElem? (i := 593) (by rfl), by rfl⟩
set_option maxRecDepth 100000 in
theorem kw_630 : iw (.methodLink RL 71 yX6_line) := ⟨List.mem_of_getElem? (i := 935) (by rfl), by rfl⟩
set_option maxRecDepth 100000 in
theorem kw_631 : iw (.code yX6_line cX6_line 3 (some .int)) := ⟨List.mem_of_getElem? (i := 938) (by rfl), by rfl⟩
set_option maxRecDepth 100000 in
theorem kw_632 : iw (.instanceMethod yX6_line) := ⟨List.mem_of_getElem? (i := 936) (by rfl), by rfl⟩
set_option maxRecDepth 100000 in
theorem kw_633 : iw (.selects RX6 yX6_line yX6_line) := ⟨List.mem_of_getElem? (i := 937) (by rfl), by rfl⟩
set_option maxRecDepth 100000 in
theorem kw_634 : iw (.methodLink RL 72 yX5_piece) := ⟨List.mem_of_getElem? (i := 595) (by rfl), by rfl⟩
set_option maxRecDepth 100000 in
theorem kw_635 : iw (.code yX5_piece cX5_piece 4 (some .int)) := ⟨List.mem_of_getElem? (i := 598) (by rfl), by rfl⟩
set_option maxRecDepth 100000 in
theorem kw_636 : iw (.instanceMethod yX5_piece) := ⟨List.mem_of_getElem? (i := 596) (by rfl), by rfl⟩
set_option maxRecDepth 100000 in
theorem kw_637 : iw (.selects RX5 yX5_piece yX5_piece) := ⟨List.mem_of_getElem? (i := 597) (by rfl), by rfl⟩
set_option maxRecDepth 100000 in
theorem kw_638 : iw (.methodLink RL 75 yX6_piece) := ⟨List.mem_of_getElem? (i := 939) (by rfl), by rfl⟩
set_option maxRecDepth 100000 in
theorem kw_639 : iw (.code yX6_piece cX6_piece 3 (some .int)) := ⟨List.mem_of_getElem? (i := 942) (by rfl), by rfl⟩
set_option maxRecDepth 100000 in
theorem kw_640 : iw (.instanceMethod yX6_piece) := ⟨List.mem_of_getElem? (i := 940) (by rfl), by rfl⟩
set_option maxRecDepth 100000 in
theorem kw_641 : iw (.selects RX6 yX6_piece yX6_piece) := ⟨List.mem_of_getElem? (i := 941) (by rfl), by rfl⟩
set_option maxRecDepth 100000 in
theorem kw_642 : iw (.methodLink RL 76 yX5_lostOn) := ⟨List.mem_of_getElem? (i := 599) (by rfl), by rfl⟩
set_option maxRecDepth 100000 in
theorem kw_643 : iw (.code yX5_lostOn cX5_lostOn 4 (some .int)) := ⟨List.mem_of_getElem? (i := 602) (by rfl), by rfl⟩
set_option maxRecDepth 100000 in
theorem kw_644 : iw (.instanceMethod yX5_lostOn) := ⟨List.mem_of_getElem? (i := 600) (by rfl), by rfl⟩
set_option maxRecDepth 100000 in
theorem kw_645 : iw (.selects RX5 yX5_lostOn yX5_lostOn) := ⟨List.mem_of_getElem? (i := 601) (by rfl), by rfl⟩
set_option maxRecDepth 100000 in
theorem kw_646 : iw (.methodLink RL 79 yX6_lostOn) := ⟨List.mem_of_getElem? (i := 951) (by rfl), by rfl⟩
set_option maxRecDepth 100000 in
theorem kw_647 : iw (.code yX6_lostOn cX6_lostOn 3 (some .int)) := ⟨List.mem_of_getElem? (i := 954) (by rfl), by rfl⟩
set_option maxRecDepth 100000 in
theorem kw_648 : iw (.instanceMethod yX6_lostOn) := ⟨List.mem_of_getElem? (i := 952) (by rfl), by rfl⟩
set_option maxRecDepth 100000 in
theorem kw_649 : iw (.selects RX6 yX6_lostOn yX6_lostOn) := ⟨List.mem_of_getElem? (i := 953) (by rfl), by rfl⟩
set_option maxRecDepth 100000 in
theorem kw_650 : iw (.methodLink RL 80 yX5_queued) := ⟨List.mem_of_getElem? (i := 603) (by rfl), by rfl⟩
set_option maxRecDepth 100000 in
theorem kw_651 : iw (.code yX5_queued cX5_queued 4 (some .int)) := ⟨List.mem_of_getElem? (i := 606) (by rfl), by rfl⟩
set_option maxRecDepth 100000 in
theorem kw_652 : iw (.instanceMethod yX5_queued) := ⟨List.mem_of_getElem? (i := 604) (by rfl), by rfl⟩
set_option maxRecDepth 100000 in
theorem kw_653 : iw (.selects RX5 yX5_queued yX5_queued) := ⟨List.mem_of_getElem? (i := 605) (by rfl), by rfl⟩
set_option maxRecDepth 100000 in
theorem kw_654 : iw (.methodLink RL 83 yX6_queued) := ⟨List.mem_of_getElem? (i := 955) (by rfl), by rfl⟩
set_option maxRecDepth 100000 in
theorem kw_655 : iw (.code yX6_queued cX6_queued 3 (some .int)) := ⟨List.mem_of_getElem? (i := 958) (by rfl), by rfl⟩
set_option maxRecDepth 100000 in
theorem kw_656 : iw (.instanceMethod yX6_queued) := ⟨List.mem_of_getElem? (i := 956) (by rfl), by rfl⟩
set_option maxRecDepth 100000 in
theorem kw_657 : iw (.selects RX6 yX6_queued yX6_queued) := ⟨List.mem_of_getElem? (i := 957) (by rfl), by rfl⟩
set_option maxRecDepth 100000 in
theorem kw_658 : iw (.methodLink RL 84 yX5_under) := ⟨List.mem_of_getElem? (i := 607) (by rfl), by rfl⟩
set_option maxRecDepth 100000 in
theorem kw_659 : iw (.code yX5_under cX5_under 5 (some .int)) := ⟨List.mem_of_getElem? (i := 610) (by rfl), by rfl⟩
set_option maxRecDepth 100000 in
theorem kw_660 : iw (.instanceMethod yX5_under) := ⟨List.mem_of_getElem? (i := 608) (by rfl), by rfl⟩
set_option maxRecDepth 100000 in
theorem kw_661 : iw (.selects RX5 yX5_under yX5_under) := ⟨List.mem_of_getElem? (i := 609) (by rfl), by rfl⟩
set_option maxRecDepth 100000 in
theorem kw_662 : iw (.methodLink RL 87 yX6_under) := ⟨List.mem_of_getElem? (i := 959) (by rfl), by rfl⟩
set_option maxRecDepth 100000 in
theorem kw_663 : iw (.code yX6_under cX6_under 5 (some .int)) := ⟨List.mem_of_getElem? (i := 962) (by rfl), by rfl⟩
set_option maxRecDepth 100000 in
theorem kw_664 : iw (.instanceMethod yX6_under) := ⟨List.mem_of_getElem? (i := 960) (by rfl), by rfl⟩
set_option maxRecDepth 100000 in
theorem kw_665 : iw (.selects RX6 yX6_under yX6_under) := ⟨List.mem_of_getElem? (i := 961) (by rfl), by rfl⟩
set_option maxRecDepth 100000 in
theorem kw_666 : iw (.methodLink RL 88 yX5_waits) := ⟨List.mem_of_getElem? (i := 612) (by rfl), by rfl⟩
set_option maxRecDepth 100000 in
theorem kw_667 : iw (.code yX5_waits cX5_waits 2 (some .int)) := ⟨List.mem_of_getElem? (i := 615) (by rfl), by rfl⟩
set_option maxRecDepth 100000 in
theorem kw_668 : iw (.instanceMethod yX5_waits) := ⟨List.mem_of_getElem? (i := 613) (by rfl), by rfl⟩
set_option maxRecDepth 100000 in
theorem kw_669 : iw (.selects RX5 yX5_waits yX5_waits) := ⟨List.mem_of_getElem? (i := 614) (by rfl), by rfl⟩
set_option maxRecDepth 100000 in
theorem kw_670 : iw (.methodLink RL 91 yX6_waits) := ⟨List.mem_of_getElem? (i := 963) (by rfl), by rfl⟩
set_option maxRecDepth 100000 in
theorem kw_671 : iw (.code yX6_waits cX6_waits 4 (some .int)) := ⟨List.mem_of_getElem? (i := 966) (by rfl), by rfl⟩
set_option maxRecDepth 100000 in
theorem kw_672 : iw (.instanceMethod yX6_waits) := ⟨List.mem_of_getElem? (i := 964) (by rfl), by rfl⟩
set_option maxRecDepth 100000 in
theorem kw_673 : iw (.selects RX6 yX6_waits yX6_waits) := ⟨List.mem_of_getElem? (i := 965) (by rfl), by rfl⟩
set_option maxRecDepth 100000 in
theorem kw_674 : iw (.methodLink RL 92 yX5_got) := ⟨List.mem_of_getElem? (i := 620) (by rfl), by rfl⟩
set_option maxRecDepth 100000 in
theorem kw_675 : iw (.code yX5_got cX5_got 4 (some .int)) := ⟨List.mem_of_getElem? (i := 623) (by rfl), by rfl⟩
set_option maxRecDepth 100000 in
theorem kw_676 : iw (.instanceMethod yX5_got) := ⟨List.mem_of_getElem? (i := 621) (by rfl), by rfl⟩
set_option maxRecDepth 100000 in
theorem kw_677 : iw (.selects RX5 yX5_got yX5_got) := ⟨List.mem_of_getElem? (i := 622) (by rfl), by rfl⟩
set_option maxRecDepth 100000 in
theorem kw_678 : iw (.methodLink RL 95 yX6_got) := ⟨List.mem_of_getElem? (i := 967) (by rfl), by rfl⟩
set_option maxRecDepth 100000 in
theorem kw_679 : iw (.code yX6_got cX6_got 3 (some .int)) := ⟨List.mem_of_getElem? (i := 970) (by rfl), by rfl⟩
set_option maxRecDepth 100000 in
theorem kw_680 : iw (.instanceMethod yX6_got) := ⟨List.mem_of_getElem? (i := 968) (by rfl), by rfl⟩
set_option maxRecDepth 100000 in
theorem kw_681 : iw (.selects RX6 yX6_got yX6_got) := ⟨List.mem_of_getElem? (i := 969) (by rfl), by rfl⟩
set_option maxRecDepth 100000 in
theorem kw_682 : iw (.methodLink RL 96 yX5_frameOf) := ⟨List.mem_of_getElem? (i := 625) (by rfl), by rfl⟩
set_option maxRecDepth 100000 in
theorem kw_683 : iw (.code yX5_frameOf cX5_frameOf 4 (some .int)) := ⟨List.mem_of_getElem? (i := 628) (by rfl), by rfl⟩
set_option maxRecDepth 100000 in
theorem kw_684 : iw (.instanceMethod yX5_frameOf) := ⟨List.mem_of_getElem? (i := 626) (by rfl), by rfl⟩
set_option maxRecDepth 100000 in
theorem kw_685 : iw (.selects RX5 yX5_frameOf yX5_frameOf) := ⟨List.mem_of_getElem? (i := 627) (by rfl), by rfl⟩
set_option maxRecDepth 100000 in
theorem kw_686 : iw (.methodLink RL 99 yX6_frameOf) := ⟨List.mem_of_getElem? (i := 975) (by rfl), by rfl⟩
set_option maxRecDepth 100000 in
theorem kw_687 : iw (.code yX6_frameOf cX6_frameOf 5 (some .int)) := ⟨List.mem_of_getElem? (i := 978) (by rfl), by rfl⟩
set_option maxRecDepth 100000 in
theorem kw_688 : iw (.instanceMethod yX6_frameOf) := ⟨List.mem_of_getElem? (i := 976) (by rfl), by rfl⟩
set_option maxRecDepth 100000 in
theorem kw_689 : iw (.selects RX6 yX6_frameOf yX6_frameOf) := ⟨List.mem_of_getElem? (i := 977) (by rfl), by rfl⟩
set_option maxRecDepth 100000 in
theorem kw_690 : iw (.methodLink RL 100 yX5_credit) := ⟨List.mem_of_getElem? (i := 629) (by rfl), by rfl⟩
set_option maxRecDepth 100000 in
theorem kw_691 : iw (.code yX5_credit cX5_credit 1 (some .int)) := ⟨List.mem_of_getElem? (i := 632) (by rfl), by rfl⟩
set_option maxRecDepth 100000 in
theorem kw_692 : iw (.instanceMethod yX5_credit) := ⟨List.mem_of_getElem? (i := 630) (by rfl), by rfl⟩
set_option maxRecDepth 100000 in
theorem kw_693 : iw (.selects RX5 yX5_credit yX5_credit) := ⟨List.mem_of_getElem? (i := 631) (by rfl), by rfl⟩
set_option maxRecDepth 100000 in
theorem kw_694 : iw (.methodLink RL 103 yX6_credit) := ⟨List.mem_of_getElem? (i := 850) (by rfl), by rfl⟩
set_option maxRecDepth 100000 in
theorem kw_695 : iw (.methodLink RL 104 yX5_skew) := ⟨List.mem_of_getElem? (i := 633) (by rfl), by rfl⟩
set_option maxRecDepth 100000 in
theorem kw_696 : iw (.code yX5_skew cX5_skew 5 (some .int)) := ⟨List.mem_of_getElem? (i := 636) (by rfl), by rfl⟩
set_option maxRecDepth 100000 in
theorem kw_697 : iw (.instanceMethod yX5_skew) := ⟨List.mem_of_getElem? (i := 634) (by rfl), by rfl⟩
set_option maxRecDepth 100000 in
theorem kw_698 : iw (.selects RX5 yX5_skew yX5_skew) := ⟨List.mem_of_getElem? (i := 635) (by rfl), by rfl⟩
set_option maxRecDepth 100000 in
theorem kw_699 : iw (.methodLink RL 107 yX6_skew) := ⟨List.mem_of_getElem? (i := 979) (by rfl), by rfl⟩
set_option maxRecDepth 100000 in
theorem kw_700 : iw (.code yX6_skew cX6_skew 4 (some .int)) := ⟨List.mem_of_getElem? (i := 982) (by rfl), by rfl⟩
set_option maxRecDepth 100000 in
theorem kw_701 : iw (.instanceMethod yX6_skew) := ⟨List.mem_of_getElem? (i := 980) (by rfl), by rfl⟩
set_option maxRecDepth 100000 in
theorem kw_702 : iw (.selects RX6 yX6_skew yX6_skew) := ⟨List.mem_of_getElem? (i := 981) (by rfl), by rfl⟩
set_option maxRecDepth 100000 in
theorem kw_703 : iw (.methodLink RL 108 yX5_witness) := ⟨List.mem_of_getElem? (i := 637) (by rfl), by rfl⟩
set_option maxRecDepth 100000 in
theorem kw_704 : iw (.code yX5_witness cX5_witness 4 (some .int)) := ⟨List.mem_of_getElem? (i := 640) (by rfl), by rfl⟩
set_option maxRecDepth 100000 in
theorem kw_705 : iw (.instanceMethod yX5_witness) := ⟨List.mem_of_getElem? (i := 638) (by rfl), by rfl⟩
set_option maxRecDepth 100000 in
theorem kw_706 : iw (.selects RX5 yX5_witness yX5_witness) := ⟨List.mem_of_getElem? (i := 639) (by rfl), by rfl⟩
set_option maxRecDepth 100000 in
theorem kw_707 : iw (.methodLink RL 111 yX6_witness) := ⟨List.mem_of_getElem? (i := 983) (by rfl), by rfl⟩
set_option maxRecDepth 100000 in
theorem kw_708 : iw (.methodLink RL 112 yX5_check) := ⟨List.mem_of_getElem? (i := 645) (by rfl), by rfl⟩
set_option maxRecDepth 100000 in
theorem kw_709 : iw (.code yX5_check cX5_check 6 (some .boolean)) := ⟨List.mem_of_getElem? (i := 648) (by rfl), by rfl⟩
set_option maxRecDepth 100000 in
theorem kw_710 : iw (.instanceMethod yX5_check) := ⟨List.mem_of_getElem? (i := 646) (by rfl), by rfl⟩
set_option maxRecDepth 100000 in
theorem kw_711 : iw (.selects RX5 yX5_check yX5_check) := ⟨List.mem_of_getElem? (i := 647) (by rfl), by rfl⟩
set_option maxRecDepth 100000 in
theorem kw_712 : iw (.methodLink RL 116 yX6_check) := ⟨List.mem_of_getElem? (i := 987) (by rfl), by rfl⟩
set_option maxRecDepth 100000 in
theorem kw_713 : iw (.code yX6_check cX6_check 5 (some .boolean)) := ⟨List.mem_of_getElem? (i := 990) (by rfl), by rfl⟩
set_option maxRecDepth 100000 in
theorem kw_714 : iw (.instanceMethod yX6_check) := ⟨List.mem_of_getElem? (i := 988) (by rfl), by rfl⟩
set_option maxRecDepth 100000 in
theorem kw_715 : iw (.selects RX6 yX6_check yX6_check) := ⟨List.mem_of_getElem? (i := 989) (by rfl), by rfl⟩
set_option maxRecDepth 100000 in
theorem kw_716 : iw (.methodLink RL 117 yX5_status) := ⟨List.mem_of_getElem? (i := 649) (by rfl), by rfl⟩
set_option maxRecDepth 100000 in
theorem kw_717 : iw (.code yX5_status cX5_status 2 (some .int)) := ⟨List.mem_of_getElem? (i := 652) (by rfl), by rfl⟩
set_option maxRecDepth 100000 in
theorem kw_718 : iw (.instanceMethod yX5_status) := ⟨List.mem_of_getElem? (i := 650) (by rfl), by rfl⟩
set_option maxRecDepth 100000 in
theorem kw_719 : iw (.selects RX5 yX5_status yX5_status) := ⟨List.mem_of_getElem? (i := 651) (by rfl), by rfl⟩
set_option maxRecDepth 100000 in
theorem kw_720 : iw (.methodLink RL 120 yX6_status) := ⟨List.mem_of_getElem? (i := 992) (by rfl), by rfl⟩
set_option maxRecDepth 100000 in
theorem kw_721 : iw (.code yX6_status cX6_status 4 (some .int)) := ⟨List.mem_of_getElem? (i := 995) (by rfl), by rfl⟩
set_option maxRecDepth 100000 in
theorem kw_722 : iw (.instanceMethod yX6_status) := ⟨List.mem_of_getElem? (i := 993) (by rfl), by rfl⟩
set_option maxRecDepth 100000 in
theorem kw_723 : iw (.selects RX6 yX6_status yX6_status) := ⟨List.mem_of_getElem? (i := 994) (by rfl), by rfl⟩
theorem kw_inst (c : Nat) (hc : c < 7) : iw (.instantiable (cnm c) (nfl c)) := by
  match c, hc with
  | 0, _ => exact kw_157
  | 1, _ => exact kw_138
  | 2, _ => exact kw_172
  | 3, _ => exact kw_19
  | 4, _ => exact kw_26
  | 5, _ => exact kw_520
  | 6, _ => exact kw_525
  | n + 7, h => exact absurd h (by omega)
set_option maxRecDepth 100000 in
theorem aw_0 : Cond.arrayOver (.object RX0) ∈ lw_tbl := List.mem_of_getElem? (i := 71) (by rfl)
set_option maxRecDepth 100000 in
theorem aw_1 : Cond.arrayOver (.object RX1) ∈ lw_tbl := List.mem_of_getElem? (i := 69) (by rfl)
set_option maxRecDepth 100000 in
theorem aw_2 : Cond.arrayOver (.object RX2) ∈ lw_tbl := List.mem_of_getElem? (i := 73) (by rfl)
set_option maxRecDepth 100000 in
theorem aw_c : Cond.castable "[B" "java/lang/Cloneable" ∈ lw_tbl := List.mem_of_getElem? (i := 297) (by rfl)
